/-! The class's parser (by program). -/
theorem dX4_isBlank_0 : decode cX4_isBlank 0 = .ok (.iload_n 0, 1) := by decide +kernel
theorem dX4_isBlank_1 : decode cX4_isBlank 1 = .ok (.bipush 32, 2) := by decide +kernel
theorem dX4_isBlank_3 : decode cX4_isBlank 3 = .ok (.if_icmp .eq 9, 3) := by decide +kernel
theorem dX4_isBlank_6 : decode cX4_isBlank 6 = .ok (.iload_n 0, 1) := by decide +kernel
theorem dX4_isBlank_7 : decode cX4_isBlank 7 = .ok (.bipush 10, 2) := by decide +kernel
theorem dX4_isBlank_9 : decode cX4_isBlank 9 = .ok (.if_icmp .ne 7, 3) := by decide +kernel
theorem dX4_isBlank_12 : decode cX4_isBlank 12 = .ok (.iconst 1, 1) := by decide +kernel
theorem dX4_isBlank_13 : decode cX4_isBlank 13 = .ok (.goto 4, 3) := by decide +kernel
theorem dX4_isBlank_16 : decode cX4_isBlank 16 = .ok (.iconst 0, 1) := by decide +kernel
theorem dX4_isBlank_17 : decode cX4_isBlank 17 = .ok (.ireturn, 1) := by decide +kernel
def fX4_isBlank (z1 : Int32) : Int32 := (if z1 = 32 then 1 else (if z1 = 10 then 1 else 0))
set_option maxRecDepth 20000 in
theorem ctX4_isBlank {l : Launch} {G : GM} {h : List va_E} (z1 : Int32) : Ct l G mX4_isBlank 0 0 0 [.int z1] h (fun v h1 => v = some (.int (fX4_isBlank z1)) ∧ h1 = h) := by
  show Tr l G mX4_isBlank 0 0 0 0 [(0, .int z1)] [] h _
  refine am_iload_n dX4_isBlank_0 0 rfl ?_
  refine am_bipush (v := 32) dX4_isBlank_1 (by decide) ?_
  refine am_icmp_eq dX4_isBlank_3 (by decide : ((3 : Nat) : Int) + (9) = ((12 : Nat) : Int)) (fun c1 => ?_) (fun c1 => ?_)
  · refine am_iconst (v := 1) dX4_isBlank_12 (by decide) ?_
    refine am_goto dX4_isBlank_13 (by decide : ((13 : Nat) : Int) + (4) = ((17 : Nat) : Int)) ?_
    rw [show (fX4_isBlank z1) = 1 from Eq.trans (if_pos c1) (rfl)]
    exact am_ireturn dX4_isBlank_17 rfl rfl ⟨rfl, rfl⟩
  · refine am_iload_n dX4_isBlank_6 0 rfl ?_
    refine am_bipush (v := 10) dX4_isBlank_7 (by decide) ?_
    refine am_icmp_ne dX4_isBlank_9 (by decide : ((9 : Nat) : Int) + (7) = ((16 : Nat) : Int)) (fun c2 => ?_) (fun c2 => ?_)
    · refine am_iconst (v := 0) dX4_isBlank_16 (by decide) ?_
      rw [show (fX4_isBlank z1) = 0 from Eq.trans (if_neg c1) (Eq.trans (if_neg c2) (rfl))]
      exact am_ireturn dX4_isBlank_17 rfl rfl ⟨rfl, rfl⟩
    · refine am_iconst (v := 1) dX4_isBlank_12 (by decide) ?_
      refine am_goto dX4_isBlank_13 (by decide : ((13 : Nat) : Int) + (4) = ((17 : Nat) : Int)) ?_
      rw [show (fX4_isBlank z1) = 1 from Eq.trans (if_neg c1) (Eq.trans (if_pos c2) (rfl))]
      exact am_ireturn dX4_isBlank_17 rfl rfl ⟨rfl, rfl⟩

theorem dX4_isDigit_0 : decode cX4_isDigit 0 = .ok (.iload_n 0, 1) := by decide +kernel
theorem dX4_isDigit_1 : decode cX4_isDigit 1 = .ok (.bipush 48, 2) := by decide +kernel
theorem dX4_isDigit_3 : decode cX4_isDigit 3 = .ok (.if_icmp .lt 13, 3) := by decide +kernel
theorem dX4_isDigit_6 : decode cX4_isDigit 6 = .ok (.iload_n 0, 1) := by decide +kernel
theorem dX4_isDigit_7 : decode cX4_isDigit 7 = .ok (.bipush 57, 2) := by decide +kernel
theorem dX4_isDigit_9 : decode cX4_isDigit 9 = .ok (.if_icmp .gt 7, 3) := by decide +kernel
theorem dX4_isDigit_12 : decode cX4_isDigit 12 = .ok (.iconst 1, 1) := by decide +kernel
theorem dX4_isDigit_13 : decode cX4_isDigit 13 = .ok (.goto 4, 3) := by decide +kernel
theorem dX4_isDigit_16 : decode cX4_isDigit 16 = .ok (.iconst 0, 1) := by decide +kernel
theorem dX4_isDigit_17 : decode cX4_isDigit 17 = .ok (.ireturn, 1) := by decide +kernel
def fX4_isDigit (z1 : Int32) : Int32 := (if z1 < 48 then 0 else (if 57 < z1 then 0 else 1))
set_option maxRecDepth 20000 in
theorem ctX4_isDigit {l : Launch} {G : GM} {h : List va_E} (z1 : Int32) : Ct l G mX4_isDigit 0 0 0 [.int z1] h (fun v h1 => v = some (.int (fX4_isDigit z1)) ∧ h1 = h) := by
  show Tr l G mX4_isDigit 0 0 0 0 [(0, .int z1)] [] h _
  refine am_iload_n dX4_isDigit_0 0 rfl ?_
  refine am_bipush (v := 48) dX4_isDigit_1 (by decide) ?_
  refine am_icmp_lt dX4_isDigit_3 (by decide : ((3 : Nat) : Int) + (13) = ((16 : Nat) : Int)) (fun c1 => ?_) (fun c1 => ?_)
  · refine am_iconst (v := 0) dX4_isDigit_16 (by decide) ?_
    rw [show (fX4_isDigit z1) = 0 from Eq.trans (if_pos c1) (rfl)]
    exact am_ireturn dX4_isDigit_17 rfl rfl ⟨rfl, rfl⟩
  · refine am_iload_n dX4_isDigit_6 0 rfl ?_
    refine am_bipush (v := 57) dX4_isDigit_7 (by decide) ?_
    refine am_icmp_gt dX4_isDigit_9 (by decide : ((9 : Nat) : Int) + (7) = ((16 : Nat) : Int)) (fun c2 => ?_) (fun c2 => ?_)
    · refine am_iconst (v := 0) dX4_isDigit_16 (by decide) ?_
      rw [show (fX4_isDigit z1) = 0 from Eq.trans (if_neg c1) (Eq.trans (if_pos c2) (rfl))]
      exact am_ireturn dX4_isDigit_17 rfl rfl ⟨rfl, rfl⟩
    · refine am_iconst (v := 1) dX4_isDigit_12 (by decide) ?_
      refine am_goto dX4_isDigit_13 (by decide : ((13 : Nat) : Int) + (4) = ((17 : Nat) : Int)) ?_
      rw [show (fX4_isDigit z1) = 1 from Eq.trans (if_neg c1) (Eq.trans (if_neg c2) (rfl))]
      exact am_ireturn dX4_isDigit_17 rfl rfl ⟨rfl, rfl⟩

theorem dX4_advance_0 : decode cX4_advance 0 = .ok (.aload_n 0, 1) := by decide +kernel
theorem dX4_advance_1 : decode cX4_advance 1 = .ok (.getfield 45, 3) := by decide +kernel
theorem dX4_advance_4 : decode cX4_advance 4 = .ok (.aload_n 0, 1) := by decide +kernel
theorem dX4_advance_5 : decode cX4_advance 5 = .ok (.getfield 42, 3) := by decide +kernel
theorem dX4_advance_8 : decode cX4_advance 8 = .ok (.if_icmp .ge 33, 3) := by decide +kernel
theorem dX4_advance_11 : decode cX4_advance 11 = .ok (.aload_n 0, 1) := by decide +kernel
theorem dX4_advance_12 : decode cX4_advance 12 = .ok (.getfield 9, 3) := by decide +kernel
theorem dX4_advance_15 : decode cX4_advance 15 = .ok (.aload_n 0, 1) := by decide +kernel
theorem dX4_advance_16 : decode cX4_advance 16 = .ok (.getfield 45, 3) := by decide +kernel
theorem dX4_advance_19 : decode cX4_advance 19 = .ok (.invokestatic 200, 3) := by decide +kernel
theorem dX4_advance_22 : decode cX4_advance 22 = .ok (.invokestatic 230, 3) := by decide +kernel
theorem dX4_advance_25 : decode cX4_advance 25 = .ok (.ifCond .eq 16, 3) := by decide +kernel
theorem dX4_advance_28 : decode cX4_advance 28 = .ok (.aload_n 0, 1) := by decide +kernel
theorem dX4_advance_29 : decode cX4_advance 29 = .ok (.dup, 1) := by decide +kernel
theorem dX4_advance_30 : decode cX4_advance 30 = .ok (.getfield 45, 3) := by decide +kernel
theorem dX4_advance_33 : decode cX4_advance 33 = .ok (.iconst 1, 1) := by decide +kernel
theorem dX4_advance_34 : decode cX4_advance 34 = .ok (.iadd, 1) := by decide +kernel
theorem dX4_advance_35 : decode cX4_advance 35 = .ok (.putfield 45, 3) := by decide +kernel
theorem dX4_advance_38 : decode cX4_advance 38 = .ok (.goto (-38), 3) := by decide +kernel
theorem dX4_advance_41 : decode cX4_advance 41 = .ok (.aload_n 0, 1) := by decide +kernel
theorem dX4_advance_42 : decode cX4_advance 42 = .ok (.aload_n 0, 1) := by decide +kernel
theorem dX4_advance_43 : decode cX4_advance 43 = .ok (.getfield 45, 3) := by decide +kernel
theorem dX4_advance_46 : decode cX4_advance 46 = .ok (.putfield 197, 3) := by decide +kernel
theorem dX4_advance_49 : decode cX4_advance 49 = .ok (.aload_n 0, 1) := by decide +kernel
theorem dX4_advance_50 : decode cX4_advance 50 = .ok (.iconst 0, 1) := by decide +kernel
theorem dX4_advance_51 : decode cX4_advance 51 = .ok (.putfield 190, 3) := by decide +kernel
theorem dX4_advance_54 : decode cX4_advance 54 = .ok (.aload_n 0, 1) := by decide +kernel
theorem dX4_advance_55 : decode cX4_advance 55 = .ok (.getfield 45, 3) := by decide +kernel
theorem dX4_advance_58 : decode cX4_advance 58 = .ok (.aload_n 0, 1) := by decide +kernel
theorem dX4_advance_59 : decode cX4_advance 59 = .ok (.getfield 42, 3) := by decide +kernel
theorem dX4_advance_62 : decode cX4_advance 62 = .ok (.if_icmp .lt 11, 3) := by decide +kernel
theorem dX4_advance_65 : decode cX4_advance 65 = .ok (.aload_n 0, 1) := by decide +kernel
theorem dX4_advance_66 : decode cX4_advance 66 = .ok (.iconst 0, 1) := by decide +kernel
theorem dX4_advance_67 : decode cX4_advance 67 = .ok (.putfield 51, 3) := by decide +kernel
theorem dX4_advance_70 : decode cX4_advance 70 = .ok (.goto 175, 3) := by decide +kernel
theorem dX4_advance_73 : decode cX4_advance 73 = .ok (.aload_n 0, 1) := by decide +kernel
theorem dX4_advance_74 : decode cX4_advance 74 = .ok (.getfield 9, 3) := by decide +kernel
theorem dX4_advance_77 : decode cX4_advance 77 = .ok (.aload_n 0, 1) := by decide +kernel
theorem dX4_advance_78 : decode cX4_advance 78 = .ok (.getfield 45, 3) := by decide +kernel
theorem dX4_advance_81 : decode cX4_advance 81 = .ok (.invokestatic 200, 3) := by decide +kernel
theorem dX4_advance_84 : decode cX4_advance 84 = .ok (.invokestatic 234, 3) := by decide +kernel
theorem dX4_advance_87 : decode cX4_advance 87 = .ok (.ifCond .eq 49, 3) := by decide +kernel
theorem dX4_advance_90 : decode cX4_advance 90 = .ok (.aload_n 0, 1) := by decide +kernel
theorem dX4_advance_91 : decode cX4_advance 91 = .ok (.iconst 1, 1) := by decide +kernel
theorem dX4_advance_92 : decode cX4_advance 92 = .ok (.putfield 51, 3) := by decide +kernel
theorem dX4_advance_95 : decode cX4_advance 95 = .ok (.aload_n 0, 1) := by decide +kernel
theorem dX4_advance_96 : decode cX4_advance 96 = .ok (.getfield 45, 3) := by decide +kernel
theorem dX4_advance_99 : decode cX4_advance 99 = .ok (.aload_n 0, 1) := by decide +kernel
theorem dX4_advance_100 : decode cX4_advance 100 = .ok (.getfield 42, 3) := by decide +kernel
theorem dX4_advance_103 : decode cX4_advance 103 = .ok (.if_icmp .ge 142, 3) := by decide +kernel
theorem dX4_advance_106 : decode cX4_advance 106 = .ok (.aload_n 0, 1) := by decide +kernel
theorem dX4_advance_107 : decode cX4_advance 107 = .ok (.getfield 9, 3) := by decide +kernel
theorem dX4_advance_110 : decode cX4_advance 110 = .ok (.aload_n 0, 1) := by decide +kernel
theorem dX4_advance_111 : decode cX4_advance 111 = .ok (.getfield 45, 3) := by decide +kernel
theorem dX4_advance_114 : decode cX4_advance 114 = .ok (.invokestatic 200, 3) := by decide +kernel
theorem dX4_advance_117 : decode cX4_advance 117 = .ok (.invokestatic 234, 3) := by decide +kernel
theorem dX4_advance_120 : decode cX4_advance 120 = .ok (.ifCond .eq 125, 3) := by decide +kernel
theorem dX4_advance_123 : decode cX4_advance 123 = .ok (.aload_n 0, 1) := by decide +kernel
theorem dX4_advance_124 : decode cX4_advance 124 = .ok (.dup, 1) := by decide +kernel
theorem dX4_advance_125 : decode cX4_advance 125 = .ok (.getfield 45, 3) := by decide +kernel
theorem dX4_advance_128 : decode cX4_advance 128 = .ok (.iconst 1, 1) := by decide +kernel
theorem dX4_advance_129 : decode cX4_advance 129 = .ok (.iadd, 1) := by decide +kernel
theorem dX4_advance_130 : decode cX4_advance 130 = .ok (.putfield 45, 3) := by decide +kernel
theorem dX4_advance_133 : decode cX4_advance 133 = .ok (.goto (-38), 3) := by decide +kernel
theorem dX4_advance_136 : decode cX4_advance 136 = .ok (.aload_n 0, 1) := by decide +kernel
theorem dX4_advance_137 : decode cX4_advance 137 = .ok (.getfield 9, 3) := by decide +kernel
theorem dX4_advance_140 : decode cX4_advance 140 = .ok (.aload_n 0, 1) := by decide +kernel
theorem dX4_advance_141 : decode cX4_advance 141 = .ok (.getfield 45, 3) := by decide +kernel
theorem dX4_advance_144 : decode cX4_advance 144 = .ok (.invokestatic 200, 3) := by decide +kernel
theorem dX4_advance_147 : decode cX4_advance 147 = .ok (.invokestatic 237, 3) := by decide +kernel
theorem dX4_advance_150 : decode cX4_advance 150 = .ok (.ifCond .eq 80, 3) := by decide +kernel
theorem dX4_advance_153 : decode cX4_advance 153 = .ok (.aload_n 0, 1) := by decide +kernel
theorem dX4_advance_154 : decode cX4_advance 154 = .ok (.iconst 2, 1) := by decide +kernel
theorem dX4_advance_155 : decode cX4_advance 155 = .ok (.putfield 51, 3) := by decide +kernel
theorem dX4_advance_158 : decode cX4_advance 158 = .ok (.aload_n 0, 1) := by decide +kernel
theorem dX4_advance_159 : decode cX4_advance 159 = .ok (.getfield 45, 3) := by decide +kernel
theorem dX4_advance_162 : decode cX4_advance 162 = .ok (.aload_n 0, 1) := by decide +kernel
theorem dX4_advance_163 : decode cX4_advance 163 = .ok (.getfield 42, 3) := by decide +kernel
theorem dX4_advance_166 : decode cX4_advance 166 = .ok (.if_icmp .ge 79, 3) := by decide +kernel
theorem dX4_advance_169 : decode cX4_advance 169 = .ok (.aload_n 0, 1) := by decide +kernel
theorem dX4_advance_170 : decode cX4_advance 170 = .ok (.getfield 9, 3) := by decide +kernel
theorem dX4_advance_173 : decode cX4_advance 173 = .ok (.aload_n 0, 1) := by decide +kernel
theorem dX4_advance_174 : decode cX4_advance 174 = .ok (.getfield 45, 3) := by decide +kernel
theorem dX4_advance_177 : decode cX4_advance 177 = .ok (.invokestatic 200, 3) := by decide +kernel
theorem dX4_advance_180 : decode cX4_advance 180 = .ok (.invokestatic 237, 3) := by decide +kernel
theorem dX4_advance_183 : decode cX4_advance 183 = .ok (.ifCond .eq 62, 3) := by decide +kernel
theorem dX4_advance_186 : decode cX4_advance 186 = .ok (.aload_n 0, 1) := by decide +kernel
theorem dX4_advance_187 : decode cX4_advance 187 = .ok (.aload_n 0, 1) := by decide +kernel
theorem dX4_advance_188 : decode cX4_advance 188 = .ok (.getfield 190, 3) := by decide +kernel
theorem dX4_advance_191 : decode cX4_advance 191 = .ok (.bipush 10, 2) := by decide +kernel
theorem dX4_advance_193 : decode cX4_advance 193 = .ok (.imul, 1) := by decide +kernel
theorem dX4_advance_194 : decode cX4_advance 194 = .ok (.aload_n 0, 1) := by decide +kernel
theorem dX4_advance_195 : decode cX4_advance 195 = .ok (.getfield 9, 3) := by decide +kernel
theorem dX4_advance_198 : decode cX4_advance 198 = .ok (.aload_n 0, 1) := by decide +kernel
theorem dX4_advance_199 : decode cX4_advance 199 = .ok (.getfield 45, 3) := by decide +kernel
theorem dX4_advance_202 : decode cX4_advance 202 = .ok (.invokestatic 200, 3) := by decide +kernel
theorem dX4_advance_205 : decode cX4_advance 205 = .ok (.iadd, 1) := by decide +kernel
theorem dX4_advance_206 : decode cX4_advance 206 = .ok (.bipush 48, 2) := by decide +kernel
theorem dX4_advance_208 : decode cX4_advance 208 = .ok (.isub, 1) := by decide +kernel
theorem dX4_advance_209 : decode cX4_advance 209 = .ok (.ldc 240, 2) := by decide +kernel
theorem dX4_advance_211 : decode cX4_advance 211 = .ok (.invokestatic 241, 3) := by decide +kernel
theorem dX4_advance_214 : decode cX4_advance 214 = .ok (.putfield 190, 3) := by decide +kernel
theorem dX4_advance_217 : decode cX4_advance 217 = .ok (.aload_n 0, 1) := by decide +kernel
theorem dX4_advance_218 : decode cX4_advance 218 = .ok (.dup, 1) := by decide +kernel
theorem dX4_advance_219 : decode cX4_advance 219 = .ok (.getfield 45, 3) := by decide +kernel
theorem dX4_advance_222 : decode cX4_advance 222 = .ok (.iconst 1, 1) := by decide +kernel
theorem dX4_advance_223 : decode cX4_advance 223 = .ok (.iadd, 1) := by decide +kernel
theorem dX4_advance_224 : decode cX4_advance 224 = .ok (.putfield 45, 3) := by decide +kernel
theorem dX4_advance_227 : decode cX4_advance 227 = .ok (.goto (-69), 3) := by decide +kernel
theorem dX4_advance_230 : decode cX4_advance 230 = .ok (.aload_n 0, 1) := by decide +kernel
theorem dX4_advance_231 : decode cX4_advance 231 = .ok (.iconst 3, 1) := by decide +kernel
theorem dX4_advance_232 : decode cX4_advance 232 = .ok (.putfield 51, 3) := by decide +kernel
theorem dX4_advance_235 : decode cX4_advance 235 = .ok (.aload_n 0, 1) := by decide +kernel
theorem dX4_advance_236 : decode cX4_advance 236 = .ok (.dup, 1) := by decide +kernel
theorem dX4_advance_237 : decode cX4_advance 237 = .ok (.getfield 45, 3) := by decide +kernel
theorem dX4_advance_240 : decode cX4_advance 240 = .ok (.iconst 1, 1) := by decide +kernel
theorem dX4_advance_241 : decode cX4_advance 241 = .ok (.iadd, 1) := by decide +kernel
theorem dX4_advance_242 : decode cX4_advance 242 = .ok (.putfield 45, 3) := by decide +kernel
theorem dX4_advance_245 : decode cX4_advance 245 = .ok (.return_, 1) := by decide +kernel
def fX4_advance_0   : Nat → Wd → Wd
  | 0, y => y
  | fu + 1, y => (if (y.1 3) ≤ (y.1 6) then y else (if (fX4_isBlank (fX6_at 1200 (y.2.1 0) (y.1 6))) = 0 then y else (fX4_advance_0    fu  (wS y 6 ((y.1 6) + 1)))))
set_option maxRecDepth 20000 in
theorem wX4_advance_0 {l : Launch} {G : GM} {K : Nat → Option va_E}    {Q : Option Value → List va_E → Prop} : ∀ (fu : Nat)  (y : Wd) (iv : ivU 2147483647 (y.1 6) fu) {h : List va_E} (gy : HW G K h y) (kx : ∀ (h1 : List va_E) (r : Wd), (fX4_advance_0    fu  y) = r → HW G K h1 r → Tr l G mX4_advance 1 0 0 41 [(0, .ref (gz G + 1))] [] h1 Q), Tr l G mX4_advance 1 0 0 0 [(0, .ref (gz G + 1))] [] h Q := by
  intro fu
  induction fu with
  | zero => intro  y iv; intros; exact absurd iv ivU_0
  | succ fu ih =>
    intro  y iv   h gy  kx
    refine am_aload_n dX4_advance_0 0 rfl ?_
    refine am_get (v := .int (y.1 6)) dX4_advance_1 kGX4_45 (hwc1 (w := y) gy) rfl ?_
    refine am_aload_n dX4_advance_4 0 rfl ?_
    refine am_get (v := .int (y.1 3)) dX4_advance_5 kGX4_42 (hwc1 (w := y) gy) rfl ?_
    refine am_icmp_ge dX4_advance_8 (by decide : ((8 : Nat) : Int) + (33) = ((41 : Nat) : Int)) (fun c1 => ?_) (fun c1 => ?_)
    · exact kx _ _ (Eq.trans (if_pos c1) (rfl)) gy 
    · refine am_aload_n dX4_advance_11 0 rfl ?_
      refine am_get (v := .ref (gz G + 2)) dX4_advance_12 kGX4_9 (hwc1 (w := y) gy) rfl ?_
      refine am_aload_n dX4_advance_15 0 rfl ?_
      refine am_get (v := .int (y.1 6)) dX4_advance_16 kGX4_45 (hwc1 (w := y) gy) rfl ?_
      refine am_callSN (As := [.ref (gz G + 2), .int (y.1 6)]) (rest := []) dX4_advance_19 kMX4_200 rfl  rfl (Nat.le_of_ble_eq_true rfl) (d2 := 0) (by decide) (k2 := 0) (Nat.zero_le _) (u2 := 0) (Nat.zero_le _) (Nat.le_of_ble_eq_true rfl) (ctX6_at (f := (y.2.1 0)) (hwc2 (w := y) gy) (by decide) (y.1 6) ) (fun v2 h3 q4 => ?_)
      obtain ⟨rfl, rfl⟩ := q4
      refine am_callS (As := [.int (fX6_at 1200 (y.2.1 0) (y.1 6))]) (rest := []) dX4_advance_22 kMX4_230 rfl  rfl (Nat.le_of_ble_eq_true rfl) (d2 := 0) (by decide) (k2 := 0) (Nat.zero_le _) (u2 := 0) (Nat.zero_le _) (Nat.le_of_ble_eq_true rfl) (ctX4_isBlank  (fX6_at 1200 (y.2.1 0) (y.1 6)) ) (fun v5 h6 q7 => ?_)
      obtain ⟨rfl, rfl⟩ := q7
      refine am_if_eq dX4_advance_25 (by decide : ((25 : Nat) : Int) + (16) = ((41 : Nat) : Int)) (fun c8 => ?_) (fun c8 => ?_)
      · exact kx _ _ (Eq.trans (if_neg c1) (Eq.trans (if_pos c8) (rfl))) gy 
      · refine am_aload_n dX4_advance_28 0 rfl ?_
        refine am_dup dX4_advance_29 rfl ?_
        refine am_get (v := .int (y.1 6)) dX4_advance_30 kGX4_45 (hwc1 (w := y) gy) rfl ?_
        refine am_iconst (v := 1) dX4_advance_33 (by decide) ?_
        refine am_iadd dX4_advance_34 ?_
        refine am_put dX4_advance_35 kFX4_45 (hwc1 (w := y) gy) (Nat.le_of_ble_eq_true rfl) rfl rfl ?_
        have w9 := hwS6 gy ((y.1 6) + 1)
        refine am_goto dX4_advance_38 (by decide : ((38 : Nat) : Int) + (-38) = ((0 : Nat) : Int)) ?_
        exact ih  (wS y 6 ((y.1 6) + 1)) (ivU_s (iv_top c1) iv) w9  (fun h1 r e => kx h1 r (Eq.trans (Eq.trans (if_neg c1) (Eq.trans (if_neg c8) (rfl))) e))
def fX4_advance_158   : Nat → Wd → Wd
  | 0, y => y
  | fu + 1, y => (if (y.1 3) ≤ (y.1 6) then y else (if (fX4_isDigit (fX6_at 1200 (y.2.1 0) (y.1 6))) = 0 then y else (fX4_advance_158    fu  (wS (wS y 7 (imn ((((y.1 7) * 10) + (fX6_at 1200 (y.2.1 0) (y.1 6))) - 48) 100000)) 6 ((y.1 6) + 1)))))
set_option maxRecDepth 20000 in
theorem wX4_advance_158 {l : Launch} {G : GM} {K : Nat → Option va_E}    {Q : Option Value → List va_E → Prop} : ∀ (fu : Nat)  (y : Wd) (iv : ivU 2147483647 (y.1 6) fu) {h : List va_E} (gy : HW G K h y) (kx : ∀ (h1 : List va_E) (r : Wd), (fX4_advance_158    fu  y) = r → HW G K h1 r → Tr l G mX4_advance 1 0 0 245 [(0, .ref (gz G + 1))] [] h1 Q), Tr l G mX4_advance 1 0 0 158 [(0, .ref (gz G + 1))] [] h Q := by
  intro fu
  induction fu with
  | zero => intro  y iv; intros; exact absurd iv ivU_0
  | succ fu ih =>
    intro  y iv   h gy  kx
    refine am_aload_n dX4_advance_158 0 rfl ?_
    refine am_get (v := .int (y.1 6)) dX4_advance_159 kGX4_45 (hwc1 (w := y) gy) rfl ?_
    refine am_aload_n dX4_advance_162 0 rfl ?_
    refine am_get (v := .int (y.1 3)) dX4_advance_163 kGX4_42 (hwc1 (w := y) gy) rfl ?_
    refine am_icmp_ge dX4_advance_166 (by decide : ((166 : Nat) : Int) + (79) = ((245 : Nat) : Int)) (fun c34 => ?_) (fun c34 => ?_)
    · exact kx _ _ (Eq.trans (if_pos c34) (rfl)) gy 
    · refine am_aload_n dX4_advance_169 0 rfl ?_
      refine am_get (v := .ref (gz G + 2)) dX4_advance_170 kGX4_9 (hwc1 (w := y) gy) rfl ?_
      refine am_aload_n dX4_advance_173 0 rfl ?_
      refine am_get (v := .int (y.1 6)) dX4_advance_174 kGX4_45 (hwc1 (w := y) gy) rfl ?_
      refine am_callSN (As := [.ref (gz G + 2), .int (y.1 6)]) (rest := []) dX4_advance_177 kMX4_200 rfl  rfl (Nat.le_of_ble_eq_true rfl) (d2 := 0) (by decide) (k2 := 0) (Nat.zero_le _) (u2 := 0) (Nat.zero_le _) (Nat.le_of_ble_eq_true rfl) (ctX6_at (f := (y.2.1 0)) (hwc2 (w := y) gy) (by decide) (y.1 6) ) (fun v35 h36 q37 => ?_)
      obtain ⟨rfl, rfl⟩ := q37
      refine am_callS (As := [.int (fX6_at 1200 (y.2.1 0) (y.1 6))]) (rest := []) dX4_advance_180 kMX4_237 rfl  rfl (Nat.le_of_ble_eq_true rfl) (d2 := 0) (by decide) (k2 := 0) (Nat.zero_le _) (u2 := 0) (Nat.zero_le _) (Nat.le_of_ble_eq_true rfl) (ctX4_isDigit  (fX6_at 1200 (y.2.1 0) (y.1 6)) ) (fun v38 h39 q40 => ?_)
      obtain ⟨rfl, rfl⟩ := q40
      refine am_if_eq dX4_advance_183 (by decide : ((183 : Nat) : Int) + (62) = ((245 : Nat) : Int)) (fun c41 => ?_) (fun c41 => ?_)
      · exact kx _ _ (Eq.trans (if_neg c34) (Eq.trans (if_pos c41) (rfl))) gy 
      · refine am_aload_n dX4_advance_186 0 rfl ?_
        refine am_aload_n dX4_advance_187 0 rfl ?_
        refine am_get (v := .int (y.1 7)) dX4_advance_188 kGX4_190 (hwc1 (w := y) gy) rfl ?_
        refine am_bipush (v := 10) dX4_advance_191 (by decide) ?_
        refine am_imul dX4_advance_193 ?_
        refine am_aload_n dX4_advance_194 0 rfl ?_
        refine am_get (v := .ref (gz G + 2)) dX4_advance_195 kGX4_9 (hwc1 (w := y) gy) rfl ?_
        refine am_aload_n dX4_advance_198 0 rfl ?_
        refine am_get (v := .int (y.1 6)) dX4_advance_199 kGX4_45 (hwc1 (w := y) gy) rfl ?_
        refine am_callSN (As := [.ref (gz G + 2), .int (y.1 6)]) (rest := [.int ((y.1 7) * 10), .ref (gz G + 1)]) dX4_advance_202 kMX4_200 rfl  rfl (Nat.le_of_ble_eq_true rfl) (d2 := 0) (by decide) (k2 := 0) (Nat.zero_le _) (u2 := 0) (Nat.zero_le _) (Nat.le_of_ble_eq_true rfl) (ctX6_at (f := (y.2.1 0)) (hwc2 (w := y) gy) (by decide) (y.1 6) ) (fun v42 h43 q44 => ?_)
        obtain ⟨rfl, rfl⟩ := q44
        refine am_iadd dX4_advance_205 ?_
        refine am_bipush (v := 48) dX4_advance_206 (by decide) ?_
        refine am_isub dX4_advance_208 ?_
        refine am_ldc (v := 100000) dX4_advance_209 kKX4_240 ?_
        refine am_mmin dX4_advance_211 kXX4_241 (Nat.le_of_ble_eq_true rfl) (by decide) ?_
        refine am_put dX4_advance_214 kFX4_190 (hwc1 (w := y) gy) (Nat.le_of_ble_eq_true rfl) rfl rfl ?_
        have w45 := hwS7 gy (imn ((((y.1 7) * 10) + (fX6_at 1200 (y.2.1 0) (y.1 6))) - 48) 100000)
        refine am_aload_n dX4_advance_217 0 rfl ?_
        refine am_dup dX4_advance_218 rfl ?_
        refine am_get (v := .int (y.1 6)) dX4_advance_219 kGX4_45 (hwc1 (w := (wS y 7 (imn ((((y.1 7) * 10) + (fX6_at 1200 (y.2.1 0) (y.1 6))) - 48) 100000))) w45) rfl ?_
        refine am_iconst (v := 1) dX4_advance_222 (by decide) ?_
        refine am_iadd dX4_advance_223 ?_
        refine am_put dX4_advance_224 kFX4_45 (hwc1 (w := (wS y 7 (imn ((((y.1 7) * 10) + (fX6_at 1200 (y.2.1 0) (y.1 6))) - 48) 100000))) w45) (Nat.le_of_ble_eq_true rfl) rfl rfl ?_
        have w46 := hwS6 w45 ((y.1 6) + 1)
        refine am_goto dX4_advance_227 (by decide : ((227 : Nat) : Int) + (-69) = ((158 : Nat) : Int)) ?_
        exact ih  (wS (wS y 7 (imn ((((y.1 7) * 10) + (fX6_at 1200 (y.2.1 0) (y.1 6))) - 48) 100000)) 6 ((y.1 6) + 1)) (ivU_s (iv_top c34) iv) w46  (fun h1 r e => kx h1 r (Eq.trans (Eq.trans (if_neg c34) (Eq.trans (if_neg c41) (rfl))) e))
def fX4_advance_95   : Nat → Wd → Wd
  | 0, y => y
  | fu + 1, y => (if (y.1 3) ≤ (y.1 6) then y else (if (fX6_isLetter (fX6_at 1200 (y.2.1 0) (y.1 6))) = 0 then y else (fX4_advance_95    fu  (wS y 6 ((y.1 6) + 1)))))
set_option maxRecDepth 20000 in
theorem wX4_advance_95 {l : Launch} {G : GM} {K : Nat → Option va_E}    {Q : Option Value → List va_E → Prop} : ∀ (fu : Nat)  (y : Wd) (iv : ivU 2147483647 (y.1 6) fu) {h : List va_E} (gy : HW G K h y) (kx : ∀ (h1 : List va_E) (r : Wd), (fX4_advance_95    fu  y) = r → HW G K h1 r → Tr l G mX4_advance 1 0 0 245 [(0, .ref (gz G + 1))] [] h1 Q), Tr l G mX4_advance 1 0 0 95 [(0, .ref (gz G + 1))] [] h Q := by
  intro fu
  induction fu with
  | zero => intro  y iv; intros; exact absurd iv ivU_0
  | succ fu ih =>
    intro  y iv   h gy  kx
    refine am_aload_n dX4_advance_95 0 rfl ?_
    refine am_get (v := .int (y.1 6)) dX4_advance_96 kGX4_45 (hwc1 (w := y) gy) rfl ?_
    refine am_aload_n dX4_advance_99 0 rfl ?_
    refine am_get (v := .int (y.1 3)) dX4_advance_100 kGX4_42 (hwc1 (w := y) gy) rfl ?_
    refine am_icmp_ge dX4_advance_103 (by decide : ((103 : Nat) : Int) + (142) = ((245 : Nat) : Int)) (fun c52 => ?_) (fun c52 => ?_)
    · exact kx _ _ (Eq.trans (if_pos c52) (rfl)) gy 
    · refine am_aload_n dX4_advance_106 0 rfl ?_
      refine am_get (v := .ref (gz G + 2)) dX4_advance_107 kGX4_9 (hwc1 (w := y) gy) rfl ?_
      refine am_aload_n dX4_advance_110 0 rfl ?_
      refine am_get (v := .int (y.1 6)) dX4_advance_111 kGX4_45 (hwc1 (w := y) gy) rfl ?_
      refine am_callSN (As := [.ref (gz G + 2), .int (y.1 6)]) (rest := []) dX4_advance_114 kMX4_200 rfl  rfl (Nat.le_of_ble_eq_true rfl) (d2 := 0) (by decide) (k2 := 0) (Nat.zero_le _) (u2 := 0) (Nat.zero_le _) (Nat.le_of_ble_eq_true rfl) (ctX6_at (f := (y.2.1 0)) (hwc2 (w := y) gy) (by decide) (y.1 6) ) (fun v53 h54 q55 => ?_)
      obtain ⟨rfl, rfl⟩ := q55
      refine am_callSN (As := [.int (fX6_at 1200 (y.2.1 0) (y.1 6))]) (rest := []) dX4_advance_117 kMX4_234 rfl  rfl (Nat.le_of_ble_eq_true rfl) (d2 := 0) (by decide) (k2 := 0) (Nat.zero_le _) (u2 := 0) (Nat.zero_le _) (Nat.le_of_ble_eq_true rfl) (ctX6_isLetter  (fX6_at 1200 (y.2.1 0) (y.1 6)) ) (fun v56 h57 q58 => ?_)
      obtain ⟨rfl, rfl⟩ := q58
      refine am_if_eq dX4_advance_120 (by decide : ((120 : Nat) : Int) + (125) = ((245 : Nat) : Int)) (fun c59 => ?_) (fun c59 => ?_)
      · exact kx _ _ (Eq.trans (if_neg c52) (Eq.trans (if_pos c59) (rfl))) gy 
      · refine am_aload_n dX4_advance_123 0 rfl ?_
        refine am_dup dX4_advance_124 rfl ?_
        refine am_get (v := .int (y.1 6)) dX4_advance_125 kGX4_45 (hwc1 (w := y) gy) rfl ?_
        refine am_iconst (v := 1) dX4_advance_128 (by decide) ?_
        refine am_iadd dX4_advance_129 ?_
        refine am_put dX4_advance_130 kFX4_45 (hwc1 (w := y) gy) (Nat.le_of_ble_eq_true rfl) rfl rfl ?_
        have w60 := hwS6 gy ((y.1 6) + 1)
        refine am_goto dX4_advance_133 (by decide : ((133 : Nat) : Int) + (-38) = ((95 : Nat) : Int)) ?_
        exact ih  (wS y 6 ((y.1 6) + 1)) (ivU_s (iv_top c52) iv) w60  (fun h1 r e => kx h1 r (Eq.trans (Eq.trans (if_neg c52) (Eq.trans (if_neg c59) (rfl))) e))
def fX4_advance (w : Wd)  : Wd := (bnd (fX4_advance_0    (fuU 2147483647 (w.1 6))  w) (fun r10 => (if (r10.1 6) < (r10.1 3) then (if (fX6_isLetter (fX6_at 1200 (r10.2.1 0) (r10.1 6))) = 0 then (if (fX4_isDigit (fX6_at 1200 (r10.2.1 0) (r10.1 6))) = 0 then (wS (wS (wS (wS r10 5 (r10.1 6)) 7 0) 4 3) 6 ((r10.1 6) + 1)) else (bnd (fX4_advance_158    (fuU 2147483647 ((wS (wS (wS r10 5 (r10.1 6)) 7 0) 4 2).1 6))  (wS (wS (wS r10 5 (r10.1 6)) 7 0) 4 2)) (fun r47 => r47))) else (bnd (fX4_advance_95    (fuU 2147483647 ((wS (wS (wS r10 5 (r10.1 6)) 7 0) 4 1).1 6))  (wS (wS (wS r10 5 (r10.1 6)) 7 0) 4 1)) (fun r61 => r61))) else (wS (wS (wS r10 5 (r10.1 6)) 7 0) 4 0))))
set_option maxRecDepth 20000 in
theorem ctX4_advance {l : Launch} {G : GM} {K : Nat → Option va_E} {h : List va_E} {w : Wd} (hw : HW G K h w)  : Ct l G mX4_advance 1 0 0 [.ref (gz G + 1)] h (fun v h1 => ∃ r, (fX4_advance w ) = r ∧ v = none ∧ HW G K h1 r) := by
  show Tr l G mX4_advance 1 0 0 0 [(0, .ref (gz G + 1))] [] h _
  refine wX4_advance_0    (fuU 2147483647 (w.1 6))  w ivU_i hw  (fun h12 r10 e11 w13  => ?_)
  refine am_aload_n dX4_advance_41 0 rfl ?_
  refine am_aload_n dX4_advance_42 0 rfl ?_
  refine am_get (v := .int (r10.1 6)) dX4_advance_43 kGX4_45 (hwc1 (w := r10) w13) rfl ?_
  refine am_put dX4_advance_46 kFX4_197 (hwc1 (w := r10) w13) (Nat.le_of_ble_eq_true rfl) rfl rfl ?_
  have w14 := hwS5 w13 (r10.1 6)
  refine am_aload_n dX4_advance_49 0 rfl ?_
  refine am_iconst (v := 0) dX4_advance_50 (by decide) ?_
  refine am_put dX4_advance_51 kFX4_190 (hwc1 (w := (wS r10 5 (r10.1 6))) w14) (Nat.le_of_ble_eq_true rfl) rfl rfl ?_
  have w15 := hwS7 w14 0
  refine am_aload_n dX4_advance_54 0 rfl ?_
  refine am_get (v := .int (r10.1 6)) dX4_advance_55 kGX4_45 (hwc1 (w := (wS (wS r10 5 (r10.1 6)) 7 0)) w15) rfl ?_
  refine am_aload_n dX4_advance_58 0 rfl ?_
  refine am_get (v := .int (r10.1 3)) dX4_advance_59 kGX4_42 (hwc1 (w := (wS (wS r10 5 (r10.1 6)) 7 0)) w15) rfl ?_
  refine am_icmp_lt dX4_advance_62 (by decide : ((62 : Nat) : Int) + (11) = ((73 : Nat) : Int)) (fun c16 => ?_) (fun c16 => ?_)
  · refine am_aload_n dX4_advance_73 0 rfl ?_
    refine am_get (v := .ref (gz G + 2)) dX4_advance_74 kGX4_9 (hwc1 (w := (wS (wS r10 5 (r10.1 6)) 7 0)) w15) rfl ?_
    refine am_aload_n dX4_advance_77 0 rfl ?_
    refine am_get (v := .int (r10.1 6)) dX4_advance_78 kGX4_45 (hwc1 (w := (wS (wS r10 5 (r10.1 6)) 7 0)) w15) rfl ?_
    refine am_callSN (As := [.ref (gz G + 2), .int (r10.1 6)]) (rest := []) dX4_advance_81 kMX4_200 rfl  rfl (Nat.le_of_ble_eq_true rfl) (d2 := 0) (by decide) (k2 := 0) (Nat.zero_le _) (u2 := 0) (Nat.zero_le _) (Nat.le_of_ble_eq_true rfl) (ctX6_at (f := (r10.2.1 0)) (hwc2 (w := (wS (wS r10 5 (r10.1 6)) 7 0)) w15) (by decide) (r10.1 6) ) (fun v17 h18 q19 => ?_)
    obtain ⟨rfl, rfl⟩ := q19
    refine am_callSN (As := [.int (fX6_at 1200 (r10.2.1 0) (r10.1 6))]) (rest := []) dX4_advance_84 kMX4_234 rfl  rfl (Nat.le_of_ble_eq_true rfl) (d2 := 0) (by decide) (k2 := 0) (Nat.zero_le _) (u2 := 0) (Nat.zero_le _) (Nat.le_of_ble_eq_true rfl) (ctX6_isLetter  (fX6_at 1200 (r10.2.1 0) (r10.1 6)) ) (fun v20 h21 q22 => ?_)
    obtain ⟨rfl, rfl⟩ := q22
    refine am_if_eq dX4_advance_87 (by decide : ((87 : Nat) : Int) + (49) = ((136 : Nat) : Int)) (fun c23 => ?_) (fun c23 => ?_)
    · refine am_aload_n dX4_advance_136 0 rfl ?_
      refine am_get (v := .ref (gz G + 2)) dX4_advance_137 kGX4_9 (hwc1 (w := (wS (wS r10 5 (r10.1 6)) 7 0)) w15) rfl ?_
      refine am_aload_n dX4_advance_140 0 rfl ?_
      refine am_get (v := .int (r10.1 6)) dX4_advance_141 kGX4_45 (hwc1 (w := (wS (wS r10 5 (r10.1 6)) 7 0)) w15) rfl ?_
      refine am_callSN (As := [.ref (gz G + 2), .int (r10.1 6)]) (rest := []) dX4_advance_144 kMX4_200 rfl  rfl (Nat.le_of_ble_eq_true rfl) (d2 := 0) (by decide) (k2 := 0) (Nat.zero_le _) (u2 := 0) (Nat.zero_le _) (Nat.le_of_ble_eq_true rfl) (ctX6_at (f := (r10.2.1 0)) (hwc2 (w := (wS (wS r10 5 (r10.1 6)) 7 0)) w15) (by decide) (r10.1 6) ) (fun v24 h25 q26 => ?_)
      obtain ⟨rfl, rfl⟩ := q26
      refine am_callS (As := [.int (fX6_at 1200 (r10.2.1 0) (r10.1 6))]) (rest := []) dX4_advance_147 kMX4_237 rfl  rfl (Nat.le_of_ble_eq_true rfl) (d2 := 0) (by decide) (k2 := 0) (Nat.zero_le _) (u2 := 0) (Nat.zero_le _) (Nat.le_of_ble_eq_true rfl) (ctX4_isDigit  (fX6_at 1200 (r10.2.1 0) (r10.1 6)) ) (fun v27 h28 q29 => ?_)
      obtain ⟨rfl, rfl⟩ := q29
      refine am_if_eq dX4_advance_150 (by decide : ((150 : Nat) : Int) + (80) = ((230 : Nat) : Int)) (fun c30 => ?_) (fun c30 => ?_)
      · refine am_aload_n dX4_advance_230 0 rfl ?_
        refine am_iconst (v := 3) dX4_advance_231 (by decide) ?_
        refine am_put dX4_advance_232 kFX4_51 (hwc1 (w := (wS (wS r10 5 (r10.1 6)) 7 0)) w15) (Nat.le_of_ble_eq_true rfl) rfl rfl ?_
        have w31 := hwS4 w15 3
        refine am_aload_n dX4_advance_235 0 rfl ?_
        refine am_dup dX4_advance_236 rfl ?_
        refine am_get (v := .int (r10.1 6)) dX4_advance_237 kGX4_45 (hwc1 (w := (wS (wS (wS r10 5 (r10.1 6)) 7 0) 4 3)) w31) rfl ?_
        refine am_iconst (v := 1) dX4_advance_240 (by decide) ?_
        refine am_iadd dX4_advance_241 ?_
        refine am_put dX4_advance_242 kFX4_45 (hwc1 (w := (wS (wS (wS r10 5 (r10.1 6)) 7 0) 4 3)) w31) (Nat.le_of_ble_eq_true rfl) rfl rfl ?_
        have w32 := hwS6 w31 ((r10.1 6) + 1)
        exact am_return dX4_advance_245 rfl ⟨_, bnd_eq e11 (Eq.trans (if_pos c16) (Eq.trans (if_pos c23) (Eq.trans (if_pos c30) (rfl)))), rfl, w32⟩
      · refine am_aload_n dX4_advance_153 0 rfl ?_
        refine am_iconst (v := 2) dX4_advance_154 (by decide) ?_
        refine am_put dX4_advance_155 kFX4_51 (hwc1 (w := (wS (wS r10 5 (r10.1 6)) 7 0)) w15) (Nat.le_of_ble_eq_true rfl) rfl rfl ?_
        have w33 := hwS4 w15 2
        refine wX4_advance_158    (fuU 2147483647 ((wS (wS (wS r10 5 (r10.1 6)) 7 0) 4 2).1 6))  (wS (wS (wS r10 5 (r10.1 6)) 7 0) 4 2) ivU_i w33  (fun h49 r47 e48 w50  => ?_)
        exact am_return dX4_advance_245 rfl ⟨_, bnd_eq e11 (Eq.trans (if_pos c16) (Eq.trans (if_pos c23) (Eq.trans (if_neg c30) (bnd_eq e48 (rfl))))), rfl, w50⟩
    · refine am_aload_n dX4_advance_90 0 rfl ?_
      refine am_iconst (v := 1) dX4_advance_91 (by decide) ?_
      refine am_put dX4_advance_92 kFX4_51 (hwc1 (w := (wS (wS r10 5 (r10.1 6)) 7 0)) w15) (Nat.le_of_ble_eq_true rfl) rfl rfl ?_
      have w51 := hwS4 w15 1
      refine wX4_advance_95    (fuU 2147483647 ((wS (wS (wS r10 5 (r10.1 6)) 7 0) 4 1).1 6))  (wS (wS (wS r10 5 (r10.1 6)) 7 0) 4 1) ivU_i w51  (fun h63 r61 e62 w64  => ?_)
      exact am_return dX4_advance_245 rfl ⟨_, bnd_eq e11 (Eq.trans (if_pos c16) (Eq.trans (if_neg c23) (bnd_eq e62 (rfl)))), rfl, w64⟩
  · refine am_aload_n dX4_advance_65 0 rfl ?_
    refine am_iconst (v := 0) dX4_advance_66 (by decide) ?_
    refine am_put dX4_advance_67 kFX4_51 (hwc1 (w := (wS (wS r10 5 (r10.1 6)) 7 0)) w15) (Nat.le_of_ble_eq_true rfl) rfl rfl ?_
    have w65 := hwS4 w15 0
    refine am_goto dX4_advance_70 (by decide : ((70 : Nat) : Int) + (175) = ((245 : Nat) : Int)) ?_
    exact am_return dX4_advance_245 rfl ⟨_, bnd_eq e11 (Eq.trans (if_neg c16) (rfl)), rfl, w65⟩

theorem dX4_spells_0 : decode cX4_spells 0 = .ok (.aload_n 0, 1) := by decide +kernel
theorem dX4_spells_1 : decode cX4_spells 1 = .ok (.getfield 51, 3) := by decide +kernel
theorem dX4_spells_4 : decode cX4_spells 4 = .ok (.iconst 1, 1) := by decide +kernel
theorem dX4_spells_5 : decode cX4_spells 5 = .ok (.if_icmp .ne 19, 3) := by decide +kernel
theorem dX4_spells_8 : decode cX4_spells 8 = .ok (.aload_n 0, 1) := by decide +kernel
theorem dX4_spells_9 : decode cX4_spells 9 = .ok (.getfield 45, 3) := by decide +kernel
theorem dX4_spells_12 : decode cX4_spells 12 = .ok (.aload_n 0, 1) := by decide +kernel
theorem dX4_spells_13 : decode cX4_spells 13 = .ok (.getfield 197, 3) := by decide +kernel
theorem dX4_spells_16 : decode cX4_spells 16 = .ok (.isub, 1) := by decide +kernel
theorem dX4_spells_17 : decode cX4_spells 17 = .ok (.aload_n 1, 1) := by decide +kernel
theorem dX4_spells_18 : decode cX4_spells 18 = .ok (.invokevirtual 221, 3) := by decide +kernel
theorem dX4_spells_21 : decode cX4_spells 21 = .ok (.if_icmp .eq 5, 3) := by decide +kernel
theorem dX4_spells_24 : decode cX4_spells 24 = .ok (.iconst 0, 1) := by decide +kernel
theorem dX4_spells_25 : decode cX4_spells 25 = .ok (.ireturn, 1) := by decide +kernel
theorem dX4_spells_26 : decode cX4_spells 26 = .ok (.iconst 0, 1) := by decide +kernel
theorem dX4_spells_27 : decode cX4_spells 27 = .ok (.istore_n 2, 1) := by decide +kernel
theorem dX4_spells_28 : decode cX4_spells 28 = .ok (.iload_n 2, 1) := by decide +kernel
theorem dX4_spells_29 : decode cX4_spells 29 = .ok (.aload_n 1, 1) := by decide +kernel
theorem dX4_spells_30 : decode cX4_spells 30 = .ok (.invokevirtual 221, 3) := by decide +kernel
theorem dX4_spells_33 : decode cX4_spells 33 = .ok (.if_icmp .ge 32, 3) := by decide +kernel
theorem dX4_spells_36 : decode cX4_spells 36 = .ok (.aload_n 0, 1) := by decide +kernel
theorem dX4_spells_37 : decode cX4_spells 37 = .ok (.getfield 9, 3) := by decide +kernel
theorem dX4_spells_40 : decode cX4_spells 40 = .ok (.aload_n 0, 1) := by decide +kernel
theorem dX4_spells_41 : decode cX4_spells 41 = .ok (.getfield 197, 3) := by decide +kernel
theorem dX4_spells_44 : decode cX4_spells 44 = .ok (.iload_n 2, 1) := by decide +kernel
theorem dX4_spells_45 : decode cX4_spells 45 = .ok (.iadd, 1) := by decide +kernel
theorem dX4_spells_46 : decode cX4_spells 46 = .ok (.invokestatic 200, 3) := by decide +kernel
theorem dX4_spells_49 : decode cX4_spells 49 = .ok (.aload_n 1, 1) := by decide +kernel
theorem dX4_spells_50 : decode cX4_spells 50 = .ok (.iload_n 2, 1) := by decide +kernel
theorem dX4_spells_51 : decode cX4_spells 51 = .ok (.invokevirtual 226, 3) := by decide +kernel
theorem dX4_spells_54 : decode cX4_spells 54 = .ok (.if_icmp .eq 5, 3) := by decide +kernel
theorem dX4_spells_57 : decode cX4_spells 57 = .ok (.iconst 0, 1) := by decide +kernel
theorem dX4_spells_58 : decode cX4_spells 58 = .ok (.ireturn, 1) := by decide +kernel
theorem dX4_spells_59 : decode cX4_spells 59 = .ok (.iinc 2 1, 3) := by decide +kernel
theorem dX4_spells_62 : decode cX4_spells 62 = .ok (.goto (-34), 3) := by decide +kernel
theorem dX4_spells_65 : decode cX4_spells 65 = .ok (.iconst 1, 1) := by decide +kernel
theorem dX4_spells_66 : decode cX4_spells 66 = .ok (.ireturn, 1) := by decide +kernel
def fX4_spells_28 (q : String × Nat × String × List Int32)   (w : Wd) : Nat → Int32 → Int32
  | 0, _ => 0
  | fu + 1, x2 => (if (nI q.2.2.2.length) ≤ x2 then 1 else (if (fX6_at 1200 (w.2.1 0) ((w.1 5) + x2)) = (ichr ((q.2.2.2.getD x2.toNatClampNeg 0) &&& 255)) then (fX4_spells_28 q   w fu (x2 + 1) ) else 0))
set_option maxRecDepth 20000 in
theorem wX4_spells_28 {l : Launch} {G : GM} {K : Nat → Option va_E} {j : Nat} {q : String × Nat × String × List Int32} (hj : strTab[j]? = some q)    {h : List va_E} {w : Wd} (hw : HW G K h w) : ∀ (fu : Nat) (x2 : Int32) (iv : ivU (nI q.2.2.2.length) x2 fu) (nn : ¬ x2 < 0), Tr l G mX4_spells 4 0 0 28 [(2, .int x2), (0, .ref (gz G + 1)), (1, .ref (gS G j))] [] h (fun v h1 => v = some (.int (fX4_spells_28 q   w fu x2 )) ∧ h1 = h) := by
  intro fu
  induction fu with
  | zero => intro x2 iv; intros; exact absurd iv ivU_0
  | succ fu ih =>
    intro x2 iv  nn   
    refine am_iload_n dX4_spells_28 0 rfl ?_
    refine am_aload_n dX4_spells_29 2 rfl ?_
    refine am_callK (As := []) (rest := [.int x2]) dX4_spells_30 kMX4_221 rfl (q := q) hj rfl rfl (Nat.le_of_ble_eq_true rfl) (d2 := 1) (by decide) (k2 := 0) (Nat.zero_le _) (u2 := 0) (Nat.zero_le _) (Nat.le_of_ble_eq_true rfl) (ctJ0_length_8abf5 hj) (fun v6 h7 q8 => ?_)
    obtain ⟨rfl, rfl⟩ := q8
    refine am_icmp_ge dX4_spells_33 (by decide : ((33 : Nat) : Int) + (32) = ((65 : Nat) : Int)) (fun c9 => ?_) (fun c9 => ?_)
    · refine am_iconst (v := 1) dX4_spells_65 (by decide) ?_
      rw [show (fX4_spells_28 q   w (fu + 1) x2 ) = 1 from Eq.trans (if_pos c9) (rfl)]
      exact am_ireturn dX4_spells_66 rfl rfl ⟨rfl, rfl⟩
    · refine am_aload_n dX4_spells_36 1 rfl ?_
      refine am_get (v := .ref (gz G + 2)) dX4_spells_37 kGX4_9 (hwc1 (w := w) hw) rfl ?_
      refine am_aload_n dX4_spells_40 1 rfl ?_
      refine am_get (v := .int (w.1 5)) dX4_spells_41 kGX4_197 (hwc1 (w := w) hw) rfl ?_
      refine am_iload_n dX4_spells_44 0 rfl ?_
      refine am_iadd dX4_spells_45 ?_
      refine am_callSN (As := [.ref (gz G + 2), .int ((w.1 5) + x2)]) (rest := []) dX4_spells_46 kMX4_200 rfl  rfl (Nat.le_of_ble_eq_true rfl) (d2 := 0) (by decide) (k2 := 0) (Nat.zero_le _) (u2 := 0) (Nat.zero_le _) (Nat.le_of_ble_eq_true rfl) (ctX6_at (f := (w.2.1 0)) (hwc2 (w := w) hw) (by decide) ((w.1 5) + x2) ) (fun v10 h11 q12 => ?_)
      obtain ⟨rfl, rfl⟩ := q12
      refine am_aload_n dX4_spells_49 2 rfl ?_
      refine am_iload_n dX4_spells_50 0 rfl ?_
      refine am_callK (As := [.int x2]) (rest := [.int (fX6_at 1200 (w.2.1 0) ((w.1 5) + x2))]) dX4_spells_51 kMX4_226 rfl (q := q) hj rfl rfl (Nat.le_of_ble_eq_true rfl) (d2 := 3) (by decide) (k2 := 0) (Nat.zero_le _) (u2 := 0) (Nat.zero_le _) (Nat.le_of_ble_eq_true rfl) (ctJ0_charAt_5068e hj nn c9) (fun v13 h14 q15 => ?_)
      obtain ⟨rfl, rfl⟩ := q15
      refine am_icmp_eq dX4_spells_54 (by decide : ((54 : Nat) : Int) + (5) = ((59 : Nat) : Int)) (fun c16 => ?_) (fun c16 => ?_)
      · refine am_iinc (v := (x2 + 1)) dX4_spells_59 0 rfl rfl (by decide) (lv' := [(2, .int (x2 + 1)), (0, .ref (gz G + 1)), (1, .ref (gS G j))]) rfl ?_
        refine am_goto dX4_spells_62 (by decide : ((62 : Nat) : Int) + (-34) = ((28 : Nat) : Int)) ?_
        rw [show (fX4_spells_28 q   w (fu + 1) x2 ) = (fX4_spells_28 q   w fu (x2 + 1) ) from Eq.trans (if_neg c9) (Eq.trans (if_pos c16) (rfl))]
        exact ih (x2 + 1) (ivU_s c9 iv) (nn_s nn c9) 
      · refine am_iconst (v := 0) dX4_spells_57 (by decide) ?_
        rw [show (fX4_spells_28 q   w (fu + 1) x2 ) = 0 from Eq.trans (if_neg c9) (Eq.trans (if_neg c16) (rfl))]
        exact am_ireturn dX4_spells_58 rfl rfl ⟨rfl, rfl⟩
def fX4_spells (w : Wd) (q : String × Nat × String × List Int32)  : Int32 := (if (w.1 4) = 1 then (if ((w.1 6) - (w.1 5)) = (nI q.2.2.2.length) then (fX4_spells_28 q   w (fuU (nI q.2.2.2.length) 0) 0 ) else 0) else 0)
set_option maxRecDepth 20000 in
theorem ctX4_spells {l : Launch} {G : GM} {K : Nat → Option va_E} {h : List va_E} {w : Wd} (hw : HW G K h w) {j : Nat} {q : String × Nat × String × List Int32} (hj : strTab[j]? = some q)  : Ct l G mX4_spells 4 0 0 [.ref (gz G + 1), .ref (gS G j)] h (fun v h1 => v = some (.int (fX4_spells w q )) ∧ h1 = h) := by
  show Tr l G mX4_spells 4 0 0 0 [(0, .ref (gz G + 1)), (1, .ref (gS G j))] [] h _
  refine am_aload_n dX4_spells_0 0 rfl ?_
  refine am_get (v := .int (w.1 4)) dX4_spells_1 kGX4_51 (hwc1 (w := w) hw) rfl ?_
  refine am_iconst (v := 1) dX4_spells_4 (by decide) ?_
  refine am_icmp_ne dX4_spells_5 (by decide : ((5 : Nat) : Int) + (19) = ((24 : Nat) : Int)) (fun c1 => ?_) (fun c1 => ?_)
  · refine am_iconst (v := 0) dX4_spells_24 (by decide) ?_
    rw [show (fX4_spells w q ) = 0 from Eq.trans (if_neg c1) (rfl)]
    exact am_ireturn dX4_spells_25 rfl rfl ⟨rfl, rfl⟩
  · refine am_aload_n dX4_spells_8 0 rfl ?_
    refine am_get (v := .int (w.1 6)) dX4_spells_9 kGX4_45 (hwc1 (w := w) hw) rfl ?_
    refine am_aload_n dX4_spells_12 0 rfl ?_
    refine am_get (v := .int (w.1 5)) dX4_spells_13 kGX4_197 (hwc1 (w := w) hw) rfl ?_
    refine am_isub dX4_spells_16 ?_
    refine am_aload_n dX4_spells_17 1 rfl ?_
    refine am_callK (As := []) (rest := [.int ((w.1 6) - (w.1 5))]) dX4_spells_18 kMX4_221 rfl (q := q) hj rfl rfl (Nat.le_of_ble_eq_true rfl) (d2 := 1) (by decide) (k2 := 0) (Nat.zero_le _) (u2 := 0) (Nat.zero_le _) (Nat.le_of_ble_eq_true rfl) (ctJ0_length_8abf5 hj) (fun v2 h3 q4 => ?_)
    obtain ⟨rfl, rfl⟩ := q4
    refine am_icmp_eq dX4_spells_21 (by decide : ((21 : Nat) : Int) + (5) = ((26 : Nat) : Int)) (fun c5 => ?_) (fun c5 => ?_)
    · refine am_iconst (v := 0) dX4_spells_26 (by decide) ?_
      refine am_istore_n dX4_spells_27 (by decide) (lv' := [(2, .int 0), (0, .ref (gz G + 1)), (1, .ref (gS G j))]) rfl ?_
      rw [show (fX4_spells w q ) = (fX4_spells_28 q   w (fuU (nI q.2.2.2.length) 0) 0 ) from Eq.trans (if_pos c1) (Eq.trans (if_pos c5) (rfl))]
      exact wX4_spells_28 hj    hw (fuU (nI q.2.2.2.length) 0) 0 ivU_i (by decide)
    · refine am_iconst (v := 0) dX4_spells_24 (by decide) ?_
      rw [show (fX4_spells w q ) = 0 from Eq.trans (if_pos c1) (Eq.trans (if_neg c5) (rfl))]
      exact am_ireturn dX4_spells_25 rfl rfl ⟨rfl, rfl⟩

theorem dX4_refuse_0 : decode cX4_refuse 0 = .ok (.aload_n 0, 1) := by decide +kernel
theorem dX4_refuse_1 : decode cX4_refuse 1 = .ok (.getfield 29, 3) := by decide +kernel
theorem dX4_refuse_4 : decode cX4_refuse 4 = .ok (.ifCond .ne 16, 3) := by decide +kernel
theorem dX4_refuse_7 : decode cX4_refuse 7 = .ok (.aload_n 0, 1) := by decide +kernel
theorem dX4_refuse_8 : decode cX4_refuse 8 = .ok (.iload_n 1, 1) := by decide +kernel
theorem dX4_refuse_9 : decode cX4_refuse 9 = .ok (.putfield 29, 3) := by decide +kernel
theorem dX4_refuse_12 : decode cX4_refuse 12 = .ok (.aload_n 0, 1) := by decide +kernel
theorem dX4_refuse_13 : decode cX4_refuse 13 = .ok (.aload_n 0, 1) := by decide +kernel
theorem dX4_refuse_14 : decode cX4_refuse 14 = .ok (.getfield 197, 3) := by decide +kernel
theorem dX4_refuse_17 : decode cX4_refuse 17 = .ok (.putfield 22, 3) := by decide +kernel
theorem dX4_refuse_20 : decode cX4_refuse 20 = .ok (.return_, 1) := by decide +kernel
def fX4_refuse (w : Wd) (z1 : Int32) : Wd := (if (w.1 1) = 0 then (wS (wS w 1 z1) 2 (w.1 5)) else w)
set_option maxRecDepth 20000 in
theorem ctX4_refuse {l : Launch} {G : GM} {K : Nat → Option va_E} {h : List va_E} {w : Wd} (hw : HW G K h w) (z1 : Int32) : Ct l G mX4_refuse 0 0 0 [.ref (gz G + 1), .int z1] h (fun v h1 => ∃ r, (fX4_refuse w z1) = r ∧ v = none ∧ HW G K h1 r) := by
  show Tr l G mX4_refuse 0 0 0 0 [(0, .ref (gz G + 1)), (1, .int z1)] [] h _
  refine am_aload_n dX4_refuse_0 0 rfl ?_
  refine am_get (v := .int (w.1 1)) dX4_refuse_1 kGX4_29 (hwc1 (w := w) hw) rfl ?_
  refine am_if_ne dX4_refuse_4 (by decide : ((4 : Nat) : Int) + (16) = ((20 : Nat) : Int)) (fun c1 => ?_) (fun c1 => ?_)
  · exact am_return dX4_refuse_20 rfl ⟨_, Eq.trans (if_neg c1) (rfl), rfl, hw⟩
  · refine am_aload_n dX4_refuse_7 0 rfl ?_
    refine am_iload_n dX4_refuse_8 1 rfl ?_
    refine am_put dX4_refuse_9 kFX4_29 (hwc1 (w := w) hw) (Nat.le_of_ble_eq_true rfl) rfl rfl ?_
    have w2 := hwS1 hw z1
    refine am_aload_n dX4_refuse_12 0 rfl ?_
    refine am_aload_n dX4_refuse_13 0 rfl ?_
    refine am_get (v := .int (w.1 5)) dX4_refuse_14 kGX4_197 (hwc1 (w := (wS w 1 z1)) w2) rfl ?_
    refine am_put dX4_refuse_17 kFX4_22 (hwc1 (w := (wS w 1 z1)) w2) (Nat.le_of_ble_eq_true rfl) rfl rfl ?_
    have w3 := hwS2 w2 (w.1 5)
    exact am_return dX4_refuse_20 rfl ⟨_, Eq.trans (if_pos c1) (rfl), rfl, w3⟩

theorem dX4_startStatement_0 : decode cX4_startStatement 0 = .ok (.iload_n 1, 1) := by decide +kernel
theorem dX4_startStatement_1 : decode cX4_startStatement 1 = .ok (.ifCond .eq 8, 3) := by decide +kernel
theorem dX4_startStatement_4 : decode cX4_startStatement 4 = .ok (.aload_n 0, 1) := by decide +kernel
theorem dX4_startStatement_5 : decode cX4_startStatement 5 = .ok (.iload_n 2, 1) := by decide +kernel
theorem dX4_startStatement_6 : decode cX4_startStatement 6 = .ok (.invokevirtual 98, 3) := by decide +kernel
theorem dX4_startStatement_9 : decode cX4_startStatement 9 = .ok (.aload_n 0, 1) := by decide +kernel
theorem dX4_startStatement_10 : decode cX4_startStatement 10 = .ok (.invokevirtual 48, 3) := by decide +kernel
theorem dX4_startStatement_13 : decode cX4_startStatement 13 = .ok (.return_, 1) := by decide +kernel
def fX4_startStatement (w : Wd) (z1 : Int32) (z2 : Int32) : Wd := (if z1 = 0 then (bnd (fX4_advance w ) (fun r5 => r5)) else (bnd (fX4_refuse w z2) (fun r11 => (bnd (fX4_advance r11 ) (fun r17 => r17)))))
set_option maxRecDepth 20000 in
theorem ctX4_startStatement {l : Launch} {G : GM} {K : Nat → Option va_E} {h : List va_E} {w : Wd} (hw : HW G K h w) (z1 : Int32) (z2 : Int32) : Ct l G mX4_startStatement 2 0 0 [.ref (gz G + 1), .int z1, .int z2] h (fun v h1 => ∃ r, (fX4_startStatement w z1 z2) = r ∧ v = none ∧ HW G K h1 r) := by
  show Tr l G mX4_startStatement 2 0 0 0 [(0, .ref (gz G + 1)), (1, .int z1), (2, .int z2)] [] h _
  refine am_iload_n dX4_startStatement_0 1 rfl ?_
  refine am_if_eq dX4_startStatement_1 (by decide : ((1 : Nat) : Int) + (8) = ((9 : Nat) : Int)) (fun c1 => ?_) (fun c1 => ?_)
  · refine am_aload_n dX4_startStatement_9 0 rfl ?_
    refine am_callV (As := []) (rest := []) dX4_startStatement_10 kMX4_48 rfl (hwc1 (w := w) hw) rfl rfl (Nat.le_of_ble_eq_true rfl) (d2 := 1) (by decide) (k2 := 0) (Nat.zero_le _) (u2 := 0) (Nat.zero_le _) (Nat.le_of_ble_eq_true rfl) (ctX4_advance (w := w) hw ) (fun v2 h3 q4 => ?_)
    obtain ⟨r5, e6, rfl, w7⟩ := q4
    exact am_return dX4_startStatement_13 rfl ⟨_, Eq.trans (if_pos c1) (bnd_eq e6 (rfl)), rfl, w7⟩
  · refine am_aload_n dX4_startStatement_4 0 rfl ?_
    refine am_iload_n dX4_startStatement_5 2 rfl ?_
    refine am_callV (As := [.int z2]) (rest := []) dX4_startStatement_6 kMX4_98 rfl (hwc1 (w := w) hw) rfl rfl (Nat.le_of_ble_eq_true rfl) (d2 := 0) (by decide) (k2 := 0) (Nat.zero_le _) (u2 := 0) (Nat.zero_le _) (Nat.le_of_ble_eq_true rfl) (ctX4_refuse (w := w) hw z2) (fun v8 h9 q10 => ?_)
    obtain ⟨r11, e12, rfl, w13⟩ := q10
    refine am_aload_n dX4_startStatement_9 0 rfl ?_
    refine am_callV (As := []) (rest := []) dX4_startStatement_10 kMX4_48 rfl (hwc1 (w := r11) w13) rfl rfl (Nat.le_of_ble_eq_true rfl) (d2 := 1) (by decide) (k2 := 0) (Nat.zero_le _) (u2 := 0) (Nat.zero_le _) (Nat.le_of_ble_eq_true rfl) (ctX4_advance (w := r11) w13 ) (fun v14 h15 q16 => ?_)
    obtain ⟨r17, e18, rfl, w19⟩ := q16
    exact am_return dX4_startStatement_13 rfl ⟨_, Eq.trans (if_neg c1) (bnd_eq e12 (bnd_eq e18 (rfl))), rfl, w19⟩

theorem dX4_isKeyword_0 : decode cX4_isKeyword 0 = .ok (.aload_n 0, 1) := by decide +kernel
theorem dX4_isKeyword_1 : decode cX4_isKeyword 1 = .ok (.ldc 54, 2) := by decide +kernel
theorem dX4_isKeyword_3 : decode cX4_isKeyword 3 = .ok (.invokevirtual 56, 3) := by decide +kernel
theorem dX4_isKeyword_6 : decode cX4_isKeyword 6 = .ok (.ifCond .ne 93, 3) := by decide +kernel
theorem dX4_isKeyword_9 : decode cX4_isKeyword 9 = .ok (.aload_n 0, 1) := by decide +kernel
theorem dX4_isKeyword_10 : decode cX4_isKeyword 10 = .ok (.ldc 63, 2) := by decide +kernel
theorem dX4_isKeyword_12 : decode cX4_isKeyword 12 = .ok (.invokevirtual 56, 3) := by decide +kernel
theorem dX4_isKeyword_15 : decode cX4_isKeyword 15 = .ok (.ifCond .ne 84, 3) := by decide +kernel
theorem dX4_isKeyword_18 : decode cX4_isKeyword 18 = .ok (.aload_n 0, 1) := by decide +kernel
theorem dX4_isKeyword_19 : decode cX4_isKeyword 19 = .ok (.ldc 68, 2) := by decide +kernel
theorem dX4_isKeyword_21 : decode cX4_isKeyword 21 = .ok (.invokevirtual 56, 3) := by decide +kernel
theorem dX4_isKeyword_24 : decode cX4_isKeyword 24 = .ok (.ifCond .ne 75, 3) := by decide +kernel
theorem dX4_isKeyword_27 : decode cX4_isKeyword 27 = .ok (.aload_n 0, 1) := by decide +kernel
theorem dX4_isKeyword_28 : decode cX4_isKeyword 28 = .ok (.ldc 73, 2) := by decide +kernel
theorem dX4_isKeyword_30 : decode cX4_isKeyword 30 = .ok (.invokevirtual 56, 3) := by decide +kernel
theorem dX4_isKeyword_33 : decode cX4_isKeyword 33 = .ok (.ifCond .ne 66, 3) := by decide +kernel
theorem dX4_isKeyword_36 : decode cX4_isKeyword 36 = .ok (.aload_n 0, 1) := by decide +kernel
theorem dX4_isKeyword_37 : decode cX4_isKeyword 37 = .ok (.ldc 83, 2) := by decide +kernel
theorem dX4_isKeyword_39 : decode cX4_isKeyword 39 = .ok (.invokevirtual 56, 3) := by decide +kernel
theorem dX4_isKeyword_42 : decode cX4_isKeyword 42 = .ok (.ifCond .ne 57, 3) := by decide +kernel
theorem dX4_isKeyword_45 : decode cX4_isKeyword 45 = .ok (.aload_n 0, 1) := by decide +kernel
theorem dX4_isKeyword_46 : decode cX4_isKeyword 46 = .ok (.ldc 88, 2) := by decide +kernel
theorem dX4_isKeyword_48 : decode cX4_isKeyword 48 = .ok (.invokevirtual 56, 3) := by decide +kernel
theorem dX4_isKeyword_51 : decode cX4_isKeyword 51 = .ok (.ifCond .ne 48, 3) := by decide +kernel
theorem dX4_isKeyword_54 : decode cX4_isKeyword 54 = .ok (.aload_n 0, 1) := by decide +kernel
theorem dX4_isKeyword_55 : decode cX4_isKeyword 55 = .ok (.ldc 93, 2) := by decide +kernel
theorem dX4_isKeyword_57 : decode cX4_isKeyword 57 = .ok (.invokevirtual 56, 3) := by decide +kernel
theorem dX4_isKeyword_60 : decode cX4_isKeyword 60 = .ok (.ifCond .ne 39, 3) := by decide +kernel
theorem dX4_isKeyword_63 : decode cX4_isKeyword 63 = .ok (.aload_n 0, 1) := by decide +kernel
theorem dX4_isKeyword_64 : decode cX4_isKeyword 64 = .ok (.ldc 219, 2) := by decide +kernel
theorem dX4_isKeyword_66 : decode cX4_isKeyword 66 = .ok (.invokevirtual 56, 3) := by decide +kernel
theorem dX4_isKeyword_69 : decode cX4_isKeyword 69 = .ok (.ifCond .ne 30, 3) := by decide +kernel
theorem dX4_isKeyword_72 : decode cX4_isKeyword 72 = .ok (.aload_n 0, 1) := by decide +kernel
theorem dX4_isKeyword_73 : decode cX4_isKeyword 73 = .ok (.ldc 215, 2) := by decide +kernel
theorem dX4_isKeyword_75 : decode cX4_isKeyword 75 = .ok (.invokevirtual 56, 3) := by decide +kernel
theorem dX4_isKeyword_78 : decode cX4_isKeyword 78 = .ok (.ifCond .ne 21, 3) := by decide +kernel
theorem dX4_isKeyword_81 : decode cX4_isKeyword 81 = .ok (.aload_n 0, 1) := by decide +kernel
theorem dX4_isKeyword_82 : decode cX4_isKeyword 82 = .ok (.ldc 217, 2) := by decide +kernel
theorem dX4_isKeyword_84 : decode cX4_isKeyword 84 = .ok (.invokevirtual 56, 3) := by decide +kernel
theorem dX4_isKeyword_87 : decode cX4_isKeyword 87 = .ok (.ifCond .ne 12, 3) := by decide +kernel
theorem dX4_isKeyword_90 : decode cX4_isKeyword 90 = .ok (.aload_n 0, 1) := by decide +kernel
theorem dX4_isKeyword_91 : decode cX4_isKeyword 91 = .ok (.ldc 181, 2) := by decide +kernel
theorem dX4_isKeyword_93 : decode cX4_isKeyword 93 = .ok (.invokevirtual 56, 3) := by decide +kernel
theorem dX4_isKeyword_96 : decode cX4_isKeyword 96 = .ok (.ifCond .eq 7, 3) := by decide +kernel
theorem dX4_isKeyword_99 : decode cX4_isKeyword 99 = .ok (.iconst 1, 1) := by decide +kernel
theorem dX4_isKeyword_100 : decode cX4_isKeyword 100 = .ok (.goto 4, 3) := by decide +kernel
theorem dX4_isKeyword_103 : decode cX4_isKeyword 103 = .ok (.iconst 0, 1) := by decide +kernel
theorem dX4_isKeyword_104 : decode cX4_isKeyword 104 = .ok (.ireturn, 1) := by decide +kernel
def fX4_isKeyword (w : Wd)  : Int32 := (if (fX4_spells w sq0) = 0 then (if (fX4_spells w sq1) = 0 then (if (fX4_spells w sq2) = 0 then (if (fX4_spells w sq3) = 0 then (if (fX4_spells w sq4) = 0 then (if (fX4_spells w sq5) = 0 then (if (fX4_spells w sq6) = 0 then (if (fX4_spells w sq7) = 0 then (if (fX4_spells w sq8) = 0 then (if (fX4_spells w sq9) = 0 then (if (fX4_spells w sq10) = 0 then 0 else 1) else 1) else 1) else 1) else 1) else 1) else 1) else 1) else 1) else 1) else 1)
set_option maxRecDepth 20000 in
theorem ctX4_isKeyword {l : Launch} {G : GM} {K : Nat → Option va_E} {h : List va_E} {w : Wd} (hw : HW G K h w)  : Ct l G mX4_isKeyword 5 0 0 [.ref (gz G + 1)] h (fun v h1 => v = some (.int (fX4_isKeyword w )) ∧ h1 = h) := by
  show Tr l G mX4_isKeyword 5 0 0 0 [(0, .ref (gz G + 1))] [] h _
  refine am_aload_n dX4_isKeyword_0 0 rfl ?_
  refine am_ldcS (j := 0) dX4_isKeyword_1 rfl ?_
  refine am_callV (As := [.ref (gS G 0)]) (rest := []) dX4_isKeyword_3 kMX4_56 rfl (hwc1 (w := w) hw) rfl rfl (Nat.le_of_ble_eq_true rfl) (d2 := 4) (by decide) (k2 := 0) (Nat.zero_le _) (u2 := 0) (Nat.zero_le _) (Nat.le_of_ble_eq_true rfl) (ctX4_spells (w := w) hw (j := 0) (q := sq0) rfl) (fun v1 h2 q3 => ?_)
  obtain ⟨rfl, rfl⟩ := q3
  refine am_if_ne dX4_isKeyword_6 (by decide : ((6 : Nat) : Int) + (93) = ((99 : Nat) : Int)) (fun c4 => ?_) (fun c4 => ?_)
  · refine am_iconst (v := 1) dX4_isKeyword_99 (by decide) ?_
    refine am_goto dX4_isKeyword_100 (by decide : ((100 : Nat) : Int) + (4) = ((104 : Nat) : Int)) ?_
    rw [show (fX4_isKeyword w ) = 1 from Eq.trans (if_neg c4) (rfl)]
    exact am_ireturn dX4_isKeyword_104 rfl rfl ⟨rfl, rfl⟩
  · refine am_aload_n dX4_isKeyword_9 0 rfl ?_
    refine am_ldcS (j := 1) dX4_isKeyword_10 rfl ?_
    refine am_callV (As := [.ref (gS G 1)]) (rest := []) dX4_isKeyword_12 kMX4_56 rfl (hwc1 (w := w) hw) rfl rfl (Nat.le_of_ble_eq_true rfl) (d2 := 4) (by decide) (k2 := 0) (Nat.zero_le _) (u2 := 0) (Nat.zero_le _) (Nat.le_of_ble_eq_true rfl) (ctX4_spells (w := w) hw (j := 1) (q := sq1) rfl) (fun v5 h6 q7 => ?_)
    obtain ⟨rfl, rfl⟩ := q7
    refine am_if_ne dX4_isKeyword_15 (by decide : ((15 : Nat) : Int) + (84) = ((99 : Nat) : Int)) (fun c8 => ?_) (fun c8 => ?_)
    · refine am_iconst (v := 1) dX4_isKeyword_99 (by decide) ?_
      refine am_goto dX4_isKeyword_100 (by decide : ((100 : Nat) : Int) + (4) = ((104 : Nat) : Int)) ?_
      rw [show (fX4_isKeyword w ) = 1 from Eq.trans (if_pos c4) (Eq.trans (if_neg c8) (rfl))]
      exact am_ireturn dX4_isKeyword_104 rfl rfl ⟨rfl, rfl⟩
    · refine am_aload_n dX4_isKeyword_18 0 rfl ?_
      refine am_ldcS (j := 2) dX4_isKeyword_19 rfl ?_
      refine am_callV (As := [.ref (gS G 2)]) (rest := []) dX4_isKeyword_21 kMX4_56 rfl (hwc1 (w := w) hw) rfl rfl (Nat.le_of_ble_eq_true rfl) (d2 := 4) (by decide) (k2 := 0) (Nat.zero_le _) (u2 := 0) (Nat.zero_le _) (Nat.le_of_ble_eq_true rfl) (ctX4_spells (w := w) hw (j := 2) (q := sq2) rfl) (fun v9 h10 q11 => ?_)
      obtain ⟨rfl, rfl⟩ := q11
      refine am_if_ne dX4_isKeyword_24 (by decide : ((24 : Nat) : Int) + (75) = ((99 : Nat) : Int)) (fun c12 => ?_) (fun c12 => ?_)
      · refine am_iconst (v := 1) dX4_isKeyword_99 (by decide) ?_
        refine am_goto dX4_isKeyword_100 (by decide : ((100 : Nat) : Int) + (4) = ((104 : Nat) : Int)) ?_
        rw [show (fX4_isKeyword w ) = 1 from Eq.trans (if_pos c4) (Eq.trans (if_pos c8) (Eq.trans (if_neg c12) (rfl)))]
        exact am_ireturn dX4_isKeyword_104 rfl rfl ⟨rfl, rfl⟩
      · refine am_aload_n dX4_isKeyword_27 0 rfl ?_
        refine am_ldcS (j := 3) dX4_isKeyword_28 rfl ?_
        refine am_callV (As := [.ref (gS G 3)]) (rest := []) dX4_isKeyword_30 kMX4_56 rfl (hwc1 (w := w) hw) rfl rfl (Nat.le_of_ble_eq_true rfl) (d2 := 4) (by decide) (k2 := 0) (Nat.zero_le _) (u2 := 0) (Nat.zero_le _) (Nat.le_of_ble_eq_true rfl) (ctX4_spells (w := w) hw (j := 3) (q := sq3) rfl) (fun v13 h14 q15 => ?_)
        obtain ⟨rfl, rfl⟩ := q15
        refine am_if_ne dX4_isKeyword_33 (by decide : ((33 : Nat) : Int) + (66) = ((99 : Nat) : Int)) (fun c16 => ?_) (fun c16 => ?_)
        · refine am_iconst (v := 1) dX4_isKeyword_99 (by decide) ?_
          refine am_goto dX4_isKeyword_100 (by decide : ((100 : Nat) : Int) + (4) = ((104 : Nat) : Int)) ?_
          rw [show (fX4_isKeyword w ) = 1 from Eq.trans (if_pos c4) (Eq.trans (if_pos c8) (Eq.trans (if_pos c12) (Eq.trans (if_neg c16) (rfl))))]
          exact am_ireturn dX4_isKeyword_104 rfl rfl ⟨rfl, rfl⟩
        · refine am_aload_n dX4_isKeyword_36 0 rfl ?_
          refine am_ldcS (j := 4) dX4_isKeyword_37 rfl ?_
          refine am_callV (As := [.ref (gS G 4)]) (rest := []) dX4_isKeyword_39 kMX4_56 rfl (hwc1 (w := w) hw) rfl rfl (Nat.le_of_ble_eq_true rfl) (d2 := 4) (by decide) (k2 := 0) (Nat.zero_le _) (u2 := 0) (Nat.zero_le _) (Nat.le_of_ble_eq_true rfl) (ctX4_spells (w := w) hw (j := 4) (q := sq4) rfl) (fun v17 h18 q19 => ?_)
          obtain ⟨rfl, rfl⟩ := q19
          refine am_if_ne dX4_isKeyword_42 (by decide : ((42 : Nat) : Int) + (57) = ((99 : Nat) : Int)) (fun c20 => ?_) (fun c20 => ?_)
          · refine am_iconst (v := 1) dX4_isKeyword_99 (by decide) ?_
            refine am_goto dX4_isKeyword_100 (by decide : ((100 : Nat) : Int) + (4) = ((104 : Nat) : Int)) ?_
            rw [show (fX4_isKeyword w ) = 1 from Eq.trans (if_pos c4) (Eq.trans (if_pos c8) (Eq.trans (if_pos c12) (Eq.trans (if_pos c16) (Eq.trans (if_neg c20) (rfl)))))]
            exact am_ireturn dX4_isKeyword_104 rfl rfl ⟨rfl, rfl⟩
          · refine am_aload_n dX4_isKeyword_45 0 rfl ?_
            refine am_ldcS (j := 5) dX4_isKeyword_46 rfl ?_
            refine am_callV (As := [.ref (gS G 5)]) (rest := []) dX4_isKeyword_48 kMX4_56 rfl (hwc1 (w := w) hw) rfl rfl (Nat.le_of_ble_eq_true rfl) (d2 := 4) (by decide) (k2 := 0) (Nat.zero_le _) (u2 := 0) (Nat.zero_le _) (Nat.le_of_ble_eq_true rfl) (ctX4_spells (w := w) hw (j := 5) (q := sq5) rfl) (fun v21 h22 q23 => ?_)
            obtain ⟨rfl, rfl⟩ := q23
            refine am_if_ne dX4_isKeyword_51 (by decide : ((51 : Nat) : Int) + (48) = ((99 : Nat) : Int)) (fun c24 => ?_) (fun c24 => ?_)
            · refine am_iconst (v := 1) dX4_isKeyword_99 (by decide) ?_
              refine am_goto dX4_isKeyword_100 (by decide : ((100 : Nat) : Int) + (4) = ((104 : Nat) : Int)) ?_
              rw [show (fX4_isKeyword w ) = 1 from Eq.trans (if_pos c4) (Eq.trans (if_pos c8) (Eq.trans (if_pos c12) (Eq.trans (if_pos c16) (Eq.trans (if_pos c20) (Eq.trans (if_neg c24) (rfl))))))]
              exact am_ireturn dX4_isKeyword_104 rfl rfl ⟨rfl, rfl⟩
            · refine am_aload_n dX4_isKeyword_54 0 rfl ?_
              refine am_ldcS (j := 6) dX4_isKeyword_55 rfl ?_
              refine am_callV (As := [.ref (gS G 6)]) (rest := []) dX4_isKeyword_57 kMX4_56 rfl (hwc1 (w := w) hw) rfl rfl (Nat.le_of_ble_eq_true rfl) (d2 := 4) (by decide) (k2 := 0) (Nat.zero_le _) (u2 := 0) (Nat.zero_le _) (Nat.le_of_ble_eq_true rfl) (ctX4_spells (w := w) hw (j := 6) (q := sq6) rfl) (fun v25 h26 q27 => ?_)
              obtain ⟨rfl, rfl⟩ := q27
              refine am_if_ne dX4_isKeyword_60 (by decide : ((60 : Nat) : Int) + (39) = ((99 : Nat) : Int)) (fun c28 => ?_) (fun c28 => ?_)
              · refine am_iconst (v := 1) dX4_isKeyword_99 (by decide) ?_
                refine am_goto dX4_isKeyword_100 (by decide : ((100 : Nat) : Int) + (4) = ((104 : Nat) : Int)) ?_
                rw [show (fX4_isKeyword w ) = 1 from Eq.trans (if_pos c4) (Eq.trans (if_pos c8) (Eq.trans (if_pos c12) (Eq.trans (if_pos c16) (Eq.trans (if_pos c20) (Eq.trans (if_pos c24) (Eq.trans (if_neg c28) (rfl)))))))]
                exact am_ireturn dX4_isKeyword_104 rfl rfl ⟨rfl, rfl⟩
              · refine am_aload_n dX4_isKeyword_63 0 rfl ?_
                refine am_ldcS (j := 7) dX4_isKeyword_64 rfl ?_
                refine am_callV (As := [.ref (gS G 7)]) (rest := []) dX4_isKeyword_66 kMX4_56 rfl (hwc1 (w := w) hw) rfl rfl (Nat.le_of_ble_eq_true rfl) (d2 := 4) (by decide) (k2 := 0) (Nat.zero_le _) (u2 := 0) (Nat.zero_le _) (Nat.le_of_ble_eq_true rfl) (ctX4_spells (w := w) hw (j := 7) (q := sq7) rfl) (fun v29 h30 q31 => ?_)
                obtain ⟨rfl, rfl⟩ := q31
                refine am_if_ne dX4_isKeyword_69 (by decide : ((69 : Nat) : Int) + (30) = ((99 : Nat) : Int)) (fun c32 => ?_) (fun c32 => ?_)
                · refine am_iconst (v := 1) dX4_isKeyword_99 (by decide) ?_
                  refine am_goto dX4_isKeyword_100 (by decide : ((100 : Nat) : Int) + (4) = ((104 : Nat) : Int)) ?_
                  rw [show (fX4_isKeyword w ) = 1 from Eq.trans (if_pos c4) (Eq.trans (if_pos c8) (Eq.trans (if_pos c12) (Eq.trans (if_pos c16) (Eq.trans (if_pos c20) (Eq.trans (if_pos c24) (Eq.trans (if_pos c28) (Eq.trans (if_neg c32) (rfl))))))))]
                  exact am_ireturn dX4_isKeyword_104 rfl rfl ⟨rfl, rfl⟩
                · refine am_aload_n dX4_isKeyword_72 0 rfl ?_
                  refine am_ldcS (j := 8) dX4_isKeyword_73 rfl ?_
                  refine am_callV (As := [.ref (gS G 8)]) (rest := []) dX4_isKeyword_75 kMX4_56 rfl (hwc1 (w := w) hw) rfl rfl (Nat.le_of_ble_eq_true rfl) (d2 := 4) (by decide) (k2 := 0) (Nat.zero_le _) (u2 := 0) (Nat.zero_le _) (Nat.le_of_ble_eq_true rfl) (ctX4_spells (w := w) hw (j := 8) (q := sq8) rfl) (fun v33 h34 q35 => ?_)
                  obtain ⟨rfl, rfl⟩ := q35
                  refine am_if_ne dX4_isKeyword_78 (by decide : ((78 : Nat) : Int) + (21) = ((99 : Nat) : Int)) (fun c36 => ?_) (fun c36 => ?_)
                  · refine am_iconst (v := 1) dX4_isKeyword_99 (by decide) ?_
                    refine am_goto dX4_isKeyword_100 (by decide : ((100 : Nat) : Int) + (4) = ((104 : Nat) : Int)) ?_
                    rw [show (fX4_isKeyword w ) = 1 from Eq.trans (if_pos c4) (Eq.trans (if_pos c8) (Eq.trans (if_pos c12) (Eq.trans (if_pos c16) (Eq.trans (if_pos c20) (Eq.trans (if_pos c24) (Eq.trans (if_pos c28) (Eq.trans (if_pos c32) (Eq.trans (if_neg c36) (rfl)))))))))]
                    exact am_ireturn dX4_isKeyword_104 rfl rfl ⟨rfl, rfl⟩
                  · refine am_aload_n dX4_isKeyword_81 0 rfl ?_
                    refine am_ldcS (j := 9) dX4_isKeyword_82 rfl ?_
                    refine am_callV (As := [.ref (gS G 9)]) (rest := []) dX4_isKeyword_84 kMX4_56 rfl (hwc1 (w := w) hw) rfl rfl (Nat.le_of_ble_eq_true rfl) (d2 := 4) (by decide) (k2 := 0) (Nat.zero_le _) (u2 := 0) (Nat.zero_le _) (Nat.le_of_ble_eq_true rfl) (ctX4_spells (w := w) hw (j := 9) (q := sq9) rfl) (fun v37 h38 q39 => ?_)
                    obtain ⟨rfl, rfl⟩ := q39
                    refine am_if_ne dX4_isKeyword_87 (by decide : ((87 : Nat) : Int) + (12) = ((99 : Nat) : Int)) (fun c40 => ?_) (fun c40 => ?_)
                    · refine am_iconst (v := 1) dX4_isKeyword_99 (by decide) ?_
                      refine am_goto dX4_isKeyword_100 (by decide : ((100 : Nat) : Int) + (4) = ((104 : Nat) : Int)) ?_
                      rw [show (fX4_isKeyword w ) = 1 from Eq.trans (if_pos c4) (Eq.trans (if_pos c8) (Eq.trans (if_pos c12) (Eq.trans (if_pos c16) (Eq.trans (if_pos c20) (Eq.trans (if_pos c24) (Eq.trans (if_pos c28) (Eq.trans (if_pos c32) (Eq.trans (if_pos c36) (Eq.trans (if_neg c40) (rfl))))))))))]
                      exact am_ireturn dX4_isKeyword_104 rfl rfl ⟨rfl, rfl⟩
                    · refine am_aload_n dX4_isKeyword_90 0 rfl ?_
                      refine am_ldcS (j := 10) dX4_isKeyword_91 rfl ?_
                      refine am_callV (As := [.ref (gS G 10)]) (rest := []) dX4_isKeyword_93 kMX4_56 rfl (hwc1 (w := w) hw) rfl rfl (Nat.le_of_ble_eq_true rfl) (d2 := 4) (by decide) (k2 := 0) (Nat.zero_le _) (u2 := 0) (Nat.zero_le _) (Nat.le_of_ble_eq_true rfl) (ctX4_spells (w := w) hw (j := 10) (q := sq10) rfl) (fun v41 h42 q43 => ?_)
                      obtain ⟨rfl, rfl⟩ := q43
                      refine am_if_eq dX4_isKeyword_96 (by decide : ((96 : Nat) : Int) + (7) = ((103 : Nat) : Int)) (fun c44 => ?_) (fun c44 => ?_)
                      · refine am_iconst (v := 0) dX4_isKeyword_103 (by decide) ?_
                        rw [show (fX4_isKeyword w ) = 0 from Eq.trans (if_pos c4) (Eq.trans (if_pos c8) (Eq.trans (if_pos c12) (Eq.trans (if_pos c16) (Eq.trans (if_pos c20) (Eq.trans (if_pos c24) (Eq.trans (if_pos c28) (Eq.trans (if_pos c32) (Eq.trans (if_pos c36) (Eq.trans (if_pos c40) (Eq.trans (if_pos c44) (rfl)))))))))))]
                        exact am_ireturn dX4_isKeyword_104 rfl rfl ⟨rfl, rfl⟩
                      · refine am_iconst (v := 1) dX4_isKeyword_99 (by decide) ?_
                        refine am_goto dX4_isKeyword_100 (by decide : ((100 : Nat) : Int) + (4) = ((104 : Nat) : Int)) ?_
                        rw [show (fX4_isKeyword w ) = 1 from Eq.trans (if_pos c4) (Eq.trans (if_pos c8) (Eq.trans (if_pos c12) (Eq.trans (if_pos c16) (Eq.trans (if_pos c20) (Eq.trans (if_pos c24) (Eq.trans (if_pos c28) (Eq.trans (if_pos c32) (Eq.trans (if_pos c36) (Eq.trans (if_pos c40) (Eq.trans (if_neg c44) (rfl)))))))))))]
                        exact am_ireturn dX4_isKeyword_104 rfl rfl ⟨rfl, rfl⟩

theorem dX4_nameHere_0 : decode cX4_nameHere 0 = .ok (.aload_n 0, 1) := by decide +kernel
theorem dX4_nameHere_1 : decode cX4_nameHere 1 = .ok (.getfield 51, 3) := by decide +kernel
theorem dX4_nameHere_4 : decode cX4_nameHere 4 = .ok (.iconst 1, 1) := by decide +kernel
theorem dX4_nameHere_5 : decode cX4_nameHere 5 = .ok (.if_icmp .ne 28, 3) := by decide +kernel
theorem dX4_nameHere_8 : decode cX4_nameHere 8 = .ok (.aload_n 0, 1) := by decide +kernel
theorem dX4_nameHere_9 : decode cX4_nameHere 9 = .ok (.invokevirtual 208, 3) := by decide +kernel
theorem dX4_nameHere_12 : decode cX4_nameHere 12 = .ok (.ifCond .ne 21, 3) := by decide +kernel
theorem dX4_nameHere_15 : decode cX4_nameHere 15 = .ok (.aload_n 0, 1) := by decide +kernel
theorem dX4_nameHere_16 : decode cX4_nameHere 16 = .ok (.getfield 9, 3) := by decide +kernel
theorem dX4_nameHere_19 : decode cX4_nameHere 19 = .ok (.aload_n 0, 1) := by decide +kernel
theorem dX4_nameHere_20 : decode cX4_nameHere 20 = .ok (.getfield 197, 3) := by decide +kernel
theorem dX4_nameHere_23 : decode cX4_nameHere 23 = .ok (.aload_n 0, 1) := by decide +kernel
theorem dX4_nameHere_24 : decode cX4_nameHere 24 = .ok (.getfield 45, 3) := by decide +kernel
theorem dX4_nameHere_27 : decode cX4_nameHere 27 = .ok (.invokestatic 212, 3) := by decide +kernel
theorem dX4_nameHere_30 : decode cX4_nameHere 30 = .ok (.goto 4, 3) := by decide +kernel
theorem dX4_nameHere_33 : decode cX4_nameHere 33 = .ok (.iconst (-1), 1) := by decide +kernel
theorem dX4_nameHere_34 : decode cX4_nameHere 34 = .ok (.ireturn, 1) := by decide +kernel
def fX4_nameHere (w : Wd)  : Int32 := (if (w.1 4) = 1 then (if (fX4_isKeyword w ) = 0 then (fX6_packName 1200 (w.2.1 0) (w.1 5) (w.1 6)) else (-1)) else (-1))
set_option maxRecDepth 20000 in
theorem ctX4_nameHere {l : Launch} {G : GM} {K : Nat → Option va_E} {h : List va_E} {w : Wd} (hw : HW G K h w)  : Ct l G mX4_nameHere 6 0 0 [.ref (gz G + 1)] h (fun v h1 => v = some (.int (fX4_nameHere w )) ∧ h1 = h) := by
  show Tr l G mX4_nameHere 6 0 0 0 [(0, .ref (gz G + 1))] [] h _
  refine am_aload_n dX4_nameHere_0 0 rfl ?_
  refine am_get (v := .int (w.1 4)) dX4_nameHere_1 kGX4_51 (hwc1 (w := w) hw) rfl ?_
  refine am_iconst (v := 1) dX4_nameHere_4 (by decide) ?_
  refine am_icmp_ne dX4_nameHere_5 (by decide : ((5 : Nat) : Int) + (28) = ((33 : Nat) : Int)) (fun c1 => ?_) (fun c1 => ?_)
  · refine am_iconst (v := (-1)) dX4_nameHere_33 (by decide) ?_
    rw [show (fX4_nameHere w ) = (-1) from Eq.trans (if_neg c1) (rfl)]
    exact am_ireturn dX4_nameHere_34 rfl rfl ⟨rfl, rfl⟩
  · refine am_aload_n dX4_nameHere_8 0 rfl ?_
    refine am_callV (As := []) (rest := []) dX4_nameHere_9 kMX4_208 rfl (hwc1 (w := w) hw) rfl rfl (Nat.le_of_ble_eq_true rfl) (d2 := 5) (by decide) (k2 := 0) (Nat.zero_le _) (u2 := 0) (Nat.zero_le _) (Nat.le_of_ble_eq_true rfl) (ctX4_isKeyword (w := w) hw ) (fun v2 h3 q4 => ?_)
    obtain ⟨rfl, rfl⟩ := q4
    refine am_if_ne dX4_nameHere_12 (by decide : ((12 : Nat) : Int) + (21) = ((33 : Nat) : Int)) (fun c5 => ?_) (fun c5 => ?_)
    · refine am_iconst (v := (-1)) dX4_nameHere_33 (by decide) ?_
      rw [show (fX4_nameHere w ) = (-1) from Eq.trans (if_pos c1) (Eq.trans (if_neg c5) (rfl))]
      exact am_ireturn dX4_nameHere_34 rfl rfl ⟨rfl, rfl⟩
    · refine am_aload_n dX4_nameHere_15 0 rfl ?_
      refine am_get (v := .ref (gz G + 2)) dX4_nameHere_16 kGX4_9 (hwc1 (w := w) hw) rfl ?_
      refine am_aload_n dX4_nameHere_19 0 rfl ?_
      refine am_get (v := .int (w.1 5)) dX4_nameHere_20 kGX4_197 (hwc1 (w := w) hw) rfl ?_
      refine am_aload_n dX4_nameHere_23 0 rfl ?_
      refine am_get (v := .int (w.1 6)) dX4_nameHere_24 kGX4_45 (hwc1 (w := w) hw) rfl ?_
      refine am_callSN (As := [.ref (gz G + 2), .int (w.1 5), .int (w.1 6)]) (rest := []) dX4_nameHere_27 kMX4_212 rfl  rfl (Nat.le_of_ble_eq_true rfl) (d2 := 1) (by decide) (k2 := 0) (Nat.zero_le _) (u2 := 0) (Nat.zero_le _) (Nat.le_of_ble_eq_true rfl) (ctX6_packName (f := (w.2.1 0)) (hwc2 (w := w) hw) (by decide) (w.1 5) (w.1 6) ) (fun v6 h7 q8 => ?_)
      obtain ⟨rfl, rfl⟩ := q8
      refine am_goto dX4_nameHere_30 (by decide : ((30 : Nat) : Int) + (4) = ((34 : Nat) : Int)) ?_
      rw [show (fX4_nameHere w ) = (fX6_packName 1200 (w.2.1 0) (w.1 5) (w.1 6)) from Eq.trans (if_pos c1) (Eq.trans (if_pos c5) (rfl))]
      exact am_ireturn dX4_nameHere_34 rfl rfl ⟨rfl, rfl⟩

theorem dX4_takeKnownYarn_0 : decode cX4_takeKnownYarn 0 = .ok (.aload_n 2, 1) := by decide +kernel
theorem dX4_takeKnownYarn_1 : decode cX4_takeKnownYarn 1 = .ok (.getfield 133, 3) := by decide +kernel
theorem dX4_takeKnownYarn_4 : decode cX4_takeKnownYarn 4 = .ok (.aload_n 2, 1) := by decide +kernel
theorem dX4_takeKnownYarn_5 : decode cX4_takeKnownYarn 5 = .ok (.getfield 124, 3) := by decide +kernel
theorem dX4_takeKnownYarn_8 : decode cX4_takeKnownYarn 8 = .ok (.iload_n 1, 1) := by decide +kernel
theorem dX4_takeKnownYarn_9 : decode cX4_takeKnownYarn 9 = .ok (.invokestatic 204, 3) := by decide +kernel
theorem dX4_takeKnownYarn_12 : decode cX4_takeKnownYarn 12 = .ok (.istore_n 3, 1) := by decide +kernel
theorem dX4_takeKnownYarn_13 : decode cX4_takeKnownYarn 13 = .ok (.iload_n 1, 1) := by decide +kernel
theorem dX4_takeKnownYarn_14 : decode cX4_takeKnownYarn 14 = .ok (.iconst (-1), 1) := by decide +kernel
theorem dX4_takeKnownYarn_15 : decode cX4_takeKnownYarn 15 = .ok (.if_icmp .ne 11, 3) := by decide +kernel
theorem dX4_takeKnownYarn_18 : decode cX4_takeKnownYarn 18 = .ok (.aload_n 0, 1) := by decide +kernel
theorem dX4_takeKnownYarn_19 : decode cX4_takeKnownYarn 19 = .ok (.iconst 1, 1) := by decide +kernel
theorem dX4_takeKnownYarn_20 : decode cX4_takeKnownYarn 20 = .ok (.invokevirtual 98, 3) := by decide +kernel
theorem dX4_takeKnownYarn_23 : decode cX4_takeKnownYarn 23 = .ok (.goto 13, 3) := by decide +kernel
theorem dX4_takeKnownYarn_26 : decode cX4_takeKnownYarn 26 = .ok (.iload_n 3, 1) := by decide +kernel
theorem dX4_takeKnownYarn_27 : decode cX4_takeKnownYarn 27 = .ok (.iconst (-1), 1) := by decide +kernel
theorem dX4_takeKnownYarn_28 : decode cX4_takeKnownYarn 28 = .ok (.if_icmp .ne 8, 3) := by decide +kernel
theorem dX4_takeKnownYarn_31 : decode cX4_takeKnownYarn 31 = .ok (.aload_n 0, 1) := by decide +kernel
theorem dX4_takeKnownYarn_32 : decode cX4_takeKnownYarn 32 = .ok (.iconst 4, 1) := by decide +kernel
theorem dX4_takeKnownYarn_33 : decode cX4_takeKnownYarn 33 = .ok (.invokevirtual 98, 3) := by decide +kernel
theorem dX4_takeKnownYarn_36 : decode cX4_takeKnownYarn 36 = .ok (.aload_n 0, 1) := by decide +kernel
theorem dX4_takeKnownYarn_37 : decode cX4_takeKnownYarn 37 = .ok (.invokevirtual 48, 3) := by decide +kernel
theorem dX4_takeKnownYarn_40 : decode cX4_takeKnownYarn 40 = .ok (.iload_n 3, 1) := by decide +kernel
theorem dX4_takeKnownYarn_41 : decode cX4_takeKnownYarn 41 = .ok (.ireturn, 1) := by decide +kernel
def fX4_takeKnownYarn_6 (w : Wd) (z1 : Int32) : Int32 × Wd := (if z1 = (-1) then (bnd (fX4_refuse w 1) (fun r27 => (bnd (fX4_advance r27 ) (fun r33 => ((fX6_indexOfName 6 ((w.2.2.1 0).2 0) ((w.2.2.1 0).1 0) z1), r33))))) else (if (fX6_indexOfName 6 ((w.2.2.1 0).2 0) ((w.2.2.1 0).1 0) z1) = (-1) then (bnd (fX4_refuse w 4) (fun r15 => (bnd (fX4_advance r15 ) (fun r21 => ((fX6_indexOfName 6 ((w.2.2.1 0).2 0) ((w.2.2.1 0).1 0) z1), r21))))) else (bnd (fX4_advance w ) (fun r9 => ((fX6_indexOfName 6 ((w.2.2.1 0).2 0) ((w.2.2.1 0).1 0) z1), r9)))))
set_option maxRecDepth 20000 in
theorem ctX4_takeKnownYarn_6 {l : Launch} {G : GM} {K : Nat → Option va_E} {h : List va_E} {w : Wd} (hw : HW G K h w) (z1 : Int32) : Ct l G mX4_takeKnownYarn 2 0 0 [.ref (gz G + 1), .int z1, .ref (gz G + 4)] h (fun v h1 => ∃ r, (fX4_takeKnownYarn_6 w z1) = r ∧ v = some (.int r.1) ∧ HW G K h1 r.2) := by
  show Tr l G mX4_takeKnownYarn 2 0 0 0 [(0, .ref (gz G + 1)), (1, .int z1), (2, .ref (gz G + 4))] [] h _
  refine am_aload_n dX4_takeKnownYarn_0 2 rfl ?_
  refine am_get (v := .ref (gz G + 5)) dX4_takeKnownYarn_1 kGX4_133 (pl_1 (p := (w.2.2.1 0)) (hwP0 (w := w) hw)) rfl ?_
  refine am_aload_n dX4_takeKnownYarn_4 2 rfl ?_
  refine am_get (v := .int ((w.2.2.1 0).1 0)) dX4_takeKnownYarn_5 kGX4_124 (pl_1 (p := (w.2.2.1 0)) (hwP0 (w := w) hw)) rfl ?_
  refine am_iload_n dX4_takeKnownYarn_8 1 rfl ?_
  refine am_callSN (As := [.ref (gz G + 5), .int ((w.2.2.1 0).1 0), .int z1]) (rest := []) dX4_takeKnownYarn_9 kMX4_204 rfl  rfl (Nat.le_of_ble_eq_true rfl) (d2 := 1) (by decide) (k2 := 0) (Nat.zero_le _) (u2 := 0) (Nat.zero_le _) (Nat.le_of_ble_eq_true rfl) (ctX6_indexOfName (f := ((w.2.2.1 0).2 0)) (pl_r0 (p := (w.2.2.1 0)) (hwP0 (w := w) hw)) (by decide) ((w.2.2.1 0).1 0) z1 ) (fun v1 h2 q3 => ?_)
  obtain ⟨rfl, rfl⟩ := q3
  refine am_istore_n dX4_takeKnownYarn_12 (by decide) (lv' := [(3, .int (fX6_indexOfName 6 ((w.2.2.1 0).2 0) ((w.2.2.1 0).1 0) z1)), (0, .ref (gz G + 1)), (1, .int z1), (2, .ref (gz G + 4))]) rfl ?_
  refine am_iload_n dX4_takeKnownYarn_13 2 rfl ?_
  refine am_iconst (v := (-1)) dX4_takeKnownYarn_14 (by decide) ?_
  refine am_icmp_ne dX4_takeKnownYarn_15 (by decide : ((15 : Nat) : Int) + (11) = ((26 : Nat) : Int)) (fun c4 => ?_) (fun c4 => ?_)
  · refine am_iload_n dX4_takeKnownYarn_26 0 rfl ?_
    refine am_iconst (v := (-1)) dX4_takeKnownYarn_27 (by decide) ?_
    refine am_icmp_ne dX4_takeKnownYarn_28 (by decide : ((28 : Nat) : Int) + (8) = ((36 : Nat) : Int)) (fun c5 => ?_) (fun c5 => ?_)
    · refine am_aload_n dX4_takeKnownYarn_36 1 rfl ?_
      refine am_callV (As := []) (rest := []) dX4_takeKnownYarn_37 kMX4_48 rfl (hwc1 (w := w) hw) rfl rfl (Nat.le_of_ble_eq_true rfl) (d2 := 1) (by decide) (k2 := 0) (Nat.zero_le _) (u2 := 0) (Nat.zero_le _) (Nat.le_of_ble_eq_true rfl) (ctX4_advance (w := w) hw ) (fun v6 h7 q8 => ?_)
      obtain ⟨r9, e10, rfl, w11⟩ := q8
      refine am_iload_n dX4_takeKnownYarn_40 0 rfl ?_
      exact am_ireturn dX4_takeKnownYarn_41 rfl rfl ⟨_, Eq.trans (if_neg c4) (Eq.trans (if_neg c5) (bnd_eq e10 (rfl))), rfl, w11⟩
    · refine am_aload_n dX4_takeKnownYarn_31 1 rfl ?_
      refine am_iconst (v := 4) dX4_takeKnownYarn_32 (by decide) ?_
      refine am_callV (As := [.int 4]) (rest := []) dX4_takeKnownYarn_33 kMX4_98 rfl (hwc1 (w := w) hw) rfl rfl (Nat.le_of_ble_eq_true rfl) (d2 := 0) (by decide) (k2 := 0) (Nat.zero_le _) (u2 := 0) (Nat.zero_le _) (Nat.le_of_ble_eq_true rfl) (ctX4_refuse (w := w) hw 4) (fun v12 h13 q14 => ?_)
      obtain ⟨r15, e16, rfl, w17⟩ := q14
      refine am_aload_n dX4_takeKnownYarn_36 1 rfl ?_
      refine am_callV (As := []) (rest := []) dX4_takeKnownYarn_37 kMX4_48 rfl (hwc1 (w := r15) w17) rfl rfl (Nat.le_of_ble_eq_true rfl) (d2 := 1) (by decide) (k2 := 0) (Nat.zero_le _) (u2 := 0) (Nat.zero_le _) (Nat.le_of_ble_eq_true rfl) (ctX4_advance (w := r15) w17 ) (fun v18 h19 q20 => ?_)
      obtain ⟨r21, e22, rfl, w23⟩ := q20
      refine am_iload_n dX4_takeKnownYarn_40 0 rfl ?_
      exact am_ireturn dX4_takeKnownYarn_41 rfl rfl ⟨_, Eq.trans (if_neg c4) (Eq.trans (if_pos c5) (bnd_eq e16 (bnd_eq e22 (rfl)))), rfl, w23⟩
  · refine am_aload_n dX4_takeKnownYarn_18 1 rfl ?_
    refine am_iconst (v := 1) dX4_takeKnownYarn_19 (by decide) ?_
    refine am_callV (As := [.int 1]) (rest := []) dX4_takeKnownYarn_20 kMX4_98 rfl (hwc1 (w := w) hw) rfl rfl (Nat.le_of_ble_eq_true rfl) (d2 := 0) (by decide) (k2 := 0) (Nat.zero_le _) (u2 := 0) (Nat.zero_le _) (Nat.le_of_ble_eq_true rfl) (ctX4_refuse (w := w) hw 1) (fun v24 h25 q26 => ?_)
    obtain ⟨r27, e28, rfl, w29⟩ := q26
    refine am_goto dX4_takeKnownYarn_23 (by decide : ((23 : Nat) : Int) + (13) = ((36 : Nat) : Int)) ?_
    refine am_aload_n dX4_takeKnownYarn_36 1 rfl ?_
    refine am_callV (As := []) (rest := []) dX4_takeKnownYarn_37 kMX4_48 rfl (hwc1 (w := r27) w29) rfl rfl (Nat.le_of_ble_eq_true rfl) (d2 := 1) (by decide) (k2 := 0) (Nat.zero_le _) (u2 := 0) (Nat.zero_le _) (Nat.le_of_ble_eq_true rfl) (ctX4_advance (w := r27) w29 ) (fun v30 h31 q32 => ?_)
    obtain ⟨r33, e34, rfl, w35⟩ := q32
    refine am_iload_n dX4_takeKnownYarn_40 0 rfl ?_
    exact am_ireturn dX4_takeKnownYarn_41 rfl rfl ⟨_, Eq.trans (if_pos c4) (bnd_eq e28 (bnd_eq e34 (rfl))), rfl, w35⟩

theorem dX4_readKind_0 : decode cX4_readKind 0 = .ok (.iconst 0, 1) := by decide +kernel
theorem dX4_readKind_1 : decode cX4_readKind 1 = .ok (.istore_n 1, 1) := by decide +kernel
theorem dX4_readKind_2 : decode cX4_readKind 2 = .ok (.aload_n 0, 1) := by decide +kernel
theorem dX4_readKind_3 : decode cX4_readKind 3 = .ok (.ldc 215, 2) := by decide +kernel
theorem dX4_readKind_5 : decode cX4_readKind 5 = .ok (.invokevirtual 56, 3) := by decide +kernel
theorem dX4_readKind_8 : decode cX4_readKind 8 = .ok (.ifCond .eq 8, 3) := by decide +kernel
theorem dX4_readKind_11 : decode cX4_readKind 11 = .ok (.iconst 1, 1) := by decide +kernel
theorem dX4_readKind_12 : decode cX4_readKind 12 = .ok (.istore_n 1, 1) := by decide +kernel
theorem dX4_readKind_13 : decode cX4_readKind 13 = .ok (.goto 31, 3) := by decide +kernel
theorem dX4_readKind_16 : decode cX4_readKind 16 = .ok (.aload_n 0, 1) := by decide +kernel
theorem dX4_readKind_17 : decode cX4_readKind 17 = .ok (.ldc 217, 2) := by decide +kernel
theorem dX4_readKind_19 : decode cX4_readKind 19 = .ok (.invokevirtual 56, 3) := by decide +kernel
theorem dX4_readKind_22 : decode cX4_readKind 22 = .ok (.ifCond .eq 8, 3) := by decide +kernel
theorem dX4_readKind_25 : decode cX4_readKind 25 = .ok (.iconst 2, 1) := by decide +kernel
theorem dX4_readKind_26 : decode cX4_readKind 26 = .ok (.istore_n 1, 1) := by decide +kernel
theorem dX4_readKind_27 : decode cX4_readKind 27 = .ok (.goto 17, 3) := by decide +kernel
theorem dX4_readKind_30 : decode cX4_readKind 30 = .ok (.aload_n 0, 1) := by decide +kernel
theorem dX4_readKind_31 : decode cX4_readKind 31 = .ok (.ldc 219, 2) := by decide +kernel
theorem dX4_readKind_33 : decode cX4_readKind 33 = .ok (.invokevirtual 56, 3) := by decide +kernel
theorem dX4_readKind_36 : decode cX4_readKind 36 = .ok (.ifCond .ne 8, 3) := by decide +kernel
theorem dX4_readKind_39 : decode cX4_readKind 39 = .ok (.aload_n 0, 1) := by decide +kernel
theorem dX4_readKind_40 : decode cX4_readKind 40 = .ok (.iconst 1, 1) := by decide +kernel
theorem dX4_readKind_41 : decode cX4_readKind 41 = .ok (.invokevirtual 98, 3) := by decide +kernel
theorem dX4_readKind_44 : decode cX4_readKind 44 = .ok (.aload_n 0, 1) := by decide +kernel
theorem dX4_readKind_45 : decode cX4_readKind 45 = .ok (.invokevirtual 48, 3) := by decide +kernel
theorem dX4_readKind_48 : decode cX4_readKind 48 = .ok (.iload_n 1, 1) := by decide +kernel
theorem dX4_readKind_49 : decode cX4_readKind 49 = .ok (.ireturn, 1) := by decide +kernel
def fX4_readKind (w : Wd)  : Int32 × Wd := (if (fX4_spells w sq8) = 0 then (if (fX4_spells w sq9) = 0 then (if (fX4_spells w sq7) = 0 then (bnd (fX4_refuse w 1) (fun r22 => (bnd (fX4_advance r22 ) (fun r28 => (0, r28))))) else (bnd (fX4_advance w ) (fun r16 => (0, r16)))) else (bnd (fX4_advance w ) (fun r34 => (2, r34)))) else (bnd (fX4_advance w ) (fun r40 => (1, r40))))
set_option maxRecDepth 20000 in
theorem ctX4_readKind {l : Launch} {G : GM} {K : Nat → Option va_E} {h : List va_E} {w : Wd} (hw : HW G K h w)  : Ct l G mX4_readKind 5 0 0 [.ref (gz G + 1)] h (fun v h1 => ∃ r, (fX4_readKind w ) = r ∧ v = some (.int r.1) ∧ HW G K h1 r.2) := by
  show Tr l G mX4_readKind 5 0 0 0 [(0, .ref (gz G + 1))] [] h _
  refine am_iconst (v := 0) dX4_readKind_0 (by decide) ?_
  refine am_istore_n dX4_readKind_1 (by decide) (lv' := [(1, .int 0), (0, .ref (gz G + 1))]) rfl ?_
  refine am_aload_n dX4_readKind_2 1 rfl ?_
  refine am_ldcS (j := 8) dX4_readKind_3 rfl ?_
  refine am_callV (As := [.ref (gS G 8)]) (rest := []) dX4_readKind_5 kMX4_56 rfl (hwc1 (w := w) hw) rfl rfl (Nat.le_of_ble_eq_true rfl) (d2 := 4) (by decide) (k2 := 0) (Nat.zero_le _) (u2 := 0) (Nat.zero_le _) (Nat.le_of_ble_eq_true rfl) (ctX4_spells (w := w) hw (j := 8) (q := sq8) rfl) (fun v1 h2 q3 => ?_)
  obtain ⟨rfl, rfl⟩ := q3
  refine am_if_eq dX4_readKind_8 (by decide : ((8 : Nat) : Int) + (8) = ((16 : Nat) : Int)) (fun c4 => ?_) (fun c4 => ?_)
  · refine am_aload_n dX4_readKind_16 1 rfl ?_
    refine am_ldcS (j := 9) dX4_readKind_17 rfl ?_
    refine am_callV (As := [.ref (gS G 9)]) (rest := []) dX4_readKind_19 kMX4_56 rfl (hwc1 (w := w) hw) rfl rfl (Nat.le_of_ble_eq_true rfl) (d2 := 4) (by decide) (k2 := 0) (Nat.zero_le _) (u2 := 0) (Nat.zero_le _) (Nat.le_of_ble_eq_true rfl) (ctX4_spells (w := w) hw (j := 9) (q := sq9) rfl) (fun v5 h6 q7 => ?_)
    obtain ⟨rfl, rfl⟩ := q7
    refine am_if_eq dX4_readKind_22 (by decide : ((22 : Nat) : Int) + (8) = ((30 : Nat) : Int)) (fun c8 => ?_) (fun c8 => ?_)
    · refine am_aload_n dX4_readKind_30 1 rfl ?_
      refine am_ldcS (j := 7) dX4_readKind_31 rfl ?_
      refine am_callV (As := [.ref (gS G 7)]) (rest := []) dX4_readKind_33 kMX4_56 rfl (hwc1 (w := w) hw) rfl rfl (Nat.le_of_ble_eq_true rfl) (d2 := 4) (by decide) (k2 := 0) (Nat.zero_le _) (u2 := 0) (Nat.zero_le _) (Nat.le_of_ble_eq_true rfl) (ctX4_spells (w := w) hw (j := 7) (q := sq7) rfl) (fun v9 h10 q11 => ?_)
      obtain ⟨rfl, rfl⟩ := q11
      refine am_if_ne dX4_readKind_36 (by decide : ((36 : Nat) : Int) + (8) = ((44 : Nat) : Int)) (fun c12 => ?_) (fun c12 => ?_)
      · refine am_aload_n dX4_readKind_44 1 rfl ?_
        refine am_callV (As := []) (rest := []) dX4_readKind_45 kMX4_48 rfl (hwc1 (w := w) hw) rfl rfl (Nat.le_of_ble_eq_true rfl) (d2 := 1) (by decide) (k2 := 0) (Nat.zero_le _) (u2 := 0) (Nat.zero_le _) (Nat.le_of_ble_eq_true rfl) (ctX4_advance (w := w) hw ) (fun v13 h14 q15 => ?_)
        obtain ⟨r16, e17, rfl, w18⟩ := q15
        refine am_iload_n dX4_readKind_48 0 rfl ?_
        exact am_ireturn dX4_readKind_49 rfl rfl ⟨_, Eq.trans (if_pos c4) (Eq.trans (if_pos c8) (Eq.trans (if_neg c12) (bnd_eq e17 (rfl)))), rfl, w18⟩
      · refine am_aload_n dX4_readKind_39 1 rfl ?_
        refine am_iconst (v := 1) dX4_readKind_40 (by decide) ?_
        refine am_callV (As := [.int 1]) (rest := []) dX4_readKind_41 kMX4_98 rfl (hwc1 (w := w) hw) rfl rfl (Nat.le_of_ble_eq_true rfl) (d2 := 0) (by decide) (k2 := 0) (Nat.zero_le _) (u2 := 0) (Nat.zero_le _) (Nat.le_of_ble_eq_true rfl) (ctX4_refuse (w := w) hw 1) (fun v19 h20 q21 => ?_)
        obtain ⟨r22, e23, rfl, w24⟩ := q21
        refine am_aload_n dX4_readKind_44 1 rfl ?_
        refine am_callV (As := []) (rest := []) dX4_readKind_45 kMX4_48 rfl (hwc1 (w := r22) w24) rfl rfl (Nat.le_of_ble_eq_true rfl) (d2 := 1) (by decide) (k2 := 0) (Nat.zero_le _) (u2 := 0) (Nat.zero_le _) (Nat.le_of_ble_eq_true rfl) (ctX4_advance (w := r22) w24 ) (fun v25 h26 q27 => ?_)
        obtain ⟨r28, e29, rfl, w30⟩ := q27
        refine am_iload_n dX4_readKind_48 0 rfl ?_
        exact am_ireturn dX4_readKind_49 rfl rfl ⟨_, Eq.trans (if_pos c4) (Eq.trans (if_pos c8) (Eq.trans (if_pos c12) (bnd_eq e23 (bnd_eq e29 (rfl))))), rfl, w30⟩
    · refine am_iconst (v := 2) dX4_readKind_25 (by decide) ?_
      refine am_istore_n dX4_readKind_26 (by decide) (lv' := [(1, .int 2), (0, .ref (gz G + 1))]) rfl ?_
      refine am_goto dX4_readKind_27 (by decide : ((27 : Nat) : Int) + (17) = ((44 : Nat) : Int)) ?_
      refine am_aload_n dX4_readKind_44 1 rfl ?_
      refine am_callV (As := []) (rest := []) dX4_readKind_45 kMX4_48 rfl (hwc1 (w := w) hw) rfl rfl (Nat.le_of_ble_eq_true rfl) (d2 := 1) (by decide) (k2 := 0) (Nat.zero_le _) (u2 := 0) (Nat.zero_le _) (Nat.le_of_ble_eq_true rfl) (ctX4_advance (w := w) hw ) (fun v31 h32 q33 => ?_)
      obtain ⟨r34, e35, rfl, w36⟩ := q33
      refine am_iload_n dX4_readKind_48 0 rfl ?_
      exact am_ireturn dX4_readKind_49 rfl rfl ⟨_, Eq.trans (if_pos c4) (Eq.trans (if_neg c8) (bnd_eq e35 (rfl))), rfl, w36⟩
  · refine am_iconst (v := 1) dX4_readKind_11 (by decide) ?_
    refine am_istore_n dX4_readKind_12 (by decide) (lv' := [(1, .int 1), (0, .ref (gz G + 1))]) rfl ?_
    refine am_goto dX4_readKind_13 (by decide : ((13 : Nat) : Int) + (31) = ((44 : Nat) : Int)) ?_
    refine am_aload_n dX4_readKind_44 1 rfl ?_
    refine am_callV (As := []) (rest := []) dX4_readKind_45 kMX4_48 rfl (hwc1 (w := w) hw) rfl rfl (Nat.le_of_ble_eq_true rfl) (d2 := 1) (by decide) (k2 := 0) (Nat.zero_le _) (u2 := 0) (Nat.zero_le _) (Nat.le_of_ble_eq_true rfl) (ctX4_advance (w := w) hw ) (fun v37 h38 q39 => ?_)
    obtain ⟨r40, e41, rfl, w42⟩ := q39
    refine am_iload_n dX4_readKind_48 0 rfl ?_
    exact am_ireturn dX4_readKind_49 rfl rfl ⟨_, Eq.trans (if_neg c4) (bnd_eq e41 (rfl)), rfl, w42⟩

theorem dX4_readNumber_0 : decode cX4_readNumber 0 = .ok (.aload_n 0, 1) := by decide +kernel
theorem dX4_readNumber_1 : decode cX4_readNumber 1 = .ok (.getfield 190, 3) := by decide +kernel
theorem dX4_readNumber_4 : decode cX4_readNumber 4 = .ok (.istore_n 3, 1) := by decide +kernel
theorem dX4_readNumber_5 : decode cX4_readNumber 5 = .ok (.aload_n 0, 1) := by decide +kernel
theorem dX4_readNumber_6 : decode cX4_readNumber 6 = .ok (.getfield 51, 3) := by decide +kernel
theorem dX4_readNumber_9 : decode cX4_readNumber 9 = .ok (.iconst 2, 1) := by decide +kernel
theorem dX4_readNumber_10 : decode cX4_readNumber 10 = .ok (.if_icmp .eq 11, 3) := by decide +kernel
theorem dX4_readNumber_13 : decode cX4_readNumber 13 = .ok (.aload_n 0, 1) := by decide +kernel
theorem dX4_readNumber_14 : decode cX4_readNumber 14 = .ok (.iconst 1, 1) := by decide +kernel
theorem dX4_readNumber_15 : decode cX4_readNumber 15 = .ok (.invokevirtual 98, 3) := by decide +kernel
theorem dX4_readNumber_18 : decode cX4_readNumber 18 = .ok (.goto 17, 3) := by decide +kernel
theorem dX4_readNumber_21 : decode cX4_readNumber 21 = .ok (.iload_n 3, 1) := by decide +kernel
theorem dX4_readNumber_22 : decode cX4_readNumber 22 = .ok (.iload_n 1, 1) := by decide +kernel
theorem dX4_readNumber_23 : decode cX4_readNumber 23 = .ok (.iload_n 2, 1) := by decide +kernel
theorem dX4_readNumber_24 : decode cX4_readNumber 24 = .ok (.invokestatic 193, 3) := by decide +kernel
theorem dX4_readNumber_27 : decode cX4_readNumber 27 = .ok (.ifCond .ne 8, 3) := by decide +kernel
theorem dX4_readNumber_30 : decode cX4_readNumber 30 = .ok (.aload_n 0, 1) := by decide +kernel
theorem dX4_readNumber_31 : decode cX4_readNumber 31 = .ok (.iconst 2, 1) := by decide +kernel
theorem dX4_readNumber_32 : decode cX4_readNumber 32 = .ok (.invokevirtual 98, 3) := by decide +kernel
theorem dX4_readNumber_35 : decode cX4_readNumber 35 = .ok (.aload_n 0, 1) := by decide +kernel
theorem dX4_readNumber_36 : decode cX4_readNumber 36 = .ok (.invokevirtual 48, 3) := by decide +kernel
theorem dX4_readNumber_39 : decode cX4_readNumber 39 = .ok (.iload_n 3, 1) := by decide +kernel
theorem dX4_readNumber_40 : decode cX4_readNumber 40 = .ok (.ireturn, 1) := by decide +kernel
def fX4_readNumber (w : Wd) (z1 : Int32) (z2 : Int32) : Int32 × Wd := (if (w.1 4) = 2 then (if (fX6_isBetween (w.1 7) z1 z2) = 0 then (bnd (fX4_refuse w 2) (fun r15 => (bnd (fX4_advance r15 ) (fun r21 => ((w.1 7), r21))))) else (bnd (fX4_advance w ) (fun r9 => ((w.1 7), r9)))) else (bnd (fX4_refuse w 1) (fun r27 => (bnd (fX4_advance r27 ) (fun r33 => ((w.1 7), r33))))))
set_option maxRecDepth 20000 in
theorem ctX4_readNumber {l : Launch} {G : GM} {K : Nat → Option va_E} {h : List va_E} {w : Wd} (hw : HW G K h w) (z1 : Int32) (z2 : Int32) : Ct l G mX4_readNumber 2 0 0 [.ref (gz G + 1), .int z1, .int z2] h (fun v h1 => ∃ r, (fX4_readNumber w z1 z2) = r ∧ v = some (.int r.1) ∧ HW G K h1 r.2) := by
  show Tr l G mX4_readNumber 2 0 0 0 [(0, .ref (gz G + 1)), (1, .int z1), (2, .int z2)] [] h _
  refine am_aload_n dX4_readNumber_0 0 rfl ?_
  refine am_get (v := .int (w.1 7)) dX4_readNumber_1 kGX4_190 (hwc1 (w := w) hw) rfl ?_
  refine am_istore_n dX4_readNumber_4 (by decide) (lv' := [(3, .int (w.1 7)), (0, .ref (gz G + 1)), (1, .int z1), (2, .int z2)]) rfl ?_
  refine am_aload_n dX4_readNumber_5 1 rfl ?_
  refine am_get (v := .int (w.1 4)) dX4_readNumber_6 kGX4_51 (hwc1 (w := w) hw) rfl ?_
  refine am_iconst (v := 2) dX4_readNumber_9 (by decide) ?_
  refine am_icmp_eq dX4_readNumber_10 (by decide : ((10 : Nat) : Int) + (11) = ((21 : Nat) : Int)) (fun c1 => ?_) (fun c1 => ?_)
  · refine am_iload_n dX4_readNumber_21 0 rfl ?_
    refine am_iload_n dX4_readNumber_22 2 rfl ?_
    refine am_iload_n dX4_readNumber_23 3 rfl ?_
    refine am_callSN (As := [.int (w.1 7), .int z1, .int z2]) (rest := []) dX4_readNumber_24 kMX4_193 rfl  rfl (Nat.le_of_ble_eq_true rfl) (d2 := 0) (by decide) (k2 := 0) (Nat.zero_le _) (u2 := 0) (Nat.zero_le _) (Nat.le_of_ble_eq_true rfl) (ctX6_isBetween  (w.1 7) z1 z2 ) (fun v2 h3 q4 => ?_)
    obtain ⟨rfl, rfl⟩ := q4
    refine am_if_ne dX4_readNumber_27 (by decide : ((27 : Nat) : Int) + (8) = ((35 : Nat) : Int)) (fun c5 => ?_) (fun c5 => ?_)
    · refine am_aload_n dX4_readNumber_35 1 rfl ?_
      refine am_callV (As := []) (rest := []) dX4_readNumber_36 kMX4_48 rfl (hwc1 (w := w) hw) rfl rfl (Nat.le_of_ble_eq_true rfl) (d2 := 1) (by decide) (k2 := 0) (Nat.zero_le _) (u2 := 0) (Nat.zero_le _) (Nat.le_of_ble_eq_true rfl) (ctX4_advance (w := w) hw ) (fun v6 h7 q8 => ?_)
      obtain ⟨r9, e10, rfl, w11⟩ := q8
      refine am_iload_n dX4_readNumber_39 0 rfl ?_
      exact am_ireturn dX4_readNumber_40 rfl rfl ⟨_, Eq.trans (if_pos c1) (Eq.trans (if_neg c5) (bnd_eq e10 (rfl))), rfl, w11⟩
    · refine am_aload_n dX4_readNumber_30 1 rfl ?_
      refine am_iconst (v := 2) dX4_readNumber_31 (by decide) ?_
      refine am_callV (As := [.int 2]) (rest := []) dX4_readNumber_32 kMX4_98 rfl (hwc1 (w := w) hw) rfl rfl (Nat.le_of_ble_eq_true rfl) (d2 := 0) (by decide) (k2 := 0) (Nat.zero_le _) (u2 := 0) (Nat.zero_le _) (Nat.le_of_ble_eq_true rfl) (ctX4_refuse (w := w) hw 2) (fun v12 h13 q14 => ?_)
      obtain ⟨r15, e16, rfl, w17⟩ := q14
      refine am_aload_n dX4_readNumber_35 1 rfl ?_
      refine am_callV (As := []) (rest := []) dX4_readNumber_36 kMX4_48 rfl (hwc1 (w := r15) w17) rfl rfl (Nat.le_of_ble_eq_true rfl) (d2 := 1) (by decide) (k2 := 0) (Nat.zero_le _) (u2 := 0) (Nat.zero_le _) (Nat.le_of_ble_eq_true rfl) (ctX4_advance (w := r15) w17 ) (fun v18 h19 q20 => ?_)
      obtain ⟨r21, e22, rfl, w23⟩ := q20
      refine am_iload_n dX4_readNumber_39 0 rfl ?_
      exact am_ireturn dX4_readNumber_40 rfl rfl ⟨_, Eq.trans (if_pos c1) (Eq.trans (if_pos c5) (bnd_eq e16 (bnd_eq e22 (rfl)))), rfl, w23⟩
  · refine am_aload_n dX4_readNumber_13 1 rfl ?_
    refine am_iconst (v := 1) dX4_readNumber_14 (by decide) ?_
    refine am_callV (As := [.int 1]) (rest := []) dX4_readNumber_15 kMX4_98 rfl (hwc1 (w := w) hw) rfl rfl (Nat.le_of_ble_eq_true rfl) (d2 := 0) (by decide) (k2 := 0) (Nat.zero_le _) (u2 := 0) (Nat.zero_le _) (Nat.le_of_ble_eq_true rfl) (ctX4_refuse (w := w) hw 1) (fun v24 h25 q26 => ?_)
    obtain ⟨r27, e28, rfl, w29⟩ := q26
    refine am_goto dX4_readNumber_18 (by decide : ((18 : Nat) : Int) + (17) = ((35 : Nat) : Int)) ?_
    refine am_aload_n dX4_readNumber_35 1 rfl ?_
    refine am_callV (As := []) (rest := []) dX4_readNumber_36 kMX4_48 rfl (hwc1 (w := r27) w29) rfl rfl (Nat.le_of_ble_eq_true rfl) (d2 := 1) (by decide) (k2 := 0) (Nat.zero_le _) (u2 := 0) (Nat.zero_le _) (Nat.le_of_ble_eq_true rfl) (ctX4_advance (w := r27) w29 ) (fun v30 h31 q32 => ?_)
    obtain ⟨r33, e34, rfl, w35⟩ := q32
    refine am_iload_n dX4_readNumber_39 0 rfl ?_
    exact am_ireturn dX4_readNumber_40 rfl rfl ⟨_, Eq.trans (if_neg c1) (bnd_eq e28 (bnd_eq e34 (rfl))), rfl, w35⟩

theorem dX4_endStatement_0 : decode cX4_endStatement 0 = .ok (.aload_n 0, 1) := by decide +kernel
theorem dX4_endStatement_1 : decode cX4_endStatement 1 = .ok (.getfield 51, 3) := by decide +kernel
theorem dX4_endStatement_4 : decode cX4_endStatement 4 = .ok (.iconst 3, 1) := by decide +kernel
theorem dX4_endStatement_5 : decode cX4_endStatement 5 = .ok (.if_icmp .ne 19, 3) := by decide +kernel
theorem dX4_endStatement_8 : decode cX4_endStatement 8 = .ok (.aload_n 0, 1) := by decide +kernel
theorem dX4_endStatement_9 : decode cX4_endStatement 9 = .ok (.getfield 9, 3) := by decide +kernel
theorem dX4_endStatement_12 : decode cX4_endStatement 12 = .ok (.aload_n 0, 1) := by decide +kernel
theorem dX4_endStatement_13 : decode cX4_endStatement 13 = .ok (.getfield 197, 3) := by decide +kernel
theorem dX4_endStatement_16 : decode cX4_endStatement 16 = .ok (.invokestatic 200, 3) := by decide +kernel
theorem dX4_endStatement_19 : decode cX4_endStatement 19 = .ok (.bipush 59, 2) := by decide +kernel
theorem dX4_endStatement_21 : decode cX4_endStatement 21 = .ok (.if_icmp .eq 8, 3) := by decide +kernel
theorem dX4_endStatement_24 : decode cX4_endStatement 24 = .ok (.aload_n 0, 1) := by decide +kernel
theorem dX4_endStatement_25 : decode cX4_endStatement 25 = .ok (.iconst 1, 1) := by decide +kernel
theorem dX4_endStatement_26 : decode cX4_endStatement 26 = .ok (.invokevirtual 98, 3) := by decide +kernel
theorem dX4_endStatement_29 : decode cX4_endStatement 29 = .ok (.aload_n 0, 1) := by decide +kernel
theorem dX4_endStatement_30 : decode cX4_endStatement 30 = .ok (.invokevirtual 48, 3) := by decide +kernel
theorem dX4_endStatement_33 : decode cX4_endStatement 33 = .ok (.return_, 1) := by decide +kernel
def fX4_endStatement (w : Wd)  : Wd := (if (w.1 4) = 3 then (if (fX6_at 1200 (w.2.1 0) (w.1 5)) = 59 then (bnd (fX4_advance w ) (fun r21 => r21)) else (bnd (fX4_refuse w 1) (fun r27 => (bnd (fX4_advance r27 ) (fun r33 => r33))))) else (bnd (fX4_refuse w 1) (fun r5 => (bnd (fX4_advance r5 ) (fun r11 => r11)))))
set_option maxRecDepth 20000 in
theorem ctX4_endStatement {l : Launch} {G : GM} {K : Nat → Option va_E} {h : List va_E} {w : Wd} (hw : HW G K h w)  : Ct l G mX4_endStatement 2 0 0 [.ref (gz G + 1)] h (fun v h1 => ∃ r, (fX4_endStatement w ) = r ∧ v = none ∧ HW G K h1 r) := by
  show Tr l G mX4_endStatement 2 0 0 0 [(0, .ref (gz G + 1))] [] h _
  refine am_aload_n dX4_endStatement_0 0 rfl ?_
  refine am_get (v := .int (w.1 4)) dX4_endStatement_1 kGX4_51 (hwc1 (w := w) hw) rfl ?_
  refine am_iconst (v := 3) dX4_endStatement_4 (by decide) ?_
  refine am_icmp_ne dX4_endStatement_5 (by decide : ((5 : Nat) : Int) + (19) = ((24 : Nat) : Int)) (fun c1 => ?_) (fun c1 => ?_)
  · refine am_aload_n dX4_endStatement_24 0 rfl ?_
    refine am_iconst (v := 1) dX4_endStatement_25 (by decide) ?_
    refine am_callV (As := [.int 1]) (rest := []) dX4_endStatement_26 kMX4_98 rfl (hwc1 (w := w) hw) rfl rfl (Nat.le_of_ble_eq_true rfl) (d2 := 0) (by decide) (k2 := 0) (Nat.zero_le _) (u2 := 0) (Nat.zero_le _) (Nat.le_of_ble_eq_true rfl) (ctX4_refuse (w := w) hw 1) (fun v2 h3 q4 => ?_)
    obtain ⟨r5, e6, rfl, w7⟩ := q4
    refine am_aload_n dX4_endStatement_29 0 rfl ?_
    refine am_callV (As := []) (rest := []) dX4_endStatement_30 kMX4_48 rfl (hwc1 (w := r5) w7) rfl rfl (Nat.le_of_ble_eq_true rfl) (d2 := 1) (by decide) (k2 := 0) (Nat.zero_le _) (u2 := 0) (Nat.zero_le _) (Nat.le_of_ble_eq_true rfl) (ctX4_advance (w := r5) w7 ) (fun v8 h9 q10 => ?_)
    obtain ⟨r11, e12, rfl, w13⟩ := q10
    exact am_return dX4_endStatement_33 rfl ⟨_, Eq.trans (if_neg c1) (bnd_eq e6 (bnd_eq e12 (rfl))), rfl, w13⟩
  · refine am_aload_n dX4_endStatement_8 0 rfl ?_
    refine am_get (v := .ref (gz G + 2)) dX4_endStatement_9 kGX4_9 (hwc1 (w := w) hw) rfl ?_
    refine am_aload_n dX4_endStatement_12 0 rfl ?_
    refine am_get (v := .int (w.1 5)) dX4_endStatement_13 kGX4_197 (hwc1 (w := w) hw) rfl ?_
    refine am_callSN (As := [.ref (gz G + 2), .int (w.1 5)]) (rest := []) dX4_endStatement_16 kMX4_200 rfl  rfl (Nat.le_of_ble_eq_true rfl) (d2 := 0) (by decide) (k2 := 0) (Nat.zero_le _) (u2 := 0) (Nat.zero_le _) (Nat.le_of_ble_eq_true rfl) (ctX6_at (f := (w.2.1 0)) (hwc2 (w := w) hw) (by decide) (w.1 5) ) (fun v14 h15 q16 => ?_)
    obtain ⟨rfl, rfl⟩ := q16
    refine am_bipush (v := 59) dX4_endStatement_19 (by decide) ?_
    refine am_icmp_eq dX4_endStatement_21 (by decide : ((21 : Nat) : Int) + (8) = ((29 : Nat) : Int)) (fun c17 => ?_) (fun c17 => ?_)
    · refine am_aload_n dX4_endStatement_29 0 rfl ?_
      refine am_callV (As := []) (rest := []) dX4_endStatement_30 kMX4_48 rfl (hwc1 (w := w) hw) rfl rfl (Nat.le_of_ble_eq_true rfl) (d2 := 1) (by decide) (k2 := 0) (Nat.zero_le _) (u2 := 0) (Nat.zero_le _) (Nat.le_of_ble_eq_true rfl) (ctX4_advance (w := w) hw ) (fun v18 h19 q20 => ?_)
      obtain ⟨r21, e22, rfl, w23⟩ := q20
      exact am_return dX4_endStatement_33 rfl ⟨_, Eq.trans (if_pos c1) (Eq.trans (if_pos c17) (bnd_eq e22 (rfl))), rfl, w23⟩
    · refine am_aload_n dX4_endStatement_24 0 rfl ?_
      refine am_iconst (v := 1) dX4_endStatement_25 (by decide) ?_
      refine am_callV (As := [.int 1]) (rest := []) dX4_endStatement_26 kMX4_98 rfl (hwc1 (w := w) hw) rfl rfl (Nat.le_of_ble_eq_true rfl) (d2 := 0) (by decide) (k2 := 0) (Nat.zero_le _) (u2 := 0) (Nat.zero_le _) (Nat.le_of_ble_eq_true rfl) (ctX4_refuse (w := w) hw 1) (fun v24 h25 q26 => ?_)
      obtain ⟨r27, e28, rfl, w29⟩ := q26
      refine am_aload_n dX4_endStatement_29 0 rfl ?_
      refine am_callV (As := []) (rest := []) dX4_endStatement_30 kMX4_48 rfl (hwc1 (w := r27) w29) rfl rfl (Nat.le_of_ble_eq_true rfl) (d2 := 1) (by decide) (k2 := 0) (Nat.zero_le _) (u2 := 0) (Nat.zero_le _) (Nat.le_of_ble_eq_true rfl) (ctX4_advance (w := r27) w29 ) (fun v30 h31 q32 => ?_)
      obtain ⟨r33, e34, rfl, w35⟩ := q32
      exact am_return dX4_endStatement_33 rfl ⟨_, Eq.trans (if_pos c1) (Eq.trans (if_neg c17) (bnd_eq e28 (bnd_eq e34 (rfl)))), rfl, w35⟩

theorem dX4_readTimes_0 : decode cX4_readTimes 0 = .ok (.aload_n 0, 1) := by decide +kernel
theorem dX4_readTimes_1 : decode cX4_readTimes 1 = .ok (.invokevirtual 48, 3) := by decide +kernel
theorem dX4_readTimes_4 : decode cX4_readTimes 4 = .ok (.aload_n 0, 1) := by decide +kernel
theorem dX4_readTimes_5 : decode cX4_readTimes 5 = .ok (.getfield 51, 3) := by decide +kernel
theorem dX4_readTimes_8 : decode cX4_readTimes 8 = .ok (.iconst 2, 1) := by decide +kernel
theorem dX4_readTimes_9 : decode cX4_readTimes 9 = .ok (.if_icmp .ne 38, 3) := by decide +kernel
theorem dX4_readTimes_12 : decode cX4_readTimes 12 = .ok (.aload_n 0, 1) := by decide +kernel
theorem dX4_readTimes_13 : decode cX4_readTimes 13 = .ok (.getfield 190, 3) := by decide +kernel
theorem dX4_readTimes_16 : decode cX4_readTimes 16 = .ok (.iconst 1, 1) := by decide +kernel
theorem dX4_readTimes_17 : decode cX4_readTimes 17 = .ok (.bipush 14, 2) := by decide +kernel
theorem dX4_readTimes_19 : decode cX4_readTimes 19 = .ok (.invokestatic 193, 3) := by decide +kernel
theorem dX4_readTimes_22 : decode cX4_readTimes 22 = .ok (.ifCond .eq 25, 3) := by decide +kernel
theorem dX4_readTimes_25 : decode cX4_readTimes 25 = .ok (.aload_n 0, 1) := by decide +kernel
theorem dX4_readTimes_26 : decode cX4_readTimes 26 = .ok (.getfield 18, 3) := by decide +kernel
theorem dX4_readTimes_29 : decode cX4_readTimes 29 = .ok (.getfield 171, 3) := by decide +kernel
theorem dX4_readTimes_32 : decode cX4_readTimes 32 = .ok (.aload_n 0, 1) := by decide +kernel
theorem dX4_readTimes_33 : decode cX4_readTimes 33 = .ok (.getfield 190, 3) := by decide +kernel
theorem dX4_readTimes_36 : decode cX4_readTimes 36 = .ok (.iadd, 1) := by decide +kernel
theorem dX4_readTimes_37 : decode cX4_readTimes 37 = .ok (.bipush 14, 2) := by decide +kernel
theorem dX4_readTimes_39 : decode cX4_readTimes 39 = .ok (.if_icmp .le 8, 3) := by decide +kernel
theorem dX4_readTimes_42 : decode cX4_readTimes 42 = .ok (.aload_n 0, 1) := by decide +kernel
theorem dX4_readTimes_43 : decode cX4_readTimes 43 = .ok (.iconst 5, 1) := by decide +kernel
theorem dX4_readTimes_44 : decode cX4_readTimes 44 = .ok (.invokevirtual 98, 3) := by decide +kernel
theorem dX4_readTimes_47 : decode cX4_readTimes 47 = .ok (.aload_n 0, 1) := by decide +kernel
theorem dX4_readTimes_48 : decode cX4_readTimes 48 = .ok (.iconst 1, 1) := by decide +kernel
theorem dX4_readTimes_49 : decode cX4_readTimes 49 = .ok (.bipush 14, 2) := by decide +kernel
theorem dX4_readTimes_51 : decode cX4_readTimes 51 = .ok (.invokevirtual 106, 3) := by decide +kernel
theorem dX4_readTimes_54 : decode cX4_readTimes 54 = .ok (.ireturn, 1) := by decide +kernel
def fX4_readTimes (w : Wd)  : Int32 × Wd := (bnd (fX4_advance w ) (fun r4 => (if (r4.1 4) = 2 then (if (fX6_isBetween (r4.1 7) 1 14) = 0 then (bnd (fX4_readNumber r4 1 14) (fun r21 => (r21.1, r21.2))) else (if (((r4.2.2.1 0).1 8) + (r4.1 7)) ≤ 14 then (bnd (fX4_readNumber r4 1 14) (fun r28 => (r28.1, r28.2))) else (bnd (fX4_refuse r4 5) (fun r34 => (bnd (fX4_readNumber r34 1 14) (fun r40 => (r40.1, r40.2))))))) else (bnd (fX4_readNumber r4 1 14) (fun r11 => (r11.1, r11.2))))))
set_option maxRecDepth 20000 in
theorem ctX4_readTimes {l : Launch} {G : GM} {K : Nat → Option va_E} {h : List va_E} {w : Wd} (hw : HW G K h w)  : Ct l G mX4_readTimes 3 0 0 [.ref (gz G + 1)] h (fun v h1 => ∃ r, (fX4_readTimes w ) = r ∧ v = some (.int r.1) ∧ HW G K h1 r.2) := by
  show Tr l G mX4_readTimes 3 0 0 0 [(0, .ref (gz G + 1))] [] h _
  refine am_aload_n dX4_readTimes_0 0 rfl ?_
  refine am_callV (As := []) (rest := []) dX4_readTimes_1 kMX4_48 rfl (hwc1 (w := w) hw) rfl rfl (Nat.le_of_ble_eq_true rfl) (d2 := 1) (by decide) (k2 := 0) (Nat.zero_le _) (u2 := 0) (Nat.zero_le _) (Nat.le_of_ble_eq_true rfl) (ctX4_advance (w := w) hw ) (fun v1 h2 q3 => ?_)
  obtain ⟨r4, e5, rfl, w6⟩ := q3
  refine am_aload_n dX4_readTimes_4 0 rfl ?_
  refine am_get (v := .int (r4.1 4)) dX4_readTimes_5 kGX4_51 (hwc1 (w := r4) w6) rfl ?_
  refine am_iconst (v := 2) dX4_readTimes_8 (by decide) ?_
  refine am_icmp_ne dX4_readTimes_9 (by decide : ((9 : Nat) : Int) + (38) = ((47 : Nat) : Int)) (fun c7 => ?_) (fun c7 => ?_)
  · refine am_aload_n dX4_readTimes_47 0 rfl ?_
    refine am_iconst (v := 1) dX4_readTimes_48 (by decide) ?_
    refine am_bipush (v := 14) dX4_readTimes_49 (by decide) ?_
    refine am_callV (As := [.int 1, .int 14]) (rest := []) dX4_readTimes_51 kMX4_106 rfl (hwc1 (w := r4) w6) rfl rfl (Nat.le_of_ble_eq_true rfl) (d2 := 2) (by decide) (k2 := 0) (Nat.zero_le _) (u2 := 0) (Nat.zero_le _) (Nat.le_of_ble_eq_true rfl) (ctX4_readNumber (w := r4) w6 1 14) (fun v8 h9 q10 => ?_)
    obtain ⟨r11, e12, rfl, w13⟩ := q10
    exact am_ireturn dX4_readTimes_54 rfl rfl ⟨_, bnd_eq e5 (Eq.trans (if_neg c7) (bnd_eq e12 (rfl))), rfl, w13⟩
  · refine am_aload_n dX4_readTimes_12 0 rfl ?_
    refine am_get (v := .int (r4.1 7)) dX4_readTimes_13 kGX4_190 (hwc1 (w := r4) w6) rfl ?_
    refine am_iconst (v := 1) dX4_readTimes_16 (by decide) ?_
    refine am_bipush (v := 14) dX4_readTimes_17 (by decide) ?_
    refine am_callSN (As := [.int (r4.1 7), .int 1, .int 14]) (rest := []) dX4_readTimes_19 kMX4_193 rfl  rfl (Nat.le_of_ble_eq_true rfl) (d2 := 0) (by decide) (k2 := 0) (Nat.zero_le _) (u2 := 0) (Nat.zero_le _) (Nat.le_of_ble_eq_true rfl) (ctX6_isBetween  (r4.1 7) 1 14 ) (fun v14 h15 q16 => ?_)
    obtain ⟨rfl, rfl⟩ := q16
    refine am_if_eq dX4_readTimes_22 (by decide : ((22 : Nat) : Int) + (25) = ((47 : Nat) : Int)) (fun c17 => ?_) (fun c17 => ?_)
    · refine am_aload_n dX4_readTimes_47 0 rfl ?_
      refine am_iconst (v := 1) dX4_readTimes_48 (by decide) ?_
      refine am_bipush (v := 14) dX4_readTimes_49 (by decide) ?_
      refine am_callV (As := [.int 1, .int 14]) (rest := []) dX4_readTimes_51 kMX4_106 rfl (hwc1 (w := r4) w6) rfl rfl (Nat.le_of_ble_eq_true rfl) (d2 := 2) (by decide) (k2 := 0) (Nat.zero_le _) (u2 := 0) (Nat.zero_le _) (Nat.le_of_ble_eq_true rfl) (ctX4_readNumber (w := r4) w6 1 14) (fun v18 h19 q20 => ?_)
      obtain ⟨r21, e22, rfl, w23⟩ := q20
      exact am_ireturn dX4_readTimes_54 rfl rfl ⟨_, bnd_eq e5 (Eq.trans (if_pos c7) (Eq.trans (if_pos c17) (bnd_eq e22 (rfl)))), rfl, w23⟩
    · refine am_aload_n dX4_readTimes_25 0 rfl ?_
      refine am_get (v := .ref (gz G + 3)) dX4_readTimes_26 kGX4_18 (hwc1 (w := r4) w6) rfl ?_
      refine am_get (v := .int ((r4.2.2.1 0).1 8)) dX4_readTimes_29 kGX4_171 (pl_0 (p := (r4.2.2.1 0)) (hwP0 (w := r4) w6)) rfl ?_
      refine am_aload_n dX4_readTimes_32 0 rfl ?_
      refine am_get (v := .int (r4.1 7)) dX4_readTimes_33 kGX4_190 (hwc1 (w := r4) w6) rfl ?_
      refine am_iadd dX4_readTimes_36 ?_
      refine am_bipush (v := 14) dX4_readTimes_37 (by decide) ?_
      refine am_icmp_le dX4_readTimes_39 (by decide : ((39 : Nat) : Int) + (8) = ((47 : Nat) : Int)) (fun c24 => ?_) (fun c24 => ?_)
      · refine am_aload_n dX4_readTimes_47 0 rfl ?_
        refine am_iconst (v := 1) dX4_readTimes_48 (by decide) ?_
        refine am_bipush (v := 14) dX4_readTimes_49 (by decide) ?_
        refine am_callV (As := [.int 1, .int 14]) (rest := []) dX4_readTimes_51 kMX4_106 rfl (hwc1 (w := r4) w6) rfl rfl (Nat.le_of_ble_eq_true rfl) (d2 := 2) (by decide) (k2 := 0) (Nat.zero_le _) (u2 := 0) (Nat.zero_le _) (Nat.le_of_ble_eq_true rfl) (ctX4_readNumber (w := r4) w6 1 14) (fun v25 h26 q27 => ?_)
        obtain ⟨r28, e29, rfl, w30⟩ := q27
        exact am_ireturn dX4_readTimes_54 rfl rfl ⟨_, bnd_eq e5 (Eq.trans (if_pos c7) (Eq.trans (if_neg c17) (Eq.trans (if_pos c24) (bnd_eq e29 (rfl))))), rfl, w30⟩
      · refine am_aload_n dX4_readTimes_42 0 rfl ?_
        refine am_iconst (v := 5) dX4_readTimes_43 (by decide) ?_
        refine am_callV (As := [.int 5]) (rest := []) dX4_readTimes_44 kMX4_98 rfl (hwc1 (w := r4) w6) rfl rfl (Nat.le_of_ble_eq_true rfl) (d2 := 0) (by decide) (k2 := 0) (Nat.zero_le _) (u2 := 0) (Nat.zero_le _) (Nat.le_of_ble_eq_true rfl) (ctX4_refuse (w := r4) w6 5) (fun v31 h32 q33 => ?_)
        obtain ⟨r34, e35, rfl, w36⟩ := q33
        refine am_aload_n dX4_readTimes_47 0 rfl ?_
        refine am_iconst (v := 1) dX4_readTimes_48 (by decide) ?_
        refine am_bipush (v := 14) dX4_readTimes_49 (by decide) ?_
        refine am_callV (As := [.int 1, .int 14]) (rest := []) dX4_readTimes_51 kMX4_106 rfl (hwc1 (w := r34) w36) rfl rfl (Nat.le_of_ble_eq_true rfl) (d2 := 2) (by decide) (k2 := 0) (Nat.zero_le _) (u2 := 0) (Nat.zero_le _) (Nat.le_of_ble_eq_true rfl) (ctX4_readNumber (w := r34) w36 1 14) (fun v37 h38 q39 => ?_)
        obtain ⟨r40, e41, rfl, w42⟩ := q39
        exact am_ireturn dX4_readTimes_54 rfl rfl ⟨_, bnd_eq e5 (Eq.trans (if_pos c7) (Eq.trans (if_neg c17) (Eq.trans (if_neg c24) (bnd_eq e35 (bnd_eq e41 (rfl)))))), rfl, w42⟩

theorem dX4_readPiece_0 : decode cX4_readPiece 0 = .ok (.aload_n 0, 1) := by decide +kernel
theorem dX4_readPiece_1 : decode cX4_readPiece 1 = .ok (.aload_n 0, 1) := by decide +kernel
theorem dX4_readPiece_2 : decode cX4_readPiece 2 = .ok (.getfield 18, 3) := by decide +kernel
theorem dX4_readPiece_5 : decode cX4_readPiece 5 = .ok (.getfield 171, 3) := by decide +kernel
theorem dX4_readPiece_8 : decode cX4_readPiece 8 = .ok (.bipush 14, 2) := by decide +kernel
theorem dX4_readPiece_10 : decode cX4_readPiece 10 = .ok (.if_icmp .lt 7, 3) := by decide +kernel
theorem dX4_readPiece_13 : decode cX4_readPiece 13 = .ok (.iconst 1, 1) := by decide +kernel
theorem dX4_readPiece_14 : decode cX4_readPiece 14 = .ok (.goto 4, 3) := by decide +kernel
theorem dX4_readPiece_17 : decode cX4_readPiece 17 = .ok (.iconst 0, 1) := by decide +kernel
theorem dX4_readPiece_18 : decode cX4_readPiece 18 = .ok (.iconst 5, 1) := by decide +kernel
theorem dX4_readPiece_19 : decode cX4_readPiece 19 = .ok (.invokevirtual 102, 3) := by decide +kernel
theorem dX4_readPiece_22 : decode cX4_readPiece 22 = .ok (.aload_n 0, 1) := by decide +kernel
theorem dX4_readPiece_23 : decode cX4_readPiece 23 = .ok (.aload_n 0, 1) := by decide +kernel
theorem dX4_readPiece_24 : decode cX4_readPiece 24 = .ok (.invokevirtual 129, 3) := by decide +kernel
theorem dX4_readPiece_27 : decode cX4_readPiece 27 = .ok (.aload_n 1, 1) := by decide +kernel
theorem dX4_readPiece_28 : decode cX4_readPiece 28 = .ok (.invokevirtual 174, 3) := by decide +kernel
theorem dX4_readPiece_31 : decode cX4_readPiece 31 = .ok (.istore_n 2, 1) := by decide +kernel
theorem dX4_readPiece_32 : decode cX4_readPiece 32 = .ok (.aload_n 0, 1) := by decide +kernel
theorem dX4_readPiece_33 : decode cX4_readPiece 33 = .ok (.invokevirtual 178, 3) := by decide +kernel
theorem dX4_readPiece_36 : decode cX4_readPiece 36 = .ok (.istore_n 3, 1) := by decide +kernel
theorem dX4_readPiece_37 : decode cX4_readPiece 37 = .ok (.aload_n 0, 1) := by decide +kernel
theorem dX4_readPiece_38 : decode cX4_readPiece 38 = .ok (.sipush 500, 3) := by decide +kernel
theorem dX4_readPiece_41 : decode cX4_readPiece 41 = .ok (.sipush 9999, 3) := by decide +kernel
theorem dX4_readPiece_44 : decode cX4_readPiece 44 = .ok (.invokevirtual 106, 3) := by decide +kernel
theorem dX4_readPiece_47 : decode cX4_readPiece 47 = .ok (.istore 4, 2) := by decide +kernel
theorem dX4_readPiece_49 : decode cX4_readPiece 49 = .ok (.aload_n 0, 1) := by decide +kernel
theorem dX4_readPiece_50 : decode cX4_readPiece 50 = .ok (.iconst 0, 1) := by decide +kernel
theorem dX4_readPiece_51 : decode cX4_readPiece 51 = .ok (.sipush 255, 3) := by decide +kernel
theorem dX4_readPiece_54 : decode cX4_readPiece 54 = .ok (.invokevirtual 106, 3) := by decide +kernel
theorem dX4_readPiece_57 : decode cX4_readPiece 57 = .ok (.istore 5, 2) := by decide +kernel
theorem dX4_readPiece_59 : decode cX4_readPiece 59 = .ok (.aload_n 0, 1) := by decide +kernel
theorem dX4_readPiece_60 : decode cX4_readPiece 60 = .ok (.ldc 181, 2) := by decide +kernel
theorem dX4_readPiece_62 : decode cX4_readPiece 62 = .ok (.invokevirtual 56, 3) := by decide +kernel
theorem dX4_readPiece_65 : decode cX4_readPiece 65 = .ok (.ifCond .eq 10, 3) := by decide +kernel
theorem dX4_readPiece_68 : decode cX4_readPiece 68 = .ok (.aload_n 0, 1) := by decide +kernel
theorem dX4_readPiece_69 : decode cX4_readPiece 69 = .ok (.invokevirtual 183, 3) := by decide +kernel
theorem dX4_readPiece_72 : decode cX4_readPiece 72 = .ok (.goto 4, 3) := by decide +kernel
theorem dX4_readPiece_75 : decode cX4_readPiece 75 = .ok (.iconst 1, 1) := by decide +kernel
theorem dX4_readPiece_76 : decode cX4_readPiece 76 = .ok (.istore 6, 2) := by decide +kernel
theorem dX4_readPiece_78 : decode cX4_readPiece 78 = .ok (.aload_n 0, 1) := by decide +kernel
theorem dX4_readPiece_79 : decode cX4_readPiece 79 = .ok (.invokevirtual 116, 3) := by decide +kernel
theorem dX4_readPiece_82 : decode cX4_readPiece 82 = .ok (.iconst 0, 1) := by decide +kernel
theorem dX4_readPiece_83 : decode cX4_readPiece 83 = .ok (.istore 7, 2) := by decide +kernel
theorem dX4_readPiece_85 : decode cX4_readPiece 85 = .ok (.iload 7, 2) := by decide +kernel
theorem dX4_readPiece_87 : decode cX4_readPiece 87 = .ok (.iload 6, 2) := by decide +kernel
theorem dX4_readPiece_89 : decode cX4_readPiece 89 = .ok (.if_icmp .ge 29, 3) := by decide +kernel
theorem dX4_readPiece_92 : decode cX4_readPiece 92 = .ok (.aload_n 0, 1) := by decide +kernel
theorem dX4_readPiece_93 : decode cX4_readPiece 93 = .ok (.getfield 29, 3) := by decide +kernel
theorem dX4_readPiece_96 : decode cX4_readPiece 96 = .ok (.ifCond .ne 22, 3) := by decide +kernel
theorem dX4_readPiece_99 : decode cX4_readPiece 99 = .ok (.aload_n 0, 1) := by decide +kernel
theorem dX4_readPiece_100 : decode cX4_readPiece 100 = .ok (.getfield 18, 3) := by decide +kernel
theorem dX4_readPiece_103 : decode cX4_readPiece 103 = .ok (.iload_n 2, 1) := by decide +kernel
theorem dX4_readPiece_104 : decode cX4_readPiece 104 = .ok (.iload_n 3, 1) := by decide +kernel
theorem dX4_readPiece_105 : decode cX4_readPiece 105 = .ok (.iload 4, 2) := by decide +kernel
theorem dX4_readPiece_107 : decode cX4_readPiece 107 = .ok (.iload 5, 2) := by decide +kernel
theorem dX4_readPiece_109 : decode cX4_readPiece 109 = .ok (.invokevirtual 186, 3) := by decide +kernel
theorem dX4_readPiece_112 : decode cX4_readPiece 112 = .ok (.iinc 7 1, 3) := by decide +kernel
theorem dX4_readPiece_115 : decode cX4_readPiece 115 = .ok (.goto (-30), 3) := by decide +kernel
theorem dX4_readPiece_118 : decode cX4_readPiece 118 = .ok (.return_, 1) := by decide +kernel
def fX4_readPiece_6_85  (o6 : Int32) (o5 : Int32) (o4 : Int32) (o3 : Int32) (o2 : Int32) : Nat → Int32 → Wd → Int32 × Wd
  | 0, x7, y => (x7, y)
  | fu + 1, x7, y => (if o6 ≤ x7 then (x7, y) else (if (y.1 1) = 0 then (bnd (fX5_addPiece (y.2.2.1 0) o2 o3 o4 o5) (fun r50 => (fX4_readPiece_6_85  o6 o5 o4 o3 o2  fu (x7 + 1) (wP y 0 r50)))) else (x7, y)))
set_option maxRecDepth 20000 in
theorem wX4_readPiece_6_85 {l : Launch} {G : GM} {K : Nat → Option va_E}  (o6 : Int32) (o5 : Int32) (o4 : Int32) (o3 : Int32) (o2 : Int32)  {Q : Option Value → List va_E → Prop} : ∀ (fu : Nat) (x7 : Int32) (y : Wd) (iv : ivU o6 x7 fu) {h : List va_E} (gy : HW G K h y) (kx : ∀ (h1 : List va_E) (r : Int32 × Wd), (fX4_readPiece_6_85  o6 o5 o4 o3 o2  fu x7 y) = r → HW G K h1 r.2 → Tr l G mX4_readPiece 7 0 0 118 [(7, .int r.1), (6, .int o6), (5, .int o5), (4, .int o4), (3, .int o3), (2, .int o2), (0, .ref (gz G + 1))] [] h1 Q), Tr l G mX4_readPiece 7 0 0 85 [(7, .int x7), (6, .int o6), (5, .int o5), (4, .int o4), (3, .int o3), (2, .int o2), (0, .ref (gz G + 1))] [] h Q := by
  intro fu
  induction fu with
  | zero => intro x7 y iv; intros; exact absurd iv ivU_0
  | succ fu ih =>
    intro x7 y iv   h gy  kx
    refine am_iload dX4_readPiece_85 0 rfl ?_
    refine am_iload dX4_readPiece_87 1 rfl ?_
    refine am_icmp_ge dX4_readPiece_89 (by decide : ((89 : Nat) : Int) + (29) = ((118 : Nat) : Int)) (fun c45 => ?_) (fun c45 => ?_)
    · exact kx _ _ (Eq.trans (if_pos c45) (rfl)) gy 
    · refine am_aload_n dX4_readPiece_92 6 rfl ?_
      refine am_get (v := .int (y.1 1)) dX4_readPiece_93 kGX4_29 (hwc1 (w := y) gy) rfl ?_
      refine am_if_ne dX4_readPiece_96 (by decide : ((96 : Nat) : Int) + (22) = ((118 : Nat) : Int)) (fun c46 => ?_) (fun c46 => ?_)
      · exact kx _ _ (Eq.trans (if_neg c45) (Eq.trans (if_neg c46) (rfl))) gy 
      · refine am_aload_n dX4_readPiece_99 6 rfl ?_
        refine am_get (v := .ref (gz G + 3)) dX4_readPiece_100 kGX4_18 (hwc1 (w := y) gy) rfl ?_
        refine am_iload_n dX4_readPiece_103 5 rfl ?_
        refine am_iload_n dX4_readPiece_104 4 rfl ?_
        refine am_iload dX4_readPiece_105 3 rfl ?_
        refine am_iload dX4_readPiece_107 2 rfl ?_
        refine am_callV (As := [.int o2, .int o3, .int o4, .int o5]) (rest := []) dX4_readPiece_109 kMX4_186 rfl (pl_0 (p := (y.2.2.1 0)) (hwP0 (w := y) gy)) rfl rfl (Nat.le_of_ble_eq_true rfl) (d2 := 1) (by decide) (k2 := 0) (Nat.zero_le _) (u2 := 0) (Nat.zero_le _) (Nat.le_of_ble_eq_true rfl) (ctX5_addPiece (p := (y.2.2.1 0)) (hwP0 (w := y) gy) o2 o3 o4 o5) (fun v47 h48 q49 => ?_)
        obtain ⟨r50, e51, rfl, w52, w53⟩ := q49
        have w54 := hwPu gy (i := 0) (by decide) w52 w53
        refine am_iinc (v := (x7 + 1)) dX4_readPiece_112 0 rfl rfl (by decide) (lv' := [(7, .int (x7 + 1)), (6, .int o6), (5, .int o5), (4, .int o4), (3, .int o3), (2, .int o2), (0, .ref (gz G + 1))]) rfl ?_
        refine am_goto dX4_readPiece_115 (by decide : ((115 : Nat) : Int) + (-30) = ((85 : Nat) : Int)) ?_
        exact ih (x7 + 1) (wP y 0 r50) (ivU_s c45 iv) w54  (fun h1 r e => kx h1 r (Eq.trans (Eq.trans (if_neg c45) (Eq.trans (if_pos c46) (bnd_eq e51 (rfl)))) e))
def fX4_readPiece_6 (w : Wd)  : Wd := (if ((w.2.2.1 0).1 8) < 14 then (bnd (fX4_startStatement w 0 5) (fun r5 => (bnd (fX4_takeKnownYarn_6 r5 (fX4_nameHere r5 )) (fun r14 => (bnd (fX4_readKind r14.2 ) (fun r20 => (bnd (fX4_readNumber r20.2 500 9999) (fun r26 => (bnd (fX4_readNumber r26.2 0 255) (fun r32 => (if (fX4_spells r32.2 sq10) = 0 then (bnd (fX4_endStatement r32.2 ) (fun r42 => (bnd (fX4_readPiece_6_85  1 r32.1 r26.1 r20.1 r14.1  (fuU 1 0) 0 r42) (fun r55 => r55.2)))) else (bnd (fX4_readTimes r32.2 ) (fun r62 => (bnd (fX4_endStatement r62.2 ) (fun r68 => (bnd (fX4_readPiece_6_85  r62.1 r32.1 r26.1 r20.1 r14.1  (fuU r62.1 0) 0 r68) (fun r71 => r71.2))))))))))))))))) else (bnd (fX4_startStatement w 1 5) (fun r78 => (bnd (fX4_takeKnownYarn_6 r78 (fX4_nameHere r78 )) (fun r87 => (bnd (fX4_readKind r87.2 ) (fun r93 => (bnd (fX4_readNumber r93.2 500 9999) (fun r99 => (bnd (fX4_readNumber r99.2 0 255) (fun r105 => (if (fX4_spells r105.2 sq10) = 0 then (bnd (fX4_endStatement r105.2 ) (fun r115 => (bnd (fX4_readPiece_6_85  1 r105.1 r99.1 r93.1 r87.1  (fuU 1 0) 0 r115) (fun r118 => r118.2)))) else (bnd (fX4_readTimes r105.2 ) (fun r125 => (bnd (fX4_endStatement r125.2 ) (fun r131 => (bnd (fX4_readPiece_6_85  r125.1 r105.1 r99.1 r93.1 r87.1  (fuU r125.1 0) 0 r131) (fun r134 => r134.2))))))))))))))))))
set_option maxRecDepth 20000 in
theorem ctX4_readPiece_6 {l : Launch} {G : GM} {K : Nat → Option va_E} {h : List va_E} {w : Wd} (hw : HW G K h w)  : Ct l G mX4_readPiece 7 0 0 [.ref (gz G + 1), .ref (gz G + 4)] h (fun v h1 => ∃ r, (fX4_readPiece_6 w ) = r ∧ v = none ∧ HW G K h1 r) := by
  show Tr l G mX4_readPiece 7 0 0 0 [(0, .ref (gz G + 1)), (1, .ref (gz G + 4))] [] h _
  refine am_aload_n dX4_readPiece_0 0 rfl ?_
  refine am_aload_n dX4_readPiece_1 0 rfl ?_
  refine am_get (v := .ref (gz G + 3)) dX4_readPiece_2 kGX4_18 (hwc1 (w := w) hw) rfl ?_
  refine am_get (v := .int ((w.2.2.1 0).1 8)) dX4_readPiece_5 kGX4_171 (pl_0 (p := (w.2.2.1 0)) (hwP0 (w := w) hw)) rfl ?_
  refine am_bipush (v := 14) dX4_readPiece_8 (by decide) ?_
  refine am_icmp_lt dX4_readPiece_10 (by decide : ((10 : Nat) : Int) + (7) = ((17 : Nat) : Int)) (fun c1 => ?_) (fun c1 => ?_)
  · refine am_iconst (v := 0) dX4_readPiece_17 (by decide) ?_
    refine am_iconst (v := 5) dX4_readPiece_18 (by decide) ?_
    refine am_callV (As := [.int 0, .int 5]) (rest := []) dX4_readPiece_19 kMX4_102 rfl (hwc1 (w := w) hw) rfl rfl (Nat.le_of_ble_eq_true rfl) (d2 := 2) (by decide) (k2 := 0) (Nat.zero_le _) (u2 := 0) (Nat.zero_le _) (Nat.le_of_ble_eq_true rfl) (ctX4_startStatement (w := w) hw 0 5) (fun v2 h3 q4 => ?_)
    obtain ⟨r5, e6, rfl, w7⟩ := q4
    refine am_aload_n dX4_readPiece_22 0 rfl ?_
    refine am_aload_n dX4_readPiece_23 0 rfl ?_
    refine am_callV (As := []) (rest := [.ref (gz G + 1)]) dX4_readPiece_24 kMX4_129 rfl (hwc1 (w := r5) w7) rfl rfl (Nat.le_of_ble_eq_true rfl) (d2 := 6) (by decide) (k2 := 0) (Nat.zero_le _) (u2 := 0) (Nat.zero_le _) (Nat.le_of_ble_eq_true rfl) (ctX4_nameHere (w := r5) w7 ) (fun v8 h9 q10 => ?_)
    obtain ⟨rfl, rfl⟩ := q10
    refine am_aload_n dX4_readPiece_27 1 rfl ?_
    refine am_callV (As := [.int (fX4_nameHere r5 ), .ref (gz G + 4)]) (rest := []) dX4_readPiece_28 kMX4_174 rfl (hwc1 (w := r5) w7) rfl rfl (Nat.le_of_ble_eq_true rfl) (d2 := 2) (by decide) (k2 := 0) (Nat.zero_le _) (u2 := 0) (Nat.zero_le _) (Nat.le_of_ble_eq_true rfl) (ctX4_takeKnownYarn_6 (w := r5) w7 (fX4_nameHere r5 )) (fun v11 h12 q13 => ?_)
    obtain ⟨r14, e15, rfl, w16⟩ := q13
    refine am_istore_n dX4_readPiece_31 (by decide) (lv' := [(2, .int r14.1), (0, .ref (gz G + 1)), (1, .ref (gz G + 4))]) rfl ?_
    refine am_aload_n dX4_readPiece_32 1 rfl ?_
    refine am_callV (As := []) (rest := []) dX4_readPiece_33 kMX4_178 rfl (hwc1 (w := r14.2) w16) rfl rfl (Nat.le_of_ble_eq_true rfl) (d2 := 5) (by decide) (k2 := 0) (Nat.zero_le _) (u2 := 0) (Nat.zero_le _) (Nat.le_of_ble_eq_true rfl) (ctX4_readKind (w := r14.2) w16 ) (fun v17 h18 q19 => ?_)
    obtain ⟨r20, e21, rfl, w22⟩ := q19
    refine am_istore_n dX4_readPiece_36 (by decide) (lv' := [(3, .int r20.1), (2, .int r14.1), (0, .ref (gz G + 1)), (1, .ref (gz G + 4))]) rfl ?_
    refine am_aload_n dX4_readPiece_37 2 rfl ?_
    refine am_sipush (v := 500) dX4_readPiece_38 (by decide) ?_
    refine am_sipush (v := 9999) dX4_readPiece_41 (by decide) ?_
    refine am_callV (As := [.int 500, .int 9999]) (rest := []) dX4_readPiece_44 kMX4_106 rfl (hwc1 (w := r20.2) w22) rfl rfl (Nat.le_of_ble_eq_true rfl) (d2 := 2) (by decide) (k2 := 0) (Nat.zero_le _) (u2 := 0) (Nat.zero_le _) (Nat.le_of_ble_eq_true rfl) (ctX4_readNumber (w := r20.2) w22 500 9999) (fun v23 h24 q25 => ?_)
    obtain ⟨r26, e27, rfl, w28⟩ := q25
    refine am_istore dX4_readPiece_47 (by decide) (lv' := [(4, .int r26.1), (3, .int r20.1), (2, .int r14.1), (0, .ref (gz G + 1)), (1, .ref (gz G + 4))]) rfl ?_
    refine am_aload_n dX4_readPiece_49 3 rfl ?_
    refine am_iconst (v := 0) dX4_readPiece_50 (by decide) ?_
    refine am_sipush (v := 255) dX4_readPiece_51 (by decide) ?_
    refine am_callV (As := [.int 0, .int 255]) (rest := []) dX4_readPiece_54 kMX4_106 rfl (hwc1 (w := r26.2) w28) rfl rfl (Nat.le_of_ble_eq_true rfl) (d2 := 2) (by decide) (k2 := 0) (Nat.zero_le _) (u2 := 0) (Nat.zero_le _) (Nat.le_of_ble_eq_true rfl) (ctX4_readNumber (w := r26.2) w28 0 255) (fun v29 h30 q31 => ?_)
    obtain ⟨r32, e33, rfl, w34⟩ := q31
    refine am_istore dX4_readPiece_57 (by decide) (lv' := [(5, .int r32.1), (4, .int r26.1), (3, .int r20.1), (2, .int r14.1), (0, .ref (gz G + 1)), (1, .ref (gz G + 4))]) rfl ?_
    refine am_aload_n dX4_readPiece_59 4 rfl ?_
    refine am_ldcS (j := 10) dX4_readPiece_60 rfl ?_
    refine am_callV (As := [.ref (gS G 10)]) (rest := []) dX4_readPiece_62 kMX4_56 rfl (hwc1 (w := r32.2) w34) rfl rfl (Nat.le_of_ble_eq_true rfl) (d2 := 4) (by decide) (k2 := 0) (Nat.zero_le _) (u2 := 0) (Nat.zero_le _) (Nat.le_of_ble_eq_true rfl) (ctX4_spells (w := r32.2) w34 (j := 10) (q := sq10) rfl) (fun v35 h36 q37 => ?_)
    obtain ⟨rfl, rfl⟩ := q37
    refine am_if_eq dX4_readPiece_65 (by decide : ((65 : Nat) : Int) + (10) = ((75 : Nat) : Int)) (fun c38 => ?_) (fun c38 => ?_)
    · refine am_iconst (v := 1) dX4_readPiece_75 (by decide) ?_
      refine am_istore dX4_readPiece_76 (by decide) (lv' := [(6, .int 1), (5, .int r32.1), (4, .int r26.1), (3, .int r20.1), (2, .int r14.1), (0, .ref (gz G + 1)), (1, .ref (gz G + 4))]) rfl ?_
      refine am_aload_n dX4_readPiece_78 5 rfl ?_
      refine am_callV (As := []) (rest := []) dX4_readPiece_79 kMX4_116 rfl (hwc1 (w := r32.2) w34) rfl rfl (Nat.le_of_ble_eq_true rfl) (d2 := 2) (by decide) (k2 := 0) (Nat.zero_le _) (u2 := 0) (Nat.zero_le _) (Nat.le_of_ble_eq_true rfl) (ctX4_endStatement (w := r32.2) w34 ) (fun v39 h40 q41 => ?_)
      obtain ⟨r42, e43, rfl, w44⟩ := q41
      refine am_iconst (v := 0) dX4_readPiece_82 (by decide) ?_
      refine am_istore dX4_readPiece_83 (by decide) (lv' := [(7, .int 0), (6, .int 1), (5, .int r32.1), (4, .int r26.1), (3, .int r20.1), (2, .int r14.1), (0, .ref (gz G + 1)), (1, .ref (gz G + 4))]) rfl ?_
      refine am_lv (lv' := [(7, .int 0), (6, .int 1), (5, .int r32.1), (4, .int r26.1), (3, .int r20.1), (2, .int r14.1), (0, .ref (gz G + 1))]) [0, 1, 2, 3, 4, 5, 6] rfl ?_
      refine wX4_readPiece_6_85  1 r32.1 r26.1 r20.1 r14.1  (fuU 1 0) 0 r42 ivU_i w44  (fun h57 r55 e56 w58  => ?_)
      exact am_return dX4_readPiece_118 rfl ⟨_, Eq.trans (if_pos c1) (bnd_eq e6 (bnd_eq e15 (bnd_eq e21 (bnd_eq e27 (bnd_eq e33 (Eq.trans (if_pos c38) (bnd_eq e43 (bnd_eq e56 (rfl))))))))), rfl, w58⟩
    · refine am_aload_n dX4_readPiece_68 4 rfl ?_
      refine am_callV (As := []) (rest := []) dX4_readPiece_69 kMX4_183 rfl (hwc1 (w := r32.2) w34) rfl rfl (Nat.le_of_ble_eq_true rfl) (d2 := 3) (by decide) (k2 := 0) (Nat.zero_le _) (u2 := 0) (Nat.zero_le _) (Nat.le_of_ble_eq_true rfl) (ctX4_readTimes (w := r32.2) w34 ) (fun v59 h60 q61 => ?_)
      obtain ⟨r62, e63, rfl, w64⟩ := q61
      refine am_goto dX4_readPiece_72 (by decide : ((72 : Nat) : Int) + (4) = ((76 : Nat) : Int)) ?_
      refine am_istore dX4_readPiece_76 (by decide) (lv' := [(6, .int r62.1), (5, .int r32.1), (4, .int r26.1), (3, .int r20.1), (2, .int r14.1), (0, .ref (gz G + 1)), (1, .ref (gz G + 4))]) rfl ?_
      refine am_aload_n dX4_readPiece_78 5 rfl ?_
      refine am_callV (As := []) (rest := []) dX4_readPiece_79 kMX4_116 rfl (hwc1 (w := r62.2) w64) rfl rfl (Nat.le_of_ble_eq_true rfl) (d2 := 2) (by decide) (k2 := 0) (Nat.zero_le _) (u2 := 0) (Nat.zero_le _) (Nat.le_of_ble_eq_true rfl) (ctX4_endStatement (w := r62.2) w64 ) (fun v65 h66 q67 => ?_)
      obtain ⟨r68, e69, rfl, w70⟩ := q67
      refine am_iconst (v := 0) dX4_readPiece_82 (by decide) ?_
      refine am_istore dX4_readPiece_83 (by decide) (lv' := [(7, .int 0), (6, .int r62.1), (5, .int r32.1), (4, .int r26.1), (3, .int r20.1), (2, .int r14.1), (0, .ref (gz G + 1)), (1, .ref (gz G + 4))]) rfl ?_
      refine am_lv (lv' := [(7, .int 0), (6, .int r62.1), (5, .int r32.1), (4, .int r26.1), (3, .int r20.1), (2, .int r14.1), (0, .ref (gz G + 1))]) [0, 1, 2, 3, 4, 5, 6] rfl ?_
      refine wX4_readPiece_6_85  r62.1 r32.1 r26.1 r20.1 r14.1  (fuU r62.1 0) 0 r68 ivU_i w70  (fun h73 r71 e72 w74  => ?_)
      exact am_return dX4_readPiece_118 rfl ⟨_, Eq.trans (if_pos c1) (bnd_eq e6 (bnd_eq e15 (bnd_eq e21 (bnd_eq e27 (bnd_eq e33 (Eq.trans (if_neg c38) (bnd_eq e63 (bnd_eq e69 (bnd_eq e72 (rfl)))))))))), rfl, w74⟩
  · refine am_iconst (v := 1) dX4_readPiece_13 (by decide) ?_
    refine am_goto dX4_readPiece_14 (by decide : ((14 : Nat) : Int) + (4) = ((18 : Nat) : Int)) ?_
    refine am_iconst (v := 5) dX4_readPiece_18 (by decide) ?_
    refine am_callV (As := [.int 1, .int 5]) (rest := []) dX4_readPiece_19 kMX4_102 rfl (hwc1 (w := w) hw) rfl rfl (Nat.le_of_ble_eq_true rfl) (d2 := 2) (by decide) (k2 := 0) (Nat.zero_le _) (u2 := 0) (Nat.zero_le _) (Nat.le_of_ble_eq_true rfl) (ctX4_startStatement (w := w) hw 1 5) (fun v75 h76 q77 => ?_)
    obtain ⟨r78, e79, rfl, w80⟩ := q77
    refine am_aload_n dX4_readPiece_22 0 rfl ?_
    refine am_aload_n dX4_readPiece_23 0 rfl ?_
    refine am_callV (As := []) (rest := [.ref (gz G + 1)]) dX4_readPiece_24 kMX4_129 rfl (hwc1 (w := r78) w80) rfl rfl (Nat.le_of_ble_eq_true rfl) (d2 := 6) (by decide) (k2 := 0) (Nat.zero_le _) (u2 := 0) (Nat.zero_le _) (Nat.le_of_ble_eq_true rfl) (ctX4_nameHere (w := r78) w80 ) (fun v81 h82 q83 => ?_)
    obtain ⟨rfl, rfl⟩ := q83
    refine am_aload_n dX4_readPiece_27 1 rfl ?_
    refine am_callV (As := [.int (fX4_nameHere r78 ), .ref (gz G + 4)]) (rest := []) dX4_readPiece_28 kMX4_174 rfl (hwc1 (w := r78) w80) rfl rfl (Nat.le_of_ble_eq_true rfl) (d2 := 2) (by decide) (k2 := 0) (Nat.zero_le _) (u2 := 0) (Nat.zero_le _) (Nat.le_of_ble_eq_true rfl) (ctX4_takeKnownYarn_6 (w := r78) w80 (fX4_nameHere r78 )) (fun v84 h85 q86 => ?_)
    obtain ⟨r87, e88, rfl, w89⟩ := q86
    refine am_istore_n dX4_readPiece_31 (by decide) (lv' := [(2, .int r87.1), (0, .ref (gz G + 1)), (1, .ref (gz G + 4))]) rfl ?_
    refine am_aload_n dX4_readPiece_32 1 rfl ?_
    refine am_callV (As := []) (rest := []) dX4_readPiece_33 kMX4_178 rfl (hwc1 (w := r87.2) w89) rfl rfl (Nat.le_of_ble_eq_true rfl) (d2 := 5) (by decide) (k2 := 0) (Nat.zero_le _) (u2 := 0) (Nat.zero_le _) (Nat.le_of_ble_eq_true rfl) (ctX4_readKind (w := r87.2) w89 ) (fun v90 h91 q92 => ?_)
    obtain ⟨r93, e94, rfl, w95⟩ := q92
    refine am_istore_n dX4_readPiece_36 (by decide) (lv' := [(3, .int r93.1), (2, .int r87.1), (0, .ref (gz G + 1)), (1, .ref (gz G + 4))]) rfl ?_
    refine am_aload_n dX4_readPiece_37 2 rfl ?_
    refine am_sipush (v := 500) dX4_readPiece_38 (by decide) ?_
    refine am_sipush (v := 9999) dX4_readPiece_41 (by decide) ?_
    refine am_callV (As := [.int 500, .int 9999]) (rest := []) dX4_readPiece_44 kMX4_106 rfl (hwc1 (w := r93.2) w95) rfl rfl (Nat.le_of_ble_eq_true rfl) (d2 := 2) (by decide) (k2 := 0) (Nat.zero_le _) (u2 := 0) (Nat.zero_le _) (Nat.le_of_ble_eq_true rfl) (ctX4_readNumber (w := r93.2) w95 500 9999) (fun v96 h97 q98 => ?_)
    obtain ⟨r99, e100, rfl, w101⟩ := q98
    refine am_istore dX4_readPiece_47 (by decide) (lv' := [(4, .int r99.1), (3, .int r93.1), (2, .int r87.1), (0, .ref (gz G + 1)), (1, .ref (gz G + 4))]) rfl ?_
    refine am_aload_n dX4_readPiece_49 3 rfl ?_
    refine am_iconst (v := 0) dX4_readPiece_50 (by decide) ?_
    refine am_sipush (v := 255) dX4_readPiece_51 (by decide) ?_
    refine am_callV (As := [.int 0, .int 255]) (rest := []) dX4_readPiece_54 kMX4_106 rfl (hwc1 (w := r99.2) w101) rfl rfl (Nat.le_of_ble_eq_true rfl) (d2 := 2) (by decide) (k2 := 0) (Nat.zero_le _) (u2 := 0) (Nat.zero_le _) (Nat.le_of_ble_eq_true rfl) (ctX4_readNumber (w := r99.2) w101 0 255) (fun v102 h103 q104 => ?_)
    obtain ⟨r105, e106, rfl, w107⟩ := q104
    refine am_istore dX4_readPiece_57 (by decide) (lv' := [(5, .int r105.1), (4, .int r99.1), (3, .int r93.1), (2, .int r87.1), (0, .ref (gz G + 1)), (1, .ref (gz G + 4))]) rfl ?_
    refine am_aload_n dX4_readPiece_59 4 rfl ?_
    refine am_ldcS (j := 10) dX4_readPiece_60 rfl ?_
    refine am_callV (As := [.ref (gS G 10)]) (rest := []) dX4_readPiece_62 kMX4_56 rfl (hwc1 (w := r105.2) w107) rfl rfl (Nat.le_of_ble_eq_true rfl) (d2 := 4) (by decide) (k2 := 0) (Nat.zero_le _) (u2 := 0) (Nat.zero_le _) (Nat.le_of_ble_eq_true rfl) (ctX4_spells (w := r105.2) w107 (j := 10) (q := sq10) rfl) (fun v108 h109 q110 => ?_)
    obtain ⟨rfl, rfl⟩ := q110
    refine am_if_eq dX4_readPiece_65 (by decide : ((65 : Nat) : Int) + (10) = ((75 : Nat) : Int)) (fun c111 => ?_) (fun c111 => ?_)
    · refine am_iconst (v := 1) dX4_readPiece_75 (by decide) ?_
      refine am_istore dX4_readPiece_76 (by decide) (lv' := [(6, .int 1), (5, .int r105.1), (4, .int r99.1), (3, .int r93.1), (2, .int r87.1), (0, .ref (gz G + 1)), (1, .ref (gz G + 4))]) rfl ?_
      refine am_aload_n dX4_readPiece_78 5 rfl ?_
      refine am_callV (As := []) (rest := []) dX4_readPiece_79 kMX4_116 rfl (hwc1 (w := r105.2) w107) rfl rfl (Nat.le_of_ble_eq_true rfl) (d2 := 2) (by decide) (k2 := 0) (Nat.zero_le _) (u2 := 0) (Nat.zero_le _) (Nat.le_of_ble_eq_true rfl) (ctX4_endStatement (w := r105.2) w107 ) (fun v112 h113 q114 => ?_)
      obtain ⟨r115, e116, rfl, w117⟩ := q114
      refine am_iconst (v := 0) dX4_readPiece_82 (by decide) ?_
      refine am_istore dX4_readPiece_83 (by decide) (lv' := [(7, .int 0), (6, .int 1), (5, .int r105.1), (4, .int r99.1), (3, .int r93.1), (2, .int r87.1), (0, .ref (gz G + 1)), (1, .ref (gz G + 4))]) rfl ?_
      refine am_lv (lv' := [(7, .int 0), (6, .int 1), (5, .int r105.1), (4, .int r99.1), (3, .int r93.1), (2, .int r87.1), (0, .ref (gz G + 1))]) [0, 1, 2, 3, 4, 5, 6] rfl ?_
      refine wX4_readPiece_6_85  1 r105.1 r99.1 r93.1 r87.1  (fuU 1 0) 0 r115 ivU_i w117  (fun h120 r118 e119 w121  => ?_)
      exact am_return dX4_readPiece_118 rfl ⟨_, Eq.trans (if_neg c1) (bnd_eq e79 (bnd_eq e88 (bnd_eq e94 (bnd_eq e100 (bnd_eq e106 (Eq.trans (if_pos c111) (bnd_eq e116 (bnd_eq e119 (rfl))))))))), rfl, w121⟩
    · refine am_aload_n dX4_readPiece_68 4 rfl ?_
      refine am_callV (As := []) (rest := []) dX4_readPiece_69 kMX4_183 rfl (hwc1 (w := r105.2) w107) rfl rfl (Nat.le_of_ble_eq_true rfl) (d2 := 3) (by decide) (k2 := 0) (Nat.zero_le _) (u2 := 0) (Nat.zero_le _) (Nat.le_of_ble_eq_true rfl) (ctX4_readTimes (w := r105.2) w107 ) (fun v122 h123 q124 => ?_)
      obtain ⟨r125, e126, rfl, w127⟩ := q124
      refine am_goto dX4_readPiece_72 (by decide : ((72 : Nat) : Int) + (4) = ((76 : Nat) : Int)) ?_
      refine am_istore dX4_readPiece_76 (by decide) (lv' := [(6, .int r125.1), (5, .int r105.1), (4, .int r99.1), (3, .int r93.1), (2, .int r87.1), (0, .ref (gz G + 1)), (1, .ref (gz G + 4))]) rfl ?_
      refine am_aload_n dX4_readPiece_78 5 rfl ?_
      refine am_callV (As := []) (rest := []) dX4_readPiece_79 kMX4_116 rfl (hwc1 (w := r125.2) w127) rfl rfl (Nat.le_of_ble_eq_true rfl) (d2 := 2) (by decide) (k2 := 0) (Nat.zero_le _) (u2 := 0) (Nat.zero_le _) (Nat.le_of_ble_eq_true rfl) (ctX4_endStatement (w := r125.2) w127 ) (fun v128 h129 q130 => ?_)
      obtain ⟨r131, e132, rfl, w133⟩ := q130
      refine am_iconst (v := 0) dX4_readPiece_82 (by decide) ?_
      refine am_istore dX4_readPiece_83 (by decide) (lv' := [(7, .int 0), (6, .int r125.1), (5, .int r105.1), (4, .int r99.1), (3, .int r93.1), (2, .int r87.1), (0, .ref (gz G + 1)), (1, .ref (gz G + 4))]) rfl ?_
      refine am_lv (lv' := [(7, .int 0), (6, .int r125.1), (5, .int r105.1), (4, .int r99.1), (3, .int r93.1), (2, .int r87.1), (0, .ref (gz G + 1))]) [0, 1, 2, 3, 4, 5, 6] rfl ?_
      refine wX4_readPiece_6_85  r125.1 r105.1 r99.1 r93.1 r87.1  (fuU r125.1 0) 0 r131 ivU_i w133  (fun h136 r134 e135 w137  => ?_)
      exact am_return dX4_readPiece_118 rfl ⟨_, Eq.trans (if_neg c1) (bnd_eq e79 (bnd_eq e88 (bnd_eq e94 (bnd_eq e100 (bnd_eq e106 (Eq.trans (if_neg c111) (bnd_eq e126 (bnd_eq e132 (bnd_eq e135 (rfl)))))))))), rfl, w137⟩

theorem dX4_takeNewName_0 : decode cX4_takeNewName 0 = .ok (.iload_n 1, 1) := by decide +kernel
theorem dX4_takeNewName_1 : decode cX4_takeNewName 1 = .ok (.iconst (-1), 1) := by decide +kernel
theorem dX4_takeNewName_2 : decode cX4_takeNewName 2 = .ok (.if_icmp .ne 11, 3) := by decide +kernel
theorem dX4_takeNewName_5 : decode cX4_takeNewName 5 = .ok (.aload_n 0, 1) := by decide +kernel
theorem dX4_takeNewName_6 : decode cX4_takeNewName 6 = .ok (.iconst 1, 1) := by decide +kernel
theorem dX4_takeNewName_7 : decode cX4_takeNewName 7 = .ok (.invokevirtual 98, 3) := by decide +kernel
theorem dX4_takeNewName_10 : decode cX4_takeNewName 10 = .ok (.goto 18, 3) := by decide +kernel
theorem dX4_takeNewName_13 : decode cX4_takeNewName 13 = .ok (.aload_n 2, 1) := by decide +kernel
theorem dX4_takeNewName_14 : decode cX4_takeNewName 14 = .ok (.iload_n 3, 1) := by decide +kernel
theorem dX4_takeNewName_15 : decode cX4_takeNewName 15 = .ok (.iload_n 1, 1) := by decide +kernel
theorem dX4_takeNewName_16 : decode cX4_takeNewName 16 = .ok (.invokestatic 204, 3) := by decide +kernel
theorem dX4_takeNewName_19 : decode cX4_takeNewName 19 = .ok (.iconst (-1), 1) := by decide +kernel
theorem dX4_takeNewName_20 : decode cX4_takeNewName 20 = .ok (.if_icmp .eq 8, 3) := by decide +kernel
theorem dX4_takeNewName_23 : decode cX4_takeNewName 23 = .ok (.aload_n 0, 1) := by decide +kernel
theorem dX4_takeNewName_24 : decode cX4_takeNewName 24 = .ok (.iconst 3, 1) := by decide +kernel
theorem dX4_takeNewName_25 : decode cX4_takeNewName 25 = .ok (.invokevirtual 98, 3) := by decide +kernel
theorem dX4_takeNewName_28 : decode cX4_takeNewName 28 = .ok (.aload_n 0, 1) := by decide +kernel
theorem dX4_takeNewName_29 : decode cX4_takeNewName 29 = .ok (.invokevirtual 48, 3) := by decide +kernel
theorem dX4_takeNewName_32 : decode cX4_takeNewName 32 = .ok (.iload_n 1, 1) := by decide +kernel
theorem dX4_takeNewName_33 : decode cX4_takeNewName 33 = .ok (.ireturn, 1) := by decide +kernel
def fX4_takeNewName_12 (w : Wd) (z1 : Int32) (z3 : Int32) : Int32 × Wd := (if z1 = (-1) then (bnd (fX4_refuse w 1) (fun r27 => (bnd (fX4_advance r27 ) (fun r33 => (z1, r33))))) else (if (fX6_indexOfName 6 ((w.2.2.1 0).2 5) z3 z1) = (-1) then (bnd (fX4_advance w ) (fun r9 => (z1, r9))) else (bnd (fX4_refuse w 3) (fun r15 => (bnd (fX4_advance r15 ) (fun r21 => (z1, r21)))))))
set_option maxRecDepth 20000 in
theorem ctX4_takeNewName_12 {l : Launch} {G : GM} {K : Nat → Option va_E} {h : List va_E} {w : Wd} (hw : HW G K h w) (z1 : Int32) (z3 : Int32) : Ct l G mX4_takeNewName 2 0 0 [.ref (gz G + 1), .int z1, .ref (gz G + 10), .int z3] h (fun v h1 => ∃ r, (fX4_takeNewName_12 w z1 z3) = r ∧ v = some (.int r.1) ∧ HW G K h1 r.2) := by
  show Tr l G mX4_takeNewName 2 0 0 0 [(0, .ref (gz G + 1)), (1, .int z1), (2, .ref (gz G + 10)), (3, .int z3)] [] h _
  refine am_iload_n dX4_takeNewName_0 1 rfl ?_
  refine am_iconst (v := (-1)) dX4_takeNewName_1 (by decide) ?_
  refine am_icmp_ne dX4_takeNewName_2 (by decide : ((2 : Nat) : Int) + (11) = ((13 : Nat) : Int)) (fun c1 => ?_) (fun c1 => ?_)
  · refine am_aload_n dX4_takeNewName_13 2 rfl ?_
    refine am_iload_n dX4_takeNewName_14 3 rfl ?_
    refine am_iload_n dX4_takeNewName_15 1 rfl ?_
    refine am_callSN (As := [.ref (gz G + 10), .int z3, .int z1]) (rest := []) dX4_takeNewName_16 kMX4_204 rfl  rfl (Nat.le_of_ble_eq_true rfl) (d2 := 1) (by decide) (k2 := 0) (Nat.zero_le _) (u2 := 0) (Nat.zero_le _) (Nat.le_of_ble_eq_true rfl) (ctX6_indexOfName (f := ((w.2.2.1 0).2 5)) (pl_r5 (p := (w.2.2.1 0)) (hwP0 (w := w) hw)) (by decide) z3 z1 ) (fun v2 h3 q4 => ?_)
    obtain ⟨rfl, rfl⟩ := q4
    refine am_iconst (v := (-1)) dX4_takeNewName_19 (by decide) ?_
    refine am_icmp_eq dX4_takeNewName_20 (by decide : ((20 : Nat) : Int) + (8) = ((28 : Nat) : Int)) (fun c5 => ?_) (fun c5 => ?_)
    · refine am_aload_n dX4_takeNewName_28 0 rfl ?_
      refine am_callV (As := []) (rest := []) dX4_takeNewName_29 kMX4_48 rfl (hwc1 (w := w) hw) rfl rfl (Nat.le_of_ble_eq_true rfl) (d2 := 1) (by decide) (k2 := 0) (Nat.zero_le _) (u2 := 0) (Nat.zero_le _) (Nat.le_of_ble_eq_true rfl) (ctX4_advance (w := w) hw ) (fun v6 h7 q8 => ?_)
      obtain ⟨r9, e10, rfl, w11⟩ := q8
      refine am_iload_n dX4_takeNewName_32 1 rfl ?_
      exact am_ireturn dX4_takeNewName_33 rfl rfl ⟨_, Eq.trans (if_neg c1) (Eq.trans (if_pos c5) (bnd_eq e10 (rfl))), rfl, w11⟩
    · refine am_aload_n dX4_takeNewName_23 0 rfl ?_
      refine am_iconst (v := 3) dX4_takeNewName_24 (by decide) ?_
      refine am_callV (As := [.int 3]) (rest := []) dX4_takeNewName_25 kMX4_98 rfl (hwc1 (w := w) hw) rfl rfl (Nat.le_of_ble_eq_true rfl) (d2 := 0) (by decide) (k2 := 0) (Nat.zero_le _) (u2 := 0) (Nat.zero_le _) (Nat.le_of_ble_eq_true rfl) (ctX4_refuse (w := w) hw 3) (fun v12 h13 q14 => ?_)
      obtain ⟨r15, e16, rfl, w17⟩ := q14
      refine am_aload_n dX4_takeNewName_28 0 rfl ?_
      refine am_callV (As := []) (rest := []) dX4_takeNewName_29 kMX4_48 rfl (hwc1 (w := r15) w17) rfl rfl (Nat.le_of_ble_eq_true rfl) (d2 := 1) (by decide) (k2 := 0) (Nat.zero_le _) (u2 := 0) (Nat.zero_le _) (Nat.le_of_ble_eq_true rfl) (ctX4_advance (w := r15) w17 ) (fun v18 h19 q20 => ?_)
      obtain ⟨r21, e22, rfl, w23⟩ := q20
      refine am_iload_n dX4_takeNewName_32 1 rfl ?_
      exact am_ireturn dX4_takeNewName_33 rfl rfl ⟨_, Eq.trans (if_neg c1) (Eq.trans (if_neg c5) (bnd_eq e16 (bnd_eq e22 (rfl)))), rfl, w23⟩
  · refine am_aload_n dX4_takeNewName_5 0 rfl ?_
    refine am_iconst (v := 1) dX4_takeNewName_6 (by decide) ?_
    refine am_callV (As := [.int 1]) (rest := []) dX4_takeNewName_7 kMX4_98 rfl (hwc1 (w := w) hw) rfl rfl (Nat.le_of_ble_eq_true rfl) (d2 := 0) (by decide) (k2 := 0) (Nat.zero_le _) (u2 := 0) (Nat.zero_le _) (Nat.le_of_ble_eq_true rfl) (ctX4_refuse (w := w) hw 1) (fun v24 h25 q26 => ?_)
    obtain ⟨r27, e28, rfl, w29⟩ := q26
    refine am_goto dX4_takeNewName_10 (by decide : ((10 : Nat) : Int) + (18) = ((28 : Nat) : Int)) ?_
    refine am_aload_n dX4_takeNewName_28 0 rfl ?_
    refine am_callV (As := []) (rest := []) dX4_takeNewName_29 kMX4_48 rfl (hwc1 (w := r27) w29) rfl rfl (Nat.le_of_ble_eq_true rfl) (d2 := 1) (by decide) (k2 := 0) (Nat.zero_le _) (u2 := 0) (Nat.zero_le _) (Nat.le_of_ble_eq_true rfl) (ctX4_advance (w := r27) w29 ) (fun v30 h31 q32 => ?_)
    obtain ⟨r33, e34, rfl, w35⟩ := q32
    refine am_iload_n dX4_takeNewName_32 1 rfl ?_
    exact am_ireturn dX4_takeNewName_33 rfl rfl ⟨_, Eq.trans (if_pos c1) (bnd_eq e28 (bnd_eq e34 (rfl))), rfl, w35⟩

theorem dX4_readSize_0 : decode cX4_readSize 0 = .ok (.aload_n 0, 1) := by decide +kernel
theorem dX4_readSize_1 : decode cX4_readSize 1 = .ok (.aload_n 1, 1) := by decide +kernel
theorem dX4_readSize_2 : decode cX4_readSize 2 = .ok (.getfield 159, 3) := by decide +kernel
theorem dX4_readSize_5 : decode cX4_readSize 5 = .ok (.bipush 6, 2) := by decide +kernel
theorem dX4_readSize_7 : decode cX4_readSize 7 = .ok (.if_icmp .lt 7, 3) := by decide +kernel
theorem dX4_readSize_10 : decode cX4_readSize 10 = .ok (.iconst 1, 1) := by decide +kernel
theorem dX4_readSize_11 : decode cX4_readSize 11 = .ok (.goto 4, 3) := by decide +kernel
theorem dX4_readSize_14 : decode cX4_readSize 14 = .ok (.iconst 0, 1) := by decide +kernel
theorem dX4_readSize_15 : decode cX4_readSize 15 = .ok (.iconst 5, 1) := by decide +kernel
theorem dX4_readSize_16 : decode cX4_readSize 16 = .ok (.invokevirtual 102, 3) := by decide +kernel
theorem dX4_readSize_19 : decode cX4_readSize 19 = .ok (.aload_n 0, 1) := by decide +kernel
theorem dX4_readSize_20 : decode cX4_readSize 20 = .ok (.aload_n 0, 1) := by decide +kernel
theorem dX4_readSize_21 : decode cX4_readSize 21 = .ok (.invokevirtual 129, 3) := by decide +kernel
theorem dX4_readSize_24 : decode cX4_readSize 24 = .ok (.aload_n 1, 1) := by decide +kernel
theorem dX4_readSize_25 : decode cX4_readSize 25 = .ok (.getfield 162, 3) := by decide +kernel
theorem dX4_readSize_28 : decode cX4_readSize 28 = .ok (.aload_n 1, 1) := by decide +kernel
theorem dX4_readSize_29 : decode cX4_readSize 29 = .ok (.getfield 159, 3) := by decide +kernel
theorem dX4_readSize_32 : decode cX4_readSize 32 = .ok (.invokevirtual 136, 3) := by decide +kernel
theorem dX4_readSize_35 : decode cX4_readSize 35 = .ok (.istore_n 2, 1) := by decide +kernel
theorem dX4_readSize_36 : decode cX4_readSize 36 = .ok (.aload_n 0, 1) := by decide +kernel
theorem dX4_readSize_37 : decode cX4_readSize 37 = .ok (.sipush 500, 3) := by decide +kernel
theorem dX4_readSize_40 : decode cX4_readSize 40 = .ok (.sipush 9999, 3) := by decide +kernel
theorem dX4_readSize_43 : decode cX4_readSize 43 = .ok (.invokevirtual 106, 3) := by decide +kernel
theorem dX4_readSize_46 : decode cX4_readSize 46 = .ok (.istore_n 3, 1) := by decide +kernel
theorem dX4_readSize_47 : decode cX4_readSize 47 = .ok (.aload_n 0, 1) := by decide +kernel
theorem dX4_readSize_48 : decode cX4_readSize 48 = .ok (.iload_n 3, 1) := by decide +kernel
theorem dX4_readSize_49 : decode cX4_readSize 49 = .ok (.sipush 9999, 3) := by decide +kernel
theorem dX4_readSize_52 : decode cX4_readSize 52 = .ok (.invokevirtual 106, 3) := by decide +kernel
theorem dX4_readSize_55 : decode cX4_readSize 55 = .ok (.istore 4, 2) := by decide +kernel
theorem dX4_readSize_57 : decode cX4_readSize 57 = .ok (.aload_n 0, 1) := by decide +kernel
theorem dX4_readSize_58 : decode cX4_readSize 58 = .ok (.invokevirtual 116, 3) := by decide +kernel
theorem dX4_readSize_61 : decode cX4_readSize 61 = .ok (.aload_n 0, 1) := by decide +kernel
theorem dX4_readSize_62 : decode cX4_readSize 62 = .ok (.getfield 29, 3) := by decide +kernel
theorem dX4_readSize_65 : decode cX4_readSize 65 = .ok (.ifCond .ne 50, 3) := by decide +kernel
theorem dX4_readSize_68 : decode cX4_readSize 68 = .ok (.aload_n 1, 1) := by decide +kernel
theorem dX4_readSize_69 : decode cX4_readSize 69 = .ok (.getfield 162, 3) := by decide +kernel
theorem dX4_readSize_72 : decode cX4_readSize 72 = .ok (.aload_n 1, 1) := by decide +kernel
theorem dX4_readSize_73 : decode cX4_readSize 73 = .ok (.getfield 159, 3) := by decide +kernel
theorem dX4_readSize_76 : decode cX4_readSize 76 = .ok (.iload_n 2, 1) := by decide +kernel
theorem dX4_readSize_77 : decode cX4_readSize 77 = .ok (.invokestatic 140, 3) := by decide +kernel
theorem dX4_readSize_80 : decode cX4_readSize 80 = .ok (.aload_n 1, 1) := by decide +kernel
theorem dX4_readSize_81 : decode cX4_readSize 81 = .ok (.getfield 165, 3) := by decide +kernel
theorem dX4_readSize_84 : decode cX4_readSize 84 = .ok (.aload_n 1, 1) := by decide +kernel
theorem dX4_readSize_85 : decode cX4_readSize 85 = .ok (.getfield 159, 3) := by decide +kernel
theorem dX4_readSize_88 : decode cX4_readSize 88 = .ok (.iload_n 3, 1) := by decide +kernel
theorem dX4_readSize_89 : decode cX4_readSize 89 = .ok (.invokestatic 140, 3) := by decide +kernel
theorem dX4_readSize_92 : decode cX4_readSize 92 = .ok (.aload_n 1, 1) := by decide +kernel
theorem dX4_readSize_93 : decode cX4_readSize 93 = .ok (.getfield 168, 3) := by decide +kernel
theorem dX4_readSize_96 : decode cX4_readSize 96 = .ok (.aload_n 1, 1) := by decide +kernel
theorem dX4_readSize_97 : decode cX4_readSize 97 = .ok (.getfield 159, 3) := by decide +kernel
theorem dX4_readSize_100 : decode cX4_readSize 100 = .ok (.iload 4, 2) := by decide +kernel
theorem dX4_readSize_102 : decode cX4_readSize 102 = .ok (.invokestatic 140, 3) := by decide +kernel
theorem dX4_readSize_105 : decode cX4_readSize 105 = .ok (.aload_n 1, 1) := by decide +kernel
theorem dX4_readSize_106 : decode cX4_readSize 106 = .ok (.dup, 1) := by decide +kernel
theorem dX4_readSize_107 : decode cX4_readSize 107 = .ok (.getfield 159, 3) := by decide +kernel
theorem dX4_readSize_110 : decode cX4_readSize 110 = .ok (.iconst 1, 1) := by decide +kernel
theorem dX4_readSize_111 : decode cX4_readSize 111 = .ok (.iadd, 1) := by decide +kernel
theorem dX4_readSize_112 : decode cX4_readSize 112 = .ok (.putfield 159, 3) := by decide +kernel
theorem dX4_readSize_115 : decode cX4_readSize 115 = .ok (.return_, 1) := by decide +kernel
def fX4_readSize_6 (w : Wd)  : Wd := (if ((w.2.2.1 0).1 2) < 6 then (bnd (fX4_startStatement w 0 5) (fun r5 => (bnd (fX4_takeNewName_12 r5 (fX4_nameHere r5 ) ((r5.2.2.1 0).1 2)) (fun r14 => (bnd (fX4_readNumber r14.2 500 9999) (fun r20 => (bnd (fX4_readNumber r20.2 r20.1 9999) (fun r26 => (bnd (fX4_endStatement r26.2 ) (fun r32 => (if (r32.1 1) = 0 then (bnd (wP (wP r32 0 (upR (r32.2.2.1 0) 5 (fX6_put 6 ((r32.2.2.1 0).2 5) ((r32.2.2.1 0).1 2) r14.1))) 0 (upR (upR (r32.2.2.1 0) 5 (fX6_put 6 ((r32.2.2.1 0).2 5) ((r32.2.2.1 0).1 2) r14.1)) 6 (fX6_put 6 ((upR (r32.2.2.1 0) 5 (fX6_put 6 ((r32.2.2.1 0).2 5) ((r32.2.2.1 0).1 2) r14.1)).2 6) ((upR (r32.2.2.1 0) 5 (fX6_put 6 ((r32.2.2.1 0).2 5) ((r32.2.2.1 0).1 2) r14.1)).1 2) r20.1))) (fun r44 => (bnd (wP (wP r44 0 (upR (r44.2.2.1 0) 7 (fX6_put 6 ((r44.2.2.1 0).2 7) ((r44.2.2.1 0).1 2) r26.1))) 0 (upS (upR (r44.2.2.1 0) 7 (fX6_put 6 ((r44.2.2.1 0).2 7) ((r44.2.2.1 0).1 2) r26.1)) 2 (((upR (r44.2.2.1 0) 7 (fX6_put 6 ((r44.2.2.1 0).2 7) ((r44.2.2.1 0).1 2) r26.1)).1 2) + 1))) (fun r52 => r52)))) else r32))))))))))) else (bnd (fX4_startStatement w 1 5) (fun r58 => (bnd (fX4_takeNewName_12 r58 (fX4_nameHere r58 ) ((r58.2.2.1 0).1 2)) (fun r67 => (bnd (fX4_readNumber r67.2 500 9999) (fun r73 => (bnd (fX4_readNumber r73.2 r73.1 9999) (fun r79 => (bnd (fX4_endStatement r79.2 ) (fun r85 => (if (r85.1 1) = 0 then (bnd (wP (wP r85 0 (upR (r85.2.2.1 0) 5 (fX6_put 6 ((r85.2.2.1 0).2 5) ((r85.2.2.1 0).1 2) r67.1))) 0 (upR (upR (r85.2.2.1 0) 5 (fX6_put 6 ((r85.2.2.1 0).2 5) ((r85.2.2.1 0).1 2) r67.1)) 6 (fX6_put 6 ((upR (r85.2.2.1 0) 5 (fX6_put 6 ((r85.2.2.1 0).2 5) ((r85.2.2.1 0).1 2) r67.1)).2 6) ((upR (r85.2.2.1 0) 5 (fX6_put 6 ((r85.2.2.1 0).2 5) ((r85.2.2.1 0).1 2) r67.1)).1 2) r73.1))) (fun r97 => (bnd (wP (wP r97 0 (upR (r97.2.2.1 0) 7 (fX6_put 6 ((r97.2.2.1 0).2 7) ((r97.2.2.1 0).1 2) r79.1))) 0 (upS (upR (r97.2.2.1 0) 7 (fX6_put 6 ((r97.2.2.1 0).2 7) ((r97.2.2.1 0).1 2) r79.1)) 2 (((upR (r97.2.2.1 0) 7 (fX6_put 6 ((r97.2.2.1 0).2 7) ((r97.2.2.1 0).1 2) r79.1)).1 2) + 1))) (fun r105 => r105)))) else r85))))))))))))
set_option maxRecDepth 20000 in
theorem ctX4_readSize_6 {l : Launch} {G : GM} {K : Nat → Option va_E} {h : List va_E} {w : Wd} (hw : HW G K h w)  : Ct l G mX4_readSize 7 0 0 [.ref (gz G + 1), .ref (gz G + 4)] h (fun v h1 => ∃ r, (fX4_readSize_6 w ) = r ∧ v = none ∧ HW G K h1 r) := by
  show Tr l G mX4_readSize 7 0 0 0 [(0, .ref (gz G + 1)), (1, .ref (gz G + 4))] [] h _
  refine am_aload_n dX4_readSize_0 0 rfl ?_
  refine am_aload_n dX4_readSize_1 1 rfl ?_
  refine am_get (v := .int ((w.2.2.1 0).1 2)) dX4_readSize_2 kGX4_159 (pl_1 (p := (w.2.2.1 0)) (hwP0 (w := w) hw)) rfl ?_
  refine am_bipush (v := 6) dX4_readSize_5 (by decide) ?_
  refine am_icmp_lt dX4_readSize_7 (by decide : ((7 : Nat) : Int) + (7) = ((14 : Nat) : Int)) (fun c1 => ?_) (fun c1 => ?_)
  · refine am_iconst (v := 0) dX4_readSize_14 (by decide) ?_
    refine am_iconst (v := 5) dX4_readSize_15 (by decide) ?_
    refine am_callV (As := [.int 0, .int 5]) (rest := []) dX4_readSize_16 kMX4_102 rfl (hwc1 (w := w) hw) rfl rfl (Nat.le_of_ble_eq_true rfl) (d2 := 2) (by decide) (k2 := 0) (Nat.zero_le _) (u2 := 0) (Nat.zero_le _) (Nat.le_of_ble_eq_true rfl) (ctX4_startStatement (w := w) hw 0 5) (fun v2 h3 q4 => ?_)
    obtain ⟨r5, e6, rfl, w7⟩ := q4
    refine am_aload_n dX4_readSize_19 0 rfl ?_
    refine am_aload_n dX4_readSize_20 0 rfl ?_
    refine am_callV (As := []) (rest := [.ref (gz G + 1)]) dX4_readSize_21 kMX4_129 rfl (hwc1 (w := r5) w7) rfl rfl (Nat.le_of_ble_eq_true rfl) (d2 := 6) (by decide) (k2 := 0) (Nat.zero_le _) (u2 := 0) (Nat.zero_le _) (Nat.le_of_ble_eq_true rfl) (ctX4_nameHere (w := r5) w7 ) (fun v8 h9 q10 => ?_)
    obtain ⟨rfl, rfl⟩ := q10
    refine am_aload_n dX4_readSize_24 1 rfl ?_
    refine am_get (v := .ref (gz G + 10)) dX4_readSize_25 kGX4_162 (pl_1 (p := (r5.2.2.1 0)) (hwP0 (w := r5) w7)) rfl ?_
    refine am_aload_n dX4_readSize_28 1 rfl ?_
    refine am_get (v := .int ((r5.2.2.1 0).1 2)) dX4_readSize_29 kGX4_159 (pl_1 (p := (r5.2.2.1 0)) (hwP0 (w := r5) w7)) rfl ?_
    refine am_callV (As := [.int (fX4_nameHere r5 ), .ref (gz G + 10), .int ((r5.2.2.1 0).1 2)]) (rest := []) dX4_readSize_32 kMX4_136 rfl (hwc1 (w := r5) w7) rfl rfl (Nat.le_of_ble_eq_true rfl) (d2 := 2) (by decide) (k2 := 0) (Nat.zero_le _) (u2 := 0) (Nat.zero_le _) (Nat.le_of_ble_eq_true rfl) (ctX4_takeNewName_12 (w := r5) w7 (fX4_nameHere r5 ) ((r5.2.2.1 0).1 2)) (fun v11 h12 q13 => ?_)
    obtain ⟨r14, e15, rfl, w16⟩ := q13
    refine am_istore_n dX4_readSize_35 (by decide) (lv' := [(2, .int r14.1), (0, .ref (gz G + 1)), (1, .ref (gz G + 4))]) rfl ?_
    refine am_aload_n dX4_readSize_36 1 rfl ?_
    refine am_sipush (v := 500) dX4_readSize_37 (by decide) ?_
    refine am_sipush (v := 9999) dX4_readSize_40 (by decide) ?_
    refine am_callV (As := [.int 500, .int 9999]) (rest := []) dX4_readSize_43 kMX4_106 rfl (hwc1 (w := r14.2) w16) rfl rfl (Nat.le_of_ble_eq_true rfl) (d2 := 2) (by decide) (k2 := 0) (Nat.zero_le _) (u2 := 0) (Nat.zero_le _) (Nat.le_of_ble_eq_true rfl) (ctX4_readNumber (w := r14.2) w16 500 9999) (fun v17 h18 q19 => ?_)
    obtain ⟨r20, e21, rfl, w22⟩ := q19
    refine am_istore_n dX4_readSize_46 (by decide) (lv' := [(3, .int r20.1), (2, .int r14.1), (0, .ref (gz G + 1)), (1, .ref (gz G + 4))]) rfl ?_
    refine am_aload_n dX4_readSize_47 2 rfl ?_
    refine am_iload_n dX4_readSize_48 0 rfl ?_
    refine am_sipush (v := 9999) dX4_readSize_49 (by decide) ?_
    refine am_callV (As := [.int r20.1, .int 9999]) (rest := []) dX4_readSize_52 kMX4_106 rfl (hwc1 (w := r20.2) w22) rfl rfl (Nat.le_of_ble_eq_true rfl) (d2 := 2) (by decide) (k2 := 0) (Nat.zero_le _) (u2 := 0) (Nat.zero_le _) (Nat.le_of_ble_eq_true rfl) (ctX4_readNumber (w := r20.2) w22 r20.1 9999) (fun v23 h24 q25 => ?_)
    obtain ⟨r26, e27, rfl, w28⟩ := q25
    refine am_istore dX4_readSize_55 (by decide) (lv' := [(4, .int r26.1), (3, .int r20.1), (2, .int r14.1), (0, .ref (gz G + 1)), (1, .ref (gz G + 4))]) rfl ?_
    refine am_aload_n dX4_readSize_57 3 rfl ?_
    refine am_callV (As := []) (rest := []) dX4_readSize_58 kMX4_116 rfl (hwc1 (w := r26.2) w28) rfl rfl (Nat.le_of_ble_eq_true rfl) (d2 := 2) (by decide) (k2 := 0) (Nat.zero_le _) (u2 := 0) (Nat.zero_le _) (Nat.le_of_ble_eq_true rfl) (ctX4_endStatement (w := r26.2) w28 ) (fun v29 h30 q31 => ?_)
    obtain ⟨r32, e33, rfl, w34⟩ := q31
    refine am_aload_n dX4_readSize_61 3 rfl ?_
    refine am_get (v := .int (r32.1 1)) dX4_readSize_62 kGX4_29 (hwc1 (w := r32) w34) rfl ?_
    refine am_if_ne dX4_readSize_65 (by decide : ((65 : Nat) : Int) + (50) = ((115 : Nat) : Int)) (fun c35 => ?_) (fun c35 => ?_)
    · exact am_return dX4_readSize_115 rfl ⟨_, Eq.trans (if_pos c1) (bnd_eq e6 (bnd_eq e15 (bnd_eq e21 (bnd_eq e27 (bnd_eq e33 (Eq.trans (if_neg c35) (rfl))))))), rfl, w34⟩
    · refine am_aload_n dX4_readSize_68 4 rfl ?_
      refine am_get (v := .ref (gz G + 10)) dX4_readSize_69 kGX4_162 (pl_1 (p := (r32.2.2.1 0)) (hwP0 (w := r32) w34)) rfl ?_
      refine am_aload_n dX4_readSize_72 4 rfl ?_
      refine am_get (v := .int ((r32.2.2.1 0).1 2)) dX4_readSize_73 kGX4_159 (pl_1 (p := (r32.2.2.1 0)) (hwP0 (w := r32) w34)) rfl ?_
      refine am_iload_n dX4_readSize_76 2 rfl ?_
      refine am_callSN (As := [.ref (gz G + 10), .int ((r32.2.2.1 0).1 2), .int r14.1]) (rest := []) dX4_readSize_77 kMX4_140 rfl  rfl (Nat.le_of_ble_eq_true rfl) (d2 := 0) (by decide) (k2 := 0) (Nat.zero_le _) (u2 := 0) (Nat.zero_le _) (Nat.le_of_ble_eq_true rfl) (ctX6_put (f := ((r32.2.2.1 0).2 5)) (pl_r5 (p := (r32.2.2.1 0)) (hwP0 (w := r32) w34)) (by decide) ((r32.2.2.1 0).1 2) r14.1) (fun v36 h37 q38 => ?_)
      obtain ⟨rfl, rfl⟩ := q38
      have w39 := hwPu w34 (i := 0) (by decide) (p := (upR (r32.2.2.1 0) 5 (fX6_put 6 ((r32.2.2.1 0).2 5) ((r32.2.2.1 0).1 2) r14.1))) (pl_u5 (hwP0 (w := r32) w34) (fX6_put 6 ((r32.2.2.1 0).2 5) ((r32.2.2.1 0).1 2) r14.1)) (Fr.set Fr.rf (a := 10) (S := fun q => pb 0 ≤ q ∧ q < pb 0 + 16) (by decide))
      refine am_aload_n dX4_readSize_80 4 rfl ?_
      refine am_get (v := .ref (gz G + 11)) dX4_readSize_81 kGX4_165 (pl_1 (p := (upR (r32.2.2.1 0) 5 (fX6_put 6 ((r32.2.2.1 0).2 5) ((r32.2.2.1 0).1 2) r14.1))) (hwP0 (w := (wP r32 0 (upR (r32.2.2.1 0) 5 (fX6_put 6 ((r32.2.2.1 0).2 5) ((r32.2.2.1 0).1 2) r14.1)))) w39)) rfl ?_
      refine am_aload_n dX4_readSize_84 4 rfl ?_
      refine am_get (v := .int ((upR (r32.2.2.1 0) 5 (fX6_put 6 ((r32.2.2.1 0).2 5) ((r32.2.2.1 0).1 2) r14.1)).1 2)) dX4_readSize_85 kGX4_159 (pl_1 (p := (upR (r32.2.2.1 0) 5 (fX6_put 6 ((r32.2.2.1 0).2 5) ((r32.2.2.1 0).1 2) r14.1))) (hwP0 (w := (wP r32 0 (upR (r32.2.2.1 0) 5 (fX6_put 6 ((r32.2.2.1 0).2 5) ((r32.2.2.1 0).1 2) r14.1)))) w39)) rfl ?_
      refine am_iload_n dX4_readSize_88 1 rfl ?_
      refine am_callSN (As := [.ref (gz G + 11), .int ((upR (r32.2.2.1 0) 5 (fX6_put 6 ((r32.2.2.1 0).2 5) ((r32.2.2.1 0).1 2) r14.1)).1 2), .int r20.1]) (rest := []) dX4_readSize_89 kMX4_140 rfl  rfl (Nat.le_of_ble_eq_true rfl) (d2 := 0) (by decide) (k2 := 0) (Nat.zero_le _) (u2 := 0) (Nat.zero_le _) (Nat.le_of_ble_eq_true rfl) (ctX6_put (f := ((upR (r32.2.2.1 0) 5 (fX6_put 6 ((r32.2.2.1 0).2 5) ((r32.2.2.1 0).1 2) r14.1)).2 6)) (pl_r6 (p := (upR (r32.2.2.1 0) 5 (fX6_put 6 ((r32.2.2.1 0).2 5) ((r32.2.2.1 0).1 2) r14.1))) (hwP0 (w := (wP r32 0 (upR (r32.2.2.1 0) 5 (fX6_put 6 ((r32.2.2.1 0).2 5) ((r32.2.2.1 0).1 2) r14.1)))) w39)) (by decide) ((upR (r32.2.2.1 0) 5 (fX6_put 6 ((r32.2.2.1 0).2 5) ((r32.2.2.1 0).1 2) r14.1)).1 2) r20.1) (fun v40 h41 q42 => ?_)
      obtain ⟨rfl, rfl⟩ := q42
      have w43 := hwPu w39 (i := 0) (by decide) (p := (upR (upR (r32.2.2.1 0) 5 (fX6_put 6 ((r32.2.2.1 0).2 5) ((r32.2.2.1 0).1 2) r14.1)) 6 (fX6_put 6 ((upR (r32.2.2.1 0) 5 (fX6_put 6 ((r32.2.2.1 0).2 5) ((r32.2.2.1 0).1 2) r14.1)).2 6) ((upR (r32.2.2.1 0) 5 (fX6_put 6 ((r32.2.2.1 0).2 5) ((r32.2.2.1 0).1 2) r14.1)).1 2) r20.1))) (pl_u6 (hwP0 (w := (wP r32 0 (upR (r32.2.2.1 0) 5 (fX6_put 6 ((r32.2.2.1 0).2 5) ((r32.2.2.1 0).1 2) r14.1)))) w39) (fX6_put 6 ((upR (r32.2.2.1 0) 5 (fX6_put 6 ((r32.2.2.1 0).2 5) ((r32.2.2.1 0).1 2) r14.1)).2 6) ((upR (r32.2.2.1 0) 5 (fX6_put 6 ((r32.2.2.1 0).2 5) ((r32.2.2.1 0).1 2) r14.1)).1 2) r20.1)) (Fr.set Fr.rf (a := 11) (S := fun q => pb 0 ≤ q ∧ q < pb 0 + 16) (by decide))
      obtain ⟨r44, e45⟩ : ∃ x, (wP (wP r32 0 (upR (r32.2.2.1 0) 5 (fX6_put 6 ((r32.2.2.1 0).2 5) ((r32.2.2.1 0).1 2) r14.1))) 0 (upR (upR (r32.2.2.1 0) 5 (fX6_put 6 ((r32.2.2.1 0).2 5) ((r32.2.2.1 0).1 2) r14.1)) 6 (fX6_put 6 ((upR (r32.2.2.1 0) 5 (fX6_put 6 ((r32.2.2.1 0).2 5) ((r32.2.2.1 0).1 2) r14.1)).2 6) ((upR (r32.2.2.1 0) 5 (fX6_put 6 ((r32.2.2.1 0).2 5) ((r32.2.2.1 0).1 2) r14.1)).1 2) r20.1))) = x := ⟨_, rfl⟩
      have w46 := hw_eq e45 w43
      refine am_aload_n dX4_readSize_92 4 rfl ?_
      refine am_get (v := .ref (gz G + 12)) dX4_readSize_93 kGX4_168 (pl_1 (p := (r44.2.2.1 0)) (hwP0 (w := r44) w46)) rfl ?_
      refine am_aload_n dX4_readSize_96 4 rfl ?_
      refine am_get (v := .int ((r44.2.2.1 0).1 2)) dX4_readSize_97 kGX4_159 (pl_1 (p := (r44.2.2.1 0)) (hwP0 (w := r44) w46)) rfl ?_
      refine am_iload dX4_readSize_100 0 rfl ?_
      refine am_callSN (As := [.ref (gz G + 12), .int ((r44.2.2.1 0).1 2), .int r26.1]) (rest := []) dX4_readSize_102 kMX4_140 rfl  rfl (Nat.le_of_ble_eq_true rfl) (d2 := 0) (by decide) (k2 := 0) (Nat.zero_le _) (u2 := 0) (Nat.zero_le _) (Nat.le_of_ble_eq_true rfl) (ctX6_put (f := ((r44.2.2.1 0).2 7)) (pl_r7 (p := (r44.2.2.1 0)) (hwP0 (w := r44) w46)) (by decide) ((r44.2.2.1 0).1 2) r26.1) (fun v47 h48 q49 => ?_)
      obtain ⟨rfl, rfl⟩ := q49
      have w50 := hwPu w46 (i := 0) (by decide) (p := (upR (r44.2.2.1 0) 7 (fX6_put 6 ((r44.2.2.1 0).2 7) ((r44.2.2.1 0).1 2) r26.1))) (pl_u7 (hwP0 (w := r44) w46) (fX6_put 6 ((r44.2.2.1 0).2 7) ((r44.2.2.1 0).1 2) r26.1)) (Fr.set Fr.rf (a := 12) (S := fun q => pb 0 ≤ q ∧ q < pb 0 + 16) (by decide))
      refine am_aload_n dX4_readSize_105 4 rfl ?_
      refine am_dup dX4_readSize_106 rfl ?_
      refine am_get (v := .int ((upR (r44.2.2.1 0) 7 (fX6_put 6 ((r44.2.2.1 0).2 7) ((r44.2.2.1 0).1 2) r26.1)).1 2)) dX4_readSize_107 kGX4_159 (pl_1 (p := (upR (r44.2.2.1 0) 7 (fX6_put 6 ((r44.2.2.1 0).2 7) ((r44.2.2.1 0).1 2) r26.1))) (hwP0 (w := (wP r44 0 (upR (r44.2.2.1 0) 7 (fX6_put 6 ((r44.2.2.1 0).2 7) ((r44.2.2.1 0).1 2) r26.1)))) w50)) rfl ?_
      refine am_iconst (v := 1) dX4_readSize_110 (by decide) ?_
      refine am_iadd dX4_readSize_111 ?_
      refine am_put dX4_readSize_112 kFX4_159 (pl_1 (p := (upR (r44.2.2.1 0) 7 (fX6_put 6 ((r44.2.2.1 0).2 7) ((r44.2.2.1 0).1 2) r26.1))) (hwP0 (w := (wP r44 0 (upR (r44.2.2.1 0) 7 (fX6_put 6 ((r44.2.2.1 0).2 7) ((r44.2.2.1 0).1 2) r26.1)))) w50)) (Nat.le_of_ble_eq_true rfl) rfl rfl ?_
      have w51 := hwPu w50 (i := 0) (by decide) (p := (upS (upR (r44.2.2.1 0) 7 (fX6_put 6 ((r44.2.2.1 0).2 7) ((r44.2.2.1 0).1 2) r26.1)) 2 (((upR (r44.2.2.1 0) 7 (fX6_put 6 ((r44.2.2.1 0).2 7) ((r44.2.2.1 0).1 2) r26.1)).1 2) + 1))) (pl_s2 (hwP0 (w := (wP r44 0 (upR (r44.2.2.1 0) 7 (fX6_put 6 ((r44.2.2.1 0).2 7) ((r44.2.2.1 0).1 2) r26.1)))) w50) (((upR (r44.2.2.1 0) 7 (fX6_put 6 ((r44.2.2.1 0).2 7) ((r44.2.2.1 0).1 2) r26.1)).1 2) + 1)) (Fr.set Fr.rf (a := 4) (S := fun q => pb 0 ≤ q ∧ q < pb 0 + 16) (by decide))
      obtain ⟨r52, e53⟩ : ∃ x, (wP (wP r44 0 (upR (r44.2.2.1 0) 7 (fX6_put 6 ((r44.2.2.1 0).2 7) ((r44.2.2.1 0).1 2) r26.1))) 0 (upS (upR (r44.2.2.1 0) 7 (fX6_put 6 ((r44.2.2.1 0).2 7) ((r44.2.2.1 0).1 2) r26.1)) 2 (((upR (r44.2.2.1 0) 7 (fX6_put 6 ((r44.2.2.1 0).2 7) ((r44.2.2.1 0).1 2) r26.1)).1 2) + 1))) = x := ⟨_, rfl⟩
      have w54 := hw_eq e53 w51
      exact am_return dX4_readSize_115 rfl ⟨_, Eq.trans (if_pos c1) (bnd_eq e6 (bnd_eq e15 (bnd_eq e21 (bnd_eq e27 (bnd_eq e33 (Eq.trans (if_pos c35) (bnd_eq e45 (bnd_eq e53 (rfl))))))))), rfl, w54⟩
  · refine am_iconst (v := 1) dX4_readSize_10 (by decide) ?_
    refine am_goto dX4_readSize_11 (by decide : ((11 : Nat) : Int) + (4) = ((15 : Nat) : Int)) ?_
    refine am_iconst (v := 5) dX4_readSize_15 (by decide) ?_
    refine am_callV (As := [.int 1, .int 5]) (rest := []) dX4_readSize_16 kMX4_102 rfl (hwc1 (w := w) hw) rfl rfl (Nat.le_of_ble_eq_true rfl) (d2 := 2) (by decide) (k2 := 0) (Nat.zero_le _) (u2 := 0) (Nat.zero_le _) (Nat.le_of_ble_eq_true rfl) (ctX4_startStatement (w := w) hw 1 5) (fun v55 h56 q57 => ?_)
    obtain ⟨r58, e59, rfl, w60⟩ := q57
    refine am_aload_n dX4_readSize_19 0 rfl ?_
    refine am_aload_n dX4_readSize_20 0 rfl ?_
    refine am_callV (As := []) (rest := [.ref (gz G + 1)]) dX4_readSize_21 kMX4_129 rfl (hwc1 (w := r58) w60) rfl rfl (Nat.le_of_ble_eq_true rfl) (d2 := 6) (by decide) (k2 := 0) (Nat.zero_le _) (u2 := 0) (Nat.zero_le _) (Nat.le_of_ble_eq_true rfl) (ctX4_nameHere (w := r58) w60 ) (fun v61 h62 q63 => ?_)
    obtain ⟨rfl, rfl⟩ := q63
    refine am_aload_n dX4_readSize_24 1 rfl ?_
    refine am_get (v := .ref (gz G + 10)) dX4_readSize_25 kGX4_162 (pl_1 (p := (r58.2.2.1 0)) (hwP0 (w := r58) w60)) rfl ?_
    refine am_aload_n dX4_readSize_28 1 rfl ?_
    refine am_get (v := .int ((r58.2.2.1 0).1 2)) dX4_readSize_29 kGX4_159 (pl_1 (p := (r58.2.2.1 0)) (hwP0 (w := r58) w60)) rfl ?_
    refine am_callV (As := [.int (fX4_nameHere r58 ), .ref (gz G + 10), .int ((r58.2.2.1 0).1 2)]) (rest := []) dX4_readSize_32 kMX4_136 rfl (hwc1 (w := r58) w60) rfl rfl (Nat.le_of_ble_eq_true rfl) (d2 := 2) (by decide) (k2 := 0) (Nat.zero_le _) (u2 := 0) (Nat.zero_le _) (Nat.le_of_ble_eq_true rfl) (ctX4_takeNewName_12 (w := r58) w60 (fX4_nameHere r58 ) ((r58.2.2.1 0).1 2)) (fun v64 h65 q66 => ?_)
    obtain ⟨r67, e68, rfl, w69⟩ := q66
    refine am_istore_n dX4_readSize_35 (by decide) (lv' := [(2, .int r67.1), (0, .ref (gz G + 1)), (1, .ref (gz G + 4))]) rfl ?_
    refine am_aload_n dX4_readSize_36 1 rfl ?_
    refine am_sipush (v := 500) dX4_readSize_37 (by decide) ?_
    refine am_sipush (v := 9999) dX4_readSize_40 (by decide) ?_
    refine am_callV (As := [.int 500, .int 9999]) (rest := []) dX4_readSize_43 kMX4_106 rfl (hwc1 (w := r67.2) w69) rfl rfl (Nat.le_of_ble_eq_true rfl) (d2 := 2) (by decide) (k2 := 0) (Nat.zero_le _) (u2 := 0) (Nat.zero_le _) (Nat.le_of_ble_eq_true rfl) (ctX4_readNumber (w := r67.2) w69 500 9999) (fun v70 h71 q72 => ?_)
    obtain ⟨r73, e74, rfl, w75⟩ := q72
    refine am_istore_n dX4_readSize_46 (by decide) (lv' := [(3, .int r73.1), (2, .int r67.1), (0, .ref (gz G + 1)), (1, .ref (gz G + 4))]) rfl ?_
    refine am_aload_n dX4_readSize_47 2 rfl ?_
    refine am_iload_n dX4_readSize_48 0 rfl ?_
    refine am_sipush (v := 9999) dX4_readSize_49 (by decide) ?_
    refine am_callV (As := [.int r73.1, .int 9999]) (rest := []) dX4_readSize_52 kMX4_106 rfl (hwc1 (w := r73.2) w75) rfl rfl (Nat.le_of_ble_eq_true rfl) (d2 := 2) (by decide) (k2 := 0) (Nat.zero_le _) (u2 := 0) (Nat.zero_le _) (Nat.le_of_ble_eq_true rfl) (ctX4_readNumber (w := r73.2) w75 r73.1 9999) (fun v76 h77 q78 => ?_)
    obtain ⟨r79, e80, rfl, w81⟩ := q78
    refine am_istore dX4_readSize_55 (by decide) (lv' := [(4, .int r79.1), (3, .int r73.1), (2, .int r67.1), (0, .ref (gz G + 1)), (1, .ref (gz G + 4))]) rfl ?_
    refine am_aload_n dX4_readSize_57 3 rfl ?_
    refine am_callV (As := []) (rest := []) dX4_readSize_58 kMX4_116 rfl (hwc1 (w := r79.2) w81) rfl rfl (Nat.le_of_ble_eq_true rfl) (d2 := 2) (by decide) (k2 := 0) (Nat.zero_le _) (u2 := 0) (Nat.zero_le _) (Nat.le_of_ble_eq_true rfl) (ctX4_endStatement (w := r79.2) w81 ) (fun v82 h83 q84 => ?_)
    obtain ⟨r85, e86, rfl, w87⟩ := q84
    refine am_aload_n dX4_readSize_61 3 rfl ?_
    refine am_get (v := .int (r85.1 1)) dX4_readSize_62 kGX4_29 (hwc1 (w := r85) w87) rfl ?_
    refine am_if_ne dX4_readSize_65 (by decide : ((65 : Nat) : Int) + (50) = ((115 : Nat) : Int)) (fun c88 => ?_) (fun c88 => ?_)
    · exact am_return dX4_readSize_115 rfl ⟨_, Eq.trans (if_neg c1) (bnd_eq e59 (bnd_eq e68 (bnd_eq e74 (bnd_eq e80 (bnd_eq e86 (Eq.trans (if_neg c88) (rfl))))))), rfl, w87⟩
    · refine am_aload_n dX4_readSize_68 4 rfl ?_
      refine am_get (v := .ref (gz G + 10)) dX4_readSize_69 kGX4_162 (pl_1 (p := (r85.2.2.1 0)) (hwP0 (w := r85) w87)) rfl ?_
      refine am_aload_n dX4_readSize_72 4 rfl ?_
      refine am_get (v := .int ((r85.2.2.1 0).1 2)) dX4_readSize_73 kGX4_159 (pl_1 (p := (r85.2.2.1 0)) (hwP0 (w := r85) w87)) rfl ?_
      refine am_iload_n dX4_readSize_76 2 rfl ?_
      refine am_callSN (As := [.ref (gz G + 10), .int ((r85.2.2.1 0).1 2), .int r67.1]) (rest := []) dX4_readSize_77 kMX4_140 rfl  rfl (Nat.le_of_ble_eq_true rfl) (d2 := 0) (by decide) (k2 := 0) (Nat.zero_le _) (u2 := 0) (Nat.zero_le _) (Nat.le_of_ble_eq_true rfl) (ctX6_put (f := ((r85.2.2.1 0).2 5)) (pl_r5 (p := (r85.2.2.1 0)) (hwP0 (w := r85) w87)) (by decide) ((r85.2.2.1 0).1 2) r67.1) (fun v89 h90 q91 => ?_)
      obtain ⟨rfl, rfl⟩ := q91
      have w92 := hwPu w87 (i := 0) (by decide) (p := (upR (r85.2.2.1 0) 5 (fX6_put 6 ((r85.2.2.1 0).2 5) ((r85.2.2.1 0).1 2) r67.1))) (pl_u5 (hwP0 (w := r85) w87) (fX6_put 6 ((r85.2.2.1 0).2 5) ((r85.2.2.1 0).1 2) r67.1)) (Fr.set Fr.rf (a := 10) (S := fun q => pb 0 ≤ q ∧ q < pb 0 + 16) (by decide))
      refine am_aload_n dX4_readSize_80 4 rfl ?_
      refine am_get (v := .ref (gz G + 11)) dX4_readSize_81 kGX4_165 (pl_1 (p := (upR (r85.2.2.1 0) 5 (fX6_put 6 ((r85.2.2.1 0).2 5) ((r85.2.2.1 0).1 2) r67.1))) (hwP0 (w := (wP r85 0 (upR (r85.2.2.1 0) 5 (fX6_put 6 ((r85.2.2.1 0).2 5) ((r85.2.2.1 0).1 2) r67.1)))) w92)) rfl ?_
      refine am_aload_n dX4_readSize_84 4 rfl ?_
      refine am_get (v := .int ((upR (r85.2.2.1 0) 5 (fX6_put 6 ((r85.2.2.1 0).2 5) ((r85.2.2.1 0).1 2) r67.1)).1 2)) dX4_readSize_85 kGX4_159 (pl_1 (p := (upR (r85.2.2.1 0) 5 (fX6_put 6 ((r85.2.2.1 0).2 5) ((r85.2.2.1 0).1 2) r67.1))) (hwP0 (w := (wP r85 0 (upR (r85.2.2.1 0) 5 (fX6_put 6 ((r85.2.2.1 0).2 5) ((r85.2.2.1 0).1 2) r67.1)))) w92)) rfl ?_
      refine am_iload_n dX4_readSize_88 1 rfl ?_
      refine am_callSN (As := [.ref (gz G + 11), .int ((upR (r85.2.2.1 0) 5 (fX6_put 6 ((r85.2.2.1 0).2 5) ((r85.2.2.1 0).1 2) r67.1)).1 2), .int r73.1]) (rest := []) dX4_readSize_89 kMX4_140 rfl  rfl (Nat.le_of_ble_eq_true rfl) (d2 := 0) (by decide) (k2 := 0) (Nat.zero_le _) (u2 := 0) (Nat.zero_le _) (Nat.le_of_ble_eq_true rfl) (ctX6_put (f := ((upR (r85.2.2.1 0) 5 (fX6_put 6 ((r85.2.2.1 0).2 5) ((r85.2.2.1 0).1 2) r67.1)).2 6)) (pl_r6 (p := (upR (r85.2.2.1 0) 5 (fX6_put 6 ((r85.2.2.1 0).2 5) ((r85.2.2.1 0).1 2) r67.1))) (hwP0 (w := (wP r85 0 (upR (r85.2.2.1 0) 5 (fX6_put 6 ((r85.2.2.1 0).2 5) ((r85.2.2.1 0).1 2) r67.1)))) w92)) (by decide) ((upR (r85.2.2.1 0) 5 (fX6_put 6 ((r85.2.2.1 0).2 5) ((r85.2.2.1 0).1 2) r67.1)).1 2) r73.1) (fun v93 h94 q95 => ?_)
      obtain ⟨rfl, rfl⟩ := q95
      have w96 := hwPu w92 (i := 0) (by decide) (p := (upR (upR (r85.2.2.1 0) 5 (fX6_put 6 ((r85.2.2.1 0).2 5) ((r85.2.2.1 0).1 2) r67.1)) 6 (fX6_put 6 ((upR (r85.2.2.1 0) 5 (fX6_put 6 ((r85.2.2.1 0).2 5) ((r85.2.2.1 0).1 2) r67.1)).2 6) ((upR (r85.2.2.1 0) 5 (fX6_put 6 ((r85.2.2.1 0).2 5) ((r85.2.2.1 0).1 2) r67.1)).1 2) r73.1))) (pl_u6 (hwP0 (w := (wP r85 0 (upR (r85.2.2.1 0) 5 (fX6_put 6 ((r85.2.2.1 0).2 5) ((r85.2.2.1 0).1 2) r67.1)))) w92) (fX6_put 6 ((upR (r85.2.2.1 0) 5 (fX6_put 6 ((r85.2.2.1 0).2 5) ((r85.2.2.1 0).1 2) r67.1)).2 6) ((upR (r85.2.2.1 0) 5 (fX6_put 6 ((r85.2.2.1 0).2 5) ((r85.2.2.1 0).1 2) r67.1)).1 2) r73.1)) (Fr.set Fr.rf (a := 11) (S := fun q => pb 0 ≤ q ∧ q < pb 0 + 16) (by decide))
      obtain ⟨r97, e98⟩ : ∃ x, (wP (wP r85 0 (upR (r85.2.2.1 0) 5 (fX6_put 6 ((r85.2.2.1 0).2 5) ((r85.2.2.1 0).1 2) r67.1))) 0 (upR (upR (r85.2.2.1 0) 5 (fX6_put 6 ((r85.2.2.1 0).2 5) ((r85.2.2.1 0).1 2) r67.1)) 6 (fX6_put 6 ((upR (r85.2.2.1 0) 5 (fX6_put 6 ((r85.2.2.1 0).2 5) ((r85.2.2.1 0).1 2) r67.1)).2 6) ((upR (r85.2.2.1 0) 5 (fX6_put 6 ((r85.2.2.1 0).2 5) ((r85.2.2.1 0).1 2) r67.1)).1 2) r73.1))) = x := ⟨_, rfl⟩
      have w99 := hw_eq e98 w96
      refine am_aload_n dX4_readSize_92 4 rfl ?_
      refine am_get (v := .ref (gz G + 12)) dX4_readSize_93 kGX4_168 (pl_1 (p := (r97.2.2.1 0)) (hwP0 (w := r97) w99)) rfl ?_
      refine am_aload_n dX4_readSize_96 4 rfl ?_
      refine am_get (v := .int ((r97.2.2.1 0).1 2)) dX4_readSize_97 kGX4_159 (pl_1 (p := (r97.2.2.1 0)) (hwP0 (w := r97) w99)) rfl ?_
      refine am_iload dX4_readSize_100 0 rfl ?_
      refine am_callSN (As := [.ref (gz G + 12), .int ((r97.2.2.1 0).1 2), .int r79.1]) (rest := []) dX4_readSize_102 kMX4_140 rfl  rfl (Nat.le_of_ble_eq_true rfl) (d2 := 0) (by decide) (k2 := 0) (Nat.zero_le _) (u2 := 0) (Nat.zero_le _) (Nat.le_of_ble_eq_true rfl) (ctX6_put (f := ((r97.2.2.1 0).2 7)) (pl_r7 (p := (r97.2.2.1 0)) (hwP0 (w := r97) w99)) (by decide) ((r97.2.2.1 0).1 2) r79.1) (fun v100 h101 q102 => ?_)
      obtain ⟨rfl, rfl⟩ := q102
      have w103 := hwPu w99 (i := 0) (by decide) (p := (upR (r97.2.2.1 0) 7 (fX6_put 6 ((r97.2.2.1 0).2 7) ((r97.2.2.1 0).1 2) r79.1))) (pl_u7 (hwP0 (w := r97) w99) (fX6_put 6 ((r97.2.2.1 0).2 7) ((r97.2.2.1 0).1 2) r79.1)) (Fr.set Fr.rf (a := 12) (S := fun q => pb 0 ≤ q ∧ q < pb 0 + 16) (by decide))
      refine am_aload_n dX4_readSize_105 4 rfl ?_
      refine am_dup dX4_readSize_106 rfl ?_
      refine am_get (v := .int ((upR (r97.2.2.1 0) 7 (fX6_put 6 ((r97.2.2.1 0).2 7) ((r97.2.2.1 0).1 2) r79.1)).1 2)) dX4_readSize_107 kGX4_159 (pl_1 (p := (upR (r97.2.2.1 0) 7 (fX6_put 6 ((r97.2.2.1 0).2 7) ((r97.2.2.1 0).1 2) r79.1))) (hwP0 (w := (wP r97 0 (upR (r97.2.2.1 0) 7 (fX6_put 6 ((r97.2.2.1 0).2 7) ((r97.2.2.1 0).1 2) r79.1)))) w103)) rfl ?_
      refine am_iconst (v := 1) dX4_readSize_110 (by decide) ?_
      refine am_iadd dX4_readSize_111 ?_
      refine am_put dX4_readSize_112 kFX4_159 (pl_1 (p := (upR (r97.2.2.1 0) 7 (fX6_put 6 ((r97.2.2.1 0).2 7) ((r97.2.2.1 0).1 2) r79.1))) (hwP0 (w := (wP r97 0 (upR (r97.2.2.1 0) 7 (fX6_put 6 ((r97.2.2.1 0).2 7) ((r97.2.2.1 0).1 2) r79.1)))) w103)) (Nat.le_of_ble_eq_true rfl) rfl rfl ?_
      have w104 := hwPu w103 (i := 0) (by decide) (p := (upS (upR (r97.2.2.1 0) 7 (fX6_put 6 ((r97.2.2.1 0).2 7) ((r97.2.2.1 0).1 2) r79.1)) 2 (((upR (r97.2.2.1 0) 7 (fX6_put 6 ((r97.2.2.1 0).2 7) ((r97.2.2.1 0).1 2) r79.1)).1 2) + 1))) (pl_s2 (hwP0 (w := (wP r97 0 (upR (r97.2.2.1 0) 7 (fX6_put 6 ((r97.2.2.1 0).2 7) ((r97.2.2.1 0).1 2) r79.1)))) w103) (((upR (r97.2.2.1 0) 7 (fX6_put 6 ((r97.2.2.1 0).2 7) ((r97.2.2.1 0).1 2) r79.1)).1 2) + 1)) (Fr.set Fr.rf (a := 4) (S := fun q => pb 0 ≤ q ∧ q < pb 0 + 16) (by decide))
      obtain ⟨r105, e106⟩ : ∃ x, (wP (wP r97 0 (upR (r97.2.2.1 0) 7 (fX6_put 6 ((r97.2.2.1 0).2 7) ((r97.2.2.1 0).1 2) r79.1))) 0 (upS (upR (r97.2.2.1 0) 7 (fX6_put 6 ((r97.2.2.1 0).2 7) ((r97.2.2.1 0).1 2) r79.1)) 2 (((upR (r97.2.2.1 0) 7 (fX6_put 6 ((r97.2.2.1 0).2 7) ((r97.2.2.1 0).1 2) r79.1)).1 2) + 1))) = x := ⟨_, rfl⟩
      have w107 := hw_eq e106 w104
      exact am_return dX4_readSize_115 rfl ⟨_, Eq.trans (if_neg c1) (bnd_eq e59 (bnd_eq e68 (bnd_eq e74 (bnd_eq e80 (bnd_eq e86 (Eq.trans (if_pos c88) (bnd_eq e98 (bnd_eq e106 (rfl))))))))), rfl, w107⟩

def fX4_takeNewName_10 (w : Wd) (z1 : Int32) (z3 : Int32) : Int32 × Wd := (if z1 = (-1) then (bnd (fX4_refuse w 1) (fun r27 => (bnd (fX4_advance r27 ) (fun r33 => (z1, r33))))) else (if (fX6_indexOfName 8 ((w.2.2.1 0).2 3) z3 z1) = (-1) then (bnd (fX4_advance w ) (fun r9 => (z1, r9))) else (bnd (fX4_refuse w 3) (fun r15 => (bnd (fX4_advance r15 ) (fun r21 => (z1, r21)))))))
set_option maxRecDepth 20000 in
theorem ctX4_takeNewName_10 {l : Launch} {G : GM} {K : Nat → Option va_E} {h : List va_E} {w : Wd} (hw : HW G K h w) (z1 : Int32) (z3 : Int32) : Ct l G mX4_takeNewName 2 0 0 [.ref (gz G + 1), .int z1, .ref (gz G + 8), .int z3] h (fun v h1 => ∃ r, (fX4_takeNewName_10 w z1 z3) = r ∧ v = some (.int r.1) ∧ HW G K h1 r.2) := by
  show Tr l G mX4_takeNewName 2 0 0 0 [(0, .ref (gz G + 1)), (1, .int z1), (2, .ref (gz G + 8)), (3, .int z3)] [] h _
  refine am_iload_n dX4_takeNewName_0 1 rfl ?_
  refine am_iconst (v := (-1)) dX4_takeNewName_1 (by decide) ?_
  refine am_icmp_ne dX4_takeNewName_2 (by decide : ((2 : Nat) : Int) + (11) = ((13 : Nat) : Int)) (fun c1 => ?_) (fun c1 => ?_)
  · refine am_aload_n dX4_takeNewName_13 2 rfl ?_
    refine am_iload_n dX4_takeNewName_14 3 rfl ?_
    refine am_iload_n dX4_takeNewName_15 1 rfl ?_
    refine am_callSN (As := [.ref (gz G + 8), .int z3, .int z1]) (rest := []) dX4_takeNewName_16 kMX4_204 rfl  rfl (Nat.le_of_ble_eq_true rfl) (d2 := 1) (by decide) (k2 := 0) (Nat.zero_le _) (u2 := 0) (Nat.zero_le _) (Nat.le_of_ble_eq_true rfl) (ctX6_indexOfName (f := ((w.2.2.1 0).2 3)) (pl_r3 (p := (w.2.2.1 0)) (hwP0 (w := w) hw)) (by decide) z3 z1 ) (fun v2 h3 q4 => ?_)
    obtain ⟨rfl, rfl⟩ := q4
    refine am_iconst (v := (-1)) dX4_takeNewName_19 (by decide) ?_
    refine am_icmp_eq dX4_takeNewName_20 (by decide : ((20 : Nat) : Int) + (8) = ((28 : Nat) : Int)) (fun c5 => ?_) (fun c5 => ?_)
    · refine am_aload_n dX4_takeNewName_28 0 rfl ?_
      refine am_callV (As := []) (rest := []) dX4_takeNewName_29 kMX4_48 rfl (hwc1 (w := w) hw) rfl rfl (Nat.le_of_ble_eq_true rfl) (d2 := 1) (by decide) (k2 := 0) (Nat.zero_le _) (u2 := 0) (Nat.zero_le _) (Nat.le_of_ble_eq_true rfl) (ctX4_advance (w := w) hw ) (fun v6 h7 q8 => ?_)
      obtain ⟨r9, e10, rfl, w11⟩ := q8
      refine am_iload_n dX4_takeNewName_32 1 rfl ?_
      exact am_ireturn dX4_takeNewName_33 rfl rfl ⟨_, Eq.trans (if_neg c1) (Eq.trans (if_pos c5) (bnd_eq e10 (rfl))), rfl, w11⟩
    · refine am_aload_n dX4_takeNewName_23 0 rfl ?_
      refine am_iconst (v := 3) dX4_takeNewName_24 (by decide) ?_
      refine am_callV (As := [.int 3]) (rest := []) dX4_takeNewName_25 kMX4_98 rfl (hwc1 (w := w) hw) rfl rfl (Nat.le_of_ble_eq_true rfl) (d2 := 0) (by decide) (k2 := 0) (Nat.zero_le _) (u2 := 0) (Nat.zero_le _) (Nat.le_of_ble_eq_true rfl) (ctX4_refuse (w := w) hw 3) (fun v12 h13 q14 => ?_)
      obtain ⟨r15, e16, rfl, w17⟩ := q14
      refine am_aload_n dX4_takeNewName_28 0 rfl ?_
      refine am_callV (As := []) (rest := []) dX4_takeNewName_29 kMX4_48 rfl (hwc1 (w := r15) w17) rfl rfl (Nat.le_of_ble_eq_true rfl) (d2 := 1) (by decide) (k2 := 0) (Nat.zero_le _) (u2 := 0) (Nat.zero_le _) (Nat.le_of_ble_eq_true rfl) (ctX4_advance (w := r15) w17 ) (fun v18 h19 q20 => ?_)
      obtain ⟨r21, e22, rfl, w23⟩ := q20
      refine am_iload_n dX4_takeNewName_32 1 rfl ?_
      exact am_ireturn dX4_takeNewName_33 rfl rfl ⟨_, Eq.trans (if_neg c1) (Eq.trans (if_neg c5) (bnd_eq e16 (bnd_eq e22 (rfl)))), rfl, w23⟩
  · refine am_aload_n dX4_takeNewName_5 0 rfl ?_
    refine am_iconst (v := 1) dX4_takeNewName_6 (by decide) ?_
    refine am_callV (As := [.int 1]) (rest := []) dX4_takeNewName_7 kMX4_98 rfl (hwc1 (w := w) hw) rfl rfl (Nat.le_of_ble_eq_true rfl) (d2 := 0) (by decide) (k2 := 0) (Nat.zero_le _) (u2 := 0) (Nat.zero_le _) (Nat.le_of_ble_eq_true rfl) (ctX4_refuse (w := w) hw 1) (fun v24 h25 q26 => ?_)
    obtain ⟨r27, e28, rfl, w29⟩ := q26
    refine am_goto dX4_takeNewName_10 (by decide : ((10 : Nat) : Int) + (18) = ((28 : Nat) : Int)) ?_
    refine am_aload_n dX4_takeNewName_28 0 rfl ?_
    refine am_callV (As := []) (rest := []) dX4_takeNewName_29 kMX4_48 rfl (hwc1 (w := r27) w29) rfl rfl (Nat.le_of_ble_eq_true rfl) (d2 := 1) (by decide) (k2 := 0) (Nat.zero_le _) (u2 := 0) (Nat.zero_le _) (Nat.le_of_ble_eq_true rfl) (ctX4_advance (w := r27) w29 ) (fun v30 h31 q32 => ?_)
    obtain ⟨r33, e34, rfl, w35⟩ := q32
    refine am_iload_n dX4_takeNewName_32 1 rfl ?_
    exact am_ireturn dX4_takeNewName_33 rfl rfl ⟨_, Eq.trans (if_pos c1) (bnd_eq e28 (bnd_eq e34 (rfl))), rfl, w35⟩

theorem dX4_readShape_0 : decode cX4_readShape 0 = .ok (.aload_n 0, 1) := by decide +kernel
theorem dX4_readShape_1 : decode cX4_readShape 1 = .ok (.aload_n 1, 1) := by decide +kernel
theorem dX4_readShape_2 : decode cX4_readShape 2 = .ok (.getfield 150, 3) := by decide +kernel
theorem dX4_readShape_5 : decode cX4_readShape 5 = .ok (.bipush 8, 2) := by decide +kernel
theorem dX4_readShape_7 : decode cX4_readShape 7 = .ok (.if_icmp .lt 7, 3) := by decide +kernel
theorem dX4_readShape_10 : decode cX4_readShape 10 = .ok (.iconst 1, 1) := by decide +kernel
theorem dX4_readShape_11 : decode cX4_readShape 11 = .ok (.goto 4, 3) := by decide +kernel
theorem dX4_readShape_14 : decode cX4_readShape 14 = .ok (.iconst 0, 1) := by decide +kernel
theorem dX4_readShape_15 : decode cX4_readShape 15 = .ok (.iconst 5, 1) := by decide +kernel
theorem dX4_readShape_16 : decode cX4_readShape 16 = .ok (.invokevirtual 102, 3) := by decide +kernel
theorem dX4_readShape_19 : decode cX4_readShape 19 = .ok (.aload_n 0, 1) := by decide +kernel
theorem dX4_readShape_20 : decode cX4_readShape 20 = .ok (.aload_n 0, 1) := by decide +kernel
theorem dX4_readShape_21 : decode cX4_readShape 21 = .ok (.invokevirtual 129, 3) := by decide +kernel
theorem dX4_readShape_24 : decode cX4_readShape 24 = .ok (.aload_n 1, 1) := by decide +kernel
theorem dX4_readShape_25 : decode cX4_readShape 25 = .ok (.getfield 153, 3) := by decide +kernel
theorem dX4_readShape_28 : decode cX4_readShape 28 = .ok (.aload_n 1, 1) := by decide +kernel
theorem dX4_readShape_29 : decode cX4_readShape 29 = .ok (.getfield 150, 3) := by decide +kernel
theorem dX4_readShape_32 : decode cX4_readShape 32 = .ok (.invokevirtual 136, 3) := by decide +kernel
theorem dX4_readShape_35 : decode cX4_readShape 35 = .ok (.istore_n 2, 1) := by decide +kernel
theorem dX4_readShape_36 : decode cX4_readShape 36 = .ok (.aload_n 0, 1) := by decide +kernel
theorem dX4_readShape_37 : decode cX4_readShape 37 = .ok (.sipush 500, 3) := by decide +kernel
theorem dX4_readShape_40 : decode cX4_readShape 40 = .ok (.sipush 9999, 3) := by decide +kernel
theorem dX4_readShape_43 : decode cX4_readShape 43 = .ok (.invokevirtual 106, 3) := by decide +kernel
theorem dX4_readShape_46 : decode cX4_readShape 46 = .ok (.istore_n 3, 1) := by decide +kernel
theorem dX4_readShape_47 : decode cX4_readShape 47 = .ok (.aload_n 0, 1) := by decide +kernel
theorem dX4_readShape_48 : decode cX4_readShape 48 = .ok (.invokevirtual 116, 3) := by decide +kernel
theorem dX4_readShape_51 : decode cX4_readShape 51 = .ok (.aload_n 0, 1) := by decide +kernel
theorem dX4_readShape_52 : decode cX4_readShape 52 = .ok (.getfield 29, 3) := by decide +kernel
theorem dX4_readShape_55 : decode cX4_readShape 55 = .ok (.ifCond .ne 37, 3) := by decide +kernel
theorem dX4_readShape_58 : decode cX4_readShape 58 = .ok (.aload_n 1, 1) := by decide +kernel
theorem dX4_readShape_59 : decode cX4_readShape 59 = .ok (.getfield 153, 3) := by decide +kernel
theorem dX4_readShape_62 : decode cX4_readShape 62 = .ok (.aload_n 1, 1) := by decide +kernel
theorem dX4_readShape_63 : decode cX4_readShape 63 = .ok (.getfield 150, 3) := by decide +kernel
theorem dX4_readShape_66 : decode cX4_readShape 66 = .ok (.iload_n 2, 1) := by decide +kernel
theorem dX4_readShape_67 : decode cX4_readShape 67 = .ok (.invokestatic 140, 3) := by decide +kernel
theorem dX4_readShape_70 : decode cX4_readShape 70 = .ok (.aload_n 1, 1) := by decide +kernel
theorem dX4_readShape_71 : decode cX4_readShape 71 = .ok (.getfield 156, 3) := by decide +kernel
theorem dX4_readShape_74 : decode cX4_readShape 74 = .ok (.aload_n 1, 1) := by decide +kernel
theorem dX4_readShape_75 : decode cX4_readShape 75 = .ok (.getfield 150, 3) := by decide +kernel
theorem dX4_readShape_78 : decode cX4_readShape 78 = .ok (.iload_n 3, 1) := by decide +kernel
theorem dX4_readShape_79 : decode cX4_readShape 79 = .ok (.invokestatic 140, 3) := by decide +kernel
theorem dX4_readShape_82 : decode cX4_readShape 82 = .ok (.aload_n 1, 1) := by decide +kernel
theorem dX4_readShape_83 : decode cX4_readShape 83 = .ok (.dup, 1) := by decide +kernel
theorem dX4_readShape_84 : decode cX4_readShape 84 = .ok (.getfield 150, 3) := by decide +kernel
theorem dX4_readShape_87 : decode cX4_readShape 87 = .ok (.iconst 1, 1) := by decide +kernel
theorem dX4_readShape_88 : decode cX4_readShape 88 = .ok (.iadd, 1) := by decide +kernel
theorem dX4_readShape_89 : decode cX4_readShape 89 = .ok (.putfield 150, 3) := by decide +kernel
theorem dX4_readShape_92 : decode cX4_readShape 92 = .ok (.return_, 1) := by decide +kernel
def fX4_readShape_6 (w : Wd)  : Wd := (if ((w.2.2.1 0).1 1) < 8 then (bnd (fX4_startStatement w 0 5) (fun r5 => (bnd (fX4_takeNewName_10 r5 (fX4_nameHere r5 ) ((r5.2.2.1 0).1 1)) (fun r14 => (bnd (fX4_readNumber r14.2 500 9999) (fun r20 => (bnd (fX4_endStatement r20.2 ) (fun r26 => (if (r26.1 1) = 0 then (bnd (wP (wP r26 0 (upR (r26.2.2.1 0) 3 (fX6_put 8 ((r26.2.2.1 0).2 3) ((r26.2.2.1 0).1 1) r14.1))) 0 (upR (upR (r26.2.2.1 0) 3 (fX6_put 8 ((r26.2.2.1 0).2 3) ((r26.2.2.1 0).1 1) r14.1)) 4 (fX6_put 8 ((upR (r26.2.2.1 0) 3 (fX6_put 8 ((r26.2.2.1 0).2 3) ((r26.2.2.1 0).1 1) r14.1)).2 4) ((upR (r26.2.2.1 0) 3 (fX6_put 8 ((r26.2.2.1 0).2 3) ((r26.2.2.1 0).1 1) r14.1)).1 1) r20.1))) (fun r38 => (wP r38 0 (upS (r38.2.2.1 0) 1 (((r38.2.2.1 0).1 1) + 1))))) else r26))))))))) else (bnd (fX4_startStatement w 1 5) (fun r45 => (bnd (fX4_takeNewName_10 r45 (fX4_nameHere r45 ) ((r45.2.2.1 0).1 1)) (fun r54 => (bnd (fX4_readNumber r54.2 500 9999) (fun r60 => (bnd (fX4_endStatement r60.2 ) (fun r66 => (if (r66.1 1) = 0 then (bnd (wP (wP r66 0 (upR (r66.2.2.1 0) 3 (fX6_put 8 ((r66.2.2.1 0).2 3) ((r66.2.2.1 0).1 1) r54.1))) 0 (upR (upR (r66.2.2.1 0) 3 (fX6_put 8 ((r66.2.2.1 0).2 3) ((r66.2.2.1 0).1 1) r54.1)) 4 (fX6_put 8 ((upR (r66.2.2.1 0) 3 (fX6_put 8 ((r66.2.2.1 0).2 3) ((r66.2.2.1 0).1 1) r54.1)).2 4) ((upR (r66.2.2.1 0) 3 (fX6_put 8 ((r66.2.2.1 0).2 3) ((r66.2.2.1 0).1 1) r54.1)).1 1) r60.1))) (fun r78 => (wP r78 0 (upS (r78.2.2.1 0) 1 (((r78.2.2.1 0).1 1) + 1))))) else r66))))))))))
set_option maxRecDepth 20000 in
theorem ctX4_readShape_6 {l : Launch} {G : GM} {K : Nat → Option va_E} {h : List va_E} {w : Wd} (hw : HW G K h w)  : Ct l G mX4_readShape 7 0 0 [.ref (gz G + 1), .ref (gz G + 4)] h (fun v h1 => ∃ r, (fX4_readShape_6 w ) = r ∧ v = none ∧ HW G K h1 r) := by
  show Tr l G mX4_readShape 7 0 0 0 [(0, .ref (gz G + 1)), (1, .ref (gz G + 4))] [] h _
  refine am_aload_n dX4_readShape_0 0 rfl ?_
  refine am_aload_n dX4_readShape_1 1 rfl ?_
  refine am_get (v := .int ((w.2.2.1 0).1 1)) dX4_readShape_2 kGX4_150 (pl_1 (p := (w.2.2.1 0)) (hwP0 (w := w) hw)) rfl ?_
  refine am_bipush (v := 8) dX4_readShape_5 (by decide) ?_
  refine am_icmp_lt dX4_readShape_7 (by decide : ((7 : Nat) : Int) + (7) = ((14 : Nat) : Int)) (fun c1 => ?_) (fun c1 => ?_)
  · refine am_iconst (v := 0) dX4_readShape_14 (by decide) ?_
    refine am_iconst (v := 5) dX4_readShape_15 (by decide) ?_
    refine am_callV (As := [.int 0, .int 5]) (rest := []) dX4_readShape_16 kMX4_102 rfl (hwc1 (w := w) hw) rfl rfl (Nat.le_of_ble_eq_true rfl) (d2 := 2) (by decide) (k2 := 0) (Nat.zero_le _) (u2 := 0) (Nat.zero_le _) (Nat.le_of_ble_eq_true rfl) (ctX4_startStatement (w := w) hw 0 5) (fun v2 h3 q4 => ?_)
    obtain ⟨r5, e6, rfl, w7⟩ := q4
    refine am_aload_n dX4_readShape_19 0 rfl ?_
    refine am_aload_n dX4_readShape_20 0 rfl ?_
    refine am_callV (As := []) (rest := [.ref (gz G + 1)]) dX4_readShape_21 kMX4_129 rfl (hwc1 (w := r5) w7) rfl rfl (Nat.le_of_ble_eq_true rfl) (d2 := 6) (by decide) (k2 := 0) (Nat.zero_le _) (u2 := 0) (Nat.zero_le _) (Nat.le_of_ble_eq_true rfl) (ctX4_nameHere (w := r5) w7 ) (fun v8 h9 q10 => ?_)
    obtain ⟨rfl, rfl⟩ := q10
    refine am_aload_n dX4_readShape_24 1 rfl ?_
    refine am_get (v := .ref (gz G + 8)) dX4_readShape_25 kGX4_153 (pl_1 (p := (r5.2.2.1 0)) (hwP0 (w := r5) w7)) rfl ?_
    refine am_aload_n dX4_readShape_28 1 rfl ?_
    refine am_get (v := .int ((r5.2.2.1 0).1 1)) dX4_readShape_29 kGX4_150 (pl_1 (p := (r5.2.2.1 0)) (hwP0 (w := r5) w7)) rfl ?_
    refine am_callV (As := [.int (fX4_nameHere r5 ), .ref (gz G + 8), .int ((r5.2.2.1 0).1 1)]) (rest := []) dX4_readShape_32 kMX4_136 rfl (hwc1 (w := r5) w7) rfl rfl (Nat.le_of_ble_eq_true rfl) (d2 := 2) (by decide) (k2 := 0) (Nat.zero_le _) (u2 := 0) (Nat.zero_le _) (Nat.le_of_ble_eq_true rfl) (ctX4_takeNewName_10 (w := r5) w7 (fX4_nameHere r5 ) ((r5.2.2.1 0).1 1)) (fun v11 h12 q13 => ?_)
    obtain ⟨r14, e15, rfl, w16⟩ := q13
    refine am_istore_n dX4_readShape_35 (by decide) (lv' := [(2, .int r14.1), (0, .ref (gz G + 1)), (1, .ref (gz G + 4))]) rfl ?_
    refine am_aload_n dX4_readShape_36 1 rfl ?_
    refine am_sipush (v := 500) dX4_readShape_37 (by decide) ?_
    refine am_sipush (v := 9999) dX4_readShape_40 (by decide) ?_
    refine am_callV (As := [.int 500, .int 9999]) (rest := []) dX4_readShape_43 kMX4_106 rfl (hwc1 (w := r14.2) w16) rfl rfl (Nat.le_of_ble_eq_true rfl) (d2 := 2) (by decide) (k2 := 0) (Nat.zero_le _) (u2 := 0) (Nat.zero_le _) (Nat.le_of_ble_eq_true rfl) (ctX4_readNumber (w := r14.2) w16 500 9999) (fun v17 h18 q19 => ?_)
    obtain ⟨r20, e21, rfl, w22⟩ := q19
    refine am_istore_n dX4_readShape_46 (by decide) (lv' := [(3, .int r20.1), (2, .int r14.1), (0, .ref (gz G + 1)), (1, .ref (gz G + 4))]) rfl ?_
    refine am_aload_n dX4_readShape_47 2 rfl ?_
    refine am_callV (As := []) (rest := []) dX4_readShape_48 kMX4_116 rfl (hwc1 (w := r20.2) w22) rfl rfl (Nat.le_of_ble_eq_true rfl) (d2 := 2) (by decide) (k2 := 0) (Nat.zero_le _) (u2 := 0) (Nat.zero_le _) (Nat.le_of_ble_eq_true rfl) (ctX4_endStatement (w := r20.2) w22 ) (fun v23 h24 q25 => ?_)
    obtain ⟨r26, e27, rfl, w28⟩ := q25
    refine am_aload_n dX4_readShape_51 2 rfl ?_
    refine am_get (v := .int (r26.1 1)) dX4_readShape_52 kGX4_29 (hwc1 (w := r26) w28) rfl ?_
    refine am_if_ne dX4_readShape_55 (by decide : ((55 : Nat) : Int) + (37) = ((92 : Nat) : Int)) (fun c29 => ?_) (fun c29 => ?_)
    · exact am_return dX4_readShape_92 rfl ⟨_, Eq.trans (if_pos c1) (bnd_eq e6 (bnd_eq e15 (bnd_eq e21 (bnd_eq e27 (Eq.trans (if_neg c29) (rfl)))))), rfl, w28⟩
    · refine am_aload_n dX4_readShape_58 3 rfl ?_
      refine am_get (v := .ref (gz G + 8)) dX4_readShape_59 kGX4_153 (pl_1 (p := (r26.2.2.1 0)) (hwP0 (w := r26) w28)) rfl ?_
      refine am_aload_n dX4_readShape_62 3 rfl ?_
      refine am_get (v := .int ((r26.2.2.1 0).1 1)) dX4_readShape_63 kGX4_150 (pl_1 (p := (r26.2.2.1 0)) (hwP0 (w := r26) w28)) rfl ?_
      refine am_iload_n dX4_readShape_66 1 rfl ?_
      refine am_callSN (As := [.ref (gz G + 8), .int ((r26.2.2.1 0).1 1), .int r14.1]) (rest := []) dX4_readShape_67 kMX4_140 rfl  rfl (Nat.le_of_ble_eq_true rfl) (d2 := 0) (by decide) (k2 := 0) (Nat.zero_le _) (u2 := 0) (Nat.zero_le _) (Nat.le_of_ble_eq_true rfl) (ctX6_put (f := ((r26.2.2.1 0).2 3)) (pl_r3 (p := (r26.2.2.1 0)) (hwP0 (w := r26) w28)) (by decide) ((r26.2.2.1 0).1 1) r14.1) (fun v30 h31 q32 => ?_)
      obtain ⟨rfl, rfl⟩ := q32
      have w33 := hwPu w28 (i := 0) (by decide) (p := (upR (r26.2.2.1 0) 3 (fX6_put 8 ((r26.2.2.1 0).2 3) ((r26.2.2.1 0).1 1) r14.1))) (pl_u3 (hwP0 (w := r26) w28) (fX6_put 8 ((r26.2.2.1 0).2 3) ((r26.2.2.1 0).1 1) r14.1)) (Fr.set Fr.rf (a := 8) (S := fun q => pb 0 ≤ q ∧ q < pb 0 + 16) (by decide))
      refine am_aload_n dX4_readShape_70 3 rfl ?_
      refine am_get (v := .ref (gz G + 9)) dX4_readShape_71 kGX4_156 (pl_1 (p := (upR (r26.2.2.1 0) 3 (fX6_put 8 ((r26.2.2.1 0).2 3) ((r26.2.2.1 0).1 1) r14.1))) (hwP0 (w := (wP r26 0 (upR (r26.2.2.1 0) 3 (fX6_put 8 ((r26.2.2.1 0).2 3) ((r26.2.2.1 0).1 1) r14.1)))) w33)) rfl ?_
      refine am_aload_n dX4_readShape_74 3 rfl ?_
      refine am_get (v := .int ((upR (r26.2.2.1 0) 3 (fX6_put 8 ((r26.2.2.1 0).2 3) ((r26.2.2.1 0).1 1) r14.1)).1 1)) dX4_readShape_75 kGX4_150 (pl_1 (p := (upR (r26.2.2.1 0) 3 (fX6_put 8 ((r26.2.2.1 0).2 3) ((r26.2.2.1 0).1 1) r14.1))) (hwP0 (w := (wP r26 0 (upR (r26.2.2.1 0) 3 (fX6_put 8 ((r26.2.2.1 0).2 3) ((r26.2.2.1 0).1 1) r14.1)))) w33)) rfl ?_
      refine am_iload_n dX4_readShape_78 0 rfl ?_
      refine am_callSN (As := [.ref (gz G + 9), .int ((upR (r26.2.2.1 0) 3 (fX6_put 8 ((r26.2.2.1 0).2 3) ((r26.2.2.1 0).1 1) r14.1)).1 1), .int r20.1]) (rest := []) dX4_readShape_79 kMX4_140 rfl  rfl (Nat.le_of_ble_eq_true rfl) (d2 := 0) (by decide) (k2 := 0) (Nat.zero_le _) (u2 := 0) (Nat.zero_le _) (Nat.le_of_ble_eq_true rfl) (ctX6_put (f := ((upR (r26.2.2.1 0) 3 (fX6_put 8 ((r26.2.2.1 0).2 3) ((r26.2.2.1 0).1 1) r14.1)).2 4)) (pl_r4 (p := (upR (r26.2.2.1 0) 3 (fX6_put 8 ((r26.2.2.1 0).2 3) ((r26.2.2.1 0).1 1) r14.1))) (hwP0 (w := (wP r26 0 (upR (r26.2.2.1 0) 3 (fX6_put 8 ((r26.2.2.1 0).2 3) ((r26.2.2.1 0).1 1) r14.1)))) w33)) (by decide) ((upR (r26.2.2.1 0) 3 (fX6_put 8 ((r26.2.2.1 0).2 3) ((r26.2.2.1 0).1 1) r14.1)).1 1) r20.1) (fun v34 h35 q36 => ?_)
      obtain ⟨rfl, rfl⟩ := q36
      have w37 := hwPu w33 (i := 0) (by decide) (p := (upR (upR (r26.2.2.1 0) 3 (fX6_put 8 ((r26.2.2.1 0).2 3) ((r26.2.2.1 0).1 1) r14.1)) 4 (fX6_put 8 ((upR (r26.2.2.1 0) 3 (fX6_put 8 ((r26.2.2.1 0).2 3) ((r26.2.2.1 0).1 1) r14.1)).2 4) ((upR (r26.2.2.1 0) 3 (fX6_put 8 ((r26.2.2.1 0).2 3) ((r26.2.2.1 0).1 1) r14.1)).1 1) r20.1))) (pl_u4 (hwP0 (w := (wP r26 0 (upR (r26.2.2.1 0) 3 (fX6_put 8 ((r26.2.2.1 0).2 3) ((r26.2.2.1 0).1 1) r14.1)))) w33) (fX6_put 8 ((upR (r26.2.2.1 0) 3 (fX6_put 8 ((r26.2.2.1 0).2 3) ((r26.2.2.1 0).1 1) r14.1)).2 4) ((upR (r26.2.2.1 0) 3 (fX6_put 8 ((r26.2.2.1 0).2 3) ((r26.2.2.1 0).1 1) r14.1)).1 1) r20.1)) (Fr.set Fr.rf (a := 9) (S := fun q => pb 0 ≤ q ∧ q < pb 0 + 16) (by decide))
      obtain ⟨r38, e39⟩ : ∃ x, (wP (wP r26 0 (upR (r26.2.2.1 0) 3 (fX6_put 8 ((r26.2.2.1 0).2 3) ((r26.2.2.1 0).1 1) r14.1))) 0 (upR (upR (r26.2.2.1 0) 3 (fX6_put 8 ((r26.2.2.1 0).2 3) ((r26.2.2.1 0).1 1) r14.1)) 4 (fX6_put 8 ((upR (r26.2.2.1 0) 3 (fX6_put 8 ((r26.2.2.1 0).2 3) ((r26.2.2.1 0).1 1) r14.1)).2 4) ((upR (r26.2.2.1 0) 3 (fX6_put 8 ((r26.2.2.1 0).2 3) ((r26.2.2.1 0).1 1) r14.1)).1 1) r20.1))) = x := ⟨_, rfl⟩
      have w40 := hw_eq e39 w37
      refine am_aload_n dX4_readShape_82 3 rfl ?_
      refine am_dup dX4_readShape_83 rfl ?_
      refine am_get (v := .int ((r38.2.2.1 0).1 1)) dX4_readShape_84 kGX4_150 (pl_1 (p := (r38.2.2.1 0)) (hwP0 (w := r38) w40)) rfl ?_
      refine am_iconst (v := 1) dX4_readShape_87 (by decide) ?_
      refine am_iadd dX4_readShape_88 ?_
      refine am_put dX4_readShape_89 kFX4_150 (pl_1 (p := (r38.2.2.1 0)) (hwP0 (w := r38) w40)) (Nat.le_of_ble_eq_true rfl) rfl rfl ?_
      have w41 := hwPu w40 (i := 0) (by decide) (p := (upS (r38.2.2.1 0) 1 (((r38.2.2.1 0).1 1) + 1))) (pl_s1 (hwP0 (w := r38) w40) (((r38.2.2.1 0).1 1) + 1)) (Fr.set Fr.rf (a := 4) (S := fun q => pb 0 ≤ q ∧ q < pb 0 + 16) (by decide))
      exact am_return dX4_readShape_92 rfl ⟨_, Eq.trans (if_pos c1) (bnd_eq e6 (bnd_eq e15 (bnd_eq e21 (bnd_eq e27 (Eq.trans (if_pos c29) (bnd_eq e39 (rfl))))))), rfl, w41⟩
  · refine am_iconst (v := 1) dX4_readShape_10 (by decide) ?_
    refine am_goto dX4_readShape_11 (by decide : ((11 : Nat) : Int) + (4) = ((15 : Nat) : Int)) ?_
    refine am_iconst (v := 5) dX4_readShape_15 (by decide) ?_
    refine am_callV (As := [.int 1, .int 5]) (rest := []) dX4_readShape_16 kMX4_102 rfl (hwc1 (w := w) hw) rfl rfl (Nat.le_of_ble_eq_true rfl) (d2 := 2) (by decide) (k2 := 0) (Nat.zero_le _) (u2 := 0) (Nat.zero_le _) (Nat.le_of_ble_eq_true rfl) (ctX4_startStatement (w := w) hw 1 5) (fun v42 h43 q44 => ?_)
    obtain ⟨r45, e46, rfl, w47⟩ := q44
    refine am_aload_n dX4_readShape_19 0 rfl ?_
    refine am_aload_n dX4_readShape_20 0 rfl ?_
    refine am_callV (As := []) (rest := [.ref (gz G + 1)]) dX4_readShape_21 kMX4_129 rfl (hwc1 (w := r45) w47) rfl rfl (Nat.le_of_ble_eq_true rfl) (d2 := 6) (by decide) (k2 := 0) (Nat.zero_le _) (u2 := 0) (Nat.zero_le _) (Nat.le_of_ble_eq_true rfl) (ctX4_nameHere (w := r45) w47 ) (fun v48 h49 q50 => ?_)
    obtain ⟨rfl, rfl⟩ := q50
    refine am_aload_n dX4_readShape_24 1 rfl ?_
    refine am_get (v := .ref (gz G + 8)) dX4_readShape_25 kGX4_153 (pl_1 (p := (r45.2.2.1 0)) (hwP0 (w := r45) w47)) rfl ?_
    refine am_aload_n dX4_readShape_28 1 rfl ?_
    refine am_get (v := .int ((r45.2.2.1 0).1 1)) dX4_readShape_29 kGX4_150 (pl_1 (p := (r45.2.2.1 0)) (hwP0 (w := r45) w47)) rfl ?_
    refine am_callV (As := [.int (fX4_nameHere r45 ), .ref (gz G + 8), .int ((r45.2.2.1 0).1 1)]) (rest := []) dX4_readShape_32 kMX4_136 rfl (hwc1 (w := r45) w47) rfl rfl (Nat.le_of_ble_eq_true rfl) (d2 := 2) (by decide) (k2 := 0) (Nat.zero_le _) (u2 := 0) (Nat.zero_le _) (Nat.le_of_ble_eq_true rfl) (ctX4_takeNewName_10 (w := r45) w47 (fX4_nameHere r45 ) ((r45.2.2.1 0).1 1)) (fun v51 h52 q53 => ?_)
    obtain ⟨r54, e55, rfl, w56⟩ := q53
    refine am_istore_n dX4_readShape_35 (by decide) (lv' := [(2, .int r54.1), (0, .ref (gz G + 1)), (1, .ref (gz G + 4))]) rfl ?_
    refine am_aload_n dX4_readShape_36 1 rfl ?_
    refine am_sipush (v := 500) dX4_readShape_37 (by decide) ?_
    refine am_sipush (v := 9999) dX4_readShape_40 (by decide) ?_
    refine am_callV (As := [.int 500, .int 9999]) (rest := []) dX4_readShape_43 kMX4_106 rfl (hwc1 (w := r54.2) w56) rfl rfl (Nat.le_of_ble_eq_true rfl) (d2 := 2) (by decide) (k2 := 0) (Nat.zero_le _) (u2 := 0) (Nat.zero_le _) (Nat.le_of_ble_eq_true rfl) (ctX4_readNumber (w := r54.2) w56 500 9999) (fun v57 h58 q59 => ?_)
    obtain ⟨r60, e61, rfl, w62⟩ := q59
    refine am_istore_n dX4_readShape_46 (by decide) (lv' := [(3, .int r60.1), (2, .int r54.1), (0, .ref (gz G + 1)), (1, .ref (gz G + 4))]) rfl ?_
    refine am_aload_n dX4_readShape_47 2 rfl ?_
    refine am_callV (As := []) (rest := []) dX4_readShape_48 kMX4_116 rfl (hwc1 (w := r60.2) w62) rfl rfl (Nat.le_of_ble_eq_true rfl) (d2 := 2) (by decide) (k2 := 0) (Nat.zero_le _) (u2 := 0) (Nat.zero_le _) (Nat.le_of_ble_eq_true rfl) (ctX4_endStatement (w := r60.2) w62 ) (fun v63 h64 q65 => ?_)
    obtain ⟨r66, e67, rfl, w68⟩ := q65
    refine am_aload_n dX4_readShape_51 2 rfl ?_
    refine am_get (v := .int (r66.1 1)) dX4_readShape_52 kGX4_29 (hwc1 (w := r66) w68) rfl ?_
    refine am_if_ne dX4_readShape_55 (by decide : ((55 : Nat) : Int) + (37) = ((92 : Nat) : Int)) (fun c69 => ?_) (fun c69 => ?_)
    · exact am_return dX4_readShape_92 rfl ⟨_, Eq.trans (if_neg c1) (bnd_eq e46 (bnd_eq e55 (bnd_eq e61 (bnd_eq e67 (Eq.trans (if_neg c69) (rfl)))))), rfl, w68⟩
    · refine am_aload_n dX4_readShape_58 3 rfl ?_
      refine am_get (v := .ref (gz G + 8)) dX4_readShape_59 kGX4_153 (pl_1 (p := (r66.2.2.1 0)) (hwP0 (w := r66) w68)) rfl ?_
      refine am_aload_n dX4_readShape_62 3 rfl ?_
      refine am_get (v := .int ((r66.2.2.1 0).1 1)) dX4_readShape_63 kGX4_150 (pl_1 (p := (r66.2.2.1 0)) (hwP0 (w := r66) w68)) rfl ?_
      refine am_iload_n dX4_readShape_66 1 rfl ?_
      refine am_callSN (As := [.ref (gz G + 8), .int ((r66.2.2.1 0).1 1), .int r54.1]) (rest := []) dX4_readShape_67 kMX4_140 rfl  rfl (Nat.le_of_ble_eq_true rfl) (d2 := 0) (by decide) (k2 := 0) (Nat.zero_le _) (u2 := 0) (Nat.zero_le _) (Nat.le_of_ble_eq_true rfl) (ctX6_put (f := ((r66.2.2.1 0).2 3)) (pl_r3 (p := (r66.2.2.1 0)) (hwP0 (w := r66) w68)) (by decide) ((r66.2.2.1 0).1 1) r54.1) (fun v70 h71 q72 => ?_)
      obtain ⟨rfl, rfl⟩ := q72
      have w73 := hwPu w68 (i := 0) (by decide) (p := (upR (r66.2.2.1 0) 3 (fX6_put 8 ((r66.2.2.1 0).2 3) ((r66.2.2.1 0).1 1) r54.1))) (pl_u3 (hwP0 (w := r66) w68) (fX6_put 8 ((r66.2.2.1 0).2 3) ((r66.2.2.1 0).1 1) r54.1)) (Fr.set Fr.rf (a := 8) (S := fun q => pb 0 ≤ q ∧ q < pb 0 + 16) (by decide))
      refine am_aload_n dX4_readShape_70 3 rfl ?_
      refine am_get (v := .ref (gz G + 9)) dX4_readShape_71 kGX4_156 (pl_1 (p := (upR (r66.2.2.1 0) 3 (fX6_put 8 ((r66.2.2.1 0).2 3) ((r66.2.2.1 0).1 1) r54.1))) (hwP0 (w := (wP r66 0 (upR (r66.2.2.1 0) 3 (fX6_put 8 ((r66.2.2.1 0).2 3) ((r66.2.2.1 0).1 1) r54.1)))) w73)) rfl ?_
      refine am_aload_n dX4_readShape_74 3 rfl ?_
      refine am_get (v := .int ((upR (r66.2.2.1 0) 3 (fX6_put 8 ((r66.2.2.1 0).2 3) ((r66.2.2.1 0).1 1) r54.1)).1 1)) dX4_readShape_75 kGX4_150 (pl_1 (p := (upR (r66.2.2.1 0) 3 (fX6_put 8 ((r66.2.2.1 0).2 3) ((r66.2.2.1 0).1 1) r54.1))) (hwP0 (w := (wP r66 0 (upR (r66.2.2.1 0) 3 (fX6_put 8 ((r66.2.2.1 0).2 3) ((r66.2.2.1 0).1 1) r54.1)))) w73)) rfl ?_
      refine am_iload_n dX4_readShape_78 0 rfl ?_
      refine am_callSN (As := [.ref (gz G + 9), .int ((upR (r66.2.2.1 0) 3 (fX6_put 8 ((r66.2.2.1 0).2 3) ((r66.2.2.1 0).1 1) r54.1)).1 1), .int r60.1]) (rest := []) dX4_readShape_79 kMX4_140 rfl  rfl (Nat.le_of_ble_eq_true rfl) (d2 := 0) (by decide) (k2 := 0) (Nat.zero_le _) (u2 := 0) (Nat.zero_le _) (Nat.le_of_ble_eq_true rfl) (ctX6_put (f := ((upR (r66.2.2.1 0) 3 (fX6_put 8 ((r66.2.2.1 0).2 3) ((r66.2.2.1 0).1 1) r54.1)).2 4)) (pl_r4 (p := (upR (r66.2.2.1 0) 3 (fX6_put 8 ((r66.2.2.1 0).2 3) ((r66.2.2.1 0).1 1) r54.1))) (hwP0 (w := (wP r66 0 (upR (r66.2.2.1 0) 3 (fX6_put 8 ((r66.2.2.1 0).2 3) ((r66.2.2.1 0).1 1) r54.1)))) w73)) (by decide) ((upR (r66.2.2.1 0) 3 (fX6_put 8 ((r66.2.2.1 0).2 3) ((r66.2.2.1 0).1 1) r54.1)).1 1) r60.1) (fun v74 h75 q76 => ?_)
      obtain ⟨rfl, rfl⟩ := q76
      have w77 := hwPu w73 (i := 0) (by decide) (p := (upR (upR (r66.2.2.1 0) 3 (fX6_put 8 ((r66.2.2.1 0).2 3) ((r66.2.2.1 0).1 1) r54.1)) 4 (fX6_put 8 ((upR (r66.2.2.1 0) 3 (fX6_put 8 ((r66.2.2.1 0).2 3) ((r66.2.2.1 0).1 1) r54.1)).2 4) ((upR (r66.2.2.1 0) 3 (fX6_put 8 ((r66.2.2.1 0).2 3) ((r66.2.2.1 0).1 1) r54.1)).1 1) r60.1))) (pl_u4 (hwP0 (w := (wP r66 0 (upR (r66.2.2.1 0) 3 (fX6_put 8 ((r66.2.2.1 0).2 3) ((r66.2.2.1 0).1 1) r54.1)))) w73) (fX6_put 8 ((upR (r66.2.2.1 0) 3 (fX6_put 8 ((r66.2.2.1 0).2 3) ((r66.2.2.1 0).1 1) r54.1)).2 4) ((upR (r66.2.2.1 0) 3 (fX6_put 8 ((r66.2.2.1 0).2 3) ((r66.2.2.1 0).1 1) r54.1)).1 1) r60.1)) (Fr.set Fr.rf (a := 9) (S := fun q => pb 0 ≤ q ∧ q < pb 0 + 16) (by decide))
      obtain ⟨r78, e79⟩ : ∃ x, (wP (wP r66 0 (upR (r66.2.2.1 0) 3 (fX6_put 8 ((r66.2.2.1 0).2 3) ((r66.2.2.1 0).1 1) r54.1))) 0 (upR (upR (r66.2.2.1 0) 3 (fX6_put 8 ((r66.2.2.1 0).2 3) ((r66.2.2.1 0).1 1) r54.1)) 4 (fX6_put 8 ((upR (r66.2.2.1 0) 3 (fX6_put 8 ((r66.2.2.1 0).2 3) ((r66.2.2.1 0).1 1) r54.1)).2 4) ((upR (r66.2.2.1 0) 3 (fX6_put 8 ((r66.2.2.1 0).2 3) ((r66.2.2.1 0).1 1) r54.1)).1 1) r60.1))) = x := ⟨_, rfl⟩
      have w80 := hw_eq e79 w77
      refine am_aload_n dX4_readShape_82 3 rfl ?_
      refine am_dup dX4_readShape_83 rfl ?_
      refine am_get (v := .int ((r78.2.2.1 0).1 1)) dX4_readShape_84 kGX4_150 (pl_1 (p := (r78.2.2.1 0)) (hwP0 (w := r78) w80)) rfl ?_
      refine am_iconst (v := 1) dX4_readShape_87 (by decide) ?_
      refine am_iadd dX4_readShape_88 ?_
      refine am_put dX4_readShape_89 kFX4_150 (pl_1 (p := (r78.2.2.1 0)) (hwP0 (w := r78) w80)) (Nat.le_of_ble_eq_true rfl) rfl rfl ?_
      have w81 := hwPu w80 (i := 0) (by decide) (p := (upS (r78.2.2.1 0) 1 (((r78.2.2.1 0).1 1) + 1))) (pl_s1 (hwP0 (w := r78) w80) (((r78.2.2.1 0).1 1) + 1)) (Fr.set Fr.rf (a := 4) (S := fun q => pb 0 ≤ q ∧ q < pb 0 + 16) (by decide))
      exact am_return dX4_readShape_92 rfl ⟨_, Eq.trans (if_neg c1) (bnd_eq e46 (bnd_eq e55 (bnd_eq e61 (bnd_eq e67 (Eq.trans (if_pos c69) (bnd_eq e79 (rfl))))))), rfl, w81⟩

def fX4_takeNewName_7 (w : Wd) (z1 : Int32) (z3 : Int32) : Int32 × Wd := (if z1 = (-1) then (bnd (fX4_refuse w 1) (fun r27 => (bnd (fX4_advance r27 ) (fun r33 => (z1, r33))))) else (if (fX6_indexOfName 6 ((w.2.2.1 0).2 0) z3 z1) = (-1) then (bnd (fX4_advance w ) (fun r9 => (z1, r9))) else (bnd (fX4_refuse w 3) (fun r15 => (bnd (fX4_advance r15 ) (fun r21 => (z1, r21)))))))
set_option maxRecDepth 20000 in
theorem ctX4_takeNewName_7 {l : Launch} {G : GM} {K : Nat → Option va_E} {h : List va_E} {w : Wd} (hw : HW G K h w) (z1 : Int32) (z3 : Int32) : Ct l G mX4_takeNewName 2 0 0 [.ref (gz G + 1), .int z1, .ref (gz G + 5), .int z3] h (fun v h1 => ∃ r, (fX4_takeNewName_7 w z1 z3) = r ∧ v = some (.int r.1) ∧ HW G K h1 r.2) := by
  show Tr l G mX4_takeNewName 2 0 0 0 [(0, .ref (gz G + 1)), (1, .int z1), (2, .ref (gz G + 5)), (3, .int z3)] [] h _
  refine am_iload_n dX4_takeNewName_0 1 rfl ?_
  refine am_iconst (v := (-1)) dX4_takeNewName_1 (by decide) ?_
  refine am_icmp_ne dX4_takeNewName_2 (by decide : ((2 : Nat) : Int) + (11) = ((13 : Nat) : Int)) (fun c1 => ?_) (fun c1 => ?_)
  · refine am_aload_n dX4_takeNewName_13 2 rfl ?_
    refine am_iload_n dX4_takeNewName_14 3 rfl ?_
    refine am_iload_n dX4_takeNewName_15 1 rfl ?_
    refine am_callSN (As := [.ref (gz G + 5), .int z3, .int z1]) (rest := []) dX4_takeNewName_16 kMX4_204 rfl  rfl (Nat.le_of_ble_eq_true rfl) (d2 := 1) (by decide) (k2 := 0) (Nat.zero_le _) (u2 := 0) (Nat.zero_le _) (Nat.le_of_ble_eq_true rfl) (ctX6_indexOfName (f := ((w.2.2.1 0).2 0)) (pl_r0 (p := (w.2.2.1 0)) (hwP0 (w := w) hw)) (by decide) z3 z1 ) (fun v2 h3 q4 => ?_)
    obtain ⟨rfl, rfl⟩ := q4
    refine am_iconst (v := (-1)) dX4_takeNewName_19 (by decide) ?_
    refine am_icmp_eq dX4_takeNewName_20 (by decide : ((20 : Nat) : Int) + (8) = ((28 : Nat) : Int)) (fun c5 => ?_) (fun c5 => ?_)
    · refine am_aload_n dX4_takeNewName_28 0 rfl ?_
      refine am_callV (As := []) (rest := []) dX4_takeNewName_29 kMX4_48 rfl (hwc1 (w := w) hw) rfl rfl (Nat.le_of_ble_eq_true rfl) (d2 := 1) (by decide) (k2 := 0) (Nat.zero_le _) (u2 := 0) (Nat.zero_le _) (Nat.le_of_ble_eq_true rfl) (ctX4_advance (w := w) hw ) (fun v6 h7 q8 => ?_)
      obtain ⟨r9, e10, rfl, w11⟩ := q8
      refine am_iload_n dX4_takeNewName_32 1 rfl ?_
      exact am_ireturn dX4_takeNewName_33 rfl rfl ⟨_, Eq.trans (if_neg c1) (Eq.trans (if_pos c5) (bnd_eq e10 (rfl))), rfl, w11⟩
    · refine am_aload_n dX4_takeNewName_23 0 rfl ?_
      refine am_iconst (v := 3) dX4_takeNewName_24 (by decide) ?_
      refine am_callV (As := [.int 3]) (rest := []) dX4_takeNewName_25 kMX4_98 rfl (hwc1 (w := w) hw) rfl rfl (Nat.le_of_ble_eq_true rfl) (d2 := 0) (by decide) (k2 := 0) (Nat.zero_le _) (u2 := 0) (Nat.zero_le _) (Nat.le_of_ble_eq_true rfl) (ctX4_refuse (w := w) hw 3) (fun v12 h13 q14 => ?_)
      obtain ⟨r15, e16, rfl, w17⟩ := q14
      refine am_aload_n dX4_takeNewName_28 0 rfl ?_
      refine am_callV (As := []) (rest := []) dX4_takeNewName_29 kMX4_48 rfl (hwc1 (w := r15) w17) rfl rfl (Nat.le_of_ble_eq_true rfl) (d2 := 1) (by decide) (k2 := 0) (Nat.zero_le _) (u2 := 0) (Nat.zero_le _) (Nat.le_of_ble_eq_true rfl) (ctX4_advance (w := r15) w17 ) (fun v18 h19 q20 => ?_)
      obtain ⟨r21, e22, rfl, w23⟩ := q20
      refine am_iload_n dX4_takeNewName_32 1 rfl ?_
      exact am_ireturn dX4_takeNewName_33 rfl rfl ⟨_, Eq.trans (if_neg c1) (Eq.trans (if_neg c5) (bnd_eq e16 (bnd_eq e22 (rfl)))), rfl, w23⟩
  · refine am_aload_n dX4_takeNewName_5 0 rfl ?_
    refine am_iconst (v := 1) dX4_takeNewName_6 (by decide) ?_
    refine am_callV (As := [.int 1]) (rest := []) dX4_takeNewName_7 kMX4_98 rfl (hwc1 (w := w) hw) rfl rfl (Nat.le_of_ble_eq_true rfl) (d2 := 0) (by decide) (k2 := 0) (Nat.zero_le _) (u2 := 0) (Nat.zero_le _) (Nat.le_of_ble_eq_true rfl) (ctX4_refuse (w := w) hw 1) (fun v24 h25 q26 => ?_)
    obtain ⟨r27, e28, rfl, w29⟩ := q26
    refine am_goto dX4_takeNewName_10 (by decide : ((10 : Nat) : Int) + (18) = ((28 : Nat) : Int)) ?_
    refine am_aload_n dX4_takeNewName_28 0 rfl ?_
    refine am_callV (As := []) (rest := []) dX4_takeNewName_29 kMX4_48 rfl (hwc1 (w := r27) w29) rfl rfl (Nat.le_of_ble_eq_true rfl) (d2 := 1) (by decide) (k2 := 0) (Nat.zero_le _) (u2 := 0) (Nat.zero_le _) (Nat.le_of_ble_eq_true rfl) (ctX4_advance (w := r27) w29 ) (fun v30 h31 q32 => ?_)
    obtain ⟨r33, e34, rfl, w35⟩ := q32
    refine am_iload_n dX4_takeNewName_32 1 rfl ?_
    exact am_ireturn dX4_takeNewName_33 rfl rfl ⟨_, Eq.trans (if_pos c1) (bnd_eq e28 (bnd_eq e34 (rfl))), rfl, w35⟩

theorem dX4_readYarn_0 : decode cX4_readYarn 0 = .ok (.aload_n 0, 1) := by decide +kernel
theorem dX4_readYarn_1 : decode cX4_readYarn 1 = .ok (.aload_n 1, 1) := by decide +kernel
theorem dX4_readYarn_2 : decode cX4_readYarn 2 = .ok (.getfield 124, 3) := by decide +kernel
theorem dX4_readYarn_5 : decode cX4_readYarn 5 = .ok (.bipush 6, 2) := by decide +kernel
theorem dX4_readYarn_7 : decode cX4_readYarn 7 = .ok (.if_icmp .lt 7, 3) := by decide +kernel
theorem dX4_readYarn_10 : decode cX4_readYarn 10 = .ok (.iconst 1, 1) := by decide +kernel
theorem dX4_readYarn_11 : decode cX4_readYarn 11 = .ok (.goto 4, 3) := by decide +kernel
theorem dX4_readYarn_14 : decode cX4_readYarn 14 = .ok (.iconst 0, 1) := by decide +kernel
theorem dX4_readYarn_15 : decode cX4_readYarn 15 = .ok (.iconst 5, 1) := by decide +kernel
theorem dX4_readYarn_16 : decode cX4_readYarn 16 = .ok (.invokevirtual 102, 3) := by decide +kernel
theorem dX4_readYarn_19 : decode cX4_readYarn 19 = .ok (.aload_n 0, 1) := by decide +kernel
theorem dX4_readYarn_20 : decode cX4_readYarn 20 = .ok (.aload_n 0, 1) := by decide +kernel
theorem dX4_readYarn_21 : decode cX4_readYarn 21 = .ok (.invokevirtual 129, 3) := by decide +kernel
theorem dX4_readYarn_24 : decode cX4_readYarn 24 = .ok (.aload_n 1, 1) := by decide +kernel
theorem dX4_readYarn_25 : decode cX4_readYarn 25 = .ok (.getfield 133, 3) := by decide +kernel
theorem dX4_readYarn_28 : decode cX4_readYarn 28 = .ok (.aload_n 1, 1) := by decide +kernel
theorem dX4_readYarn_29 : decode cX4_readYarn 29 = .ok (.getfield 124, 3) := by decide +kernel
theorem dX4_readYarn_32 : decode cX4_readYarn 32 = .ok (.invokevirtual 136, 3) := by decide +kernel
theorem dX4_readYarn_35 : decode cX4_readYarn 35 = .ok (.istore_n 2, 1) := by decide +kernel
theorem dX4_readYarn_36 : decode cX4_readYarn 36 = .ok (.aload_n 0, 1) := by decide +kernel
theorem dX4_readYarn_37 : decode cX4_readYarn 37 = .ok (.iconst 1, 1) := by decide +kernel
theorem dX4_readYarn_38 : decode cX4_readYarn 38 = .ok (.bipush 100, 2) := by decide +kernel
theorem dX4_readYarn_40 : decode cX4_readYarn 40 = .ok (.invokevirtual 106, 3) := by decide +kernel
theorem dX4_readYarn_43 : decode cX4_readYarn 43 = .ok (.istore_n 3, 1) := by decide +kernel
theorem dX4_readYarn_44 : decode cX4_readYarn 44 = .ok (.aload_n 0, 1) := by decide +kernel
theorem dX4_readYarn_45 : decode cX4_readYarn 45 = .ok (.iconst 0, 1) := by decide +kernel
theorem dX4_readYarn_46 : decode cX4_readYarn 46 = .ok (.bipush 50, 2) := by decide +kernel
theorem dX4_readYarn_48 : decode cX4_readYarn 48 = .ok (.invokevirtual 106, 3) := by decide +kernel
theorem dX4_readYarn_51 : decode cX4_readYarn 51 = .ok (.istore 4, 2) := by decide +kernel
theorem dX4_readYarn_53 : decode cX4_readYarn 53 = .ok (.aload_n 0, 1) := by decide +kernel
theorem dX4_readYarn_54 : decode cX4_readYarn 54 = .ok (.invokevirtual 116, 3) := by decide +kernel
theorem dX4_readYarn_57 : decode cX4_readYarn 57 = .ok (.aload_n 0, 1) := by decide +kernel
theorem dX4_readYarn_58 : decode cX4_readYarn 58 = .ok (.getfield 29, 3) := by decide +kernel
theorem dX4_readYarn_61 : decode cX4_readYarn 61 = .ok (.ifCond .ne 50, 3) := by decide +kernel
theorem dX4_readYarn_64 : decode cX4_readYarn 64 = .ok (.aload_n 1, 1) := by decide +kernel
theorem dX4_readYarn_65 : decode cX4_readYarn 65 = .ok (.getfield 133, 3) := by decide +kernel
theorem dX4_readYarn_68 : decode cX4_readYarn 68 = .ok (.aload_n 1, 1) := by decide +kernel
theorem dX4_readYarn_69 : decode cX4_readYarn 69 = .ok (.getfield 124, 3) := by decide +kernel
theorem dX4_readYarn_72 : decode cX4_readYarn 72 = .ok (.iload_n 2, 1) := by decide +kernel
theorem dX4_readYarn_73 : decode cX4_readYarn 73 = .ok (.invokestatic 140, 3) := by decide +kernel
theorem dX4_readYarn_76 : decode cX4_readYarn 76 = .ok (.aload_n 1, 1) := by decide +kernel
theorem dX4_readYarn_77 : decode cX4_readYarn 77 = .ok (.getfield 144, 3) := by decide +kernel
theorem dX4_readYarn_80 : decode cX4_readYarn 80 = .ok (.aload_n 1, 1) := by decide +kernel
theorem dX4_readYarn_81 : decode cX4_readYarn 81 = .ok (.getfield 124, 3) := by decide +kernel
theorem dX4_readYarn_84 : decode cX4_readYarn 84 = .ok (.iload_n 3, 1) := by decide +kernel
theorem dX4_readYarn_85 : decode cX4_readYarn 85 = .ok (.invokestatic 140, 3) := by decide +kernel
theorem dX4_readYarn_88 : decode cX4_readYarn 88 = .ok (.aload_n 1, 1) := by decide +kernel
theorem dX4_readYarn_89 : decode cX4_readYarn 89 = .ok (.getfield 147, 3) := by decide +kernel
theorem dX4_readYarn_92 : decode cX4_readYarn 92 = .ok (.aload_n 1, 1) := by decide +kernel
theorem dX4_readYarn_93 : decode cX4_readYarn 93 = .ok (.getfield 124, 3) := by decide +kernel
theorem dX4_readYarn_96 : decode cX4_readYarn 96 = .ok (.iload 4, 2) := by decide +kernel
theorem dX4_readYarn_98 : decode cX4_readYarn 98 = .ok (.invokestatic 140, 3) := by decide +kernel
theorem dX4_readYarn_101 : decode cX4_readYarn 101 = .ok (.aload_n 1, 1) := by decide +kernel
theorem dX4_readYarn_102 : decode cX4_readYarn 102 = .ok (.dup, 1) := by decide +kernel
theorem dX4_readYarn_103 : decode cX4_readYarn 103 = .ok (.getfield 124, 3) := by decide +kernel
theorem dX4_readYarn_106 : decode cX4_readYarn 106 = .ok (.iconst 1, 1) := by decide +kernel
theorem dX4_readYarn_107 : decode cX4_readYarn 107 = .ok (.iadd, 1) := by decide +kernel
theorem dX4_readYarn_108 : decode cX4_readYarn 108 = .ok (.putfield 124, 3) := by decide +kernel
theorem dX4_readYarn_111 : decode cX4_readYarn 111 = .ok (.return_, 1) := by decide +kernel
def fX4_readYarn_6 (w : Wd)  : Wd := (if ((w.2.2.1 0).1 0) < 6 then (bnd (fX4_startStatement w 0 5) (fun r5 => (bnd (fX4_takeNewName_7 r5 (fX4_nameHere r5 ) ((r5.2.2.1 0).1 0)) (fun r14 => (bnd (fX4_readNumber r14.2 1 100) (fun r20 => (bnd (fX4_readNumber r20.2 0 50) (fun r26 => (bnd (fX4_endStatement r26.2 ) (fun r32 => (if (r32.1 1) = 0 then (bnd (wP (wP r32 0 (upR (r32.2.2.1 0) 0 (fX6_put 6 ((r32.2.2.1 0).2 0) ((r32.2.2.1 0).1 0) r14.1))) 0 (upR (upR (r32.2.2.1 0) 0 (fX6_put 6 ((r32.2.2.1 0).2 0) ((r32.2.2.1 0).1 0) r14.1)) 1 (fX6_put 6 ((upR (r32.2.2.1 0) 0 (fX6_put 6 ((r32.2.2.1 0).2 0) ((r32.2.2.1 0).1 0) r14.1)).2 1) ((upR (r32.2.2.1 0) 0 (fX6_put 6 ((r32.2.2.1 0).2 0) ((r32.2.2.1 0).1 0) r14.1)).1 0) r20.1))) (fun r44 => (bnd (wP (wP r44 0 (upR (r44.2.2.1 0) 2 (fX6_put 6 ((r44.2.2.1 0).2 2) ((r44.2.2.1 0).1 0) r26.1))) 0 (upS (upR (r44.2.2.1 0) 2 (fX6_put 6 ((r44.2.2.1 0).2 2) ((r44.2.2.1 0).1 0) r26.1)) 0 (((upR (r44.2.2.1 0) 2 (fX6_put 6 ((r44.2.2.1 0).2 2) ((r44.2.2.1 0).1 0) r26.1)).1 0) + 1))) (fun r52 => r52)))) else r32))))))))))) else (bnd (fX4_startStatement w 1 5) (fun r58 => (bnd (fX4_takeNewName_7 r58 (fX4_nameHere r58 ) ((r58.2.2.1 0).1 0)) (fun r67 => (bnd (fX4_readNumber r67.2 1 100) (fun r73 => (bnd (fX4_readNumber r73.2 0 50) (fun r79 => (bnd (fX4_endStatement r79.2 ) (fun r85 => (if (r85.1 1) = 0 then (bnd (wP (wP r85 0 (upR (r85.2.2.1 0) 0 (fX6_put 6 ((r85.2.2.1 0).2 0) ((r85.2.2.1 0).1 0) r67.1))) 0 (upR (upR (r85.2.2.1 0) 0 (fX6_put 6 ((r85.2.2.1 0).2 0) ((r85.2.2.1 0).1 0) r67.1)) 1 (fX6_put 6 ((upR (r85.2.2.1 0) 0 (fX6_put 6 ((r85.2.2.1 0).2 0) ((r85.2.2.1 0).1 0) r67.1)).2 1) ((upR (r85.2.2.1 0) 0 (fX6_put 6 ((r85.2.2.1 0).2 0) ((r85.2.2.1 0).1 0) r67.1)).1 0) r73.1))) (fun r97 => (bnd (wP (wP r97 0 (upR (r97.2.2.1 0) 2 (fX6_put 6 ((r97.2.2.1 0).2 2) ((r97.2.2.1 0).1 0) r79.1))) 0 (upS (upR (r97.2.2.1 0) 2 (fX6_put 6 ((r97.2.2.1 0).2 2) ((r97.2.2.1 0).1 0) r79.1)) 0 (((upR (r97.2.2.1 0) 2 (fX6_put 6 ((r97.2.2.1 0).2 2) ((r97.2.2.1 0).1 0) r79.1)).1 0) + 1))) (fun r105 => r105)))) else r85))))))))))))
set_option maxRecDepth 20000 in
theorem ctX4_readYarn_6 {l : Launch} {G : GM} {K : Nat → Option va_E} {h : List va_E} {w : Wd} (hw : HW G K h w)  : Ct l G mX4_readYarn 7 0 0 [.ref (gz G + 1), .ref (gz G + 4)] h (fun v h1 => ∃ r, (fX4_readYarn_6 w ) = r ∧ v = none ∧ HW G K h1 r) := by
  show Tr l G mX4_readYarn 7 0 0 0 [(0, .ref (gz G + 1)), (1, .ref (gz G + 4))] [] h _
  refine am_aload_n dX4_readYarn_0 0 rfl ?_
  refine am_aload_n dX4_readYarn_1 1 rfl ?_
  refine am_get (v := .int ((w.2.2.1 0).1 0)) dX4_readYarn_2 kGX4_124 (pl_1 (p := (w.2.2.1 0)) (hwP0 (w := w) hw)) rfl ?_
  refine am_bipush (v := 6) dX4_readYarn_5 (by decide) ?_
  refine am_icmp_lt dX4_readYarn_7 (by decide : ((7 : Nat) : Int) + (7) = ((14 : Nat) : Int)) (fun c1 => ?_) (fun c1 => ?_)
  · refine am_iconst (v := 0) dX4_readYarn_14 (by decide) ?_
    refine am_iconst (v := 5) dX4_readYarn_15 (by decide) ?_
    refine am_callV (As := [.int 0, .int 5]) (rest := []) dX4_readYarn_16 kMX4_102 rfl (hwc1 (w := w) hw) rfl rfl (Nat.le_of_ble_eq_true rfl) (d2 := 2) (by decide) (k2 := 0) (Nat.zero_le _) (u2 := 0) (Nat.zero_le _) (Nat.le_of_ble_eq_true rfl) (ctX4_startStatement (w := w) hw 0 5) (fun v2 h3 q4 => ?_)
    obtain ⟨r5, e6, rfl, w7⟩ := q4
    refine am_aload_n dX4_readYarn_19 0 rfl ?_
    refine am_aload_n dX4_readYarn_20 0 rfl ?_
    refine am_callV (As := []) (rest := [.ref (gz G + 1)]) dX4_readYarn_21 kMX4_129 rfl (hwc1 (w := r5) w7) rfl rfl (Nat.le_of_ble_eq_true rfl) (d2 := 6) (by decide) (k2 := 0) (Nat.zero_le _) (u2 := 0) (Nat.zero_le _) (Nat.le_of_ble_eq_true rfl) (ctX4_nameHere (w := r5) w7 ) (fun v8 h9 q10 => ?_)
    obtain ⟨rfl, rfl⟩ := q10
    refine am_aload_n dX4_readYarn_24 1 rfl ?_
    refine am_get (v := .ref (gz G + 5)) dX4_readYarn_25 kGX4_133 (pl_1 (p := (r5.2.2.1 0)) (hwP0 (w := r5) w7)) rfl ?_
    refine am_aload_n dX4_readYarn_28 1 rfl ?_
    refine am_get (v := .int ((r5.2.2.1 0).1 0)) dX4_readYarn_29 kGX4_124 (pl_1 (p := (r5.2.2.1 0)) (hwP0 (w := r5) w7)) rfl ?_
    refine am_callV (As := [.int (fX4_nameHere r5 ), .ref (gz G + 5), .int ((r5.2.2.1 0).1 0)]) (rest := []) dX4_readYarn_32 kMX4_136 rfl (hwc1 (w := r5) w7) rfl rfl (Nat.le_of_ble_eq_true rfl) (d2 := 2) (by decide) (k2 := 0) (Nat.zero_le _) (u2 := 0) (Nat.zero_le _) (Nat.le_of_ble_eq_true rfl) (ctX4_takeNewName_7 (w := r5) w7 (fX4_nameHere r5 ) ((r5.2.2.1 0).1 0)) (fun v11 h12 q13 => ?_)
    obtain ⟨r14, e15, rfl, w16⟩ := q13
    refine am_istore_n dX4_readYarn_35 (by decide) (lv' := [(2, .int r14.1), (0, .ref (gz G + 1)), (1, .ref (gz G + 4))]) rfl ?_
    refine am_aload_n dX4_readYarn_36 1 rfl ?_
    refine am_iconst (v := 1) dX4_readYarn_37 (by decide) ?_
    refine am_bipush (v := 100) dX4_readYarn_38 (by decide) ?_
    refine am_callV (As := [.int 1, .int 100]) (rest := []) dX4_readYarn_40 kMX4_106 rfl (hwc1 (w := r14.2) w16) rfl rfl (Nat.le_of_ble_eq_true rfl) (d2 := 2) (by decide) (k2 := 0) (Nat.zero_le _) (u2 := 0) (Nat.zero_le _) (Nat.le_of_ble_eq_true rfl) (ctX4_readNumber (w := r14.2) w16 1 100) (fun v17 h18 q19 => ?_)
    obtain ⟨r20, e21, rfl, w22⟩ := q19
    refine am_istore_n dX4_readYarn_43 (by decide) (lv' := [(3, .int r20.1), (2, .int r14.1), (0, .ref (gz G + 1)), (1, .ref (gz G + 4))]) rfl ?_
    refine am_aload_n dX4_readYarn_44 2 rfl ?_
    refine am_iconst (v := 0) dX4_readYarn_45 (by decide) ?_
    refine am_bipush (v := 50) dX4_readYarn_46 (by decide) ?_
    refine am_callV (As := [.int 0, .int 50]) (rest := []) dX4_readYarn_48 kMX4_106 rfl (hwc1 (w := r20.2) w22) rfl rfl (Nat.le_of_ble_eq_true rfl) (d2 := 2) (by decide) (k2 := 0) (Nat.zero_le _) (u2 := 0) (Nat.zero_le _) (Nat.le_of_ble_eq_true rfl) (ctX4_readNumber (w := r20.2) w22 0 50) (fun v23 h24 q25 => ?_)
    obtain ⟨r26, e27, rfl, w28⟩ := q25
    refine am_istore dX4_readYarn_51 (by decide) (lv' := [(4, .int r26.1), (3, .int r20.1), (2, .int r14.1), (0, .ref (gz G + 1)), (1, .ref (gz G + 4))]) rfl ?_
    refine am_aload_n dX4_readYarn_53 3 rfl ?_
    refine am_callV (As := []) (rest := []) dX4_readYarn_54 kMX4_116 rfl (hwc1 (w := r26.2) w28) rfl rfl (Nat.le_of_ble_eq_true rfl) (d2 := 2) (by decide) (k2 := 0) (Nat.zero_le _) (u2 := 0) (Nat.zero_le _) (Nat.le_of_ble_eq_true rfl) (ctX4_endStatement (w := r26.2) w28 ) (fun v29 h30 q31 => ?_)
    obtain ⟨r32, e33, rfl, w34⟩ := q31
    refine am_aload_n dX4_readYarn_57 3 rfl ?_
    refine am_get (v := .int (r32.1 1)) dX4_readYarn_58 kGX4_29 (hwc1 (w := r32) w34) rfl ?_
    refine am_if_ne dX4_readYarn_61 (by decide : ((61 : Nat) : Int) + (50) = ((111 : Nat) : Int)) (fun c35 => ?_) (fun c35 => ?_)
    · exact am_return dX4_readYarn_111 rfl ⟨_, Eq.trans (if_pos c1) (bnd_eq e6 (bnd_eq e15 (bnd_eq e21 (bnd_eq e27 (bnd_eq e33 (Eq.trans (if_neg c35) (rfl))))))), rfl, w34⟩
    · refine am_aload_n dX4_readYarn_64 4 rfl ?_
      refine am_get (v := .ref (gz G + 5)) dX4_readYarn_65 kGX4_133 (pl_1 (p := (r32.2.2.1 0)) (hwP0 (w := r32) w34)) rfl ?_
      refine am_aload_n dX4_readYarn_68 4 rfl ?_
      refine am_get (v := .int ((r32.2.2.1 0).1 0)) dX4_readYarn_69 kGX4_124 (pl_1 (p := (r32.2.2.1 0)) (hwP0 (w := r32) w34)) rfl ?_
      refine am_iload_n dX4_readYarn_72 2 rfl ?_
      refine am_callSN (As := [.ref (gz G + 5), .int ((r32.2.2.1 0).1 0), .int r14.1]) (rest := []) dX4_readYarn_73 kMX4_140 rfl  rfl (Nat.le_of_ble_eq_true rfl) (d2 := 0) (by decide) (k2 := 0) (Nat.zero_le _) (u2 := 0) (Nat.zero_le _) (Nat.le_of_ble_eq_true rfl) (ctX6_put (f := ((r32.2.2.1 0).2 0)) (pl_r0 (p := (r32.2.2.1 0)) (hwP0 (w := r32) w34)) (by decide) ((r32.2.2.1 0).1 0) r14.1) (fun v36 h37 q38 => ?_)
      obtain ⟨rfl, rfl⟩ := q38
      have w39 := hwPu w34 (i := 0) (by decide) (p := (upR (r32.2.2.1 0) 0 (fX6_put 6 ((r32.2.2.1 0).2 0) ((r32.2.2.1 0).1 0) r14.1))) (pl_u0 (hwP0 (w := r32) w34) (fX6_put 6 ((r32.2.2.1 0).2 0) ((r32.2.2.1 0).1 0) r14.1)) (Fr.set Fr.rf (a := 5) (S := fun q => pb 0 ≤ q ∧ q < pb 0 + 16) (by decide))
      refine am_aload_n dX4_readYarn_76 4 rfl ?_
      refine am_get (v := .ref (gz G + 6)) dX4_readYarn_77 kGX4_144 (pl_1 (p := (upR (r32.2.2.1 0) 0 (fX6_put 6 ((r32.2.2.1 0).2 0) ((r32.2.2.1 0).1 0) r14.1))) (hwP0 (w := (wP r32 0 (upR (r32.2.2.1 0) 0 (fX6_put 6 ((r32.2.2.1 0).2 0) ((r32.2.2.1 0).1 0) r14.1)))) w39)) rfl ?_
      refine am_aload_n dX4_readYarn_80 4 rfl ?_
      refine am_get (v := .int ((upR (r32.2.2.1 0) 0 (fX6_put 6 ((r32.2.2.1 0).2 0) ((r32.2.2.1 0).1 0) r14.1)).1 0)) dX4_readYarn_81 kGX4_124 (pl_1 (p := (upR (r32.2.2.1 0) 0 (fX6_put 6 ((r32.2.2.1 0).2 0) ((r32.2.2.1 0).1 0) r14.1))) (hwP0 (w := (wP r32 0 (upR (r32.2.2.1 0) 0 (fX6_put 6 ((r32.2.2.1 0).2 0) ((r32.2.2.1 0).1 0) r14.1)))) w39)) rfl ?_
      refine am_iload_n dX4_readYarn_84 1 rfl ?_
      refine am_callSN (As := [.ref (gz G + 6), .int ((upR (r32.2.2.1 0) 0 (fX6_put 6 ((r32.2.2.1 0).2 0) ((r32.2.2.1 0).1 0) r14.1)).1 0), .int r20.1]) (rest := []) dX4_readYarn_85 kMX4_140 rfl  rfl (Nat.le_of_ble_eq_true rfl) (d2 := 0) (by decide) (k2 := 0) (Nat.zero_le _) (u2 := 0) (Nat.zero_le _) (Nat.le_of_ble_eq_true rfl) (ctX6_put (f := ((upR (r32.2.2.1 0) 0 (fX6_put 6 ((r32.2.2.1 0).2 0) ((r32.2.2.1 0).1 0) r14.1)).2 1)) (pl_r1 (p := (upR (r32.2.2.1 0) 0 (fX6_put 6 ((r32.2.2.1 0).2 0) ((r32.2.2.1 0).1 0) r14.1))) (hwP0 (w := (wP r32 0 (upR (r32.2.2.1 0) 0 (fX6_put 6 ((r32.2.2.1 0).2 0) ((r32.2.2.1 0).1 0) r14.1)))) w39)) (by decide) ((upR (r32.2.2.1 0) 0 (fX6_put 6 ((r32.2.2.1 0).2 0) ((r32.2.2.1 0).1 0) r14.1)).1 0) r20.1) (fun v40 h41 q42 => ?_)
      obtain ⟨rfl, rfl⟩ := q42
      have w43 := hwPu w39 (i := 0) (by decide) (p := (upR (upR (r32.2.2.1 0) 0 (fX6_put 6 ((r32.2.2.1 0).2 0) ((r32.2.2.1 0).1 0) r14.1)) 1 (fX6_put 6 ((upR (r32.2.2.1 0) 0 (fX6_put 6 ((r32.2.2.1 0).2 0) ((r32.2.2.1 0).1 0) r14.1)).2 1) ((upR (r32.2.2.1 0) 0 (fX6_put 6 ((r32.2.2.1 0).2 0) ((r32.2.2.1 0).1 0) r14.1)).1 0) r20.1))) (pl_u1 (hwP0 (w := (wP r32 0 (upR (r32.2.2.1 0) 0 (fX6_put 6 ((r32.2.2.1 0).2 0) ((r32.2.2.1 0).1 0) r14.1)))) w39) (fX6_put 6 ((upR (r32.2.2.1 0) 0 (fX6_put 6 ((r32.2.2.1 0).2 0) ((r32.2.2.1 0).1 0) r14.1)).2 1) ((upR (r32.2.2.1 0) 0 (fX6_put 6 ((r32.2.2.1 0).2 0) ((r32.2.2.1 0).1 0) r14.1)).1 0) r20.1)) (Fr.set Fr.rf (a := 6) (S := fun q => pb 0 ≤ q ∧ q < pb 0 + 16) (by decide))
      obtain ⟨r44, e45⟩ : ∃ x, (wP (wP r32 0 (upR (r32.2.2.1 0) 0 (fX6_put 6 ((r32.2.2.1 0).2 0) ((r32.2.2.1 0).1 0) r14.1))) 0 (upR (upR (r32.2.2.1 0) 0 (fX6_put 6 ((r32.2.2.1 0).2 0) ((r32.2.2.1 0).1 0) r14.1)) 1 (fX6_put 6 ((upR (r32.2.2.1 0) 0 (fX6_put 6 ((r32.2.2.1 0).2 0) ((r32.2.2.1 0).1 0) r14.1)).2 1) ((upR (r32.2.2.1 0) 0 (fX6_put 6 ((r32.2.2.1 0).2 0) ((r32.2.2.1 0).1 0) r14.1)).1 0) r20.1))) = x := ⟨_, rfl⟩
      have w46 := hw_eq e45 w43
      refine am_aload_n dX4_readYarn_88 4 rfl ?_
      refine am_get (v := .ref (gz G + 7)) dX4_readYarn_89 kGX4_147 (pl_1 (p := (r44.2.2.1 0)) (hwP0 (w := r44) w46)) rfl ?_
      refine am_aload_n dX4_readYarn_92 4 rfl ?_
      refine am_get (v := .int ((r44.2.2.1 0).1 0)) dX4_readYarn_93 kGX4_124 (pl_1 (p := (r44.2.2.1 0)) (hwP0 (w := r44) w46)) rfl ?_
      refine am_iload dX4_readYarn_96 0 rfl ?_
      refine am_callSN (As := [.ref (gz G + 7), .int ((r44.2.2.1 0).1 0), .int r26.1]) (rest := []) dX4_readYarn_98 kMX4_140 rfl  rfl (Nat.le_of_ble_eq_true rfl) (d2 := 0) (by decide) (k2 := 0) (Nat.zero_le _) (u2 := 0) (Nat.zero_le _) (Nat.le_of_ble_eq_true rfl) (ctX6_put (f := ((r44.2.2.1 0).2 2)) (pl_r2 (p := (r44.2.2.1 0)) (hwP0 (w := r44) w46)) (by decide) ((r44.2.2.1 0).1 0) r26.1) (fun v47 h48 q49 => ?_)
      obtain ⟨rfl, rfl⟩ := q49
      have w50 := hwPu w46 (i := 0) (by decide) (p := (upR (r44.2.2.1 0) 2 (fX6_put 6 ((r44.2.2.1 0).2 2) ((r44.2.2.1 0).1 0) r26.1))) (pl_u2 (hwP0 (w := r44) w46) (fX6_put 6 ((r44.2.2.1 0).2 2) ((r44.2.2.1 0).1 0) r26.1)) (Fr.set Fr.rf (a := 7) (S := fun q => pb 0 ≤ q ∧ q < pb 0 + 16) (by decide))
      refine am_aload_n dX4_readYarn_101 4 rfl ?_
      refine am_dup dX4_readYarn_102 rfl ?_
      refine am_get (v := .int ((upR (r44.2.2.1 0) 2 (fX6_put 6 ((r44.2.2.1 0).2 2) ((r44.2.2.1 0).1 0) r26.1)).1 0)) dX4_readYarn_103 kGX4_124 (pl_1 (p := (upR (r44.2.2.1 0) 2 (fX6_put 6 ((r44.2.2.1 0).2 2) ((r44.2.2.1 0).1 0) r26.1))) (hwP0 (w := (wP r44 0 (upR (r44.2.2.1 0) 2 (fX6_put 6 ((r44.2.2.1 0).2 2) ((r44.2.2.1 0).1 0) r26.1)))) w50)) rfl ?_
      refine am_iconst (v := 1) dX4_readYarn_106 (by decide) ?_
      refine am_iadd dX4_readYarn_107 ?_
      refine am_put dX4_readYarn_108 kFX4_124 (pl_1 (p := (upR (r44.2.2.1 0) 2 (fX6_put 6 ((r44.2.2.1 0).2 2) ((r44.2.2.1 0).1 0) r26.1))) (hwP0 (w := (wP r44 0 (upR (r44.2.2.1 0) 2 (fX6_put 6 ((r44.2.2.1 0).2 2) ((r44.2.2.1 0).1 0) r26.1)))) w50)) (Nat.le_of_ble_eq_true rfl) rfl rfl ?_
      have w51 := hwPu w50 (i := 0) (by decide) (p := (upS (upR (r44.2.2.1 0) 2 (fX6_put 6 ((r44.2.2.1 0).2 2) ((r44.2.2.1 0).1 0) r26.1)) 0 (((upR (r44.2.2.1 0) 2 (fX6_put 6 ((r44.2.2.1 0).2 2) ((r44.2.2.1 0).1 0) r26.1)).1 0) + 1))) (pl_s0 (hwP0 (w := (wP r44 0 (upR (r44.2.2.1 0) 2 (fX6_put 6 ((r44.2.2.1 0).2 2) ((r44.2.2.1 0).1 0) r26.1)))) w50) (((upR (r44.2.2.1 0) 2 (fX6_put 6 ((r44.2.2.1 0).2 2) ((r44.2.2.1 0).1 0) r26.1)).1 0) + 1)) (Fr.set Fr.rf (a := 4) (S := fun q => pb 0 ≤ q ∧ q < pb 0 + 16) (by decide))
      obtain ⟨r52, e53⟩ : ∃ x, (wP (wP r44 0 (upR (r44.2.2.1 0) 2 (fX6_put 6 ((r44.2.2.1 0).2 2) ((r44.2.2.1 0).1 0) r26.1))) 0 (upS (upR (r44.2.2.1 0) 2 (fX6_put 6 ((r44.2.2.1 0).2 2) ((r44.2.2.1 0).1 0) r26.1)) 0 (((upR (r44.2.2.1 0) 2 (fX6_put 6 ((r44.2.2.1 0).2 2) ((r44.2.2.1 0).1 0) r26.1)).1 0) + 1))) = x := ⟨_, rfl⟩
      have w54 := hw_eq e53 w51
      exact am_return dX4_readYarn_111 rfl ⟨_, Eq.trans (if_pos c1) (bnd_eq e6 (bnd_eq e15 (bnd_eq e21 (bnd_eq e27 (bnd_eq e33 (Eq.trans (if_pos c35) (bnd_eq e45 (bnd_eq e53 (rfl))))))))), rfl, w54⟩
  · refine am_iconst (v := 1) dX4_readYarn_10 (by decide) ?_
    refine am_goto dX4_readYarn_11 (by decide : ((11 : Nat) : Int) + (4) = ((15 : Nat) : Int)) ?_
    refine am_iconst (v := 5) dX4_readYarn_15 (by decide) ?_
    refine am_callV (As := [.int 1, .int 5]) (rest := []) dX4_readYarn_16 kMX4_102 rfl (hwc1 (w := w) hw) rfl rfl (Nat.le_of_ble_eq_true rfl) (d2 := 2) (by decide) (k2 := 0) (Nat.zero_le _) (u2 := 0) (Nat.zero_le _) (Nat.le_of_ble_eq_true rfl) (ctX4_startStatement (w := w) hw 1 5) (fun v55 h56 q57 => ?_)
    obtain ⟨r58, e59, rfl, w60⟩ := q57
    refine am_aload_n dX4_readYarn_19 0 rfl ?_
    refine am_aload_n dX4_readYarn_20 0 rfl ?_
    refine am_callV (As := []) (rest := [.ref (gz G + 1)]) dX4_readYarn_21 kMX4_129 rfl (hwc1 (w := r58) w60) rfl rfl (Nat.le_of_ble_eq_true rfl) (d2 := 6) (by decide) (k2 := 0) (Nat.zero_le _) (u2 := 0) (Nat.zero_le _) (Nat.le_of_ble_eq_true rfl) (ctX4_nameHere (w := r58) w60 ) (fun v61 h62 q63 => ?_)
    obtain ⟨rfl, rfl⟩ := q63
    refine am_aload_n dX4_readYarn_24 1 rfl ?_
    refine am_get (v := .ref (gz G + 5)) dX4_readYarn_25 kGX4_133 (pl_1 (p := (r58.2.2.1 0)) (hwP0 (w := r58) w60)) rfl ?_
    refine am_aload_n dX4_readYarn_28 1 rfl ?_
    refine am_get (v := .int ((r58.2.2.1 0).1 0)) dX4_readYarn_29 kGX4_124 (pl_1 (p := (r58.2.2.1 0)) (hwP0 (w := r58) w60)) rfl ?_
    refine am_callV (As := [.int (fX4_nameHere r58 ), .ref (gz G + 5), .int ((r58.2.2.1 0).1 0)]) (rest := []) dX4_readYarn_32 kMX4_136 rfl (hwc1 (w := r58) w60) rfl rfl (Nat.le_of_ble_eq_true rfl) (d2 := 2) (by decide) (k2 := 0) (Nat.zero_le _) (u2 := 0) (Nat.zero_le _) (Nat.le_of_ble_eq_true rfl) (ctX4_takeNewName_7 (w := r58) w60 (fX4_nameHere r58 ) ((r58.2.2.1 0).1 0)) (fun v64 h65 q66 => ?_)
    obtain ⟨r67, e68, rfl, w69⟩ := q66
    refine am_istore_n dX4_readYarn_35 (by decide) (lv' := [(2, .int r67.1), (0, .ref (gz G + 1)), (1, .ref (gz G + 4))]) rfl ?_
    refine am_aload_n dX4_readYarn_36 1 rfl ?_
    refine am_iconst (v := 1) dX4_readYarn_37 (by decide) ?_
    refine am_bipush (v := 100) dX4_readYarn_38 (by decide) ?_
    refine am_callV (As := [.int 1, .int 100]) (rest := []) dX4_readYarn_40 kMX4_106 rfl (hwc1 (w := r67.2) w69) rfl rfl (Nat.le_of_ble_eq_true rfl) (d2 := 2) (by decide) (k2 := 0) (Nat.zero_le _) (u2 := 0) (Nat.zero_le _) (Nat.le_of_ble_eq_true rfl) (ctX4_readNumber (w := r67.2) w69 1 100) (fun v70 h71 q72 => ?_)
    obtain ⟨r73, e74, rfl, w75⟩ := q72
    refine am_istore_n dX4_readYarn_43 (by decide) (lv' := [(3, .int r73.1), (2, .int r67.1), (0, .ref (gz G + 1)), (1, .ref (gz G + 4))]) rfl ?_
    refine am_aload_n dX4_readYarn_44 2 rfl ?_
    refine am_iconst (v := 0) dX4_readYarn_45 (by decide) ?_
    refine am_bipush (v := 50) dX4_readYarn_46 (by decide) ?_
    refine am_callV (As := [.int 0, .int 50]) (rest := []) dX4_readYarn_48 kMX4_106 rfl (hwc1 (w := r73.2) w75) rfl rfl (Nat.le_of_ble_eq_true rfl) (d2 := 2) (by decide) (k2 := 0) (Nat.zero_le _) (u2 := 0) (Nat.zero_le _) (Nat.le_of_ble_eq_true rfl) (ctX4_readNumber (w := r73.2) w75 0 50) (fun v76 h77 q78 => ?_)
    obtain ⟨r79, e80, rfl, w81⟩ := q78
    refine am_istore dX4_readYarn_51 (by decide) (lv' := [(4, .int r79.1), (3, .int r73.1), (2, .int r67.1), (0, .ref (gz G + 1)), (1, .ref (gz G + 4))]) rfl ?_
    refine am_aload_n dX4_readYarn_53 3 rfl ?_
    refine am_callV (As := []) (rest := []) dX4_readYarn_54 kMX4_116 rfl (hwc1 (w := r79.2) w81) rfl rfl (Nat.le_of_ble_eq_true rfl) (d2 := 2) (by decide) (k2 := 0) (Nat.zero_le _) (u2 := 0) (Nat.zero_le _) (Nat.le_of_ble_eq_true rfl) (ctX4_endStatement (w := r79.2) w81 ) (fun v82 h83 q84 => ?_)
    obtain ⟨r85, e86, rfl, w87⟩ := q84
    refine am_aload_n dX4_readYarn_57 3 rfl ?_
    refine am_get (v := .int (r85.1 1)) dX4_readYarn_58 kGX4_29 (hwc1 (w := r85) w87) rfl ?_
    refine am_if_ne dX4_readYarn_61 (by decide : ((61 : Nat) : Int) + (50) = ((111 : Nat) : Int)) (fun c88 => ?_) (fun c88 => ?_)
    · exact am_return dX4_readYarn_111 rfl ⟨_, Eq.trans (if_neg c1) (bnd_eq e59 (bnd_eq e68 (bnd_eq e74 (bnd_eq e80 (bnd_eq e86 (Eq.trans (if_neg c88) (rfl))))))), rfl, w87⟩
    · refine am_aload_n dX4_readYarn_64 4 rfl ?_
      refine am_get (v := .ref (gz G + 5)) dX4_readYarn_65 kGX4_133 (pl_1 (p := (r85.2.2.1 0)) (hwP0 (w := r85) w87)) rfl ?_
      refine am_aload_n dX4_readYarn_68 4 rfl ?_
      refine am_get (v := .int ((r85.2.2.1 0).1 0)) dX4_readYarn_69 kGX4_124 (pl_1 (p := (r85.2.2.1 0)) (hwP0 (w := r85) w87)) rfl ?_
      refine am_iload_n dX4_readYarn_72 2 rfl ?_
      refine am_callSN (As := [.ref (gz G + 5), .int ((r85.2.2.1 0).1 0), .int r67.1]) (rest := []) dX4_readYarn_73 kMX4_140 rfl  rfl (Nat.le_of_ble_eq_true rfl) (d2 := 0) (by decide) (k2 := 0) (Nat.zero_le _) (u2 := 0) (Nat.zero_le _) (Nat.le_of_ble_eq_true rfl) (ctX6_put (f := ((r85.2.2.1 0).2 0)) (pl_r0 (p := (r85.2.2.1 0)) (hwP0 (w := r85) w87)) (by decide) ((r85.2.2.1 0).1 0) r67.1) (fun v89 h90 q91 => ?_)
      obtain ⟨rfl, rfl⟩ := q91
      have w92 := hwPu w87 (i := 0) (by decide) (p := (upR (r85.2.2.1 0) 0 (fX6_put 6 ((r85.2.2.1 0).2 0) ((r85.2.2.1 0).1 0) r67.1))) (pl_u0 (hwP0 (w := r85) w87) (fX6_put 6 ((r85.2.2.1 0).2 0) ((r85.2.2.1 0).1 0) r67.1)) (Fr.set Fr.rf (a := 5) (S := fun q => pb 0 ≤ q ∧ q < pb 0 + 16) (by decide))
      refine am_aload_n dX4_readYarn_76 4 rfl ?_
      refine am_get (v := .ref (gz G + 6)) dX4_readYarn_77 kGX4_144 (pl_1 (p := (upR (r85.2.2.1 0) 0 (fX6_put 6 ((r85.2.2.1 0).2 0) ((r85.2.2.1 0).1 0) r67.1))) (hwP0 (w := (wP r85 0 (upR (r85.2.2.1 0) 0 (fX6_put 6 ((r85.2.2.1 0).2 0) ((r85.2.2.1 0).1 0) r67.1)))) w92)) rfl ?_
      refine am_aload_n dX4_readYarn_80 4 rfl ?_
      refine am_get (v := .int ((upR (r85.2.2.1 0) 0 (fX6_put 6 ((r85.2.2.1 0).2 0) ((r85.2.2.1 0).1 0) r67.1)).1 0)) dX4_readYarn_81 kGX4_124 (pl_1 (p := (upR (r85.2.2.1 0) 0 (fX6_put 6 ((r85.2.2.1 0).2 0) ((r85.2.2.1 0).1 0) r67.1))) (hwP0 (w := (wP r85 0 (upR (r85.2.2.1 0) 0 (fX6_put 6 ((r85.2.2.1 0).2 0) ((r85.2.2.1 0).1 0) r67.1)))) w92)) rfl ?_
      refine am_iload_n dX4_readYarn_84 1 rfl ?_
      refine am_callSN (As := [.ref (gz G + 6), .int ((upR (r85.2.2.1 0) 0 (fX6_put 6 ((r85.2.2.1 0).2 0) ((r85.2.2.1 0).1 0) r67.1)).1 0), .int r73.1]) (rest := []) dX4_readYarn_85 kMX4_140 rfl  rfl (Nat.le_of_ble_eq_true rfl) (d2 := 0) (by decide) (k2 := 0) (Nat.zero_le _) (u2 := 0) (Nat.zero_le _) (Nat.le_of_ble_eq_true rfl) (ctX6_put (f := ((upR (r85.2.2.1 0) 0 (fX6_put 6 ((r85.2.2.1 0).2 0) ((r85.2.2.1 0).1 0) r67.1)).2 1)) (pl_r1 (p := (upR (r85.2.2.1 0) 0 (fX6_put 6 ((r85.2.2.1 0).2 0) ((r85.2.2.1 0).1 0) r67.1))) (hwP0 (w := (wP r85 0 (upR (r85.2.2.1 0) 0 (fX6_put 6 ((r85.2.2.1 0).2 0) ((r85.2.2.1 0).1 0) r67.1)))) w92)) (by decide) ((upR (r85.2.2.1 0) 0 (fX6_put 6 ((r85.2.2.1 0).2 0) ((r85.2.2.1 0).1 0) r67.1)).1 0) r73.1) (fun v93 h94 q95 => ?_)
      obtain ⟨rfl, rfl⟩ := q95
      have w96 := hwPu w92 (i := 0) (by decide) (p := (upR (upR (r85.2.2.1 0) 0 (fX6_put 6 ((r85.2.2.1 0).2 0) ((r85.2.2.1 0).1 0) r67.1)) 1 (fX6_put 6 ((upR (r85.2.2.1 0) 0 (fX6_put 6 ((r85.2.2.1 0).2 0) ((r85.2.2.1 0).1 0) r67.1)).2 1) ((upR (r85.2.2.1 0) 0 (fX6_put 6 ((r85.2.2.1 0).2 0) ((r85.2.2.1 0).1 0) r67.1)).1 0) r73.1))) (pl_u1 (hwP0 (w := (wP r85 0 (upR (r85.2.2.1 0) 0 (fX6_put 6 ((r85.2.2.1 0).2 0) ((r85.2.2.1 0).1 0) r67.1)))) w92) (fX6_put 6 ((upR (r85.2.2.1 0) 0 (fX6_put 6 ((r85.2.2.1 0).2 0) ((r85.2.2.1 0).1 0) r67.1)).2 1) ((upR (r85.2.2.1 0) 0 (fX6_put 6 ((r85.2.2.1 0).2 0) ((r85.2.2.1 0).1 0) r67.1)).1 0) r73.1)) (Fr.set Fr.rf (a := 6) (S := fun q => pb 0 ≤ q ∧ q < pb 0 + 16) (by decide))
      obtain ⟨r97, e98⟩ : ∃ x, (wP (wP r85 0 (upR (r85.2.2.1 0) 0 (fX6_put 6 ((r85.2.2.1 0).2 0) ((r85.2.2.1 0).1 0) r67.1))) 0 (upR (upR (r85.2.2.1 0) 0 (fX6_put 6 ((r85.2.2.1 0).2 0) ((r85.2.2.1 0).1 0) r67.1)) 1 (fX6_put 6 ((upR (r85.2.2.1 0) 0 (fX6_put 6 ((r85.2.2.1 0).2 0) ((r85.2.2.1 0).1 0) r67.1)).2 1) ((upR (r85.2.2.1 0) 0 (fX6_put 6 ((r85.2.2.1 0).2 0) ((r85.2.2.1 0).1 0) r67.1)).1 0) r73.1))) = x := ⟨_, rfl⟩
      have w99 := hw_eq e98 w96
      refine am_aload_n dX4_readYarn_88 4 rfl ?_
      refine am_get (v := .ref (gz G + 7)) dX4_readYarn_89 kGX4_147 (pl_1 (p := (r97.2.2.1 0)) (hwP0 (w := r97) w99)) rfl ?_
      refine am_aload_n dX4_readYarn_92 4 rfl ?_
      refine am_get (v := .int ((r97.2.2.1 0).1 0)) dX4_readYarn_93 kGX4_124 (pl_1 (p := (r97.2.2.1 0)) (hwP0 (w := r97) w99)) rfl ?_
      refine am_iload dX4_readYarn_96 0 rfl ?_
      refine am_callSN (As := [.ref (gz G + 7), .int ((r97.2.2.1 0).1 0), .int r79.1]) (rest := []) dX4_readYarn_98 kMX4_140 rfl  rfl (Nat.le_of_ble_eq_true rfl) (d2 := 0) (by decide) (k2 := 0) (Nat.zero_le _) (u2 := 0) (Nat.zero_le _) (Nat.le_of_ble_eq_true rfl) (ctX6_put (f := ((r97.2.2.1 0).2 2)) (pl_r2 (p := (r97.2.2.1 0)) (hwP0 (w := r97) w99)) (by decide) ((r97.2.2.1 0).1 0) r79.1) (fun v100 h101 q102 => ?_)
      obtain ⟨rfl, rfl⟩ := q102
      have w103 := hwPu w99 (i := 0) (by decide) (p := (upR (r97.2.2.1 0) 2 (fX6_put 6 ((r97.2.2.1 0).2 2) ((r97.2.2.1 0).1 0) r79.1))) (pl_u2 (hwP0 (w := r97) w99) (fX6_put 6 ((r97.2.2.1 0).2 2) ((r97.2.2.1 0).1 0) r79.1)) (Fr.set Fr.rf (a := 7) (S := fun q => pb 0 ≤ q ∧ q < pb 0 + 16) (by decide))
      refine am_aload_n dX4_readYarn_101 4 rfl ?_
      refine am_dup dX4_readYarn_102 rfl ?_
      refine am_get (v := .int ((upR (r97.2.2.1 0) 2 (fX6_put 6 ((r97.2.2.1 0).2 2) ((r97.2.2.1 0).1 0) r79.1)).1 0)) dX4_readYarn_103 kGX4_124 (pl_1 (p := (upR (r97.2.2.1 0) 2 (fX6_put 6 ((r97.2.2.1 0).2 2) ((r97.2.2.1 0).1 0) r79.1))) (hwP0 (w := (wP r97 0 (upR (r97.2.2.1 0) 2 (fX6_put 6 ((r97.2.2.1 0).2 2) ((r97.2.2.1 0).1 0) r79.1)))) w103)) rfl ?_
      refine am_iconst (v := 1) dX4_readYarn_106 (by decide) ?_
      refine am_iadd dX4_readYarn_107 ?_
      refine am_put dX4_readYarn_108 kFX4_124 (pl_1 (p := (upR (r97.2.2.1 0) 2 (fX6_put 6 ((r97.2.2.1 0).2 2) ((r97.2.2.1 0).1 0) r79.1))) (hwP0 (w := (wP r97 0 (upR (r97.2.2.1 0) 2 (fX6_put 6 ((r97.2.2.1 0).2 2) ((r97.2.2.1 0).1 0) r79.1)))) w103)) (Nat.le_of_ble_eq_true rfl) rfl rfl ?_
      have w104 := hwPu w103 (i := 0) (by decide) (p := (upS (upR (r97.2.2.1 0) 2 (fX6_put 6 ((r97.2.2.1 0).2 2) ((r97.2.2.1 0).1 0) r79.1)) 0 (((upR (r97.2.2.1 0) 2 (fX6_put 6 ((r97.2.2.1 0).2 2) ((r97.2.2.1 0).1 0) r79.1)).1 0) + 1))) (pl_s0 (hwP0 (w := (wP r97 0 (upR (r97.2.2.1 0) 2 (fX6_put 6 ((r97.2.2.1 0).2 2) ((r97.2.2.1 0).1 0) r79.1)))) w103) (((upR (r97.2.2.1 0) 2 (fX6_put 6 ((r97.2.2.1 0).2 2) ((r97.2.2.1 0).1 0) r79.1)).1 0) + 1)) (Fr.set Fr.rf (a := 4) (S := fun q => pb 0 ≤ q ∧ q < pb 0 + 16) (by decide))
      obtain ⟨r105, e106⟩ : ∃ x, (wP (wP r97 0 (upR (r97.2.2.1 0) 2 (fX6_put 6 ((r97.2.2.1 0).2 2) ((r97.2.2.1 0).1 0) r79.1))) 0 (upS (upR (r97.2.2.1 0) 2 (fX6_put 6 ((r97.2.2.1 0).2 2) ((r97.2.2.1 0).1 0) r79.1)) 0 (((upR (r97.2.2.1 0) 2 (fX6_put 6 ((r97.2.2.1 0).2 2) ((r97.2.2.1 0).1 0) r79.1)).1 0) + 1))) = x := ⟨_, rfl⟩
      have w107 := hw_eq e106 w104
      exact am_return dX4_readYarn_111 rfl ⟨_, Eq.trans (if_neg c1) (bnd_eq e59 (bnd_eq e68 (bnd_eq e74 (bnd_eq e80 (bnd_eq e86 (Eq.trans (if_pos c88) (bnd_eq e98 (bnd_eq e106 (rfl))))))))), rfl, w107⟩

theorem dX4_readBox_0 : decode cX4_readBox 0 = .ok (.aload_n 0, 1) := by decide +kernel
theorem dX4_readBox_1 : decode cX4_readBox 1 = .ok (.aload_n 0, 1) := by decide +kernel
theorem dX4_readBox_2 : decode cX4_readBox 2 = .ok (.getfield 39, 3) := by decide +kernel
theorem dX4_readBox_5 : decode cX4_readBox 5 = .ok (.iconst 3, 1) := by decide +kernel
theorem dX4_readBox_6 : decode cX4_readBox 6 = .ok (.invokevirtual 102, 3) := by decide +kernel
theorem dX4_readBox_9 : decode cX4_readBox 9 = .ok (.aload_n 0, 1) := by decide +kernel
theorem dX4_readBox_10 : decode cX4_readBox 10 = .ok (.iconst 1, 1) := by decide +kernel
theorem dX4_readBox_11 : decode cX4_readBox 11 = .ok (.putfield 39, 3) := by decide +kernel
theorem dX4_readBox_14 : decode cX4_readBox 14 = .ok (.aload_n 0, 1) := by decide +kernel
theorem dX4_readBox_15 : decode cX4_readBox 15 = .ok (.getfield 18, 3) := by decide +kernel
theorem dX4_readBox_18 : decode cX4_readBox 18 = .ok (.aload_n 0, 1) := by decide +kernel
theorem dX4_readBox_19 : decode cX4_readBox 19 = .ok (.iconst 1, 1) := by decide +kernel
theorem dX4_readBox_20 : decode cX4_readBox 20 = .ok (.bipush 6, 2) := by decide +kernel
theorem dX4_readBox_22 : decode cX4_readBox 22 = .ok (.invokevirtual 106, 3) := by decide +kernel
theorem dX4_readBox_25 : decode cX4_readBox 25 = .ok (.putfield 122, 3) := by decide +kernel
theorem dX4_readBox_28 : decode cX4_readBox 28 = .ok (.aload_n 0, 1) := by decide +kernel
theorem dX4_readBox_29 : decode cX4_readBox 29 = .ok (.invokevirtual 116, 3) := by decide +kernel
theorem dX4_readBox_32 : decode cX4_readBox 32 = .ok (.return_, 1) := by decide +kernel
def fX4_readBox (w : Wd)  : Wd := (bnd (fX4_startStatement w (w.1 10) 3) (fun r4 => (bnd (fX4_readNumber (wS r4 10 1) 1 6) (fun r11 => (bnd (fX4_endStatement (wP r11.2 0 (upS (r11.2.2.2.1 0) 6 r11.1)) ) (fun r18 => r18))))))
set_option maxRecDepth 20000 in
theorem ctX4_readBox {l : Launch} {G : GM} {K : Nat → Option va_E} {h : List va_E} {w : Wd} (hw : HW G K h w)  : Ct l G mX4_readBox 3 0 0 [.ref (gz G + 1)] h (fun v h1 => ∃ r, (fX4_readBox w ) = r ∧ v = none ∧ HW G K h1 r) := by
  show Tr l G mX4_readBox 3 0 0 0 [(0, .ref (gz G + 1))] [] h _
  refine am_aload_n dX4_readBox_0 0 rfl ?_
  refine am_aload_n dX4_readBox_1 0 rfl ?_
  refine am_get (v := .int (w.1 10)) dX4_readBox_2 kGX4_39 (hwc1 (w := w) hw) rfl ?_
  refine am_iconst (v := 3) dX4_readBox_5 (by decide) ?_
  refine am_callV (As := [.int (w.1 10), .int 3]) (rest := []) dX4_readBox_6 kMX4_102 rfl (hwc1 (w := w) hw) rfl rfl (Nat.le_of_ble_eq_true rfl) (d2 := 2) (by decide) (k2 := 0) (Nat.zero_le _) (u2 := 0) (Nat.zero_le _) (Nat.le_of_ble_eq_true rfl) (ctX4_startStatement (w := w) hw (w.1 10) 3) (fun v1 h2 q3 => ?_)
  obtain ⟨r4, e5, rfl, w6⟩ := q3
  refine am_aload_n dX4_readBox_9 0 rfl ?_
  refine am_iconst (v := 1) dX4_readBox_10 (by decide) ?_
  refine am_put dX4_readBox_11 kFX4_39 (hwc1 (w := r4) w6) (Nat.le_of_ble_eq_true rfl) rfl rfl ?_
  have w7 := hwS10 w6 1
  refine am_aload_n dX4_readBox_14 0 rfl ?_
  refine am_get (v := .ref (gz G + 3)) dX4_readBox_15 kGX4_18 (hwc1 (w := (wS r4 10 1)) w7) rfl ?_
  refine am_aload_n dX4_readBox_18 0 rfl ?_
  refine am_iconst (v := 1) dX4_readBox_19 (by decide) ?_
  refine am_bipush (v := 6) dX4_readBox_20 (by decide) ?_
  refine am_callV (As := [.int 1, .int 6]) (rest := [.ref (gz G + 3)]) dX4_readBox_22 kMX4_106 rfl (hwc1 (w := (wS r4 10 1)) w7) rfl rfl (Nat.le_of_ble_eq_true rfl) (d2 := 2) (by decide) (k2 := 0) (Nat.zero_le _) (u2 := 0) (Nat.zero_le _) (Nat.le_of_ble_eq_true rfl) (ctX4_readNumber (w := (wS r4 10 1)) w7 1 6) (fun v8 h9 q10 => ?_)
  obtain ⟨r11, e12, rfl, w13⟩ := q10
  refine am_put dX4_readBox_25 kFX4_122 (pl_0 (p := (r11.2.2.2.1 0)) (hwP0 (w := r11.2) w13)) (Nat.le_of_ble_eq_true rfl) rfl rfl ?_
  have w14 := hwPu w13 (i := 0) (by decide) (p := (upS (r11.2.2.2.1 0) 6 r11.1)) (pl_s6 (hwP0 (w := r11.2) w13) r11.1) (Fr.set Fr.rf (a := 3) (S := fun q => pb 0 ≤ q ∧ q < pb 0 + 16) (by decide))
  refine am_aload_n dX4_readBox_28 0 rfl ?_
  refine am_callV (As := []) (rest := []) dX4_readBox_29 kMX4_116 rfl (hwc1 (w := (wP r11.2 0 (upS (r11.2.2.2.1 0) 6 r11.1))) w14) rfl rfl (Nat.le_of_ble_eq_true rfl) (d2 := 2) (by decide) (k2 := 0) (Nat.zero_le _) (u2 := 0) (Nat.zero_le _) (Nat.le_of_ble_eq_true rfl) (ctX4_endStatement (w := (wP r11.2 0 (upS (r11.2.2.2.1 0) 6 r11.1))) w14 ) (fun v15 h16 q17 => ?_)
  obtain ⟨r18, e19, rfl, w20⟩ := q17
  exact am_return dX4_readBox_32 rfl ⟨_, bnd_eq e5 (bnd_eq e12 (bnd_eq e19 (rfl))), rfl, w20⟩

theorem dX4_readSteam_0 : decode cX4_readSteam 0 = .ok (.aload_n 0, 1) := by decide +kernel
theorem dX4_readSteam_1 : decode cX4_readSteam 1 = .ok (.aload_n 0, 1) := by decide +kernel
theorem dX4_readSteam_2 : decode cX4_readSteam 2 = .ok (.getfield 36, 3) := by decide +kernel
theorem dX4_readSteam_5 : decode cX4_readSteam 5 = .ok (.iconst 3, 1) := by decide +kernel
theorem dX4_readSteam_6 : decode cX4_readSteam 6 = .ok (.invokevirtual 102, 3) := by decide +kernel
theorem dX4_readSteam_9 : decode cX4_readSteam 9 = .ok (.aload_n 0, 1) := by decide +kernel
theorem dX4_readSteam_10 : decode cX4_readSteam 10 = .ok (.iconst 1, 1) := by decide +kernel
theorem dX4_readSteam_11 : decode cX4_readSteam 11 = .ok (.putfield 36, 3) := by decide +kernel
theorem dX4_readSteam_14 : decode cX4_readSteam 14 = .ok (.aload_n 0, 1) := by decide +kernel
theorem dX4_readSteam_15 : decode cX4_readSteam 15 = .ok (.getfield 18, 3) := by decide +kernel
theorem dX4_readSteam_18 : decode cX4_readSteam 18 = .ok (.aload_n 0, 1) := by decide +kernel
theorem dX4_readSteam_19 : decode cX4_readSteam 19 = .ok (.iconst 0, 1) := by decide +kernel
theorem dX4_readSteam_20 : decode cX4_readSteam 20 = .ok (.bipush 100, 2) := by decide +kernel
theorem dX4_readSteam_22 : decode cX4_readSteam 22 = .ok (.invokevirtual 106, 3) := by decide +kernel
theorem dX4_readSteam_25 : decode cX4_readSteam 25 = .ok (.putfield 119, 3) := by decide +kernel
theorem dX4_readSteam_28 : decode cX4_readSteam 28 = .ok (.aload_n 0, 1) := by decide +kernel
theorem dX4_readSteam_29 : decode cX4_readSteam 29 = .ok (.invokevirtual 116, 3) := by decide +kernel
theorem dX4_readSteam_32 : decode cX4_readSteam 32 = .ok (.return_, 1) := by decide +kernel
def fX4_readSteam (w : Wd)  : Wd := (bnd (fX4_startStatement w (w.1 9) 3) (fun r4 => (bnd (fX4_readNumber (wS r4 9 1) 0 100) (fun r11 => (bnd (fX4_endStatement (wP r11.2 0 (upS (r11.2.2.2.1 0) 5 r11.1)) ) (fun r18 => r18))))))
set_option maxRecDepth 20000 in
theorem ctX4_readSteam {l : Launch} {G : GM} {K : Nat → Option va_E} {h : List va_E} {w : Wd} (hw : HW G K h w)  : Ct l G mX4_readSteam 3 0 0 [.ref (gz G + 1)] h (fun v h1 => ∃ r, (fX4_readSteam w ) = r ∧ v = none ∧ HW G K h1 r) := by
  show Tr l G mX4_readSteam 3 0 0 0 [(0, .ref (gz G + 1))] [] h _
  refine am_aload_n dX4_readSteam_0 0 rfl ?_
  refine am_aload_n dX4_readSteam_1 0 rfl ?_
  refine am_get (v := .int (w.1 9)) dX4_readSteam_2 kGX4_36 (hwc1 (w := w) hw) rfl ?_
  refine am_iconst (v := 3) dX4_readSteam_5 (by decide) ?_
  refine am_callV (As := [.int (w.1 9), .int 3]) (rest := []) dX4_readSteam_6 kMX4_102 rfl (hwc1 (w := w) hw) rfl rfl (Nat.le_of_ble_eq_true rfl) (d2 := 2) (by decide) (k2 := 0) (Nat.zero_le _) (u2 := 0) (Nat.zero_le _) (Nat.le_of_ble_eq_true rfl) (ctX4_startStatement (w := w) hw (w.1 9) 3) (fun v1 h2 q3 => ?_)
  obtain ⟨r4, e5, rfl, w6⟩ := q3
  refine am_aload_n dX4_readSteam_9 0 rfl ?_
  refine am_iconst (v := 1) dX4_readSteam_10 (by decide) ?_
  refine am_put dX4_readSteam_11 kFX4_36 (hwc1 (w := r4) w6) (Nat.le_of_ble_eq_true rfl) rfl rfl ?_
  have w7 := hwS9 w6 1
  refine am_aload_n dX4_readSteam_14 0 rfl ?_
  refine am_get (v := .ref (gz G + 3)) dX4_readSteam_15 kGX4_18 (hwc1 (w := (wS r4 9 1)) w7) rfl ?_
  refine am_aload_n dX4_readSteam_18 0 rfl ?_
  refine am_iconst (v := 0) dX4_readSteam_19 (by decide) ?_
  refine am_bipush (v := 100) dX4_readSteam_20 (by decide) ?_
  refine am_callV (As := [.int 0, .int 100]) (rest := [.ref (gz G + 3)]) dX4_readSteam_22 kMX4_106 rfl (hwc1 (w := (wS r4 9 1)) w7) rfl rfl (Nat.le_of_ble_eq_true rfl) (d2 := 2) (by decide) (k2 := 0) (Nat.zero_le _) (u2 := 0) (Nat.zero_le _) (Nat.le_of_ble_eq_true rfl) (ctX4_readNumber (w := (wS r4 9 1)) w7 0 100) (fun v8 h9 q10 => ?_)
  obtain ⟨r11, e12, rfl, w13⟩ := q10
  refine am_put dX4_readSteam_25 kFX4_119 (pl_0 (p := (r11.2.2.2.1 0)) (hwP0 (w := r11.2) w13)) (Nat.le_of_ble_eq_true rfl) rfl rfl ?_
  have w14 := hwPu w13 (i := 0) (by decide) (p := (upS (r11.2.2.2.1 0) 5 r11.1)) (pl_s5 (hwP0 (w := r11.2) w13) r11.1) (Fr.set Fr.rf (a := 3) (S := fun q => pb 0 ≤ q ∧ q < pb 0 + 16) (by decide))
  refine am_aload_n dX4_readSteam_28 0 rfl ?_
  refine am_callV (As := []) (rest := []) dX4_readSteam_29 kMX4_116 rfl (hwc1 (w := (wP r11.2 0 (upS (r11.2.2.2.1 0) 5 r11.1))) w14) rfl rfl (Nat.le_of_ble_eq_true rfl) (d2 := 2) (by decide) (k2 := 0) (Nat.zero_le _) (u2 := 0) (Nat.zero_le _) (Nat.le_of_ble_eq_true rfl) (ctX4_endStatement (w := (wP r11.2 0 (upS (r11.2.2.2.1 0) 5 r11.1))) w14 ) (fun v15 h16 q17 => ?_)
  obtain ⟨r18, e19, rfl, w20⟩ := q17
  exact am_return dX4_readSteam_32 rfl ⟨_, bnd_eq e5 (bnd_eq e12 (bnd_eq e19 (rfl))), rfl, w20⟩

theorem dX4_readTolerance_0 : decode cX4_readTolerance 0 = .ok (.aload_n 0, 1) := by decide +kernel
theorem dX4_readTolerance_1 : decode cX4_readTolerance 1 = .ok (.aload_n 0, 1) := by decide +kernel
theorem dX4_readTolerance_2 : decode cX4_readTolerance 2 = .ok (.getfield 32, 3) := by decide +kernel
theorem dX4_readTolerance_5 : decode cX4_readTolerance 5 = .ok (.iconst 3, 1) := by decide +kernel
theorem dX4_readTolerance_6 : decode cX4_readTolerance 6 = .ok (.invokevirtual 102, 3) := by decide +kernel
theorem dX4_readTolerance_9 : decode cX4_readTolerance 9 = .ok (.aload_n 0, 1) := by decide +kernel
theorem dX4_readTolerance_10 : decode cX4_readTolerance 10 = .ok (.iconst 1, 1) := by decide +kernel
theorem dX4_readTolerance_11 : decode cX4_readTolerance 11 = .ok (.putfield 32, 3) := by decide +kernel
theorem dX4_readTolerance_14 : decode cX4_readTolerance 14 = .ok (.aload_n 0, 1) := by decide +kernel
theorem dX4_readTolerance_15 : decode cX4_readTolerance 15 = .ok (.getfield 18, 3) := by decide +kernel
theorem dX4_readTolerance_18 : decode cX4_readTolerance 18 = .ok (.aload_n 0, 1) := by decide +kernel
theorem dX4_readTolerance_19 : decode cX4_readTolerance 19 = .ok (.iconst 0, 1) := by decide +kernel
theorem dX4_readTolerance_20 : decode cX4_readTolerance 20 = .ok (.sipush 500, 3) := by decide +kernel
theorem dX4_readTolerance_23 : decode cX4_readTolerance 23 = .ok (.invokevirtual 106, 3) := by decide +kernel
theorem dX4_readTolerance_26 : decode cX4_readTolerance 26 = .ok (.putfield 110, 3) := by decide +kernel
theorem dX4_readTolerance_29 : decode cX4_readTolerance 29 = .ok (.aload_n 0, 1) := by decide +kernel
theorem dX4_readTolerance_30 : decode cX4_readTolerance 30 = .ok (.getfield 18, 3) := by decide +kernel
theorem dX4_readTolerance_33 : decode cX4_readTolerance 33 = .ok (.aload_n 0, 1) := by decide +kernel
theorem dX4_readTolerance_34 : decode cX4_readTolerance 34 = .ok (.iconst 0, 1) := by decide +kernel
theorem dX4_readTolerance_35 : decode cX4_readTolerance 35 = .ok (.sipush 255, 3) := by decide +kernel
theorem dX4_readTolerance_38 : decode cX4_readTolerance 38 = .ok (.invokevirtual 106, 3) := by decide +kernel
theorem dX4_readTolerance_41 : decode cX4_readTolerance 41 = .ok (.putfield 113, 3) := by decide +kernel
theorem dX4_readTolerance_44 : decode cX4_readTolerance 44 = .ok (.aload_n 0, 1) := by decide +kernel
theorem dX4_readTolerance_45 : decode cX4_readTolerance 45 = .ok (.invokevirtual 116, 3) := by decide +kernel
theorem dX4_readTolerance_48 : decode cX4_readTolerance 48 = .ok (.return_, 1) := by decide +kernel
def fX4_readTolerance (w : Wd)  : Wd := (bnd (fX4_startStatement w (w.1 8) 3) (fun r4 => (bnd (fX4_readNumber (wS r4 8 1) 0 500) (fun r11 => (bnd (fX4_readNumber (wP r11.2 0 (upS (r11.2.2.2.1 0) 3 r11.1)) 0 255) (fun r18 => (bnd (fX4_endStatement (wP r18.2 0 (upS (r18.2.2.2.1 0) 4 r18.1)) ) (fun r25 => r25))))))))
set_option maxRecDepth 20000 in
theorem ctX4_readTolerance {l : Launch} {G : GM} {K : Nat → Option va_E} {h : List va_E} {w : Wd} (hw : HW G K h w)  : Ct l G mX4_readTolerance 3 0 0 [.ref (gz G + 1)] h (fun v h1 => ∃ r, (fX4_readTolerance w ) = r ∧ v = none ∧ HW G K h1 r) := by
  show Tr l G mX4_readTolerance 3 0 0 0 [(0, .ref (gz G + 1))] [] h _
  refine am_aload_n dX4_readTolerance_0 0 rfl ?_
  refine am_aload_n dX4_readTolerance_1 0 rfl ?_
  refine am_get (v := .int (w.1 8)) dX4_readTolerance_2 kGX4_32 (hwc1 (w := w) hw) rfl ?_
  refine am_iconst (v := 3) dX4_readTolerance_5 (by decide) ?_
  refine am_callV (As := [.int (w.1 8), .int 3]) (rest := []) dX4_readTolerance_6 kMX4_102 rfl (hwc1 (w := w) hw) rfl rfl (Nat.le_of_ble_eq_true rfl) (d2 := 2) (by decide) (k2 := 0) (Nat.zero_le _) (u2 := 0) (Nat.zero_le _) (Nat.le_of_ble_eq_true rfl) (ctX4_startStatement (w := w) hw (w.1 8) 3) (fun v1 h2 q3 => ?_)
  obtain ⟨r4, e5, rfl, w6⟩ := q3
  refine am_aload_n dX4_readTolerance_9 0 rfl ?_
  refine am_iconst (v := 1) dX4_readTolerance_10 (by decide) ?_
  refine am_put dX4_readTolerance_11 kFX4_32 (hwc1 (w := r4) w6) (Nat.le_of_ble_eq_true rfl) rfl rfl ?_
  have w7 := hwS8 w6 1
  refine am_aload_n dX4_readTolerance_14 0 rfl ?_
  refine am_get (v := .ref (gz G + 3)) dX4_readTolerance_15 kGX4_18 (hwc1 (w := (wS r4 8 1)) w7) rfl ?_
  refine am_aload_n dX4_readTolerance_18 0 rfl ?_
  refine am_iconst (v := 0) dX4_readTolerance_19 (by decide) ?_
  refine am_sipush (v := 500) dX4_readTolerance_20 (by decide) ?_
  refine am_callV (As := [.int 0, .int 500]) (rest := [.ref (gz G + 3)]) dX4_readTolerance_23 kMX4_106 rfl (hwc1 (w := (wS r4 8 1)) w7) rfl rfl (Nat.le_of_ble_eq_true rfl) (d2 := 2) (by decide) (k2 := 0) (Nat.zero_le _) (u2 := 0) (Nat.zero_le _) (Nat.le_of_ble_eq_true rfl) (ctX4_readNumber (w := (wS r4 8 1)) w7 0 500) (fun v8 h9 q10 => ?_)
  obtain ⟨r11, e12, rfl, w13⟩ := q10
  refine am_put dX4_readTolerance_26 kFX4_110 (pl_0 (p := (r11.2.2.2.1 0)) (hwP0 (w := r11.2) w13)) (Nat.le_of_ble_eq_true rfl) rfl rfl ?_
  have w14 := hwPu w13 (i := 0) (by decide) (p := (upS (r11.2.2.2.1 0) 3 r11.1)) (pl_s3 (hwP0 (w := r11.2) w13) r11.1) (Fr.set Fr.rf (a := 3) (S := fun q => pb 0 ≤ q ∧ q < pb 0 + 16) (by decide))
  refine am_aload_n dX4_readTolerance_29 0 rfl ?_
  refine am_get (v := .ref (gz G + 3)) dX4_readTolerance_30 kGX4_18 (hwc1 (w := (wP r11.2 0 (upS (r11.2.2.2.1 0) 3 r11.1))) w14) rfl ?_
  refine am_aload_n dX4_readTolerance_33 0 rfl ?_
  refine am_iconst (v := 0) dX4_readTolerance_34 (by decide) ?_
  refine am_sipush (v := 255) dX4_readTolerance_35 (by decide) ?_
  refine am_callV (As := [.int 0, .int 255]) (rest := [.ref (gz G + 3)]) dX4_readTolerance_38 kMX4_106 rfl (hwc1 (w := (wP r11.2 0 (upS (r11.2.2.2.1 0) 3 r11.1))) w14) rfl rfl (Nat.le_of_ble_eq_true rfl) (d2 := 2) (by decide) (k2 := 0) (Nat.zero_le _) (u2 := 0) (Nat.zero_le _) (Nat.le_of_ble_eq_true rfl) (ctX4_readNumber (w := (wP r11.2 0 (upS (r11.2.2.2.1 0) 3 r11.1))) w14 0 255) (fun v15 h16 q17 => ?_)
  obtain ⟨r18, e19, rfl, w20⟩ := q17
  refine am_put dX4_readTolerance_41 kFX4_113 (pl_0 (p := (r18.2.2.2.1 0)) (hwP0 (w := r18.2) w20)) (Nat.le_of_ble_eq_true rfl) rfl rfl ?_
  have w21 := hwPu w20 (i := 0) (by decide) (p := (upS (r18.2.2.2.1 0) 4 r18.1)) (pl_s4 (hwP0 (w := r18.2) w20) r18.1) (Fr.set Fr.rf (a := 3) (S := fun q => pb 0 ≤ q ∧ q < pb 0 + 16) (by decide))
  refine am_aload_n dX4_readTolerance_44 0 rfl ?_
  refine am_callV (As := []) (rest := []) dX4_readTolerance_45 kMX4_116 rfl (hwc1 (w := (wP r18.2 0 (upS (r18.2.2.2.1 0) 4 r18.1))) w21) rfl rfl (Nat.le_of_ble_eq_true rfl) (d2 := 2) (by decide) (k2 := 0) (Nat.zero_le _) (u2 := 0) (Nat.zero_le _) (Nat.le_of_ble_eq_true rfl) (ctX4_endStatement (w := (wP r18.2 0 (upS (r18.2.2.2.1 0) 4 r18.1))) w21 ) (fun v22 h23 q24 => ?_)
  obtain ⟨r25, e26, rfl, w27⟩ := q24
  exact am_return dX4_readTolerance_48 rfl ⟨_, bnd_eq e5 (bnd_eq e12 (bnd_eq e19 (bnd_eq e26 (rfl)))), rfl, w27⟩

theorem dX4_read_0 : decode cX4_read 0 = .ok (.aload_n 0, 1) := by decide +kernel
theorem dX4_read_1 : decode cX4_read 1 = .ok (.getfield 18, 3) := by decide +kernel
theorem dX4_read_4 : decode cX4_read 4 = .ok (.invokevirtual 26, 3) := by decide +kernel
theorem dX4_read_7 : decode cX4_read 7 = .ok (.aload_n 0, 1) := by decide +kernel
theorem dX4_read_8 : decode cX4_read 8 = .ok (.iconst 0, 1) := by decide +kernel
theorem dX4_read_9 : decode cX4_read 9 = .ok (.putfield 29, 3) := by decide +kernel
theorem dX4_read_12 : decode cX4_read 12 = .ok (.aload_n 0, 1) := by decide +kernel
theorem dX4_read_13 : decode cX4_read 13 = .ok (.iconst (-1), 1) := by decide +kernel
theorem dX4_read_14 : decode cX4_read 14 = .ok (.putfield 22, 3) := by decide +kernel
theorem dX4_read_17 : decode cX4_read 17 = .ok (.aload_n 0, 1) := by decide +kernel
theorem dX4_read_18 : decode cX4_read 18 = .ok (.iconst 0, 1) := by decide +kernel
theorem dX4_read_19 : decode cX4_read 19 = .ok (.putfield 32, 3) := by decide +kernel
theorem dX4_read_22 : decode cX4_read 22 = .ok (.aload_n 0, 1) := by decide +kernel
theorem dX4_read_23 : decode cX4_read 23 = .ok (.iconst 0, 1) := by decide +kernel
theorem dX4_read_24 : decode cX4_read 24 = .ok (.putfield 36, 3) := by decide +kernel
theorem dX4_read_27 : decode cX4_read 27 = .ok (.aload_n 0, 1) := by decide +kernel
theorem dX4_read_28 : decode cX4_read 28 = .ok (.iconst 0, 1) := by decide +kernel
theorem dX4_read_29 : decode cX4_read 29 = .ok (.putfield 39, 3) := by decide +kernel
theorem dX4_read_32 : decode cX4_read 32 = .ok (.aload_n 0, 1) := by decide +kernel
theorem dX4_read_33 : decode cX4_read 33 = .ok (.iload_n 1, 1) := by decide +kernel
theorem dX4_read_34 : decode cX4_read 34 = .ok (.putfield 42, 3) := by decide +kernel
theorem dX4_read_37 : decode cX4_read 37 = .ok (.aload_n 0, 1) := by decide +kernel
theorem dX4_read_38 : decode cX4_read 38 = .ok (.iconst 0, 1) := by decide +kernel
theorem dX4_read_39 : decode cX4_read 39 = .ok (.putfield 45, 3) := by decide +kernel
theorem dX4_read_42 : decode cX4_read 42 = .ok (.aload_n 0, 1) := by decide +kernel
theorem dX4_read_43 : decode cX4_read 43 = .ok (.invokevirtual 48, 3) := by decide +kernel
theorem dX4_read_46 : decode cX4_read 46 = .ok (.iconst 0, 1) := by decide +kernel
theorem dX4_read_47 : decode cX4_read 47 = .ok (.istore_n 2, 1) := by decide +kernel
theorem dX4_read_48 : decode cX4_read 48 = .ok (.iload_n 2, 1) := by decide +kernel
theorem dX4_read_49 : decode cX4_read 49 = .ok (.aload_n 0, 1) := by decide +kernel
theorem dX4_read_50 : decode cX4_read 50 = .ok (.getfield 42, 3) := by decide +kernel
theorem dX4_read_53 : decode cX4_read 53 = .ok (.if_icmp .ge 168, 3) := by decide +kernel
theorem dX4_read_56 : decode cX4_read 56 = .ok (.aload_n 0, 1) := by decide +kernel
theorem dX4_read_57 : decode cX4_read 57 = .ok (.getfield 51, 3) := by decide +kernel
theorem dX4_read_60 : decode cX4_read 60 = .ok (.ifCond .eq 161, 3) := by decide +kernel
theorem dX4_read_63 : decode cX4_read 63 = .ok (.aload_n 0, 1) := by decide +kernel
theorem dX4_read_64 : decode cX4_read 64 = .ok (.getfield 29, 3) := by decide +kernel
theorem dX4_read_67 : decode cX4_read 67 = .ok (.ifCond .ne 154, 3) := by decide +kernel
theorem dX4_read_70 : decode cX4_read 70 = .ok (.aload_n 0, 1) := by decide +kernel
theorem dX4_read_71 : decode cX4_read 71 = .ok (.ldc 54, 2) := by decide +kernel
theorem dX4_read_73 : decode cX4_read 73 = .ok (.invokevirtual 56, 3) := by decide +kernel
theorem dX4_read_76 : decode cX4_read 76 = .ok (.ifCond .eq 10, 3) := by decide +kernel
theorem dX4_read_79 : decode cX4_read 79 = .ok (.aload_n 0, 1) := by decide +kernel
theorem dX4_read_80 : decode cX4_read 80 = .ok (.invokevirtual 60, 3) := by decide +kernel
theorem dX4_read_83 : decode cX4_read 83 = .ok (.goto 132, 3) := by decide +kernel
theorem dX4_read_86 : decode cX4_read 86 = .ok (.aload_n 0, 1) := by decide +kernel
theorem dX4_read_87 : decode cX4_read 87 = .ok (.ldc 63, 2) := by decide +kernel
theorem dX4_read_89 : decode cX4_read 89 = .ok (.invokevirtual 56, 3) := by decide +kernel
theorem dX4_read_92 : decode cX4_read 92 = .ok (.ifCond .eq 10, 3) := by decide +kernel
theorem dX4_read_95 : decode cX4_read 95 = .ok (.aload_n 0, 1) := by decide +kernel
theorem dX4_read_96 : decode cX4_read 96 = .ok (.invokevirtual 65, 3) := by decide +kernel
theorem dX4_read_99 : decode cX4_read 99 = .ok (.goto 116, 3) := by decide +kernel
theorem dX4_read_102 : decode cX4_read 102 = .ok (.aload_n 0, 1) := by decide +kernel
theorem dX4_read_103 : decode cX4_read 103 = .ok (.ldc 68, 2) := by decide +kernel
theorem dX4_read_105 : decode cX4_read 105 = .ok (.invokevirtual 56, 3) := by decide +kernel
theorem dX4_read_108 : decode cX4_read 108 = .ok (.ifCond .eq 10, 3) := by decide +kernel
theorem dX4_read_111 : decode cX4_read 111 = .ok (.aload_n 0, 1) := by decide +kernel
theorem dX4_read_112 : decode cX4_read 112 = .ok (.invokevirtual 70, 3) := by decide +kernel
theorem dX4_read_115 : decode cX4_read 115 = .ok (.goto 100, 3) := by decide +kernel
theorem dX4_read_118 : decode cX4_read 118 = .ok (.aload_n 0, 1) := by decide +kernel
theorem dX4_read_119 : decode cX4_read 119 = .ok (.ldc 73, 2) := by decide +kernel
theorem dX4_read_121 : decode cX4_read 121 = .ok (.invokevirtual 56, 3) := by decide +kernel
theorem dX4_read_124 : decode cX4_read 124 = .ok (.ifCond .eq 17, 3) := by decide +kernel
theorem dX4_read_127 : decode cX4_read 127 = .ok (.aload_n 0, 1) := by decide +kernel
theorem dX4_read_128 : decode cX4_read 128 = .ok (.aload_n 0, 1) := by decide +kernel
theorem dX4_read_129 : decode cX4_read 129 = .ok (.getfield 18, 3) := by decide +kernel
theorem dX4_read_132 : decode cX4_read 132 = .ok (.getfield 75, 3) := by decide +kernel
theorem dX4_read_135 : decode cX4_read 135 = .ok (.invokevirtual 79, 3) := by decide +kernel
theorem dX4_read_138 : decode cX4_read 138 = .ok (.goto 77, 3) := by decide +kernel
theorem dX4_read_141 : decode cX4_read 141 = .ok (.aload_n 0, 1) := by decide +kernel
theorem dX4_read_142 : decode cX4_read 142 = .ok (.ldc 83, 2) := by decide +kernel
theorem dX4_read_144 : decode cX4_read 144 = .ok (.invokevirtual 56, 3) := by decide +kernel
theorem dX4_read_147 : decode cX4_read 147 = .ok (.ifCond .eq 17, 3) := by decide +kernel
theorem dX4_read_150 : decode cX4_read 150 = .ok (.aload_n 0, 1) := by decide +kernel
theorem dX4_read_151 : decode cX4_read 151 = .ok (.aload_n 0, 1) := by decide +kernel
theorem dX4_read_152 : decode cX4_read 152 = .ok (.getfield 18, 3) := by decide +kernel
theorem dX4_read_155 : decode cX4_read 155 = .ok (.getfield 75, 3) := by decide +kernel
theorem dX4_read_158 : decode cX4_read 158 = .ok (.invokevirtual 85, 3) := by decide +kernel
theorem dX4_read_161 : decode cX4_read 161 = .ok (.goto 54, 3) := by decide +kernel
theorem dX4_read_164 : decode cX4_read 164 = .ok (.aload_n 0, 1) := by decide +kernel
theorem dX4_read_165 : decode cX4_read 165 = .ok (.ldc 88, 2) := by decide +kernel
theorem dX4_read_167 : decode cX4_read 167 = .ok (.invokevirtual 56, 3) := by decide +kernel
theorem dX4_read_170 : decode cX4_read 170 = .ok (.ifCond .eq 17, 3) := by decide +kernel
theorem dX4_read_173 : decode cX4_read 173 = .ok (.aload_n 0, 1) := by decide +kernel
theorem dX4_read_174 : decode cX4_read 174 = .ok (.aload_n 0, 1) := by decide +kernel
theorem dX4_read_175 : decode cX4_read 175 = .ok (.getfield 18, 3) := by decide +kernel
theorem dX4_read_178 : decode cX4_read 178 = .ok (.getfield 75, 3) := by decide +kernel
theorem dX4_read_181 : decode cX4_read 181 = .ok (.invokevirtual 90, 3) := by decide +kernel
theorem dX4_read_184 : decode cX4_read 184 = .ok (.goto 31, 3) := by decide +kernel
theorem dX4_read_187 : decode cX4_read 187 = .ok (.aload_n 0, 1) := by decide +kernel
theorem dX4_read_188 : decode cX4_read 188 = .ok (.ldc 93, 2) := by decide +kernel
theorem dX4_read_190 : decode cX4_read 190 = .ok (.invokevirtual 56, 3) := by decide +kernel
theorem dX4_read_193 : decode cX4_read 193 = .ok (.ifCond .eq 17, 3) := by decide +kernel
theorem dX4_read_196 : decode cX4_read 196 = .ok (.aload_n 0, 1) := by decide +kernel
theorem dX4_read_197 : decode cX4_read 197 = .ok (.aload_n 0, 1) := by decide +kernel
theorem dX4_read_198 : decode cX4_read 198 = .ok (.getfield 18, 3) := by decide +kernel
theorem dX4_read_201 : decode cX4_read 201 = .ok (.getfield 75, 3) := by decide +kernel
theorem dX4_read_204 : decode cX4_read 204 = .ok (.invokevirtual 95, 3) := by decide +kernel
theorem dX4_read_207 : decode cX4_read 207 = .ok (.goto 8, 3) := by decide +kernel
theorem dX4_read_210 : decode cX4_read 210 = .ok (.aload_n 0, 1) := by decide +kernel
theorem dX4_read_211 : decode cX4_read 211 = .ok (.iconst 1, 1) := by decide +kernel
theorem dX4_read_212 : decode cX4_read 212 = .ok (.invokevirtual 98, 3) := by decide +kernel
theorem dX4_read_215 : decode cX4_read 215 = .ok (.iinc 2 1, 3) := by decide +kernel
theorem dX4_read_218 : decode cX4_read 218 = .ok (.goto (-170), 3) := by decide +kernel
theorem dX4_read_221 : decode cX4_read 221 = .ok (.aload_n 0, 1) := by decide +kernel
theorem dX4_read_222 : decode cX4_read 222 = .ok (.getfield 29, 3) := by decide +kernel
theorem dX4_read_225 : decode cX4_read 225 = .ok (.ifCond .ne 7, 3) := by decide +kernel
theorem dX4_read_228 : decode cX4_read 228 = .ok (.iconst 1, 1) := by decide +kernel
theorem dX4_read_229 : decode cX4_read 229 = .ok (.goto 4, 3) := by decide +kernel
theorem dX4_read_232 : decode cX4_read 232 = .ok (.iconst 0, 1) := by decide +kernel
theorem dX4_read_233 : decode cX4_read 233 = .ok (.ireturn, 1) := by decide +kernel
def fX4_read_48 (z1 : Int32)  : Nat → Int32 → Wd → Int32 × Wd
  | 0, x2, y => (x2, y)
  | fu + 1, x2, y => (if (y.1 3) ≤ x2 then (x2, y) else (if (y.1 4) = 0 then (x2, y) else (if (y.1 1) = 0 then (if (fX4_spells y sq0) = 0 then (if (fX4_spells y sq1) = 0 then (if (fX4_spells y sq2) = 0 then (if (fX4_spells y sq3) = 0 then (if (fX4_spells y sq4) = 0 then (if (fX4_spells y sq5) = 0 then (if (fX4_spells y sq6) = 0 then (bnd (fX4_refuse y 1) (fun r56 => (fX4_read_48 z1   fu (x2 + 1) r56))) else (bnd (fX4_readPiece_6 y ) (fun r62 => (fX4_read_48 z1   fu (x2 + 1) r62)))) else (bnd (fX4_readSize_6 y ) (fun r68 => (fX4_read_48 z1   fu (x2 + 1) r68)))) else (bnd (fX4_readShape_6 y ) (fun r74 => (fX4_read_48 z1   fu (x2 + 1) r74)))) else (bnd (fX4_readYarn_6 y ) (fun r80 => (fX4_read_48 z1   fu (x2 + 1) r80)))) else (bnd (fX4_readBox y ) (fun r86 => (fX4_read_48 z1   fu (x2 + 1) r86)))) else (bnd (fX4_readSteam y ) (fun r92 => (fX4_read_48 z1   fu (x2 + 1) r92)))) else (bnd (fX4_readTolerance y ) (fun r98 => (fX4_read_48 z1   fu (x2 + 1) r98)))) else (x2, y))))
set_option maxRecDepth 20000 in
theorem wX4_read_48 {l : Launch} {G : GM} {K : Nat → Option va_E} (z1 : Int32)   {Q : Option Value → List va_E → Prop} : ∀ (fu : Nat) (x2 : Int32) (y : Wd) (iv : ivU 2147483647 x2 fu) {h : List va_E} (gy : HW G K h y) (kx : ∀ (h1 : List va_E) (r : Int32 × Wd), (fX4_read_48 z1   fu x2 y) = r → HW G K h1 r.2 → Tr l G mX4_read 8 0 0 221 [(2, .int r.1), (0, .ref (gz G + 1))] [] h1 Q), Tr l G mX4_read 8 0 0 48 [(2, .int x2), (0, .ref (gz G + 1))] [] h Q := by
  intro fu
  induction fu with
  | zero => intro x2 y iv; intros; exact absurd iv ivU_0
  | succ fu ih =>
    intro x2 y iv   h gy  kx
    refine am_iload_n dX4_read_48 0 rfl ?_
    refine am_aload_n dX4_read_49 1 rfl ?_
    refine am_get (v := .int (y.1 3)) dX4_read_50 kGX4_42 (hwc1 (w := y) gy) rfl ?_
    refine am_icmp_ge dX4_read_53 (by decide : ((53 : Nat) : Int) + (168) = ((221 : Nat) : Int)) (fun c22 => ?_) (fun c22 => ?_)
    · exact kx _ _ (Eq.trans (if_pos c22) (rfl)) gy 
    · refine am_aload_n dX4_read_56 1 rfl ?_
      refine am_get (v := .int (y.1 4)) dX4_read_57 kGX4_51 (hwc1 (w := y) gy) rfl ?_
      refine am_if_eq dX4_read_60 (by decide : ((60 : Nat) : Int) + (161) = ((221 : Nat) : Int)) (fun c23 => ?_) (fun c23 => ?_)
      · exact kx _ _ (Eq.trans (if_neg c22) (Eq.trans (if_pos c23) (rfl))) gy 
      · refine am_aload_n dX4_read_63 1 rfl ?_
        refine am_get (v := .int (y.1 1)) dX4_read_64 kGX4_29 (hwc1 (w := y) gy) rfl ?_
        refine am_if_ne dX4_read_67 (by decide : ((67 : Nat) : Int) + (154) = ((221 : Nat) : Int)) (fun c24 => ?_) (fun c24 => ?_)
        · exact kx _ _ (Eq.trans (if_neg c22) (Eq.trans (if_neg c23) (Eq.trans (if_neg c24) (rfl)))) gy 
        · refine am_aload_n dX4_read_70 1 rfl ?_
          refine am_ldcS (j := 0) dX4_read_71 rfl ?_
          refine am_callV (As := [.ref (gS G 0)]) (rest := []) dX4_read_73 kMX4_56 rfl (hwc1 (w := y) gy) rfl rfl (Nat.le_of_ble_eq_true rfl) (d2 := 4) (by decide) (k2 := 0) (Nat.zero_le _) (u2 := 0) (Nat.zero_le _) (Nat.le_of_ble_eq_true rfl) (ctX4_spells (w := y) gy (j := 0) (q := sq0) rfl) (fun v25 h26 q27 => ?_)
          obtain ⟨rfl, rfl⟩ := q27
          refine am_if_eq dX4_read_76 (by decide : ((76 : Nat) : Int) + (10) = ((86 : Nat) : Int)) (fun c28 => ?_) (fun c28 => ?_)
          · refine am_aload_n dX4_read_86 1 rfl ?_
            refine am_ldcS (j := 1) dX4_read_87 rfl ?_
            refine am_callV (As := [.ref (gS G 1)]) (rest := []) dX4_read_89 kMX4_56 rfl (hwc1 (w := y) gy) rfl rfl (Nat.le_of_ble_eq_true rfl) (d2 := 4) (by decide) (k2 := 0) (Nat.zero_le _) (u2 := 0) (Nat.zero_le _) (Nat.le_of_ble_eq_true rfl) (ctX4_spells (w := y) gy (j := 1) (q := sq1) rfl) (fun v29 h30 q31 => ?_)
            obtain ⟨rfl, rfl⟩ := q31
            refine am_if_eq dX4_read_92 (by decide : ((92 : Nat) : Int) + (10) = ((102 : Nat) : Int)) (fun c32 => ?_) (fun c32 => ?_)
            · refine am_aload_n dX4_read_102 1 rfl ?_
              refine am_ldcS (j := 2) dX4_read_103 rfl ?_
              refine am_callV (As := [.ref (gS G 2)]) (rest := []) dX4_read_105 kMX4_56 rfl (hwc1 (w := y) gy) rfl rfl (Nat.le_of_ble_eq_true rfl) (d2 := 4) (by decide) (k2 := 0) (Nat.zero_le _) (u2 := 0) (Nat.zero_le _) (Nat.le_of_ble_eq_true rfl) (ctX4_spells (w := y) gy (j := 2) (q := sq2) rfl) (fun v33 h34 q35 => ?_)
              obtain ⟨rfl, rfl⟩ := q35
              refine am_if_eq dX4_read_108 (by decide : ((108 : Nat) : Int) + (10) = ((118 : Nat) : Int)) (fun c36 => ?_) (fun c36 => ?_)
              · refine am_aload_n dX4_read_118 1 rfl ?_
                refine am_ldcS (j := 3) dX4_read_119 rfl ?_
                refine am_callV (As := [.ref (gS G 3)]) (rest := []) dX4_read_121 kMX4_56 rfl (hwc1 (w := y) gy) rfl rfl (Nat.le_of_ble_eq_true rfl) (d2 := 4) (by decide) (k2 := 0) (Nat.zero_le _) (u2 := 0) (Nat.zero_le _) (Nat.le_of_ble_eq_true rfl) (ctX4_spells (w := y) gy (j := 3) (q := sq3) rfl) (fun v37 h38 q39 => ?_)
                obtain ⟨rfl, rfl⟩ := q39
                refine am_if_eq dX4_read_124 (by decide : ((124 : Nat) : Int) + (17) = ((141 : Nat) : Int)) (fun c40 => ?_) (fun c40 => ?_)
                · refine am_aload_n dX4_read_141 1 rfl ?_
                  refine am_ldcS (j := 4) dX4_read_142 rfl ?_
                  refine am_callV (As := [.ref (gS G 4)]) (rest := []) dX4_read_144 kMX4_56 rfl (hwc1 (w := y) gy) rfl rfl (Nat.le_of_ble_eq_true rfl) (d2 := 4) (by decide) (k2 := 0) (Nat.zero_le _) (u2 := 0) (Nat.zero_le _) (Nat.le_of_ble_eq_true rfl) (ctX4_spells (w := y) gy (j := 4) (q := sq4) rfl) (fun v41 h42 q43 => ?_)
                  obtain ⟨rfl, rfl⟩ := q43
                  refine am_if_eq dX4_read_147 (by decide : ((147 : Nat) : Int) + (17) = ((164 : Nat) : Int)) (fun c44 => ?_) (fun c44 => ?_)
                  · refine am_aload_n dX4_read_164 1 rfl ?_
                    refine am_ldcS (j := 5) dX4_read_165 rfl ?_
                    refine am_callV (As := [.ref (gS G 5)]) (rest := []) dX4_read_167 kMX4_56 rfl (hwc1 (w := y) gy) rfl rfl (Nat.le_of_ble_eq_true rfl) (d2 := 4) (by decide) (k2 := 0) (Nat.zero_le _) (u2 := 0) (Nat.zero_le _) (Nat.le_of_ble_eq_true rfl) (ctX4_spells (w := y) gy (j := 5) (q := sq5) rfl) (fun v45 h46 q47 => ?_)
                    obtain ⟨rfl, rfl⟩ := q47
                    refine am_if_eq dX4_read_170 (by decide : ((170 : Nat) : Int) + (17) = ((187 : Nat) : Int)) (fun c48 => ?_) (fun c48 => ?_)
                    · refine am_aload_n dX4_read_187 1 rfl ?_
                      refine am_ldcS (j := 6) dX4_read_188 rfl ?_
                      refine am_callV (As := [.ref (gS G 6)]) (rest := []) dX4_read_190 kMX4_56 rfl (hwc1 (w := y) gy) rfl rfl (Nat.le_of_ble_eq_true rfl) (d2 := 4) (by decide) (k2 := 0) (Nat.zero_le _) (u2 := 0) (Nat.zero_le _) (Nat.le_of_ble_eq_true rfl) (ctX4_spells (w := y) gy (j := 6) (q := sq6) rfl) (fun v49 h50 q51 => ?_)
                      obtain ⟨rfl, rfl⟩ := q51
                      refine am_if_eq dX4_read_193 (by decide : ((193 : Nat) : Int) + (17) = ((210 : Nat) : Int)) (fun c52 => ?_) (fun c52 => ?_)
                      · refine am_aload_n dX4_read_210 1 rfl ?_
                        refine am_iconst (v := 1) dX4_read_211 (by decide) ?_
                        refine am_callV (As := [.int 1]) (rest := []) dX4_read_212 kMX4_98 rfl (hwc1 (w := y) gy) rfl rfl (Nat.le_of_ble_eq_true rfl) (d2 := 0) (by decide) (k2 := 0) (Nat.zero_le _) (u2 := 0) (Nat.zero_le _) (Nat.le_of_ble_eq_true rfl) (ctX4_refuse (w := y) gy 1) (fun v53 h54 q55 => ?_)
                        obtain ⟨r56, e57, rfl, w58⟩ := q55
                        refine am_iinc (v := (x2 + 1)) dX4_read_215 0 rfl rfl (by decide) (lv' := [(2, .int (x2 + 1)), (0, .ref (gz G + 1))]) rfl ?_
                        refine am_goto dX4_read_218 (by decide : ((218 : Nat) : Int) + (-170) = ((48 : Nat) : Int)) ?_
                        exact ih (x2 + 1) r56 (ivU_s (iv_top c22) iv) w58  (fun h1 r e => kx h1 r (Eq.trans (Eq.trans (if_neg c22) (Eq.trans (if_neg c23) (Eq.trans (if_pos c24) (Eq.trans (if_pos c28) (Eq.trans (if_pos c32) (Eq.trans (if_pos c36) (Eq.trans (if_pos c40) (Eq.trans (if_pos c44) (Eq.trans (if_pos c48) (Eq.trans (if_pos c52) (bnd_eq e57 (rfl)))))))))))) e))
                      · refine am_aload_n dX4_read_196 1 rfl ?_
                        refine am_aload_n dX4_read_197 1 rfl ?_
                        refine am_get (v := .ref (gz G + 3)) dX4_read_198 kGX4_18 (hwc1 (w := y) gy) rfl ?_
                        refine am_get (v := .ref (gz G + 4)) dX4_read_201 kGX4_75 (pl_0 (p := (y.2.2.1 0)) (hwP0 (w := y) gy)) rfl ?_
                        refine am_callV (As := [.ref (gz G + 4)]) (rest := []) dX4_read_204 kMX4_95 rfl (hwc1 (w := y) gy) rfl rfl (Nat.le_of_ble_eq_true rfl) (d2 := 7) (by decide) (k2 := 0) (Nat.zero_le _) (u2 := 0) (Nat.zero_le _) (Nat.le_of_ble_eq_true rfl) (ctX4_readPiece_6 (w := y) gy ) (fun v59 h60 q61 => ?_)
                        obtain ⟨r62, e63, rfl, w64⟩ := q61
                        refine am_goto dX4_read_207 (by decide : ((207 : Nat) : Int) + (8) = ((215 : Nat) : Int)) ?_
                        refine am_iinc (v := (x2 + 1)) dX4_read_215 0 rfl rfl (by decide) (lv' := [(2, .int (x2 + 1)), (0, .ref (gz G + 1))]) rfl ?_
                        refine am_goto dX4_read_218 (by decide : ((218 : Nat) : Int) + (-170) = ((48 : Nat) : Int)) ?_
                        exact ih (x2 + 1) r62 (ivU_s (iv_top c22) iv) w64  (fun h1 r e => kx h1 r (Eq.trans (Eq.trans (if_neg c22) (Eq.trans (if_neg c23) (Eq.trans (if_pos c24) (Eq.trans (if_pos c28) (Eq.trans (if_pos c32) (Eq.trans (if_pos c36) (Eq.trans (if_pos c40) (Eq.trans (if_pos c44) (Eq.trans (if_pos c48) (Eq.trans (if_neg c52) (bnd_eq e63 (rfl)))))))))))) e))
                    · refine am_aload_n dX4_read_173 1 rfl ?_
                      refine am_aload_n dX4_read_174 1 rfl ?_
                      refine am_get (v := .ref (gz G + 3)) dX4_read_175 kGX4_18 (hwc1 (w := y) gy) rfl ?_
                      refine am_get (v := .ref (gz G + 4)) dX4_read_178 kGX4_75 (pl_0 (p := (y.2.2.1 0)) (hwP0 (w := y) gy)) rfl ?_
                      refine am_callV (As := [.ref (gz G + 4)]) (rest := []) dX4_read_181 kMX4_90 rfl (hwc1 (w := y) gy) rfl rfl (Nat.le_of_ble_eq_true rfl) (d2 := 7) (by decide) (k2 := 0) (Nat.zero_le _) (u2 := 0) (Nat.zero_le _) (Nat.le_of_ble_eq_true rfl) (ctX4_readSize_6 (w := y) gy ) (fun v65 h66 q67 => ?_)
                      obtain ⟨r68, e69, rfl, w70⟩ := q67
                      refine am_goto dX4_read_184 (by decide : ((184 : Nat) : Int) + (31) = ((215 : Nat) : Int)) ?_
                      refine am_iinc (v := (x2 + 1)) dX4_read_215 0 rfl rfl (by decide) (lv' := [(2, .int (x2 + 1)), (0, .ref (gz G + 1))]) rfl ?_
                      refine am_goto dX4_read_218 (by decide : ((218 : Nat) : Int) + (-170) = ((48 : Nat) : Int)) ?_
                      exact ih (x2 + 1) r68 (ivU_s (iv_top c22) iv) w70  (fun h1 r e => kx h1 r (Eq.trans (Eq.trans (if_neg c22) (Eq.trans (if_neg c23) (Eq.trans (if_pos c24) (Eq.trans (if_pos c28) (Eq.trans (if_pos c32) (Eq.trans (if_pos c36) (Eq.trans (if_pos c40) (Eq.trans (if_pos c44) (Eq.trans (if_neg c48) (bnd_eq e69 (rfl))))))))))) e))
                  · refine am_aload_n dX4_read_150 1 rfl ?_
                    refine am_aload_n dX4_read_151 1 rfl ?_
                    refine am_get (v := .ref (gz G + 3)) dX4_read_152 kGX4_18 (hwc1 (w := y) gy) rfl ?_
                    refine am_get (v := .ref (gz G + 4)) dX4_read_155 kGX4_75 (pl_0 (p := (y.2.2.1 0)) (hwP0 (w := y) gy)) rfl ?_
                    refine am_callV (As := [.ref (gz G + 4)]) (rest := []) dX4_read_158 kMX4_85 rfl (hwc1 (w := y) gy) rfl rfl (Nat.le_of_ble_eq_true rfl) (d2 := 7) (by decide) (k2 := 0) (Nat.zero_le _) (u2 := 0) (Nat.zero_le _) (Nat.le_of_ble_eq_true rfl) (ctX4_readShape_6 (w := y) gy ) (fun v71 h72 q73 => ?_)
                    obtain ⟨r74, e75, rfl, w76⟩ := q73
                    refine am_goto dX4_read_161 (by decide : ((161 : Nat) : Int) + (54) = ((215 : Nat) : Int)) ?_
                    refine am_iinc (v := (x2 + 1)) dX4_read_215 0 rfl rfl (by decide) (lv' := [(2, .int (x2 + 1)), (0, .ref (gz G + 1))]) rfl ?_
                    refine am_goto dX4_read_218 (by decide : ((218 : Nat) : Int) + (-170) = ((48 : Nat) : Int)) ?_
                    exact ih (x2 + 1) r74 (ivU_s (iv_top c22) iv) w76  (fun h1 r e => kx h1 r (Eq.trans (Eq.trans (if_neg c22) (Eq.trans (if_neg c23) (Eq.trans (if_pos c24) (Eq.trans (if_pos c28) (Eq.trans (if_pos c32) (Eq.trans (if_pos c36) (Eq.trans (if_pos c40) (Eq.trans (if_neg c44) (bnd_eq e75 (rfl)))))))))) e))
                · refine am_aload_n dX4_read_127 1 rfl ?_
                  refine am_aload_n dX4_read_128 1 rfl ?_
                  refine am_get (v := .ref (gz G + 3)) dX4_read_129 kGX4_18 (hwc1 (w := y) gy) rfl ?_
                  refine am_get (v := .ref (gz G + 4)) dX4_read_132 kGX4_75 (pl_0 (p := (y.2.2.1 0)) (hwP0 (w := y) gy)) rfl ?_
                  refine am_callV (As := [.ref (gz G + 4)]) (rest := []) dX4_read_135 kMX4_79 rfl (hwc1 (w := y) gy) rfl rfl (Nat.le_of_ble_eq_true rfl) (d2 := 7) (by decide) (k2 := 0) (Nat.zero_le _) (u2 := 0) (Nat.zero_le _) (Nat.le_of_ble_eq_true rfl) (ctX4_readYarn_6 (w := y) gy ) (fun v77 h78 q79 => ?_)
                  obtain ⟨r80, e81, rfl, w82⟩ := q79
                  refine am_goto dX4_read_138 (by decide : ((138 : Nat) : Int) + (77) = ((215 : Nat) : Int)) ?_
                  refine am_iinc (v := (x2 + 1)) dX4_read_215 0 rfl rfl (by decide) (lv' := [(2, .int (x2 + 1)), (0, .ref (gz G + 1))]) rfl ?_
                  refine am_goto dX4_read_218 (by decide : ((218 : Nat) : Int) + (-170) = ((48 : Nat) : Int)) ?_
                  exact ih (x2 + 1) r80 (ivU_s (iv_top c22) iv) w82  (fun h1 r e => kx h1 r (Eq.trans (Eq.trans (if_neg c22) (Eq.trans (if_neg c23) (Eq.trans (if_pos c24) (Eq.trans (if_pos c28) (Eq.trans (if_pos c32) (Eq.trans (if_pos c36) (Eq.trans (if_neg c40) (bnd_eq e81 (rfl))))))))) e))
              · refine am_aload_n dX4_read_111 1 rfl ?_
                refine am_callV (As := []) (rest := []) dX4_read_112 kMX4_70 rfl (hwc1 (w := y) gy) rfl rfl (Nat.le_of_ble_eq_true rfl) (d2 := 3) (by decide) (k2 := 0) (Nat.zero_le _) (u2 := 0) (Nat.zero_le _) (Nat.le_of_ble_eq_true rfl) (ctX4_readBox (w := y) gy ) (fun v83 h84 q85 => ?_)
                obtain ⟨r86, e87, rfl, w88⟩ := q85
                refine am_goto dX4_read_115 (by decide : ((115 : Nat) : Int) + (100) = ((215 : Nat) : Int)) ?_
                refine am_iinc (v := (x2 + 1)) dX4_read_215 0 rfl rfl (by decide) (lv' := [(2, .int (x2 + 1)), (0, .ref (gz G + 1))]) rfl ?_
                refine am_goto dX4_read_218 (by decide : ((218 : Nat) : Int) + (-170) = ((48 : Nat) : Int)) ?_
                exact ih (x2 + 1) r86 (ivU_s (iv_top c22) iv) w88  (fun h1 r e => kx h1 r (Eq.trans (Eq.trans (if_neg c22) (Eq.trans (if_neg c23) (Eq.trans (if_pos c24) (Eq.trans (if_pos c28) (Eq.trans (if_pos c32) (Eq.trans (if_neg c36) (bnd_eq e87 (rfl)))))))) e))
            · refine am_aload_n dX4_read_95 1 rfl ?_
              refine am_callV (As := []) (rest := []) dX4_read_96 kMX4_65 rfl (hwc1 (w := y) gy) rfl rfl (Nat.le_of_ble_eq_true rfl) (d2 := 3) (by decide) (k2 := 0) (Nat.zero_le _) (u2 := 0) (Nat.zero_le _) (Nat.le_of_ble_eq_true rfl) (ctX4_readSteam (w := y) gy ) (fun v89 h90 q91 => ?_)
              obtain ⟨r92, e93, rfl, w94⟩ := q91
              refine am_goto dX4_read_99 (by decide : ((99 : Nat) : Int) + (116) = ((215 : Nat) : Int)) ?_
              refine am_iinc (v := (x2 + 1)) dX4_read_215 0 rfl rfl (by decide) (lv' := [(2, .int (x2 + 1)), (0, .ref (gz G + 1))]) rfl ?_
              refine am_goto dX4_read_218 (by decide : ((218 : Nat) : Int) + (-170) = ((48 : Nat) : Int)) ?_
              exact ih (x2 + 1) r92 (ivU_s (iv_top c22) iv) w94  (fun h1 r e => kx h1 r (Eq.trans (Eq.trans (if_neg c22) (Eq.trans (if_neg c23) (Eq.trans (if_pos c24) (Eq.trans (if_pos c28) (Eq.trans (if_neg c32) (bnd_eq e93 (rfl))))))) e))
          · refine am_aload_n dX4_read_79 1 rfl ?_
            refine am_callV (As := []) (rest := []) dX4_read_80 kMX4_60 rfl (hwc1 (w := y) gy) rfl rfl (Nat.le_of_ble_eq_true rfl) (d2 := 3) (by decide) (k2 := 0) (Nat.zero_le _) (u2 := 0) (Nat.zero_le _) (Nat.le_of_ble_eq_true rfl) (ctX4_readTolerance (w := y) gy ) (fun v95 h96 q97 => ?_)
            obtain ⟨r98, e99, rfl, w100⟩ := q97
            refine am_goto dX4_read_83 (by decide : ((83 : Nat) : Int) + (132) = ((215 : Nat) : Int)) ?_
            refine am_iinc (v := (x2 + 1)) dX4_read_215 0 rfl rfl (by decide) (lv' := [(2, .int (x2 + 1)), (0, .ref (gz G + 1))]) rfl ?_
            refine am_goto dX4_read_218 (by decide : ((218 : Nat) : Int) + (-170) = ((48 : Nat) : Int)) ?_
            exact ih (x2 + 1) r98 (ivU_s (iv_top c22) iv) w100  (fun h1 r e => kx h1 r (Eq.trans (Eq.trans (if_neg c22) (Eq.trans (if_neg c23) (Eq.trans (if_pos c24) (Eq.trans (if_neg c28) (bnd_eq e99 (rfl)))))) e))
def fX4_read (w : Wd) (z1 : Int32) : Int32 × Wd := (bnd (fX5_makeEmpty (w.2.2.1 0) ) (fun r4 => (bnd (fX4_advance (wS (wS (wS (wS (wS (wS (wS (wP w 0 r4) 1 0) 2 (-1)) 8 0) 9 0) 10 0) 3 z1) 6 0) ) (fun r19 => (bnd (fX4_read_48 z1   (fuU 2147483647 0) 0 r19) (fun r101 => (if (r101.2.1 1) = 0 then (1, r101.2) else (0, r101.2))))))))
set_option maxRecDepth 20000 in
theorem ctX4_read {l : Launch} {G : GM} {K : Nat → Option va_E} {h : List va_E} {w : Wd} (hw : HW G K h w) (z1 : Int32) : Ct l G mX4_read 8 0 0 [.ref (gz G + 1), .int z1] h (fun v h1 => ∃ r, (fX4_read w z1) = r ∧ v = some (.int r.1) ∧ HW G K h1 r.2) := by
  show Tr l G mX4_read 8 0 0 0 [(0, .ref (gz G + 1)), (1, .int z1)] [] h _
  refine am_aload_n dX4_read_0 0 rfl ?_
  refine am_get (v := .ref (gz G + 3)) dX4_read_1 kGX4_18 (hwc1 (w := w) hw) rfl ?_
  refine am_callV (As := []) (rest := []) dX4_read_4 kMX4_26 rfl (pl_0 (p := (w.2.2.1 0)) (hwP0 (w := w) hw)) rfl rfl (Nat.le_of_ble_eq_true rfl) (d2 := 0) (by decide) (k2 := 0) (Nat.zero_le _) (u2 := 0) (Nat.zero_le _) (Nat.le_of_ble_eq_true rfl) (ctX5_makeEmpty (p := (w.2.2.1 0)) (hwP0 (w := w) hw) ) (fun v1 h2 q3 => ?_)
  obtain ⟨r4, e5, rfl, w6, w7⟩ := q3
  have w8 := hwPu hw (i := 0) (by decide) w6 w7
  refine am_aload_n dX4_read_7 0 rfl ?_
  refine am_iconst (v := 0) dX4_read_8 (by decide) ?_
  refine am_put dX4_read_9 kFX4_29 (hwc1 (w := (wP w 0 r4)) w8) (Nat.le_of_ble_eq_true rfl) rfl rfl ?_
  have w9 := hwS1 w8 0
  refine am_aload_n dX4_read_12 0 rfl ?_
  refine am_iconst (v := (-1)) dX4_read_13 (by decide) ?_
  refine am_put dX4_read_14 kFX4_22 (hwc1 (w := (wS (wP w 0 r4) 1 0)) w9) (Nat.le_of_ble_eq_true rfl) rfl rfl ?_
  have w10 := hwS2 w9 (-1)
  refine am_aload_n dX4_read_17 0 rfl ?_
  refine am_iconst (v := 0) dX4_read_18 (by decide) ?_
  refine am_put dX4_read_19 kFX4_32 (hwc1 (w := (wS (wS (wP w 0 r4) 1 0) 2 (-1))) w10) (Nat.le_of_ble_eq_true rfl) rfl rfl ?_
  have w11 := hwS8 w10 0
  refine am_aload_n dX4_read_22 0 rfl ?_
  refine am_iconst (v := 0) dX4_read_23 (by decide) ?_
  refine am_put dX4_read_24 kFX4_36 (hwc1 (w := (wS (wS (wS (wP w 0 r4) 1 0) 2 (-1)) 8 0)) w11) (Nat.le_of_ble_eq_true rfl) rfl rfl ?_
  have w12 := hwS9 w11 0
  refine am_aload_n dX4_read_27 0 rfl ?_
  refine am_iconst (v := 0) dX4_read_28 (by decide) ?_
  refine am_put dX4_read_29 kFX4_39 (hwc1 (w := (wS (wS (wS (wS (wP w 0 r4) 1 0) 2 (-1)) 8 0) 9 0)) w12) (Nat.le_of_ble_eq_true rfl) rfl rfl ?_
  have w13 := hwS10 w12 0
  refine am_aload_n dX4_read_32 0 rfl ?_
  refine am_iload_n dX4_read_33 1 rfl ?_
  refine am_put dX4_read_34 kFX4_42 (hwc1 (w := (wS (wS (wS (wS (wS (wP w 0 r4) 1 0) 2 (-1)) 8 0) 9 0) 10 0)) w13) (Nat.le_of_ble_eq_true rfl) rfl rfl ?_
  have w14 := hwS3 w13 z1
  refine am_aload_n dX4_read_37 0 rfl ?_
  refine am_iconst (v := 0) dX4_read_38 (by decide) ?_
  refine am_put dX4_read_39 kFX4_45 (hwc1 (w := (wS (wS (wS (wS (wS (wS (wP w 0 r4) 1 0) 2 (-1)) 8 0) 9 0) 10 0) 3 z1)) w14) (Nat.le_of_ble_eq_true rfl) rfl rfl ?_
  have w15 := hwS6 w14 0
  refine am_aload_n dX4_read_42 0 rfl ?_
  refine am_callV (As := []) (rest := []) dX4_read_43 kMX4_48 rfl (hwc1 (w := (wS (wS (wS (wS (wS (wS (wS (wP w 0 r4) 1 0) 2 (-1)) 8 0) 9 0) 10 0) 3 z1) 6 0)) w15) rfl rfl (Nat.le_of_ble_eq_true rfl) (d2 := 1) (by decide) (k2 := 0) (Nat.zero_le _) (u2 := 0) (Nat.zero_le _) (Nat.le_of_ble_eq_true rfl) (ctX4_advance (w := (wS (wS (wS (wS (wS (wS (wS (wP w 0 r4) 1 0) 2 (-1)) 8 0) 9 0) 10 0) 3 z1) 6 0)) w15 ) (fun v16 h17 q18 => ?_)
  obtain ⟨r19, e20, rfl, w21⟩ := q18
  refine am_iconst (v := 0) dX4_read_46 (by decide) ?_
  refine am_istore_n dX4_read_47 (by decide) (lv' := [(2, .int 0), (0, .ref (gz G + 1)), (1, .int z1)]) rfl ?_
  refine am_lv (lv' := [(2, .int 0), (0, .ref (gz G + 1))]) [0, 1] rfl ?_
  refine wX4_read_48 z1   (fuU 2147483647 0) 0 r19 ivU_i w21  (fun h103 r101 e102 w104  => ?_)
  refine am_aload_n dX4_read_221 1 rfl ?_
  refine am_get (v := .int (r101.2.1 1)) dX4_read_222 kGX4_29 (hwc1 (w := r101.2) w104) rfl ?_
  refine am_if_ne dX4_read_225 (by decide : ((225 : Nat) : Int) + (7) = ((232 : Nat) : Int)) (fun c105 => ?_) (fun c105 => ?_)
  · refine am_iconst (v := 0) dX4_read_232 (by decide) ?_
    exact am_ireturn dX4_read_233 rfl rfl ⟨_, bnd_eq e5 (bnd_eq e20 (bnd_eq e102 (Eq.trans (if_neg c105) (rfl)))), rfl, w104⟩
  · refine am_iconst (v := 1) dX4_read_228 (by decide) ?_
    refine am_goto dX4_read_229 (by decide : ((229 : Nat) : Int) + (4) = ((233 : Nat) : Int)) ?_
    exact am_ireturn dX4_read_233 rfl rfl ⟨_, bnd_eq e5 (bnd_eq e20 (bnd_eq e102 (Eq.trans (if_pos c105) (rfl)))), rfl, w104⟩
