/-! The law: the worst pair. -/
theorem dv_16 : ∀ j, j < 14 → ∀ q, q < 14 → nI (16 * j + q) / 16 = nI j ∧ nI (16 * j + q) - nI (16 * j + q) / 16 * 16 = nI q := by decide +kernel
section LAW
variable {l : Launch} {G : GM} {d : Nat} {Q : Option Value → List va_E → Prop}
theorem dL_law_863 : decode cL_law 863 = .ok (.iload 21, 2) := by decide +kernel
theorem dL_law_865 : decode cL_law 865 = .ok (.aload_n 1, 1) := by decide +kernel
theorem dL_law_866 : decode cL_law 866 = .ok (.invokevirtual 153, 3) := by decide +kernel
theorem dL_law_869 : decode cL_law 869 = .ok (.if_icmp .ge 80, 3) := by decide +kernel
theorem dL_law_872 : decode cL_law 872 = .ok (.aload_n 1, 1) := by decide +kernel
theorem dL_law_873 : decode cL_law 873 = .ok (.aload_n 1, 1) := by decide +kernel
theorem dL_law_874 : decode cL_law 874 = .ok (.iload 21, 2) := by decide +kernel
theorem dL_law_876 : decode cL_law 876 = .ok (.invokevirtual 230, 3) := by decide +kernel
theorem dL_law_879 : decode cL_law 879 = .ok (.bipush 16, 2) := by decide +kernel
theorem dL_law_881 : decode cL_law 881 = .ok (.idiv, 1) := by decide +kernel
theorem dL_law_882 : decode cL_law 882 = .ok (.aload_n 1, 1) := by decide +kernel
theorem dL_law_883 : decode cL_law 883 = .ok (.iload 21, 2) := by decide +kernel
theorem dL_law_885 : decode cL_law 885 = .ok (.invokevirtual 230, 3) := by decide +kernel
theorem dL_law_888 : decode cL_law 888 = .ok (.bipush 16, 2) := by decide +kernel
theorem dL_law_890 : decode cL_law 890 = .ok (.irem, 1) := by decide +kernel
theorem dL_law_891 : decode cL_law 891 = .ok (.invokevirtual 233, 3) := by decide +kernel
theorem dL_law_894 : decode cL_law 894 = .ok (.istore 22, 2) := by decide +kernel
theorem dL_law_896 : decode cL_law 896 = .ok (.aload_n 1, 1) := by decide +kernel
theorem dL_law_897 : decode cL_law 897 = .ok (.aload_n 1, 1) := by decide +kernel
theorem dL_law_898 : decode cL_law 898 = .ok (.iload 20, 2) := by decide +kernel
theorem dL_law_900 : decode cL_law 900 = .ok (.invokevirtual 230, 3) := by decide +kernel
theorem dL_law_903 : decode cL_law 903 = .ok (.bipush 16, 2) := by decide +kernel
theorem dL_law_905 : decode cL_law 905 = .ok (.idiv, 1) := by decide +kernel
theorem dL_law_906 : decode cL_law 906 = .ok (.aload_n 1, 1) := by decide +kernel
theorem dL_law_907 : decode cL_law 907 = .ok (.iload 20, 2) := by decide +kernel
theorem dL_law_909 : decode cL_law 909 = .ok (.invokevirtual 230, 3) := by decide +kernel
theorem dL_law_912 : decode cL_law 912 = .ok (.bipush 16, 2) := by decide +kernel
theorem dL_law_914 : decode cL_law 914 = .ok (.irem, 1) := by decide +kernel
theorem dL_law_915 : decode cL_law 915 = .ok (.invokevirtual 233, 3) := by decide +kernel
theorem dL_law_918 : decode cL_law 918 = .ok (.istore 23, 2) := by decide +kernel
theorem dL_law_920 : decode cL_law 920 = .ok (.iload 22, 2) := by decide +kernel
theorem dL_law_922 : decode cL_law 922 = .ok (.iload 23, 2) := by decide +kernel
theorem dL_law_924 : decode cL_law 924 = .ok (.if_icmp .gt 17, 3) := by decide +kernel
theorem dL_law_927 : decode cL_law 927 = .ok (.iload 22, 2) := by decide +kernel
theorem dL_law_929 : decode cL_law 929 = .ok (.iload 23, 2) := by decide +kernel
theorem dL_law_931 : decode cL_law 931 = .ok (.if_icmp .ne 12, 3) := by decide +kernel
theorem dL_law_934 : decode cL_law 934 = .ok (.iload 21, 2) := by decide +kernel
theorem dL_law_936 : decode cL_law 936 = .ok (.iload 20, 2) := by decide +kernel
theorem dL_law_938 : decode cL_law 938 = .ok (.if_icmp .ge 5, 3) := by decide +kernel
theorem dL_law_943 : decode cL_law 943 = .ok (.iinc 21 1, 3) := by decide +kernel
theorem dL_law_946 : decode cL_law 946 = .ok (.goto (-83), 3) := by decide +kernel
set_option maxRecDepth 20000 in
theorem sg_Jl {k0 u0 a b K n1 n2 n3 n4 : Nat} {f : Nat → Int32} {x : Int32} {w : Wd} (hd : 23 ≤ d) (N : KN w f n1 n2 n3 n4 K) (S : wpI w K x) (K7 : K ≤ 7) : ∀ (r k : Nat), k + r = K → ∀ (h : List va_E), OB G h 0 w → (∀ h1, OB G h1 0 w → Tr l G mL_law d k0 u0 949 [(21, .int (nI K)), (20, .int x), (4, .ref a), (3, .ref b), (2, .int (nI (dw G 0 9))), (1, .ref (gz G + 0)), (0, .ref (gB G))] [] h1 Q) → Tr l G mL_law d k0 u0 863 [(21, .int (nI k)), (20, .int x), (4, .ref a), (3, .ref b), (2, .int (nI (dw G 0 9))), (1, .ref (gz G + 0)), (0, .ref (gB G))] [] h Q := by
  have k7 := K7
  intro r
  induction r with
  | zero =>
    intro k hk h o kk
    refine am_iload dL_law_863 0 rfl ?_
    refine am_aload_n dL_law_865 5 rfl ?_
    have hc := om_pairCount (l := l) o
    rw [o_kc N] at hc
    obtain ⟨fs, hfs⟩ := ob_cell o
    refine mm_callV (As := []) (rest := [.int (nI k)]) dL_law_866 kML_153 rfl hfs rfl rfl (Nat.le_of_ble_eq_true rfl) (d2 := 21) (by omega) (k2 := 0) (Nat.zero_le _) (u2 := 0) (Nat.zero_le _) (hc) (fun r1 h1 q3 => ?_)
    obtain ⟨rfl, o, -⟩ := q3
    refine am_icmp_ge dL_law_869 (by decide : ((869 : Nat) : Int) + (80) = ((949 : Nat) : Int)) (fun _ => ?_) (fun zq => absurd (nI_le (by omega) (by omega)) zq)
    have ek : k = K := by omega
    subst ek
    exact kk _ o
  | succ r ih =>
    intro k hk h o kk
    refine am_iload dL_law_863 0 rfl ?_
    refine am_aload_n dL_law_865 5 rfl ?_
    have hc := om_pairCount (l := l) o
    rw [o_kc N] at hc
    obtain ⟨fs, hfs⟩ := ob_cell o
    refine mm_callV (As := []) (rest := [.int (nI k)]) dL_law_866 kML_153 rfl hfs rfl rfl (Nat.le_of_ble_eq_true rfl) (d2 := 21) (by omega) (k2 := 0) (Nat.zero_le _) (u2 := 0) (Nat.zero_le _) (hc) (fun r1 h1 q3 => ?_)
    obtain ⟨rfl, o, -⟩ := q3
    refine am_icmp_ge dL_law_869 (by decide : ((869 : Nat) : Int) + (80) = ((949 : Nat) : Int)) (fun zq => absurd zq (nI_ge (by omega) (by omega))) (fun _ => ?_)
    rcases S with ⟨s1, -⟩ | ⟨bb, s1, s2, s3⟩
    · omega
    subst s2
    obtain ⟨j1, q1, e1, a1, b1, c1⟩ := o_kp N (i := k) (by omega)
    obtain ⟨j2, q2, e2, a2, b2, c2⟩ := o_kp N (i := bb) s1
    have sk := s3 k (by omega)
    refine am_aload_n dL_law_872 5 rfl ?_
    refine am_aload_n dL_law_873 5 rfl ?_
    refine am_iload dL_law_874 0 rfl ?_
    have hc := om_pair (l := l) o (nI k)
    rw [e1] at hc
    obtain ⟨fs, hfs⟩ := ob_cell o
    refine mm_callV (As := [.int (nI k)]) (rest := [.ref (gz G + 0)]) dL_law_876 kML_230 rfl hfs rfl rfl (Nat.le_of_ble_eq_true rfl) (d2 := 21) (by omega) (k2 := 0) (Nat.zero_le _) (u2 := 0) (Nat.zero_le _) (hc) (fun r1 h1a q3 => ?_)
    obtain ⟨rfl, o, -⟩ := q3
    refine am_bipush (v := 16) dL_law_879 (by decide) ?_
    refine am_idiv dL_law_881 (by decide) ?_
    rw [(dv_16 j1 a1 q1 b1).1]
    refine am_aload_n dL_law_882 5 rfl ?_
    refine am_iload dL_law_883 0 rfl ?_
    have hc := om_pair (l := l) o (nI k)
    rw [e1] at hc
    obtain ⟨fs, hfs⟩ := ob_cell o
    refine mm_callV (As := [.int (nI k)]) (rest := [.int (nI j1), .ref (gz G + 0)]) dL_law_885 kML_230 rfl hfs rfl rfl (Nat.le_of_ble_eq_true rfl) (d2 := 21) (by omega) (k2 := 0) (Nat.zero_le _) (u2 := 0) (Nat.zero_le _) (hc) (fun r1 h1b q3 => ?_)
    obtain ⟨rfl, o, -⟩ := q3
    refine am_bipush (v := 16) dL_law_888 (by decide) ?_
    refine am_irem dL_law_890 (by decide) ?_
    rw [(dv_16 j1 a1 q1 b1).2]
    have hc := om_gap (l := l) o (nI j1) (nI q1)
    rw [c1] at hc
    obtain ⟨fs, hfs⟩ := ob_cell o
    refine mm_callV (As := [.int (nI j1), .int (nI q1)]) (rest := []) dL_law_891 kML_233 rfl hfs rfl rfl (Nat.le_of_ble_eq_true rfl) (d2 := 2) (by omega) (k2 := 0) (Nat.zero_le _) (u2 := 0) (Nat.zero_le _) (hc) (fun r1 h1c q3 => ?_)
    obtain ⟨rfl, e0⟩ := q3
    subst e0
    refine am_istore dL_law_894 (by decide) (lv' := [(22, .int (gpI w k)), (21, .int (nI k)), (20, .int (nI bb)), (4, .ref a), (3, .ref b), (2, .int (nI (dw G 0 9))), (1, .ref (gz G + 0)), (0, .ref (gB G))]) rfl ?_
    refine am_aload_n dL_law_896 6 rfl ?_
    refine am_aload_n dL_law_897 6 rfl ?_
    refine am_iload dL_law_898 2 rfl ?_
    have hc := om_pair (l := l) o (nI bb)
    rw [e2] at hc
    obtain ⟨fs, hfs⟩ := ob_cell o
    refine mm_callV (As := [.int (nI bb)]) (rest := [.ref (gz G + 0)]) dL_law_900 kML_230 rfl hfs rfl rfl (Nat.le_of_ble_eq_true rfl) (d2 := 21) (by omega) (k2 := 0) (Nat.zero_le _) (u2 := 0) (Nat.zero_le _) (hc) (fun r1 h2a q3 => ?_)
    obtain ⟨rfl, o, -⟩ := q3
    refine am_bipush (v := 16) dL_law_903 (by decide) ?_
    refine am_idiv dL_law_905 (by decide) ?_
    rw [(dv_16 j2 a2 q2 b2).1]
    refine am_aload_n dL_law_906 6 rfl ?_
    refine am_iload dL_law_907 2 rfl ?_
    have hc := om_pair (l := l) o (nI bb)
    rw [e2] at hc
    obtain ⟨fs, hfs⟩ := ob_cell o
    refine mm_callV (As := [.int (nI bb)]) (rest := [.int (nI j2), .ref (gz G + 0)]) dL_law_909 kML_230 rfl hfs rfl rfl (Nat.le_of_ble_eq_true rfl) (d2 := 21) (by omega) (k2 := 0) (Nat.zero_le _) (u2 := 0) (Nat.zero_le _) (hc) (fun r1 h2b q3 => ?_)
    obtain ⟨rfl, o, -⟩ := q3
    refine am_bipush (v := 16) dL_law_912 (by decide) ?_
    refine am_irem dL_law_914 (by decide) ?_
    rw [(dv_16 j2 a2 q2 b2).2]
    have hc := om_gap (l := l) o (nI j2) (nI q2)
    rw [c2] at hc
    obtain ⟨fs, hfs⟩ := ob_cell o
    refine mm_callV (As := [.int (nI j2), .int (nI q2)]) (rest := []) dL_law_915 kML_233 rfl hfs rfl rfl (Nat.le_of_ble_eq_true rfl) (d2 := 2) (by omega) (k2 := 0) (Nat.zero_le _) (u2 := 0) (Nat.zero_le _) (hc) (fun r1 h2c q3 => ?_)
    obtain ⟨rfl, e0⟩ := q3
    subst e0
    refine am_istore dL_law_918 (by decide) (lv' := [(23, .int (gpI w bb)), (22, .int (gpI w k)), (21, .int (nI k)), (20, .int (nI bb)), (4, .ref a), (3, .ref b), (2, .int (nI (dw G 0 9))), (1, .ref (gz G + 0)), (0, .ref (gB G))]) rfl ?_
    refine am_iload dL_law_920 1 rfl ?_
    refine am_iload dL_law_922 0 rfl ?_
    refine am_icmp_gt dL_law_924 (by decide : ((924 : Nat) : Int) + (17) = ((941 : Nat) : Int)) (fun zq => absurd zq (Int32.not_lt.mpr sk.1)) (fun _ => ?_)
    refine am_iload dL_law_927 1 rfl ?_
    refine am_iload dL_law_929 0 rfl ?_
    by_cases ce : gpI w k = gpI w bb
    · refine am_icmp_ne dL_law_931 (by decide : ((931 : Nat) : Int) + (12) = ((943 : Nat) : Int)) (fun zq => absurd zq (fun z => z ce)) (fun _ => ?_)
      refine am_iload dL_law_934 2 rfl ?_
      refine am_iload dL_law_936 3 rfl ?_
      refine am_icmp_ge dL_law_938 (by decide : ((938 : Nat) : Int) + (5) = ((943 : Nat) : Int)) (fun _ => ?_) (fun zq => absurd (nI_le (sk.2 ce) (by omega)) zq)
      refine am_iinc (v := (nI (k + 1))) dL_law_943 2 rfl (nI_1 k) (by decide) (lv' := [(21, .int (nI (k + 1))), (23, .int (gpI w bb)), (22, .int (gpI w k)), (20, .int (nI bb)), (4, .ref a), (3, .ref b), (2, .int (nI (dw G 0 9))), (1, .ref (gz G + 0)), (0, .ref (gB G))]) rfl ?_
      refine am_goto dL_law_946 (by decide : ((946 : Nat) : Int) + (-83) = ((863 : Nat) : Int)) ?_
      refine am_lv [0, 3, 4, 5, 6, 7, 8] rfl ?_
      exact ih (k + 1) (by omega) _ o kk
    · refine am_icmp_ne dL_law_931 (by decide : ((931 : Nat) : Int) + (12) = ((943 : Nat) : Int)) (fun _ => ?_) (fun zq => absurd zq ce)
      refine am_iinc (v := (nI (k + 1))) dL_law_943 2 rfl (nI_1 k) (by decide) (lv' := [(21, .int (nI (k + 1))), (23, .int (gpI w bb)), (22, .int (gpI w k)), (20, .int (nI bb)), (4, .ref a), (3, .ref b), (2, .int (nI (dw G 0 9))), (1, .ref (gz G + 0)), (0, .ref (gB G))]) rfl ?_
      refine am_goto dL_law_946 (by decide : ((946 : Nat) : Int) + (-83) = ((863 : Nat) : Int)) ?_
      refine am_lv [0, 3, 4, 5, 6, 7, 8] rfl ?_
      exact ih (k + 1) (by omega) _ o kk
theorem dL_law_854 : decode cL_law 854 = .ok (.aload_n 1, 1) := by decide +kernel
theorem dL_law_855 : decode cL_law 855 = .ok (.invokevirtual 227, 3) := by decide +kernel
theorem dL_law_858 : decode cL_law 858 = .ok (.istore 20, 2) := by decide +kernel
theorem dL_law_860 : decode cL_law 860 = .ok (.iconst 0, 1) := by decide +kernel
theorem dL_law_861 : decode cL_law 861 = .ok (.istore 21, 2) := by decide +kernel
theorem dL_law_949 : decode cL_law 949 = .ok (.iload 20, 2) := by decide +kernel
theorem dL_law_951 : decode cL_law 951 = .ok (.ifCond .ge 7, 3) := by decide +kernel
theorem dL_law_954 : decode cL_law 954 = .ok (.iconst 1, 1) := by decide +kernel
theorem dL_law_955 : decode cL_law 955 = .ok (.goto 4, 3) := by decide +kernel
theorem dL_law_958 : decode cL_law 958 = .ok (.iconst 0, 1) := by decide +kernel
theorem dL_law_959 : decode cL_law 959 = .ok (.aload_n 1, 1) := by decide +kernel
theorem dL_law_960 : decode cL_law 960 = .ok (.invokevirtual 153, 3) := by decide +kernel
theorem dL_law_963 : decode cL_law 963 = .ok (.ifCond .ne 7, 3) := by decide +kernel
theorem dL_law_966 : decode cL_law 966 = .ok (.iconst 1, 1) := by decide +kernel
theorem dL_law_967 : decode cL_law 967 = .ok (.goto 4, 3) := by decide +kernel
theorem dL_law_970 : decode cL_law 970 = .ok (.iconst 0, 1) := by decide +kernel
theorem dL_law_971 : decode cL_law 971 = .ok (.if_icmp .eq 5, 3) := by decide +kernel
set_option maxRecDepth 20000 in
theorem sg_J {k0 u0 a b : Nat} {h : List va_E} {w : Wd} (hd : 23 ≤ d) (o : OB G h 0 w) (C : CD G 175 w (rwB G)) (kk : ∀ h1 w1, OB G h1 0 w1 → CD G 176 w1 (rwB G) → Tr l G mL_law d k0 u0 976 [(4, .ref a), (3, .ref b), (2, .int (nI (dw G 0 9))), (1, .ref (gz G + 0)), (0, .ref (gB G))] [] h1 Q) : Tr l G mL_law d k0 u0 854 [(4, .ref a), (3, .ref b), (2, .int (nI (dw G 0 9))), (1, .ref (gz G + 0)), (0, .ref (gB G))] [] h Q := by
  have hk := kF_ok C.1
  have k7 := kF_7 (rwB G) (dw G 0 9)
  obtain ⟨x, w1, e1, S, C1, N⟩ := o_wp C (by omega) hk
  refine am_aload_n dL_law_854 3 rfl ?_
  have hc := om_worstPair (l := l) o
  rw [e1] at hc
  obtain ⟨fs, hfs⟩ := ob_cell o
  refine mm_callV (As := []) (rest := []) dL_law_855 kML_227 rfl hfs rfl rfl (Nat.le_of_ble_eq_true rfl) (d2 := 21) (by omega) (k2 := 0) (Nat.zero_le _) (u2 := 0) (Nat.zero_le _) (hc) (fun r1 h1 q3 => ?_)
  obtain ⟨rfl, o1, g1⟩ := q3
  refine am_istore dL_law_858 (by decide) (lv' := [(20, .int x), (4, .ref a), (3, .ref b), (2, .int (nI (dw G 0 9))), (1, .ref (gz G + 0)), (0, .ref (gB G))]) rfl ?_
  refine am_iconst (v := 0) dL_law_860 (by decide) ?_
  refine am_istore dL_law_861 (by decide) (lv' := [(21, .int 0), (20, .int x), (4, .ref a), (3, .ref b), (2, .int (nI (dw G 0 9))), (1, .ref (gz G + 0)), (0, .ref (gB G))]) rfl ?_
  refine sg_Jl hd N S k7 (kF (rwB G) (dw G 0 9)) 0 (Nat.zero_add _) _ o1 (fun h2 o2 => ?_)
  refine am_iload dL_law_949 1 rfl ?_
  rcases S with ⟨s1, s2⟩ | ⟨b1, s1, s2, -⟩
  · subst s2
    refine am_if_ge dL_law_951 (by decide : ((951 : Nat) : Int) + (7) = ((958 : Nat) : Int)) (fun zq => absurd zq (by decide)) (fun _ => ?_)
    refine am_iconst (v := 1) dL_law_954 (by decide) ?_
    refine am_goto dL_law_955 (by decide : ((955 : Nat) : Int) + (4) = ((959 : Nat) : Int)) ?_
    refine am_aload_n dL_law_959 5 rfl ?_
    have hc := om_pairCount (l := l) o2
    rw [o_kc N] at hc
    obtain ⟨fs, hfs⟩ := ob_cell o2
    refine mm_callV (As := []) (rest := [.int 1]) dL_law_960 kML_153 rfl hfs rfl rfl (Nat.le_of_ble_eq_true rfl) (d2 := 21) (by omega) (k2 := 0) (Nat.zero_le _) (u2 := 0) (Nat.zero_le _) (hc) (fun r1 h3 q3 => ?_)
    obtain ⟨rfl, o3, -⟩ := q3
    refine am_if_ne dL_law_963 (by decide : ((963 : Nat) : Int) + (7) = ((970 : Nat) : Int)) (fun zq => absurd zq (fun z => z (by rw [s1]; rfl))) (fun _ => ?_)
    refine am_iconst (v := 1) dL_law_966 (by decide) ?_
    refine am_goto dL_law_967 (by decide : ((967 : Nat) : Int) + (4) = ((971 : Nat) : Int)) ?_
    refine am_icmp_eq dL_law_971 (by decide : ((971 : Nat) : Int) + (5) = ((976 : Nat) : Int)) (fun _ => ?_) (fun zq => absurd rfl zq)
    refine am_lv [2, 3, 4, 5, 6] rfl ?_
    exact kk _ w1 o3 C1
  · subst s2
    refine am_if_ge dL_law_951 (by decide : ((951 : Nat) : Int) + (7) = ((958 : Nat) : Int)) (fun _ => ?_) (fun zq => absurd (nI_pos' (by omega)) zq)
    refine am_iconst (v := 0) dL_law_958 (by decide) ?_
    refine am_aload_n dL_law_959 5 rfl ?_
    have hc := om_pairCount (l := l) o2
    rw [o_kc N] at hc
    obtain ⟨fs, hfs⟩ := ob_cell o2
    refine mm_callV (As := []) (rest := [.int 0]) dL_law_960 kML_153 rfl hfs rfl rfl (Nat.le_of_ble_eq_true rfl) (d2 := 21) (by omega) (k2 := 0) (Nat.zero_le _) (u2 := 0) (Nat.zero_le _) (hc) (fun r1 h3 q3 => ?_)
    obtain ⟨rfl, o3, -⟩ := q3
    refine am_if_ne dL_law_963 (by decide : ((963 : Nat) : Int) + (7) = ((970 : Nat) : Int)) (fun _ => ?_) (fun zq => absurd zq (nI_ne0 (by omega) (by omega)))
    refine am_iconst (v := 0) dL_law_970 (by decide) ?_
    refine am_icmp_eq dL_law_971 (by decide : ((971 : Nat) : Int) + (5) = ((976 : Nat) : Int)) (fun _ => ?_) (fun zq => absurd rfl zq)
    refine am_lv [2, 3, 4, 5, 6] rfl ?_
    exact kk _ w1 o3 C1
end LAW
