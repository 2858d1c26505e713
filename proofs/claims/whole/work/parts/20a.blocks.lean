theorem e_152 {d : Nat} {h : lm_H} {K : Int32 → lm_H → Prop} (x0 : Int32) (x1 : Int32) (x2 : Int32) (hl : lm_Lay h) (hyp : (if x0 < x1 then (K 0 h) else (if x2 < x0 then (K 0 h) else (K 1 h)))) : lm_call (d + 1) 152 [.int x0, .int x1, .int x2] h (lm_kI K) := by
  refine ls_enter [some (.int x0), some (.int x1), some (.int x2)] ml_152 (Nat.le_of_ble_eq_true rfl) rfl ?_
  refine ls_iload_n f_152_0 rfl ?_
  refine ls_iload_n f_152_1 rfl ?_
  refine ls_icmp_lt 14 f_152_2 rfl hyp (fun _ hyp => ?_) (fun _ hyp => ?_)
  · refine ls_iconst 0 f_152_14 (by decide) ?_
    exact ls_zreturn f_152_15 rZ_152 (by decide) hyp
  · refine ls_iload_n f_152_5 rfl ?_
    refine ls_iload_n f_152_6 rfl ?_
    refine ls_icmp_gt 14 f_152_7 rfl hyp (fun _ hyp => ?_) (fun _ hyp => ?_)
    · refine ls_iconst 0 f_152_14 (by decide) ?_
      exact ls_zreturn f_152_15 rZ_152 (by decide) hyp
    · refine ls_iconst 1 f_152_10 (by decide) ?_
      refine ls_goto 15 f_152_11 rfl ?_
      exact ls_zreturn f_152_15 rZ_152 (by decide) hyp
theorem e_153 {d : Nat} {h : lm_H} {K : Int32 → lm_H → Prop} (x1 : Int32) (hl : lm_Lay h) (hyp : lm_in (-x1) 7 False (lm_in (-x1) 7 False (K x1 (lm_si (lm_si h 92 0 x1) 93 ((-x1).toNatClampNeg) ((lm_i h 93 ((-x1).toNatClampNeg)) + 1))))) : lm_call (d + 1) 153 [.ref 92, .int x1] h (lm_kI K) := by
  refine ls_enter [some (.ref 92), some (.int x1)] ml_153 (Nat.le_of_ble_eq_true rfl) rfl ?_
  refine ls_aload_n f_153_0 rfl ?_
  refine ls_iload_n f_153_1 rfl ?_
  refine ls_putI f_153_2 p_153_3 hl S_92 rfl ?_
  refine ls_aload_n f_153_5 rfl ?_
  refine ls_getR f_153_6 p_153_7 (lm_Lay_si hl _ _ _) S_92 F_92_2 ?_
  refine ls_iload_n f_153_9 rfl ?_
  refine ls_ineg (-x1) f_153_10 rfl ?_
  refine ls_dup2 f_153_11 rfl rfl ?_
  refine ls_iald f_153_12 (lm_Lay_si hl _ _ _) S_93 hyp (fun hyp => ?_)
  refine ls_top (lm_i h 93 ((-x1).toNatClampNeg)) rfl ?_
  refine ls_iconst 1 f_153_13 (by decide) ?_
  refine ls_iadd ((lm_i h 93 ((-x1).toNatClampNeg)) + 1) f_153_14 rfl ?_
  refine ls_iast f_153_15 (lm_Lay_si hl _ _ _) S_93 hyp (fun hyp => ?_)
  refine ls_iload_n f_153_16 rfl ?_
  exact ls_ireturn f_153_17 rI_153 hyp
theorem e_154 {d : Nat} {h : lm_H} {K : Int32 → lm_H → Prop} (x1 : Int32) (hl : lm_Lay h) (hyp : lm_in (-x1) 7 False (lm_in (-x1) 7 False (K (-1000000) (lm_si (lm_si h 92 0 x1) 93 ((-x1).toNatClampNeg) ((lm_i h 93 ((-x1).toNatClampNeg)) + 1))))) : lm_call (d + 2) 154 [.ref 92, .int x1] h (lm_kI K) := by
  refine ls_enter [some (.ref 92), some (.int x1)] ml_154 (Nat.le_of_ble_eq_true rfl) rfl ?_
  refine ls_aload_n f_154_0 rfl ?_
  refine ls_iload_n f_154_1 rfl ?_
  refine ls_invV (a := 92) f_154_2 q_154_11 [.int x1] [] rfl (Nat.le_of_ble_eq_true rfl) hl S_92 ow_153 ?_
  refine ls_enter [some (.ref 92), some (.int x1)] ml_153 (Nat.le_of_ble_eq_true rfl) rfl ?_
  refine ls_aload_n f_153_0 rfl ?_
  refine ls_iload_n f_153_1 rfl ?_
  refine ls_putI f_153_2 p_153_3 hl S_92 rfl ?_
  refine ls_aload_n f_153_5 rfl ?_
  refine ls_getR f_153_6 p_153_7 (lm_Lay_si hl _ _ _) S_92 F_92_2 ?_
  refine ls_iload_n f_153_9 rfl ?_
  refine ls_ineg (-x1) f_153_10 rfl ?_
  refine ls_dup2 f_153_11 rfl rfl ?_
  refine ls_iald f_153_12 (lm_Lay_si hl _ _ _) S_93 hyp (fun hyp => ?_)
  refine ls_top (lm_i h 93 ((-x1).toNatClampNeg)) rfl ?_
  refine ls_iconst 1 f_153_13 (by decide) ?_
  refine ls_iadd ((lm_i h 93 ((-x1).toNatClampNeg)) + 1) f_153_14 rfl ?_
  refine ls_iast f_153_15 (lm_Lay_si hl _ _ _) S_93 hyp (fun hyp => ?_)
  refine ls_iload_n f_153_16 rfl ?_
  refine ls_ireturn f_153_17 rI_153 ?_
  show lm_W _ _ _ _ [.int x1] _ _
  refine ls_pop f_154_5 rfl ?_
  refine ls_ldc f_154_6 k_154_15 ?_
  exact ls_ireturn f_154_8 rI_154 hyp
theorem e_155 {d : Nat} {h : lm_H} {K : Int32 → lm_H → Prop} (x1 : Int32) (hl : lm_Lay h) (hyp : K x1 (lm_si (lm_si h 92 0 0) 92 1 ((lm_i h 92 1) + 1))) : lm_call (d + 1) 155 [.ref 92, .int x1] h (lm_kI K) := by
  refine ls_enter [some (.ref 92), some (.int x1)] ml_155 (Nat.le_of_ble_eq_true rfl) rfl ?_
  refine ls_aload_n f_155_0 rfl ?_
  refine ls_iconst 0 f_155_1 (by decide) ?_
  refine ls_putI f_155_2 p_155_3 hl S_92 rfl ?_
  refine ls_aload_n f_155_5 rfl ?_
  refine ls_dup f_155_6 rfl ?_
  refine ls_getI f_155_7 p_155_16 (lm_Lay_si hl _ _ _) S_92 ?_
  refine ls_top (lm_i h 92 1) rfl ?_
  refine ls_iconst 1 f_155_10 (by decide) ?_
  refine ls_iadd ((lm_i h 92 1) + 1) f_155_11 rfl ?_
  refine ls_putI f_155_12 p_155_16 (lm_Lay_si hl _ _ _) S_92 rfl ?_
  refine ls_iload_n f_155_15 rfl ?_
  exact ls_ireturn f_155_16 rI_155 hyp
theorem e_156 {d : Nat} {h : lm_H} {K : Int32 → lm_H → Prop} (x0 : Int32) (x1 : Int32) (hl : lm_Lay h) (hyp : (if ((x0 >>> (x1 &&& 31)) &&& 1) = 1 then (K 1 h) else (K 0 h))) : lm_call (d + 1) 156 [.int x0, .int x1] h (lm_kI K) := by
  refine ls_enter [some (.int x0), some (.int x1)] ml_156 (Nat.le_of_ble_eq_true rfl) rfl ?_
  refine ls_iload_n f_156_0 rfl ?_
  refine ls_iload_n f_156_1 rfl ?_
  refine ls_ishr (x0 >>> (x1 &&& 31)) f_156_2 rfl ?_
  refine ls_iconst 1 f_156_3 (by decide) ?_
  refine ls_iand ((x0 >>> (x1 &&& 31)) &&& 1) f_156_4 rfl ?_
  refine ls_iconst 1 f_156_5 (by decide) ?_
  refine ls_icmp_ne 13 f_156_6 rfl hyp (fun _ hyp => ?_) (fun _ hyp => ?_)
  · refine ls_iconst 1 f_156_9 (by decide) ?_
    refine ls_goto 14 f_156_10 rfl ?_
    exact ls_zreturn f_156_14 rZ_156 (by decide) hyp
  · refine ls_iconst 0 f_156_13 (by decide) ?_
    exact ls_zreturn f_156_14 rZ_156 (by decide) hyp
theorem e_158 {d : Nat} {h : lm_H} {K : Int32 → lm_H → Prop} (x1 : Int32) (hl : lm_Lay h) (hyp : (if x1 < 0 then (K (-1) (lm_si (lm_si h 92 0 (-1)) 93 1 ((lm_i h 93 1) + 1))) else (if 1 < x1 then (K (-1) (lm_si (lm_si h 92 0 (-1)) 93 1 ((lm_i h 93 1) + 1))) else (lm_W (d + 1) 158 17 [some (.ref 92), some (.int x1), some (.int 0)] [] h (lm_kI K))))) : lm_call (d + 2) 158 [.ref 92, .int x1] h (lm_kI K) := by
  refine ls_enter [some (.ref 92), some (.int x1), none] ml_158 (Nat.le_of_ble_eq_true rfl) rfl ?_
  refine ls_iload_n f_158_0 rfl ?_
  refine ls_iconst 0 f_158_1 (by decide) ?_
  refine ls_iconst 1 f_158_2 (by decide) ?_
  refine ls_invS f_158_3 q_158_115 [.int x1, .int 0, .int 1] [] rfl (Nat.le_of_ble_eq_true rfl) ?_
  refine ls_enter [some (.int x1), some (.int 0), some (.int 1)] ml_152 (Nat.le_of_ble_eq_true rfl) rfl ?_
  refine ls_iload_n f_152_0 rfl ?_
  refine ls_iload_n f_152_1 rfl ?_
  refine ls_icmp_lt 14 f_152_2 rfl hyp (fun _ hyp => ?_) (fun _ hyp => ?_)
  · refine ls_iconst 0 f_152_14 (by decide) ?_
    refine ls_zreturn f_152_15 rZ_152 (by decide) ?_
    show lm_W _ _ _ _ [.int 0] _ _
    refine ls_if_ne_T 15 f_158_6 rfl (by decide) ?_
    refine ls_aload_n f_158_9 rfl ?_
    refine ls_iconst (-1) f_158_10 (by decide) ?_
    refine ls_invV (a := 92) f_158_11 q_158_11 [.int (-1)] [] rfl (Nat.le_of_ble_eq_true rfl) hl S_92 ow_153 ?_
    refine ls_enter [some (.ref 92), some (.int (-1))] ml_153 (Nat.le_of_ble_eq_true rfl) rfl ?_
    refine ls_aload_n f_153_0 rfl ?_
    refine ls_iload_n f_153_1 rfl ?_
    refine ls_putI f_153_2 p_153_3 hl S_92 rfl ?_
    refine ls_aload_n f_153_5 rfl ?_
    refine ls_getR f_153_6 p_153_7 (lm_Lay_si hl _ _ _) S_92 F_92_2 ?_
    refine ls_iload_n f_153_9 rfl ?_
    refine ls_ineg 1 f_153_10 (by decide) ?_
    refine ls_dup2 f_153_11 rfl rfl ?_
    refine ls_ialdC 1 f_153_12 (lm_Lay_si hl _ _ _) S_93 ⟨by decide, by decide, by decide⟩ ?_
    refine ls_top (lm_i h 93 1) rfl ?_
    refine ls_iconst 1 f_153_13 (by decide) ?_
    refine ls_iadd ((lm_i h 93 1) + 1) f_153_14 rfl ?_
    refine ls_iastC 1 f_153_15 (lm_Lay_si hl _ _ _) S_93 ⟨by decide, by decide, by decide⟩ ?_
    refine ls_iload_n f_153_16 rfl ?_
    refine ls_ireturn f_153_17 rI_153 ?_
    show lm_W _ _ _ _ [.int (-1)] _ _
    exact ls_ireturn f_158_14 rI_158 hyp
  · refine ls_iload_n f_152_5 rfl ?_
    refine ls_iload_n f_152_6 rfl ?_
    refine ls_icmp_gt 14 f_152_7 rfl hyp (fun _ hyp => ?_) (fun _ hyp => ?_)
    · refine ls_iconst 0 f_152_14 (by decide) ?_
      refine ls_zreturn f_152_15 rZ_152 (by decide) ?_
      show lm_W _ _ _ _ [.int 0] _ _
      refine ls_if_ne_T 15 f_158_6 rfl (by decide) ?_
      refine ls_aload_n f_158_9 rfl ?_
      refine ls_iconst (-1) f_158_10 (by decide) ?_
      refine ls_invV (a := 92) f_158_11 q_158_11 [.int (-1)] [] rfl (Nat.le_of_ble_eq_true rfl) hl S_92 ow_153 ?_
      refine ls_enter [some (.ref 92), some (.int (-1))] ml_153 (Nat.le_of_ble_eq_true rfl) rfl ?_
      refine ls_aload_n f_153_0 rfl ?_
      refine ls_iload_n f_153_1 rfl ?_
      refine ls_putI f_153_2 p_153_3 hl S_92 rfl ?_
      refine ls_aload_n f_153_5 rfl ?_
      refine ls_getR f_153_6 p_153_7 (lm_Lay_si hl _ _ _) S_92 F_92_2 ?_
      refine ls_iload_n f_153_9 rfl ?_
      refine ls_ineg 1 f_153_10 (by decide) ?_
      refine ls_dup2 f_153_11 rfl rfl ?_
      refine ls_ialdC 1 f_153_12 (lm_Lay_si hl _ _ _) S_93 ⟨by decide, by decide, by decide⟩ ?_
      refine ls_top (lm_i h 93 1) rfl ?_
      refine ls_iconst 1 f_153_13 (by decide) ?_
      refine ls_iadd ((lm_i h 93 1) + 1) f_153_14 rfl ?_
      refine ls_iastC 1 f_153_15 (lm_Lay_si hl _ _ _) S_93 ⟨by decide, by decide, by decide⟩ ?_
      refine ls_iload_n f_153_16 rfl ?_
      refine ls_ireturn f_153_17 rI_153 ?_
      show lm_W _ _ _ _ [.int (-1)] _ _
      exact ls_ireturn f_158_14 rI_158 hyp
    · refine ls_iconst 1 f_152_10 (by decide) ?_
      refine ls_goto 15 f_152_11 rfl ?_
      refine ls_zreturn f_152_15 rZ_152 (by decide) ?_
      show lm_W _ _ _ _ [.int 1] _ _
      refine ls_if_ne_F 15 f_158_6 rfl (by decide) ?_
      refine ls_iconst 0 f_158_15 (by decide) ?_
      refine ls_istore_n [some (.ref 92), some (.int x1), some (.int 0)] f_158_16 (Nat.le_of_ble_eq_true rfl) rfl ?_
      exact hyp
theorem b_158_17 {d : Nat} {h : lm_H} {K : Int32 → lm_H → Prop} (x1 : Int32) (x2 : Int32) (hl : lm_Lay h) (hyp : (if x2 < 4893 then (lm_in x2 4893 False (lm_in ((4893 * x1) + x2) 9786 False (lm_W (d + 1) 158 17 [some (.ref 92), some (.int x1), some (.int (x2 + 1))] [] (lm_si h 95 (((4893 * x1) + x2).toNatClampNeg) (lm_i h 94 x2.toNatClampNeg)) (lm_kI K)))) else (lm_in x1 2 False (K 0 (lm_si (lm_si (lm_si h 96 x1.toNatClampNeg 1) 92 0 0) 92 1 ((lm_i h 92 1) + 1)))))) : lm_W (d + 1) 158 17 [some (.ref 92), some (.int x1), some (.int x2)] [] h (lm_kI K) := by
  refine ls_iload_n f_158_17 rfl ?_
  refine ls_sipush 4893 f_158_18 (by decide) ?_
  refine ls_icmp_ge 48 f_158_21 rfl hyp (fun _ hyp => ?_) (fun _ hyp => ?_)
  · refine ls_aload_n f_158_24 rfl ?_
    refine ls_getR f_158_25 p_158_28 hl S_92 F_92_4 ?_
    refine ls_sipush 4893 f_158_28 (by decide) ?_
    refine ls_iload_n f_158_31 rfl ?_
    refine ls_imul (4893 * x1) f_158_32 rfl ?_
    refine ls_iload_n f_158_33 rfl ?_
    refine ls_iadd ((4893 * x1) + x2) f_158_34 rfl ?_
    refine ls_aload_n f_158_35 rfl ?_
    refine ls_getR f_158_36 p_158_25 hl S_92 F_92_3 ?_
    refine ls_iload_n f_158_39 rfl ?_
    refine ls_iald f_158_40 hl S_94 hyp (fun hyp => ?_)
    refine ls_iast f_158_41 hl S_95 hyp (fun hyp => ?_)
    refine ls_iinc (x2 + 1) [some (.ref 92), some (.int x1), some (.int (x2 + 1))] f_158_42 rfl (Nat.le_of_ble_eq_true rfl) rfl rfl ?_
    refine ls_goto 17 f_158_45 rfl ?_
    exact hyp
  · refine ls_aload_n f_158_48 rfl ?_
    refine ls_getR f_158_49 p_158_31 hl S_92 F_92_5 ?_
    refine ls_iload_n f_158_52 rfl ?_
    refine ls_iconst 1 f_158_53 (by decide) ?_
    refine ls_zast f_158_54 hl S_96 hyp (fun hyp => ?_)
    refine ls_heap (lm_si h 96 x1.toNatClampNeg 1) rfl ?_
    refine ls_aload_n f_158_55 rfl ?_
    refine ls_iconst 0 f_158_56 (by decide) ?_
    refine ls_invV (a := 92) f_158_57 q_158_119 [.int 0] [] rfl (Nat.le_of_ble_eq_true rfl) (lm_Lay_si hl _ _ _) S_92 ow_155 ?_
    refine ls_enter [some (.ref 92), some (.int 0)] ml_155 (Nat.le_of_ble_eq_true rfl) rfl ?_
    refine ls_aload_n f_155_0 rfl ?_
    refine ls_iconst 0 f_155_1 (by decide) ?_
    refine ls_putI f_155_2 p_155_3 (lm_Lay_si hl _ _ _) S_92 rfl ?_
    refine ls_aload_n f_155_5 rfl ?_
    refine ls_dup f_155_6 rfl ?_
    refine ls_getI f_155_7 p_155_16 (lm_Lay_si (lm_Lay_si hl _ _ _) _ _ _) S_92 ?_
    refine ls_top (lm_i h 92 1) rfl ?_
    refine ls_iconst 1 f_155_10 (by decide) ?_
    refine ls_iadd ((lm_i h 92 1) + 1) f_155_11 rfl ?_
    refine ls_putI f_155_12 p_155_16 (lm_Lay_si (lm_Lay_si hl _ _ _) _ _ _) S_92 rfl ?_
    refine ls_iload_n f_155_15 rfl ?_
    refine ls_ireturn f_155_16 rI_155 ?_
    show lm_W _ _ _ _ [.int 0] _ _
    exact ls_ireturn f_158_60 rI_158 hyp
theorem e_159 {d : Nat} {h : lm_H} {K : Int32 → lm_H → Prop} (x1 : Int32) (hl : lm_Lay h) (hyp : (if x1 < 0 then (K (-1) (lm_si (lm_si h 92 0 (-1)) 93 1 ((lm_i h 93 1) + 1))) else (if 1 < x1 then (K (-1) (lm_si (lm_si h 92 0 (-1)) 93 1 ((lm_i h 93 1) + 1))) else (lm_in x1 2 False (if (lm_i h 96 x1.toNatClampNeg) = 0 then (K (-2) (lm_si (lm_si h 92 0 (-2)) 93 2 ((lm_i h 93 2) + 1))) else (lm_W (d + 1) 159 33 [some (.ref 92), some (.int x1), some (.int 0)] [] h (lm_kI K))))))) : lm_call (d + 2) 159 [.ref 92, .int x1] h (lm_kI K) := by
  refine ls_enter [some (.ref 92), some (.int x1), none] ml_159 (Nat.le_of_ble_eq_true rfl) rfl ?_
  refine ls_iload_n f_159_0 rfl ?_
  refine ls_iconst 0 f_159_1 (by decide) ?_
  refine ls_iconst 1 f_159_2 (by decide) ?_
  refine ls_invS f_159_3 q_159_115 [.int x1, .int 0, .int 1] [] rfl (Nat.le_of_ble_eq_true rfl) ?_
  refine ls_enter [some (.int x1), some (.int 0), some (.int 1)] ml_152 (Nat.le_of_ble_eq_true rfl) rfl ?_
  refine ls_iload_n f_152_0 rfl ?_
  refine ls_iload_n f_152_1 rfl ?_
  refine ls_icmp_lt 14 f_152_2 rfl hyp (fun _ hyp => ?_) (fun _ hyp => ?_)
  · refine ls_iconst 0 f_152_14 (by decide) ?_
    refine ls_zreturn f_152_15 rZ_152 (by decide) ?_
    show lm_W _ _ _ _ [.int 0] _ _
    refine ls_if_ne_T 15 f_159_6 rfl (by decide) ?_
    refine ls_aload_n f_159_9 rfl ?_
    refine ls_iconst (-1) f_159_10 (by decide) ?_
    refine ls_invV (a := 92) f_159_11 q_159_11 [.int (-1)] [] rfl (Nat.le_of_ble_eq_true rfl) hl S_92 ow_153 ?_
    refine ls_enter [some (.ref 92), some (.int (-1))] ml_153 (Nat.le_of_ble_eq_true rfl) rfl ?_
    refine ls_aload_n f_153_0 rfl ?_
    refine ls_iload_n f_153_1 rfl ?_
    refine ls_putI f_153_2 p_153_3 hl S_92 rfl ?_
    refine ls_aload_n f_153_5 rfl ?_
    refine ls_getR f_153_6 p_153_7 (lm_Lay_si hl _ _ _) S_92 F_92_2 ?_
    refine ls_iload_n f_153_9 rfl ?_
    refine ls_ineg 1 f_153_10 (by decide) ?_
    refine ls_dup2 f_153_11 rfl rfl ?_
    refine ls_ialdC 1 f_153_12 (lm_Lay_si hl _ _ _) S_93 ⟨by decide, by decide, by decide⟩ ?_
    refine ls_top (lm_i h 93 1) rfl ?_
    refine ls_iconst 1 f_153_13 (by decide) ?_
    refine ls_iadd ((lm_i h 93 1) + 1) f_153_14 rfl ?_
    refine ls_iastC 1 f_153_15 (lm_Lay_si hl _ _ _) S_93 ⟨by decide, by decide, by decide⟩ ?_
    refine ls_iload_n f_153_16 rfl ?_
    refine ls_ireturn f_153_17 rI_153 ?_
    show lm_W _ _ _ _ [.int (-1)] _ _
    exact ls_ireturn f_159_14 rI_159 hyp
  · refine ls_iload_n f_152_5 rfl ?_
    refine ls_iload_n f_152_6 rfl ?_
    refine ls_icmp_gt 14 f_152_7 rfl hyp (fun _ hyp => ?_) (fun _ hyp => ?_)
    · refine ls_iconst 0 f_152_14 (by decide) ?_
      refine ls_zreturn f_152_15 rZ_152 (by decide) ?_
      show lm_W _ _ _ _ [.int 0] _ _
      refine ls_if_ne_T 15 f_159_6 rfl (by decide) ?_
      refine ls_aload_n f_159_9 rfl ?_
      refine ls_iconst (-1) f_159_10 (by decide) ?_
      refine ls_invV (a := 92) f_159_11 q_159_11 [.int (-1)] [] rfl (Nat.le_of_ble_eq_true rfl) hl S_92 ow_153 ?_
      refine ls_enter [some (.ref 92), some (.int (-1))] ml_153 (Nat.le_of_ble_eq_true rfl) rfl ?_
      refine ls_aload_n f_153_0 rfl ?_
      refine ls_iload_n f_153_1 rfl ?_
      refine ls_putI f_153_2 p_153_3 hl S_92 rfl ?_
      refine ls_aload_n f_153_5 rfl ?_
      refine ls_getR f_153_6 p_153_7 (lm_Lay_si hl _ _ _) S_92 F_92_2 ?_
      refine ls_iload_n f_153_9 rfl ?_
      refine ls_ineg 1 f_153_10 (by decide) ?_
      refine ls_dup2 f_153_11 rfl rfl ?_
      refine ls_ialdC 1 f_153_12 (lm_Lay_si hl _ _ _) S_93 ⟨by decide, by decide, by decide⟩ ?_
      refine ls_top (lm_i h 93 1) rfl ?_
      refine ls_iconst 1 f_153_13 (by decide) ?_
      refine ls_iadd ((lm_i h 93 1) + 1) f_153_14 rfl ?_
      refine ls_iastC 1 f_153_15 (lm_Lay_si hl _ _ _) S_93 ⟨by decide, by decide, by decide⟩ ?_
      refine ls_iload_n f_153_16 rfl ?_
      refine ls_ireturn f_153_17 rI_153 ?_
      show lm_W _ _ _ _ [.int (-1)] _ _
      exact ls_ireturn f_159_14 rI_159 hyp
    · refine ls_iconst 1 f_152_10 (by decide) ?_
      refine ls_goto 15 f_152_11 rfl ?_
      refine ls_zreturn f_152_15 rZ_152 (by decide) ?_
      show lm_W _ _ _ _ [.int 1] _ _
      refine ls_if_ne_F 15 f_159_6 rfl (by decide) ?_
      refine ls_aload_n f_159_15 rfl ?_
      refine ls_getR f_159_16 p_159_31 hl S_92 F_92_5 ?_
      refine ls_iload_n f_159_19 rfl ?_
      refine ls_zald f_159_20 hl S_96 hyp (fun hyp => ?_)
      refine ls_if_ne 31 f_159_21 rfl hyp (fun _ hyp => ?_) (fun _ hyp => ?_)
      · refine ls_aload_n f_159_24 rfl ?_
        refine ls_bipush (-2) f_159_25 (by decide) ?_
        refine ls_invV (a := 92) f_159_27 q_159_11 [.int (-2)] [] rfl (Nat.le_of_ble_eq_true rfl) hl S_92 ow_153 ?_
        refine ls_enter [some (.ref 92), some (.int (-2))] ml_153 (Nat.le_of_ble_eq_true rfl) rfl ?_
        refine ls_aload_n f_153_0 rfl ?_
        refine ls_iload_n f_153_1 rfl ?_
        refine ls_putI f_153_2 p_153_3 hl S_92 rfl ?_
        refine ls_aload_n f_153_5 rfl ?_
        refine ls_getR f_153_6 p_153_7 (lm_Lay_si hl _ _ _) S_92 F_92_2 ?_
        refine ls_iload_n f_153_9 rfl ?_
        refine ls_ineg 2 f_153_10 (by decide) ?_
        refine ls_dup2 f_153_11 rfl rfl ?_
        refine ls_ialdC 2 f_153_12 (lm_Lay_si hl _ _ _) S_93 ⟨by decide, by decide, by decide⟩ ?_
        refine ls_top (lm_i h 93 2) rfl ?_
        refine ls_iconst 1 f_153_13 (by decide) ?_
        refine ls_iadd ((lm_i h 93 2) + 1) f_153_14 rfl ?_
        refine ls_iastC 2 f_153_15 (lm_Lay_si hl _ _ _) S_93 ⟨by decide, by decide, by decide⟩ ?_
        refine ls_iload_n f_153_16 rfl ?_
        refine ls_ireturn f_153_17 rI_153 ?_
        show lm_W _ _ _ _ [.int (-2)] _ _
        exact ls_ireturn f_159_30 rI_159 hyp
      · refine ls_iconst 0 f_159_31 (by decide) ?_
        refine ls_istore_n [some (.ref 92), some (.int x1), some (.int 0)] f_159_32 (Nat.le_of_ble_eq_true rfl) rfl ?_
        exact hyp
theorem b_159_33 {d : Nat} {h : lm_H} {K : Int32 → lm_H → Prop} (x1 : Int32) (x2 : Int32) (hl : lm_Lay h) (hyp : (if x2 < 4893 then (lm_in ((4893 * x1) + x2) 9786 False (lm_in x2 4893 False (lm_W (d + 1) 159 33 [some (.ref 92), some (.int x1), some (.int (x2 + 1))] [] (lm_si h 94 x2.toNatClampNeg (lm_i h 95 (((4893 * x1) + x2).toNatClampNeg))) (lm_kI K)))) else (K 0 (lm_si (lm_si h 92 0 0) 92 1 ((lm_i h 92 1) + 1))))) : lm_W (d + 1) 159 33 [some (.ref 92), some (.int x1), some (.int x2)] [] h (lm_kI K) := by
  refine ls_iload_n f_159_33 rfl ?_
  refine ls_sipush 4893 f_159_34 (by decide) ?_
  refine ls_icmp_ge 64 f_159_37 rfl hyp (fun _ hyp => ?_) (fun _ hyp => ?_)
  · refine ls_aload_n f_159_40 rfl ?_
    refine ls_getR f_159_41 p_159_25 hl S_92 F_92_3 ?_
    refine ls_iload_n f_159_44 rfl ?_
    refine ls_aload_n f_159_45 rfl ?_
    refine ls_getR f_159_46 p_159_28 hl S_92 F_92_4 ?_
    refine ls_sipush 4893 f_159_49 (by decide) ?_
    refine ls_iload_n f_159_52 rfl ?_
    refine ls_imul (4893 * x1) f_159_53 rfl ?_
    refine ls_iload_n f_159_54 rfl ?_
    refine ls_iadd ((4893 * x1) + x2) f_159_55 rfl ?_
    refine ls_iald f_159_56 hl S_95 hyp (fun hyp => ?_)
    refine ls_iast f_159_57 hl S_94 hyp (fun hyp => ?_)
    refine ls_iinc (x2 + 1) [some (.ref 92), some (.int x1), some (.int (x2 + 1))] f_159_58 rfl (Nat.le_of_ble_eq_true rfl) rfl rfl ?_
    refine ls_goto 33 f_159_61 rfl ?_
    exact hyp
  · refine ls_aload_n f_159_64 rfl ?_
    refine ls_iconst 0 f_159_65 (by decide) ?_
    refine ls_invV (a := 92) f_159_66 q_159_119 [.int 0] [] rfl (Nat.le_of_ble_eq_true rfl) hl S_92 ow_155 ?_
    refine ls_enter [some (.ref 92), some (.int 0)] ml_155 (Nat.le_of_ble_eq_true rfl) rfl ?_
    refine ls_aload_n f_155_0 rfl ?_
    refine ls_iconst 0 f_155_1 (by decide) ?_
    refine ls_putI f_155_2 p_155_3 hl S_92 rfl ?_
    refine ls_aload_n f_155_5 rfl ?_
    refine ls_dup f_155_6 rfl ?_
    refine ls_getI f_155_7 p_155_16 (lm_Lay_si hl _ _ _) S_92 ?_
    refine ls_top (lm_i h 92 1) rfl ?_
    refine ls_iconst 1 f_155_10 (by decide) ?_
    refine ls_iadd ((lm_i h 92 1) + 1) f_155_11 rfl ?_
    refine ls_putI f_155_12 p_155_16 (lm_Lay_si hl _ _ _) S_92 rfl ?_
    refine ls_iload_n f_155_15 rfl ?_
    refine ls_ireturn f_155_16 rI_155 ?_
    show lm_W _ _ _ _ [.int 0] _ _
    exact ls_ireturn f_159_69 rI_159 hyp
theorem e_160 {d : Nat} {h : lm_H} {K : Int32 → lm_H → Prop} (hl : lm_Lay h) (hyp : K (lm_i h 94 81) h) : lm_call (d + 1) 160 [.ref 92] h (lm_kI K) := by
  refine ls_enter [some (.ref 92)] ml_160 (Nat.le_of_ble_eq_true rfl) rfl ?_
  refine ls_aload_n f_160_0 rfl ?_
  refine ls_getR f_160_1 p_160_25 hl S_92 F_92_3 ?_
  refine ls_bipush 81 f_160_4 (by decide) ?_
  refine ls_ialdC 81 f_160_6 hl S_94 ⟨by decide, by decide, by decide⟩ ?_
  exact ls_ireturn f_160_7 rI_160 hyp
theorem e_161 {d : Nat} {h : lm_H} {K : Int32 → lm_H → Prop} (hl : lm_Lay h) (hyp : K (lm_i h 94 82) h) : lm_call (d + 1) 161 [.ref 92] h (lm_kI K) := by
  refine ls_enter [some (.ref 92)] ml_161 (Nat.le_of_ble_eq_true rfl) rfl ?_
  refine ls_aload_n f_161_0 rfl ?_
  refine ls_getR f_161_1 p_161_25 hl S_92 F_92_3 ?_
  refine ls_bipush 82 f_161_4 (by decide) ?_
  refine ls_ialdC 82 f_161_6 hl S_94 ⟨by decide, by decide, by decide⟩ ?_
  exact ls_ireturn f_161_7 rI_161 hyp
theorem e_162 {d : Nat} {h : lm_H} {K : Int32 → lm_H → Prop} (x1 : Int32) (hl : lm_Lay h) (hyp : (if x1 < 0 then (K 0 h) else (if ((lm_i h 94 81) - 1) < x1 then (K 0 h) else (K 1 h)))) : lm_call (d + 2) 162 [.ref 92, .int x1] h (lm_kI K) := by
  refine ls_enter [some (.ref 92), some (.int x1)] ml_162 (Nat.le_of_ble_eq_true rfl) rfl ?_
  refine ls_iload_n f_162_0 rfl ?_
  refine ls_iconst 0 f_162_1 (by decide) ?_
  refine ls_aload_n f_162_2 rfl ?_
  refine ls_invV (a := 92) f_162_3 q_162_122 [] [.int 0, .int x1] rfl (Nat.le_of_ble_eq_true rfl) hl S_92 ow_160 ?_
  refine ls_enter [some (.ref 92)] ml_160 (Nat.le_of_ble_eq_true rfl) rfl ?_
  refine ls_aload_n f_160_0 rfl ?_
  refine ls_getR f_160_1 p_160_25 hl S_92 F_92_3 ?_
  refine ls_bipush 81 f_160_4 (by decide) ?_
  refine ls_ialdC 81 f_160_6 hl S_94 ⟨by decide, by decide, by decide⟩ ?_
  refine ls_ireturn f_160_7 rI_160 ?_
  show lm_W _ _ _ _ [.int (lm_i h 94 81), .int 0, .int x1] _ _
  refine ls_iconst 1 f_162_6 (by decide) ?_
  refine ls_isub ((lm_i h 94 81) - 1) f_162_7 rfl ?_
  refine ls_invS f_162_8 q_162_115 [.int x1, .int 0, .int ((lm_i h 94 81) - 1)] [] rfl (Nat.le_of_ble_eq_true rfl) ?_
  refine ls_enter [some (.int x1), some (.int 0), some (.int ((lm_i h 94 81) - 1))] ml_152 (Nat.le_of_ble_eq_true rfl) rfl ?_
  refine ls_iload_n f_152_0 rfl ?_
  refine ls_iload_n f_152_1 rfl ?_
  refine ls_icmp_lt 14 f_152_2 rfl hyp (fun _ hyp => ?_) (fun _ hyp => ?_)
  · refine ls_iconst 0 f_152_14 (by decide) ?_
    refine ls_zreturn f_152_15 rZ_152 (by decide) ?_
    show lm_W _ _ _ _ [.int 0] _ _
    exact ls_zreturn f_162_11 rZ_162 (by decide) hyp
  · refine ls_iload_n f_152_5 rfl ?_
    refine ls_iload_n f_152_6 rfl ?_
    refine ls_icmp_gt 14 f_152_7 rfl hyp (fun _ hyp => ?_) (fun _ hyp => ?_)
    · refine ls_iconst 0 f_152_14 (by decide) ?_
      refine ls_zreturn f_152_15 rZ_152 (by decide) ?_
      show lm_W _ _ _ _ [.int 0] _ _
      exact ls_zreturn f_162_11 rZ_162 (by decide) hyp
    · refine ls_iconst 1 f_152_10 (by decide) ?_
      refine ls_goto 15 f_152_11 rfl ?_
      refine ls_zreturn f_152_15 rZ_152 (by decide) ?_
      show lm_W _ _ _ _ [.int 1] _ _
      exact ls_zreturn f_162_11 rZ_162 (by decide) hyp
theorem e_163 {d : Nat} {h : lm_H} {K : Int32 → lm_H → Prop} (x1 : Int32) (hl : lm_Lay h) (hyp : (if x1 < 0 then (K 0 h) else (if ((lm_i h 94 82) - 1) < x1 then (K 0 h) else (K 1 h)))) : lm_call (d + 2) 163 [.ref 92, .int x1] h (lm_kI K) := by
  refine ls_enter [some (.ref 92), some (.int x1)] ml_163 (Nat.le_of_ble_eq_true rfl) rfl ?_
  refine ls_iload_n f_163_0 rfl ?_
  refine ls_iconst 0 f_163_1 (by decide) ?_
  refine ls_aload_n f_163_2 rfl ?_
  refine ls_invV (a := 92) f_163_3 q_163_126 [] [.int 0, .int x1] rfl (Nat.le_of_ble_eq_true rfl) hl S_92 ow_161 ?_
  refine ls_enter [some (.ref 92)] ml_161 (Nat.le_of_ble_eq_true rfl) rfl ?_
  refine ls_aload_n f_161_0 rfl ?_
  refine ls_getR f_161_1 p_161_25 hl S_92 F_92_3 ?_
  refine ls_bipush 82 f_161_4 (by decide) ?_
  refine ls_ialdC 82 f_161_6 hl S_94 ⟨by decide, by decide, by decide⟩ ?_
  refine ls_ireturn f_161_7 rI_161 ?_
  show lm_W _ _ _ _ [.int (lm_i h 94 82), .int 0, .int x1] _ _
  refine ls_iconst 1 f_163_6 (by decide) ?_
  refine ls_isub ((lm_i h 94 82) - 1) f_163_7 rfl ?_
  refine ls_invS f_163_8 q_163_115 [.int x1, .int 0, .int ((lm_i h 94 82) - 1)] [] rfl (Nat.le_of_ble_eq_true rfl) ?_
  refine ls_enter [some (.int x1), some (.int 0), some (.int ((lm_i h 94 82) - 1))] ml_152 (Nat.le_of_ble_eq_true rfl) rfl ?_
  refine ls_iload_n f_152_0 rfl ?_
  refine ls_iload_n f_152_1 rfl ?_
  refine ls_icmp_lt 14 f_152_2 rfl hyp (fun _ hyp => ?_) (fun _ hyp => ?_)
  · refine ls_iconst 0 f_152_14 (by decide) ?_
    refine ls_zreturn f_152_15 rZ_152 (by decide) ?_
    show lm_W _ _ _ _ [.int 0] _ _
    exact ls_zreturn f_163_11 rZ_163 (by decide) hyp
  · refine ls_iload_n f_152_5 rfl ?_
    refine ls_iload_n f_152_6 rfl ?_
    refine ls_icmp_gt 14 f_152_7 rfl hyp (fun _ hyp => ?_) (fun _ hyp => ?_)
    · refine ls_iconst 0 f_152_14 (by decide) ?_
      refine ls_zreturn f_152_15 rZ_152 (by decide) ?_
      show lm_W _ _ _ _ [.int 0] _ _
      exact ls_zreturn f_163_11 rZ_163 (by decide) hyp
    · refine ls_iconst 1 f_152_10 (by decide) ?_
      refine ls_goto 15 f_152_11 rfl ?_
      refine ls_zreturn f_152_15 rZ_152 (by decide) ?_
      show lm_W _ _ _ _ [.int 1] _ _
      exact ls_zreturn f_163_11 rZ_163 (by decide) hyp
theorem e_164 {d : Nat} {h : lm_H} {K : Int32 → lm_H → Prop} (x1 : Int32) (hl : lm_Lay h) (hyp : (if x1 < 0 then (K (-1) (lm_si (lm_si h 92 0 (-1)) 93 1 ((lm_i h 93 1) + 1))) else (if 9 < x1 then (K (-1) (lm_si (lm_si h 92 0 (-1)) 93 1 ((lm_i h 93 1) + 1))) else (if (lm_i h 94 81) = 5 then (K (-5) (lm_si (lm_si h 92 0 (-5)) 93 5 ((lm_i h 93 5) + 1))) else (lm_in (0 + (lm_i h 94 81)) 4893 False (lm_in (71 + (lm_i h 94 81)) 4893 False (K (lm_i h 94 81) (lm_si (lm_si (lm_si (lm_si (lm_si h 94 ((0 + (lm_i h 94 81)).toNatClampNeg) x1) 94 ((71 + (lm_i h 94 81)).toNatClampNeg) (-1)) 94 81 ((lm_i (lm_si (lm_si h 94 ((0 + (lm_i h 94 81)).toNatClampNeg) x1) 94 ((71 + (lm_i h 94 81)).toNatClampNeg) (-1)) 94 81) + 1)) 92 0 0) 92 1 ((lm_i h 92 1) + 1))))))))) : lm_call (d + 2) 164 [.ref 92, .int x1] h (lm_kI K) := by
  refine ls_enter [some (.ref 92), some (.int x1), none] ml_164 (Nat.le_of_ble_eq_true rfl) rfl ?_
  refine ls_iload_n f_164_0 rfl ?_
  refine ls_iconst 0 f_164_1 (by decide) ?_
  refine ls_bipush 9 f_164_2 (by decide) ?_
  refine ls_invS f_164_4 q_164_115 [.int x1, .int 0, .int 9] [] rfl (Nat.le_of_ble_eq_true rfl) ?_
  refine ls_enter [some (.int x1), some (.int 0), some (.int 9)] ml_152 (Nat.le_of_ble_eq_true rfl) rfl ?_
  refine ls_iload_n f_152_0 rfl ?_
  refine ls_iload_n f_152_1 rfl ?_
  refine ls_icmp_lt 14 f_152_2 rfl hyp (fun _ hyp => ?_) (fun _ hyp => ?_)
  · refine ls_iconst 0 f_152_14 (by decide) ?_
    refine ls_zreturn f_152_15 rZ_152 (by decide) ?_
    show lm_W _ _ _ _ [.int 0] _ _
    refine ls_if_ne_T 16 f_164_7 rfl (by decide) ?_
    refine ls_aload_n f_164_10 rfl ?_
    refine ls_iconst (-1) f_164_11 (by decide) ?_
    refine ls_invV (a := 92) f_164_12 q_164_11 [.int (-1)] [] rfl (Nat.le_of_ble_eq_true rfl) hl S_92 ow_153 ?_
    refine ls_enter [some (.ref 92), some (.int (-1))] ml_153 (Nat.le_of_ble_eq_true rfl) rfl ?_
    refine ls_aload_n f_153_0 rfl ?_
    refine ls_iload_n f_153_1 rfl ?_
    refine ls_putI f_153_2 p_153_3 hl S_92 rfl ?_
    refine ls_aload_n f_153_5 rfl ?_
    refine ls_getR f_153_6 p_153_7 (lm_Lay_si hl _ _ _) S_92 F_92_2 ?_
    refine ls_iload_n f_153_9 rfl ?_
    refine ls_ineg 1 f_153_10 (by decide) ?_
    refine ls_dup2 f_153_11 rfl rfl ?_
    refine ls_ialdC 1 f_153_12 (lm_Lay_si hl _ _ _) S_93 ⟨by decide, by decide, by decide⟩ ?_
    refine ls_top (lm_i h 93 1) rfl ?_
    refine ls_iconst 1 f_153_13 (by decide) ?_
    refine ls_iadd ((lm_i h 93 1) + 1) f_153_14 rfl ?_
    refine ls_iastC 1 f_153_15 (lm_Lay_si hl _ _ _) S_93 ⟨by decide, by decide, by decide⟩ ?_
    refine ls_iload_n f_153_16 rfl ?_
    refine ls_ireturn f_153_17 rI_153 ?_
    show lm_W _ _ _ _ [.int (-1)] _ _
    exact ls_ireturn f_164_15 rI_164 hyp
  · refine ls_iload_n f_152_5 rfl ?_
    refine ls_iload_n f_152_6 rfl ?_
    refine ls_icmp_gt 14 f_152_7 rfl hyp (fun _ hyp => ?_) (fun _ hyp => ?_)
    · refine ls_iconst 0 f_152_14 (by decide) ?_
      refine ls_zreturn f_152_15 rZ_152 (by decide) ?_
      show lm_W _ _ _ _ [.int 0] _ _
      refine ls_if_ne_T 16 f_164_7 rfl (by decide) ?_
      refine ls_aload_n f_164_10 rfl ?_
      refine ls_iconst (-1) f_164_11 (by decide) ?_
      refine ls_invV (a := 92) f_164_12 q_164_11 [.int (-1)] [] rfl (Nat.le_of_ble_eq_true rfl) hl S_92 ow_153 ?_
      refine ls_enter [some (.ref 92), some (.int (-1))] ml_153 (Nat.le_of_ble_eq_true rfl) rfl ?_
      refine ls_aload_n f_153_0 rfl ?_
      refine ls_iload_n f_153_1 rfl ?_
      refine ls_putI f_153_2 p_153_3 hl S_92 rfl ?_
      refine ls_aload_n f_153_5 rfl ?_
      refine ls_getR f_153_6 p_153_7 (lm_Lay_si hl _ _ _) S_92 F_92_2 ?_
      refine ls_iload_n f_153_9 rfl ?_
      refine ls_ineg 1 f_153_10 (by decide) ?_
      refine ls_dup2 f_153_11 rfl rfl ?_
      refine ls_ialdC 1 f_153_12 (lm_Lay_si hl _ _ _) S_93 ⟨by decide, by decide, by decide⟩ ?_
      refine ls_top (lm_i h 93 1) rfl ?_
      refine ls_iconst 1 f_153_13 (by decide) ?_
      refine ls_iadd ((lm_i h 93 1) + 1) f_153_14 rfl ?_
      refine ls_iastC 1 f_153_15 (lm_Lay_si hl _ _ _) S_93 ⟨by decide, by decide, by decide⟩ ?_
      refine ls_iload_n f_153_16 rfl ?_
      refine ls_ireturn f_153_17 rI_153 ?_
      show lm_W _ _ _ _ [.int (-1)] _ _
      exact ls_ireturn f_164_15 rI_164 hyp
    · refine ls_iconst 1 f_152_10 (by decide) ?_
      refine ls_goto 15 f_152_11 rfl ?_
      refine ls_zreturn f_152_15 rZ_152 (by decide) ?_
      show lm_W _ _ _ _ [.int 1] _ _
      refine ls_if_ne_F 16 f_164_7 rfl (by decide) ?_
      refine ls_aload_n f_164_16 rfl ?_
      refine ls_invV (a := 92) f_164_17 q_164_122 [] [] rfl (Nat.le_of_ble_eq_true rfl) hl S_92 ow_160 ?_
      refine ls_enter [some (.ref 92)] ml_160 (Nat.le_of_ble_eq_true rfl) rfl ?_
      refine ls_aload_n f_160_0 rfl ?_
      refine ls_getR f_160_1 p_160_25 hl S_92 F_92_3 ?_
      refine ls_bipush 81 f_160_4 (by decide) ?_
      refine ls_ialdC 81 f_160_6 hl S_94 ⟨by decide, by decide, by decide⟩ ?_
      refine ls_ireturn f_160_7 rI_160 ?_
      show lm_W _ _ _ _ [.int (lm_i h 94 81)] _ _
      refine ls_iconst 5 f_164_20 (by decide) ?_
      refine ls_icmp_ne 31 f_164_21 rfl hyp (fun _ hyp => ?_) (fun _ hyp => ?_)
      · refine ls_aload_n f_164_24 rfl ?_
        refine ls_bipush (-5) f_164_25 (by decide) ?_
        refine ls_invV (a := 92) f_164_27 q_164_11 [.int (-5)] [] rfl (Nat.le_of_ble_eq_true rfl) hl S_92 ow_153 ?_
        refine ls_enter [some (.ref 92), some (.int (-5))] ml_153 (Nat.le_of_ble_eq_true rfl) rfl ?_
        refine ls_aload_n f_153_0 rfl ?_
        refine ls_iload_n f_153_1 rfl ?_
        refine ls_putI f_153_2 p_153_3 hl S_92 rfl ?_
        refine ls_aload_n f_153_5 rfl ?_
        refine ls_getR f_153_6 p_153_7 (lm_Lay_si hl _ _ _) S_92 F_92_2 ?_
        refine ls_iload_n f_153_9 rfl ?_
        refine ls_ineg 5 f_153_10 (by decide) ?_
        refine ls_dup2 f_153_11 rfl rfl ?_
        refine ls_ialdC 5 f_153_12 (lm_Lay_si hl _ _ _) S_93 ⟨by decide, by decide, by decide⟩ ?_
        refine ls_top (lm_i h 93 5) rfl ?_
        refine ls_iconst 1 f_153_13 (by decide) ?_
        refine ls_iadd ((lm_i h 93 5) + 1) f_153_14 rfl ?_
        refine ls_iastC 5 f_153_15 (lm_Lay_si hl _ _ _) S_93 ⟨by decide, by decide, by decide⟩ ?_
        refine ls_iload_n f_153_16 rfl ?_
        refine ls_ireturn f_153_17 rI_153 ?_
        show lm_W _ _ _ _ [.int (-5)] _ _
        exact ls_ireturn f_164_30 rI_164 hyp
      · refine ls_aload_n f_164_31 rfl ?_
        refine ls_invV (a := 92) f_164_32 q_164_122 [] [] rfl (Nat.le_of_ble_eq_true rfl) hl S_92 ow_160 ?_
        refine ls_enter [some (.ref 92)] ml_160 (Nat.le_of_ble_eq_true rfl) rfl ?_
        refine ls_aload_n f_160_0 rfl ?_
        refine ls_getR f_160_1 p_160_25 hl S_92 F_92_3 ?_
        refine ls_bipush 81 f_160_4 (by decide) ?_
        refine ls_ialdC 81 f_160_6 hl S_94 ⟨by decide, by decide, by decide⟩ ?_
        refine ls_ireturn f_160_7 rI_160 ?_
        show lm_W _ _ _ _ [.int (lm_i h 94 81)] _ _
        refine ls_istore_n [some (.ref 92), some (.int x1), some (.int (lm_i h 94 81))] f_164_35 (Nat.le_of_ble_eq_true rfl) rfl ?_
        refine ls_aload_n f_164_36 rfl ?_
        refine ls_getR f_164_37 p_164_25 hl S_92 F_92_3 ?_
        refine ls_iconst 0 f_164_40 (by decide) ?_
        refine ls_iload_n f_164_41 rfl ?_
        refine ls_iadd (0 + (lm_i h 94 81)) f_164_42 rfl ?_
        refine ls_iload_n f_164_43 rfl ?_
        refine ls_iast f_164_44 hl S_94 hyp (fun hyp => ?_)
        refine ls_aload_n f_164_45 rfl ?_
        refine ls_getR f_164_46 p_164_25 (lm_Lay_si hl _ _ _) S_92 F_92_3 ?_
        refine ls_bipush 71 f_164_49 (by decide) ?_
        refine ls_iload_n f_164_51 rfl ?_
        refine ls_iadd (71 + (lm_i h 94 81)) f_164_52 rfl ?_
        refine ls_iconst (-1) f_164_53 (by decide) ?_
        refine ls_iast f_164_54 (lm_Lay_si hl _ _ _) S_94 hyp (fun hyp => ?_)
        refine ls_aload_n f_164_55 rfl ?_
        refine ls_getR f_164_56 p_164_25 (lm_Lay_si (lm_Lay_si hl _ _ _) _ _ _) S_92 F_92_3 ?_
        refine ls_bipush 81 f_164_59 (by decide) ?_
        refine ls_dup2 f_164_61 rfl rfl ?_
        refine ls_ialdC 81 f_164_62 (lm_Lay_si (lm_Lay_si hl _ _ _) _ _ _) S_94 ⟨by decide, by decide, by decide⟩ ?_
        refine ls_iconst 1 f_164_63 (by decide) ?_
        refine ls_iadd ((lm_i (lm_si (lm_si h 94 ((0 + (lm_i h 94 81)).toNatClampNeg) x1) 94 ((71 + (lm_i h 94 81)).toNatClampNeg) (-1)) 94 81) + 1) f_164_64 rfl ?_
        refine ls_iastC 81 f_164_65 (lm_Lay_si (lm_Lay_si hl _ _ _) _ _ _) S_94 ⟨by decide, by decide, by decide⟩ ?_
        refine ls_aload_n f_164_66 rfl ?_
        refine ls_iload_n f_164_67 rfl ?_
        refine ls_invV (a := 92) f_164_68 q_164_119 [.int (lm_i h 94 81)] [] rfl (Nat.le_of_ble_eq_true rfl) (lm_Lay_si (lm_Lay_si (lm_Lay_si hl _ _ _) _ _ _) _ _ _) S_92 ow_155 ?_
        refine ls_enter [some (.ref 92), some (.int (lm_i h 94 81))] ml_155 (Nat.le_of_ble_eq_true rfl) rfl ?_
        refine ls_aload_n f_155_0 rfl ?_
        refine ls_iconst 0 f_155_1 (by decide) ?_
        refine ls_putI f_155_2 p_155_3 (lm_Lay_si (lm_Lay_si (lm_Lay_si hl _ _ _) _ _ _) _ _ _) S_92 rfl ?_
        refine ls_aload_n f_155_5 rfl ?_
        refine ls_dup f_155_6 rfl ?_
        refine ls_getI f_155_7 p_155_16 (lm_Lay_si (lm_Lay_si (lm_Lay_si (lm_Lay_si hl _ _ _) _ _ _) _ _ _) _ _ _) S_92 ?_
        refine ls_top (lm_i h 92 1) rfl ?_
        refine ls_iconst 1 f_155_10 (by decide) ?_
        refine ls_iadd ((lm_i h 92 1) + 1) f_155_11 rfl ?_
        refine ls_putI f_155_12 p_155_16 (lm_Lay_si (lm_Lay_si (lm_Lay_si (lm_Lay_si hl _ _ _) _ _ _) _ _ _) _ _ _) S_92 rfl ?_
        refine ls_iload_n f_155_15 rfl ?_
        refine ls_ireturn f_155_16 rI_155 ?_
        show lm_W _ _ _ _ [.int (lm_i h 94 81)] _ _
        exact ls_ireturn f_164_71 rI_164 hyp
theorem e_165 {d : Nat} {h : lm_H} {K : Int32 → lm_H → Prop} (x1 : Int32) (hl : lm_Lay h) (hyp : (if x1 < 0 then (K (-1) (lm_si (lm_si h 92 0 (-1)) 93 1 ((lm_i h 93 1) + 1))) else (if 9 < x1 then (K (-1) (lm_si (lm_si h 92 0 (-1)) 93 1 ((lm_i h 93 1) + 1))) else (if (lm_i h 94 82) = 6 then (K (-5) (lm_si (lm_si h 92 0 (-5)) 93 5 ((lm_i h 93 5) + 1))) else (lm_in (5 + (lm_i h 94 82)) 4893 False (K (((lm_i (lm_si h 94 ((5 + (lm_i h 94 82)).toNatClampNeg) x1) 94 82) + 1) - 1) (lm_si (lm_si (lm_si (lm_si h 94 ((5 + (lm_i h 94 82)).toNatClampNeg) x1) 94 82 ((lm_i (lm_si h 94 ((5 + (lm_i h 94 82)).toNatClampNeg) x1) 94 82) + 1)) 92 0 0) 92 1 ((lm_i h 92 1) + 1)))))))) : lm_call (d + 2) 165 [.ref 92, .int x1] h (lm_kI K) := by
  refine ls_enter [some (.ref 92), some (.int x1)] ml_165 (Nat.le_of_ble_eq_true rfl) rfl ?_
  refine ls_iload_n f_165_0 rfl ?_
  refine ls_iconst 0 f_165_1 (by decide) ?_
  refine ls_bipush 9 f_165_2 (by decide) ?_
  refine ls_invS f_165_4 q_165_115 [.int x1, .int 0, .int 9] [] rfl (Nat.le_of_ble_eq_true rfl) ?_
  refine ls_enter [some (.int x1), some (.int 0), some (.int 9)] ml_152 (Nat.le_of_ble_eq_true rfl) rfl ?_
  refine ls_iload_n f_152_0 rfl ?_
  refine ls_iload_n f_152_1 rfl ?_
  refine ls_icmp_lt 14 f_152_2 rfl hyp (fun _ hyp => ?_) (fun _ hyp => ?_)
  · refine ls_iconst 0 f_152_14 (by decide) ?_
    refine ls_zreturn f_152_15 rZ_152 (by decide) ?_
    show lm_W _ _ _ _ [.int 0] _ _
    refine ls_if_ne_T 16 f_165_7 rfl (by decide) ?_
    refine ls_aload_n f_165_10 rfl ?_
    refine ls_iconst (-1) f_165_11 (by decide) ?_
    refine ls_invV (a := 92) f_165_12 q_165_11 [.int (-1)] [] rfl (Nat.le_of_ble_eq_true rfl) hl S_92 ow_153 ?_
    refine ls_enter [some (.ref 92), some (.int (-1))] ml_153 (Nat.le_of_ble_eq_true rfl) rfl ?_
    refine ls_aload_n f_153_0 rfl ?_
    refine ls_iload_n f_153_1 rfl ?_
    refine ls_putI f_153_2 p_153_3 hl S_92 rfl ?_
    refine ls_aload_n f_153_5 rfl ?_
    refine ls_getR f_153_6 p_153_7 (lm_Lay_si hl _ _ _) S_92 F_92_2 ?_
    refine ls_iload_n f_153_9 rfl ?_
    refine ls_ineg 1 f_153_10 (by decide) ?_
    refine ls_dup2 f_153_11 rfl rfl ?_
    refine ls_ialdC 1 f_153_12 (lm_Lay_si hl _ _ _) S_93 ⟨by decide, by decide, by decide⟩ ?_
    refine ls_top (lm_i h 93 1) rfl ?_
    refine ls_iconst 1 f_153_13 (by decide) ?_
    refine ls_iadd ((lm_i h 93 1) + 1) f_153_14 rfl ?_
    refine ls_iastC 1 f_153_15 (lm_Lay_si hl _ _ _) S_93 ⟨by decide, by decide, by decide⟩ ?_
    refine ls_iload_n f_153_16 rfl ?_
    refine ls_ireturn f_153_17 rI_153 ?_
    show lm_W _ _ _ _ [.int (-1)] _ _
    exact ls_ireturn f_165_15 rI_165 hyp
  · refine ls_iload_n f_152_5 rfl ?_
    refine ls_iload_n f_152_6 rfl ?_
    refine ls_icmp_gt 14 f_152_7 rfl hyp (fun _ hyp => ?_) (fun _ hyp => ?_)
    · refine ls_iconst 0 f_152_14 (by decide) ?_
      refine ls_zreturn f_152_15 rZ_152 (by decide) ?_
      show lm_W _ _ _ _ [.int 0] _ _
      refine ls_if_ne_T 16 f_165_7 rfl (by decide) ?_
      refine ls_aload_n f_165_10 rfl ?_
      refine ls_iconst (-1) f_165_11 (by decide) ?_
      refine ls_invV (a := 92) f_165_12 q_165_11 [.int (-1)] [] rfl (Nat.le_of_ble_eq_true rfl) hl S_92 ow_153 ?_
      refine ls_enter [some (.ref 92), some (.int (-1))] ml_153 (Nat.le_of_ble_eq_true rfl) rfl ?_
      refine ls_aload_n f_153_0 rfl ?_
      refine ls_iload_n f_153_1 rfl ?_
      refine ls_putI f_153_2 p_153_3 hl S_92 rfl ?_
      refine ls_aload_n f_153_5 rfl ?_
      refine ls_getR f_153_6 p_153_7 (lm_Lay_si hl _ _ _) S_92 F_92_2 ?_
      refine ls_iload_n f_153_9 rfl ?_
      refine ls_ineg 1 f_153_10 (by decide) ?_
      refine ls_dup2 f_153_11 rfl rfl ?_
      refine ls_ialdC 1 f_153_12 (lm_Lay_si hl _ _ _) S_93 ⟨by decide, by decide, by decide⟩ ?_
      refine ls_top (lm_i h 93 1) rfl ?_
      refine ls_iconst 1 f_153_13 (by decide) ?_
      refine ls_iadd ((lm_i h 93 1) + 1) f_153_14 rfl ?_
      refine ls_iastC 1 f_153_15 (lm_Lay_si hl _ _ _) S_93 ⟨by decide, by decide, by decide⟩ ?_
      refine ls_iload_n f_153_16 rfl ?_
      refine ls_ireturn f_153_17 rI_153 ?_
      show lm_W _ _ _ _ [.int (-1)] _ _
      exact ls_ireturn f_165_15 rI_165 hyp
    · refine ls_iconst 1 f_152_10 (by decide) ?_
      refine ls_goto 15 f_152_11 rfl ?_
      refine ls_zreturn f_152_15 rZ_152 (by decide) ?_
      show lm_W _ _ _ _ [.int 1] _ _
      refine ls_if_ne_F 16 f_165_7 rfl (by decide) ?_
      refine ls_aload_n f_165_16 rfl ?_
      refine ls_invV (a := 92) f_165_17 q_165_126 [] [] rfl (Nat.le_of_ble_eq_true rfl) hl S_92 ow_161 ?_
      refine ls_enter [some (.ref 92)] ml_161 (Nat.le_of_ble_eq_true rfl) rfl ?_
      refine ls_aload_n f_161_0 rfl ?_
      refine ls_getR f_161_1 p_161_25 hl S_92 F_92_3 ?_
      refine ls_bipush 82 f_161_4 (by decide) ?_
      refine ls_ialdC 82 f_161_6 hl S_94 ⟨by decide, by decide, by decide⟩ ?_
      refine ls_ireturn f_161_7 rI_161 ?_
      show lm_W _ _ _ _ [.int (lm_i h 94 82)] _ _
      refine ls_bipush 6 f_165_20 (by decide) ?_
      refine ls_icmp_ne 32 f_165_22 rfl hyp (fun _ hyp => ?_) (fun _ hyp => ?_)
      · refine ls_aload_n f_165_25 rfl ?_
        refine ls_bipush (-5) f_165_26 (by decide) ?_
        refine ls_invV (a := 92) f_165_28 q_165_11 [.int (-5)] [] rfl (Nat.le_of_ble_eq_true rfl) hl S_92 ow_153 ?_
        refine ls_enter [some (.ref 92), some (.int (-5))] ml_153 (Nat.le_of_ble_eq_true rfl) rfl ?_
        refine ls_aload_n f_153_0 rfl ?_
        refine ls_iload_n f_153_1 rfl ?_
        refine ls_putI f_153_2 p_153_3 hl S_92 rfl ?_
        refine ls_aload_n f_153_5 rfl ?_
        refine ls_getR f_153_6 p_153_7 (lm_Lay_si hl _ _ _) S_92 F_92_2 ?_
        refine ls_iload_n f_153_9 rfl ?_
        refine ls_ineg 5 f_153_10 (by decide) ?_
        refine ls_dup2 f_153_11 rfl rfl ?_
        refine ls_ialdC 5 f_153_12 (lm_Lay_si hl _ _ _) S_93 ⟨by decide, by decide, by decide⟩ ?_
        refine ls_top (lm_i h 93 5) rfl ?_
        refine ls_iconst 1 f_153_13 (by decide) ?_
        refine ls_iadd ((lm_i h 93 5) + 1) f_153_14 rfl ?_
        refine ls_iastC 5 f_153_15 (lm_Lay_si hl _ _ _) S_93 ⟨by decide, by decide, by decide⟩ ?_
        refine ls_iload_n f_153_16 rfl ?_
        refine ls_ireturn f_153_17 rI_153 ?_
        show lm_W _ _ _ _ [.int (-5)] _ _
        exact ls_ireturn f_165_31 rI_165 hyp
      · refine ls_aload_n f_165_32 rfl ?_
        refine ls_getR f_165_33 p_165_25 hl S_92 F_92_3 ?_
        refine ls_iconst 5 f_165_36 (by decide) ?_
        refine ls_aload_n f_165_37 rfl ?_
        refine ls_invV (a := 92) f_165_38 q_165_126 [] [.int 5, .ref 94] rfl (Nat.le_of_ble_eq_true rfl) hl S_92 ow_161 ?_
        refine ls_enter [some (.ref 92)] ml_161 (Nat.le_of_ble_eq_true rfl) rfl ?_
        refine ls_aload_n f_161_0 rfl ?_
        refine ls_getR f_161_1 p_161_25 hl S_92 F_92_3 ?_
        refine ls_bipush 82 f_161_4 (by decide) ?_
        refine ls_ialdC 82 f_161_6 hl S_94 ⟨by decide, by decide, by decide⟩ ?_
        refine ls_ireturn f_161_7 rI_161 ?_
        show lm_W _ _ _ _ [.int (lm_i h 94 82), .int 5, .ref 94] _ _
        refine ls_iadd (5 + (lm_i h 94 82)) f_165_41 rfl ?_
        refine ls_iload_n f_165_42 rfl ?_
        refine ls_iast f_165_43 hl S_94 hyp (fun hyp => ?_)
        refine ls_aload_n f_165_44 rfl ?_
        refine ls_getR f_165_45 p_165_25 (lm_Lay_si hl _ _ _) S_92 F_92_3 ?_
        refine ls_bipush 82 f_165_48 (by decide) ?_
        refine ls_dup2 f_165_50 rfl rfl ?_
        refine ls_ialdC 82 f_165_51 (lm_Lay_si hl _ _ _) S_94 ⟨by decide, by decide, by decide⟩ ?_
        refine ls_iconst 1 f_165_52 (by decide) ?_
        refine ls_iadd ((lm_i (lm_si h 94 ((5 + (lm_i h 94 82)).toNatClampNeg) x1) 94 82) + 1) f_165_53 rfl ?_
        refine ls_iastC 82 f_165_54 (lm_Lay_si hl _ _ _) S_94 ⟨by decide, by decide, by decide⟩ ?_
        refine ls_aload_n f_165_55 rfl ?_
        refine ls_aload_n f_165_56 rfl ?_
        refine ls_invV (a := 92) f_165_57 q_165_126 [] [.ref 92] rfl (Nat.le_of_ble_eq_true rfl) (lm_Lay_si (lm_Lay_si hl _ _ _) _ _ _) S_92 ow_161 ?_
        refine ls_enter [some (.ref 92)] ml_161 (Nat.le_of_ble_eq_true rfl) rfl ?_
        refine ls_aload_n f_161_0 rfl ?_
        refine ls_getR f_161_1 p_161_25 (lm_Lay_si (lm_Lay_si hl _ _ _) _ _ _) S_92 F_92_3 ?_
        refine ls_bipush 82 f_161_4 (by decide) ?_
        refine ls_ialdC 82 f_161_6 (lm_Lay_si (lm_Lay_si hl _ _ _) _ _ _) S_94 ⟨by decide, by decide, by decide⟩ ?_
        refine ls_top ((lm_i (lm_si h 94 ((5 + (lm_i h 94 82)).toNatClampNeg) x1) 94 82) + 1) rfl ?_
        refine ls_ireturn f_161_7 rI_161 ?_
        show lm_W _ _ _ _ [.int ((lm_i (lm_si h 94 ((5 + (lm_i h 94 82)).toNatClampNeg) x1) 94 82) + 1), .ref 92] _ _
        refine ls_iconst 1 f_165_60 (by decide) ?_
        refine ls_isub (((lm_i (lm_si h 94 ((5 + (lm_i h 94 82)).toNatClampNeg) x1) 94 82) + 1) - 1) f_165_61 rfl ?_
        refine ls_invV (a := 92) f_165_62 q_165_119 [.int (((lm_i (lm_si h 94 ((5 + (lm_i h 94 82)).toNatClampNeg) x1) 94 82) + 1) - 1)] [] rfl (Nat.le_of_ble_eq_true rfl) (lm_Lay_si (lm_Lay_si hl _ _ _) _ _ _) S_92 ow_155 ?_
        refine ls_enter [some (.ref 92), some (.int (((lm_i (lm_si h 94 ((5 + (lm_i h 94 82)).toNatClampNeg) x1) 94 82) + 1) - 1))] ml_155 (Nat.le_of_ble_eq_true rfl) rfl ?_
        refine ls_aload_n f_155_0 rfl ?_
        refine ls_iconst 0 f_155_1 (by decide) ?_
        refine ls_putI f_155_2 p_155_3 (lm_Lay_si (lm_Lay_si hl _ _ _) _ _ _) S_92 rfl ?_
        refine ls_aload_n f_155_5 rfl ?_
        refine ls_dup f_155_6 rfl ?_
        refine ls_getI f_155_7 p_155_16 (lm_Lay_si (lm_Lay_si (lm_Lay_si hl _ _ _) _ _ _) _ _ _) S_92 ?_
        refine ls_top (lm_i h 92 1) rfl ?_
        refine ls_iconst 1 f_155_10 (by decide) ?_
        refine ls_iadd ((lm_i h 92 1) + 1) f_155_11 rfl ?_
        refine ls_putI f_155_12 p_155_16 (lm_Lay_si (lm_Lay_si (lm_Lay_si hl _ _ _) _ _ _) _ _ _) S_92 rfl ?_
        refine ls_iload_n f_155_15 rfl ?_
        refine ls_ireturn f_155_16 rI_155 ?_
        show lm_W _ _ _ _ [.int (((lm_i (lm_si h 94 ((5 + (lm_i h 94 82)).toNatClampNeg) x1) 94 82) + 1) - 1)] _ _
        exact ls_ireturn f_165_65 rI_165 hyp
theorem e_166 {d : Nat} {h : lm_H} {K : Int32 → lm_H → Prop} (x1 : Int32) (x2 : Int32) (x3 : Int32) (hl : lm_Lay h) (hyp : (if x3 < (-99) then (K (-1000000) (lm_si (lm_si h 92 0 (-1)) 93 1 ((lm_i h 93 1) + 1))) else (if 99 < x3 then (K (-1000000) (lm_si (lm_si h 92 0 (-1)) 93 1 ((lm_i h 93 1) + 1))) else (if x1 < 0 then (K (-1000000) (lm_si (lm_si h 92 0 (-2)) 93 2 ((lm_i h 93 2) + 1))) else (if ((lm_i h 94 81) - 1) < x1 then (K (-1000000) (lm_si (lm_si h 92 0 (-2)) 93 2 ((lm_i h 93 2) + 1))) else (if x2 < 0 then (K (-1000000) (lm_si (lm_si h 92 0 (-2)) 93 2 ((lm_i h 93 2) + 1))) else (if ((lm_i h 94 82) - 1) < x2 then (K (-1000000) (lm_si (lm_si h 92 0 (-2)) 93 2 ((lm_i h 93 2) + 1))) else (lm_in ((11 + (6 * x1)) + x2) 4893 False (lm_in ((11 + (6 * x1)) + x2) 4893 False (K (lm_i h 94 (((11 + (6 * x1)) + x2).toNatClampNeg)) (lm_si (lm_si (lm_si h 94 (((11 + (6 * x1)) + x2).toNatClampNeg) x3) 92 0 0) 92 1 ((lm_i h 92 1) + 1)))))))))))) : lm_call (d + 3) 166 [.ref 92, .int x1, .int x2, .int x3] h (lm_kI K) := by
  refine ls_enter [some (.ref 92), some (.int x1), some (.int x2), some (.int x3), none] ml_166 (Nat.le_of_ble_eq_true rfl) rfl ?_
  refine ls_iload_n f_166_0 rfl ?_
  refine ls_bipush (-99) f_166_1 (by decide) ?_
  refine ls_bipush 99 f_166_3 (by decide) ?_
  refine ls_invS f_166_5 q_166_115 [.int x3, .int (-99), .int 99] [] rfl (Nat.le_of_ble_eq_true rfl) ?_
  refine ls_enter [some (.int x3), some (.int (-99)), some (.int 99)] ml_152 (Nat.le_of_ble_eq_true rfl) rfl ?_
  refine ls_iload_n f_152_0 rfl ?_
  refine ls_iload_n f_152_1 rfl ?_
  refine ls_icmp_lt 14 f_152_2 rfl hyp (fun _ hyp => ?_) (fun _ hyp => ?_)
  · refine ls_iconst 0 f_152_14 (by decide) ?_
    refine ls_zreturn f_152_15 rZ_152 (by decide) ?_
    show lm_W _ _ _ _ [.int 0] _ _
    refine ls_if_ne_T 17 f_166_8 rfl (by decide) ?_
    refine ls_aload_n f_166_11 rfl ?_
    refine ls_iconst (-1) f_166_12 (by decide) ?_
    refine ls_invV (a := 92) f_166_13 q_166_129 [.int (-1)] [] rfl (Nat.le_of_ble_eq_true rfl) hl S_92 ow_154 ?_
    refine ls_enter [some (.ref 92), some (.int (-1))] ml_154 (Nat.le_of_ble_eq_true rfl) rfl ?_
    refine ls_aload_n f_154_0 rfl ?_
    refine ls_iload_n f_154_1 rfl ?_
    refine ls_invV (a := 92) f_154_2 q_154_11 [.int (-1)] [] rfl (Nat.le_of_ble_eq_true rfl) hl S_92 ow_153 ?_
    refine ls_enter [some (.ref 92), some (.int (-1))] ml_153 (Nat.le_of_ble_eq_true rfl) rfl ?_
    refine ls_aload_n f_153_0 rfl ?_
    refine ls_iload_n f_153_1 rfl ?_
    refine ls_putI f_153_2 p_153_3 hl S_92 rfl ?_
    refine ls_aload_n f_153_5 rfl ?_
    refine ls_getR f_153_6 p_153_7 (lm_Lay_si hl _ _ _) S_92 F_92_2 ?_
    refine ls_iload_n f_153_9 rfl ?_
    refine ls_ineg 1 f_153_10 (by decide) ?_
    refine ls_dup2 f_153_11 rfl rfl ?_
    refine ls_ialdC 1 f_153_12 (lm_Lay_si hl _ _ _) S_93 ⟨by decide, by decide, by decide⟩ ?_
    refine ls_top (lm_i h 93 1) rfl ?_
    refine ls_iconst 1 f_153_13 (by decide) ?_
    refine ls_iadd ((lm_i h 93 1) + 1) f_153_14 rfl ?_
    refine ls_iastC 1 f_153_15 (lm_Lay_si hl _ _ _) S_93 ⟨by decide, by decide, by decide⟩ ?_
    refine ls_iload_n f_153_16 rfl ?_
    refine ls_ireturn f_153_17 rI_153 ?_
    show lm_W _ _ _ _ [.int (-1)] _ _
    refine ls_pop f_154_5 rfl ?_
    refine ls_ldc f_154_6 k_154_15 ?_
    refine ls_ireturn f_154_8 rI_154 ?_
    show lm_W _ _ _ _ [.int (-1000000)] _ _
    exact ls_ireturn f_166_16 rI_166 hyp
  · refine ls_iload_n f_152_5 rfl ?_
    refine ls_iload_n f_152_6 rfl ?_
    refine ls_icmp_gt 14 f_152_7 rfl hyp (fun _ hyp => ?_) (fun _ hyp => ?_)
    · refine ls_iconst 0 f_152_14 (by decide) ?_
      refine ls_zreturn f_152_15 rZ_152 (by decide) ?_
      show lm_W _ _ _ _ [.int 0] _ _
      refine ls_if_ne_T 17 f_166_8 rfl (by decide) ?_
      refine ls_aload_n f_166_11 rfl ?_
      refine ls_iconst (-1) f_166_12 (by decide) ?_
      refine ls_invV (a := 92) f_166_13 q_166_129 [.int (-1)] [] rfl (Nat.le_of_ble_eq_true rfl) hl S_92 ow_154 ?_
      refine ls_enter [some (.ref 92), some (.int (-1))] ml_154 (Nat.le_of_ble_eq_true rfl) rfl ?_
      refine ls_aload_n f_154_0 rfl ?_
      refine ls_iload_n f_154_1 rfl ?_
      refine ls_invV (a := 92) f_154_2 q_154_11 [.int (-1)] [] rfl (Nat.le_of_ble_eq_true rfl) hl S_92 ow_153 ?_
      refine ls_enter [some (.ref 92), some (.int (-1))] ml_153 (Nat.le_of_ble_eq_true rfl) rfl ?_
      refine ls_aload_n f_153_0 rfl ?_
      refine ls_iload_n f_153_1 rfl ?_
      refine ls_putI f_153_2 p_153_3 hl S_92 rfl ?_
      refine ls_aload_n f_153_5 rfl ?_
      refine ls_getR f_153_6 p_153_7 (lm_Lay_si hl _ _ _) S_92 F_92_2 ?_
      refine ls_iload_n f_153_9 rfl ?_
      refine ls_ineg 1 f_153_10 (by decide) ?_
      refine ls_dup2 f_153_11 rfl rfl ?_
      refine ls_ialdC 1 f_153_12 (lm_Lay_si hl _ _ _) S_93 ⟨by decide, by decide, by decide⟩ ?_
      refine ls_top (lm_i h 93 1) rfl ?_
      refine ls_iconst 1 f_153_13 (by decide) ?_
      refine ls_iadd ((lm_i h 93 1) + 1) f_153_14 rfl ?_
      refine ls_iastC 1 f_153_15 (lm_Lay_si hl _ _ _) S_93 ⟨by decide, by decide, by decide⟩ ?_
      refine ls_iload_n f_153_16 rfl ?_
      refine ls_ireturn f_153_17 rI_153 ?_
      show lm_W _ _ _ _ [.int (-1)] _ _
      refine ls_pop f_154_5 rfl ?_
      refine ls_ldc f_154_6 k_154_15 ?_
      refine ls_ireturn f_154_8 rI_154 ?_
      show lm_W _ _ _ _ [.int (-1000000)] _ _
      exact ls_ireturn f_166_16 rI_166 hyp
    · refine ls_iconst 1 f_152_10 (by decide) ?_
      refine ls_goto 15 f_152_11 rfl ?_
      refine ls_zreturn f_152_15 rZ_152 (by decide) ?_
      show lm_W _ _ _ _ [.int 1] _ _
      refine ls_if_ne_F 17 f_166_8 rfl (by decide) ?_
      refine ls_aload_n f_166_17 rfl ?_
      refine ls_iload_n f_166_18 rfl ?_
      refine ls_invV (a := 92) f_166_19 q_166_132 [.int x1] [] rfl (Nat.le_of_ble_eq_true rfl) hl S_92 ow_162 ?_
      refine ls_enter [some (.ref 92), some (.int x1)] ml_162 (Nat.le_of_ble_eq_true rfl) rfl ?_
      refine ls_iload_n f_162_0 rfl ?_
      refine ls_iconst 0 f_162_1 (by decide) ?_
      refine ls_aload_n f_162_2 rfl ?_
      refine ls_invV (a := 92) f_162_3 q_162_122 [] [.int 0, .int x1] rfl (Nat.le_of_ble_eq_true rfl) hl S_92 ow_160 ?_
      refine ls_enter [some (.ref 92)] ml_160 (Nat.le_of_ble_eq_true rfl) rfl ?_
      refine ls_aload_n f_160_0 rfl ?_
      refine ls_getR f_160_1 p_160_25 hl S_92 F_92_3 ?_
      refine ls_bipush 81 f_160_4 (by decide) ?_
      refine ls_ialdC 81 f_160_6 hl S_94 ⟨by decide, by decide, by decide⟩ ?_
      refine ls_ireturn f_160_7 rI_160 ?_
      show lm_W _ _ _ _ [.int (lm_i h 94 81), .int 0, .int x1] _ _
      refine ls_iconst 1 f_162_6 (by decide) ?_
      refine ls_isub ((lm_i h 94 81) - 1) f_162_7 rfl ?_
      refine ls_invS f_162_8 q_162_115 [.int x1, .int 0, .int ((lm_i h 94 81) - 1)] [] rfl (Nat.le_of_ble_eq_true rfl) ?_
      refine ls_enter [some (.int x1), some (.int 0), some (.int ((lm_i h 94 81) - 1))] ml_152 (Nat.le_of_ble_eq_true rfl) rfl ?_
      refine ls_iload_n f_152_0 rfl ?_
      refine ls_iload_n f_152_1 rfl ?_
      refine ls_icmp_lt 14 f_152_2 rfl hyp (fun _ hyp => ?_) (fun _ hyp => ?_)
      · refine ls_iconst 0 f_152_14 (by decide) ?_
        refine ls_zreturn f_152_15 rZ_152 (by decide) ?_
        show lm_W _ _ _ _ [.int 0] _ _
        refine ls_zreturn f_162_11 rZ_162 (by decide) ?_
        show lm_W _ _ _ _ [.int 0] _ _
        refine ls_if_eq_T 33 f_166_22 rfl (by decide) ?_
        refine ls_aload_n f_166_33 rfl ?_
        refine ls_bipush (-2) f_166_34 (by decide) ?_
        refine ls_invV (a := 92) f_166_36 q_166_129 [.int (-2)] [] rfl (Nat.le_of_ble_eq_true rfl) hl S_92 ow_154 ?_
        refine ls_enter [some (.ref 92), some (.int (-2))] ml_154 (Nat.le_of_ble_eq_true rfl) rfl ?_
        refine ls_aload_n f_154_0 rfl ?_
        refine ls_iload_n f_154_1 rfl ?_
        refine ls_invV (a := 92) f_154_2 q_154_11 [.int (-2)] [] rfl (Nat.le_of_ble_eq_true rfl) hl S_92 ow_153 ?_
        refine ls_enter [some (.ref 92), some (.int (-2))] ml_153 (Nat.le_of_ble_eq_true rfl) rfl ?_
        refine ls_aload_n f_153_0 rfl ?_
        refine ls_iload_n f_153_1 rfl ?_
        refine ls_putI f_153_2 p_153_3 hl S_92 rfl ?_
        refine ls_aload_n f_153_5 rfl ?_
        refine ls_getR f_153_6 p_153_7 (lm_Lay_si hl _ _ _) S_92 F_92_2 ?_
        refine ls_iload_n f_153_9 rfl ?_
        refine ls_ineg 2 f_153_10 (by decide) ?_
        refine ls_dup2 f_153_11 rfl rfl ?_
        refine ls_ialdC 2 f_153_12 (lm_Lay_si hl _ _ _) S_93 ⟨by decide, by decide, by decide⟩ ?_
        refine ls_top (lm_i h 93 2) rfl ?_
        refine ls_iconst 1 f_153_13 (by decide) ?_
        refine ls_iadd ((lm_i h 93 2) + 1) f_153_14 rfl ?_
        refine ls_iastC 2 f_153_15 (lm_Lay_si hl _ _ _) S_93 ⟨by decide, by decide, by decide⟩ ?_
        refine ls_iload_n f_153_16 rfl ?_
        refine ls_ireturn f_153_17 rI_153 ?_
        show lm_W _ _ _ _ [.int (-2)] _ _
        refine ls_pop f_154_5 rfl ?_
        refine ls_ldc f_154_6 k_154_15 ?_
        refine ls_ireturn f_154_8 rI_154 ?_
        show lm_W _ _ _ _ [.int (-1000000)] _ _
        exact ls_ireturn f_166_39 rI_166 hyp
      · refine ls_iload_n f_152_5 rfl ?_
        refine ls_iload_n f_152_6 rfl ?_
        refine ls_icmp_gt 14 f_152_7 rfl hyp (fun _ hyp => ?_) (fun _ hyp => ?_)
        · refine ls_iconst 0 f_152_14 (by decide) ?_
          refine ls_zreturn f_152_15 rZ_152 (by decide) ?_
          show lm_W _ _ _ _ [.int 0] _ _
          refine ls_zreturn f_162_11 rZ_162 (by decide) ?_
          show lm_W _ _ _ _ [.int 0] _ _
          refine ls_if_eq_T 33 f_166_22 rfl (by decide) ?_
          refine ls_aload_n f_166_33 rfl ?_
          refine ls_bipush (-2) f_166_34 (by decide) ?_
          refine ls_invV (a := 92) f_166_36 q_166_129 [.int (-2)] [] rfl (Nat.le_of_ble_eq_true rfl) hl S_92 ow_154 ?_
          refine ls_enter [some (.ref 92), some (.int (-2))] ml_154 (Nat.le_of_ble_eq_true rfl) rfl ?_
          refine ls_aload_n f_154_0 rfl ?_
          refine ls_iload_n f_154_1 rfl ?_
          refine ls_invV (a := 92) f_154_2 q_154_11 [.int (-2)] [] rfl (Nat.le_of_ble_eq_true rfl) hl S_92 ow_153 ?_
          refine ls_enter [some (.ref 92), some (.int (-2))] ml_153 (Nat.le_of_ble_eq_true rfl) rfl ?_
          refine ls_aload_n f_153_0 rfl ?_
          refine ls_iload_n f_153_1 rfl ?_
          refine ls_putI f_153_2 p_153_3 hl S_92 rfl ?_
          refine ls_aload_n f_153_5 rfl ?_
          refine ls_getR f_153_6 p_153_7 (lm_Lay_si hl _ _ _) S_92 F_92_2 ?_
          refine ls_iload_n f_153_9 rfl ?_
          refine ls_ineg 2 f_153_10 (by decide) ?_
          refine ls_dup2 f_153_11 rfl rfl ?_
          refine ls_ialdC 2 f_153_12 (lm_Lay_si hl _ _ _) S_93 ⟨by decide, by decide, by decide⟩ ?_
          refine ls_top (lm_i h 93 2) rfl ?_
          refine ls_iconst 1 f_153_13 (by decide) ?_
          refine ls_iadd ((lm_i h 93 2) + 1) f_153_14 rfl ?_
          refine ls_iastC 2 f_153_15 (lm_Lay_si hl _ _ _) S_93 ⟨by decide, by decide, by decide⟩ ?_
          refine ls_iload_n f_153_16 rfl ?_
          refine ls_ireturn f_153_17 rI_153 ?_
          show lm_W _ _ _ _ [.int (-2)] _ _
          refine ls_pop f_154_5 rfl ?_
          refine ls_ldc f_154_6 k_154_15 ?_
          refine ls_ireturn f_154_8 rI_154 ?_
          show lm_W _ _ _ _ [.int (-1000000)] _ _
          exact ls_ireturn f_166_39 rI_166 hyp
        · refine ls_iconst 1 f_152_10 (by decide) ?_
          refine ls_goto 15 f_152_11 rfl ?_
          refine ls_zreturn f_152_15 rZ_152 (by decide) ?_
          show lm_W _ _ _ _ [.int 1] _ _
          refine ls_zreturn f_162_11 rZ_162 (by decide) ?_
          show lm_W _ _ _ _ [.int 1] _ _
          refine ls_if_eq_F 33 f_166_22 rfl (by decide) ?_
          refine ls_aload_n f_166_25 rfl ?_
          refine ls_iload_n f_166_26 rfl ?_
          refine ls_invV (a := 92) f_166_27 q_166_136 [.int x2] [] rfl (Nat.le_of_ble_eq_true rfl) hl S_92 ow_163 ?_
          refine ls_enter [some (.ref 92), some (.int x2)] ml_163 (Nat.le_of_ble_eq_true rfl) rfl ?_
          refine ls_iload_n f_163_0 rfl ?_
          refine ls_iconst 0 f_163_1 (by decide) ?_
          refine ls_aload_n f_163_2 rfl ?_
          refine ls_invV (a := 92) f_163_3 q_163_126 [] [.int 0, .int x2] rfl (Nat.le_of_ble_eq_true rfl) hl S_92 ow_161 ?_
          refine ls_enter [some (.ref 92)] ml_161 (Nat.le_of_ble_eq_true rfl) rfl ?_
          refine ls_aload_n f_161_0 rfl ?_
          refine ls_getR f_161_1 p_161_25 hl S_92 F_92_3 ?_
          refine ls_bipush 82 f_161_4 (by decide) ?_
          refine ls_ialdC 82 f_161_6 hl S_94 ⟨by decide, by decide, by decide⟩ ?_
          refine ls_ireturn f_161_7 rI_161 ?_
          show lm_W _ _ _ _ [.int (lm_i h 94 82), .int 0, .int x2] _ _
          refine ls_iconst 1 f_163_6 (by decide) ?_
          refine ls_isub ((lm_i h 94 82) - 1) f_163_7 rfl ?_
          refine ls_invS f_163_8 q_163_115 [.int x2, .int 0, .int ((lm_i h 94 82) - 1)] [] rfl (Nat.le_of_ble_eq_true rfl) ?_
          refine ls_enter [some (.int x2), some (.int 0), some (.int ((lm_i h 94 82) - 1))] ml_152 (Nat.le_of_ble_eq_true rfl) rfl ?_
          refine ls_iload_n f_152_0 rfl ?_
          refine ls_iload_n f_152_1 rfl ?_
          refine ls_icmp_lt 14 f_152_2 rfl hyp (fun _ hyp => ?_) (fun _ hyp => ?_)
          · refine ls_iconst 0 f_152_14 (by decide) ?_
            refine ls_zreturn f_152_15 rZ_152 (by decide) ?_
            show lm_W _ _ _ _ [.int 0] _ _
            refine ls_zreturn f_163_11 rZ_163 (by decide) ?_
            show lm_W _ _ _ _ [.int 0] _ _
            refine ls_if_ne_T 40 f_166_30 rfl (by decide) ?_
            refine ls_aload_n f_166_33 rfl ?_
            refine ls_bipush (-2) f_166_34 (by decide) ?_
            refine ls_invV (a := 92) f_166_36 q_166_129 [.int (-2)] [] rfl (Nat.le_of_ble_eq_true rfl) hl S_92 ow_154 ?_
            refine ls_enter [some (.ref 92), some (.int (-2))] ml_154 (Nat.le_of_ble_eq_true rfl) rfl ?_
            refine ls_aload_n f_154_0 rfl ?_
            refine ls_iload_n f_154_1 rfl ?_
            refine ls_invV (a := 92) f_154_2 q_154_11 [.int (-2)] [] rfl (Nat.le_of_ble_eq_true rfl) hl S_92 ow_153 ?_
            refine ls_enter [some (.ref 92), some (.int (-2))] ml_153 (Nat.le_of_ble_eq_true rfl) rfl ?_
            refine ls_aload_n f_153_0 rfl ?_
            refine ls_iload_n f_153_1 rfl ?_
            refine ls_putI f_153_2 p_153_3 hl S_92 rfl ?_
            refine ls_aload_n f_153_5 rfl ?_
            refine ls_getR f_153_6 p_153_7 (lm_Lay_si hl _ _ _) S_92 F_92_2 ?_
            refine ls_iload_n f_153_9 rfl ?_
            refine ls_ineg 2 f_153_10 (by decide) ?_
            refine ls_dup2 f_153_11 rfl rfl ?_
            refine ls_ialdC 2 f_153_12 (lm_Lay_si hl _ _ _) S_93 ⟨by decide, by decide, by decide⟩ ?_
            refine ls_top (lm_i h 93 2) rfl ?_
            refine ls_iconst 1 f_153_13 (by decide) ?_
            refine ls_iadd ((lm_i h 93 2) + 1) f_153_14 rfl ?_
            refine ls_iastC 2 f_153_15 (lm_Lay_si hl _ _ _) S_93 ⟨by decide, by decide, by decide⟩ ?_
            refine ls_iload_n f_153_16 rfl ?_
            refine ls_ireturn f_153_17 rI_153 ?_
            show lm_W _ _ _ _ [.int (-2)] _ _
            refine ls_pop f_154_5 rfl ?_
            refine ls_ldc f_154_6 k_154_15 ?_
            refine ls_ireturn f_154_8 rI_154 ?_
            show lm_W _ _ _ _ [.int (-1000000)] _ _
            exact ls_ireturn f_166_39 rI_166 hyp
          · refine ls_iload_n f_152_5 rfl ?_
            refine ls_iload_n f_152_6 rfl ?_
            refine ls_icmp_gt 14 f_152_7 rfl hyp (fun _ hyp => ?_) (fun _ hyp => ?_)
            · refine ls_iconst 0 f_152_14 (by decide) ?_
              refine ls_zreturn f_152_15 rZ_152 (by decide) ?_
              show lm_W _ _ _ _ [.int 0] _ _
              refine ls_zreturn f_163_11 rZ_163 (by decide) ?_
              show lm_W _ _ _ _ [.int 0] _ _
              refine ls_if_ne_T 40 f_166_30 rfl (by decide) ?_
              refine ls_aload_n f_166_33 rfl ?_
              refine ls_bipush (-2) f_166_34 (by decide) ?_
              refine ls_invV (a := 92) f_166_36 q_166_129 [.int (-2)] [] rfl (Nat.le_of_ble_eq_true rfl) hl S_92 ow_154 ?_
              refine ls_enter [some (.ref 92), some (.int (-2))] ml_154 (Nat.le_of_ble_eq_true rfl) rfl ?_
              refine ls_aload_n f_154_0 rfl ?_
              refine ls_iload_n f_154_1 rfl ?_
              refine ls_invV (a := 92) f_154_2 q_154_11 [.int (-2)] [] rfl (Nat.le_of_ble_eq_true rfl) hl S_92 ow_153 ?_
              refine ls_enter [some (.ref 92), some (.int (-2))] ml_153 (Nat.le_of_ble_eq_true rfl) rfl ?_
              refine ls_aload_n f_153_0 rfl ?_
              refine ls_iload_n f_153_1 rfl ?_
              refine ls_putI f_153_2 p_153_3 hl S_92 rfl ?_
              refine ls_aload_n f_153_5 rfl ?_
              refine ls_getR f_153_6 p_153_7 (lm_Lay_si hl _ _ _) S_92 F_92_2 ?_
              refine ls_iload_n f_153_9 rfl ?_
              refine ls_ineg 2 f_153_10 (by decide) ?_
              refine ls_dup2 f_153_11 rfl rfl ?_
              refine ls_ialdC 2 f_153_12 (lm_Lay_si hl _ _ _) S_93 ⟨by decide, by decide, by decide⟩ ?_
              refine ls_top (lm_i h 93 2) rfl ?_
              refine ls_iconst 1 f_153_13 (by decide) ?_
              refine ls_iadd ((lm_i h 93 2) + 1) f_153_14 rfl ?_
              refine ls_iastC 2 f_153_15 (lm_Lay_si hl _ _ _) S_93 ⟨by decide, by decide, by decide⟩ ?_
              refine ls_iload_n f_153_16 rfl ?_
              refine ls_ireturn f_153_17 rI_153 ?_
              show lm_W _ _ _ _ [.int (-2)] _ _
              refine ls_pop f_154_5 rfl ?_
              refine ls_ldc f_154_6 k_154_15 ?_
              refine ls_ireturn f_154_8 rI_154 ?_
              show lm_W _ _ _ _ [.int (-1000000)] _ _
              exact ls_ireturn f_166_39 rI_166 hyp
            · refine ls_iconst 1 f_152_10 (by decide) ?_
              refine ls_goto 15 f_152_11 rfl ?_
              refine ls_zreturn f_152_15 rZ_152 (by decide) ?_
              show lm_W _ _ _ _ [.int 1] _ _
              refine ls_zreturn f_163_11 rZ_163 (by decide) ?_
              show lm_W _ _ _ _ [.int 1] _ _
              refine ls_if_ne_F 40 f_166_30 rfl (by decide) ?_
              refine ls_aload_n f_166_40 rfl ?_
              refine ls_getR f_166_41 p_166_25 hl S_92 F_92_3 ?_
              refine ls_bipush 11 f_166_44 (by decide) ?_
              refine ls_bipush 6 f_166_46 (by decide) ?_
              refine ls_iload_n f_166_48 rfl ?_
              refine ls_imul (6 * x1) f_166_49 rfl ?_
              refine ls_iadd (11 + (6 * x1)) f_166_50 rfl ?_
              refine ls_iload_n f_166_51 rfl ?_
              refine ls_iadd ((11 + (6 * x1)) + x2) f_166_52 rfl ?_
              refine ls_iald f_166_53 hl S_94 hyp (fun hyp => ?_)
              refine ls_istore [some (.ref 92), some (.int x1), some (.int x2), some (.int x3), some (.int (lm_i h 94 (((11 + (6 * x1)) + x2).toNatClampNeg)))] f_166_54 (Nat.le_of_ble_eq_true rfl) rfl ?_
              refine ls_aload_n f_166_56 rfl ?_
              refine ls_getR f_166_57 p_166_25 hl S_92 F_92_3 ?_
              refine ls_bipush 11 f_166_60 (by decide) ?_
              refine ls_bipush 6 f_166_62 (by decide) ?_
              refine ls_iload_n f_166_64 rfl ?_
              refine ls_imul (6 * x1) f_166_65 rfl ?_
              refine ls_iadd (11 + (6 * x1)) f_166_66 rfl ?_
              refine ls_iload_n f_166_67 rfl ?_
              refine ls_iadd ((11 + (6 * x1)) + x2) f_166_68 rfl ?_
              refine ls_iload_n f_166_69 rfl ?_
              refine ls_iast f_166_70 hl S_94 hyp (fun hyp => ?_)
              refine ls_aload_n f_166_71 rfl ?_
              refine ls_iload f_166_72 rfl ?_
              refine ls_invV (a := 92) f_166_74 q_166_119 [.int (lm_i h 94 (((11 + (6 * x1)) + x2).toNatClampNeg))] [] rfl (Nat.le_of_ble_eq_true rfl) (lm_Lay_si hl _ _ _) S_92 ow_155 ?_
              refine ls_enter [some (.ref 92), some (.int (lm_i h 94 (((11 + (6 * x1)) + x2).toNatClampNeg)))] ml_155 (Nat.le_of_ble_eq_true rfl) rfl ?_
              refine ls_aload_n f_155_0 rfl ?_
              refine ls_iconst 0 f_155_1 (by decide) ?_
              refine ls_putI f_155_2 p_155_3 (lm_Lay_si hl _ _ _) S_92 rfl ?_
              refine ls_aload_n f_155_5 rfl ?_
              refine ls_dup f_155_6 rfl ?_
              refine ls_getI f_155_7 p_155_16 (lm_Lay_si (lm_Lay_si hl _ _ _) _ _ _) S_92 ?_
              refine ls_top (lm_i h 92 1) rfl ?_
              refine ls_iconst 1 f_155_10 (by decide) ?_
              refine ls_iadd ((lm_i h 92 1) + 1) f_155_11 rfl ?_
              refine ls_putI f_155_12 p_155_16 (lm_Lay_si (lm_Lay_si hl _ _ _) _ _ _) S_92 rfl ?_
              refine ls_iload_n f_155_15 rfl ?_
              refine ls_ireturn f_155_16 rI_155 ?_
              show lm_W _ _ _ _ [.int (lm_i h 94 (((11 + (6 * x1)) + x2).toNatClampNeg))] _ _
              exact ls_ireturn f_166_77 rI_166 hyp
theorem e_167 {d : Nat} {h : lm_H} {K : Int32 → lm_H → Prop} (x1 : Int32) (x2 : Int32) (hl : lm_Lay h) (hyp : (if x1 < 0 then (K (-1000000) (lm_si (lm_si h 92 0 (-1)) 93 1 ((lm_i h 93 1) + 1))) else (if 1 < x1 then (K (-1000000) (lm_si (lm_si h 92 0 (-1)) 93 1 ((lm_i h 93 1) + 1))) else (if x1 = 0 then (if x2 < 0 then (K (-1000000) (lm_si (lm_si h 92 0 (-1)) 93 1 ((lm_i h 93 1) + 1))) else (if 2 < x2 then (K (-1000000) (lm_si (lm_si h 92 0 (-1)) 93 1 ((lm_i h 93 1) + 1))) else (lm_in (83 + x1) 4893 False (lm_in (83 + x1) 4893 False (K (lm_i h 94 ((83 + x1).toNatClampNeg)) (lm_si (lm_si (lm_si h 94 ((83 + x1).toNatClampNeg) x2) 92 0 0) 92 1 ((lm_i h 92 1) + 1))))))) else (if x2 < (-99) then (K (-1000000) (lm_si (lm_si h 92 0 (-1)) 93 1 ((lm_i h 93 1) + 1))) else (if 99 < x2 then (K (-1000000) (lm_si (lm_si h 92 0 (-1)) 93 1 ((lm_i h 93 1) + 1))) else (lm_in (83 + x1) 4893 False (lm_in (83 + x1) 4893 False (K (lm_i h 94 ((83 + x1).toNatClampNeg)) (lm_si (lm_si (lm_si h 94 ((83 + x1).toNatClampNeg) x2) 92 0 0) 92 1 ((lm_i h 92 1) + 1))))))))))) : lm_call (d + 3) 167 [.ref 92, .int x1, .int x2] h (lm_kI K) := by
  refine ls_enter [some (.ref 92), some (.int x1), some (.int x2), none] ml_167 (Nat.le_of_ble_eq_true rfl) rfl ?_
  refine ls_iload_n f_167_0 rfl ?_
  refine ls_iconst 0 f_167_1 (by decide) ?_
  refine ls_iconst 1 f_167_2 (by decide) ?_
  refine ls_invS f_167_3 q_167_115 [.int x1, .int 0, .int 1] [] rfl (Nat.le_of_ble_eq_true rfl) ?_
  refine ls_enter [some (.int x1), some (.int 0), some (.int 1)] ml_152 (Nat.le_of_ble_eq_true rfl) rfl ?_
  refine ls_iload_n f_152_0 rfl ?_
  refine ls_iload_n f_152_1 rfl ?_
  refine ls_icmp_lt 14 f_152_2 rfl hyp (fun _ hyp => ?_) (fun _ hyp => ?_)
  · refine ls_iconst 0 f_152_14 (by decide) ?_
    refine ls_zreturn f_152_15 rZ_152 (by decide) ?_
    show lm_W _ _ _ _ [.int 0] _ _
    refine ls_if_eq_T 36 f_167_6 rfl (by decide) ?_
    refine ls_aload_n f_167_36 rfl ?_
    refine ls_iconst (-1) f_167_37 (by decide) ?_
    refine ls_invV (a := 92) f_167_38 q_167_129 [.int (-1)] [] rfl (Nat.le_of_ble_eq_true rfl) hl S_92 ow_154 ?_
    refine ls_enter [some (.ref 92), some (.int (-1))] ml_154 (Nat.le_of_ble_eq_true rfl) rfl ?_
    refine ls_aload_n f_154_0 rfl ?_
    refine ls_iload_n f_154_1 rfl ?_
    refine ls_invV (a := 92) f_154_2 q_154_11 [.int (-1)] [] rfl (Nat.le_of_ble_eq_true rfl) hl S_92 ow_153 ?_
    refine ls_enter [some (.ref 92), some (.int (-1))] ml_153 (Nat.le_of_ble_eq_true rfl) rfl ?_
    refine ls_aload_n f_153_0 rfl ?_
    refine ls_iload_n f_153_1 rfl ?_
    refine ls_putI f_153_2 p_153_3 hl S_92 rfl ?_
    refine ls_aload_n f_153_5 rfl ?_
    refine ls_getR f_153_6 p_153_7 (lm_Lay_si hl _ _ _) S_92 F_92_2 ?_
    refine ls_iload_n f_153_9 rfl ?_
    refine ls_ineg 1 f_153_10 (by decide) ?_
    refine ls_dup2 f_153_11 rfl rfl ?_
    refine ls_ialdC 1 f_153_12 (lm_Lay_si hl _ _ _) S_93 ⟨by decide, by decide, by decide⟩ ?_
    refine ls_top (lm_i h 93 1) rfl ?_
    refine ls_iconst 1 f_153_13 (by decide) ?_
    refine ls_iadd ((lm_i h 93 1) + 1) f_153_14 rfl ?_
    refine ls_iastC 1 f_153_15 (lm_Lay_si hl _ _ _) S_93 ⟨by decide, by decide, by decide⟩ ?_
    refine ls_iload_n f_153_16 rfl ?_
    refine ls_ireturn f_153_17 rI_153 ?_
    show lm_W _ _ _ _ [.int (-1)] _ _
    refine ls_pop f_154_5 rfl ?_
    refine ls_ldc f_154_6 k_154_15 ?_
    refine ls_ireturn f_154_8 rI_154 ?_
    show lm_W _ _ _ _ [.int (-1000000)] _ _
    exact ls_ireturn f_167_41 rI_167 hyp
  · refine ls_iload_n f_152_5 rfl ?_
    refine ls_iload_n f_152_6 rfl ?_
    refine ls_icmp_gt 14 f_152_7 rfl hyp (fun _ hyp => ?_) (fun _ hyp => ?_)
    · refine ls_iconst 0 f_152_14 (by decide) ?_
      refine ls_zreturn f_152_15 rZ_152 (by decide) ?_
      show lm_W _ _ _ _ [.int 0] _ _
      refine ls_if_eq_T 36 f_167_6 rfl (by decide) ?_
      refine ls_aload_n f_167_36 rfl ?_
      refine ls_iconst (-1) f_167_37 (by decide) ?_
      refine ls_invV (a := 92) f_167_38 q_167_129 [.int (-1)] [] rfl (Nat.le_of_ble_eq_true rfl) hl S_92 ow_154 ?_
      refine ls_enter [some (.ref 92), some (.int (-1))] ml_154 (Nat.le_of_ble_eq_true rfl) rfl ?_
      refine ls_aload_n f_154_0 rfl ?_
      refine ls_iload_n f_154_1 rfl ?_
      refine ls_invV (a := 92) f_154_2 q_154_11 [.int (-1)] [] rfl (Nat.le_of_ble_eq_true rfl) hl S_92 ow_153 ?_
      refine ls_enter [some (.ref 92), some (.int (-1))] ml_153 (Nat.le_of_ble_eq_true rfl) rfl ?_
      refine ls_aload_n f_153_0 rfl ?_
      refine ls_iload_n f_153_1 rfl ?_
      refine ls_putI f_153_2 p_153_3 hl S_92 rfl ?_
      refine ls_aload_n f_153_5 rfl ?_
      refine ls_getR f_153_6 p_153_7 (lm_Lay_si hl _ _ _) S_92 F_92_2 ?_
      refine ls_iload_n f_153_9 rfl ?_
      refine ls_ineg 1 f_153_10 (by decide) ?_
      refine ls_dup2 f_153_11 rfl rfl ?_
      refine ls_ialdC 1 f_153_12 (lm_Lay_si hl _ _ _) S_93 ⟨by decide, by decide, by decide⟩ ?_
      refine ls_top (lm_i h 93 1) rfl ?_
      refine ls_iconst 1 f_153_13 (by decide) ?_
      refine ls_iadd ((lm_i h 93 1) + 1) f_153_14 rfl ?_
      refine ls_iastC 1 f_153_15 (lm_Lay_si hl _ _ _) S_93 ⟨by decide, by decide, by decide⟩ ?_
      refine ls_iload_n f_153_16 rfl ?_
      refine ls_ireturn f_153_17 rI_153 ?_
      show lm_W _ _ _ _ [.int (-1)] _ _
      refine ls_pop f_154_5 rfl ?_
      refine ls_ldc f_154_6 k_154_15 ?_
      refine ls_ireturn f_154_8 rI_154 ?_
      show lm_W _ _ _ _ [.int (-1000000)] _ _
      exact ls_ireturn f_167_41 rI_167 hyp
    · refine ls_iconst 1 f_152_10 (by decide) ?_
      refine ls_goto 15 f_152_11 rfl ?_
      refine ls_zreturn f_152_15 rZ_152 (by decide) ?_
      show lm_W _ _ _ _ [.int 1] _ _
      refine ls_if_eq_F 36 f_167_6 rfl (by decide) ?_
      refine ls_iload_n f_167_9 rfl ?_
      refine ls_if_ne 25 f_167_10 rfl hyp (fun _ hyp => ?_) (fun _ hyp => ?_)
      · refine ls_iload_n f_167_13 rfl ?_
        refine ls_iconst 0 f_167_14 (by decide) ?_
        refine ls_iconst 2 f_167_15 (by decide) ?_
        refine ls_invS f_167_16 q_167_115 [.int x2, .int 0, .int 2] [] rfl (Nat.le_of_ble_eq_true rfl) ?_
        refine ls_enter [some (.int x2), some (.int 0), some (.int 2)] ml_152 (Nat.le_of_ble_eq_true rfl) rfl ?_
        refine ls_iload_n f_152_0 rfl ?_
        refine ls_iload_n f_152_1 rfl ?_
        refine ls_icmp_lt 14 f_152_2 rfl hyp (fun _ hyp => ?_) (fun _ hyp => ?_)
        · refine ls_iconst 0 f_152_14 (by decide) ?_
          refine ls_zreturn f_152_15 rZ_152 (by decide) ?_
          show lm_W _ _ _ _ [.int 0] _ _
          refine ls_if_eq_T 36 f_167_19 rfl (by decide) ?_
          refine ls_aload_n f_167_36 rfl ?_
          refine ls_iconst (-1) f_167_37 (by decide) ?_
          refine ls_invV (a := 92) f_167_38 q_167_129 [.int (-1)] [] rfl (Nat.le_of_ble_eq_true rfl) hl S_92 ow_154 ?_
          refine ls_enter [some (.ref 92), some (.int (-1))] ml_154 (Nat.le_of_ble_eq_true rfl) rfl ?_
          refine ls_aload_n f_154_0 rfl ?_
          refine ls_iload_n f_154_1 rfl ?_
          refine ls_invV (a := 92) f_154_2 q_154_11 [.int (-1)] [] rfl (Nat.le_of_ble_eq_true rfl) hl S_92 ow_153 ?_
          refine ls_enter [some (.ref 92), some (.int (-1))] ml_153 (Nat.le_of_ble_eq_true rfl) rfl ?_
          refine ls_aload_n f_153_0 rfl ?_
          refine ls_iload_n f_153_1 rfl ?_
          refine ls_putI f_153_2 p_153_3 hl S_92 rfl ?_
          refine ls_aload_n f_153_5 rfl ?_
          refine ls_getR f_153_6 p_153_7 (lm_Lay_si hl _ _ _) S_92 F_92_2 ?_
          refine ls_iload_n f_153_9 rfl ?_
          refine ls_ineg 1 f_153_10 (by decide) ?_
          refine ls_dup2 f_153_11 rfl rfl ?_
          refine ls_ialdC 1 f_153_12 (lm_Lay_si hl _ _ _) S_93 ⟨by decide, by decide, by decide⟩ ?_
          refine ls_top (lm_i h 93 1) rfl ?_
          refine ls_iconst 1 f_153_13 (by decide) ?_
          refine ls_iadd ((lm_i h 93 1) + 1) f_153_14 rfl ?_
          refine ls_iastC 1 f_153_15 (lm_Lay_si hl _ _ _) S_93 ⟨by decide, by decide, by decide⟩ ?_
          refine ls_iload_n f_153_16 rfl ?_
          refine ls_ireturn f_153_17 rI_153 ?_
          show lm_W _ _ _ _ [.int (-1)] _ _
          refine ls_pop f_154_5 rfl ?_
          refine ls_ldc f_154_6 k_154_15 ?_
          refine ls_ireturn f_154_8 rI_154 ?_
          show lm_W _ _ _ _ [.int (-1000000)] _ _
          exact ls_ireturn f_167_41 rI_167 hyp
        · refine ls_iload_n f_152_5 rfl ?_
          refine ls_iload_n f_152_6 rfl ?_
          refine ls_icmp_gt 14 f_152_7 rfl hyp (fun _ hyp => ?_) (fun _ hyp => ?_)
          · refine ls_iconst 0 f_152_14 (by decide) ?_
            refine ls_zreturn f_152_15 rZ_152 (by decide) ?_
            show lm_W _ _ _ _ [.int 0] _ _
            refine ls_if_eq_T 36 f_167_19 rfl (by decide) ?_
            refine ls_aload_n f_167_36 rfl ?_
            refine ls_iconst (-1) f_167_37 (by decide) ?_
            refine ls_invV (a := 92) f_167_38 q_167_129 [.int (-1)] [] rfl (Nat.le_of_ble_eq_true rfl) hl S_92 ow_154 ?_
            refine ls_enter [some (.ref 92), some (.int (-1))] ml_154 (Nat.le_of_ble_eq_true rfl) rfl ?_
            refine ls_aload_n f_154_0 rfl ?_
            refine ls_iload_n f_154_1 rfl ?_
            refine ls_invV (a := 92) f_154_2 q_154_11 [.int (-1)] [] rfl (Nat.le_of_ble_eq_true rfl) hl S_92 ow_153 ?_
            refine ls_enter [some (.ref 92), some (.int (-1))] ml_153 (Nat.le_of_ble_eq_true rfl) rfl ?_
            refine ls_aload_n f_153_0 rfl ?_
            refine ls_iload_n f_153_1 rfl ?_
            refine ls_putI f_153_2 p_153_3 hl S_92 rfl ?_
            refine ls_aload_n f_153_5 rfl ?_
            refine ls_getR f_153_6 p_153_7 (lm_Lay_si hl _ _ _) S_92 F_92_2 ?_
            refine ls_iload_n f_153_9 rfl ?_
            refine ls_ineg 1 f_153_10 (by decide) ?_
            refine ls_dup2 f_153_11 rfl rfl ?_
            refine ls_ialdC 1 f_153_12 (lm_Lay_si hl _ _ _) S_93 ⟨by decide, by decide, by decide⟩ ?_
            refine ls_top (lm_i h 93 1) rfl ?_
            refine ls_iconst 1 f_153_13 (by decide) ?_
            refine ls_iadd ((lm_i h 93 1) + 1) f_153_14 rfl ?_
            refine ls_iastC 1 f_153_15 (lm_Lay_si hl _ _ _) S_93 ⟨by decide, by decide, by decide⟩ ?_
            refine ls_iload_n f_153_16 rfl ?_
            refine ls_ireturn f_153_17 rI_153 ?_
            show lm_W _ _ _ _ [.int (-1)] _ _
            refine ls_pop f_154_5 rfl ?_
            refine ls_ldc f_154_6 k_154_15 ?_
            refine ls_ireturn f_154_8 rI_154 ?_
            show lm_W _ _ _ _ [.int (-1000000)] _ _
            exact ls_ireturn f_167_41 rI_167 hyp
          · refine ls_iconst 1 f_152_10 (by decide) ?_
            refine ls_goto 15 f_152_11 rfl ?_
            refine ls_zreturn f_152_15 rZ_152 (by decide) ?_
            show lm_W _ _ _ _ [.int 1] _ _
            refine ls_if_eq_F 36 f_167_19 rfl (by decide) ?_
            refine ls_goto 42 f_167_22 rfl ?_
            refine ls_aload_n f_167_42 rfl ?_
            refine ls_getR f_167_43 p_167_25 hl S_92 F_92_3 ?_
            refine ls_bipush 83 f_167_46 (by decide) ?_
            refine ls_iload_n f_167_48 rfl ?_
            refine ls_iadd (83 + x1) f_167_49 rfl ?_
            refine ls_iald f_167_50 hl S_94 hyp (fun hyp => ?_)
            refine ls_istore_n [some (.ref 92), some (.int x1), some (.int x2), some (.int (lm_i h 94 ((83 + x1).toNatClampNeg)))] f_167_51 (Nat.le_of_ble_eq_true rfl) rfl ?_
            refine ls_aload_n f_167_52 rfl ?_
            refine ls_getR f_167_53 p_167_25 hl S_92 F_92_3 ?_
            refine ls_bipush 83 f_167_56 (by decide) ?_
            refine ls_iload_n f_167_58 rfl ?_
            refine ls_iadd (83 + x1) f_167_59 rfl ?_
            refine ls_iload_n f_167_60 rfl ?_
            refine ls_iast f_167_61 hl S_94 hyp (fun hyp => ?_)
            refine ls_aload_n f_167_62 rfl ?_
            refine ls_iload_n f_167_63 rfl ?_
            refine ls_invV (a := 92) f_167_64 q_167_119 [.int (lm_i h 94 ((83 + x1).toNatClampNeg))] [] rfl (Nat.le_of_ble_eq_true rfl) (lm_Lay_si hl _ _ _) S_92 ow_155 ?_
            refine ls_enter [some (.ref 92), some (.int (lm_i h 94 ((83 + x1).toNatClampNeg)))] ml_155 (Nat.le_of_ble_eq_true rfl) rfl ?_
            refine ls_aload_n f_155_0 rfl ?_
            refine ls_iconst 0 f_155_1 (by decide) ?_
            refine ls_putI f_155_2 p_155_3 (lm_Lay_si hl _ _ _) S_92 rfl ?_
            refine ls_aload_n f_155_5 rfl ?_
            refine ls_dup f_155_6 rfl ?_
            refine ls_getI f_155_7 p_155_16 (lm_Lay_si (lm_Lay_si hl _ _ _) _ _ _) S_92 ?_
            refine ls_top (lm_i h 92 1) rfl ?_
            refine ls_iconst 1 f_155_10 (by decide) ?_
            refine ls_iadd ((lm_i h 92 1) + 1) f_155_11 rfl ?_
            refine ls_putI f_155_12 p_155_16 (lm_Lay_si (lm_Lay_si hl _ _ _) _ _ _) S_92 rfl ?_
            refine ls_iload_n f_155_15 rfl ?_
            refine ls_ireturn f_155_16 rI_155 ?_
            show lm_W _ _ _ _ [.int (lm_i h 94 ((83 + x1).toNatClampNeg))] _ _
            exact ls_ireturn f_167_67 rI_167 hyp
      · refine ls_iload_n f_167_25 rfl ?_
        refine ls_bipush (-99) f_167_26 (by decide) ?_
        refine ls_bipush 99 f_167_28 (by decide) ?_
        refine ls_invS f_167_30 q_167_115 [.int x2, .int (-99), .int 99] [] rfl (Nat.le_of_ble_eq_true rfl) ?_
        refine ls_enter [some (.int x2), some (.int (-99)), some (.int 99)] ml_152 (Nat.le_of_ble_eq_true rfl) rfl ?_
        refine ls_iload_n f_152_0 rfl ?_
        refine ls_iload_n f_152_1 rfl ?_
        refine ls_icmp_lt 14 f_152_2 rfl hyp (fun _ hyp => ?_) (fun _ hyp => ?_)
        · refine ls_iconst 0 f_152_14 (by decide) ?_
          refine ls_zreturn f_152_15 rZ_152 (by decide) ?_
          show lm_W _ _ _ _ [.int 0] _ _
          refine ls_if_ne_T 42 f_167_33 rfl (by decide) ?_
          refine ls_aload_n f_167_36 rfl ?_
          refine ls_iconst (-1) f_167_37 (by decide) ?_
          refine ls_invV (a := 92) f_167_38 q_167_129 [.int (-1)] [] rfl (Nat.le_of_ble_eq_true rfl) hl S_92 ow_154 ?_
          refine ls_enter [some (.ref 92), some (.int (-1))] ml_154 (Nat.le_of_ble_eq_true rfl) rfl ?_
          refine ls_aload_n f_154_0 rfl ?_
          refine ls_iload_n f_154_1 rfl ?_
          refine ls_invV (a := 92) f_154_2 q_154_11 [.int (-1)] [] rfl (Nat.le_of_ble_eq_true rfl) hl S_92 ow_153 ?_
          refine ls_enter [some (.ref 92), some (.int (-1))] ml_153 (Nat.le_of_ble_eq_true rfl) rfl ?_
          refine ls_aload_n f_153_0 rfl ?_
          refine ls_iload_n f_153_1 rfl ?_
          refine ls_putI f_153_2 p_153_3 hl S_92 rfl ?_
          refine ls_aload_n f_153_5 rfl ?_
          refine ls_getR f_153_6 p_153_7 (lm_Lay_si hl _ _ _) S_92 F_92_2 ?_
          refine ls_iload_n f_153_9 rfl ?_
          refine ls_ineg 1 f_153_10 (by decide) ?_
          refine ls_dup2 f_153_11 rfl rfl ?_
          refine ls_ialdC 1 f_153_12 (lm_Lay_si hl _ _ _) S_93 ⟨by decide, by decide, by decide⟩ ?_
          refine ls_top (lm_i h 93 1) rfl ?_
          refine ls_iconst 1 f_153_13 (by decide) ?_
          refine ls_iadd ((lm_i h 93 1) + 1) f_153_14 rfl ?_
          refine ls_iastC 1 f_153_15 (lm_Lay_si hl _ _ _) S_93 ⟨by decide, by decide, by decide⟩ ?_
          refine ls_iload_n f_153_16 rfl ?_
          refine ls_ireturn f_153_17 rI_153 ?_
          show lm_W _ _ _ _ [.int (-1)] _ _
          refine ls_pop f_154_5 rfl ?_
          refine ls_ldc f_154_6 k_154_15 ?_
          refine ls_ireturn f_154_8 rI_154 ?_
          show lm_W _ _ _ _ [.int (-1000000)] _ _
          exact ls_ireturn f_167_41 rI_167 hyp
        · refine ls_iload_n f_152_5 rfl ?_
          refine ls_iload_n f_152_6 rfl ?_
          refine ls_icmp_gt 14 f_152_7 rfl hyp (fun _ hyp => ?_) (fun _ hyp => ?_)
          · refine ls_iconst 0 f_152_14 (by decide) ?_
            refine ls_zreturn f_152_15 rZ_152 (by decide) ?_
            show lm_W _ _ _ _ [.int 0] _ _
            refine ls_if_ne_T 42 f_167_33 rfl (by decide) ?_
            refine ls_aload_n f_167_36 rfl ?_
            refine ls_iconst (-1) f_167_37 (by decide) ?_
            refine ls_invV (a := 92) f_167_38 q_167_129 [.int (-1)] [] rfl (Nat.le_of_ble_eq_true rfl) hl S_92 ow_154 ?_
            refine ls_enter [some (.ref 92), some (.int (-1))] ml_154 (Nat.le_of_ble_eq_true rfl) rfl ?_
            refine ls_aload_n f_154_0 rfl ?_
            refine ls_iload_n f_154_1 rfl ?_
            refine ls_invV (a := 92) f_154_2 q_154_11 [.int (-1)] [] rfl (Nat.le_of_ble_eq_true rfl) hl S_92 ow_153 ?_
            refine ls_enter [some (.ref 92), some (.int (-1))] ml_153 (Nat.le_of_ble_eq_true rfl) rfl ?_
            refine ls_aload_n f_153_0 rfl ?_
            refine ls_iload_n f_153_1 rfl ?_
            refine ls_putI f_153_2 p_153_3 hl S_92 rfl ?_
            refine ls_aload_n f_153_5 rfl ?_
            refine ls_getR f_153_6 p_153_7 (lm_Lay_si hl _ _ _) S_92 F_92_2 ?_
            refine ls_iload_n f_153_9 rfl ?_
            refine ls_ineg 1 f_153_10 (by decide) ?_
            refine ls_dup2 f_153_11 rfl rfl ?_
            refine ls_ialdC 1 f_153_12 (lm_Lay_si hl _ _ _) S_93 ⟨by decide, by decide, by decide⟩ ?_
            refine ls_top (lm_i h 93 1) rfl ?_
            refine ls_iconst 1 f_153_13 (by decide) ?_
            refine ls_iadd ((lm_i h 93 1) + 1) f_153_14 rfl ?_
            refine ls_iastC 1 f_153_15 (lm_Lay_si hl _ _ _) S_93 ⟨by decide, by decide, by decide⟩ ?_
            refine ls_iload_n f_153_16 rfl ?_
            refine ls_ireturn f_153_17 rI_153 ?_
            show lm_W _ _ _ _ [.int (-1)] _ _
            refine ls_pop f_154_5 rfl ?_
            refine ls_ldc f_154_6 k_154_15 ?_
            refine ls_ireturn f_154_8 rI_154 ?_
            show lm_W _ _ _ _ [.int (-1000000)] _ _
            exact ls_ireturn f_167_41 rI_167 hyp
          · refine ls_iconst 1 f_152_10 (by decide) ?_
            refine ls_goto 15 f_152_11 rfl ?_
            refine ls_zreturn f_152_15 rZ_152 (by decide) ?_
            show lm_W _ _ _ _ [.int 1] _ _
            refine ls_if_ne_F 42 f_167_33 rfl (by decide) ?_
            refine ls_aload_n f_167_42 rfl ?_
            refine ls_getR f_167_43 p_167_25 hl S_92 F_92_3 ?_
            refine ls_bipush 83 f_167_46 (by decide) ?_
            refine ls_iload_n f_167_48 rfl ?_
            refine ls_iadd (83 + x1) f_167_49 rfl ?_
            refine ls_iald f_167_50 hl S_94 hyp (fun hyp => ?_)
            refine ls_istore_n [some (.ref 92), some (.int x1), some (.int x2), some (.int (lm_i h 94 ((83 + x1).toNatClampNeg)))] f_167_51 (Nat.le_of_ble_eq_true rfl) rfl ?_
            refine ls_aload_n f_167_52 rfl ?_
            refine ls_getR f_167_53 p_167_25 hl S_92 F_92_3 ?_
            refine ls_bipush 83 f_167_56 (by decide) ?_
            refine ls_iload_n f_167_58 rfl ?_
            refine ls_iadd (83 + x1) f_167_59 rfl ?_
            refine ls_iload_n f_167_60 rfl ?_
            refine ls_iast f_167_61 hl S_94 hyp (fun hyp => ?_)
            refine ls_aload_n f_167_62 rfl ?_
            refine ls_iload_n f_167_63 rfl ?_
            refine ls_invV (a := 92) f_167_64 q_167_119 [.int (lm_i h 94 ((83 + x1).toNatClampNeg))] [] rfl (Nat.le_of_ble_eq_true rfl) (lm_Lay_si hl _ _ _) S_92 ow_155 ?_
            refine ls_enter [some (.ref 92), some (.int (lm_i h 94 ((83 + x1).toNatClampNeg)))] ml_155 (Nat.le_of_ble_eq_true rfl) rfl ?_
            refine ls_aload_n f_155_0 rfl ?_
            refine ls_iconst 0 f_155_1 (by decide) ?_
            refine ls_putI f_155_2 p_155_3 (lm_Lay_si hl _ _ _) S_92 rfl ?_
            refine ls_aload_n f_155_5 rfl ?_
            refine ls_dup f_155_6 rfl ?_
            refine ls_getI f_155_7 p_155_16 (lm_Lay_si (lm_Lay_si hl _ _ _) _ _ _) S_92 ?_
            refine ls_top (lm_i h 92 1) rfl ?_
            refine ls_iconst 1 f_155_10 (by decide) ?_
            refine ls_iadd ((lm_i h 92 1) + 1) f_155_11 rfl ?_
            refine ls_putI f_155_12 p_155_16 (lm_Lay_si (lm_Lay_si hl _ _ _) _ _ _) S_92 rfl ?_
            refine ls_iload_n f_155_15 rfl ?_
            refine ls_ireturn f_155_16 rI_155 ?_
            show lm_W _ _ _ _ [.int (lm_i h 94 ((83 + x1).toNatClampNeg))] _ _
            exact ls_ireturn f_167_67 rI_167 hyp
theorem e_168 {d : Nat} {h : lm_H} {K : Int32 → lm_H → Prop} (x1 : Int32) (x2 : Int32) (hl : lm_Lay h) (hyp : (if x1 < 0 then (K (-2) (lm_si (lm_si h 92 0 (-2)) 93 2 ((lm_i h 93 2) + 1))) else (if ((lm_i h 94 81) - 1) < x1 then (K (-2) (lm_si (lm_si h 92 0 (-2)) 93 2 ((lm_i h 93 2) + 1))) else (if x2 = (-1) then (lm_in (71 + x1) 4893 False (lm_in (71 + x1) 4893 False (K (lm_i h 94 ((71 + x1).toNatClampNeg)) (lm_si (lm_si (lm_si h 94 ((71 + x1).toNatClampNeg) x2) 92 0 0) 92 1 ((lm_i h 92 1) + 1))))) else (if x2 < 0 then (K (-2) (lm_si (lm_si h 92 0 (-2)) 93 2 ((lm_i h 93 2) + 1))) else (if ((lm_i h 94 82) - 1) < x2 then (K (-2) (lm_si (lm_si h 92 0 (-2)) 93 2 ((lm_i h 93 2) + 1))) else (lm_in (71 + x1) 4893 False (lm_in (71 + x1) 4893 False (K (lm_i h 94 ((71 + x1).toNatClampNeg)) (lm_si (lm_si (lm_si h 94 ((71 + x1).toNatClampNeg) x2) 92 0 0) 92 1 ((lm_i h 92 1) + 1))))))))))) : lm_call (d + 3) 168 [.ref 92, .int x1, .int x2] h (lm_kI K) := by
  refine ls_enter [some (.ref 92), some (.int x1), some (.int x2), none] ml_168 (Nat.le_of_ble_eq_true rfl) rfl ?_
  refine ls_aload_n f_168_0 rfl ?_
  refine ls_iload_n f_168_1 rfl ?_
  refine ls_invV (a := 92) f_168_2 q_168_132 [.int x1] [] rfl (Nat.le_of_ble_eq_true rfl) hl S_92 ow_162 ?_
  refine ls_enter [some (.ref 92), some (.int x1)] ml_162 (Nat.le_of_ble_eq_true rfl) rfl ?_
  refine ls_iload_n f_162_0 rfl ?_
  refine ls_iconst 0 f_162_1 (by decide) ?_
  refine ls_aload_n f_162_2 rfl ?_
  refine ls_invV (a := 92) f_162_3 q_162_122 [] [.int 0, .int x1] rfl (Nat.le_of_ble_eq_true rfl) hl S_92 ow_160 ?_
  refine ls_enter [some (.ref 92)] ml_160 (Nat.le_of_ble_eq_true rfl) rfl ?_
  refine ls_aload_n f_160_0 rfl ?_
  refine ls_getR f_160_1 p_160_25 hl S_92 F_92_3 ?_
  refine ls_bipush 81 f_160_4 (by decide) ?_
  refine ls_ialdC 81 f_160_6 hl S_94 ⟨by decide, by decide, by decide⟩ ?_
  refine ls_ireturn f_160_7 rI_160 ?_
  show lm_W _ _ _ _ [.int (lm_i h 94 81), .int 0, .int x1] _ _
  refine ls_iconst 1 f_162_6 (by decide) ?_
  refine ls_isub ((lm_i h 94 81) - 1) f_162_7 rfl ?_
  refine ls_invS f_162_8 q_162_115 [.int x1, .int 0, .int ((lm_i h 94 81) - 1)] [] rfl (Nat.le_of_ble_eq_true rfl) ?_
  refine ls_enter [some (.int x1), some (.int 0), some (.int ((lm_i h 94 81) - 1))] ml_152 (Nat.le_of_ble_eq_true rfl) rfl ?_
  refine ls_iload_n f_152_0 rfl ?_
  refine ls_iload_n f_152_1 rfl ?_
  refine ls_icmp_lt 14 f_152_2 rfl hyp (fun _ hyp => ?_) (fun _ hyp => ?_)
  · refine ls_iconst 0 f_152_14 (by decide) ?_
    refine ls_zreturn f_152_15 rZ_152 (by decide) ?_
    show lm_W _ _ _ _ [.int 0] _ _
    refine ls_zreturn f_162_11 rZ_162 (by decide) ?_
    show lm_W _ _ _ _ [.int 0] _ _
    refine ls_if_eq_T 21 f_168_5 rfl (by decide) ?_
    refine ls_aload_n f_168_21 rfl ?_
    refine ls_bipush (-2) f_168_22 (by decide) ?_
    refine ls_invV (a := 92) f_168_24 q_168_11 [.int (-2)] [] rfl (Nat.le_of_ble_eq_true rfl) hl S_92 ow_153 ?_
    refine ls_enter [some (.ref 92), some (.int (-2))] ml_153 (Nat.le_of_ble_eq_true rfl) rfl ?_
    refine ls_aload_n f_153_0 rfl ?_
    refine ls_iload_n f_153_1 rfl ?_
    refine ls_putI f_153_2 p_153_3 hl S_92 rfl ?_
    refine ls_aload_n f_153_5 rfl ?_
    refine ls_getR f_153_6 p_153_7 (lm_Lay_si hl _ _ _) S_92 F_92_2 ?_
    refine ls_iload_n f_153_9 rfl ?_
    refine ls_ineg 2 f_153_10 (by decide) ?_
    refine ls_dup2 f_153_11 rfl rfl ?_
    refine ls_ialdC 2 f_153_12 (lm_Lay_si hl _ _ _) S_93 ⟨by decide, by decide, by decide⟩ ?_
    refine ls_top (lm_i h 93 2) rfl ?_
    refine ls_iconst 1 f_153_13 (by decide) ?_
    refine ls_iadd ((lm_i h 93 2) + 1) f_153_14 rfl ?_
    refine ls_iastC 2 f_153_15 (lm_Lay_si hl _ _ _) S_93 ⟨by decide, by decide, by decide⟩ ?_
    refine ls_iload_n f_153_16 rfl ?_
    refine ls_ireturn f_153_17 rI_153 ?_
    show lm_W _ _ _ _ [.int (-2)] _ _
    exact ls_ireturn f_168_27 rI_168 hyp
  · refine ls_iload_n f_152_5 rfl ?_
    refine ls_iload_n f_152_6 rfl ?_
    refine ls_icmp_gt 14 f_152_7 rfl hyp (fun _ hyp => ?_) (fun _ hyp => ?_)
    · refine ls_iconst 0 f_152_14 (by decide) ?_
      refine ls_zreturn f_152_15 rZ_152 (by decide) ?_
      show lm_W _ _ _ _ [.int 0] _ _
      refine ls_zreturn f_162_11 rZ_162 (by decide) ?_
      show lm_W _ _ _ _ [.int 0] _ _
      refine ls_if_eq_T 21 f_168_5 rfl (by decide) ?_
      refine ls_aload_n f_168_21 rfl ?_
      refine ls_bipush (-2) f_168_22 (by decide) ?_
      refine ls_invV (a := 92) f_168_24 q_168_11 [.int (-2)] [] rfl (Nat.le_of_ble_eq_true rfl) hl S_92 ow_153 ?_
      refine ls_enter [some (.ref 92), some (.int (-2))] ml_153 (Nat.le_of_ble_eq_true rfl) rfl ?_
      refine ls_aload_n f_153_0 rfl ?_
      refine ls_iload_n f_153_1 rfl ?_
      refine ls_putI f_153_2 p_153_3 hl S_92 rfl ?_
      refine ls_aload_n f_153_5 rfl ?_
      refine ls_getR f_153_6 p_153_7 (lm_Lay_si hl _ _ _) S_92 F_92_2 ?_
      refine ls_iload_n f_153_9 rfl ?_
      refine ls_ineg 2 f_153_10 (by decide) ?_
      refine ls_dup2 f_153_11 rfl rfl ?_
      refine ls_ialdC 2 f_153_12 (lm_Lay_si hl _ _ _) S_93 ⟨by decide, by decide, by decide⟩ ?_
      refine ls_top (lm_i h 93 2) rfl ?_
      refine ls_iconst 1 f_153_13 (by decide) ?_
      refine ls_iadd ((lm_i h 93 2) + 1) f_153_14 rfl ?_
      refine ls_iastC 2 f_153_15 (lm_Lay_si hl _ _ _) S_93 ⟨by decide, by decide, by decide⟩ ?_
      refine ls_iload_n f_153_16 rfl ?_
      refine ls_ireturn f_153_17 rI_153 ?_
      show lm_W _ _ _ _ [.int (-2)] _ _
      exact ls_ireturn f_168_27 rI_168 hyp
    · refine ls_iconst 1 f_152_10 (by decide) ?_
      refine ls_goto 15 f_152_11 rfl ?_
      refine ls_zreturn f_152_15 rZ_152 (by decide) ?_
      show lm_W _ _ _ _ [.int 1] _ _
      refine ls_zreturn f_162_11 rZ_162 (by decide) ?_
      show lm_W _ _ _ _ [.int 1] _ _
      refine ls_if_eq_F 21 f_168_5 rfl (by decide) ?_
      refine ls_iload_n f_168_8 rfl ?_
      refine ls_iconst (-1) f_168_9 (by decide) ?_
      refine ls_icmp_eq 28 f_168_10 rfl hyp (fun _ hyp => ?_) (fun _ hyp => ?_)
      · refine ls_aload_n f_168_28 rfl ?_
        refine ls_getR f_168_29 p_168_25 hl S_92 F_92_3 ?_
        refine ls_bipush 71 f_168_32 (by decide) ?_
        refine ls_iload_n f_168_34 rfl ?_
        refine ls_iadd (71 + x1) f_168_35 rfl ?_
        refine ls_iald f_168_36 hl S_94 hyp (fun hyp => ?_)
        refine ls_istore_n [some (.ref 92), some (.int x1), some (.int x2), some (.int (lm_i h 94 ((71 + x1).toNatClampNeg)))] f_168_37 (Nat.le_of_ble_eq_true rfl) rfl ?_
        refine ls_aload_n f_168_38 rfl ?_
        refine ls_getR f_168_39 p_168_25 hl S_92 F_92_3 ?_
        refine ls_bipush 71 f_168_42 (by decide) ?_
        refine ls_iload_n f_168_44 rfl ?_
        refine ls_iadd (71 + x1) f_168_45 rfl ?_
        refine ls_iload_n f_168_46 rfl ?_
        refine ls_iast f_168_47 hl S_94 hyp (fun hyp => ?_)
        refine ls_aload_n f_168_48 rfl ?_
        refine ls_iload_n f_168_49 rfl ?_
        refine ls_invV (a := 92) f_168_50 q_168_119 [.int (lm_i h 94 ((71 + x1).toNatClampNeg))] [] rfl (Nat.le_of_ble_eq_true rfl) (lm_Lay_si hl _ _ _) S_92 ow_155 ?_
        refine ls_enter [some (.ref 92), some (.int (lm_i h 94 ((71 + x1).toNatClampNeg)))] ml_155 (Nat.le_of_ble_eq_true rfl) rfl ?_
        refine ls_aload_n f_155_0 rfl ?_
        refine ls_iconst 0 f_155_1 (by decide) ?_
        refine ls_putI f_155_2 p_155_3 (lm_Lay_si hl _ _ _) S_92 rfl ?_
        refine ls_aload_n f_155_5 rfl ?_
        refine ls_dup f_155_6 rfl ?_
        refine ls_getI f_155_7 p_155_16 (lm_Lay_si (lm_Lay_si hl _ _ _) _ _ _) S_92 ?_
        refine ls_top (lm_i h 92 1) rfl ?_
        refine ls_iconst 1 f_155_10 (by decide) ?_
        refine ls_iadd ((lm_i h 92 1) + 1) f_155_11 rfl ?_
        refine ls_putI f_155_12 p_155_16 (lm_Lay_si (lm_Lay_si hl _ _ _) _ _ _) S_92 rfl ?_
        refine ls_iload_n f_155_15 rfl ?_
        refine ls_ireturn f_155_16 rI_155 ?_
        show lm_W _ _ _ _ [.int (lm_i h 94 ((71 + x1).toNatClampNeg))] _ _
        exact ls_ireturn f_168_53 rI_168 hyp
      · refine ls_aload_n f_168_13 rfl ?_
        refine ls_iload_n f_168_14 rfl ?_
        refine ls_invV (a := 92) f_168_15 q_168_136 [.int x2] [] rfl (Nat.le_of_ble_eq_true rfl) hl S_92 ow_163 ?_
        refine ls_enter [some (.ref 92), some (.int x2)] ml_163 (Nat.le_of_ble_eq_true rfl) rfl ?_
        refine ls_iload_n f_163_0 rfl ?_
        refine ls_iconst 0 f_163_1 (by decide) ?_
        refine ls_aload_n f_163_2 rfl ?_
        refine ls_invV (a := 92) f_163_3 q_163_126 [] [.int 0, .int x2] rfl (Nat.le_of_ble_eq_true rfl) hl S_92 ow_161 ?_
        refine ls_enter [some (.ref 92)] ml_161 (Nat.le_of_ble_eq_true rfl) rfl ?_
        refine ls_aload_n f_161_0 rfl ?_
        refine ls_getR f_161_1 p_161_25 hl S_92 F_92_3 ?_
        refine ls_bipush 82 f_161_4 (by decide) ?_
        refine ls_ialdC 82 f_161_6 hl S_94 ⟨by decide, by decide, by decide⟩ ?_
        refine ls_ireturn f_161_7 rI_161 ?_
        show lm_W _ _ _ _ [.int (lm_i h 94 82), .int 0, .int x2] _ _
        refine ls_iconst 1 f_163_6 (by decide) ?_
        refine ls_isub ((lm_i h 94 82) - 1) f_163_7 rfl ?_
        refine ls_invS f_163_8 q_163_115 [.int x2, .int 0, .int ((lm_i h 94 82) - 1)] [] rfl (Nat.le_of_ble_eq_true rfl) ?_
        refine ls_enter [some (.int x2), some (.int 0), some (.int ((lm_i h 94 82) - 1))] ml_152 (Nat.le_of_ble_eq_true rfl) rfl ?_
        refine ls_iload_n f_152_0 rfl ?_
        refine ls_iload_n f_152_1 rfl ?_
        refine ls_icmp_lt 14 f_152_2 rfl hyp (fun _ hyp => ?_) (fun _ hyp => ?_)
        · refine ls_iconst 0 f_152_14 (by decide) ?_
          refine ls_zreturn f_152_15 rZ_152 (by decide) ?_
          show lm_W _ _ _ _ [.int 0] _ _
          refine ls_zreturn f_163_11 rZ_163 (by decide) ?_
          show lm_W _ _ _ _ [.int 0] _ _
          refine ls_if_ne_T 28 f_168_18 rfl (by decide) ?_
          refine ls_aload_n f_168_21 rfl ?_
          refine ls_bipush (-2) f_168_22 (by decide) ?_
          refine ls_invV (a := 92) f_168_24 q_168_11 [.int (-2)] [] rfl (Nat.le_of_ble_eq_true rfl) hl S_92 ow_153 ?_
          refine ls_enter [some (.ref 92), some (.int (-2))] ml_153 (Nat.le_of_ble_eq_true rfl) rfl ?_
          refine ls_aload_n f_153_0 rfl ?_
          refine ls_iload_n f_153_1 rfl ?_
          refine ls_putI f_153_2 p_153_3 hl S_92 rfl ?_
          refine ls_aload_n f_153_5 rfl ?_
          refine ls_getR f_153_6 p_153_7 (lm_Lay_si hl _ _ _) S_92 F_92_2 ?_
          refine ls_iload_n f_153_9 rfl ?_
          refine ls_ineg 2 f_153_10 (by decide) ?_
          refine ls_dup2 f_153_11 rfl rfl ?_
          refine ls_ialdC 2 f_153_12 (lm_Lay_si hl _ _ _) S_93 ⟨by decide, by decide, by decide⟩ ?_
          refine ls_top (lm_i h 93 2) rfl ?_
          refine ls_iconst 1 f_153_13 (by decide) ?_
          refine ls_iadd ((lm_i h 93 2) + 1) f_153_14 rfl ?_
          refine ls_iastC 2 f_153_15 (lm_Lay_si hl _ _ _) S_93 ⟨by decide, by decide, by decide⟩ ?_
          refine ls_iload_n f_153_16 rfl ?_
          refine ls_ireturn f_153_17 rI_153 ?_
          show lm_W _ _ _ _ [.int (-2)] _ _
          exact ls_ireturn f_168_27 rI_168 hyp
        · refine ls_iload_n f_152_5 rfl ?_
          refine ls_iload_n f_152_6 rfl ?_
          refine ls_icmp_gt 14 f_152_7 rfl hyp (fun _ hyp => ?_) (fun _ hyp => ?_)
          · refine ls_iconst 0 f_152_14 (by decide) ?_
            refine ls_zreturn f_152_15 rZ_152 (by decide) ?_
            show lm_W _ _ _ _ [.int 0] _ _
            refine ls_zreturn f_163_11 rZ_163 (by decide) ?_
            show lm_W _ _ _ _ [.int 0] _ _
            refine ls_if_ne_T 28 f_168_18 rfl (by decide) ?_
            refine ls_aload_n f_168_21 rfl ?_
            refine ls_bipush (-2) f_168_22 (by decide) ?_
            refine ls_invV (a := 92) f_168_24 q_168_11 [.int (-2)] [] rfl (Nat.le_of_ble_eq_true rfl) hl S_92 ow_153 ?_
            refine ls_enter [some (.ref 92), some (.int (-2))] ml_153 (Nat.le_of_ble_eq_true rfl) rfl ?_
            refine ls_aload_n f_153_0 rfl ?_
            refine ls_iload_n f_153_1 rfl ?_
            refine ls_putI f_153_2 p_153_3 hl S_92 rfl ?_
            refine ls_aload_n f_153_5 rfl ?_
            refine ls_getR f_153_6 p_153_7 (lm_Lay_si hl _ _ _) S_92 F_92_2 ?_
            refine ls_iload_n f_153_9 rfl ?_
            refine ls_ineg 2 f_153_10 (by decide) ?_
            refine ls_dup2 f_153_11 rfl rfl ?_
            refine ls_ialdC 2 f_153_12 (lm_Lay_si hl _ _ _) S_93 ⟨by decide, by decide, by decide⟩ ?_
            refine ls_top (lm_i h 93 2) rfl ?_
            refine ls_iconst 1 f_153_13 (by decide) ?_
            refine ls_iadd ((lm_i h 93 2) + 1) f_153_14 rfl ?_
            refine ls_iastC 2 f_153_15 (lm_Lay_si hl _ _ _) S_93 ⟨by decide, by decide, by decide⟩ ?_
            refine ls_iload_n f_153_16 rfl ?_
            refine ls_ireturn f_153_17 rI_153 ?_
            show lm_W _ _ _ _ [.int (-2)] _ _
            exact ls_ireturn f_168_27 rI_168 hyp
          · refine ls_iconst 1 f_152_10 (by decide) ?_
            refine ls_goto 15 f_152_11 rfl ?_
            refine ls_zreturn f_152_15 rZ_152 (by decide) ?_
            show lm_W _ _ _ _ [.int 1] _ _
            refine ls_zreturn f_163_11 rZ_163 (by decide) ?_
            show lm_W _ _ _ _ [.int 1] _ _
            refine ls_if_ne_F 28 f_168_18 rfl (by decide) ?_
            refine ls_aload_n f_168_28 rfl ?_
            refine ls_getR f_168_29 p_168_25 hl S_92 F_92_3 ?_
            refine ls_bipush 71 f_168_32 (by decide) ?_
            refine ls_iload_n f_168_34 rfl ?_
            refine ls_iadd (71 + x1) f_168_35 rfl ?_
            refine ls_iald f_168_36 hl S_94 hyp (fun hyp => ?_)
            refine ls_istore_n [some (.ref 92), some (.int x1), some (.int x2), some (.int (lm_i h 94 ((71 + x1).toNatClampNeg)))] f_168_37 (Nat.le_of_ble_eq_true rfl) rfl ?_
            refine ls_aload_n f_168_38 rfl ?_
            refine ls_getR f_168_39 p_168_25 hl S_92 F_92_3 ?_
            refine ls_bipush 71 f_168_42 (by decide) ?_
            refine ls_iload_n f_168_44 rfl ?_
            refine ls_iadd (71 + x1) f_168_45 rfl ?_
            refine ls_iload_n f_168_46 rfl ?_
            refine ls_iast f_168_47 hl S_94 hyp (fun hyp => ?_)
            refine ls_aload_n f_168_48 rfl ?_
            refine ls_iload_n f_168_49 rfl ?_
            refine ls_invV (a := 92) f_168_50 q_168_119 [.int (lm_i h 94 ((71 + x1).toNatClampNeg))] [] rfl (Nat.le_of_ble_eq_true rfl) (lm_Lay_si hl _ _ _) S_92 ow_155 ?_
            refine ls_enter [some (.ref 92), some (.int (lm_i h 94 ((71 + x1).toNatClampNeg)))] ml_155 (Nat.le_of_ble_eq_true rfl) rfl ?_
            refine ls_aload_n f_155_0 rfl ?_
            refine ls_iconst 0 f_155_1 (by decide) ?_
            refine ls_putI f_155_2 p_155_3 (lm_Lay_si hl _ _ _) S_92 rfl ?_
            refine ls_aload_n f_155_5 rfl ?_
            refine ls_dup f_155_6 rfl ?_
            refine ls_getI f_155_7 p_155_16 (lm_Lay_si (lm_Lay_si hl _ _ _) _ _ _) S_92 ?_
            refine ls_top (lm_i h 92 1) rfl ?_
            refine ls_iconst 1 f_155_10 (by decide) ?_
            refine ls_iadd ((lm_i h 92 1) + 1) f_155_11 rfl ?_
            refine ls_putI f_155_12 p_155_16 (lm_Lay_si (lm_Lay_si hl _ _ _) _ _ _) S_92 rfl ?_
            refine ls_iload_n f_155_15 rfl ?_
            refine ls_ireturn f_155_16 rI_155 ?_
            show lm_W _ _ _ _ [.int (lm_i h 94 ((71 + x1).toNatClampNeg))] _ _
            exact ls_ireturn f_168_53 rI_168 hyp
theorem e_169 {d : Nat} {h : lm_H} {K : Int32 → lm_H → Prop} (x1 : Int32) (x2 : Int32) (hl : lm_Lay h) (hyp : (if x2 < 0 then (K (-1) (lm_si (lm_si h 92 0 (-1)) 93 1 ((lm_i h 93 1) + 1))) else (if 5 < x2 then (K (-1) (lm_si (lm_si h 92 0 (-1)) 93 1 ((lm_i h 93 1) + 1))) else (if x1 < 0 then (K (-2) (lm_si (lm_si h 92 0 (-2)) 93 2 ((lm_i h 93 2) + 1))) else (if ((lm_i h 94 81) - 1) < x1 then (K (-2) (lm_si (lm_si h 92 0 (-2)) 93 2 ((lm_i h 93 2) + 1))) else (lm_in (76 + x1) 4893 False (lm_in (76 + x1) 4893 False (K (lm_i h 94 ((76 + x1).toNatClampNeg)) (lm_si (lm_si (lm_si h 94 ((76 + x1).toNatClampNeg) x2) 92 0 0) 92 1 ((lm_i h 92 1) + 1)))))))))) : lm_call (d + 3) 169 [.ref 92, .int x1, .int x2] h (lm_kI K) := by
  refine ls_enter [some (.ref 92), some (.int x1), some (.int x2), none] ml_169 (Nat.le_of_ble_eq_true rfl) rfl ?_
  refine ls_iload_n f_169_0 rfl ?_
  refine ls_iconst 0 f_169_1 (by decide) ?_
  refine ls_iconst 5 f_169_2 (by decide) ?_
  refine ls_invS f_169_3 q_169_115 [.int x2, .int 0, .int 5] [] rfl (Nat.le_of_ble_eq_true rfl) ?_
  refine ls_enter [some (.int x2), some (.int 0), some (.int 5)] ml_152 (Nat.le_of_ble_eq_true rfl) rfl ?_
  refine ls_iload_n f_152_0 rfl ?_
  refine ls_iload_n f_152_1 rfl ?_
  refine ls_icmp_lt 14 f_152_2 rfl hyp (fun _ hyp => ?_) (fun _ hyp => ?_)
  · refine ls_iconst 0 f_152_14 (by decide) ?_
    refine ls_zreturn f_152_15 rZ_152 (by decide) ?_
    show lm_W _ _ _ _ [.int 0] _ _
    refine ls_if_ne_T 15 f_169_6 rfl (by decide) ?_
    refine ls_aload_n f_169_9 rfl ?_
    refine ls_iconst (-1) f_169_10 (by decide) ?_
    refine ls_invV (a := 92) f_169_11 q_169_11 [.int (-1)] [] rfl (Nat.le_of_ble_eq_true rfl) hl S_92 ow_153 ?_
    refine ls_enter [some (.ref 92), some (.int (-1))] ml_153 (Nat.le_of_ble_eq_true rfl) rfl ?_
    refine ls_aload_n f_153_0 rfl ?_
    refine ls_iload_n f_153_1 rfl ?_
    refine ls_putI f_153_2 p_153_3 hl S_92 rfl ?_
    refine ls_aload_n f_153_5 rfl ?_
    refine ls_getR f_153_6 p_153_7 (lm_Lay_si hl _ _ _) S_92 F_92_2 ?_
    refine ls_iload_n f_153_9 rfl ?_
    refine ls_ineg 1 f_153_10 (by decide) ?_
    refine ls_dup2 f_153_11 rfl rfl ?_
    refine ls_ialdC 1 f_153_12 (lm_Lay_si hl _ _ _) S_93 ⟨by decide, by decide, by decide⟩ ?_
    refine ls_top (lm_i h 93 1) rfl ?_
    refine ls_iconst 1 f_153_13 (by decide) ?_
    refine ls_iadd ((lm_i h 93 1) + 1) f_153_14 rfl ?_
    refine ls_iastC 1 f_153_15 (lm_Lay_si hl _ _ _) S_93 ⟨by decide, by decide, by decide⟩ ?_
    refine ls_iload_n f_153_16 rfl ?_
    refine ls_ireturn f_153_17 rI_153 ?_
    show lm_W _ _ _ _ [.int (-1)] _ _
    exact ls_ireturn f_169_14 rI_169 hyp
  · refine ls_iload_n f_152_5 rfl ?_
    refine ls_iload_n f_152_6 rfl ?_
    refine ls_icmp_gt 14 f_152_7 rfl hyp (fun _ hyp => ?_) (fun _ hyp => ?_)
    · refine ls_iconst 0 f_152_14 (by decide) ?_
      refine ls_zreturn f_152_15 rZ_152 (by decide) ?_
      show lm_W _ _ _ _ [.int 0] _ _
      refine ls_if_ne_T 15 f_169_6 rfl (by decide) ?_
      refine ls_aload_n f_169_9 rfl ?_
      refine ls_iconst (-1) f_169_10 (by decide) ?_
      refine ls_invV (a := 92) f_169_11 q_169_11 [.int (-1)] [] rfl (Nat.le_of_ble_eq_true rfl) hl S_92 ow_153 ?_
      refine ls_enter [some (.ref 92), some (.int (-1))] ml_153 (Nat.le_of_ble_eq_true rfl) rfl ?_
      refine ls_aload_n f_153_0 rfl ?_
      refine ls_iload_n f_153_1 rfl ?_
      refine ls_putI f_153_2 p_153_3 hl S_92 rfl ?_
      refine ls_aload_n f_153_5 rfl ?_
      refine ls_getR f_153_6 p_153_7 (lm_Lay_si hl _ _ _) S_92 F_92_2 ?_
      refine ls_iload_n f_153_9 rfl ?_
      refine ls_ineg 1 f_153_10 (by decide) ?_
      refine ls_dup2 f_153_11 rfl rfl ?_
      refine ls_ialdC 1 f_153_12 (lm_Lay_si hl _ _ _) S_93 ⟨by decide, by decide, by decide⟩ ?_
      refine ls_top (lm_i h 93 1) rfl ?_
      refine ls_iconst 1 f_153_13 (by decide) ?_
      refine ls_iadd ((lm_i h 93 1) + 1) f_153_14 rfl ?_
      refine ls_iastC 1 f_153_15 (lm_Lay_si hl _ _ _) S_93 ⟨by decide, by decide, by decide⟩ ?_
      refine ls_iload_n f_153_16 rfl ?_
      refine ls_ireturn f_153_17 rI_153 ?_
      show lm_W _ _ _ _ [.int (-1)] _ _
      exact ls_ireturn f_169_14 rI_169 hyp
    · refine ls_iconst 1 f_152_10 (by decide) ?_
      refine ls_goto 15 f_152_11 rfl ?_
      refine ls_zreturn f_152_15 rZ_152 (by decide) ?_
      show lm_W _ _ _ _ [.int 1] _ _
      refine ls_if_ne_F 15 f_169_6 rfl (by decide) ?_
      refine ls_aload_n f_169_15 rfl ?_
      refine ls_iload_n f_169_16 rfl ?_
      refine ls_invV (a := 92) f_169_17 q_169_132 [.int x1] [] rfl (Nat.le_of_ble_eq_true rfl) hl S_92 ow_162 ?_
      refine ls_enter [some (.ref 92), some (.int x1)] ml_162 (Nat.le_of_ble_eq_true rfl) rfl ?_
      refine ls_iload_n f_162_0 rfl ?_
      refine ls_iconst 0 f_162_1 (by decide) ?_
      refine ls_aload_n f_162_2 rfl ?_
      refine ls_invV (a := 92) f_162_3 q_162_122 [] [.int 0, .int x1] rfl (Nat.le_of_ble_eq_true rfl) hl S_92 ow_160 ?_
      refine ls_enter [some (.ref 92)] ml_160 (Nat.le_of_ble_eq_true rfl) rfl ?_
      refine ls_aload_n f_160_0 rfl ?_
      refine ls_getR f_160_1 p_160_25 hl S_92 F_92_3 ?_
      refine ls_bipush 81 f_160_4 (by decide) ?_
      refine ls_ialdC 81 f_160_6 hl S_94 ⟨by decide, by decide, by decide⟩ ?_
      refine ls_ireturn f_160_7 rI_160 ?_
      show lm_W _ _ _ _ [.int (lm_i h 94 81), .int 0, .int x1] _ _
      refine ls_iconst 1 f_162_6 (by decide) ?_
      refine ls_isub ((lm_i h 94 81) - 1) f_162_7 rfl ?_
      refine ls_invS f_162_8 q_162_115 [.int x1, .int 0, .int ((lm_i h 94 81) - 1)] [] rfl (Nat.le_of_ble_eq_true rfl) ?_
      refine ls_enter [some (.int x1), some (.int 0), some (.int ((lm_i h 94 81) - 1))] ml_152 (Nat.le_of_ble_eq_true rfl) rfl ?_
      refine ls_iload_n f_152_0 rfl ?_
      refine ls_iload_n f_152_1 rfl ?_
      refine ls_icmp_lt 14 f_152_2 rfl hyp (fun _ hyp => ?_) (fun _ hyp => ?_)
      · refine ls_iconst 0 f_152_14 (by decide) ?_
        refine ls_zreturn f_152_15 rZ_152 (by decide) ?_
        show lm_W _ _ _ _ [.int 0] _ _
        refine ls_zreturn f_162_11 rZ_162 (by decide) ?_
        show lm_W _ _ _ _ [.int 0] _ _
        refine ls_if_ne_T 30 f_169_20 rfl (by decide) ?_
        refine ls_aload_n f_169_23 rfl ?_
        refine ls_bipush (-2) f_169_24 (by decide) ?_
        refine ls_invV (a := 92) f_169_26 q_169_11 [.int (-2)] [] rfl (Nat.le_of_ble_eq_true rfl) hl S_92 ow_153 ?_
        refine ls_enter [some (.ref 92), some (.int (-2))] ml_153 (Nat.le_of_ble_eq_true rfl) rfl ?_
        refine ls_aload_n f_153_0 rfl ?_
        refine ls_iload_n f_153_1 rfl ?_
        refine ls_putI f_153_2 p_153_3 hl S_92 rfl ?_
        refine ls_aload_n f_153_5 rfl ?_
        refine ls_getR f_153_6 p_153_7 (lm_Lay_si hl _ _ _) S_92 F_92_2 ?_
        refine ls_iload_n f_153_9 rfl ?_
        refine ls_ineg 2 f_153_10 (by decide) ?_
        refine ls_dup2 f_153_11 rfl rfl ?_
        refine ls_ialdC 2 f_153_12 (lm_Lay_si hl _ _ _) S_93 ⟨by decide, by decide, by decide⟩ ?_
        refine ls_top (lm_i h 93 2) rfl ?_
        refine ls_iconst 1 f_153_13 (by decide) ?_
        refine ls_iadd ((lm_i h 93 2) + 1) f_153_14 rfl ?_
        refine ls_iastC 2 f_153_15 (lm_Lay_si hl _ _ _) S_93 ⟨by decide, by decide, by decide⟩ ?_
        refine ls_iload_n f_153_16 rfl ?_
        refine ls_ireturn f_153_17 rI_153 ?_
        show lm_W _ _ _ _ [.int (-2)] _ _
        exact ls_ireturn f_169_29 rI_169 hyp
      · refine ls_iload_n f_152_5 rfl ?_
        refine ls_iload_n f_152_6 rfl ?_
        refine ls_icmp_gt 14 f_152_7 rfl hyp (fun _ hyp => ?_) (fun _ hyp => ?_)
        · refine ls_iconst 0 f_152_14 (by decide) ?_
          refine ls_zreturn f_152_15 rZ_152 (by decide) ?_
          show lm_W _ _ _ _ [.int 0] _ _
          refine ls_zreturn f_162_11 rZ_162 (by decide) ?_
          show lm_W _ _ _ _ [.int 0] _ _
          refine ls_if_ne_T 30 f_169_20 rfl (by decide) ?_
          refine ls_aload_n f_169_23 rfl ?_
          refine ls_bipush (-2) f_169_24 (by decide) ?_
          refine ls_invV (a := 92) f_169_26 q_169_11 [.int (-2)] [] rfl (Nat.le_of_ble_eq_true rfl) hl S_92 ow_153 ?_
          refine ls_enter [some (.ref 92), some (.int (-2))] ml_153 (Nat.le_of_ble_eq_true rfl) rfl ?_
          refine ls_aload_n f_153_0 rfl ?_
          refine ls_iload_n f_153_1 rfl ?_
          refine ls_putI f_153_2 p_153_3 hl S_92 rfl ?_
          refine ls_aload_n f_153_5 rfl ?_
          refine ls_getR f_153_6 p_153_7 (lm_Lay_si hl _ _ _) S_92 F_92_2 ?_
          refine ls_iload_n f_153_9 rfl ?_
          refine ls_ineg 2 f_153_10 (by decide) ?_
          refine ls_dup2 f_153_11 rfl rfl ?_
          refine ls_ialdC 2 f_153_12 (lm_Lay_si hl _ _ _) S_93 ⟨by decide, by decide, by decide⟩ ?_
          refine ls_top (lm_i h 93 2) rfl ?_
          refine ls_iconst 1 f_153_13 (by decide) ?_
          refine ls_iadd ((lm_i h 93 2) + 1) f_153_14 rfl ?_
          refine ls_iastC 2 f_153_15 (lm_Lay_si hl _ _ _) S_93 ⟨by decide, by decide, by decide⟩ ?_
          refine ls_iload_n f_153_16 rfl ?_
          refine ls_ireturn f_153_17 rI_153 ?_
          show lm_W _ _ _ _ [.int (-2)] _ _
          exact ls_ireturn f_169_29 rI_169 hyp
        · refine ls_iconst 1 f_152_10 (by decide) ?_
          refine ls_goto 15 f_152_11 rfl ?_
          refine ls_zreturn f_152_15 rZ_152 (by decide) ?_
          show lm_W _ _ _ _ [.int 1] _ _
          refine ls_zreturn f_162_11 rZ_162 (by decide) ?_
          show lm_W _ _ _ _ [.int 1] _ _
          refine ls_if_ne_F 30 f_169_20 rfl (by decide) ?_
          refine ls_aload_n f_169_30 rfl ?_
          refine ls_getR f_169_31 p_169_25 hl S_92 F_92_3 ?_
          refine ls_bipush 76 f_169_34 (by decide) ?_
          refine ls_iload_n f_169_36 rfl ?_
          refine ls_iadd (76 + x1) f_169_37 rfl ?_
          refine ls_iald f_169_38 hl S_94 hyp (fun hyp => ?_)
          refine ls_istore_n [some (.ref 92), some (.int x1), some (.int x2), some (.int (lm_i h 94 ((76 + x1).toNatClampNeg)))] f_169_39 (Nat.le_of_ble_eq_true rfl) rfl ?_
          refine ls_aload_n f_169_40 rfl ?_
          refine ls_getR f_169_41 p_169_25 hl S_92 F_92_3 ?_
          refine ls_bipush 76 f_169_44 (by decide) ?_
          refine ls_iload_n f_169_46 rfl ?_
          refine ls_iadd (76 + x1) f_169_47 rfl ?_
          refine ls_iload_n f_169_48 rfl ?_
          refine ls_iast f_169_49 hl S_94 hyp (fun hyp => ?_)
          refine ls_aload_n f_169_50 rfl ?_
          refine ls_iload_n f_169_51 rfl ?_
          refine ls_invV (a := 92) f_169_52 q_169_119 [.int (lm_i h 94 ((76 + x1).toNatClampNeg))] [] rfl (Nat.le_of_ble_eq_true rfl) (lm_Lay_si hl _ _ _) S_92 ow_155 ?_
          refine ls_enter [some (.ref 92), some (.int (lm_i h 94 ((76 + x1).toNatClampNeg)))] ml_155 (Nat.le_of_ble_eq_true rfl) rfl ?_
          refine ls_aload_n f_155_0 rfl ?_
          refine ls_iconst 0 f_155_1 (by decide) ?_
          refine ls_putI f_155_2 p_155_3 (lm_Lay_si hl _ _ _) S_92 rfl ?_
          refine ls_aload_n f_155_5 rfl ?_
          refine ls_dup f_155_6 rfl ?_
          refine ls_getI f_155_7 p_155_16 (lm_Lay_si (lm_Lay_si hl _ _ _) _ _ _) S_92 ?_
          refine ls_top (lm_i h 92 1) rfl ?_
          refine ls_iconst 1 f_155_10 (by decide) ?_
          refine ls_iadd ((lm_i h 92 1) + 1) f_155_11 rfl ?_
          refine ls_putI f_155_12 p_155_16 (lm_Lay_si (lm_Lay_si hl _ _ _) _ _ _) S_92 rfl ?_
          refine ls_iload_n f_155_15 rfl ?_
          refine ls_ireturn f_155_16 rI_155 ?_
          show lm_W _ _ _ _ [.int (lm_i h 94 ((76 + x1).toNatClampNeg))] _ _
          exact ls_ireturn f_169_55 rI_169 hyp
theorem e_170 {d : Nat} {h : lm_H} {K : Int32 → lm_H → Prop} (x1 : Int32) (x2 : Int32) (x3 : Int32) (hl : lm_Lay h) (hyp : (if x3 < 0 then (K (-1) (lm_si (lm_si h 92 0 (-1)) 93 1 ((lm_i h 93 1) + 1))) else (if 10 < x3 then (K (-1) (lm_si (lm_si h 92 0 (-1)) 93 1 ((lm_i h 93 1) + 1))) else (if x1 < 0 then (K (-2) (lm_si (lm_si h 92 0 (-2)) 93 2 ((lm_i h 93 2) + 1))) else (if ((lm_i h 94 81) - 1) < x1 then (K (-2) (lm_si (lm_si h 92 0 (-2)) 93 2 ((lm_i h 93 2) + 1))) else (if x2 < 0 then (K (-2) (lm_si (lm_si h 92 0 (-2)) 93 2 ((lm_i h 93 2) + 1))) else (if ((lm_i h 94 82) - 1) < x2 then (K (-2) (lm_si (lm_si h 92 0 (-2)) 93 2 ((lm_i h 93 2) + 1))) else (lm_W (d + 2) 170 45 [some (.ref 92), some (.int x1), some (.int x2), some (.int x3), some (.int x3), some (.int 0)] [] h (lm_kI K))))))))) : lm_call (d + 3) 170 [.ref 92, .int x1, .int x2, .int x3] h (lm_kI K) := by
  refine ls_enter [some (.ref 92), some (.int x1), some (.int x2), some (.int x3), none, none] ml_170 (Nat.le_of_ble_eq_true rfl) rfl ?_
  refine ls_iload_n f_170_0 rfl ?_
  refine ls_iconst 0 f_170_1 (by decide) ?_
  refine ls_bipush 10 f_170_2 (by decide) ?_
  refine ls_invS f_170_4 q_170_115 [.int x3, .int 0, .int 10] [] rfl (Nat.le_of_ble_eq_true rfl) ?_
  refine ls_enter [some (.int x3), some (.int 0), some (.int 10)] ml_152 (Nat.le_of_ble_eq_true rfl) rfl ?_
  refine ls_iload_n f_152_0 rfl ?_
  refine ls_iload_n f_152_1 rfl ?_
  refine ls_icmp_lt 14 f_152_2 rfl hyp (fun _ hyp => ?_) (fun _ hyp => ?_)
  · refine ls_iconst 0 f_152_14 (by decide) ?_
    refine ls_zreturn f_152_15 rZ_152 (by decide) ?_
    show lm_W _ _ _ _ [.int 0] _ _
    refine ls_if_ne_T 16 f_170_7 rfl (by decide) ?_
    refine ls_aload_n f_170_10 rfl ?_
    refine ls_iconst (-1) f_170_11 (by decide) ?_
    refine ls_invV (a := 92) f_170_12 q_170_11 [.int (-1)] [] rfl (Nat.le_of_ble_eq_true rfl) hl S_92 ow_153 ?_
    refine ls_enter [some (.ref 92), some (.int (-1))] ml_153 (Nat.le_of_ble_eq_true rfl) rfl ?_
    refine ls_aload_n f_153_0 rfl ?_
    refine ls_iload_n f_153_1 rfl ?_
    refine ls_putI f_153_2 p_153_3 hl S_92 rfl ?_
    refine ls_aload_n f_153_5 rfl ?_
    refine ls_getR f_153_6 p_153_7 (lm_Lay_si hl _ _ _) S_92 F_92_2 ?_
    refine ls_iload_n f_153_9 rfl ?_
    refine ls_ineg 1 f_153_10 (by decide) ?_
    refine ls_dup2 f_153_11 rfl rfl ?_
    refine ls_ialdC 1 f_153_12 (lm_Lay_si hl _ _ _) S_93 ⟨by decide, by decide, by decide⟩ ?_
    refine ls_top (lm_i h 93 1) rfl ?_
    refine ls_iconst 1 f_153_13 (by decide) ?_
    refine ls_iadd ((lm_i h 93 1) + 1) f_153_14 rfl ?_
    refine ls_iastC 1 f_153_15 (lm_Lay_si hl _ _ _) S_93 ⟨by decide, by decide, by decide⟩ ?_
    refine ls_iload_n f_153_16 rfl ?_
    refine ls_ireturn f_153_17 rI_153 ?_
    show lm_W _ _ _ _ [.int (-1)] _ _
    exact ls_ireturn f_170_15 rI_170 hyp
  · refine ls_iload_n f_152_5 rfl ?_
    refine ls_iload_n f_152_6 rfl ?_
    refine ls_icmp_gt 14 f_152_7 rfl hyp (fun _ hyp => ?_) (fun _ hyp => ?_)
    · refine ls_iconst 0 f_152_14 (by decide) ?_
      refine ls_zreturn f_152_15 rZ_152 (by decide) ?_
      show lm_W _ _ _ _ [.int 0] _ _
      refine ls_if_ne_T 16 f_170_7 rfl (by decide) ?_
      refine ls_aload_n f_170_10 rfl ?_
      refine ls_iconst (-1) f_170_11 (by decide) ?_
      refine ls_invV (a := 92) f_170_12 q_170_11 [.int (-1)] [] rfl (Nat.le_of_ble_eq_true rfl) hl S_92 ow_153 ?_
      refine ls_enter [some (.ref 92), some (.int (-1))] ml_153 (Nat.le_of_ble_eq_true rfl) rfl ?_
      refine ls_aload_n f_153_0 rfl ?_
      refine ls_iload_n f_153_1 rfl ?_
      refine ls_putI f_153_2 p_153_3 hl S_92 rfl ?_
      refine ls_aload_n f_153_5 rfl ?_
      refine ls_getR f_153_6 p_153_7 (lm_Lay_si hl _ _ _) S_92 F_92_2 ?_
      refine ls_iload_n f_153_9 rfl ?_
      refine ls_ineg 1 f_153_10 (by decide) ?_
      refine ls_dup2 f_153_11 rfl rfl ?_
      refine ls_ialdC 1 f_153_12 (lm_Lay_si hl _ _ _) S_93 ⟨by decide, by decide, by decide⟩ ?_
      refine ls_top (lm_i h 93 1) rfl ?_
      refine ls_iconst 1 f_153_13 (by decide) ?_
      refine ls_iadd ((lm_i h 93 1) + 1) f_153_14 rfl ?_
      refine ls_iastC 1 f_153_15 (lm_Lay_si hl _ _ _) S_93 ⟨by decide, by decide, by decide⟩ ?_
      refine ls_iload_n f_153_16 rfl ?_
      refine ls_ireturn f_153_17 rI_153 ?_
      show lm_W _ _ _ _ [.int (-1)] _ _
      exact ls_ireturn f_170_15 rI_170 hyp
    · refine ls_iconst 1 f_152_10 (by decide) ?_
      refine ls_goto 15 f_152_11 rfl ?_
      refine ls_zreturn f_152_15 rZ_152 (by decide) ?_
      show lm_W _ _ _ _ [.int 1] _ _
      refine ls_if_ne_F 16 f_170_7 rfl (by decide) ?_
      refine ls_aload_n f_170_16 rfl ?_
      refine ls_iload_n f_170_17 rfl ?_
      refine ls_invV (a := 92) f_170_18 q_170_132 [.int x1] [] rfl (Nat.le_of_ble_eq_true rfl) hl S_92 ow_162 ?_
      refine ls_enter [some (.ref 92), some (.int x1)] ml_162 (Nat.le_of_ble_eq_true rfl) rfl ?_
      refine ls_iload_n f_162_0 rfl ?_
      refine ls_iconst 0 f_162_1 (by decide) ?_
      refine ls_aload_n f_162_2 rfl ?_
      refine ls_invV (a := 92) f_162_3 q_162_122 [] [.int 0, .int x1] rfl (Nat.le_of_ble_eq_true rfl) hl S_92 ow_160 ?_
      refine ls_enter [some (.ref 92)] ml_160 (Nat.le_of_ble_eq_true rfl) rfl ?_
      refine ls_aload_n f_160_0 rfl ?_
      refine ls_getR f_160_1 p_160_25 hl S_92 F_92_3 ?_
      refine ls_bipush 81 f_160_4 (by decide) ?_
      refine ls_ialdC 81 f_160_6 hl S_94 ⟨by decide, by decide, by decide⟩ ?_
      refine ls_ireturn f_160_7 rI_160 ?_
      show lm_W _ _ _ _ [.int (lm_i h 94 81), .int 0, .int x1] _ _
      refine ls_iconst 1 f_162_6 (by decide) ?_
      refine ls_isub ((lm_i h 94 81) - 1) f_162_7 rfl ?_
      refine ls_invS f_162_8 q_162_115 [.int x1, .int 0, .int ((lm_i h 94 81) - 1)] [] rfl (Nat.le_of_ble_eq_true rfl) ?_
      refine ls_enter [some (.int x1), some (.int 0), some (.int ((lm_i h 94 81) - 1))] ml_152 (Nat.le_of_ble_eq_true rfl) rfl ?_
      refine ls_iload_n f_152_0 rfl ?_
      refine ls_iload_n f_152_1 rfl ?_
      refine ls_icmp_lt 14 f_152_2 rfl hyp (fun _ hyp => ?_) (fun _ hyp => ?_)
      · refine ls_iconst 0 f_152_14 (by decide) ?_
        refine ls_zreturn f_152_15 rZ_152 (by decide) ?_
        show lm_W _ _ _ _ [.int 0] _ _
        refine ls_zreturn f_162_11 rZ_162 (by decide) ?_
        show lm_W _ _ _ _ [.int 0] _ _
        refine ls_if_eq_T 32 f_170_21 rfl (by decide) ?_
        refine ls_aload_n f_170_32 rfl ?_
        refine ls_bipush (-2) f_170_33 (by decide) ?_
        refine ls_invV (a := 92) f_170_35 q_170_11 [.int (-2)] [] rfl (Nat.le_of_ble_eq_true rfl) hl S_92 ow_153 ?_
        refine ls_enter [some (.ref 92), some (.int (-2))] ml_153 (Nat.le_of_ble_eq_true rfl) rfl ?_
        refine ls_aload_n f_153_0 rfl ?_
        refine ls_iload_n f_153_1 rfl ?_
        refine ls_putI f_153_2 p_153_3 hl S_92 rfl ?_
        refine ls_aload_n f_153_5 rfl ?_
        refine ls_getR f_153_6 p_153_7 (lm_Lay_si hl _ _ _) S_92 F_92_2 ?_
        refine ls_iload_n f_153_9 rfl ?_
        refine ls_ineg 2 f_153_10 (by decide) ?_
        refine ls_dup2 f_153_11 rfl rfl ?_
        refine ls_ialdC 2 f_153_12 (lm_Lay_si hl _ _ _) S_93 ⟨by decide, by decide, by decide⟩ ?_
        refine ls_top (lm_i h 93 2) rfl ?_
        refine ls_iconst 1 f_153_13 (by decide) ?_
        refine ls_iadd ((lm_i h 93 2) + 1) f_153_14 rfl ?_
        refine ls_iastC 2 f_153_15 (lm_Lay_si hl _ _ _) S_93 ⟨by decide, by decide, by decide⟩ ?_
        refine ls_iload_n f_153_16 rfl ?_
        refine ls_ireturn f_153_17 rI_153 ?_
        show lm_W _ _ _ _ [.int (-2)] _ _
        exact ls_ireturn f_170_38 rI_170 hyp
      · refine ls_iload_n f_152_5 rfl ?_
        refine ls_iload_n f_152_6 rfl ?_
        refine ls_icmp_gt 14 f_152_7 rfl hyp (fun _ hyp => ?_) (fun _ hyp => ?_)
        · refine ls_iconst 0 f_152_14 (by decide) ?_
          refine ls_zreturn f_152_15 rZ_152 (by decide) ?_
          show lm_W _ _ _ _ [.int 0] _ _
          refine ls_zreturn f_162_11 rZ_162 (by decide) ?_
          show lm_W _ _ _ _ [.int 0] _ _
          refine ls_if_eq_T 32 f_170_21 rfl (by decide) ?_
          refine ls_aload_n f_170_32 rfl ?_
          refine ls_bipush (-2) f_170_33 (by decide) ?_
          refine ls_invV (a := 92) f_170_35 q_170_11 [.int (-2)] [] rfl (Nat.le_of_ble_eq_true rfl) hl S_92 ow_153 ?_
          refine ls_enter [some (.ref 92), some (.int (-2))] ml_153 (Nat.le_of_ble_eq_true rfl) rfl ?_
          refine ls_aload_n f_153_0 rfl ?_
          refine ls_iload_n f_153_1 rfl ?_
          refine ls_putI f_153_2 p_153_3 hl S_92 rfl ?_
          refine ls_aload_n f_153_5 rfl ?_
          refine ls_getR f_153_6 p_153_7 (lm_Lay_si hl _ _ _) S_92 F_92_2 ?_
          refine ls_iload_n f_153_9 rfl ?_
          refine ls_ineg 2 f_153_10 (by decide) ?_
          refine ls_dup2 f_153_11 rfl rfl ?_
          refine ls_ialdC 2 f_153_12 (lm_Lay_si hl _ _ _) S_93 ⟨by decide, by decide, by decide⟩ ?_
          refine ls_top (lm_i h 93 2) rfl ?_
          refine ls_iconst 1 f_153_13 (by decide) ?_
          refine ls_iadd ((lm_i h 93 2) + 1) f_153_14 rfl ?_
          refine ls_iastC 2 f_153_15 (lm_Lay_si hl _ _ _) S_93 ⟨by decide, by decide, by decide⟩ ?_
          refine ls_iload_n f_153_16 rfl ?_
          refine ls_ireturn f_153_17 rI_153 ?_
          show lm_W _ _ _ _ [.int (-2)] _ _
          exact ls_ireturn f_170_38 rI_170 hyp
        · refine ls_iconst 1 f_152_10 (by decide) ?_
          refine ls_goto 15 f_152_11 rfl ?_
          refine ls_zreturn f_152_15 rZ_152 (by decide) ?_
          show lm_W _ _ _ _ [.int 1] _ _
          refine ls_zreturn f_162_11 rZ_162 (by decide) ?_
          show lm_W _ _ _ _ [.int 1] _ _
          refine ls_if_eq_F 32 f_170_21 rfl (by decide) ?_
          refine ls_aload_n f_170_24 rfl ?_
          refine ls_iload_n f_170_25 rfl ?_
          refine ls_invV (a := 92) f_170_26 q_170_136 [.int x2] [] rfl (Nat.le_of_ble_eq_true rfl) hl S_92 ow_163 ?_
          refine ls_enter [some (.ref 92), some (.int x2)] ml_163 (Nat.le_of_ble_eq_true rfl) rfl ?_
          refine ls_iload_n f_163_0 rfl ?_
          refine ls_iconst 0 f_163_1 (by decide) ?_
          refine ls_aload_n f_163_2 rfl ?_
          refine ls_invV (a := 92) f_163_3 q_163_126 [] [.int 0, .int x2] rfl (Nat.le_of_ble_eq_true rfl) hl S_92 ow_161 ?_
          refine ls_enter [some (.ref 92)] ml_161 (Nat.le_of_ble_eq_true rfl) rfl ?_
          refine ls_aload_n f_161_0 rfl ?_
          refine ls_getR f_161_1 p_161_25 hl S_92 F_92_3 ?_
          refine ls_bipush 82 f_161_4 (by decide) ?_
          refine ls_ialdC 82 f_161_6 hl S_94 ⟨by decide, by decide, by decide⟩ ?_
          refine ls_ireturn f_161_7 rI_161 ?_
          show lm_W _ _ _ _ [.int (lm_i h 94 82), .int 0, .int x2] _ _
          refine ls_iconst 1 f_163_6 (by decide) ?_
          refine ls_isub ((lm_i h 94 82) - 1) f_163_7 rfl ?_
          refine ls_invS f_163_8 q_163_115 [.int x2, .int 0, .int ((lm_i h 94 82) - 1)] [] rfl (Nat.le_of_ble_eq_true rfl) ?_
          refine ls_enter [some (.int x2), some (.int 0), some (.int ((lm_i h 94 82) - 1))] ml_152 (Nat.le_of_ble_eq_true rfl) rfl ?_
          refine ls_iload_n f_152_0 rfl ?_
          refine ls_iload_n f_152_1 rfl ?_
          refine ls_icmp_lt 14 f_152_2 rfl hyp (fun _ hyp => ?_) (fun _ hyp => ?_)
          · refine ls_iconst 0 f_152_14 (by decide) ?_
            refine ls_zreturn f_152_15 rZ_152 (by decide) ?_
            show lm_W _ _ _ _ [.int 0] _ _
            refine ls_zreturn f_163_11 rZ_163 (by decide) ?_
            show lm_W _ _ _ _ [.int 0] _ _
            refine ls_if_ne_T 39 f_170_29 rfl (by decide) ?_
            refine ls_aload_n f_170_32 rfl ?_
            refine ls_bipush (-2) f_170_33 (by decide) ?_
            refine ls_invV (a := 92) f_170_35 q_170_11 [.int (-2)] [] rfl (Nat.le_of_ble_eq_true rfl) hl S_92 ow_153 ?_
            refine ls_enter [some (.ref 92), some (.int (-2))] ml_153 (Nat.le_of_ble_eq_true rfl) rfl ?_
            refine ls_aload_n f_153_0 rfl ?_
            refine ls_iload_n f_153_1 rfl ?_
            refine ls_putI f_153_2 p_153_3 hl S_92 rfl ?_
            refine ls_aload_n f_153_5 rfl ?_
            refine ls_getR f_153_6 p_153_7 (lm_Lay_si hl _ _ _) S_92 F_92_2 ?_
            refine ls_iload_n f_153_9 rfl ?_
            refine ls_ineg 2 f_153_10 (by decide) ?_
            refine ls_dup2 f_153_11 rfl rfl ?_
            refine ls_ialdC 2 f_153_12 (lm_Lay_si hl _ _ _) S_93 ⟨by decide, by decide, by decide⟩ ?_
            refine ls_top (lm_i h 93 2) rfl ?_
            refine ls_iconst 1 f_153_13 (by decide) ?_
            refine ls_iadd ((lm_i h 93 2) + 1) f_153_14 rfl ?_
            refine ls_iastC 2 f_153_15 (lm_Lay_si hl _ _ _) S_93 ⟨by decide, by decide, by decide⟩ ?_
            refine ls_iload_n f_153_16 rfl ?_
            refine ls_ireturn f_153_17 rI_153 ?_
            show lm_W _ _ _ _ [.int (-2)] _ _
            exact ls_ireturn f_170_38 rI_170 hyp
          · refine ls_iload_n f_152_5 rfl ?_
            refine ls_iload_n f_152_6 rfl ?_
            refine ls_icmp_gt 14 f_152_7 rfl hyp (fun _ hyp => ?_) (fun _ hyp => ?_)
            · refine ls_iconst 0 f_152_14 (by decide) ?_
              refine ls_zreturn f_152_15 rZ_152 (by decide) ?_
              show lm_W _ _ _ _ [.int 0] _ _
              refine ls_zreturn f_163_11 rZ_163 (by decide) ?_
              show lm_W _ _ _ _ [.int 0] _ _
              refine ls_if_ne_T 39 f_170_29 rfl (by decide) ?_
              refine ls_aload_n f_170_32 rfl ?_
              refine ls_bipush (-2) f_170_33 (by decide) ?_
              refine ls_invV (a := 92) f_170_35 q_170_11 [.int (-2)] [] rfl (Nat.le_of_ble_eq_true rfl) hl S_92 ow_153 ?_
              refine ls_enter [some (.ref 92), some (.int (-2))] ml_153 (Nat.le_of_ble_eq_true rfl) rfl ?_
              refine ls_aload_n f_153_0 rfl ?_
              refine ls_iload_n f_153_1 rfl ?_
              refine ls_putI f_153_2 p_153_3 hl S_92 rfl ?_
              refine ls_aload_n f_153_5 rfl ?_
              refine ls_getR f_153_6 p_153_7 (lm_Lay_si hl _ _ _) S_92 F_92_2 ?_
              refine ls_iload_n f_153_9 rfl ?_
              refine ls_ineg 2 f_153_10 (by decide) ?_
              refine ls_dup2 f_153_11 rfl rfl ?_
              refine ls_ialdC 2 f_153_12 (lm_Lay_si hl _ _ _) S_93 ⟨by decide, by decide, by decide⟩ ?_
              refine ls_top (lm_i h 93 2) rfl ?_
              refine ls_iconst 1 f_153_13 (by decide) ?_
              refine ls_iadd ((lm_i h 93 2) + 1) f_153_14 rfl ?_
              refine ls_iastC 2 f_153_15 (lm_Lay_si hl _ _ _) S_93 ⟨by decide, by decide, by decide⟩ ?_
              refine ls_iload_n f_153_16 rfl ?_
              refine ls_ireturn f_153_17 rI_153 ?_
              show lm_W _ _ _ _ [.int (-2)] _ _
              exact ls_ireturn f_170_38 rI_170 hyp
            · refine ls_iconst 1 f_152_10 (by decide) ?_
              refine ls_goto 15 f_152_11 rfl ?_
              refine ls_zreturn f_152_15 rZ_152 (by decide) ?_
              show lm_W _ _ _ _ [.int 1] _ _
              refine ls_zreturn f_163_11 rZ_163 (by decide) ?_
              show lm_W _ _ _ _ [.int 1] _ _
              refine ls_if_ne_F 39 f_170_29 rfl (by decide) ?_
              refine ls_iload_n f_170_39 rfl ?_
              refine ls_istore [some (.ref 92), some (.int x1), some (.int x2), some (.int x3), some (.int x3), none] f_170_40 (Nat.le_of_ble_eq_true rfl) rfl ?_
              refine ls_iconst 0 f_170_42 (by decide) ?_
              refine ls_istore [some (.ref 92), some (.int x1), some (.int x2), some (.int x3), some (.int x3), some (.int 0)] f_170_43 (Nat.le_of_ble_eq_true rfl) rfl ?_
              exact hyp
theorem b_170_45 {d : Nat} {h : lm_H} {K : Int32 → lm_H → Prop} (x1 : Int32) (x2 : Int32) (x3 : Int32) (x4 : Int32) (x5 : Int32) (hl : lm_Lay h) (hyp : (if x5 < (lm_i h 94 82) then (if x5 = x2 then (lm_W (d + 2) 170 45 [some (.ref 92), some (.int x1), some (.int x2), some (.int x3), some (.int (x4 + 0)), some (.int (x5 + 1))] [] h (lm_kI K)) else (lm_in ((41 + (6 * x1)) + x5) 4893 False (lm_W (d + 2) 170 45 [some (.ref 92), some (.int x1), some (.int x2), some (.int x3), some (.int (x4 + (lm_i h 94 (((41 + (6 * x1)) + x5).toNatClampNeg)))), some (.int (x5 + 1))] [] h (lm_kI K)))) else (if 10 < x4 then (K (-3) (lm_si (lm_si h 92 0 (-3)) 93 3 ((lm_i h 93 3) + 1))) else (lm_in ((41 + (6 * x1)) + x2) 4893 False (lm_in ((41 + (6 * x1)) + x2) 4893 False (K (lm_i h 94 (((41 + (6 * x1)) + x2).toNatClampNeg)) (lm_si (lm_si (lm_si h 94 (((41 + (6 * x1)) + x2).toNatClampNeg) x3) 92 0 0) 92 1 ((lm_i h 92 1) + 1)))))))) : lm_W (d + 2) 170 45 [some (.ref 92), some (.int x1), some (.int x2), some (.int x3), some (.int x4), some (.int x5)] [] h (lm_kI K) := by
  refine ls_iload f_170_45 rfl ?_
  refine ls_aload_n f_170_47 rfl ?_
  refine ls_invV (a := 92) f_170_48 q_170_126 [] [.int x5] rfl (Nat.le_of_ble_eq_true rfl) hl S_92 ow_161 ?_
  refine ls_enter [some (.ref 92)] ml_161 (Nat.le_of_ble_eq_true rfl) rfl ?_
  refine ls_aload_n f_161_0 rfl ?_
  refine ls_getR f_161_1 p_161_25 hl S_92 F_92_3 ?_
  refine ls_bipush 82 f_161_4 (by decide) ?_
  refine ls_ialdC 82 f_161_6 hl S_94 ⟨by decide, by decide, by decide⟩ ?_
  refine ls_ireturn f_161_7 rI_161 ?_
  show lm_W _ _ _ _ [.int (lm_i h 94 82), .int x5] _ _
  refine ls_icmp_ge 90 f_170_51 rfl hyp (fun _ hyp => ?_) (fun _ hyp => ?_)
  · refine ls_iload f_170_54 rfl ?_
    refine ls_iload f_170_56 rfl ?_
    refine ls_iload_n f_170_58 rfl ?_
    refine ls_icmp_ne 66 f_170_59 rfl hyp (fun _ hyp => ?_) (fun _ hyp => ?_)
    · refine ls_iconst 0 f_170_62 (by decide) ?_
      refine ls_goto 81 f_170_63 rfl ?_
      refine ls_iadd (x4 + 0) f_170_81 rfl ?_
      refine ls_istore [some (.ref 92), some (.int x1), some (.int x2), some (.int x3), some (.int (x4 + 0)), some (.int x5)] f_170_82 (Nat.le_of_ble_eq_true rfl) rfl ?_
      refine ls_iinc (x5 + 1) [some (.ref 92), some (.int x1), some (.int x2), some (.int x3), some (.int (x4 + 0)), some (.int (x5 + 1))] f_170_84 rfl (Nat.le_of_ble_eq_true rfl) rfl rfl ?_
      refine ls_goto 45 f_170_87 rfl ?_
      exact hyp
    · refine ls_aload_n f_170_66 rfl ?_
      refine ls_getR f_170_67 p_170_25 hl S_92 F_92_3 ?_
      refine ls_bipush 41 f_170_70 (by decide) ?_
      refine ls_bipush 6 f_170_72 (by decide) ?_
      refine ls_iload_n f_170_74 rfl ?_
      refine ls_imul (6 * x1) f_170_75 rfl ?_
      refine ls_iadd (41 + (6 * x1)) f_170_76 rfl ?_
      refine ls_iload f_170_77 rfl ?_
      refine ls_iadd ((41 + (6 * x1)) + x5) f_170_79 rfl ?_
      refine ls_iald f_170_80 hl S_94 hyp (fun hyp => ?_)
      refine ls_iadd (x4 + (lm_i h 94 (((41 + (6 * x1)) + x5).toNatClampNeg))) f_170_81 rfl ?_
      refine ls_istore [some (.ref 92), some (.int x1), some (.int x2), some (.int x3), some (.int (x4 + (lm_i h 94 (((41 + (6 * x1)) + x5).toNatClampNeg)))), some (.int x5)] f_170_82 (Nat.le_of_ble_eq_true rfl) rfl ?_
      refine ls_iinc (x5 + 1) [some (.ref 92), some (.int x1), some (.int x2), some (.int x3), some (.int (x4 + (lm_i h 94 (((41 + (6 * x1)) + x5).toNatClampNeg)))), some (.int (x5 + 1))] f_170_84 rfl (Nat.le_of_ble_eq_true rfl) rfl rfl ?_
      refine ls_goto 45 f_170_87 rfl ?_
      exact hyp
  · refine ls_iload f_170_90 rfl ?_
    refine ls_bipush 10 f_170_92 (by decide) ?_
    refine ls_icmp_le 104 f_170_94 rfl hyp (fun _ hyp => ?_) (fun _ hyp => ?_)
    · refine ls_aload_n f_170_97 rfl ?_
      refine ls_bipush (-3) f_170_98 (by decide) ?_
      refine ls_invV (a := 92) f_170_100 q_170_11 [.int (-3)] [] rfl (Nat.le_of_ble_eq_true rfl) hl S_92 ow_153 ?_
      refine ls_enter [some (.ref 92), some (.int (-3))] ml_153 (Nat.le_of_ble_eq_true rfl) rfl ?_
      refine ls_aload_n f_153_0 rfl ?_
      refine ls_iload_n f_153_1 rfl ?_
      refine ls_putI f_153_2 p_153_3 hl S_92 rfl ?_
      refine ls_aload_n f_153_5 rfl ?_
      refine ls_getR f_153_6 p_153_7 (lm_Lay_si hl _ _ _) S_92 F_92_2 ?_
      refine ls_iload_n f_153_9 rfl ?_
      refine ls_ineg 3 f_153_10 (by decide) ?_
      refine ls_dup2 f_153_11 rfl rfl ?_
      refine ls_ialdC 3 f_153_12 (lm_Lay_si hl _ _ _) S_93 ⟨by decide, by decide, by decide⟩ ?_
      refine ls_top (lm_i h 93 3) rfl ?_
      refine ls_iconst 1 f_153_13 (by decide) ?_
      refine ls_iadd ((lm_i h 93 3) + 1) f_153_14 rfl ?_
      refine ls_iastC 3 f_153_15 (lm_Lay_si hl _ _ _) S_93 ⟨by decide, by decide, by decide⟩ ?_
      refine ls_iload_n f_153_16 rfl ?_
      refine ls_ireturn f_153_17 rI_153 ?_
      show lm_W _ _ _ _ [.int (-3)] _ _
      exact ls_ireturn f_170_103 rI_170 hyp
    · refine ls_aload_n f_170_104 rfl ?_
      refine ls_getR f_170_105 p_170_25 hl S_92 F_92_3 ?_
      refine ls_bipush 41 f_170_108 (by decide) ?_
      refine ls_bipush 6 f_170_110 (by decide) ?_
      refine ls_iload_n f_170_112 rfl ?_
      refine ls_imul (6 * x1) f_170_113 rfl ?_
      refine ls_iadd (41 + (6 * x1)) f_170_114 rfl ?_
      refine ls_iload_n f_170_115 rfl ?_
      refine ls_iadd ((41 + (6 * x1)) + x2) f_170_116 rfl ?_
      refine ls_iald f_170_117 hl S_94 hyp (fun hyp => ?_)
      refine ls_istore [some (.ref 92), some (.int x1), some (.int x2), some (.int x3), some (.int x4), some (.int (lm_i h 94 (((41 + (6 * x1)) + x2).toNatClampNeg)))] f_170_118 (Nat.le_of_ble_eq_true rfl) rfl ?_
      refine ls_aload_n f_170_120 rfl ?_
      refine ls_getR f_170_121 p_170_25 hl S_92 F_92_3 ?_
      refine ls_bipush 41 f_170_124 (by decide) ?_
      refine ls_bipush 6 f_170_126 (by decide) ?_
      refine ls_iload_n f_170_128 rfl ?_
      refine ls_imul (6 * x1) f_170_129 rfl ?_
      refine ls_iadd (41 + (6 * x1)) f_170_130 rfl ?_
      refine ls_iload_n f_170_131 rfl ?_
      refine ls_iadd ((41 + (6 * x1)) + x2) f_170_132 rfl ?_
      refine ls_iload_n f_170_133 rfl ?_
      refine ls_iast f_170_134 hl S_94 hyp (fun hyp => ?_)
      refine ls_aload_n f_170_135 rfl ?_
      refine ls_iload f_170_136 rfl ?_
      refine ls_invV (a := 92) f_170_138 q_170_119 [.int (lm_i h 94 (((41 + (6 * x1)) + x2).toNatClampNeg))] [] rfl (Nat.le_of_ble_eq_true rfl) (lm_Lay_si hl _ _ _) S_92 ow_155 ?_
      refine ls_enter [some (.ref 92), some (.int (lm_i h 94 (((41 + (6 * x1)) + x2).toNatClampNeg)))] ml_155 (Nat.le_of_ble_eq_true rfl) rfl ?_
      refine ls_aload_n f_155_0 rfl ?_
      refine ls_iconst 0 f_155_1 (by decide) ?_
      refine ls_putI f_155_2 p_155_3 (lm_Lay_si hl _ _ _) S_92 rfl ?_
      refine ls_aload_n f_155_5 rfl ?_
      refine ls_dup f_155_6 rfl ?_
      refine ls_getI f_155_7 p_155_16 (lm_Lay_si (lm_Lay_si hl _ _ _) _ _ _) S_92 ?_
      refine ls_top (lm_i h 92 1) rfl ?_
      refine ls_iconst 1 f_155_10 (by decide) ?_
      refine ls_iadd ((lm_i h 92 1) + 1) f_155_11 rfl ?_
      refine ls_putI f_155_12 p_155_16 (lm_Lay_si (lm_Lay_si hl _ _ _) _ _ _) S_92 rfl ?_
      refine ls_iload_n f_155_15 rfl ?_
      refine ls_ireturn f_155_16 rI_155 ?_
      show lm_W _ _ _ _ [.int (lm_i h 94 (((41 + (6 * x1)) + x2).toNatClampNeg))] _ _
      exact ls_ireturn f_170_141 rI_170 hyp
theorem e_171 {d : Nat} {h : lm_H} {K : Int32 → lm_H → Prop} (hl : lm_Lay h) (hyp : (if (lm_i h 92 10) = 0 then (K (-6) (lm_si (lm_si (lm_si h 92 10 0) 92 0 (-6)) 93 6 ((lm_i h 93 6) + 1))) else (if ((lm_i h 92 10) - (lm_i h 92 10) / 3 * 3) = 0 then (lm_W (d + 2) 171 40 [some (.ref 92), some (.int (lm_i h 92 10)), some (.int 0), some (.int 0), none] [] (lm_si (lm_si h 92 10 0) 92 6 0) (lm_kI K)) else (lm_W (d + 2) 171 40 [some (.ref 92), some (.int (lm_i h 92 10)), some (.int 0), some (.int 0), none] [] (lm_si (lm_si h 92 10 0) 92 6 1) (lm_kI K))))) : lm_call (d + 3) 171 [.ref 92] h (lm_kI K) := by
  refine ls_enter [some (.ref 92), none, none, none, none] ml_171 (Nat.le_of_ble_eq_true rfl) rfl ?_
  refine ls_aload_n f_171_0 rfl ?_
  refine ls_getI f_171_1 p_171_139 hl S_92 ?_
  refine ls_istore_n [some (.ref 92), some (.int (lm_i h 92 10)), none, none, none] f_171_4 (Nat.le_of_ble_eq_true rfl) rfl ?_
  refine ls_aload_n f_171_5 rfl ?_
  refine ls_iconst 0 f_171_6 (by decide) ?_
  refine ls_putI f_171_7 p_171_139 hl S_92 rfl ?_
  refine ls_iload_n f_171_10 rfl ?_
  refine ls_if_ne 21 f_171_11 rfl hyp (fun _ hyp => ?_) (fun _ hyp => ?_)
  · refine ls_aload_n f_171_14 rfl ?_
    refine ls_bipush (-6) f_171_15 (by decide) ?_
    refine ls_invV (a := 92) f_171_17 q_171_11 [.int (-6)] [] rfl (Nat.le_of_ble_eq_true rfl) (lm_Lay_si hl _ _ _) S_92 ow_153 ?_
    refine ls_enter [some (.ref 92), some (.int (-6))] ml_153 (Nat.le_of_ble_eq_true rfl) rfl ?_
    refine ls_aload_n f_153_0 rfl ?_
    refine ls_iload_n f_153_1 rfl ?_
    refine ls_putI f_153_2 p_153_3 (lm_Lay_si hl _ _ _) S_92 rfl ?_
    refine ls_aload_n f_153_5 rfl ?_
    refine ls_getR f_153_6 p_153_7 (lm_Lay_si (lm_Lay_si hl _ _ _) _ _ _) S_92 F_92_2 ?_
    refine ls_iload_n f_153_9 rfl ?_
    refine ls_ineg 6 f_153_10 (by decide) ?_
    refine ls_dup2 f_153_11 rfl rfl ?_
    refine ls_ialdC 6 f_153_12 (lm_Lay_si (lm_Lay_si hl _ _ _) _ _ _) S_93 ⟨by decide, by decide, by decide⟩ ?_
    refine ls_top (lm_i h 93 6) rfl ?_
    refine ls_iconst 1 f_153_13 (by decide) ?_
    refine ls_iadd ((lm_i h 93 6) + 1) f_153_14 rfl ?_
    refine ls_iastC 6 f_153_15 (lm_Lay_si (lm_Lay_si hl _ _ _) _ _ _) S_93 ⟨by decide, by decide, by decide⟩ ?_
    refine ls_iload_n f_153_16 rfl ?_
    refine ls_ireturn f_153_17 rI_153 ?_
    show lm_W _ _ _ _ [.int (-6)] _ _
    exact ls_ireturn f_171_20 rI_171 hyp
  · refine ls_iconst 0 f_171_21 (by decide) ?_
    refine ls_istore_n [some (.ref 92), some (.int (lm_i h 92 10)), some (.int 0), none, none] f_171_22 (Nat.le_of_ble_eq_true rfl) rfl ?_
    refine ls_aload_n f_171_23 rfl ?_
    refine ls_iload_n f_171_24 rfl ?_
    refine ls_iconst 3 f_171_25 (by decide) ?_
    refine ls_irem ((lm_i h 92 10) - (lm_i h 92 10) / 3 * 3) f_171_26 (by decide) rfl ?_
    refine ls_if_ne 34 f_171_27 rfl hyp (fun _ hyp => ?_) (fun _ hyp => ?_)
    · refine ls_iconst 0 f_171_30 (by decide) ?_
      refine ls_goto 35 f_171_31 rfl ?_
      refine ls_putI f_171_35 p_171_142 (lm_Lay_si hl _ _ _) S_92 rfl ?_
      refine ls_iconst 0 f_171_38 (by decide) ?_
      refine ls_istore_n [some (.ref 92), some (.int (lm_i h 92 10)), some (.int 0), some (.int 0), none] f_171_39 (Nat.le_of_ble_eq_true rfl) rfl ?_
      exact hyp
    · refine ls_iconst 1 f_171_34 (by decide) ?_
      refine ls_putI f_171_35 p_171_142 (lm_Lay_si hl _ _ _) S_92 rfl ?_
      refine ls_iconst 0 f_171_38 (by decide) ?_
      refine ls_istore_n [some (.ref 92), some (.int (lm_i h 92 10)), some (.int 0), some (.int 0), none] f_171_39 (Nat.le_of_ble_eq_true rfl) rfl ?_
      exact hyp
theorem b_171_40 {d : Nat} {h : lm_H} {K : Int32 → lm_H → Prop} (x1 : Int32) (x2 : Int32) (x3 : Int32) (hl : lm_Lay h) (hyp : (if x1 < (x3 + 3) then (K x2 (lm_si (lm_si h 92 0 0) 92 1 ((lm_i h 92 1) + 1))) else (lm_in x3 400 False (if (lm_i h 98 x3.toNatClampNeg) < 0 then (lm_W (d + 2) 171 40 [some (.ref 92), some (.int x1), some (.int (x2 + 0)), some (.int (x3 + 3)), none] [] (lm_si h 92 6 ((lm_i h 92 6) + 1)) (lm_kI K)) else (if ((lm_i h 94 81) - 1) < (lm_i h 98 x3.toNatClampNeg) then (lm_W (d + 2) 171 40 [some (.ref 92), some (.int x1), some (.int (x2 + 0)), some (.int (x3 + 3)), none] [] (lm_si h 92 6 ((lm_i h 92 6) + 1)) (lm_kI K)) else (lm_in (x3 + 1) 400 False (if (lm_i h 98 ((x3 + 1).toNatClampNeg)) < 0 then (lm_W (d + 2) 171 40 [some (.ref 92), some (.int x1), some (.int (x2 + 0)), some (.int (x3 + 3)), none] [] (lm_si h 92 6 ((lm_i h 92 6) + 1)) (lm_kI K)) else (if ((lm_i h 94 82) - 1) < (lm_i h 98 ((x3 + 1).toNatClampNeg)) then (lm_W (d + 2) 171 40 [some (.ref 92), some (.int x1), some (.int (x2 + 0)), some (.int (x3 + 3)), none] [] (lm_si h 92 6 ((lm_i h 92 6) + 1)) (lm_kI K)) else (lm_in (x3 + 2) 400 False (if ((lm_i h 98 ((x3 + 2).toNatClampNeg)) &&& 255) < 1 then (lm_W (d + 2) 171 40 [some (.ref 92), some (.int x1), some (.int (x2 + 0)), some (.int (x3 + 3)), none] [] (lm_si h 92 6 ((lm_i h 92 6) + 1)) (lm_kI K)) else (if 199 < ((lm_i h 98 ((x3 + 2).toNatClampNeg)) &&& 255) then (lm_W (d + 2) 171 40 [some (.ref 92), some (.int x1), some (.int (x2 + 0)), some (.int (x3 + 3)), none] [] (lm_si h 92 6 ((lm_i h 92 6) + 1)) (lm_kI K)) else (lm_in x3 400 False (lm_in (x3 + 1) 400 False (lm_in (x3 + 2) 400 False (lm_in ((11 + (6 * (lm_i h 98 x3.toNatClampNeg))) + (lm_i h 98 ((x3 + 1).toNatClampNeg))) 4893 False (lm_W (d + 2) 171 40 [some (.ref 92), some (.int x1), some (.int (x2 + 1)), some (.int (x3 + 3)), none] [] (lm_si (lm_si h 94 (((11 + (6 * (lm_i h 98 x3.toNatClampNeg))) + (lm_i h 98 ((x3 + 1).toNatClampNeg))).toNatClampNeg) (((lm_i h 98 ((x3 + 2).toNatClampNeg)) &&& 255) - 100)) 92 6 ((lm_i h 92 6) + 0)) (lm_kI K))))))))))))))))) : lm_W (d + 2) 171 40 [some (.ref 92), some (.int x1), some (.int x2), some (.int x3), none] [] h (lm_kI K) := by
  refine ls_iload_n f_171_40 rfl ?_
  refine ls_iconst 3 f_171_41 (by decide) ?_
  refine ls_iadd (x3 + 3) f_171_42 rfl ?_
  refine ls_iload_n f_171_43 rfl ?_
  refine ls_icmp_gt 188 f_171_44 rfl hyp (fun _ hyp => ?_) (fun _ hyp => ?_)
  · refine ls_aload_n f_171_188 rfl ?_
    refine ls_iload_n f_171_189 rfl ?_
    refine ls_invV (a := 92) f_171_190 q_171_119 [.int x2] [] rfl (Nat.le_of_ble_eq_true rfl) hl S_92 ow_155 ?_
    refine ls_enter [some (.ref 92), some (.int x2)] ml_155 (Nat.le_of_ble_eq_true rfl) rfl ?_
    refine ls_aload_n f_155_0 rfl ?_
    refine ls_iconst 0 f_155_1 (by decide) ?_
    refine ls_putI f_155_2 p_155_3 hl S_92 rfl ?_
    refine ls_aload_n f_155_5 rfl ?_
    refine ls_dup f_155_6 rfl ?_
    refine ls_getI f_155_7 p_155_16 (lm_Lay_si hl _ _ _) S_92 ?_
    refine ls_top (lm_i h 92 1) rfl ?_
    refine ls_iconst 1 f_155_10 (by decide) ?_
    refine ls_iadd ((lm_i h 92 1) + 1) f_155_11 rfl ?_
    refine ls_putI f_155_12 p_155_16 (lm_Lay_si hl _ _ _) S_92 rfl ?_
    refine ls_iload_n f_155_15 rfl ?_
    refine ls_ireturn f_155_16 rI_155 ?_
    show lm_W _ _ _ _ [.int x2] _ _
    exact ls_ireturn f_171_193 rI_171 hyp
  · refine ls_aload_n f_171_47 rfl ?_
    refine ls_aload_n f_171_48 rfl ?_
    refine ls_getR f_171_49 p_171_39 hl S_92 F_92_8 ?_
    refine ls_iload_n f_171_52 rfl ?_
    refine ls_bald f_171_53 hl S_98 hyp (fun hyp => ?_)
    refine ls_invV (a := 92) f_171_54 q_171_132 [.int (lm_i h 98 x3.toNatClampNeg)] [] rfl (Nat.le_of_ble_eq_true rfl) hl S_92 ow_162 ?_
    refine ls_enter [some (.ref 92), some (.int (lm_i h 98 x3.toNatClampNeg))] ml_162 (Nat.le_of_ble_eq_true rfl) rfl ?_
    refine ls_iload_n f_162_0 rfl ?_
    refine ls_iconst 0 f_162_1 (by decide) ?_
    refine ls_aload_n f_162_2 rfl ?_
    refine ls_invV (a := 92) f_162_3 q_162_122 [] [.int 0, .int (lm_i h 98 x3.toNatClampNeg)] rfl (Nat.le_of_ble_eq_true rfl) hl S_92 ow_160 ?_
    refine ls_enter [some (.ref 92)] ml_160 (Nat.le_of_ble_eq_true rfl) rfl ?_
    refine ls_aload_n f_160_0 rfl ?_
    refine ls_getR f_160_1 p_160_25 hl S_92 F_92_3 ?_
    refine ls_bipush 81 f_160_4 (by decide) ?_
    refine ls_ialdC 81 f_160_6 hl S_94 ⟨by decide, by decide, by decide⟩ ?_
    refine ls_ireturn f_160_7 rI_160 ?_
    show lm_W _ _ _ _ [.int (lm_i h 94 81), .int 0, .int (lm_i h 98 x3.toNatClampNeg)] _ _
    refine ls_iconst 1 f_162_6 (by decide) ?_
    refine ls_isub ((lm_i h 94 81) - 1) f_162_7 rfl ?_
    refine ls_invS f_162_8 q_162_115 [.int (lm_i h 98 x3.toNatClampNeg), .int 0, .int ((lm_i h 94 81) - 1)] [] rfl (Nat.le_of_ble_eq_true rfl) ?_
    refine ls_enter [some (.int (lm_i h 98 x3.toNatClampNeg)), some (.int 0), some (.int ((lm_i h 94 81) - 1))] ml_152 (Nat.le_of_ble_eq_true rfl) rfl ?_
    refine ls_iload_n f_152_0 rfl ?_
    refine ls_iload_n f_152_1 rfl ?_
    refine ls_icmp_lt 14 f_152_2 rfl hyp (fun _ hyp => ?_) (fun _ hyp => ?_)
    · refine ls_iconst 0 f_152_14 (by decide) ?_
      refine ls_zreturn f_152_15 rZ_152 (by decide) ?_
      show lm_W _ _ _ _ [.int 0] _ _
      refine ls_zreturn f_162_11 rZ_162 (by decide) ?_
      show lm_W _ _ _ _ [.int 0] _ _
      refine ls_if_eq_T 101 f_171_57 rfl (by decide) ?_
      refine ls_iconst 0 f_171_101 (by decide) ?_
      refine ls_istore [some (.ref 92), some (.int x1), some (.int x2), some (.int x3), some (.int 0)] f_171_102 (Nat.le_of_ble_eq_true rfl) rfl ?_
      refine ls_iload f_171_104 rfl ?_
      refine ls_if_eq_T 150 f_171_106 rfl (by decide) ?_
      refine ls_iload_n f_171_150 rfl ?_
      refine ls_iload f_171_151 rfl ?_
      refine ls_if_eq_T 160 f_171_153 rfl (by decide) ?_
      refine ls_iconst 0 f_171_160 (by decide) ?_
      refine ls_iadd (x2 + 0) f_171_161 rfl ?_
      refine ls_istore_n [some (.ref 92), some (.int x1), some (.int (x2 + 0)), some (.int x3), some (.int 0)] f_171_162 (Nat.le_of_ble_eq_true rfl) rfl ?_
      refine ls_aload_n f_171_163 rfl ?_
      refine ls_dup f_171_164 rfl ?_
      refine ls_getI f_171_165 p_171_142 hl S_92 ?_
      refine ls_iload f_171_168 rfl ?_
      refine ls_if_eq_T 177 f_171_170 rfl (by decide) ?_
      refine ls_iconst 1 f_171_177 (by decide) ?_
      refine ls_iadd ((lm_i h 92 6) + 1) f_171_178 rfl ?_
      refine ls_putI f_171_179 p_171_142 hl S_92 rfl ?_
      refine ls_iinc (x3 + 3) [some (.ref 92), some (.int x1), some (.int (x2 + 0)), some (.int (x3 + 3)), some (.int 0)] f_171_182 rfl (Nat.le_of_ble_eq_true rfl) rfl rfl ?_
      refine ls_goto 40 f_171_185 rfl ?_
      exact ls_mask [true, true, true, true, false] [some (.ref 92), some (.int x1), some (.int (x2 + 0)), some (.int (x3 + 3)), none] rfl hyp
    · refine ls_iload_n f_152_5 rfl ?_
      refine ls_iload_n f_152_6 rfl ?_
      refine ls_icmp_gt 14 f_152_7 rfl hyp (fun _ hyp => ?_) (fun _ hyp => ?_)
      · refine ls_iconst 0 f_152_14 (by decide) ?_
        refine ls_zreturn f_152_15 rZ_152 (by decide) ?_
        show lm_W _ _ _ _ [.int 0] _ _
        refine ls_zreturn f_162_11 rZ_162 (by decide) ?_
        show lm_W _ _ _ _ [.int 0] _ _
        refine ls_if_eq_T 101 f_171_57 rfl (by decide) ?_
        refine ls_iconst 0 f_171_101 (by decide) ?_
        refine ls_istore [some (.ref 92), some (.int x1), some (.int x2), some (.int x3), some (.int 0)] f_171_102 (Nat.le_of_ble_eq_true rfl) rfl ?_
        refine ls_iload f_171_104 rfl ?_
        refine ls_if_eq_T 150 f_171_106 rfl (by decide) ?_
        refine ls_iload_n f_171_150 rfl ?_
        refine ls_iload f_171_151 rfl ?_
        refine ls_if_eq_T 160 f_171_153 rfl (by decide) ?_
        refine ls_iconst 0 f_171_160 (by decide) ?_
        refine ls_iadd (x2 + 0) f_171_161 rfl ?_
        refine ls_istore_n [some (.ref 92), some (.int x1), some (.int (x2 + 0)), some (.int x3), some (.int 0)] f_171_162 (Nat.le_of_ble_eq_true rfl) rfl ?_
        refine ls_aload_n f_171_163 rfl ?_
        refine ls_dup f_171_164 rfl ?_
        refine ls_getI f_171_165 p_171_142 hl S_92 ?_
        refine ls_iload f_171_168 rfl ?_
        refine ls_if_eq_T 177 f_171_170 rfl (by decide) ?_
        refine ls_iconst 1 f_171_177 (by decide) ?_
        refine ls_iadd ((lm_i h 92 6) + 1) f_171_178 rfl ?_
        refine ls_putI f_171_179 p_171_142 hl S_92 rfl ?_
        refine ls_iinc (x3 + 3) [some (.ref 92), some (.int x1), some (.int (x2 + 0)), some (.int (x3 + 3)), some (.int 0)] f_171_182 rfl (Nat.le_of_ble_eq_true rfl) rfl rfl ?_
        refine ls_goto 40 f_171_185 rfl ?_
        exact ls_mask [true, true, true, true, false] [some (.ref 92), some (.int x1), some (.int (x2 + 0)), some (.int (x3 + 3)), none] rfl hyp
      · refine ls_iconst 1 f_152_10 (by decide) ?_
        refine ls_goto 15 f_152_11 rfl ?_
        refine ls_zreturn f_152_15 rZ_152 (by decide) ?_
        show lm_W _ _ _ _ [.int 1] _ _
        refine ls_zreturn f_162_11 rZ_162 (by decide) ?_
        show lm_W _ _ _ _ [.int 1] _ _
        refine ls_if_eq_F 101 f_171_57 rfl (by decide) ?_
        refine ls_aload_n f_171_60 rfl ?_
        refine ls_aload_n f_171_61 rfl ?_
        refine ls_getR f_171_62 p_171_39 hl S_92 F_92_8 ?_
        refine ls_iload_n f_171_65 rfl ?_
        refine ls_iconst 1 f_171_66 (by decide) ?_
        refine ls_iadd (x3 + 1) f_171_67 rfl ?_
        refine ls_bald f_171_68 hl S_98 hyp (fun hyp => ?_)
        refine ls_invV (a := 92) f_171_69 q_171_136 [.int (lm_i h 98 ((x3 + 1).toNatClampNeg))] [] rfl (Nat.le_of_ble_eq_true rfl) hl S_92 ow_163 ?_
        refine ls_enter [some (.ref 92), some (.int (lm_i h 98 ((x3 + 1).toNatClampNeg)))] ml_163 (Nat.le_of_ble_eq_true rfl) rfl ?_
        refine ls_iload_n f_163_0 rfl ?_
        refine ls_iconst 0 f_163_1 (by decide) ?_
        refine ls_aload_n f_163_2 rfl ?_
        refine ls_invV (a := 92) f_163_3 q_163_126 [] [.int 0, .int (lm_i h 98 ((x3 + 1).toNatClampNeg))] rfl (Nat.le_of_ble_eq_true rfl) hl S_92 ow_161 ?_
        refine ls_enter [some (.ref 92)] ml_161 (Nat.le_of_ble_eq_true rfl) rfl ?_
        refine ls_aload_n f_161_0 rfl ?_
        refine ls_getR f_161_1 p_161_25 hl S_92 F_92_3 ?_
        refine ls_bipush 82 f_161_4 (by decide) ?_
        refine ls_ialdC 82 f_161_6 hl S_94 ⟨by decide, by decide, by decide⟩ ?_
        refine ls_ireturn f_161_7 rI_161 ?_
        show lm_W _ _ _ _ [.int (lm_i h 94 82), .int 0, .int (lm_i h 98 ((x3 + 1).toNatClampNeg))] _ _
        refine ls_iconst 1 f_163_6 (by decide) ?_
        refine ls_isub ((lm_i h 94 82) - 1) f_163_7 rfl ?_
        refine ls_invS f_163_8 q_163_115 [.int (lm_i h 98 ((x3 + 1).toNatClampNeg)), .int 0, .int ((lm_i h 94 82) - 1)] [] rfl (Nat.le_of_ble_eq_true rfl) ?_
        refine ls_enter [some (.int (lm_i h 98 ((x3 + 1).toNatClampNeg))), some (.int 0), some (.int ((lm_i h 94 82) - 1))] ml_152 (Nat.le_of_ble_eq_true rfl) rfl ?_
        refine ls_iload_n f_152_0 rfl ?_
        refine ls_iload_n f_152_1 rfl ?_
        refine ls_icmp_lt 14 f_152_2 rfl hyp (fun _ hyp => ?_) (fun _ hyp => ?_)
        · refine ls_iconst 0 f_152_14 (by decide) ?_
          refine ls_zreturn f_152_15 rZ_152 (by decide) ?_
          show lm_W _ _ _ _ [.int 0] _ _
          refine ls_zreturn f_163_11 rZ_163 (by decide) ?_
          show lm_W _ _ _ _ [.int 0] _ _
          refine ls_if_eq_T 101 f_171_72 rfl (by decide) ?_
          refine ls_iconst 0 f_171_101 (by decide) ?_
          refine ls_istore [some (.ref 92), some (.int x1), some (.int x2), some (.int x3), some (.int 0)] f_171_102 (Nat.le_of_ble_eq_true rfl) rfl ?_
          refine ls_iload f_171_104 rfl ?_
          refine ls_if_eq_T 150 f_171_106 rfl (by decide) ?_
          refine ls_iload_n f_171_150 rfl ?_
          refine ls_iload f_171_151 rfl ?_
          refine ls_if_eq_T 160 f_171_153 rfl (by decide) ?_
          refine ls_iconst 0 f_171_160 (by decide) ?_
          refine ls_iadd (x2 + 0) f_171_161 rfl ?_
          refine ls_istore_n [some (.ref 92), some (.int x1), some (.int (x2 + 0)), some (.int x3), some (.int 0)] f_171_162 (Nat.le_of_ble_eq_true rfl) rfl ?_
          refine ls_aload_n f_171_163 rfl ?_
          refine ls_dup f_171_164 rfl ?_
          refine ls_getI f_171_165 p_171_142 hl S_92 ?_
          refine ls_iload f_171_168 rfl ?_
          refine ls_if_eq_T 177 f_171_170 rfl (by decide) ?_
          refine ls_iconst 1 f_171_177 (by decide) ?_
          refine ls_iadd ((lm_i h 92 6) + 1) f_171_178 rfl ?_
          refine ls_putI f_171_179 p_171_142 hl S_92 rfl ?_
          refine ls_iinc (x3 + 3) [some (.ref 92), some (.int x1), some (.int (x2 + 0)), some (.int (x3 + 3)), some (.int 0)] f_171_182 rfl (Nat.le_of_ble_eq_true rfl) rfl rfl ?_
          refine ls_goto 40 f_171_185 rfl ?_
          exact ls_mask [true, true, true, true, false] [some (.ref 92), some (.int x1), some (.int (x2 + 0)), some (.int (x3 + 3)), none] rfl hyp
        · refine ls_iload_n f_152_5 rfl ?_
          refine ls_iload_n f_152_6 rfl ?_
          refine ls_icmp_gt 14 f_152_7 rfl hyp (fun _ hyp => ?_) (fun _ hyp => ?_)
          · refine ls_iconst 0 f_152_14 (by decide) ?_
            refine ls_zreturn f_152_15 rZ_152 (by decide) ?_
            show lm_W _ _ _ _ [.int 0] _ _
            refine ls_zreturn f_163_11 rZ_163 (by decide) ?_
            show lm_W _ _ _ _ [.int 0] _ _
            refine ls_if_eq_T 101 f_171_72 rfl (by decide) ?_
            refine ls_iconst 0 f_171_101 (by decide) ?_
            refine ls_istore [some (.ref 92), some (.int x1), some (.int x2), some (.int x3), some (.int 0)] f_171_102 (Nat.le_of_ble_eq_true rfl) rfl ?_
            refine ls_iload f_171_104 rfl ?_
            refine ls_if_eq_T 150 f_171_106 rfl (by decide) ?_
            refine ls_iload_n f_171_150 rfl ?_
            refine ls_iload f_171_151 rfl ?_
            refine ls_if_eq_T 160 f_171_153 rfl (by decide) ?_
            refine ls_iconst 0 f_171_160 (by decide) ?_
            refine ls_iadd (x2 + 0) f_171_161 rfl ?_
            refine ls_istore_n [some (.ref 92), some (.int x1), some (.int (x2 + 0)), some (.int x3), some (.int 0)] f_171_162 (Nat.le_of_ble_eq_true rfl) rfl ?_
            refine ls_aload_n f_171_163 rfl ?_
            refine ls_dup f_171_164 rfl ?_
            refine ls_getI f_171_165 p_171_142 hl S_92 ?_
            refine ls_iload f_171_168 rfl ?_
            refine ls_if_eq_T 177 f_171_170 rfl (by decide) ?_
            refine ls_iconst 1 f_171_177 (by decide) ?_
            refine ls_iadd ((lm_i h 92 6) + 1) f_171_178 rfl ?_
            refine ls_putI f_171_179 p_171_142 hl S_92 rfl ?_
            refine ls_iinc (x3 + 3) [some (.ref 92), some (.int x1), some (.int (x2 + 0)), some (.int (x3 + 3)), some (.int 0)] f_171_182 rfl (Nat.le_of_ble_eq_true rfl) rfl rfl ?_
            refine ls_goto 40 f_171_185 rfl ?_
            exact ls_mask [true, true, true, true, false] [some (.ref 92), some (.int x1), some (.int (x2 + 0)), some (.int (x3 + 3)), none] rfl hyp
          · refine ls_iconst 1 f_152_10 (by decide) ?_
            refine ls_goto 15 f_152_11 rfl ?_
            refine ls_zreturn f_152_15 rZ_152 (by decide) ?_
            show lm_W _ _ _ _ [.int 1] _ _
            refine ls_zreturn f_163_11 rZ_163 (by decide) ?_
            show lm_W _ _ _ _ [.int 1] _ _
            refine ls_if_eq_F 101 f_171_72 rfl (by decide) ?_
            refine ls_aload_n f_171_75 rfl ?_
            refine ls_getR f_171_76 p_171_39 hl S_92 F_92_8 ?_
            refine ls_iload_n f_171_79 rfl ?_
            refine ls_iconst 2 f_171_80 (by decide) ?_
            refine ls_iadd (x3 + 2) f_171_81 rfl ?_
            refine ls_bald f_171_82 hl S_98 hyp (fun hyp => ?_)
            refine ls_sipush 255 f_171_83 (by decide) ?_
            refine ls_iand ((lm_i h 98 ((x3 + 2).toNatClampNeg)) &&& 255) f_171_86 rfl ?_
            refine ls_iconst 1 f_171_87 (by decide) ?_
            refine ls_sipush 199 f_171_88 (by decide) ?_
            refine ls_invS f_171_91 q_171_115 [.int ((lm_i h 98 ((x3 + 2).toNatClampNeg)) &&& 255), .int 1, .int 199] [] rfl (Nat.le_of_ble_eq_true rfl) ?_
            refine ls_enter [some (.int ((lm_i h 98 ((x3 + 2).toNatClampNeg)) &&& 255)), some (.int 1), some (.int 199)] ml_152 (Nat.le_of_ble_eq_true rfl) rfl ?_
            refine ls_iload_n f_152_0 rfl ?_
            refine ls_iload_n f_152_1 rfl ?_
            refine ls_icmp_lt 14 f_152_2 rfl hyp (fun _ hyp => ?_) (fun _ hyp => ?_)
            · refine ls_iconst 0 f_152_14 (by decide) ?_
              refine ls_zreturn f_152_15 rZ_152 (by decide) ?_
              show lm_W _ _ _ _ [.int 0] _ _
              refine ls_if_eq_T 101 f_171_94 rfl (by decide) ?_
              refine ls_iconst 0 f_171_101 (by decide) ?_
              refine ls_istore [some (.ref 92), some (.int x1), some (.int x2), some (.int x3), some (.int 0)] f_171_102 (Nat.le_of_ble_eq_true rfl) rfl ?_
              refine ls_iload f_171_104 rfl ?_
              refine ls_if_eq_T 150 f_171_106 rfl (by decide) ?_
              refine ls_iload_n f_171_150 rfl ?_
              refine ls_iload f_171_151 rfl ?_
              refine ls_if_eq_T 160 f_171_153 rfl (by decide) ?_
              refine ls_iconst 0 f_171_160 (by decide) ?_
              refine ls_iadd (x2 + 0) f_171_161 rfl ?_
              refine ls_istore_n [some (.ref 92), some (.int x1), some (.int (x2 + 0)), some (.int x3), some (.int 0)] f_171_162 (Nat.le_of_ble_eq_true rfl) rfl ?_
              refine ls_aload_n f_171_163 rfl ?_
              refine ls_dup f_171_164 rfl ?_
              refine ls_getI f_171_165 p_171_142 hl S_92 ?_
              refine ls_iload f_171_168 rfl ?_
              refine ls_if_eq_T 177 f_171_170 rfl (by decide) ?_
              refine ls_iconst 1 f_171_177 (by decide) ?_
              refine ls_iadd ((lm_i h 92 6) + 1) f_171_178 rfl ?_
              refine ls_putI f_171_179 p_171_142 hl S_92 rfl ?_
              refine ls_iinc (x3 + 3) [some (.ref 92), some (.int x1), some (.int (x2 + 0)), some (.int (x3 + 3)), some (.int 0)] f_171_182 rfl (Nat.le_of_ble_eq_true rfl) rfl rfl ?_
              refine ls_goto 40 f_171_185 rfl ?_
              exact ls_mask [true, true, true, true, false] [some (.ref 92), some (.int x1), some (.int (x2 + 0)), some (.int (x3 + 3)), none] rfl hyp
            · refine ls_iload_n f_152_5 rfl ?_
              refine ls_iload_n f_152_6 rfl ?_
              refine ls_icmp_gt 14 f_152_7 rfl hyp (fun _ hyp => ?_) (fun _ hyp => ?_)
              · refine ls_iconst 0 f_152_14 (by decide) ?_
                refine ls_zreturn f_152_15 rZ_152 (by decide) ?_
                show lm_W _ _ _ _ [.int 0] _ _
                refine ls_if_eq_T 101 f_171_94 rfl (by decide) ?_
                refine ls_iconst 0 f_171_101 (by decide) ?_
                refine ls_istore [some (.ref 92), some (.int x1), some (.int x2), some (.int x3), some (.int 0)] f_171_102 (Nat.le_of_ble_eq_true rfl) rfl ?_
                refine ls_iload f_171_104 rfl ?_
                refine ls_if_eq_T 150 f_171_106 rfl (by decide) ?_
                refine ls_iload_n f_171_150 rfl ?_
                refine ls_iload f_171_151 rfl ?_
                refine ls_if_eq_T 160 f_171_153 rfl (by decide) ?_
                refine ls_iconst 0 f_171_160 (by decide) ?_
                refine ls_iadd (x2 + 0) f_171_161 rfl ?_
                refine ls_istore_n [some (.ref 92), some (.int x1), some (.int (x2 + 0)), some (.int x3), some (.int 0)] f_171_162 (Nat.le_of_ble_eq_true rfl) rfl ?_
                refine ls_aload_n f_171_163 rfl ?_
                refine ls_dup f_171_164 rfl ?_
                refine ls_getI f_171_165 p_171_142 hl S_92 ?_
                refine ls_iload f_171_168 rfl ?_
                refine ls_if_eq_T 177 f_171_170 rfl (by decide) ?_
                refine ls_iconst 1 f_171_177 (by decide) ?_
                refine ls_iadd ((lm_i h 92 6) + 1) f_171_178 rfl ?_
                refine ls_putI f_171_179 p_171_142 hl S_92 rfl ?_
                refine ls_iinc (x3 + 3) [some (.ref 92), some (.int x1), some (.int (x2 + 0)), some (.int (x3 + 3)), some (.int 0)] f_171_182 rfl (Nat.le_of_ble_eq_true rfl) rfl rfl ?_
                refine ls_goto 40 f_171_185 rfl ?_
                exact ls_mask [true, true, true, true, false] [some (.ref 92), some (.int x1), some (.int (x2 + 0)), some (.int (x3 + 3)), none] rfl hyp
              · refine ls_iconst 1 f_152_10 (by decide) ?_
                refine ls_goto 15 f_152_11 rfl ?_
                refine ls_zreturn f_152_15 rZ_152 (by decide) ?_
                show lm_W _ _ _ _ [.int 1] _ _
                refine ls_if_eq_F 101 f_171_94 rfl (by decide) ?_
                refine ls_iconst 1 f_171_97 (by decide) ?_
                refine ls_goto 102 f_171_98 rfl ?_
                refine ls_istore [some (.ref 92), some (.int x1), some (.int x2), some (.int x3), some (.int 1)] f_171_102 (Nat.le_of_ble_eq_true rfl) rfl ?_
                refine ls_iload f_171_104 rfl ?_
                refine ls_if_eq_F 150 f_171_106 rfl (by decide) ?_
                refine ls_aload_n f_171_109 rfl ?_
                refine ls_getR f_171_110 p_171_25 hl S_92 F_92_3 ?_
                refine ls_bipush 11 f_171_113 (by decide) ?_
                refine ls_bipush 6 f_171_115 (by decide) ?_
                refine ls_aload_n f_171_117 rfl ?_
                refine ls_getR f_171_118 p_171_39 hl S_92 F_92_8 ?_
                refine ls_iload_n f_171_121 rfl ?_
                refine ls_bald f_171_122 hl S_98 hyp (fun hyp => ?_)
                refine ls_imul (6 * (lm_i h 98 x3.toNatClampNeg)) f_171_123 rfl ?_
                refine ls_iadd (11 + (6 * (lm_i h 98 x3.toNatClampNeg))) f_171_124 rfl ?_
                refine ls_aload_n f_171_125 rfl ?_
                refine ls_getR f_171_126 p_171_39 hl S_92 F_92_8 ?_
                refine ls_iload_n f_171_129 rfl ?_
                refine ls_iconst 1 f_171_130 (by decide) ?_
                refine ls_iadd (x3 + 1) f_171_131 rfl ?_
                refine ls_bald f_171_132 hl S_98 hyp (fun hyp => ?_)
                refine ls_iadd ((11 + (6 * (lm_i h 98 x3.toNatClampNeg))) + (lm_i h 98 ((x3 + 1).toNatClampNeg))) f_171_133 rfl ?_
                refine ls_aload_n f_171_134 rfl ?_
                refine ls_getR f_171_135 p_171_39 hl S_92 F_92_8 ?_
                refine ls_iload_n f_171_138 rfl ?_
                refine ls_iconst 2 f_171_139 (by decide) ?_
                refine ls_iadd (x3 + 2) f_171_140 rfl ?_
                refine ls_bald f_171_141 hl S_98 hyp (fun hyp => ?_)
                refine ls_sipush 255 f_171_142 (by decide) ?_
                refine ls_iand ((lm_i h 98 ((x3 + 2).toNatClampNeg)) &&& 255) f_171_145 rfl ?_
                refine ls_bipush 100 f_171_146 (by decide) ?_
                refine ls_isub (((lm_i h 98 ((x3 + 2).toNatClampNeg)) &&& 255) - 100) f_171_148 rfl ?_
                refine ls_iast f_171_149 hl S_94 hyp (fun hyp => ?_)
                refine ls_iload_n f_171_150 rfl ?_
                refine ls_iload f_171_151 rfl ?_
                refine ls_if_eq_F 160 f_171_153 rfl (by decide) ?_
                refine ls_iconst 1 f_171_156 (by decide) ?_
                refine ls_goto 161 f_171_157 rfl ?_
                refine ls_iadd (x2 + 1) f_171_161 rfl ?_
                refine ls_istore_n [some (.ref 92), some (.int x1), some (.int (x2 + 1)), some (.int x3), some (.int 1)] f_171_162 (Nat.le_of_ble_eq_true rfl) rfl ?_
                refine ls_aload_n f_171_163 rfl ?_
                refine ls_dup f_171_164 rfl ?_
                refine ls_getI f_171_165 p_171_142 (lm_Lay_si hl _ _ _) S_92 ?_
                refine ls_top (lm_i h 92 6) rfl ?_
                refine ls_iload f_171_168 rfl ?_
                refine ls_if_eq_F 177 f_171_170 rfl (by decide) ?_
                refine ls_iconst 0 f_171_173 (by decide) ?_
                refine ls_goto 178 f_171_174 rfl ?_
                refine ls_iadd ((lm_i h 92 6) + 0) f_171_178 rfl ?_
                refine ls_putI f_171_179 p_171_142 (lm_Lay_si hl _ _ _) S_92 rfl ?_
                refine ls_iinc (x3 + 3) [some (.ref 92), some (.int x1), some (.int (x2 + 1)), some (.int (x3 + 3)), some (.int 1)] f_171_182 rfl (Nat.le_of_ble_eq_true rfl) rfl rfl ?_
                refine ls_goto 40 f_171_185 rfl ?_
                exact ls_mask [true, true, true, true, false] [some (.ref 92), some (.int x1), some (.int (x2 + 1)), some (.int (x3 + 3)), none] rfl hyp
theorem e_172 {d : Nat} {h : lm_H} {K : Int32 → lm_H → Prop} (hl : lm_Lay h) (hyp : K (lm_i h 92 6) h) : lm_call (d + 1) 172 [.ref 92] h (lm_kI K) := by
  refine ls_enter [some (.ref 92)] ml_172 (Nat.le_of_ble_eq_true rfl) rfl ?_
  refine ls_aload_n f_172_0 rfl ?_
  refine ls_getI f_172_1 p_172_142 hl S_92 ?_
  exact ls_ireturn f_172_4 rI_172 hyp
theorem e_173 {d : Nat} {h : lm_H} {K : Int32 → lm_H → Prop} (x1 : Int32) (x2 : Int32) (x3 : Int32) (x4 : Int32) (x5 : Int32) (hl : lm_Lay h) (hyp : (if 400 < ((lm_i h 92 10) + 20) then (K (-1) h) else (lm_W (d) 173 55 [some (.ref 92), none, none, none, none, none, some (.int 0)] [] (lm_si (lm_si (lm_si (lm_si (lm_si h 99 0 x1) 99 1 x2) 99 2 x3) 99 3 x4) 99 4 x5) (lm_kI K)))) : lm_call (d + 1) 173 [.ref 92, .int x1, .int x2, .int x3, .int x4, .int x5] h (lm_kI K) := by
  refine ls_enter [some (.ref 92), some (.int x1), some (.int x2), some (.int x3), some (.int x4), some (.int x5), none] ml_173 (Nat.le_of_ble_eq_true rfl) rfl ?_
  refine ls_aload_n f_173_0 rfl ?_
  refine ls_getI f_173_1 p_173_139 hl S_92 ?_
  refine ls_bipush 20 f_173_4 (by decide) ?_
  refine ls_iadd ((lm_i h 92 10) + 20) f_173_6 rfl ?_
  refine ls_sipush 400 f_173_7 (by decide) ?_
  refine ls_icmp_le 15 f_173_10 rfl hyp (fun _ hyp => ?_) (fun _ hyp => ?_)
  · refine ls_iconst (-1) f_173_13 (by decide) ?_
    exact ls_ireturn f_173_14 rI_173 hyp
  · refine ls_aload_n f_173_15 rfl ?_
    refine ls_getR f_173_16 p_173_42 hl S_92 F_92_9 ?_
    refine ls_iconst 0 f_173_19 (by decide) ?_
    refine ls_iload_n f_173_20 rfl ?_
    refine ls_iastC 0 f_173_21 hl S_99 ⟨by decide, by decide, by decide⟩ ?_
    refine ls_aload_n f_173_22 rfl ?_
    refine ls_getR f_173_23 p_173_42 (lm_Lay_si hl _ _ _) S_92 F_92_9 ?_
    refine ls_iconst 1 f_173_26 (by decide) ?_
    refine ls_iload_n f_173_27 rfl ?_
    refine ls_iastC 1 f_173_28 (lm_Lay_si hl _ _ _) S_99 ⟨by decide, by decide, by decide⟩ ?_
    refine ls_aload_n f_173_29 rfl ?_
    refine ls_getR f_173_30 p_173_42 (lm_Lay_si (lm_Lay_si hl _ _ _) _ _ _) S_92 F_92_9 ?_
    refine ls_iconst 2 f_173_33 (by decide) ?_
    refine ls_iload_n f_173_34 rfl ?_
    refine ls_iastC 2 f_173_35 (lm_Lay_si (lm_Lay_si hl _ _ _) _ _ _) S_99 ⟨by decide, by decide, by decide⟩ ?_
    refine ls_aload_n f_173_36 rfl ?_
    refine ls_getR f_173_37 p_173_42 (lm_Lay_si (lm_Lay_si (lm_Lay_si hl _ _ _) _ _ _) _ _ _) S_92 F_92_9 ?_
    refine ls_iconst 3 f_173_40 (by decide) ?_
    refine ls_iload f_173_41 rfl ?_
    refine ls_iastC 3 f_173_43 (lm_Lay_si (lm_Lay_si (lm_Lay_si hl _ _ _) _ _ _) _ _ _) S_99 ⟨by decide, by decide, by decide⟩ ?_
    refine ls_aload_n f_173_44 rfl ?_
    refine ls_getR f_173_45 p_173_42 (lm_Lay_si (lm_Lay_si (lm_Lay_si (lm_Lay_si hl _ _ _) _ _ _) _ _ _) _ _ _) S_92 F_92_9 ?_
    refine ls_iconst 4 f_173_48 (by decide) ?_
    refine ls_iload f_173_49 rfl ?_
    refine ls_iastC 4 f_173_51 (lm_Lay_si (lm_Lay_si (lm_Lay_si (lm_Lay_si hl _ _ _) _ _ _) _ _ _) _ _ _) S_99 ⟨by decide, by decide, by decide⟩ ?_
    refine ls_iconst 0 f_173_52 (by decide) ?_
    refine ls_istore [some (.ref 92), some (.int x1), some (.int x2), some (.int x3), some (.int x4), some (.int x5), some (.int 0)] f_173_53 (Nat.le_of_ble_eq_true rfl) rfl ?_
    exact ls_mask [true, false, false, false, false, false, true] [some (.ref 92), none, none, none, none, none, some (.int 0)] rfl hyp
theorem b_173_55 {d : Nat} {h : lm_H} {K : Int32 → lm_H → Prop} (x6 : Int32) (hl : lm_Lay h) (hyp : (if x6 < 20 then (lm_in (x6 / 4) 5 False (lm_in ((lm_i h 92 10) + x6) 400 False (lm_W (d) 173 55 [some (.ref 92), none, none, none, none, none, some (.int (x6 + 1))] [] (lm_si h 98 (((lm_i h 92 10) + x6).toNatClampNeg) (vp_nar .byte (((lm_i h 99 ((x6 / 4).toNatClampNeg)) >>> ((24 - (8 * (x6 - x6 / 4 * 4))) &&& 31)).toInt8.toInt32))) (lm_kI K)))) else (K ((lm_i h 92 10) + 20) (lm_si h 92 10 ((lm_i h 92 10) + 20))))) : lm_W (d) 173 55 [some (.ref 92), none, none, none, none, none, some (.int x6)] [] h (lm_kI K) := by
  refine ls_iload f_173_55 rfl ?_
  refine ls_bipush 20 f_173_57 (by decide) ?_
  refine ls_icmp_ge 101 f_173_59 rfl hyp (fun _ hyp => ?_) (fun _ hyp => ?_)
  · refine ls_aload_n f_173_62 rfl ?_
    refine ls_getR f_173_63 p_173_39 hl S_92 F_92_8 ?_
    refine ls_aload_n f_173_66 rfl ?_
    refine ls_getI f_173_67 p_173_139 hl S_92 ?_
    refine ls_iload f_173_70 rfl ?_
    refine ls_iadd ((lm_i h 92 10) + x6) f_173_72 rfl ?_
    refine ls_aload_n f_173_73 rfl ?_
    refine ls_getR f_173_74 p_173_42 hl S_92 F_92_9 ?_
    refine ls_iload f_173_77 rfl ?_
    refine ls_iconst 4 f_173_79 (by decide) ?_
    refine ls_idiv (x6 / 4) f_173_80 (by decide) rfl ?_
    refine ls_iald f_173_81 hl S_99 hyp (fun hyp => ?_)
    refine ls_bipush 24 f_173_82 (by decide) ?_
    refine ls_bipush 8 f_173_84 (by decide) ?_
    refine ls_iload f_173_86 rfl ?_
    refine ls_iconst 4 f_173_88 (by decide) ?_
    refine ls_irem (x6 - x6 / 4 * 4) f_173_89 (by decide) rfl ?_
    refine ls_imul (8 * (x6 - x6 / 4 * 4)) f_173_90 rfl ?_
    refine ls_isub (24 - (8 * (x6 - x6 / 4 * 4))) f_173_91 rfl ?_
    refine ls_ishr ((lm_i h 99 ((x6 / 4).toNatClampNeg)) >>> ((24 - (8 * (x6 - x6 / 4 * 4))) &&& 31)) f_173_92 rfl ?_
    refine ls_i2b (((lm_i h 99 ((x6 / 4).toNatClampNeg)) >>> ((24 - (8 * (x6 - x6 / 4 * 4))) &&& 31)).toInt8.toInt32) f_173_93 rfl ?_
    refine ls_bast f_173_94 hl S_98 hyp (fun hyp => ?_)
    refine ls_iinc (x6 + 1) [some (.ref 92), none, none, none, none, none, some (.int (x6 + 1))] f_173_95 rfl (Nat.le_of_ble_eq_true rfl) rfl rfl ?_
    refine ls_goto 55 f_173_98 rfl ?_
    exact hyp
  · refine ls_aload_n f_173_101 rfl ?_
    refine ls_dup f_173_102 rfl ?_
    refine ls_getI f_173_103 p_173_139 hl S_92 ?_
    refine ls_bipush 20 f_173_106 (by decide) ?_
    refine ls_iadd ((lm_i h 92 10) + 20) f_173_108 rfl ?_
    refine ls_putI f_173_109 p_173_139 hl S_92 rfl ?_
    refine ls_aload_n f_173_112 rfl ?_
    refine ls_getI f_173_113 p_173_139 (lm_Lay_si hl _ _ _) S_92 ?_
    refine ls_top ((lm_i h 92 10) + 20) rfl ?_
    exact ls_ireturn f_173_116 rI_173 hyp
theorem e_174 {d : Nat} {h : lm_H} {K : Int32 → lm_H → Prop} (x1 : Int32) (hl : lm_Lay h) (hyp : (if x1 < 0 then (K (-1) h) else (if (lm_i h 92 10) < x1 then (K (-1) h) else (K x1 (lm_si h 92 10 x1))))) : lm_call (d + 2) 174 [.ref 92, .int x1] h (lm_kI K) := by
  refine ls_enter [some (.ref 92), some (.int x1)] ml_174 (Nat.le_of_ble_eq_true rfl) rfl ?_
  refine ls_iload_n f_174_0 rfl ?_
  refine ls_iconst 0 f_174_1 (by decide) ?_
  refine ls_aload_n f_174_2 rfl ?_
  refine ls_getI f_174_3 p_174_139 hl S_92 ?_
  refine ls_invS f_174_6 q_174_115 [.int x1, .int 0, .int (lm_i h 92 10)] [] rfl (Nat.le_of_ble_eq_true rfl) ?_
  refine ls_enter [some (.int x1), some (.int 0), some (.int (lm_i h 92 10))] ml_152 (Nat.le_of_ble_eq_true rfl) rfl ?_
  refine ls_iload_n f_152_0 rfl ?_
  refine ls_iload_n f_152_1 rfl ?_
  refine ls_icmp_lt 14 f_152_2 rfl hyp (fun _ hyp => ?_) (fun _ hyp => ?_)
  · refine ls_iconst 0 f_152_14 (by decide) ?_
    refine ls_zreturn f_152_15 rZ_152 (by decide) ?_
    show lm_W _ _ _ _ [.int 0] _ _
    refine ls_if_ne_T 14 f_174_9 rfl (by decide) ?_
    refine ls_iconst (-1) f_174_12 (by decide) ?_
    exact ls_ireturn f_174_13 rI_174 hyp
  · refine ls_iload_n f_152_5 rfl ?_
    refine ls_iload_n f_152_6 rfl ?_
    refine ls_icmp_gt 14 f_152_7 rfl hyp (fun _ hyp => ?_) (fun _ hyp => ?_)
    · refine ls_iconst 0 f_152_14 (by decide) ?_
      refine ls_zreturn f_152_15 rZ_152 (by decide) ?_
      show lm_W _ _ _ _ [.int 0] _ _
      refine ls_if_ne_T 14 f_174_9 rfl (by decide) ?_
      refine ls_iconst (-1) f_174_12 (by decide) ?_
      exact ls_ireturn f_174_13 rI_174 hyp
    · refine ls_iconst 1 f_152_10 (by decide) ?_
      refine ls_goto 15 f_152_11 rfl ?_
      refine ls_zreturn f_152_15 rZ_152 (by decide) ?_
      show lm_W _ _ _ _ [.int 1] _ _
      refine ls_if_ne_F 14 f_174_9 rfl (by decide) ?_
      refine ls_aload_n f_174_14 rfl ?_
      refine ls_iload_n f_174_15 rfl ?_
      refine ls_putI f_174_16 p_174_139 hl S_92 rfl ?_
      refine ls_iload_n f_174_19 rfl ?_
      exact ls_ireturn f_174_20 rI_174 hyp
theorem e_175 {d : Nat} {h : lm_H} {K : Int32 → lm_H → Prop} (x0 : Int32) (hl : lm_Lay h) (hyp : (if x0 < 97 then (K 0 h) else (if 122 < x0 then (K 0 h) else (K 1 h)))) : lm_call (d + 1) 175 [.int x0] h (lm_kI K) := by
  refine ls_enter [some (.int x0)] ml_175 (Nat.le_of_ble_eq_true rfl) rfl ?_
  refine ls_iload_n f_175_0 rfl ?_
  refine ls_bipush 97 f_175_1 (by decide) ?_
  refine ls_icmp_lt 16 f_175_3 rfl hyp (fun _ hyp => ?_) (fun _ hyp => ?_)
  · refine ls_iconst 0 f_175_16 (by decide) ?_
    exact ls_zreturn f_175_17 rZ_175 (by decide) hyp
  · refine ls_iload_n f_175_6 rfl ?_
    refine ls_bipush 122 f_175_7 (by decide) ?_
    refine ls_icmp_gt 16 f_175_9 rfl hyp (fun _ hyp => ?_) (fun _ hyp => ?_)
    · refine ls_iconst 0 f_175_16 (by decide) ?_
      exact ls_zreturn f_175_17 rZ_175 (by decide) hyp
    · refine ls_iconst 1 f_175_12 (by decide) ?_
      refine ls_goto 17 f_175_13 rfl ?_
      exact ls_zreturn f_175_17 rZ_175 (by decide) hyp
theorem e_176 {d : Nat} {h : lm_H} {K : Int32 → lm_H → Prop} (x0 : Int32) (hl : lm_Lay h) (hyp : (if x0 < 48 then (K 0 h) else (if 57 < x0 then (K 0 h) else (K 1 h)))) : lm_call (d + 1) 176 [.int x0] h (lm_kI K) := by
  refine ls_enter [some (.int x0)] ml_176 (Nat.le_of_ble_eq_true rfl) rfl ?_
  refine ls_iload_n f_176_0 rfl ?_
  refine ls_bipush 48 f_176_1 (by decide) ?_
  refine ls_icmp_lt 16 f_176_3 rfl hyp (fun _ hyp => ?_) (fun _ hyp => ?_)
  · refine ls_iconst 0 f_176_16 (by decide) ?_
    exact ls_zreturn f_176_17 rZ_176 (by decide) hyp
  · refine ls_iload_n f_176_6 rfl ?_
    refine ls_bipush 57 f_176_7 (by decide) ?_
    refine ls_icmp_gt 16 f_176_9 rfl hyp (fun _ hyp => ?_) (fun _ hyp => ?_)
    · refine ls_iconst 0 f_176_16 (by decide) ?_
      exact ls_zreturn f_176_17 rZ_176 (by decide) hyp
    · refine ls_iconst 1 f_176_12 (by decide) ?_
      refine ls_goto 17 f_176_13 rfl ?_
      exact ls_zreturn f_176_17 rZ_176 (by decide) hyp
theorem e_177 {d : Nat} {h : lm_H} {K : Int32 → lm_H → Prop} (x1 : Int32) (x2 : Int32) (hl : lm_Lay h) (hyp : lm_W (d) 177 5 [some (.ref 92), some (.int x1), some (.int x2), some (.int 1), some (.int 0), none, none, none] [] h (lm_kI K)) : lm_call (d + 1) 177 [.ref 92, .int x1, .int x2] h (lm_kI K) := by
  refine ls_enter [some (.ref 92), some (.int x1), some (.int x2), none, none, none, none, none] ml_177 (Nat.le_of_ble_eq_true rfl) rfl ?_
  refine ls_iconst 1 f_177_0 (by decide) ?_
  refine ls_istore_n [some (.ref 92), some (.int x1), some (.int x2), some (.int 1), none, none, none, none] f_177_1 (Nat.le_of_ble_eq_true rfl) rfl ?_
  refine ls_iconst 0 f_177_2 (by decide) ?_
  refine ls_istore [some (.ref 92), some (.int x1), some (.int x2), some (.int 1), some (.int 0), none, none, none] f_177_3 (Nat.le_of_ble_eq_true rfl) rfl ?_
  exact hyp
theorem b_177_5 {d : Nat} {h : lm_H} {K : Int32 → lm_H → Prop} (x1 : Int32) (x2 : Int32) (x3 : Int32) (x4 : Int32) (hl : lm_Lay h) (hyp : (if x4 < 64 then (lm_W (d) 177 18 [some (.ref 92), some (.int x1), some (.int x2), some (.int x3), some (.int x4), some (.int 0), none, none] [] h (lm_kI K)) else (K 0 h))) : lm_W (d) 177 5 [some (.ref 92), some (.int x1), some (.int x2), some (.int x3), some (.int x4), none, none, none] [] h (lm_kI K) := by
  refine ls_iload f_177_5 rfl ?_
  refine ls_aload_n f_177_7 rfl ?_
  refine ls_getR f_177_8 p_177_35 hl S_92 F_92_7 ?_
  refine ls_alen f_177_11 hl S_97 rfl ?_
  refine ls_top 64 (by decide) ?_
  refine ls_icmp_ge 126 f_177_12 rfl hyp (fun _ hyp => ?_) (fun _ hyp => ?_)
  · refine ls_iconst 0 f_177_15 (by decide) ?_
    refine ls_istore [some (.ref 92), some (.int x1), some (.int x2), some (.int x3), some (.int x4), some (.int 0), none, none] f_177_16 (Nat.le_of_ble_eq_true rfl) rfl ?_
    exact hyp
  · refine ls_iconst 0 f_177_126 (by decide) ?_
    exact ls_ireturn f_177_127 rI_177 hyp
theorem b_177_18 {d : Nat} {h : lm_H} {K : Int32 → lm_H → Prop} (x1 : Int32) (x2 : Int32) (x3 : Int32) (x4 : Int32) (x5 : Int32) (hl : lm_Lay h) (hyp : lm_in (x4 + x5) 64 False (if (lm_i h 97 ((x4 + x5).toNatClampNeg)) = 32 then (if x5 = (x2 - x1) then (lm_W (d) 177 57 [some (.ref 92), some (.int x1), some (.int x2), some (.int x3), some (.int x4), some (.int x5), some (.int 1), some (.int 0)] [] h (lm_kI K)) else (lm_W (d) 177 57 [some (.ref 92), some (.int x1), some (.int x2), some (.int x3), some (.int x4), some (.int x5), some (.int 0), some (.int 0)] [] h (lm_kI K))) else (lm_W (d) 177 18 [some (.ref 92), some (.int x1), some (.int x2), some (.int x3), some (.int x4), some (.int (x5 + 1)), none, none] [] h (lm_kI K)))) : lm_W (d) 177 18 [some (.ref 92), some (.int x1), some (.int x2), some (.int x3), some (.int x4), some (.int x5), none, none] [] h (lm_kI K) := by
  refine ls_aload_n f_177_18 rfl ?_
  refine ls_getR f_177_19 p_177_35 hl S_92 F_92_7 ?_
  refine ls_iload f_177_22 rfl ?_
  refine ls_iload f_177_24 rfl ?_
  refine ls_iadd (x4 + x5) f_177_26 rfl ?_
  refine ls_bald f_177_27 hl S_97 hyp (fun hyp => ?_)
  refine ls_bipush 32 f_177_28 (by decide) ?_
  refine ls_icmp_eq 39 f_177_30 rfl hyp (fun _ hyp => ?_) (fun _ hyp => ?_)
  · refine ls_iload f_177_39 rfl ?_
    refine ls_iload_n f_177_41 rfl ?_
    refine ls_iload_n f_177_42 rfl ?_
    refine ls_isub (x2 - x1) f_177_43 rfl ?_
    refine ls_icmp_ne 51 f_177_44 rfl hyp (fun _ hyp => ?_) (fun _ hyp => ?_)
    · refine ls_iconst 1 f_177_47 (by decide) ?_
      refine ls_goto 52 f_177_48 rfl ?_
      refine ls_istore [some (.ref 92), some (.int x1), some (.int x2), some (.int x3), some (.int x4), some (.int x5), some (.int 1), none] f_177_52 (Nat.le_of_ble_eq_true rfl) rfl ?_
      refine ls_iconst 0 f_177_54 (by decide) ?_
      refine ls_istore [some (.ref 92), some (.int x1), some (.int x2), some (.int x3), some (.int x4), some (.int x5), some (.int 1), some (.int 0)] f_177_55 (Nat.le_of_ble_eq_true rfl) rfl ?_
      exact hyp
    · refine ls_iconst 0 f_177_51 (by decide) ?_
      refine ls_istore [some (.ref 92), some (.int x1), some (.int x2), some (.int x3), some (.int x4), some (.int x5), some (.int 0), none] f_177_52 (Nat.le_of_ble_eq_true rfl) rfl ?_
      refine ls_iconst 0 f_177_54 (by decide) ?_
      refine ls_istore [some (.ref 92), some (.int x1), some (.int x2), some (.int x3), some (.int x4), some (.int x5), some (.int 0), some (.int 0)] f_177_55 (Nat.le_of_ble_eq_true rfl) rfl ?_
      exact hyp
  · refine ls_iinc (x5 + 1) [some (.ref 92), some (.int x1), some (.int x2), some (.int x3), some (.int x4), some (.int (x5 + 1)), none, none] f_177_33 rfl (Nat.le_of_ble_eq_true rfl) rfl rfl ?_
    refine ls_goto 18 f_177_36 rfl ?_
    exact hyp
theorem b_177_57 {d : Nat} {h : lm_H} {K : Int32 → lm_H → Prop} (x1 : Int32) (x2 : Int32) (x3 : Int32) (x4 : Int32) (x5 : Int32) (x6 : Int32) (x7 : Int32) (hl : lm_Lay h) (hyp : (if x7 < x5 then (if x6 = 0 then (if x6 = 0 then (lm_W (d) 177 5 [some (.ref 92), some (.int x1), some (.int x2), some (.int (x3 + 1)), some (.int (x4 + (x5 + 1))), none, none, none] [] h (lm_kI K)) else (K x3 h)) else (lm_in (x4 + x7) 64 False (lm_in (x1 + x7) 400 False (if (lm_i h 97 ((x4 + x7).toNatClampNeg)) = (lm_i h 98 ((x1 + x7).toNatClampNeg)) then (lm_W (d) 177 57 [some (.ref 92), some (.int x1), some (.int x2), some (.int x3), some (.int x4), some (.int x5), some (.int 1), some (.int (x7 + 1))] [] h (lm_kI K)) else (lm_W (d) 177 57 [some (.ref 92), some (.int x1), some (.int x2), some (.int x3), some (.int x4), some (.int x5), some (.int 0), some (.int (x7 + 1))] [] h (lm_kI K)))))) else (if x6 = 0 then (lm_W (d) 177 5 [some (.ref 92), some (.int x1), some (.int x2), some (.int (x3 + 1)), some (.int (x4 + (x5 + 1))), none, none, none] [] h (lm_kI K)) else (K x3 h)))) : lm_W (d) 177 57 [some (.ref 92), some (.int x1), some (.int x2), some (.int x3), some (.int x4), some (.int x5), some (.int x6), some (.int x7)] [] h (lm_kI K) := by
  refine ls_iload f_177_57 rfl ?_
  refine ls_iload f_177_59 rfl ?_
  refine ls_icmp_ge 104 f_177_61 rfl hyp (fun _ hyp => ?_) (fun _ hyp => ?_)
  · refine ls_iload f_177_64 rfl ?_
    refine ls_if_eq 104 f_177_66 rfl hyp (fun _ hyp => ?_) (fun _ hyp => ?_)
    · refine ls_iload f_177_104 rfl ?_
      refine ls_if_eq 111 f_177_106 rfl hyp (fun _ hyp => ?_) (fun _ hyp => ?_)
      · refine ls_iload f_177_111 rfl ?_
        refine ls_iload f_177_113 rfl ?_
        refine ls_iconst 1 f_177_115 (by decide) ?_
        refine ls_iadd (x5 + 1) f_177_116 rfl ?_
        refine ls_iadd (x4 + (x5 + 1)) f_177_117 rfl ?_
        refine ls_istore [some (.ref 92), some (.int x1), some (.int x2), some (.int x3), some (.int (x4 + (x5 + 1))), some (.int x5), some (.int x6), some (.int x7)] f_177_118 (Nat.le_of_ble_eq_true rfl) rfl ?_
        refine ls_iinc (x3 + 1) [some (.ref 92), some (.int x1), some (.int x2), some (.int (x3 + 1)), some (.int (x4 + (x5 + 1))), some (.int x5), some (.int x6), some (.int x7)] f_177_120 rfl (Nat.le_of_ble_eq_true rfl) rfl rfl ?_
        refine ls_goto 5 f_177_123 rfl ?_
        exact ls_mask [true, true, true, true, true, false, false, false] [some (.ref 92), some (.int x1), some (.int x2), some (.int (x3 + 1)), some (.int (x4 + (x5 + 1))), none, none, none] rfl hyp
      · refine ls_iload_n f_177_109 rfl ?_
        exact ls_ireturn f_177_110 rI_177 hyp
    · refine ls_aload_n f_177_69 rfl ?_
      refine ls_getR f_177_70 p_177_35 hl S_92 F_92_7 ?_
      refine ls_iload f_177_73 rfl ?_
      refine ls_iload f_177_75 rfl ?_
      refine ls_iadd (x4 + x7) f_177_77 rfl ?_
      refine ls_bald f_177_78 hl S_97 hyp (fun hyp => ?_)
      refine ls_aload_n f_177_79 rfl ?_
      refine ls_getR f_177_80 p_177_39 hl S_92 F_92_8 ?_
      refine ls_iload_n f_177_83 rfl ?_
      refine ls_iload f_177_84 rfl ?_
      refine ls_iadd (x1 + x7) f_177_86 rfl ?_
      refine ls_bald f_177_87 hl S_98 hyp (fun hyp => ?_)
      refine ls_icmp_ne 95 f_177_88 rfl hyp (fun _ hyp => ?_) (fun _ hyp => ?_)
      · refine ls_iconst 1 f_177_91 (by decide) ?_
        refine ls_goto 96 f_177_92 rfl ?_
        refine ls_istore [some (.ref 92), some (.int x1), some (.int x2), some (.int x3), some (.int x4), some (.int x5), some (.int 1), some (.int x7)] f_177_96 (Nat.le_of_ble_eq_true rfl) rfl ?_
        refine ls_iinc (x7 + 1) [some (.ref 92), some (.int x1), some (.int x2), some (.int x3), some (.int x4), some (.int x5), some (.int 1), some (.int (x7 + 1))] f_177_98 rfl (Nat.le_of_ble_eq_true rfl) rfl rfl ?_
        refine ls_goto 57 f_177_101 rfl ?_
        exact hyp
      · refine ls_iconst 0 f_177_95 (by decide) ?_
        refine ls_istore [some (.ref 92), some (.int x1), some (.int x2), some (.int x3), some (.int x4), some (.int x5), some (.int 0), some (.int x7)] f_177_96 (Nat.le_of_ble_eq_true rfl) rfl ?_
        refine ls_iinc (x7 + 1) [some (.ref 92), some (.int x1), some (.int x2), some (.int x3), some (.int x4), some (.int x5), some (.int 0), some (.int (x7 + 1))] f_177_98 rfl (Nat.le_of_ble_eq_true rfl) rfl rfl ?_
        refine ls_goto 57 f_177_101 rfl ?_
        exact hyp
  · refine ls_iload f_177_104 rfl ?_
    refine ls_if_eq 111 f_177_106 rfl hyp (fun _ hyp => ?_) (fun _ hyp => ?_)
    · refine ls_iload f_177_111 rfl ?_
      refine ls_iload f_177_113 rfl ?_
      refine ls_iconst 1 f_177_115 (by decide) ?_
      refine ls_iadd (x5 + 1) f_177_116 rfl ?_
      refine ls_iadd (x4 + (x5 + 1)) f_177_117 rfl ?_
      refine ls_istore [some (.ref 92), some (.int x1), some (.int x2), some (.int x3), some (.int (x4 + (x5 + 1))), some (.int x5), some (.int x6), some (.int x7)] f_177_118 (Nat.le_of_ble_eq_true rfl) rfl ?_
      refine ls_iinc (x3 + 1) [some (.ref 92), some (.int x1), some (.int x2), some (.int (x3 + 1)), some (.int (x4 + (x5 + 1))), some (.int x5), some (.int x6), some (.int x7)] f_177_120 rfl (Nat.le_of_ble_eq_true rfl) rfl rfl ?_
      refine ls_goto 5 f_177_123 rfl ?_
      exact ls_mask [true, true, true, true, true, false, false, false] [some (.ref 92), some (.int x1), some (.int x2), some (.int (x3 + 1)), some (.int (x4 + (x5 + 1))), none, none, none] rfl hyp
    · refine ls_iload_n f_177_109 rfl ?_
      exact ls_ireturn f_177_110 rI_177 hyp
theorem e_178 {d : Nat} {h : lm_H} {K : lm_H → Prop} (x1 : Int32) (hl : lm_Lay h) (hyp : lm_W (d + 1) 178 7 [some (.ref 92), some (.int x1), some (.int 0), none, none, none] [] (lm_si h 92 15 0) (lm_kV K)) : lm_call (d + 2) 178 [.ref 92, .int x1] h (lm_kV K) := by
  refine ls_enter [some (.ref 92), some (.int x1), none, none, none, none] ml_178 (Nat.le_of_ble_eq_true rfl) rfl ?_
  refine ls_aload_n f_178_0 rfl ?_
  refine ls_iconst 0 f_178_1 (by decide) ?_
  refine ls_putI f_178_2 p_178_145 hl S_92 rfl ?_
  refine ls_iconst 0 f_178_5 (by decide) ?_
  refine ls_istore_n [some (.ref 92), some (.int x1), some (.int 0), none, none, none] f_178_6 (Nat.le_of_ble_eq_true rfl) rfl ?_
  exact hyp
theorem b_178_7 {d : Nat} {h : lm_H} {K : lm_H → Prop} (x1 : Int32) (x2 : Int32) (hl : lm_Lay h) (hyp : (if x2 < x1 then (lm_in x2 400 False (if (lm_i h 98 x2.toNatClampNeg) = 32 then (lm_W (d + 1) 178 7 [some (.ref 92), some (.int x1), some (.int (x2 + 1)), none, none, none] [] h (lm_kV K)) else (if (lm_i h 98 x2.toNatClampNeg) < 97 then (if (lm_i h 98 x2.toNatClampNeg) < 48 then (lm_in (lm_i h 92 15) 401 False (lm_in (lm_i h 92 15) 401 False (if (lm_i h 98 x2.toNatClampNeg) < 97 then (if (lm_i h 98 x2.toNatClampNeg) < 48 then (lm_in (lm_i h 92 15) 401 False (lm_W (d + 1) 178 169 [some (.ref 92), some (.int x1), none, some (.int (lm_i h 98 x2.toNatClampNeg)), some (.int (x2 + 1)), some (.int x2)] [] (lm_si (lm_si (lm_si h 102 ((lm_i h 92 15).toNatClampNeg) x2) 101 ((lm_i h 92 15).toNatClampNeg) 0) 100 ((lm_i h 92 15).toNatClampNeg) (100 + ((lm_i h 98 x2.toNatClampNeg) &&& 255))) (lm_kV K))) else (if 57 < (lm_i h 98 x2.toNatClampNeg) then (lm_in (lm_i h 92 15) 401 False (lm_W (d + 1) 178 169 [some (.ref 92), some (.int x1), none, some (.int (lm_i h 98 x2.toNatClampNeg)), some (.int (x2 + 1)), some (.int x2)] [] (lm_si (lm_si (lm_si h 102 ((lm_i h 92 15).toNatClampNeg) x2) 101 ((lm_i h 92 15).toNatClampNeg) 0) 100 ((lm_i h 92 15).toNatClampNeg) (100 + ((lm_i h 98 x2.toNatClampNeg) &&& 255))) (lm_kV K))) else (lm_in (lm_i h 92 15) 401 False (lm_W (d + 1) 178 169 [some (.ref 92), some (.int x1), none, some (.int (lm_i h 98 x2.toNatClampNeg)), some (.int (x2 + 1)), some (.int x2)] [] (lm_si (lm_si (lm_si h 102 ((lm_i h 92 15).toNatClampNeg) x2) 101 ((lm_i h 92 15).toNatClampNeg) 0) 100 ((lm_i h 92 15).toNatClampNeg) 50) (lm_kV K))))) else (if 122 < (lm_i h 98 x2.toNatClampNeg) then (if (lm_i h 98 x2.toNatClampNeg) < 48 then (lm_in (lm_i h 92 15) 401 False (lm_W (d + 1) 178 169 [some (.ref 92), some (.int x1), none, some (.int (lm_i h 98 x2.toNatClampNeg)), some (.int (x2 + 1)), some (.int x2)] [] (lm_si (lm_si (lm_si h 102 ((lm_i h 92 15).toNatClampNeg) x2) 101 ((lm_i h 92 15).toNatClampNeg) 0) 100 ((lm_i h 92 15).toNatClampNeg) (100 + ((lm_i h 98 x2.toNatClampNeg) &&& 255))) (lm_kV K))) else (if 57 < (lm_i h 98 x2.toNatClampNeg) then (lm_in (lm_i h 92 15) 401 False (lm_W (d + 1) 178 169 [some (.ref 92), some (.int x1), none, some (.int (lm_i h 98 x2.toNatClampNeg)), some (.int (x2 + 1)), some (.int x2)] [] (lm_si (lm_si (lm_si h 102 ((lm_i h 92 15).toNatClampNeg) x2) 101 ((lm_i h 92 15).toNatClampNeg) 0) 100 ((lm_i h 92 15).toNatClampNeg) (100 + ((lm_i h 98 x2.toNatClampNeg) &&& 255))) (lm_kV K))) else (lm_in (lm_i h 92 15) 401 False (lm_W (d + 1) 178 169 [some (.ref 92), some (.int x1), none, some (.int (lm_i h 98 x2.toNatClampNeg)), some (.int (x2 + 1)), some (.int x2)] [] (lm_si (lm_si (lm_si h 102 ((lm_i h 92 15).toNatClampNeg) x2) 101 ((lm_i h 92 15).toNatClampNeg) 0) 100 ((lm_i h 92 15).toNatClampNeg) 50) (lm_kV K))))) else (lm_call (d + 1) 177 [.ref 92, .int x2, .int (x2 + 1)] (lm_si (lm_si h 102 ((lm_i h 92 15).toNatClampNeg) x2) 101 ((lm_i h 92 15).toNatClampNeg) 0) (lm_kI fun r2 h1 => lm_in (lm_i h 92 15) 401 False (lm_W (d + 1) 178 169 [some (.ref 92), some (.int x1), none, some (.int (lm_i h 98 x2.toNatClampNeg)), some (.int (x2 + 1)), some (.int x2)] [] (lm_si h1 100 ((lm_i h 92 15).toNatClampNeg) r2) (lm_kV K)))))))) else (if 57 < (lm_i h 98 x2.toNatClampNeg) then (lm_in (lm_i h 92 15) 401 False (lm_in (lm_i h 92 15) 401 False (if (lm_i h 98 x2.toNatClampNeg) < 97 then (if (lm_i h 98 x2.toNatClampNeg) < 48 then (lm_in (lm_i h 92 15) 401 False (lm_W (d + 1) 178 169 [some (.ref 92), some (.int x1), none, some (.int (lm_i h 98 x2.toNatClampNeg)), some (.int (x2 + 1)), some (.int x2)] [] (lm_si (lm_si (lm_si h 102 ((lm_i h 92 15).toNatClampNeg) x2) 101 ((lm_i h 92 15).toNatClampNeg) 0) 100 ((lm_i h 92 15).toNatClampNeg) (100 + ((lm_i h 98 x2.toNatClampNeg) &&& 255))) (lm_kV K))) else (if 57 < (lm_i h 98 x2.toNatClampNeg) then (lm_in (lm_i h 92 15) 401 False (lm_W (d + 1) 178 169 [some (.ref 92), some (.int x1), none, some (.int (lm_i h 98 x2.toNatClampNeg)), some (.int (x2 + 1)), some (.int x2)] [] (lm_si (lm_si (lm_si h 102 ((lm_i h 92 15).toNatClampNeg) x2) 101 ((lm_i h 92 15).toNatClampNeg) 0) 100 ((lm_i h 92 15).toNatClampNeg) (100 + ((lm_i h 98 x2.toNatClampNeg) &&& 255))) (lm_kV K))) else (lm_in (lm_i h 92 15) 401 False (lm_W (d + 1) 178 169 [some (.ref 92), some (.int x1), none, some (.int (lm_i h 98 x2.toNatClampNeg)), some (.int (x2 + 1)), some (.int x2)] [] (lm_si (lm_si (lm_si h 102 ((lm_i h 92 15).toNatClampNeg) x2) 101 ((lm_i h 92 15).toNatClampNeg) 0) 100 ((lm_i h 92 15).toNatClampNeg) 50) (lm_kV K))))) else (if 122 < (lm_i h 98 x2.toNatClampNeg) then (if (lm_i h 98 x2.toNatClampNeg) < 48 then (lm_in (lm_i h 92 15) 401 False (lm_W (d + 1) 178 169 [some (.ref 92), some (.int x1), none, some (.int (lm_i h 98 x2.toNatClampNeg)), some (.int (x2 + 1)), some (.int x2)] [] (lm_si (lm_si (lm_si h 102 ((lm_i h 92 15).toNatClampNeg) x2) 101 ((lm_i h 92 15).toNatClampNeg) 0) 100 ((lm_i h 92 15).toNatClampNeg) (100 + ((lm_i h 98 x2.toNatClampNeg) &&& 255))) (lm_kV K))) else (if 57 < (lm_i h 98 x2.toNatClampNeg) then (lm_in (lm_i h 92 15) 401 False (lm_W (d + 1) 178 169 [some (.ref 92), some (.int x1), none, some (.int (lm_i h 98 x2.toNatClampNeg)), some (.int (x2 + 1)), some (.int x2)] [] (lm_si (lm_si (lm_si h 102 ((lm_i h 92 15).toNatClampNeg) x2) 101 ((lm_i h 92 15).toNatClampNeg) 0) 100 ((lm_i h 92 15).toNatClampNeg) (100 + ((lm_i h 98 x2.toNatClampNeg) &&& 255))) (lm_kV K))) else (lm_in (lm_i h 92 15) 401 False (lm_W (d + 1) 178 169 [some (.ref 92), some (.int x1), none, some (.int (lm_i h 98 x2.toNatClampNeg)), some (.int (x2 + 1)), some (.int x2)] [] (lm_si (lm_si (lm_si h 102 ((lm_i h 92 15).toNatClampNeg) x2) 101 ((lm_i h 92 15).toNatClampNeg) 0) 100 ((lm_i h 92 15).toNatClampNeg) 50) (lm_kV K))))) else (lm_call (d + 1) 177 [.ref 92, .int x2, .int (x2 + 1)] (lm_si (lm_si h 102 ((lm_i h 92 15).toNatClampNeg) x2) 101 ((lm_i h 92 15).toNatClampNeg) 0) (lm_kI fun r4 h3 => lm_in (lm_i h 92 15) 401 False (lm_W (d + 1) 178 169 [some (.ref 92), some (.int x1), none, some (.int (lm_i h 98 x2.toNatClampNeg)), some (.int (x2 + 1)), some (.int x2)] [] (lm_si h3 100 ((lm_i h 92 15).toNatClampNeg) r4) (lm_kV K)))))))) else (lm_W (d + 1) 178 75 [some (.ref 92), some (.int x1), some (.int x2), some (.int (lm_i h 98 x2.toNatClampNeg)), some (.int (x2 + 1)), none] [] h (lm_kV K)))) else (if 122 < (lm_i h 98 x2.toNatClampNeg) then (if (lm_i h 98 x2.toNatClampNeg) < 48 then (lm_in (lm_i h 92 15) 401 False (lm_in (lm_i h 92 15) 401 False (if (lm_i h 98 x2.toNatClampNeg) < 97 then (if (lm_i h 98 x2.toNatClampNeg) < 48 then (lm_in (lm_i h 92 15) 401 False (lm_W (d + 1) 178 169 [some (.ref 92), some (.int x1), none, some (.int (lm_i h 98 x2.toNatClampNeg)), some (.int (x2 + 1)), some (.int x2)] [] (lm_si (lm_si (lm_si h 102 ((lm_i h 92 15).toNatClampNeg) x2) 101 ((lm_i h 92 15).toNatClampNeg) 0) 100 ((lm_i h 92 15).toNatClampNeg) (100 + ((lm_i h 98 x2.toNatClampNeg) &&& 255))) (lm_kV K))) else (if 57 < (lm_i h 98 x2.toNatClampNeg) then (lm_in (lm_i h 92 15) 401 False (lm_W (d + 1) 178 169 [some (.ref 92), some (.int x1), none, some (.int (lm_i h 98 x2.toNatClampNeg)), some (.int (x2 + 1)), some (.int x2)] [] (lm_si (lm_si (lm_si h 102 ((lm_i h 92 15).toNatClampNeg) x2) 101 ((lm_i h 92 15).toNatClampNeg) 0) 100 ((lm_i h 92 15).toNatClampNeg) (100 + ((lm_i h 98 x2.toNatClampNeg) &&& 255))) (lm_kV K))) else (lm_in (lm_i h 92 15) 401 False (lm_W (d + 1) 178 169 [some (.ref 92), some (.int x1), none, some (.int (lm_i h 98 x2.toNatClampNeg)), some (.int (x2 + 1)), some (.int x2)] [] (lm_si (lm_si (lm_si h 102 ((lm_i h 92 15).toNatClampNeg) x2) 101 ((lm_i h 92 15).toNatClampNeg) 0) 100 ((lm_i h 92 15).toNatClampNeg) 50) (lm_kV K))))) else (if 122 < (lm_i h 98 x2.toNatClampNeg) then (if (lm_i h 98 x2.toNatClampNeg) < 48 then (lm_in (lm_i h 92 15) 401 False (lm_W (d + 1) 178 169 [some (.ref 92), some (.int x1), none, some (.int (lm_i h 98 x2.toNatClampNeg)), some (.int (x2 + 1)), some (.int x2)] [] (lm_si (lm_si (lm_si h 102 ((lm_i h 92 15).toNatClampNeg) x2) 101 ((lm_i h 92 15).toNatClampNeg) 0) 100 ((lm_i h 92 15).toNatClampNeg) (100 + ((lm_i h 98 x2.toNatClampNeg) &&& 255))) (lm_kV K))) else (if 57 < (lm_i h 98 x2.toNatClampNeg) then (lm_in (lm_i h 92 15) 401 False (lm_W (d + 1) 178 169 [some (.ref 92), some (.int x1), none, some (.int (lm_i h 98 x2.toNatClampNeg)), some (.int (x2 + 1)), some (.int x2)] [] (lm_si (lm_si (lm_si h 102 ((lm_i h 92 15).toNatClampNeg) x2) 101 ((lm_i h 92 15).toNatClampNeg) 0) 100 ((lm_i h 92 15).toNatClampNeg) (100 + ((lm_i h 98 x2.toNatClampNeg) &&& 255))) (lm_kV K))) else (lm_in (lm_i h 92 15) 401 False (lm_W (d + 1) 178 169 [some (.ref 92), some (.int x1), none, some (.int (lm_i h 98 x2.toNatClampNeg)), some (.int (x2 + 1)), some (.int x2)] [] (lm_si (lm_si (lm_si h 102 ((lm_i h 92 15).toNatClampNeg) x2) 101 ((lm_i h 92 15).toNatClampNeg) 0) 100 ((lm_i h 92 15).toNatClampNeg) 50) (lm_kV K))))) else (lm_call (d + 1) 177 [.ref 92, .int x2, .int (x2 + 1)] (lm_si (lm_si h 102 ((lm_i h 92 15).toNatClampNeg) x2) 101 ((lm_i h 92 15).toNatClampNeg) 0) (lm_kI fun r6 h5 => lm_in (lm_i h 92 15) 401 False (lm_W (d + 1) 178 169 [some (.ref 92), some (.int x1), none, some (.int (lm_i h 98 x2.toNatClampNeg)), some (.int (x2 + 1)), some (.int x2)] [] (lm_si h5 100 ((lm_i h 92 15).toNatClampNeg) r6) (lm_kV K)))))))) else (if 57 < (lm_i h 98 x2.toNatClampNeg) then (lm_in (lm_i h 92 15) 401 False (lm_in (lm_i h 92 15) 401 False (if (lm_i h 98 x2.toNatClampNeg) < 97 then (if (lm_i h 98 x2.toNatClampNeg) < 48 then (lm_in (lm_i h 92 15) 401 False (lm_W (d + 1) 178 169 [some (.ref 92), some (.int x1), none, some (.int (lm_i h 98 x2.toNatClampNeg)), some (.int (x2 + 1)), some (.int x2)] [] (lm_si (lm_si (lm_si h 102 ((lm_i h 92 15).toNatClampNeg) x2) 101 ((lm_i h 92 15).toNatClampNeg) 0) 100 ((lm_i h 92 15).toNatClampNeg) (100 + ((lm_i h 98 x2.toNatClampNeg) &&& 255))) (lm_kV K))) else (if 57 < (lm_i h 98 x2.toNatClampNeg) then (lm_in (lm_i h 92 15) 401 False (lm_W (d + 1) 178 169 [some (.ref 92), some (.int x1), none, some (.int (lm_i h 98 x2.toNatClampNeg)), some (.int (x2 + 1)), some (.int x2)] [] (lm_si (lm_si (lm_si h 102 ((lm_i h 92 15).toNatClampNeg) x2) 101 ((lm_i h 92 15).toNatClampNeg) 0) 100 ((lm_i h 92 15).toNatClampNeg) (100 + ((lm_i h 98 x2.toNatClampNeg) &&& 255))) (lm_kV K))) else (lm_in (lm_i h 92 15) 401 False (lm_W (d + 1) 178 169 [some (.ref 92), some (.int x1), none, some (.int (lm_i h 98 x2.toNatClampNeg)), some (.int (x2 + 1)), some (.int x2)] [] (lm_si (lm_si (lm_si h 102 ((lm_i h 92 15).toNatClampNeg) x2) 101 ((lm_i h 92 15).toNatClampNeg) 0) 100 ((lm_i h 92 15).toNatClampNeg) 50) (lm_kV K))))) else (if 122 < (lm_i h 98 x2.toNatClampNeg) then (if (lm_i h 98 x2.toNatClampNeg) < 48 then (lm_in (lm_i h 92 15) 401 False (lm_W (d + 1) 178 169 [some (.ref 92), some (.int x1), none, some (.int (lm_i h 98 x2.toNatClampNeg)), some (.int (x2 + 1)), some (.int x2)] [] (lm_si (lm_si (lm_si h 102 ((lm_i h 92 15).toNatClampNeg) x2) 101 ((lm_i h 92 15).toNatClampNeg) 0) 100 ((lm_i h 92 15).toNatClampNeg) (100 + ((lm_i h 98 x2.toNatClampNeg) &&& 255))) (lm_kV K))) else (if 57 < (lm_i h 98 x2.toNatClampNeg) then (lm_in (lm_i h 92 15) 401 False (lm_W (d + 1) 178 169 [some (.ref 92), some (.int x1), none, some (.int (lm_i h 98 x2.toNatClampNeg)), some (.int (x2 + 1)), some (.int x2)] [] (lm_si (lm_si (lm_si h 102 ((lm_i h 92 15).toNatClampNeg) x2) 101 ((lm_i h 92 15).toNatClampNeg) 0) 100 ((lm_i h 92 15).toNatClampNeg) (100 + ((lm_i h 98 x2.toNatClampNeg) &&& 255))) (lm_kV K))) else (lm_in (lm_i h 92 15) 401 False (lm_W (d + 1) 178 169 [some (.ref 92), some (.int x1), none, some (.int (lm_i h 98 x2.toNatClampNeg)), some (.int (x2 + 1)), some (.int x2)] [] (lm_si (lm_si (lm_si h 102 ((lm_i h 92 15).toNatClampNeg) x2) 101 ((lm_i h 92 15).toNatClampNeg) 0) 100 ((lm_i h 92 15).toNatClampNeg) 50) (lm_kV K))))) else (lm_call (d + 1) 177 [.ref 92, .int x2, .int (x2 + 1)] (lm_si (lm_si h 102 ((lm_i h 92 15).toNatClampNeg) x2) 101 ((lm_i h 92 15).toNatClampNeg) 0) (lm_kI fun r8 h7 => lm_in (lm_i h 92 15) 401 False (lm_W (d + 1) 178 169 [some (.ref 92), some (.int x1), none, some (.int (lm_i h 98 x2.toNatClampNeg)), some (.int (x2 + 1)), some (.int x2)] [] (lm_si h7 100 ((lm_i h 92 15).toNatClampNeg) r8) (lm_kV K)))))))) else (lm_W (d + 1) 178 75 [some (.ref 92), some (.int x1), some (.int x2), some (.int (lm_i h 98 x2.toNatClampNeg)), some (.int (x2 + 1)), none] [] h (lm_kV K)))) else (lm_W (d + 1) 178 43 [some (.ref 92), some (.int x1), some (.int x2), some (.int (lm_i h 98 x2.toNatClampNeg)), some (.int (x2 + 1)), none] [] h (lm_kV K)))))) else (lm_in (lm_i h 92 15) 401 False (lm_in (lm_i h 92 15) 401 False (lm_in (lm_i h 92 15) 401 False (K (lm_si (lm_si (lm_si h 102 ((lm_i h 92 15).toNatClampNeg) x1) 100 ((lm_i h 92 15).toNatClampNeg) 0) 101 ((lm_i h 92 15).toNatClampNeg) 0))))))) : lm_W (d + 1) 178 7 [some (.ref 92), some (.int x1), some (.int x2), none, none, none] [] h (lm_kV K) := by
  refine ls_iload_n f_178_7 rfl ?_
  refine ls_iload_n f_178_8 rfl ?_
  refine ls_icmp_ge 263 f_178_9 rfl hyp (fun _ hyp => ?_) (fun _ hyp => ?_)
  · refine ls_aload_n f_178_12 rfl ?_
    refine ls_getR f_178_13 p_178_39 hl S_92 F_92_8 ?_
    refine ls_iload_n f_178_16 rfl ?_
    refine ls_bald f_178_17 hl S_98 hyp (fun hyp => ?_)
    refine ls_istore_n [some (.ref 92), some (.int x1), some (.int x2), some (.int (lm_i h 98 x2.toNatClampNeg)), none, none] f_178_18 (Nat.le_of_ble_eq_true rfl) rfl ?_
    refine ls_iload_n f_178_19 rfl ?_
    refine ls_bipush 32 f_178_20 (by decide) ?_
    refine ls_icmp_ne 31 f_178_22 rfl hyp (fun _ hyp => ?_) (fun _ hyp => ?_)
    · refine ls_iinc (x2 + 1) [some (.ref 92), some (.int x1), some (.int (x2 + 1)), some (.int (lm_i h 98 x2.toNatClampNeg)), none, none] f_178_25 rfl (Nat.le_of_ble_eq_true rfl) rfl rfl ?_
      refine ls_goto 7 f_178_28 rfl ?_
      exact ls_mask [true, true, true, false, false, false] [some (.ref 92), some (.int x1), some (.int (x2 + 1)), none, none, none] rfl hyp
    · refine ls_iload_n f_178_31 rfl ?_
      refine ls_iconst 1 f_178_32 (by decide) ?_
      refine ls_iadd (x2 + 1) f_178_33 rfl ?_
      refine ls_istore [some (.ref 92), some (.int x1), some (.int x2), some (.int (lm_i h 98 x2.toNatClampNeg)), some (.int (x2 + 1)), none] f_178_34 (Nat.le_of_ble_eq_true rfl) rfl ?_
      refine ls_iload_n f_178_36 rfl ?_
      refine ls_invS f_178_37 q_178_148 [.int (lm_i h 98 x2.toNatClampNeg)] [] rfl (Nat.le_of_ble_eq_true rfl) ?_
      refine ls_enter [some (.int (lm_i h 98 x2.toNatClampNeg))] ml_175 (Nat.le_of_ble_eq_true rfl) rfl ?_
      refine ls_iload_n f_175_0 rfl ?_
      refine ls_bipush 97 f_175_1 (by decide) ?_
      refine ls_icmp_lt 16 f_175_3 rfl hyp (fun _ hyp => ?_) (fun _ hyp => ?_)
      · refine ls_iconst 0 f_175_16 (by decide) ?_
        refine ls_zreturn f_175_17 rZ_175 (by decide) ?_
        show lm_W _ _ _ _ [.int 0] _ _
        refine ls_if_eq_T 68 f_178_40 rfl (by decide) ?_
        refine ls_iload_n f_178_68 rfl ?_
        refine ls_invS f_178_69 q_178_151 [.int (lm_i h 98 x2.toNatClampNeg)] [] rfl (Nat.le_of_ble_eq_true rfl) ?_
        refine ls_enter [some (.int (lm_i h 98 x2.toNatClampNeg))] ml_176 (Nat.le_of_ble_eq_true rfl) rfl ?_
        refine ls_iload_n f_176_0 rfl ?_
        refine ls_bipush 48 f_176_1 (by decide) ?_
        refine ls_icmp_lt 16 f_176_3 rfl hyp (fun _ hyp => ?_) (fun _ hyp => ?_)
        · refine ls_iconst 0 f_176_16 (by decide) ?_
          refine ls_zreturn f_176_17 rZ_176 (by decide) ?_
          show lm_W _ _ _ _ [.int 0] _ _
          refine ls_if_eq_T 100 f_178_72 rfl (by decide) ?_
          refine ls_aload_n f_178_100 rfl ?_
          refine ls_getR f_178_101 p_178_54 hl S_92 F_92_14 ?_
          refine ls_aload_n f_178_104 rfl ?_
          refine ls_getI f_178_105 p_178_145 hl S_92 ?_
          refine ls_iload_n f_178_108 rfl ?_
          refine ls_iast f_178_109 hl S_102 hyp (fun hyp => ?_)
          refine ls_aload_n f_178_110 rfl ?_
          refine ls_getR f_178_111 p_178_51 (lm_Lay_si hl _ _ _) S_92 F_92_13 ?_
          refine ls_aload_n f_178_114 rfl ?_
          refine ls_getI f_178_115 p_178_145 (lm_Lay_si hl _ _ _) S_92 ?_
          refine ls_top (lm_i h 92 15) rfl ?_
          refine ls_iconst 0 f_178_118 (by decide) ?_
          refine ls_iast f_178_119 (lm_Lay_si hl _ _ _) S_101 hyp (fun hyp => ?_)
          refine ls_aload_n f_178_120 rfl ?_
          refine ls_getR f_178_121 p_178_48 (lm_Lay_si (lm_Lay_si hl _ _ _) _ _ _) S_92 F_92_12 ?_
          refine ls_aload_n f_178_124 rfl ?_
          refine ls_getI f_178_125 p_178_145 (lm_Lay_si (lm_Lay_si hl _ _ _) _ _ _) S_92 ?_
          refine ls_top (lm_i h 92 15) rfl ?_
          refine ls_iload_n f_178_128 rfl ?_
          refine ls_invS f_178_129 q_178_148 [.int (lm_i h 98 x2.toNatClampNeg)] [.int (lm_i h 92 15), .ref 100] rfl (Nat.le_of_ble_eq_true rfl) ?_
          refine ls_enter [some (.int (lm_i h 98 x2.toNatClampNeg))] ml_175 (Nat.le_of_ble_eq_true rfl) rfl ?_
          refine ls_iload_n f_175_0 rfl ?_
          refine ls_bipush 97 f_175_1 (by decide) ?_
          refine ls_icmp_lt 16 f_175_3 rfl hyp (fun _ hyp => ?_) (fun _ hyp => ?_)
          · refine ls_iconst 0 f_175_16 (by decide) ?_
            refine ls_zreturn f_175_17 rZ_175 (by decide) ?_
            show lm_W _ _ _ _ [.int 0, .int (lm_i h 92 15), .ref 100] _ _
            refine ls_if_eq_T 145 f_178_132 rfl (by decide) ?_
            refine ls_iload_n f_178_145 rfl ?_
            refine ls_invS f_178_146 q_178_151 [.int (lm_i h 98 x2.toNatClampNeg)] [.int (lm_i h 92 15), .ref 100] rfl (Nat.le_of_ble_eq_true rfl) ?_
            refine ls_enter [some (.int (lm_i h 98 x2.toNatClampNeg))] ml_176 (Nat.le_of_ble_eq_true rfl) rfl ?_
            refine ls_iload_n f_176_0 rfl ?_
            refine ls_bipush 48 f_176_1 (by decide) ?_
            refine ls_icmp_lt 16 f_176_3 rfl hyp (fun _ hyp => ?_) (fun _ hyp => ?_)
            · refine ls_iconst 0 f_176_16 (by decide) ?_
              refine ls_zreturn f_176_17 rZ_176 (by decide) ?_
              show lm_W _ _ _ _ [.int 0, .int (lm_i h 92 15), .ref 100] _ _
              refine ls_if_eq_T 157 f_178_149 rfl (by decide) ?_
              refine ls_bipush 100 f_178_157 (by decide) ?_
              refine ls_iload_n f_178_159 rfl ?_
              refine ls_sipush 255 f_178_160 (by decide) ?_
              refine ls_iand ((lm_i h 98 x2.toNatClampNeg) &&& 255) f_178_163 rfl ?_
              refine ls_iadd (100 + ((lm_i h 98 x2.toNatClampNeg) &&& 255)) f_178_164 rfl ?_
              refine ls_iast f_178_165 (lm_Lay_si (lm_Lay_si hl _ _ _) _ _ _) S_100 hyp (fun hyp => ?_)
              refine ls_iload_n f_178_166 rfl ?_
              refine ls_istore [some (.ref 92), some (.int x1), some (.int x2), some (.int (lm_i h 98 x2.toNatClampNeg)), some (.int (x2 + 1)), some (.int x2)] f_178_167 (Nat.le_of_ble_eq_true rfl) rfl ?_
              exact ls_mask [true, true, false, true, true, true] [some (.ref 92), some (.int x1), none, some (.int (lm_i h 98 x2.toNatClampNeg)), some (.int (x2 + 1)), some (.int x2)] rfl hyp
            · refine ls_iload_n f_176_6 rfl ?_
              refine ls_bipush 57 f_176_7 (by decide) ?_
              refine ls_icmp_gt 16 f_176_9 rfl hyp (fun _ hyp => ?_) (fun _ hyp => ?_)
              · refine ls_iconst 0 f_176_16 (by decide) ?_
                refine ls_zreturn f_176_17 rZ_176 (by decide) ?_
                show lm_W _ _ _ _ [.int 0, .int (lm_i h 92 15), .ref 100] _ _
                refine ls_if_eq_T 157 f_178_149 rfl (by decide) ?_
                refine ls_bipush 100 f_178_157 (by decide) ?_
                refine ls_iload_n f_178_159 rfl ?_
                refine ls_sipush 255 f_178_160 (by decide) ?_
                refine ls_iand ((lm_i h 98 x2.toNatClampNeg) &&& 255) f_178_163 rfl ?_
                refine ls_iadd (100 + ((lm_i h 98 x2.toNatClampNeg) &&& 255)) f_178_164 rfl ?_
                refine ls_iast f_178_165 (lm_Lay_si (lm_Lay_si hl _ _ _) _ _ _) S_100 hyp (fun hyp => ?_)
                refine ls_iload_n f_178_166 rfl ?_
                refine ls_istore [some (.ref 92), some (.int x1), some (.int x2), some (.int (lm_i h 98 x2.toNatClampNeg)), some (.int (x2 + 1)), some (.int x2)] f_178_167 (Nat.le_of_ble_eq_true rfl) rfl ?_
                exact ls_mask [true, true, false, true, true, true] [some (.ref 92), some (.int x1), none, some (.int (lm_i h 98 x2.toNatClampNeg)), some (.int (x2 + 1)), some (.int x2)] rfl hyp
              · refine ls_iconst 1 f_176_12 (by decide) ?_
                refine ls_goto 17 f_176_13 rfl ?_
                refine ls_zreturn f_176_17 rZ_176 (by decide) ?_
                show lm_W _ _ _ _ [.int 1, .int (lm_i h 92 15), .ref 100] _ _
                refine ls_if_eq_F 157 f_178_149 rfl (by decide) ?_
                refine ls_bipush 50 f_178_152 (by decide) ?_
                refine ls_goto 165 f_178_154 rfl ?_
                refine ls_iast f_178_165 (lm_Lay_si (lm_Lay_si hl _ _ _) _ _ _) S_100 hyp (fun hyp => ?_)
                refine ls_iload_n f_178_166 rfl ?_
                refine ls_istore [some (.ref 92), some (.int x1), some (.int x2), some (.int (lm_i h 98 x2.toNatClampNeg)), some (.int (x2 + 1)), some (.int x2)] f_178_167 (Nat.le_of_ble_eq_true rfl) rfl ?_
                exact ls_mask [true, true, false, true, true, true] [some (.ref 92), some (.int x1), none, some (.int (lm_i h 98 x2.toNatClampNeg)), some (.int (x2 + 1)), some (.int x2)] rfl hyp
          · refine ls_iload_n f_175_6 rfl ?_
            refine ls_bipush 122 f_175_7 (by decide) ?_
            refine ls_icmp_gt 16 f_175_9 rfl hyp (fun _ hyp => ?_) (fun _ hyp => ?_)
            · refine ls_iconst 0 f_175_16 (by decide) ?_
              refine ls_zreturn f_175_17 rZ_175 (by decide) ?_
              show lm_W _ _ _ _ [.int 0, .int (lm_i h 92 15), .ref 100] _ _
              refine ls_if_eq_T 145 f_178_132 rfl (by decide) ?_
              refine ls_iload_n f_178_145 rfl ?_
              refine ls_invS f_178_146 q_178_151 [.int (lm_i h 98 x2.toNatClampNeg)] [.int (lm_i h 92 15), .ref 100] rfl (Nat.le_of_ble_eq_true rfl) ?_
              refine ls_enter [some (.int (lm_i h 98 x2.toNatClampNeg))] ml_176 (Nat.le_of_ble_eq_true rfl) rfl ?_
              refine ls_iload_n f_176_0 rfl ?_
              refine ls_bipush 48 f_176_1 (by decide) ?_
              refine ls_icmp_lt 16 f_176_3 rfl hyp (fun _ hyp => ?_) (fun _ hyp => ?_)
              · refine ls_iconst 0 f_176_16 (by decide) ?_
                refine ls_zreturn f_176_17 rZ_176 (by decide) ?_
                show lm_W _ _ _ _ [.int 0, .int (lm_i h 92 15), .ref 100] _ _
                refine ls_if_eq_T 157 f_178_149 rfl (by decide) ?_
                refine ls_bipush 100 f_178_157 (by decide) ?_
                refine ls_iload_n f_178_159 rfl ?_
                refine ls_sipush 255 f_178_160 (by decide) ?_
                refine ls_iand ((lm_i h 98 x2.toNatClampNeg) &&& 255) f_178_163 rfl ?_
                refine ls_iadd (100 + ((lm_i h 98 x2.toNatClampNeg) &&& 255)) f_178_164 rfl ?_
                refine ls_iast f_178_165 (lm_Lay_si (lm_Lay_si hl _ _ _) _ _ _) S_100 hyp (fun hyp => ?_)
                refine ls_iload_n f_178_166 rfl ?_
                refine ls_istore [some (.ref 92), some (.int x1), some (.int x2), some (.int (lm_i h 98 x2.toNatClampNeg)), some (.int (x2 + 1)), some (.int x2)] f_178_167 (Nat.le_of_ble_eq_true rfl) rfl ?_
                exact ls_mask [true, true, false, true, true, true] [some (.ref 92), some (.int x1), none, some (.int (lm_i h 98 x2.toNatClampNeg)), some (.int (x2 + 1)), some (.int x2)] rfl hyp
              · refine ls_iload_n f_176_6 rfl ?_
                refine ls_bipush 57 f_176_7 (by decide) ?_
                refine ls_icmp_gt 16 f_176_9 rfl hyp (fun _ hyp => ?_) (fun _ hyp => ?_)
                · refine ls_iconst 0 f_176_16 (by decide) ?_
                  refine ls_zreturn f_176_17 rZ_176 (by decide) ?_
                  show lm_W _ _ _ _ [.int 0, .int (lm_i h 92 15), .ref 100] _ _
                  refine ls_if_eq_T 157 f_178_149 rfl (by decide) ?_
                  refine ls_bipush 100 f_178_157 (by decide) ?_
                  refine ls_iload_n f_178_159 rfl ?_
                  refine ls_sipush 255 f_178_160 (by decide) ?_
                  refine ls_iand ((lm_i h 98 x2.toNatClampNeg) &&& 255) f_178_163 rfl ?_
                  refine ls_iadd (100 + ((lm_i h 98 x2.toNatClampNeg) &&& 255)) f_178_164 rfl ?_
                  refine ls_iast f_178_165 (lm_Lay_si (lm_Lay_si hl _ _ _) _ _ _) S_100 hyp (fun hyp => ?_)
                  refine ls_iload_n f_178_166 rfl ?_
                  refine ls_istore [some (.ref 92), some (.int x1), some (.int x2), some (.int (lm_i h 98 x2.toNatClampNeg)), some (.int (x2 + 1)), some (.int x2)] f_178_167 (Nat.le_of_ble_eq_true rfl) rfl ?_
                  exact ls_mask [true, true, false, true, true, true] [some (.ref 92), some (.int x1), none, some (.int (lm_i h 98 x2.toNatClampNeg)), some (.int (x2 + 1)), some (.int x2)] rfl hyp
                · refine ls_iconst 1 f_176_12 (by decide) ?_
                  refine ls_goto 17 f_176_13 rfl ?_
                  refine ls_zreturn f_176_17 rZ_176 (by decide) ?_
                  show lm_W _ _ _ _ [.int 1, .int (lm_i h 92 15), .ref 100] _ _
                  refine ls_if_eq_F 157 f_178_149 rfl (by decide) ?_
                  refine ls_bipush 50 f_178_152 (by decide) ?_
                  refine ls_goto 165 f_178_154 rfl ?_
                  refine ls_iast f_178_165 (lm_Lay_si (lm_Lay_si hl _ _ _) _ _ _) S_100 hyp (fun hyp => ?_)
                  refine ls_iload_n f_178_166 rfl ?_
                  refine ls_istore [some (.ref 92), some (.int x1), some (.int x2), some (.int (lm_i h 98 x2.toNatClampNeg)), some (.int (x2 + 1)), some (.int x2)] f_178_167 (Nat.le_of_ble_eq_true rfl) rfl ?_
                  exact ls_mask [true, true, false, true, true, true] [some (.ref 92), some (.int x1), none, some (.int (lm_i h 98 x2.toNatClampNeg)), some (.int (x2 + 1)), some (.int x2)] rfl hyp
            · refine ls_iconst 1 f_175_12 (by decide) ?_
              refine ls_goto 17 f_175_13 rfl ?_
              refine ls_zreturn f_175_17 rZ_175 (by decide) ?_
              show lm_W _ _ _ _ [.int 1, .int (lm_i h 92 15), .ref 100] _ _
              refine ls_if_eq_F 145 f_178_132 rfl (by decide) ?_
              refine ls_aload_n f_178_135 rfl ?_
              refine ls_iload_n f_178_136 rfl ?_
              refine ls_iload f_178_137 rfl ?_
              refine ls_invV (a := 92) f_178_139 q_178_154 [.int x2, .int (x2 + 1)] [.int (lm_i h 92 15), .ref 100] rfl (Nat.le_of_ble_eq_true rfl) (lm_Lay_si (lm_Lay_si hl _ _ _) _ _ _) S_92 ow_177 ?_
              refine ls_call hyp (lm_Lay_si (lm_Lay_si hl _ _ _) _ _ _) (fun _ h1 hl1 hyp => ?_)
              refine ls_retI hyp (fun r2 hyp => ?_)
              refine ls_goto 165 f_178_142 rfl ?_
              refine ls_iast f_178_165 hl1 S_100 hyp (fun hyp => ?_)
              refine ls_iload_n f_178_166 rfl ?_
              refine ls_istore [some (.ref 92), some (.int x1), some (.int x2), some (.int (lm_i h 98 x2.toNatClampNeg)), some (.int (x2 + 1)), some (.int x2)] f_178_167 (Nat.le_of_ble_eq_true rfl) rfl ?_
              exact ls_mask [true, true, false, true, true, true] [some (.ref 92), some (.int x1), none, some (.int (lm_i h 98 x2.toNatClampNeg)), some (.int (x2 + 1)), some (.int x2)] rfl hyp
        · refine ls_iload_n f_176_6 rfl ?_
          refine ls_bipush 57 f_176_7 (by decide) ?_
          refine ls_icmp_gt 16 f_176_9 rfl hyp (fun _ hyp => ?_) (fun _ hyp => ?_)
          · refine ls_iconst 0 f_176_16 (by decide) ?_
            refine ls_zreturn f_176_17 rZ_176 (by decide) ?_
            show lm_W _ _ _ _ [.int 0] _ _
            refine ls_if_eq_T 100 f_178_72 rfl (by decide) ?_
            refine ls_aload_n f_178_100 rfl ?_
            refine ls_getR f_178_101 p_178_54 hl S_92 F_92_14 ?_
            refine ls_aload_n f_178_104 rfl ?_
            refine ls_getI f_178_105 p_178_145 hl S_92 ?_
            refine ls_iload_n f_178_108 rfl ?_
            refine ls_iast f_178_109 hl S_102 hyp (fun hyp => ?_)
            refine ls_aload_n f_178_110 rfl ?_
            refine ls_getR f_178_111 p_178_51 (lm_Lay_si hl _ _ _) S_92 F_92_13 ?_
            refine ls_aload_n f_178_114 rfl ?_
            refine ls_getI f_178_115 p_178_145 (lm_Lay_si hl _ _ _) S_92 ?_
            refine ls_top (lm_i h 92 15) rfl ?_
            refine ls_iconst 0 f_178_118 (by decide) ?_
            refine ls_iast f_178_119 (lm_Lay_si hl _ _ _) S_101 hyp (fun hyp => ?_)
            refine ls_aload_n f_178_120 rfl ?_
            refine ls_getR f_178_121 p_178_48 (lm_Lay_si (lm_Lay_si hl _ _ _) _ _ _) S_92 F_92_12 ?_
            refine ls_aload_n f_178_124 rfl ?_
            refine ls_getI f_178_125 p_178_145 (lm_Lay_si (lm_Lay_si hl _ _ _) _ _ _) S_92 ?_
            refine ls_top (lm_i h 92 15) rfl ?_
            refine ls_iload_n f_178_128 rfl ?_
            refine ls_invS f_178_129 q_178_148 [.int (lm_i h 98 x2.toNatClampNeg)] [.int (lm_i h 92 15), .ref 100] rfl (Nat.le_of_ble_eq_true rfl) ?_
            refine ls_enter [some (.int (lm_i h 98 x2.toNatClampNeg))] ml_175 (Nat.le_of_ble_eq_true rfl) rfl ?_
            refine ls_iload_n f_175_0 rfl ?_
            refine ls_bipush 97 f_175_1 (by decide) ?_
            refine ls_icmp_lt 16 f_175_3 rfl hyp (fun _ hyp => ?_) (fun _ hyp => ?_)
            · refine ls_iconst 0 f_175_16 (by decide) ?_
              refine ls_zreturn f_175_17 rZ_175 (by decide) ?_
              show lm_W _ _ _ _ [.int 0, .int (lm_i h 92 15), .ref 100] _ _
              refine ls_if_eq_T 145 f_178_132 rfl (by decide) ?_
              refine ls_iload_n f_178_145 rfl ?_
              refine ls_invS f_178_146 q_178_151 [.int (lm_i h 98 x2.toNatClampNeg)] [.int (lm_i h 92 15), .ref 100] rfl (Nat.le_of_ble_eq_true rfl) ?_
              refine ls_enter [some (.int (lm_i h 98 x2.toNatClampNeg))] ml_176 (Nat.le_of_ble_eq_true rfl) rfl ?_
              refine ls_iload_n f_176_0 rfl ?_
              refine ls_bipush 48 f_176_1 (by decide) ?_
              refine ls_icmp_lt 16 f_176_3 rfl hyp (fun _ hyp => ?_) (fun _ hyp => ?_)
              · refine ls_iconst 0 f_176_16 (by decide) ?_
                refine ls_zreturn f_176_17 rZ_176 (by decide) ?_
                show lm_W _ _ _ _ [.int 0, .int (lm_i h 92 15), .ref 100] _ _
                refine ls_if_eq_T 157 f_178_149 rfl (by decide) ?_
                refine ls_bipush 100 f_178_157 (by decide) ?_
                refine ls_iload_n f_178_159 rfl ?_
                refine ls_sipush 255 f_178_160 (by decide) ?_
                refine ls_iand ((lm_i h 98 x2.toNatClampNeg) &&& 255) f_178_163 rfl ?_
                refine ls_iadd (100 + ((lm_i h 98 x2.toNatClampNeg) &&& 255)) f_178_164 rfl ?_
                refine ls_iast f_178_165 (lm_Lay_si (lm_Lay_si hl _ _ _) _ _ _) S_100 hyp (fun hyp => ?_)
                refine ls_iload_n f_178_166 rfl ?_
                refine ls_istore [some (.ref 92), some (.int x1), some (.int x2), some (.int (lm_i h 98 x2.toNatClampNeg)), some (.int (x2 + 1)), some (.int x2)] f_178_167 (Nat.le_of_ble_eq_true rfl) rfl ?_
                exact ls_mask [true, true, false, true, true, true] [some (.ref 92), some (.int x1), none, some (.int (lm_i h 98 x2.toNatClampNeg)), some (.int (x2 + 1)), some (.int x2)] rfl hyp
              · refine ls_iload_n f_176_6 rfl ?_
                refine ls_bipush 57 f_176_7 (by decide) ?_
                refine ls_icmp_gt 16 f_176_9 rfl hyp (fun _ hyp => ?_) (fun _ hyp => ?_)
                · refine ls_iconst 0 f_176_16 (by decide) ?_
                  refine ls_zreturn f_176_17 rZ_176 (by decide) ?_
                  show lm_W _ _ _ _ [.int 0, .int (lm_i h 92 15), .ref 100] _ _
                  refine ls_if_eq_T 157 f_178_149 rfl (by decide) ?_
                  refine ls_bipush 100 f_178_157 (by decide) ?_
                  refine ls_iload_n f_178_159 rfl ?_
                  refine ls_sipush 255 f_178_160 (by decide) ?_
                  refine ls_iand ((lm_i h 98 x2.toNatClampNeg) &&& 255) f_178_163 rfl ?_
                  refine ls_iadd (100 + ((lm_i h 98 x2.toNatClampNeg) &&& 255)) f_178_164 rfl ?_
                  refine ls_iast f_178_165 (lm_Lay_si (lm_Lay_si hl _ _ _) _ _ _) S_100 hyp (fun hyp => ?_)
                  refine ls_iload_n f_178_166 rfl ?_
                  refine ls_istore [some (.ref 92), some (.int x1), some (.int x2), some (.int (lm_i h 98 x2.toNatClampNeg)), some (.int (x2 + 1)), some (.int x2)] f_178_167 (Nat.le_of_ble_eq_true rfl) rfl ?_
                  exact ls_mask [true, true, false, true, true, true] [some (.ref 92), some (.int x1), none, some (.int (lm_i h 98 x2.toNatClampNeg)), some (.int (x2 + 1)), some (.int x2)] rfl hyp
                · refine ls_iconst 1 f_176_12 (by decide) ?_
                  refine ls_goto 17 f_176_13 rfl ?_
                  refine ls_zreturn f_176_17 rZ_176 (by decide) ?_
                  show lm_W _ _ _ _ [.int 1, .int (lm_i h 92 15), .ref 100] _ _
                  refine ls_if_eq_F 157 f_178_149 rfl (by decide) ?_
                  refine ls_bipush 50 f_178_152 (by decide) ?_
                  refine ls_goto 165 f_178_154 rfl ?_
                  refine ls_iast f_178_165 (lm_Lay_si (lm_Lay_si hl _ _ _) _ _ _) S_100 hyp (fun hyp => ?_)
                  refine ls_iload_n f_178_166 rfl ?_
                  refine ls_istore [some (.ref 92), some (.int x1), some (.int x2), some (.int (lm_i h 98 x2.toNatClampNeg)), some (.int (x2 + 1)), some (.int x2)] f_178_167 (Nat.le_of_ble_eq_true rfl) rfl ?_
                  exact ls_mask [true, true, false, true, true, true] [some (.ref 92), some (.int x1), none, some (.int (lm_i h 98 x2.toNatClampNeg)), some (.int (x2 + 1)), some (.int x2)] rfl hyp
            · refine ls_iload_n f_175_6 rfl ?_
              refine ls_bipush 122 f_175_7 (by decide) ?_
              refine ls_icmp_gt 16 f_175_9 rfl hyp (fun _ hyp => ?_) (fun _ hyp => ?_)
              · refine ls_iconst 0 f_175_16 (by decide) ?_
                refine ls_zreturn f_175_17 rZ_175 (by decide) ?_
                show lm_W _ _ _ _ [.int 0, .int (lm_i h 92 15), .ref 100] _ _
                refine ls_if_eq_T 145 f_178_132 rfl (by decide) ?_
                refine ls_iload_n f_178_145 rfl ?_
                refine ls_invS f_178_146 q_178_151 [.int (lm_i h 98 x2.toNatClampNeg)] [.int (lm_i h 92 15), .ref 100] rfl (Nat.le_of_ble_eq_true rfl) ?_
                refine ls_enter [some (.int (lm_i h 98 x2.toNatClampNeg))] ml_176 (Nat.le_of_ble_eq_true rfl) rfl ?_
                refine ls_iload_n f_176_0 rfl ?_
                refine ls_bipush 48 f_176_1 (by decide) ?_
                refine ls_icmp_lt 16 f_176_3 rfl hyp (fun _ hyp => ?_) (fun _ hyp => ?_)
                · refine ls_iconst 0 f_176_16 (by decide) ?_
                  refine ls_zreturn f_176_17 rZ_176 (by decide) ?_
                  show lm_W _ _ _ _ [.int 0, .int (lm_i h 92 15), .ref 100] _ _
                  refine ls_if_eq_T 157 f_178_149 rfl (by decide) ?_
                  refine ls_bipush 100 f_178_157 (by decide) ?_
                  refine ls_iload_n f_178_159 rfl ?_
                  refine ls_sipush 255 f_178_160 (by decide) ?_
                  refine ls_iand ((lm_i h 98 x2.toNatClampNeg) &&& 255) f_178_163 rfl ?_
                  refine ls_iadd (100 + ((lm_i h 98 x2.toNatClampNeg) &&& 255)) f_178_164 rfl ?_
                  refine ls_iast f_178_165 (lm_Lay_si (lm_Lay_si hl _ _ _) _ _ _) S_100 hyp (fun hyp => ?_)
                  refine ls_iload_n f_178_166 rfl ?_
                  refine ls_istore [some (.ref 92), some (.int x1), some (.int x2), some (.int (lm_i h 98 x2.toNatClampNeg)), some (.int (x2 + 1)), some (.int x2)] f_178_167 (Nat.le_of_ble_eq_true rfl) rfl ?_
                  exact ls_mask [true, true, false, true, true, true] [some (.ref 92), some (.int x1), none, some (.int (lm_i h 98 x2.toNatClampNeg)), some (.int (x2 + 1)), some (.int x2)] rfl hyp
                · refine ls_iload_n f_176_6 rfl ?_
                  refine ls_bipush 57 f_176_7 (by decide) ?_
                  refine ls_icmp_gt 16 f_176_9 rfl hyp (fun _ hyp => ?_) (fun _ hyp => ?_)
                  · refine ls_iconst 0 f_176_16 (by decide) ?_
                    refine ls_zreturn f_176_17 rZ_176 (by decide) ?_
                    show lm_W _ _ _ _ [.int 0, .int (lm_i h 92 15), .ref 100] _ _
                    refine ls_if_eq_T 157 f_178_149 rfl (by decide) ?_
                    refine ls_bipush 100 f_178_157 (by decide) ?_
                    refine ls_iload_n f_178_159 rfl ?_
                    refine ls_sipush 255 f_178_160 (by decide) ?_
                    refine ls_iand ((lm_i h 98 x2.toNatClampNeg) &&& 255) f_178_163 rfl ?_
                    refine ls_iadd (100 + ((lm_i h 98 x2.toNatClampNeg) &&& 255)) f_178_164 rfl ?_
                    refine ls_iast f_178_165 (lm_Lay_si (lm_Lay_si hl _ _ _) _ _ _) S_100 hyp (fun hyp => ?_)
                    refine ls_iload_n f_178_166 rfl ?_
                    refine ls_istore [some (.ref 92), some (.int x1), some (.int x2), some (.int (lm_i h 98 x2.toNatClampNeg)), some (.int (x2 + 1)), some (.int x2)] f_178_167 (Nat.le_of_ble_eq_true rfl) rfl ?_
                    exact ls_mask [true, true, false, true, true, true] [some (.ref 92), some (.int x1), none, some (.int (lm_i h 98 x2.toNatClampNeg)), some (.int (x2 + 1)), some (.int x2)] rfl hyp
                  · refine ls_iconst 1 f_176_12 (by decide) ?_
                    refine ls_goto 17 f_176_13 rfl ?_
                    refine ls_zreturn f_176_17 rZ_176 (by decide) ?_
                    show lm_W _ _ _ _ [.int 1, .int (lm_i h 92 15), .ref 100] _ _
                    refine ls_if_eq_F 157 f_178_149 rfl (by decide) ?_
                    refine ls_bipush 50 f_178_152 (by decide) ?_
                    refine ls_goto 165 f_178_154 rfl ?_
                    refine ls_iast f_178_165 (lm_Lay_si (lm_Lay_si hl _ _ _) _ _ _) S_100 hyp (fun hyp => ?_)
                    refine ls_iload_n f_178_166 rfl ?_
                    refine ls_istore [some (.ref 92), some (.int x1), some (.int x2), some (.int (lm_i h 98 x2.toNatClampNeg)), some (.int (x2 + 1)), some (.int x2)] f_178_167 (Nat.le_of_ble_eq_true rfl) rfl ?_
                    exact ls_mask [true, true, false, true, true, true] [some (.ref 92), some (.int x1), none, some (.int (lm_i h 98 x2.toNatClampNeg)), some (.int (x2 + 1)), some (.int x2)] rfl hyp
              · refine ls_iconst 1 f_175_12 (by decide) ?_
                refine ls_goto 17 f_175_13 rfl ?_
                refine ls_zreturn f_175_17 rZ_175 (by decide) ?_
                show lm_W _ _ _ _ [.int 1, .int (lm_i h 92 15), .ref 100] _ _
                refine ls_if_eq_F 145 f_178_132 rfl (by decide) ?_
                refine ls_aload_n f_178_135 rfl ?_
                refine ls_iload_n f_178_136 rfl ?_
                refine ls_iload f_178_137 rfl ?_
                refine ls_invV (a := 92) f_178_139 q_178_154 [.int x2, .int (x2 + 1)] [.int (lm_i h 92 15), .ref 100] rfl (Nat.le_of_ble_eq_true rfl) (lm_Lay_si (lm_Lay_si hl _ _ _) _ _ _) S_92 ow_177 ?_
                refine ls_call hyp (lm_Lay_si (lm_Lay_si hl _ _ _) _ _ _) (fun _ h3 hl3 hyp => ?_)
                refine ls_retI hyp (fun r4 hyp => ?_)
                refine ls_goto 165 f_178_142 rfl ?_
                refine ls_iast f_178_165 hl3 S_100 hyp (fun hyp => ?_)
                refine ls_iload_n f_178_166 rfl ?_
                refine ls_istore [some (.ref 92), some (.int x1), some (.int x2), some (.int (lm_i h 98 x2.toNatClampNeg)), some (.int (x2 + 1)), some (.int x2)] f_178_167 (Nat.le_of_ble_eq_true rfl) rfl ?_
                exact ls_mask [true, true, false, true, true, true] [some (.ref 92), some (.int x1), none, some (.int (lm_i h 98 x2.toNatClampNeg)), some (.int (x2 + 1)), some (.int x2)] rfl hyp
          · refine ls_iconst 1 f_176_12 (by decide) ?_
            refine ls_goto 17 f_176_13 rfl ?_
            refine ls_zreturn f_176_17 rZ_176 (by decide) ?_
            show lm_W _ _ _ _ [.int 1] _ _
            refine ls_if_eq_F 100 f_178_72 rfl (by decide) ?_
            exact hyp
      · refine ls_iload_n f_175_6 rfl ?_
        refine ls_bipush 122 f_175_7 (by decide) ?_
        refine ls_icmp_gt 16 f_175_9 rfl hyp (fun _ hyp => ?_) (fun _ hyp => ?_)
        · refine ls_iconst 0 f_175_16 (by decide) ?_
          refine ls_zreturn f_175_17 rZ_175 (by decide) ?_
          show lm_W _ _ _ _ [.int 0] _ _
          refine ls_if_eq_T 68 f_178_40 rfl (by decide) ?_
          refine ls_iload_n f_178_68 rfl ?_
          refine ls_invS f_178_69 q_178_151 [.int (lm_i h 98 x2.toNatClampNeg)] [] rfl (Nat.le_of_ble_eq_true rfl) ?_
          refine ls_enter [some (.int (lm_i h 98 x2.toNatClampNeg))] ml_176 (Nat.le_of_ble_eq_true rfl) rfl ?_
          refine ls_iload_n f_176_0 rfl ?_
          refine ls_bipush 48 f_176_1 (by decide) ?_
          refine ls_icmp_lt 16 f_176_3 rfl hyp (fun _ hyp => ?_) (fun _ hyp => ?_)
          · refine ls_iconst 0 f_176_16 (by decide) ?_
            refine ls_zreturn f_176_17 rZ_176 (by decide) ?_
            show lm_W _ _ _ _ [.int 0] _ _
            refine ls_if_eq_T 100 f_178_72 rfl (by decide) ?_
            refine ls_aload_n f_178_100 rfl ?_
            refine ls_getR f_178_101 p_178_54 hl S_92 F_92_14 ?_
            refine ls_aload_n f_178_104 rfl ?_
            refine ls_getI f_178_105 p_178_145 hl S_92 ?_
            refine ls_iload_n f_178_108 rfl ?_
            refine ls_iast f_178_109 hl S_102 hyp (fun hyp => ?_)
            refine ls_aload_n f_178_110 rfl ?_
            refine ls_getR f_178_111 p_178_51 (lm_Lay_si hl _ _ _) S_92 F_92_13 ?_
            refine ls_aload_n f_178_114 rfl ?_
            refine ls_getI f_178_115 p_178_145 (lm_Lay_si hl _ _ _) S_92 ?_
            refine ls_top (lm_i h 92 15) rfl ?_
            refine ls_iconst 0 f_178_118 (by decide) ?_
            refine ls_iast f_178_119 (lm_Lay_si hl _ _ _) S_101 hyp (fun hyp => ?_)
            refine ls_aload_n f_178_120 rfl ?_
            refine ls_getR f_178_121 p_178_48 (lm_Lay_si (lm_Lay_si hl _ _ _) _ _ _) S_92 F_92_12 ?_
            refine ls_aload_n f_178_124 rfl ?_
            refine ls_getI f_178_125 p_178_145 (lm_Lay_si (lm_Lay_si hl _ _ _) _ _ _) S_92 ?_
            refine ls_top (lm_i h 92 15) rfl ?_
            refine ls_iload_n f_178_128 rfl ?_
            refine ls_invS f_178_129 q_178_148 [.int (lm_i h 98 x2.toNatClampNeg)] [.int (lm_i h 92 15), .ref 100] rfl (Nat.le_of_ble_eq_true rfl) ?_
            refine ls_enter [some (.int (lm_i h 98 x2.toNatClampNeg))] ml_175 (Nat.le_of_ble_eq_true rfl) rfl ?_
            refine ls_iload_n f_175_0 rfl ?_
            refine ls_bipush 97 f_175_1 (by decide) ?_
            refine ls_icmp_lt 16 f_175_3 rfl hyp (fun _ hyp => ?_) (fun _ hyp => ?_)
            · refine ls_iconst 0 f_175_16 (by decide) ?_
              refine ls_zreturn f_175_17 rZ_175 (by decide) ?_
              show lm_W _ _ _ _ [.int 0, .int (lm_i h 92 15), .ref 100] _ _
              refine ls_if_eq_T 145 f_178_132 rfl (by decide) ?_
              refine ls_iload_n f_178_145 rfl ?_
              refine ls_invS f_178_146 q_178_151 [.int (lm_i h 98 x2.toNatClampNeg)] [.int (lm_i h 92 15), .ref 100] rfl (Nat.le_of_ble_eq_true rfl) ?_
              refine ls_enter [some (.int (lm_i h 98 x2.toNatClampNeg))] ml_176 (Nat.le_of_ble_eq_true rfl) rfl ?_
              refine ls_iload_n f_176_0 rfl ?_
              refine ls_bipush 48 f_176_1 (by decide) ?_
              refine ls_icmp_lt 16 f_176_3 rfl hyp (fun _ hyp => ?_) (fun _ hyp => ?_)
              · refine ls_iconst 0 f_176_16 (by decide) ?_
                refine ls_zreturn f_176_17 rZ_176 (by decide) ?_
                show lm_W _ _ _ _ [.int 0, .int (lm_i h 92 15), .ref 100] _ _
                refine ls_if_eq_T 157 f_178_149 rfl (by decide) ?_
                refine ls_bipush 100 f_178_157 (by decide) ?_
                refine ls_iload_n f_178_159 rfl ?_
                refine ls_sipush 255 f_178_160 (by decide) ?_
                refine ls_iand ((lm_i h 98 x2.toNatClampNeg) &&& 255) f_178_163 rfl ?_
                refine ls_iadd (100 + ((lm_i h 98 x2.toNatClampNeg) &&& 255)) f_178_164 rfl ?_
                refine ls_iast f_178_165 (lm_Lay_si (lm_Lay_si hl _ _ _) _ _ _) S_100 hyp (fun hyp => ?_)
                refine ls_iload_n f_178_166 rfl ?_
                refine ls_istore [some (.ref 92), some (.int x1), some (.int x2), some (.int (lm_i h 98 x2.toNatClampNeg)), some (.int (x2 + 1)), some (.int x2)] f_178_167 (Nat.le_of_ble_eq_true rfl) rfl ?_
                exact ls_mask [true, true, false, true, true, true] [some (.ref 92), some (.int x1), none, some (.int (lm_i h 98 x2.toNatClampNeg)), some (.int (x2 + 1)), some (.int x2)] rfl hyp
              · refine ls_iload_n f_176_6 rfl ?_
                refine ls_bipush 57 f_176_7 (by decide) ?_
                refine ls_icmp_gt 16 f_176_9 rfl hyp (fun _ hyp => ?_) (fun _ hyp => ?_)
                · refine ls_iconst 0 f_176_16 (by decide) ?_
                  refine ls_zreturn f_176_17 rZ_176 (by decide) ?_
                  show lm_W _ _ _ _ [.int 0, .int (lm_i h 92 15), .ref 100] _ _
                  refine ls_if_eq_T 157 f_178_149 rfl (by decide) ?_
                  refine ls_bipush 100 f_178_157 (by decide) ?_
                  refine ls_iload_n f_178_159 rfl ?_
                  refine ls_sipush 255 f_178_160 (by decide) ?_
                  refine ls_iand ((lm_i h 98 x2.toNatClampNeg) &&& 255) f_178_163 rfl ?_
                  refine ls_iadd (100 + ((lm_i h 98 x2.toNatClampNeg) &&& 255)) f_178_164 rfl ?_
                  refine ls_iast f_178_165 (lm_Lay_si (lm_Lay_si hl _ _ _) _ _ _) S_100 hyp (fun hyp => ?_)
                  refine ls_iload_n f_178_166 rfl ?_
                  refine ls_istore [some (.ref 92), some (.int x1), some (.int x2), some (.int (lm_i h 98 x2.toNatClampNeg)), some (.int (x2 + 1)), some (.int x2)] f_178_167 (Nat.le_of_ble_eq_true rfl) rfl ?_
                  exact ls_mask [true, true, false, true, true, true] [some (.ref 92), some (.int x1), none, some (.int (lm_i h 98 x2.toNatClampNeg)), some (.int (x2 + 1)), some (.int x2)] rfl hyp
                · refine ls_iconst 1 f_176_12 (by decide) ?_
                  refine ls_goto 17 f_176_13 rfl ?_
                  refine ls_zreturn f_176_17 rZ_176 (by decide) ?_
                  show lm_W _ _ _ _ [.int 1, .int (lm_i h 92 15), .ref 100] _ _
                  refine ls_if_eq_F 157 f_178_149 rfl (by decide) ?_
                  refine ls_bipush 50 f_178_152 (by decide) ?_
                  refine ls_goto 165 f_178_154 rfl ?_
                  refine ls_iast f_178_165 (lm_Lay_si (lm_Lay_si hl _ _ _) _ _ _) S_100 hyp (fun hyp => ?_)
                  refine ls_iload_n f_178_166 rfl ?_
                  refine ls_istore [some (.ref 92), some (.int x1), some (.int x2), some (.int (lm_i h 98 x2.toNatClampNeg)), some (.int (x2 + 1)), some (.int x2)] f_178_167 (Nat.le_of_ble_eq_true rfl) rfl ?_
                  exact ls_mask [true, true, false, true, true, true] [some (.ref 92), some (.int x1), none, some (.int (lm_i h 98 x2.toNatClampNeg)), some (.int (x2 + 1)), some (.int x2)] rfl hyp
            · refine ls_iload_n f_175_6 rfl ?_
              refine ls_bipush 122 f_175_7 (by decide) ?_
              refine ls_icmp_gt 16 f_175_9 rfl hyp (fun _ hyp => ?_) (fun _ hyp => ?_)
              · refine ls_iconst 0 f_175_16 (by decide) ?_
                refine ls_zreturn f_175_17 rZ_175 (by decide) ?_
                show lm_W _ _ _ _ [.int 0, .int (lm_i h 92 15), .ref 100] _ _
                refine ls_if_eq_T 145 f_178_132 rfl (by decide) ?_
                refine ls_iload_n f_178_145 rfl ?_
                refine ls_invS f_178_146 q_178_151 [.int (lm_i h 98 x2.toNatClampNeg)] [.int (lm_i h 92 15), .ref 100] rfl (Nat.le_of_ble_eq_true rfl) ?_
                refine ls_enter [some (.int (lm_i h 98 x2.toNatClampNeg))] ml_176 (Nat.le_of_ble_eq_true rfl) rfl ?_
                refine ls_iload_n f_176_0 rfl ?_
                refine ls_bipush 48 f_176_1 (by decide) ?_
                refine ls_icmp_lt 16 f_176_3 rfl hyp (fun _ hyp => ?_) (fun _ hyp => ?_)
                · refine ls_iconst 0 f_176_16 (by decide) ?_
                  refine ls_zreturn f_176_17 rZ_176 (by decide) ?_
                  show lm_W _ _ _ _ [.int 0, .int (lm_i h 92 15), .ref 100] _ _
                  refine ls_if_eq_T 157 f_178_149 rfl (by decide) ?_
                  refine ls_bipush 100 f_178_157 (by decide) ?_
                  refine ls_iload_n f_178_159 rfl ?_
                  refine ls_sipush 255 f_178_160 (by decide) ?_
                  refine ls_iand ((lm_i h 98 x2.toNatClampNeg) &&& 255) f_178_163 rfl ?_
                  refine ls_iadd (100 + ((lm_i h 98 x2.toNatClampNeg) &&& 255)) f_178_164 rfl ?_
                  refine ls_iast f_178_165 (lm_Lay_si (lm_Lay_si hl _ _ _) _ _ _) S_100 hyp (fun hyp => ?_)
                  refine ls_iload_n f_178_166 rfl ?_
                  refine ls_istore [some (.ref 92), some (.int x1), some (.int x2), some (.int (lm_i h 98 x2.toNatClampNeg)), some (.int (x2 + 1)), some (.int x2)] f_178_167 (Nat.le_of_ble_eq_true rfl) rfl ?_
                  exact ls_mask [true, true, false, true, true, true] [some (.ref 92), some (.int x1), none, some (.int (lm_i h 98 x2.toNatClampNeg)), some (.int (x2 + 1)), some (.int x2)] rfl hyp
                · refine ls_iload_n f_176_6 rfl ?_
                  refine ls_bipush 57 f_176_7 (by decide) ?_
                  refine ls_icmp_gt 16 f_176_9 rfl hyp (fun _ hyp => ?_) (fun _ hyp => ?_)
                  · refine ls_iconst 0 f_176_16 (by decide) ?_
                    refine ls_zreturn f_176_17 rZ_176 (by decide) ?_
                    show lm_W _ _ _ _ [.int 0, .int (lm_i h 92 15), .ref 100] _ _
                    refine ls_if_eq_T 157 f_178_149 rfl (by decide) ?_
                    refine ls_bipush 100 f_178_157 (by decide) ?_
                    refine ls_iload_n f_178_159 rfl ?_
                    refine ls_sipush 255 f_178_160 (by decide) ?_
                    refine ls_iand ((lm_i h 98 x2.toNatClampNeg) &&& 255) f_178_163 rfl ?_
                    refine ls_iadd (100 + ((lm_i h 98 x2.toNatClampNeg) &&& 255)) f_178_164 rfl ?_
                    refine ls_iast f_178_165 (lm_Lay_si (lm_Lay_si hl _ _ _) _ _ _) S_100 hyp (fun hyp => ?_)
                    refine ls_iload_n f_178_166 rfl ?_
                    refine ls_istore [some (.ref 92), some (.int x1), some (.int x2), some (.int (lm_i h 98 x2.toNatClampNeg)), some (.int (x2 + 1)), some (.int x2)] f_178_167 (Nat.le_of_ble_eq_true rfl) rfl ?_
                    exact ls_mask [true, true, false, true, true, true] [some (.ref 92), some (.int x1), none, some (.int (lm_i h 98 x2.toNatClampNeg)), some (.int (x2 + 1)), some (.int x2)] rfl hyp
                  · refine ls_iconst 1 f_176_12 (by decide) ?_
                    refine ls_goto 17 f_176_13 rfl ?_
                    refine ls_zreturn f_176_17 rZ_176 (by decide) ?_
                    show lm_W _ _ _ _ [.int 1, .int (lm_i h 92 15), .ref 100] _ _
                    refine ls_if_eq_F 157 f_178_149 rfl (by decide) ?_
                    refine ls_bipush 50 f_178_152 (by decide) ?_
                    refine ls_goto 165 f_178_154 rfl ?_
                    refine ls_iast f_178_165 (lm_Lay_si (lm_Lay_si hl _ _ _) _ _ _) S_100 hyp (fun hyp => ?_)
                    refine ls_iload_n f_178_166 rfl ?_
                    refine ls_istore [some (.ref 92), some (.int x1), some (.int x2), some (.int (lm_i h 98 x2.toNatClampNeg)), some (.int (x2 + 1)), some (.int x2)] f_178_167 (Nat.le_of_ble_eq_true rfl) rfl ?_
                    exact ls_mask [true, true, false, true, true, true] [some (.ref 92), some (.int x1), none, some (.int (lm_i h 98 x2.toNatClampNeg)), some (.int (x2 + 1)), some (.int x2)] rfl hyp
              · refine ls_iconst 1 f_175_12 (by decide) ?_
                refine ls_goto 17 f_175_13 rfl ?_
                refine ls_zreturn f_175_17 rZ_175 (by decide) ?_
                show lm_W _ _ _ _ [.int 1, .int (lm_i h 92 15), .ref 100] _ _
                refine ls_if_eq_F 145 f_178_132 rfl (by decide) ?_
                refine ls_aload_n f_178_135 rfl ?_
                refine ls_iload_n f_178_136 rfl ?_
                refine ls_iload f_178_137 rfl ?_
                refine ls_invV (a := 92) f_178_139 q_178_154 [.int x2, .int (x2 + 1)] [.int (lm_i h 92 15), .ref 100] rfl (Nat.le_of_ble_eq_true rfl) (lm_Lay_si (lm_Lay_si hl _ _ _) _ _ _) S_92 ow_177 ?_
                refine ls_call hyp (lm_Lay_si (lm_Lay_si hl _ _ _) _ _ _) (fun _ h5 hl5 hyp => ?_)
                refine ls_retI hyp (fun r6 hyp => ?_)
                refine ls_goto 165 f_178_142 rfl ?_
                refine ls_iast f_178_165 hl5 S_100 hyp (fun hyp => ?_)
                refine ls_iload_n f_178_166 rfl ?_
                refine ls_istore [some (.ref 92), some (.int x1), some (.int x2), some (.int (lm_i h 98 x2.toNatClampNeg)), some (.int (x2 + 1)), some (.int x2)] f_178_167 (Nat.le_of_ble_eq_true rfl) rfl ?_
                exact ls_mask [true, true, false, true, true, true] [some (.ref 92), some (.int x1), none, some (.int (lm_i h 98 x2.toNatClampNeg)), some (.int (x2 + 1)), some (.int x2)] rfl hyp
          · refine ls_iload_n f_176_6 rfl ?_
            refine ls_bipush 57 f_176_7 (by decide) ?_
            refine ls_icmp_gt 16 f_176_9 rfl hyp (fun _ hyp => ?_) (fun _ hyp => ?_)
            · refine ls_iconst 0 f_176_16 (by decide) ?_
              refine ls_zreturn f_176_17 rZ_176 (by decide) ?_
              show lm_W _ _ _ _ [.int 0] _ _
              refine ls_if_eq_T 100 f_178_72 rfl (by decide) ?_
              refine ls_aload_n f_178_100 rfl ?_
              refine ls_getR f_178_101 p_178_54 hl S_92 F_92_14 ?_
              refine ls_aload_n f_178_104 rfl ?_
              refine ls_getI f_178_105 p_178_145 hl S_92 ?_
              refine ls_iload_n f_178_108 rfl ?_
              refine ls_iast f_178_109 hl S_102 hyp (fun hyp => ?_)
              refine ls_aload_n f_178_110 rfl ?_
              refine ls_getR f_178_111 p_178_51 (lm_Lay_si hl _ _ _) S_92 F_92_13 ?_
              refine ls_aload_n f_178_114 rfl ?_
              refine ls_getI f_178_115 p_178_145 (lm_Lay_si hl _ _ _) S_92 ?_
              refine ls_top (lm_i h 92 15) rfl ?_
              refine ls_iconst 0 f_178_118 (by decide) ?_
              refine ls_iast f_178_119 (lm_Lay_si hl _ _ _) S_101 hyp (fun hyp => ?_)
              refine ls_aload_n f_178_120 rfl ?_
              refine ls_getR f_178_121 p_178_48 (lm_Lay_si (lm_Lay_si hl _ _ _) _ _ _) S_92 F_92_12 ?_
              refine ls_aload_n f_178_124 rfl ?_
              refine ls_getI f_178_125 p_178_145 (lm_Lay_si (lm_Lay_si hl _ _ _) _ _ _) S_92 ?_
              refine ls_top (lm_i h 92 15) rfl ?_
              refine ls_iload_n f_178_128 rfl ?_
              refine ls_invS f_178_129 q_178_148 [.int (lm_i h 98 x2.toNatClampNeg)] [.int (lm_i h 92 15), .ref 100] rfl (Nat.le_of_ble_eq_true rfl) ?_
              refine ls_enter [some (.int (lm_i h 98 x2.toNatClampNeg))] ml_175 (Nat.le_of_ble_eq_true rfl) rfl ?_
              refine ls_iload_n f_175_0 rfl ?_
              refine ls_bipush 97 f_175_1 (by decide) ?_
              refine ls_icmp_lt 16 f_175_3 rfl hyp (fun _ hyp => ?_) (fun _ hyp => ?_)
              · refine ls_iconst 0 f_175_16 (by decide) ?_
                refine ls_zreturn f_175_17 rZ_175 (by decide) ?_
                show lm_W _ _ _ _ [.int 0, .int (lm_i h 92 15), .ref 100] _ _
                refine ls_if_eq_T 145 f_178_132 rfl (by decide) ?_
                refine ls_iload_n f_178_145 rfl ?_
                refine ls_invS f_178_146 q_178_151 [.int (lm_i h 98 x2.toNatClampNeg)] [.int (lm_i h 92 15), .ref 100] rfl (Nat.le_of_ble_eq_true rfl) ?_
                refine ls_enter [some (.int (lm_i h 98 x2.toNatClampNeg))] ml_176 (Nat.le_of_ble_eq_true rfl) rfl ?_
                refine ls_iload_n f_176_0 rfl ?_
                refine ls_bipush 48 f_176_1 (by decide) ?_
                refine ls_icmp_lt 16 f_176_3 rfl hyp (fun _ hyp => ?_) (fun _ hyp => ?_)
                · refine ls_iconst 0 f_176_16 (by decide) ?_
                  refine ls_zreturn f_176_17 rZ_176 (by decide) ?_
                  show lm_W _ _ _ _ [.int 0, .int (lm_i h 92 15), .ref 100] _ _
                  refine ls_if_eq_T 157 f_178_149 rfl (by decide) ?_
                  refine ls_bipush 100 f_178_157 (by decide) ?_
                  refine ls_iload_n f_178_159 rfl ?_
                  refine ls_sipush 255 f_178_160 (by decide) ?_
                  refine ls_iand ((lm_i h 98 x2.toNatClampNeg) &&& 255) f_178_163 rfl ?_
                  refine ls_iadd (100 + ((lm_i h 98 x2.toNatClampNeg) &&& 255)) f_178_164 rfl ?_
                  refine ls_iast f_178_165 (lm_Lay_si (lm_Lay_si hl _ _ _) _ _ _) S_100 hyp (fun hyp => ?_)
                  refine ls_iload_n f_178_166 rfl ?_
                  refine ls_istore [some (.ref 92), some (.int x1), some (.int x2), some (.int (lm_i h 98 x2.toNatClampNeg)), some (.int (x2 + 1)), some (.int x2)] f_178_167 (Nat.le_of_ble_eq_true rfl) rfl ?_
                  exact ls_mask [true, true, false, true, true, true] [some (.ref 92), some (.int x1), none, some (.int (lm_i h 98 x2.toNatClampNeg)), some (.int (x2 + 1)), some (.int x2)] rfl hyp
                · refine ls_iload_n f_176_6 rfl ?_
                  refine ls_bipush 57 f_176_7 (by decide) ?_
                  refine ls_icmp_gt 16 f_176_9 rfl hyp (fun _ hyp => ?_) (fun _ hyp => ?_)
                  · refine ls_iconst 0 f_176_16 (by decide) ?_
                    refine ls_zreturn f_176_17 rZ_176 (by decide) ?_
                    show lm_W _ _ _ _ [.int 0, .int (lm_i h 92 15), .ref 100] _ _
                    refine ls_if_eq_T 157 f_178_149 rfl (by decide) ?_
                    refine ls_bipush 100 f_178_157 (by decide) ?_
                    refine ls_iload_n f_178_159 rfl ?_
                    refine ls_sipush 255 f_178_160 (by decide) ?_
                    refine ls_iand ((lm_i h 98 x2.toNatClampNeg) &&& 255) f_178_163 rfl ?_
                    refine ls_iadd (100 + ((lm_i h 98 x2.toNatClampNeg) &&& 255)) f_178_164 rfl ?_
                    refine ls_iast f_178_165 (lm_Lay_si (lm_Lay_si hl _ _ _) _ _ _) S_100 hyp (fun hyp => ?_)
                    refine ls_iload_n f_178_166 rfl ?_
                    refine ls_istore [some (.ref 92), some (.int x1), some (.int x2), some (.int (lm_i h 98 x2.toNatClampNeg)), some (.int (x2 + 1)), some (.int x2)] f_178_167 (Nat.le_of_ble_eq_true rfl) rfl ?_
                    exact ls_mask [true, true, false, true, true, true] [some (.ref 92), some (.int x1), none, some (.int (lm_i h 98 x2.toNatClampNeg)), some (.int (x2 + 1)), some (.int x2)] rfl hyp
                  · refine ls_iconst 1 f_176_12 (by decide) ?_
                    refine ls_goto 17 f_176_13 rfl ?_
                    refine ls_zreturn f_176_17 rZ_176 (by decide) ?_
                    show lm_W _ _ _ _ [.int 1, .int (lm_i h 92 15), .ref 100] _ _
                    refine ls_if_eq_F 157 f_178_149 rfl (by decide) ?_
                    refine ls_bipush 50 f_178_152 (by decide) ?_
                    refine ls_goto 165 f_178_154 rfl ?_
                    refine ls_iast f_178_165 (lm_Lay_si (lm_Lay_si hl _ _ _) _ _ _) S_100 hyp (fun hyp => ?_)
                    refine ls_iload_n f_178_166 rfl ?_
                    refine ls_istore [some (.ref 92), some (.int x1), some (.int x2), some (.int (lm_i h 98 x2.toNatClampNeg)), some (.int (x2 + 1)), some (.int x2)] f_178_167 (Nat.le_of_ble_eq_true rfl) rfl ?_
                    exact ls_mask [true, true, false, true, true, true] [some (.ref 92), some (.int x1), none, some (.int (lm_i h 98 x2.toNatClampNeg)), some (.int (x2 + 1)), some (.int x2)] rfl hyp
              · refine ls_iload_n f_175_6 rfl ?_
                refine ls_bipush 122 f_175_7 (by decide) ?_
                refine ls_icmp_gt 16 f_175_9 rfl hyp (fun _ hyp => ?_) (fun _ hyp => ?_)
                · refine ls_iconst 0 f_175_16 (by decide) ?_
                  refine ls_zreturn f_175_17 rZ_175 (by decide) ?_
                  show lm_W _ _ _ _ [.int 0, .int (lm_i h 92 15), .ref 100] _ _
                  refine ls_if_eq_T 145 f_178_132 rfl (by decide) ?_
                  refine ls_iload_n f_178_145 rfl ?_
                  refine ls_invS f_178_146 q_178_151 [.int (lm_i h 98 x2.toNatClampNeg)] [.int (lm_i h 92 15), .ref 100] rfl (Nat.le_of_ble_eq_true rfl) ?_
                  refine ls_enter [some (.int (lm_i h 98 x2.toNatClampNeg))] ml_176 (Nat.le_of_ble_eq_true rfl) rfl ?_
                  refine ls_iload_n f_176_0 rfl ?_
                  refine ls_bipush 48 f_176_1 (by decide) ?_
                  refine ls_icmp_lt 16 f_176_3 rfl hyp (fun _ hyp => ?_) (fun _ hyp => ?_)
                  · refine ls_iconst 0 f_176_16 (by decide) ?_
                    refine ls_zreturn f_176_17 rZ_176 (by decide) ?_
                    show lm_W _ _ _ _ [.int 0, .int (lm_i h 92 15), .ref 100] _ _
                    refine ls_if_eq_T 157 f_178_149 rfl (by decide) ?_
                    refine ls_bipush 100 f_178_157 (by decide) ?_
                    refine ls_iload_n f_178_159 rfl ?_
                    refine ls_sipush 255 f_178_160 (by decide) ?_
                    refine ls_iand ((lm_i h 98 x2.toNatClampNeg) &&& 255) f_178_163 rfl ?_
                    refine ls_iadd (100 + ((lm_i h 98 x2.toNatClampNeg) &&& 255)) f_178_164 rfl ?_
                    refine ls_iast f_178_165 (lm_Lay_si (lm_Lay_si hl _ _ _) _ _ _) S_100 hyp (fun hyp => ?_)
                    refine ls_iload_n f_178_166 rfl ?_
                    refine ls_istore [some (.ref 92), some (.int x1), some (.int x2), some (.int (lm_i h 98 x2.toNatClampNeg)), some (.int (x2 + 1)), some (.int x2)] f_178_167 (Nat.le_of_ble_eq_true rfl) rfl ?_
                    exact ls_mask [true, true, false, true, true, true] [some (.ref 92), some (.int x1), none, some (.int (lm_i h 98 x2.toNatClampNeg)), some (.int (x2 + 1)), some (.int x2)] rfl hyp
                  · refine ls_iload_n f_176_6 rfl ?_
                    refine ls_bipush 57 f_176_7 (by decide) ?_
                    refine ls_icmp_gt 16 f_176_9 rfl hyp (fun _ hyp => ?_) (fun _ hyp => ?_)
                    · refine ls_iconst 0 f_176_16 (by decide) ?_
                      refine ls_zreturn f_176_17 rZ_176 (by decide) ?_
                      show lm_W _ _ _ _ [.int 0, .int (lm_i h 92 15), .ref 100] _ _
                      refine ls_if_eq_T 157 f_178_149 rfl (by decide) ?_
                      refine ls_bipush 100 f_178_157 (by decide) ?_
                      refine ls_iload_n f_178_159 rfl ?_
                      refine ls_sipush 255 f_178_160 (by decide) ?_
                      refine ls_iand ((lm_i h 98 x2.toNatClampNeg) &&& 255) f_178_163 rfl ?_
                      refine ls_iadd (100 + ((lm_i h 98 x2.toNatClampNeg) &&& 255)) f_178_164 rfl ?_
                      refine ls_iast f_178_165 (lm_Lay_si (lm_Lay_si hl _ _ _) _ _ _) S_100 hyp (fun hyp => ?_)
                      refine ls_iload_n f_178_166 rfl ?_
                      refine ls_istore [some (.ref 92), some (.int x1), some (.int x2), some (.int (lm_i h 98 x2.toNatClampNeg)), some (.int (x2 + 1)), some (.int x2)] f_178_167 (Nat.le_of_ble_eq_true rfl) rfl ?_
                      exact ls_mask [true, true, false, true, true, true] [some (.ref 92), some (.int x1), none, some (.int (lm_i h 98 x2.toNatClampNeg)), some (.int (x2 + 1)), some (.int x2)] rfl hyp
                    · refine ls_iconst 1 f_176_12 (by decide) ?_
                      refine ls_goto 17 f_176_13 rfl ?_
                      refine ls_zreturn f_176_17 rZ_176 (by decide) ?_
                      show lm_W _ _ _ _ [.int 1, .int (lm_i h 92 15), .ref 100] _ _
                      refine ls_if_eq_F 157 f_178_149 rfl (by decide) ?_
                      refine ls_bipush 50 f_178_152 (by decide) ?_
                      refine ls_goto 165 f_178_154 rfl ?_
                      refine ls_iast f_178_165 (lm_Lay_si (lm_Lay_si hl _ _ _) _ _ _) S_100 hyp (fun hyp => ?_)
                      refine ls_iload_n f_178_166 rfl ?_
                      refine ls_istore [some (.ref 92), some (.int x1), some (.int x2), some (.int (lm_i h 98 x2.toNatClampNeg)), some (.int (x2 + 1)), some (.int x2)] f_178_167 (Nat.le_of_ble_eq_true rfl) rfl ?_
                      exact ls_mask [true, true, false, true, true, true] [some (.ref 92), some (.int x1), none, some (.int (lm_i h 98 x2.toNatClampNeg)), some (.int (x2 + 1)), some (.int x2)] rfl hyp
                · refine ls_iconst 1 f_175_12 (by decide) ?_
                  refine ls_goto 17 f_175_13 rfl ?_
                  refine ls_zreturn f_175_17 rZ_175 (by decide) ?_
                  show lm_W _ _ _ _ [.int 1, .int (lm_i h 92 15), .ref 100] _ _
                  refine ls_if_eq_F 145 f_178_132 rfl (by decide) ?_
                  refine ls_aload_n f_178_135 rfl ?_
                  refine ls_iload_n f_178_136 rfl ?_
                  refine ls_iload f_178_137 rfl ?_
                  refine ls_invV (a := 92) f_178_139 q_178_154 [.int x2, .int (x2 + 1)] [.int (lm_i h 92 15), .ref 100] rfl (Nat.le_of_ble_eq_true rfl) (lm_Lay_si (lm_Lay_si hl _ _ _) _ _ _) S_92 ow_177 ?_
                  refine ls_call hyp (lm_Lay_si (lm_Lay_si hl _ _ _) _ _ _) (fun _ h7 hl7 hyp => ?_)
                  refine ls_retI hyp (fun r8 hyp => ?_)
                  refine ls_goto 165 f_178_142 rfl ?_
                  refine ls_iast f_178_165 hl7 S_100 hyp (fun hyp => ?_)
                  refine ls_iload_n f_178_166 rfl ?_
                  refine ls_istore [some (.ref 92), some (.int x1), some (.int x2), some (.int (lm_i h 98 x2.toNatClampNeg)), some (.int (x2 + 1)), some (.int x2)] f_178_167 (Nat.le_of_ble_eq_true rfl) rfl ?_
                  exact ls_mask [true, true, false, true, true, true] [some (.ref 92), some (.int x1), none, some (.int (lm_i h 98 x2.toNatClampNeg)), some (.int (x2 + 1)), some (.int x2)] rfl hyp
            · refine ls_iconst 1 f_176_12 (by decide) ?_
              refine ls_goto 17 f_176_13 rfl ?_
              refine ls_zreturn f_176_17 rZ_176 (by decide) ?_
              show lm_W _ _ _ _ [.int 1] _ _
              refine ls_if_eq_F 100 f_178_72 rfl (by decide) ?_
              exact hyp
        · refine ls_iconst 1 f_175_12 (by decide) ?_
          refine ls_goto 17 f_175_13 rfl ?_
          refine ls_zreturn f_175_17 rZ_175 (by decide) ?_
          show lm_W _ _ _ _ [.int 1] _ _
          refine ls_if_eq_F 68 f_178_40 rfl (by decide) ?_
          exact hyp
  · refine ls_aload_n f_178_263 rfl ?_
    refine ls_getR f_178_264 p_178_54 hl S_92 F_92_14 ?_
    refine ls_aload_n f_178_267 rfl ?_
    refine ls_getI f_178_268 p_178_145 hl S_92 ?_
    refine ls_iload_n f_178_271 rfl ?_
    refine ls_iast f_178_272 hl S_102 hyp (fun hyp => ?_)
    refine ls_aload_n f_178_273 rfl ?_
    refine ls_getR f_178_274 p_178_48 (lm_Lay_si hl _ _ _) S_92 F_92_12 ?_
    refine ls_aload_n f_178_277 rfl ?_
    refine ls_getI f_178_278 p_178_145 (lm_Lay_si hl _ _ _) S_92 ?_
    refine ls_top (lm_i h 92 15) rfl ?_
    refine ls_iconst 0 f_178_281 (by decide) ?_
    refine ls_iast f_178_282 (lm_Lay_si hl _ _ _) S_100 hyp (fun hyp => ?_)
    refine ls_aload_n f_178_283 rfl ?_
    refine ls_getR f_178_284 p_178_51 (lm_Lay_si (lm_Lay_si hl _ _ _) _ _ _) S_92 F_92_13 ?_
    refine ls_aload_n f_178_287 rfl ?_
    refine ls_getI f_178_288 p_178_145 (lm_Lay_si (lm_Lay_si hl _ _ _) _ _ _) S_92 ?_
    refine ls_top (lm_i h 92 15) rfl ?_
    refine ls_iconst 0 f_178_291 (by decide) ?_
    refine ls_iast f_178_292 (lm_Lay_si (lm_Lay_si hl _ _ _) _ _ _) S_101 hyp (fun hyp => ?_)
    exact ls_return f_178_293 rV_178 hyp
theorem b_178_169 {d : Nat} {h : lm_H} {K : lm_H → Prop} (x1 : Int32) (x3 : Int32) (x4 : Int32) (x5 : Int32) (hl : lm_Lay h) (hyp : (if x5 < x4 then (if x3 < 48 then (lm_W (d + 1) 178 7 [some (.ref 92), some (.int x1), some (.int x4), none, none, none] [] (lm_si h 92 15 ((lm_i h 92 15) + 1)) (lm_kV K)) else (if 57 < x3 then (lm_W (d + 1) 178 7 [some (.ref 92), some (.int x1), some (.int x4), none, none, none] [] (lm_si h 92 15 ((lm_i h 92 15) + 1)) (lm_kV K)) else (lm_in (lm_i h 92 15) 401 False (if 1000000 < (lm_i h 101 ((lm_i h 92 15).toNatClampNeg)) then (lm_in (lm_i h 92 15) 401 False (lm_in (lm_i h 92 15) 401 False (lm_W (d + 1) 178 169 [some (.ref 92), some (.int x1), none, some (.int x3), some (.int x4), some (.int (x5 + 1))] [] (lm_si h 101 ((lm_i h 92 15).toNatClampNeg) (lm_i h 101 ((lm_i h 92 15).toNatClampNeg))) (lm_kV K)))) else (lm_in (lm_i h 92 15) 401 False (lm_in x5 400 False (lm_in (lm_i h 92 15) 401 False (lm_W (d + 1) 178 169 [some (.ref 92), some (.int x1), none, some (.int x3), some (.int x4), some (.int (x5 + 1))] [] (lm_si h 101 ((lm_i h 92 15).toNatClampNeg) (((10 * (lm_i h 101 ((lm_i h 92 15).toNatClampNeg))) + (lm_i h 98 x5.toNatClampNeg)) - 48)) (lm_kV K))))))))) else (lm_W (d + 1) 178 7 [some (.ref 92), some (.int x1), some (.int x4), none, none, none] [] (lm_si h 92 15 ((lm_i h 92 15) + 1)) (lm_kV K)))) : lm_W (d + 1) 178 169 [some (.ref 92), some (.int x1), none, some (.int x3), some (.int x4), some (.int x5)] [] h (lm_kV K) := by
  refine ls_iload f_178_169 rfl ?_
  refine ls_iload f_178_171 rfl ?_
  refine ls_icmp_ge 247 f_178_173 rfl hyp (fun _ hyp => ?_) (fun _ hyp => ?_)
  · refine ls_iload_n f_178_176 rfl ?_
    refine ls_invS f_178_177 q_178_151 [.int x3] [] rfl (Nat.le_of_ble_eq_true rfl) ?_
    refine ls_enter [some (.int x3)] ml_176 (Nat.le_of_ble_eq_true rfl) rfl ?_
    refine ls_iload_n f_176_0 rfl ?_
    refine ls_bipush 48 f_176_1 (by decide) ?_
    refine ls_icmp_lt 16 f_176_3 rfl hyp (fun _ hyp => ?_) (fun _ hyp => ?_)
    · refine ls_iconst 0 f_176_16 (by decide) ?_
      refine ls_zreturn f_176_17 rZ_176 (by decide) ?_
      show lm_W _ _ _ _ [.int 0] _ _
      refine ls_if_eq_T 247 f_178_180 rfl (by decide) ?_
      refine ls_aload_n f_178_247 rfl ?_
      refine ls_dup f_178_248 rfl ?_
      refine ls_getI f_178_249 p_178_145 hl S_92 ?_
      refine ls_iconst 1 f_178_252 (by decide) ?_
      refine ls_iadd ((lm_i h 92 15) + 1) f_178_253 rfl ?_
      refine ls_putI f_178_254 p_178_145 hl S_92 rfl ?_
      refine ls_iload f_178_257 rfl ?_
      refine ls_istore_n [some (.ref 92), some (.int x1), some (.int x4), some (.int x3), some (.int x4), some (.int x5)] f_178_259 (Nat.le_of_ble_eq_true rfl) rfl ?_
      refine ls_goto 7 f_178_260 rfl ?_
      exact ls_mask [true, true, true, false, false, false] [some (.ref 92), some (.int x1), some (.int x4), none, none, none] rfl hyp
    · refine ls_iload_n f_176_6 rfl ?_
      refine ls_bipush 57 f_176_7 (by decide) ?_
      refine ls_icmp_gt 16 f_176_9 rfl hyp (fun _ hyp => ?_) (fun _ hyp => ?_)
      · refine ls_iconst 0 f_176_16 (by decide) ?_
        refine ls_zreturn f_176_17 rZ_176 (by decide) ?_
        show lm_W _ _ _ _ [.int 0] _ _
        refine ls_if_eq_T 247 f_178_180 rfl (by decide) ?_
        refine ls_aload_n f_178_247 rfl ?_
        refine ls_dup f_178_248 rfl ?_
        refine ls_getI f_178_249 p_178_145 hl S_92 ?_
        refine ls_iconst 1 f_178_252 (by decide) ?_
        refine ls_iadd ((lm_i h 92 15) + 1) f_178_253 rfl ?_
        refine ls_putI f_178_254 p_178_145 hl S_92 rfl ?_
        refine ls_iload f_178_257 rfl ?_
        refine ls_istore_n [some (.ref 92), some (.int x1), some (.int x4), some (.int x3), some (.int x4), some (.int x5)] f_178_259 (Nat.le_of_ble_eq_true rfl) rfl ?_
        refine ls_goto 7 f_178_260 rfl ?_
        exact ls_mask [true, true, true, false, false, false] [some (.ref 92), some (.int x1), some (.int x4), none, none, none] rfl hyp
      · refine ls_iconst 1 f_176_12 (by decide) ?_
        refine ls_goto 17 f_176_13 rfl ?_
        refine ls_zreturn f_176_17 rZ_176 (by decide) ?_
        show lm_W _ _ _ _ [.int 1] _ _
        refine ls_if_eq_F 247 f_178_180 rfl (by decide) ?_
        refine ls_aload_n f_178_183 rfl ?_
        refine ls_getR f_178_184 p_178_51 hl S_92 F_92_13 ?_
        refine ls_aload_n f_178_187 rfl ?_
        refine ls_getI f_178_188 p_178_145 hl S_92 ?_
        refine ls_aload_n f_178_191 rfl ?_
        refine ls_getR f_178_192 p_178_51 hl S_92 F_92_13 ?_
        refine ls_aload_n f_178_195 rfl ?_
        refine ls_getI f_178_196 p_178_145 hl S_92 ?_
        refine ls_iald f_178_199 hl S_101 hyp (fun hyp => ?_)
        refine ls_ldc f_178_200 k_178_158 ?_
        refine ls_icmp_le 217 f_178_202 rfl hyp (fun _ hyp => ?_) (fun _ hyp => ?_)
        · refine ls_aload_n f_178_205 rfl ?_
          refine ls_getR f_178_206 p_178_51 hl S_92 F_92_13 ?_
          refine ls_aload_n f_178_209 rfl ?_
          refine ls_getI f_178_210 p_178_145 hl S_92 ?_
          refine ls_iald f_178_213 hl S_101 hyp (fun hyp => ?_)
          refine ls_goto 240 f_178_214 rfl ?_
          refine ls_iast f_178_240 hl S_101 hyp (fun hyp => ?_)
          refine ls_iinc (x5 + 1) [some (.ref 92), some (.int x1), none, some (.int x3), some (.int x4), some (.int (x5 + 1))] f_178_241 rfl (Nat.le_of_ble_eq_true rfl) rfl rfl ?_
          refine ls_goto 169 f_178_244 rfl ?_
          exact hyp
        · refine ls_bipush 10 f_178_217 (by decide) ?_
          refine ls_aload_n f_178_219 rfl ?_
          refine ls_getR f_178_220 p_178_51 hl S_92 F_92_13 ?_
          refine ls_aload_n f_178_223 rfl ?_
          refine ls_getI f_178_224 p_178_145 hl S_92 ?_
          refine ls_iald f_178_227 hl S_101 hyp (fun hyp => ?_)
          refine ls_imul (10 * (lm_i h 101 ((lm_i h 92 15).toNatClampNeg))) f_178_228 rfl ?_
          refine ls_aload_n f_178_229 rfl ?_
          refine ls_getR f_178_230 p_178_39 hl S_92 F_92_8 ?_
          refine ls_iload f_178_233 rfl ?_
          refine ls_bald f_178_235 hl S_98 hyp (fun hyp => ?_)
          refine ls_iadd ((10 * (lm_i h 101 ((lm_i h 92 15).toNatClampNeg))) + (lm_i h 98 x5.toNatClampNeg)) f_178_236 rfl ?_
          refine ls_bipush 48 f_178_237 (by decide) ?_
          refine ls_isub (((10 * (lm_i h 101 ((lm_i h 92 15).toNatClampNeg))) + (lm_i h 98 x5.toNatClampNeg)) - 48) f_178_239 rfl ?_
          refine ls_iast f_178_240 hl S_101 hyp (fun hyp => ?_)
          refine ls_iinc (x5 + 1) [some (.ref 92), some (.int x1), none, some (.int x3), some (.int x4), some (.int (x5 + 1))] f_178_241 rfl (Nat.le_of_ble_eq_true rfl) rfl rfl ?_
          refine ls_goto 169 f_178_244 rfl ?_
          exact hyp
  · refine ls_aload_n f_178_247 rfl ?_
    refine ls_dup f_178_248 rfl ?_
    refine ls_getI f_178_249 p_178_145 hl S_92 ?_
    refine ls_iconst 1 f_178_252 (by decide) ?_
    refine ls_iadd ((lm_i h 92 15) + 1) f_178_253 rfl ?_
    refine ls_putI f_178_254 p_178_145 hl S_92 rfl ?_
    refine ls_iload f_178_257 rfl ?_
    refine ls_istore_n [some (.ref 92), some (.int x1), some (.int x4), some (.int x3), some (.int x4), some (.int x5)] f_178_259 (Nat.le_of_ble_eq_true rfl) rfl ?_
    refine ls_goto 7 f_178_260 rfl ?_
    exact ls_mask [true, true, true, false, false, false] [some (.ref 92), some (.int x1), some (.int x4), none, none, none] rfl hyp
theorem b_178_75 {d : Nat} {h : lm_H} {K : lm_H → Prop} (x1 : Int32) (x2 : Int32) (x3 : Int32) (x4 : Int32) (hl : lm_Lay h) (hyp : (if x4 < x1 then (lm_in x4 400 False (if (lm_i h 98 x4.toNatClampNeg) < 48 then (lm_in (lm_i h 92 15) 401 False (lm_in (lm_i h 92 15) 401 False (if x3 < 97 then (if x3 < 48 then (lm_in (lm_i h 92 15) 401 False (lm_W (d + 1) 178 169 [some (.ref 92), some (.int x1), none, some (.int x3), some (.int x4), some (.int x2)] [] (lm_si (lm_si (lm_si h 102 ((lm_i h 92 15).toNatClampNeg) x2) 101 ((lm_i h 92 15).toNatClampNeg) 0) 100 ((lm_i h 92 15).toNatClampNeg) (100 + (x3 &&& 255))) (lm_kV K))) else (if 57 < x3 then (lm_in (lm_i h 92 15) 401 False (lm_W (d + 1) 178 169 [some (.ref 92), some (.int x1), none, some (.int x3), some (.int x4), some (.int x2)] [] (lm_si (lm_si (lm_si h 102 ((lm_i h 92 15).toNatClampNeg) x2) 101 ((lm_i h 92 15).toNatClampNeg) 0) 100 ((lm_i h 92 15).toNatClampNeg) (100 + (x3 &&& 255))) (lm_kV K))) else (lm_in (lm_i h 92 15) 401 False (lm_W (d + 1) 178 169 [some (.ref 92), some (.int x1), none, some (.int x3), some (.int x4), some (.int x2)] [] (lm_si (lm_si (lm_si h 102 ((lm_i h 92 15).toNatClampNeg) x2) 101 ((lm_i h 92 15).toNatClampNeg) 0) 100 ((lm_i h 92 15).toNatClampNeg) 50) (lm_kV K))))) else (if 122 < x3 then (if x3 < 48 then (lm_in (lm_i h 92 15) 401 False (lm_W (d + 1) 178 169 [some (.ref 92), some (.int x1), none, some (.int x3), some (.int x4), some (.int x2)] [] (lm_si (lm_si (lm_si h 102 ((lm_i h 92 15).toNatClampNeg) x2) 101 ((lm_i h 92 15).toNatClampNeg) 0) 100 ((lm_i h 92 15).toNatClampNeg) (100 + (x3 &&& 255))) (lm_kV K))) else (if 57 < x3 then (lm_in (lm_i h 92 15) 401 False (lm_W (d + 1) 178 169 [some (.ref 92), some (.int x1), none, some (.int x3), some (.int x4), some (.int x2)] [] (lm_si (lm_si (lm_si h 102 ((lm_i h 92 15).toNatClampNeg) x2) 101 ((lm_i h 92 15).toNatClampNeg) 0) 100 ((lm_i h 92 15).toNatClampNeg) (100 + (x3 &&& 255))) (lm_kV K))) else (lm_in (lm_i h 92 15) 401 False (lm_W (d + 1) 178 169 [some (.ref 92), some (.int x1), none, some (.int x3), some (.int x4), some (.int x2)] [] (lm_si (lm_si (lm_si h 102 ((lm_i h 92 15).toNatClampNeg) x2) 101 ((lm_i h 92 15).toNatClampNeg) 0) 100 ((lm_i h 92 15).toNatClampNeg) 50) (lm_kV K))))) else (lm_call (d + 1) 177 [.ref 92, .int x2, .int x4] (lm_si (lm_si h 102 ((lm_i h 92 15).toNatClampNeg) x2) 101 ((lm_i h 92 15).toNatClampNeg) 0) (lm_kI fun r2 h1 => lm_in (lm_i h 92 15) 401 False (lm_W (d + 1) 178 169 [some (.ref 92), some (.int x1), none, some (.int x3), some (.int x4), some (.int x2)] [] (lm_si h1 100 ((lm_i h 92 15).toNatClampNeg) r2) (lm_kV K)))))))) else (if 57 < (lm_i h 98 x4.toNatClampNeg) then (lm_in (lm_i h 92 15) 401 False (lm_in (lm_i h 92 15) 401 False (if x3 < 97 then (if x3 < 48 then (lm_in (lm_i h 92 15) 401 False (lm_W (d + 1) 178 169 [some (.ref 92), some (.int x1), none, some (.int x3), some (.int x4), some (.int x2)] [] (lm_si (lm_si (lm_si h 102 ((lm_i h 92 15).toNatClampNeg) x2) 101 ((lm_i h 92 15).toNatClampNeg) 0) 100 ((lm_i h 92 15).toNatClampNeg) (100 + (x3 &&& 255))) (lm_kV K))) else (if 57 < x3 then (lm_in (lm_i h 92 15) 401 False (lm_W (d + 1) 178 169 [some (.ref 92), some (.int x1), none, some (.int x3), some (.int x4), some (.int x2)] [] (lm_si (lm_si (lm_si h 102 ((lm_i h 92 15).toNatClampNeg) x2) 101 ((lm_i h 92 15).toNatClampNeg) 0) 100 ((lm_i h 92 15).toNatClampNeg) (100 + (x3 &&& 255))) (lm_kV K))) else (lm_in (lm_i h 92 15) 401 False (lm_W (d + 1) 178 169 [some (.ref 92), some (.int x1), none, some (.int x3), some (.int x4), some (.int x2)] [] (lm_si (lm_si (lm_si h 102 ((lm_i h 92 15).toNatClampNeg) x2) 101 ((lm_i h 92 15).toNatClampNeg) 0) 100 ((lm_i h 92 15).toNatClampNeg) 50) (lm_kV K))))) else (if 122 < x3 then (if x3 < 48 then (lm_in (lm_i h 92 15) 401 False (lm_W (d + 1) 178 169 [some (.ref 92), some (.int x1), none, some (.int x3), some (.int x4), some (.int x2)] [] (lm_si (lm_si (lm_si h 102 ((lm_i h 92 15).toNatClampNeg) x2) 101 ((lm_i h 92 15).toNatClampNeg) 0) 100 ((lm_i h 92 15).toNatClampNeg) (100 + (x3 &&& 255))) (lm_kV K))) else (if 57 < x3 then (lm_in (lm_i h 92 15) 401 False (lm_W (d + 1) 178 169 [some (.ref 92), some (.int x1), none, some (.int x3), some (.int x4), some (.int x2)] [] (lm_si (lm_si (lm_si h 102 ((lm_i h 92 15).toNatClampNeg) x2) 101 ((lm_i h 92 15).toNatClampNeg) 0) 100 ((lm_i h 92 15).toNatClampNeg) (100 + (x3 &&& 255))) (lm_kV K))) else (lm_in (lm_i h 92 15) 401 False (lm_W (d + 1) 178 169 [some (.ref 92), some (.int x1), none, some (.int x3), some (.int x4), some (.int x2)] [] (lm_si (lm_si (lm_si h 102 ((lm_i h 92 15).toNatClampNeg) x2) 101 ((lm_i h 92 15).toNatClampNeg) 0) 100 ((lm_i h 92 15).toNatClampNeg) 50) (lm_kV K))))) else (lm_call (d + 1) 177 [.ref 92, .int x2, .int x4] (lm_si (lm_si h 102 ((lm_i h 92 15).toNatClampNeg) x2) 101 ((lm_i h 92 15).toNatClampNeg) 0) (lm_kI fun r4 h3 => lm_in (lm_i h 92 15) 401 False (lm_W (d + 1) 178 169 [some (.ref 92), some (.int x1), none, some (.int x3), some (.int x4), some (.int x2)] [] (lm_si h3 100 ((lm_i h 92 15).toNatClampNeg) r4) (lm_kV K)))))))) else (lm_W (d + 1) 178 75 [some (.ref 92), some (.int x1), some (.int x2), some (.int x3), some (.int (x4 + 1)), none] [] h (lm_kV K))))) else (lm_in (lm_i h 92 15) 401 False (lm_in (lm_i h 92 15) 401 False (if x3 < 97 then (if x3 < 48 then (lm_in (lm_i h 92 15) 401 False (lm_W (d + 1) 178 169 [some (.ref 92), some (.int x1), none, some (.int x3), some (.int x4), some (.int x2)] [] (lm_si (lm_si (lm_si h 102 ((lm_i h 92 15).toNatClampNeg) x2) 101 ((lm_i h 92 15).toNatClampNeg) 0) 100 ((lm_i h 92 15).toNatClampNeg) (100 + (x3 &&& 255))) (lm_kV K))) else (if 57 < x3 then (lm_in (lm_i h 92 15) 401 False (lm_W (d + 1) 178 169 [some (.ref 92), some (.int x1), none, some (.int x3), some (.int x4), some (.int x2)] [] (lm_si (lm_si (lm_si h 102 ((lm_i h 92 15).toNatClampNeg) x2) 101 ((lm_i h 92 15).toNatClampNeg) 0) 100 ((lm_i h 92 15).toNatClampNeg) (100 + (x3 &&& 255))) (lm_kV K))) else (lm_in (lm_i h 92 15) 401 False (lm_W (d + 1) 178 169 [some (.ref 92), some (.int x1), none, some (.int x3), some (.int x4), some (.int x2)] [] (lm_si (lm_si (lm_si h 102 ((lm_i h 92 15).toNatClampNeg) x2) 101 ((lm_i h 92 15).toNatClampNeg) 0) 100 ((lm_i h 92 15).toNatClampNeg) 50) (lm_kV K))))) else (if 122 < x3 then (if x3 < 48 then (lm_in (lm_i h 92 15) 401 False (lm_W (d + 1) 178 169 [some (.ref 92), some (.int x1), none, some (.int x3), some (.int x4), some (.int x2)] [] (lm_si (lm_si (lm_si h 102 ((lm_i h 92 15).toNatClampNeg) x2) 101 ((lm_i h 92 15).toNatClampNeg) 0) 100 ((lm_i h 92 15).toNatClampNeg) (100 + (x3 &&& 255))) (lm_kV K))) else (if 57 < x3 then (lm_in (lm_i h 92 15) 401 False (lm_W (d + 1) 178 169 [some (.ref 92), some (.int x1), none, some (.int x3), some (.int x4), some (.int x2)] [] (lm_si (lm_si (lm_si h 102 ((lm_i h 92 15).toNatClampNeg) x2) 101 ((lm_i h 92 15).toNatClampNeg) 0) 100 ((lm_i h 92 15).toNatClampNeg) (100 + (x3 &&& 255))) (lm_kV K))) else (lm_in (lm_i h 92 15) 401 False (lm_W (d + 1) 178 169 [some (.ref 92), some (.int x1), none, some (.int x3), some (.int x4), some (.int x2)] [] (lm_si (lm_si (lm_si h 102 ((lm_i h 92 15).toNatClampNeg) x2) 101 ((lm_i h 92 15).toNatClampNeg) 0) 100 ((lm_i h 92 15).toNatClampNeg) 50) (lm_kV K))))) else (lm_call (d + 1) 177 [.ref 92, .int x2, .int x4] (lm_si (lm_si h 102 ((lm_i h 92 15).toNatClampNeg) x2) 101 ((lm_i h 92 15).toNatClampNeg) 0) (lm_kI fun r6 h5 => lm_in (lm_i h 92 15) 401 False (lm_W (d + 1) 178 169 [some (.ref 92), some (.int x1), none, some (.int x3), some (.int x4), some (.int x2)] [] (lm_si h5 100 ((lm_i h 92 15).toNatClampNeg) r6) (lm_kV K)))))))))) : lm_W (d + 1) 178 75 [some (.ref 92), some (.int x1), some (.int x2), some (.int x3), some (.int x4), none] [] h (lm_kV K) := by
  refine ls_iload f_178_75 rfl ?_
  refine ls_iload_n f_178_77 rfl ?_
  refine ls_icmp_ge 100 f_178_78 rfl hyp (fun _ hyp => ?_) (fun _ hyp => ?_)
  · refine ls_aload_n f_178_81 rfl ?_
    refine ls_getR f_178_82 p_178_39 hl S_92 F_92_8 ?_
    refine ls_iload f_178_85 rfl ?_
    refine ls_bald f_178_87 hl S_98 hyp (fun hyp => ?_)
    refine ls_invS f_178_88 q_178_151 [.int (lm_i h 98 x4.toNatClampNeg)] [] rfl (Nat.le_of_ble_eq_true rfl) ?_
    refine ls_enter [some (.int (lm_i h 98 x4.toNatClampNeg))] ml_176 (Nat.le_of_ble_eq_true rfl) rfl ?_
    refine ls_iload_n f_176_0 rfl ?_
    refine ls_bipush 48 f_176_1 (by decide) ?_
    refine ls_icmp_lt 16 f_176_3 rfl hyp (fun _ hyp => ?_) (fun _ hyp => ?_)
    · refine ls_iconst 0 f_176_16 (by decide) ?_
      refine ls_zreturn f_176_17 rZ_176 (by decide) ?_
      show lm_W _ _ _ _ [.int 0] _ _
      refine ls_if_eq_T 100 f_178_91 rfl (by decide) ?_
      refine ls_aload_n f_178_100 rfl ?_
      refine ls_getR f_178_101 p_178_54 hl S_92 F_92_14 ?_
      refine ls_aload_n f_178_104 rfl ?_
      refine ls_getI f_178_105 p_178_145 hl S_92 ?_
      refine ls_iload_n f_178_108 rfl ?_
      refine ls_iast f_178_109 hl S_102 hyp (fun hyp => ?_)
      refine ls_aload_n f_178_110 rfl ?_
      refine ls_getR f_178_111 p_178_51 (lm_Lay_si hl _ _ _) S_92 F_92_13 ?_
      refine ls_aload_n f_178_114 rfl ?_
      refine ls_getI f_178_115 p_178_145 (lm_Lay_si hl _ _ _) S_92 ?_
      refine ls_top (lm_i h 92 15) rfl ?_
      refine ls_iconst 0 f_178_118 (by decide) ?_
      refine ls_iast f_178_119 (lm_Lay_si hl _ _ _) S_101 hyp (fun hyp => ?_)
      refine ls_aload_n f_178_120 rfl ?_
      refine ls_getR f_178_121 p_178_48 (lm_Lay_si (lm_Lay_si hl _ _ _) _ _ _) S_92 F_92_12 ?_
      refine ls_aload_n f_178_124 rfl ?_
      refine ls_getI f_178_125 p_178_145 (lm_Lay_si (lm_Lay_si hl _ _ _) _ _ _) S_92 ?_
      refine ls_top (lm_i h 92 15) rfl ?_
      refine ls_iload_n f_178_128 rfl ?_
      refine ls_invS f_178_129 q_178_148 [.int x3] [.int (lm_i h 92 15), .ref 100] rfl (Nat.le_of_ble_eq_true rfl) ?_
      refine ls_enter [some (.int x3)] ml_175 (Nat.le_of_ble_eq_true rfl) rfl ?_
      refine ls_iload_n f_175_0 rfl ?_
      refine ls_bipush 97 f_175_1 (by decide) ?_
      refine ls_icmp_lt 16 f_175_3 rfl hyp (fun _ hyp => ?_) (fun _ hyp => ?_)
      · refine ls_iconst 0 f_175_16 (by decide) ?_
        refine ls_zreturn f_175_17 rZ_175 (by decide) ?_
        show lm_W _ _ _ _ [.int 0, .int (lm_i h 92 15), .ref 100] _ _
        refine ls_if_eq_T 145 f_178_132 rfl (by decide) ?_
        refine ls_iload_n f_178_145 rfl ?_
        refine ls_invS f_178_146 q_178_151 [.int x3] [.int (lm_i h 92 15), .ref 100] rfl (Nat.le_of_ble_eq_true rfl) ?_
        refine ls_enter [some (.int x3)] ml_176 (Nat.le_of_ble_eq_true rfl) rfl ?_
        refine ls_iload_n f_176_0 rfl ?_
        refine ls_bipush 48 f_176_1 (by decide) ?_
        refine ls_icmp_lt 16 f_176_3 rfl hyp (fun _ hyp => ?_) (fun _ hyp => ?_)
        · refine ls_iconst 0 f_176_16 (by decide) ?_
          refine ls_zreturn f_176_17 rZ_176 (by decide) ?_
          show lm_W _ _ _ _ [.int 0, .int (lm_i h 92 15), .ref 100] _ _
          refine ls_if_eq_T 157 f_178_149 rfl (by decide) ?_
          refine ls_bipush 100 f_178_157 (by decide) ?_
          refine ls_iload_n f_178_159 rfl ?_
          refine ls_sipush 255 f_178_160 (by decide) ?_
          refine ls_iand (x3 &&& 255) f_178_163 rfl ?_
          refine ls_iadd (100 + (x3 &&& 255)) f_178_164 rfl ?_
          refine ls_iast f_178_165 (lm_Lay_si (lm_Lay_si hl _ _ _) _ _ _) S_100 hyp (fun hyp => ?_)
          refine ls_iload_n f_178_166 rfl ?_
          refine ls_istore [some (.ref 92), some (.int x1), some (.int x2), some (.int x3), some (.int x4), some (.int x2)] f_178_167 (Nat.le_of_ble_eq_true rfl) rfl ?_
          exact ls_mask [true, true, false, true, true, true] [some (.ref 92), some (.int x1), none, some (.int x3), some (.int x4), some (.int x2)] rfl hyp
        · refine ls_iload_n f_176_6 rfl ?_
          refine ls_bipush 57 f_176_7 (by decide) ?_
          refine ls_icmp_gt 16 f_176_9 rfl hyp (fun _ hyp => ?_) (fun _ hyp => ?_)
          · refine ls_iconst 0 f_176_16 (by decide) ?_
            refine ls_zreturn f_176_17 rZ_176 (by decide) ?_
            show lm_W _ _ _ _ [.int 0, .int (lm_i h 92 15), .ref 100] _ _
            refine ls_if_eq_T 157 f_178_149 rfl (by decide) ?_
            refine ls_bipush 100 f_178_157 (by decide) ?_
            refine ls_iload_n f_178_159 rfl ?_
            refine ls_sipush 255 f_178_160 (by decide) ?_
            refine ls_iand (x3 &&& 255) f_178_163 rfl ?_
            refine ls_iadd (100 + (x3 &&& 255)) f_178_164 rfl ?_
            refine ls_iast f_178_165 (lm_Lay_si (lm_Lay_si hl _ _ _) _ _ _) S_100 hyp (fun hyp => ?_)
            refine ls_iload_n f_178_166 rfl ?_
            refine ls_istore [some (.ref 92), some (.int x1), some (.int x2), some (.int x3), some (.int x4), some (.int x2)] f_178_167 (Nat.le_of_ble_eq_true rfl) rfl ?_
            exact ls_mask [true, true, false, true, true, true] [some (.ref 92), some (.int x1), none, some (.int x3), some (.int x4), some (.int x2)] rfl hyp
          · refine ls_iconst 1 f_176_12 (by decide) ?_
            refine ls_goto 17 f_176_13 rfl ?_
            refine ls_zreturn f_176_17 rZ_176 (by decide) ?_
            show lm_W _ _ _ _ [.int 1, .int (lm_i h 92 15), .ref 100] _ _
            refine ls_if_eq_F 157 f_178_149 rfl (by decide) ?_
            refine ls_bipush 50 f_178_152 (by decide) ?_
            refine ls_goto 165 f_178_154 rfl ?_
            refine ls_iast f_178_165 (lm_Lay_si (lm_Lay_si hl _ _ _) _ _ _) S_100 hyp (fun hyp => ?_)
            refine ls_iload_n f_178_166 rfl ?_
            refine ls_istore [some (.ref 92), some (.int x1), some (.int x2), some (.int x3), some (.int x4), some (.int x2)] f_178_167 (Nat.le_of_ble_eq_true rfl) rfl ?_
            exact ls_mask [true, true, false, true, true, true] [some (.ref 92), some (.int x1), none, some (.int x3), some (.int x4), some (.int x2)] rfl hyp
      · refine ls_iload_n f_175_6 rfl ?_
        refine ls_bipush 122 f_175_7 (by decide) ?_
        refine ls_icmp_gt 16 f_175_9 rfl hyp (fun _ hyp => ?_) (fun _ hyp => ?_)
        · refine ls_iconst 0 f_175_16 (by decide) ?_
          refine ls_zreturn f_175_17 rZ_175 (by decide) ?_
          show lm_W _ _ _ _ [.int 0, .int (lm_i h 92 15), .ref 100] _ _
          refine ls_if_eq_T 145 f_178_132 rfl (by decide) ?_
          refine ls_iload_n f_178_145 rfl ?_
          refine ls_invS f_178_146 q_178_151 [.int x3] [.int (lm_i h 92 15), .ref 100] rfl (Nat.le_of_ble_eq_true rfl) ?_
          refine ls_enter [some (.int x3)] ml_176 (Nat.le_of_ble_eq_true rfl) rfl ?_
          refine ls_iload_n f_176_0 rfl ?_
          refine ls_bipush 48 f_176_1 (by decide) ?_
          refine ls_icmp_lt 16 f_176_3 rfl hyp (fun _ hyp => ?_) (fun _ hyp => ?_)
          · refine ls_iconst 0 f_176_16 (by decide) ?_
            refine ls_zreturn f_176_17 rZ_176 (by decide) ?_
            show lm_W _ _ _ _ [.int 0, .int (lm_i h 92 15), .ref 100] _ _
            refine ls_if_eq_T 157 f_178_149 rfl (by decide) ?_
            refine ls_bipush 100 f_178_157 (by decide) ?_
            refine ls_iload_n f_178_159 rfl ?_
            refine ls_sipush 255 f_178_160 (by decide) ?_
            refine ls_iand (x3 &&& 255) f_178_163 rfl ?_
            refine ls_iadd (100 + (x3 &&& 255)) f_178_164 rfl ?_
            refine ls_iast f_178_165 (lm_Lay_si (lm_Lay_si hl _ _ _) _ _ _) S_100 hyp (fun hyp => ?_)
            refine ls_iload_n f_178_166 rfl ?_
            refine ls_istore [some (.ref 92), some (.int x1), some (.int x2), some (.int x3), some (.int x4), some (.int x2)] f_178_167 (Nat.le_of_ble_eq_true rfl) rfl ?_
            exact ls_mask [true, true, false, true, true, true] [some (.ref 92), some (.int x1), none, some (.int x3), some (.int x4), some (.int x2)] rfl hyp
          · refine ls_iload_n f_176_6 rfl ?_
            refine ls_bipush 57 f_176_7 (by decide) ?_
            refine ls_icmp_gt 16 f_176_9 rfl hyp (fun _ hyp => ?_) (fun _ hyp => ?_)
            · refine ls_iconst 0 f_176_16 (by decide) ?_
              refine ls_zreturn f_176_17 rZ_176 (by decide) ?_
              show lm_W _ _ _ _ [.int 0, .int (lm_i h 92 15), .ref 100] _ _
              refine ls_if_eq_T 157 f_178_149 rfl (by decide) ?_
              refine ls_bipush 100 f_178_157 (by decide) ?_
              refine ls_iload_n f_178_159 rfl ?_
              refine ls_sipush 255 f_178_160 (by decide) ?_
              refine ls_iand (x3 &&& 255) f_178_163 rfl ?_
              refine ls_iadd (100 + (x3 &&& 255)) f_178_164 rfl ?_
              refine ls_iast f_178_165 (lm_Lay_si (lm_Lay_si hl _ _ _) _ _ _) S_100 hyp (fun hyp => ?_)
              refine ls_iload_n f_178_166 rfl ?_
              refine ls_istore [some (.ref 92), some (.int x1), some (.int x2), some (.int x3), some (.int x4), some (.int x2)] f_178_167 (Nat.le_of_ble_eq_true rfl) rfl ?_
              exact ls_mask [true, true, false, true, true, true] [some (.ref 92), some (.int x1), none, some (.int x3), some (.int x4), some (.int x2)] rfl hyp
            · refine ls_iconst 1 f_176_12 (by decide) ?_
              refine ls_goto 17 f_176_13 rfl ?_
              refine ls_zreturn f_176_17 rZ_176 (by decide) ?_
              show lm_W _ _ _ _ [.int 1, .int (lm_i h 92 15), .ref 100] _ _
              refine ls_if_eq_F 157 f_178_149 rfl (by decide) ?_
              refine ls_bipush 50 f_178_152 (by decide) ?_
              refine ls_goto 165 f_178_154 rfl ?_
              refine ls_iast f_178_165 (lm_Lay_si (lm_Lay_si hl _ _ _) _ _ _) S_100 hyp (fun hyp => ?_)
              refine ls_iload_n f_178_166 rfl ?_
              refine ls_istore [some (.ref 92), some (.int x1), some (.int x2), some (.int x3), some (.int x4), some (.int x2)] f_178_167 (Nat.le_of_ble_eq_true rfl) rfl ?_
              exact ls_mask [true, true, false, true, true, true] [some (.ref 92), some (.int x1), none, some (.int x3), some (.int x4), some (.int x2)] rfl hyp
        · refine ls_iconst 1 f_175_12 (by decide) ?_
          refine ls_goto 17 f_175_13 rfl ?_
          refine ls_zreturn f_175_17 rZ_175 (by decide) ?_
          show lm_W _ _ _ _ [.int 1, .int (lm_i h 92 15), .ref 100] _ _
          refine ls_if_eq_F 145 f_178_132 rfl (by decide) ?_
          refine ls_aload_n f_178_135 rfl ?_
          refine ls_iload_n f_178_136 rfl ?_
          refine ls_iload f_178_137 rfl ?_
          refine ls_invV (a := 92) f_178_139 q_178_154 [.int x2, .int x4] [.int (lm_i h 92 15), .ref 100] rfl (Nat.le_of_ble_eq_true rfl) (lm_Lay_si (lm_Lay_si hl _ _ _) _ _ _) S_92 ow_177 ?_
          refine ls_call hyp (lm_Lay_si (lm_Lay_si hl _ _ _) _ _ _) (fun _ h1 hl1 hyp => ?_)
          refine ls_retI hyp (fun r2 hyp => ?_)
          refine ls_goto 165 f_178_142 rfl ?_
          refine ls_iast f_178_165 hl1 S_100 hyp (fun hyp => ?_)
          refine ls_iload_n f_178_166 rfl ?_
          refine ls_istore [some (.ref 92), some (.int x1), some (.int x2), some (.int x3), some (.int x4), some (.int x2)] f_178_167 (Nat.le_of_ble_eq_true rfl) rfl ?_
          exact ls_mask [true, true, false, true, true, true] [some (.ref 92), some (.int x1), none, some (.int x3), some (.int x4), some (.int x2)] rfl hyp
    · refine ls_iload_n f_176_6 rfl ?_
      refine ls_bipush 57 f_176_7 (by decide) ?_
      refine ls_icmp_gt 16 f_176_9 rfl hyp (fun _ hyp => ?_) (fun _ hyp => ?_)
      · refine ls_iconst 0 f_176_16 (by decide) ?_
        refine ls_zreturn f_176_17 rZ_176 (by decide) ?_
        show lm_W _ _ _ _ [.int 0] _ _
        refine ls_if_eq_T 100 f_178_91 rfl (by decide) ?_
        refine ls_aload_n f_178_100 rfl ?_
        refine ls_getR f_178_101 p_178_54 hl S_92 F_92_14 ?_
        refine ls_aload_n f_178_104 rfl ?_
        refine ls_getI f_178_105 p_178_145 hl S_92 ?_
        refine ls_iload_n f_178_108 rfl ?_
        refine ls_iast f_178_109 hl S_102 hyp (fun hyp => ?_)
        refine ls_aload_n f_178_110 rfl ?_
        refine ls_getR f_178_111 p_178_51 (lm_Lay_si hl _ _ _) S_92 F_92_13 ?_
        refine ls_aload_n f_178_114 rfl ?_
        refine ls_getI f_178_115 p_178_145 (lm_Lay_si hl _ _ _) S_92 ?_
        refine ls_top (lm_i h 92 15) rfl ?_
        refine ls_iconst 0 f_178_118 (by decide) ?_
        refine ls_iast f_178_119 (lm_Lay_si hl _ _ _) S_101 hyp (fun hyp => ?_)
        refine ls_aload_n f_178_120 rfl ?_
        refine ls_getR f_178_121 p_178_48 (lm_Lay_si (lm_Lay_si hl _ _ _) _ _ _) S_92 F_92_12 ?_
        refine ls_aload_n f_178_124 rfl ?_
        refine ls_getI f_178_125 p_178_145 (lm_Lay_si (lm_Lay_si hl _ _ _) _ _ _) S_92 ?_
        refine ls_top (lm_i h 92 15) rfl ?_
        refine ls_iload_n f_178_128 rfl ?_
        refine ls_invS f_178_129 q_178_148 [.int x3] [.int (lm_i h 92 15), .ref 100] rfl (Nat.le_of_ble_eq_true rfl) ?_
        refine ls_enter [some (.int x3)] ml_175 (Nat.le_of_ble_eq_true rfl) rfl ?_
        refine ls_iload_n f_175_0 rfl ?_
        refine ls_bipush 97 f_175_1 (by decide) ?_
        refine ls_icmp_lt 16 f_175_3 rfl hyp (fun _ hyp => ?_) (fun _ hyp => ?_)
        · refine ls_iconst 0 f_175_16 (by decide) ?_
          refine ls_zreturn f_175_17 rZ_175 (by decide) ?_
          show lm_W _ _ _ _ [.int 0, .int (lm_i h 92 15), .ref 100] _ _
          refine ls_if_eq_T 145 f_178_132 rfl (by decide) ?_
          refine ls_iload_n f_178_145 rfl ?_
          refine ls_invS f_178_146 q_178_151 [.int x3] [.int (lm_i h 92 15), .ref 100] rfl (Nat.le_of_ble_eq_true rfl) ?_
          refine ls_enter [some (.int x3)] ml_176 (Nat.le_of_ble_eq_true rfl) rfl ?_
          refine ls_iload_n f_176_0 rfl ?_
          refine ls_bipush 48 f_176_1 (by decide) ?_
          refine ls_icmp_lt 16 f_176_3 rfl hyp (fun _ hyp => ?_) (fun _ hyp => ?_)
          · refine ls_iconst 0 f_176_16 (by decide) ?_
            refine ls_zreturn f_176_17 rZ_176 (by decide) ?_
            show lm_W _ _ _ _ [.int 0, .int (lm_i h 92 15), .ref 100] _ _
            refine ls_if_eq_T 157 f_178_149 rfl (by decide) ?_
            refine ls_bipush 100 f_178_157 (by decide) ?_
            refine ls_iload_n f_178_159 rfl ?_
            refine ls_sipush 255 f_178_160 (by decide) ?_
            refine ls_iand (x3 &&& 255) f_178_163 rfl ?_
            refine ls_iadd (100 + (x3 &&& 255)) f_178_164 rfl ?_
            refine ls_iast f_178_165 (lm_Lay_si (lm_Lay_si hl _ _ _) _ _ _) S_100 hyp (fun hyp => ?_)
            refine ls_iload_n f_178_166 rfl ?_
            refine ls_istore [some (.ref 92), some (.int x1), some (.int x2), some (.int x3), some (.int x4), some (.int x2)] f_178_167 (Nat.le_of_ble_eq_true rfl) rfl ?_
            exact ls_mask [true, true, false, true, true, true] [some (.ref 92), some (.int x1), none, some (.int x3), some (.int x4), some (.int x2)] rfl hyp
          · refine ls_iload_n f_176_6 rfl ?_
            refine ls_bipush 57 f_176_7 (by decide) ?_
            refine ls_icmp_gt 16 f_176_9 rfl hyp (fun _ hyp => ?_) (fun _ hyp => ?_)
            · refine ls_iconst 0 f_176_16 (by decide) ?_
              refine ls_zreturn f_176_17 rZ_176 (by decide) ?_
              show lm_W _ _ _ _ [.int 0, .int (lm_i h 92 15), .ref 100] _ _
              refine ls_if_eq_T 157 f_178_149 rfl (by decide) ?_
              refine ls_bipush 100 f_178_157 (by decide) ?_
              refine ls_iload_n f_178_159 rfl ?_
              refine ls_sipush 255 f_178_160 (by decide) ?_
              refine ls_iand (x3 &&& 255) f_178_163 rfl ?_
              refine ls_iadd (100 + (x3 &&& 255)) f_178_164 rfl ?_
              refine ls_iast f_178_165 (lm_Lay_si (lm_Lay_si hl _ _ _) _ _ _) S_100 hyp (fun hyp => ?_)
              refine ls_iload_n f_178_166 rfl ?_
              refine ls_istore [some (.ref 92), some (.int x1), some (.int x2), some (.int x3), some (.int x4), some (.int x2)] f_178_167 (Nat.le_of_ble_eq_true rfl) rfl ?_
              exact ls_mask [true, true, false, true, true, true] [some (.ref 92), some (.int x1), none, some (.int x3), some (.int x4), some (.int x2)] rfl hyp
            · refine ls_iconst 1 f_176_12 (by decide) ?_
              refine ls_goto 17 f_176_13 rfl ?_
              refine ls_zreturn f_176_17 rZ_176 (by decide) ?_
              show lm_W _ _ _ _ [.int 1, .int (lm_i h 92 15), .ref 100] _ _
              refine ls_if_eq_F 157 f_178_149 rfl (by decide) ?_
              refine ls_bipush 50 f_178_152 (by decide) ?_
              refine ls_goto 165 f_178_154 rfl ?_
              refine ls_iast f_178_165 (lm_Lay_si (lm_Lay_si hl _ _ _) _ _ _) S_100 hyp (fun hyp => ?_)
              refine ls_iload_n f_178_166 rfl ?_
              refine ls_istore [some (.ref 92), some (.int x1), some (.int x2), some (.int x3), some (.int x4), some (.int x2)] f_178_167 (Nat.le_of_ble_eq_true rfl) rfl ?_
              exact ls_mask [true, true, false, true, true, true] [some (.ref 92), some (.int x1), none, some (.int x3), some (.int x4), some (.int x2)] rfl hyp
        · refine ls_iload_n f_175_6 rfl ?_
          refine ls_bipush 122 f_175_7 (by decide) ?_
          refine ls_icmp_gt 16 f_175_9 rfl hyp (fun _ hyp => ?_) (fun _ hyp => ?_)
          · refine ls_iconst 0 f_175_16 (by decide) ?_
            refine ls_zreturn f_175_17 rZ_175 (by decide) ?_
            show lm_W _ _ _ _ [.int 0, .int (lm_i h 92 15), .ref 100] _ _
            refine ls_if_eq_T 145 f_178_132 rfl (by decide) ?_
            refine ls_iload_n f_178_145 rfl ?_
            refine ls_invS f_178_146 q_178_151 [.int x3] [.int (lm_i h 92 15), .ref 100] rfl (Nat.le_of_ble_eq_true rfl) ?_
            refine ls_enter [some (.int x3)] ml_176 (Nat.le_of_ble_eq_true rfl) rfl ?_
            refine ls_iload_n f_176_0 rfl ?_
            refine ls_bipush 48 f_176_1 (by decide) ?_
            refine ls_icmp_lt 16 f_176_3 rfl hyp (fun _ hyp => ?_) (fun _ hyp => ?_)
            · refine ls_iconst 0 f_176_16 (by decide) ?_
              refine ls_zreturn f_176_17 rZ_176 (by decide) ?_
              show lm_W _ _ _ _ [.int 0, .int (lm_i h 92 15), .ref 100] _ _
              refine ls_if_eq_T 157 f_178_149 rfl (by decide) ?_
              refine ls_bipush 100 f_178_157 (by decide) ?_
              refine ls_iload_n f_178_159 rfl ?_
              refine ls_sipush 255 f_178_160 (by decide) ?_
              refine ls_iand (x3 &&& 255) f_178_163 rfl ?_
              refine ls_iadd (100 + (x3 &&& 255)) f_178_164 rfl ?_
              refine ls_iast f_178_165 (lm_Lay_si (lm_Lay_si hl _ _ _) _ _ _) S_100 hyp (fun hyp => ?_)
              refine ls_iload_n f_178_166 rfl ?_
              refine ls_istore [some (.ref 92), some (.int x1), some (.int x2), some (.int x3), some (.int x4), some (.int x2)] f_178_167 (Nat.le_of_ble_eq_true rfl) rfl ?_
              exact ls_mask [true, true, false, true, true, true] [some (.ref 92), some (.int x1), none, some (.int x3), some (.int x4), some (.int x2)] rfl hyp
            · refine ls_iload_n f_176_6 rfl ?_
              refine ls_bipush 57 f_176_7 (by decide) ?_
              refine ls_icmp_gt 16 f_176_9 rfl hyp (fun _ hyp => ?_) (fun _ hyp => ?_)
              · refine ls_iconst 0 f_176_16 (by decide) ?_
                refine ls_zreturn f_176_17 rZ_176 (by decide) ?_
                show lm_W _ _ _ _ [.int 0, .int (lm_i h 92 15), .ref 100] _ _
                refine ls_if_eq_T 157 f_178_149 rfl (by decide) ?_
                refine ls_bipush 100 f_178_157 (by decide) ?_
                refine ls_iload_n f_178_159 rfl ?_
                refine ls_sipush 255 f_178_160 (by decide) ?_
                refine ls_iand (x3 &&& 255) f_178_163 rfl ?_
                refine ls_iadd (100 + (x3 &&& 255)) f_178_164 rfl ?_
                refine ls_iast f_178_165 (lm_Lay_si (lm_Lay_si hl _ _ _) _ _ _) S_100 hyp (fun hyp => ?_)
                refine ls_iload_n f_178_166 rfl ?_
                refine ls_istore [some (.ref 92), some (.int x1), some (.int x2), some (.int x3), some (.int x4), some (.int x2)] f_178_167 (Nat.le_of_ble_eq_true rfl) rfl ?_
                exact ls_mask [true, true, false, true, true, true] [some (.ref 92), some (.int x1), none, some (.int x3), some (.int x4), some (.int x2)] rfl hyp
              · refine ls_iconst 1 f_176_12 (by decide) ?_
                refine ls_goto 17 f_176_13 rfl ?_
                refine ls_zreturn f_176_17 rZ_176 (by decide) ?_
                show lm_W _ _ _ _ [.int 1, .int (lm_i h 92 15), .ref 100] _ _
                refine ls_if_eq_F 157 f_178_149 rfl (by decide) ?_
                refine ls_bipush 50 f_178_152 (by decide) ?_
                refine ls_goto 165 f_178_154 rfl ?_
                refine ls_iast f_178_165 (lm_Lay_si (lm_Lay_si hl _ _ _) _ _ _) S_100 hyp (fun hyp => ?_)
                refine ls_iload_n f_178_166 rfl ?_
                refine ls_istore [some (.ref 92), some (.int x1), some (.int x2), some (.int x3), some (.int x4), some (.int x2)] f_178_167 (Nat.le_of_ble_eq_true rfl) rfl ?_
                exact ls_mask [true, true, false, true, true, true] [some (.ref 92), some (.int x1), none, some (.int x3), some (.int x4), some (.int x2)] rfl hyp
          · refine ls_iconst 1 f_175_12 (by decide) ?_
            refine ls_goto 17 f_175_13 rfl ?_
            refine ls_zreturn f_175_17 rZ_175 (by decide) ?_
            show lm_W _ _ _ _ [.int 1, .int (lm_i h 92 15), .ref 100] _ _
            refine ls_if_eq_F 145 f_178_132 rfl (by decide) ?_
            refine ls_aload_n f_178_135 rfl ?_
            refine ls_iload_n f_178_136 rfl ?_
            refine ls_iload f_178_137 rfl ?_
            refine ls_invV (a := 92) f_178_139 q_178_154 [.int x2, .int x4] [.int (lm_i h 92 15), .ref 100] rfl (Nat.le_of_ble_eq_true rfl) (lm_Lay_si (lm_Lay_si hl _ _ _) _ _ _) S_92 ow_177 ?_
            refine ls_call hyp (lm_Lay_si (lm_Lay_si hl _ _ _) _ _ _) (fun _ h3 hl3 hyp => ?_)
            refine ls_retI hyp (fun r4 hyp => ?_)
            refine ls_goto 165 f_178_142 rfl ?_
            refine ls_iast f_178_165 hl3 S_100 hyp (fun hyp => ?_)
            refine ls_iload_n f_178_166 rfl ?_
            refine ls_istore [some (.ref 92), some (.int x1), some (.int x2), some (.int x3), some (.int x4), some (.int x2)] f_178_167 (Nat.le_of_ble_eq_true rfl) rfl ?_
            exact ls_mask [true, true, false, true, true, true] [some (.ref 92), some (.int x1), none, some (.int x3), some (.int x4), some (.int x2)] rfl hyp
      · refine ls_iconst 1 f_176_12 (by decide) ?_
        refine ls_goto 17 f_176_13 rfl ?_
        refine ls_zreturn f_176_17 rZ_176 (by decide) ?_
        show lm_W _ _ _ _ [.int 1] _ _
        refine ls_if_eq_F 100 f_178_91 rfl (by decide) ?_
        refine ls_iinc (x4 + 1) [some (.ref 92), some (.int x1), some (.int x2), some (.int x3), some (.int (x4 + 1)), none] f_178_94 rfl (Nat.le_of_ble_eq_true rfl) rfl rfl ?_
        refine ls_goto 75 f_178_97 rfl ?_
        exact hyp
  · refine ls_aload_n f_178_100 rfl ?_
    refine ls_getR f_178_101 p_178_54 hl S_92 F_92_14 ?_
    refine ls_aload_n f_178_104 rfl ?_
    refine ls_getI f_178_105 p_178_145 hl S_92 ?_
    refine ls_iload_n f_178_108 rfl ?_
    refine ls_iast f_178_109 hl S_102 hyp (fun hyp => ?_)
    refine ls_aload_n f_178_110 rfl ?_
    refine ls_getR f_178_111 p_178_51 (lm_Lay_si hl _ _ _) S_92 F_92_13 ?_
    refine ls_aload_n f_178_114 rfl ?_
    refine ls_getI f_178_115 p_178_145 (lm_Lay_si hl _ _ _) S_92 ?_
    refine ls_top (lm_i h 92 15) rfl ?_
    refine ls_iconst 0 f_178_118 (by decide) ?_
    refine ls_iast f_178_119 (lm_Lay_si hl _ _ _) S_101 hyp (fun hyp => ?_)
    refine ls_aload_n f_178_120 rfl ?_
    refine ls_getR f_178_121 p_178_48 (lm_Lay_si (lm_Lay_si hl _ _ _) _ _ _) S_92 F_92_12 ?_
    refine ls_aload_n f_178_124 rfl ?_
    refine ls_getI f_178_125 p_178_145 (lm_Lay_si (lm_Lay_si hl _ _ _) _ _ _) S_92 ?_
    refine ls_top (lm_i h 92 15) rfl ?_
    refine ls_iload_n f_178_128 rfl ?_
    refine ls_invS f_178_129 q_178_148 [.int x3] [.int (lm_i h 92 15), .ref 100] rfl (Nat.le_of_ble_eq_true rfl) ?_
    refine ls_enter [some (.int x3)] ml_175 (Nat.le_of_ble_eq_true rfl) rfl ?_
    refine ls_iload_n f_175_0 rfl ?_
    refine ls_bipush 97 f_175_1 (by decide) ?_
    refine ls_icmp_lt 16 f_175_3 rfl hyp (fun _ hyp => ?_) (fun _ hyp => ?_)
    · refine ls_iconst 0 f_175_16 (by decide) ?_
      refine ls_zreturn f_175_17 rZ_175 (by decide) ?_
      show lm_W _ _ _ _ [.int 0, .int (lm_i h 92 15), .ref 100] _ _
      refine ls_if_eq_T 145 f_178_132 rfl (by decide) ?_
      refine ls_iload_n f_178_145 rfl ?_
      refine ls_invS f_178_146 q_178_151 [.int x3] [.int (lm_i h 92 15), .ref 100] rfl (Nat.le_of_ble_eq_true rfl) ?_
      refine ls_enter [some (.int x3)] ml_176 (Nat.le_of_ble_eq_true rfl) rfl ?_
      refine ls_iload_n f_176_0 rfl ?_
      refine ls_bipush 48 f_176_1 (by decide) ?_
      refine ls_icmp_lt 16 f_176_3 rfl hyp (fun _ hyp => ?_) (fun _ hyp => ?_)
      · refine ls_iconst 0 f_176_16 (by decide) ?_
        refine ls_zreturn f_176_17 rZ_176 (by decide) ?_
        show lm_W _ _ _ _ [.int 0, .int (lm_i h 92 15), .ref 100] _ _
        refine ls_if_eq_T 157 f_178_149 rfl (by decide) ?_
        refine ls_bipush 100 f_178_157 (by decide) ?_
        refine ls_iload_n f_178_159 rfl ?_
        refine ls_sipush 255 f_178_160 (by decide) ?_
        refine ls_iand (x3 &&& 255) f_178_163 rfl ?_
        refine ls_iadd (100 + (x3 &&& 255)) f_178_164 rfl ?_
        refine ls_iast f_178_165 (lm_Lay_si (lm_Lay_si hl _ _ _) _ _ _) S_100 hyp (fun hyp => ?_)
        refine ls_iload_n f_178_166 rfl ?_
        refine ls_istore [some (.ref 92), some (.int x1), some (.int x2), some (.int x3), some (.int x4), some (.int x2)] f_178_167 (Nat.le_of_ble_eq_true rfl) rfl ?_
        exact ls_mask [true, true, false, true, true, true] [some (.ref 92), some (.int x1), none, some (.int x3), some (.int x4), some (.int x2)] rfl hyp
      · refine ls_iload_n f_176_6 rfl ?_
        refine ls_bipush 57 f_176_7 (by decide) ?_
        refine ls_icmp_gt 16 f_176_9 rfl hyp (fun _ hyp => ?_) (fun _ hyp => ?_)
        · refine ls_iconst 0 f_176_16 (by decide) ?_
          refine ls_zreturn f_176_17 rZ_176 (by decide) ?_
          show lm_W _ _ _ _ [.int 0, .int (lm_i h 92 15), .ref 100] _ _
          refine ls_if_eq_T 157 f_178_149 rfl (by decide) ?_
          refine ls_bipush 100 f_178_157 (by decide) ?_
          refine ls_iload_n f_178_159 rfl ?_
          refine ls_sipush 255 f_178_160 (by decide) ?_
          refine ls_iand (x3 &&& 255) f_178_163 rfl ?_
          refine ls_iadd (100 + (x3 &&& 255)) f_178_164 rfl ?_
          refine ls_iast f_178_165 (lm_Lay_si (lm_Lay_si hl _ _ _) _ _ _) S_100 hyp (fun hyp => ?_)
          refine ls_iload_n f_178_166 rfl ?_
          refine ls_istore [some (.ref 92), some (.int x1), some (.int x2), some (.int x3), some (.int x4), some (.int x2)] f_178_167 (Nat.le_of_ble_eq_true rfl) rfl ?_
          exact ls_mask [true, true, false, true, true, true] [some (.ref 92), some (.int x1), none, some (.int x3), some (.int x4), some (.int x2)] rfl hyp
        · refine ls_iconst 1 f_176_12 (by decide) ?_
          refine ls_goto 17 f_176_13 rfl ?_
          refine ls_zreturn f_176_17 rZ_176 (by decide) ?_
          show lm_W _ _ _ _ [.int 1, .int (lm_i h 92 15), .ref 100] _ _
          refine ls_if_eq_F 157 f_178_149 rfl (by decide) ?_
          refine ls_bipush 50 f_178_152 (by decide) ?_
          refine ls_goto 165 f_178_154 rfl ?_
          refine ls_iast f_178_165 (lm_Lay_si (lm_Lay_si hl _ _ _) _ _ _) S_100 hyp (fun hyp => ?_)
          refine ls_iload_n f_178_166 rfl ?_
          refine ls_istore [some (.ref 92), some (.int x1), some (.int x2), some (.int x3), some (.int x4), some (.int x2)] f_178_167 (Nat.le_of_ble_eq_true rfl) rfl ?_
          exact ls_mask [true, true, false, true, true, true] [some (.ref 92), some (.int x1), none, some (.int x3), some (.int x4), some (.int x2)] rfl hyp
    · refine ls_iload_n f_175_6 rfl ?_
      refine ls_bipush 122 f_175_7 (by decide) ?_
      refine ls_icmp_gt 16 f_175_9 rfl hyp (fun _ hyp => ?_) (fun _ hyp => ?_)
      · refine ls_iconst 0 f_175_16 (by decide) ?_
        refine ls_zreturn f_175_17 rZ_175 (by decide) ?_
        show lm_W _ _ _ _ [.int 0, .int (lm_i h 92 15), .ref 100] _ _
        refine ls_if_eq_T 145 f_178_132 rfl (by decide) ?_
        refine ls_iload_n f_178_145 rfl ?_
        refine ls_invS f_178_146 q_178_151 [.int x3] [.int (lm_i h 92 15), .ref 100] rfl (Nat.le_of_ble_eq_true rfl) ?_
        refine ls_enter [some (.int x3)] ml_176 (Nat.le_of_ble_eq_true rfl) rfl ?_
        refine ls_iload_n f_176_0 rfl ?_
        refine ls_bipush 48 f_176_1 (by decide) ?_
        refine ls_icmp_lt 16 f_176_3 rfl hyp (fun _ hyp => ?_) (fun _ hyp => ?_)
        · refine ls_iconst 0 f_176_16 (by decide) ?_
          refine ls_zreturn f_176_17 rZ_176 (by decide) ?_
          show lm_W _ _ _ _ [.int 0, .int (lm_i h 92 15), .ref 100] _ _
          refine ls_if_eq_T 157 f_178_149 rfl (by decide) ?_
          refine ls_bipush 100 f_178_157 (by decide) ?_
          refine ls_iload_n f_178_159 rfl ?_
          refine ls_sipush 255 f_178_160 (by decide) ?_
          refine ls_iand (x3 &&& 255) f_178_163 rfl ?_
          refine ls_iadd (100 + (x3 &&& 255)) f_178_164 rfl ?_
          refine ls_iast f_178_165 (lm_Lay_si (lm_Lay_si hl _ _ _) _ _ _) S_100 hyp (fun hyp => ?_)
          refine ls_iload_n f_178_166 rfl ?_
          refine ls_istore [some (.ref 92), some (.int x1), some (.int x2), some (.int x3), some (.int x4), some (.int x2)] f_178_167 (Nat.le_of_ble_eq_true rfl) rfl ?_
          exact ls_mask [true, true, false, true, true, true] [some (.ref 92), some (.int x1), none, some (.int x3), some (.int x4), some (.int x2)] rfl hyp
        · refine ls_iload_n f_176_6 rfl ?_
          refine ls_bipush 57 f_176_7 (by decide) ?_
          refine ls_icmp_gt 16 f_176_9 rfl hyp (fun _ hyp => ?_) (fun _ hyp => ?_)
          · refine ls_iconst 0 f_176_16 (by decide) ?_
            refine ls_zreturn f_176_17 rZ_176 (by decide) ?_
            show lm_W _ _ _ _ [.int 0, .int (lm_i h 92 15), .ref 100] _ _
            refine ls_if_eq_T 157 f_178_149 rfl (by decide) ?_
            refine ls_bipush 100 f_178_157 (by decide) ?_
            refine ls_iload_n f_178_159 rfl ?_
            refine ls_sipush 255 f_178_160 (by decide) ?_
            refine ls_iand (x3 &&& 255) f_178_163 rfl ?_
            refine ls_iadd (100 + (x3 &&& 255)) f_178_164 rfl ?_
            refine ls_iast f_178_165 (lm_Lay_si (lm_Lay_si hl _ _ _) _ _ _) S_100 hyp (fun hyp => ?_)
            refine ls_iload_n f_178_166 rfl ?_
            refine ls_istore [some (.ref 92), some (.int x1), some (.int x2), some (.int x3), some (.int x4), some (.int x2)] f_178_167 (Nat.le_of_ble_eq_true rfl) rfl ?_
            exact ls_mask [true, true, false, true, true, true] [some (.ref 92), some (.int x1), none, some (.int x3), some (.int x4), some (.int x2)] rfl hyp
          · refine ls_iconst 1 f_176_12 (by decide) ?_
            refine ls_goto 17 f_176_13 rfl ?_
            refine ls_zreturn f_176_17 rZ_176 (by decide) ?_
            show lm_W _ _ _ _ [.int 1, .int (lm_i h 92 15), .ref 100] _ _
            refine ls_if_eq_F 157 f_178_149 rfl (by decide) ?_
            refine ls_bipush 50 f_178_152 (by decide) ?_
            refine ls_goto 165 f_178_154 rfl ?_
            refine ls_iast f_178_165 (lm_Lay_si (lm_Lay_si hl _ _ _) _ _ _) S_100 hyp (fun hyp => ?_)
            refine ls_iload_n f_178_166 rfl ?_
            refine ls_istore [some (.ref 92), some (.int x1), some (.int x2), some (.int x3), some (.int x4), some (.int x2)] f_178_167 (Nat.le_of_ble_eq_true rfl) rfl ?_
            exact ls_mask [true, true, false, true, true, true] [some (.ref 92), some (.int x1), none, some (.int x3), some (.int x4), some (.int x2)] rfl hyp
      · refine ls_iconst 1 f_175_12 (by decide) ?_
        refine ls_goto 17 f_175_13 rfl ?_
        refine ls_zreturn f_175_17 rZ_175 (by decide) ?_
        show lm_W _ _ _ _ [.int 1, .int (lm_i h 92 15), .ref 100] _ _
        refine ls_if_eq_F 145 f_178_132 rfl (by decide) ?_
        refine ls_aload_n f_178_135 rfl ?_
        refine ls_iload_n f_178_136 rfl ?_
        refine ls_iload f_178_137 rfl ?_
        refine ls_invV (a := 92) f_178_139 q_178_154 [.int x2, .int x4] [.int (lm_i h 92 15), .ref 100] rfl (Nat.le_of_ble_eq_true rfl) (lm_Lay_si (lm_Lay_si hl _ _ _) _ _ _) S_92 ow_177 ?_
        refine ls_call hyp (lm_Lay_si (lm_Lay_si hl _ _ _) _ _ _) (fun _ h5 hl5 hyp => ?_)
        refine ls_retI hyp (fun r6 hyp => ?_)
        refine ls_goto 165 f_178_142 rfl ?_
        refine ls_iast f_178_165 hl5 S_100 hyp (fun hyp => ?_)
        refine ls_iload_n f_178_166 rfl ?_
        refine ls_istore [some (.ref 92), some (.int x1), some (.int x2), some (.int x3), some (.int x4), some (.int x2)] f_178_167 (Nat.le_of_ble_eq_true rfl) rfl ?_
        exact ls_mask [true, true, false, true, true, true] [some (.ref 92), some (.int x1), none, some (.int x3), some (.int x4), some (.int x2)] rfl hyp
theorem b_178_43 {d : Nat} {h : lm_H} {K : lm_H → Prop} (x1 : Int32) (x2 : Int32) (x3 : Int32) (x4 : Int32) (hl : lm_Lay h) (hyp : (if x4 < x1 then (lm_in x4 400 False (if (lm_i h 98 x4.toNatClampNeg) < 97 then (if x3 < 48 then (lm_in (lm_i h 92 15) 401 False (lm_in (lm_i h 92 15) 401 False (if x3 < 97 then (if x3 < 48 then (lm_in (lm_i h 92 15) 401 False (lm_W (d + 1) 178 169 [some (.ref 92), some (.int x1), none, some (.int x3), some (.int x4), some (.int x2)] [] (lm_si (lm_si (lm_si h 102 ((lm_i h 92 15).toNatClampNeg) x2) 101 ((lm_i h 92 15).toNatClampNeg) 0) 100 ((lm_i h 92 15).toNatClampNeg) (100 + (x3 &&& 255))) (lm_kV K))) else (if 57 < x3 then (lm_in (lm_i h 92 15) 401 False (lm_W (d + 1) 178 169 [some (.ref 92), some (.int x1), none, some (.int x3), some (.int x4), some (.int x2)] [] (lm_si (lm_si (lm_si h 102 ((lm_i h 92 15).toNatClampNeg) x2) 101 ((lm_i h 92 15).toNatClampNeg) 0) 100 ((lm_i h 92 15).toNatClampNeg) (100 + (x3 &&& 255))) (lm_kV K))) else (lm_in (lm_i h 92 15) 401 False (lm_W (d + 1) 178 169 [some (.ref 92), some (.int x1), none, some (.int x3), some (.int x4), some (.int x2)] [] (lm_si (lm_si (lm_si h 102 ((lm_i h 92 15).toNatClampNeg) x2) 101 ((lm_i h 92 15).toNatClampNeg) 0) 100 ((lm_i h 92 15).toNatClampNeg) 50) (lm_kV K))))) else (if 122 < x3 then (if x3 < 48 then (lm_in (lm_i h 92 15) 401 False (lm_W (d + 1) 178 169 [some (.ref 92), some (.int x1), none, some (.int x3), some (.int x4), some (.int x2)] [] (lm_si (lm_si (lm_si h 102 ((lm_i h 92 15).toNatClampNeg) x2) 101 ((lm_i h 92 15).toNatClampNeg) 0) 100 ((lm_i h 92 15).toNatClampNeg) (100 + (x3 &&& 255))) (lm_kV K))) else (if 57 < x3 then (lm_in (lm_i h 92 15) 401 False (lm_W (d + 1) 178 169 [some (.ref 92), some (.int x1), none, some (.int x3), some (.int x4), some (.int x2)] [] (lm_si (lm_si (lm_si h 102 ((lm_i h 92 15).toNatClampNeg) x2) 101 ((lm_i h 92 15).toNatClampNeg) 0) 100 ((lm_i h 92 15).toNatClampNeg) (100 + (x3 &&& 255))) (lm_kV K))) else (lm_in (lm_i h 92 15) 401 False (lm_W (d + 1) 178 169 [some (.ref 92), some (.int x1), none, some (.int x3), some (.int x4), some (.int x2)] [] (lm_si (lm_si (lm_si h 102 ((lm_i h 92 15).toNatClampNeg) x2) 101 ((lm_i h 92 15).toNatClampNeg) 0) 100 ((lm_i h 92 15).toNatClampNeg) 50) (lm_kV K))))) else (lm_call (d + 1) 177 [.ref 92, .int x2, .int x4] (lm_si (lm_si h 102 ((lm_i h 92 15).toNatClampNeg) x2) 101 ((lm_i h 92 15).toNatClampNeg) 0) (lm_kI fun r2 h1 => lm_in (lm_i h 92 15) 401 False (lm_W (d + 1) 178 169 [some (.ref 92), some (.int x1), none, some (.int x3), some (.int x4), some (.int x2)] [] (lm_si h1 100 ((lm_i h 92 15).toNatClampNeg) r2) (lm_kV K)))))))) else (if 57 < x3 then (lm_in (lm_i h 92 15) 401 False (lm_in (lm_i h 92 15) 401 False (if x3 < 97 then (if x3 < 48 then (lm_in (lm_i h 92 15) 401 False (lm_W (d + 1) 178 169 [some (.ref 92), some (.int x1), none, some (.int x3), some (.int x4), some (.int x2)] [] (lm_si (lm_si (lm_si h 102 ((lm_i h 92 15).toNatClampNeg) x2) 101 ((lm_i h 92 15).toNatClampNeg) 0) 100 ((lm_i h 92 15).toNatClampNeg) (100 + (x3 &&& 255))) (lm_kV K))) else (if 57 < x3 then (lm_in (lm_i h 92 15) 401 False (lm_W (d + 1) 178 169 [some (.ref 92), some (.int x1), none, some (.int x3), some (.int x4), some (.int x2)] [] (lm_si (lm_si (lm_si h 102 ((lm_i h 92 15).toNatClampNeg) x2) 101 ((lm_i h 92 15).toNatClampNeg) 0) 100 ((lm_i h 92 15).toNatClampNeg) (100 + (x3 &&& 255))) (lm_kV K))) else (lm_in (lm_i h 92 15) 401 False (lm_W (d + 1) 178 169 [some (.ref 92), some (.int x1), none, some (.int x3), some (.int x4), some (.int x2)] [] (lm_si (lm_si (lm_si h 102 ((lm_i h 92 15).toNatClampNeg) x2) 101 ((lm_i h 92 15).toNatClampNeg) 0) 100 ((lm_i h 92 15).toNatClampNeg) 50) (lm_kV K))))) else (if 122 < x3 then (if x3 < 48 then (lm_in (lm_i h 92 15) 401 False (lm_W (d + 1) 178 169 [some (.ref 92), some (.int x1), none, some (.int x3), some (.int x4), some (.int x2)] [] (lm_si (lm_si (lm_si h 102 ((lm_i h 92 15).toNatClampNeg) x2) 101 ((lm_i h 92 15).toNatClampNeg) 0) 100 ((lm_i h 92 15).toNatClampNeg) (100 + (x3 &&& 255))) (lm_kV K))) else (if 57 < x3 then (lm_in (lm_i h 92 15) 401 False (lm_W (d + 1) 178 169 [some (.ref 92), some (.int x1), none, some (.int x3), some (.int x4), some (.int x2)] [] (lm_si (lm_si (lm_si h 102 ((lm_i h 92 15).toNatClampNeg) x2) 101 ((lm_i h 92 15).toNatClampNeg) 0) 100 ((lm_i h 92 15).toNatClampNeg) (100 + (x3 &&& 255))) (lm_kV K))) else (lm_in (lm_i h 92 15) 401 False (lm_W (d + 1) 178 169 [some (.ref 92), some (.int x1), none, some (.int x3), some (.int x4), some (.int x2)] [] (lm_si (lm_si (lm_si h 102 ((lm_i h 92 15).toNatClampNeg) x2) 101 ((lm_i h 92 15).toNatClampNeg) 0) 100 ((lm_i h 92 15).toNatClampNeg) 50) (lm_kV K))))) else (lm_call (d + 1) 177 [.ref 92, .int x2, .int x4] (lm_si (lm_si h 102 ((lm_i h 92 15).toNatClampNeg) x2) 101 ((lm_i h 92 15).toNatClampNeg) 0) (lm_kI fun r4 h3 => lm_in (lm_i h 92 15) 401 False (lm_W (d + 1) 178 169 [some (.ref 92), some (.int x1), none, some (.int x3), some (.int x4), some (.int x2)] [] (lm_si h3 100 ((lm_i h 92 15).toNatClampNeg) r4) (lm_kV K)))))))) else (lm_W (d + 1) 178 75 [some (.ref 92), some (.int x1), some (.int x2), some (.int x3), some (.int x4), none] [] h (lm_kV K)))) else (if 122 < (lm_i h 98 x4.toNatClampNeg) then (if x3 < 48 then (lm_in (lm_i h 92 15) 401 False (lm_in (lm_i h 92 15) 401 False (if x3 < 97 then (if x3 < 48 then (lm_in (lm_i h 92 15) 401 False (lm_W (d + 1) 178 169 [some (.ref 92), some (.int x1), none, some (.int x3), some (.int x4), some (.int x2)] [] (lm_si (lm_si (lm_si h 102 ((lm_i h 92 15).toNatClampNeg) x2) 101 ((lm_i h 92 15).toNatClampNeg) 0) 100 ((lm_i h 92 15).toNatClampNeg) (100 + (x3 &&& 255))) (lm_kV K))) else (if 57 < x3 then (lm_in (lm_i h 92 15) 401 False (lm_W (d + 1) 178 169 [some (.ref 92), some (.int x1), none, some (.int x3), some (.int x4), some (.int x2)] [] (lm_si (lm_si (lm_si h 102 ((lm_i h 92 15).toNatClampNeg) x2) 101 ((lm_i h 92 15).toNatClampNeg) 0) 100 ((lm_i h 92 15).toNatClampNeg) (100 + (x3 &&& 255))) (lm_kV K))) else (lm_in (lm_i h 92 15) 401 False (lm_W (d + 1) 178 169 [some (.ref 92), some (.int x1), none, some (.int x3), some (.int x4), some (.int x2)] [] (lm_si (lm_si (lm_si h 102 ((lm_i h 92 15).toNatClampNeg) x2) 101 ((lm_i h 92 15).toNatClampNeg) 0) 100 ((lm_i h 92 15).toNatClampNeg) 50) (lm_kV K))))) else (if 122 < x3 then (if x3 < 48 then (lm_in (lm_i h 92 15) 401 False (lm_W (d + 1) 178 169 [some (.ref 92), some (.int x1), none, some (.int x3), some (.int x4), some (.int x2)] [] (lm_si (lm_si (lm_si h 102 ((lm_i h 92 15).toNatClampNeg) x2) 101 ((lm_i h 92 15).toNatClampNeg) 0) 100 ((lm_i h 92 15).toNatClampNeg) (100 + (x3 &&& 255))) (lm_kV K))) else (if 57 < x3 then (lm_in (lm_i h 92 15) 401 False (lm_W (d + 1) 178 169 [some (.ref 92), some (.int x1), none, some (.int x3), some (.int x4), some (.int x2)] [] (lm_si (lm_si (lm_si h 102 ((lm_i h 92 15).toNatClampNeg) x2) 101 ((lm_i h 92 15).toNatClampNeg) 0) 100 ((lm_i h 92 15).toNatClampNeg) (100 + (x3 &&& 255))) (lm_kV K))) else (lm_in (lm_i h 92 15) 401 False (lm_W (d + 1) 178 169 [some (.ref 92), some (.int x1), none, some (.int x3), some (.int x4), some (.int x2)] [] (lm_si (lm_si (lm_si h 102 ((lm_i h 92 15).toNatClampNeg) x2) 101 ((lm_i h 92 15).toNatClampNeg) 0) 100 ((lm_i h 92 15).toNatClampNeg) 50) (lm_kV K))))) else (lm_call (d + 1) 177 [.ref 92, .int x2, .int x4] (lm_si (lm_si h 102 ((lm_i h 92 15).toNatClampNeg) x2) 101 ((lm_i h 92 15).toNatClampNeg) 0) (lm_kI fun r6 h5 => lm_in (lm_i h 92 15) 401 False (lm_W (d + 1) 178 169 [some (.ref 92), some (.int x1), none, some (.int x3), some (.int x4), some (.int x2)] [] (lm_si h5 100 ((lm_i h 92 15).toNatClampNeg) r6) (lm_kV K)))))))) else (if 57 < x3 then (lm_in (lm_i h 92 15) 401 False (lm_in (lm_i h 92 15) 401 False (if x3 < 97 then (if x3 < 48 then (lm_in (lm_i h 92 15) 401 False (lm_W (d + 1) 178 169 [some (.ref 92), some (.int x1), none, some (.int x3), some (.int x4), some (.int x2)] [] (lm_si (lm_si (lm_si h 102 ((lm_i h 92 15).toNatClampNeg) x2) 101 ((lm_i h 92 15).toNatClampNeg) 0) 100 ((lm_i h 92 15).toNatClampNeg) (100 + (x3 &&& 255))) (lm_kV K))) else (if 57 < x3 then (lm_in (lm_i h 92 15) 401 False (lm_W (d + 1) 178 169 [some (.ref 92), some (.int x1), none, some (.int x3), some (.int x4), some (.int x2)] [] (lm_si (lm_si (lm_si h 102 ((lm_i h 92 15).toNatClampNeg) x2) 101 ((lm_i h 92 15).toNatClampNeg) 0) 100 ((lm_i h 92 15).toNatClampNeg) (100 + (x3 &&& 255))) (lm_kV K))) else (lm_in (lm_i h 92 15) 401 False (lm_W (d + 1) 178 169 [some (.ref 92), some (.int x1), none, some (.int x3), some (.int x4), some (.int x2)] [] (lm_si (lm_si (lm_si h 102 ((lm_i h 92 15).toNatClampNeg) x2) 101 ((lm_i h 92 15).toNatClampNeg) 0) 100 ((lm_i h 92 15).toNatClampNeg) 50) (lm_kV K))))) else (if 122 < x3 then (if x3 < 48 then (lm_in (lm_i h 92 15) 401 False (lm_W (d + 1) 178 169 [some (.ref 92), some (.int x1), none, some (.int x3), some (.int x4), some (.int x2)] [] (lm_si (lm_si (lm_si h 102 ((lm_i h 92 15).toNatClampNeg) x2) 101 ((lm_i h 92 15).toNatClampNeg) 0) 100 ((lm_i h 92 15).toNatClampNeg) (100 + (x3 &&& 255))) (lm_kV K))) else (if 57 < x3 then (lm_in (lm_i h 92 15) 401 False (lm_W (d + 1) 178 169 [some (.ref 92), some (.int x1), none, some (.int x3), some (.int x4), some (.int x2)] [] (lm_si (lm_si (lm_si h 102 ((lm_i h 92 15).toNatClampNeg) x2) 101 ((lm_i h 92 15).toNatClampNeg) 0) 100 ((lm_i h 92 15).toNatClampNeg) (100 + (x3 &&& 255))) (lm_kV K))) else (lm_in (lm_i h 92 15) 401 False (lm_W (d + 1) 178 169 [some (.ref 92), some (.int x1), none, some (.int x3), some (.int x4), some (.int x2)] [] (lm_si (lm_si (lm_si h 102 ((lm_i h 92 15).toNatClampNeg) x2) 101 ((lm_i h 92 15).toNatClampNeg) 0) 100 ((lm_i h 92 15).toNatClampNeg) 50) (lm_kV K))))) else (lm_call (d + 1) 177 [.ref 92, .int x2, .int x4] (lm_si (lm_si h 102 ((lm_i h 92 15).toNatClampNeg) x2) 101 ((lm_i h 92 15).toNatClampNeg) 0) (lm_kI fun r8 h7 => lm_in (lm_i h 92 15) 401 False (lm_W (d + 1) 178 169 [some (.ref 92), some (.int x1), none, some (.int x3), some (.int x4), some (.int x2)] [] (lm_si h7 100 ((lm_i h 92 15).toNatClampNeg) r8) (lm_kV K)))))))) else (lm_W (d + 1) 178 75 [some (.ref 92), some (.int x1), some (.int x2), some (.int x3), some (.int x4), none] [] h (lm_kV K)))) else (lm_W (d + 1) 178 43 [some (.ref 92), some (.int x1), some (.int x2), some (.int x3), some (.int (x4 + 1)), none] [] h (lm_kV K))))) else (if x3 < 48 then (lm_in (lm_i h 92 15) 401 False (lm_in (lm_i h 92 15) 401 False (if x3 < 97 then (if x3 < 48 then (lm_in (lm_i h 92 15) 401 False (lm_W (d + 1) 178 169 [some (.ref 92), some (.int x1), none, some (.int x3), some (.int x4), some (.int x2)] [] (lm_si (lm_si (lm_si h 102 ((lm_i h 92 15).toNatClampNeg) x2) 101 ((lm_i h 92 15).toNatClampNeg) 0) 100 ((lm_i h 92 15).toNatClampNeg) (100 + (x3 &&& 255))) (lm_kV K))) else (if 57 < x3 then (lm_in (lm_i h 92 15) 401 False (lm_W (d + 1) 178 169 [some (.ref 92), some (.int x1), none, some (.int x3), some (.int x4), some (.int x2)] [] (lm_si (lm_si (lm_si h 102 ((lm_i h 92 15).toNatClampNeg) x2) 101 ((lm_i h 92 15).toNatClampNeg) 0) 100 ((lm_i h 92 15).toNatClampNeg) (100 + (x3 &&& 255))) (lm_kV K))) else (lm_in (lm_i h 92 15) 401 False (lm_W (d + 1) 178 169 [some (.ref 92), some (.int x1), none, some (.int x3), some (.int x4), some (.int x2)] [] (lm_si (lm_si (lm_si h 102 ((lm_i h 92 15).toNatClampNeg) x2) 101 ((lm_i h 92 15).toNatClampNeg) 0) 100 ((lm_i h 92 15).toNatClampNeg) 50) (lm_kV K))))) else (if 122 < x3 then (if x3 < 48 then (lm_in (lm_i h 92 15) 401 False (lm_W (d + 1) 178 169 [some (.ref 92), some (.int x1), none, some (.int x3), some (.int x4), some (.int x2)] [] (lm_si (lm_si (lm_si h 102 ((lm_i h 92 15).toNatClampNeg) x2) 101 ((lm_i h 92 15).toNatClampNeg) 0) 100 ((lm_i h 92 15).toNatClampNeg) (100 + (x3 &&& 255))) (lm_kV K))) else (if 57 < x3 then (lm_in (lm_i h 92 15) 401 False (lm_W (d + 1) 178 169 [some (.ref 92), some (.int x1), none, some (.int x3), some (.int x4), some (.int x2)] [] (lm_si (lm_si (lm_si h 102 ((lm_i h 92 15).toNatClampNeg) x2) 101 ((lm_i h 92 15).toNatClampNeg) 0) 100 ((lm_i h 92 15).toNatClampNeg) (100 + (x3 &&& 255))) (lm_kV K))) else (lm_in (lm_i h 92 15) 401 False (lm_W (d + 1) 178 169 [some (.ref 92), some (.int x1), none, some (.int x3), some (.int x4), some (.int x2)] [] (lm_si (lm_si (lm_si h 102 ((lm_i h 92 15).toNatClampNeg) x2) 101 ((lm_i h 92 15).toNatClampNeg) 0) 100 ((lm_i h 92 15).toNatClampNeg) 50) (lm_kV K))))) else (lm_call (d + 1) 177 [.ref 92, .int x2, .int x4] (lm_si (lm_si h 102 ((lm_i h 92 15).toNatClampNeg) x2) 101 ((lm_i h 92 15).toNatClampNeg) 0) (lm_kI fun r10 h9 => lm_in (lm_i h 92 15) 401 False (lm_W (d + 1) 178 169 [some (.ref 92), some (.int x1), none, some (.int x3), some (.int x4), some (.int x2)] [] (lm_si h9 100 ((lm_i h 92 15).toNatClampNeg) r10) (lm_kV K)))))))) else (if 57 < x3 then (lm_in (lm_i h 92 15) 401 False (lm_in (lm_i h 92 15) 401 False (if x3 < 97 then (if x3 < 48 then (lm_in (lm_i h 92 15) 401 False (lm_W (d + 1) 178 169 [some (.ref 92), some (.int x1), none, some (.int x3), some (.int x4), some (.int x2)] [] (lm_si (lm_si (lm_si h 102 ((lm_i h 92 15).toNatClampNeg) x2) 101 ((lm_i h 92 15).toNatClampNeg) 0) 100 ((lm_i h 92 15).toNatClampNeg) (100 + (x3 &&& 255))) (lm_kV K))) else (if 57 < x3 then (lm_in (lm_i h 92 15) 401 False (lm_W (d + 1) 178 169 [some (.ref 92), some (.int x1), none, some (.int x3), some (.int x4), some (.int x2)] [] (lm_si (lm_si (lm_si h 102 ((lm_i h 92 15).toNatClampNeg) x2) 101 ((lm_i h 92 15).toNatClampNeg) 0) 100 ((lm_i h 92 15).toNatClampNeg) (100 + (x3 &&& 255))) (lm_kV K))) else (lm_in (lm_i h 92 15) 401 False (lm_W (d + 1) 178 169 [some (.ref 92), some (.int x1), none, some (.int x3), some (.int x4), some (.int x2)] [] (lm_si (lm_si (lm_si h 102 ((lm_i h 92 15).toNatClampNeg) x2) 101 ((lm_i h 92 15).toNatClampNeg) 0) 100 ((lm_i h 92 15).toNatClampNeg) 50) (lm_kV K))))) else (if 122 < x3 then (if x3 < 48 then (lm_in (lm_i h 92 15) 401 False (lm_W (d + 1) 178 169 [some (.ref 92), some (.int x1), none, some (.int x3), some (.int x4), some (.int x2)] [] (lm_si (lm_si (lm_si h 102 ((lm_i h 92 15).toNatClampNeg) x2) 101 ((lm_i h 92 15).toNatClampNeg) 0) 100 ((lm_i h 92 15).toNatClampNeg) (100 + (x3 &&& 255))) (lm_kV K))) else (if 57 < x3 then (lm_in (lm_i h 92 15) 401 False (lm_W (d + 1) 178 169 [some (.ref 92), some (.int x1), none, some (.int x3), some (.int x4), some (.int x2)] [] (lm_si (lm_si (lm_si h 102 ((lm_i h 92 15).toNatClampNeg) x2) 101 ((lm_i h 92 15).toNatClampNeg) 0) 100 ((lm_i h 92 15).toNatClampNeg) (100 + (x3 &&& 255))) (lm_kV K))) else (lm_in (lm_i h 92 15) 401 False (lm_W (d + 1) 178 169 [some (.ref 92), some (.int x1), none, some (.int x3), some (.int x4), some (.int x2)] [] (lm_si (lm_si (lm_si h 102 ((lm_i h 92 15).toNatClampNeg) x2) 101 ((lm_i h 92 15).toNatClampNeg) 0) 100 ((lm_i h 92 15).toNatClampNeg) 50) (lm_kV K))))) else (lm_call (d + 1) 177 [.ref 92, .int x2, .int x4] (lm_si (lm_si h 102 ((lm_i h 92 15).toNatClampNeg) x2) 101 ((lm_i h 92 15).toNatClampNeg) 0) (lm_kI fun r12 h11 => lm_in (lm_i h 92 15) 401 False (lm_W (d + 1) 178 169 [some (.ref 92), some (.int x1), none, some (.int x3), some (.int x4), some (.int x2)] [] (lm_si h11 100 ((lm_i h 92 15).toNatClampNeg) r12) (lm_kV K)))))))) else (lm_W (d + 1) 178 75 [some (.ref 92), some (.int x1), some (.int x2), some (.int x3), some (.int x4), none] [] h (lm_kV K)))))) : lm_W (d + 1) 178 43 [some (.ref 92), some (.int x1), some (.int x2), some (.int x3), some (.int x4), none] [] h (lm_kV K) := by
  refine ls_iload f_178_43 rfl ?_
  refine ls_iload_n f_178_45 rfl ?_
  refine ls_icmp_ge 68 f_178_46 rfl hyp (fun _ hyp => ?_) (fun _ hyp => ?_)
  · refine ls_aload_n f_178_49 rfl ?_
    refine ls_getR f_178_50 p_178_39 hl S_92 F_92_8 ?_
    refine ls_iload f_178_53 rfl ?_
    refine ls_bald f_178_55 hl S_98 hyp (fun hyp => ?_)
    refine ls_invS f_178_56 q_178_148 [.int (lm_i h 98 x4.toNatClampNeg)] [] rfl (Nat.le_of_ble_eq_true rfl) ?_
    refine ls_enter [some (.int (lm_i h 98 x4.toNatClampNeg))] ml_175 (Nat.le_of_ble_eq_true rfl) rfl ?_
    refine ls_iload_n f_175_0 rfl ?_
    refine ls_bipush 97 f_175_1 (by decide) ?_
    refine ls_icmp_lt 16 f_175_3 rfl hyp (fun _ hyp => ?_) (fun _ hyp => ?_)
    · refine ls_iconst 0 f_175_16 (by decide) ?_
      refine ls_zreturn f_175_17 rZ_175 (by decide) ?_
      show lm_W _ _ _ _ [.int 0] _ _
      refine ls_if_eq_T 68 f_178_59 rfl (by decide) ?_
      refine ls_iload_n f_178_68 rfl ?_
      refine ls_invS f_178_69 q_178_151 [.int x3] [] rfl (Nat.le_of_ble_eq_true rfl) ?_
      refine ls_enter [some (.int x3)] ml_176 (Nat.le_of_ble_eq_true rfl) rfl ?_
      refine ls_iload_n f_176_0 rfl ?_
      refine ls_bipush 48 f_176_1 (by decide) ?_
      refine ls_icmp_lt 16 f_176_3 rfl hyp (fun _ hyp => ?_) (fun _ hyp => ?_)
      · refine ls_iconst 0 f_176_16 (by decide) ?_
        refine ls_zreturn f_176_17 rZ_176 (by decide) ?_
        show lm_W _ _ _ _ [.int 0] _ _
        refine ls_if_eq_T 100 f_178_72 rfl (by decide) ?_
        refine ls_aload_n f_178_100 rfl ?_
        refine ls_getR f_178_101 p_178_54 hl S_92 F_92_14 ?_
        refine ls_aload_n f_178_104 rfl ?_
        refine ls_getI f_178_105 p_178_145 hl S_92 ?_
        refine ls_iload_n f_178_108 rfl ?_
        refine ls_iast f_178_109 hl S_102 hyp (fun hyp => ?_)
        refine ls_aload_n f_178_110 rfl ?_
        refine ls_getR f_178_111 p_178_51 (lm_Lay_si hl _ _ _) S_92 F_92_13 ?_
        refine ls_aload_n f_178_114 rfl ?_
        refine ls_getI f_178_115 p_178_145 (lm_Lay_si hl _ _ _) S_92 ?_
        refine ls_top (lm_i h 92 15) rfl ?_
        refine ls_iconst 0 f_178_118 (by decide) ?_
        refine ls_iast f_178_119 (lm_Lay_si hl _ _ _) S_101 hyp (fun hyp => ?_)
        refine ls_aload_n f_178_120 rfl ?_
        refine ls_getR f_178_121 p_178_48 (lm_Lay_si (lm_Lay_si hl _ _ _) _ _ _) S_92 F_92_12 ?_
        refine ls_aload_n f_178_124 rfl ?_
        refine ls_getI f_178_125 p_178_145 (lm_Lay_si (lm_Lay_si hl _ _ _) _ _ _) S_92 ?_
        refine ls_top (lm_i h 92 15) rfl ?_
        refine ls_iload_n f_178_128 rfl ?_
        refine ls_invS f_178_129 q_178_148 [.int x3] [.int (lm_i h 92 15), .ref 100] rfl (Nat.le_of_ble_eq_true rfl) ?_
        refine ls_enter [some (.int x3)] ml_175 (Nat.le_of_ble_eq_true rfl) rfl ?_
        refine ls_iload_n f_175_0 rfl ?_
        refine ls_bipush 97 f_175_1 (by decide) ?_
        refine ls_icmp_lt 16 f_175_3 rfl hyp (fun _ hyp => ?_) (fun _ hyp => ?_)
        · refine ls_iconst 0 f_175_16 (by decide) ?_
          refine ls_zreturn f_175_17 rZ_175 (by decide) ?_
          show lm_W _ _ _ _ [.int 0, .int (lm_i h 92 15), .ref 100] _ _
          refine ls_if_eq_T 145 f_178_132 rfl (by decide) ?_
          refine ls_iload_n f_178_145 rfl ?_
          refine ls_invS f_178_146 q_178_151 [.int x3] [.int (lm_i h 92 15), .ref 100] rfl (Nat.le_of_ble_eq_true rfl) ?_
          refine ls_enter [some (.int x3)] ml_176 (Nat.le_of_ble_eq_true rfl) rfl ?_
          refine ls_iload_n f_176_0 rfl ?_
          refine ls_bipush 48 f_176_1 (by decide) ?_
          refine ls_icmp_lt 16 f_176_3 rfl hyp (fun _ hyp => ?_) (fun _ hyp => ?_)
          · refine ls_iconst 0 f_176_16 (by decide) ?_
            refine ls_zreturn f_176_17 rZ_176 (by decide) ?_
            show lm_W _ _ _ _ [.int 0, .int (lm_i h 92 15), .ref 100] _ _
            refine ls_if_eq_T 157 f_178_149 rfl (by decide) ?_
            refine ls_bipush 100 f_178_157 (by decide) ?_
            refine ls_iload_n f_178_159 rfl ?_
            refine ls_sipush 255 f_178_160 (by decide) ?_
            refine ls_iand (x3 &&& 255) f_178_163 rfl ?_
            refine ls_iadd (100 + (x3 &&& 255)) f_178_164 rfl ?_
            refine ls_iast f_178_165 (lm_Lay_si (lm_Lay_si hl _ _ _) _ _ _) S_100 hyp (fun hyp => ?_)
            refine ls_iload_n f_178_166 rfl ?_
            refine ls_istore [some (.ref 92), some (.int x1), some (.int x2), some (.int x3), some (.int x4), some (.int x2)] f_178_167 (Nat.le_of_ble_eq_true rfl) rfl ?_
            exact ls_mask [true, true, false, true, true, true] [some (.ref 92), some (.int x1), none, some (.int x3), some (.int x4), some (.int x2)] rfl hyp
          · refine ls_iload_n f_176_6 rfl ?_
            refine ls_bipush 57 f_176_7 (by decide) ?_
            refine ls_icmp_gt 16 f_176_9 rfl hyp (fun _ hyp => ?_) (fun _ hyp => ?_)
            · refine ls_iconst 0 f_176_16 (by decide) ?_
              refine ls_zreturn f_176_17 rZ_176 (by decide) ?_
              show lm_W _ _ _ _ [.int 0, .int (lm_i h 92 15), .ref 100] _ _
              refine ls_if_eq_T 157 f_178_149 rfl (by decide) ?_
              refine ls_bipush 100 f_178_157 (by decide) ?_
              refine ls_iload_n f_178_159 rfl ?_
              refine ls_sipush 255 f_178_160 (by decide) ?_
              refine ls_iand (x3 &&& 255) f_178_163 rfl ?_
              refine ls_iadd (100 + (x3 &&& 255)) f_178_164 rfl ?_
              refine ls_iast f_178_165 (lm_Lay_si (lm_Lay_si hl _ _ _) _ _ _) S_100 hyp (fun hyp => ?_)
              refine ls_iload_n f_178_166 rfl ?_
              refine ls_istore [some (.ref 92), some (.int x1), some (.int x2), some (.int x3), some (.int x4), some (.int x2)] f_178_167 (Nat.le_of_ble_eq_true rfl) rfl ?_
              exact ls_mask [true, true, false, true, true, true] [some (.ref 92), some (.int x1), none, some (.int x3), some (.int x4), some (.int x2)] rfl hyp
            · refine ls_iconst 1 f_176_12 (by decide) ?_
              refine ls_goto 17 f_176_13 rfl ?_
              refine ls_zreturn f_176_17 rZ_176 (by decide) ?_
              show lm_W _ _ _ _ [.int 1, .int (lm_i h 92 15), .ref 100] _ _
              refine ls_if_eq_F 157 f_178_149 rfl (by decide) ?_
              refine ls_bipush 50 f_178_152 (by decide) ?_
              refine ls_goto 165 f_178_154 rfl ?_
              refine ls_iast f_178_165 (lm_Lay_si (lm_Lay_si hl _ _ _) _ _ _) S_100 hyp (fun hyp => ?_)
              refine ls_iload_n f_178_166 rfl ?_
              refine ls_istore [some (.ref 92), some (.int x1), some (.int x2), some (.int x3), some (.int x4), some (.int x2)] f_178_167 (Nat.le_of_ble_eq_true rfl) rfl ?_
              exact ls_mask [true, true, false, true, true, true] [some (.ref 92), some (.int x1), none, some (.int x3), some (.int x4), some (.int x2)] rfl hyp
        · refine ls_iload_n f_175_6 rfl ?_
          refine ls_bipush 122 f_175_7 (by decide) ?_
          refine ls_icmp_gt 16 f_175_9 rfl hyp (fun _ hyp => ?_) (fun _ hyp => ?_)
          · refine ls_iconst 0 f_175_16 (by decide) ?_
            refine ls_zreturn f_175_17 rZ_175 (by decide) ?_
            show lm_W _ _ _ _ [.int 0, .int (lm_i h 92 15), .ref 100] _ _
            refine ls_if_eq_T 145 f_178_132 rfl (by decide) ?_
            refine ls_iload_n f_178_145 rfl ?_
            refine ls_invS f_178_146 q_178_151 [.int x3] [.int (lm_i h 92 15), .ref 100] rfl (Nat.le_of_ble_eq_true rfl) ?_
            refine ls_enter [some (.int x3)] ml_176 (Nat.le_of_ble_eq_true rfl) rfl ?_
            refine ls_iload_n f_176_0 rfl ?_
            refine ls_bipush 48 f_176_1 (by decide) ?_
            refine ls_icmp_lt 16 f_176_3 rfl hyp (fun _ hyp => ?_) (fun _ hyp => ?_)
            · refine ls_iconst 0 f_176_16 (by decide) ?_
              refine ls_zreturn f_176_17 rZ_176 (by decide) ?_
              show lm_W _ _ _ _ [.int 0, .int (lm_i h 92 15), .ref 100] _ _
              refine ls_if_eq_T 157 f_178_149 rfl (by decide) ?_
              refine ls_bipush 100 f_178_157 (by decide) ?_
              refine ls_iload_n f_178_159 rfl ?_
              refine ls_sipush 255 f_178_160 (by decide) ?_
              refine ls_iand (x3 &&& 255) f_178_163 rfl ?_
              refine ls_iadd (100 + (x3 &&& 255)) f_178_164 rfl ?_
              refine ls_iast f_178_165 (lm_Lay_si (lm_Lay_si hl _ _ _) _ _ _) S_100 hyp (fun hyp => ?_)
              refine ls_iload_n f_178_166 rfl ?_
              refine ls_istore [some (.ref 92), some (.int x1), some (.int x2), some (.int x3), some (.int x4), some (.int x2)] f_178_167 (Nat.le_of_ble_eq_true rfl) rfl ?_
              exact ls_mask [true, true, false, true, true, true] [some (.ref 92), some (.int x1), none, some (.int x3), some (.int x4), some (.int x2)] rfl hyp
            · refine ls_iload_n f_176_6 rfl ?_
              refine ls_bipush 57 f_176_7 (by decide) ?_
              refine ls_icmp_gt 16 f_176_9 rfl hyp (fun _ hyp => ?_) (fun _ hyp => ?_)
              · refine ls_iconst 0 f_176_16 (by decide) ?_
                refine ls_zreturn f_176_17 rZ_176 (by decide) ?_
                show lm_W _ _ _ _ [.int 0, .int (lm_i h 92 15), .ref 100] _ _
                refine ls_if_eq_T 157 f_178_149 rfl (by decide) ?_
                refine ls_bipush 100 f_178_157 (by decide) ?_
                refine ls_iload_n f_178_159 rfl ?_
                refine ls_sipush 255 f_178_160 (by decide) ?_
                refine ls_iand (x3 &&& 255) f_178_163 rfl ?_
                refine ls_iadd (100 + (x3 &&& 255)) f_178_164 rfl ?_
                refine ls_iast f_178_165 (lm_Lay_si (lm_Lay_si hl _ _ _) _ _ _) S_100 hyp (fun hyp => ?_)
                refine ls_iload_n f_178_166 rfl ?_
                refine ls_istore [some (.ref 92), some (.int x1), some (.int x2), some (.int x3), some (.int x4), some (.int x2)] f_178_167 (Nat.le_of_ble_eq_true rfl) rfl ?_
                exact ls_mask [true, true, false, true, true, true] [some (.ref 92), some (.int x1), none, some (.int x3), some (.int x4), some (.int x2)] rfl hyp
              · refine ls_iconst 1 f_176_12 (by decide) ?_
                refine ls_goto 17 f_176_13 rfl ?_
                refine ls_zreturn f_176_17 rZ_176 (by decide) ?_
                show lm_W _ _ _ _ [.int 1, .int (lm_i h 92 15), .ref 100] _ _
                refine ls_if_eq_F 157 f_178_149 rfl (by decide) ?_
                refine ls_bipush 50 f_178_152 (by decide) ?_
                refine ls_goto 165 f_178_154 rfl ?_
                refine ls_iast f_178_165 (lm_Lay_si (lm_Lay_si hl _ _ _) _ _ _) S_100 hyp (fun hyp => ?_)
                refine ls_iload_n f_178_166 rfl ?_
                refine ls_istore [some (.ref 92), some (.int x1), some (.int x2), some (.int x3), some (.int x4), some (.int x2)] f_178_167 (Nat.le_of_ble_eq_true rfl) rfl ?_
                exact ls_mask [true, true, false, true, true, true] [some (.ref 92), some (.int x1), none, some (.int x3), some (.int x4), some (.int x2)] rfl hyp
          · refine ls_iconst 1 f_175_12 (by decide) ?_
            refine ls_goto 17 f_175_13 rfl ?_
            refine ls_zreturn f_175_17 rZ_175 (by decide) ?_
            show lm_W _ _ _ _ [.int 1, .int (lm_i h 92 15), .ref 100] _ _
            refine ls_if_eq_F 145 f_178_132 rfl (by decide) ?_
            refine ls_aload_n f_178_135 rfl ?_
            refine ls_iload_n f_178_136 rfl ?_
            refine ls_iload f_178_137 rfl ?_
            refine ls_invV (a := 92) f_178_139 q_178_154 [.int x2, .int x4] [.int (lm_i h 92 15), .ref 100] rfl (Nat.le_of_ble_eq_true rfl) (lm_Lay_si (lm_Lay_si hl _ _ _) _ _ _) S_92 ow_177 ?_
            refine ls_call hyp (lm_Lay_si (lm_Lay_si hl _ _ _) _ _ _) (fun _ h1 hl1 hyp => ?_)
            refine ls_retI hyp (fun r2 hyp => ?_)
            refine ls_goto 165 f_178_142 rfl ?_
            refine ls_iast f_178_165 hl1 S_100 hyp (fun hyp => ?_)
            refine ls_iload_n f_178_166 rfl ?_
            refine ls_istore [some (.ref 92), some (.int x1), some (.int x2), some (.int x3), some (.int x4), some (.int x2)] f_178_167 (Nat.le_of_ble_eq_true rfl) rfl ?_
            exact ls_mask [true, true, false, true, true, true] [some (.ref 92), some (.int x1), none, some (.int x3), some (.int x4), some (.int x2)] rfl hyp
      · refine ls_iload_n f_176_6 rfl ?_
        refine ls_bipush 57 f_176_7 (by decide) ?_
        refine ls_icmp_gt 16 f_176_9 rfl hyp (fun _ hyp => ?_) (fun _ hyp => ?_)
        · refine ls_iconst 0 f_176_16 (by decide) ?_
          refine ls_zreturn f_176_17 rZ_176 (by decide) ?_
          show lm_W _ _ _ _ [.int 0] _ _
          refine ls_if_eq_T 100 f_178_72 rfl (by decide) ?_
          refine ls_aload_n f_178_100 rfl ?_
          refine ls_getR f_178_101 p_178_54 hl S_92 F_92_14 ?_
          refine ls_aload_n f_178_104 rfl ?_
          refine ls_getI f_178_105 p_178_145 hl S_92 ?_
          refine ls_iload_n f_178_108 rfl ?_
          refine ls_iast f_178_109 hl S_102 hyp (fun hyp => ?_)
          refine ls_aload_n f_178_110 rfl ?_
          refine ls_getR f_178_111 p_178_51 (lm_Lay_si hl _ _ _) S_92 F_92_13 ?_
          refine ls_aload_n f_178_114 rfl ?_
          refine ls_getI f_178_115 p_178_145 (lm_Lay_si hl _ _ _) S_92 ?_
          refine ls_top (lm_i h 92 15) rfl ?_
          refine ls_iconst 0 f_178_118 (by decide) ?_
          refine ls_iast f_178_119 (lm_Lay_si hl _ _ _) S_101 hyp (fun hyp => ?_)
          refine ls_aload_n f_178_120 rfl ?_
          refine ls_getR f_178_121 p_178_48 (lm_Lay_si (lm_Lay_si hl _ _ _) _ _ _) S_92 F_92_12 ?_
          refine ls_aload_n f_178_124 rfl ?_
          refine ls_getI f_178_125 p_178_145 (lm_Lay_si (lm_Lay_si hl _ _ _) _ _ _) S_92 ?_
          refine ls_top (lm_i h 92 15) rfl ?_
          refine ls_iload_n f_178_128 rfl ?_
          refine ls_invS f_178_129 q_178_148 [.int x3] [.int (lm_i h 92 15), .ref 100] rfl (Nat.le_of_ble_eq_true rfl) ?_
          refine ls_enter [some (.int x3)] ml_175 (Nat.le_of_ble_eq_true rfl) rfl ?_
          refine ls_iload_n f_175_0 rfl ?_
          refine ls_bipush 97 f_175_1 (by decide) ?_
          refine ls_icmp_lt 16 f_175_3 rfl hyp (fun _ hyp => ?_) (fun _ hyp => ?_)
          · refine ls_iconst 0 f_175_16 (by decide) ?_
            refine ls_zreturn f_175_17 rZ_175 (by decide) ?_
            show lm_W _ _ _ _ [.int 0, .int (lm_i h 92 15), .ref 100] _ _
            refine ls_if_eq_T 145 f_178_132 rfl (by decide) ?_
            refine ls_iload_n f_178_145 rfl ?_
            refine ls_invS f_178_146 q_178_151 [.int x3] [.int (lm_i h 92 15), .ref 100] rfl (Nat.le_of_ble_eq_true rfl) ?_
            refine ls_enter [some (.int x3)] ml_176 (Nat.le_of_ble_eq_true rfl) rfl ?_
            refine ls_iload_n f_176_0 rfl ?_
            refine ls_bipush 48 f_176_1 (by decide) ?_
            refine ls_icmp_lt 16 f_176_3 rfl hyp (fun _ hyp => ?_) (fun _ hyp => ?_)
            · refine ls_iconst 0 f_176_16 (by decide) ?_
              refine ls_zreturn f_176_17 rZ_176 (by decide) ?_
              show lm_W _ _ _ _ [.int 0, .int (lm_i h 92 15), .ref 100] _ _
              refine ls_if_eq_T 157 f_178_149 rfl (by decide) ?_
              refine ls_bipush 100 f_178_157 (by decide) ?_
              refine ls_iload_n f_178_159 rfl ?_
              refine ls_sipush 255 f_178_160 (by decide) ?_
              refine ls_iand (x3 &&& 255) f_178_163 rfl ?_
              refine ls_iadd (100 + (x3 &&& 255)) f_178_164 rfl ?_
              refine ls_iast f_178_165 (lm_Lay_si (lm_Lay_si hl _ _ _) _ _ _) S_100 hyp (fun hyp => ?_)
              refine ls_iload_n f_178_166 rfl ?_
              refine ls_istore [some (.ref 92), some (.int x1), some (.int x2), some (.int x3), some (.int x4), some (.int x2)] f_178_167 (Nat.le_of_ble_eq_true rfl) rfl ?_
              exact ls_mask [true, true, false, true, true, true] [some (.ref 92), some (.int x1), none, some (.int x3), some (.int x4), some (.int x2)] rfl hyp
            · refine ls_iload_n f_176_6 rfl ?_
              refine ls_bipush 57 f_176_7 (by decide) ?_
              refine ls_icmp_gt 16 f_176_9 rfl hyp (fun _ hyp => ?_) (fun _ hyp => ?_)
              · refine ls_iconst 0 f_176_16 (by decide) ?_
                refine ls_zreturn f_176_17 rZ_176 (by decide) ?_
                show lm_W _ _ _ _ [.int 0, .int (lm_i h 92 15), .ref 100] _ _
                refine ls_if_eq_T 157 f_178_149 rfl (by decide) ?_
                refine ls_bipush 100 f_178_157 (by decide) ?_
                refine ls_iload_n f_178_159 rfl ?_
                refine ls_sipush 255 f_178_160 (by decide) ?_
                refine ls_iand (x3 &&& 255) f_178_163 rfl ?_
                refine ls_iadd (100 + (x3 &&& 255)) f_178_164 rfl ?_
                refine ls_iast f_178_165 (lm_Lay_si (lm_Lay_si hl _ _ _) _ _ _) S_100 hyp (fun hyp => ?_)
                refine ls_iload_n f_178_166 rfl ?_
                refine ls_istore [some (.ref 92), some (.int x1), some (.int x2), some (.int x3), some (.int x4), some (.int x2)] f_178_167 (Nat.le_of_ble_eq_true rfl) rfl ?_
                exact ls_mask [true, true, false, true, true, true] [some (.ref 92), some (.int x1), none, some (.int x3), some (.int x4), some (.int x2)] rfl hyp
              · refine ls_iconst 1 f_176_12 (by decide) ?_
                refine ls_goto 17 f_176_13 rfl ?_
                refine ls_zreturn f_176_17 rZ_176 (by decide) ?_
                show lm_W _ _ _ _ [.int 1, .int (lm_i h 92 15), .ref 100] _ _
                refine ls_if_eq_F 157 f_178_149 rfl (by decide) ?_
                refine ls_bipush 50 f_178_152 (by decide) ?_
                refine ls_goto 165 f_178_154 rfl ?_
                refine ls_iast f_178_165 (lm_Lay_si (lm_Lay_si hl _ _ _) _ _ _) S_100 hyp (fun hyp => ?_)
                refine ls_iload_n f_178_166 rfl ?_
                refine ls_istore [some (.ref 92), some (.int x1), some (.int x2), some (.int x3), some (.int x4), some (.int x2)] f_178_167 (Nat.le_of_ble_eq_true rfl) rfl ?_
                exact ls_mask [true, true, false, true, true, true] [some (.ref 92), some (.int x1), none, some (.int x3), some (.int x4), some (.int x2)] rfl hyp
          · refine ls_iload_n f_175_6 rfl ?_
            refine ls_bipush 122 f_175_7 (by decide) ?_
            refine ls_icmp_gt 16 f_175_9 rfl hyp (fun _ hyp => ?_) (fun _ hyp => ?_)
            · refine ls_iconst 0 f_175_16 (by decide) ?_
              refine ls_zreturn f_175_17 rZ_175 (by decide) ?_
              show lm_W _ _ _ _ [.int 0, .int (lm_i h 92 15), .ref 100] _ _
              refine ls_if_eq_T 145 f_178_132 rfl (by decide) ?_
              refine ls_iload_n f_178_145 rfl ?_
              refine ls_invS f_178_146 q_178_151 [.int x3] [.int (lm_i h 92 15), .ref 100] rfl (Nat.le_of_ble_eq_true rfl) ?_
              refine ls_enter [some (.int x3)] ml_176 (Nat.le_of_ble_eq_true rfl) rfl ?_
              refine ls_iload_n f_176_0 rfl ?_
              refine ls_bipush 48 f_176_1 (by decide) ?_
              refine ls_icmp_lt 16 f_176_3 rfl hyp (fun _ hyp => ?_) (fun _ hyp => ?_)
              · refine ls_iconst 0 f_176_16 (by decide) ?_
                refine ls_zreturn f_176_17 rZ_176 (by decide) ?_
                show lm_W _ _ _ _ [.int 0, .int (lm_i h 92 15), .ref 100] _ _
                refine ls_if_eq_T 157 f_178_149 rfl (by decide) ?_
                refine ls_bipush 100 f_178_157 (by decide) ?_
                refine ls_iload_n f_178_159 rfl ?_
                refine ls_sipush 255 f_178_160 (by decide) ?_
                refine ls_iand (x3 &&& 255) f_178_163 rfl ?_
                refine ls_iadd (100 + (x3 &&& 255)) f_178_164 rfl ?_
                refine ls_iast f_178_165 (lm_Lay_si (lm_Lay_si hl _ _ _) _ _ _) S_100 hyp (fun hyp => ?_)
                refine ls_iload_n f_178_166 rfl ?_
                refine ls_istore [some (.ref 92), some (.int x1), some (.int x2), some (.int x3), some (.int x4), some (.int x2)] f_178_167 (Nat.le_of_ble_eq_true rfl) rfl ?_
                exact ls_mask [true, true, false, true, true, true] [some (.ref 92), some (.int x1), none, some (.int x3), some (.int x4), some (.int x2)] rfl hyp
              · refine ls_iload_n f_176_6 rfl ?_
                refine ls_bipush 57 f_176_7 (by decide) ?_
                refine ls_icmp_gt 16 f_176_9 rfl hyp (fun _ hyp => ?_) (fun _ hyp => ?_)
                · refine ls_iconst 0 f_176_16 (by decide) ?_
                  refine ls_zreturn f_176_17 rZ_176 (by decide) ?_
                  show lm_W _ _ _ _ [.int 0, .int (lm_i h 92 15), .ref 100] _ _
                  refine ls_if_eq_T 157 f_178_149 rfl (by decide) ?_
                  refine ls_bipush 100 f_178_157 (by decide) ?_
                  refine ls_iload_n f_178_159 rfl ?_
                  refine ls_sipush 255 f_178_160 (by decide) ?_
                  refine ls_iand (x3 &&& 255) f_178_163 rfl ?_
                  refine ls_iadd (100 + (x3 &&& 255)) f_178_164 rfl ?_
                  refine ls_iast f_178_165 (lm_Lay_si (lm_Lay_si hl _ _ _) _ _ _) S_100 hyp (fun hyp => ?_)
                  refine ls_iload_n f_178_166 rfl ?_
                  refine ls_istore [some (.ref 92), some (.int x1), some (.int x2), some (.int x3), some (.int x4), some (.int x2)] f_178_167 (Nat.le_of_ble_eq_true rfl) rfl ?_
                  exact ls_mask [true, true, false, true, true, true] [some (.ref 92), some (.int x1), none, some (.int x3), some (.int x4), some (.int x2)] rfl hyp
                · refine ls_iconst 1 f_176_12 (by decide) ?_
                  refine ls_goto 17 f_176_13 rfl ?_
                  refine ls_zreturn f_176_17 rZ_176 (by decide) ?_
                  show lm_W _ _ _ _ [.int 1, .int (lm_i h 92 15), .ref 100] _ _
                  refine ls_if_eq_F 157 f_178_149 rfl (by decide) ?_
                  refine ls_bipush 50 f_178_152 (by decide) ?_
                  refine ls_goto 165 f_178_154 rfl ?_
                  refine ls_iast f_178_165 (lm_Lay_si (lm_Lay_si hl _ _ _) _ _ _) S_100 hyp (fun hyp => ?_)
                  refine ls_iload_n f_178_166 rfl ?_
                  refine ls_istore [some (.ref 92), some (.int x1), some (.int x2), some (.int x3), some (.int x4), some (.int x2)] f_178_167 (Nat.le_of_ble_eq_true rfl) rfl ?_
                  exact ls_mask [true, true, false, true, true, true] [some (.ref 92), some (.int x1), none, some (.int x3), some (.int x4), some (.int x2)] rfl hyp
            · refine ls_iconst 1 f_175_12 (by decide) ?_
              refine ls_goto 17 f_175_13 rfl ?_
              refine ls_zreturn f_175_17 rZ_175 (by decide) ?_
              show lm_W _ _ _ _ [.int 1, .int (lm_i h 92 15), .ref 100] _ _
              refine ls_if_eq_F 145 f_178_132 rfl (by decide) ?_
              refine ls_aload_n f_178_135 rfl ?_
              refine ls_iload_n f_178_136 rfl ?_
              refine ls_iload f_178_137 rfl ?_
              refine ls_invV (a := 92) f_178_139 q_178_154 [.int x2, .int x4] [.int (lm_i h 92 15), .ref 100] rfl (Nat.le_of_ble_eq_true rfl) (lm_Lay_si (lm_Lay_si hl _ _ _) _ _ _) S_92 ow_177 ?_
              refine ls_call hyp (lm_Lay_si (lm_Lay_si hl _ _ _) _ _ _) (fun _ h3 hl3 hyp => ?_)
              refine ls_retI hyp (fun r4 hyp => ?_)
              refine ls_goto 165 f_178_142 rfl ?_
              refine ls_iast f_178_165 hl3 S_100 hyp (fun hyp => ?_)
              refine ls_iload_n f_178_166 rfl ?_
              refine ls_istore [some (.ref 92), some (.int x1), some (.int x2), some (.int x3), some (.int x4), some (.int x2)] f_178_167 (Nat.le_of_ble_eq_true rfl) rfl ?_
              exact ls_mask [true, true, false, true, true, true] [some (.ref 92), some (.int x1), none, some (.int x3), some (.int x4), some (.int x2)] rfl hyp
        · refine ls_iconst 1 f_176_12 (by decide) ?_
          refine ls_goto 17 f_176_13 rfl ?_
          refine ls_zreturn f_176_17 rZ_176 (by decide) ?_
          show lm_W _ _ _ _ [.int 1] _ _
          refine ls_if_eq_F 100 f_178_72 rfl (by decide) ?_
          exact hyp
    · refine ls_iload_n f_175_6 rfl ?_
      refine ls_bipush 122 f_175_7 (by decide) ?_
      refine ls_icmp_gt 16 f_175_9 rfl hyp (fun _ hyp => ?_) (fun _ hyp => ?_)
      · refine ls_iconst 0 f_175_16 (by decide) ?_
        refine ls_zreturn f_175_17 rZ_175 (by decide) ?_
        show lm_W _ _ _ _ [.int 0] _ _
        refine ls_if_eq_T 68 f_178_59 rfl (by decide) ?_
        refine ls_iload_n f_178_68 rfl ?_
        refine ls_invS f_178_69 q_178_151 [.int x3] [] rfl (Nat.le_of_ble_eq_true rfl) ?_
        refine ls_enter [some (.int x3)] ml_176 (Nat.le_of_ble_eq_true rfl) rfl ?_
        refine ls_iload_n f_176_0 rfl ?_
        refine ls_bipush 48 f_176_1 (by decide) ?_
        refine ls_icmp_lt 16 f_176_3 rfl hyp (fun _ hyp => ?_) (fun _ hyp => ?_)
        · refine ls_iconst 0 f_176_16 (by decide) ?_
          refine ls_zreturn f_176_17 rZ_176 (by decide) ?_
          show lm_W _ _ _ _ [.int 0] _ _
          refine ls_if_eq_T 100 f_178_72 rfl (by decide) ?_
          refine ls_aload_n f_178_100 rfl ?_
          refine ls_getR f_178_101 p_178_54 hl S_92 F_92_14 ?_
          refine ls_aload_n f_178_104 rfl ?_
          refine ls_getI f_178_105 p_178_145 hl S_92 ?_
          refine ls_iload_n f_178_108 rfl ?_
          refine ls_iast f_178_109 hl S_102 hyp (fun hyp => ?_)
          refine ls_aload_n f_178_110 rfl ?_
          refine ls_getR f_178_111 p_178_51 (lm_Lay_si hl _ _ _) S_92 F_92_13 ?_
          refine ls_aload_n f_178_114 rfl ?_
          refine ls_getI f_178_115 p_178_145 (lm_Lay_si hl _ _ _) S_92 ?_
          refine ls_top (lm_i h 92 15) rfl ?_
          refine ls_iconst 0 f_178_118 (by decide) ?_
          refine ls_iast f_178_119 (lm_Lay_si hl _ _ _) S_101 hyp (fun hyp => ?_)
          refine ls_aload_n f_178_120 rfl ?_
          refine ls_getR f_178_121 p_178_48 (lm_Lay_si (lm_Lay_si hl _ _ _) _ _ _) S_92 F_92_12 ?_
          refine ls_aload_n f_178_124 rfl ?_
          refine ls_getI f_178_125 p_178_145 (lm_Lay_si (lm_Lay_si hl _ _ _) _ _ _) S_92 ?_
          refine ls_top (lm_i h 92 15) rfl ?_
          refine ls_iload_n f_178_128 rfl ?_
          refine ls_invS f_178_129 q_178_148 [.int x3] [.int (lm_i h 92 15), .ref 100] rfl (Nat.le_of_ble_eq_true rfl) ?_
          refine ls_enter [some (.int x3)] ml_175 (Nat.le_of_ble_eq_true rfl) rfl ?_
          refine ls_iload_n f_175_0 rfl ?_
          refine ls_bipush 97 f_175_1 (by decide) ?_
          refine ls_icmp_lt 16 f_175_3 rfl hyp (fun _ hyp => ?_) (fun _ hyp => ?_)
          · refine ls_iconst 0 f_175_16 (by decide) ?_
            refine ls_zreturn f_175_17 rZ_175 (by decide) ?_
            show lm_W _ _ _ _ [.int 0, .int (lm_i h 92 15), .ref 100] _ _
            refine ls_if_eq_T 145 f_178_132 rfl (by decide) ?_
            refine ls_iload_n f_178_145 rfl ?_
            refine ls_invS f_178_146 q_178_151 [.int x3] [.int (lm_i h 92 15), .ref 100] rfl (Nat.le_of_ble_eq_true rfl) ?_
            refine ls_enter [some (.int x3)] ml_176 (Nat.le_of_ble_eq_true rfl) rfl ?_
            refine ls_iload_n f_176_0 rfl ?_
            refine ls_bipush 48 f_176_1 (by decide) ?_
            refine ls_icmp_lt 16 f_176_3 rfl hyp (fun _ hyp => ?_) (fun _ hyp => ?_)
            · refine ls_iconst 0 f_176_16 (by decide) ?_
              refine ls_zreturn f_176_17 rZ_176 (by decide) ?_
              show lm_W _ _ _ _ [.int 0, .int (lm_i h 92 15), .ref 100] _ _
              refine ls_if_eq_T 157 f_178_149 rfl (by decide) ?_
              refine ls_bipush 100 f_178_157 (by decide) ?_
              refine ls_iload_n f_178_159 rfl ?_
              refine ls_sipush 255 f_178_160 (by decide) ?_
              refine ls_iand (x3 &&& 255) f_178_163 rfl ?_
              refine ls_iadd (100 + (x3 &&& 255)) f_178_164 rfl ?_
              refine ls_iast f_178_165 (lm_Lay_si (lm_Lay_si hl _ _ _) _ _ _) S_100 hyp (fun hyp => ?_)
              refine ls_iload_n f_178_166 rfl ?_
              refine ls_istore [some (.ref 92), some (.int x1), some (.int x2), some (.int x3), some (.int x4), some (.int x2)] f_178_167 (Nat.le_of_ble_eq_true rfl) rfl ?_
              exact ls_mask [true, true, false, true, true, true] [some (.ref 92), some (.int x1), none, some (.int x3), some (.int x4), some (.int x2)] rfl hyp
            · refine ls_iload_n f_176_6 rfl ?_
              refine ls_bipush 57 f_176_7 (by decide) ?_
              refine ls_icmp_gt 16 f_176_9 rfl hyp (fun _ hyp => ?_) (fun _ hyp => ?_)
              · refine ls_iconst 0 f_176_16 (by decide) ?_
                refine ls_zreturn f_176_17 rZ_176 (by decide) ?_
                show lm_W _ _ _ _ [.int 0, .int (lm_i h 92 15), .ref 100] _ _
                refine ls_if_eq_T 157 f_178_149 rfl (by decide) ?_
                refine ls_bipush 100 f_178_157 (by decide) ?_
                refine ls_iload_n f_178_159 rfl ?_
                refine ls_sipush 255 f_178_160 (by decide) ?_
                refine ls_iand (x3 &&& 255) f_178_163 rfl ?_
                refine ls_iadd (100 + (x3 &&& 255)) f_178_164 rfl ?_
                refine ls_iast f_178_165 (lm_Lay_si (lm_Lay_si hl _ _ _) _ _ _) S_100 hyp (fun hyp => ?_)
                refine ls_iload_n f_178_166 rfl ?_
                refine ls_istore [some (.ref 92), some (.int x1), some (.int x2), some (.int x3), some (.int x4), some (.int x2)] f_178_167 (Nat.le_of_ble_eq_true rfl) rfl ?_
                exact ls_mask [true, true, false, true, true, true] [some (.ref 92), some (.int x1), none, some (.int x3), some (.int x4), some (.int x2)] rfl hyp
              · refine ls_iconst 1 f_176_12 (by decide) ?_
                refine ls_goto 17 f_176_13 rfl ?_
                refine ls_zreturn f_176_17 rZ_176 (by decide) ?_
                show lm_W _ _ _ _ [.int 1, .int (lm_i h 92 15), .ref 100] _ _
                refine ls_if_eq_F 157 f_178_149 rfl (by decide) ?_
                refine ls_bipush 50 f_178_152 (by decide) ?_
                refine ls_goto 165 f_178_154 rfl ?_
                refine ls_iast f_178_165 (lm_Lay_si (lm_Lay_si hl _ _ _) _ _ _) S_100 hyp (fun hyp => ?_)
                refine ls_iload_n f_178_166 rfl ?_
                refine ls_istore [some (.ref 92), some (.int x1), some (.int x2), some (.int x3), some (.int x4), some (.int x2)] f_178_167 (Nat.le_of_ble_eq_true rfl) rfl ?_
                exact ls_mask [true, true, false, true, true, true] [some (.ref 92), some (.int x1), none, some (.int x3), some (.int x4), some (.int x2)] rfl hyp
          · refine ls_iload_n f_175_6 rfl ?_
            refine ls_bipush 122 f_175_7 (by decide) ?_
            refine ls_icmp_gt 16 f_175_9 rfl hyp (fun _ hyp => ?_) (fun _ hyp => ?_)
            · refine ls_iconst 0 f_175_16 (by decide) ?_
              refine ls_zreturn f_175_17 rZ_175 (by decide) ?_
              show lm_W _ _ _ _ [.int 0, .int (lm_i h 92 15), .ref 100] _ _
              refine ls_if_eq_T 145 f_178_132 rfl (by decide) ?_
              refine ls_iload_n f_178_145 rfl ?_
              refine ls_invS f_178_146 q_178_151 [.int x3] [.int (lm_i h 92 15), .ref 100] rfl (Nat.le_of_ble_eq_true rfl) ?_
              refine ls_enter [some (.int x3)] ml_176 (Nat.le_of_ble_eq_true rfl) rfl ?_
              refine ls_iload_n f_176_0 rfl ?_
              refine ls_bipush 48 f_176_1 (by decide) ?_
              refine ls_icmp_lt 16 f_176_3 rfl hyp (fun _ hyp => ?_) (fun _ hyp => ?_)
              · refine ls_iconst 0 f_176_16 (by decide) ?_
                refine ls_zreturn f_176_17 rZ_176 (by decide) ?_
                show lm_W _ _ _ _ [.int 0, .int (lm_i h 92 15), .ref 100] _ _
                refine ls_if_eq_T 157 f_178_149 rfl (by decide) ?_
                refine ls_bipush 100 f_178_157 (by decide) ?_
                refine ls_iload_n f_178_159 rfl ?_
                refine ls_sipush 255 f_178_160 (by decide) ?_
                refine ls_iand (x3 &&& 255) f_178_163 rfl ?_
                refine ls_iadd (100 + (x3 &&& 255)) f_178_164 rfl ?_
                refine ls_iast f_178_165 (lm_Lay_si (lm_Lay_si hl _ _ _) _ _ _) S_100 hyp (fun hyp => ?_)
                refine ls_iload_n f_178_166 rfl ?_
                refine ls_istore [some (.ref 92), some (.int x1), some (.int x2), some (.int x3), some (.int x4), some (.int x2)] f_178_167 (Nat.le_of_ble_eq_true rfl) rfl ?_
                exact ls_mask [true, true, false, true, true, true] [some (.ref 92), some (.int x1), none, some (.int x3), some (.int x4), some (.int x2)] rfl hyp
              · refine ls_iload_n f_176_6 rfl ?_
                refine ls_bipush 57 f_176_7 (by decide) ?_
                refine ls_icmp_gt 16 f_176_9 rfl hyp (fun _ hyp => ?_) (fun _ hyp => ?_)
                · refine ls_iconst 0 f_176_16 (by decide) ?_
                  refine ls_zreturn f_176_17 rZ_176 (by decide) ?_
                  show lm_W _ _ _ _ [.int 0, .int (lm_i h 92 15), .ref 100] _ _
                  refine ls_if_eq_T 157 f_178_149 rfl (by decide) ?_
                  refine ls_bipush 100 f_178_157 (by decide) ?_
                  refine ls_iload_n f_178_159 rfl ?_
                  refine ls_sipush 255 f_178_160 (by decide) ?_
                  refine ls_iand (x3 &&& 255) f_178_163 rfl ?_
                  refine ls_iadd (100 + (x3 &&& 255)) f_178_164 rfl ?_
                  refine ls_iast f_178_165 (lm_Lay_si (lm_Lay_si hl _ _ _) _ _ _) S_100 hyp (fun hyp => ?_)
                  refine ls_iload_n f_178_166 rfl ?_
                  refine ls_istore [some (.ref 92), some (.int x1), some (.int x2), some (.int x3), some (.int x4), some (.int x2)] f_178_167 (Nat.le_of_ble_eq_true rfl) rfl ?_
                  exact ls_mask [true, true, false, true, true, true] [some (.ref 92), some (.int x1), none, some (.int x3), some (.int x4), some (.int x2)] rfl hyp
                · refine ls_iconst 1 f_176_12 (by decide) ?_
                  refine ls_goto 17 f_176_13 rfl ?_
                  refine ls_zreturn f_176_17 rZ_176 (by decide) ?_
                  show lm_W _ _ _ _ [.int 1, .int (lm_i h 92 15), .ref 100] _ _
                  refine ls_if_eq_F 157 f_178_149 rfl (by decide) ?_
                  refine ls_bipush 50 f_178_152 (by decide) ?_
                  refine ls_goto 165 f_178_154 rfl ?_
                  refine ls_iast f_178_165 (lm_Lay_si (lm_Lay_si hl _ _ _) _ _ _) S_100 hyp (fun hyp => ?_)
                  refine ls_iload_n f_178_166 rfl ?_
                  refine ls_istore [some (.ref 92), some (.int x1), some (.int x2), some (.int x3), some (.int x4), some (.int x2)] f_178_167 (Nat.le_of_ble_eq_true rfl) rfl ?_
                  exact ls_mask [true, true, false, true, true, true] [some (.ref 92), some (.int x1), none, some (.int x3), some (.int x4), some (.int x2)] rfl hyp
            · refine ls_iconst 1 f_175_12 (by decide) ?_
              refine ls_goto 17 f_175_13 rfl ?_
              refine ls_zreturn f_175_17 rZ_175 (by decide) ?_
              show lm_W _ _ _ _ [.int 1, .int (lm_i h 92 15), .ref 100] _ _
              refine ls_if_eq_F 145 f_178_132 rfl (by decide) ?_
              refine ls_aload_n f_178_135 rfl ?_
              refine ls_iload_n f_178_136 rfl ?_
              refine ls_iload f_178_137 rfl ?_
              refine ls_invV (a := 92) f_178_139 q_178_154 [.int x2, .int x4] [.int (lm_i h 92 15), .ref 100] rfl (Nat.le_of_ble_eq_true rfl) (lm_Lay_si (lm_Lay_si hl _ _ _) _ _ _) S_92 ow_177 ?_
              refine ls_call hyp (lm_Lay_si (lm_Lay_si hl _ _ _) _ _ _) (fun _ h5 hl5 hyp => ?_)
              refine ls_retI hyp (fun r6 hyp => ?_)
              refine ls_goto 165 f_178_142 rfl ?_
              refine ls_iast f_178_165 hl5 S_100 hyp (fun hyp => ?_)
              refine ls_iload_n f_178_166 rfl ?_
              refine ls_istore [some (.ref 92), some (.int x1), some (.int x2), some (.int x3), some (.int x4), some (.int x2)] f_178_167 (Nat.le_of_ble_eq_true rfl) rfl ?_
              exact ls_mask [true, true, false, true, true, true] [some (.ref 92), some (.int x1), none, some (.int x3), some (.int x4), some (.int x2)] rfl hyp
        · refine ls_iload_n f_176_6 rfl ?_
          refine ls_bipush 57 f_176_7 (by decide) ?_
          refine ls_icmp_gt 16 f_176_9 rfl hyp (fun _ hyp => ?_) (fun _ hyp => ?_)
          · refine ls_iconst 0 f_176_16 (by decide) ?_
            refine ls_zreturn f_176_17 rZ_176 (by decide) ?_
            show lm_W _ _ _ _ [.int 0] _ _
            refine ls_if_eq_T 100 f_178_72 rfl (by decide) ?_
            refine ls_aload_n f_178_100 rfl ?_
            refine ls_getR f_178_101 p_178_54 hl S_92 F_92_14 ?_
            refine ls_aload_n f_178_104 rfl ?_
            refine ls_getI f_178_105 p_178_145 hl S_92 ?_
            refine ls_iload_n f_178_108 rfl ?_
            refine ls_iast f_178_109 hl S_102 hyp (fun hyp => ?_)
            refine ls_aload_n f_178_110 rfl ?_
            refine ls_getR f_178_111 p_178_51 (lm_Lay_si hl _ _ _) S_92 F_92_13 ?_
            refine ls_aload_n f_178_114 rfl ?_
            refine ls_getI f_178_115 p_178_145 (lm_Lay_si hl _ _ _) S_92 ?_
            refine ls_top (lm_i h 92 15) rfl ?_
            refine ls_iconst 0 f_178_118 (by decide) ?_
            refine ls_iast f_178_119 (lm_Lay_si hl _ _ _) S_101 hyp (fun hyp => ?_)
            refine ls_aload_n f_178_120 rfl ?_
            refine ls_getR f_178_121 p_178_48 (lm_Lay_si (lm_Lay_si hl _ _ _) _ _ _) S_92 F_92_12 ?_
            refine ls_aload_n f_178_124 rfl ?_
            refine ls_getI f_178_125 p_178_145 (lm_Lay_si (lm_Lay_si hl _ _ _) _ _ _) S_92 ?_
            refine ls_top (lm_i h 92 15) rfl ?_
            refine ls_iload_n f_178_128 rfl ?_
            refine ls_invS f_178_129 q_178_148 [.int x3] [.int (lm_i h 92 15), .ref 100] rfl (Nat.le_of_ble_eq_true rfl) ?_
            refine ls_enter [some (.int x3)] ml_175 (Nat.le_of_ble_eq_true rfl) rfl ?_
            refine ls_iload_n f_175_0 rfl ?_
            refine ls_bipush 97 f_175_1 (by decide) ?_
            refine ls_icmp_lt 16 f_175_3 rfl hyp (fun _ hyp => ?_) (fun _ hyp => ?_)
            · refine ls_iconst 0 f_175_16 (by decide) ?_
              refine ls_zreturn f_175_17 rZ_175 (by decide) ?_
              show lm_W _ _ _ _ [.int 0, .int (lm_i h 92 15), .ref 100] _ _
              refine ls_if_eq_T 145 f_178_132 rfl (by decide) ?_
              refine ls_iload_n f_178_145 rfl ?_
              refine ls_invS f_178_146 q_178_151 [.int x3] [.int (lm_i h 92 15), .ref 100] rfl (Nat.le_of_ble_eq_true rfl) ?_
              refine ls_enter [some (.int x3)] ml_176 (Nat.le_of_ble_eq_true rfl) rfl ?_
              refine ls_iload_n f_176_0 rfl ?_
              refine ls_bipush 48 f_176_1 (by decide) ?_
              refine ls_icmp_lt 16 f_176_3 rfl hyp (fun _ hyp => ?_) (fun _ hyp => ?_)
              · refine ls_iconst 0 f_176_16 (by decide) ?_
                refine ls_zreturn f_176_17 rZ_176 (by decide) ?_
                show lm_W _ _ _ _ [.int 0, .int (lm_i h 92 15), .ref 100] _ _
                refine ls_if_eq_T 157 f_178_149 rfl (by decide) ?_
                refine ls_bipush 100 f_178_157 (by decide) ?_
                refine ls_iload_n f_178_159 rfl ?_
                refine ls_sipush 255 f_178_160 (by decide) ?_
                refine ls_iand (x3 &&& 255) f_178_163 rfl ?_
                refine ls_iadd (100 + (x3 &&& 255)) f_178_164 rfl ?_
                refine ls_iast f_178_165 (lm_Lay_si (lm_Lay_si hl _ _ _) _ _ _) S_100 hyp (fun hyp => ?_)
                refine ls_iload_n f_178_166 rfl ?_
                refine ls_istore [some (.ref 92), some (.int x1), some (.int x2), some (.int x3), some (.int x4), some (.int x2)] f_178_167 (Nat.le_of_ble_eq_true rfl) rfl ?_
                exact ls_mask [true, true, false, true, true, true] [some (.ref 92), some (.int x1), none, some (.int x3), some (.int x4), some (.int x2)] rfl hyp
              · refine ls_iload_n f_176_6 rfl ?_
                refine ls_bipush 57 f_176_7 (by decide) ?_
                refine ls_icmp_gt 16 f_176_9 rfl hyp (fun _ hyp => ?_) (fun _ hyp => ?_)
                · refine ls_iconst 0 f_176_16 (by decide) ?_
                  refine ls_zreturn f_176_17 rZ_176 (by decide) ?_
                  show lm_W _ _ _ _ [.int 0, .int (lm_i h 92 15), .ref 100] _ _
                  refine ls_if_eq_T 157 f_178_149 rfl (by decide) ?_
                  refine ls_bipush 100 f_178_157 (by decide) ?_
                  refine ls_iload_n f_178_159 rfl ?_
                  refine ls_sipush 255 f_178_160 (by decide) ?_
                  refine ls_iand (x3 &&& 255) f_178_163 rfl ?_
                  refine ls_iadd (100 + (x3 &&& 255)) f_178_164 rfl ?_
                  refine ls_iast f_178_165 (lm_Lay_si (lm_Lay_si hl _ _ _) _ _ _) S_100 hyp (fun hyp => ?_)
                  refine ls_iload_n f_178_166 rfl ?_
                  refine ls_istore [some (.ref 92), some (.int x1), some (.int x2), some (.int x3), some (.int x4), some (.int x2)] f_178_167 (Nat.le_of_ble_eq_true rfl) rfl ?_
                  exact ls_mask [true, true, false, true, true, true] [some (.ref 92), some (.int x1), none, some (.int x3), some (.int x4), some (.int x2)] rfl hyp
                · refine ls_iconst 1 f_176_12 (by decide) ?_
                  refine ls_goto 17 f_176_13 rfl ?_
                  refine ls_zreturn f_176_17 rZ_176 (by decide) ?_
                  show lm_W _ _ _ _ [.int 1, .int (lm_i h 92 15), .ref 100] _ _
                  refine ls_if_eq_F 157 f_178_149 rfl (by decide) ?_
                  refine ls_bipush 50 f_178_152 (by decide) ?_
                  refine ls_goto 165 f_178_154 rfl ?_
                  refine ls_iast f_178_165 (lm_Lay_si (lm_Lay_si hl _ _ _) _ _ _) S_100 hyp (fun hyp => ?_)
                  refine ls_iload_n f_178_166 rfl ?_
                  refine ls_istore [some (.ref 92), some (.int x1), some (.int x2), some (.int x3), some (.int x4), some (.int x2)] f_178_167 (Nat.le_of_ble_eq_true rfl) rfl ?_
                  exact ls_mask [true, true, false, true, true, true] [some (.ref 92), some (.int x1), none, some (.int x3), some (.int x4), some (.int x2)] rfl hyp
            · refine ls_iload_n f_175_6 rfl ?_
              refine ls_bipush 122 f_175_7 (by decide) ?_
              refine ls_icmp_gt 16 f_175_9 rfl hyp (fun _ hyp => ?_) (fun _ hyp => ?_)
              · refine ls_iconst 0 f_175_16 (by decide) ?_
                refine ls_zreturn f_175_17 rZ_175 (by decide) ?_
                show lm_W _ _ _ _ [.int 0, .int (lm_i h 92 15), .ref 100] _ _
                refine ls_if_eq_T 145 f_178_132 rfl (by decide) ?_
                refine ls_iload_n f_178_145 rfl ?_
                refine ls_invS f_178_146 q_178_151 [.int x3] [.int (lm_i h 92 15), .ref 100] rfl (Nat.le_of_ble_eq_true rfl) ?_
                refine ls_enter [some (.int x3)] ml_176 (Nat.le_of_ble_eq_true rfl) rfl ?_
                refine ls_iload_n f_176_0 rfl ?_
                refine ls_bipush 48 f_176_1 (by decide) ?_
                refine ls_icmp_lt 16 f_176_3 rfl hyp (fun _ hyp => ?_) (fun _ hyp => ?_)
                · refine ls_iconst 0 f_176_16 (by decide) ?_
                  refine ls_zreturn f_176_17 rZ_176 (by decide) ?_
                  show lm_W _ _ _ _ [.int 0, .int (lm_i h 92 15), .ref 100] _ _
                  refine ls_if_eq_T 157 f_178_149 rfl (by decide) ?_
                  refine ls_bipush 100 f_178_157 (by decide) ?_
                  refine ls_iload_n f_178_159 rfl ?_
                  refine ls_sipush 255 f_178_160 (by decide) ?_
                  refine ls_iand (x3 &&& 255) f_178_163 rfl ?_
                  refine ls_iadd (100 + (x3 &&& 255)) f_178_164 rfl ?_
                  refine ls_iast f_178_165 (lm_Lay_si (lm_Lay_si hl _ _ _) _ _ _) S_100 hyp (fun hyp => ?_)
                  refine ls_iload_n f_178_166 rfl ?_
                  refine ls_istore [some (.ref 92), some (.int x1), some (.int x2), some (.int x3), some (.int x4), some (.int x2)] f_178_167 (Nat.le_of_ble_eq_true rfl) rfl ?_
                  exact ls_mask [true, true, false, true, true, true] [some (.ref 92), some (.int x1), none, some (.int x3), some (.int x4), some (.int x2)] rfl hyp
                · refine ls_iload_n f_176_6 rfl ?_
                  refine ls_bipush 57 f_176_7 (by decide) ?_
                  refine ls_icmp_gt 16 f_176_9 rfl hyp (fun _ hyp => ?_) (fun _ hyp => ?_)
                  · refine ls_iconst 0 f_176_16 (by decide) ?_
                    refine ls_zreturn f_176_17 rZ_176 (by decide) ?_
                    show lm_W _ _ _ _ [.int 0, .int (lm_i h 92 15), .ref 100] _ _
                    refine ls_if_eq_T 157 f_178_149 rfl (by decide) ?_
                    refine ls_bipush 100 f_178_157 (by decide) ?_
                    refine ls_iload_n f_178_159 rfl ?_
                    refine ls_sipush 255 f_178_160 (by decide) ?_
                    refine ls_iand (x3 &&& 255) f_178_163 rfl ?_
                    refine ls_iadd (100 + (x3 &&& 255)) f_178_164 rfl ?_
                    refine ls_iast f_178_165 (lm_Lay_si (lm_Lay_si hl _ _ _) _ _ _) S_100 hyp (fun hyp => ?_)
                    refine ls_iload_n f_178_166 rfl ?_
                    refine ls_istore [some (.ref 92), some (.int x1), some (.int x2), some (.int x3), some (.int x4), some (.int x2)] f_178_167 (Nat.le_of_ble_eq_true rfl) rfl ?_
                    exact ls_mask [true, true, false, true, true, true] [some (.ref 92), some (.int x1), none, some (.int x3), some (.int x4), some (.int x2)] rfl hyp
                  · refine ls_iconst 1 f_176_12 (by decide) ?_
                    refine ls_goto 17 f_176_13 rfl ?_
                    refine ls_zreturn f_176_17 rZ_176 (by decide) ?_
                    show lm_W _ _ _ _ [.int 1, .int (lm_i h 92 15), .ref 100] _ _
                    refine ls_if_eq_F 157 f_178_149 rfl (by decide) ?_
                    refine ls_bipush 50 f_178_152 (by decide) ?_
                    refine ls_goto 165 f_178_154 rfl ?_
                    refine ls_iast f_178_165 (lm_Lay_si (lm_Lay_si hl _ _ _) _ _ _) S_100 hyp (fun hyp => ?_)
                    refine ls_iload_n f_178_166 rfl ?_
                    refine ls_istore [some (.ref 92), some (.int x1), some (.int x2), some (.int x3), some (.int x4), some (.int x2)] f_178_167 (Nat.le_of_ble_eq_true rfl) rfl ?_
                    exact ls_mask [true, true, false, true, true, true] [some (.ref 92), some (.int x1), none, some (.int x3), some (.int x4), some (.int x2)] rfl hyp
              · refine ls_iconst 1 f_175_12 (by decide) ?_
                refine ls_goto 17 f_175_13 rfl ?_
                refine ls_zreturn f_175_17 rZ_175 (by decide) ?_
                show lm_W _ _ _ _ [.int 1, .int (lm_i h 92 15), .ref 100] _ _
                refine ls_if_eq_F 145 f_178_132 rfl (by decide) ?_
                refine ls_aload_n f_178_135 rfl ?_
                refine ls_iload_n f_178_136 rfl ?_
                refine ls_iload f_178_137 rfl ?_
                refine ls_invV (a := 92) f_178_139 q_178_154 [.int x2, .int x4] [.int (lm_i h 92 15), .ref 100] rfl (Nat.le_of_ble_eq_true rfl) (lm_Lay_si (lm_Lay_si hl _ _ _) _ _ _) S_92 ow_177 ?_
                refine ls_call hyp (lm_Lay_si (lm_Lay_si hl _ _ _) _ _ _) (fun _ h7 hl7 hyp => ?_)
                refine ls_retI hyp (fun r8 hyp => ?_)
                refine ls_goto 165 f_178_142 rfl ?_
                refine ls_iast f_178_165 hl7 S_100 hyp (fun hyp => ?_)
                refine ls_iload_n f_178_166 rfl ?_
                refine ls_istore [some (.ref 92), some (.int x1), some (.int x2), some (.int x3), some (.int x4), some (.int x2)] f_178_167 (Nat.le_of_ble_eq_true rfl) rfl ?_
                exact ls_mask [true, true, false, true, true, true] [some (.ref 92), some (.int x1), none, some (.int x3), some (.int x4), some (.int x2)] rfl hyp
          · refine ls_iconst 1 f_176_12 (by decide) ?_
            refine ls_goto 17 f_176_13 rfl ?_
            refine ls_zreturn f_176_17 rZ_176 (by decide) ?_
            show lm_W _ _ _ _ [.int 1] _ _
            refine ls_if_eq_F 100 f_178_72 rfl (by decide) ?_
            exact hyp
      · refine ls_iconst 1 f_175_12 (by decide) ?_
        refine ls_goto 17 f_175_13 rfl ?_
        refine ls_zreturn f_175_17 rZ_175 (by decide) ?_
        show lm_W _ _ _ _ [.int 1] _ _
        refine ls_if_eq_F 68 f_178_59 rfl (by decide) ?_
        refine ls_iinc (x4 + 1) [some (.ref 92), some (.int x1), some (.int x2), some (.int x3), some (.int (x4 + 1)), none] f_178_62 rfl (Nat.le_of_ble_eq_true rfl) rfl rfl ?_
        refine ls_goto 43 f_178_65 rfl ?_
        exact hyp
  · refine ls_iload_n f_178_68 rfl ?_
    refine ls_invS f_178_69 q_178_151 [.int x3] [] rfl (Nat.le_of_ble_eq_true rfl) ?_
    refine ls_enter [some (.int x3)] ml_176 (Nat.le_of_ble_eq_true rfl) rfl ?_
    refine ls_iload_n f_176_0 rfl ?_
    refine ls_bipush 48 f_176_1 (by decide) ?_
    refine ls_icmp_lt 16 f_176_3 rfl hyp (fun _ hyp => ?_) (fun _ hyp => ?_)
    · refine ls_iconst 0 f_176_16 (by decide) ?_
      refine ls_zreturn f_176_17 rZ_176 (by decide) ?_
      show lm_W _ _ _ _ [.int 0] _ _
      refine ls_if_eq_T 100 f_178_72 rfl (by decide) ?_
      refine ls_aload_n f_178_100 rfl ?_
      refine ls_getR f_178_101 p_178_54 hl S_92 F_92_14 ?_
      refine ls_aload_n f_178_104 rfl ?_
      refine ls_getI f_178_105 p_178_145 hl S_92 ?_
      refine ls_iload_n f_178_108 rfl ?_
      refine ls_iast f_178_109 hl S_102 hyp (fun hyp => ?_)
      refine ls_aload_n f_178_110 rfl ?_
      refine ls_getR f_178_111 p_178_51 (lm_Lay_si hl _ _ _) S_92 F_92_13 ?_
      refine ls_aload_n f_178_114 rfl ?_
      refine ls_getI f_178_115 p_178_145 (lm_Lay_si hl _ _ _) S_92 ?_
      refine ls_top (lm_i h 92 15) rfl ?_
      refine ls_iconst 0 f_178_118 (by decide) ?_
      refine ls_iast f_178_119 (lm_Lay_si hl _ _ _) S_101 hyp (fun hyp => ?_)
      refine ls_aload_n f_178_120 rfl ?_
      refine ls_getR f_178_121 p_178_48 (lm_Lay_si (lm_Lay_si hl _ _ _) _ _ _) S_92 F_92_12 ?_
      refine ls_aload_n f_178_124 rfl ?_
      refine ls_getI f_178_125 p_178_145 (lm_Lay_si (lm_Lay_si hl _ _ _) _ _ _) S_92 ?_
      refine ls_top (lm_i h 92 15) rfl ?_
      refine ls_iload_n f_178_128 rfl ?_
      refine ls_invS f_178_129 q_178_148 [.int x3] [.int (lm_i h 92 15), .ref 100] rfl (Nat.le_of_ble_eq_true rfl) ?_
      refine ls_enter [some (.int x3)] ml_175 (Nat.le_of_ble_eq_true rfl) rfl ?_
      refine ls_iload_n f_175_0 rfl ?_
      refine ls_bipush 97 f_175_1 (by decide) ?_
      refine ls_icmp_lt 16 f_175_3 rfl hyp (fun _ hyp => ?_) (fun _ hyp => ?_)
      · refine ls_iconst 0 f_175_16 (by decide) ?_
        refine ls_zreturn f_175_17 rZ_175 (by decide) ?_
        show lm_W _ _ _ _ [.int 0, .int (lm_i h 92 15), .ref 100] _ _
        refine ls_if_eq_T 145 f_178_132 rfl (by decide) ?_
        refine ls_iload_n f_178_145 rfl ?_
        refine ls_invS f_178_146 q_178_151 [.int x3] [.int (lm_i h 92 15), .ref 100] rfl (Nat.le_of_ble_eq_true rfl) ?_
        refine ls_enter [some (.int x3)] ml_176 (Nat.le_of_ble_eq_true rfl) rfl ?_
        refine ls_iload_n f_176_0 rfl ?_
        refine ls_bipush 48 f_176_1 (by decide) ?_
        refine ls_icmp_lt 16 f_176_3 rfl hyp (fun _ hyp => ?_) (fun _ hyp => ?_)
        · refine ls_iconst 0 f_176_16 (by decide) ?_
          refine ls_zreturn f_176_17 rZ_176 (by decide) ?_
          show lm_W _ _ _ _ [.int 0, .int (lm_i h 92 15), .ref 100] _ _
          refine ls_if_eq_T 157 f_178_149 rfl (by decide) ?_
          refine ls_bipush 100 f_178_157 (by decide) ?_
          refine ls_iload_n f_178_159 rfl ?_
          refine ls_sipush 255 f_178_160 (by decide) ?_
          refine ls_iand (x3 &&& 255) f_178_163 rfl ?_
          refine ls_iadd (100 + (x3 &&& 255)) f_178_164 rfl ?_
          refine ls_iast f_178_165 (lm_Lay_si (lm_Lay_si hl _ _ _) _ _ _) S_100 hyp (fun hyp => ?_)
          refine ls_iload_n f_178_166 rfl ?_
          refine ls_istore [some (.ref 92), some (.int x1), some (.int x2), some (.int x3), some (.int x4), some (.int x2)] f_178_167 (Nat.le_of_ble_eq_true rfl) rfl ?_
          exact ls_mask [true, true, false, true, true, true] [some (.ref 92), some (.int x1), none, some (.int x3), some (.int x4), some (.int x2)] rfl hyp
        · refine ls_iload_n f_176_6 rfl ?_
          refine ls_bipush 57 f_176_7 (by decide) ?_
          refine ls_icmp_gt 16 f_176_9 rfl hyp (fun _ hyp => ?_) (fun _ hyp => ?_)
          · refine ls_iconst 0 f_176_16 (by decide) ?_
            refine ls_zreturn f_176_17 rZ_176 (by decide) ?_
            show lm_W _ _ _ _ [.int 0, .int (lm_i h 92 15), .ref 100] _ _
            refine ls_if_eq_T 157 f_178_149 rfl (by decide) ?_
            refine ls_bipush 100 f_178_157 (by decide) ?_
            refine ls_iload_n f_178_159 rfl ?_
            refine ls_sipush 255 f_178_160 (by decide) ?_
            refine ls_iand (x3 &&& 255) f_178_163 rfl ?_
            refine ls_iadd (100 + (x3 &&& 255)) f_178_164 rfl ?_
            refine ls_iast f_178_165 (lm_Lay_si (lm_Lay_si hl _ _ _) _ _ _) S_100 hyp (fun hyp => ?_)
            refine ls_iload_n f_178_166 rfl ?_
            refine ls_istore [some (.ref 92), some (.int x1), some (.int x2), some (.int x3), some (.int x4), some (.int x2)] f_178_167 (Nat.le_of_ble_eq_true rfl) rfl ?_
            exact ls_mask [true, true, false, true, true, true] [some (.ref 92), some (.int x1), none, some (.int x3), some (.int x4), some (.int x2)] rfl hyp
          · refine ls_iconst 1 f_176_12 (by decide) ?_
            refine ls_goto 17 f_176_13 rfl ?_
            refine ls_zreturn f_176_17 rZ_176 (by decide) ?_
            show lm_W _ _ _ _ [.int 1, .int (lm_i h 92 15), .ref 100] _ _
            refine ls_if_eq_F 157 f_178_149 rfl (by decide) ?_
            refine ls_bipush 50 f_178_152 (by decide) ?_
            refine ls_goto 165 f_178_154 rfl ?_
            refine ls_iast f_178_165 (lm_Lay_si (lm_Lay_si hl _ _ _) _ _ _) S_100 hyp (fun hyp => ?_)
            refine ls_iload_n f_178_166 rfl ?_
            refine ls_istore [some (.ref 92), some (.int x1), some (.int x2), some (.int x3), some (.int x4), some (.int x2)] f_178_167 (Nat.le_of_ble_eq_true rfl) rfl ?_
            exact ls_mask [true, true, false, true, true, true] [some (.ref 92), some (.int x1), none, some (.int x3), some (.int x4), some (.int x2)] rfl hyp
      · refine ls_iload_n f_175_6 rfl ?_
        refine ls_bipush 122 f_175_7 (by decide) ?_
        refine ls_icmp_gt 16 f_175_9 rfl hyp (fun _ hyp => ?_) (fun _ hyp => ?_)
        · refine ls_iconst 0 f_175_16 (by decide) ?_
          refine ls_zreturn f_175_17 rZ_175 (by decide) ?_
          show lm_W _ _ _ _ [.int 0, .int (lm_i h 92 15), .ref 100] _ _
          refine ls_if_eq_T 145 f_178_132 rfl (by decide) ?_
          refine ls_iload_n f_178_145 rfl ?_
          refine ls_invS f_178_146 q_178_151 [.int x3] [.int (lm_i h 92 15), .ref 100] rfl (Nat.le_of_ble_eq_true rfl) ?_
          refine ls_enter [some (.int x3)] ml_176 (Nat.le_of_ble_eq_true rfl) rfl ?_
          refine ls_iload_n f_176_0 rfl ?_
          refine ls_bipush 48 f_176_1 (by decide) ?_
          refine ls_icmp_lt 16 f_176_3 rfl hyp (fun _ hyp => ?_) (fun _ hyp => ?_)
          · refine ls_iconst 0 f_176_16 (by decide) ?_
            refine ls_zreturn f_176_17 rZ_176 (by decide) ?_
            show lm_W _ _ _ _ [.int 0, .int (lm_i h 92 15), .ref 100] _ _
            refine ls_if_eq_T 157 f_178_149 rfl (by decide) ?_
            refine ls_bipush 100 f_178_157 (by decide) ?_
            refine ls_iload_n f_178_159 rfl ?_
            refine ls_sipush 255 f_178_160 (by decide) ?_
            refine ls_iand (x3 &&& 255) f_178_163 rfl ?_
            refine ls_iadd (100 + (x3 &&& 255)) f_178_164 rfl ?_
            refine ls_iast f_178_165 (lm_Lay_si (lm_Lay_si hl _ _ _) _ _ _) S_100 hyp (fun hyp => ?_)
            refine ls_iload_n f_178_166 rfl ?_
            refine ls_istore [some (.ref 92), some (.int x1), some (.int x2), some (.int x3), some (.int x4), some (.int x2)] f_178_167 (Nat.le_of_ble_eq_true rfl) rfl ?_
            exact ls_mask [true, true, false, true, true, true] [some (.ref 92), some (.int x1), none, some (.int x3), some (.int x4), some (.int x2)] rfl hyp
          · refine ls_iload_n f_176_6 rfl ?_
            refine ls_bipush 57 f_176_7 (by decide) ?_
            refine ls_icmp_gt 16 f_176_9 rfl hyp (fun _ hyp => ?_) (fun _ hyp => ?_)
            · refine ls_iconst 0 f_176_16 (by decide) ?_
              refine ls_zreturn f_176_17 rZ_176 (by decide) ?_
              show lm_W _ _ _ _ [.int 0, .int (lm_i h 92 15), .ref 100] _ _
              refine ls_if_eq_T 157 f_178_149 rfl (by decide) ?_
              refine ls_bipush 100 f_178_157 (by decide) ?_
              refine ls_iload_n f_178_159 rfl ?_
              refine ls_sipush 255 f_178_160 (by decide) ?_
              refine ls_iand (x3 &&& 255) f_178_163 rfl ?_
              refine ls_iadd (100 + (x3 &&& 255)) f_178_164 rfl ?_
              refine ls_iast f_178_165 (lm_Lay_si (lm_Lay_si hl _ _ _) _ _ _) S_100 hyp (fun hyp => ?_)
              refine ls_iload_n f_178_166 rfl ?_
              refine ls_istore [some (.ref 92), some (.int x1), some (.int x2), some (.int x3), some (.int x4), some (.int x2)] f_178_167 (Nat.le_of_ble_eq_true rfl) rfl ?_
              exact ls_mask [true, true, false, true, true, true] [some (.ref 92), some (.int x1), none, some (.int x3), some (.int x4), some (.int x2)] rfl hyp
            · refine ls_iconst 1 f_176_12 (by decide) ?_
              refine ls_goto 17 f_176_13 rfl ?_
              refine ls_zreturn f_176_17 rZ_176 (by decide) ?_
              show lm_W _ _ _ _ [.int 1, .int (lm_i h 92 15), .ref 100] _ _
              refine ls_if_eq_F 157 f_178_149 rfl (by decide) ?_
              refine ls_bipush 50 f_178_152 (by decide) ?_
              refine ls_goto 165 f_178_154 rfl ?_
              refine ls_iast f_178_165 (lm_Lay_si (lm_Lay_si hl _ _ _) _ _ _) S_100 hyp (fun hyp => ?_)
              refine ls_iload_n f_178_166 rfl ?_
              refine ls_istore [some (.ref 92), some (.int x1), some (.int x2), some (.int x3), some (.int x4), some (.int x2)] f_178_167 (Nat.le_of_ble_eq_true rfl) rfl ?_
              exact ls_mask [true, true, false, true, true, true] [some (.ref 92), some (.int x1), none, some (.int x3), some (.int x4), some (.int x2)] rfl hyp
        · refine ls_iconst 1 f_175_12 (by decide) ?_
          refine ls_goto 17 f_175_13 rfl ?_
          refine ls_zreturn f_175_17 rZ_175 (by decide) ?_
          show lm_W _ _ _ _ [.int 1, .int (lm_i h 92 15), .ref 100] _ _
          refine ls_if_eq_F 145 f_178_132 rfl (by decide) ?_
          refine ls_aload_n f_178_135 rfl ?_
          refine ls_iload_n f_178_136 rfl ?_
          refine ls_iload f_178_137 rfl ?_
          refine ls_invV (a := 92) f_178_139 q_178_154 [.int x2, .int x4] [.int (lm_i h 92 15), .ref 100] rfl (Nat.le_of_ble_eq_true rfl) (lm_Lay_si (lm_Lay_si hl _ _ _) _ _ _) S_92 ow_177 ?_
          refine ls_call hyp (lm_Lay_si (lm_Lay_si hl _ _ _) _ _ _) (fun _ h9 hl9 hyp => ?_)
          refine ls_retI hyp (fun r10 hyp => ?_)
          refine ls_goto 165 f_178_142 rfl ?_
          refine ls_iast f_178_165 hl9 S_100 hyp (fun hyp => ?_)
          refine ls_iload_n f_178_166 rfl ?_
          refine ls_istore [some (.ref 92), some (.int x1), some (.int x2), some (.int x3), some (.int x4), some (.int x2)] f_178_167 (Nat.le_of_ble_eq_true rfl) rfl ?_
          exact ls_mask [true, true, false, true, true, true] [some (.ref 92), some (.int x1), none, some (.int x3), some (.int x4), some (.int x2)] rfl hyp
    · refine ls_iload_n f_176_6 rfl ?_
      refine ls_bipush 57 f_176_7 (by decide) ?_
      refine ls_icmp_gt 16 f_176_9 rfl hyp (fun _ hyp => ?_) (fun _ hyp => ?_)
      · refine ls_iconst 0 f_176_16 (by decide) ?_
        refine ls_zreturn f_176_17 rZ_176 (by decide) ?_
        show lm_W _ _ _ _ [.int 0] _ _
        refine ls_if_eq_T 100 f_178_72 rfl (by decide) ?_
        refine ls_aload_n f_178_100 rfl ?_
        refine ls_getR f_178_101 p_178_54 hl S_92 F_92_14 ?_
        refine ls_aload_n f_178_104 rfl ?_
        refine ls_getI f_178_105 p_178_145 hl S_92 ?_
        refine ls_iload_n f_178_108 rfl ?_
        refine ls_iast f_178_109 hl S_102 hyp (fun hyp => ?_)
        refine ls_aload_n f_178_110 rfl ?_
        refine ls_getR f_178_111 p_178_51 (lm_Lay_si hl _ _ _) S_92 F_92_13 ?_
        refine ls_aload_n f_178_114 rfl ?_
        refine ls_getI f_178_115 p_178_145 (lm_Lay_si hl _ _ _) S_92 ?_
        refine ls_top (lm_i h 92 15) rfl ?_
        refine ls_iconst 0 f_178_118 (by decide) ?_
        refine ls_iast f_178_119 (lm_Lay_si hl _ _ _) S_101 hyp (fun hyp => ?_)
        refine ls_aload_n f_178_120 rfl ?_
        refine ls_getR f_178_121 p_178_48 (lm_Lay_si (lm_Lay_si hl _ _ _) _ _ _) S_92 F_92_12 ?_
        refine ls_aload_n f_178_124 rfl ?_
        refine ls_getI f_178_125 p_178_145 (lm_Lay_si (lm_Lay_si hl _ _ _) _ _ _) S_92 ?_
        refine ls_top (lm_i h 92 15) rfl ?_
        refine ls_iload_n f_178_128 rfl ?_
        refine ls_invS f_178_129 q_178_148 [.int x3] [.int (lm_i h 92 15), .ref 100] rfl (Nat.le_of_ble_eq_true rfl) ?_
        refine ls_enter [some (.int x3)] ml_175 (Nat.le_of_ble_eq_true rfl) rfl ?_
        refine ls_iload_n f_175_0 rfl ?_
        refine ls_bipush 97 f_175_1 (by decide) ?_
        refine ls_icmp_lt 16 f_175_3 rfl hyp (fun _ hyp => ?_) (fun _ hyp => ?_)
        · refine ls_iconst 0 f_175_16 (by decide) ?_
          refine ls_zreturn f_175_17 rZ_175 (by decide) ?_
          show lm_W _ _ _ _ [.int 0, .int (lm_i h 92 15), .ref 100] _ _
          refine ls_if_eq_T 145 f_178_132 rfl (by decide) ?_
          refine ls_iload_n f_178_145 rfl ?_
          refine ls_invS f_178_146 q_178_151 [.int x3] [.int (lm_i h 92 15), .ref 100] rfl (Nat.le_of_ble_eq_true rfl) ?_
          refine ls_enter [some (.int x3)] ml_176 (Nat.le_of_ble_eq_true rfl) rfl ?_
          refine ls_iload_n f_176_0 rfl ?_
          refine ls_bipush 48 f_176_1 (by decide) ?_
          refine ls_icmp_lt 16 f_176_3 rfl hyp (fun _ hyp => ?_) (fun _ hyp => ?_)
          · refine ls_iconst 0 f_176_16 (by decide) ?_
            refine ls_zreturn f_176_17 rZ_176 (by decide) ?_
            show lm_W _ _ _ _ [.int 0, .int (lm_i h 92 15), .ref 100] _ _
            refine ls_if_eq_T 157 f_178_149 rfl (by decide) ?_
            refine ls_bipush 100 f_178_157 (by decide) ?_
            refine ls_iload_n f_178_159 rfl ?_
            refine ls_sipush 255 f_178_160 (by decide) ?_
            refine ls_iand (x3 &&& 255) f_178_163 rfl ?_
            refine ls_iadd (100 + (x3 &&& 255)) f_178_164 rfl ?_
            refine ls_iast f_178_165 (lm_Lay_si (lm_Lay_si hl _ _ _) _ _ _) S_100 hyp (fun hyp => ?_)
            refine ls_iload_n f_178_166 rfl ?_
            refine ls_istore [some (.ref 92), some (.int x1), some (.int x2), some (.int x3), some (.int x4), some (.int x2)] f_178_167 (Nat.le_of_ble_eq_true rfl) rfl ?_
            exact ls_mask [true, true, false, true, true, true] [some (.ref 92), some (.int x1), none, some (.int x3), some (.int x4), some (.int x2)] rfl hyp
          · refine ls_iload_n f_176_6 rfl ?_
            refine ls_bipush 57 f_176_7 (by decide) ?_
            refine ls_icmp_gt 16 f_176_9 rfl hyp (fun _ hyp => ?_) (fun _ hyp => ?_)
            · refine ls_iconst 0 f_176_16 (by decide) ?_
              refine ls_zreturn f_176_17 rZ_176 (by decide) ?_
              show lm_W _ _ _ _ [.int 0, .int (lm_i h 92 15), .ref 100] _ _
              refine ls_if_eq_T 157 f_178_149 rfl (by decide) ?_
              refine ls_bipush 100 f_178_157 (by decide) ?_
              refine ls_iload_n f_178_159 rfl ?_
              refine ls_sipush 255 f_178_160 (by decide) ?_
              refine ls_iand (x3 &&& 255) f_178_163 rfl ?_
              refine ls_iadd (100 + (x3 &&& 255)) f_178_164 rfl ?_
              refine ls_iast f_178_165 (lm_Lay_si (lm_Lay_si hl _ _ _) _ _ _) S_100 hyp (fun hyp => ?_)
              refine ls_iload_n f_178_166 rfl ?_
              refine ls_istore [some (.ref 92), some (.int x1), some (.int x2), some (.int x3), some (.int x4), some (.int x2)] f_178_167 (Nat.le_of_ble_eq_true rfl) rfl ?_
              exact ls_mask [true, true, false, true, true, true] [some (.ref 92), some (.int x1), none, some (.int x3), some (.int x4), some (.int x2)] rfl hyp
            · refine ls_iconst 1 f_176_12 (by decide) ?_
              refine ls_goto 17 f_176_13 rfl ?_
              refine ls_zreturn f_176_17 rZ_176 (by decide) ?_
              show lm_W _ _ _ _ [.int 1, .int (lm_i h 92 15), .ref 100] _ _
              refine ls_if_eq_F 157 f_178_149 rfl (by decide) ?_
              refine ls_bipush 50 f_178_152 (by decide) ?_
              refine ls_goto 165 f_178_154 rfl ?_
              refine ls_iast f_178_165 (lm_Lay_si (lm_Lay_si hl _ _ _) _ _ _) S_100 hyp (fun hyp => ?_)
              refine ls_iload_n f_178_166 rfl ?_
              refine ls_istore [some (.ref 92), some (.int x1), some (.int x2), some (.int x3), some (.int x4), some (.int x2)] f_178_167 (Nat.le_of_ble_eq_true rfl) rfl ?_
              exact ls_mask [true, true, false, true, true, true] [some (.ref 92), some (.int x1), none, some (.int x3), some (.int x4), some (.int x2)] rfl hyp
        · refine ls_iload_n f_175_6 rfl ?_
          refine ls_bipush 122 f_175_7 (by decide) ?_
          refine ls_icmp_gt 16 f_175_9 rfl hyp (fun _ hyp => ?_) (fun _ hyp => ?_)
          · refine ls_iconst 0 f_175_16 (by decide) ?_
            refine ls_zreturn f_175_17 rZ_175 (by decide) ?_
            show lm_W _ _ _ _ [.int 0, .int (lm_i h 92 15), .ref 100] _ _
            refine ls_if_eq_T 145 f_178_132 rfl (by decide) ?_
            refine ls_iload_n f_178_145 rfl ?_
            refine ls_invS f_178_146 q_178_151 [.int x3] [.int (lm_i h 92 15), .ref 100] rfl (Nat.le_of_ble_eq_true rfl) ?_
            refine ls_enter [some (.int x3)] ml_176 (Nat.le_of_ble_eq_true rfl) rfl ?_
            refine ls_iload_n f_176_0 rfl ?_
            refine ls_bipush 48 f_176_1 (by decide) ?_
            refine ls_icmp_lt 16 f_176_3 rfl hyp (fun _ hyp => ?_) (fun _ hyp => ?_)
            · refine ls_iconst 0 f_176_16 (by decide) ?_
              refine ls_zreturn f_176_17 rZ_176 (by decide) ?_
              show lm_W _ _ _ _ [.int 0, .int (lm_i h 92 15), .ref 100] _ _
              refine ls_if_eq_T 157 f_178_149 rfl (by decide) ?_
              refine ls_bipush 100 f_178_157 (by decide) ?_
              refine ls_iload_n f_178_159 rfl ?_
              refine ls_sipush 255 f_178_160 (by decide) ?_
              refine ls_iand (x3 &&& 255) f_178_163 rfl ?_
              refine ls_iadd (100 + (x3 &&& 255)) f_178_164 rfl ?_
              refine ls_iast f_178_165 (lm_Lay_si (lm_Lay_si hl _ _ _) _ _ _) S_100 hyp (fun hyp => ?_)
              refine ls_iload_n f_178_166 rfl ?_
              refine ls_istore [some (.ref 92), some (.int x1), some (.int x2), some (.int x3), some (.int x4), some (.int x2)] f_178_167 (Nat.le_of_ble_eq_true rfl) rfl ?_
              exact ls_mask [true, true, false, true, true, true] [some (.ref 92), some (.int x1), none, some (.int x3), some (.int x4), some (.int x2)] rfl hyp
            · refine ls_iload_n f_176_6 rfl ?_
              refine ls_bipush 57 f_176_7 (by decide) ?_
              refine ls_icmp_gt 16 f_176_9 rfl hyp (fun _ hyp => ?_) (fun _ hyp => ?_)
              · refine ls_iconst 0 f_176_16 (by decide) ?_
                refine ls_zreturn f_176_17 rZ_176 (by decide) ?_
                show lm_W _ _ _ _ [.int 0, .int (lm_i h 92 15), .ref 100] _ _
                refine ls_if_eq_T 157 f_178_149 rfl (by decide) ?_
                refine ls_bipush 100 f_178_157 (by decide) ?_
                refine ls_iload_n f_178_159 rfl ?_
                refine ls_sipush 255 f_178_160 (by decide) ?_
                refine ls_iand (x3 &&& 255) f_178_163 rfl ?_
                refine ls_iadd (100 + (x3 &&& 255)) f_178_164 rfl ?_
                refine ls_iast f_178_165 (lm_Lay_si (lm_Lay_si hl _ _ _) _ _ _) S_100 hyp (fun hyp => ?_)
                refine ls_iload_n f_178_166 rfl ?_
                refine ls_istore [some (.ref 92), some (.int x1), some (.int x2), some (.int x3), some (.int x4), some (.int x2)] f_178_167 (Nat.le_of_ble_eq_true rfl) rfl ?_
                exact ls_mask [true, true, false, true, true, true] [some (.ref 92), some (.int x1), none, some (.int x3), some (.int x4), some (.int x2)] rfl hyp
              · refine ls_iconst 1 f_176_12 (by decide) ?_
                refine ls_goto 17 f_176_13 rfl ?_
                refine ls_zreturn f_176_17 rZ_176 (by decide) ?_
                show lm_W _ _ _ _ [.int 1, .int (lm_i h 92 15), .ref 100] _ _
                refine ls_if_eq_F 157 f_178_149 rfl (by decide) ?_
                refine ls_bipush 50 f_178_152 (by decide) ?_
                refine ls_goto 165 f_178_154 rfl ?_
                refine ls_iast f_178_165 (lm_Lay_si (lm_Lay_si hl _ _ _) _ _ _) S_100 hyp (fun hyp => ?_)
                refine ls_iload_n f_178_166 rfl ?_
                refine ls_istore [some (.ref 92), some (.int x1), some (.int x2), some (.int x3), some (.int x4), some (.int x2)] f_178_167 (Nat.le_of_ble_eq_true rfl) rfl ?_
                exact ls_mask [true, true, false, true, true, true] [some (.ref 92), some (.int x1), none, some (.int x3), some (.int x4), some (.int x2)] rfl hyp
          · refine ls_iconst 1 f_175_12 (by decide) ?_
            refine ls_goto 17 f_175_13 rfl ?_
            refine ls_zreturn f_175_17 rZ_175 (by decide) ?_
            show lm_W _ _ _ _ [.int 1, .int (lm_i h 92 15), .ref 100] _ _
            refine ls_if_eq_F 145 f_178_132 rfl (by decide) ?_
            refine ls_aload_n f_178_135 rfl ?_
            refine ls_iload_n f_178_136 rfl ?_
            refine ls_iload f_178_137 rfl ?_
            refine ls_invV (a := 92) f_178_139 q_178_154 [.int x2, .int x4] [.int (lm_i h 92 15), .ref 100] rfl (Nat.le_of_ble_eq_true rfl) (lm_Lay_si (lm_Lay_si hl _ _ _) _ _ _) S_92 ow_177 ?_
            refine ls_call hyp (lm_Lay_si (lm_Lay_si hl _ _ _) _ _ _) (fun _ h11 hl11 hyp => ?_)
            refine ls_retI hyp (fun r12 hyp => ?_)
            refine ls_goto 165 f_178_142 rfl ?_
            refine ls_iast f_178_165 hl11 S_100 hyp (fun hyp => ?_)
            refine ls_iload_n f_178_166 rfl ?_
            refine ls_istore [some (.ref 92), some (.int x1), some (.int x2), some (.int x3), some (.int x4), some (.int x2)] f_178_167 (Nat.le_of_ble_eq_true rfl) rfl ?_
            exact ls_mask [true, true, false, true, true, true] [some (.ref 92), some (.int x1), none, some (.int x3), some (.int x4), some (.int x2)] rfl hyp
      · refine ls_iconst 1 f_176_12 (by decide) ?_
        refine ls_goto 17 f_176_13 rfl ?_
        refine ls_zreturn f_176_17 rZ_176 (by decide) ?_
        show lm_W _ _ _ _ [.int 1] _ _
        refine ls_if_eq_F 100 f_178_72 rfl (by decide) ?_
        exact hyp
