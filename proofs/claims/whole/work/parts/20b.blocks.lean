theorem e_179 {d : Nat} {h : lm_H} {K : Int32 → lm_H → Prop} (hl : lm_Lay h) (hyp : (if (lm_i h 92 18) = (-1) then (K 1 h) else (K 0 h))) : lm_call (d + 1) 179 [.ref 92] h (lm_kI K) := by
  refine ls_enter [some (.ref 92)] ml_179 (Nat.le_of_ble_eq_true rfl) rfl ?_
  refine ls_aload_n f_179_0 rfl ?_
  refine ls_getI f_179_1 p_179_159 hl S_92 ?_
  refine ls_iconst (-1) f_179_4 (by decide) ?_
  refine ls_icmp_ne 12 f_179_5 rfl hyp (fun _ hyp => ?_) (fun _ hyp => ?_)
  · refine ls_iconst 1 f_179_8 (by decide) ?_
    refine ls_goto 13 f_179_9 rfl ?_
    exact ls_zreturn f_179_13 rZ_179 (by decide) hyp
  · refine ls_iconst 0 f_179_12 (by decide) ?_
    exact ls_zreturn f_179_13 rZ_179 (by decide) hyp
theorem e_180 {d : Nat} {h : lm_H} {K : lm_H → Prop} (hl : lm_Lay h) (hyp : (if (lm_i h 92 18) = (-1) then (lm_in (lm_i h 92 16) 401 False (K (lm_si h 92 18 (lm_i h 102 ((lm_i h 92 16).toNatClampNeg))))) else (K h))) : lm_call (d + 2) 180 [.ref 92] h (lm_kV K) := by
  refine ls_enter [some (.ref 92)] ml_180 (Nat.le_of_ble_eq_true rfl) rfl ?_
  refine ls_aload_n f_180_0 rfl ?_
  refine ls_invV (a := 92) f_180_1 q_180_162 [] [] rfl (Nat.le_of_ble_eq_true rfl) hl S_92 ow_179 ?_
  refine ls_enter [some (.ref 92)] ml_179 (Nat.le_of_ble_eq_true rfl) rfl ?_
  refine ls_aload_n f_179_0 rfl ?_
  refine ls_getI f_179_1 p_179_159 hl S_92 ?_
  refine ls_iconst (-1) f_179_4 (by decide) ?_
  refine ls_icmp_ne 12 f_179_5 rfl hyp (fun _ hyp => ?_) (fun _ hyp => ?_)
  · refine ls_iconst 1 f_179_8 (by decide) ?_
    refine ls_goto 13 f_179_9 rfl ?_
    refine ls_zreturn f_179_13 rZ_179 (by decide) ?_
    show lm_W _ _ _ _ [.int 1] _ _
    refine ls_if_eq_F 20 f_180_4 rfl (by decide) ?_
    refine ls_aload_n f_180_7 rfl ?_
    refine ls_aload_n f_180_8 rfl ?_
    refine ls_getR f_180_9 p_180_54 hl S_92 F_92_14 ?_
    refine ls_aload_n f_180_12 rfl ?_
    refine ls_getI f_180_13 p_180_166 hl S_92 ?_
    refine ls_iald f_180_16 hl S_102 hyp (fun hyp => ?_)
    refine ls_putI f_180_17 p_180_159 hl S_92 rfl ?_
    exact ls_return f_180_20 rV_180 hyp
  · refine ls_iconst 0 f_179_12 (by decide) ?_
    refine ls_zreturn f_179_13 rZ_179 (by decide) ?_
    show lm_W _ _ _ _ [.int 0] _ _
    refine ls_if_eq_T 20 f_180_4 rfl (by decide) ?_
    exact ls_return f_180_20 rV_180 hyp
theorem e_181 {d : Nat} {h : lm_H} {K : Int32 → lm_H → Prop} (x1 : Int32) (hl : lm_Lay h) (hyp : (if (lm_i h 92 18) = (-1) then (lm_in (lm_i h 92 16) 401 False (if (lm_i h 100 ((lm_i h 92 16).toNatClampNeg)) = x1 then (K 1 (lm_si h 92 16 ((lm_i h 92 16) + 1))) else (K 0 h))) else (K 0 h))) : lm_call (d + 2) 181 [.ref 92, .int x1] h (lm_kI K) := by
  refine ls_enter [some (.ref 92), some (.int x1), none] ml_181 (Nat.le_of_ble_eq_true rfl) rfl ?_
  refine ls_aload_n f_181_0 rfl ?_
  refine ls_invV (a := 92) f_181_1 q_181_162 [] [] rfl (Nat.le_of_ble_eq_true rfl) hl S_92 ow_179 ?_
  refine ls_enter [some (.ref 92)] ml_179 (Nat.le_of_ble_eq_true rfl) rfl ?_
  refine ls_aload_n f_179_0 rfl ?_
  refine ls_getI f_179_1 p_179_159 hl S_92 ?_
  refine ls_iconst (-1) f_179_4 (by decide) ?_
  refine ls_icmp_ne 12 f_179_5 rfl hyp (fun _ hyp => ?_) (fun _ hyp => ?_)
  · refine ls_iconst 1 f_179_8 (by decide) ?_
    refine ls_goto 13 f_179_9 rfl ?_
    refine ls_zreturn f_179_13 rZ_179 (by decide) ?_
    show lm_W _ _ _ _ [.int 1] _ _
    refine ls_if_eq_F 24 f_181_4 rfl (by decide) ?_
    refine ls_aload_n f_181_7 rfl ?_
    refine ls_getR f_181_8 p_181_48 hl S_92 F_92_12 ?_
    refine ls_aload_n f_181_11 rfl ?_
    refine ls_getI f_181_12 p_181_166 hl S_92 ?_
    refine ls_iald f_181_15 hl S_100 hyp (fun hyp => ?_)
    refine ls_iload_n f_181_16 rfl ?_
    refine ls_icmp_ne 24 f_181_17 rfl hyp (fun _ hyp => ?_) (fun _ hyp => ?_)
    · refine ls_iconst 1 f_181_20 (by decide) ?_
      refine ls_goto 25 f_181_21 rfl ?_
      refine ls_istore_n [some (.ref 92), some (.int x1), some (.int 1)] f_181_25 (Nat.le_of_ble_eq_true rfl) rfl ?_
      refine ls_iload_n f_181_26 rfl ?_
      refine ls_if_eq_F 40 f_181_27 rfl (by decide) ?_
      refine ls_aload_n f_181_30 rfl ?_
      refine ls_dup f_181_31 rfl ?_
      refine ls_getI f_181_32 p_181_166 hl S_92 ?_
      refine ls_iconst 1 f_181_35 (by decide) ?_
      refine ls_iadd ((lm_i h 92 16) + 1) f_181_36 rfl ?_
      refine ls_putI f_181_37 p_181_166 hl S_92 rfl ?_
      refine ls_iload_n f_181_40 rfl ?_
      exact ls_zreturn f_181_41 rZ_181 (by decide) hyp
    · refine ls_iconst 0 f_181_24 (by decide) ?_
      refine ls_istore_n [some (.ref 92), some (.int x1), some (.int 0)] f_181_25 (Nat.le_of_ble_eq_true rfl) rfl ?_
      refine ls_iload_n f_181_26 rfl ?_
      refine ls_if_eq_T 40 f_181_27 rfl (by decide) ?_
      refine ls_iload_n f_181_40 rfl ?_
      exact ls_zreturn f_181_41 rZ_181 (by decide) hyp
  · refine ls_iconst 0 f_179_12 (by decide) ?_
    refine ls_zreturn f_179_13 rZ_179 (by decide) ?_
    show lm_W _ _ _ _ [.int 0] _ _
    refine ls_if_eq_T 24 f_181_4 rfl (by decide) ?_
    refine ls_iconst 0 f_181_24 (by decide) ?_
    refine ls_istore_n [some (.ref 92), some (.int x1), some (.int 0)] f_181_25 (Nat.le_of_ble_eq_true rfl) rfl ?_
    refine ls_iload_n f_181_26 rfl ?_
    refine ls_if_eq_T 40 f_181_27 rfl (by decide) ?_
    refine ls_iload_n f_181_40 rfl ?_
    exact ls_zreturn f_181_41 rZ_181 (by decide) hyp
theorem e_182 {d : Nat} {h : lm_H} {K : lm_H → Prop} (x1 : Int32) (hl : lm_Lay h) (hyp : lm_call (d) 181 [.ref 92, .int x1] h (lm_kI fun r2 h1 => (if r2 = 0 then (lm_call (d) 180 [.ref 92] h1 (lm_kV fun h3 => K h3)) else (K h1)))) : lm_call (d + 1) 182 [.ref 92, .int x1] h (lm_kV K) := by
  refine ls_enter [some (.ref 92), some (.int x1)] ml_182 (Nat.le_of_ble_eq_true rfl) rfl ?_
  refine ls_aload_n f_182_0 rfl ?_
  refine ls_iload_n f_182_1 rfl ?_
  refine ls_invV (a := 92) f_182_2 q_182_169 [.int x1] [] rfl (Nat.le_of_ble_eq_true rfl) hl S_92 ow_181 ?_
  refine ls_call hyp hl (fun _ h1 hl1 hyp => ?_)
  refine ls_retI hyp (fun r2 hyp => ?_)
  refine ls_if_ne 12 f_182_5 rfl hyp (fun _ hyp => ?_) (fun _ hyp => ?_)
  · refine ls_aload_n f_182_8 rfl ?_
    refine ls_invV (a := 92) f_182_9 q_182_172 [] [] rfl (Nat.le_of_ble_eq_true rfl) hl1 S_92 ow_180 ?_
    refine ls_call hyp hl1 (fun _ h3 hl3 hyp => ?_)
    refine ls_retV hyp (fun hyp => ?_)
    exact ls_return f_182_12 rV_182 hyp
  · exact ls_return f_182_12 rV_182 hyp
theorem e_183 {d : Nat} {h : lm_H} {K : lm_H → Prop} (hl : lm_Lay h) (hyp : (if (lm_i h 92 17) = 50 then (lm_call (d + 1) 180 [.ref 92] h (lm_kV fun h1 => (if (lm_i h1 92 18) = (-1) then (K (lm_si (lm_si h1 92 17 ((lm_i h1 92 17) + 1)) 92 16 ((lm_i h1 92 16) + 1))) else (K (lm_si h1 92 17 ((lm_i h1 92 17) + 1)))))) else (if (lm_i h 92 18) = (-1) then (K (lm_si (lm_si h 92 17 ((lm_i h 92 17) + 1)) 92 16 ((lm_i h 92 16) + 1))) else (K (lm_si h 92 17 ((lm_i h 92 17) + 1)))))) : lm_call (d + 2) 183 [.ref 92] h (lm_kV K) := by
  refine ls_enter [some (.ref 92)] ml_183 (Nat.le_of_ble_eq_true rfl) rfl ?_
  refine ls_aload_n f_183_0 rfl ?_
  refine ls_getI f_183_1 p_183_175 hl S_92 ?_
  refine ls_bipush 50 f_183_4 (by decide) ?_
  refine ls_icmp_ne 13 f_183_6 rfl hyp (fun _ hyp => ?_) (fun _ hyp => ?_)
  · refine ls_aload_n f_183_9 rfl ?_
    refine ls_invV (a := 92) f_183_10 q_183_172 [] [] rfl (Nat.le_of_ble_eq_true rfl) hl S_92 ow_180 ?_
    refine ls_call hyp hl (fun _ h1 hl1 hyp => ?_)
    refine ls_retV hyp (fun hyp => ?_)
    refine ls_aload_n f_183_13 rfl ?_
    refine ls_dup f_183_14 rfl ?_
    refine ls_getI f_183_15 p_183_175 hl1 S_92 ?_
    refine ls_iconst 1 f_183_18 (by decide) ?_
    refine ls_iadd ((lm_i h1 92 17) + 1) f_183_19 rfl ?_
    refine ls_putI f_183_20 p_183_175 hl1 S_92 rfl ?_
    refine ls_aload_n f_183_23 rfl ?_
    refine ls_invV (a := 92) f_183_24 q_183_162 [] [] rfl (Nat.le_of_ble_eq_true rfl) (lm_Lay_si hl1 _ _ _) S_92 ow_179 ?_
    refine ls_enter [some (.ref 92)] ml_179 (Nat.le_of_ble_eq_true rfl) rfl ?_
    refine ls_aload_n f_179_0 rfl ?_
    refine ls_getI f_179_1 p_179_159 (lm_Lay_si hl1 _ _ _) S_92 ?_
    refine ls_top (lm_i h1 92 18) rfl ?_
    refine ls_iconst (-1) f_179_4 (by decide) ?_
    refine ls_icmp_ne 12 f_179_5 rfl hyp (fun _ hyp => ?_) (fun _ hyp => ?_)
    · refine ls_iconst 1 f_179_8 (by decide) ?_
      refine ls_goto 13 f_179_9 rfl ?_
      refine ls_zreturn f_179_13 rZ_179 (by decide) ?_
      show lm_W _ _ _ _ [.int 1] _ _
      refine ls_if_eq_F 40 f_183_27 rfl (by decide) ?_
      refine ls_aload_n f_183_30 rfl ?_
      refine ls_dup f_183_31 rfl ?_
      refine ls_getI f_183_32 p_183_166 (lm_Lay_si hl1 _ _ _) S_92 ?_
      refine ls_top (lm_i h1 92 16) rfl ?_
      refine ls_iconst 1 f_183_35 (by decide) ?_
      refine ls_iadd ((lm_i h1 92 16) + 1) f_183_36 rfl ?_
      refine ls_putI f_183_37 p_183_166 (lm_Lay_si hl1 _ _ _) S_92 rfl ?_
      exact ls_return f_183_40 rV_183 hyp
    · refine ls_iconst 0 f_179_12 (by decide) ?_
      refine ls_zreturn f_179_13 rZ_179 (by decide) ?_
      show lm_W _ _ _ _ [.int 0] _ _
      refine ls_if_eq_T 40 f_183_27 rfl (by decide) ?_
      exact ls_return f_183_40 rV_183 hyp
  · refine ls_aload_n f_183_13 rfl ?_
    refine ls_dup f_183_14 rfl ?_
    refine ls_getI f_183_15 p_183_175 hl S_92 ?_
    refine ls_iconst 1 f_183_18 (by decide) ?_
    refine ls_iadd ((lm_i h 92 17) + 1) f_183_19 rfl ?_
    refine ls_putI f_183_20 p_183_175 hl S_92 rfl ?_
    refine ls_aload_n f_183_23 rfl ?_
    refine ls_invV (a := 92) f_183_24 q_183_162 [] [] rfl (Nat.le_of_ble_eq_true rfl) (lm_Lay_si hl _ _ _) S_92 ow_179 ?_
    refine ls_enter [some (.ref 92)] ml_179 (Nat.le_of_ble_eq_true rfl) rfl ?_
    refine ls_aload_n f_179_0 rfl ?_
    refine ls_getI f_179_1 p_179_159 (lm_Lay_si hl _ _ _) S_92 ?_
    refine ls_top (lm_i h 92 18) rfl ?_
    refine ls_iconst (-1) f_179_4 (by decide) ?_
    refine ls_icmp_ne 12 f_179_5 rfl hyp (fun _ hyp => ?_) (fun _ hyp => ?_)
    · refine ls_iconst 1 f_179_8 (by decide) ?_
      refine ls_goto 13 f_179_9 rfl ?_
      refine ls_zreturn f_179_13 rZ_179 (by decide) ?_
      show lm_W _ _ _ _ [.int 1] _ _
      refine ls_if_eq_F 40 f_183_27 rfl (by decide) ?_
      refine ls_aload_n f_183_30 rfl ?_
      refine ls_dup f_183_31 rfl ?_
      refine ls_getI f_183_32 p_183_166 (lm_Lay_si hl _ _ _) S_92 ?_
      refine ls_top (lm_i h 92 16) rfl ?_
      refine ls_iconst 1 f_183_35 (by decide) ?_
      refine ls_iadd ((lm_i h 92 16) + 1) f_183_36 rfl ?_
      refine ls_putI f_183_37 p_183_166 (lm_Lay_si hl _ _ _) S_92 rfl ?_
      exact ls_return f_183_40 rV_183 hyp
    · refine ls_iconst 0 f_179_12 (by decide) ?_
      refine ls_zreturn f_179_13 rZ_179 (by decide) ?_
      show lm_W _ _ _ _ [.int 0] _ _
      refine ls_if_eq_T 40 f_183_27 rfl (by decide) ?_
      exact ls_return f_183_40 rV_183 hyp
theorem e_184 {d : Nat} {h : lm_H} {K : Int32 → lm_H → Prop} (x0 : Int32) (hl : lm_Lay h) (hyp : K (100 + x0) h) : lm_call (d + 1) 184 [.int x0] h (lm_kI K) := by
  refine ls_enter [some (.int x0)] ml_184 (Nat.le_of_ble_eq_true rfl) rfl ?_
  refine ls_bipush 100 f_184_0 (by decide) ?_
  refine ls_iload_n f_184_2 rfl ?_
  refine ls_iadd (100 + x0) f_184_3 rfl ?_
  exact ls_ireturn f_184_4 rI_184 hyp
theorem e_185 {d : Nat} {h : lm_H} {K : lm_H → Prop} (hl : lm_Lay h) (hyp : lm_call (d) 181 [.ref 92, .int 1] h (lm_kI fun r2 h1 => (if r2 = 0 then (lm_call (d) 182 [.ref 92, .int 2] h1 (lm_kV fun h3 => lm_call (d) 181 [.ref 92, .int 3] h3 (lm_kI fun r5 h4 => (if r5 = 0 then (K h4) else (lm_call (d) 186 [.ref 92, .int 0] h4 (lm_kV fun h6 => K h6)))))) else (lm_call (d) 189 [.ref 92, .int 0] h1 (lm_kV fun h7 => lm_call (d) 181 [.ref 92, .int 3] h7 (lm_kI fun r9 h8 => (if r9 = 0 then (K h8) else (lm_call (d) 186 [.ref 92, .int 0] h8 (lm_kV fun h10 => K h10))))))))) : lm_call (d + 1) 185 [.ref 92] h (lm_kV K) := by
  refine ls_enter [some (.ref 92)] ml_185 (Nat.le_of_ble_eq_true rfl) rfl ?_
  refine ls_aload_n f_185_0 rfl ?_
  refine ls_iconst 1 f_185_1 (by decide) ?_
  refine ls_invV (a := 92) f_185_2 q_185_169 [.int 1] [] rfl (Nat.le_of_ble_eq_true rfl) hl S_92 ow_181 ?_
  refine ls_call hyp hl (fun _ h1 hl1 hyp => ?_)
  refine ls_retI hyp (fun r2 hyp => ?_)
  refine ls_if_eq 16 f_185_5 rfl hyp (fun _ hyp => ?_) (fun _ hyp => ?_)
  · refine ls_aload_n f_185_16 rfl ?_
    refine ls_iconst 2 f_185_17 (by decide) ?_
    refine ls_invV (a := 92) f_185_18 q_185_182 [.int 2] [] rfl (Nat.le_of_ble_eq_true rfl) hl1 S_92 ow_182 ?_
    refine ls_call hyp hl1 (fun _ h3 hl3 hyp => ?_)
    refine ls_retV hyp (fun hyp => ?_)
    refine ls_aload_n f_185_21 rfl ?_
    refine ls_iconst 3 f_185_22 (by decide) ?_
    refine ls_invV (a := 92) f_185_23 q_185_169 [.int 3] [] rfl (Nat.le_of_ble_eq_true rfl) hl3 S_92 ow_181 ?_
    refine ls_call hyp hl3 (fun _ h4 hl4 hyp => ?_)
    refine ls_retI hyp (fun r5 hyp => ?_)
    refine ls_if_eq 34 f_185_26 rfl hyp (fun _ hyp => ?_) (fun _ hyp => ?_)
    · exact ls_return f_185_34 rV_185 hyp
    · refine ls_aload_n f_185_29 rfl ?_
      refine ls_iconst 0 f_185_30 (by decide) ?_
      refine ls_invV (a := 92) f_185_31 q_185_185 [.int 0] [] rfl (Nat.le_of_ble_eq_true rfl) hl4 S_92 ow_186 ?_
      refine ls_call hyp hl4 (fun _ h6 hl6 hyp => ?_)
      refine ls_retV hyp (fun hyp => ?_)
      exact ls_return f_185_34 rV_185 hyp
  · refine ls_aload_n f_185_8 rfl ?_
    refine ls_iconst 0 f_185_9 (by decide) ?_
    refine ls_invV (a := 92) f_185_10 q_185_178 [.int 0] [] rfl (Nat.le_of_ble_eq_true rfl) hl1 S_92 ow_189 ?_
    refine ls_call hyp hl1 (fun _ h7 hl7 hyp => ?_)
    refine ls_retV hyp (fun hyp => ?_)
    refine ls_goto 21 f_185_13 rfl ?_
    refine ls_aload_n f_185_21 rfl ?_
    refine ls_iconst 3 f_185_22 (by decide) ?_
    refine ls_invV (a := 92) f_185_23 q_185_169 [.int 3] [] rfl (Nat.le_of_ble_eq_true rfl) hl7 S_92 ow_181 ?_
    refine ls_call hyp hl7 (fun _ h8 hl8 hyp => ?_)
    refine ls_retI hyp (fun r9 hyp => ?_)
    refine ls_if_eq 34 f_185_26 rfl hyp (fun _ hyp => ?_) (fun _ hyp => ?_)
    · exact ls_return f_185_34 rV_185 hyp
    · refine ls_aload_n f_185_29 rfl ?_
      refine ls_iconst 0 f_185_30 (by decide) ?_
      refine ls_invV (a := 92) f_185_31 q_185_185 [.int 0] [] rfl (Nat.le_of_ble_eq_true rfl) hl8 S_92 ow_186 ?_
      refine ls_call hyp hl8 (fun _ h10 hl10 hyp => ?_)
      refine ls_retV hyp (fun hyp => ?_)
      exact ls_return f_185_34 rV_185 hyp
theorem e_186 {d : Nat} {h : lm_H} {K : lm_H → Prop} (x1 : Int32) (hl : lm_Lay h) (hyp : lm_call (d) 187 [.ref 92, .int x1] h (lm_kV fun h1 => lm_W (d) 186 5 [some (.ref 92), some (.int x1)] [] h1 (lm_kV K))) : lm_call (d + 1) 186 [.ref 92, .int x1] h (lm_kV K) := by
  refine ls_enter [some (.ref 92), some (.int x1)] ml_186 (Nat.le_of_ble_eq_true rfl) rfl ?_
  refine ls_aload_n f_186_0 rfl ?_
  refine ls_iload_n f_186_1 rfl ?_
  refine ls_invV (a := 92) f_186_2 q_186_188 [.int x1] [] rfl (Nat.le_of_ble_eq_true rfl) hl S_92 ow_187 ?_
  refine ls_call hyp hl (fun _ h1 hl1 hyp => ?_)
  refine ls_retV hyp (fun hyp => ?_)
  exact hyp
theorem b_186_5 {d : Nat} {h : lm_H} {K : lm_H → Prop} (x1 : Int32) (hl : lm_Lay h) (hyp : lm_call (d) 181 [.ref 92, .int 4] h (lm_kI fun r2 h1 => (if r2 = 0 then (K h1) else (lm_call (d) 187 [.ref 92, .int x1] h1 (lm_kV fun h3 => lm_W (d) 186 5 [some (.ref 92), some (.int x1)] [] h3 (lm_kV K)))))) : lm_W (d) 186 5 [some (.ref 92), some (.int x1)] [] h (lm_kV K) := by
  refine ls_aload_n f_186_5 rfl ?_
  refine ls_iconst 4 f_186_6 (by decide) ?_
  refine ls_invV (a := 92) f_186_7 q_186_169 [.int 4] [] rfl (Nat.le_of_ble_eq_true rfl) hl S_92 ow_181 ?_
  refine ls_call hyp hl (fun _ h1 hl1 hyp => ?_)
  refine ls_retI hyp (fun r2 hyp => ?_)
  refine ls_if_eq 21 f_186_10 rfl hyp (fun _ hyp => ?_) (fun _ hyp => ?_)
  · exact ls_return f_186_21 rV_186 hyp
  · refine ls_aload_n f_186_13 rfl ?_
    refine ls_iload_n f_186_14 rfl ?_
    refine ls_invV (a := 92) f_186_15 q_186_188 [.int x1] [] rfl (Nat.le_of_ble_eq_true rfl) hl1 S_92 ow_187 ?_
    refine ls_call hyp hl1 (fun _ h3 hl3 hyp => ?_)
    refine ls_retV hyp (fun hyp => ?_)
    refine ls_goto 5 f_186_18 rfl ?_
    exact hyp
theorem e_187 {d : Nat} {h : lm_H} {K : lm_H → Prop} (x1 : Int32) (hl : lm_Lay h) (hyp : lm_call (d) 188 [.ref 92, .int x1] h (lm_kV fun h1 => lm_W (d) 187 5 [some (.ref 92), some (.int x1)] [] h1 (lm_kV K))) : lm_call (d + 1) 187 [.ref 92, .int x1] h (lm_kV K) := by
  refine ls_enter [some (.ref 92), some (.int x1)] ml_187 (Nat.le_of_ble_eq_true rfl) rfl ?_
  refine ls_aload_n f_187_0 rfl ?_
  refine ls_iload_n f_187_1 rfl ?_
  refine ls_invV (a := 92) f_187_2 q_187_191 [.int x1] [] rfl (Nat.le_of_ble_eq_true rfl) hl S_92 ow_188 ?_
  refine ls_call hyp hl (fun _ h1 hl1 hyp => ?_)
  refine ls_retV hyp (fun hyp => ?_)
  exact hyp
theorem b_187_5 {d : Nat} {h : lm_H} {K : lm_H → Prop} (x1 : Int32) (hl : lm_Lay h) (hyp : lm_call (d) 181 [.ref 92, .int 5] h (lm_kI fun r2 h1 => (if r2 = 0 then (K h1) else (lm_call (d) 188 [.ref 92, .int x1] h1 (lm_kV fun h3 => lm_W (d) 187 5 [some (.ref 92), some (.int x1)] [] h3 (lm_kV K)))))) : lm_W (d) 187 5 [some (.ref 92), some (.int x1)] [] h (lm_kV K) := by
  refine ls_aload_n f_187_5 rfl ?_
  refine ls_iconst 5 f_187_6 (by decide) ?_
  refine ls_invV (a := 92) f_187_7 q_187_169 [.int 5] [] rfl (Nat.le_of_ble_eq_true rfl) hl S_92 ow_181 ?_
  refine ls_call hyp hl (fun _ h1 hl1 hyp => ?_)
  refine ls_retI hyp (fun r2 hyp => ?_)
  refine ls_if_eq 21 f_187_10 rfl hyp (fun _ hyp => ?_) (fun _ hyp => ?_)
  · exact ls_return f_187_21 rV_187 hyp
  · refine ls_aload_n f_187_13 rfl ?_
    refine ls_iload_n f_187_14 rfl ?_
    refine ls_invV (a := 92) f_187_15 q_187_191 [.int x1] [] rfl (Nat.le_of_ble_eq_true rfl) hl1 S_92 ow_188 ?_
    refine ls_call hyp hl1 (fun _ h3 hl3 hyp => ?_)
    refine ls_retV hyp (fun hyp => ?_)
    refine ls_goto 5 f_187_18 rfl ?_
    exact hyp
theorem e_188 {d : Nat} {h : lm_H} {K : lm_H → Prop} (x1 : Int32) (hl : lm_Lay h) (hyp : lm_W (d + 1) 188 2 [some (.ref 92), some (.int x1), some (.int 1), none] [] h (lm_kV K)) : lm_call (d + 2) 188 [.ref 92, .int x1] h (lm_kV K) := by
  refine ls_enter [some (.ref 92), some (.int x1), none, none] ml_188 (Nat.le_of_ble_eq_true rfl) rfl ?_
  refine ls_iconst 1 f_188_0 (by decide) ?_
  refine ls_istore_n [some (.ref 92), some (.int x1), some (.int 1), none] f_188_1 (Nat.le_of_ble_eq_true rfl) rfl ?_
  exact hyp
theorem b_188_2 {d : Nat} {h : lm_H} {K : lm_H → Prop} (x1 : Int32) (x2 : Int32) (hl : lm_Lay h) (hyp : (if x2 = 0 then (if (lm_i h 92 18) = (-1) then (lm_in (lm_i h 92 16) 401 False (if (lm_i h 100 ((lm_i h 92 16).toNatClampNeg)) = 140 then (if x1 = 8 then (lm_call (d + 1) 180 [.ref 92] h (lm_kV fun h1 => (if (lm_i h1 92 18) = (-1) then (lm_call (d + 1) 186 [.ref 92, .int (x1 + 1)] (lm_si h1 92 16 ((lm_i h1 92 16) + 1)) (lm_kV fun h2 => lm_call (d + 1) 182 [.ref 92, .int 141] h2 (lm_kV fun h3 => K h3))) else (K h1)))) else (if (lm_i h 92 18) = (-1) then (lm_call (d + 1) 186 [.ref 92, .int (x1 + 1)] (lm_si h 92 16 ((lm_i h 92 16) + 1)) (lm_kV fun h4 => lm_call (d + 1) 182 [.ref 92, .int 141] h4 (lm_kV fun h5 => K h5))) else (K h))) else (lm_call (d + 1) 189 [.ref 92, .int x1] h (lm_kV fun h6 => lm_call (d + 1) 181 [.ref 92, .int 160] h6 (lm_kI fun r8 h7 => (if r8 = 0 then (lm_call (d + 1) 181 [.ref 92, .int 162] h7 (lm_kI fun r10 h9 => (if r10 = 0 then (lm_call (d + 1) 182 [.ref 92, .int 161] h9 (lm_kV fun h11 => lm_call (d + 1) 189 [.ref 92, .int x1] h11 (lm_kV fun h12 => K h12))) else (lm_call (d + 1) 189 [.ref 92, .int x1] h9 (lm_kV fun h13 => K h13))))) else (lm_call (d + 1) 189 [.ref 92, .int x1] h7 (lm_kV fun h14 => K h14)))))))) else (K h)) else (lm_call (d + 1) 181 [.ref 92, .int 6] h (lm_kI fun r16 h15 => lm_W (d + 1) 188 2 [some (.ref 92), some (.int x1), some (.int r16), none] [] h15 (lm_kV K))))) : lm_W (d + 1) 188 2 [some (.ref 92), some (.int x1), some (.int x2), none] [] h (lm_kV K) := by
  refine ls_iload_n f_188_2 rfl ?_
  refine ls_if_eq 16 f_188_3 rfl hyp (fun _ hyp => ?_) (fun _ hyp => ?_)
  · refine ls_aload_n f_188_16 rfl ?_
    refine ls_invV (a := 92) f_188_17 q_188_162 [] [] rfl (Nat.le_of_ble_eq_true rfl) hl S_92 ow_179 ?_
    refine ls_enter [some (.ref 92)] ml_179 (Nat.le_of_ble_eq_true rfl) rfl ?_
    refine ls_aload_n f_179_0 rfl ?_
    refine ls_getI f_179_1 p_179_159 hl S_92 ?_
    refine ls_iconst (-1) f_179_4 (by decide) ?_
    refine ls_icmp_ne 12 f_179_5 rfl hyp (fun _ hyp => ?_) (fun _ hyp => ?_)
    · refine ls_iconst 1 f_179_8 (by decide) ?_
      refine ls_goto 13 f_179_9 rfl ?_
      refine ls_zreturn f_179_13 rZ_179 (by decide) ?_
      show lm_W _ _ _ _ [.int 1] _ _
      refine ls_if_ne_F 24 f_188_20 rfl (by decide) ?_
      refine ls_aload_n f_188_24 rfl ?_
      refine ls_getR f_188_25 p_188_48 hl S_92 F_92_12 ?_
      refine ls_aload_n f_188_28 rfl ?_
      refine ls_getI f_188_29 p_188_166 hl S_92 ?_
      refine ls_iald f_188_32 hl S_100 hyp (fun hyp => ?_)
      refine ls_istore_n [some (.ref 92), some (.int x1), some (.int x2), some (.int (lm_i h 100 ((lm_i h 92 16).toNatClampNeg)))] f_188_33 (Nat.le_of_ble_eq_true rfl) rfl ?_
      refine ls_iload_n f_188_34 rfl ?_
      refine ls_bipush 40 f_188_35 (by decide) ?_
      refine ls_invS f_188_37 q_188_194 [.int 40] [.int (lm_i h 100 ((lm_i h 92 16).toNatClampNeg))] rfl (Nat.le_of_ble_eq_true rfl) ?_
      refine ls_enter [some (.int 40)] ml_184 (Nat.le_of_ble_eq_true rfl) rfl ?_
      refine ls_bipush 100 f_184_0 (by decide) ?_
      refine ls_iload_n f_184_2 rfl ?_
      refine ls_iadd 140 f_184_3 (by decide) ?_
      refine ls_ireturn f_184_4 rI_184 ?_
      show lm_W _ _ _ _ [.int 140, .int (lm_i h 100 ((lm_i h 92 16).toNatClampNeg))] _ _
      refine ls_icmp_ne 90 f_188_40 rfl hyp (fun _ hyp => ?_) (fun _ hyp => ?_)
      · refine ls_iload_n f_188_43 rfl ?_
        refine ls_bipush 8 f_188_44 (by decide) ?_
        refine ls_icmp_ne 53 f_188_46 rfl hyp (fun _ hyp => ?_) (fun _ hyp => ?_)
        · refine ls_aload_n f_188_49 rfl ?_
          refine ls_invV (a := 92) f_188_50 q_188_172 [] [] rfl (Nat.le_of_ble_eq_true rfl) hl S_92 ow_180 ?_
          refine ls_call hyp hl (fun _ h1 hl1 hyp => ?_)
          refine ls_retV hyp (fun hyp => ?_)
          refine ls_aload_n f_188_53 rfl ?_
          refine ls_invV (a := 92) f_188_54 q_188_162 [] [] rfl (Nat.le_of_ble_eq_true rfl) hl1 S_92 ow_179 ?_
          refine ls_enter [some (.ref 92)] ml_179 (Nat.le_of_ble_eq_true rfl) rfl ?_
          refine ls_aload_n f_179_0 rfl ?_
          refine ls_getI f_179_1 p_179_159 hl1 S_92 ?_
          refine ls_iconst (-1) f_179_4 (by decide) ?_
          refine ls_icmp_ne 12 f_179_5 rfl hyp (fun _ hyp => ?_) (fun _ hyp => ?_)
          · refine ls_iconst 1 f_179_8 (by decide) ?_
            refine ls_goto 13 f_179_9 rfl ?_
            refine ls_zreturn f_179_13 rZ_179 (by decide) ?_
            show lm_W _ _ _ _ [.int 1] _ _
            refine ls_if_ne_F 61 f_188_57 rfl (by decide) ?_
            refine ls_aload_n f_188_61 rfl ?_
            refine ls_dup f_188_62 rfl ?_
            refine ls_getI f_188_63 p_188_166 hl1 S_92 ?_
            refine ls_iconst 1 f_188_66 (by decide) ?_
            refine ls_iadd ((lm_i h1 92 16) + 1) f_188_67 rfl ?_
            refine ls_putI f_188_68 p_188_166 hl1 S_92 rfl ?_
            refine ls_aload_n f_188_71 rfl ?_
            refine ls_iload_n f_188_72 rfl ?_
            refine ls_iconst 1 f_188_73 (by decide) ?_
            refine ls_iadd (x1 + 1) f_188_74 rfl ?_
            refine ls_invV (a := 92) f_188_75 q_188_185 [.int (x1 + 1)] [] rfl (Nat.le_of_ble_eq_true rfl) (lm_Lay_si hl1 _ _ _) S_92 ow_186 ?_
            refine ls_call hyp (lm_Lay_si hl1 _ _ _) (fun _ h2 hl2 hyp => ?_)
            refine ls_retV hyp (fun hyp => ?_)
            refine ls_aload_n f_188_78 rfl ?_
            refine ls_bipush 41 f_188_79 (by decide) ?_
            refine ls_invS f_188_81 q_188_194 [.int 41] [.ref 92] rfl (Nat.le_of_ble_eq_true rfl) ?_
            refine ls_enter [some (.int 41)] ml_184 (Nat.le_of_ble_eq_true rfl) rfl ?_
            refine ls_bipush 100 f_184_0 (by decide) ?_
            refine ls_iload_n f_184_2 rfl ?_
            refine ls_iadd 141 f_184_3 (by decide) ?_
            refine ls_ireturn f_184_4 rI_184 ?_
            show lm_W _ _ _ _ [.int 141, .ref 92] _ _
            refine ls_invV (a := 92) f_188_84 q_188_182 [.int 141] [] rfl (Nat.le_of_ble_eq_true rfl) hl2 S_92 ow_182 ?_
            refine ls_call hyp hl2 (fun _ h3 hl3 hyp => ?_)
            refine ls_retV hyp (fun hyp => ?_)
            refine ls_goto 133 f_188_87 rfl ?_
            exact ls_return f_188_133 rV_188 hyp
          · refine ls_iconst 0 f_179_12 (by decide) ?_
            refine ls_zreturn f_179_13 rZ_179 (by decide) ?_
            show lm_W _ _ _ _ [.int 0] _ _
            refine ls_if_ne_T 61 f_188_57 rfl (by decide) ?_
            exact ls_return f_188_60 rV_188 hyp
        · refine ls_aload_n f_188_53 rfl ?_
          refine ls_invV (a := 92) f_188_54 q_188_162 [] [] rfl (Nat.le_of_ble_eq_true rfl) hl S_92 ow_179 ?_
          refine ls_enter [some (.ref 92)] ml_179 (Nat.le_of_ble_eq_true rfl) rfl ?_
          refine ls_aload_n f_179_0 rfl ?_
          refine ls_getI f_179_1 p_179_159 hl S_92 ?_
          refine ls_iconst (-1) f_179_4 (by decide) ?_
          refine ls_icmp_ne 12 f_179_5 rfl hyp (fun _ hyp => ?_) (fun _ hyp => ?_)
          · refine ls_iconst 1 f_179_8 (by decide) ?_
            refine ls_goto 13 f_179_9 rfl ?_
            refine ls_zreturn f_179_13 rZ_179 (by decide) ?_
            show lm_W _ _ _ _ [.int 1] _ _
            refine ls_if_ne_F 61 f_188_57 rfl (by decide) ?_
            refine ls_aload_n f_188_61 rfl ?_
            refine ls_dup f_188_62 rfl ?_
            refine ls_getI f_188_63 p_188_166 hl S_92 ?_
            refine ls_iconst 1 f_188_66 (by decide) ?_
            refine ls_iadd ((lm_i h 92 16) + 1) f_188_67 rfl ?_
            refine ls_putI f_188_68 p_188_166 hl S_92 rfl ?_
            refine ls_aload_n f_188_71 rfl ?_
            refine ls_iload_n f_188_72 rfl ?_
            refine ls_iconst 1 f_188_73 (by decide) ?_
            refine ls_iadd (x1 + 1) f_188_74 rfl ?_
            refine ls_invV (a := 92) f_188_75 q_188_185 [.int (x1 + 1)] [] rfl (Nat.le_of_ble_eq_true rfl) (lm_Lay_si hl _ _ _) S_92 ow_186 ?_
            refine ls_call hyp (lm_Lay_si hl _ _ _) (fun _ h4 hl4 hyp => ?_)
            refine ls_retV hyp (fun hyp => ?_)
            refine ls_aload_n f_188_78 rfl ?_
            refine ls_bipush 41 f_188_79 (by decide) ?_
            refine ls_invS f_188_81 q_188_194 [.int 41] [.ref 92] rfl (Nat.le_of_ble_eq_true rfl) ?_
            refine ls_enter [some (.int 41)] ml_184 (Nat.le_of_ble_eq_true rfl) rfl ?_
            refine ls_bipush 100 f_184_0 (by decide) ?_
            refine ls_iload_n f_184_2 rfl ?_
            refine ls_iadd 141 f_184_3 (by decide) ?_
            refine ls_ireturn f_184_4 rI_184 ?_
            show lm_W _ _ _ _ [.int 141, .ref 92] _ _
            refine ls_invV (a := 92) f_188_84 q_188_182 [.int 141] [] rfl (Nat.le_of_ble_eq_true rfl) hl4 S_92 ow_182 ?_
            refine ls_call hyp hl4 (fun _ h5 hl5 hyp => ?_)
            refine ls_retV hyp (fun hyp => ?_)
            refine ls_goto 133 f_188_87 rfl ?_
            exact ls_return f_188_133 rV_188 hyp
          · refine ls_iconst 0 f_179_12 (by decide) ?_
            refine ls_zreturn f_179_13 rZ_179 (by decide) ?_
            show lm_W _ _ _ _ [.int 0] _ _
            refine ls_if_ne_T 61 f_188_57 rfl (by decide) ?_
            exact ls_return f_188_60 rV_188 hyp
      · refine ls_aload_n f_188_90 rfl ?_
        refine ls_iload_n f_188_91 rfl ?_
        refine ls_invV (a := 92) f_188_92 q_188_178 [.int x1] [] rfl (Nat.le_of_ble_eq_true rfl) hl S_92 ow_189 ?_
        refine ls_call hyp hl (fun _ h6 hl6 hyp => ?_)
        refine ls_retV hyp (fun hyp => ?_)
        refine ls_aload_n f_188_95 rfl ?_
        refine ls_bipush 60 f_188_96 (by decide) ?_
        refine ls_invS f_188_98 q_188_194 [.int 60] [.ref 92] rfl (Nat.le_of_ble_eq_true rfl) ?_
        refine ls_enter [some (.int 60)] ml_184 (Nat.le_of_ble_eq_true rfl) rfl ?_
        refine ls_bipush 100 f_184_0 (by decide) ?_
        refine ls_iload_n f_184_2 rfl ?_
        refine ls_iadd 160 f_184_3 (by decide) ?_
        refine ls_ireturn f_184_4 rI_184 ?_
        show lm_W _ _ _ _ [.int 160, .ref 92] _ _
        refine ls_invV (a := 92) f_188_101 q_188_169 [.int 160] [] rfl (Nat.le_of_ble_eq_true rfl) hl6 S_92 ow_181 ?_
        refine ls_call hyp hl6 (fun _ h7 hl7 hyp => ?_)
        refine ls_retI hyp (fun r8 hyp => ?_)
        refine ls_if_ne 128 f_188_104 rfl hyp (fun _ hyp => ?_) (fun _ hyp => ?_)
        · refine ls_aload_n f_188_107 rfl ?_
          refine ls_bipush 62 f_188_108 (by decide) ?_
          refine ls_invS f_188_110 q_188_194 [.int 62] [.ref 92] rfl (Nat.le_of_ble_eq_true rfl) ?_
          refine ls_enter [some (.int 62)] ml_184 (Nat.le_of_ble_eq_true rfl) rfl ?_
          refine ls_bipush 100 f_184_0 (by decide) ?_
          refine ls_iload_n f_184_2 rfl ?_
          refine ls_iadd 162 f_184_3 (by decide) ?_
          refine ls_ireturn f_184_4 rI_184 ?_
          show lm_W _ _ _ _ [.int 162, .ref 92] _ _
          refine ls_invV (a := 92) f_188_113 q_188_169 [.int 162] [] rfl (Nat.le_of_ble_eq_true rfl) hl7 S_92 ow_181 ?_
          refine ls_call hyp hl7 (fun _ h9 hl9 hyp => ?_)
          refine ls_retI hyp (fun r10 hyp => ?_)
          refine ls_if_ne 128 f_188_116 rfl hyp (fun _ hyp => ?_) (fun _ hyp => ?_)
          · refine ls_aload_n f_188_119 rfl ?_
            refine ls_bipush 61 f_188_120 (by decide) ?_
            refine ls_invS f_188_122 q_188_194 [.int 61] [.ref 92] rfl (Nat.le_of_ble_eq_true rfl) ?_
            refine ls_enter [some (.int 61)] ml_184 (Nat.le_of_ble_eq_true rfl) rfl ?_
            refine ls_bipush 100 f_184_0 (by decide) ?_
            refine ls_iload_n f_184_2 rfl ?_
            refine ls_iadd 161 f_184_3 (by decide) ?_
            refine ls_ireturn f_184_4 rI_184 ?_
            show lm_W _ _ _ _ [.int 161, .ref 92] _ _
            refine ls_invV (a := 92) f_188_125 q_188_182 [.int 161] [] rfl (Nat.le_of_ble_eq_true rfl) hl9 S_92 ow_182 ?_
            refine ls_call hyp hl9 (fun _ h11 hl11 hyp => ?_)
            refine ls_retV hyp (fun hyp => ?_)
            refine ls_aload_n f_188_128 rfl ?_
            refine ls_iload_n f_188_129 rfl ?_
            refine ls_invV (a := 92) f_188_130 q_188_178 [.int x1] [] rfl (Nat.le_of_ble_eq_true rfl) hl11 S_92 ow_189 ?_
            refine ls_call hyp hl11 (fun _ h12 hl12 hyp => ?_)
            refine ls_retV hyp (fun hyp => ?_)
            exact ls_return f_188_133 rV_188 hyp
          · refine ls_aload_n f_188_128 rfl ?_
            refine ls_iload_n f_188_129 rfl ?_
            refine ls_invV (a := 92) f_188_130 q_188_178 [.int x1] [] rfl (Nat.le_of_ble_eq_true rfl) hl9 S_92 ow_189 ?_
            refine ls_call hyp hl9 (fun _ h13 hl13 hyp => ?_)
            refine ls_retV hyp (fun hyp => ?_)
            exact ls_return f_188_133 rV_188 hyp
        · refine ls_aload_n f_188_128 rfl ?_
          refine ls_iload_n f_188_129 rfl ?_
          refine ls_invV (a := 92) f_188_130 q_188_178 [.int x1] [] rfl (Nat.le_of_ble_eq_true rfl) hl7 S_92 ow_189 ?_
          refine ls_call hyp hl7 (fun _ h14 hl14 hyp => ?_)
          refine ls_retV hyp (fun hyp => ?_)
          exact ls_return f_188_133 rV_188 hyp
    · refine ls_iconst 0 f_179_12 (by decide) ?_
      refine ls_zreturn f_179_13 rZ_179 (by decide) ?_
      show lm_W _ _ _ _ [.int 0] _ _
      refine ls_if_ne_T 24 f_188_20 rfl (by decide) ?_
      exact ls_return f_188_23 rV_188 hyp
  · refine ls_aload_n f_188_6 rfl ?_
    refine ls_bipush 6 f_188_7 (by decide) ?_
    refine ls_invV (a := 92) f_188_9 q_188_169 [.int 6] [] rfl (Nat.le_of_ble_eq_true rfl) hl S_92 ow_181 ?_
    refine ls_call hyp hl (fun _ h15 hl15 hyp => ?_)
    refine ls_retI hyp (fun r16 hyp => ?_)
    refine ls_istore_n [some (.ref 92), some (.int x1), some (.int r16), none] f_188_12 (Nat.le_of_ble_eq_true rfl) rfl ?_
    refine ls_goto 2 f_188_13 rfl ?_
    exact hyp
theorem e_189 {d : Nat} {h : lm_H} {K : lm_H → Prop} (x1 : Int32) (hl : lm_Lay h) (hyp : lm_call (d + 1) 190 [.ref 92, .int x1] h (lm_kV fun h1 => lm_W (d + 1) 189 5 [some (.ref 92), some (.int x1)] [] h1 (lm_kV K))) : lm_call (d + 2) 189 [.ref 92, .int x1] h (lm_kV K) := by
  refine ls_enter [some (.ref 92), some (.int x1)] ml_189 (Nat.le_of_ble_eq_true rfl) rfl ?_
  refine ls_aload_n f_189_0 rfl ?_
  refine ls_iload_n f_189_1 rfl ?_
  refine ls_invV (a := 92) f_189_2 q_189_198 [.int x1] [] rfl (Nat.le_of_ble_eq_true rfl) hl S_92 ow_190 ?_
  refine ls_call hyp hl (fun _ h1 hl1 hyp => ?_)
  refine ls_retV hyp (fun hyp => ?_)
  exact hyp
theorem b_189_5 {d : Nat} {h : lm_H} {K : lm_H → Prop} (x1 : Int32) (hl : lm_Lay h) (hyp : lm_call (d + 1) 181 [.ref 92, .int 143] h (lm_kI fun r2 h1 => (if r2 = 0 then (lm_call (d + 1) 181 [.ref 92, .int 145] h1 (lm_kI fun r4 h3 => (if r4 = 0 then (K h3) else (lm_call (d + 1) 190 [.ref 92, .int x1] h3 (lm_kV fun h5 => lm_W (d + 1) 189 5 [some (.ref 92), some (.int x1)] [] h5 (lm_kV K)))))) else (lm_call (d + 1) 190 [.ref 92, .int x1] h1 (lm_kV fun h6 => lm_W (d + 1) 189 5 [some (.ref 92), some (.int x1)] [] h6 (lm_kV K)))))) : lm_W (d + 1) 189 5 [some (.ref 92), some (.int x1)] [] h (lm_kV K) := by
  refine ls_aload_n f_189_5 rfl ?_
  refine ls_bipush 43 f_189_6 (by decide) ?_
  refine ls_invS f_189_8 q_189_194 [.int 43] [.ref 92] rfl (Nat.le_of_ble_eq_true rfl) ?_
  refine ls_enter [some (.int 43)] ml_184 (Nat.le_of_ble_eq_true rfl) rfl ?_
  refine ls_bipush 100 f_184_0 (by decide) ?_
  refine ls_iload_n f_184_2 rfl ?_
  refine ls_iadd 143 f_184_3 (by decide) ?_
  refine ls_ireturn f_184_4 rI_184 ?_
  show lm_W _ _ _ _ [.int 143, .ref 92] _ _
  refine ls_invV (a := 92) f_189_11 q_189_169 [.int 143] [] rfl (Nat.le_of_ble_eq_true rfl) hl S_92 ow_181 ?_
  refine ls_call hyp hl (fun _ h1 hl1 hyp => ?_)
  refine ls_retI hyp (fun r2 hyp => ?_)
  refine ls_if_ne 29 f_189_14 rfl hyp (fun _ hyp => ?_) (fun _ hyp => ?_)
  · refine ls_aload_n f_189_17 rfl ?_
    refine ls_bipush 45 f_189_18 (by decide) ?_
    refine ls_invS f_189_20 q_189_194 [.int 45] [.ref 92] rfl (Nat.le_of_ble_eq_true rfl) ?_
    refine ls_enter [some (.int 45)] ml_184 (Nat.le_of_ble_eq_true rfl) rfl ?_
    refine ls_bipush 100 f_184_0 (by decide) ?_
    refine ls_iload_n f_184_2 rfl ?_
    refine ls_iadd 145 f_184_3 (by decide) ?_
    refine ls_ireturn f_184_4 rI_184 ?_
    show lm_W _ _ _ _ [.int 145, .ref 92] _ _
    refine ls_invV (a := 92) f_189_23 q_189_169 [.int 145] [] rfl (Nat.le_of_ble_eq_true rfl) hl1 S_92 ow_181 ?_
    refine ls_call hyp hl1 (fun _ h3 hl3 hyp => ?_)
    refine ls_retI hyp (fun r4 hyp => ?_)
    refine ls_if_eq 37 f_189_26 rfl hyp (fun _ hyp => ?_) (fun _ hyp => ?_)
    · exact ls_return f_189_37 rV_189 hyp
    · refine ls_aload_n f_189_29 rfl ?_
      refine ls_iload_n f_189_30 rfl ?_
      refine ls_invV (a := 92) f_189_31 q_189_198 [.int x1] [] rfl (Nat.le_of_ble_eq_true rfl) hl3 S_92 ow_190 ?_
      refine ls_call hyp hl3 (fun _ h5 hl5 hyp => ?_)
      refine ls_retV hyp (fun hyp => ?_)
      refine ls_goto 5 f_189_34 rfl ?_
      exact hyp
  · refine ls_aload_n f_189_29 rfl ?_
    refine ls_iload_n f_189_30 rfl ?_
    refine ls_invV (a := 92) f_189_31 q_189_198 [.int x1] [] rfl (Nat.le_of_ble_eq_true rfl) hl1 S_92 ow_190 ?_
    refine ls_call hyp hl1 (fun _ h6 hl6 hyp => ?_)
    refine ls_retV hyp (fun hyp => ?_)
    refine ls_goto 5 f_189_34 rfl ?_
    exact hyp
theorem e_190 {d : Nat} {h : lm_H} {K : lm_H → Prop} (x1 : Int32) (hl : lm_Lay h) (hyp : lm_call (d + 1) 191 [.ref 92, .int x1] h (lm_kV fun h1 => lm_W (d + 1) 190 5 [some (.ref 92), some (.int x1)] [] h1 (lm_kV K))) : lm_call (d + 2) 190 [.ref 92, .int x1] h (lm_kV K) := by
  refine ls_enter [some (.ref 92), some (.int x1)] ml_190 (Nat.le_of_ble_eq_true rfl) rfl ?_
  refine ls_aload_n f_190_0 rfl ?_
  refine ls_iload_n f_190_1 rfl ?_
  refine ls_invV (a := 92) f_190_2 q_190_201 [.int x1] [] rfl (Nat.le_of_ble_eq_true rfl) hl S_92 ow_191 ?_
  refine ls_call hyp hl (fun _ h1 hl1 hyp => ?_)
  refine ls_retV hyp (fun hyp => ?_)
  exact hyp
theorem b_190_5 {d : Nat} {h : lm_H} {K : lm_H → Prop} (x1 : Int32) (hl : lm_Lay h) (hyp : lm_call (d + 1) 181 [.ref 92, .int 142] h (lm_kI fun r2 h1 => (if r2 = 0 then (lm_call (d + 1) 181 [.ref 92, .int 147] h1 (lm_kI fun r4 h3 => (if r4 = 0 then (K h3) else (lm_call (d + 1) 191 [.ref 92, .int x1] h3 (lm_kV fun h5 => lm_W (d + 1) 190 5 [some (.ref 92), some (.int x1)] [] h5 (lm_kV K)))))) else (lm_call (d + 1) 191 [.ref 92, .int x1] h1 (lm_kV fun h6 => lm_W (d + 1) 190 5 [some (.ref 92), some (.int x1)] [] h6 (lm_kV K)))))) : lm_W (d + 1) 190 5 [some (.ref 92), some (.int x1)] [] h (lm_kV K) := by
  refine ls_aload_n f_190_5 rfl ?_
  refine ls_bipush 42 f_190_6 (by decide) ?_
  refine ls_invS f_190_8 q_190_194 [.int 42] [.ref 92] rfl (Nat.le_of_ble_eq_true rfl) ?_
  refine ls_enter [some (.int 42)] ml_184 (Nat.le_of_ble_eq_true rfl) rfl ?_
  refine ls_bipush 100 f_184_0 (by decide) ?_
  refine ls_iload_n f_184_2 rfl ?_
  refine ls_iadd 142 f_184_3 (by decide) ?_
  refine ls_ireturn f_184_4 rI_184 ?_
  show lm_W _ _ _ _ [.int 142, .ref 92] _ _
  refine ls_invV (a := 92) f_190_11 q_190_169 [.int 142] [] rfl (Nat.le_of_ble_eq_true rfl) hl S_92 ow_181 ?_
  refine ls_call hyp hl (fun _ h1 hl1 hyp => ?_)
  refine ls_retI hyp (fun r2 hyp => ?_)
  refine ls_if_ne 29 f_190_14 rfl hyp (fun _ hyp => ?_) (fun _ hyp => ?_)
  · refine ls_aload_n f_190_17 rfl ?_
    refine ls_bipush 47 f_190_18 (by decide) ?_
    refine ls_invS f_190_20 q_190_194 [.int 47] [.ref 92] rfl (Nat.le_of_ble_eq_true rfl) ?_
    refine ls_enter [some (.int 47)] ml_184 (Nat.le_of_ble_eq_true rfl) rfl ?_
    refine ls_bipush 100 f_184_0 (by decide) ?_
    refine ls_iload_n f_184_2 rfl ?_
    refine ls_iadd 147 f_184_3 (by decide) ?_
    refine ls_ireturn f_184_4 rI_184 ?_
    show lm_W _ _ _ _ [.int 147, .ref 92] _ _
    refine ls_invV (a := 92) f_190_23 q_190_169 [.int 147] [] rfl (Nat.le_of_ble_eq_true rfl) hl1 S_92 ow_181 ?_
    refine ls_call hyp hl1 (fun _ h3 hl3 hyp => ?_)
    refine ls_retI hyp (fun r4 hyp => ?_)
    refine ls_if_eq 37 f_190_26 rfl hyp (fun _ hyp => ?_) (fun _ hyp => ?_)
    · exact ls_return f_190_37 rV_190 hyp
    · refine ls_aload_n f_190_29 rfl ?_
      refine ls_iload_n f_190_30 rfl ?_
      refine ls_invV (a := 92) f_190_31 q_190_201 [.int x1] [] rfl (Nat.le_of_ble_eq_true rfl) hl3 S_92 ow_191 ?_
      refine ls_call hyp hl3 (fun _ h5 hl5 hyp => ?_)
      refine ls_retV hyp (fun hyp => ?_)
      refine ls_goto 5 f_190_34 rfl ?_
      exact hyp
  · refine ls_aload_n f_190_29 rfl ?_
    refine ls_iload_n f_190_30 rfl ?_
    refine ls_invV (a := 92) f_190_31 q_190_201 [.int x1] [] rfl (Nat.le_of_ble_eq_true rfl) hl1 S_92 ow_191 ?_
    refine ls_call hyp hl1 (fun _ h6 hl6 hyp => ?_)
    refine ls_retV hyp (fun hyp => ?_)
    refine ls_goto 5 f_190_34 rfl ?_
    exact hyp
theorem e_191 {d : Nat} {h : lm_H} {K : lm_H → Prop} (x1 : Int32) (hl : lm_Lay h) (hyp : (if (lm_i h 92 18) = (-1) then (lm_in (lm_i h 92 16) 401 False (if (lm_i h 100 ((lm_i h 92 16).toNatClampNeg)) = 191 then (if x1 = 8 then (lm_call (d + 1) 180 [.ref 92] h (lm_kV fun h1 => (if (lm_i h1 92 18) = (-1) then (lm_call (d + 1) 189 [.ref 92, .int (x1 + 1)] (lm_si h1 92 16 ((lm_i h1 92 16) + 1)) (lm_kV fun h2 => lm_call (d + 1) 182 [.ref 92, .int 193] h2 (lm_kV fun h3 => K h3))) else (K h1)))) else (if (lm_i h 92 18) = (-1) then (lm_call (d + 1) 189 [.ref 92, .int (x1 + 1)] (lm_si h 92 16 ((lm_i h 92 16) + 1)) (lm_kV fun h4 => lm_call (d + 1) 182 [.ref 92, .int 193] h4 (lm_kV fun h5 => K h5))) else (K h))) else (if (lm_i h 100 ((lm_i h 92 16).toNatClampNeg)) = 50 then (lm_in (lm_i h 92 16) 401 False (if 1000 < (lm_i h 101 ((lm_i h 92 16).toNatClampNeg)) then (if (lm_i h 100 ((lm_i h 92 16).toNatClampNeg)) < 7 then (lm_call (d + 1) 180 [.ref 92] h (lm_kV fun h6 => K h6)) else (if 13 < (lm_i h 100 ((lm_i h 92 16).toNatClampNeg)) then (lm_call (d + 1) 180 [.ref 92] h (lm_kV fun h7 => K h7)) else (lm_call (d + 1) 183 [.ref 92] h (lm_kV fun h8 => K h8)))) else (lm_call (d + 1) 183 [.ref 92] h (lm_kV fun h9 => K h9)))) else (if (lm_i h 100 ((lm_i h 92 16).toNatClampNeg)) < 7 then (lm_call (d + 1) 180 [.ref 92] h (lm_kV fun h10 => K h10)) else (if 13 < (lm_i h 100 ((lm_i h 92 16).toNatClampNeg)) then (lm_call (d + 1) 180 [.ref 92] h (lm_kV fun h11 => K h11)) else (lm_call (d + 1) 183 [.ref 92] h (lm_kV fun h12 => K h12))))))) else (K h))) : lm_call (d + 2) 191 [.ref 92, .int x1] h (lm_kV K) := by
  refine ls_enter [some (.ref 92), some (.int x1), none] ml_191 (Nat.le_of_ble_eq_true rfl) rfl ?_
  refine ls_aload_n f_191_0 rfl ?_
  refine ls_invV (a := 92) f_191_1 q_191_162 [] [] rfl (Nat.le_of_ble_eq_true rfl) hl S_92 ow_179 ?_
  refine ls_enter [some (.ref 92)] ml_179 (Nat.le_of_ble_eq_true rfl) rfl ?_
  refine ls_aload_n f_179_0 rfl ?_
  refine ls_getI f_179_1 p_179_159 hl S_92 ?_
  refine ls_iconst (-1) f_179_4 (by decide) ?_
  refine ls_icmp_ne 12 f_179_5 rfl hyp (fun _ hyp => ?_) (fun _ hyp => ?_)
  · refine ls_iconst 1 f_179_8 (by decide) ?_
    refine ls_goto 13 f_179_9 rfl ?_
    refine ls_zreturn f_179_13 rZ_179 (by decide) ?_
    show lm_W _ _ _ _ [.int 1] _ _
    refine ls_if_ne_F 8 f_191_4 rfl (by decide) ?_
    refine ls_aload_n f_191_8 rfl ?_
    refine ls_getR f_191_9 p_191_48 hl S_92 F_92_12 ?_
    refine ls_aload_n f_191_12 rfl ?_
    refine ls_getI f_191_13 p_191_166 hl S_92 ?_
    refine ls_iald f_191_16 hl S_100 hyp (fun hyp => ?_)
    refine ls_istore_n [some (.ref 92), some (.int x1), some (.int (lm_i h 100 ((lm_i h 92 16).toNatClampNeg)))] f_191_17 (Nat.le_of_ble_eq_true rfl) rfl ?_
    refine ls_iload_n f_191_18 rfl ?_
    refine ls_bipush 91 f_191_19 (by decide) ?_
    refine ls_invS f_191_21 q_191_194 [.int 91] [.int (lm_i h 100 ((lm_i h 92 16).toNatClampNeg))] rfl (Nat.le_of_ble_eq_true rfl) ?_
    refine ls_enter [some (.int 91)] ml_184 (Nat.le_of_ble_eq_true rfl) rfl ?_
    refine ls_bipush 100 f_184_0 (by decide) ?_
    refine ls_iload_n f_184_2 rfl ?_
    refine ls_iadd 191 f_184_3 (by decide) ?_
    refine ls_ireturn f_184_4 rI_184 ?_
    show lm_W _ _ _ _ [.int 191, .int (lm_i h 100 ((lm_i h 92 16).toNatClampNeg))] _ _
    refine ls_icmp_ne 74 f_191_24 rfl hyp (fun _ hyp => ?_) (fun _ hyp => ?_)
    · refine ls_iload_n f_191_27 rfl ?_
      refine ls_bipush 8 f_191_28 (by decide) ?_
      refine ls_icmp_ne 37 f_191_30 rfl hyp (fun _ hyp => ?_) (fun _ hyp => ?_)
      · refine ls_aload_n f_191_33 rfl ?_
        refine ls_invV (a := 92) f_191_34 q_191_172 [] [] rfl (Nat.le_of_ble_eq_true rfl) hl S_92 ow_180 ?_
        refine ls_call hyp hl (fun _ h1 hl1 hyp => ?_)
        refine ls_retV hyp (fun hyp => ?_)
        refine ls_aload_n f_191_37 rfl ?_
        refine ls_invV (a := 92) f_191_38 q_191_162 [] [] rfl (Nat.le_of_ble_eq_true rfl) hl1 S_92 ow_179 ?_
        refine ls_enter [some (.ref 92)] ml_179 (Nat.le_of_ble_eq_true rfl) rfl ?_
        refine ls_aload_n f_179_0 rfl ?_
        refine ls_getI f_179_1 p_179_159 hl1 S_92 ?_
        refine ls_iconst (-1) f_179_4 (by decide) ?_
        refine ls_icmp_ne 12 f_179_5 rfl hyp (fun _ hyp => ?_) (fun _ hyp => ?_)
        · refine ls_iconst 1 f_179_8 (by decide) ?_
          refine ls_goto 13 f_179_9 rfl ?_
          refine ls_zreturn f_179_13 rZ_179 (by decide) ?_
          show lm_W _ _ _ _ [.int 1] _ _
          refine ls_if_ne_F 45 f_191_41 rfl (by decide) ?_
          refine ls_aload_n f_191_45 rfl ?_
          refine ls_dup f_191_46 rfl ?_
          refine ls_getI f_191_47 p_191_166 hl1 S_92 ?_
          refine ls_iconst 1 f_191_50 (by decide) ?_
          refine ls_iadd ((lm_i h1 92 16) + 1) f_191_51 rfl ?_
          refine ls_putI f_191_52 p_191_166 hl1 S_92 rfl ?_
          refine ls_aload_n f_191_55 rfl ?_
          refine ls_iload_n f_191_56 rfl ?_
          refine ls_iconst 1 f_191_57 (by decide) ?_
          refine ls_iadd (x1 + 1) f_191_58 rfl ?_
          refine ls_invV (a := 92) f_191_59 q_191_178 [.int (x1 + 1)] [] rfl (Nat.le_of_ble_eq_true rfl) (lm_Lay_si hl1 _ _ _) S_92 ow_189 ?_
          refine ls_call hyp (lm_Lay_si hl1 _ _ _) (fun _ h2 hl2 hyp => ?_)
          refine ls_retV hyp (fun hyp => ?_)
          refine ls_aload_n f_191_62 rfl ?_
          refine ls_bipush 93 f_191_63 (by decide) ?_
          refine ls_invS f_191_65 q_191_194 [.int 93] [.ref 92] rfl (Nat.le_of_ble_eq_true rfl) ?_
          refine ls_enter [some (.int 93)] ml_184 (Nat.le_of_ble_eq_true rfl) rfl ?_
          refine ls_bipush 100 f_184_0 (by decide) ?_
          refine ls_iload_n f_184_2 rfl ?_
          refine ls_iadd 193 f_184_3 (by decide) ?_
          refine ls_ireturn f_184_4 rI_184 ?_
          show lm_W _ _ _ _ [.int 193, .ref 92] _ _
          refine ls_invV (a := 92) f_191_68 q_191_182 [.int 193] [] rfl (Nat.le_of_ble_eq_true rfl) hl2 S_92 ow_182 ?_
          refine ls_call hyp hl2 (fun _ h3 hl3 hyp => ?_)
          refine ls_retV hyp (fun hyp => ?_)
          refine ls_goto 118 f_191_71 rfl ?_
          exact ls_return f_191_118 rV_191 hyp
        · refine ls_iconst 0 f_179_12 (by decide) ?_
          refine ls_zreturn f_179_13 rZ_179 (by decide) ?_
          show lm_W _ _ _ _ [.int 0] _ _
          refine ls_if_ne_T 45 f_191_41 rfl (by decide) ?_
          exact ls_return f_191_44 rV_191 hyp
      · refine ls_aload_n f_191_37 rfl ?_
        refine ls_invV (a := 92) f_191_38 q_191_162 [] [] rfl (Nat.le_of_ble_eq_true rfl) hl S_92 ow_179 ?_
        refine ls_enter [some (.ref 92)] ml_179 (Nat.le_of_ble_eq_true rfl) rfl ?_
        refine ls_aload_n f_179_0 rfl ?_
        refine ls_getI f_179_1 p_179_159 hl S_92 ?_
        refine ls_iconst (-1) f_179_4 (by decide) ?_
        refine ls_icmp_ne 12 f_179_5 rfl hyp (fun _ hyp => ?_) (fun _ hyp => ?_)
        · refine ls_iconst 1 f_179_8 (by decide) ?_
          refine ls_goto 13 f_179_9 rfl ?_
          refine ls_zreturn f_179_13 rZ_179 (by decide) ?_
          show lm_W _ _ _ _ [.int 1] _ _
          refine ls_if_ne_F 45 f_191_41 rfl (by decide) ?_
          refine ls_aload_n f_191_45 rfl ?_
          refine ls_dup f_191_46 rfl ?_
          refine ls_getI f_191_47 p_191_166 hl S_92 ?_
          refine ls_iconst 1 f_191_50 (by decide) ?_
          refine ls_iadd ((lm_i h 92 16) + 1) f_191_51 rfl ?_
          refine ls_putI f_191_52 p_191_166 hl S_92 rfl ?_
          refine ls_aload_n f_191_55 rfl ?_
          refine ls_iload_n f_191_56 rfl ?_
          refine ls_iconst 1 f_191_57 (by decide) ?_
          refine ls_iadd (x1 + 1) f_191_58 rfl ?_
          refine ls_invV (a := 92) f_191_59 q_191_178 [.int (x1 + 1)] [] rfl (Nat.le_of_ble_eq_true rfl) (lm_Lay_si hl _ _ _) S_92 ow_189 ?_
          refine ls_call hyp (lm_Lay_si hl _ _ _) (fun _ h4 hl4 hyp => ?_)
          refine ls_retV hyp (fun hyp => ?_)
          refine ls_aload_n f_191_62 rfl ?_
          refine ls_bipush 93 f_191_63 (by decide) ?_
          refine ls_invS f_191_65 q_191_194 [.int 93] [.ref 92] rfl (Nat.le_of_ble_eq_true rfl) ?_
          refine ls_enter [some (.int 93)] ml_184 (Nat.le_of_ble_eq_true rfl) rfl ?_
          refine ls_bipush 100 f_184_0 (by decide) ?_
          refine ls_iload_n f_184_2 rfl ?_
          refine ls_iadd 193 f_184_3 (by decide) ?_
          refine ls_ireturn f_184_4 rI_184 ?_
          show lm_W _ _ _ _ [.int 193, .ref 92] _ _
          refine ls_invV (a := 92) f_191_68 q_191_182 [.int 193] [] rfl (Nat.le_of_ble_eq_true rfl) hl4 S_92 ow_182 ?_
          refine ls_call hyp hl4 (fun _ h5 hl5 hyp => ?_)
          refine ls_retV hyp (fun hyp => ?_)
          refine ls_goto 118 f_191_71 rfl ?_
          exact ls_return f_191_118 rV_191 hyp
        · refine ls_iconst 0 f_179_12 (by decide) ?_
          refine ls_zreturn f_179_13 rZ_179 (by decide) ?_
          show lm_W _ _ _ _ [.int 0] _ _
          refine ls_if_ne_T 45 f_191_41 rfl (by decide) ?_
          exact ls_return f_191_44 rV_191 hyp
    · refine ls_iload_n f_191_74 rfl ?_
      refine ls_bipush 50 f_191_75 (by decide) ?_
      refine ls_icmp_ne 95 f_191_77 rfl hyp (fun _ hyp => ?_) (fun _ hyp => ?_)
      · refine ls_aload_n f_191_80 rfl ?_
        refine ls_getR f_191_81 p_191_51 hl S_92 F_92_13 ?_
        refine ls_aload_n f_191_84 rfl ?_
        refine ls_getI f_191_85 p_191_166 hl S_92 ?_
        refine ls_iald f_191_88 hl S_101 hyp (fun hyp => ?_)
        refine ls_sipush 1000 f_191_89 (by decide) ?_
        refine ls_icmp_le 107 f_191_92 rfl hyp (fun _ hyp => ?_) (fun _ hyp => ?_)
        · refine ls_iload_n f_191_95 rfl ?_
          refine ls_bipush 7 f_191_96 (by decide) ?_
          refine ls_icmp_lt 114 f_191_98 rfl hyp (fun _ hyp => ?_) (fun _ hyp => ?_)
          · refine ls_aload_n f_191_114 rfl ?_
            refine ls_invV (a := 92) f_191_115 q_191_172 [] [] rfl (Nat.le_of_ble_eq_true rfl) hl S_92 ow_180 ?_
            refine ls_call hyp hl (fun _ h6 hl6 hyp => ?_)
            refine ls_retV hyp (fun hyp => ?_)
            exact ls_return f_191_118 rV_191 hyp
          · refine ls_iload_n f_191_101 rfl ?_
            refine ls_bipush 13 f_191_102 (by decide) ?_
            refine ls_icmp_gt 114 f_191_104 rfl hyp (fun _ hyp => ?_) (fun _ hyp => ?_)
            · refine ls_aload_n f_191_114 rfl ?_
              refine ls_invV (a := 92) f_191_115 q_191_172 [] [] rfl (Nat.le_of_ble_eq_true rfl) hl S_92 ow_180 ?_
              refine ls_call hyp hl (fun _ h7 hl7 hyp => ?_)
              refine ls_retV hyp (fun hyp => ?_)
              exact ls_return f_191_118 rV_191 hyp
            · refine ls_aload_n f_191_107 rfl ?_
              refine ls_invV (a := 92) f_191_108 q_191_204 [] [] rfl (Nat.le_of_ble_eq_true rfl) hl S_92 ow_183 ?_
              refine ls_call hyp hl (fun _ h8 hl8 hyp => ?_)
              refine ls_retV hyp (fun hyp => ?_)
              refine ls_goto 118 f_191_111 rfl ?_
              exact ls_return f_191_118 rV_191 hyp
        · refine ls_aload_n f_191_107 rfl ?_
          refine ls_invV (a := 92) f_191_108 q_191_204 [] [] rfl (Nat.le_of_ble_eq_true rfl) hl S_92 ow_183 ?_
          refine ls_call hyp hl (fun _ h9 hl9 hyp => ?_)
          refine ls_retV hyp (fun hyp => ?_)
          refine ls_goto 118 f_191_111 rfl ?_
          exact ls_return f_191_118 rV_191 hyp
      · refine ls_iload_n f_191_95 rfl ?_
        refine ls_bipush 7 f_191_96 (by decide) ?_
        refine ls_icmp_lt 114 f_191_98 rfl hyp (fun _ hyp => ?_) (fun _ hyp => ?_)
        · refine ls_aload_n f_191_114 rfl ?_
          refine ls_invV (a := 92) f_191_115 q_191_172 [] [] rfl (Nat.le_of_ble_eq_true rfl) hl S_92 ow_180 ?_
          refine ls_call hyp hl (fun _ h10 hl10 hyp => ?_)
          refine ls_retV hyp (fun hyp => ?_)
          exact ls_return f_191_118 rV_191 hyp
        · refine ls_iload_n f_191_101 rfl ?_
          refine ls_bipush 13 f_191_102 (by decide) ?_
          refine ls_icmp_gt 114 f_191_104 rfl hyp (fun _ hyp => ?_) (fun _ hyp => ?_)
          · refine ls_aload_n f_191_114 rfl ?_
            refine ls_invV (a := 92) f_191_115 q_191_172 [] [] rfl (Nat.le_of_ble_eq_true rfl) hl S_92 ow_180 ?_
            refine ls_call hyp hl (fun _ h11 hl11 hyp => ?_)
            refine ls_retV hyp (fun hyp => ?_)
            exact ls_return f_191_118 rV_191 hyp
          · refine ls_aload_n f_191_107 rfl ?_
            refine ls_invV (a := 92) f_191_108 q_191_204 [] [] rfl (Nat.le_of_ble_eq_true rfl) hl S_92 ow_183 ?_
            refine ls_call hyp hl (fun _ h12 hl12 hyp => ?_)
            refine ls_retV hyp (fun hyp => ?_)
            refine ls_goto 118 f_191_111 rfl ?_
            exact ls_return f_191_118 rV_191 hyp
  · refine ls_iconst 0 f_179_12 (by decide) ?_
    refine ls_zreturn f_179_13 rZ_179 (by decide) ?_
    show lm_W _ _ _ _ [.int 0] _ _
    refine ls_if_ne_T 8 f_191_4 rfl (by decide) ?_
    exact ls_return f_191_7 rV_191 hyp
theorem e_192 {d : Nat} {h : lm_H} {K : Int32 → lm_H → Prop} (hl : lm_Lay h) (hyp : lm_call (d + 1) 178 [.ref 92, .int (lm_i h 92 10)] h (lm_kV fun h1 => lm_call (d + 1) 185 [.ref 92] (lm_si (lm_si (lm_si (lm_si h1 92 10 0) 92 16 0) 92 17 0) 92 18 (-1)) (lm_kV fun h2 => lm_W (d + 1) 192 34 [some (.ref 92), some (.int 1)] [] h2 (lm_kI K)))) : lm_call (d + 2) 192 [.ref 92] h (lm_kI K) := by
  refine ls_enter [some (.ref 92), none] ml_192 (Nat.le_of_ble_eq_true rfl) rfl ?_
  refine ls_aload_n f_192_0 rfl ?_
  refine ls_aload_n f_192_1 rfl ?_
  refine ls_getI f_192_2 p_192_139 hl S_92 ?_
  refine ls_invV (a := 92) f_192_5 q_192_207 [.int (lm_i h 92 10)] [] rfl (Nat.le_of_ble_eq_true rfl) hl S_92 ow_178 ?_
  refine ls_call hyp hl (fun _ h1 hl1 hyp => ?_)
  refine ls_retV hyp (fun hyp => ?_)
  refine ls_aload_n f_192_8 rfl ?_
  refine ls_iconst 0 f_192_9 (by decide) ?_
  refine ls_putI f_192_10 p_192_139 hl1 S_92 rfl ?_
  refine ls_aload_n f_192_13 rfl ?_
  refine ls_iconst 0 f_192_14 (by decide) ?_
  refine ls_putI f_192_15 p_192_166 (lm_Lay_si hl1 _ _ _) S_92 rfl ?_
  refine ls_aload_n f_192_18 rfl ?_
  refine ls_iconst 0 f_192_19 (by decide) ?_
  refine ls_putI f_192_20 p_192_175 (lm_Lay_si (lm_Lay_si hl1 _ _ _) _ _ _) S_92 rfl ?_
  refine ls_aload_n f_192_23 rfl ?_
  refine ls_iconst (-1) f_192_24 (by decide) ?_
  refine ls_putI f_192_25 p_192_159 (lm_Lay_si (lm_Lay_si (lm_Lay_si hl1 _ _ _) _ _ _) _ _ _) S_92 rfl ?_
  refine ls_aload_n f_192_28 rfl ?_
  refine ls_invV (a := 92) f_192_29 q_192_210 [] [] rfl (Nat.le_of_ble_eq_true rfl) (lm_Lay_si (lm_Lay_si (lm_Lay_si (lm_Lay_si hl1 _ _ _) _ _ _) _ _ _) _ _ _) S_92 ow_185 ?_
  refine ls_call hyp (lm_Lay_si (lm_Lay_si (lm_Lay_si (lm_Lay_si hl1 _ _ _) _ _ _) _ _ _) _ _ _) (fun _ h2 hl2 hyp => ?_)
  refine ls_retV hyp (fun hyp => ?_)
  refine ls_iconst 1 f_192_32 (by decide) ?_
  refine ls_istore_n [some (.ref 92), some (.int 1)] f_192_33 (Nat.le_of_ble_eq_true rfl) rfl ?_
  exact hyp
theorem b_192_34 {d : Nat} {h : lm_H} {K : Int32 → lm_H → Prop} (x1 : Int32) (hl : lm_Lay h) (hyp : lm_call (d + 1) 181 [.ref 92, .int 159] h (lm_kI fun r2 h1 => (if r2 = 0 then (if (lm_i h1 92 18) = (-1) then (if (lm_i h1 92 16) < (lm_i h1 92 15) then (lm_call (d + 1) 180 [.ref 92] h1 (lm_kV fun h3 => (if (lm_i h3 92 18) = (-1) then (K 1 (lm_si h3 92 11 (lm_i h3 92 18))) else (K 0 (lm_si h3 92 11 (lm_i h3 92 18)))))) else (if (lm_i h1 92 18) = (-1) then (K 1 (lm_si h1 92 11 (lm_i h1 92 18))) else (K 0 (lm_si h1 92 11 (lm_i h1 92 18))))) else (if (lm_i h1 92 18) = (-1) then (K 1 (lm_si h1 92 11 (lm_i h1 92 18))) else (K 0 (lm_si h1 92 11 (lm_i h1 92 18))))) else (if x1 = 12 then (lm_call (d + 1) 180 [.ref 92] h1 (lm_kV fun h4 => (if (lm_i h4 92 18) = (-1) then (lm_call (d + 1) 185 [.ref 92] h4 (lm_kV fun h5 => lm_W (d + 1) 192 34 [some (.ref 92), some (.int (x1 + 1))] [] h5 (lm_kI K))) else (lm_W (d + 1) 192 34 [some (.ref 92), some (.int (x1 + 1))] [] h4 (lm_kI K))))) else (if (lm_i h1 92 18) = (-1) then (lm_call (d + 1) 185 [.ref 92] h1 (lm_kV fun h6 => lm_W (d + 1) 192 34 [some (.ref 92), some (.int (x1 + 1))] [] h6 (lm_kI K))) else (lm_W (d + 1) 192 34 [some (.ref 92), some (.int (x1 + 1))] [] h1 (lm_kI K))))))) : lm_W (d + 1) 192 34 [some (.ref 92), some (.int x1)] [] h (lm_kI K) := by
  refine ls_aload_n f_192_34 rfl ?_
  refine ls_bipush 59 f_192_35 (by decide) ?_
  refine ls_invS f_192_37 q_192_194 [.int 59] [.ref 92] rfl (Nat.le_of_ble_eq_true rfl) ?_
  refine ls_enter [some (.int 59)] ml_184 (Nat.le_of_ble_eq_true rfl) rfl ?_
  refine ls_bipush 100 f_184_0 (by decide) ?_
  refine ls_iload_n f_184_2 rfl ?_
  refine ls_iadd 159 f_184_3 (by decide) ?_
  refine ls_ireturn f_184_4 rI_184 ?_
  show lm_W _ _ _ _ [.int 159, .ref 92] _ _
  refine ls_invV (a := 92) f_192_40 q_192_169 [.int 159] [] rfl (Nat.le_of_ble_eq_true rfl) hl S_92 ow_181 ?_
  refine ls_call hyp hl (fun _ h1 hl1 hyp => ?_)
  refine ls_retI hyp (fun r2 hyp => ?_)
  refine ls_if_eq 73 f_192_43 rfl hyp (fun _ hyp => ?_) (fun _ hyp => ?_)
  · refine ls_aload_n f_192_73 rfl ?_
    refine ls_invV (a := 92) f_192_74 q_192_162 [] [] rfl (Nat.le_of_ble_eq_true rfl) hl1 S_92 ow_179 ?_
    refine ls_enter [some (.ref 92)] ml_179 (Nat.le_of_ble_eq_true rfl) rfl ?_
    refine ls_aload_n f_179_0 rfl ?_
    refine ls_getI f_179_1 p_179_159 hl1 S_92 ?_
    refine ls_iconst (-1) f_179_4 (by decide) ?_
    refine ls_icmp_ne 12 f_179_5 rfl hyp (fun _ hyp => ?_) (fun _ hyp => ?_)
    · refine ls_iconst 1 f_179_8 (by decide) ?_
      refine ls_goto 13 f_179_9 rfl ?_
      refine ls_zreturn f_179_13 rZ_179 (by decide) ?_
      show lm_W _ _ _ _ [.int 1] _ _
      refine ls_if_eq_F 95 f_192_77 rfl (by decide) ?_
      refine ls_aload_n f_192_80 rfl ?_
      refine ls_getI f_192_81 p_192_166 hl1 S_92 ?_
      refine ls_aload_n f_192_84 rfl ?_
      refine ls_getI f_192_85 p_192_145 hl1 S_92 ?_
      refine ls_icmp_ge 95 f_192_88 rfl hyp (fun _ hyp => ?_) (fun _ hyp => ?_)
      · refine ls_aload_n f_192_91 rfl ?_
        refine ls_invV (a := 92) f_192_92 q_192_172 [] [] rfl (Nat.le_of_ble_eq_true rfl) hl1 S_92 ow_180 ?_
        refine ls_call hyp hl1 (fun _ h3 hl3 hyp => ?_)
        refine ls_retV hyp (fun hyp => ?_)
        refine ls_aload_n f_192_95 rfl ?_
        refine ls_aload_n f_192_96 rfl ?_
        refine ls_getI f_192_97 p_192_159 hl3 S_92 ?_
        refine ls_putI f_192_100 p_192_45 hl3 S_92 rfl ?_
        refine ls_aload_n f_192_103 rfl ?_
        refine ls_invV (a := 92) f_192_104 q_192_162 [] [] rfl (Nat.le_of_ble_eq_true rfl) (lm_Lay_si hl3 _ _ _) S_92 ow_179 ?_
        refine ls_enter [some (.ref 92)] ml_179 (Nat.le_of_ble_eq_true rfl) rfl ?_
        refine ls_aload_n f_179_0 rfl ?_
        refine ls_getI f_179_1 p_179_159 (lm_Lay_si hl3 _ _ _) S_92 ?_
        refine ls_top (lm_i h3 92 18) rfl ?_
        refine ls_iconst (-1) f_179_4 (by decide) ?_
        refine ls_icmp_ne 12 f_179_5 rfl hyp (fun _ hyp => ?_) (fun _ hyp => ?_)
        · refine ls_iconst 1 f_179_8 (by decide) ?_
          refine ls_goto 13 f_179_9 rfl ?_
          refine ls_zreturn f_179_13 rZ_179 (by decide) ?_
          show lm_W _ _ _ _ [.int 1] _ _
          exact ls_zreturn f_192_107 rZ_192 (by decide) hyp
        · refine ls_iconst 0 f_179_12 (by decide) ?_
          refine ls_zreturn f_179_13 rZ_179 (by decide) ?_
          show lm_W _ _ _ _ [.int 0] _ _
          exact ls_zreturn f_192_107 rZ_192 (by decide) hyp
      · refine ls_aload_n f_192_95 rfl ?_
        refine ls_aload_n f_192_96 rfl ?_
        refine ls_getI f_192_97 p_192_159 hl1 S_92 ?_
        refine ls_putI f_192_100 p_192_45 hl1 S_92 rfl ?_
        refine ls_aload_n f_192_103 rfl ?_
        refine ls_invV (a := 92) f_192_104 q_192_162 [] [] rfl (Nat.le_of_ble_eq_true rfl) (lm_Lay_si hl1 _ _ _) S_92 ow_179 ?_
        refine ls_enter [some (.ref 92)] ml_179 (Nat.le_of_ble_eq_true rfl) rfl ?_
        refine ls_aload_n f_179_0 rfl ?_
        refine ls_getI f_179_1 p_179_159 (lm_Lay_si hl1 _ _ _) S_92 ?_
        refine ls_top (lm_i h1 92 18) rfl ?_
        refine ls_iconst (-1) f_179_4 (by decide) ?_
        refine ls_icmp_ne 12 f_179_5 rfl hyp (fun _ hyp => ?_) (fun _ hyp => ?_)
        · refine ls_iconst 1 f_179_8 (by decide) ?_
          refine ls_goto 13 f_179_9 rfl ?_
          refine ls_zreturn f_179_13 rZ_179 (by decide) ?_
          show lm_W _ _ _ _ [.int 1] _ _
          exact ls_zreturn f_192_107 rZ_192 (by decide) hyp
        · refine ls_iconst 0 f_179_12 (by decide) ?_
          refine ls_zreturn f_179_13 rZ_179 (by decide) ?_
          show lm_W _ _ _ _ [.int 0] _ _
          exact ls_zreturn f_192_107 rZ_192 (by decide) hyp
    · refine ls_iconst 0 f_179_12 (by decide) ?_
      refine ls_zreturn f_179_13 rZ_179 (by decide) ?_
      show lm_W _ _ _ _ [.int 0] _ _
      refine ls_if_eq_T 95 f_192_77 rfl (by decide) ?_
      refine ls_aload_n f_192_95 rfl ?_
      refine ls_aload_n f_192_96 rfl ?_
      refine ls_getI f_192_97 p_192_159 hl1 S_92 ?_
      refine ls_putI f_192_100 p_192_45 hl1 S_92 rfl ?_
      refine ls_aload_n f_192_103 rfl ?_
      refine ls_invV (a := 92) f_192_104 q_192_162 [] [] rfl (Nat.le_of_ble_eq_true rfl) (lm_Lay_si hl1 _ _ _) S_92 ow_179 ?_
      refine ls_enter [some (.ref 92)] ml_179 (Nat.le_of_ble_eq_true rfl) rfl ?_
      refine ls_aload_n f_179_0 rfl ?_
      refine ls_getI f_179_1 p_179_159 (lm_Lay_si hl1 _ _ _) S_92 ?_
      refine ls_top (lm_i h1 92 18) rfl ?_
      refine ls_iconst (-1) f_179_4 (by decide) ?_
      refine ls_icmp_ne 12 f_179_5 rfl hyp (fun _ hyp => ?_) (fun _ hyp => ?_)
      · refine ls_iconst 1 f_179_8 (by decide) ?_
        refine ls_goto 13 f_179_9 rfl ?_
        refine ls_zreturn f_179_13 rZ_179 (by decide) ?_
        show lm_W _ _ _ _ [.int 1] _ _
        exact ls_zreturn f_192_107 rZ_192 (by decide) hyp
      · refine ls_iconst 0 f_179_12 (by decide) ?_
        refine ls_zreturn f_179_13 rZ_179 (by decide) ?_
        show lm_W _ _ _ _ [.int 0] _ _
        exact ls_zreturn f_192_107 rZ_192 (by decide) hyp
  · refine ls_iload_n f_192_46 rfl ?_
    refine ls_bipush 12 f_192_47 (by decide) ?_
    refine ls_icmp_ne 56 f_192_49 rfl hyp (fun _ hyp => ?_) (fun _ hyp => ?_)
    · refine ls_aload_n f_192_52 rfl ?_
      refine ls_invV (a := 92) f_192_53 q_192_172 [] [] rfl (Nat.le_of_ble_eq_true rfl) hl1 S_92 ow_180 ?_
      refine ls_call hyp hl1 (fun _ h4 hl4 hyp => ?_)
      refine ls_retV hyp (fun hyp => ?_)
      refine ls_aload_n f_192_56 rfl ?_
      refine ls_invV (a := 92) f_192_57 q_192_162 [] [] rfl (Nat.le_of_ble_eq_true rfl) hl4 S_92 ow_179 ?_
      refine ls_enter [some (.ref 92)] ml_179 (Nat.le_of_ble_eq_true rfl) rfl ?_
      refine ls_aload_n f_179_0 rfl ?_
      refine ls_getI f_179_1 p_179_159 hl4 S_92 ?_
      refine ls_iconst (-1) f_179_4 (by decide) ?_
      refine ls_icmp_ne 12 f_179_5 rfl hyp (fun _ hyp => ?_) (fun _ hyp => ?_)
      · refine ls_iconst 1 f_179_8 (by decide) ?_
        refine ls_goto 13 f_179_9 rfl ?_
        refine ls_zreturn f_179_13 rZ_179 (by decide) ?_
        show lm_W _ _ _ _ [.int 1] _ _
        refine ls_if_eq_F 67 f_192_60 rfl (by decide) ?_
        refine ls_aload_n f_192_63 rfl ?_
        refine ls_invV (a := 92) f_192_64 q_192_210 [] [] rfl (Nat.le_of_ble_eq_true rfl) hl4 S_92 ow_185 ?_
        refine ls_call hyp hl4 (fun _ h5 hl5 hyp => ?_)
        refine ls_retV hyp (fun hyp => ?_)
        refine ls_iinc (x1 + 1) [some (.ref 92), some (.int (x1 + 1))] f_192_67 rfl (Nat.le_of_ble_eq_true rfl) rfl rfl ?_
        refine ls_goto 34 f_192_70 rfl ?_
        exact hyp
      · refine ls_iconst 0 f_179_12 (by decide) ?_
        refine ls_zreturn f_179_13 rZ_179 (by decide) ?_
        show lm_W _ _ _ _ [.int 0] _ _
        refine ls_if_eq_T 67 f_192_60 rfl (by decide) ?_
        refine ls_iinc (x1 + 1) [some (.ref 92), some (.int (x1 + 1))] f_192_67 rfl (Nat.le_of_ble_eq_true rfl) rfl rfl ?_
        refine ls_goto 34 f_192_70 rfl ?_
        exact hyp
    · refine ls_aload_n f_192_56 rfl ?_
      refine ls_invV (a := 92) f_192_57 q_192_162 [] [] rfl (Nat.le_of_ble_eq_true rfl) hl1 S_92 ow_179 ?_
      refine ls_enter [some (.ref 92)] ml_179 (Nat.le_of_ble_eq_true rfl) rfl ?_
      refine ls_aload_n f_179_0 rfl ?_
      refine ls_getI f_179_1 p_179_159 hl1 S_92 ?_
      refine ls_iconst (-1) f_179_4 (by decide) ?_
      refine ls_icmp_ne 12 f_179_5 rfl hyp (fun _ hyp => ?_) (fun _ hyp => ?_)
      · refine ls_iconst 1 f_179_8 (by decide) ?_
        refine ls_goto 13 f_179_9 rfl ?_
        refine ls_zreturn f_179_13 rZ_179 (by decide) ?_
        show lm_W _ _ _ _ [.int 1] _ _
        refine ls_if_eq_F 67 f_192_60 rfl (by decide) ?_
        refine ls_aload_n f_192_63 rfl ?_
        refine ls_invV (a := 92) f_192_64 q_192_210 [] [] rfl (Nat.le_of_ble_eq_true rfl) hl1 S_92 ow_185 ?_
        refine ls_call hyp hl1 (fun _ h6 hl6 hyp => ?_)
        refine ls_retV hyp (fun hyp => ?_)
        refine ls_iinc (x1 + 1) [some (.ref 92), some (.int (x1 + 1))] f_192_67 rfl (Nat.le_of_ble_eq_true rfl) rfl rfl ?_
        refine ls_goto 34 f_192_70 rfl ?_
        exact hyp
      · refine ls_iconst 0 f_179_12 (by decide) ?_
        refine ls_zreturn f_179_13 rZ_179 (by decide) ?_
        show lm_W _ _ _ _ [.int 0] _ _
        refine ls_if_eq_T 67 f_192_60 rfl (by decide) ?_
        refine ls_iinc (x1 + 1) [some (.ref 92), some (.int (x1 + 1))] f_192_67 rfl (Nat.le_of_ble_eq_true rfl) rfl rfl ?_
        refine ls_goto 34 f_192_70 rfl ?_
        exact hyp
theorem e_193 {d : Nat} {h : lm_H} {K : Int32 → lm_H → Prop} (hl : lm_Lay h) (hyp : (if (lm_i h 94 85) = 6 then (K (-5) (lm_si (lm_si (lm_si h 92 10 0) 92 0 (-5)) 93 5 ((lm_i h 93 5) + 1))) else (lm_call (d + 1) 192 [.ref 92] h (lm_kI fun r2 h1 => (if r2 = 0 then (K (-6) (lm_si (lm_si h1 92 0 (-6)) 93 6 ((lm_i h1 93 6) + 1))) else (lm_in (87 + (lm_i h1 94 85)) 4893 False (lm_W (d + 1) 193 61 [some (.ref 92), some (.int (lm_i h1 94 85)), some (.int 0)] [] (lm_si h1 94 ((87 + (lm_i h1 94 85)).toNatClampNeg) (lm_i h1 92 15)) (lm_kI K)))))))) : lm_call (d + 2) 193 [.ref 92] h (lm_kI K) := by
  refine ls_enter [some (.ref 92), none, none] ml_193 (Nat.le_of_ble_eq_true rfl) rfl ?_
  refine ls_aload_n f_193_0 rfl ?_
  refine ls_getR f_193_1 p_193_25 hl S_92 F_92_3 ?_
  refine ls_bipush 85 f_193_4 (by decide) ?_
  refine ls_ialdC 85 f_193_6 hl S_94 ⟨by decide, by decide, by decide⟩ ?_
  refine ls_bipush 6 f_193_7 (by decide) ?_
  refine ls_icmp_ne 24 f_193_9 rfl hyp (fun _ hyp => ?_) (fun _ hyp => ?_)
  · refine ls_aload_n f_193_12 rfl ?_
    refine ls_iconst 0 f_193_13 (by decide) ?_
    refine ls_putI f_193_14 p_193_139 hl S_92 rfl ?_
    refine ls_aload_n f_193_17 rfl ?_
    refine ls_bipush (-5) f_193_18 (by decide) ?_
    refine ls_invV (a := 92) f_193_20 q_193_11 [.int (-5)] [] rfl (Nat.le_of_ble_eq_true rfl) (lm_Lay_si hl _ _ _) S_92 ow_153 ?_
    refine ls_enter [some (.ref 92), some (.int (-5))] ml_153 (Nat.le_of_ble_eq_true rfl) rfl ?_
    refine ls_aload_n f_153_0 rfl ?_
    refine ls_iload_n f_153_1 rfl ?_
    refine ls_putI f_153_2 p_153_3 (lm_Lay_si hl _ _ _) S_92 rfl ?_
    refine ls_aload_n f_153_5 rfl ?_
    refine ls_getR f_153_6 p_153_7 (lm_Lay_si (lm_Lay_si hl _ _ _) _ _ _) S_92 F_92_2 ?_
    refine ls_iload_n f_153_9 rfl ?_
    refine ls_ineg 5 f_153_10 (by decide) ?_
    refine ls_dup2 f_153_11 rfl rfl ?_
    refine ls_ialdC 5 f_153_12 (lm_Lay_si (lm_Lay_si hl _ _ _) _ _ _) S_93 ⟨by decide, by decide, by decide⟩ ?_
    refine ls_top (lm_i h 93 5) rfl ?_
    refine ls_iconst 1 f_153_13 (by decide) ?_
    refine ls_iadd ((lm_i h 93 5) + 1) f_153_14 rfl ?_
    refine ls_iastC 5 f_153_15 (lm_Lay_si (lm_Lay_si hl _ _ _) _ _ _) S_93 ⟨by decide, by decide, by decide⟩ ?_
    refine ls_iload_n f_153_16 rfl ?_
    refine ls_ireturn f_153_17 rI_153 ?_
    show lm_W _ _ _ _ [.int (-5)] _ _
    exact ls_ireturn f_193_23 rI_193 hyp
  · refine ls_aload_n f_193_24 rfl ?_
    refine ls_invV (a := 92) f_193_25 q_193_213 [] [] rfl (Nat.le_of_ble_eq_true rfl) hl S_92 ow_192 ?_
    refine ls_call hyp hl (fun _ h1 hl1 hyp => ?_)
    refine ls_retI hyp (fun r2 hyp => ?_)
    refine ls_if_ne 38 f_193_28 rfl hyp (fun _ hyp => ?_) (fun _ hyp => ?_)
    · refine ls_aload_n f_193_31 rfl ?_
      refine ls_bipush (-6) f_193_32 (by decide) ?_
      refine ls_invV (a := 92) f_193_34 q_193_11 [.int (-6)] [] rfl (Nat.le_of_ble_eq_true rfl) hl1 S_92 ow_153 ?_
      refine ls_enter [some (.ref 92), some (.int (-6))] ml_153 (Nat.le_of_ble_eq_true rfl) rfl ?_
      refine ls_aload_n f_153_0 rfl ?_
      refine ls_iload_n f_153_1 rfl ?_
      refine ls_putI f_153_2 p_153_3 hl1 S_92 rfl ?_
      refine ls_aload_n f_153_5 rfl ?_
      refine ls_getR f_153_6 p_153_7 (lm_Lay_si hl1 _ _ _) S_92 F_92_2 ?_
      refine ls_iload_n f_153_9 rfl ?_
      refine ls_ineg 6 f_153_10 (by decide) ?_
      refine ls_dup2 f_153_11 rfl rfl ?_
      refine ls_ialdC 6 f_153_12 (lm_Lay_si hl1 _ _ _) S_93 ⟨by decide, by decide, by decide⟩ ?_
      refine ls_top (lm_i h1 93 6) rfl ?_
      refine ls_iconst 1 f_153_13 (by decide) ?_
      refine ls_iadd ((lm_i h1 93 6) + 1) f_153_14 rfl ?_
      refine ls_iastC 6 f_153_15 (lm_Lay_si hl1 _ _ _) S_93 ⟨by decide, by decide, by decide⟩ ?_
      refine ls_iload_n f_153_16 rfl ?_
      refine ls_ireturn f_153_17 rI_153 ?_
      show lm_W _ _ _ _ [.int (-6)] _ _
      exact ls_ireturn f_193_37 rI_193 hyp
    · refine ls_aload_n f_193_38 rfl ?_
      refine ls_getR f_193_39 p_193_25 hl1 S_92 F_92_3 ?_
      refine ls_bipush 85 f_193_42 (by decide) ?_
      refine ls_ialdC 85 f_193_44 hl1 S_94 ⟨by decide, by decide, by decide⟩ ?_
      refine ls_istore_n [some (.ref 92), some (.int (lm_i h1 94 85)), none] f_193_45 (Nat.le_of_ble_eq_true rfl) rfl ?_
      refine ls_aload_n f_193_46 rfl ?_
      refine ls_getR f_193_47 p_193_25 hl1 S_92 F_92_3 ?_
      refine ls_bipush 87 f_193_50 (by decide) ?_
      refine ls_iload_n f_193_52 rfl ?_
      refine ls_iadd (87 + (lm_i h1 94 85)) f_193_53 rfl ?_
      refine ls_aload_n f_193_54 rfl ?_
      refine ls_getI f_193_55 p_193_145 hl1 S_92 ?_
      refine ls_iast f_193_58 hl1 S_94 hyp (fun hyp => ?_)
      refine ls_iconst 0 f_193_59 (by decide) ?_
      refine ls_istore_n [some (.ref 92), some (.int (lm_i h1 94 85)), some (.int 0)] f_193_60 (Nat.le_of_ble_eq_true rfl) rfl ?_
      exact hyp
theorem b_193_61 {d : Nat} {h : lm_H} {K : Int32 → lm_H → Prop} (x1 : Int32) (x2 : Int32) (hl : lm_Lay h) (hyp : (if x2 < (lm_i h 92 15) then (lm_in x2 401 False (lm_in ((93 + (400 * x1)) + x2) 4893 False (lm_in x2 401 False (lm_in ((2493 + (400 * x1)) + x2) 4893 False (lm_W (d + 1) 193 61 [some (.ref 92), some (.int x1), some (.int (x2 + 1))] [] (lm_si (lm_si h 94 (((93 + (400 * x1)) + x2).toNatClampNeg) (lm_i h 100 x2.toNatClampNeg)) 94 (((2493 + (400 * x1)) + x2).toNatClampNeg) (lm_i h 101 x2.toNatClampNeg)) (lm_kI K)))))) else (K x1 (lm_si (lm_si (lm_si h 94 85 ((lm_i h 94 85) + 1)) 92 0 0) 92 1 ((lm_i h 92 1) + 1))))) : lm_W (d + 1) 193 61 [some (.ref 92), some (.int x1), some (.int x2)] [] h (lm_kI K) := by
  refine ls_iload_n f_193_61 rfl ?_
  refine ls_aload_n f_193_62 rfl ?_
  refine ls_getI f_193_63 p_193_145 hl S_92 ?_
  refine ls_icmp_ge 118 f_193_66 rfl hyp (fun _ hyp => ?_) (fun _ hyp => ?_)
  · refine ls_aload_n f_193_69 rfl ?_
    refine ls_getR f_193_70 p_193_25 hl S_92 F_92_3 ?_
    refine ls_bipush 93 f_193_73 (by decide) ?_
    refine ls_sipush 400 f_193_75 (by decide) ?_
    refine ls_iload_n f_193_78 rfl ?_
    refine ls_imul (400 * x1) f_193_79 rfl ?_
    refine ls_iadd (93 + (400 * x1)) f_193_80 rfl ?_
    refine ls_iload_n f_193_81 rfl ?_
    refine ls_iadd ((93 + (400 * x1)) + x2) f_193_82 rfl ?_
    refine ls_aload_n f_193_83 rfl ?_
    refine ls_getR f_193_84 p_193_48 hl S_92 F_92_12 ?_
    refine ls_iload_n f_193_87 rfl ?_
    refine ls_iald f_193_88 hl S_100 hyp (fun hyp => ?_)
    refine ls_iast f_193_89 hl S_94 hyp (fun hyp => ?_)
    refine ls_aload_n f_193_90 rfl ?_
    refine ls_getR f_193_91 p_193_25 (lm_Lay_si hl _ _ _) S_92 F_92_3 ?_
    refine ls_sipush 2493 f_193_94 (by decide) ?_
    refine ls_sipush 400 f_193_97 (by decide) ?_
    refine ls_iload_n f_193_100 rfl ?_
    refine ls_imul (400 * x1) f_193_101 rfl ?_
    refine ls_iadd (2493 + (400 * x1)) f_193_102 rfl ?_
    refine ls_iload_n f_193_103 rfl ?_
    refine ls_iadd ((2493 + (400 * x1)) + x2) f_193_104 rfl ?_
    refine ls_aload_n f_193_105 rfl ?_
    refine ls_getR f_193_106 p_193_51 (lm_Lay_si hl _ _ _) S_92 F_92_13 ?_
    refine ls_iload_n f_193_109 rfl ?_
    refine ls_iald f_193_110 (lm_Lay_si hl _ _ _) S_101 hyp (fun hyp => ?_)
    refine ls_top (lm_i h 101 x2.toNatClampNeg) rfl ?_
    refine ls_iast f_193_111 (lm_Lay_si hl _ _ _) S_94 hyp (fun hyp => ?_)
    refine ls_iinc (x2 + 1) [some (.ref 92), some (.int x1), some (.int (x2 + 1))] f_193_112 rfl (Nat.le_of_ble_eq_true rfl) rfl rfl ?_
    refine ls_goto 61 f_193_115 rfl ?_
    exact hyp
  · refine ls_aload_n f_193_118 rfl ?_
    refine ls_getR f_193_119 p_193_25 hl S_92 F_92_3 ?_
    refine ls_bipush 85 f_193_122 (by decide) ?_
    refine ls_dup2 f_193_124 rfl rfl ?_
    refine ls_ialdC 85 f_193_125 hl S_94 ⟨by decide, by decide, by decide⟩ ?_
    refine ls_iconst 1 f_193_126 (by decide) ?_
    refine ls_iadd ((lm_i h 94 85) + 1) f_193_127 rfl ?_
    refine ls_iastC 85 f_193_128 hl S_94 ⟨by decide, by decide, by decide⟩ ?_
    refine ls_aload_n f_193_129 rfl ?_
    refine ls_iload_n f_193_130 rfl ?_
    refine ls_invV (a := 92) f_193_131 q_193_119 [.int x1] [] rfl (Nat.le_of_ble_eq_true rfl) (lm_Lay_si hl _ _ _) S_92 ow_155 ?_
    refine ls_enter [some (.ref 92), some (.int x1)] ml_155 (Nat.le_of_ble_eq_true rfl) rfl ?_
    refine ls_aload_n f_155_0 rfl ?_
    refine ls_iconst 0 f_155_1 (by decide) ?_
    refine ls_putI f_155_2 p_155_3 (lm_Lay_si hl _ _ _) S_92 rfl ?_
    refine ls_aload_n f_155_5 rfl ?_
    refine ls_dup f_155_6 rfl ?_
    refine ls_getI f_155_7 p_155_16 (lm_Lay_si (lm_Lay_si hl _ _ _) _ _ _) S_92 ?_
    refine ls_top (lm_i h 92 1) rfl ?_
    refine ls_iconst 1 f_155_10 (by decide) ?_
    refine ls_iadd ((lm_i h 92 1) + 1) f_155_11 rfl ?_
    refine ls_putI f_155_12 p_155_16 (lm_Lay_si (lm_Lay_si hl _ _ _) _ _ _) S_92 rfl ?_
    refine ls_iload_n f_155_15 rfl ?_
    refine ls_ireturn f_155_16 rI_155 ?_
    show lm_W _ _ _ _ [.int x1] _ _
    exact ls_ireturn f_193_134 rI_193 hyp
theorem e_194 {d : Nat} {h : lm_H} {K : Int32 → lm_H → Prop} (hl : lm_Lay h) (hyp : K (lm_i h 92 11) h) : lm_call (d + 1) 194 [.ref 92] h (lm_kI K) := by
  refine ls_enter [some (.ref 92)] ml_194 (Nat.le_of_ble_eq_true rfl) rfl ?_
  refine ls_aload_n f_194_0 rfl ?_
  refine ls_getI f_194_1 p_194_45 hl S_92 ?_
  exact ls_ireturn f_194_4 rI_194 hyp
theorem e_195 {d : Nat} {h : lm_H} {K : Int32 → lm_H → Prop} (x1 : Int32) (hl : lm_Lay h) (hyp : (if x1 < (-1) then (K (-2) (lm_si (lm_si h 92 0 (-2)) 93 2 ((lm_i h 93 2) + 1))) else (if ((lm_i h 94 85) - 1) < x1 then (K (-2) (lm_si (lm_si h 92 0 (-2)) 93 2 ((lm_i h 93 2) + 1))) else (K (lm_i h 94 86) (lm_si (lm_si (lm_si h 94 86 x1) 92 0 0) 92 1 ((lm_i h 92 1) + 1)))))) : lm_call (d + 2) 195 [.ref 92, .int x1] h (lm_kI K) := by
  refine ls_enter [some (.ref 92), some (.int x1), none] ml_195 (Nat.le_of_ble_eq_true rfl) rfl ?_
  refine ls_iload_n f_195_0 rfl ?_
  refine ls_iconst (-1) f_195_1 (by decide) ?_
  refine ls_aload_n f_195_2 rfl ?_
  refine ls_getR f_195_3 p_195_25 hl S_92 F_92_3 ?_
  refine ls_bipush 85 f_195_6 (by decide) ?_
  refine ls_ialdC 85 f_195_8 hl S_94 ⟨by decide, by decide, by decide⟩ ?_
  refine ls_iconst 1 f_195_9 (by decide) ?_
  refine ls_isub ((lm_i h 94 85) - 1) f_195_10 rfl ?_
  refine ls_invS f_195_11 q_195_115 [.int x1, .int (-1), .int ((lm_i h 94 85) - 1)] [] rfl (Nat.le_of_ble_eq_true rfl) ?_
  refine ls_enter [some (.int x1), some (.int (-1)), some (.int ((lm_i h 94 85) - 1))] ml_152 (Nat.le_of_ble_eq_true rfl) rfl ?_
  refine ls_iload_n f_152_0 rfl ?_
  refine ls_iload_n f_152_1 rfl ?_
  refine ls_icmp_lt 14 f_152_2 rfl hyp (fun _ hyp => ?_) (fun _ hyp => ?_)
  · refine ls_iconst 0 f_152_14 (by decide) ?_
    refine ls_zreturn f_152_15 rZ_152 (by decide) ?_
    show lm_W _ _ _ _ [.int 0] _ _
    refine ls_if_ne_T 24 f_195_14 rfl (by decide) ?_
    refine ls_aload_n f_195_17 rfl ?_
    refine ls_bipush (-2) f_195_18 (by decide) ?_
    refine ls_invV (a := 92) f_195_20 q_195_11 [.int (-2)] [] rfl (Nat.le_of_ble_eq_true rfl) hl S_92 ow_153 ?_
    refine ls_enter [some (.ref 92), some (.int (-2))] ml_153 (Nat.le_of_ble_eq_true rfl) rfl ?_
    refine ls_aload_n f_153_0 rfl ?_
    refine ls_iload_n f_153_1 rfl ?_
    refine ls_putI f_153_2 p_153_3 hl S_92 rfl ?_
    refine ls_aload_n f_153_5 rfl ?_
    refine ls_getR f_153_6 p_153_7 (lm_Lay_si hl _ _ _) S_92 F_92_2 ?_
    refine ls_iload_n f_153_9 rfl ?_
    refine ls_ineg 2 f_153_10 (by decide) ?_
    refine ls_dup2 f_153_11 rfl rfl ?_
    refine ls_ialdC 2 f_153_12 (lm_Lay_si hl _ _ _) S_93 ⟨by decide, by decide, by decide⟩ ?_
    refine ls_top (lm_i h 93 2) rfl ?_
    refine ls_iconst 1 f_153_13 (by decide) ?_
    refine ls_iadd ((lm_i h 93 2) + 1) f_153_14 rfl ?_
    refine ls_iastC 2 f_153_15 (lm_Lay_si hl _ _ _) S_93 ⟨by decide, by decide, by decide⟩ ?_
    refine ls_iload_n f_153_16 rfl ?_
    refine ls_ireturn f_153_17 rI_153 ?_
    show lm_W _ _ _ _ [.int (-2)] _ _
    exact ls_ireturn f_195_23 rI_195 hyp
  · refine ls_iload_n f_152_5 rfl ?_
    refine ls_iload_n f_152_6 rfl ?_
    refine ls_icmp_gt 14 f_152_7 rfl hyp (fun _ hyp => ?_) (fun _ hyp => ?_)
    · refine ls_iconst 0 f_152_14 (by decide) ?_
      refine ls_zreturn f_152_15 rZ_152 (by decide) ?_
      show lm_W _ _ _ _ [.int 0] _ _
      refine ls_if_ne_T 24 f_195_14 rfl (by decide) ?_
      refine ls_aload_n f_195_17 rfl ?_
      refine ls_bipush (-2) f_195_18 (by decide) ?_
      refine ls_invV (a := 92) f_195_20 q_195_11 [.int (-2)] [] rfl (Nat.le_of_ble_eq_true rfl) hl S_92 ow_153 ?_
      refine ls_enter [some (.ref 92), some (.int (-2))] ml_153 (Nat.le_of_ble_eq_true rfl) rfl ?_
      refine ls_aload_n f_153_0 rfl ?_
      refine ls_iload_n f_153_1 rfl ?_
      refine ls_putI f_153_2 p_153_3 hl S_92 rfl ?_
      refine ls_aload_n f_153_5 rfl ?_
      refine ls_getR f_153_6 p_153_7 (lm_Lay_si hl _ _ _) S_92 F_92_2 ?_
      refine ls_iload_n f_153_9 rfl ?_
      refine ls_ineg 2 f_153_10 (by decide) ?_
      refine ls_dup2 f_153_11 rfl rfl ?_
      refine ls_ialdC 2 f_153_12 (lm_Lay_si hl _ _ _) S_93 ⟨by decide, by decide, by decide⟩ ?_
      refine ls_top (lm_i h 93 2) rfl ?_
      refine ls_iconst 1 f_153_13 (by decide) ?_
      refine ls_iadd ((lm_i h 93 2) + 1) f_153_14 rfl ?_
      refine ls_iastC 2 f_153_15 (lm_Lay_si hl _ _ _) S_93 ⟨by decide, by decide, by decide⟩ ?_
      refine ls_iload_n f_153_16 rfl ?_
      refine ls_ireturn f_153_17 rI_153 ?_
      show lm_W _ _ _ _ [.int (-2)] _ _
      exact ls_ireturn f_195_23 rI_195 hyp
    · refine ls_iconst 1 f_152_10 (by decide) ?_
      refine ls_goto 15 f_152_11 rfl ?_
      refine ls_zreturn f_152_15 rZ_152 (by decide) ?_
      show lm_W _ _ _ _ [.int 1] _ _
      refine ls_if_ne_F 24 f_195_14 rfl (by decide) ?_
      refine ls_aload_n f_195_24 rfl ?_
      refine ls_getR f_195_25 p_195_25 hl S_92 F_92_3 ?_
      refine ls_bipush 86 f_195_28 (by decide) ?_
      refine ls_ialdC 86 f_195_30 hl S_94 ⟨by decide, by decide, by decide⟩ ?_
      refine ls_istore_n [some (.ref 92), some (.int x1), some (.int (lm_i h 94 86))] f_195_31 (Nat.le_of_ble_eq_true rfl) rfl ?_
      refine ls_aload_n f_195_32 rfl ?_
      refine ls_getR f_195_33 p_195_25 hl S_92 F_92_3 ?_
      refine ls_bipush 86 f_195_36 (by decide) ?_
      refine ls_iload_n f_195_38 rfl ?_
      refine ls_iastC 86 f_195_39 hl S_94 ⟨by decide, by decide, by decide⟩ ?_
      refine ls_aload_n f_195_40 rfl ?_
      refine ls_iload_n f_195_41 rfl ?_
      refine ls_invV (a := 92) f_195_42 q_195_119 [.int (lm_i h 94 86)] [] rfl (Nat.le_of_ble_eq_true rfl) (lm_Lay_si hl _ _ _) S_92 ow_155 ?_
      refine ls_enter [some (.ref 92), some (.int (lm_i h 94 86))] ml_155 (Nat.le_of_ble_eq_true rfl) rfl ?_
      refine ls_aload_n f_155_0 rfl ?_
      refine ls_iconst 0 f_155_1 (by decide) ?_
      refine ls_putI f_155_2 p_155_3 (lm_Lay_si hl _ _ _) S_92 rfl ?_
      refine ls_aload_n f_155_5 rfl ?_
      refine ls_dup f_155_6 rfl ?_
      refine ls_getI f_155_7 p_155_16 (lm_Lay_si (lm_Lay_si hl _ _ _) _ _ _) S_92 ?_
      refine ls_top (lm_i h 92 1) rfl ?_
      refine ls_iconst 1 f_155_10 (by decide) ?_
      refine ls_iadd ((lm_i h 92 1) + 1) f_155_11 rfl ?_
      refine ls_putI f_155_12 p_155_16 (lm_Lay_si (lm_Lay_si hl _ _ _) _ _ _) S_92 rfl ?_
      refine ls_iload_n f_155_15 rfl ?_
      refine ls_ireturn f_155_16 rI_155 ?_
      show lm_W _ _ _ _ [.int (lm_i h 94 86)] _ _
      exact ls_ireturn f_195_45 rI_195 hyp
theorem e_196 {d : Nat} {h : lm_H} {K : Int32 → lm_H → Prop} (x1 : Int32) (hl : lm_Lay h) (hyp : (if x1 < (lm_i h 92 20) then (lm_in (93 + x1) 4893 False (K (lm_i h 94 ((93 + x1).toNatClampNeg)) h)) else (K 0 h))) : lm_call (d + 1) 196 [.ref 92, .int x1] h (lm_kI K) := by
  refine ls_enter [some (.ref 92), some (.int x1)] ml_196 (Nat.le_of_ble_eq_true rfl) rfl ?_
  refine ls_iload_n f_196_0 rfl ?_
  refine ls_aload_n f_196_1 rfl ?_
  refine ls_getI f_196_2 p_196_216 hl S_92 ?_
  refine ls_icmp_ge 20 f_196_5 rfl hyp (fun _ hyp => ?_) (fun _ hyp => ?_)
  · refine ls_aload_n f_196_8 rfl ?_
    refine ls_getR f_196_9 p_196_25 hl S_92 F_92_3 ?_
    refine ls_bipush 93 f_196_12 (by decide) ?_
    refine ls_iload_n f_196_14 rfl ?_
    refine ls_iadd (93 + x1) f_196_15 rfl ?_
    refine ls_iald f_196_16 hl S_94 hyp (fun hyp => ?_)
    refine ls_goto 21 f_196_17 rfl ?_
    exact ls_ireturn f_196_21 rI_196 hyp
  · refine ls_iconst 0 f_196_20 (by decide) ?_
    exact ls_ireturn f_196_21 rI_196 hyp
theorem e_197 {d : Nat} {h : lm_H} {K : Int32 → lm_H → Prop} (x1 : Int32) (hl : lm_Lay h) (hyp : lm_call (d) 196 [.ref 92, .int (lm_i h 92 19)] h (lm_kI fun r2 h1 => (if r2 = x1 then (K 1 (lm_si h1 92 19 ((lm_i h1 92 19) + 1))) else (K 0 h1)))) : lm_call (d + 1) 197 [.ref 92, .int x1] h (lm_kI K) := by
  refine ls_enter [some (.ref 92), some (.int x1), none] ml_197 (Nat.le_of_ble_eq_true rfl) rfl ?_
  refine ls_aload_n f_197_0 rfl ?_
  refine ls_aload_n f_197_1 rfl ?_
  refine ls_getI f_197_2 p_197_219 hl S_92 ?_
  refine ls_invV (a := 92) f_197_5 q_197_222 [.int (lm_i h 92 19)] [] rfl (Nat.le_of_ble_eq_true rfl) hl S_92 ow_196 ?_
  refine ls_call hyp hl (fun _ h1 hl1 hyp => ?_)
  refine ls_retI hyp (fun r2 hyp => ?_)
  refine ls_iload_n f_197_8 rfl ?_
  refine ls_icmp_ne 16 f_197_9 rfl hyp (fun _ hyp => ?_) (fun _ hyp => ?_)
  · refine ls_iconst 1 f_197_12 (by decide) ?_
    refine ls_goto 17 f_197_13 rfl ?_
    refine ls_istore_n [some (.ref 92), some (.int x1), some (.int 1)] f_197_17 (Nat.le_of_ble_eq_true rfl) rfl ?_
    refine ls_iload_n f_197_18 rfl ?_
    refine ls_if_eq_F 32 f_197_19 rfl (by decide) ?_
    refine ls_aload_n f_197_22 rfl ?_
    refine ls_dup f_197_23 rfl ?_
    refine ls_getI f_197_24 p_197_219 hl1 S_92 ?_
    refine ls_iconst 1 f_197_27 (by decide) ?_
    refine ls_iadd ((lm_i h1 92 19) + 1) f_197_28 rfl ?_
    refine ls_putI f_197_29 p_197_219 hl1 S_92 rfl ?_
    refine ls_iload_n f_197_32 rfl ?_
    exact ls_zreturn f_197_33 rZ_197 (by decide) hyp
  · refine ls_iconst 0 f_197_16 (by decide) ?_
    refine ls_istore_n [some (.ref 92), some (.int x1), some (.int 0)] f_197_17 (Nat.le_of_ble_eq_true rfl) rfl ?_
    refine ls_iload_n f_197_18 rfl ?_
    refine ls_if_eq_T 32 f_197_19 rfl (by decide) ?_
    refine ls_iload_n f_197_32 rfl ?_
    exact ls_zreturn f_197_33 rZ_197 (by decide) hyp
theorem e_198 {d : Nat} {h : lm_H} {K : Int64 → lm_H → Prop} (x1 : Int64) (x3 : Int32) (hl : lm_Lay h) (hyp : (if x3 = 0 then (if (lm_i h 92 21) = 0 then (K x1 h) else (K 0 h)) else (if 0 < (lg_cmp x1 1000000000) then (K 0 (lm_si h 92 21 1)) else (if (lg_cmp x1 (-1000000000)) < 0 then (K 0 (lm_si h 92 21 1)) else (if (lm_i h 92 21) = 0 then (K x1 h) else (K 0 h)))))) : lm_call (d + 1) 198 [.ref 92, .long x1, .int x3] h (lm_kL K) := by
  refine ls_enter [some (.ref 92), some (.long x1), none, some (.int x3)] ml_198 (Nat.le_of_ble_eq_true rfl) rfl ?_
  refine ls_iload_n f_198_0 rfl ?_
  refine ls_if_eq 25 f_198_1 rfl hyp (fun _ hyp => ?_) (fun _ hyp => ?_)
  · refine ls_aload_n f_198_25 rfl ?_
    refine ls_getI f_198_26 p_198_229 hl S_92 ?_
    refine ls_if_eq 36 f_198_29 rfl hyp (fun _ hyp => ?_) (fun _ hyp => ?_)
    · refine ls_lload_n f_198_36 rfl ?_
      exact ls_lreturn f_198_37 rZ_198 rfl hyp
    · refine ls_lconst 0 f_198_32 (by decide) ?_
      refine ls_goto 37 f_198_33 rfl ?_
      exact ls_lreturn f_198_37 rZ_198 rfl hyp
  · refine ls_lload_n f_198_4 rfl ?_
    refine ls_ldc2 f_198_5 k_198_225 ?_
    refine ls_lcmp f_198_8 ?_
    refine ls_if_gt 20 f_198_9 rfl hyp (fun _ hyp => ?_) (fun _ hyp => ?_)
    · refine ls_aload_n f_198_20 rfl ?_
      refine ls_iconst 1 f_198_21 (by decide) ?_
      refine ls_putI f_198_22 p_198_229 hl S_92 (by decide) ?_
      refine ls_aload_n f_198_25 rfl ?_
      refine ls_getI f_198_26 p_198_229 (lm_Lay_si hl _ _ _) S_92 ?_
      refine ls_top 1 rfl ?_
      refine ls_if_eq_F 36 f_198_29 rfl (by decide) ?_
      refine ls_lconst 0 f_198_32 (by decide) ?_
      refine ls_goto 37 f_198_33 rfl ?_
      exact ls_lreturn f_198_37 rZ_198 rfl hyp
    · refine ls_lload_n f_198_12 rfl ?_
      refine ls_ldc2 f_198_13 k_198_227 ?_
      refine ls_lcmp f_198_16 ?_
      refine ls_if_ge 25 f_198_17 rfl hyp (fun _ hyp => ?_) (fun _ hyp => ?_)
      · refine ls_aload_n f_198_20 rfl ?_
        refine ls_iconst 1 f_198_21 (by decide) ?_
        refine ls_putI f_198_22 p_198_229 hl S_92 (by decide) ?_
        refine ls_aload_n f_198_25 rfl ?_
        refine ls_getI f_198_26 p_198_229 (lm_Lay_si hl _ _ _) S_92 ?_
        refine ls_top 1 rfl ?_
        refine ls_if_eq_F 36 f_198_29 rfl (by decide) ?_
        refine ls_lconst 0 f_198_32 (by decide) ?_
        refine ls_goto 37 f_198_33 rfl ?_
        exact ls_lreturn f_198_37 rZ_198 rfl hyp
      · refine ls_aload_n f_198_25 rfl ?_
        refine ls_getI f_198_26 p_198_229 hl S_92 ?_
        refine ls_if_eq 36 f_198_29 rfl hyp (fun _ hyp => ?_) (fun _ hyp => ?_)
        · refine ls_lload_n f_198_36 rfl ?_
          exact ls_lreturn f_198_37 rZ_198 rfl hyp
        · refine ls_lconst 0 f_198_32 (by decide) ?_
          refine ls_goto 37 f_198_33 rfl ?_
          exact ls_lreturn f_198_37 rZ_198 rfl hyp
theorem e_199 {d : Nat} {h : lm_H} {K : Int64 → lm_H → Prop} (x1 : Int32) (hl : lm_Lay h) (hyp : lm_call (d + 1) 200 [.ref 92, .int x1] h (lm_kL fun r2 h1 => lm_W (d + 1) 199 6 [some (.ref 92), some (.int x1), some (.long r2), none, none, none, none] [] h1 (lm_kL K))) : lm_call (d + 2) 199 [.ref 92, .int x1] h (lm_kL K) := by
  refine ls_enter [some (.ref 92), some (.int x1), none, none, none, none, none] ml_199 (Nat.le_of_ble_eq_true rfl) rfl ?_
  refine ls_aload_n f_199_0 rfl ?_
  refine ls_iload_n f_199_1 rfl ?_
  refine ls_invV (a := 92) f_199_2 q_199_233 [.int x1] [] rfl (Nat.le_of_ble_eq_true rfl) hl S_92 ow_200 ?_
  refine ls_call hyp hl (fun _ h1 hl1 hyp => ?_)
  refine ls_retL hyp (fun r2 hyp => ?_)
  refine ls_lstore_n [some (.ref 92), some (.int x1), some (.long r2), none, none, none, none] f_199_5 (Nat.le_of_ble_eq_true rfl) rfl ?_
  exact hyp
theorem b_199_6 {d : Nat} {h : lm_H} {K : Int64 → lm_H → Prop} (x1 : Int32) (x2 : Int64) (hl : lm_Lay h) (hyp : lm_call (d + 1) 196 [.ref 92, .int (lm_i h 92 19)] h (lm_kI fun r2 h1 => (if r2 = 143 then (lm_call (d + 1) 196 [.ref 92, .int (lm_i h1 92 19)] h1 (lm_kI fun r4 h3 => (if r4 = 143 then (lm_call (d + 1) 200 [.ref 92, .int x1] (lm_si h3 92 19 ((lm_i h3 92 19) + 1)) (lm_kL fun r6 h5 => lm_call (d + 1) 198 [.ref 92, .long (x2 + r6), .int x1] h5 (lm_kL fun r8 h7 => lm_W (d + 1) 199 6 [some (.ref 92), some (.int x1), some (.long r8), none, none, none, none] [] h7 (lm_kL K)))) else (lm_call (d + 1) 200 [.ref 92, .int x1] (lm_si h3 92 19 ((lm_i h3 92 19) + 1)) (lm_kL fun r10 h9 => lm_call (d + 1) 198 [.ref 92, .long (x2 - r10), .int x1] h9 (lm_kL fun r12 h11 => lm_W (d + 1) 199 6 [some (.ref 92), some (.int x1), some (.long r12), none, none, none, none] [] h11 (lm_kL K))))))) else (lm_call (d + 1) 196 [.ref 92, .int (lm_i h1 92 19)] h1 (lm_kI fun r14 h13 => (if r14 = 145 then (lm_call (d + 1) 196 [.ref 92, .int (lm_i h13 92 19)] h13 (lm_kI fun r16 h15 => (if r16 = 143 then (lm_call (d + 1) 200 [.ref 92, .int x1] (lm_si h15 92 19 ((lm_i h15 92 19) + 1)) (lm_kL fun r18 h17 => lm_call (d + 1) 198 [.ref 92, .long (x2 + r18), .int x1] h17 (lm_kL fun r20 h19 => lm_W (d + 1) 199 6 [some (.ref 92), some (.int x1), some (.long r20), none, none, none, none] [] h19 (lm_kL K)))) else (lm_call (d + 1) 200 [.ref 92, .int x1] (lm_si h15 92 19 ((lm_i h15 92 19) + 1)) (lm_kL fun r22 h21 => lm_call (d + 1) 198 [.ref 92, .long (x2 - r22), .int x1] h21 (lm_kL fun r24 h23 => lm_W (d + 1) 199 6 [some (.ref 92), some (.int x1), some (.long r24), none, none, none, none] [] h23 (lm_kL K))))))) else (K x2 h13))))))) : lm_W (d + 1) 199 6 [some (.ref 92), some (.int x1), some (.long x2), none, none, none, none] [] h (lm_kL K) := by
  refine ls_aload_n f_199_6 rfl ?_
  refine ls_aload_n f_199_7 rfl ?_
  refine ls_getI f_199_8 p_199_219 hl S_92 ?_
  refine ls_invV (a := 92) f_199_11 q_199_222 [.int (lm_i h 92 19)] [] rfl (Nat.le_of_ble_eq_true rfl) hl S_92 ow_196 ?_
  refine ls_call hyp hl (fun _ h1 hl1 hyp => ?_)
  refine ls_retI hyp (fun r2 hyp => ?_)
  refine ls_bipush 43 f_199_14 (by decide) ?_
  refine ls_invS f_199_16 q_199_194 [.int 43] [.int r2] rfl (Nat.le_of_ble_eq_true rfl) ?_
  refine ls_enter [some (.int 43)] ml_184 (Nat.le_of_ble_eq_true rfl) rfl ?_
  refine ls_bipush 100 f_184_0 (by decide) ?_
  refine ls_iload_n f_184_2 rfl ?_
  refine ls_iadd 143 f_184_3 (by decide) ?_
  refine ls_ireturn f_184_4 rI_184 ?_
  show lm_W _ _ _ _ [.int 143, .int r2] _ _
  refine ls_icmp_eq 38 f_199_19 rfl hyp (fun _ hyp => ?_) (fun _ hyp => ?_)
  · refine ls_aload_n f_199_38 rfl ?_
    refine ls_aload_n f_199_39 rfl ?_
    refine ls_getI f_199_40 p_199_219 hl1 S_92 ?_
    refine ls_invV (a := 92) f_199_43 q_199_222 [.int (lm_i h1 92 19)] [] rfl (Nat.le_of_ble_eq_true rfl) hl1 S_92 ow_196 ?_
    refine ls_call hyp hl1 (fun _ h3 hl3 hyp => ?_)
    refine ls_retI hyp (fun r4 hyp => ?_)
    refine ls_bipush 43 f_199_46 (by decide) ?_
    refine ls_invS f_199_48 q_199_194 [.int 43] [.int r4] rfl (Nat.le_of_ble_eq_true rfl) ?_
    refine ls_enter [some (.int 43)] ml_184 (Nat.le_of_ble_eq_true rfl) rfl ?_
    refine ls_bipush 100 f_184_0 (by decide) ?_
    refine ls_iload_n f_184_2 rfl ?_
    refine ls_iadd 143 f_184_3 (by decide) ?_
    refine ls_ireturn f_184_4 rI_184 ?_
    show lm_W _ _ _ _ [.int 143, .int r4] _ _
    refine ls_icmp_ne 58 f_199_51 rfl hyp (fun _ hyp => ?_) (fun _ hyp => ?_)
    · refine ls_iconst 1 f_199_54 (by decide) ?_
      refine ls_goto 59 f_199_55 rfl ?_
      refine ls_istore [some (.ref 92), some (.int x1), some (.long x2), none, some (.int 1), none, none] f_199_59 (Nat.le_of_ble_eq_true rfl) rfl ?_
      refine ls_aload_n f_199_61 rfl ?_
      refine ls_dup f_199_62 rfl ?_
      refine ls_getI f_199_63 p_199_219 hl3 S_92 ?_
      refine ls_iconst 1 f_199_66 (by decide) ?_
      refine ls_iadd ((lm_i h3 92 19) + 1) f_199_67 rfl ?_
      refine ls_putI f_199_68 p_199_219 hl3 S_92 rfl ?_
      refine ls_aload_n f_199_71 rfl ?_
      refine ls_iload_n f_199_72 rfl ?_
      refine ls_invV (a := 92) f_199_73 q_199_233 [.int x1] [] rfl (Nat.le_of_ble_eq_true rfl) (lm_Lay_si hl3 _ _ _) S_92 ow_200 ?_
      refine ls_call hyp (lm_Lay_si hl3 _ _ _) (fun _ h5 hl5 hyp => ?_)
      refine ls_retL hyp (fun r6 hyp => ?_)
      refine ls_lstore [some (.ref 92), some (.int x1), some (.long x2), none, some (.int 1), some (.long r6), none] f_199_76 (Nat.le_of_ble_eq_true rfl) rfl ?_
      refine ls_aload_n f_199_78 rfl ?_
      refine ls_iload f_199_79 rfl ?_
      refine ls_if_eq_F 91 f_199_81 rfl (by decide) ?_
      refine ls_lload_n f_199_84 rfl ?_
      refine ls_lload f_199_85 rfl ?_
      refine ls_ladd (x2 + r6) f_199_87 rfl ?_
      refine ls_goto 95 f_199_88 rfl ?_
      refine ls_iload_n f_199_95 rfl ?_
      refine ls_invV (a := 92) f_199_96 q_199_237 [.long (x2 + r6), .int x1] [] rfl (Nat.le_of_ble_eq_true rfl) hl5 S_92 ow_198 ?_
      refine ls_call hyp hl5 (fun _ h7 hl7 hyp => ?_)
      refine ls_retL hyp (fun r8 hyp => ?_)
      refine ls_lstore_n [some (.ref 92), some (.int x1), some (.long r8), none, some (.int 1), some (.long r6), none] f_199_99 (Nat.le_of_ble_eq_true rfl) rfl ?_
      refine ls_goto 6 f_199_100 rfl ?_
      exact ls_mask [true, true, true, false, false, false, false] [some (.ref 92), some (.int x1), some (.long r8), none, none, none, none] rfl hyp
    · refine ls_iconst 0 f_199_58 (by decide) ?_
      refine ls_istore [some (.ref 92), some (.int x1), some (.long x2), none, some (.int 0), none, none] f_199_59 (Nat.le_of_ble_eq_true rfl) rfl ?_
      refine ls_aload_n f_199_61 rfl ?_
      refine ls_dup f_199_62 rfl ?_
      refine ls_getI f_199_63 p_199_219 hl3 S_92 ?_
      refine ls_iconst 1 f_199_66 (by decide) ?_
      refine ls_iadd ((lm_i h3 92 19) + 1) f_199_67 rfl ?_
      refine ls_putI f_199_68 p_199_219 hl3 S_92 rfl ?_
      refine ls_aload_n f_199_71 rfl ?_
      refine ls_iload_n f_199_72 rfl ?_
      refine ls_invV (a := 92) f_199_73 q_199_233 [.int x1] [] rfl (Nat.le_of_ble_eq_true rfl) (lm_Lay_si hl3 _ _ _) S_92 ow_200 ?_
      refine ls_call hyp (lm_Lay_si hl3 _ _ _) (fun _ h9 hl9 hyp => ?_)
      refine ls_retL hyp (fun r10 hyp => ?_)
      refine ls_lstore [some (.ref 92), some (.int x1), some (.long x2), none, some (.int 0), some (.long r10), none] f_199_76 (Nat.le_of_ble_eq_true rfl) rfl ?_
      refine ls_aload_n f_199_78 rfl ?_
      refine ls_iload f_199_79 rfl ?_
      refine ls_if_eq_T 91 f_199_81 rfl (by decide) ?_
      refine ls_lload_n f_199_91 rfl ?_
      refine ls_lload f_199_92 rfl ?_
      refine ls_lsub (x2 - r10) f_199_94 rfl ?_
      refine ls_iload_n f_199_95 rfl ?_
      refine ls_invV (a := 92) f_199_96 q_199_237 [.long (x2 - r10), .int x1] [] rfl (Nat.le_of_ble_eq_true rfl) hl9 S_92 ow_198 ?_
      refine ls_call hyp hl9 (fun _ h11 hl11 hyp => ?_)
      refine ls_retL hyp (fun r12 hyp => ?_)
      refine ls_lstore_n [some (.ref 92), some (.int x1), some (.long r12), none, some (.int 0), some (.long r10), none] f_199_99 (Nat.le_of_ble_eq_true rfl) rfl ?_
      refine ls_goto 6 f_199_100 rfl ?_
      exact ls_mask [true, true, true, false, false, false, false] [some (.ref 92), some (.int x1), some (.long r12), none, none, none, none] rfl hyp
  · refine ls_aload_n f_199_22 rfl ?_
    refine ls_aload_n f_199_23 rfl ?_
    refine ls_getI f_199_24 p_199_219 hl1 S_92 ?_
    refine ls_invV (a := 92) f_199_27 q_199_222 [.int (lm_i h1 92 19)] [] rfl (Nat.le_of_ble_eq_true rfl) hl1 S_92 ow_196 ?_
    refine ls_call hyp hl1 (fun _ h13 hl13 hyp => ?_)
    refine ls_retI hyp (fun r14 hyp => ?_)
    refine ls_bipush 45 f_199_30 (by decide) ?_
    refine ls_invS f_199_32 q_199_194 [.int 45] [.int r14] rfl (Nat.le_of_ble_eq_true rfl) ?_
    refine ls_enter [some (.int 45)] ml_184 (Nat.le_of_ble_eq_true rfl) rfl ?_
    refine ls_bipush 100 f_184_0 (by decide) ?_
    refine ls_iload_n f_184_2 rfl ?_
    refine ls_iadd 145 f_184_3 (by decide) ?_
    refine ls_ireturn f_184_4 rI_184 ?_
    show lm_W _ _ _ _ [.int 145, .int r14] _ _
    refine ls_icmp_ne 103 f_199_35 rfl hyp (fun _ hyp => ?_) (fun _ hyp => ?_)
    · refine ls_aload_n f_199_38 rfl ?_
      refine ls_aload_n f_199_39 rfl ?_
      refine ls_getI f_199_40 p_199_219 hl13 S_92 ?_
      refine ls_invV (a := 92) f_199_43 q_199_222 [.int (lm_i h13 92 19)] [] rfl (Nat.le_of_ble_eq_true rfl) hl13 S_92 ow_196 ?_
      refine ls_call hyp hl13 (fun _ h15 hl15 hyp => ?_)
      refine ls_retI hyp (fun r16 hyp => ?_)
      refine ls_bipush 43 f_199_46 (by decide) ?_
      refine ls_invS f_199_48 q_199_194 [.int 43] [.int r16] rfl (Nat.le_of_ble_eq_true rfl) ?_
      refine ls_enter [some (.int 43)] ml_184 (Nat.le_of_ble_eq_true rfl) rfl ?_
      refine ls_bipush 100 f_184_0 (by decide) ?_
      refine ls_iload_n f_184_2 rfl ?_
      refine ls_iadd 143 f_184_3 (by decide) ?_
      refine ls_ireturn f_184_4 rI_184 ?_
      show lm_W _ _ _ _ [.int 143, .int r16] _ _
      refine ls_icmp_ne 58 f_199_51 rfl hyp (fun _ hyp => ?_) (fun _ hyp => ?_)
      · refine ls_iconst 1 f_199_54 (by decide) ?_
        refine ls_goto 59 f_199_55 rfl ?_
        refine ls_istore [some (.ref 92), some (.int x1), some (.long x2), none, some (.int 1), none, none] f_199_59 (Nat.le_of_ble_eq_true rfl) rfl ?_
        refine ls_aload_n f_199_61 rfl ?_
        refine ls_dup f_199_62 rfl ?_
        refine ls_getI f_199_63 p_199_219 hl15 S_92 ?_
        refine ls_iconst 1 f_199_66 (by decide) ?_
        refine ls_iadd ((lm_i h15 92 19) + 1) f_199_67 rfl ?_
        refine ls_putI f_199_68 p_199_219 hl15 S_92 rfl ?_
        refine ls_aload_n f_199_71 rfl ?_
        refine ls_iload_n f_199_72 rfl ?_
        refine ls_invV (a := 92) f_199_73 q_199_233 [.int x1] [] rfl (Nat.le_of_ble_eq_true rfl) (lm_Lay_si hl15 _ _ _) S_92 ow_200 ?_
        refine ls_call hyp (lm_Lay_si hl15 _ _ _) (fun _ h17 hl17 hyp => ?_)
        refine ls_retL hyp (fun r18 hyp => ?_)
        refine ls_lstore [some (.ref 92), some (.int x1), some (.long x2), none, some (.int 1), some (.long r18), none] f_199_76 (Nat.le_of_ble_eq_true rfl) rfl ?_
        refine ls_aload_n f_199_78 rfl ?_
        refine ls_iload f_199_79 rfl ?_
        refine ls_if_eq_F 91 f_199_81 rfl (by decide) ?_
        refine ls_lload_n f_199_84 rfl ?_
        refine ls_lload f_199_85 rfl ?_
        refine ls_ladd (x2 + r18) f_199_87 rfl ?_
        refine ls_goto 95 f_199_88 rfl ?_
        refine ls_iload_n f_199_95 rfl ?_
        refine ls_invV (a := 92) f_199_96 q_199_237 [.long (x2 + r18), .int x1] [] rfl (Nat.le_of_ble_eq_true rfl) hl17 S_92 ow_198 ?_
        refine ls_call hyp hl17 (fun _ h19 hl19 hyp => ?_)
        refine ls_retL hyp (fun r20 hyp => ?_)
        refine ls_lstore_n [some (.ref 92), some (.int x1), some (.long r20), none, some (.int 1), some (.long r18), none] f_199_99 (Nat.le_of_ble_eq_true rfl) rfl ?_
        refine ls_goto 6 f_199_100 rfl ?_
        exact ls_mask [true, true, true, false, false, false, false] [some (.ref 92), some (.int x1), some (.long r20), none, none, none, none] rfl hyp
      · refine ls_iconst 0 f_199_58 (by decide) ?_
        refine ls_istore [some (.ref 92), some (.int x1), some (.long x2), none, some (.int 0), none, none] f_199_59 (Nat.le_of_ble_eq_true rfl) rfl ?_
        refine ls_aload_n f_199_61 rfl ?_
        refine ls_dup f_199_62 rfl ?_
        refine ls_getI f_199_63 p_199_219 hl15 S_92 ?_
        refine ls_iconst 1 f_199_66 (by decide) ?_
        refine ls_iadd ((lm_i h15 92 19) + 1) f_199_67 rfl ?_
        refine ls_putI f_199_68 p_199_219 hl15 S_92 rfl ?_
        refine ls_aload_n f_199_71 rfl ?_
        refine ls_iload_n f_199_72 rfl ?_
        refine ls_invV (a := 92) f_199_73 q_199_233 [.int x1] [] rfl (Nat.le_of_ble_eq_true rfl) (lm_Lay_si hl15 _ _ _) S_92 ow_200 ?_
        refine ls_call hyp (lm_Lay_si hl15 _ _ _) (fun _ h21 hl21 hyp => ?_)
        refine ls_retL hyp (fun r22 hyp => ?_)
        refine ls_lstore [some (.ref 92), some (.int x1), some (.long x2), none, some (.int 0), some (.long r22), none] f_199_76 (Nat.le_of_ble_eq_true rfl) rfl ?_
        refine ls_aload_n f_199_78 rfl ?_
        refine ls_iload f_199_79 rfl ?_
        refine ls_if_eq_T 91 f_199_81 rfl (by decide) ?_
        refine ls_lload_n f_199_91 rfl ?_
        refine ls_lload f_199_92 rfl ?_
        refine ls_lsub (x2 - r22) f_199_94 rfl ?_
        refine ls_iload_n f_199_95 rfl ?_
        refine ls_invV (a := 92) f_199_96 q_199_237 [.long (x2 - r22), .int x1] [] rfl (Nat.le_of_ble_eq_true rfl) hl21 S_92 ow_198 ?_
        refine ls_call hyp hl21 (fun _ h23 hl23 hyp => ?_)
        refine ls_retL hyp (fun r24 hyp => ?_)
        refine ls_lstore_n [some (.ref 92), some (.int x1), some (.long r24), none, some (.int 0), some (.long r22), none] f_199_99 (Nat.le_of_ble_eq_true rfl) rfl ?_
        refine ls_goto 6 f_199_100 rfl ?_
        exact ls_mask [true, true, true, false, false, false, false] [some (.ref 92), some (.int x1), some (.long r24), none, none, none, none] rfl hyp
    · refine ls_lload_n f_199_103 rfl ?_
      exact ls_lreturn f_199_104 rZ_199 rfl hyp
theorem e_200 {d : Nat} {h : lm_H} {K : Int64 → lm_H → Prop} (x1 : Int32) (hl : lm_Lay h) (hyp : lm_call (d + 1) 201 [.ref 92, .int x1] h (lm_kL fun r2 h1 => lm_W (d + 1) 200 6 [some (.ref 92), some (.int x1), some (.long r2), none, none, none, none] [] h1 (lm_kL K))) : lm_call (d + 2) 200 [.ref 92, .int x1] h (lm_kL K) := by
  refine ls_enter [some (.ref 92), some (.int x1), none, none, none, none, none] ml_200 (Nat.le_of_ble_eq_true rfl) rfl ?_
  refine ls_aload_n f_200_0 rfl ?_
  refine ls_iload_n f_200_1 rfl ?_
  refine ls_invV (a := 92) f_200_2 q_200_241 [.int x1] [] rfl (Nat.le_of_ble_eq_true rfl) hl S_92 ow_201 ?_
  refine ls_call hyp hl (fun _ h1 hl1 hyp => ?_)
  refine ls_retL hyp (fun r2 hyp => ?_)
  refine ls_lstore_n [some (.ref 92), some (.int x1), some (.long r2), none, none, none, none] f_200_5 (Nat.le_of_ble_eq_true rfl) rfl ?_
  exact hyp
theorem b_200_6 {d : Nat} {h : lm_H} {K : Int64 → lm_H → Prop} (x1 : Int32) (x2 : Int64) (hl : lm_Lay h) (hyp : lm_call (d + 1) 196 [.ref 92, .int (lm_i h 92 19)] h (lm_kI fun r2 h1 => (if r2 = 142 then (lm_call (d + 1) 196 [.ref 92, .int (lm_i h1 92 19)] h1 (lm_kI fun r4 h3 => (if r4 = 142 then (lm_call (d + 1) 201 [.ref 92, .int x1] (lm_si h3 92 19 ((lm_i h3 92 19) + 1)) (lm_kL fun r6 h5 => lm_call (d + 1) 198 [.ref 92, .long (x2 * r6), .int x1] h5 (lm_kL fun r8 h7 => lm_W (d + 1) 200 6 [some (.ref 92), some (.int x1), some (.long r8), none, none, none, none] [] h7 (lm_kL K)))) else (lm_call (d + 1) 201 [.ref 92, .int x1] (lm_si h3 92 19 ((lm_i h3 92 19) + 1)) (lm_kL fun r10 h9 => (if (lg_cmp r10 0) = 0 then (if (lm_i h9 92 21) = 0 then (if x1 = 0 then (lm_call (d + 1) 198 [.ref 92, .long (x2 / 1), .int x1] (lm_si h9 92 21 0) (lm_kL fun r12 h11 => lm_W (d + 1) 200 6 [some (.ref 92), some (.int x1), some (.long r12), none, none, none, none] [] h11 (lm_kL K))) else (lm_call (d + 1) 198 [.ref 92, .long (x2 / 1), .int x1] (lm_si h9 92 21 1) (lm_kL fun r14 h13 => lm_W (d + 1) 200 6 [some (.ref 92), some (.int x1), some (.long r14), none, none, none, none] [] h13 (lm_kL K)))) else (lm_call (d + 1) 198 [.ref 92, .long (x2 / 1), .int x1] (lm_si h9 92 21 1) (lm_kL fun r16 h15 => lm_W (d + 1) 200 6 [some (.ref 92), some (.int x1), some (.long r16), none, none, none, none] [] h15 (lm_kL K)))) else ((¬ r10 = 0) ∧ (lm_call (d + 1) 198 [.ref 92, .long (x2 / r10), .int x1] h9 (lm_kL fun r18 h17 => lm_W (d + 1) 200 6 [some (.ref 92), some (.int x1), some (.long r18), none, none, none, none] [] h17 (lm_kL K)))))))))) else (lm_call (d + 1) 196 [.ref 92, .int (lm_i h1 92 19)] h1 (lm_kI fun r20 h19 => (if r20 = 147 then (lm_call (d + 1) 196 [.ref 92, .int (lm_i h19 92 19)] h19 (lm_kI fun r22 h21 => (if r22 = 142 then (lm_call (d + 1) 201 [.ref 92, .int x1] (lm_si h21 92 19 ((lm_i h21 92 19) + 1)) (lm_kL fun r24 h23 => lm_call (d + 1) 198 [.ref 92, .long (x2 * r24), .int x1] h23 (lm_kL fun r26 h25 => lm_W (d + 1) 200 6 [some (.ref 92), some (.int x1), some (.long r26), none, none, none, none] [] h25 (lm_kL K)))) else (lm_call (d + 1) 201 [.ref 92, .int x1] (lm_si h21 92 19 ((lm_i h21 92 19) + 1)) (lm_kL fun r28 h27 => (if (lg_cmp r28 0) = 0 then (if (lm_i h27 92 21) = 0 then (if x1 = 0 then (lm_call (d + 1) 198 [.ref 92, .long (x2 / 1), .int x1] (lm_si h27 92 21 0) (lm_kL fun r30 h29 => lm_W (d + 1) 200 6 [some (.ref 92), some (.int x1), some (.long r30), none, none, none, none] [] h29 (lm_kL K))) else (lm_call (d + 1) 198 [.ref 92, .long (x2 / 1), .int x1] (lm_si h27 92 21 1) (lm_kL fun r32 h31 => lm_W (d + 1) 200 6 [some (.ref 92), some (.int x1), some (.long r32), none, none, none, none] [] h31 (lm_kL K)))) else (lm_call (d + 1) 198 [.ref 92, .long (x2 / 1), .int x1] (lm_si h27 92 21 1) (lm_kL fun r34 h33 => lm_W (d + 1) 200 6 [some (.ref 92), some (.int x1), some (.long r34), none, none, none, none] [] h33 (lm_kL K)))) else ((¬ r28 = 0) ∧ (lm_call (d + 1) 198 [.ref 92, .long (x2 / r28), .int x1] h27 (lm_kL fun r36 h35 => lm_W (d + 1) 200 6 [some (.ref 92), some (.int x1), some (.long r36), none, none, none, none] [] h35 (lm_kL K)))))))))) else (K x2 h19))))))) : lm_W (d + 1) 200 6 [some (.ref 92), some (.int x1), some (.long x2), none, none, none, none] [] h (lm_kL K) := by
  refine ls_aload_n f_200_6 rfl ?_
  refine ls_aload_n f_200_7 rfl ?_
  refine ls_getI f_200_8 p_200_219 hl S_92 ?_
  refine ls_invV (a := 92) f_200_11 q_200_222 [.int (lm_i h 92 19)] [] rfl (Nat.le_of_ble_eq_true rfl) hl S_92 ow_196 ?_
  refine ls_call hyp hl (fun _ h1 hl1 hyp => ?_)
  refine ls_retI hyp (fun r2 hyp => ?_)
  refine ls_bipush 42 f_200_14 (by decide) ?_
  refine ls_invS f_200_16 q_200_194 [.int 42] [.int r2] rfl (Nat.le_of_ble_eq_true rfl) ?_
  refine ls_enter [some (.int 42)] ml_184 (Nat.le_of_ble_eq_true rfl) rfl ?_
  refine ls_bipush 100 f_184_0 (by decide) ?_
  refine ls_iload_n f_184_2 rfl ?_
  refine ls_iadd 142 f_184_3 (by decide) ?_
  refine ls_ireturn f_184_4 rI_184 ?_
  show lm_W _ _ _ _ [.int 142, .int r2] _ _
  refine ls_icmp_eq 38 f_200_19 rfl hyp (fun _ hyp => ?_) (fun _ hyp => ?_)
  · refine ls_aload_n f_200_38 rfl ?_
    refine ls_aload_n f_200_39 rfl ?_
    refine ls_getI f_200_40 p_200_219 hl1 S_92 ?_
    refine ls_invV (a := 92) f_200_43 q_200_222 [.int (lm_i h1 92 19)] [] rfl (Nat.le_of_ble_eq_true rfl) hl1 S_92 ow_196 ?_
    refine ls_call hyp hl1 (fun _ h3 hl3 hyp => ?_)
    refine ls_retI hyp (fun r4 hyp => ?_)
    refine ls_bipush 42 f_200_46 (by decide) ?_
    refine ls_invS f_200_48 q_200_194 [.int 42] [.int r4] rfl (Nat.le_of_ble_eq_true rfl) ?_
    refine ls_enter [some (.int 42)] ml_184 (Nat.le_of_ble_eq_true rfl) rfl ?_
    refine ls_bipush 100 f_184_0 (by decide) ?_
    refine ls_iload_n f_184_2 rfl ?_
    refine ls_iadd 142 f_184_3 (by decide) ?_
    refine ls_ireturn f_184_4 rI_184 ?_
    show lm_W _ _ _ _ [.int 142, .int r4] _ _
    refine ls_icmp_ne 58 f_200_51 rfl hyp (fun _ hyp => ?_) (fun _ hyp => ?_)
    · refine ls_iconst 1 f_200_54 (by decide) ?_
      refine ls_goto 59 f_200_55 rfl ?_
      refine ls_istore [some (.ref 92), some (.int x1), some (.long x2), none, some (.int 1), none, none] f_200_59 (Nat.le_of_ble_eq_true rfl) rfl ?_
      refine ls_aload_n f_200_61 rfl ?_
      refine ls_dup f_200_62 rfl ?_
      refine ls_getI f_200_63 p_200_219 hl3 S_92 ?_
      refine ls_iconst 1 f_200_66 (by decide) ?_
      refine ls_iadd ((lm_i h3 92 19) + 1) f_200_67 rfl ?_
      refine ls_putI f_200_68 p_200_219 hl3 S_92 rfl ?_
      refine ls_aload_n f_200_71 rfl ?_
      refine ls_iload_n f_200_72 rfl ?_
      refine ls_invV (a := 92) f_200_73 q_200_241 [.int x1] [] rfl (Nat.le_of_ble_eq_true rfl) (lm_Lay_si hl3 _ _ _) S_92 ow_201 ?_
      refine ls_call hyp (lm_Lay_si hl3 _ _ _) (fun _ h5 hl5 hyp => ?_)
      refine ls_retL hyp (fun r6 hyp => ?_)
      refine ls_lstore [some (.ref 92), some (.int x1), some (.long x2), none, some (.int 1), some (.long r6), none] f_200_76 (Nat.le_of_ble_eq_true rfl) rfl ?_
      refine ls_iload f_200_78 rfl ?_
      refine ls_if_ne_F 113 f_200_80 rfl (by decide) ?_
      refine ls_aload_n f_200_113 rfl ?_
      refine ls_iload f_200_114 rfl ?_
      refine ls_if_eq_F 126 f_200_116 rfl (by decide) ?_
      refine ls_lload_n f_200_119 rfl ?_
      refine ls_lload f_200_120 rfl ?_
      refine ls_lmul (x2 * r6) f_200_122 rfl ?_
      refine ls_goto 130 f_200_123 rfl ?_
      refine ls_iload_n f_200_130 rfl ?_
      refine ls_invV (a := 92) f_200_131 q_200_237 [.long (x2 * r6), .int x1] [] rfl (Nat.le_of_ble_eq_true rfl) hl5 S_92 ow_198 ?_
      refine ls_call hyp hl5 (fun _ h7 hl7 hyp => ?_)
      refine ls_retL hyp (fun r8 hyp => ?_)
      refine ls_lstore_n [some (.ref 92), some (.int x1), some (.long r8), none, some (.int 1), some (.long r6), none] f_200_134 (Nat.le_of_ble_eq_true rfl) rfl ?_
      refine ls_goto 6 f_200_135 rfl ?_
      exact ls_mask [true, true, true, false, false, false, false] [some (.ref 92), some (.int x1), some (.long r8), none, none, none, none] rfl hyp
    · refine ls_iconst 0 f_200_58 (by decide) ?_
      refine ls_istore [some (.ref 92), some (.int x1), some (.long x2), none, some (.int 0), none, none] f_200_59 (Nat.le_of_ble_eq_true rfl) rfl ?_
      refine ls_aload_n f_200_61 rfl ?_
      refine ls_dup f_200_62 rfl ?_
      refine ls_getI f_200_63 p_200_219 hl3 S_92 ?_
      refine ls_iconst 1 f_200_66 (by decide) ?_
      refine ls_iadd ((lm_i h3 92 19) + 1) f_200_67 rfl ?_
      refine ls_putI f_200_68 p_200_219 hl3 S_92 rfl ?_
      refine ls_aload_n f_200_71 rfl ?_
      refine ls_iload_n f_200_72 rfl ?_
      refine ls_invV (a := 92) f_200_73 q_200_241 [.int x1] [] rfl (Nat.le_of_ble_eq_true rfl) (lm_Lay_si hl3 _ _ _) S_92 ow_201 ?_
      refine ls_call hyp (lm_Lay_si hl3 _ _ _) (fun _ h9 hl9 hyp => ?_)
      refine ls_retL hyp (fun r10 hyp => ?_)
      refine ls_lstore [some (.ref 92), some (.int x1), some (.long x2), none, some (.int 0), some (.long r10), none] f_200_76 (Nat.le_of_ble_eq_true rfl) rfl ?_
      refine ls_iload f_200_78 rfl ?_
      refine ls_if_ne_T 113 f_200_80 rfl (by decide) ?_
      refine ls_lload f_200_83 rfl ?_
      refine ls_lconst 0 f_200_85 (by decide) ?_
      refine ls_lcmp f_200_86 ?_
      refine ls_if_ne 113 f_200_87 rfl hyp (fun _ hyp => ?_) (fun _ hyp => ?_)
      · refine ls_aload_n f_200_90 rfl ?_
        refine ls_aload_n f_200_91 rfl ?_
        refine ls_getI f_200_92 p_200_229 hl9 S_92 ?_
        refine ls_if_ne 102 f_200_95 rfl hyp (fun _ hyp => ?_) (fun _ hyp => ?_)
        · refine ls_iload_n f_200_98 rfl ?_
          refine ls_if_eq 106 f_200_99 rfl hyp (fun _ hyp => ?_) (fun _ hyp => ?_)
          · refine ls_iconst 0 f_200_106 (by decide) ?_
            refine ls_putI f_200_107 p_200_229 hl9 S_92 (by decide) ?_
            refine ls_lconst 1 f_200_110 (by decide) ?_
            refine ls_lstore [some (.ref 92), some (.int x1), some (.long x2), none, some (.int 0), some (.long 1), none] f_200_111 (Nat.le_of_ble_eq_true rfl) rfl ?_
            refine ls_aload_n f_200_113 rfl ?_
            refine ls_iload f_200_114 rfl ?_
            refine ls_if_eq_T 126 f_200_116 rfl (by decide) ?_
            refine ls_lload_n f_200_126 rfl ?_
            refine ls_lload f_200_127 rfl ?_
            refine ls_ldiv (x2 / 1) f_200_129 (by decide) rfl ?_
            refine ls_iload_n f_200_130 rfl ?_
            refine ls_invV (a := 92) f_200_131 q_200_237 [.long (x2 / 1), .int x1] [] rfl (Nat.le_of_ble_eq_true rfl) (lm_Lay_si hl9 _ _ _) S_92 ow_198 ?_
            refine ls_call hyp (lm_Lay_si hl9 _ _ _) (fun _ h11 hl11 hyp => ?_)
            refine ls_retL hyp (fun r12 hyp => ?_)
            refine ls_lstore_n [some (.ref 92), some (.int x1), some (.long r12), none, some (.int 0), some (.long 1), none] f_200_134 (Nat.le_of_ble_eq_true rfl) rfl ?_
            refine ls_goto 6 f_200_135 rfl ?_
            exact ls_mask [true, true, true, false, false, false, false] [some (.ref 92), some (.int x1), some (.long r12), none, none, none, none] rfl hyp
          · refine ls_iconst 1 f_200_102 (by decide) ?_
            refine ls_goto 107 f_200_103 rfl ?_
            refine ls_putI f_200_107 p_200_229 hl9 S_92 (by decide) ?_
            refine ls_lconst 1 f_200_110 (by decide) ?_
            refine ls_lstore [some (.ref 92), some (.int x1), some (.long x2), none, some (.int 0), some (.long 1), none] f_200_111 (Nat.le_of_ble_eq_true rfl) rfl ?_
            refine ls_aload_n f_200_113 rfl ?_
            refine ls_iload f_200_114 rfl ?_
            refine ls_if_eq_T 126 f_200_116 rfl (by decide) ?_
            refine ls_lload_n f_200_126 rfl ?_
            refine ls_lload f_200_127 rfl ?_
            refine ls_ldiv (x2 / 1) f_200_129 (by decide) rfl ?_
            refine ls_iload_n f_200_130 rfl ?_
            refine ls_invV (a := 92) f_200_131 q_200_237 [.long (x2 / 1), .int x1] [] rfl (Nat.le_of_ble_eq_true rfl) (lm_Lay_si hl9 _ _ _) S_92 ow_198 ?_
            refine ls_call hyp (lm_Lay_si hl9 _ _ _) (fun _ h13 hl13 hyp => ?_)
            refine ls_retL hyp (fun r14 hyp => ?_)
            refine ls_lstore_n [some (.ref 92), some (.int x1), some (.long r14), none, some (.int 0), some (.long 1), none] f_200_134 (Nat.le_of_ble_eq_true rfl) rfl ?_
            refine ls_goto 6 f_200_135 rfl ?_
            exact ls_mask [true, true, true, false, false, false, false] [some (.ref 92), some (.int x1), some (.long r14), none, none, none, none] rfl hyp
        · refine ls_iconst 1 f_200_102 (by decide) ?_
          refine ls_goto 107 f_200_103 rfl ?_
          refine ls_putI f_200_107 p_200_229 hl9 S_92 (by decide) ?_
          refine ls_lconst 1 f_200_110 (by decide) ?_
          refine ls_lstore [some (.ref 92), some (.int x1), some (.long x2), none, some (.int 0), some (.long 1), none] f_200_111 (Nat.le_of_ble_eq_true rfl) rfl ?_
          refine ls_aload_n f_200_113 rfl ?_
          refine ls_iload f_200_114 rfl ?_
          refine ls_if_eq_T 126 f_200_116 rfl (by decide) ?_
          refine ls_lload_n f_200_126 rfl ?_
          refine ls_lload f_200_127 rfl ?_
          refine ls_ldiv (x2 / 1) f_200_129 (by decide) rfl ?_
          refine ls_iload_n f_200_130 rfl ?_
          refine ls_invV (a := 92) f_200_131 q_200_237 [.long (x2 / 1), .int x1] [] rfl (Nat.le_of_ble_eq_true rfl) (lm_Lay_si hl9 _ _ _) S_92 ow_198 ?_
          refine ls_call hyp (lm_Lay_si hl9 _ _ _) (fun _ h15 hl15 hyp => ?_)
          refine ls_retL hyp (fun r16 hyp => ?_)
          refine ls_lstore_n [some (.ref 92), some (.int x1), some (.long r16), none, some (.int 0), some (.long 1), none] f_200_134 (Nat.le_of_ble_eq_true rfl) rfl ?_
          refine ls_goto 6 f_200_135 rfl ?_
          exact ls_mask [true, true, true, false, false, false, false] [some (.ref 92), some (.int x1), some (.long r16), none, none, none, none] rfl hyp
      · refine ls_aload_n f_200_113 rfl ?_
        refine ls_iload f_200_114 rfl ?_
        refine ls_if_eq_T 126 f_200_116 rfl (by decide) ?_
        refine ls_lload_n f_200_126 rfl ?_
        refine ls_lload f_200_127 rfl ?_
        refine ls_ldiv (x2 / r10) f_200_129 hyp.1 rfl ?_
        replace hyp := hyp.2
        refine ls_iload_n f_200_130 rfl ?_
        refine ls_invV (a := 92) f_200_131 q_200_237 [.long (x2 / r10), .int x1] [] rfl (Nat.le_of_ble_eq_true rfl) hl9 S_92 ow_198 ?_
        refine ls_call hyp hl9 (fun _ h17 hl17 hyp => ?_)
        refine ls_retL hyp (fun r18 hyp => ?_)
        refine ls_lstore_n [some (.ref 92), some (.int x1), some (.long r18), none, some (.int 0), some (.long r10), none] f_200_134 (Nat.le_of_ble_eq_true rfl) rfl ?_
        refine ls_goto 6 f_200_135 rfl ?_
        exact ls_mask [true, true, true, false, false, false, false] [some (.ref 92), some (.int x1), some (.long r18), none, none, none, none] rfl hyp
  · refine ls_aload_n f_200_22 rfl ?_
    refine ls_aload_n f_200_23 rfl ?_
    refine ls_getI f_200_24 p_200_219 hl1 S_92 ?_
    refine ls_invV (a := 92) f_200_27 q_200_222 [.int (lm_i h1 92 19)] [] rfl (Nat.le_of_ble_eq_true rfl) hl1 S_92 ow_196 ?_
    refine ls_call hyp hl1 (fun _ h19 hl19 hyp => ?_)
    refine ls_retI hyp (fun r20 hyp => ?_)
    refine ls_bipush 47 f_200_30 (by decide) ?_
    refine ls_invS f_200_32 q_200_194 [.int 47] [.int r20] rfl (Nat.le_of_ble_eq_true rfl) ?_
    refine ls_enter [some (.int 47)] ml_184 (Nat.le_of_ble_eq_true rfl) rfl ?_
    refine ls_bipush 100 f_184_0 (by decide) ?_
    refine ls_iload_n f_184_2 rfl ?_
    refine ls_iadd 147 f_184_3 (by decide) ?_
    refine ls_ireturn f_184_4 rI_184 ?_
    show lm_W _ _ _ _ [.int 147, .int r20] _ _
    refine ls_icmp_ne 138 f_200_35 rfl hyp (fun _ hyp => ?_) (fun _ hyp => ?_)
    · refine ls_aload_n f_200_38 rfl ?_
      refine ls_aload_n f_200_39 rfl ?_
      refine ls_getI f_200_40 p_200_219 hl19 S_92 ?_
      refine ls_invV (a := 92) f_200_43 q_200_222 [.int (lm_i h19 92 19)] [] rfl (Nat.le_of_ble_eq_true rfl) hl19 S_92 ow_196 ?_
      refine ls_call hyp hl19 (fun _ h21 hl21 hyp => ?_)
      refine ls_retI hyp (fun r22 hyp => ?_)
      refine ls_bipush 42 f_200_46 (by decide) ?_
      refine ls_invS f_200_48 q_200_194 [.int 42] [.int r22] rfl (Nat.le_of_ble_eq_true rfl) ?_
      refine ls_enter [some (.int 42)] ml_184 (Nat.le_of_ble_eq_true rfl) rfl ?_
      refine ls_bipush 100 f_184_0 (by decide) ?_
      refine ls_iload_n f_184_2 rfl ?_
      refine ls_iadd 142 f_184_3 (by decide) ?_
      refine ls_ireturn f_184_4 rI_184 ?_
      show lm_W _ _ _ _ [.int 142, .int r22] _ _
      refine ls_icmp_ne 58 f_200_51 rfl hyp (fun _ hyp => ?_) (fun _ hyp => ?_)
      · refine ls_iconst 1 f_200_54 (by decide) ?_
        refine ls_goto 59 f_200_55 rfl ?_
        refine ls_istore [some (.ref 92), some (.int x1), some (.long x2), none, some (.int 1), none, none] f_200_59 (Nat.le_of_ble_eq_true rfl) rfl ?_
        refine ls_aload_n f_200_61 rfl ?_
        refine ls_dup f_200_62 rfl ?_
        refine ls_getI f_200_63 p_200_219 hl21 S_92 ?_
        refine ls_iconst 1 f_200_66 (by decide) ?_
        refine ls_iadd ((lm_i h21 92 19) + 1) f_200_67 rfl ?_
        refine ls_putI f_200_68 p_200_219 hl21 S_92 rfl ?_
        refine ls_aload_n f_200_71 rfl ?_
        refine ls_iload_n f_200_72 rfl ?_
        refine ls_invV (a := 92) f_200_73 q_200_241 [.int x1] [] rfl (Nat.le_of_ble_eq_true rfl) (lm_Lay_si hl21 _ _ _) S_92 ow_201 ?_
        refine ls_call hyp (lm_Lay_si hl21 _ _ _) (fun _ h23 hl23 hyp => ?_)
        refine ls_retL hyp (fun r24 hyp => ?_)
        refine ls_lstore [some (.ref 92), some (.int x1), some (.long x2), none, some (.int 1), some (.long r24), none] f_200_76 (Nat.le_of_ble_eq_true rfl) rfl ?_
        refine ls_iload f_200_78 rfl ?_
        refine ls_if_ne_F 113 f_200_80 rfl (by decide) ?_
        refine ls_aload_n f_200_113 rfl ?_
        refine ls_iload f_200_114 rfl ?_
        refine ls_if_eq_F 126 f_200_116 rfl (by decide) ?_
        refine ls_lload_n f_200_119 rfl ?_
        refine ls_lload f_200_120 rfl ?_
        refine ls_lmul (x2 * r24) f_200_122 rfl ?_
        refine ls_goto 130 f_200_123 rfl ?_
        refine ls_iload_n f_200_130 rfl ?_
        refine ls_invV (a := 92) f_200_131 q_200_237 [.long (x2 * r24), .int x1] [] rfl (Nat.le_of_ble_eq_true rfl) hl23 S_92 ow_198 ?_
        refine ls_call hyp hl23 (fun _ h25 hl25 hyp => ?_)
        refine ls_retL hyp (fun r26 hyp => ?_)
        refine ls_lstore_n [some (.ref 92), some (.int x1), some (.long r26), none, some (.int 1), some (.long r24), none] f_200_134 (Nat.le_of_ble_eq_true rfl) rfl ?_
        refine ls_goto 6 f_200_135 rfl ?_
        exact ls_mask [true, true, true, false, false, false, false] [some (.ref 92), some (.int x1), some (.long r26), none, none, none, none] rfl hyp
      · refine ls_iconst 0 f_200_58 (by decide) ?_
        refine ls_istore [some (.ref 92), some (.int x1), some (.long x2), none, some (.int 0), none, none] f_200_59 (Nat.le_of_ble_eq_true rfl) rfl ?_
        refine ls_aload_n f_200_61 rfl ?_
        refine ls_dup f_200_62 rfl ?_
        refine ls_getI f_200_63 p_200_219 hl21 S_92 ?_
        refine ls_iconst 1 f_200_66 (by decide) ?_
        refine ls_iadd ((lm_i h21 92 19) + 1) f_200_67 rfl ?_
        refine ls_putI f_200_68 p_200_219 hl21 S_92 rfl ?_
        refine ls_aload_n f_200_71 rfl ?_
        refine ls_iload_n f_200_72 rfl ?_
        refine ls_invV (a := 92) f_200_73 q_200_241 [.int x1] [] rfl (Nat.le_of_ble_eq_true rfl) (lm_Lay_si hl21 _ _ _) S_92 ow_201 ?_
        refine ls_call hyp (lm_Lay_si hl21 _ _ _) (fun _ h27 hl27 hyp => ?_)
        refine ls_retL hyp (fun r28 hyp => ?_)
        refine ls_lstore [some (.ref 92), some (.int x1), some (.long x2), none, some (.int 0), some (.long r28), none] f_200_76 (Nat.le_of_ble_eq_true rfl) rfl ?_
        refine ls_iload f_200_78 rfl ?_
        refine ls_if_ne_T 113 f_200_80 rfl (by decide) ?_
        refine ls_lload f_200_83 rfl ?_
        refine ls_lconst 0 f_200_85 (by decide) ?_
        refine ls_lcmp f_200_86 ?_
        refine ls_if_ne 113 f_200_87 rfl hyp (fun _ hyp => ?_) (fun _ hyp => ?_)
        · refine ls_aload_n f_200_90 rfl ?_
          refine ls_aload_n f_200_91 rfl ?_
          refine ls_getI f_200_92 p_200_229 hl27 S_92 ?_
          refine ls_if_ne 102 f_200_95 rfl hyp (fun _ hyp => ?_) (fun _ hyp => ?_)
          · refine ls_iload_n f_200_98 rfl ?_
            refine ls_if_eq 106 f_200_99 rfl hyp (fun _ hyp => ?_) (fun _ hyp => ?_)
            · refine ls_iconst 0 f_200_106 (by decide) ?_
              refine ls_putI f_200_107 p_200_229 hl27 S_92 (by decide) ?_
              refine ls_lconst 1 f_200_110 (by decide) ?_
              refine ls_lstore [some (.ref 92), some (.int x1), some (.long x2), none, some (.int 0), some (.long 1), none] f_200_111 (Nat.le_of_ble_eq_true rfl) rfl ?_
              refine ls_aload_n f_200_113 rfl ?_
              refine ls_iload f_200_114 rfl ?_
              refine ls_if_eq_T 126 f_200_116 rfl (by decide) ?_
              refine ls_lload_n f_200_126 rfl ?_
              refine ls_lload f_200_127 rfl ?_
              refine ls_ldiv (x2 / 1) f_200_129 (by decide) rfl ?_
              refine ls_iload_n f_200_130 rfl ?_
              refine ls_invV (a := 92) f_200_131 q_200_237 [.long (x2 / 1), .int x1] [] rfl (Nat.le_of_ble_eq_true rfl) (lm_Lay_si hl27 _ _ _) S_92 ow_198 ?_
              refine ls_call hyp (lm_Lay_si hl27 _ _ _) (fun _ h29 hl29 hyp => ?_)
              refine ls_retL hyp (fun r30 hyp => ?_)
              refine ls_lstore_n [some (.ref 92), some (.int x1), some (.long r30), none, some (.int 0), some (.long 1), none] f_200_134 (Nat.le_of_ble_eq_true rfl) rfl ?_
              refine ls_goto 6 f_200_135 rfl ?_
              exact ls_mask [true, true, true, false, false, false, false] [some (.ref 92), some (.int x1), some (.long r30), none, none, none, none] rfl hyp
            · refine ls_iconst 1 f_200_102 (by decide) ?_
              refine ls_goto 107 f_200_103 rfl ?_
              refine ls_putI f_200_107 p_200_229 hl27 S_92 (by decide) ?_
              refine ls_lconst 1 f_200_110 (by decide) ?_
              refine ls_lstore [some (.ref 92), some (.int x1), some (.long x2), none, some (.int 0), some (.long 1), none] f_200_111 (Nat.le_of_ble_eq_true rfl) rfl ?_
              refine ls_aload_n f_200_113 rfl ?_
              refine ls_iload f_200_114 rfl ?_
              refine ls_if_eq_T 126 f_200_116 rfl (by decide) ?_
              refine ls_lload_n f_200_126 rfl ?_
              refine ls_lload f_200_127 rfl ?_
              refine ls_ldiv (x2 / 1) f_200_129 (by decide) rfl ?_
              refine ls_iload_n f_200_130 rfl ?_
              refine ls_invV (a := 92) f_200_131 q_200_237 [.long (x2 / 1), .int x1] [] rfl (Nat.le_of_ble_eq_true rfl) (lm_Lay_si hl27 _ _ _) S_92 ow_198 ?_
              refine ls_call hyp (lm_Lay_si hl27 _ _ _) (fun _ h31 hl31 hyp => ?_)
              refine ls_retL hyp (fun r32 hyp => ?_)
              refine ls_lstore_n [some (.ref 92), some (.int x1), some (.long r32), none, some (.int 0), some (.long 1), none] f_200_134 (Nat.le_of_ble_eq_true rfl) rfl ?_
              refine ls_goto 6 f_200_135 rfl ?_
              exact ls_mask [true, true, true, false, false, false, false] [some (.ref 92), some (.int x1), some (.long r32), none, none, none, none] rfl hyp
          · refine ls_iconst 1 f_200_102 (by decide) ?_
            refine ls_goto 107 f_200_103 rfl ?_
            refine ls_putI f_200_107 p_200_229 hl27 S_92 (by decide) ?_
            refine ls_lconst 1 f_200_110 (by decide) ?_
            refine ls_lstore [some (.ref 92), some (.int x1), some (.long x2), none, some (.int 0), some (.long 1), none] f_200_111 (Nat.le_of_ble_eq_true rfl) rfl ?_
            refine ls_aload_n f_200_113 rfl ?_
            refine ls_iload f_200_114 rfl ?_
            refine ls_if_eq_T 126 f_200_116 rfl (by decide) ?_
            refine ls_lload_n f_200_126 rfl ?_
            refine ls_lload f_200_127 rfl ?_
            refine ls_ldiv (x2 / 1) f_200_129 (by decide) rfl ?_
            refine ls_iload_n f_200_130 rfl ?_
            refine ls_invV (a := 92) f_200_131 q_200_237 [.long (x2 / 1), .int x1] [] rfl (Nat.le_of_ble_eq_true rfl) (lm_Lay_si hl27 _ _ _) S_92 ow_198 ?_
            refine ls_call hyp (lm_Lay_si hl27 _ _ _) (fun _ h33 hl33 hyp => ?_)
            refine ls_retL hyp (fun r34 hyp => ?_)
            refine ls_lstore_n [some (.ref 92), some (.int x1), some (.long r34), none, some (.int 0), some (.long 1), none] f_200_134 (Nat.le_of_ble_eq_true rfl) rfl ?_
            refine ls_goto 6 f_200_135 rfl ?_
            exact ls_mask [true, true, true, false, false, false, false] [some (.ref 92), some (.int x1), some (.long r34), none, none, none, none] rfl hyp
        · refine ls_aload_n f_200_113 rfl ?_
          refine ls_iload f_200_114 rfl ?_
          refine ls_if_eq_T 126 f_200_116 rfl (by decide) ?_
          refine ls_lload_n f_200_126 rfl ?_
          refine ls_lload f_200_127 rfl ?_
          refine ls_ldiv (x2 / r28) f_200_129 hyp.1 rfl ?_
          replace hyp := hyp.2
          refine ls_iload_n f_200_130 rfl ?_
          refine ls_invV (a := 92) f_200_131 q_200_237 [.long (x2 / r28), .int x1] [] rfl (Nat.le_of_ble_eq_true rfl) hl27 S_92 ow_198 ?_
          refine ls_call hyp hl27 (fun _ h35 hl35 hyp => ?_)
          refine ls_retL hyp (fun r36 hyp => ?_)
          refine ls_lstore_n [some (.ref 92), some (.int x1), some (.long r36), none, some (.int 0), some (.long r28), none] f_200_134 (Nat.le_of_ble_eq_true rfl) rfl ?_
          refine ls_goto 6 f_200_135 rfl ?_
          exact ls_mask [true, true, true, false, false, false, false] [some (.ref 92), some (.int x1), some (.long r36), none, none, none, none] rfl hyp
    · refine ls_lload_n f_200_138 rfl ?_
      exact ls_lreturn f_200_139 rZ_200 rfl hyp
theorem e_201 {d : Nat} {h : lm_H} {K : Int64 → lm_H → Prop} (x1 : Int32) (hl : lm_Lay h) (hyp : lm_call (d + 1) 197 [.ref 92, .int 191] h (lm_kI fun r2 h1 => (if r2 = 0 then (lm_call (d + 1) 196 [.ref 92, .int (lm_i h1 92 19)] h1 (lm_kI fun r4 h3 => (if x1 = 0 then (K 0 (lm_si h3 92 19 ((lm_i h3 92 19) + 1))) else (if (lm_i h3 92 21) = 0 then (if r4 = 50 then (lm_in ((2493 + ((lm_i h3 92 19) + 1)) - 1) 4893 False (K ((lm_i h3 94 (((2493 + ((lm_i h3 92 19) + 1)) - 1).toNatClampNeg)).toInt64) (lm_si h3 92 19 ((lm_i h3 92 19) + 1)))) else (lm_in (r4 - 7) 7 False (K ((lm_i h3 103 ((r4 - 7).toNatClampNeg)).toInt64) (lm_si h3 92 19 ((lm_i h3 92 19) + 1))))) else (K 0 (lm_si h3 92 19 ((lm_i h3 92 19) + 1))))))) else (lm_call (d + 1) 199 [.ref 92, .int x1] h1 (lm_kL fun r6 h5 => K r6 (lm_si h5 92 19 ((lm_i h5 92 19) + 1))))))) : lm_call (d + 2) 201 [.ref 92, .int x1] h (lm_kL K) := by
  refine ls_enter [some (.ref 92), some (.int x1), none, none] ml_201 (Nat.le_of_ble_eq_true rfl) rfl ?_
  refine ls_aload_n f_201_0 rfl ?_
  refine ls_bipush 91 f_201_1 (by decide) ?_
  refine ls_invS f_201_3 q_201_194 [.int 91] [.ref 92] rfl (Nat.le_of_ble_eq_true rfl) ?_
  refine ls_enter [some (.int 91)] ml_184 (Nat.le_of_ble_eq_true rfl) rfl ?_
  refine ls_bipush 100 f_184_0 (by decide) ?_
  refine ls_iload_n f_184_2 rfl ?_
  refine ls_iadd 191 f_184_3 (by decide) ?_
  refine ls_ireturn f_184_4 rI_184 ?_
  show lm_W _ _ _ _ [.int 191, .ref 92] _ _
  refine ls_invV (a := 92) f_201_6 q_201_244 [.int 191] [] rfl (Nat.le_of_ble_eq_true rfl) hl S_92 ow_197 ?_
  refine ls_call hyp hl (fun _ h1 hl1 hyp => ?_)
  refine ls_retI hyp (fun r2 hyp => ?_)
  refine ls_if_eq 30 f_201_9 rfl hyp (fun _ hyp => ?_) (fun _ hyp => ?_)
  · refine ls_aload_n f_201_30 rfl ?_
    refine ls_aload_n f_201_31 rfl ?_
    refine ls_getI f_201_32 p_201_219 hl1 S_92 ?_
    refine ls_invV (a := 92) f_201_35 q_201_222 [.int (lm_i h1 92 19)] [] rfl (Nat.le_of_ble_eq_true rfl) hl1 S_92 ow_196 ?_
    refine ls_call hyp hl1 (fun _ h3 hl3 hyp => ?_)
    refine ls_retI hyp (fun r4 hyp => ?_)
    refine ls_istore_n [some (.ref 92), some (.int x1), some (.int r4), none] f_201_38 (Nat.le_of_ble_eq_true rfl) rfl ?_
    refine ls_aload_n f_201_39 rfl ?_
    refine ls_dup f_201_40 rfl ?_
    refine ls_getI f_201_41 p_201_219 hl3 S_92 ?_
    refine ls_iconst 1 f_201_44 (by decide) ?_
    refine ls_iadd ((lm_i h3 92 19) + 1) f_201_45 rfl ?_
    refine ls_putI f_201_46 p_201_219 hl3 S_92 rfl ?_
    refine ls_iload_n f_201_49 rfl ?_
    refine ls_if_eq 60 f_201_50 rfl hyp (fun _ hyp => ?_) (fun _ hyp => ?_)
    · refine ls_lconst 0 f_201_60 (by decide) ?_
      exact ls_lreturn f_201_61 rZ_201 rfl hyp
    · refine ls_aload_n f_201_53 rfl ?_
      refine ls_getI f_201_54 p_201_229 (lm_Lay_si hl3 _ _ _) S_92 ?_
      refine ls_top (lm_i h3 92 21) rfl ?_
      refine ls_if_eq 62 f_201_57 rfl hyp (fun _ hyp => ?_) (fun _ hyp => ?_)
      · refine ls_iload_n f_201_62 rfl ?_
        refine ls_bipush 50 f_201_63 (by decide) ?_
        refine ls_icmp_ne 87 f_201_65 rfl hyp (fun _ hyp => ?_) (fun _ hyp => ?_)
        · refine ls_aload_n f_201_68 rfl ?_
          refine ls_getR f_201_69 p_201_25 (lm_Lay_si hl3 _ _ _) S_92 F_92_3 ?_
          refine ls_sipush 2493 f_201_72 (by decide) ?_
          refine ls_aload_n f_201_75 rfl ?_
          refine ls_getI f_201_76 p_201_219 (lm_Lay_si hl3 _ _ _) S_92 ?_
          refine ls_top ((lm_i h3 92 19) + 1) rfl ?_
          refine ls_iadd (2493 + ((lm_i h3 92 19) + 1)) f_201_79 rfl ?_
          refine ls_iconst 1 f_201_80 (by decide) ?_
          refine ls_isub ((2493 + ((lm_i h3 92 19) + 1)) - 1) f_201_81 rfl ?_
          refine ls_iald f_201_82 (lm_Lay_si hl3 _ _ _) S_94 hyp (fun hyp => ?_)
          refine ls_top (lm_i h3 94 (((2493 + ((lm_i h3 92 19) + 1)) - 1).toNatClampNeg)) rfl ?_
          refine ls_i2l ((lm_i h3 94 (((2493 + ((lm_i h3 92 19) + 1)) - 1).toNatClampNeg)).toInt64) f_201_83 rfl ?_
          refine ls_goto 97 f_201_84 rfl ?_
          exact ls_lreturn f_201_97 rZ_201 rfl hyp
        · refine ls_aload_n f_201_87 rfl ?_
          refine ls_getR f_201_88 p_201_57 (lm_Lay_si hl3 _ _ _) S_92 F_92_22 ?_
          refine ls_iload_n f_201_91 rfl ?_
          refine ls_bipush 7 f_201_92 (by decide) ?_
          refine ls_isub (r4 - 7) f_201_94 rfl ?_
          refine ls_iald f_201_95 (lm_Lay_si hl3 _ _ _) S_103 hyp (fun hyp => ?_)
          refine ls_top (lm_i h3 103 ((r4 - 7).toNatClampNeg)) rfl ?_
          refine ls_i2l ((lm_i h3 103 ((r4 - 7).toNatClampNeg)).toInt64) f_201_96 rfl ?_
          exact ls_lreturn f_201_97 rZ_201 rfl hyp
      · refine ls_lconst 0 f_201_60 (by decide) ?_
        exact ls_lreturn f_201_61 rZ_201 rfl hyp
  · refine ls_aload_n f_201_12 rfl ?_
    refine ls_iload_n f_201_13 rfl ?_
    refine ls_invV (a := 92) f_201_14 q_201_247 [.int x1] [] rfl (Nat.le_of_ble_eq_true rfl) hl1 S_92 ow_199 ?_
    refine ls_call hyp hl1 (fun _ h5 hl5 hyp => ?_)
    refine ls_retL hyp (fun r6 hyp => ?_)
    refine ls_lstore_n [some (.ref 92), some (.int x1), some (.long r6), none] f_201_17 (Nat.le_of_ble_eq_true rfl) rfl ?_
    refine ls_aload_n f_201_18 rfl ?_
    refine ls_dup f_201_19 rfl ?_
    refine ls_getI f_201_20 p_201_219 hl5 S_92 ?_
    refine ls_iconst 1 f_201_23 (by decide) ?_
    refine ls_iadd ((lm_i h5 92 19) + 1) f_201_24 rfl ?_
    refine ls_putI f_201_25 p_201_219 hl5 S_92 rfl ?_
    refine ls_lload_n f_201_28 rfl ?_
    exact ls_lreturn f_201_29 rZ_201 rfl hyp
theorem e_202 {d : Nat} {h : lm_H} {K : Int32 → lm_H → Prop} (x1 : Int32) (hl : lm_Lay h) (hyp : lm_call (d) 203 [.ref 92, .int x1] h (lm_kI fun r2 h1 => lm_W (d) 202 6 [some (.ref 92), some (.int x1), some (.int r2), none] [] h1 (lm_kI K))) : lm_call (d + 1) 202 [.ref 92, .int x1] h (lm_kI K) := by
  refine ls_enter [some (.ref 92), some (.int x1), none, none] ml_202 (Nat.le_of_ble_eq_true rfl) rfl ?_
  refine ls_aload_n f_202_0 rfl ?_
  refine ls_iload_n f_202_1 rfl ?_
  refine ls_invV (a := 92) f_202_2 q_202_250 [.int x1] [] rfl (Nat.le_of_ble_eq_true rfl) hl S_92 ow_203 ?_
  refine ls_call hyp hl (fun _ h1 hl1 hyp => ?_)
  refine ls_retI hyp (fun r2 hyp => ?_)
  refine ls_istore_n [some (.ref 92), some (.int x1), some (.int r2), none] f_202_5 (Nat.le_of_ble_eq_true rfl) rfl ?_
  exact hyp
theorem b_202_6 {d : Nat} {h : lm_H} {K : Int32 → lm_H → Prop} (x1 : Int32) (x2 : Int32) (hl : lm_Lay h) (hyp : lm_call (d) 197 [.ref 92, .int 4] h (lm_kI fun r2 h1 => (if r2 = 0 then ((vp_nar .boolean x2 = x2) ∧ K x2 h1) else (if x1 = 0 then (lm_call (d) 203 [.ref 92, .int 0] h1 (lm_kI fun r4 h3 => (if x2 = 0 then (if r4 = 0 then (lm_W (d) 202 6 [some (.ref 92), some (.int x1), some (.int 0), none] [] h3 (lm_kI K)) else (lm_W (d) 202 6 [some (.ref 92), some (.int x1), some (.int 1), none] [] h3 (lm_kI K))) else (lm_W (d) 202 6 [some (.ref 92), some (.int x1), some (.int 1), none] [] h3 (lm_kI K))))) else (if x2 = 0 then (lm_call (d) 203 [.ref 92, .int 1] h1 (lm_kI fun r6 h5 => (if x2 = 0 then (if r6 = 0 then (lm_W (d) 202 6 [some (.ref 92), some (.int x1), some (.int 0), none] [] h5 (lm_kI K)) else (lm_W (d) 202 6 [some (.ref 92), some (.int x1), some (.int 1), none] [] h5 (lm_kI K))) else (lm_W (d) 202 6 [some (.ref 92), some (.int x1), some (.int 1), none] [] h5 (lm_kI K))))) else (lm_call (d) 203 [.ref 92, .int 0] h1 (lm_kI fun r8 h7 => (if x2 = 0 then (if r8 = 0 then (lm_W (d) 202 6 [some (.ref 92), some (.int x1), some (.int 0), none] [] h7 (lm_kI K)) else (lm_W (d) 202 6 [some (.ref 92), some (.int x1), some (.int 1), none] [] h7 (lm_kI K))) else (lm_W (d) 202 6 [some (.ref 92), some (.int x1), some (.int 1), none] [] h7 (lm_kI K)))))))))) : lm_W (d) 202 6 [some (.ref 92), some (.int x1), some (.int x2), none] [] h (lm_kI K) := by
  refine ls_aload_n f_202_6 rfl ?_
  refine ls_iconst 4 f_202_7 (by decide) ?_
  refine ls_invV (a := 92) f_202_8 q_202_244 [.int 4] [] rfl (Nat.le_of_ble_eq_true rfl) hl S_92 ow_197 ?_
  refine ls_call hyp hl (fun _ h1 hl1 hyp => ?_)
  refine ls_retI hyp (fun r2 hyp => ?_)
  refine ls_if_eq 49 f_202_11 rfl hyp (fun _ hyp => ?_) (fun _ hyp => ?_)
  · refine ls_iload_n f_202_49 rfl ?_
    exact ls_zreturn f_202_50 rZ_202 hyp.1 hyp.2
  · refine ls_aload_n f_202_14 rfl ?_
    refine ls_iload_n f_202_15 rfl ?_
    refine ls_if_eq 27 f_202_16 rfl hyp (fun _ hyp => ?_) (fun _ hyp => ?_)
    · refine ls_iconst 0 f_202_27 (by decide) ?_
      refine ls_invV (a := 92) f_202_28 q_202_250 [.int 0] [] rfl (Nat.le_of_ble_eq_true rfl) hl1 S_92 ow_203 ?_
      refine ls_call hyp hl1 (fun _ h3 hl3 hyp => ?_)
      refine ls_retI hyp (fun r4 hyp => ?_)
      refine ls_istore_n [some (.ref 92), some (.int x1), some (.int x2), some (.int r4)] f_202_31 (Nat.le_of_ble_eq_true rfl) rfl ?_
      refine ls_iload_n f_202_32 rfl ?_
      refine ls_if_ne 40 f_202_33 rfl hyp (fun _ hyp => ?_) (fun _ hyp => ?_)
      · refine ls_iload_n f_202_36 rfl ?_
        refine ls_if_eq 44 f_202_37 rfl hyp (fun _ hyp => ?_) (fun _ hyp => ?_)
        · refine ls_iconst 0 f_202_44 (by decide) ?_
          refine ls_istore_n [some (.ref 92), some (.int x1), some (.int 0), some (.int r4)] f_202_45 (Nat.le_of_ble_eq_true rfl) rfl ?_
          refine ls_goto 6 f_202_46 rfl ?_
          exact ls_mask [true, true, true, false] [some (.ref 92), some (.int x1), some (.int 0), none] rfl hyp
        · refine ls_iconst 1 f_202_40 (by decide) ?_
          refine ls_goto 45 f_202_41 rfl ?_
          refine ls_istore_n [some (.ref 92), some (.int x1), some (.int 1), some (.int r4)] f_202_45 (Nat.le_of_ble_eq_true rfl) rfl ?_
          refine ls_goto 6 f_202_46 rfl ?_
          exact ls_mask [true, true, true, false] [some (.ref 92), some (.int x1), some (.int 1), none] rfl hyp
      · refine ls_iconst 1 f_202_40 (by decide) ?_
        refine ls_goto 45 f_202_41 rfl ?_
        refine ls_istore_n [some (.ref 92), some (.int x1), some (.int 1), some (.int r4)] f_202_45 (Nat.le_of_ble_eq_true rfl) rfl ?_
        refine ls_goto 6 f_202_46 rfl ?_
        exact ls_mask [true, true, true, false] [some (.ref 92), some (.int x1), some (.int 1), none] rfl hyp
    · refine ls_iload_n f_202_19 rfl ?_
      refine ls_if_ne 27 f_202_20 rfl hyp (fun _ hyp => ?_) (fun _ hyp => ?_)
      · refine ls_iconst 1 f_202_23 (by decide) ?_
        refine ls_goto 28 f_202_24 rfl ?_
        refine ls_invV (a := 92) f_202_28 q_202_250 [.int 1] [] rfl (Nat.le_of_ble_eq_true rfl) hl1 S_92 ow_203 ?_
        refine ls_call hyp hl1 (fun _ h5 hl5 hyp => ?_)
        refine ls_retI hyp (fun r6 hyp => ?_)
        refine ls_istore_n [some (.ref 92), some (.int x1), some (.int x2), some (.int r6)] f_202_31 (Nat.le_of_ble_eq_true rfl) rfl ?_
        refine ls_iload_n f_202_32 rfl ?_
        refine ls_if_ne 40 f_202_33 rfl hyp (fun _ hyp => ?_) (fun _ hyp => ?_)
        · refine ls_iload_n f_202_36 rfl ?_
          refine ls_if_eq 44 f_202_37 rfl hyp (fun _ hyp => ?_) (fun _ hyp => ?_)
          · refine ls_iconst 0 f_202_44 (by decide) ?_
            refine ls_istore_n [some (.ref 92), some (.int x1), some (.int 0), some (.int r6)] f_202_45 (Nat.le_of_ble_eq_true rfl) rfl ?_
            refine ls_goto 6 f_202_46 rfl ?_
            exact ls_mask [true, true, true, false] [some (.ref 92), some (.int x1), some (.int 0), none] rfl hyp
          · refine ls_iconst 1 f_202_40 (by decide) ?_
            refine ls_goto 45 f_202_41 rfl ?_
            refine ls_istore_n [some (.ref 92), some (.int x1), some (.int 1), some (.int r6)] f_202_45 (Nat.le_of_ble_eq_true rfl) rfl ?_
            refine ls_goto 6 f_202_46 rfl ?_
            exact ls_mask [true, true, true, false] [some (.ref 92), some (.int x1), some (.int 1), none] rfl hyp
        · refine ls_iconst 1 f_202_40 (by decide) ?_
          refine ls_goto 45 f_202_41 rfl ?_
          refine ls_istore_n [some (.ref 92), some (.int x1), some (.int 1), some (.int r6)] f_202_45 (Nat.le_of_ble_eq_true rfl) rfl ?_
          refine ls_goto 6 f_202_46 rfl ?_
          exact ls_mask [true, true, true, false] [some (.ref 92), some (.int x1), some (.int 1), none] rfl hyp
      · refine ls_iconst 0 f_202_27 (by decide) ?_
        refine ls_invV (a := 92) f_202_28 q_202_250 [.int 0] [] rfl (Nat.le_of_ble_eq_true rfl) hl1 S_92 ow_203 ?_
        refine ls_call hyp hl1 (fun _ h7 hl7 hyp => ?_)
        refine ls_retI hyp (fun r8 hyp => ?_)
        refine ls_istore_n [some (.ref 92), some (.int x1), some (.int x2), some (.int r8)] f_202_31 (Nat.le_of_ble_eq_true rfl) rfl ?_
        refine ls_iload_n f_202_32 rfl ?_
        refine ls_if_ne 40 f_202_33 rfl hyp (fun _ hyp => ?_) (fun _ hyp => ?_)
        · refine ls_iload_n f_202_36 rfl ?_
          refine ls_if_eq 44 f_202_37 rfl hyp (fun _ hyp => ?_) (fun _ hyp => ?_)
          · refine ls_iconst 0 f_202_44 (by decide) ?_
            refine ls_istore_n [some (.ref 92), some (.int x1), some (.int 0), some (.int r8)] f_202_45 (Nat.le_of_ble_eq_true rfl) rfl ?_
            refine ls_goto 6 f_202_46 rfl ?_
            exact ls_mask [true, true, true, false] [some (.ref 92), some (.int x1), some (.int 0), none] rfl hyp
          · refine ls_iconst 1 f_202_40 (by decide) ?_
            refine ls_goto 45 f_202_41 rfl ?_
            refine ls_istore_n [some (.ref 92), some (.int x1), some (.int 1), some (.int r8)] f_202_45 (Nat.le_of_ble_eq_true rfl) rfl ?_
            refine ls_goto 6 f_202_46 rfl ?_
            exact ls_mask [true, true, true, false] [some (.ref 92), some (.int x1), some (.int 1), none] rfl hyp
        · refine ls_iconst 1 f_202_40 (by decide) ?_
          refine ls_goto 45 f_202_41 rfl ?_
          refine ls_istore_n [some (.ref 92), some (.int x1), some (.int 1), some (.int r8)] f_202_45 (Nat.le_of_ble_eq_true rfl) rfl ?_
          refine ls_goto 6 f_202_46 rfl ?_
          exact ls_mask [true, true, true, false] [some (.ref 92), some (.int x1), some (.int 1), none] rfl hyp
theorem e_203 {d : Nat} {h : lm_H} {K : Int32 → lm_H → Prop} (x1 : Int32) (hl : lm_Lay h) (hyp : lm_call (d) 204 [.ref 92, .int x1] h (lm_kI fun r2 h1 => lm_W (d) 203 6 [some (.ref 92), some (.int x1), some (.int r2), none] [] h1 (lm_kI K))) : lm_call (d + 1) 203 [.ref 92, .int x1] h (lm_kI K) := by
  refine ls_enter [some (.ref 92), some (.int x1), none, none] ml_203 (Nat.le_of_ble_eq_true rfl) rfl ?_
  refine ls_aload_n f_203_0 rfl ?_
  refine ls_iload_n f_203_1 rfl ?_
  refine ls_invV (a := 92) f_203_2 q_203_254 [.int x1] [] rfl (Nat.le_of_ble_eq_true rfl) hl S_92 ow_204 ?_
  refine ls_call hyp hl (fun _ h1 hl1 hyp => ?_)
  refine ls_retI hyp (fun r2 hyp => ?_)
  refine ls_istore_n [some (.ref 92), some (.int x1), some (.int r2), none] f_203_5 (Nat.le_of_ble_eq_true rfl) rfl ?_
  exact hyp
theorem b_203_6 {d : Nat} {h : lm_H} {K : Int32 → lm_H → Prop} (x1 : Int32) (x2 : Int32) (hl : lm_Lay h) (hyp : lm_call (d) 197 [.ref 92, .int 5] h (lm_kI fun r2 h1 => (if r2 = 0 then ((vp_nar .boolean x2 = x2) ∧ K x2 h1) else (if x1 = 0 then (lm_call (d) 204 [.ref 92, .int 0] h1 (lm_kI fun r4 h3 => (if x2 = 0 then (lm_W (d) 203 6 [some (.ref 92), some (.int x1), some (.int 0), none] [] h3 (lm_kI K)) else (if r4 = 0 then (lm_W (d) 203 6 [some (.ref 92), some (.int x1), some (.int 0), none] [] h3 (lm_kI K)) else (lm_W (d) 203 6 [some (.ref 92), some (.int x1), some (.int 1), none] [] h3 (lm_kI K)))))) else (if x2 = 0 then (lm_call (d) 204 [.ref 92, .int 0] h1 (lm_kI fun r6 h5 => (if x2 = 0 then (lm_W (d) 203 6 [some (.ref 92), some (.int x1), some (.int 0), none] [] h5 (lm_kI K)) else (if r6 = 0 then (lm_W (d) 203 6 [some (.ref 92), some (.int x1), some (.int 0), none] [] h5 (lm_kI K)) else (lm_W (d) 203 6 [some (.ref 92), some (.int x1), some (.int 1), none] [] h5 (lm_kI K)))))) else (lm_call (d) 204 [.ref 92, .int 1] h1 (lm_kI fun r8 h7 => (if x2 = 0 then (lm_W (d) 203 6 [some (.ref 92), some (.int x1), some (.int 0), none] [] h7 (lm_kI K)) else (if r8 = 0 then (lm_W (d) 203 6 [some (.ref 92), some (.int x1), some (.int 0), none] [] h7 (lm_kI K)) else (lm_W (d) 203 6 [some (.ref 92), some (.int x1), some (.int 1), none] [] h7 (lm_kI K))))))))))) : lm_W (d) 203 6 [some (.ref 92), some (.int x1), some (.int x2), none] [] h (lm_kI K) := by
  refine ls_aload_n f_203_6 rfl ?_
  refine ls_iconst 5 f_203_7 (by decide) ?_
  refine ls_invV (a := 92) f_203_8 q_203_244 [.int 5] [] rfl (Nat.le_of_ble_eq_true rfl) hl S_92 ow_197 ?_
  refine ls_call hyp hl (fun _ h1 hl1 hyp => ?_)
  refine ls_retI hyp (fun r2 hyp => ?_)
  refine ls_if_eq 49 f_203_11 rfl hyp (fun _ hyp => ?_) (fun _ hyp => ?_)
  · refine ls_iload_n f_203_49 rfl ?_
    exact ls_zreturn f_203_50 rZ_203 hyp.1 hyp.2
  · refine ls_aload_n f_203_14 rfl ?_
    refine ls_iload_n f_203_15 rfl ?_
    refine ls_if_eq 27 f_203_16 rfl hyp (fun _ hyp => ?_) (fun _ hyp => ?_)
    · refine ls_iconst 0 f_203_27 (by decide) ?_
      refine ls_invV (a := 92) f_203_28 q_203_254 [.int 0] [] rfl (Nat.le_of_ble_eq_true rfl) hl1 S_92 ow_204 ?_
      refine ls_call hyp hl1 (fun _ h3 hl3 hyp => ?_)
      refine ls_retI hyp (fun r4 hyp => ?_)
      refine ls_istore_n [some (.ref 92), some (.int x1), some (.int x2), some (.int r4)] f_203_31 (Nat.le_of_ble_eq_true rfl) rfl ?_
      refine ls_iload_n f_203_32 rfl ?_
      refine ls_if_eq 44 f_203_33 rfl hyp (fun _ hyp => ?_) (fun _ hyp => ?_)
      · refine ls_iconst 0 f_203_44 (by decide) ?_
        refine ls_istore_n [some (.ref 92), some (.int x1), some (.int 0), some (.int r4)] f_203_45 (Nat.le_of_ble_eq_true rfl) rfl ?_
        refine ls_goto 6 f_203_46 rfl ?_
        exact ls_mask [true, true, true, false] [some (.ref 92), some (.int x1), some (.int 0), none] rfl hyp
      · refine ls_iload_n f_203_36 rfl ?_
        refine ls_if_eq 44 f_203_37 rfl hyp (fun _ hyp => ?_) (fun _ hyp => ?_)
        · refine ls_iconst 0 f_203_44 (by decide) ?_
          refine ls_istore_n [some (.ref 92), some (.int x1), some (.int 0), some (.int r4)] f_203_45 (Nat.le_of_ble_eq_true rfl) rfl ?_
          refine ls_goto 6 f_203_46 rfl ?_
          exact ls_mask [true, true, true, false] [some (.ref 92), some (.int x1), some (.int 0), none] rfl hyp
        · refine ls_iconst 1 f_203_40 (by decide) ?_
          refine ls_goto 45 f_203_41 rfl ?_
          refine ls_istore_n [some (.ref 92), some (.int x1), some (.int 1), some (.int r4)] f_203_45 (Nat.le_of_ble_eq_true rfl) rfl ?_
          refine ls_goto 6 f_203_46 rfl ?_
          exact ls_mask [true, true, true, false] [some (.ref 92), some (.int x1), some (.int 1), none] rfl hyp
    · refine ls_iload_n f_203_19 rfl ?_
      refine ls_if_eq 27 f_203_20 rfl hyp (fun _ hyp => ?_) (fun _ hyp => ?_)
      · refine ls_iconst 0 f_203_27 (by decide) ?_
        refine ls_invV (a := 92) f_203_28 q_203_254 [.int 0] [] rfl (Nat.le_of_ble_eq_true rfl) hl1 S_92 ow_204 ?_
        refine ls_call hyp hl1 (fun _ h5 hl5 hyp => ?_)
        refine ls_retI hyp (fun r6 hyp => ?_)
        refine ls_istore_n [some (.ref 92), some (.int x1), some (.int x2), some (.int r6)] f_203_31 (Nat.le_of_ble_eq_true rfl) rfl ?_
        refine ls_iload_n f_203_32 rfl ?_
        refine ls_if_eq 44 f_203_33 rfl hyp (fun _ hyp => ?_) (fun _ hyp => ?_)
        · refine ls_iconst 0 f_203_44 (by decide) ?_
          refine ls_istore_n [some (.ref 92), some (.int x1), some (.int 0), some (.int r6)] f_203_45 (Nat.le_of_ble_eq_true rfl) rfl ?_
          refine ls_goto 6 f_203_46 rfl ?_
          exact ls_mask [true, true, true, false] [some (.ref 92), some (.int x1), some (.int 0), none] rfl hyp
        · refine ls_iload_n f_203_36 rfl ?_
          refine ls_if_eq 44 f_203_37 rfl hyp (fun _ hyp => ?_) (fun _ hyp => ?_)
          · refine ls_iconst 0 f_203_44 (by decide) ?_
            refine ls_istore_n [some (.ref 92), some (.int x1), some (.int 0), some (.int r6)] f_203_45 (Nat.le_of_ble_eq_true rfl) rfl ?_
            refine ls_goto 6 f_203_46 rfl ?_
            exact ls_mask [true, true, true, false] [some (.ref 92), some (.int x1), some (.int 0), none] rfl hyp
          · refine ls_iconst 1 f_203_40 (by decide) ?_
            refine ls_goto 45 f_203_41 rfl ?_
            refine ls_istore_n [some (.ref 92), some (.int x1), some (.int 1), some (.int r6)] f_203_45 (Nat.le_of_ble_eq_true rfl) rfl ?_
            refine ls_goto 6 f_203_46 rfl ?_
            exact ls_mask [true, true, true, false] [some (.ref 92), some (.int x1), some (.int 1), none] rfl hyp
      · refine ls_iconst 1 f_203_23 (by decide) ?_
        refine ls_goto 28 f_203_24 rfl ?_
        refine ls_invV (a := 92) f_203_28 q_203_254 [.int 1] [] rfl (Nat.le_of_ble_eq_true rfl) hl1 S_92 ow_204 ?_
        refine ls_call hyp hl1 (fun _ h7 hl7 hyp => ?_)
        refine ls_retI hyp (fun r8 hyp => ?_)
        refine ls_istore_n [some (.ref 92), some (.int x1), some (.int x2), some (.int r8)] f_203_31 (Nat.le_of_ble_eq_true rfl) rfl ?_
        refine ls_iload_n f_203_32 rfl ?_
        refine ls_if_eq 44 f_203_33 rfl hyp (fun _ hyp => ?_) (fun _ hyp => ?_)
        · refine ls_iconst 0 f_203_44 (by decide) ?_
          refine ls_istore_n [some (.ref 92), some (.int x1), some (.int 0), some (.int r8)] f_203_45 (Nat.le_of_ble_eq_true rfl) rfl ?_
          refine ls_goto 6 f_203_46 rfl ?_
          exact ls_mask [true, true, true, false] [some (.ref 92), some (.int x1), some (.int 0), none] rfl hyp
        · refine ls_iload_n f_203_36 rfl ?_
          refine ls_if_eq 44 f_203_37 rfl hyp (fun _ hyp => ?_) (fun _ hyp => ?_)
          · refine ls_iconst 0 f_203_44 (by decide) ?_
            refine ls_istore_n [some (.ref 92), some (.int x1), some (.int 0), some (.int r8)] f_203_45 (Nat.le_of_ble_eq_true rfl) rfl ?_
            refine ls_goto 6 f_203_46 rfl ?_
            exact ls_mask [true, true, true, false] [some (.ref 92), some (.int x1), some (.int 0), none] rfl hyp
          · refine ls_iconst 1 f_203_40 (by decide) ?_
            refine ls_goto 45 f_203_41 rfl ?_
            refine ls_istore_n [some (.ref 92), some (.int x1), some (.int 1), some (.int r8)] f_203_45 (Nat.le_of_ble_eq_true rfl) rfl ?_
            refine ls_goto 6 f_203_46 rfl ?_
            exact ls_mask [true, true, true, false] [some (.ref 92), some (.int x1), some (.int 1), none] rfl hyp
theorem e_204 {d : Nat} {h : lm_H} {K : Int32 → lm_H → Prop} (x1 : Int32) (hl : lm_Lay h) (hyp : lm_W (d) 204 2 [some (.ref 92), some (.int x1), some (.int 0)] [] h (lm_kI K)) : lm_call (d + 1) 204 [.ref 92, .int x1] h (lm_kI K) := by
  refine ls_enter [some (.ref 92), some (.int x1), none] ml_204 (Nat.le_of_ble_eq_true rfl) rfl ?_
  refine ls_iconst 0 f_204_0 (by decide) ?_
  refine ls_istore_n [some (.ref 92), some (.int x1), some (.int 0)] f_204_1 (Nat.le_of_ble_eq_true rfl) rfl ?_
  exact hyp
theorem b_204_2 {d : Nat} {h : lm_H} {K : Int32 → lm_H → Prop} (x1 : Int32) (x2 : Int32) (hl : lm_Lay h) (hyp : lm_call (d) 197 [.ref 92, .int 6] h (lm_kI fun r2 h1 => (if r2 = 0 then (lm_call (d) 205 [.ref 92, .int x1] h1 (lm_kI fun r4 h3 => (if r4 = x2 then (K 0 h3) else (K 1 h3)))) else (if x2 = 0 then (lm_W (d) 204 2 [some (.ref 92), some (.int x1), some (.int 1)] [] h1 (lm_kI K)) else (lm_W (d) 204 2 [some (.ref 92), some (.int x1), some (.int 0)] [] h1 (lm_kI K)))))) : lm_W (d) 204 2 [some (.ref 92), some (.int x1), some (.int x2)] [] h (lm_kI K) := by
  refine ls_aload_n f_204_2 rfl ?_
  refine ls_bipush 6 f_204_3 (by decide) ?_
  refine ls_invV (a := 92) f_204_5 q_204_244 [.int 6] [] rfl (Nat.le_of_ble_eq_true rfl) hl S_92 ow_197 ?_
  refine ls_call hyp hl (fun _ h1 hl1 hyp => ?_)
  refine ls_retI hyp (fun r2 hyp => ?_)
  refine ls_if_eq 24 f_204_8 rfl hyp (fun _ hyp => ?_) (fun _ hyp => ?_)
  · refine ls_aload_n f_204_24 rfl ?_
    refine ls_iload_n f_204_25 rfl ?_
    refine ls_invV (a := 92) f_204_26 q_204_257 [.int x1] [] rfl (Nat.le_of_ble_eq_true rfl) hl1 S_92 ow_205 ?_
    refine ls_call hyp hl1 (fun _ h3 hl3 hyp => ?_)
    refine ls_retI hyp (fun r4 hyp => ?_)
    refine ls_iload_n f_204_29 rfl ?_
    refine ls_icmp_eq 37 f_204_30 rfl hyp (fun _ hyp => ?_) (fun _ hyp => ?_)
    · refine ls_iconst 0 f_204_37 (by decide) ?_
      exact ls_zreturn f_204_38 rZ_204 (by decide) hyp
    · refine ls_iconst 1 f_204_33 (by decide) ?_
      refine ls_goto 38 f_204_34 rfl ?_
      exact ls_zreturn f_204_38 rZ_204 (by decide) hyp
  · refine ls_iload_n f_204_11 rfl ?_
    refine ls_if_ne 19 f_204_12 rfl hyp (fun _ hyp => ?_) (fun _ hyp => ?_)
    · refine ls_iconst 1 f_204_15 (by decide) ?_
      refine ls_goto 20 f_204_16 rfl ?_
      refine ls_istore_n [some (.ref 92), some (.int x1), some (.int 1)] f_204_20 (Nat.le_of_ble_eq_true rfl) rfl ?_
      refine ls_goto 2 f_204_21 rfl ?_
      exact hyp
    · refine ls_iconst 0 f_204_19 (by decide) ?_
      refine ls_istore_n [some (.ref 92), some (.int x1), some (.int 0)] f_204_20 (Nat.le_of_ble_eq_true rfl) rfl ?_
      refine ls_goto 2 f_204_21 rfl ?_
      exact hyp
theorem e_205 {d : Nat} {h : lm_H} {K : Int32 → lm_H → Prop} (x1 : Int32) (hl : lm_Lay h) (hyp : lm_call (d + 1) 197 [.ref 92, .int 140] h (lm_kI fun r2 h1 => (if r2 = 0 then (lm_call (d + 1) 199 [.ref 92, .int x1] h1 (lm_kL fun r4 h3 => lm_call (d + 1) 196 [.ref 92, .int (lm_i h3 92 19)] h3 (lm_kI fun r6 h5 => lm_call (d + 1) 199 [.ref 92, .int x1] (lm_si h5 92 19 ((lm_i h5 92 19) + 1)) (lm_kL fun r8 h7 => (if x1 = 0 then (K 0 h7) else (if (lm_i h7 92 21) = 0 then (if r6 = 160 then (if (lg_cmp r4 r8) < 0 then (K 1 h7) else (K 0 h7)) else (if r6 = 162 then (if 0 < (lg_cmp r4 r8) then (K 1 h7) else (K 0 h7)) else (if (lg_cmp r4 r8) = 0 then (K 1 h7) else (K 0 h7)))) else (K 0 h7))))))) else (lm_call (d + 1) 202 [.ref 92, .int x1] h1 (lm_kI fun r10 h9 => (vp_nar .boolean r10 = r10) ∧ K r10 (lm_si h9 92 19 ((lm_i h9 92 19) + 1))))))) : lm_call (d + 2) 205 [.ref 92, .int x1] h (lm_kI K) := by
  refine ls_enter [some (.ref 92), some (.int x1), none, none, none, none, none] ml_205 (Nat.le_of_ble_eq_true rfl) rfl ?_
  refine ls_aload_n f_205_0 rfl ?_
  refine ls_bipush 40 f_205_1 (by decide) ?_
  refine ls_invS f_205_3 q_205_194 [.int 40] [.ref 92] rfl (Nat.le_of_ble_eq_true rfl) ?_
  refine ls_enter [some (.int 40)] ml_184 (Nat.le_of_ble_eq_true rfl) rfl ?_
  refine ls_bipush 100 f_184_0 (by decide) ?_
  refine ls_iload_n f_184_2 rfl ?_
  refine ls_iadd 140 f_184_3 (by decide) ?_
  refine ls_ireturn f_184_4 rI_184 ?_
  show lm_W _ _ _ _ [.int 140, .ref 92] _ _
  refine ls_invV (a := 92) f_205_6 q_205_244 [.int 140] [] rfl (Nat.le_of_ble_eq_true rfl) hl S_92 ow_197 ?_
  refine ls_call hyp hl (fun _ h1 hl1 hyp => ?_)
  refine ls_retI hyp (fun r2 hyp => ?_)
  refine ls_if_eq 30 f_205_9 rfl hyp (fun _ hyp => ?_) (fun _ hyp => ?_)
  · refine ls_aload_n f_205_30 rfl ?_
    refine ls_iload_n f_205_31 rfl ?_
    refine ls_invV (a := 92) f_205_32 q_205_247 [.int x1] [] rfl (Nat.le_of_ble_eq_true rfl) hl1 S_92 ow_199 ?_
    refine ls_call hyp hl1 (fun _ h3 hl3 hyp => ?_)
    refine ls_retL hyp (fun r4 hyp => ?_)
    refine ls_lstore_n [some (.ref 92), some (.int x1), some (.long r4), none, none, none, none] f_205_35 (Nat.le_of_ble_eq_true rfl) rfl ?_
    refine ls_aload_n f_205_36 rfl ?_
    refine ls_aload_n f_205_37 rfl ?_
    refine ls_getI f_205_38 p_205_219 hl3 S_92 ?_
    refine ls_invV (a := 92) f_205_41 q_205_222 [.int (lm_i h3 92 19)] [] rfl (Nat.le_of_ble_eq_true rfl) hl3 S_92 ow_196 ?_
    refine ls_call hyp hl3 (fun _ h5 hl5 hyp => ?_)
    refine ls_retI hyp (fun r6 hyp => ?_)
    refine ls_istore [some (.ref 92), some (.int x1), some (.long r4), none, some (.int r6), none, none] f_205_44 (Nat.le_of_ble_eq_true rfl) rfl ?_
    refine ls_aload_n f_205_46 rfl ?_
    refine ls_dup f_205_47 rfl ?_
    refine ls_getI f_205_48 p_205_219 hl5 S_92 ?_
    refine ls_iconst 1 f_205_51 (by decide) ?_
    refine ls_iadd ((lm_i h5 92 19) + 1) f_205_52 rfl ?_
    refine ls_putI f_205_53 p_205_219 hl5 S_92 rfl ?_
    refine ls_aload_n f_205_56 rfl ?_
    refine ls_iload_n f_205_57 rfl ?_
    refine ls_invV (a := 92) f_205_58 q_205_247 [.int x1] [] rfl (Nat.le_of_ble_eq_true rfl) (lm_Lay_si hl5 _ _ _) S_92 ow_199 ?_
    refine ls_call hyp (lm_Lay_si hl5 _ _ _) (fun _ h7 hl7 hyp => ?_)
    refine ls_retL hyp (fun r8 hyp => ?_)
    refine ls_lstore [some (.ref 92), some (.int x1), some (.long r4), none, some (.int r6), some (.long r8), none] f_205_61 (Nat.le_of_ble_eq_true rfl) rfl ?_
    refine ls_iload_n f_205_63 rfl ?_
    refine ls_if_eq 125 f_205_64 rfl hyp (fun _ hyp => ?_) (fun _ hyp => ?_)
    · refine ls_iconst 0 f_205_125 (by decide) ?_
      exact ls_zreturn f_205_126 rZ_205 (by decide) hyp
    · refine ls_aload_n f_205_67 rfl ?_
      refine ls_getI f_205_68 p_205_229 hl7 S_92 ?_
      refine ls_if_ne 125 f_205_71 rfl hyp (fun _ hyp => ?_) (fun _ hyp => ?_)
      · refine ls_iload f_205_74 rfl ?_
        refine ls_bipush 60 f_205_76 (by decide) ?_
        refine ls_invS f_205_78 q_205_194 [.int 60] [.int r6] rfl (Nat.le_of_ble_eq_true rfl) ?_
        refine ls_enter [some (.int 60)] ml_184 (Nat.le_of_ble_eq_true rfl) rfl ?_
        refine ls_bipush 100 f_184_0 (by decide) ?_
        refine ls_iload_n f_184_2 rfl ?_
        refine ls_iadd 160 f_184_3 (by decide) ?_
        refine ls_ireturn f_184_4 rI_184 ?_
        show lm_W _ _ _ _ [.int 160, .int r6] _ _
        refine ls_icmp_ne 94 f_205_81 rfl hyp (fun _ hyp => ?_) (fun _ hyp => ?_)
        · refine ls_lload_n f_205_84 rfl ?_
          refine ls_lload f_205_85 rfl ?_
          refine ls_lcmp f_205_87 ?_
          refine ls_if_ge 125 f_205_88 rfl hyp (fun _ hyp => ?_) (fun _ hyp => ?_)
          · refine ls_goto 121 f_205_91 rfl ?_
            refine ls_iconst 1 f_205_121 (by decide) ?_
            refine ls_goto 126 f_205_122 rfl ?_
            exact ls_zreturn f_205_126 rZ_205 (by decide) hyp
          · refine ls_iconst 0 f_205_125 (by decide) ?_
            exact ls_zreturn f_205_126 rZ_205 (by decide) hyp
        · refine ls_iload f_205_94 rfl ?_
          refine ls_bipush 62 f_205_96 (by decide) ?_
          refine ls_invS f_205_98 q_205_194 [.int 62] [.int r6] rfl (Nat.le_of_ble_eq_true rfl) ?_
          refine ls_enter [some (.int 62)] ml_184 (Nat.le_of_ble_eq_true rfl) rfl ?_
          refine ls_bipush 100 f_184_0 (by decide) ?_
          refine ls_iload_n f_184_2 rfl ?_
          refine ls_iadd 162 f_184_3 (by decide) ?_
          refine ls_ireturn f_184_4 rI_184 ?_
          show lm_W _ _ _ _ [.int 162, .int r6] _ _
          refine ls_icmp_ne 114 f_205_101 rfl hyp (fun _ hyp => ?_) (fun _ hyp => ?_)
          · refine ls_lload_n f_205_104 rfl ?_
            refine ls_lload f_205_105 rfl ?_
            refine ls_lcmp f_205_107 ?_
            refine ls_if_le 125 f_205_108 rfl hyp (fun _ hyp => ?_) (fun _ hyp => ?_)
            · refine ls_goto 121 f_205_111 rfl ?_
              refine ls_iconst 1 f_205_121 (by decide) ?_
              refine ls_goto 126 f_205_122 rfl ?_
              exact ls_zreturn f_205_126 rZ_205 (by decide) hyp
            · refine ls_iconst 0 f_205_125 (by decide) ?_
              exact ls_zreturn f_205_126 rZ_205 (by decide) hyp
          · refine ls_lload_n f_205_114 rfl ?_
            refine ls_lload f_205_115 rfl ?_
            refine ls_lcmp f_205_117 ?_
            refine ls_if_ne 125 f_205_118 rfl hyp (fun _ hyp => ?_) (fun _ hyp => ?_)
            · refine ls_iconst 1 f_205_121 (by decide) ?_
              refine ls_goto 126 f_205_122 rfl ?_
              exact ls_zreturn f_205_126 rZ_205 (by decide) hyp
            · refine ls_iconst 0 f_205_125 (by decide) ?_
              exact ls_zreturn f_205_126 rZ_205 (by decide) hyp
      · refine ls_iconst 0 f_205_125 (by decide) ?_
        exact ls_zreturn f_205_126 rZ_205 (by decide) hyp
  · refine ls_aload_n f_205_12 rfl ?_
    refine ls_iload_n f_205_13 rfl ?_
    refine ls_invV (a := 92) f_205_14 q_205_260 [.int x1] [] rfl (Nat.le_of_ble_eq_true rfl) hl1 S_92 ow_202 ?_
    refine ls_call hyp hl1 (fun _ h9 hl9 hyp => ?_)
    refine ls_retI hyp (fun r10 hyp => ?_)
    refine ls_istore_n [some (.ref 92), some (.int x1), some (.int r10), none, none, none, none] f_205_17 (Nat.le_of_ble_eq_true rfl) rfl ?_
    refine ls_aload_n f_205_18 rfl ?_
    refine ls_dup f_205_19 rfl ?_
    refine ls_getI f_205_20 p_205_219 hl9 S_92 ?_
    refine ls_iconst 1 f_205_23 (by decide) ?_
    refine ls_iadd ((lm_i h9 92 19) + 1) f_205_24 rfl ?_
    refine ls_putI f_205_25 p_205_219 hl9 S_92 rfl ?_
    refine ls_iload_n f_205_28 rfl ?_
    exact ls_zreturn f_205_29 rZ_205 hyp.1 hyp.2
theorem e_206 {d : Nat} {h : lm_H} {K : lm_H → Prop} (x1 : Int32) (x2 : Int32) (x3 : Int32) (x4 : Int32) (hl : lm_Lay h) (hyp : lm_in ((11 + (6 * x1)) + x2) 4893 False (if (lm_i h 94 86) = (-1) then (K (lm_si (lm_si h 92 23 (lm_i h 94 (((11 + (6 * x1)) + x2).toNatClampNeg))) 92 24 0)) else (lm_in (5 + x2) 4893 False (lm_in (0 + x1) 4893 False (lm_in (87 + (lm_i h 94 86)) 4893 False (lm_W (d) 206 142 [some (.ref 92), none, none, none, none, none, none, none, none, none] [] (lm_si (lm_si (lm_si (lm_si (lm_si (lm_si (lm_si (lm_si (lm_si (lm_si (lm_si h 92 23 (lm_i h 94 (((11 + (6 * x1)) + x2).toNatClampNeg))) 92 24 0) 103 0 x1) 103 1 x2) 103 2 (lm_i h 94 (((11 + (6 * x1)) + x2).toNatClampNeg))) 103 3 (lm_i h 94 ((5 + x2).toNatClampNeg))) 103 4 (lm_i h 94 ((0 + x1).toNatClampNeg))) 103 5 x3) 103 6 x4) 92 19 (400 * (lm_i h 94 86))) 92 20 ((400 * (lm_i h 94 86)) + (lm_i h 94 ((87 + (lm_i h 94 86)).toNatClampNeg)))) (lm_kV K))))))) : lm_call (d + 1) 206 [.ref 92, .int x1, .int x2, .int x3, .int x4] h (lm_kV K) := by
  refine ls_enter [some (.ref 92), some (.int x1), some (.int x2), some (.int x3), some (.int x4), none, none, none, none, none] ml_206 (Nat.le_of_ble_eq_true rfl) rfl ?_
  refine ls_aload_n f_206_0 rfl ?_
  refine ls_aload_n f_206_1 rfl ?_
  refine ls_getR f_206_2 p_206_25 hl S_92 F_92_3 ?_
  refine ls_bipush 11 f_206_5 (by decide) ?_
  refine ls_bipush 6 f_206_7 (by decide) ?_
  refine ls_iload_n f_206_9 rfl ?_
  refine ls_imul (6 * x1) f_206_10 rfl ?_
  refine ls_iadd (11 + (6 * x1)) f_206_11 rfl ?_
  refine ls_iload_n f_206_12 rfl ?_
  refine ls_iadd ((11 + (6 * x1)) + x2) f_206_13 rfl ?_
  refine ls_iald f_206_14 hl S_94 hyp (fun hyp => ?_)
  refine ls_putI f_206_15 p_206_263 hl S_92 rfl ?_
  refine ls_aload_n f_206_18 rfl ?_
  refine ls_iconst 0 f_206_19 (by decide) ?_
  refine ls_putI f_206_20 p_206_266 (lm_Lay_si hl _ _ _) S_92 (by decide) ?_
  refine ls_aload_n f_206_23 rfl ?_
  refine ls_getR f_206_24 p_206_25 (lm_Lay_si (lm_Lay_si hl _ _ _) _ _ _) S_92 F_92_3 ?_
  refine ls_bipush 86 f_206_27 (by decide) ?_
  refine ls_ialdC 86 f_206_29 (lm_Lay_si (lm_Lay_si hl _ _ _) _ _ _) S_94 ⟨by decide, by decide, by decide⟩ ?_
  refine ls_top (lm_i h 94 86) rfl ?_
  refine ls_iconst (-1) f_206_30 (by decide) ?_
  refine ls_icmp_ne 35 f_206_31 rfl hyp (fun _ hyp => ?_) (fun _ hyp => ?_)
  · exact ls_return f_206_34 rV_206 hyp
  · refine ls_aload_n f_206_35 rfl ?_
    refine ls_getR f_206_36 p_206_57 (lm_Lay_si (lm_Lay_si hl _ _ _) _ _ _) S_92 F_92_22 ?_
    refine ls_iconst 0 f_206_39 (by decide) ?_
    refine ls_iload_n f_206_40 rfl ?_
    refine ls_iastC 0 f_206_41 (lm_Lay_si (lm_Lay_si hl _ _ _) _ _ _) S_103 ⟨by decide, by decide, by decide⟩ ?_
    refine ls_aload_n f_206_42 rfl ?_
    refine ls_getR f_206_43 p_206_57 (lm_Lay_si (lm_Lay_si (lm_Lay_si hl _ _ _) _ _ _) _ _ _) S_92 F_92_22 ?_
    refine ls_iconst 1 f_206_46 (by decide) ?_
    refine ls_iload_n f_206_47 rfl ?_
    refine ls_iastC 1 f_206_48 (lm_Lay_si (lm_Lay_si (lm_Lay_si hl _ _ _) _ _ _) _ _ _) S_103 ⟨by decide, by decide, by decide⟩ ?_
    refine ls_aload_n f_206_49 rfl ?_
    refine ls_getR f_206_50 p_206_57 (lm_Lay_si (lm_Lay_si (lm_Lay_si (lm_Lay_si hl _ _ _) _ _ _) _ _ _) _ _ _) S_92 F_92_22 ?_
    refine ls_iconst 2 f_206_53 (by decide) ?_
    refine ls_aload_n f_206_54 rfl ?_
    refine ls_getI f_206_55 p_206_263 (lm_Lay_si (lm_Lay_si (lm_Lay_si (lm_Lay_si hl _ _ _) _ _ _) _ _ _) _ _ _) S_92 ?_
    refine ls_top (lm_i h 94 (((11 + (6 * x1)) + x2).toNatClampNeg)) rfl ?_
    refine ls_iastC 2 f_206_58 (lm_Lay_si (lm_Lay_si (lm_Lay_si (lm_Lay_si hl _ _ _) _ _ _) _ _ _) _ _ _) S_103 ⟨by decide, by decide, by decide⟩ ?_
    refine ls_aload_n f_206_59 rfl ?_
    refine ls_getR f_206_60 p_206_57 (lm_Lay_si (lm_Lay_si (lm_Lay_si (lm_Lay_si (lm_Lay_si hl _ _ _) _ _ _) _ _ _) _ _ _) _ _ _) S_92 F_92_22 ?_
    refine ls_iconst 3 f_206_63 (by decide) ?_
    refine ls_aload_n f_206_64 rfl ?_
    refine ls_getR f_206_65 p_206_25 (lm_Lay_si (lm_Lay_si (lm_Lay_si (lm_Lay_si (lm_Lay_si hl _ _ _) _ _ _) _ _ _) _ _ _) _ _ _) S_92 F_92_3 ?_
    refine ls_iconst 5 f_206_68 (by decide) ?_
    refine ls_iload_n f_206_69 rfl ?_
    refine ls_iadd (5 + x2) f_206_70 rfl ?_
    refine ls_iald f_206_71 (lm_Lay_si (lm_Lay_si (lm_Lay_si (lm_Lay_si (lm_Lay_si hl _ _ _) _ _ _) _ _ _) _ _ _) _ _ _) S_94 hyp (fun hyp => ?_)
    refine ls_top (lm_i h 94 ((5 + x2).toNatClampNeg)) rfl ?_
    refine ls_iastC 3 f_206_72 (lm_Lay_si (lm_Lay_si (lm_Lay_si (lm_Lay_si (lm_Lay_si hl _ _ _) _ _ _) _ _ _) _ _ _) _ _ _) S_103 ⟨by decide, by decide, by decide⟩ ?_
    refine ls_aload_n f_206_73 rfl ?_
    refine ls_getR f_206_74 p_206_57 (lm_Lay_si (lm_Lay_si (lm_Lay_si (lm_Lay_si (lm_Lay_si (lm_Lay_si hl _ _ _) _ _ _) _ _ _) _ _ _) _ _ _) _ _ _) S_92 F_92_22 ?_
    refine ls_iconst 4 f_206_77 (by decide) ?_
    refine ls_aload_n f_206_78 rfl ?_
    refine ls_getR f_206_79 p_206_25 (lm_Lay_si (lm_Lay_si (lm_Lay_si (lm_Lay_si (lm_Lay_si (lm_Lay_si hl _ _ _) _ _ _) _ _ _) _ _ _) _ _ _) _ _ _) S_92 F_92_3 ?_
    refine ls_iconst 0 f_206_82 (by decide) ?_
    refine ls_iload_n f_206_83 rfl ?_
    refine ls_iadd (0 + x1) f_206_84 rfl ?_
    refine ls_iald f_206_85 (lm_Lay_si (lm_Lay_si (lm_Lay_si (lm_Lay_si (lm_Lay_si (lm_Lay_si hl _ _ _) _ _ _) _ _ _) _ _ _) _ _ _) _ _ _) S_94 hyp (fun hyp => ?_)
    refine ls_top (lm_i h 94 ((0 + x1).toNatClampNeg)) rfl ?_
    refine ls_iastC 4 f_206_86 (lm_Lay_si (lm_Lay_si (lm_Lay_si (lm_Lay_si (lm_Lay_si (lm_Lay_si hl _ _ _) _ _ _) _ _ _) _ _ _) _ _ _) _ _ _) S_103 ⟨by decide, by decide, by decide⟩ ?_
    refine ls_aload_n f_206_87 rfl ?_
    refine ls_getR f_206_88 p_206_57 (lm_Lay_si (lm_Lay_si (lm_Lay_si (lm_Lay_si (lm_Lay_si (lm_Lay_si (lm_Lay_si hl _ _ _) _ _ _) _ _ _) _ _ _) _ _ _) _ _ _) _ _ _) S_92 F_92_22 ?_
    refine ls_iconst 5 f_206_91 (by decide) ?_
    refine ls_iload_n f_206_92 rfl ?_
    refine ls_iastC 5 f_206_93 (lm_Lay_si (lm_Lay_si (lm_Lay_si (lm_Lay_si (lm_Lay_si (lm_Lay_si (lm_Lay_si hl _ _ _) _ _ _) _ _ _) _ _ _) _ _ _) _ _ _) _ _ _) S_103 ⟨by decide, by decide, by decide⟩ ?_
    refine ls_aload_n f_206_94 rfl ?_
    refine ls_getR f_206_95 p_206_57 (lm_Lay_si (lm_Lay_si (lm_Lay_si (lm_Lay_si (lm_Lay_si (lm_Lay_si (lm_Lay_si (lm_Lay_si hl _ _ _) _ _ _) _ _ _) _ _ _) _ _ _) _ _ _) _ _ _) _ _ _) S_92 F_92_22 ?_
    refine ls_bipush 6 f_206_98 (by decide) ?_
    refine ls_iload f_206_100 rfl ?_
    refine ls_iastC 6 f_206_102 (lm_Lay_si (lm_Lay_si (lm_Lay_si (lm_Lay_si (lm_Lay_si (lm_Lay_si (lm_Lay_si (lm_Lay_si hl _ _ _) _ _ _) _ _ _) _ _ _) _ _ _) _ _ _) _ _ _) _ _ _) S_103 ⟨by decide, by decide, by decide⟩ ?_
    refine ls_aload_n f_206_103 rfl ?_
    refine ls_sipush 400 f_206_104 (by decide) ?_
    refine ls_aload_n f_206_107 rfl ?_
    refine ls_getR f_206_108 p_206_25 (lm_Lay_si (lm_Lay_si (lm_Lay_si (lm_Lay_si (lm_Lay_si (lm_Lay_si (lm_Lay_si (lm_Lay_si (lm_Lay_si hl _ _ _) _ _ _) _ _ _) _ _ _) _ _ _) _ _ _) _ _ _) _ _ _) _ _ _) S_92 F_92_3 ?_
    refine ls_bipush 86 f_206_111 (by decide) ?_
    refine ls_ialdC 86 f_206_113 (lm_Lay_si (lm_Lay_si (lm_Lay_si (lm_Lay_si (lm_Lay_si (lm_Lay_si (lm_Lay_si (lm_Lay_si (lm_Lay_si hl _ _ _) _ _ _) _ _ _) _ _ _) _ _ _) _ _ _) _ _ _) _ _ _) _ _ _) S_94 ⟨by decide, by decide, by decide⟩ ?_
    refine ls_top (lm_i h 94 86) rfl ?_
    refine ls_imul (400 * (lm_i h 94 86)) f_206_114 rfl ?_
    refine ls_putI f_206_115 p_206_219 (lm_Lay_si (lm_Lay_si (lm_Lay_si (lm_Lay_si (lm_Lay_si (lm_Lay_si (lm_Lay_si (lm_Lay_si (lm_Lay_si hl _ _ _) _ _ _) _ _ _) _ _ _) _ _ _) _ _ _) _ _ _) _ _ _) _ _ _) S_92 rfl ?_
    refine ls_aload_n f_206_118 rfl ?_
    refine ls_aload_n f_206_119 rfl ?_
    refine ls_getI f_206_120 p_206_219 (lm_Lay_si (lm_Lay_si (lm_Lay_si (lm_Lay_si (lm_Lay_si (lm_Lay_si (lm_Lay_si (lm_Lay_si (lm_Lay_si (lm_Lay_si hl _ _ _) _ _ _) _ _ _) _ _ _) _ _ _) _ _ _) _ _ _) _ _ _) _ _ _) _ _ _) S_92 ?_
    refine ls_top (400 * (lm_i h 94 86)) rfl ?_
    refine ls_aload_n f_206_123 rfl ?_
    refine ls_getR f_206_124 p_206_25 (lm_Lay_si (lm_Lay_si (lm_Lay_si (lm_Lay_si (lm_Lay_si (lm_Lay_si (lm_Lay_si (lm_Lay_si (lm_Lay_si (lm_Lay_si hl _ _ _) _ _ _) _ _ _) _ _ _) _ _ _) _ _ _) _ _ _) _ _ _) _ _ _) _ _ _) S_92 F_92_3 ?_
    refine ls_bipush 87 f_206_127 (by decide) ?_
    refine ls_aload_n f_206_129 rfl ?_
    refine ls_getR f_206_130 p_206_25 (lm_Lay_si (lm_Lay_si (lm_Lay_si (lm_Lay_si (lm_Lay_si (lm_Lay_si (lm_Lay_si (lm_Lay_si (lm_Lay_si (lm_Lay_si hl _ _ _) _ _ _) _ _ _) _ _ _) _ _ _) _ _ _) _ _ _) _ _ _) _ _ _) _ _ _) S_92 F_92_3 ?_
    refine ls_bipush 86 f_206_133 (by decide) ?_
    refine ls_ialdC 86 f_206_135 (lm_Lay_si (lm_Lay_si (lm_Lay_si (lm_Lay_si (lm_Lay_si (lm_Lay_si (lm_Lay_si (lm_Lay_si (lm_Lay_si (lm_Lay_si hl _ _ _) _ _ _) _ _ _) _ _ _) _ _ _) _ _ _) _ _ _) _ _ _) _ _ _) _ _ _) S_94 ⟨by decide, by decide, by decide⟩ ?_
    refine ls_top (lm_i h 94 86) rfl ?_
    refine ls_iadd (87 + (lm_i h 94 86)) f_206_136 rfl ?_
    refine ls_iald f_206_137 (lm_Lay_si (lm_Lay_si (lm_Lay_si (lm_Lay_si (lm_Lay_si (lm_Lay_si (lm_Lay_si (lm_Lay_si (lm_Lay_si (lm_Lay_si hl _ _ _) _ _ _) _ _ _) _ _ _) _ _ _) _ _ _) _ _ _) _ _ _) _ _ _) _ _ _) S_94 hyp (fun hyp => ?_)
    refine ls_top (lm_i h 94 ((87 + (lm_i h 94 86)).toNatClampNeg)) rfl ?_
    refine ls_iadd ((400 * (lm_i h 94 86)) + (lm_i h 94 ((87 + (lm_i h 94 86)).toNatClampNeg))) f_206_138 rfl ?_
    refine ls_putI f_206_139 p_206_216 (lm_Lay_si (lm_Lay_si (lm_Lay_si (lm_Lay_si (lm_Lay_si (lm_Lay_si (lm_Lay_si (lm_Lay_si (lm_Lay_si (lm_Lay_si hl _ _ _) _ _ _) _ _ _) _ _ _) _ _ _) _ _ _) _ _ _) _ _ _) _ _ _) _ _ _) S_92 rfl ?_
    exact ls_mask [true, false, false, false, false, false, false, false, false, false] [some (.ref 92), none, none, none, none, none, none, none, none, none] rfl hyp
theorem b_206_142 {d : Nat} {h : lm_H} {K : lm_H → Prop} (hl : lm_Lay h) (hyp : (if (lm_i h 92 19) < (lm_i h 92 20) then (lm_call (d) 196 [.ref 92, .int (lm_i h 92 19)] h (lm_kI fun r2 h1 => (if r2 = 2 then (lm_call (d) 197 [.ref 92, .int 3] (lm_si (lm_si (lm_si h1 92 21 0) 92 19 ((lm_i h1 92 19) + 1)) 92 21 0) (lm_kI fun r4 h3 => (if r4 = 0 then (if (lm_i h3 92 21) = 0 then (if (lm_i h3 92 24) = 0 then (lm_W (d) 206 142 [some (.ref 92), none, none, none, none, none, none, none, none, none] [] (lm_si (lm_si h3 92 24 1) 92 19 ((lm_i h3 92 19) + 1)) (lm_kV K)) else (lm_W (d) 206 142 [some (.ref 92), none, none, none, none, none, none, none, none, none] [] (lm_si (lm_si h3 92 24 1) 92 19 ((lm_i h3 92 19) + 1)) (lm_kV K))) else (lm_W (d) 206 142 [some (.ref 92), none, none, none, none, none, none, none, none, none] [] (lm_si h3 92 19 ((lm_i h3 92 19) + 1)) (lm_kV K))) else (lm_call (d) 202 [.ref 92, .int 1] h3 (lm_kI fun r6 h5 => (if r6 = 0 then (lm_W (d) 206 142 [some (.ref 92), none, none, none, none, none, none, none, none, none] [] (lm_si h5 92 19 ((lm_i h5 92 19) + 1)) (lm_kV K)) else (if (lm_i h5 92 21) = 0 then (if (lm_i h5 92 24) = 0 then (lm_W (d) 206 142 [some (.ref 92), none, none, none, none, none, none, none, none, none] [] (lm_si (lm_si h5 92 24 1) 92 19 ((lm_i h5 92 19) + 1)) (lm_kV K)) else (lm_W (d) 206 142 [some (.ref 92), none, none, none, none, none, none, none, none, none] [] (lm_si (lm_si h5 92 24 1) 92 19 ((lm_i h5 92 19) + 1)) (lm_kV K))) else (lm_W (d) 206 142 [some (.ref 92), none, none, none, none, none, none, none, none, none] [] (lm_si h5 92 19 ((lm_i h5 92 19) + 1)) (lm_kV K))))))))) else (lm_call (d) 199 [.ref 92, .int 1] (lm_si (lm_si h1 92 21 0) 92 19 ((lm_i h1 92 19) + 1)) (lm_kL fun r8 h7 => lm_call (d) 197 [.ref 92, .int 3] (lm_si h7 92 21 0) (lm_kI fun r10 h9 => (if r10 = 0 then (if (lm_i h9 92 21) = 0 then (if (lm_i h7 92 21) = 0 then (if (lm_i h9 92 24) = 0 then (if (lg_cmp r8 (-99)) < 0 then (lm_W (d) 206 142 [some (.ref 92), none, none, none, none, none, none, none, none, none] [] (lm_si (lm_si (lm_si h9 92 24 0) 92 23 (-99)) 92 19 ((lm_i h9 92 19) + 1)) (lm_kV K)) else (if 0 < (lg_cmp r8 99) then (lm_W (d) 206 142 [some (.ref 92), none, none, none, none, none, none, none, none, none] [] (lm_si (lm_si (lm_si h9 92 24 0) 92 23 99) 92 19 ((lm_i h9 92 19) + 1)) (lm_kV K)) else (lm_W (d) 206 142 [some (.ref 92), none, none, none, none, none, none, none, none, none] [] (lm_si (lm_si (lm_si h9 92 24 0) 92 23 r8.toInt32) 92 19 ((lm_i h9 92 19) + 1)) (lm_kV K)))) else (if (lg_cmp r8 (-99)) < 0 then (lm_W (d) 206 142 [some (.ref 92), none, none, none, none, none, none, none, none, none] [] (lm_si (lm_si (lm_si h9 92 24 1) 92 23 (-99)) 92 19 ((lm_i h9 92 19) + 1)) (lm_kV K)) else (if 0 < (lg_cmp r8 99) then (lm_W (d) 206 142 [some (.ref 92), none, none, none, none, none, none, none, none, none] [] (lm_si (lm_si (lm_si h9 92 24 1) 92 23 99) 92 19 ((lm_i h9 92 19) + 1)) (lm_kV K)) else (lm_W (d) 206 142 [some (.ref 92), none, none, none, none, none, none, none, none, none] [] (lm_si (lm_si (lm_si h9 92 24 1) 92 23 r8.toInt32) 92 19 ((lm_i h9 92 19) + 1)) (lm_kV K))))) else (lm_W (d) 206 142 [some (.ref 92), none, none, none, none, none, none, none, none, none] [] (lm_si h9 92 19 ((lm_i h9 92 19) + 1)) (lm_kV K))) else (lm_W (d) 206 142 [some (.ref 92), none, none, none, none, none, none, none, none, none] [] (lm_si h9 92 19 ((lm_i h9 92 19) + 1)) (lm_kV K))) else (lm_call (d) 202 [.ref 92, .int 1] h9 (lm_kI fun r12 h11 => (if r12 = 0 then (lm_W (d) 206 142 [some (.ref 92), none, none, none, none, none, none, none, none, none] [] (lm_si h11 92 19 ((lm_i h11 92 19) + 1)) (lm_kV K)) else (if (lm_i h11 92 21) = 0 then (if (lm_i h7 92 21) = 0 then (if (lm_i h11 92 24) = 0 then (if (lg_cmp r8 (-99)) < 0 then (lm_W (d) 206 142 [some (.ref 92), none, none, none, none, none, none, none, none, none] [] (lm_si (lm_si (lm_si h11 92 24 0) 92 23 (-99)) 92 19 ((lm_i h11 92 19) + 1)) (lm_kV K)) else (if 0 < (lg_cmp r8 99) then (lm_W (d) 206 142 [some (.ref 92), none, none, none, none, none, none, none, none, none] [] (lm_si (lm_si (lm_si h11 92 24 0) 92 23 99) 92 19 ((lm_i h11 92 19) + 1)) (lm_kV K)) else (lm_W (d) 206 142 [some (.ref 92), none, none, none, none, none, none, none, none, none] [] (lm_si (lm_si (lm_si h11 92 24 0) 92 23 r8.toInt32) 92 19 ((lm_i h11 92 19) + 1)) (lm_kV K)))) else (if (lg_cmp r8 (-99)) < 0 then (lm_W (d) 206 142 [some (.ref 92), none, none, none, none, none, none, none, none, none] [] (lm_si (lm_si (lm_si h11 92 24 1) 92 23 (-99)) 92 19 ((lm_i h11 92 19) + 1)) (lm_kV K)) else (if 0 < (lg_cmp r8 99) then (lm_W (d) 206 142 [some (.ref 92), none, none, none, none, none, none, none, none, none] [] (lm_si (lm_si (lm_si h11 92 24 1) 92 23 99) 92 19 ((lm_i h11 92 19) + 1)) (lm_kV K)) else (lm_W (d) 206 142 [some (.ref 92), none, none, none, none, none, none, none, none, none] [] (lm_si (lm_si (lm_si h11 92 24 1) 92 23 r8.toInt32) 92 19 ((lm_i h11 92 19) + 1)) (lm_kV K))))) else (lm_W (d) 206 142 [some (.ref 92), none, none, none, none, none, none, none, none, none] [] (lm_si h11 92 19 ((lm_i h11 92 19) + 1)) (lm_kV K))) else (lm_W (d) 206 142 [some (.ref 92), none, none, none, none, none, none, none, none, none] [] (lm_si h11 92 19 ((lm_i h11 92 19) + 1)) (lm_kV K))))))))))))) else (K h))) : lm_W (d) 206 142 [some (.ref 92), none, none, none, none, none, none, none, none, none] [] h (lm_kV K) := by
  refine ls_aload_n f_206_142 rfl ?_
  refine ls_getI f_206_143 p_206_219 hl S_92 ?_
  refine ls_aload_n f_206_146 rfl ?_
  refine ls_getI f_206_147 p_206_216 hl S_92 ?_
  refine ls_icmp_ge 328 f_206_150 rfl hyp (fun _ hyp => ?_) (fun _ hyp => ?_)
  · refine ls_aload_n f_206_153 rfl ?_
    refine ls_aload_n f_206_154 rfl ?_
    refine ls_getI f_206_155 p_206_219 hl S_92 ?_
    refine ls_invV (a := 92) f_206_158 q_206_222 [.int (lm_i h 92 19)] [] rfl (Nat.le_of_ble_eq_true rfl) hl S_92 ow_196 ?_
    refine ls_call hyp hl (fun _ h1 hl1 hyp => ?_)
    refine ls_retI hyp (fun r2 hyp => ?_)
    refine ls_iconst 2 f_206_161 (by decide) ?_
    refine ls_icmp_ne 169 f_206_162 rfl hyp (fun _ hyp => ?_) (fun _ hyp => ?_)
    · refine ls_iconst 1 f_206_165 (by decide) ?_
      refine ls_goto 170 f_206_166 rfl ?_
      refine ls_istore [some (.ref 92), none, none, none, none, some (.int 1), none, none, none, none] f_206_170 (Nat.le_of_ble_eq_true rfl) rfl ?_
      refine ls_aload_n f_206_172 rfl ?_
      refine ls_iconst 0 f_206_173 (by decide) ?_
      refine ls_putI f_206_174 p_206_229 hl1 S_92 (by decide) ?_
      refine ls_aload_n f_206_177 rfl ?_
      refine ls_dup f_206_178 rfl ?_
      refine ls_getI f_206_179 p_206_219 (lm_Lay_si hl1 _ _ _) S_92 ?_
      refine ls_top (lm_i h1 92 19) rfl ?_
      refine ls_iconst 1 f_206_182 (by decide) ?_
      refine ls_iadd ((lm_i h1 92 19) + 1) f_206_183 rfl ?_
      refine ls_putI f_206_184 p_206_219 (lm_Lay_si hl1 _ _ _) S_92 rfl ?_
      refine ls_iload f_206_187 rfl ?_
      refine ls_if_eq_F 196 f_206_189 rfl (by decide) ?_
      refine ls_lconst 0 f_206_192 (by decide) ?_
      refine ls_goto 201 f_206_193 rfl ?_
      refine ls_lstore [some (.ref 92), none, none, none, none, some (.int 1), some (.long 0), none, none, none] f_206_201 (Nat.le_of_ble_eq_true rfl) rfl ?_
      refine ls_aload_n f_206_203 rfl ?_
      refine ls_getI f_206_204 p_206_229 (lm_Lay_si (lm_Lay_si hl1 _ _ _) _ _ _) S_92 ?_
      refine ls_top 0 rfl ?_
      refine ls_istore [some (.ref 92), none, none, none, none, some (.int 1), some (.long 0), none, some (.int 0), none] f_206_207 (Nat.le_of_ble_eq_true rfl) rfl ?_
      refine ls_aload_n f_206_209 rfl ?_
      refine ls_iconst 0 f_206_210 (by decide) ?_
      refine ls_putI f_206_211 p_206_229 (lm_Lay_si (lm_Lay_si hl1 _ _ _) _ _ _) S_92 (by decide) ?_
      refine ls_aload_n f_206_214 rfl ?_
      refine ls_iconst 3 f_206_215 (by decide) ?_
      refine ls_invV (a := 92) f_206_216 q_206_244 [.int 3] [] rfl (Nat.le_of_ble_eq_true rfl) (lm_Lay_si (lm_Lay_si (lm_Lay_si hl1 _ _ _) _ _ _) _ _ _) S_92 ow_197 ?_
      refine ls_call hyp (lm_Lay_si (lm_Lay_si (lm_Lay_si hl1 _ _ _) _ _ _) _ _ _) (fun _ h3 hl3 hyp => ?_)
      refine ls_retI hyp (fun r4 hyp => ?_)
      refine ls_if_eq 230 f_206_219 rfl hyp (fun _ hyp => ?_) (fun _ hyp => ?_)
      · refine ls_iconst 1 f_206_230 (by decide) ?_
        refine ls_goto 235 f_206_231 rfl ?_
        refine ls_istore [some (.ref 92), none, none, none, none, some (.int 1), some (.long 0), none, some (.int 0), some (.int 1)] f_206_235 (Nat.le_of_ble_eq_true rfl) rfl ?_
        refine ls_iload f_206_237 rfl ?_
        refine ls_if_eq_F 315 f_206_239 rfl (by decide) ?_
        refine ls_aload_n f_206_242 rfl ?_
        refine ls_getI f_206_243 p_206_229 hl3 S_92 ?_
        refine ls_if_ne 315 f_206_246 rfl hyp (fun _ hyp => ?_) (fun _ hyp => ?_)
        · refine ls_iload f_206_249 rfl ?_
          refine ls_if_ne_T 315 f_206_251 rfl (by decide) ?_
          refine ls_aload_n f_206_254 rfl ?_
          refine ls_aload_n f_206_255 rfl ?_
          refine ls_getI f_206_256 p_206_266 hl3 S_92 ?_
          refine ls_if_ne 267 f_206_259 rfl hyp (fun _ hyp => ?_) (fun _ hyp => ?_)
          · refine ls_iload f_206_262 rfl ?_
            refine ls_if_eq_F 271 f_206_264 rfl (by decide) ?_
            refine ls_iconst 1 f_206_267 (by decide) ?_
            refine ls_goto 272 f_206_268 rfl ?_
            refine ls_putI f_206_272 p_206_266 hl3 S_92 (by decide) ?_
            refine ls_iload f_206_275 rfl ?_
            refine ls_if_ne_F 315 f_206_277 rfl (by decide) ?_
            refine ls_aload_n f_206_315 rfl ?_
            refine ls_dup f_206_316 rfl ?_
            refine ls_getI f_206_317 p_206_219 (lm_Lay_si hl3 _ _ _) S_92 ?_
            refine ls_top (lm_i h3 92 19) rfl ?_
            refine ls_iconst 1 f_206_320 (by decide) ?_
            refine ls_iadd ((lm_i h3 92 19) + 1) f_206_321 rfl ?_
            refine ls_putI f_206_322 p_206_219 (lm_Lay_si hl3 _ _ _) S_92 rfl ?_
            refine ls_goto 142 f_206_325 rfl ?_
            exact ls_mask [true, false, false, false, false, false, false, false, false, false] [some (.ref 92), none, none, none, none, none, none, none, none, none] rfl hyp
          · refine ls_iconst 1 f_206_267 (by decide) ?_
            refine ls_goto 272 f_206_268 rfl ?_
            refine ls_putI f_206_272 p_206_266 hl3 S_92 (by decide) ?_
            refine ls_iload f_206_275 rfl ?_
            refine ls_if_ne_F 315 f_206_277 rfl (by decide) ?_
            refine ls_aload_n f_206_315 rfl ?_
            refine ls_dup f_206_316 rfl ?_
            refine ls_getI f_206_317 p_206_219 (lm_Lay_si hl3 _ _ _) S_92 ?_
            refine ls_top (lm_i h3 92 19) rfl ?_
            refine ls_iconst 1 f_206_320 (by decide) ?_
            refine ls_iadd ((lm_i h3 92 19) + 1) f_206_321 rfl ?_
            refine ls_putI f_206_322 p_206_219 (lm_Lay_si hl3 _ _ _) S_92 rfl ?_
            refine ls_goto 142 f_206_325 rfl ?_
            exact ls_mask [true, false, false, false, false, false, false, false, false, false] [some (.ref 92), none, none, none, none, none, none, none, none, none] rfl hyp
        · refine ls_aload_n f_206_315 rfl ?_
          refine ls_dup f_206_316 rfl ?_
          refine ls_getI f_206_317 p_206_219 hl3 S_92 ?_
          refine ls_iconst 1 f_206_320 (by decide) ?_
          refine ls_iadd ((lm_i h3 92 19) + 1) f_206_321 rfl ?_
          refine ls_putI f_206_322 p_206_219 hl3 S_92 rfl ?_
          refine ls_goto 142 f_206_325 rfl ?_
          exact ls_mask [true, false, false, false, false, false, false, false, false, false] [some (.ref 92), none, none, none, none, none, none, none, none, none] rfl hyp
      · refine ls_aload_n f_206_222 rfl ?_
        refine ls_iconst 1 f_206_223 (by decide) ?_
        refine ls_invV (a := 92) f_206_224 q_206_260 [.int 1] [] rfl (Nat.le_of_ble_eq_true rfl) hl3 S_92 ow_202 ?_
        refine ls_call hyp hl3 (fun _ h5 hl5 hyp => ?_)
        refine ls_retI hyp (fun r6 hyp => ?_)
        refine ls_if_eq 234 f_206_227 rfl hyp (fun _ hyp => ?_) (fun _ hyp => ?_)
        · refine ls_iconst 0 f_206_234 (by decide) ?_
          refine ls_istore [some (.ref 92), none, none, none, none, some (.int 1), some (.long 0), none, some (.int 0), some (.int 0)] f_206_235 (Nat.le_of_ble_eq_true rfl) rfl ?_
          refine ls_iload f_206_237 rfl ?_
          refine ls_if_eq_T 315 f_206_239 rfl (by decide) ?_
          refine ls_aload_n f_206_315 rfl ?_
          refine ls_dup f_206_316 rfl ?_
          refine ls_getI f_206_317 p_206_219 hl5 S_92 ?_
          refine ls_iconst 1 f_206_320 (by decide) ?_
          refine ls_iadd ((lm_i h5 92 19) + 1) f_206_321 rfl ?_
          refine ls_putI f_206_322 p_206_219 hl5 S_92 rfl ?_
          refine ls_goto 142 f_206_325 rfl ?_
          exact ls_mask [true, false, false, false, false, false, false, false, false, false] [some (.ref 92), none, none, none, none, none, none, none, none, none] rfl hyp
        · refine ls_iconst 1 f_206_230 (by decide) ?_
          refine ls_goto 235 f_206_231 rfl ?_
          refine ls_istore [some (.ref 92), none, none, none, none, some (.int 1), some (.long 0), none, some (.int 0), some (.int 1)] f_206_235 (Nat.le_of_ble_eq_true rfl) rfl ?_
          refine ls_iload f_206_237 rfl ?_
          refine ls_if_eq_F 315 f_206_239 rfl (by decide) ?_
          refine ls_aload_n f_206_242 rfl ?_
          refine ls_getI f_206_243 p_206_229 hl5 S_92 ?_
          refine ls_if_ne 315 f_206_246 rfl hyp (fun _ hyp => ?_) (fun _ hyp => ?_)
          · refine ls_iload f_206_249 rfl ?_
            refine ls_if_ne_T 315 f_206_251 rfl (by decide) ?_
            refine ls_aload_n f_206_254 rfl ?_
            refine ls_aload_n f_206_255 rfl ?_
            refine ls_getI f_206_256 p_206_266 hl5 S_92 ?_
            refine ls_if_ne 267 f_206_259 rfl hyp (fun _ hyp => ?_) (fun _ hyp => ?_)
            · refine ls_iload f_206_262 rfl ?_
              refine ls_if_eq_F 271 f_206_264 rfl (by decide) ?_
              refine ls_iconst 1 f_206_267 (by decide) ?_
              refine ls_goto 272 f_206_268 rfl ?_
              refine ls_putI f_206_272 p_206_266 hl5 S_92 (by decide) ?_
              refine ls_iload f_206_275 rfl ?_
              refine ls_if_ne_F 315 f_206_277 rfl (by decide) ?_
              refine ls_aload_n f_206_315 rfl ?_
              refine ls_dup f_206_316 rfl ?_
              refine ls_getI f_206_317 p_206_219 (lm_Lay_si hl5 _ _ _) S_92 ?_
              refine ls_top (lm_i h5 92 19) rfl ?_
              refine ls_iconst 1 f_206_320 (by decide) ?_
              refine ls_iadd ((lm_i h5 92 19) + 1) f_206_321 rfl ?_
              refine ls_putI f_206_322 p_206_219 (lm_Lay_si hl5 _ _ _) S_92 rfl ?_
              refine ls_goto 142 f_206_325 rfl ?_
              exact ls_mask [true, false, false, false, false, false, false, false, false, false] [some (.ref 92), none, none, none, none, none, none, none, none, none] rfl hyp
            · refine ls_iconst 1 f_206_267 (by decide) ?_
              refine ls_goto 272 f_206_268 rfl ?_
              refine ls_putI f_206_272 p_206_266 hl5 S_92 (by decide) ?_
              refine ls_iload f_206_275 rfl ?_
              refine ls_if_ne_F 315 f_206_277 rfl (by decide) ?_
              refine ls_aload_n f_206_315 rfl ?_
              refine ls_dup f_206_316 rfl ?_
              refine ls_getI f_206_317 p_206_219 (lm_Lay_si hl5 _ _ _) S_92 ?_
              refine ls_top (lm_i h5 92 19) rfl ?_
              refine ls_iconst 1 f_206_320 (by decide) ?_
              refine ls_iadd ((lm_i h5 92 19) + 1) f_206_321 rfl ?_
              refine ls_putI f_206_322 p_206_219 (lm_Lay_si hl5 _ _ _) S_92 rfl ?_
              refine ls_goto 142 f_206_325 rfl ?_
              exact ls_mask [true, false, false, false, false, false, false, false, false, false] [some (.ref 92), none, none, none, none, none, none, none, none, none] rfl hyp
          · refine ls_aload_n f_206_315 rfl ?_
            refine ls_dup f_206_316 rfl ?_
            refine ls_getI f_206_317 p_206_219 hl5 S_92 ?_
            refine ls_iconst 1 f_206_320 (by decide) ?_
            refine ls_iadd ((lm_i h5 92 19) + 1) f_206_321 rfl ?_
            refine ls_putI f_206_322 p_206_219 hl5 S_92 rfl ?_
            refine ls_goto 142 f_206_325 rfl ?_
            exact ls_mask [true, false, false, false, false, false, false, false, false, false] [some (.ref 92), none, none, none, none, none, none, none, none, none] rfl hyp
    · refine ls_iconst 0 f_206_169 (by decide) ?_
      refine ls_istore [some (.ref 92), none, none, none, none, some (.int 0), none, none, none, none] f_206_170 (Nat.le_of_ble_eq_true rfl) rfl ?_
      refine ls_aload_n f_206_172 rfl ?_
      refine ls_iconst 0 f_206_173 (by decide) ?_
      refine ls_putI f_206_174 p_206_229 hl1 S_92 (by decide) ?_
      refine ls_aload_n f_206_177 rfl ?_
      refine ls_dup f_206_178 rfl ?_
      refine ls_getI f_206_179 p_206_219 (lm_Lay_si hl1 _ _ _) S_92 ?_
      refine ls_top (lm_i h1 92 19) rfl ?_
      refine ls_iconst 1 f_206_182 (by decide) ?_
      refine ls_iadd ((lm_i h1 92 19) + 1) f_206_183 rfl ?_
      refine ls_putI f_206_184 p_206_219 (lm_Lay_si hl1 _ _ _) S_92 rfl ?_
      refine ls_iload f_206_187 rfl ?_
      refine ls_if_eq_T 196 f_206_189 rfl (by decide) ?_
      refine ls_aload_n f_206_196 rfl ?_
      refine ls_iconst 1 f_206_197 (by decide) ?_
      refine ls_invV (a := 92) f_206_198 q_206_247 [.int 1] [] rfl (Nat.le_of_ble_eq_true rfl) (lm_Lay_si (lm_Lay_si hl1 _ _ _) _ _ _) S_92 ow_199 ?_
      refine ls_call hyp (lm_Lay_si (lm_Lay_si hl1 _ _ _) _ _ _) (fun _ h7 hl7 hyp => ?_)
      refine ls_retL hyp (fun r8 hyp => ?_)
      refine ls_lstore [some (.ref 92), none, none, none, none, some (.int 0), some (.long r8), none, none, none] f_206_201 (Nat.le_of_ble_eq_true rfl) rfl ?_
      refine ls_aload_n f_206_203 rfl ?_
      refine ls_getI f_206_204 p_206_229 hl7 S_92 ?_
      refine ls_istore [some (.ref 92), none, none, none, none, some (.int 0), some (.long r8), none, some (.int (lm_i h7 92 21)), none] f_206_207 (Nat.le_of_ble_eq_true rfl) rfl ?_
      refine ls_aload_n f_206_209 rfl ?_
      refine ls_iconst 0 f_206_210 (by decide) ?_
      refine ls_putI f_206_211 p_206_229 hl7 S_92 (by decide) ?_
      refine ls_aload_n f_206_214 rfl ?_
      refine ls_iconst 3 f_206_215 (by decide) ?_
      refine ls_invV (a := 92) f_206_216 q_206_244 [.int 3] [] rfl (Nat.le_of_ble_eq_true rfl) (lm_Lay_si hl7 _ _ _) S_92 ow_197 ?_
      refine ls_call hyp (lm_Lay_si hl7 _ _ _) (fun _ h9 hl9 hyp => ?_)
      refine ls_retI hyp (fun r10 hyp => ?_)
      refine ls_if_eq 230 f_206_219 rfl hyp (fun _ hyp => ?_) (fun _ hyp => ?_)
      · refine ls_iconst 1 f_206_230 (by decide) ?_
        refine ls_goto 235 f_206_231 rfl ?_
        refine ls_istore [some (.ref 92), none, none, none, none, some (.int 0), some (.long r8), none, some (.int (lm_i h7 92 21)), some (.int 1)] f_206_235 (Nat.le_of_ble_eq_true rfl) rfl ?_
        refine ls_iload f_206_237 rfl ?_
        refine ls_if_eq_F 315 f_206_239 rfl (by decide) ?_
        refine ls_aload_n f_206_242 rfl ?_
        refine ls_getI f_206_243 p_206_229 hl9 S_92 ?_
        refine ls_if_ne 315 f_206_246 rfl hyp (fun _ hyp => ?_) (fun _ hyp => ?_)
        · refine ls_iload f_206_249 rfl ?_
          refine ls_if_ne 315 f_206_251 rfl hyp (fun _ hyp => ?_) (fun _ hyp => ?_)
          · refine ls_aload_n f_206_254 rfl ?_
            refine ls_aload_n f_206_255 rfl ?_
            refine ls_getI f_206_256 p_206_266 hl9 S_92 ?_
            refine ls_if_ne 267 f_206_259 rfl hyp (fun _ hyp => ?_) (fun _ hyp => ?_)
            · refine ls_iload f_206_262 rfl ?_
              refine ls_if_eq_T 271 f_206_264 rfl (by decide) ?_
              refine ls_iconst 0 f_206_271 (by decide) ?_
              refine ls_putI f_206_272 p_206_266 hl9 S_92 (by decide) ?_
              refine ls_iload f_206_275 rfl ?_
              refine ls_if_ne_T 315 f_206_277 rfl (by decide) ?_
              refine ls_aload_n f_206_280 rfl ?_
              refine ls_lload f_206_281 rfl ?_
              refine ls_ldc2 f_206_283 k_206_269 ?_
              refine ls_lcmp f_206_286 ?_
              refine ls_if_ge 295 f_206_287 rfl hyp (fun _ hyp => ?_) (fun _ hyp => ?_)
              · refine ls_bipush (-99) f_206_290 (by decide) ?_
                refine ls_goto 312 f_206_292 rfl ?_
                refine ls_putI f_206_312 p_206_263 (lm_Lay_si hl9 _ _ _) S_92 rfl ?_
                refine ls_aload_n f_206_315 rfl ?_
                refine ls_dup f_206_316 rfl ?_
                refine ls_getI f_206_317 p_206_219 (lm_Lay_si (lm_Lay_si hl9 _ _ _) _ _ _) S_92 ?_
                refine ls_top (lm_i h9 92 19) rfl ?_
                refine ls_iconst 1 f_206_320 (by decide) ?_
                refine ls_iadd ((lm_i h9 92 19) + 1) f_206_321 rfl ?_
                refine ls_putI f_206_322 p_206_219 (lm_Lay_si (lm_Lay_si hl9 _ _ _) _ _ _) S_92 rfl ?_
                refine ls_goto 142 f_206_325 rfl ?_
                exact ls_mask [true, false, false, false, false, false, false, false, false, false] [some (.ref 92), none, none, none, none, none, none, none, none, none] rfl hyp
              · refine ls_lload f_206_295 rfl ?_
                refine ls_ldc2 f_206_297 k_206_271 ?_
                refine ls_lcmp f_206_300 ?_
                refine ls_if_le 309 f_206_301 rfl hyp (fun _ hyp => ?_) (fun _ hyp => ?_)
                · refine ls_bipush 99 f_206_304 (by decide) ?_
                  refine ls_goto 312 f_206_306 rfl ?_
                  refine ls_putI f_206_312 p_206_263 (lm_Lay_si hl9 _ _ _) S_92 rfl ?_
                  refine ls_aload_n f_206_315 rfl ?_
                  refine ls_dup f_206_316 rfl ?_
                  refine ls_getI f_206_317 p_206_219 (lm_Lay_si (lm_Lay_si hl9 _ _ _) _ _ _) S_92 ?_
                  refine ls_top (lm_i h9 92 19) rfl ?_
                  refine ls_iconst 1 f_206_320 (by decide) ?_
                  refine ls_iadd ((lm_i h9 92 19) + 1) f_206_321 rfl ?_
                  refine ls_putI f_206_322 p_206_219 (lm_Lay_si (lm_Lay_si hl9 _ _ _) _ _ _) S_92 rfl ?_
                  refine ls_goto 142 f_206_325 rfl ?_
                  exact ls_mask [true, false, false, false, false, false, false, false, false, false] [some (.ref 92), none, none, none, none, none, none, none, none, none] rfl hyp
                · refine ls_lload f_206_309 rfl ?_
                  refine ls_l2i r8.toInt32 f_206_311 rfl ?_
                  refine ls_putI f_206_312 p_206_263 (lm_Lay_si hl9 _ _ _) S_92 rfl ?_
                  refine ls_aload_n f_206_315 rfl ?_
                  refine ls_dup f_206_316 rfl ?_
                  refine ls_getI f_206_317 p_206_219 (lm_Lay_si (lm_Lay_si hl9 _ _ _) _ _ _) S_92 ?_
                  refine ls_top (lm_i h9 92 19) rfl ?_
                  refine ls_iconst 1 f_206_320 (by decide) ?_
                  refine ls_iadd ((lm_i h9 92 19) + 1) f_206_321 rfl ?_
                  refine ls_putI f_206_322 p_206_219 (lm_Lay_si (lm_Lay_si hl9 _ _ _) _ _ _) S_92 rfl ?_
                  refine ls_goto 142 f_206_325 rfl ?_
                  exact ls_mask [true, false, false, false, false, false, false, false, false, false] [some (.ref 92), none, none, none, none, none, none, none, none, none] rfl hyp
            · refine ls_iconst 1 f_206_267 (by decide) ?_
              refine ls_goto 272 f_206_268 rfl ?_
              refine ls_putI f_206_272 p_206_266 hl9 S_92 (by decide) ?_
              refine ls_iload f_206_275 rfl ?_
              refine ls_if_ne_T 315 f_206_277 rfl (by decide) ?_
              refine ls_aload_n f_206_280 rfl ?_
              refine ls_lload f_206_281 rfl ?_
              refine ls_ldc2 f_206_283 k_206_269 ?_
              refine ls_lcmp f_206_286 ?_
              refine ls_if_ge 295 f_206_287 rfl hyp (fun _ hyp => ?_) (fun _ hyp => ?_)
              · refine ls_bipush (-99) f_206_290 (by decide) ?_
                refine ls_goto 312 f_206_292 rfl ?_
                refine ls_putI f_206_312 p_206_263 (lm_Lay_si hl9 _ _ _) S_92 rfl ?_
                refine ls_aload_n f_206_315 rfl ?_
                refine ls_dup f_206_316 rfl ?_
                refine ls_getI f_206_317 p_206_219 (lm_Lay_si (lm_Lay_si hl9 _ _ _) _ _ _) S_92 ?_
                refine ls_top (lm_i h9 92 19) rfl ?_
                refine ls_iconst 1 f_206_320 (by decide) ?_
                refine ls_iadd ((lm_i h9 92 19) + 1) f_206_321 rfl ?_
                refine ls_putI f_206_322 p_206_219 (lm_Lay_si (lm_Lay_si hl9 _ _ _) _ _ _) S_92 rfl ?_
                refine ls_goto 142 f_206_325 rfl ?_
                exact ls_mask [true, false, false, false, false, false, false, false, false, false] [some (.ref 92), none, none, none, none, none, none, none, none, none] rfl hyp
              · refine ls_lload f_206_295 rfl ?_
                refine ls_ldc2 f_206_297 k_206_271 ?_
                refine ls_lcmp f_206_300 ?_
                refine ls_if_le 309 f_206_301 rfl hyp (fun _ hyp => ?_) (fun _ hyp => ?_)
                · refine ls_bipush 99 f_206_304 (by decide) ?_
                  refine ls_goto 312 f_206_306 rfl ?_
                  refine ls_putI f_206_312 p_206_263 (lm_Lay_si hl9 _ _ _) S_92 rfl ?_
                  refine ls_aload_n f_206_315 rfl ?_
                  refine ls_dup f_206_316 rfl ?_
                  refine ls_getI f_206_317 p_206_219 (lm_Lay_si (lm_Lay_si hl9 _ _ _) _ _ _) S_92 ?_
                  refine ls_top (lm_i h9 92 19) rfl ?_
                  refine ls_iconst 1 f_206_320 (by decide) ?_
                  refine ls_iadd ((lm_i h9 92 19) + 1) f_206_321 rfl ?_
                  refine ls_putI f_206_322 p_206_219 (lm_Lay_si (lm_Lay_si hl9 _ _ _) _ _ _) S_92 rfl ?_
                  refine ls_goto 142 f_206_325 rfl ?_
                  exact ls_mask [true, false, false, false, false, false, false, false, false, false] [some (.ref 92), none, none, none, none, none, none, none, none, none] rfl hyp
                · refine ls_lload f_206_309 rfl ?_
                  refine ls_l2i r8.toInt32 f_206_311 rfl ?_
                  refine ls_putI f_206_312 p_206_263 (lm_Lay_si hl9 _ _ _) S_92 rfl ?_
                  refine ls_aload_n f_206_315 rfl ?_
                  refine ls_dup f_206_316 rfl ?_
                  refine ls_getI f_206_317 p_206_219 (lm_Lay_si (lm_Lay_si hl9 _ _ _) _ _ _) S_92 ?_
                  refine ls_top (lm_i h9 92 19) rfl ?_
                  refine ls_iconst 1 f_206_320 (by decide) ?_
                  refine ls_iadd ((lm_i h9 92 19) + 1) f_206_321 rfl ?_
                  refine ls_putI f_206_322 p_206_219 (lm_Lay_si (lm_Lay_si hl9 _ _ _) _ _ _) S_92 rfl ?_
                  refine ls_goto 142 f_206_325 rfl ?_
                  exact ls_mask [true, false, false, false, false, false, false, false, false, false] [some (.ref 92), none, none, none, none, none, none, none, none, none] rfl hyp
          · refine ls_aload_n f_206_315 rfl ?_
            refine ls_dup f_206_316 rfl ?_
            refine ls_getI f_206_317 p_206_219 hl9 S_92 ?_
            refine ls_iconst 1 f_206_320 (by decide) ?_
            refine ls_iadd ((lm_i h9 92 19) + 1) f_206_321 rfl ?_
            refine ls_putI f_206_322 p_206_219 hl9 S_92 rfl ?_
            refine ls_goto 142 f_206_325 rfl ?_
            exact ls_mask [true, false, false, false, false, false, false, false, false, false] [some (.ref 92), none, none, none, none, none, none, none, none, none] rfl hyp
        · refine ls_aload_n f_206_315 rfl ?_
          refine ls_dup f_206_316 rfl ?_
          refine ls_getI f_206_317 p_206_219 hl9 S_92 ?_
          refine ls_iconst 1 f_206_320 (by decide) ?_
          refine ls_iadd ((lm_i h9 92 19) + 1) f_206_321 rfl ?_
          refine ls_putI f_206_322 p_206_219 hl9 S_92 rfl ?_
          refine ls_goto 142 f_206_325 rfl ?_
          exact ls_mask [true, false, false, false, false, false, false, false, false, false] [some (.ref 92), none, none, none, none, none, none, none, none, none] rfl hyp
      · refine ls_aload_n f_206_222 rfl ?_
        refine ls_iconst 1 f_206_223 (by decide) ?_
        refine ls_invV (a := 92) f_206_224 q_206_260 [.int 1] [] rfl (Nat.le_of_ble_eq_true rfl) hl9 S_92 ow_202 ?_
        refine ls_call hyp hl9 (fun _ h11 hl11 hyp => ?_)
        refine ls_retI hyp (fun r12 hyp => ?_)
        refine ls_if_eq 234 f_206_227 rfl hyp (fun _ hyp => ?_) (fun _ hyp => ?_)
        · refine ls_iconst 0 f_206_234 (by decide) ?_
          refine ls_istore [some (.ref 92), none, none, none, none, some (.int 0), some (.long r8), none, some (.int (lm_i h7 92 21)), some (.int 0)] f_206_235 (Nat.le_of_ble_eq_true rfl) rfl ?_
          refine ls_iload f_206_237 rfl ?_
          refine ls_if_eq_T 315 f_206_239 rfl (by decide) ?_
          refine ls_aload_n f_206_315 rfl ?_
          refine ls_dup f_206_316 rfl ?_
          refine ls_getI f_206_317 p_206_219 hl11 S_92 ?_
          refine ls_iconst 1 f_206_320 (by decide) ?_
          refine ls_iadd ((lm_i h11 92 19) + 1) f_206_321 rfl ?_
          refine ls_putI f_206_322 p_206_219 hl11 S_92 rfl ?_
          refine ls_goto 142 f_206_325 rfl ?_
          exact ls_mask [true, false, false, false, false, false, false, false, false, false] [some (.ref 92), none, none, none, none, none, none, none, none, none] rfl hyp
        · refine ls_iconst 1 f_206_230 (by decide) ?_
          refine ls_goto 235 f_206_231 rfl ?_
          refine ls_istore [some (.ref 92), none, none, none, none, some (.int 0), some (.long r8), none, some (.int (lm_i h7 92 21)), some (.int 1)] f_206_235 (Nat.le_of_ble_eq_true rfl) rfl ?_
          refine ls_iload f_206_237 rfl ?_
          refine ls_if_eq_F 315 f_206_239 rfl (by decide) ?_
          refine ls_aload_n f_206_242 rfl ?_
          refine ls_getI f_206_243 p_206_229 hl11 S_92 ?_
          refine ls_if_ne 315 f_206_246 rfl hyp (fun _ hyp => ?_) (fun _ hyp => ?_)
          · refine ls_iload f_206_249 rfl ?_
            refine ls_if_ne 315 f_206_251 rfl hyp (fun _ hyp => ?_) (fun _ hyp => ?_)
            · refine ls_aload_n f_206_254 rfl ?_
              refine ls_aload_n f_206_255 rfl ?_
              refine ls_getI f_206_256 p_206_266 hl11 S_92 ?_
              refine ls_if_ne 267 f_206_259 rfl hyp (fun _ hyp => ?_) (fun _ hyp => ?_)
              · refine ls_iload f_206_262 rfl ?_
                refine ls_if_eq_T 271 f_206_264 rfl (by decide) ?_
                refine ls_iconst 0 f_206_271 (by decide) ?_
                refine ls_putI f_206_272 p_206_266 hl11 S_92 (by decide) ?_
                refine ls_iload f_206_275 rfl ?_
                refine ls_if_ne_T 315 f_206_277 rfl (by decide) ?_
                refine ls_aload_n f_206_280 rfl ?_
                refine ls_lload f_206_281 rfl ?_
                refine ls_ldc2 f_206_283 k_206_269 ?_
                refine ls_lcmp f_206_286 ?_
                refine ls_if_ge 295 f_206_287 rfl hyp (fun _ hyp => ?_) (fun _ hyp => ?_)
                · refine ls_bipush (-99) f_206_290 (by decide) ?_
                  refine ls_goto 312 f_206_292 rfl ?_
                  refine ls_putI f_206_312 p_206_263 (lm_Lay_si hl11 _ _ _) S_92 rfl ?_
                  refine ls_aload_n f_206_315 rfl ?_
                  refine ls_dup f_206_316 rfl ?_
                  refine ls_getI f_206_317 p_206_219 (lm_Lay_si (lm_Lay_si hl11 _ _ _) _ _ _) S_92 ?_
                  refine ls_top (lm_i h11 92 19) rfl ?_
                  refine ls_iconst 1 f_206_320 (by decide) ?_
                  refine ls_iadd ((lm_i h11 92 19) + 1) f_206_321 rfl ?_
                  refine ls_putI f_206_322 p_206_219 (lm_Lay_si (lm_Lay_si hl11 _ _ _) _ _ _) S_92 rfl ?_
                  refine ls_goto 142 f_206_325 rfl ?_
                  exact ls_mask [true, false, false, false, false, false, false, false, false, false] [some (.ref 92), none, none, none, none, none, none, none, none, none] rfl hyp
                · refine ls_lload f_206_295 rfl ?_
                  refine ls_ldc2 f_206_297 k_206_271 ?_
                  refine ls_lcmp f_206_300 ?_
                  refine ls_if_le 309 f_206_301 rfl hyp (fun _ hyp => ?_) (fun _ hyp => ?_)
                  · refine ls_bipush 99 f_206_304 (by decide) ?_
                    refine ls_goto 312 f_206_306 rfl ?_
                    refine ls_putI f_206_312 p_206_263 (lm_Lay_si hl11 _ _ _) S_92 rfl ?_
                    refine ls_aload_n f_206_315 rfl ?_
                    refine ls_dup f_206_316 rfl ?_
                    refine ls_getI f_206_317 p_206_219 (lm_Lay_si (lm_Lay_si hl11 _ _ _) _ _ _) S_92 ?_
                    refine ls_top (lm_i h11 92 19) rfl ?_
                    refine ls_iconst 1 f_206_320 (by decide) ?_
                    refine ls_iadd ((lm_i h11 92 19) + 1) f_206_321 rfl ?_
                    refine ls_putI f_206_322 p_206_219 (lm_Lay_si (lm_Lay_si hl11 _ _ _) _ _ _) S_92 rfl ?_
                    refine ls_goto 142 f_206_325 rfl ?_
                    exact ls_mask [true, false, false, false, false, false, false, false, false, false] [some (.ref 92), none, none, none, none, none, none, none, none, none] rfl hyp
                  · refine ls_lload f_206_309 rfl ?_
                    refine ls_l2i r8.toInt32 f_206_311 rfl ?_
                    refine ls_putI f_206_312 p_206_263 (lm_Lay_si hl11 _ _ _) S_92 rfl ?_
                    refine ls_aload_n f_206_315 rfl ?_
                    refine ls_dup f_206_316 rfl ?_
                    refine ls_getI f_206_317 p_206_219 (lm_Lay_si (lm_Lay_si hl11 _ _ _) _ _ _) S_92 ?_
                    refine ls_top (lm_i h11 92 19) rfl ?_
                    refine ls_iconst 1 f_206_320 (by decide) ?_
                    refine ls_iadd ((lm_i h11 92 19) + 1) f_206_321 rfl ?_
                    refine ls_putI f_206_322 p_206_219 (lm_Lay_si (lm_Lay_si hl11 _ _ _) _ _ _) S_92 rfl ?_
                    refine ls_goto 142 f_206_325 rfl ?_
                    exact ls_mask [true, false, false, false, false, false, false, false, false, false] [some (.ref 92), none, none, none, none, none, none, none, none, none] rfl hyp
              · refine ls_iconst 1 f_206_267 (by decide) ?_
                refine ls_goto 272 f_206_268 rfl ?_
                refine ls_putI f_206_272 p_206_266 hl11 S_92 (by decide) ?_
                refine ls_iload f_206_275 rfl ?_
                refine ls_if_ne_T 315 f_206_277 rfl (by decide) ?_
                refine ls_aload_n f_206_280 rfl ?_
                refine ls_lload f_206_281 rfl ?_
                refine ls_ldc2 f_206_283 k_206_269 ?_
                refine ls_lcmp f_206_286 ?_
                refine ls_if_ge 295 f_206_287 rfl hyp (fun _ hyp => ?_) (fun _ hyp => ?_)
                · refine ls_bipush (-99) f_206_290 (by decide) ?_
                  refine ls_goto 312 f_206_292 rfl ?_
                  refine ls_putI f_206_312 p_206_263 (lm_Lay_si hl11 _ _ _) S_92 rfl ?_
                  refine ls_aload_n f_206_315 rfl ?_
                  refine ls_dup f_206_316 rfl ?_
                  refine ls_getI f_206_317 p_206_219 (lm_Lay_si (lm_Lay_si hl11 _ _ _) _ _ _) S_92 ?_
                  refine ls_top (lm_i h11 92 19) rfl ?_
                  refine ls_iconst 1 f_206_320 (by decide) ?_
                  refine ls_iadd ((lm_i h11 92 19) + 1) f_206_321 rfl ?_
                  refine ls_putI f_206_322 p_206_219 (lm_Lay_si (lm_Lay_si hl11 _ _ _) _ _ _) S_92 rfl ?_
                  refine ls_goto 142 f_206_325 rfl ?_
                  exact ls_mask [true, false, false, false, false, false, false, false, false, false] [some (.ref 92), none, none, none, none, none, none, none, none, none] rfl hyp
                · refine ls_lload f_206_295 rfl ?_
                  refine ls_ldc2 f_206_297 k_206_271 ?_
                  refine ls_lcmp f_206_300 ?_
                  refine ls_if_le 309 f_206_301 rfl hyp (fun _ hyp => ?_) (fun _ hyp => ?_)
                  · refine ls_bipush 99 f_206_304 (by decide) ?_
                    refine ls_goto 312 f_206_306 rfl ?_
                    refine ls_putI f_206_312 p_206_263 (lm_Lay_si hl11 _ _ _) S_92 rfl ?_
                    refine ls_aload_n f_206_315 rfl ?_
                    refine ls_dup f_206_316 rfl ?_
                    refine ls_getI f_206_317 p_206_219 (lm_Lay_si (lm_Lay_si hl11 _ _ _) _ _ _) S_92 ?_
                    refine ls_top (lm_i h11 92 19) rfl ?_
                    refine ls_iconst 1 f_206_320 (by decide) ?_
                    refine ls_iadd ((lm_i h11 92 19) + 1) f_206_321 rfl ?_
                    refine ls_putI f_206_322 p_206_219 (lm_Lay_si (lm_Lay_si hl11 _ _ _) _ _ _) S_92 rfl ?_
                    refine ls_goto 142 f_206_325 rfl ?_
                    exact ls_mask [true, false, false, false, false, false, false, false, false, false] [some (.ref 92), none, none, none, none, none, none, none, none, none] rfl hyp
                  · refine ls_lload f_206_309 rfl ?_
                    refine ls_l2i r8.toInt32 f_206_311 rfl ?_
                    refine ls_putI f_206_312 p_206_263 (lm_Lay_si hl11 _ _ _) S_92 rfl ?_
                    refine ls_aload_n f_206_315 rfl ?_
                    refine ls_dup f_206_316 rfl ?_
                    refine ls_getI f_206_317 p_206_219 (lm_Lay_si (lm_Lay_si hl11 _ _ _) _ _ _) S_92 ?_
                    refine ls_top (lm_i h11 92 19) rfl ?_
                    refine ls_iconst 1 f_206_320 (by decide) ?_
                    refine ls_iadd ((lm_i h11 92 19) + 1) f_206_321 rfl ?_
                    refine ls_putI f_206_322 p_206_219 (lm_Lay_si (lm_Lay_si hl11 _ _ _) _ _ _) S_92 rfl ?_
                    refine ls_goto 142 f_206_325 rfl ?_
                    exact ls_mask [true, false, false, false, false, false, false, false, false, false] [some (.ref 92), none, none, none, none, none, none, none, none, none] rfl hyp
            · refine ls_aload_n f_206_315 rfl ?_
              refine ls_dup f_206_316 rfl ?_
              refine ls_getI f_206_317 p_206_219 hl11 S_92 ?_
              refine ls_iconst 1 f_206_320 (by decide) ?_
              refine ls_iadd ((lm_i h11 92 19) + 1) f_206_321 rfl ?_
              refine ls_putI f_206_322 p_206_219 hl11 S_92 rfl ?_
              refine ls_goto 142 f_206_325 rfl ?_
              exact ls_mask [true, false, false, false, false, false, false, false, false, false] [some (.ref 92), none, none, none, none, none, none, none, none, none] rfl hyp
          · refine ls_aload_n f_206_315 rfl ?_
            refine ls_dup f_206_316 rfl ?_
            refine ls_getI f_206_317 p_206_219 hl11 S_92 ?_
            refine ls_iconst 1 f_206_320 (by decide) ?_
            refine ls_iadd ((lm_i h11 92 19) + 1) f_206_321 rfl ?_
            refine ls_putI f_206_322 p_206_219 hl11 S_92 rfl ?_
            refine ls_goto 142 f_206_325 rfl ?_
            exact ls_mask [true, false, false, false, false, false, false, false, false, false] [some (.ref 92), none, none, none, none, none, none, none, none, none] rfl hyp
  · exact ls_return f_206_328 rV_206 hyp
theorem e_207 {d : Nat} {h : lm_H} {K : lm_H → Prop} (x1 : Int32) (hl : lm_Lay h) (hyp : lm_W (d + 1) 207 2 [some (.ref 92), some (.int x1), some (.int 0), none] [] h (lm_kV K)) : lm_call (d + 2) 207 [.ref 92, .int x1] h (lm_kV K) := by
  refine ls_enter [some (.ref 92), some (.int x1), none, none] ml_207 (Nat.le_of_ble_eq_true rfl) rfl ?_
  refine ls_iconst 0 f_207_0 (by decide) ?_
  refine ls_istore_n [some (.ref 92), some (.int x1), some (.int 0), none] f_207_1 (Nat.le_of_ble_eq_true rfl) rfl ?_
  exact hyp
theorem b_207_2 {d : Nat} {h : lm_H} {K : lm_H → Prop} (x1 : Int32) (x2 : Int32) (hl : lm_Lay h) (hyp : (if x2 < (lm_i h 94 81) then (lm_W (d + 1) 207 12 [some (.ref 92), some (.int x1), some (.int x2), some (.int 0)] [] h (lm_kV K)) else (K h))) : lm_W (d + 1) 207 2 [some (.ref 92), some (.int x1), some (.int x2), none] [] h (lm_kV K) := by
  refine ls_iload_n f_207_2 rfl ?_
  refine ls_aload_n f_207_3 rfl ?_
  refine ls_invV (a := 92) f_207_4 q_207_122 [] [.int x2] rfl (Nat.le_of_ble_eq_true rfl) hl S_92 ow_160 ?_
  refine ls_enter [some (.ref 92)] ml_160 (Nat.le_of_ble_eq_true rfl) rfl ?_
  refine ls_aload_n f_160_0 rfl ?_
  refine ls_getR f_160_1 p_160_25 hl S_92 F_92_3 ?_
  refine ls_bipush 81 f_160_4 (by decide) ?_
  refine ls_ialdC 81 f_160_6 hl S_94 ⟨by decide, by decide, by decide⟩ ?_
  refine ls_ireturn f_160_7 rI_160 ?_
  show lm_W _ _ _ _ [.int (lm_i h 94 81), .int x2] _ _
  refine ls_icmp_ge 80 f_207_7 rfl hyp (fun _ hyp => ?_) (fun _ hyp => ?_)
  · refine ls_iconst 0 f_207_10 (by decide) ?_
    refine ls_istore_n [some (.ref 92), some (.int x1), some (.int x2), some (.int 0)] f_207_11 (Nat.le_of_ble_eq_true rfl) rfl ?_
    exact hyp
  · exact ls_return f_207_80 rV_207 hyp
theorem b_207_12 {d : Nat} {h : lm_H} {K : lm_H → Prop} (x1 : Int32) (x2 : Int32) (x3 : Int32) (hl : lm_Lay h) (hyp : (if x3 < (lm_i h 94 82) then (lm_in ((6 * x2) + x3) 30 False (lm_call (d + 1) 206 [.ref 92, .int x2, .int x3, .int (lm_i h 106 (((6 * x2) + x3).toNatClampNeg)), .int x1] h (lm_kV fun h1 => lm_in ((6 * x2) + x3) 30 False (lm_in ((6 * x2) + x3) 30 False (lm_W (d + 1) 207 12 [some (.ref 92), some (.int x1), some (.int x2), some (.int (x3 + 1))] [] (lm_si (lm_si h1 104 (((6 * x2) + x3).toNatClampNeg) (lm_i h1 92 23)) 105 (((6 * x2) + x3).toNatClampNeg) (vp_nar .boolean (lm_i h1 92 24))) (lm_kV K)))))) else (lm_W (d + 1) 207 2 [some (.ref 92), some (.int x1), some (.int (x2 + 1)), none] [] h (lm_kV K)))) : lm_W (d + 1) 207 12 [some (.ref 92), some (.int x1), some (.int x2), some (.int x3)] [] h (lm_kV K) := by
  refine ls_iload_n f_207_12 rfl ?_
  refine ls_aload_n f_207_13 rfl ?_
  refine ls_invV (a := 92) f_207_14 q_207_126 [] [.int x3] rfl (Nat.le_of_ble_eq_true rfl) hl S_92 ow_161 ?_
  refine ls_enter [some (.ref 92)] ml_161 (Nat.le_of_ble_eq_true rfl) rfl ?_
  refine ls_aload_n f_161_0 rfl ?_
  refine ls_getR f_161_1 p_161_25 hl S_92 F_92_3 ?_
  refine ls_bipush 82 f_161_4 (by decide) ?_
  refine ls_ialdC 82 f_161_6 hl S_94 ⟨by decide, by decide, by decide⟩ ?_
  refine ls_ireturn f_161_7 rI_161 ?_
  show lm_W _ _ _ _ [.int (lm_i h 94 82), .int x3] _ _
  refine ls_icmp_ge 74 f_207_17 rfl hyp (fun _ hyp => ?_) (fun _ hyp => ?_)
  · refine ls_aload_n f_207_20 rfl ?_
    refine ls_iload_n f_207_21 rfl ?_
    refine ls_iload_n f_207_22 rfl ?_
    refine ls_aload_n f_207_23 rfl ?_
    refine ls_getR f_207_24 p_207_66 hl S_92 F_92_27 ?_
    refine ls_bipush 6 f_207_27 (by decide) ?_
    refine ls_iload_n f_207_29 rfl ?_
    refine ls_imul (6 * x2) f_207_30 rfl ?_
    refine ls_iload_n f_207_31 rfl ?_
    refine ls_iadd ((6 * x2) + x3) f_207_32 rfl ?_
    refine ls_iald f_207_33 hl S_106 hyp (fun hyp => ?_)
    refine ls_iload_n f_207_34 rfl ?_
    refine ls_invV (a := 92) f_207_35 q_207_273 [.int x2, .int x3, .int (lm_i h 106 (((6 * x2) + x3).toNatClampNeg)), .int x1] [] rfl (Nat.le_of_ble_eq_true rfl) hl S_92 ow_206 ?_
    refine ls_call hyp hl (fun _ h1 hl1 hyp => ?_)
    refine ls_retV hyp (fun hyp => ?_)
    refine ls_aload_n f_207_38 rfl ?_
    refine ls_getR f_207_39 p_207_60 hl1 S_92 F_92_25 ?_
    refine ls_bipush 6 f_207_42 (by decide) ?_
    refine ls_iload_n f_207_44 rfl ?_
    refine ls_imul (6 * x2) f_207_45 rfl ?_
    refine ls_iload_n f_207_46 rfl ?_
    refine ls_iadd ((6 * x2) + x3) f_207_47 rfl ?_
    refine ls_aload_n f_207_48 rfl ?_
    refine ls_getI f_207_49 p_207_263 hl1 S_92 ?_
    refine ls_iast f_207_52 hl1 S_104 hyp (fun hyp => ?_)
    refine ls_aload_n f_207_53 rfl ?_
    refine ls_getR f_207_54 p_207_63 (lm_Lay_si hl1 _ _ _) S_92 F_92_26 ?_
    refine ls_bipush 6 f_207_57 (by decide) ?_
    refine ls_iload_n f_207_59 rfl ?_
    refine ls_imul (6 * x2) f_207_60 rfl ?_
    refine ls_iload_n f_207_61 rfl ?_
    refine ls_iadd ((6 * x2) + x3) f_207_62 rfl ?_
    refine ls_aload_n f_207_63 rfl ?_
    refine ls_getI f_207_64 p_207_266 (lm_Lay_si hl1 _ _ _) S_92 ?_
    refine ls_top (lm_i h1 92 24) rfl ?_
    refine ls_zast f_207_67 (lm_Lay_si hl1 _ _ _) S_105 hyp (fun hyp => ?_)
    refine ls_iinc (x3 + 1) [some (.ref 92), some (.int x1), some (.int x2), some (.int (x3 + 1))] f_207_68 rfl (Nat.le_of_ble_eq_true rfl) rfl rfl ?_
    refine ls_goto 12 f_207_71 rfl ?_
    exact hyp
  · refine ls_iinc (x2 + 1) [some (.ref 92), some (.int x1), some (.int (x2 + 1)), some (.int x3)] f_207_74 rfl (Nat.le_of_ble_eq_true rfl) rfl rfl ?_
    refine ls_goto 2 f_207_77 rfl ?_
    exact ls_mask [true, true, true, false] [some (.ref 92), some (.int x1), some (.int (x2 + 1)), none] rfl hyp
theorem e_208 {d : Nat} {h : lm_H} {K : lm_H → Prop} (hl : lm_Lay h) (hyp : (if (lm_i h 92 28) = (lm_i h 92 1) then (K h) else (lm_W (d) 208 22 [some (.ref 92), some (.int 0)] [] (lm_si h 92 28 (lm_i h 92 1)) (lm_kV K)))) : lm_call (d + 1) 208 [.ref 92] h (lm_kV K) := by
  refine ls_enter [some (.ref 92), none] ml_208 (Nat.le_of_ble_eq_true rfl) rfl ?_
  refine ls_aload_n f_208_0 rfl ?_
  refine ls_getI f_208_1 p_208_69 hl S_92 ?_
  refine ls_aload_n f_208_4 rfl ?_
  refine ls_getI f_208_5 p_208_16 hl S_92 ?_
  refine ls_icmp_ne 12 f_208_8 rfl hyp (fun _ hyp => ?_) (fun _ hyp => ?_)
  · exact ls_return f_208_11 rV_208 hyp
  · refine ls_aload_n f_208_12 rfl ?_
    refine ls_aload_n f_208_13 rfl ?_
    refine ls_getI f_208_14 p_208_16 hl S_92 ?_
    refine ls_putI f_208_17 p_208_69 hl S_92 rfl ?_
    refine ls_iconst 0 f_208_20 (by decide) ?_
    refine ls_istore_n [some (.ref 92), some (.int 0)] f_208_21 (Nat.le_of_ble_eq_true rfl) rfl ?_
    exact hyp
theorem b_208_22 {d : Nat} {h : lm_H} {K : lm_H → Prop} (x1 : Int32) (hl : lm_Lay h) (hyp : (if x1 < 30 then (lm_in x1 30 False (lm_W (d) 208 22 [some (.ref 92), some (.int (x1 + 1))] [] (lm_si h 106 x1.toNatClampNeg 0) (lm_kV K))) else (lm_call (d) 207 [.ref 92, .int 0] h (lm_kV fun h1 => K h1)))) : lm_W (d) 208 22 [some (.ref 92), some (.int x1)] [] h (lm_kV K) := by
  refine ls_iload_n f_208_22 rfl ?_
  refine ls_bipush 30 f_208_23 (by decide) ?_
  refine ls_icmp_ge 41 f_208_25 rfl hyp (fun _ hyp => ?_) (fun _ hyp => ?_)
  · refine ls_aload_n f_208_28 rfl ?_
    refine ls_getR f_208_29 p_208_66 hl S_92 F_92_27 ?_
    refine ls_iload_n f_208_32 rfl ?_
    refine ls_iconst 0 f_208_33 (by decide) ?_
    refine ls_iast f_208_34 hl S_106 hyp (fun hyp => ?_)
    refine ls_iinc (x1 + 1) [some (.ref 92), some (.int (x1 + 1))] f_208_35 rfl (Nat.le_of_ble_eq_true rfl) rfl rfl ?_
    refine ls_goto 22 f_208_38 rfl ?_
    exact hyp
  · refine ls_aload_n f_208_41 rfl ?_
    refine ls_iconst 0 f_208_42 (by decide) ?_
    refine ls_invV (a := 92) f_208_43 q_208_277 [.int 0] [] rfl (Nat.le_of_ble_eq_true rfl) hl S_92 ow_207 ?_
    refine ls_call hyp hl (fun _ h1 hl1 hyp => ?_)
    refine ls_retV hyp (fun hyp => ?_)
    exact ls_return f_208_46 rV_208 hyp
theorem e_209 {d : Nat} {h : lm_H} {K : Int32 → lm_H → Prop} (x1 : Int32) (x2 : Int32) (x3 : Int32) (hl : lm_Lay h) (hyp : (if x1 < 0 then (K (-1000000) h) else (if ((lm_i h 94 81) - 1) < x1 then (K (-1000000) h) else (if x2 < 0 then (K (-1000000) h) else (if ((lm_i h 94 82) - 1) < x2 then (K (-1000000) h) else (if x3 < 0 then (K (-1000000) h) else (if 2 < x3 then (K (-1000000) h) else (lm_call (d + 2) 208 [.ref 92] h (lm_kV fun h1 => (if x3 = 0 then (lm_in (11 + ((6 * x1) + x2)) 4893 False (K (lm_i h1 94 ((11 + ((6 * x1) + x2)).toNatClampNeg)) h1)) else (if x3 = 1 then (lm_in ((6 * x1) + x2) 30 False (K (lm_i h1 104 (((6 * x1) + x2).toNatClampNeg)) h1)) else (lm_in ((6 * x1) + x2) 30 False (if (lm_i h1 105 (((6 * x1) + x2).toNatClampNeg)) = 0 then (K 0 h1) else (K 1 h1)))))))))))))) : lm_call (d + 3) 209 [.ref 92, .int x1, .int x2, .int x3] h (lm_kI K) := by
  refine ls_enter [some (.ref 92), some (.int x1), some (.int x2), some (.int x3), none] ml_209 (Nat.le_of_ble_eq_true rfl) rfl ?_
  refine ls_aload_n f_209_0 rfl ?_
  refine ls_iload_n f_209_1 rfl ?_
  refine ls_invV (a := 92) f_209_2 q_209_132 [.int x1] [] rfl (Nat.le_of_ble_eq_true rfl) hl S_92 ow_162 ?_
  refine ls_enter [some (.ref 92), some (.int x1)] ml_162 (Nat.le_of_ble_eq_true rfl) rfl ?_
  refine ls_iload_n f_162_0 rfl ?_
  refine ls_iconst 0 f_162_1 (by decide) ?_
  refine ls_aload_n f_162_2 rfl ?_
  refine ls_invV (a := 92) f_162_3 q_162_122 [] [.int 0, .int x1] rfl (Nat.le_of_ble_eq_true rfl) hl S_92 ow_160 ?_
  refine ls_enter [some (.ref 92)] ml_160 (Nat.le_of_ble_eq_true rfl) rfl ?_
  refine ls_aload_n f_160_0 rfl ?_
  refine ls_getR f_160_1 p_160_25 hl S_92 F_92_3 ?_
  refine ls_bipush 81 f_160_4 (by decide) ?_
  refine ls_ialdC 81 f_160_6 hl S_94 ⟨by decide, by decide, by decide⟩ ?_
  refine ls_ireturn f_160_7 rI_160 ?_
  show lm_W _ _ _ _ [.int (lm_i h 94 81), .int 0, .int x1] _ _
  refine ls_iconst 1 f_162_6 (by decide) ?_
  refine ls_isub ((lm_i h 94 81) - 1) f_162_7 rfl ?_
  refine ls_invS f_162_8 q_162_115 [.int x1, .int 0, .int ((lm_i h 94 81) - 1)] [] rfl (Nat.le_of_ble_eq_true rfl) ?_
  refine ls_enter [some (.int x1), some (.int 0), some (.int ((lm_i h 94 81) - 1))] ml_152 (Nat.le_of_ble_eq_true rfl) rfl ?_
  refine ls_iload_n f_152_0 rfl ?_
  refine ls_iload_n f_152_1 rfl ?_
  refine ls_icmp_lt 14 f_152_2 rfl hyp (fun _ hyp => ?_) (fun _ hyp => ?_)
  · refine ls_iconst 0 f_152_14 (by decide) ?_
    refine ls_zreturn f_152_15 rZ_152 (by decide) ?_
    show lm_W _ _ _ _ [.int 0] _ _
    refine ls_zreturn f_162_11 rZ_162 (by decide) ?_
    show lm_W _ _ _ _ [.int 0] _ _
    refine ls_if_eq_T 25 f_209_5 rfl (by decide) ?_
    refine ls_ldc f_209_25 k_209_15 ?_
    exact ls_ireturn f_209_27 rI_209 hyp
  · refine ls_iload_n f_152_5 rfl ?_
    refine ls_iload_n f_152_6 rfl ?_
    refine ls_icmp_gt 14 f_152_7 rfl hyp (fun _ hyp => ?_) (fun _ hyp => ?_)
    · refine ls_iconst 0 f_152_14 (by decide) ?_
      refine ls_zreturn f_152_15 rZ_152 (by decide) ?_
      show lm_W _ _ _ _ [.int 0] _ _
      refine ls_zreturn f_162_11 rZ_162 (by decide) ?_
      show lm_W _ _ _ _ [.int 0] _ _
      refine ls_if_eq_T 25 f_209_5 rfl (by decide) ?_
      refine ls_ldc f_209_25 k_209_15 ?_
      exact ls_ireturn f_209_27 rI_209 hyp
    · refine ls_iconst 1 f_152_10 (by decide) ?_
      refine ls_goto 15 f_152_11 rfl ?_
      refine ls_zreturn f_152_15 rZ_152 (by decide) ?_
      show lm_W _ _ _ _ [.int 1] _ _
      refine ls_zreturn f_162_11 rZ_162 (by decide) ?_
      show lm_W _ _ _ _ [.int 1] _ _
      refine ls_if_eq_F 25 f_209_5 rfl (by decide) ?_
      refine ls_aload_n f_209_8 rfl ?_
      refine ls_iload_n f_209_9 rfl ?_
      refine ls_invV (a := 92) f_209_10 q_209_136 [.int x2] [] rfl (Nat.le_of_ble_eq_true rfl) hl S_92 ow_163 ?_
      refine ls_enter [some (.ref 92), some (.int x2)] ml_163 (Nat.le_of_ble_eq_true rfl) rfl ?_
      refine ls_iload_n f_163_0 rfl ?_
      refine ls_iconst 0 f_163_1 (by decide) ?_
      refine ls_aload_n f_163_2 rfl ?_
      refine ls_invV (a := 92) f_163_3 q_163_126 [] [.int 0, .int x2] rfl (Nat.le_of_ble_eq_true rfl) hl S_92 ow_161 ?_
      refine ls_enter [some (.ref 92)] ml_161 (Nat.le_of_ble_eq_true rfl) rfl ?_
      refine ls_aload_n f_161_0 rfl ?_
      refine ls_getR f_161_1 p_161_25 hl S_92 F_92_3 ?_
      refine ls_bipush 82 f_161_4 (by decide) ?_
      refine ls_ialdC 82 f_161_6 hl S_94 ⟨by decide, by decide, by decide⟩ ?_
      refine ls_ireturn f_161_7 rI_161 ?_
      show lm_W _ _ _ _ [.int (lm_i h 94 82), .int 0, .int x2] _ _
      refine ls_iconst 1 f_163_6 (by decide) ?_
      refine ls_isub ((lm_i h 94 82) - 1) f_163_7 rfl ?_
      refine ls_invS f_163_8 q_163_115 [.int x2, .int 0, .int ((lm_i h 94 82) - 1)] [] rfl (Nat.le_of_ble_eq_true rfl) ?_
      refine ls_enter [some (.int x2), some (.int 0), some (.int ((lm_i h 94 82) - 1))] ml_152 (Nat.le_of_ble_eq_true rfl) rfl ?_
      refine ls_iload_n f_152_0 rfl ?_
      refine ls_iload_n f_152_1 rfl ?_
      refine ls_icmp_lt 14 f_152_2 rfl hyp (fun _ hyp => ?_) (fun _ hyp => ?_)
      · refine ls_iconst 0 f_152_14 (by decide) ?_
        refine ls_zreturn f_152_15 rZ_152 (by decide) ?_
        show lm_W _ _ _ _ [.int 0] _ _
        refine ls_zreturn f_163_11 rZ_163 (by decide) ?_
        show lm_W _ _ _ _ [.int 0] _ _
        refine ls_if_eq_T 25 f_209_13 rfl (by decide) ?_
        refine ls_ldc f_209_25 k_209_15 ?_
        exact ls_ireturn f_209_27 rI_209 hyp
      · refine ls_iload_n f_152_5 rfl ?_
        refine ls_iload_n f_152_6 rfl ?_
        refine ls_icmp_gt 14 f_152_7 rfl hyp (fun _ hyp => ?_) (fun _ hyp => ?_)
        · refine ls_iconst 0 f_152_14 (by decide) ?_
          refine ls_zreturn f_152_15 rZ_152 (by decide) ?_
          show lm_W _ _ _ _ [.int 0] _ _
          refine ls_zreturn f_163_11 rZ_163 (by decide) ?_
          show lm_W _ _ _ _ [.int 0] _ _
          refine ls_if_eq_T 25 f_209_13 rfl (by decide) ?_
          refine ls_ldc f_209_25 k_209_15 ?_
          exact ls_ireturn f_209_27 rI_209 hyp
        · refine ls_iconst 1 f_152_10 (by decide) ?_
          refine ls_goto 15 f_152_11 rfl ?_
          refine ls_zreturn f_152_15 rZ_152 (by decide) ?_
          show lm_W _ _ _ _ [.int 1] _ _
          refine ls_zreturn f_163_11 rZ_163 (by decide) ?_
          show lm_W _ _ _ _ [.int 1] _ _
          refine ls_if_eq_F 25 f_209_13 rfl (by decide) ?_
          refine ls_iload_n f_209_16 rfl ?_
          refine ls_iconst 0 f_209_17 (by decide) ?_
          refine ls_iconst 2 f_209_18 (by decide) ?_
          refine ls_invS f_209_19 q_209_115 [.int x3, .int 0, .int 2] [] rfl (Nat.le_of_ble_eq_true rfl) ?_
          refine ls_enter [some (.int x3), some (.int 0), some (.int 2)] ml_152 (Nat.le_of_ble_eq_true rfl) rfl ?_
          refine ls_iload_n f_152_0 rfl ?_
          refine ls_iload_n f_152_1 rfl ?_
          refine ls_icmp_lt 14 f_152_2 rfl hyp (fun _ hyp => ?_) (fun _ hyp => ?_)
          · refine ls_iconst 0 f_152_14 (by decide) ?_
            refine ls_zreturn f_152_15 rZ_152 (by decide) ?_
            show lm_W _ _ _ _ [.int 0] _ _
            refine ls_if_ne_T 28 f_209_22 rfl (by decide) ?_
            refine ls_ldc f_209_25 k_209_15 ?_
            exact ls_ireturn f_209_27 rI_209 hyp
          · refine ls_iload_n f_152_5 rfl ?_
            refine ls_iload_n f_152_6 rfl ?_
            refine ls_icmp_gt 14 f_152_7 rfl hyp (fun _ hyp => ?_) (fun _ hyp => ?_)
            · refine ls_iconst 0 f_152_14 (by decide) ?_
              refine ls_zreturn f_152_15 rZ_152 (by decide) ?_
              show lm_W _ _ _ _ [.int 0] _ _
              refine ls_if_ne_T 28 f_209_22 rfl (by decide) ?_
              refine ls_ldc f_209_25 k_209_15 ?_
              exact ls_ireturn f_209_27 rI_209 hyp
            · refine ls_iconst 1 f_152_10 (by decide) ?_
              refine ls_goto 15 f_152_11 rfl ?_
              refine ls_zreturn f_152_15 rZ_152 (by decide) ?_
              show lm_W _ _ _ _ [.int 1] _ _
              refine ls_if_ne_F 28 f_209_22 rfl (by decide) ?_
              refine ls_aload_n f_209_28 rfl ?_
              refine ls_invV (a := 92) f_209_29 q_209_280 [] [] rfl (Nat.le_of_ble_eq_true rfl) hl S_92 ow_208 ?_
              refine ls_call hyp hl (fun _ h1 hl1 hyp => ?_)
              refine ls_retV hyp (fun hyp => ?_)
              refine ls_bipush 6 f_209_32 (by decide) ?_
              refine ls_iload_n f_209_34 rfl ?_
              refine ls_imul (6 * x1) f_209_35 rfl ?_
              refine ls_iload_n f_209_36 rfl ?_
              refine ls_iadd ((6 * x1) + x2) f_209_37 rfl ?_
              refine ls_istore [some (.ref 92), some (.int x1), some (.int x2), some (.int x3), some (.int ((6 * x1) + x2))] f_209_38 (Nat.le_of_ble_eq_true rfl) rfl ?_
              refine ls_iload_n f_209_40 rfl ?_
              refine ls_if_ne 57 f_209_41 rfl hyp (fun _ hyp => ?_) (fun _ hyp => ?_)
              · refine ls_aload_n f_209_44 rfl ?_
                refine ls_getR f_209_45 p_209_25 hl1 S_92 F_92_3 ?_
                refine ls_bipush 11 f_209_48 (by decide) ?_
                refine ls_iload f_209_50 rfl ?_
                refine ls_iadd (11 + ((6 * x1) + x2)) f_209_52 rfl ?_
                refine ls_iald f_209_53 hl1 S_94 hyp (fun hyp => ?_)
                refine ls_goto 87 f_209_54 rfl ?_
                exact ls_ireturn f_209_87 rI_209 hyp
              · refine ls_iload_n f_209_57 rfl ?_
                refine ls_iconst 1 f_209_58 (by decide) ?_
                refine ls_icmp_ne 72 f_209_59 rfl hyp (fun _ hyp => ?_) (fun _ hyp => ?_)
                · refine ls_aload_n f_209_62 rfl ?_
                  refine ls_getR f_209_63 p_209_60 hl1 S_92 F_92_25 ?_
                  refine ls_iload f_209_66 rfl ?_
                  refine ls_iald f_209_68 hl1 S_104 hyp (fun hyp => ?_)
                  refine ls_goto 87 f_209_69 rfl ?_
                  exact ls_ireturn f_209_87 rI_209 hyp
                · refine ls_aload_n f_209_72 rfl ?_
                  refine ls_getR f_209_73 p_209_63 hl1 S_92 F_92_26 ?_
                  refine ls_iload f_209_76 rfl ?_
                  refine ls_zald f_209_78 hl1 S_105 hyp (fun hyp => ?_)
                  refine ls_if_eq 86 f_209_79 rfl hyp (fun _ hyp => ?_) (fun _ hyp => ?_)
                  · refine ls_iconst 0 f_209_86 (by decide) ?_
                    exact ls_ireturn f_209_87 rI_209 hyp
                  · refine ls_iconst 1 f_209_82 (by decide) ?_
                    refine ls_goto 87 f_209_83 rfl ?_
                    exact ls_ireturn f_209_87 rI_209 hyp
theorem e_210 {d : Nat} {h : lm_H} {K : Int32 → lm_H → Prop} (x1 : Int32) (x2 : Int32) (hl : lm_Lay h) (hyp : (if x2 = (lm_i h 94 82) then (K 1 h) else (lm_in ((6 * x1) + x2) 30 False (if (lm_i h 105 (((6 * x1) + x2).toNatClampNeg)) = 0 then (K 1 h) else (K 0 h))))) : lm_call (d + 2) 210 [.ref 92, .int x1, .int x2] h (lm_kI K) := by
  refine ls_enter [some (.ref 92), some (.int x1), some (.int x2)] ml_210 (Nat.le_of_ble_eq_true rfl) rfl ?_
  refine ls_iload_n f_210_0 rfl ?_
  refine ls_aload_n f_210_1 rfl ?_
  refine ls_invV (a := 92) f_210_2 q_210_126 [] [.int x2] rfl (Nat.le_of_ble_eq_true rfl) hl S_92 ow_161 ?_
  refine ls_enter [some (.ref 92)] ml_161 (Nat.le_of_ble_eq_true rfl) rfl ?_
  refine ls_aload_n f_161_0 rfl ?_
  refine ls_getR f_161_1 p_161_25 hl S_92 F_92_3 ?_
  refine ls_bipush 82 f_161_4 (by decide) ?_
  refine ls_ialdC 82 f_161_6 hl S_94 ⟨by decide, by decide, by decide⟩ ?_
  refine ls_ireturn f_161_7 rI_161 ?_
  show lm_W _ _ _ _ [.int (lm_i h 94 82), .int x2] _ _
  refine ls_icmp_eq 22 f_210_5 rfl hyp (fun _ hyp => ?_) (fun _ hyp => ?_)
  · refine ls_iconst 1 f_210_22 (by decide) ?_
    refine ls_goto 27 f_210_23 rfl ?_
    exact ls_zreturn f_210_27 rZ_210 (by decide) hyp
  · refine ls_aload_n f_210_8 rfl ?_
    refine ls_getR f_210_9 p_210_63 hl S_92 F_92_26 ?_
    refine ls_bipush 6 f_210_12 (by decide) ?_
    refine ls_iload_n f_210_14 rfl ?_
    refine ls_imul (6 * x1) f_210_15 rfl ?_
    refine ls_iload_n f_210_16 rfl ?_
    refine ls_iadd ((6 * x1) + x2) f_210_17 rfl ?_
    refine ls_zald f_210_18 hl S_105 hyp (fun hyp => ?_)
    refine ls_if_ne 26 f_210_19 rfl hyp (fun _ hyp => ?_) (fun _ hyp => ?_)
    · refine ls_iconst 1 f_210_22 (by decide) ?_
      refine ls_goto 27 f_210_23 rfl ?_
      exact ls_zreturn f_210_27 rZ_210 (by decide) hyp
    · refine ls_iconst 0 f_210_26 (by decide) ?_
      exact ls_zreturn f_210_27 rZ_210 (by decide) hyp
theorem e_211 {d : Nat} {h : lm_H} {K : Int32 → lm_H → Prop} (x1 : Int32) (x2 : Int32) (hl : lm_Lay h) (hyp : (if x2 = (-1) then (K (lm_i h 94 82) h) else (lm_call (d + 1) 210 [.ref 92, .int x1, .int x2] h (lm_kI fun r2 h1 => (if r2 = 0 then (K (lm_i h1 94 82) h1) else (K x2 h1)))))) : lm_call (d + 2) 211 [.ref 92, .int x1, .int x2] h (lm_kI K) := by
  refine ls_enter [some (.ref 92), some (.int x1), some (.int x2)] ml_211 (Nat.le_of_ble_eq_true rfl) rfl ?_
  refine ls_iload_n f_211_0 rfl ?_
  refine ls_iconst (-1) f_211_1 (by decide) ?_
  refine ls_icmp_eq 14 f_211_2 rfl hyp (fun _ hyp => ?_) (fun _ hyp => ?_)
  · refine ls_aload_n f_211_14 rfl ?_
    refine ls_invV (a := 92) f_211_15 q_211_126 [] [] rfl (Nat.le_of_ble_eq_true rfl) hl S_92 ow_161 ?_
    refine ls_enter [some (.ref 92)] ml_161 (Nat.le_of_ble_eq_true rfl) rfl ?_
    refine ls_aload_n f_161_0 rfl ?_
    refine ls_getR f_161_1 p_161_25 hl S_92 F_92_3 ?_
    refine ls_bipush 82 f_161_4 (by decide) ?_
    refine ls_ialdC 82 f_161_6 hl S_94 ⟨by decide, by decide, by decide⟩ ?_
    refine ls_ireturn f_161_7 rI_161 ?_
    show lm_W _ _ _ _ [.int (lm_i h 94 82)] _ _
    refine ls_goto 22 f_211_18 rfl ?_
    exact ls_ireturn f_211_22 rI_211 hyp
  · refine ls_aload_n f_211_5 rfl ?_
    refine ls_iload_n f_211_6 rfl ?_
    refine ls_iload_n f_211_7 rfl ?_
    refine ls_invV (a := 92) f_211_8 q_211_283 [.int x1, .int x2] [] rfl (Nat.le_of_ble_eq_true rfl) hl S_92 ow_210 ?_
    refine ls_call hyp hl (fun _ h1 hl1 hyp => ?_)
    refine ls_retI hyp (fun r2 hyp => ?_)
    refine ls_if_ne 21 f_211_11 rfl hyp (fun _ hyp => ?_) (fun _ hyp => ?_)
    · refine ls_aload_n f_211_14 rfl ?_
      refine ls_invV (a := 92) f_211_15 q_211_126 [] [] rfl (Nat.le_of_ble_eq_true rfl) hl1 S_92 ow_161 ?_
      refine ls_enter [some (.ref 92)] ml_161 (Nat.le_of_ble_eq_true rfl) rfl ?_
      refine ls_aload_n f_161_0 rfl ?_
      refine ls_getR f_161_1 p_161_25 hl1 S_92 F_92_3 ?_
      refine ls_bipush 82 f_161_4 (by decide) ?_
      refine ls_ialdC 82 f_161_6 hl1 S_94 ⟨by decide, by decide, by decide⟩ ?_
      refine ls_ireturn f_161_7 rI_161 ?_
      show lm_W _ _ _ _ [.int (lm_i h1 94 82)] _ _
      refine ls_goto 22 f_211_18 rfl ?_
      exact ls_ireturn f_211_22 rI_211 hyp
    · refine ls_iload_n f_211_21 rfl ?_
      exact ls_ireturn f_211_22 rI_211 hyp
theorem e_212 {d : Nat} {h : lm_H} {K : lm_H → Prop} (hl : lm_Lay h) (hyp : lm_W (d + 1) 212 2 [some (.ref 92), some (.int 0)] [] h (lm_kV K)) : lm_call (d + 2) 212 [.ref 92] h (lm_kV K) := by
  refine ls_enter [some (.ref 92), none] ml_212 (Nat.le_of_ble_eq_true rfl) rfl ?_
  refine ls_iconst 0 f_212_0 (by decide) ?_
  refine ls_istore_n [some (.ref 92), some (.int 0)] f_212_1 (Nat.le_of_ble_eq_true rfl) rfl ?_
  exact hyp
theorem b_212_2 {d : Nat} {h : lm_H} {K : lm_H → Prop} (x1 : Int32) (hl : lm_Lay h) (hyp : (if x1 < (lm_i h 94 81) then (lm_in (71 + x1) 4893 False (lm_call (d + 1) 211 [.ref 92, .int x1, .int (lm_i h 94 ((71 + x1).toNatClampNeg))] h (lm_kI fun r2 h1 => lm_in x1 5 False (lm_W (d + 1) 212 2 [some (.ref 92), some (.int (x1 + 1))] [] (lm_si h1 107 x1.toNatClampNeg r2) (lm_kV K))))) else (K h))) : lm_W (d + 1) 212 2 [some (.ref 92), some (.int x1)] [] h (lm_kV K) := by
  refine ls_iload_n f_212_2 rfl ?_
  refine ls_aload_n f_212_3 rfl ?_
  refine ls_invV (a := 92) f_212_4 q_212_122 [] [.int x1] rfl (Nat.le_of_ble_eq_true rfl) hl S_92 ow_160 ?_
  refine ls_enter [some (.ref 92)] ml_160 (Nat.le_of_ble_eq_true rfl) rfl ?_
  refine ls_aload_n f_160_0 rfl ?_
  refine ls_getR f_160_1 p_160_25 hl S_92 F_92_3 ?_
  refine ls_bipush 81 f_160_4 (by decide) ?_
  refine ls_ialdC 81 f_160_6 hl S_94 ⟨by decide, by decide, by decide⟩ ?_
  refine ls_ireturn f_160_7 rI_160 ?_
  show lm_W _ _ _ _ [.int (lm_i h 94 81), .int x1] _ _
  refine ls_icmp_ge 36 f_212_7 rfl hyp (fun _ hyp => ?_) (fun _ hyp => ?_)
  · refine ls_aload_n f_212_10 rfl ?_
    refine ls_getR f_212_11 p_212_72 hl S_92 F_92_29 ?_
    refine ls_iload_n f_212_14 rfl ?_
    refine ls_aload_n f_212_15 rfl ?_
    refine ls_iload_n f_212_16 rfl ?_
    refine ls_aload_n f_212_17 rfl ?_
    refine ls_getR f_212_18 p_212_25 hl S_92 F_92_3 ?_
    refine ls_bipush 71 f_212_21 (by decide) ?_
    refine ls_iload_n f_212_23 rfl ?_
    refine ls_iadd (71 + x1) f_212_24 rfl ?_
    refine ls_iald f_212_25 hl S_94 hyp (fun hyp => ?_)
    refine ls_invV (a := 92) f_212_26 q_212_287 [.int x1, .int (lm_i h 94 ((71 + x1).toNatClampNeg))] [.int x1, .ref 107] rfl (Nat.le_of_ble_eq_true rfl) hl S_92 ow_211 ?_
    refine ls_call hyp hl (fun _ h1 hl1 hyp => ?_)
    refine ls_retI hyp (fun r2 hyp => ?_)
    refine ls_iast f_212_29 hl1 S_107 hyp (fun hyp => ?_)
    refine ls_iinc (x1 + 1) [some (.ref 92), some (.int (x1 + 1))] f_212_30 rfl (Nat.le_of_ble_eq_true rfl) rfl rfl ?_
    refine ls_goto 2 f_212_33 rfl ?_
    exact hyp
  · exact ls_return f_212_36 rV_212 hyp
theorem e_213 {d : Nat} {h : lm_H} {K : Int32 → lm_H → Prop} (x1 : Int32) (hl : lm_Lay h) (hyp : lm_W (d + 1) 213 4 [some (.ref 92), some (.int x1), some (.int 0), some (.int 0)] [] h (lm_kI K)) : lm_call (d + 2) 213 [.ref 92, .int x1] h (lm_kI K) := by
  refine ls_enter [some (.ref 92), some (.int x1), none, none] ml_213 (Nat.le_of_ble_eq_true rfl) rfl ?_
  refine ls_iconst 0 f_213_0 (by decide) ?_
  refine ls_istore_n [some (.ref 92), some (.int x1), some (.int 0), none] f_213_1 (Nat.le_of_ble_eq_true rfl) rfl ?_
  refine ls_iconst 0 f_213_2 (by decide) ?_
  refine ls_istore_n [some (.ref 92), some (.int x1), some (.int 0), some (.int 0)] f_213_3 (Nat.le_of_ble_eq_true rfl) rfl ?_
  exact hyp
theorem b_213_4 {d : Nat} {h : lm_H} {K : Int32 → lm_H → Prop} (x1 : Int32) (x2 : Int32) (x3 : Int32) (hl : lm_Lay h) (hyp : (if x3 < (lm_i h 94 81) then (lm_in x3 5 False (if (lm_i h 107 x3.toNatClampNeg) = x1 then (lm_W (d + 1) 213 4 [some (.ref 92), some (.int x1), some (.int (x2 + 1)), some (.int (x3 + 1))] [] h (lm_kI K)) else (lm_W (d + 1) 213 4 [some (.ref 92), some (.int x1), some (.int (x2 + 0)), some (.int (x3 + 1))] [] h (lm_kI K)))) else (K x2 h))) : lm_W (d + 1) 213 4 [some (.ref 92), some (.int x1), some (.int x2), some (.int x3)] [] h (lm_kI K) := by
  refine ls_iload_n f_213_4 rfl ?_
  refine ls_aload_n f_213_5 rfl ?_
  refine ls_invV (a := 92) f_213_6 q_213_122 [] [.int x3] rfl (Nat.le_of_ble_eq_true rfl) hl S_92 ow_160 ?_
  refine ls_enter [some (.ref 92)] ml_160 (Nat.le_of_ble_eq_true rfl) rfl ?_
  refine ls_aload_n f_160_0 rfl ?_
  refine ls_getR f_160_1 p_160_25 hl S_92 F_92_3 ?_
  refine ls_bipush 81 f_160_4 (by decide) ?_
  refine ls_ialdC 81 f_160_6 hl S_94 ⟨by decide, by decide, by decide⟩ ?_
  refine ls_ireturn f_160_7 rI_160 ?_
  show lm_W _ _ _ _ [.int (lm_i h 94 81), .int x3] _ _
  refine ls_icmp_ge 36 f_213_9 rfl hyp (fun _ hyp => ?_) (fun _ hyp => ?_)
  · refine ls_iload_n f_213_12 rfl ?_
    refine ls_aload_n f_213_13 rfl ?_
    refine ls_getR f_213_14 p_213_72 hl S_92 F_92_29 ?_
    refine ls_iload_n f_213_17 rfl ?_
    refine ls_iald f_213_18 hl S_107 hyp (fun hyp => ?_)
    refine ls_iload_n f_213_19 rfl ?_
    refine ls_icmp_ne 27 f_213_20 rfl hyp (fun _ hyp => ?_) (fun _ hyp => ?_)
    · refine ls_iconst 1 f_213_23 (by decide) ?_
      refine ls_goto 28 f_213_24 rfl ?_
      refine ls_iadd (x2 + 1) f_213_28 rfl ?_
      refine ls_istore_n [some (.ref 92), some (.int x1), some (.int (x2 + 1)), some (.int x3)] f_213_29 (Nat.le_of_ble_eq_true rfl) rfl ?_
      refine ls_iinc (x3 + 1) [some (.ref 92), some (.int x1), some (.int (x2 + 1)), some (.int (x3 + 1))] f_213_30 rfl (Nat.le_of_ble_eq_true rfl) rfl rfl ?_
      refine ls_goto 4 f_213_33 rfl ?_
      exact hyp
    · refine ls_iconst 0 f_213_27 (by decide) ?_
      refine ls_iadd (x2 + 0) f_213_28 rfl ?_
      refine ls_istore_n [some (.ref 92), some (.int x1), some (.int (x2 + 0)), some (.int x3)] f_213_29 (Nat.le_of_ble_eq_true rfl) rfl ?_
      refine ls_iinc (x3 + 1) [some (.ref 92), some (.int x1), some (.int (x2 + 0)), some (.int (x3 + 1))] f_213_30 rfl (Nat.le_of_ble_eq_true rfl) rfl rfl ?_
      refine ls_goto 4 f_213_33 rfl ?_
      exact hyp
  · refine ls_iload_n f_213_36 rfl ?_
    exact ls_ireturn f_213_37 rI_213 hyp
theorem e_214 {d : Nat} {h : lm_H} {K : Int32 → lm_H → Prop} (x1 : Int32) (hl : lm_Lay h) (hyp : lm_in x1 5 False (if (lm_i h 107 x1.toNatClampNeg) = (lm_i h 94 82) then (K (60 * (lm_i h 94 84)) h) else (lm_call (d + 1) 213 [.ref 92, .int (lm_i h 107 x1.toNatClampNeg)] h (lm_kI fun r2 h1 => lm_in ((6 * x1) + (lm_i h 107 x1.toNatClampNeg)) 30 False (if (lm_i h1 94 83) = 0 then (if r2 = 1 then (K (60 * (lm_i h1 104 (((6 * x1) + (lm_i h 107 x1.toNatClampNeg)).toNatClampNeg))) h1) else (K (60 * (lm_i h 94 84)) h1)) else (if (lm_i h1 94 83) = 2 then ((¬ r2 = 0) ∧ (K ((60 / r2) * ((lm_i h1 104 (((6 * x1) + (lm_i h 107 x1.toNatClampNeg)).toNatClampNeg)) + ((r2 - 1) * (lm_i h 94 84)))) h1)) else (lm_W (d + 1) 214 104 [some (.ref 92), some (.int x1), some (.int (lm_i h 94 84)), some (.int (lm_i h 107 x1.toNatClampNeg)), none, some (.int (lm_i h1 104 (((6 * x1) + (lm_i h 107 x1.toNatClampNeg)).toNatClampNeg))), some (.int 0)] [] h1 (lm_kI K)))))))) : lm_call (d + 2) 214 [.ref 92, .int x1] h (lm_kI K) := by
  refine ls_enter [some (.ref 92), some (.int x1), none, none, none, none, none] ml_214 (Nat.le_of_ble_eq_true rfl) rfl ?_
  refine ls_aload_n f_214_0 rfl ?_
  refine ls_getR f_214_1 p_214_25 hl S_92 F_92_3 ?_
  refine ls_bipush 84 f_214_4 (by decide) ?_
  refine ls_ialdC 84 f_214_6 hl S_94 ⟨by decide, by decide, by decide⟩ ?_
  refine ls_istore_n [some (.ref 92), some (.int x1), some (.int (lm_i h 94 84)), none, none, none, none] f_214_7 (Nat.le_of_ble_eq_true rfl) rfl ?_
  refine ls_aload_n f_214_8 rfl ?_
  refine ls_getR f_214_9 p_214_72 hl S_92 F_92_29 ?_
  refine ls_iload_n f_214_12 rfl ?_
  refine ls_iald f_214_13 hl S_107 hyp (fun hyp => ?_)
  refine ls_istore_n [some (.ref 92), some (.int x1), some (.int (lm_i h 94 84)), some (.int (lm_i h 107 x1.toNatClampNeg)), none, none, none] f_214_14 (Nat.le_of_ble_eq_true rfl) rfl ?_
  refine ls_iload_n f_214_15 rfl ?_
  refine ls_aload_n f_214_16 rfl ?_
  refine ls_invV (a := 92) f_214_17 q_214_126 [] [.int (lm_i h 107 x1.toNatClampNeg)] rfl (Nat.le_of_ble_eq_true rfl) hl S_92 ow_161 ?_
  refine ls_enter [some (.ref 92)] ml_161 (Nat.le_of_ble_eq_true rfl) rfl ?_
  refine ls_aload_n f_161_0 rfl ?_
  refine ls_getR f_161_1 p_161_25 hl S_92 F_92_3 ?_
  refine ls_bipush 82 f_161_4 (by decide) ?_
  refine ls_ialdC 82 f_161_6 hl S_94 ⟨by decide, by decide, by decide⟩ ?_
  refine ls_ireturn f_161_7 rI_161 ?_
  show lm_W _ _ _ _ [.int (lm_i h 94 82), .int (lm_i h 107 x1.toNatClampNeg)] _ _
  refine ls_icmp_ne 28 f_214_20 rfl hyp (fun _ hyp => ?_) (fun _ hyp => ?_)
  · refine ls_bipush 60 f_214_23 (by decide) ?_
    refine ls_iload_n f_214_25 rfl ?_
    refine ls_imul (60 * (lm_i h 94 84)) f_214_26 rfl ?_
    exact ls_ireturn f_214_27 rI_214 hyp
  · refine ls_aload_n f_214_28 rfl ?_
    refine ls_iload_n f_214_29 rfl ?_
    refine ls_invV (a := 92) f_214_30 q_214_290 [.int (lm_i h 107 x1.toNatClampNeg)] [] rfl (Nat.le_of_ble_eq_true rfl) hl S_92 ow_213 ?_
    refine ls_call hyp hl (fun _ h1 hl1 hyp => ?_)
    refine ls_retI hyp (fun r2 hyp => ?_)
    refine ls_istore [some (.ref 92), some (.int x1), some (.int (lm_i h 94 84)), some (.int (lm_i h 107 x1.toNatClampNeg)), some (.int r2), none, none] f_214_33 (Nat.le_of_ble_eq_true rfl) rfl ?_
    refine ls_aload_n f_214_35 rfl ?_
    refine ls_getR f_214_36 p_214_60 hl1 S_92 F_92_25 ?_
    refine ls_bipush 6 f_214_39 (by decide) ?_
    refine ls_iload_n f_214_41 rfl ?_
    refine ls_imul (6 * x1) f_214_42 rfl ?_
    refine ls_iload_n f_214_43 rfl ?_
    refine ls_iadd ((6 * x1) + (lm_i h 107 x1.toNatClampNeg)) f_214_44 rfl ?_
    refine ls_iald f_214_45 hl1 S_104 hyp (fun hyp => ?_)
    refine ls_istore [some (.ref 92), some (.int x1), some (.int (lm_i h 94 84)), some (.int (lm_i h 107 x1.toNatClampNeg)), some (.int r2), some (.int (lm_i h1 104 (((6 * x1) + (lm_i h 107 x1.toNatClampNeg)).toNatClampNeg))), none] f_214_46 (Nat.le_of_ble_eq_true rfl) rfl ?_
    refine ls_aload_n f_214_48 rfl ?_
    refine ls_getR f_214_49 p_214_25 hl1 S_92 F_92_3 ?_
    refine ls_bipush 83 f_214_52 (by decide) ?_
    refine ls_ialdC 83 f_214_54 hl1 S_94 ⟨by decide, by decide, by decide⟩ ?_
    refine ls_if_ne 74 f_214_55 rfl hyp (fun _ hyp => ?_) (fun _ hyp => ?_)
    · refine ls_bipush 60 f_214_58 (by decide) ?_
      refine ls_iload f_214_60 rfl ?_
      refine ls_iconst 1 f_214_62 (by decide) ?_
      refine ls_icmp_ne 71 f_214_63 rfl hyp (fun _ hyp => ?_) (fun _ hyp => ?_)
      · refine ls_iload f_214_66 rfl ?_
        refine ls_goto 72 f_214_68 rfl ?_
        refine ls_imul (60 * (lm_i h1 104 (((6 * x1) + (lm_i h 107 x1.toNatClampNeg)).toNatClampNeg))) f_214_72 rfl ?_
        exact ls_ireturn f_214_73 rI_214 hyp
      · refine ls_iload_n f_214_71 rfl ?_
        refine ls_imul (60 * (lm_i h 94 84)) f_214_72 rfl ?_
        exact ls_ireturn f_214_73 rI_214 hyp
    · refine ls_aload_n f_214_74 rfl ?_
      refine ls_getR f_214_75 p_214_25 hl1 S_92 F_92_3 ?_
      refine ls_bipush 83 f_214_78 (by decide) ?_
      refine ls_ialdC 83 f_214_80 hl1 S_94 ⟨by decide, by decide, by decide⟩ ?_
      refine ls_iconst 2 f_214_81 (by decide) ?_
      refine ls_icmp_ne 101 f_214_82 rfl hyp (fun _ hyp => ?_) (fun _ hyp => ?_)
      · refine ls_bipush 60 f_214_85 (by decide) ?_
        refine ls_iload f_214_87 rfl ?_
        refine ls_idiv (60 / r2) f_214_89 hyp.1 rfl ?_
        replace hyp := hyp.2
        refine ls_iload f_214_90 rfl ?_
        refine ls_iload f_214_92 rfl ?_
        refine ls_iconst 1 f_214_94 (by decide) ?_
        refine ls_isub (r2 - 1) f_214_95 rfl ?_
        refine ls_iload_n f_214_96 rfl ?_
        refine ls_imul ((r2 - 1) * (lm_i h 94 84)) f_214_97 rfl ?_
        refine ls_iadd ((lm_i h1 104 (((6 * x1) + (lm_i h 107 x1.toNatClampNeg)).toNatClampNeg)) + ((r2 - 1) * (lm_i h 94 84))) f_214_98 rfl ?_
        refine ls_imul ((60 / r2) * ((lm_i h1 104 (((6 * x1) + (lm_i h 107 x1.toNatClampNeg)).toNatClampNeg)) + ((r2 - 1) * (lm_i h 94 84)))) f_214_99 rfl ?_
        exact ls_ireturn f_214_100 rI_214 hyp
      · refine ls_iconst 0 f_214_101 (by decide) ?_
        refine ls_istore [some (.ref 92), some (.int x1), some (.int (lm_i h 94 84)), some (.int (lm_i h 107 x1.toNatClampNeg)), some (.int r2), some (.int (lm_i h1 104 (((6 * x1) + (lm_i h 107 x1.toNatClampNeg)).toNatClampNeg))), some (.int 0)] f_214_102 (Nat.le_of_ble_eq_true rfl) rfl ?_
        exact ls_mask [true, true, true, true, false, true, true] [some (.ref 92), some (.int x1), some (.int (lm_i h 94 84)), some (.int (lm_i h 107 x1.toNatClampNeg)), none, some (.int (lm_i h1 104 (((6 * x1) + (lm_i h 107 x1.toNatClampNeg)).toNatClampNeg))), some (.int 0)] rfl hyp
theorem b_214_104 {d : Nat} {h : lm_H} {K : Int32 → lm_H → Prop} (x1 : Int32) (x2 : Int32) (x3 : Int32) (x5 : Int32) (x6 : Int32) (hl : lm_Lay h) (hyp : (if x6 < x1 then (lm_in x6 5 False (if (lm_i h 107 x6.toNatClampNeg) = x3 then (K (60 * x2) h) else (lm_W (d + 1) 214 104 [some (.ref 92), some (.int x1), some (.int x2), some (.int x3), none, some (.int x5), some (.int (x6 + 1))] [] h (lm_kI K)))) else (K (60 * x5) h))) : lm_W (d + 1) 214 104 [some (.ref 92), some (.int x1), some (.int x2), some (.int x3), none, some (.int x5), some (.int x6)] [] h (lm_kI K) := by
  refine ls_iload f_214_104 rfl ?_
  refine ls_iload_n f_214_106 rfl ?_
  refine ls_icmp_ge 132 f_214_107 rfl hyp (fun _ hyp => ?_) (fun _ hyp => ?_)
  · refine ls_aload_n f_214_110 rfl ?_
    refine ls_getR f_214_111 p_214_72 hl S_92 F_92_29 ?_
    refine ls_iload f_214_114 rfl ?_
    refine ls_iald f_214_116 hl S_107 hyp (fun hyp => ?_)
    refine ls_iload_n f_214_117 rfl ?_
    refine ls_icmp_ne 126 f_214_118 rfl hyp (fun _ hyp => ?_) (fun _ hyp => ?_)
    · refine ls_bipush 60 f_214_121 (by decide) ?_
      refine ls_iload_n f_214_123 rfl ?_
      refine ls_imul (60 * x2) f_214_124 rfl ?_
      exact ls_ireturn f_214_125 rI_214 hyp
    · refine ls_iinc (x6 + 1) [some (.ref 92), some (.int x1), some (.int x2), some (.int x3), none, some (.int x5), some (.int (x6 + 1))] f_214_126 rfl (Nat.le_of_ble_eq_true rfl) rfl rfl ?_
      refine ls_goto 104 f_214_129 rfl ?_
      exact hyp
  · refine ls_bipush 60 f_214_132 (by decide) ?_
    refine ls_iload f_214_134 rfl ?_
    refine ls_imul (60 * x5) f_214_136 rfl ?_
    exact ls_ireturn f_214_137 rI_214 hyp
theorem e_215 {d : Nat} {h : lm_H} {K : Int32 → lm_H → Prop} (hl : lm_Lay h) (hyp : lm_W (d + 1) 215 4 [some (.ref 92), some (.int 0), some (.int 0)] [] h (lm_kI K)) : lm_call (d + 2) 215 [.ref 92] h (lm_kI K) := by
  refine ls_enter [some (.ref 92), none, none] ml_215 (Nat.le_of_ble_eq_true rfl) rfl ?_
  refine ls_iconst 0 f_215_0 (by decide) ?_
  refine ls_istore_n [some (.ref 92), some (.int 0), none] f_215_1 (Nat.le_of_ble_eq_true rfl) rfl ?_
  refine ls_iconst 0 f_215_2 (by decide) ?_
  refine ls_istore_n [some (.ref 92), some (.int 0), some (.int 0)] f_215_3 (Nat.le_of_ble_eq_true rfl) rfl ?_
  exact hyp
theorem b_215_4 {d : Nat} {h : lm_H} {K : Int32 → lm_H → Prop} (x1 : Int32) (x2 : Int32) (hl : lm_Lay h) (hyp : (if x2 < (lm_i h 94 81) then (lm_call (d + 1) 214 [.ref 92, .int x2] h (lm_kI fun r2 h1 => lm_W (d + 1) 215 4 [some (.ref 92), some (.int (x1 + r2)), some (.int (x2 + 1))] [] h1 (lm_kI K))) else (K x1 h))) : lm_W (d + 1) 215 4 [some (.ref 92), some (.int x1), some (.int x2)] [] h (lm_kI K) := by
  refine ls_iload_n f_215_4 rfl ?_
  refine ls_aload_n f_215_5 rfl ?_
  refine ls_invV (a := 92) f_215_6 q_215_122 [] [.int x2] rfl (Nat.le_of_ble_eq_true rfl) hl S_92 ow_160 ?_
  refine ls_enter [some (.ref 92)] ml_160 (Nat.le_of_ble_eq_true rfl) rfl ?_
  refine ls_aload_n f_160_0 rfl ?_
  refine ls_getR f_160_1 p_160_25 hl S_92 F_92_3 ?_
  refine ls_bipush 81 f_160_4 (by decide) ?_
  refine ls_ialdC 81 f_160_6 hl S_94 ⟨by decide, by decide, by decide⟩ ?_
  refine ls_ireturn f_160_7 rI_160 ?_
  show lm_W _ _ _ _ [.int (lm_i h 94 81), .int x2] _ _
  refine ls_icmp_ge 26 f_215_9 rfl hyp (fun _ hyp => ?_) (fun _ hyp => ?_)
  · refine ls_iload_n f_215_12 rfl ?_
    refine ls_aload_n f_215_13 rfl ?_
    refine ls_iload_n f_215_14 rfl ?_
    refine ls_invV (a := 92) f_215_15 q_215_293 [.int x2] [.int x1] rfl (Nat.le_of_ble_eq_true rfl) hl S_92 ow_214 ?_
    refine ls_call hyp hl (fun _ h1 hl1 hyp => ?_)
    refine ls_retI hyp (fun r2 hyp => ?_)
    refine ls_iadd (x1 + r2) f_215_18 rfl ?_
    refine ls_istore_n [some (.ref 92), some (.int (x1 + r2)), some (.int x2)] f_215_19 (Nat.le_of_ble_eq_true rfl) rfl ?_
    refine ls_iinc (x2 + 1) [some (.ref 92), some (.int (x1 + r2)), some (.int (x2 + 1))] f_215_20 rfl (Nat.le_of_ble_eq_true rfl) rfl rfl ?_
    refine ls_goto 4 f_215_23 rfl ?_
    exact hyp
  · refine ls_iload_n f_215_26 rfl ?_
    exact ls_ireturn f_215_27 rI_215 hyp
theorem e_216 {d : Nat} {h : lm_H} {K : Int32 → lm_H → Prop} (x1 : Int32) (hl : lm_Lay h) (hyp : (if x1 < 0 then (K (-1) h) else (if ((lm_i h 94 82) - 1) < x1 then (K (-1) h) else (lm_call (d + 2) 208 [.ref 92] h (lm_kV fun h1 => lm_call (d + 2) 212 [.ref 92] h1 (lm_kV fun h2 => lm_call (d + 2) 213 [.ref 92, .int x1] h2 (lm_kI fun r4 h3 => K r4 h3))))))) : lm_call (d + 3) 216 [.ref 92, .int x1] h (lm_kI K) := by
  refine ls_enter [some (.ref 92), some (.int x1)] ml_216 (Nat.le_of_ble_eq_true rfl) rfl ?_
  refine ls_aload_n f_216_0 rfl ?_
  refine ls_iload_n f_216_1 rfl ?_
  refine ls_invV (a := 92) f_216_2 q_216_136 [.int x1] [] rfl (Nat.le_of_ble_eq_true rfl) hl S_92 ow_163 ?_
  refine ls_enter [some (.ref 92), some (.int x1)] ml_163 (Nat.le_of_ble_eq_true rfl) rfl ?_
  refine ls_iload_n f_163_0 rfl ?_
  refine ls_iconst 0 f_163_1 (by decide) ?_
  refine ls_aload_n f_163_2 rfl ?_
  refine ls_invV (a := 92) f_163_3 q_163_126 [] [.int 0, .int x1] rfl (Nat.le_of_ble_eq_true rfl) hl S_92 ow_161 ?_
  refine ls_enter [some (.ref 92)] ml_161 (Nat.le_of_ble_eq_true rfl) rfl ?_
  refine ls_aload_n f_161_0 rfl ?_
  refine ls_getR f_161_1 p_161_25 hl S_92 F_92_3 ?_
  refine ls_bipush 82 f_161_4 (by decide) ?_
  refine ls_ialdC 82 f_161_6 hl S_94 ⟨by decide, by decide, by decide⟩ ?_
  refine ls_ireturn f_161_7 rI_161 ?_
  show lm_W _ _ _ _ [.int (lm_i h 94 82), .int 0, .int x1] _ _
  refine ls_iconst 1 f_163_6 (by decide) ?_
  refine ls_isub ((lm_i h 94 82) - 1) f_163_7 rfl ?_
  refine ls_invS f_163_8 q_163_115 [.int x1, .int 0, .int ((lm_i h 94 82) - 1)] [] rfl (Nat.le_of_ble_eq_true rfl) ?_
  refine ls_enter [some (.int x1), some (.int 0), some (.int ((lm_i h 94 82) - 1))] ml_152 (Nat.le_of_ble_eq_true rfl) rfl ?_
  refine ls_iload_n f_152_0 rfl ?_
  refine ls_iload_n f_152_1 rfl ?_
  refine ls_icmp_lt 14 f_152_2 rfl hyp (fun _ hyp => ?_) (fun _ hyp => ?_)
  · refine ls_iconst 0 f_152_14 (by decide) ?_
    refine ls_zreturn f_152_15 rZ_152 (by decide) ?_
    show lm_W _ _ _ _ [.int 0] _ _
    refine ls_zreturn f_163_11 rZ_163 (by decide) ?_
    show lm_W _ _ _ _ [.int 0] _ _
    refine ls_if_ne_T 10 f_216_5 rfl (by decide) ?_
    refine ls_iconst (-1) f_216_8 (by decide) ?_
    exact ls_ireturn f_216_9 rI_216 hyp
  · refine ls_iload_n f_152_5 rfl ?_
    refine ls_iload_n f_152_6 rfl ?_
    refine ls_icmp_gt 14 f_152_7 rfl hyp (fun _ hyp => ?_) (fun _ hyp => ?_)
    · refine ls_iconst 0 f_152_14 (by decide) ?_
      refine ls_zreturn f_152_15 rZ_152 (by decide) ?_
      show lm_W _ _ _ _ [.int 0] _ _
      refine ls_zreturn f_163_11 rZ_163 (by decide) ?_
      show lm_W _ _ _ _ [.int 0] _ _
      refine ls_if_ne_T 10 f_216_5 rfl (by decide) ?_
      refine ls_iconst (-1) f_216_8 (by decide) ?_
      exact ls_ireturn f_216_9 rI_216 hyp
    · refine ls_iconst 1 f_152_10 (by decide) ?_
      refine ls_goto 15 f_152_11 rfl ?_
      refine ls_zreturn f_152_15 rZ_152 (by decide) ?_
      show lm_W _ _ _ _ [.int 1] _ _
      refine ls_zreturn f_163_11 rZ_163 (by decide) ?_
      show lm_W _ _ _ _ [.int 1] _ _
      refine ls_if_ne_F 10 f_216_5 rfl (by decide) ?_
      refine ls_aload_n f_216_10 rfl ?_
      refine ls_invV (a := 92) f_216_11 q_216_280 [] [] rfl (Nat.le_of_ble_eq_true rfl) hl S_92 ow_208 ?_
      refine ls_call hyp hl (fun _ h1 hl1 hyp => ?_)
      refine ls_retV hyp (fun hyp => ?_)
      refine ls_aload_n f_216_14 rfl ?_
      refine ls_invV (a := 92) f_216_15 q_216_296 [] [] rfl (Nat.le_of_ble_eq_true rfl) hl1 S_92 ow_212 ?_
      refine ls_call hyp hl1 (fun _ h2 hl2 hyp => ?_)
      refine ls_retV hyp (fun hyp => ?_)
      refine ls_aload_n f_216_18 rfl ?_
      refine ls_iload_n f_216_19 rfl ?_
      refine ls_invV (a := 92) f_216_20 q_216_290 [.int x1] [] rfl (Nat.le_of_ble_eq_true rfl) hl2 S_92 ow_213 ?_
      refine ls_call hyp hl2 (fun _ h3 hl3 hyp => ?_)
      refine ls_retI hyp (fun r4 hyp => ?_)
      exact ls_ireturn f_216_23 rI_216 hyp
theorem e_217 {d : Nat} {h : lm_H} {K : Int32 → lm_H → Prop} (x1 : Int32) (hl : lm_Lay h) (hyp : (if x1 < 0 then (K (-1) h) else (if ((lm_i h 94 82) - 1) < x1 then (K (-1) h) else (lm_call (d + 2) 208 [.ref 92] h (lm_kV fun h1 => lm_call (d + 2) 212 [.ref 92] h1 (lm_kV fun h2 => lm_W (d + 2) 217 27 [some (.ref 92), some (.int x1), some (.int (-1)), some (.int ((lm_i h2 94 81) - 1))] [] h2 (lm_kI K))))))) : lm_call (d + 3) 217 [.ref 92, .int x1] h (lm_kI K) := by
  refine ls_enter [some (.ref 92), some (.int x1), none, none] ml_217 (Nat.le_of_ble_eq_true rfl) rfl ?_
  refine ls_aload_n f_217_0 rfl ?_
  refine ls_iload_n f_217_1 rfl ?_
  refine ls_invV (a := 92) f_217_2 q_217_136 [.int x1] [] rfl (Nat.le_of_ble_eq_true rfl) hl S_92 ow_163 ?_
  refine ls_enter [some (.ref 92), some (.int x1)] ml_163 (Nat.le_of_ble_eq_true rfl) rfl ?_
  refine ls_iload_n f_163_0 rfl ?_
  refine ls_iconst 0 f_163_1 (by decide) ?_
  refine ls_aload_n f_163_2 rfl ?_
  refine ls_invV (a := 92) f_163_3 q_163_126 [] [.int 0, .int x1] rfl (Nat.le_of_ble_eq_true rfl) hl S_92 ow_161 ?_
  refine ls_enter [some (.ref 92)] ml_161 (Nat.le_of_ble_eq_true rfl) rfl ?_
  refine ls_aload_n f_161_0 rfl ?_
  refine ls_getR f_161_1 p_161_25 hl S_92 F_92_3 ?_
  refine ls_bipush 82 f_161_4 (by decide) ?_
  refine ls_ialdC 82 f_161_6 hl S_94 ⟨by decide, by decide, by decide⟩ ?_
  refine ls_ireturn f_161_7 rI_161 ?_
  show lm_W _ _ _ _ [.int (lm_i h 94 82), .int 0, .int x1] _ _
  refine ls_iconst 1 f_163_6 (by decide) ?_
  refine ls_isub ((lm_i h 94 82) - 1) f_163_7 rfl ?_
  refine ls_invS f_163_8 q_163_115 [.int x1, .int 0, .int ((lm_i h 94 82) - 1)] [] rfl (Nat.le_of_ble_eq_true rfl) ?_
  refine ls_enter [some (.int x1), some (.int 0), some (.int ((lm_i h 94 82) - 1))] ml_152 (Nat.le_of_ble_eq_true rfl) rfl ?_
  refine ls_iload_n f_152_0 rfl ?_
  refine ls_iload_n f_152_1 rfl ?_
  refine ls_icmp_lt 14 f_152_2 rfl hyp (fun _ hyp => ?_) (fun _ hyp => ?_)
  · refine ls_iconst 0 f_152_14 (by decide) ?_
    refine ls_zreturn f_152_15 rZ_152 (by decide) ?_
    show lm_W _ _ _ _ [.int 0] _ _
    refine ls_zreturn f_163_11 rZ_163 (by decide) ?_
    show lm_W _ _ _ _ [.int 0] _ _
    refine ls_if_ne_T 10 f_217_5 rfl (by decide) ?_
    refine ls_iconst (-1) f_217_8 (by decide) ?_
    exact ls_ireturn f_217_9 rI_217 hyp
  · refine ls_iload_n f_152_5 rfl ?_
    refine ls_iload_n f_152_6 rfl ?_
    refine ls_icmp_gt 14 f_152_7 rfl hyp (fun _ hyp => ?_) (fun _ hyp => ?_)
    · refine ls_iconst 0 f_152_14 (by decide) ?_
      refine ls_zreturn f_152_15 rZ_152 (by decide) ?_
      show lm_W _ _ _ _ [.int 0] _ _
      refine ls_zreturn f_163_11 rZ_163 (by decide) ?_
      show lm_W _ _ _ _ [.int 0] _ _
      refine ls_if_ne_T 10 f_217_5 rfl (by decide) ?_
      refine ls_iconst (-1) f_217_8 (by decide) ?_
      exact ls_ireturn f_217_9 rI_217 hyp
    · refine ls_iconst 1 f_152_10 (by decide) ?_
      refine ls_goto 15 f_152_11 rfl ?_
      refine ls_zreturn f_152_15 rZ_152 (by decide) ?_
      show lm_W _ _ _ _ [.int 1] _ _
      refine ls_zreturn f_163_11 rZ_163 (by decide) ?_
      show lm_W _ _ _ _ [.int 1] _ _
      refine ls_if_ne_F 10 f_217_5 rfl (by decide) ?_
      refine ls_aload_n f_217_10 rfl ?_
      refine ls_invV (a := 92) f_217_11 q_217_280 [] [] rfl (Nat.le_of_ble_eq_true rfl) hl S_92 ow_208 ?_
      refine ls_call hyp hl (fun _ h1 hl1 hyp => ?_)
      refine ls_retV hyp (fun hyp => ?_)
      refine ls_aload_n f_217_14 rfl ?_
      refine ls_invV (a := 92) f_217_15 q_217_296 [] [] rfl (Nat.le_of_ble_eq_true rfl) hl1 S_92 ow_212 ?_
      refine ls_call hyp hl1 (fun _ h2 hl2 hyp => ?_)
      refine ls_retV hyp (fun hyp => ?_)
      refine ls_iconst (-1) f_217_18 (by decide) ?_
      refine ls_istore_n [some (.ref 92), some (.int x1), some (.int (-1)), none] f_217_19 (Nat.le_of_ble_eq_true rfl) rfl ?_
      refine ls_aload_n f_217_20 rfl ?_
      refine ls_invV (a := 92) f_217_21 q_217_122 [] [] rfl (Nat.le_of_ble_eq_true rfl) hl2 S_92 ow_160 ?_
      refine ls_enter [some (.ref 92)] ml_160 (Nat.le_of_ble_eq_true rfl) rfl ?_
      refine ls_aload_n f_160_0 rfl ?_
      refine ls_getR f_160_1 p_160_25 hl2 S_92 F_92_3 ?_
      refine ls_bipush 81 f_160_4 (by decide) ?_
      refine ls_ialdC 81 f_160_6 hl2 S_94 ⟨by decide, by decide, by decide⟩ ?_
      refine ls_ireturn f_160_7 rI_160 ?_
      show lm_W _ _ _ _ [.int (lm_i h2 94 81)] _ _
      refine ls_iconst 1 f_217_24 (by decide) ?_
      refine ls_isub ((lm_i h2 94 81) - 1) f_217_25 rfl ?_
      refine ls_istore_n [some (.ref 92), some (.int x1), some (.int (-1)), some (.int ((lm_i h2 94 81) - 1))] f_217_26 (Nat.le_of_ble_eq_true rfl) rfl ?_
      exact hyp
theorem b_217_27 {d : Nat} {h : lm_H} {K : Int32 → lm_H → Prop} (x1 : Int32) (x2 : Int32) (x3 : Int32) (hl : lm_Lay h) (hyp : (if x3 < 0 then (lm_call (d + 2) 213 [.ref 92, .int x1] h (lm_kI fun r2 h1 => (if r2 < 2 then (K x2 h1) else (if (lm_i h1 94 83) = 1 then (K x2 h1) else (K (-1) h1))))) else (lm_in x3 5 False (if (lm_i h 107 x3.toNatClampNeg) = x1 then (lm_W (d + 2) 217 27 [some (.ref 92), some (.int x1), some (.int x3), some (.int (x3 - 1))] [] h (lm_kI K)) else (lm_W (d + 2) 217 27 [some (.ref 92), some (.int x1), some (.int x2), some (.int (x3 - 1))] [] h (lm_kI K)))))) : lm_W (d + 2) 217 27 [some (.ref 92), some (.int x1), some (.int x2), some (.int x3)] [] h (lm_kI K) := by
  refine ls_iload_n f_217_27 rfl ?_
  refine ls_if_lt 49 f_217_28 rfl hyp (fun _ hyp => ?_) (fun _ hyp => ?_)
  · refine ls_aload_n f_217_49 rfl ?_
    refine ls_iload_n f_217_50 rfl ?_
    refine ls_invV (a := 92) f_217_51 q_217_290 [.int x1] [] rfl (Nat.le_of_ble_eq_true rfl) hl S_92 ow_213 ?_
    refine ls_call hyp hl (fun _ h1 hl1 hyp => ?_)
    refine ls_retI hyp (fun r2 hyp => ?_)
    refine ls_iconst 2 f_217_54 (by decide) ?_
    refine ls_icmp_lt 69 f_217_55 rfl hyp (fun _ hyp => ?_) (fun _ hyp => ?_)
    · refine ls_iload_n f_217_69 rfl ?_
      refine ls_goto 74 f_217_70 rfl ?_
      exact ls_ireturn f_217_74 rI_217 hyp
    · refine ls_aload_n f_217_58 rfl ?_
      refine ls_getR f_217_59 p_217_25 hl1 S_92 F_92_3 ?_
      refine ls_bipush 83 f_217_62 (by decide) ?_
      refine ls_ialdC 83 f_217_64 hl1 S_94 ⟨by decide, by decide, by decide⟩ ?_
      refine ls_iconst 1 f_217_65 (by decide) ?_
      refine ls_icmp_ne 73 f_217_66 rfl hyp (fun _ hyp => ?_) (fun _ hyp => ?_)
      · refine ls_iload_n f_217_69 rfl ?_
        refine ls_goto 74 f_217_70 rfl ?_
        exact ls_ireturn f_217_74 rI_217 hyp
      · refine ls_iconst (-1) f_217_73 (by decide) ?_
        exact ls_ireturn f_217_74 rI_217 hyp
  · refine ls_aload_n f_217_31 rfl ?_
    refine ls_getR f_217_32 p_217_72 hl S_92 F_92_29 ?_
    refine ls_iload_n f_217_35 rfl ?_
    refine ls_iald f_217_36 hl S_107 hyp (fun hyp => ?_)
    refine ls_iload_n f_217_37 rfl ?_
    refine ls_icmp_ne 43 f_217_38 rfl hyp (fun _ hyp => ?_) (fun _ hyp => ?_)
    · refine ls_iload_n f_217_41 rfl ?_
      refine ls_istore_n [some (.ref 92), some (.int x1), some (.int x3), some (.int x3)] f_217_42 (Nat.le_of_ble_eq_true rfl) rfl ?_
      refine ls_iinc (x3 - 1) [some (.ref 92), some (.int x1), some (.int x3), some (.int (x3 - 1))] f_217_43 rfl (Nat.le_of_ble_eq_true rfl) (lm_m1 _) rfl ?_
      refine ls_goto 27 f_217_46 rfl ?_
      exact hyp
    · refine ls_iinc (x3 - 1) [some (.ref 92), some (.int x1), some (.int x2), some (.int (x3 - 1))] f_217_43 rfl (Nat.le_of_ble_eq_true rfl) (lm_m1 _) rfl ?_
      refine ls_goto 27 f_217_46 rfl ?_
      exact hyp
theorem e_218 {d : Nat} {h : lm_H} {K : Int32 → lm_H → Prop} (x1 : Int32) (hl : lm_Lay h) (hyp : (if x1 = (-1) then (lm_call (d + 2) 208 [.ref 92] h (lm_kV fun h1 => lm_call (d + 2) 212 [.ref 92] h1 (lm_kV fun h2 => (if x1 = (-1) then (lm_call (d + 2) 215 [.ref 92] h2 (lm_kI fun r4 h3 => K r4 h3)) else (lm_call (d + 2) 214 [.ref 92, .int x1] h2 (lm_kI fun r6 h5 => K r6 h5)))))) else (if x1 < 0 then (K (-1000000) h) else (if ((lm_i h 94 81) - 1) < x1 then (K (-1000000) h) else (lm_call (d + 2) 208 [.ref 92] h (lm_kV fun h7 => lm_call (d + 2) 212 [.ref 92] h7 (lm_kV fun h8 => (if x1 = (-1) then (lm_call (d + 2) 215 [.ref 92] h8 (lm_kI fun r10 h9 => K r10 h9)) else (lm_call (d + 2) 214 [.ref 92, .int x1] h8 (lm_kI fun r12 h11 => K r12 h11)))))))))) : lm_call (d + 3) 218 [.ref 92, .int x1] h (lm_kI K) := by
  refine ls_enter [some (.ref 92), some (.int x1)] ml_218 (Nat.le_of_ble_eq_true rfl) rfl ?_
  refine ls_iload_n f_218_0 rfl ?_
  refine ls_iconst (-1) f_218_1 (by decide) ?_
  refine ls_icmp_eq 16 f_218_2 rfl hyp (fun _ hyp => ?_) (fun _ hyp => ?_)
  · refine ls_aload_n f_218_16 rfl ?_
    refine ls_invV (a := 92) f_218_17 q_218_280 [] [] rfl (Nat.le_of_ble_eq_true rfl) hl S_92 ow_208 ?_
    refine ls_call hyp hl (fun _ h1 hl1 hyp => ?_)
    refine ls_retV hyp (fun hyp => ?_)
    refine ls_aload_n f_218_20 rfl ?_
    refine ls_invV (a := 92) f_218_21 q_218_296 [] [] rfl (Nat.le_of_ble_eq_true rfl) hl1 S_92 ow_212 ?_
    refine ls_call hyp hl1 (fun _ h2 hl2 hyp => ?_)
    refine ls_retV hyp (fun hyp => ?_)
    refine ls_iload_n f_218_24 rfl ?_
    refine ls_iconst (-1) f_218_25 (by decide) ?_
    refine ls_icmp_ne 36 f_218_26 rfl hyp (fun _ hyp => ?_) (fun _ hyp => ?_)
    · refine ls_aload_n f_218_29 rfl ?_
      refine ls_invV (a := 92) f_218_30 q_218_299 [] [] rfl (Nat.le_of_ble_eq_true rfl) hl2 S_92 ow_215 ?_
      refine ls_call hyp hl2 (fun _ h3 hl3 hyp => ?_)
      refine ls_retI hyp (fun r4 hyp => ?_)
      refine ls_goto 41 f_218_33 rfl ?_
      exact ls_ireturn f_218_41 rI_218 hyp
    · refine ls_aload_n f_218_36 rfl ?_
      refine ls_iload_n f_218_37 rfl ?_
      refine ls_invV (a := 92) f_218_38 q_218_293 [.int x1] [] rfl (Nat.le_of_ble_eq_true rfl) hl2 S_92 ow_214 ?_
      refine ls_call hyp hl2 (fun _ h5 hl5 hyp => ?_)
      refine ls_retI hyp (fun r6 hyp => ?_)
      exact ls_ireturn f_218_41 rI_218 hyp
  · refine ls_aload_n f_218_5 rfl ?_
    refine ls_iload_n f_218_6 rfl ?_
    refine ls_invV (a := 92) f_218_7 q_218_132 [.int x1] [] rfl (Nat.le_of_ble_eq_true rfl) hl S_92 ow_162 ?_
    refine ls_enter [some (.ref 92), some (.int x1)] ml_162 (Nat.le_of_ble_eq_true rfl) rfl ?_
    refine ls_iload_n f_162_0 rfl ?_
    refine ls_iconst 0 f_162_1 (by decide) ?_
    refine ls_aload_n f_162_2 rfl ?_
    refine ls_invV (a := 92) f_162_3 q_162_122 [] [.int 0, .int x1] rfl (Nat.le_of_ble_eq_true rfl) hl S_92 ow_160 ?_
    refine ls_enter [some (.ref 92)] ml_160 (Nat.le_of_ble_eq_true rfl) rfl ?_
    refine ls_aload_n f_160_0 rfl ?_
    refine ls_getR f_160_1 p_160_25 hl S_92 F_92_3 ?_
    refine ls_bipush 81 f_160_4 (by decide) ?_
    refine ls_ialdC 81 f_160_6 hl S_94 ⟨by decide, by decide, by decide⟩ ?_
    refine ls_ireturn f_160_7 rI_160 ?_
    show lm_W _ _ _ _ [.int (lm_i h 94 81), .int 0, .int x1] _ _
    refine ls_iconst 1 f_162_6 (by decide) ?_
    refine ls_isub ((lm_i h 94 81) - 1) f_162_7 rfl ?_
    refine ls_invS f_162_8 q_162_115 [.int x1, .int 0, .int ((lm_i h 94 81) - 1)] [] rfl (Nat.le_of_ble_eq_true rfl) ?_
    refine ls_enter [some (.int x1), some (.int 0), some (.int ((lm_i h 94 81) - 1))] ml_152 (Nat.le_of_ble_eq_true rfl) rfl ?_
    refine ls_iload_n f_152_0 rfl ?_
    refine ls_iload_n f_152_1 rfl ?_
    refine ls_icmp_lt 14 f_152_2 rfl hyp (fun _ hyp => ?_) (fun _ hyp => ?_)
    · refine ls_iconst 0 f_152_14 (by decide) ?_
      refine ls_zreturn f_152_15 rZ_152 (by decide) ?_
      show lm_W _ _ _ _ [.int 0] _ _
      refine ls_zreturn f_162_11 rZ_162 (by decide) ?_
      show lm_W _ _ _ _ [.int 0] _ _
      refine ls_if_ne_T 16 f_218_10 rfl (by decide) ?_
      refine ls_ldc f_218_13 k_218_15 ?_
      exact ls_ireturn f_218_15 rI_218 hyp
    · refine ls_iload_n f_152_5 rfl ?_
      refine ls_iload_n f_152_6 rfl ?_
      refine ls_icmp_gt 14 f_152_7 rfl hyp (fun _ hyp => ?_) (fun _ hyp => ?_)
      · refine ls_iconst 0 f_152_14 (by decide) ?_
        refine ls_zreturn f_152_15 rZ_152 (by decide) ?_
        show lm_W _ _ _ _ [.int 0] _ _
        refine ls_zreturn f_162_11 rZ_162 (by decide) ?_
        show lm_W _ _ _ _ [.int 0] _ _
        refine ls_if_ne_T 16 f_218_10 rfl (by decide) ?_
        refine ls_ldc f_218_13 k_218_15 ?_
        exact ls_ireturn f_218_15 rI_218 hyp
      · refine ls_iconst 1 f_152_10 (by decide) ?_
        refine ls_goto 15 f_152_11 rfl ?_
        refine ls_zreturn f_152_15 rZ_152 (by decide) ?_
        show lm_W _ _ _ _ [.int 1] _ _
        refine ls_zreturn f_162_11 rZ_162 (by decide) ?_
        show lm_W _ _ _ _ [.int 1] _ _
        refine ls_if_ne_F 16 f_218_10 rfl (by decide) ?_
        refine ls_aload_n f_218_16 rfl ?_
        refine ls_invV (a := 92) f_218_17 q_218_280 [] [] rfl (Nat.le_of_ble_eq_true rfl) hl S_92 ow_208 ?_
        refine ls_call hyp hl (fun _ h7 hl7 hyp => ?_)
        refine ls_retV hyp (fun hyp => ?_)
        refine ls_aload_n f_218_20 rfl ?_
        refine ls_invV (a := 92) f_218_21 q_218_296 [] [] rfl (Nat.le_of_ble_eq_true rfl) hl7 S_92 ow_212 ?_
        refine ls_call hyp hl7 (fun _ h8 hl8 hyp => ?_)
        refine ls_retV hyp (fun hyp => ?_)
        refine ls_iload_n f_218_24 rfl ?_
        refine ls_iconst (-1) f_218_25 (by decide) ?_
        refine ls_icmp_ne 36 f_218_26 rfl hyp (fun _ hyp => ?_) (fun _ hyp => ?_)
        · refine ls_aload_n f_218_29 rfl ?_
          refine ls_invV (a := 92) f_218_30 q_218_299 [] [] rfl (Nat.le_of_ble_eq_true rfl) hl8 S_92 ow_215 ?_
          refine ls_call hyp hl8 (fun _ h9 hl9 hyp => ?_)
          refine ls_retI hyp (fun r10 hyp => ?_)
          refine ls_goto 41 f_218_33 rfl ?_
          exact ls_ireturn f_218_41 rI_218 hyp
        · refine ls_aload_n f_218_36 rfl ?_
          refine ls_iload_n f_218_37 rfl ?_
          refine ls_invV (a := 92) f_218_38 q_218_293 [.int x1] [] rfl (Nat.le_of_ble_eq_true rfl) hl8 S_92 ow_214 ?_
          refine ls_call hyp hl8 (fun _ h11 hl11 hyp => ?_)
          refine ls_retI hyp (fun r12 hyp => ?_)
          exact ls_ireturn f_218_41 rI_218 hyp
theorem e_219 {d : Nat} {h : lm_H} {K : Int32 → lm_H → Prop} (hl : lm_Lay h) (hyp : lm_W (d + 1) 219 4 [some (.ref 92), some (.int 1), some (.int 0)] [] h (lm_kI K)) : lm_call (d + 2) 219 [.ref 92] h (lm_kI K) := by
  refine ls_enter [some (.ref 92), none, none] ml_219 (Nat.le_of_ble_eq_true rfl) rfl ?_
  refine ls_iconst 1 f_219_0 (by decide) ?_
  refine ls_istore_n [some (.ref 92), some (.int 1), none] f_219_1 (Nat.le_of_ble_eq_true rfl) rfl ?_
  refine ls_iconst 0 f_219_2 (by decide) ?_
  refine ls_istore_n [some (.ref 92), some (.int 1), some (.int 0)] f_219_3 (Nat.le_of_ble_eq_true rfl) rfl ?_
  exact hyp
theorem b_219_4 {d : Nat} {h : lm_H} {K : Int32 → lm_H → Prop} (x1 : Int32) (x2 : Int32) (hl : lm_Lay h) (hyp : (if x2 < (lm_i h 94 81) then (lm_W (d + 1) 219 4 [some (.ref 92), some (.int (x1 * ((lm_i h 94 82) + 1))), some (.int (x2 + 1))] [] h (lm_kI K)) else (K x1 h))) : lm_W (d + 1) 219 4 [some (.ref 92), some (.int x1), some (.int x2)] [] h (lm_kI K) := by
  refine ls_iload_n f_219_4 rfl ?_
  refine ls_aload_n f_219_5 rfl ?_
  refine ls_invV (a := 92) f_219_6 q_219_122 [] [.int x2] rfl (Nat.le_of_ble_eq_true rfl) hl S_92 ow_160 ?_
  refine ls_enter [some (.ref 92)] ml_160 (Nat.le_of_ble_eq_true rfl) rfl ?_
  refine ls_aload_n f_160_0 rfl ?_
  refine ls_getR f_160_1 p_160_25 hl S_92 F_92_3 ?_
  refine ls_bipush 81 f_160_4 (by decide) ?_
  refine ls_ialdC 81 f_160_6 hl S_94 ⟨by decide, by decide, by decide⟩ ?_
  refine ls_ireturn f_160_7 rI_160 ?_
  show lm_W _ _ _ _ [.int (lm_i h 94 81), .int x2] _ _
  refine ls_icmp_ge 27 f_219_9 rfl hyp (fun _ hyp => ?_) (fun _ hyp => ?_)
  · refine ls_iload_n f_219_12 rfl ?_
    refine ls_aload_n f_219_13 rfl ?_
    refine ls_invV (a := 92) f_219_14 q_219_126 [] [.int x1] rfl (Nat.le_of_ble_eq_true rfl) hl S_92 ow_161 ?_
    refine ls_enter [some (.ref 92)] ml_161 (Nat.le_of_ble_eq_true rfl) rfl ?_
    refine ls_aload_n f_161_0 rfl ?_
    refine ls_getR f_161_1 p_161_25 hl S_92 F_92_3 ?_
    refine ls_bipush 82 f_161_4 (by decide) ?_
    refine ls_ialdC 82 f_161_6 hl S_94 ⟨by decide, by decide, by decide⟩ ?_
    refine ls_ireturn f_161_7 rI_161 ?_
    show lm_W _ _ _ _ [.int (lm_i h 94 82), .int x1] _ _
    refine ls_iconst 1 f_219_17 (by decide) ?_
    refine ls_iadd ((lm_i h 94 82) + 1) f_219_18 rfl ?_
    refine ls_imul (x1 * ((lm_i h 94 82) + 1)) f_219_19 rfl ?_
    refine ls_istore_n [some (.ref 92), some (.int (x1 * ((lm_i h 94 82) + 1))), some (.int x2)] f_219_20 (Nat.le_of_ble_eq_true rfl) rfl ?_
    refine ls_iinc (x2 + 1) [some (.ref 92), some (.int (x1 * ((lm_i h 94 82) + 1))), some (.int (x2 + 1))] f_219_21 rfl (Nat.le_of_ble_eq_true rfl) rfl rfl ?_
    refine ls_goto 4 f_219_24 rfl ?_
    exact hyp
  · refine ls_iload_n f_219_27 rfl ?_
    exact ls_ireturn f_219_28 rI_219 hyp
theorem e_220 {d : Nat} {h : lm_H} {K : Int32 → lm_H → Prop} (x1 : Int32) (hl : lm_Lay h) (hyp : lm_W (d + 1) 220 12 [some (.ref 92), none, some (.int x1), some (.int 1), some (.int ((lm_i h 94 81) - 1))] [] h (lm_kI K)) : lm_call (d + 2) 220 [.ref 92, .int x1] h (lm_kI K) := by
  refine ls_enter [some (.ref 92), some (.int x1), none, none, none] ml_220 (Nat.le_of_ble_eq_true rfl) rfl ?_
  refine ls_iload_n f_220_0 rfl ?_
  refine ls_istore_n [some (.ref 92), some (.int x1), some (.int x1), none, none] f_220_1 (Nat.le_of_ble_eq_true rfl) rfl ?_
  refine ls_iconst 1 f_220_2 (by decide) ?_
  refine ls_istore_n [some (.ref 92), some (.int x1), some (.int x1), some (.int 1), none] f_220_3 (Nat.le_of_ble_eq_true rfl) rfl ?_
  refine ls_aload_n f_220_4 rfl ?_
  refine ls_invV (a := 92) f_220_5 q_220_122 [] [] rfl (Nat.le_of_ble_eq_true rfl) hl S_92 ow_160 ?_
  refine ls_enter [some (.ref 92)] ml_160 (Nat.le_of_ble_eq_true rfl) rfl ?_
  refine ls_aload_n f_160_0 rfl ?_
  refine ls_getR f_160_1 p_160_25 hl S_92 F_92_3 ?_
  refine ls_bipush 81 f_160_4 (by decide) ?_
  refine ls_ialdC 81 f_160_6 hl S_94 ⟨by decide, by decide, by decide⟩ ?_
  refine ls_ireturn f_160_7 rI_160 ?_
  show lm_W _ _ _ _ [.int (lm_i h 94 81)] _ _
  refine ls_iconst 1 f_220_8 (by decide) ?_
  refine ls_isub ((lm_i h 94 81) - 1) f_220_9 rfl ?_
  refine ls_istore [some (.ref 92), some (.int x1), some (.int x1), some (.int 1), some (.int ((lm_i h 94 81) - 1))] f_220_10 (Nat.le_of_ble_eq_true rfl) rfl ?_
  exact ls_mask [true, false, true, true, true] [some (.ref 92), none, some (.int x1), some (.int 1), some (.int ((lm_i h 94 81) - 1))] rfl hyp
theorem b_220_12 {d : Nat} {h : lm_H} {K : Int32 → lm_H → Prop} (x2 : Int32) (x3 : Int32) (x4 : Int32) (hl : lm_Lay h) (hyp : (if x4 < 0 then ((vp_nar .boolean x3 = x3) ∧ K x3 h) else ((¬ ((lm_i h 94 82) + 1) = 0) ∧ (lm_in x4 5 False ((¬ ((lm_i h 94 82) + 1) = 0) ∧ ((if x3 = 0 then (lm_W (d + 1) 220 12 [some (.ref 92), none, some (.int (x2 / ((lm_i h 94 82) + 1))), some (.int 0), some (.int (x4 - 1))] [] (lm_si h 107 x4.toNatClampNeg (x2 - x2 / ((lm_i h 94 82) + 1) * ((lm_i h 94 82) + 1))) (lm_kI K)) else (lm_in x4 5 False (lm_call (d + 1) 210 [.ref 92, .int x4, .int (x2 - x2 / ((lm_i h 94 82) + 1) * ((lm_i h 94 82) + 1))] (lm_si h 107 x4.toNatClampNeg (x2 - x2 / ((lm_i h 94 82) + 1) * ((lm_i h 94 82) + 1))) (lm_kI fun r2 h1 => (if r2 = 0 then (lm_W (d + 1) 220 12 [some (.ref 92), none, some (.int (x2 / ((lm_i h 94 82) + 1))), some (.int 0), some (.int (x4 - 1))] [] h1 (lm_kI K)) else (lm_W (d + 1) 220 12 [some (.ref 92), none, some (.int (x2 / ((lm_i h 94 82) + 1))), some (.int 1), some (.int (x4 - 1))] [] h1 (lm_kI K))))))))))))) : lm_W (d + 1) 220 12 [some (.ref 92), none, some (.int x2), some (.int x3), some (.int x4)] [] h (lm_kI K) := by
  refine ls_iload f_220_12 rfl ?_
  refine ls_if_lt 73 f_220_14 rfl hyp (fun _ hyp => ?_) (fun _ hyp => ?_)
  · refine ls_iload_n f_220_73 rfl ?_
    exact ls_zreturn f_220_74 rZ_220 hyp.1 hyp.2
  · refine ls_aload_n f_220_17 rfl ?_
    refine ls_getR f_220_18 p_220_72 hl S_92 F_92_29 ?_
    refine ls_iload f_220_21 rfl ?_
    refine ls_iload_n f_220_23 rfl ?_
    refine ls_aload_n f_220_24 rfl ?_
    refine ls_invV (a := 92) f_220_25 q_220_126 [] [.int x2, .int x4, .ref 107] rfl (Nat.le_of_ble_eq_true rfl) hl S_92 ow_161 ?_
    refine ls_enter [some (.ref 92)] ml_161 (Nat.le_of_ble_eq_true rfl) rfl ?_
    refine ls_aload_n f_161_0 rfl ?_
    refine ls_getR f_161_1 p_161_25 hl S_92 F_92_3 ?_
    refine ls_bipush 82 f_161_4 (by decide) ?_
    refine ls_ialdC 82 f_161_6 hl S_94 ⟨by decide, by decide, by decide⟩ ?_
    refine ls_ireturn f_161_7 rI_161 ?_
    show lm_W _ _ _ _ [.int (lm_i h 94 82), .int x2, .int x4, .ref 107] _ _
    refine ls_iconst 1 f_220_28 (by decide) ?_
    refine ls_iadd ((lm_i h 94 82) + 1) f_220_29 rfl ?_
    refine ls_irem (x2 - x2 / ((lm_i h 94 82) + 1) * ((lm_i h 94 82) + 1)) f_220_30 hyp.1 rfl ?_
    replace hyp := hyp.2
    refine ls_iast f_220_31 hl S_107 hyp (fun hyp => ?_)
    refine ls_iload_n f_220_32 rfl ?_
    refine ls_aload_n f_220_33 rfl ?_
    refine ls_invV (a := 92) f_220_34 q_220_126 [] [.int x2] rfl (Nat.le_of_ble_eq_true rfl) (lm_Lay_si hl _ _ _) S_92 ow_161 ?_
    refine ls_enter [some (.ref 92)] ml_161 (Nat.le_of_ble_eq_true rfl) rfl ?_
    refine ls_aload_n f_161_0 rfl ?_
    refine ls_getR f_161_1 p_161_25 (lm_Lay_si hl _ _ _) S_92 F_92_3 ?_
    refine ls_bipush 82 f_161_4 (by decide) ?_
    refine ls_ialdC 82 f_161_6 (lm_Lay_si hl _ _ _) S_94 ⟨by decide, by decide, by decide⟩ ?_
    refine ls_top (lm_i h 94 82) rfl ?_
    refine ls_ireturn f_161_7 rI_161 ?_
    show lm_W _ _ _ _ [.int (lm_i h 94 82), .int x2] _ _
    refine ls_iconst 1 f_220_37 (by decide) ?_
    refine ls_iadd ((lm_i h 94 82) + 1) f_220_38 rfl ?_
    refine ls_idiv (x2 / ((lm_i h 94 82) + 1)) f_220_39 hyp.1 rfl ?_
    replace hyp := hyp.2
    refine ls_istore_n [some (.ref 92), none, some (.int (x2 / ((lm_i h 94 82) + 1))), some (.int x3), some (.int x4)] f_220_40 (Nat.le_of_ble_eq_true rfl) rfl ?_
    refine ls_iload_n f_220_41 rfl ?_
    refine ls_if_eq 65 f_220_42 rfl hyp (fun _ hyp => ?_) (fun _ hyp => ?_)
    · refine ls_iconst 0 f_220_65 (by decide) ?_
      refine ls_istore_n [some (.ref 92), none, some (.int (x2 / ((lm_i h 94 82) + 1))), some (.int 0), some (.int x4)] f_220_66 (Nat.le_of_ble_eq_true rfl) rfl ?_
      refine ls_iinc (x4 - 1) [some (.ref 92), none, some (.int (x2 / ((lm_i h 94 82) + 1))), some (.int 0), some (.int (x4 - 1))] f_220_67 rfl (Nat.le_of_ble_eq_true rfl) (lm_m1 _) rfl ?_
      refine ls_goto 12 f_220_70 rfl ?_
      exact hyp
    · refine ls_aload_n f_220_45 rfl ?_
      refine ls_iload f_220_46 rfl ?_
      refine ls_aload_n f_220_48 rfl ?_
      refine ls_getR f_220_49 p_220_72 (lm_Lay_si hl _ _ _) S_92 F_92_29 ?_
      refine ls_iload f_220_52 rfl ?_
      refine ls_iald f_220_54 (lm_Lay_si hl _ _ _) S_107 hyp (fun hyp => ?_)
      refine ls_top (x2 - x2 / ((lm_i h 94 82) + 1) * ((lm_i h 94 82) + 1)) lm_iE ?_
      refine ls_invV (a := 92) f_220_55 q_220_283 [.int x4, .int (x2 - x2 / ((lm_i h 94 82) + 1) * ((lm_i h 94 82) + 1))] [] rfl (Nat.le_of_ble_eq_true rfl) (lm_Lay_si hl _ _ _) S_92 ow_210 ?_
      refine ls_call hyp (lm_Lay_si hl _ _ _) (fun _ h1 hl1 hyp => ?_)
      refine ls_retI hyp (fun r2 hyp => ?_)
      refine ls_if_eq 65 f_220_58 rfl hyp (fun _ hyp => ?_) (fun _ hyp => ?_)
      · refine ls_iconst 0 f_220_65 (by decide) ?_
        refine ls_istore_n [some (.ref 92), none, some (.int (x2 / ((lm_i h 94 82) + 1))), some (.int 0), some (.int x4)] f_220_66 (Nat.le_of_ble_eq_true rfl) rfl ?_
        refine ls_iinc (x4 - 1) [some (.ref 92), none, some (.int (x2 / ((lm_i h 94 82) + 1))), some (.int 0), some (.int (x4 - 1))] f_220_67 rfl (Nat.le_of_ble_eq_true rfl) (lm_m1 _) rfl ?_
        refine ls_goto 12 f_220_70 rfl ?_
        exact hyp
      · refine ls_iconst 1 f_220_61 (by decide) ?_
        refine ls_goto 66 f_220_62 rfl ?_
        refine ls_istore_n [some (.ref 92), none, some (.int (x2 / ((lm_i h 94 82) + 1))), some (.int 1), some (.int x4)] f_220_66 (Nat.le_of_ble_eq_true rfl) rfl ?_
        refine ls_iinc (x4 - 1) [some (.ref 92), none, some (.int (x2 / ((lm_i h 94 82) + 1))), some (.int 1), some (.int (x4 - 1))] f_220_67 rfl (Nat.le_of_ble_eq_true rfl) (lm_m1 _) rfl ?_
        refine ls_goto 12 f_220_70 rfl ?_
        exact hyp
theorem e_221 {d : Nat} {h : lm_H} {K : Int32 → lm_H → Prop} (hl : lm_Lay h) (hyp : lm_W (d + 1) 221 4 [some (.ref 92), some (.int 0), some (.int 0)] [] h (lm_kI K)) : lm_call (d + 2) 221 [.ref 92] h (lm_kI K) := by
  refine ls_enter [some (.ref 92), none, none] ml_221 (Nat.le_of_ble_eq_true rfl) rfl ?_
  refine ls_iconst 0 f_221_0 (by decide) ?_
  refine ls_istore_n [some (.ref 92), some (.int 0), none] f_221_1 (Nat.le_of_ble_eq_true rfl) rfl ?_
  refine ls_iconst 0 f_221_2 (by decide) ?_
  refine ls_istore_n [some (.ref 92), some (.int 0), some (.int 0)] f_221_3 (Nat.le_of_ble_eq_true rfl) rfl ?_
  exact hyp
theorem b_221_4 {d : Nat} {h : lm_H} {K : Int32 → lm_H → Prop} (x1 : Int32) (x2 : Int32) (hl : lm_Lay h) (hyp : (if x2 < (lm_i h 94 81) then (lm_in x2 5 False (lm_W (d + 1) 221 4 [some (.ref 92), some (.int ((x1 * ((lm_i h 94 82) + 1)) + (lm_i h 107 x2.toNatClampNeg))), some (.int (x2 + 1))] [] h (lm_kI K))) else (K x1 h))) : lm_W (d + 1) 221 4 [some (.ref 92), some (.int x1), some (.int x2)] [] h (lm_kI K) := by
  refine ls_iload_n f_221_4 rfl ?_
  refine ls_aload_n f_221_5 rfl ?_
  refine ls_invV (a := 92) f_221_6 q_221_122 [] [.int x2] rfl (Nat.le_of_ble_eq_true rfl) hl S_92 ow_160 ?_
  refine ls_enter [some (.ref 92)] ml_160 (Nat.le_of_ble_eq_true rfl) rfl ?_
  refine ls_aload_n f_160_0 rfl ?_
  refine ls_getR f_160_1 p_160_25 hl S_92 F_92_3 ?_
  refine ls_bipush 81 f_160_4 (by decide) ?_
  refine ls_ialdC 81 f_160_6 hl S_94 ⟨by decide, by decide, by decide⟩ ?_
  refine ls_ireturn f_160_7 rI_160 ?_
  show lm_W _ _ _ _ [.int (lm_i h 94 81), .int x2] _ _
  refine ls_icmp_ge 34 f_221_9 rfl hyp (fun _ hyp => ?_) (fun _ hyp => ?_)
  · refine ls_iload_n f_221_12 rfl ?_
    refine ls_aload_n f_221_13 rfl ?_
    refine ls_invV (a := 92) f_221_14 q_221_126 [] [.int x1] rfl (Nat.le_of_ble_eq_true rfl) hl S_92 ow_161 ?_
    refine ls_enter [some (.ref 92)] ml_161 (Nat.le_of_ble_eq_true rfl) rfl ?_
    refine ls_aload_n f_161_0 rfl ?_
    refine ls_getR f_161_1 p_161_25 hl S_92 F_92_3 ?_
    refine ls_bipush 82 f_161_4 (by decide) ?_
    refine ls_ialdC 82 f_161_6 hl S_94 ⟨by decide, by decide, by decide⟩ ?_
    refine ls_ireturn f_161_7 rI_161 ?_
    show lm_W _ _ _ _ [.int (lm_i h 94 82), .int x1] _ _
    refine ls_iconst 1 f_221_17 (by decide) ?_
    refine ls_iadd ((lm_i h 94 82) + 1) f_221_18 rfl ?_
    refine ls_imul (x1 * ((lm_i h 94 82) + 1)) f_221_19 rfl ?_
    refine ls_aload_n f_221_20 rfl ?_
    refine ls_getR f_221_21 p_221_72 hl S_92 F_92_29 ?_
    refine ls_iload_n f_221_24 rfl ?_
    refine ls_iald f_221_25 hl S_107 hyp (fun hyp => ?_)
    refine ls_iadd ((x1 * ((lm_i h 94 82) + 1)) + (lm_i h 107 x2.toNatClampNeg)) f_221_26 rfl ?_
    refine ls_istore_n [some (.ref 92), some (.int ((x1 * ((lm_i h 94 82) + 1)) + (lm_i h 107 x2.toNatClampNeg))), some (.int x2)] f_221_27 (Nat.le_of_ble_eq_true rfl) rfl ?_
    refine ls_iinc (x2 + 1) [some (.ref 92), some (.int ((x1 * ((lm_i h 94 82) + 1)) + (lm_i h 107 x2.toNatClampNeg))), some (.int (x2 + 1))] f_221_28 rfl (Nat.le_of_ble_eq_true rfl) rfl rfl ?_
    refine ls_goto 4 f_221_31 rfl ?_
    exact hyp
  · refine ls_iload_n f_221_34 rfl ?_
    exact ls_ireturn f_221_35 rI_221 hyp
theorem e_222 {d : Nat} {h : lm_H} {K : Int32 → lm_H → Prop} (hl : lm_Lay h) (hyp : lm_W (d + 1) 222 2 [some (.ref 92), some (.int 0), none, none, none, none] [] h (lm_kI K)) : lm_call (d + 2) 222 [.ref 92] h (lm_kI K) := by
  refine ls_enter [some (.ref 92), none, none, none, none, none] ml_222 (Nat.le_of_ble_eq_true rfl) rfl ?_
  refine ls_iconst 0 f_222_0 (by decide) ?_
  refine ls_istore_n [some (.ref 92), some (.int 0), none, none, none, none] f_222_1 (Nat.le_of_ble_eq_true rfl) rfl ?_
  exact hyp
theorem b_222_2 {d : Nat} {h : lm_H} {K : Int32 → lm_H → Prop} (x1 : Int32) (hl : lm_Lay h) (hyp : (if x1 < (lm_i h 94 81) then (lm_in x1 5 False (lm_call (d + 1) 214 [.ref 92, .int x1] h (lm_kI fun r2 h1 => lm_W (d + 1) 222 29 [some (.ref 92), some (.int x1), some (.int (lm_i h 107 x1.toNatClampNeg)), some (.int r2), some (.int 0), some (.int 0)] [] h1 (lm_kI K)))) else (K 1 h))) : lm_W (d + 1) 222 2 [some (.ref 92), some (.int x1), none, none, none, none] [] h (lm_kI K) := by
  refine ls_iload_n f_222_2 rfl ?_
  refine ls_aload_n f_222_3 rfl ?_
  refine ls_invV (a := 92) f_222_4 q_222_122 [] [.int x1] rfl (Nat.le_of_ble_eq_true rfl) hl S_92 ow_160 ?_
  refine ls_enter [some (.ref 92)] ml_160 (Nat.le_of_ble_eq_true rfl) rfl ?_
  refine ls_aload_n f_160_0 rfl ?_
  refine ls_getR f_160_1 p_160_25 hl S_92 F_92_3 ?_
  refine ls_bipush 81 f_160_4 (by decide) ?_
  refine ls_ialdC 81 f_160_6 hl S_94 ⟨by decide, by decide, by decide⟩ ?_
  refine ls_ireturn f_160_7 rI_160 ?_
  show lm_W _ _ _ _ [.int (lm_i h 94 81), .int x1] _ _
  refine ls_icmp_ge 103 f_222_7 rfl hyp (fun _ hyp => ?_) (fun _ hyp => ?_)
  · refine ls_aload_n f_222_10 rfl ?_
    refine ls_getR f_222_11 p_222_72 hl S_92 F_92_29 ?_
    refine ls_iload_n f_222_14 rfl ?_
    refine ls_iald f_222_15 hl S_107 hyp (fun hyp => ?_)
    refine ls_istore_n [some (.ref 92), some (.int x1), some (.int (lm_i h 107 x1.toNatClampNeg)), none, none, none] f_222_16 (Nat.le_of_ble_eq_true rfl) rfl ?_
    refine ls_aload_n f_222_17 rfl ?_
    refine ls_iload_n f_222_18 rfl ?_
    refine ls_invV (a := 92) f_222_19 q_222_293 [.int x1] [] rfl (Nat.le_of_ble_eq_true rfl) hl S_92 ow_214 ?_
    refine ls_call hyp hl (fun _ h1 hl1 hyp => ?_)
    refine ls_retI hyp (fun r2 hyp => ?_)
    refine ls_istore_n [some (.ref 92), some (.int x1), some (.int (lm_i h 107 x1.toNatClampNeg)), some (.int r2), none, none] f_222_22 (Nat.le_of_ble_eq_true rfl) rfl ?_
    refine ls_iconst 0 f_222_23 (by decide) ?_
    refine ls_istore [some (.ref 92), some (.int x1), some (.int (lm_i h 107 x1.toNatClampNeg)), some (.int r2), some (.int 0), none] f_222_24 (Nat.le_of_ble_eq_true rfl) rfl ?_
    refine ls_iconst 0 f_222_26 (by decide) ?_
    refine ls_istore [some (.ref 92), some (.int x1), some (.int (lm_i h 107 x1.toNatClampNeg)), some (.int r2), some (.int 0), some (.int 0)] f_222_27 (Nat.le_of_ble_eq_true rfl) rfl ?_
    exact hyp
  · refine ls_iconst 1 f_222_103 (by decide) ?_
    exact ls_zreturn f_222_104 rZ_222 (by decide) hyp
theorem b_222_29 {d : Nat} {h : lm_H} {K : Int32 → lm_H → Prop} (x1 : Int32) (x2 : Int32) (x3 : Int32) (x4 : Int32) (x5 : Int32) (hl : lm_Lay h) (hyp : (if (lm_i h 94 82) < x5 then (lm_in x1 5 False (if x4 = 0 then (lm_W (d + 1) 222 2 [some (.ref 92), some (.int (x1 + 1)), none, none, none, none] [] (lm_si h 107 x1.toNatClampNeg x2) (lm_kI K)) else (K 0 (lm_si h 107 x1.toNatClampNeg x2)))) else (lm_in x1 5 False (if x4 = 0 then (lm_call (d + 1) 210 [.ref 92, .int x1, .int x5] (lm_si h 107 x1.toNatClampNeg x5) (lm_kI fun r2 h1 => (if r2 = 0 then (lm_W (d + 1) 222 29 [some (.ref 92), some (.int x1), some (.int x2), some (.int x3), some (.int 0), some (.int (x5 + 1))] [] h1 (lm_kI K)) else (lm_call (d + 1) 214 [.ref 92, .int x1] h1 (lm_kI fun r4 h3 => (if x3 < r4 then (lm_W (d + 1) 222 29 [some (.ref 92), some (.int x1), some (.int x2), some (.int x3), some (.int 1), some (.int (x5 + 1))] [] h3 (lm_kI K)) else (lm_W (d + 1) 222 29 [some (.ref 92), some (.int x1), some (.int x2), some (.int x3), some (.int 0), some (.int (x5 + 1))] [] h3 (lm_kI K)))))))) else (lm_W (d + 1) 222 29 [some (.ref 92), some (.int x1), some (.int x2), some (.int x3), some (.int 1), some (.int (x5 + 1))] [] (lm_si h 107 x1.toNatClampNeg x5) (lm_kI K)))))) : lm_W (d + 1) 222 29 [some (.ref 92), some (.int x1), some (.int x2), some (.int x3), some (.int x4), some (.int x5)] [] h (lm_kI K) := by
  refine ls_iload f_222_29 rfl ?_
  refine ls_aload_n f_222_31 rfl ?_
  refine ls_invV (a := 92) f_222_32 q_222_126 [] [.int x5] rfl (Nat.le_of_ble_eq_true rfl) hl S_92 ow_161 ?_
  refine ls_enter [some (.ref 92)] ml_161 (Nat.le_of_ble_eq_true rfl) rfl ?_
  refine ls_aload_n f_161_0 rfl ?_
  refine ls_getR f_161_1 p_161_25 hl S_92 F_92_3 ?_
  refine ls_bipush 82 f_161_4 (by decide) ?_
  refine ls_ialdC 82 f_161_6 hl S_94 ⟨by decide, by decide, by decide⟩ ?_
  refine ls_ireturn f_161_7 rI_161 ?_
  show lm_W _ _ _ _ [.int (lm_i h 94 82), .int x5] _ _
  refine ls_icmp_gt 83 f_222_35 rfl hyp (fun _ hyp => ?_) (fun _ hyp => ?_)
  · refine ls_aload_n f_222_83 rfl ?_
    refine ls_getR f_222_84 p_222_72 hl S_92 F_92_29 ?_
    refine ls_iload_n f_222_87 rfl ?_
    refine ls_iload_n f_222_88 rfl ?_
    refine ls_iast f_222_89 hl S_107 hyp (fun hyp => ?_)
    refine ls_iload f_222_90 rfl ?_
    refine ls_if_eq 97 f_222_92 rfl hyp (fun _ hyp => ?_) (fun _ hyp => ?_)
    · refine ls_iinc (x1 + 1) [some (.ref 92), some (.int (x1 + 1)), some (.int x2), some (.int x3), some (.int x4), some (.int x5)] f_222_97 rfl (Nat.le_of_ble_eq_true rfl) rfl rfl ?_
      refine ls_goto 2 f_222_100 rfl ?_
      exact ls_mask [true, true, false, false, false, false] [some (.ref 92), some (.int (x1 + 1)), none, none, none, none] rfl hyp
    · refine ls_iconst 0 f_222_95 (by decide) ?_
      exact ls_zreturn f_222_96 rZ_222 (by decide) hyp
  · refine ls_aload_n f_222_38 rfl ?_
    refine ls_getR f_222_39 p_222_72 hl S_92 F_92_29 ?_
    refine ls_iload_n f_222_42 rfl ?_
    refine ls_iload f_222_43 rfl ?_
    refine ls_iast f_222_45 hl S_107 hyp (fun hyp => ?_)
    refine ls_iload f_222_46 rfl ?_
    refine ls_if_ne 70 f_222_48 rfl hyp (fun _ hyp => ?_) (fun _ hyp => ?_)
    · refine ls_aload_n f_222_51 rfl ?_
      refine ls_iload_n f_222_52 rfl ?_
      refine ls_iload f_222_53 rfl ?_
      refine ls_invV (a := 92) f_222_55 q_222_283 [.int x1, .int x5] [] rfl (Nat.le_of_ble_eq_true rfl) (lm_Lay_si hl _ _ _) S_92 ow_210 ?_
      refine ls_call hyp (lm_Lay_si hl _ _ _) (fun _ h1 hl1 hyp => ?_)
      refine ls_retI hyp (fun r2 hyp => ?_)
      refine ls_if_eq 74 f_222_58 rfl hyp (fun _ hyp => ?_) (fun _ hyp => ?_)
      · refine ls_iconst 0 f_222_74 (by decide) ?_
        refine ls_istore [some (.ref 92), some (.int x1), some (.int x2), some (.int x3), some (.int 0), some (.int x5)] f_222_75 (Nat.le_of_ble_eq_true rfl) rfl ?_
        refine ls_iinc (x5 + 1) [some (.ref 92), some (.int x1), some (.int x2), some (.int x3), some (.int 0), some (.int (x5 + 1))] f_222_77 rfl (Nat.le_of_ble_eq_true rfl) rfl rfl ?_
        refine ls_goto 29 f_222_80 rfl ?_
        exact hyp
      · refine ls_aload_n f_222_61 rfl ?_
        refine ls_iload_n f_222_62 rfl ?_
        refine ls_invV (a := 92) f_222_63 q_222_293 [.int x1] [] rfl (Nat.le_of_ble_eq_true rfl) hl1 S_92 ow_214 ?_
        refine ls_call hyp hl1 (fun _ h3 hl3 hyp => ?_)
        refine ls_retI hyp (fun r4 hyp => ?_)
        refine ls_iload_n f_222_66 rfl ?_
        refine ls_icmp_le 74 f_222_67 rfl hyp (fun _ hyp => ?_) (fun _ hyp => ?_)
        · refine ls_iconst 1 f_222_70 (by decide) ?_
          refine ls_goto 75 f_222_71 rfl ?_
          refine ls_istore [some (.ref 92), some (.int x1), some (.int x2), some (.int x3), some (.int 1), some (.int x5)] f_222_75 (Nat.le_of_ble_eq_true rfl) rfl ?_
          refine ls_iinc (x5 + 1) [some (.ref 92), some (.int x1), some (.int x2), some (.int x3), some (.int 1), some (.int (x5 + 1))] f_222_77 rfl (Nat.le_of_ble_eq_true rfl) rfl rfl ?_
          refine ls_goto 29 f_222_80 rfl ?_
          exact hyp
        · refine ls_iconst 0 f_222_74 (by decide) ?_
          refine ls_istore [some (.ref 92), some (.int x1), some (.int x2), some (.int x3), some (.int 0), some (.int x5)] f_222_75 (Nat.le_of_ble_eq_true rfl) rfl ?_
          refine ls_iinc (x5 + 1) [some (.ref 92), some (.int x1), some (.int x2), some (.int x3), some (.int 0), some (.int (x5 + 1))] f_222_77 rfl (Nat.le_of_ble_eq_true rfl) rfl rfl ?_
          refine ls_goto 29 f_222_80 rfl ?_
          exact hyp
    · refine ls_iconst 1 f_222_70 (by decide) ?_
      refine ls_goto 75 f_222_71 rfl ?_
      refine ls_istore [some (.ref 92), some (.int x1), some (.int x2), some (.int x3), some (.int 1), some (.int x5)] f_222_75 (Nat.le_of_ble_eq_true rfl) rfl ?_
      refine ls_iinc (x5 + 1) [some (.ref 92), some (.int x1), some (.int x2), some (.int x3), some (.int 1), some (.int (x5 + 1))] f_222_77 rfl (Nat.le_of_ble_eq_true rfl) rfl rfl ?_
      refine ls_goto 29 f_222_80 rfl ?_
      exact hyp
theorem e_223 {d : Nat} {h : lm_H} {K : lm_H → Prop} (hl : lm_Lay h) (hyp : lm_call (d + 1) 208 [.ref 92] h (lm_kV fun h1 => (if (lm_i h1 92 39) = (lm_i h1 92 1) then (K h1) else (lm_W (d + 1) 223 41 [some (.ref 92), some (.int 0), none, none, none] [] (lm_si (lm_si (lm_si (lm_si h1 92 39 (lm_i h1 92 1)) 92 31 0) 92 34 0) 92 35 0) (lm_kV K))))) : lm_call (d + 2) 223 [.ref 92] h (lm_kV K) := by
  refine ls_enter [some (.ref 92), none, none, none, none] ml_223 (Nat.le_of_ble_eq_true rfl) rfl ?_
  refine ls_aload_n f_223_0 rfl ?_
  refine ls_invV (a := 92) f_223_1 q_223_280 [] [] rfl (Nat.le_of_ble_eq_true rfl) hl S_92 ow_208 ?_
  refine ls_call hyp hl (fun _ h1 hl1 hyp => ?_)
  refine ls_retV hyp (fun hyp => ?_)
  refine ls_aload_n f_223_4 rfl ?_
  refine ls_getI f_223_5 p_223_78 hl1 S_92 ?_
  refine ls_aload_n f_223_8 rfl ?_
  refine ls_getI f_223_9 p_223_16 hl1 S_92 ?_
  refine ls_icmp_ne 16 f_223_12 rfl hyp (fun _ hyp => ?_) (fun _ hyp => ?_)
  · exact ls_return f_223_15 rV_223 hyp
  · refine ls_aload_n f_223_16 rfl ?_
    refine ls_aload_n f_223_17 rfl ?_
    refine ls_getI f_223_18 p_223_16 hl1 S_92 ?_
    refine ls_putI f_223_21 p_223_78 hl1 S_92 rfl ?_
    refine ls_aload_n f_223_24 rfl ?_
    refine ls_iconst 0 f_223_25 (by decide) ?_
    refine ls_putI f_223_26 p_223_302 (lm_Lay_si hl1 _ _ _) S_92 rfl ?_
    refine ls_aload_n f_223_29 rfl ?_
    refine ls_iconst 0 f_223_30 (by decide) ?_
    refine ls_putI f_223_31 p_223_305 (lm_Lay_si (lm_Lay_si hl1 _ _ _) _ _ _) S_92 rfl ?_
    refine ls_aload_n f_223_34 rfl ?_
    refine ls_iconst 0 f_223_35 (by decide) ?_
    refine ls_putI f_223_36 p_223_308 (lm_Lay_si (lm_Lay_si (lm_Lay_si hl1 _ _ _) _ _ _) _ _ _) S_92 rfl ?_
    refine ls_iconst 0 f_223_39 (by decide) ?_
    refine ls_istore_n [some (.ref 92), some (.int 0), none, none, none] f_223_40 (Nat.le_of_ble_eq_true rfl) rfl ?_
    exact hyp
theorem b_223_41 {d : Nat} {h : lm_H} {K : lm_H → Prop} (x1 : Int32) (hl : lm_Lay h) (hyp : lm_call (d + 1) 219 [.ref 92] h (lm_kI fun r2 h1 => (if x1 < r2 then (lm_call (d + 1) 220 [.ref 92, .int x1] h1 (lm_kI fun r4 h3 => (if r4 = 0 then (lm_W (d + 1) 223 41 [some (.ref 92), some (.int (x1 + 1)), none, none, none] [] h3 (lm_kV K)) else (lm_call (d + 1) 215 [.ref 92] h3 (lm_kI fun r6 h5 => (if (lm_i h5 92 31) = 0 then (if r6 = r6 then (lm_W (d + 1) 223 123 [some (.ref 92), some (.int x1), some (.int r6), some (.int 1000000), some (.int 0)] [] (lm_si (lm_si (lm_si (lm_si h5 92 30 r6) 92 32 x1) 92 31 0) 92 31 1) (lm_kV K)) else (lm_W (d + 1) 223 123 [some (.ref 92), some (.int x1), some (.int r6), some (.int 1000000), some (.int 0)] [] (lm_si (lm_si (lm_si (lm_si h5 92 30 r6) 92 32 x1) 92 31 0) 92 31 0) (lm_kV K))) else (if (lm_i h5 92 30) < r6 then (if r6 = r6 then (lm_W (d + 1) 223 123 [some (.ref 92), some (.int x1), some (.int r6), some (.int 1000000), some (.int 0)] [] (lm_si (lm_si (lm_si (lm_si h5 92 30 r6) 92 32 x1) 92 31 0) 92 31 1) (lm_kV K)) else (lm_W (d + 1) 223 123 [some (.ref 92), some (.int x1), some (.int r6), some (.int 1000000), some (.int 0)] [] (lm_si (lm_si (lm_si (lm_si h5 92 30 r6) 92 32 x1) 92 31 0) 92 31 0) (lm_kV K))) else (if r6 = (lm_i h5 92 30) then (lm_W (d + 1) 223 123 [some (.ref 92), some (.int x1), some (.int r6), some (.int 1000000), some (.int 0)] [] (lm_si h5 92 31 ((lm_i h5 92 31) + 1)) (lm_kV K)) else (lm_W (d + 1) 223 123 [some (.ref 92), some (.int x1), some (.int r6), some (.int 1000000), some (.int 0)] [] (lm_si h5 92 31 ((lm_i h5 92 31) + 0)) (lm_kV K)))))))))) else (K h1)))) : lm_W (d + 1) 223 41 [some (.ref 92), some (.int x1), none, none, none] [] h (lm_kV K) := by
  refine ls_iload_n f_223_41 rfl ?_
  refine ls_aload_n f_223_42 rfl ?_
  refine ls_invV (a := 92) f_223_43 q_223_311 [] [.int x1] rfl (Nat.le_of_ble_eq_true rfl) hl S_92 ow_219 ?_
  refine ls_call hyp hl (fun _ h1 hl1 hyp => ?_)
  refine ls_retI hyp (fun r2 hyp => ?_)
  refine ls_icmp_ge 296 f_223_46 rfl hyp (fun _ hyp => ?_) (fun _ hyp => ?_)
  · refine ls_aload_n f_223_49 rfl ?_
    refine ls_iload_n f_223_50 rfl ?_
    refine ls_invV (a := 92) f_223_51 q_223_314 [.int x1] [] rfl (Nat.le_of_ble_eq_true rfl) hl1 S_92 ow_220 ?_
    refine ls_call hyp hl1 (fun _ h3 hl3 hyp => ?_)
    refine ls_retI hyp (fun r4 hyp => ?_)
    refine ls_if_ne 60 f_223_54 rfl hyp (fun _ hyp => ?_) (fun _ hyp => ?_)
    · refine ls_goto 290 f_223_57 rfl ?_
      refine ls_iinc (x1 + 1) [some (.ref 92), some (.int (x1 + 1)), none, none, none] f_223_290 rfl (Nat.le_of_ble_eq_true rfl) rfl rfl ?_
      refine ls_goto 41 f_223_293 rfl ?_
      exact hyp
    · refine ls_aload_n f_223_60 rfl ?_
      refine ls_invV (a := 92) f_223_61 q_223_299 [] [] rfl (Nat.le_of_ble_eq_true rfl) hl3 S_92 ow_215 ?_
      refine ls_call hyp hl3 (fun _ h5 hl5 hyp => ?_)
      refine ls_retI hyp (fun r6 hyp => ?_)
      refine ls_istore_n [some (.ref 92), some (.int x1), some (.int r6), none, none] f_223_64 (Nat.le_of_ble_eq_true rfl) rfl ?_
      refine ls_aload_n f_223_65 rfl ?_
      refine ls_getI f_223_66 p_223_302 hl5 S_92 ?_
      refine ls_if_eq 80 f_223_69 rfl hyp (fun _ hyp => ?_) (fun _ hyp => ?_)
      · refine ls_aload_n f_223_80 rfl ?_
        refine ls_iload_n f_223_81 rfl ?_
        refine ls_putI f_223_82 p_223_317 hl5 S_92 rfl ?_
        refine ls_aload_n f_223_85 rfl ?_
        refine ls_iload_n f_223_86 rfl ?_
        refine ls_putI f_223_87 p_223_320 (lm_Lay_si hl5 _ _ _) S_92 rfl ?_
        refine ls_aload_n f_223_90 rfl ?_
        refine ls_iconst 0 f_223_91 (by decide) ?_
        refine ls_putI f_223_92 p_223_302 (lm_Lay_si (lm_Lay_si hl5 _ _ _) _ _ _) S_92 rfl ?_
        refine ls_aload_n f_223_95 rfl ?_
        refine ls_dup f_223_96 rfl ?_
        refine ls_getI f_223_97 p_223_302 (lm_Lay_si (lm_Lay_si (lm_Lay_si hl5 _ _ _) _ _ _) _ _ _) S_92 ?_
        refine ls_top 0 rfl ?_
        refine ls_iload_n f_223_100 rfl ?_
        refine ls_aload_n f_223_101 rfl ?_
        refine ls_getI f_223_102 p_223_317 (lm_Lay_si (lm_Lay_si (lm_Lay_si hl5 _ _ _) _ _ _) _ _ _) S_92 ?_
        refine ls_top r6 rfl ?_
        refine ls_icmp_ne 112 f_223_105 rfl hyp (fun _ hyp => ?_) (fun _ hyp => ?_)
        · refine ls_iconst 1 f_223_108 (by decide) ?_
          refine ls_goto 113 f_223_109 rfl ?_
          refine ls_iadd 1 f_223_113 (by decide) ?_
          refine ls_putI f_223_114 p_223_302 (lm_Lay_si (lm_Lay_si (lm_Lay_si hl5 _ _ _) _ _ _) _ _ _) S_92 rfl ?_
          refine ls_ldc f_223_117 k_223_158 ?_
          refine ls_istore_n [some (.ref 92), some (.int x1), some (.int r6), some (.int 1000000), none] f_223_119 (Nat.le_of_ble_eq_true rfl) rfl ?_
          refine ls_iconst 0 f_223_120 (by decide) ?_
          refine ls_istore [some (.ref 92), some (.int x1), some (.int r6), some (.int 1000000), some (.int 0)] f_223_121 (Nat.le_of_ble_eq_true rfl) rfl ?_
          exact hyp
        · refine ls_iconst 0 f_223_112 (by decide) ?_
          refine ls_iadd 0 f_223_113 (by decide) ?_
          refine ls_putI f_223_114 p_223_302 (lm_Lay_si (lm_Lay_si (lm_Lay_si hl5 _ _ _) _ _ _) _ _ _) S_92 rfl ?_
          refine ls_ldc f_223_117 k_223_158 ?_
          refine ls_istore_n [some (.ref 92), some (.int x1), some (.int r6), some (.int 1000000), none] f_223_119 (Nat.le_of_ble_eq_true rfl) rfl ?_
          refine ls_iconst 0 f_223_120 (by decide) ?_
          refine ls_istore [some (.ref 92), some (.int x1), some (.int r6), some (.int 1000000), some (.int 0)] f_223_121 (Nat.le_of_ble_eq_true rfl) rfl ?_
          exact hyp
      · refine ls_iload_n f_223_72 rfl ?_
        refine ls_aload_n f_223_73 rfl ?_
        refine ls_getI f_223_74 p_223_317 hl5 S_92 ?_
        refine ls_icmp_le 95 f_223_77 rfl hyp (fun _ hyp => ?_) (fun _ hyp => ?_)
        · refine ls_aload_n f_223_80 rfl ?_
          refine ls_iload_n f_223_81 rfl ?_
          refine ls_putI f_223_82 p_223_317 hl5 S_92 rfl ?_
          refine ls_aload_n f_223_85 rfl ?_
          refine ls_iload_n f_223_86 rfl ?_
          refine ls_putI f_223_87 p_223_320 (lm_Lay_si hl5 _ _ _) S_92 rfl ?_
          refine ls_aload_n f_223_90 rfl ?_
          refine ls_iconst 0 f_223_91 (by decide) ?_
          refine ls_putI f_223_92 p_223_302 (lm_Lay_si (lm_Lay_si hl5 _ _ _) _ _ _) S_92 rfl ?_
          refine ls_aload_n f_223_95 rfl ?_
          refine ls_dup f_223_96 rfl ?_
          refine ls_getI f_223_97 p_223_302 (lm_Lay_si (lm_Lay_si (lm_Lay_si hl5 _ _ _) _ _ _) _ _ _) S_92 ?_
          refine ls_top 0 rfl ?_
          refine ls_iload_n f_223_100 rfl ?_
          refine ls_aload_n f_223_101 rfl ?_
          refine ls_getI f_223_102 p_223_317 (lm_Lay_si (lm_Lay_si (lm_Lay_si hl5 _ _ _) _ _ _) _ _ _) S_92 ?_
          refine ls_top r6 rfl ?_
          refine ls_icmp_ne 112 f_223_105 rfl hyp (fun _ hyp => ?_) (fun _ hyp => ?_)
          · refine ls_iconst 1 f_223_108 (by decide) ?_
            refine ls_goto 113 f_223_109 rfl ?_
            refine ls_iadd 1 f_223_113 (by decide) ?_
            refine ls_putI f_223_114 p_223_302 (lm_Lay_si (lm_Lay_si (lm_Lay_si hl5 _ _ _) _ _ _) _ _ _) S_92 rfl ?_
            refine ls_ldc f_223_117 k_223_158 ?_
            refine ls_istore_n [some (.ref 92), some (.int x1), some (.int r6), some (.int 1000000), none] f_223_119 (Nat.le_of_ble_eq_true rfl) rfl ?_
            refine ls_iconst 0 f_223_120 (by decide) ?_
            refine ls_istore [some (.ref 92), some (.int x1), some (.int r6), some (.int 1000000), some (.int 0)] f_223_121 (Nat.le_of_ble_eq_true rfl) rfl ?_
            exact hyp
          · refine ls_iconst 0 f_223_112 (by decide) ?_
            refine ls_iadd 0 f_223_113 (by decide) ?_
            refine ls_putI f_223_114 p_223_302 (lm_Lay_si (lm_Lay_si (lm_Lay_si hl5 _ _ _) _ _ _) _ _ _) S_92 rfl ?_
            refine ls_ldc f_223_117 k_223_158 ?_
            refine ls_istore_n [some (.ref 92), some (.int x1), some (.int r6), some (.int 1000000), none] f_223_119 (Nat.le_of_ble_eq_true rfl) rfl ?_
            refine ls_iconst 0 f_223_120 (by decide) ?_
            refine ls_istore [some (.ref 92), some (.int x1), some (.int r6), some (.int 1000000), some (.int 0)] f_223_121 (Nat.le_of_ble_eq_true rfl) rfl ?_
            exact hyp
        · refine ls_aload_n f_223_95 rfl ?_
          refine ls_dup f_223_96 rfl ?_
          refine ls_getI f_223_97 p_223_302 hl5 S_92 ?_
          refine ls_iload_n f_223_100 rfl ?_
          refine ls_aload_n f_223_101 rfl ?_
          refine ls_getI f_223_102 p_223_317 hl5 S_92 ?_
          refine ls_icmp_ne 112 f_223_105 rfl hyp (fun _ hyp => ?_) (fun _ hyp => ?_)
          · refine ls_iconst 1 f_223_108 (by decide) ?_
            refine ls_goto 113 f_223_109 rfl ?_
            refine ls_iadd ((lm_i h5 92 31) + 1) f_223_113 rfl ?_
            refine ls_putI f_223_114 p_223_302 hl5 S_92 rfl ?_
            refine ls_ldc f_223_117 k_223_158 ?_
            refine ls_istore_n [some (.ref 92), some (.int x1), some (.int r6), some (.int 1000000), none] f_223_119 (Nat.le_of_ble_eq_true rfl) rfl ?_
            refine ls_iconst 0 f_223_120 (by decide) ?_
            refine ls_istore [some (.ref 92), some (.int x1), some (.int r6), some (.int 1000000), some (.int 0)] f_223_121 (Nat.le_of_ble_eq_true rfl) rfl ?_
            exact hyp
          · refine ls_iconst 0 f_223_112 (by decide) ?_
            refine ls_iadd ((lm_i h5 92 31) + 0) f_223_113 rfl ?_
            refine ls_putI f_223_114 p_223_302 hl5 S_92 rfl ?_
            refine ls_ldc f_223_117 k_223_158 ?_
            refine ls_istore_n [some (.ref 92), some (.int x1), some (.int r6), some (.int 1000000), none] f_223_119 (Nat.le_of_ble_eq_true rfl) rfl ?_
            refine ls_iconst 0 f_223_120 (by decide) ?_
            refine ls_istore [some (.ref 92), some (.int x1), some (.int r6), some (.int 1000000), some (.int 0)] f_223_121 (Nat.le_of_ble_eq_true rfl) rfl ?_
            exact hyp
  · exact ls_return f_223_296 rV_223 hyp
theorem b_223_123 {d : Nat} {h : lm_H} {K : lm_H → Prop} (x1 : Int32) (x2 : Int32) (x3 : Int32) (x4 : Int32) (hl : lm_Lay h) (hyp : (if x4 < (lm_i h 94 81) then (lm_call (d + 1) 214 [.ref 92, .int x4] h (lm_kI fun r2 h1 => (if r2 < x3 then (lm_call (d + 1) 214 [.ref 92, .int x4] h1 (lm_kI fun r4 h3 => lm_W (d + 1) 223 123 [some (.ref 92), some (.int x1), some (.int x2), some (.int r4), some (.int (x4 + 1))] [] h3 (lm_kV K))) else (lm_W (d + 1) 223 123 [some (.ref 92), some (.int x1), some (.int x2), some (.int x3), some (.int (x4 + 1))] [] h1 (lm_kV K))))) else (if (lm_i h 92 34) = 0 then (if x3 = x3 then (lm_call (d + 1) 222 [.ref 92] (lm_si (lm_si (lm_si h 92 33 x3) 92 34 0) 92 34 1) (lm_kI fun r6 h5 => (if r6 = 0 then (lm_W (d + 1) 223 41 [some (.ref 92), some (.int (x1 + 1)), none, none, none] [] h5 (lm_kV K)) else (if (lm_i h5 92 35) = 0 then (if (lm_i h5 92 35) = 0 then (lm_in (lm_i h5 92 35) 16807 False (lm_W (d + 1) 223 41 [some (.ref 92), some (.int (x1 + 1)), none, none, none] [] (lm_si (lm_si (lm_si (lm_si h5 92 36 x2) 92 37 x2) 108 ((lm_i h5 92 35).toNatClampNeg) x1) 92 35 ((lm_i h5 92 35) + 1)) (lm_kV K))) else (if x2 < (lm_i h5 92 37) then (lm_in (lm_i h5 92 35) 16807 False (lm_W (d + 1) 223 41 [some (.ref 92), some (.int (x1 + 1)), none, none, none] [] (lm_si (lm_si (lm_si (lm_si h5 92 36 x2) 92 37 x2) 108 ((lm_i h5 92 35).toNatClampNeg) x1) 92 35 ((lm_i h5 92 35) + 1)) (lm_kV K))) else (lm_in (lm_i h5 92 35) 16807 False (lm_W (d + 1) 223 41 [some (.ref 92), some (.int (x1 + 1)), none, none, none] [] (lm_si (lm_si (lm_si (lm_si h5 92 36 x2) 92 37 (lm_i h5 92 37)) 108 ((lm_i h5 92 35).toNatClampNeg) x1) 92 35 ((lm_i h5 92 35) + 1)) (lm_kV K))))) else (if (lm_i h5 92 36) < x2 then (if (lm_i h5 92 35) = 0 then (lm_in (lm_i h5 92 35) 16807 False (lm_W (d + 1) 223 41 [some (.ref 92), some (.int (x1 + 1)), none, none, none] [] (lm_si (lm_si (lm_si (lm_si h5 92 36 x2) 92 37 x2) 108 ((lm_i h5 92 35).toNatClampNeg) x1) 92 35 ((lm_i h5 92 35) + 1)) (lm_kV K))) else (if x2 < (lm_i h5 92 37) then (lm_in (lm_i h5 92 35) 16807 False (lm_W (d + 1) 223 41 [some (.ref 92), some (.int (x1 + 1)), none, none, none] [] (lm_si (lm_si (lm_si (lm_si h5 92 36 x2) 92 37 x2) 108 ((lm_i h5 92 35).toNatClampNeg) x1) 92 35 ((lm_i h5 92 35) + 1)) (lm_kV K))) else (lm_in (lm_i h5 92 35) 16807 False (lm_W (d + 1) 223 41 [some (.ref 92), some (.int (x1 + 1)), none, none, none] [] (lm_si (lm_si (lm_si (lm_si h5 92 36 x2) 92 37 (lm_i h5 92 37)) 108 ((lm_i h5 92 35).toNatClampNeg) x1) 92 35 ((lm_i h5 92 35) + 1)) (lm_kV K))))) else (if (lm_i h5 92 35) = 0 then (lm_in (lm_i h5 92 35) 16807 False (lm_W (d + 1) 223 41 [some (.ref 92), some (.int (x1 + 1)), none, none, none] [] (lm_si (lm_si (lm_si (lm_si h5 92 36 (lm_i h5 92 36)) 92 37 x2) 108 ((lm_i h5 92 35).toNatClampNeg) x1) 92 35 ((lm_i h5 92 35) + 1)) (lm_kV K))) else (if x2 < (lm_i h5 92 37) then (lm_in (lm_i h5 92 35) 16807 False (lm_W (d + 1) 223 41 [some (.ref 92), some (.int (x1 + 1)), none, none, none] [] (lm_si (lm_si (lm_si (lm_si h5 92 36 (lm_i h5 92 36)) 92 37 x2) 108 ((lm_i h5 92 35).toNatClampNeg) x1) 92 35 ((lm_i h5 92 35) + 1)) (lm_kV K))) else (lm_in (lm_i h5 92 35) 16807 False (lm_W (d + 1) 223 41 [some (.ref 92), some (.int (x1 + 1)), none, none, none] [] (lm_si (lm_si (lm_si (lm_si h5 92 36 (lm_i h5 92 36)) 92 37 (lm_i h5 92 37)) 108 ((lm_i h5 92 35).toNatClampNeg) x1) 92 35 ((lm_i h5 92 35) + 1)) (lm_kV K)))))))))) else (lm_call (d + 1) 222 [.ref 92] (lm_si (lm_si (lm_si h 92 33 x3) 92 34 0) 92 34 0) (lm_kI fun r8 h7 => (if r8 = 0 then (lm_W (d + 1) 223 41 [some (.ref 92), some (.int (x1 + 1)), none, none, none] [] h7 (lm_kV K)) else (if (lm_i h7 92 35) = 0 then (if (lm_i h7 92 35) = 0 then (lm_in (lm_i h7 92 35) 16807 False (lm_W (d + 1) 223 41 [some (.ref 92), some (.int (x1 + 1)), none, none, none] [] (lm_si (lm_si (lm_si (lm_si h7 92 36 x2) 92 37 x2) 108 ((lm_i h7 92 35).toNatClampNeg) x1) 92 35 ((lm_i h7 92 35) + 1)) (lm_kV K))) else (if x2 < (lm_i h7 92 37) then (lm_in (lm_i h7 92 35) 16807 False (lm_W (d + 1) 223 41 [some (.ref 92), some (.int (x1 + 1)), none, none, none] [] (lm_si (lm_si (lm_si (lm_si h7 92 36 x2) 92 37 x2) 108 ((lm_i h7 92 35).toNatClampNeg) x1) 92 35 ((lm_i h7 92 35) + 1)) (lm_kV K))) else (lm_in (lm_i h7 92 35) 16807 False (lm_W (d + 1) 223 41 [some (.ref 92), some (.int (x1 + 1)), none, none, none] [] (lm_si (lm_si (lm_si (lm_si h7 92 36 x2) 92 37 (lm_i h7 92 37)) 108 ((lm_i h7 92 35).toNatClampNeg) x1) 92 35 ((lm_i h7 92 35) + 1)) (lm_kV K))))) else (if (lm_i h7 92 36) < x2 then (if (lm_i h7 92 35) = 0 then (lm_in (lm_i h7 92 35) 16807 False (lm_W (d + 1) 223 41 [some (.ref 92), some (.int (x1 + 1)), none, none, none] [] (lm_si (lm_si (lm_si (lm_si h7 92 36 x2) 92 37 x2) 108 ((lm_i h7 92 35).toNatClampNeg) x1) 92 35 ((lm_i h7 92 35) + 1)) (lm_kV K))) else (if x2 < (lm_i h7 92 37) then (lm_in (lm_i h7 92 35) 16807 False (lm_W (d + 1) 223 41 [some (.ref 92), some (.int (x1 + 1)), none, none, none] [] (lm_si (lm_si (lm_si (lm_si h7 92 36 x2) 92 37 x2) 108 ((lm_i h7 92 35).toNatClampNeg) x1) 92 35 ((lm_i h7 92 35) + 1)) (lm_kV K))) else (lm_in (lm_i h7 92 35) 16807 False (lm_W (d + 1) 223 41 [some (.ref 92), some (.int (x1 + 1)), none, none, none] [] (lm_si (lm_si (lm_si (lm_si h7 92 36 x2) 92 37 (lm_i h7 92 37)) 108 ((lm_i h7 92 35).toNatClampNeg) x1) 92 35 ((lm_i h7 92 35) + 1)) (lm_kV K))))) else (if (lm_i h7 92 35) = 0 then (lm_in (lm_i h7 92 35) 16807 False (lm_W (d + 1) 223 41 [some (.ref 92), some (.int (x1 + 1)), none, none, none] [] (lm_si (lm_si (lm_si (lm_si h7 92 36 (lm_i h7 92 36)) 92 37 x2) 108 ((lm_i h7 92 35).toNatClampNeg) x1) 92 35 ((lm_i h7 92 35) + 1)) (lm_kV K))) else (if x2 < (lm_i h7 92 37) then (lm_in (lm_i h7 92 35) 16807 False (lm_W (d + 1) 223 41 [some (.ref 92), some (.int (x1 + 1)), none, none, none] [] (lm_si (lm_si (lm_si (lm_si h7 92 36 (lm_i h7 92 36)) 92 37 x2) 108 ((lm_i h7 92 35).toNatClampNeg) x1) 92 35 ((lm_i h7 92 35) + 1)) (lm_kV K))) else (lm_in (lm_i h7 92 35) 16807 False (lm_W (d + 1) 223 41 [some (.ref 92), some (.int (x1 + 1)), none, none, none] [] (lm_si (lm_si (lm_si (lm_si h7 92 36 (lm_i h7 92 36)) 92 37 (lm_i h7 92 37)) 108 ((lm_i h7 92 35).toNatClampNeg) x1) 92 35 ((lm_i h7 92 35) + 1)) (lm_kV K))))))))))) else (if (lm_i h 92 33) < x3 then (if x3 = x3 then (lm_call (d + 1) 222 [.ref 92] (lm_si (lm_si (lm_si h 92 33 x3) 92 34 0) 92 34 1) (lm_kI fun r10 h9 => (if r10 = 0 then (lm_W (d + 1) 223 41 [some (.ref 92), some (.int (x1 + 1)), none, none, none] [] h9 (lm_kV K)) else (if (lm_i h9 92 35) = 0 then (if (lm_i h9 92 35) = 0 then (lm_in (lm_i h9 92 35) 16807 False (lm_W (d + 1) 223 41 [some (.ref 92), some (.int (x1 + 1)), none, none, none] [] (lm_si (lm_si (lm_si (lm_si h9 92 36 x2) 92 37 x2) 108 ((lm_i h9 92 35).toNatClampNeg) x1) 92 35 ((lm_i h9 92 35) + 1)) (lm_kV K))) else (if x2 < (lm_i h9 92 37) then (lm_in (lm_i h9 92 35) 16807 False (lm_W (d + 1) 223 41 [some (.ref 92), some (.int (x1 + 1)), none, none, none] [] (lm_si (lm_si (lm_si (lm_si h9 92 36 x2) 92 37 x2) 108 ((lm_i h9 92 35).toNatClampNeg) x1) 92 35 ((lm_i h9 92 35) + 1)) (lm_kV K))) else (lm_in (lm_i h9 92 35) 16807 False (lm_W (d + 1) 223 41 [some (.ref 92), some (.int (x1 + 1)), none, none, none] [] (lm_si (lm_si (lm_si (lm_si h9 92 36 x2) 92 37 (lm_i h9 92 37)) 108 ((lm_i h9 92 35).toNatClampNeg) x1) 92 35 ((lm_i h9 92 35) + 1)) (lm_kV K))))) else (if (lm_i h9 92 36) < x2 then (if (lm_i h9 92 35) = 0 then (lm_in (lm_i h9 92 35) 16807 False (lm_W (d + 1) 223 41 [some (.ref 92), some (.int (x1 + 1)), none, none, none] [] (lm_si (lm_si (lm_si (lm_si h9 92 36 x2) 92 37 x2) 108 ((lm_i h9 92 35).toNatClampNeg) x1) 92 35 ((lm_i h9 92 35) + 1)) (lm_kV K))) else (if x2 < (lm_i h9 92 37) then (lm_in (lm_i h9 92 35) 16807 False (lm_W (d + 1) 223 41 [some (.ref 92), some (.int (x1 + 1)), none, none, none] [] (lm_si (lm_si (lm_si (lm_si h9 92 36 x2) 92 37 x2) 108 ((lm_i h9 92 35).toNatClampNeg) x1) 92 35 ((lm_i h9 92 35) + 1)) (lm_kV K))) else (lm_in (lm_i h9 92 35) 16807 False (lm_W (d + 1) 223 41 [some (.ref 92), some (.int (x1 + 1)), none, none, none] [] (lm_si (lm_si (lm_si (lm_si h9 92 36 x2) 92 37 (lm_i h9 92 37)) 108 ((lm_i h9 92 35).toNatClampNeg) x1) 92 35 ((lm_i h9 92 35) + 1)) (lm_kV K))))) else (if (lm_i h9 92 35) = 0 then (lm_in (lm_i h9 92 35) 16807 False (lm_W (d + 1) 223 41 [some (.ref 92), some (.int (x1 + 1)), none, none, none] [] (lm_si (lm_si (lm_si (lm_si h9 92 36 (lm_i h9 92 36)) 92 37 x2) 108 ((lm_i h9 92 35).toNatClampNeg) x1) 92 35 ((lm_i h9 92 35) + 1)) (lm_kV K))) else (if x2 < (lm_i h9 92 37) then (lm_in (lm_i h9 92 35) 16807 False (lm_W (d + 1) 223 41 [some (.ref 92), some (.int (x1 + 1)), none, none, none] [] (lm_si (lm_si (lm_si (lm_si h9 92 36 (lm_i h9 92 36)) 92 37 x2) 108 ((lm_i h9 92 35).toNatClampNeg) x1) 92 35 ((lm_i h9 92 35) + 1)) (lm_kV K))) else (lm_in (lm_i h9 92 35) 16807 False (lm_W (d + 1) 223 41 [some (.ref 92), some (.int (x1 + 1)), none, none, none] [] (lm_si (lm_si (lm_si (lm_si h9 92 36 (lm_i h9 92 36)) 92 37 (lm_i h9 92 37)) 108 ((lm_i h9 92 35).toNatClampNeg) x1) 92 35 ((lm_i h9 92 35) + 1)) (lm_kV K)))))))))) else (lm_call (d + 1) 222 [.ref 92] (lm_si (lm_si (lm_si h 92 33 x3) 92 34 0) 92 34 0) (lm_kI fun r12 h11 => (if r12 = 0 then (lm_W (d + 1) 223 41 [some (.ref 92), some (.int (x1 + 1)), none, none, none] [] h11 (lm_kV K)) else (if (lm_i h11 92 35) = 0 then (if (lm_i h11 92 35) = 0 then (lm_in (lm_i h11 92 35) 16807 False (lm_W (d + 1) 223 41 [some (.ref 92), some (.int (x1 + 1)), none, none, none] [] (lm_si (lm_si (lm_si (lm_si h11 92 36 x2) 92 37 x2) 108 ((lm_i h11 92 35).toNatClampNeg) x1) 92 35 ((lm_i h11 92 35) + 1)) (lm_kV K))) else (if x2 < (lm_i h11 92 37) then (lm_in (lm_i h11 92 35) 16807 False (lm_W (d + 1) 223 41 [some (.ref 92), some (.int (x1 + 1)), none, none, none] [] (lm_si (lm_si (lm_si (lm_si h11 92 36 x2) 92 37 x2) 108 ((lm_i h11 92 35).toNatClampNeg) x1) 92 35 ((lm_i h11 92 35) + 1)) (lm_kV K))) else (lm_in (lm_i h11 92 35) 16807 False (lm_W (d + 1) 223 41 [some (.ref 92), some (.int (x1 + 1)), none, none, none] [] (lm_si (lm_si (lm_si (lm_si h11 92 36 x2) 92 37 (lm_i h11 92 37)) 108 ((lm_i h11 92 35).toNatClampNeg) x1) 92 35 ((lm_i h11 92 35) + 1)) (lm_kV K))))) else (if (lm_i h11 92 36) < x2 then (if (lm_i h11 92 35) = 0 then (lm_in (lm_i h11 92 35) 16807 False (lm_W (d + 1) 223 41 [some (.ref 92), some (.int (x1 + 1)), none, none, none] [] (lm_si (lm_si (lm_si (lm_si h11 92 36 x2) 92 37 x2) 108 ((lm_i h11 92 35).toNatClampNeg) x1) 92 35 ((lm_i h11 92 35) + 1)) (lm_kV K))) else (if x2 < (lm_i h11 92 37) then (lm_in (lm_i h11 92 35) 16807 False (lm_W (d + 1) 223 41 [some (.ref 92), some (.int (x1 + 1)), none, none, none] [] (lm_si (lm_si (lm_si (lm_si h11 92 36 x2) 92 37 x2) 108 ((lm_i h11 92 35).toNatClampNeg) x1) 92 35 ((lm_i h11 92 35) + 1)) (lm_kV K))) else (lm_in (lm_i h11 92 35) 16807 False (lm_W (d + 1) 223 41 [some (.ref 92), some (.int (x1 + 1)), none, none, none] [] (lm_si (lm_si (lm_si (lm_si h11 92 36 x2) 92 37 (lm_i h11 92 37)) 108 ((lm_i h11 92 35).toNatClampNeg) x1) 92 35 ((lm_i h11 92 35) + 1)) (lm_kV K))))) else (if (lm_i h11 92 35) = 0 then (lm_in (lm_i h11 92 35) 16807 False (lm_W (d + 1) 223 41 [some (.ref 92), some (.int (x1 + 1)), none, none, none] [] (lm_si (lm_si (lm_si (lm_si h11 92 36 (lm_i h11 92 36)) 92 37 x2) 108 ((lm_i h11 92 35).toNatClampNeg) x1) 92 35 ((lm_i h11 92 35) + 1)) (lm_kV K))) else (if x2 < (lm_i h11 92 37) then (lm_in (lm_i h11 92 35) 16807 False (lm_W (d + 1) 223 41 [some (.ref 92), some (.int (x1 + 1)), none, none, none] [] (lm_si (lm_si (lm_si (lm_si h11 92 36 (lm_i h11 92 36)) 92 37 x2) 108 ((lm_i h11 92 35).toNatClampNeg) x1) 92 35 ((lm_i h11 92 35) + 1)) (lm_kV K))) else (lm_in (lm_i h11 92 35) 16807 False (lm_W (d + 1) 223 41 [some (.ref 92), some (.int (x1 + 1)), none, none, none] [] (lm_si (lm_si (lm_si (lm_si h11 92 36 (lm_i h11 92 36)) 92 37 (lm_i h11 92 37)) 108 ((lm_i h11 92 35).toNatClampNeg) x1) 92 35 ((lm_i h11 92 35) + 1)) (lm_kV K))))))))))) else (if x3 = (lm_i h 92 33) then (lm_call (d + 1) 222 [.ref 92] (lm_si h 92 34 ((lm_i h 92 34) + 1)) (lm_kI fun r14 h13 => (if r14 = 0 then (lm_W (d + 1) 223 41 [some (.ref 92), some (.int (x1 + 1)), none, none, none] [] h13 (lm_kV K)) else (if (lm_i h13 92 35) = 0 then (if (lm_i h13 92 35) = 0 then (lm_in (lm_i h13 92 35) 16807 False (lm_W (d + 1) 223 41 [some (.ref 92), some (.int (x1 + 1)), none, none, none] [] (lm_si (lm_si (lm_si (lm_si h13 92 36 x2) 92 37 x2) 108 ((lm_i h13 92 35).toNatClampNeg) x1) 92 35 ((lm_i h13 92 35) + 1)) (lm_kV K))) else (if x2 < (lm_i h13 92 37) then (lm_in (lm_i h13 92 35) 16807 False (lm_W (d + 1) 223 41 [some (.ref 92), some (.int (x1 + 1)), none, none, none] [] (lm_si (lm_si (lm_si (lm_si h13 92 36 x2) 92 37 x2) 108 ((lm_i h13 92 35).toNatClampNeg) x1) 92 35 ((lm_i h13 92 35) + 1)) (lm_kV K))) else (lm_in (lm_i h13 92 35) 16807 False (lm_W (d + 1) 223 41 [some (.ref 92), some (.int (x1 + 1)), none, none, none] [] (lm_si (lm_si (lm_si (lm_si h13 92 36 x2) 92 37 (lm_i h13 92 37)) 108 ((lm_i h13 92 35).toNatClampNeg) x1) 92 35 ((lm_i h13 92 35) + 1)) (lm_kV K))))) else (if (lm_i h13 92 36) < x2 then (if (lm_i h13 92 35) = 0 then (lm_in (lm_i h13 92 35) 16807 False (lm_W (d + 1) 223 41 [some (.ref 92), some (.int (x1 + 1)), none, none, none] [] (lm_si (lm_si (lm_si (lm_si h13 92 36 x2) 92 37 x2) 108 ((lm_i h13 92 35).toNatClampNeg) x1) 92 35 ((lm_i h13 92 35) + 1)) (lm_kV K))) else (if x2 < (lm_i h13 92 37) then (lm_in (lm_i h13 92 35) 16807 False (lm_W (d + 1) 223 41 [some (.ref 92), some (.int (x1 + 1)), none, none, none] [] (lm_si (lm_si (lm_si (lm_si h13 92 36 x2) 92 37 x2) 108 ((lm_i h13 92 35).toNatClampNeg) x1) 92 35 ((lm_i h13 92 35) + 1)) (lm_kV K))) else (lm_in (lm_i h13 92 35) 16807 False (lm_W (d + 1) 223 41 [some (.ref 92), some (.int (x1 + 1)), none, none, none] [] (lm_si (lm_si (lm_si (lm_si h13 92 36 x2) 92 37 (lm_i h13 92 37)) 108 ((lm_i h13 92 35).toNatClampNeg) x1) 92 35 ((lm_i h13 92 35) + 1)) (lm_kV K))))) else (if (lm_i h13 92 35) = 0 then (lm_in (lm_i h13 92 35) 16807 False (lm_W (d + 1) 223 41 [some (.ref 92), some (.int (x1 + 1)), none, none, none] [] (lm_si (lm_si (lm_si (lm_si h13 92 36 (lm_i h13 92 36)) 92 37 x2) 108 ((lm_i h13 92 35).toNatClampNeg) x1) 92 35 ((lm_i h13 92 35) + 1)) (lm_kV K))) else (if x2 < (lm_i h13 92 37) then (lm_in (lm_i h13 92 35) 16807 False (lm_W (d + 1) 223 41 [some (.ref 92), some (.int (x1 + 1)), none, none, none] [] (lm_si (lm_si (lm_si (lm_si h13 92 36 (lm_i h13 92 36)) 92 37 x2) 108 ((lm_i h13 92 35).toNatClampNeg) x1) 92 35 ((lm_i h13 92 35) + 1)) (lm_kV K))) else (lm_in (lm_i h13 92 35) 16807 False (lm_W (d + 1) 223 41 [some (.ref 92), some (.int (x1 + 1)), none, none, none] [] (lm_si (lm_si (lm_si (lm_si h13 92 36 (lm_i h13 92 36)) 92 37 (lm_i h13 92 37)) 108 ((lm_i h13 92 35).toNatClampNeg) x1) 92 35 ((lm_i h13 92 35) + 1)) (lm_kV K)))))))))) else (lm_call (d + 1) 222 [.ref 92] (lm_si h 92 34 ((lm_i h 92 34) + 0)) (lm_kI fun r16 h15 => (if r16 = 0 then (lm_W (d + 1) 223 41 [some (.ref 92), some (.int (x1 + 1)), none, none, none] [] h15 (lm_kV K)) else (if (lm_i h15 92 35) = 0 then (if (lm_i h15 92 35) = 0 then (lm_in (lm_i h15 92 35) 16807 False (lm_W (d + 1) 223 41 [some (.ref 92), some (.int (x1 + 1)), none, none, none] [] (lm_si (lm_si (lm_si (lm_si h15 92 36 x2) 92 37 x2) 108 ((lm_i h15 92 35).toNatClampNeg) x1) 92 35 ((lm_i h15 92 35) + 1)) (lm_kV K))) else (if x2 < (lm_i h15 92 37) then (lm_in (lm_i h15 92 35) 16807 False (lm_W (d + 1) 223 41 [some (.ref 92), some (.int (x1 + 1)), none, none, none] [] (lm_si (lm_si (lm_si (lm_si h15 92 36 x2) 92 37 x2) 108 ((lm_i h15 92 35).toNatClampNeg) x1) 92 35 ((lm_i h15 92 35) + 1)) (lm_kV K))) else (lm_in (lm_i h15 92 35) 16807 False (lm_W (d + 1) 223 41 [some (.ref 92), some (.int (x1 + 1)), none, none, none] [] (lm_si (lm_si (lm_si (lm_si h15 92 36 x2) 92 37 (lm_i h15 92 37)) 108 ((lm_i h15 92 35).toNatClampNeg) x1) 92 35 ((lm_i h15 92 35) + 1)) (lm_kV K))))) else (if (lm_i h15 92 36) < x2 then (if (lm_i h15 92 35) = 0 then (lm_in (lm_i h15 92 35) 16807 False (lm_W (d + 1) 223 41 [some (.ref 92), some (.int (x1 + 1)), none, none, none] [] (lm_si (lm_si (lm_si (lm_si h15 92 36 x2) 92 37 x2) 108 ((lm_i h15 92 35).toNatClampNeg) x1) 92 35 ((lm_i h15 92 35) + 1)) (lm_kV K))) else (if x2 < (lm_i h15 92 37) then (lm_in (lm_i h15 92 35) 16807 False (lm_W (d + 1) 223 41 [some (.ref 92), some (.int (x1 + 1)), none, none, none] [] (lm_si (lm_si (lm_si (lm_si h15 92 36 x2) 92 37 x2) 108 ((lm_i h15 92 35).toNatClampNeg) x1) 92 35 ((lm_i h15 92 35) + 1)) (lm_kV K))) else (lm_in (lm_i h15 92 35) 16807 False (lm_W (d + 1) 223 41 [some (.ref 92), some (.int (x1 + 1)), none, none, none] [] (lm_si (lm_si (lm_si (lm_si h15 92 36 x2) 92 37 (lm_i h15 92 37)) 108 ((lm_i h15 92 35).toNatClampNeg) x1) 92 35 ((lm_i h15 92 35) + 1)) (lm_kV K))))) else (if (lm_i h15 92 35) = 0 then (lm_in (lm_i h15 92 35) 16807 False (lm_W (d + 1) 223 41 [some (.ref 92), some (.int (x1 + 1)), none, none, none] [] (lm_si (lm_si (lm_si (lm_si h15 92 36 (lm_i h15 92 36)) 92 37 x2) 108 ((lm_i h15 92 35).toNatClampNeg) x1) 92 35 ((lm_i h15 92 35) + 1)) (lm_kV K))) else (if x2 < (lm_i h15 92 37) then (lm_in (lm_i h15 92 35) 16807 False (lm_W (d + 1) 223 41 [some (.ref 92), some (.int (x1 + 1)), none, none, none] [] (lm_si (lm_si (lm_si (lm_si h15 92 36 (lm_i h15 92 36)) 92 37 x2) 108 ((lm_i h15 92 35).toNatClampNeg) x1) 92 35 ((lm_i h15 92 35) + 1)) (lm_kV K))) else (lm_in (lm_i h15 92 35) 16807 False (lm_W (d + 1) 223 41 [some (.ref 92), some (.int (x1 + 1)), none, none, none] [] (lm_si (lm_si (lm_si (lm_si h15 92 36 (lm_i h15 92 36)) 92 37 (lm_i h15 92 37)) 108 ((lm_i h15 92 35).toNatClampNeg) x1) 92 35 ((lm_i h15 92 35) + 1)) (lm_kV K))))))))))))))) : lm_W (d + 1) 223 123 [some (.ref 92), some (.int x1), some (.int x2), some (.int x3), some (.int x4)] [] h (lm_kV K) := by
  refine ls_iload f_223_123 rfl ?_
  refine ls_aload_n f_223_125 rfl ?_
  refine ls_invV (a := 92) f_223_126 q_223_122 [] [.int x4] rfl (Nat.le_of_ble_eq_true rfl) hl S_92 ow_160 ?_
  refine ls_enter [some (.ref 92)] ml_160 (Nat.le_of_ble_eq_true rfl) rfl ?_
  refine ls_aload_n f_160_0 rfl ?_
  refine ls_getR f_160_1 p_160_25 hl S_92 F_92_3 ?_
  refine ls_bipush 81 f_160_4 (by decide) ?_
  refine ls_ialdC 81 f_160_6 hl S_94 ⟨by decide, by decide, by decide⟩ ?_
  refine ls_ireturn f_160_7 rI_160 ?_
  show lm_W _ _ _ _ [.int (lm_i h 94 81), .int x4] _ _
  refine ls_icmp_ge 159 f_223_129 rfl hyp (fun _ hyp => ?_) (fun _ hyp => ?_)
  · refine ls_aload_n f_223_132 rfl ?_
    refine ls_iload f_223_133 rfl ?_
    refine ls_invV (a := 92) f_223_135 q_223_293 [.int x4] [] rfl (Nat.le_of_ble_eq_true rfl) hl S_92 ow_214 ?_
    refine ls_call hyp hl (fun _ h1 hl1 hyp => ?_)
    refine ls_retI hyp (fun r2 hyp => ?_)
    refine ls_iload_n f_223_138 rfl ?_
    refine ls_icmp_ge 151 f_223_139 rfl hyp (fun _ hyp => ?_) (fun _ hyp => ?_)
    · refine ls_aload_n f_223_142 rfl ?_
      refine ls_iload f_223_143 rfl ?_
      refine ls_invV (a := 92) f_223_145 q_223_293 [.int x4] [] rfl (Nat.le_of_ble_eq_true rfl) hl1 S_92 ow_214 ?_
      refine ls_call hyp hl1 (fun _ h3 hl3 hyp => ?_)
      refine ls_retI hyp (fun r4 hyp => ?_)
      refine ls_goto 152 f_223_148 rfl ?_
      refine ls_istore_n [some (.ref 92), some (.int x1), some (.int x2), some (.int r4), some (.int x4)] f_223_152 (Nat.le_of_ble_eq_true rfl) rfl ?_
      refine ls_iinc (x4 + 1) [some (.ref 92), some (.int x1), some (.int x2), some (.int r4), some (.int (x4 + 1))] f_223_153 rfl (Nat.le_of_ble_eq_true rfl) rfl rfl ?_
      refine ls_goto 123 f_223_156 rfl ?_
      exact hyp
    · refine ls_iload_n f_223_151 rfl ?_
      refine ls_istore_n [some (.ref 92), some (.int x1), some (.int x2), some (.int x3), some (.int x4)] f_223_152 (Nat.le_of_ble_eq_true rfl) rfl ?_
      refine ls_iinc (x4 + 1) [some (.ref 92), some (.int x1), some (.int x2), some (.int x3), some (.int (x4 + 1))] f_223_153 rfl (Nat.le_of_ble_eq_true rfl) rfl rfl ?_
      refine ls_goto 123 f_223_156 rfl ?_
      exact hyp
  · refine ls_aload_n f_223_159 rfl ?_
    refine ls_getI f_223_160 p_223_305 hl S_92 ?_
    refine ls_if_eq 174 f_223_163 rfl hyp (fun _ hyp => ?_) (fun _ hyp => ?_)
    · refine ls_aload_n f_223_174 rfl ?_
      refine ls_iload_n f_223_175 rfl ?_
      refine ls_putI f_223_176 p_223_323 hl S_92 rfl ?_
      refine ls_aload_n f_223_179 rfl ?_
      refine ls_iconst 0 f_223_180 (by decide) ?_
      refine ls_putI f_223_181 p_223_305 (lm_Lay_si hl _ _ _) S_92 rfl ?_
      refine ls_aload_n f_223_184 rfl ?_
      refine ls_dup f_223_185 rfl ?_
      refine ls_getI f_223_186 p_223_305 (lm_Lay_si (lm_Lay_si hl _ _ _) _ _ _) S_92 ?_
      refine ls_top 0 rfl ?_
      refine ls_iload_n f_223_189 rfl ?_
      refine ls_aload_n f_223_190 rfl ?_
      refine ls_getI f_223_191 p_223_323 (lm_Lay_si (lm_Lay_si hl _ _ _) _ _ _) S_92 ?_
      refine ls_top x3 rfl ?_
      refine ls_icmp_ne 201 f_223_194 rfl hyp (fun _ hyp => ?_) (fun _ hyp => ?_)
      · refine ls_iconst 1 f_223_197 (by decide) ?_
        refine ls_goto 202 f_223_198 rfl ?_
        refine ls_iadd 1 f_223_202 (by decide) ?_
        refine ls_putI f_223_203 p_223_305 (lm_Lay_si (lm_Lay_si hl _ _ _) _ _ _) S_92 rfl ?_
        refine ls_aload_n f_223_206 rfl ?_
        refine ls_invV (a := 92) f_223_207 q_223_326 [] [] rfl (Nat.le_of_ble_eq_true rfl) (lm_Lay_si (lm_Lay_si (lm_Lay_si hl _ _ _) _ _ _) _ _ _) S_92 ow_222 ?_
        refine ls_call hyp (lm_Lay_si (lm_Lay_si (lm_Lay_si hl _ _ _) _ _ _) _ _ _) (fun _ h5 hl5 hyp => ?_)
        refine ls_retI hyp (fun r6 hyp => ?_)
        refine ls_if_ne 216 f_223_210 rfl hyp (fun _ hyp => ?_) (fun _ hyp => ?_)
        · refine ls_goto 290 f_223_213 rfl ?_
          refine ls_iinc (x1 + 1) [some (.ref 92), some (.int (x1 + 1)), some (.int x2), some (.int x3), some (.int x4)] f_223_290 rfl (Nat.le_of_ble_eq_true rfl) rfl rfl ?_
          refine ls_goto 41 f_223_293 rfl ?_
          exact ls_mask [true, true, false, false, false] [some (.ref 92), some (.int (x1 + 1)), none, none, none] rfl hyp
        · refine ls_aload_n f_223_216 rfl ?_
          refine ls_aload_n f_223_217 rfl ?_
          refine ls_getI f_223_218 p_223_308 hl5 S_92 ?_
          refine ls_if_eq 232 f_223_221 rfl hyp (fun _ hyp => ?_) (fun _ hyp => ?_)
          · refine ls_iload_n f_223_232 rfl ?_
            refine ls_goto 240 f_223_233 rfl ?_
            refine ls_putI f_223_240 p_223_329 hl5 S_92 rfl ?_
            refine ls_aload_n f_223_243 rfl ?_
            refine ls_aload_n f_223_244 rfl ?_
            refine ls_getI f_223_245 p_223_308 (lm_Lay_si hl5 _ _ _) S_92 ?_
            refine ls_top (lm_i h5 92 35) rfl ?_
            refine ls_if_eq 259 f_223_248 rfl hyp (fun _ hyp => ?_) (fun _ hyp => ?_)
            · refine ls_iload_n f_223_259 rfl ?_
              refine ls_goto 267 f_223_260 rfl ?_
              refine ls_putI f_223_267 p_223_332 (lm_Lay_si hl5 _ _ _) S_92 rfl ?_
              refine ls_aload_n f_223_270 rfl ?_
              refine ls_getR f_223_271 p_223_75 (lm_Lay_si (lm_Lay_si hl5 _ _ _) _ _ _) S_92 F_92_38 ?_
              refine ls_aload_n f_223_274 rfl ?_
              refine ls_getI f_223_275 p_223_308 (lm_Lay_si (lm_Lay_si hl5 _ _ _) _ _ _) S_92 ?_
              refine ls_top (lm_i h5 92 35) rfl ?_
              refine ls_iload_n f_223_278 rfl ?_
              refine ls_iast f_223_279 (lm_Lay_si (lm_Lay_si hl5 _ _ _) _ _ _) S_108 hyp (fun hyp => ?_)
              refine ls_aload_n f_223_280 rfl ?_
              refine ls_dup f_223_281 rfl ?_
              refine ls_getI f_223_282 p_223_308 (lm_Lay_si (lm_Lay_si (lm_Lay_si hl5 _ _ _) _ _ _) _ _ _) S_92 ?_
              refine ls_top (lm_i h5 92 35) rfl ?_
              refine ls_iconst 1 f_223_285 (by decide) ?_
              refine ls_iadd ((lm_i h5 92 35) + 1) f_223_286 rfl ?_
              refine ls_putI f_223_287 p_223_308 (lm_Lay_si (lm_Lay_si (lm_Lay_si hl5 _ _ _) _ _ _) _ _ _) S_92 rfl ?_
              refine ls_iinc (x1 + 1) [some (.ref 92), some (.int (x1 + 1)), some (.int x2), some (.int x3), some (.int x4)] f_223_290 rfl (Nat.le_of_ble_eq_true rfl) rfl rfl ?_
              refine ls_goto 41 f_223_293 rfl ?_
              exact ls_mask [true, true, false, false, false] [some (.ref 92), some (.int (x1 + 1)), none, none, none] rfl hyp
            · refine ls_iload_n f_223_251 rfl ?_
              refine ls_aload_n f_223_252 rfl ?_
              refine ls_getI f_223_253 p_223_332 (lm_Lay_si hl5 _ _ _) S_92 ?_
              refine ls_top (lm_i h5 92 37) rfl ?_
              refine ls_icmp_ge 263 f_223_256 rfl hyp (fun _ hyp => ?_) (fun _ hyp => ?_)
              · refine ls_iload_n f_223_259 rfl ?_
                refine ls_goto 267 f_223_260 rfl ?_
                refine ls_putI f_223_267 p_223_332 (lm_Lay_si hl5 _ _ _) S_92 rfl ?_
                refine ls_aload_n f_223_270 rfl ?_
                refine ls_getR f_223_271 p_223_75 (lm_Lay_si (lm_Lay_si hl5 _ _ _) _ _ _) S_92 F_92_38 ?_
                refine ls_aload_n f_223_274 rfl ?_
                refine ls_getI f_223_275 p_223_308 (lm_Lay_si (lm_Lay_si hl5 _ _ _) _ _ _) S_92 ?_
                refine ls_top (lm_i h5 92 35) rfl ?_
                refine ls_iload_n f_223_278 rfl ?_
                refine ls_iast f_223_279 (lm_Lay_si (lm_Lay_si hl5 _ _ _) _ _ _) S_108 hyp (fun hyp => ?_)
                refine ls_aload_n f_223_280 rfl ?_
                refine ls_dup f_223_281 rfl ?_
                refine ls_getI f_223_282 p_223_308 (lm_Lay_si (lm_Lay_si (lm_Lay_si hl5 _ _ _) _ _ _) _ _ _) S_92 ?_
                refine ls_top (lm_i h5 92 35) rfl ?_
                refine ls_iconst 1 f_223_285 (by decide) ?_
                refine ls_iadd ((lm_i h5 92 35) + 1) f_223_286 rfl ?_
                refine ls_putI f_223_287 p_223_308 (lm_Lay_si (lm_Lay_si (lm_Lay_si hl5 _ _ _) _ _ _) _ _ _) S_92 rfl ?_
                refine ls_iinc (x1 + 1) [some (.ref 92), some (.int (x1 + 1)), some (.int x2), some (.int x3), some (.int x4)] f_223_290 rfl (Nat.le_of_ble_eq_true rfl) rfl rfl ?_
                refine ls_goto 41 f_223_293 rfl ?_
                exact ls_mask [true, true, false, false, false] [some (.ref 92), some (.int (x1 + 1)), none, none, none] rfl hyp
              · refine ls_aload_n f_223_263 rfl ?_
                refine ls_getI f_223_264 p_223_332 (lm_Lay_si hl5 _ _ _) S_92 ?_
                refine ls_top (lm_i h5 92 37) rfl ?_
                refine ls_putI f_223_267 p_223_332 (lm_Lay_si hl5 _ _ _) S_92 rfl ?_
                refine ls_aload_n f_223_270 rfl ?_
                refine ls_getR f_223_271 p_223_75 (lm_Lay_si (lm_Lay_si hl5 _ _ _) _ _ _) S_92 F_92_38 ?_
                refine ls_aload_n f_223_274 rfl ?_
                refine ls_getI f_223_275 p_223_308 (lm_Lay_si (lm_Lay_si hl5 _ _ _) _ _ _) S_92 ?_
                refine ls_top (lm_i h5 92 35) rfl ?_
                refine ls_iload_n f_223_278 rfl ?_
                refine ls_iast f_223_279 (lm_Lay_si (lm_Lay_si hl5 _ _ _) _ _ _) S_108 hyp (fun hyp => ?_)
                refine ls_aload_n f_223_280 rfl ?_
                refine ls_dup f_223_281 rfl ?_
                refine ls_getI f_223_282 p_223_308 (lm_Lay_si (lm_Lay_si (lm_Lay_si hl5 _ _ _) _ _ _) _ _ _) S_92 ?_
                refine ls_top (lm_i h5 92 35) rfl ?_
                refine ls_iconst 1 f_223_285 (by decide) ?_
                refine ls_iadd ((lm_i h5 92 35) + 1) f_223_286 rfl ?_
                refine ls_putI f_223_287 p_223_308 (lm_Lay_si (lm_Lay_si (lm_Lay_si hl5 _ _ _) _ _ _) _ _ _) S_92 rfl ?_
                refine ls_iinc (x1 + 1) [some (.ref 92), some (.int (x1 + 1)), some (.int x2), some (.int x3), some (.int x4)] f_223_290 rfl (Nat.le_of_ble_eq_true rfl) rfl rfl ?_
                refine ls_goto 41 f_223_293 rfl ?_
                exact ls_mask [true, true, false, false, false] [some (.ref 92), some (.int (x1 + 1)), none, none, none] rfl hyp
          · refine ls_iload_n f_223_224 rfl ?_
            refine ls_aload_n f_223_225 rfl ?_
            refine ls_getI f_223_226 p_223_329 hl5 S_92 ?_
            refine ls_icmp_le 236 f_223_229 rfl hyp (fun _ hyp => ?_) (fun _ hyp => ?_)
            · refine ls_iload_n f_223_232 rfl ?_
              refine ls_goto 240 f_223_233 rfl ?_
              refine ls_putI f_223_240 p_223_329 hl5 S_92 rfl ?_
              refine ls_aload_n f_223_243 rfl ?_
              refine ls_aload_n f_223_244 rfl ?_
              refine ls_getI f_223_245 p_223_308 (lm_Lay_si hl5 _ _ _) S_92 ?_
              refine ls_top (lm_i h5 92 35) rfl ?_
              refine ls_if_eq 259 f_223_248 rfl hyp (fun _ hyp => ?_) (fun _ hyp => ?_)
              · refine ls_iload_n f_223_259 rfl ?_
                refine ls_goto 267 f_223_260 rfl ?_
                refine ls_putI f_223_267 p_223_332 (lm_Lay_si hl5 _ _ _) S_92 rfl ?_
                refine ls_aload_n f_223_270 rfl ?_
                refine ls_getR f_223_271 p_223_75 (lm_Lay_si (lm_Lay_si hl5 _ _ _) _ _ _) S_92 F_92_38 ?_
                refine ls_aload_n f_223_274 rfl ?_
                refine ls_getI f_223_275 p_223_308 (lm_Lay_si (lm_Lay_si hl5 _ _ _) _ _ _) S_92 ?_
                refine ls_top (lm_i h5 92 35) rfl ?_
                refine ls_iload_n f_223_278 rfl ?_
                refine ls_iast f_223_279 (lm_Lay_si (lm_Lay_si hl5 _ _ _) _ _ _) S_108 hyp (fun hyp => ?_)
                refine ls_aload_n f_223_280 rfl ?_
                refine ls_dup f_223_281 rfl ?_
                refine ls_getI f_223_282 p_223_308 (lm_Lay_si (lm_Lay_si (lm_Lay_si hl5 _ _ _) _ _ _) _ _ _) S_92 ?_
                refine ls_top (lm_i h5 92 35) rfl ?_
                refine ls_iconst 1 f_223_285 (by decide) ?_
                refine ls_iadd ((lm_i h5 92 35) + 1) f_223_286 rfl ?_
                refine ls_putI f_223_287 p_223_308 (lm_Lay_si (lm_Lay_si (lm_Lay_si hl5 _ _ _) _ _ _) _ _ _) S_92 rfl ?_
                refine ls_iinc (x1 + 1) [some (.ref 92), some (.int (x1 + 1)), some (.int x2), some (.int x3), some (.int x4)] f_223_290 rfl (Nat.le_of_ble_eq_true rfl) rfl rfl ?_
                refine ls_goto 41 f_223_293 rfl ?_
                exact ls_mask [true, true, false, false, false] [some (.ref 92), some (.int (x1 + 1)), none, none, none] rfl hyp
              · refine ls_iload_n f_223_251 rfl ?_
                refine ls_aload_n f_223_252 rfl ?_
                refine ls_getI f_223_253 p_223_332 (lm_Lay_si hl5 _ _ _) S_92 ?_
                refine ls_top (lm_i h5 92 37) rfl ?_
                refine ls_icmp_ge 263 f_223_256 rfl hyp (fun _ hyp => ?_) (fun _ hyp => ?_)
                · refine ls_iload_n f_223_259 rfl ?_
                  refine ls_goto 267 f_223_260 rfl ?_
                  refine ls_putI f_223_267 p_223_332 (lm_Lay_si hl5 _ _ _) S_92 rfl ?_
                  refine ls_aload_n f_223_270 rfl ?_
                  refine ls_getR f_223_271 p_223_75 (lm_Lay_si (lm_Lay_si hl5 _ _ _) _ _ _) S_92 F_92_38 ?_
                  refine ls_aload_n f_223_274 rfl ?_
                  refine ls_getI f_223_275 p_223_308 (lm_Lay_si (lm_Lay_si hl5 _ _ _) _ _ _) S_92 ?_
                  refine ls_top (lm_i h5 92 35) rfl ?_
                  refine ls_iload_n f_223_278 rfl ?_
                  refine ls_iast f_223_279 (lm_Lay_si (lm_Lay_si hl5 _ _ _) _ _ _) S_108 hyp (fun hyp => ?_)
                  refine ls_aload_n f_223_280 rfl ?_
                  refine ls_dup f_223_281 rfl ?_
                  refine ls_getI f_223_282 p_223_308 (lm_Lay_si (lm_Lay_si (lm_Lay_si hl5 _ _ _) _ _ _) _ _ _) S_92 ?_
                  refine ls_top (lm_i h5 92 35) rfl ?_
                  refine ls_iconst 1 f_223_285 (by decide) ?_
                  refine ls_iadd ((lm_i h5 92 35) + 1) f_223_286 rfl ?_
                  refine ls_putI f_223_287 p_223_308 (lm_Lay_si (lm_Lay_si (lm_Lay_si hl5 _ _ _) _ _ _) _ _ _) S_92 rfl ?_
                  refine ls_iinc (x1 + 1) [some (.ref 92), some (.int (x1 + 1)), some (.int x2), some (.int x3), some (.int x4)] f_223_290 rfl (Nat.le_of_ble_eq_true rfl) rfl rfl ?_
                  refine ls_goto 41 f_223_293 rfl ?_
                  exact ls_mask [true, true, false, false, false] [some (.ref 92), some (.int (x1 + 1)), none, none, none] rfl hyp
                · refine ls_aload_n f_223_263 rfl ?_
                  refine ls_getI f_223_264 p_223_332 (lm_Lay_si hl5 _ _ _) S_92 ?_
                  refine ls_top (lm_i h5 92 37) rfl ?_
                  refine ls_putI f_223_267 p_223_332 (lm_Lay_si hl5 _ _ _) S_92 rfl ?_
                  refine ls_aload_n f_223_270 rfl ?_
                  refine ls_getR f_223_271 p_223_75 (lm_Lay_si (lm_Lay_si hl5 _ _ _) _ _ _) S_92 F_92_38 ?_
                  refine ls_aload_n f_223_274 rfl ?_
                  refine ls_getI f_223_275 p_223_308 (lm_Lay_si (lm_Lay_si hl5 _ _ _) _ _ _) S_92 ?_
                  refine ls_top (lm_i h5 92 35) rfl ?_
                  refine ls_iload_n f_223_278 rfl ?_
                  refine ls_iast f_223_279 (lm_Lay_si (lm_Lay_si hl5 _ _ _) _ _ _) S_108 hyp (fun hyp => ?_)
                  refine ls_aload_n f_223_280 rfl ?_
                  refine ls_dup f_223_281 rfl ?_
                  refine ls_getI f_223_282 p_223_308 (lm_Lay_si (lm_Lay_si (lm_Lay_si hl5 _ _ _) _ _ _) _ _ _) S_92 ?_
                  refine ls_top (lm_i h5 92 35) rfl ?_
                  refine ls_iconst 1 f_223_285 (by decide) ?_
                  refine ls_iadd ((lm_i h5 92 35) + 1) f_223_286 rfl ?_
                  refine ls_putI f_223_287 p_223_308 (lm_Lay_si (lm_Lay_si (lm_Lay_si hl5 _ _ _) _ _ _) _ _ _) S_92 rfl ?_
                  refine ls_iinc (x1 + 1) [some (.ref 92), some (.int (x1 + 1)), some (.int x2), some (.int x3), some (.int x4)] f_223_290 rfl (Nat.le_of_ble_eq_true rfl) rfl rfl ?_
                  refine ls_goto 41 f_223_293 rfl ?_
                  exact ls_mask [true, true, false, false, false] [some (.ref 92), some (.int (x1 + 1)), none, none, none] rfl hyp
            · refine ls_aload_n f_223_236 rfl ?_
              refine ls_getI f_223_237 p_223_329 hl5 S_92 ?_
              refine ls_putI f_223_240 p_223_329 hl5 S_92 rfl ?_
              refine ls_aload_n f_223_243 rfl ?_
              refine ls_aload_n f_223_244 rfl ?_
              refine ls_getI f_223_245 p_223_308 (lm_Lay_si hl5 _ _ _) S_92 ?_
              refine ls_top (lm_i h5 92 35) rfl ?_
              refine ls_if_eq 259 f_223_248 rfl hyp (fun _ hyp => ?_) (fun _ hyp => ?_)
              · refine ls_iload_n f_223_259 rfl ?_
                refine ls_goto 267 f_223_260 rfl ?_
                refine ls_putI f_223_267 p_223_332 (lm_Lay_si hl5 _ _ _) S_92 rfl ?_
                refine ls_aload_n f_223_270 rfl ?_
                refine ls_getR f_223_271 p_223_75 (lm_Lay_si (lm_Lay_si hl5 _ _ _) _ _ _) S_92 F_92_38 ?_
                refine ls_aload_n f_223_274 rfl ?_
                refine ls_getI f_223_275 p_223_308 (lm_Lay_si (lm_Lay_si hl5 _ _ _) _ _ _) S_92 ?_
                refine ls_top (lm_i h5 92 35) rfl ?_
                refine ls_iload_n f_223_278 rfl ?_
                refine ls_iast f_223_279 (lm_Lay_si (lm_Lay_si hl5 _ _ _) _ _ _) S_108 hyp (fun hyp => ?_)
                refine ls_aload_n f_223_280 rfl ?_
                refine ls_dup f_223_281 rfl ?_
                refine ls_getI f_223_282 p_223_308 (lm_Lay_si (lm_Lay_si (lm_Lay_si hl5 _ _ _) _ _ _) _ _ _) S_92 ?_
                refine ls_top (lm_i h5 92 35) rfl ?_
                refine ls_iconst 1 f_223_285 (by decide) ?_
                refine ls_iadd ((lm_i h5 92 35) + 1) f_223_286 rfl ?_
                refine ls_putI f_223_287 p_223_308 (lm_Lay_si (lm_Lay_si (lm_Lay_si hl5 _ _ _) _ _ _) _ _ _) S_92 rfl ?_
                refine ls_iinc (x1 + 1) [some (.ref 92), some (.int (x1 + 1)), some (.int x2), some (.int x3), some (.int x4)] f_223_290 rfl (Nat.le_of_ble_eq_true rfl) rfl rfl ?_
                refine ls_goto 41 f_223_293 rfl ?_
                exact ls_mask [true, true, false, false, false] [some (.ref 92), some (.int (x1 + 1)), none, none, none] rfl hyp
              · refine ls_iload_n f_223_251 rfl ?_
                refine ls_aload_n f_223_252 rfl ?_
                refine ls_getI f_223_253 p_223_332 (lm_Lay_si hl5 _ _ _) S_92 ?_
                refine ls_top (lm_i h5 92 37) rfl ?_
                refine ls_icmp_ge 263 f_223_256 rfl hyp (fun _ hyp => ?_) (fun _ hyp => ?_)
                · refine ls_iload_n f_223_259 rfl ?_
                  refine ls_goto 267 f_223_260 rfl ?_
                  refine ls_putI f_223_267 p_223_332 (lm_Lay_si hl5 _ _ _) S_92 rfl ?_
                  refine ls_aload_n f_223_270 rfl ?_
                  refine ls_getR f_223_271 p_223_75 (lm_Lay_si (lm_Lay_si hl5 _ _ _) _ _ _) S_92 F_92_38 ?_
                  refine ls_aload_n f_223_274 rfl ?_
                  refine ls_getI f_223_275 p_223_308 (lm_Lay_si (lm_Lay_si hl5 _ _ _) _ _ _) S_92 ?_
                  refine ls_top (lm_i h5 92 35) rfl ?_
                  refine ls_iload_n f_223_278 rfl ?_
                  refine ls_iast f_223_279 (lm_Lay_si (lm_Lay_si hl5 _ _ _) _ _ _) S_108 hyp (fun hyp => ?_)
                  refine ls_aload_n f_223_280 rfl ?_
                  refine ls_dup f_223_281 rfl ?_
                  refine ls_getI f_223_282 p_223_308 (lm_Lay_si (lm_Lay_si (lm_Lay_si hl5 _ _ _) _ _ _) _ _ _) S_92 ?_
                  refine ls_top (lm_i h5 92 35) rfl ?_
                  refine ls_iconst 1 f_223_285 (by decide) ?_
                  refine ls_iadd ((lm_i h5 92 35) + 1) f_223_286 rfl ?_
                  refine ls_putI f_223_287 p_223_308 (lm_Lay_si (lm_Lay_si (lm_Lay_si hl5 _ _ _) _ _ _) _ _ _) S_92 rfl ?_
                  refine ls_iinc (x1 + 1) [some (.ref 92), some (.int (x1 + 1)), some (.int x2), some (.int x3), some (.int x4)] f_223_290 rfl (Nat.le_of_ble_eq_true rfl) rfl rfl ?_
                  refine ls_goto 41 f_223_293 rfl ?_
                  exact ls_mask [true, true, false, false, false] [some (.ref 92), some (.int (x1 + 1)), none, none, none] rfl hyp
                · refine ls_aload_n f_223_263 rfl ?_
                  refine ls_getI f_223_264 p_223_332 (lm_Lay_si hl5 _ _ _) S_92 ?_
                  refine ls_top (lm_i h5 92 37) rfl ?_
                  refine ls_putI f_223_267 p_223_332 (lm_Lay_si hl5 _ _ _) S_92 rfl ?_
                  refine ls_aload_n f_223_270 rfl ?_
                  refine ls_getR f_223_271 p_223_75 (lm_Lay_si (lm_Lay_si hl5 _ _ _) _ _ _) S_92 F_92_38 ?_
                  refine ls_aload_n f_223_274 rfl ?_
                  refine ls_getI f_223_275 p_223_308 (lm_Lay_si (lm_Lay_si hl5 _ _ _) _ _ _) S_92 ?_
                  refine ls_top (lm_i h5 92 35) rfl ?_
                  refine ls_iload_n f_223_278 rfl ?_
                  refine ls_iast f_223_279 (lm_Lay_si (lm_Lay_si hl5 _ _ _) _ _ _) S_108 hyp (fun hyp => ?_)
                  refine ls_aload_n f_223_280 rfl ?_
                  refine ls_dup f_223_281 rfl ?_
                  refine ls_getI f_223_282 p_223_308 (lm_Lay_si (lm_Lay_si (lm_Lay_si hl5 _ _ _) _ _ _) _ _ _) S_92 ?_
                  refine ls_top (lm_i h5 92 35) rfl ?_
                  refine ls_iconst 1 f_223_285 (by decide) ?_
                  refine ls_iadd ((lm_i h5 92 35) + 1) f_223_286 rfl ?_
                  refine ls_putI f_223_287 p_223_308 (lm_Lay_si (lm_Lay_si (lm_Lay_si hl5 _ _ _) _ _ _) _ _ _) S_92 rfl ?_
                  refine ls_iinc (x1 + 1) [some (.ref 92), some (.int (x1 + 1)), some (.int x2), some (.int x3), some (.int x4)] f_223_290 rfl (Nat.le_of_ble_eq_true rfl) rfl rfl ?_
                  refine ls_goto 41 f_223_293 rfl ?_
                  exact ls_mask [true, true, false, false, false] [some (.ref 92), some (.int (x1 + 1)), none, none, none] rfl hyp
      · refine ls_iconst 0 f_223_201 (by decide) ?_
        refine ls_iadd 0 f_223_202 (by decide) ?_
        refine ls_putI f_223_203 p_223_305 (lm_Lay_si (lm_Lay_si hl _ _ _) _ _ _) S_92 rfl ?_
        refine ls_aload_n f_223_206 rfl ?_
        refine ls_invV (a := 92) f_223_207 q_223_326 [] [] rfl (Nat.le_of_ble_eq_true rfl) (lm_Lay_si (lm_Lay_si (lm_Lay_si hl _ _ _) _ _ _) _ _ _) S_92 ow_222 ?_
        refine ls_call hyp (lm_Lay_si (lm_Lay_si (lm_Lay_si hl _ _ _) _ _ _) _ _ _) (fun _ h7 hl7 hyp => ?_)
        refine ls_retI hyp (fun r8 hyp => ?_)
        refine ls_if_ne 216 f_223_210 rfl hyp (fun _ hyp => ?_) (fun _ hyp => ?_)
        · refine ls_goto 290 f_223_213 rfl ?_
          refine ls_iinc (x1 + 1) [some (.ref 92), some (.int (x1 + 1)), some (.int x2), some (.int x3), some (.int x4)] f_223_290 rfl (Nat.le_of_ble_eq_true rfl) rfl rfl ?_
          refine ls_goto 41 f_223_293 rfl ?_
          exact ls_mask [true, true, false, false, false] [some (.ref 92), some (.int (x1 + 1)), none, none, none] rfl hyp
        · refine ls_aload_n f_223_216 rfl ?_
          refine ls_aload_n f_223_217 rfl ?_
          refine ls_getI f_223_218 p_223_308 hl7 S_92 ?_
          refine ls_if_eq 232 f_223_221 rfl hyp (fun _ hyp => ?_) (fun _ hyp => ?_)
          · refine ls_iload_n f_223_232 rfl ?_
            refine ls_goto 240 f_223_233 rfl ?_
            refine ls_putI f_223_240 p_223_329 hl7 S_92 rfl ?_
            refine ls_aload_n f_223_243 rfl ?_
            refine ls_aload_n f_223_244 rfl ?_
            refine ls_getI f_223_245 p_223_308 (lm_Lay_si hl7 _ _ _) S_92 ?_
            refine ls_top (lm_i h7 92 35) rfl ?_
            refine ls_if_eq 259 f_223_248 rfl hyp (fun _ hyp => ?_) (fun _ hyp => ?_)
            · refine ls_iload_n f_223_259 rfl ?_
              refine ls_goto 267 f_223_260 rfl ?_
              refine ls_putI f_223_267 p_223_332 (lm_Lay_si hl7 _ _ _) S_92 rfl ?_
              refine ls_aload_n f_223_270 rfl ?_
              refine ls_getR f_223_271 p_223_75 (lm_Lay_si (lm_Lay_si hl7 _ _ _) _ _ _) S_92 F_92_38 ?_
              refine ls_aload_n f_223_274 rfl ?_
              refine ls_getI f_223_275 p_223_308 (lm_Lay_si (lm_Lay_si hl7 _ _ _) _ _ _) S_92 ?_
              refine ls_top (lm_i h7 92 35) rfl ?_
              refine ls_iload_n f_223_278 rfl ?_
              refine ls_iast f_223_279 (lm_Lay_si (lm_Lay_si hl7 _ _ _) _ _ _) S_108 hyp (fun hyp => ?_)
              refine ls_aload_n f_223_280 rfl ?_
              refine ls_dup f_223_281 rfl ?_
              refine ls_getI f_223_282 p_223_308 (lm_Lay_si (lm_Lay_si (lm_Lay_si hl7 _ _ _) _ _ _) _ _ _) S_92 ?_
              refine ls_top (lm_i h7 92 35) rfl ?_
              refine ls_iconst 1 f_223_285 (by decide) ?_
              refine ls_iadd ((lm_i h7 92 35) + 1) f_223_286 rfl ?_
              refine ls_putI f_223_287 p_223_308 (lm_Lay_si (lm_Lay_si (lm_Lay_si hl7 _ _ _) _ _ _) _ _ _) S_92 rfl ?_
              refine ls_iinc (x1 + 1) [some (.ref 92), some (.int (x1 + 1)), some (.int x2), some (.int x3), some (.int x4)] f_223_290 rfl (Nat.le_of_ble_eq_true rfl) rfl rfl ?_
              refine ls_goto 41 f_223_293 rfl ?_
              exact ls_mask [true, true, false, false, false] [some (.ref 92), some (.int (x1 + 1)), none, none, none] rfl hyp
            · refine ls_iload_n f_223_251 rfl ?_
              refine ls_aload_n f_223_252 rfl ?_
              refine ls_getI f_223_253 p_223_332 (lm_Lay_si hl7 _ _ _) S_92 ?_
              refine ls_top (lm_i h7 92 37) rfl ?_
              refine ls_icmp_ge 263 f_223_256 rfl hyp (fun _ hyp => ?_) (fun _ hyp => ?_)
              · refine ls_iload_n f_223_259 rfl ?_
                refine ls_goto 267 f_223_260 rfl ?_
                refine ls_putI f_223_267 p_223_332 (lm_Lay_si hl7 _ _ _) S_92 rfl ?_
                refine ls_aload_n f_223_270 rfl ?_
                refine ls_getR f_223_271 p_223_75 (lm_Lay_si (lm_Lay_si hl7 _ _ _) _ _ _) S_92 F_92_38 ?_
                refine ls_aload_n f_223_274 rfl ?_
                refine ls_getI f_223_275 p_223_308 (lm_Lay_si (lm_Lay_si hl7 _ _ _) _ _ _) S_92 ?_
                refine ls_top (lm_i h7 92 35) rfl ?_
                refine ls_iload_n f_223_278 rfl ?_
                refine ls_iast f_223_279 (lm_Lay_si (lm_Lay_si hl7 _ _ _) _ _ _) S_108 hyp (fun hyp => ?_)
                refine ls_aload_n f_223_280 rfl ?_
                refine ls_dup f_223_281 rfl ?_
                refine ls_getI f_223_282 p_223_308 (lm_Lay_si (lm_Lay_si (lm_Lay_si hl7 _ _ _) _ _ _) _ _ _) S_92 ?_
                refine ls_top (lm_i h7 92 35) rfl ?_
                refine ls_iconst 1 f_223_285 (by decide) ?_
                refine ls_iadd ((lm_i h7 92 35) + 1) f_223_286 rfl ?_
                refine ls_putI f_223_287 p_223_308 (lm_Lay_si (lm_Lay_si (lm_Lay_si hl7 _ _ _) _ _ _) _ _ _) S_92 rfl ?_
                refine ls_iinc (x1 + 1) [some (.ref 92), some (.int (x1 + 1)), some (.int x2), some (.int x3), some (.int x4)] f_223_290 rfl (Nat.le_of_ble_eq_true rfl) rfl rfl ?_
                refine ls_goto 41 f_223_293 rfl ?_
                exact ls_mask [true, true, false, false, false] [some (.ref 92), some (.int (x1 + 1)), none, none, none] rfl hyp
              · refine ls_aload_n f_223_263 rfl ?_
                refine ls_getI f_223_264 p_223_332 (lm_Lay_si hl7 _ _ _) S_92 ?_
                refine ls_top (lm_i h7 92 37) rfl ?_
                refine ls_putI f_223_267 p_223_332 (lm_Lay_si hl7 _ _ _) S_92 rfl ?_
                refine ls_aload_n f_223_270 rfl ?_
                refine ls_getR f_223_271 p_223_75 (lm_Lay_si (lm_Lay_si hl7 _ _ _) _ _ _) S_92 F_92_38 ?_
                refine ls_aload_n f_223_274 rfl ?_
                refine ls_getI f_223_275 p_223_308 (lm_Lay_si (lm_Lay_si hl7 _ _ _) _ _ _) S_92 ?_
                refine ls_top (lm_i h7 92 35) rfl ?_
                refine ls_iload_n f_223_278 rfl ?_
                refine ls_iast f_223_279 (lm_Lay_si (lm_Lay_si hl7 _ _ _) _ _ _) S_108 hyp (fun hyp => ?_)
                refine ls_aload_n f_223_280 rfl ?_
                refine ls_dup f_223_281 rfl ?_
                refine ls_getI f_223_282 p_223_308 (lm_Lay_si (lm_Lay_si (lm_Lay_si hl7 _ _ _) _ _ _) _ _ _) S_92 ?_
                refine ls_top (lm_i h7 92 35) rfl ?_
                refine ls_iconst 1 f_223_285 (by decide) ?_
                refine ls_iadd ((lm_i h7 92 35) + 1) f_223_286 rfl ?_
                refine ls_putI f_223_287 p_223_308 (lm_Lay_si (lm_Lay_si (lm_Lay_si hl7 _ _ _) _ _ _) _ _ _) S_92 rfl ?_
                refine ls_iinc (x1 + 1) [some (.ref 92), some (.int (x1 + 1)), some (.int x2), some (.int x3), some (.int x4)] f_223_290 rfl (Nat.le_of_ble_eq_true rfl) rfl rfl ?_
                refine ls_goto 41 f_223_293 rfl ?_
                exact ls_mask [true, true, false, false, false] [some (.ref 92), some (.int (x1 + 1)), none, none, none] rfl hyp
          · refine ls_iload_n f_223_224 rfl ?_
            refine ls_aload_n f_223_225 rfl ?_
            refine ls_getI f_223_226 p_223_329 hl7 S_92 ?_
            refine ls_icmp_le 236 f_223_229 rfl hyp (fun _ hyp => ?_) (fun _ hyp => ?_)
            · refine ls_iload_n f_223_232 rfl ?_
              refine ls_goto 240 f_223_233 rfl ?_
              refine ls_putI f_223_240 p_223_329 hl7 S_92 rfl ?_
              refine ls_aload_n f_223_243 rfl ?_
              refine ls_aload_n f_223_244 rfl ?_
              refine ls_getI f_223_245 p_223_308 (lm_Lay_si hl7 _ _ _) S_92 ?_
              refine ls_top (lm_i h7 92 35) rfl ?_
              refine ls_if_eq 259 f_223_248 rfl hyp (fun _ hyp => ?_) (fun _ hyp => ?_)
              · refine ls_iload_n f_223_259 rfl ?_
                refine ls_goto 267 f_223_260 rfl ?_
                refine ls_putI f_223_267 p_223_332 (lm_Lay_si hl7 _ _ _) S_92 rfl ?_
                refine ls_aload_n f_223_270 rfl ?_
                refine ls_getR f_223_271 p_223_75 (lm_Lay_si (lm_Lay_si hl7 _ _ _) _ _ _) S_92 F_92_38 ?_
                refine ls_aload_n f_223_274 rfl ?_
                refine ls_getI f_223_275 p_223_308 (lm_Lay_si (lm_Lay_si hl7 _ _ _) _ _ _) S_92 ?_
                refine ls_top (lm_i h7 92 35) rfl ?_
                refine ls_iload_n f_223_278 rfl ?_
                refine ls_iast f_223_279 (lm_Lay_si (lm_Lay_si hl7 _ _ _) _ _ _) S_108 hyp (fun hyp => ?_)
                refine ls_aload_n f_223_280 rfl ?_
                refine ls_dup f_223_281 rfl ?_
                refine ls_getI f_223_282 p_223_308 (lm_Lay_si (lm_Lay_si (lm_Lay_si hl7 _ _ _) _ _ _) _ _ _) S_92 ?_
                refine ls_top (lm_i h7 92 35) rfl ?_
                refine ls_iconst 1 f_223_285 (by decide) ?_
                refine ls_iadd ((lm_i h7 92 35) + 1) f_223_286 rfl ?_
                refine ls_putI f_223_287 p_223_308 (lm_Lay_si (lm_Lay_si (lm_Lay_si hl7 _ _ _) _ _ _) _ _ _) S_92 rfl ?_
                refine ls_iinc (x1 + 1) [some (.ref 92), some (.int (x1 + 1)), some (.int x2), some (.int x3), some (.int x4)] f_223_290 rfl (Nat.le_of_ble_eq_true rfl) rfl rfl ?_
                refine ls_goto 41 f_223_293 rfl ?_
                exact ls_mask [true, true, false, false, false] [some (.ref 92), some (.int (x1 + 1)), none, none, none] rfl hyp
              · refine ls_iload_n f_223_251 rfl ?_
                refine ls_aload_n f_223_252 rfl ?_
                refine ls_getI f_223_253 p_223_332 (lm_Lay_si hl7 _ _ _) S_92 ?_
                refine ls_top (lm_i h7 92 37) rfl ?_
                refine ls_icmp_ge 263 f_223_256 rfl hyp (fun _ hyp => ?_) (fun _ hyp => ?_)
                · refine ls_iload_n f_223_259 rfl ?_
                  refine ls_goto 267 f_223_260 rfl ?_
                  refine ls_putI f_223_267 p_223_332 (lm_Lay_si hl7 _ _ _) S_92 rfl ?_
                  refine ls_aload_n f_223_270 rfl ?_
                  refine ls_getR f_223_271 p_223_75 (lm_Lay_si (lm_Lay_si hl7 _ _ _) _ _ _) S_92 F_92_38 ?_
                  refine ls_aload_n f_223_274 rfl ?_
                  refine ls_getI f_223_275 p_223_308 (lm_Lay_si (lm_Lay_si hl7 _ _ _) _ _ _) S_92 ?_
                  refine ls_top (lm_i h7 92 35) rfl ?_
                  refine ls_iload_n f_223_278 rfl ?_
                  refine ls_iast f_223_279 (lm_Lay_si (lm_Lay_si hl7 _ _ _) _ _ _) S_108 hyp (fun hyp => ?_)
                  refine ls_aload_n f_223_280 rfl ?_
                  refine ls_dup f_223_281 rfl ?_
                  refine ls_getI f_223_282 p_223_308 (lm_Lay_si (lm_Lay_si (lm_Lay_si hl7 _ _ _) _ _ _) _ _ _) S_92 ?_
                  refine ls_top (lm_i h7 92 35) rfl ?_
                  refine ls_iconst 1 f_223_285 (by decide) ?_
                  refine ls_iadd ((lm_i h7 92 35) + 1) f_223_286 rfl ?_
                  refine ls_putI f_223_287 p_223_308 (lm_Lay_si (lm_Lay_si (lm_Lay_si hl7 _ _ _) _ _ _) _ _ _) S_92 rfl ?_
                  refine ls_iinc (x1 + 1) [some (.ref 92), some (.int (x1 + 1)), some (.int x2), some (.int x3), some (.int x4)] f_223_290 rfl (Nat.le_of_ble_eq_true rfl) rfl rfl ?_
                  refine ls_goto 41 f_223_293 rfl ?_
                  exact ls_mask [true, true, false, false, false] [some (.ref 92), some (.int (x1 + 1)), none, none, none] rfl hyp
                · refine ls_aload_n f_223_263 rfl ?_
                  refine ls_getI f_223_264 p_223_332 (lm_Lay_si hl7 _ _ _) S_92 ?_
                  refine ls_top (lm_i h7 92 37) rfl ?_
                  refine ls_putI f_223_267 p_223_332 (lm_Lay_si hl7 _ _ _) S_92 rfl ?_
                  refine ls_aload_n f_223_270 rfl ?_
                  refine ls_getR f_223_271 p_223_75 (lm_Lay_si (lm_Lay_si hl7 _ _ _) _ _ _) S_92 F_92_38 ?_
                  refine ls_aload_n f_223_274 rfl ?_
                  refine ls_getI f_223_275 p_223_308 (lm_Lay_si (lm_Lay_si hl7 _ _ _) _ _ _) S_92 ?_
                  refine ls_top (lm_i h7 92 35) rfl ?_
                  refine ls_iload_n f_223_278 rfl ?_
                  refine ls_iast f_223_279 (lm_Lay_si (lm_Lay_si hl7 _ _ _) _ _ _) S_108 hyp (fun hyp => ?_)
                  refine ls_aload_n f_223_280 rfl ?_
                  refine ls_dup f_223_281 rfl ?_
                  refine ls_getI f_223_282 p_223_308 (lm_Lay_si (lm_Lay_si (lm_Lay_si hl7 _ _ _) _ _ _) _ _ _) S_92 ?_
                  refine ls_top (lm_i h7 92 35) rfl ?_
                  refine ls_iconst 1 f_223_285 (by decide) ?_
                  refine ls_iadd ((lm_i h7 92 35) + 1) f_223_286 rfl ?_
                  refine ls_putI f_223_287 p_223_308 (lm_Lay_si (lm_Lay_si (lm_Lay_si hl7 _ _ _) _ _ _) _ _ _) S_92 rfl ?_
                  refine ls_iinc (x1 + 1) [some (.ref 92), some (.int (x1 + 1)), some (.int x2), some (.int x3), some (.int x4)] f_223_290 rfl (Nat.le_of_ble_eq_true rfl) rfl rfl ?_
                  refine ls_goto 41 f_223_293 rfl ?_
                  exact ls_mask [true, true, false, false, false] [some (.ref 92), some (.int (x1 + 1)), none, none, none] rfl hyp
            · refine ls_aload_n f_223_236 rfl ?_
              refine ls_getI f_223_237 p_223_329 hl7 S_92 ?_
              refine ls_putI f_223_240 p_223_329 hl7 S_92 rfl ?_
              refine ls_aload_n f_223_243 rfl ?_
              refine ls_aload_n f_223_244 rfl ?_
              refine ls_getI f_223_245 p_223_308 (lm_Lay_si hl7 _ _ _) S_92 ?_
              refine ls_top (lm_i h7 92 35) rfl ?_
              refine ls_if_eq 259 f_223_248 rfl hyp (fun _ hyp => ?_) (fun _ hyp => ?_)
              · refine ls_iload_n f_223_259 rfl ?_
                refine ls_goto 267 f_223_260 rfl ?_
                refine ls_putI f_223_267 p_223_332 (lm_Lay_si hl7 _ _ _) S_92 rfl ?_
                refine ls_aload_n f_223_270 rfl ?_
                refine ls_getR f_223_271 p_223_75 (lm_Lay_si (lm_Lay_si hl7 _ _ _) _ _ _) S_92 F_92_38 ?_
                refine ls_aload_n f_223_274 rfl ?_
                refine ls_getI f_223_275 p_223_308 (lm_Lay_si (lm_Lay_si hl7 _ _ _) _ _ _) S_92 ?_
                refine ls_top (lm_i h7 92 35) rfl ?_
                refine ls_iload_n f_223_278 rfl ?_
                refine ls_iast f_223_279 (lm_Lay_si (lm_Lay_si hl7 _ _ _) _ _ _) S_108 hyp (fun hyp => ?_)
                refine ls_aload_n f_223_280 rfl ?_
                refine ls_dup f_223_281 rfl ?_
                refine ls_getI f_223_282 p_223_308 (lm_Lay_si (lm_Lay_si (lm_Lay_si hl7 _ _ _) _ _ _) _ _ _) S_92 ?_
                refine ls_top (lm_i h7 92 35) rfl ?_
                refine ls_iconst 1 f_223_285 (by decide) ?_
                refine ls_iadd ((lm_i h7 92 35) + 1) f_223_286 rfl ?_
                refine ls_putI f_223_287 p_223_308 (lm_Lay_si (lm_Lay_si (lm_Lay_si hl7 _ _ _) _ _ _) _ _ _) S_92 rfl ?_
                refine ls_iinc (x1 + 1) [some (.ref 92), some (.int (x1 + 1)), some (.int x2), some (.int x3), some (.int x4)] f_223_290 rfl (Nat.le_of_ble_eq_true rfl) rfl rfl ?_
                refine ls_goto 41 f_223_293 rfl ?_
                exact ls_mask [true, true, false, false, false] [some (.ref 92), some (.int (x1 + 1)), none, none, none] rfl hyp
              · refine ls_iload_n f_223_251 rfl ?_
                refine ls_aload_n f_223_252 rfl ?_
                refine ls_getI f_223_253 p_223_332 (lm_Lay_si hl7 _ _ _) S_92 ?_
                refine ls_top (lm_i h7 92 37) rfl ?_
                refine ls_icmp_ge 263 f_223_256 rfl hyp (fun _ hyp => ?_) (fun _ hyp => ?_)
                · refine ls_iload_n f_223_259 rfl ?_
                  refine ls_goto 267 f_223_260 rfl ?_
                  refine ls_putI f_223_267 p_223_332 (lm_Lay_si hl7 _ _ _) S_92 rfl ?_
                  refine ls_aload_n f_223_270 rfl ?_
                  refine ls_getR f_223_271 p_223_75 (lm_Lay_si (lm_Lay_si hl7 _ _ _) _ _ _) S_92 F_92_38 ?_
                  refine ls_aload_n f_223_274 rfl ?_
                  refine ls_getI f_223_275 p_223_308 (lm_Lay_si (lm_Lay_si hl7 _ _ _) _ _ _) S_92 ?_
                  refine ls_top (lm_i h7 92 35) rfl ?_
                  refine ls_iload_n f_223_278 rfl ?_
                  refine ls_iast f_223_279 (lm_Lay_si (lm_Lay_si hl7 _ _ _) _ _ _) S_108 hyp (fun hyp => ?_)
                  refine ls_aload_n f_223_280 rfl ?_
                  refine ls_dup f_223_281 rfl ?_
                  refine ls_getI f_223_282 p_223_308 (lm_Lay_si (lm_Lay_si (lm_Lay_si hl7 _ _ _) _ _ _) _ _ _) S_92 ?_
                  refine ls_top (lm_i h7 92 35) rfl ?_
                  refine ls_iconst 1 f_223_285 (by decide) ?_
                  refine ls_iadd ((lm_i h7 92 35) + 1) f_223_286 rfl ?_
                  refine ls_putI f_223_287 p_223_308 (lm_Lay_si (lm_Lay_si (lm_Lay_si hl7 _ _ _) _ _ _) _ _ _) S_92 rfl ?_
                  refine ls_iinc (x1 + 1) [some (.ref 92), some (.int (x1 + 1)), some (.int x2), some (.int x3), some (.int x4)] f_223_290 rfl (Nat.le_of_ble_eq_true rfl) rfl rfl ?_
                  refine ls_goto 41 f_223_293 rfl ?_
                  exact ls_mask [true, true, false, false, false] [some (.ref 92), some (.int (x1 + 1)), none, none, none] rfl hyp
                · refine ls_aload_n f_223_263 rfl ?_
                  refine ls_getI f_223_264 p_223_332 (lm_Lay_si hl7 _ _ _) S_92 ?_
                  refine ls_top (lm_i h7 92 37) rfl ?_
                  refine ls_putI f_223_267 p_223_332 (lm_Lay_si hl7 _ _ _) S_92 rfl ?_
                  refine ls_aload_n f_223_270 rfl ?_
                  refine ls_getR f_223_271 p_223_75 (lm_Lay_si (lm_Lay_si hl7 _ _ _) _ _ _) S_92 F_92_38 ?_
                  refine ls_aload_n f_223_274 rfl ?_
                  refine ls_getI f_223_275 p_223_308 (lm_Lay_si (lm_Lay_si hl7 _ _ _) _ _ _) S_92 ?_
                  refine ls_top (lm_i h7 92 35) rfl ?_
                  refine ls_iload_n f_223_278 rfl ?_
                  refine ls_iast f_223_279 (lm_Lay_si (lm_Lay_si hl7 _ _ _) _ _ _) S_108 hyp (fun hyp => ?_)
                  refine ls_aload_n f_223_280 rfl ?_
                  refine ls_dup f_223_281 rfl ?_
                  refine ls_getI f_223_282 p_223_308 (lm_Lay_si (lm_Lay_si (lm_Lay_si hl7 _ _ _) _ _ _) _ _ _) S_92 ?_
                  refine ls_top (lm_i h7 92 35) rfl ?_
                  refine ls_iconst 1 f_223_285 (by decide) ?_
                  refine ls_iadd ((lm_i h7 92 35) + 1) f_223_286 rfl ?_
                  refine ls_putI f_223_287 p_223_308 (lm_Lay_si (lm_Lay_si (lm_Lay_si hl7 _ _ _) _ _ _) _ _ _) S_92 rfl ?_
                  refine ls_iinc (x1 + 1) [some (.ref 92), some (.int (x1 + 1)), some (.int x2), some (.int x3), some (.int x4)] f_223_290 rfl (Nat.le_of_ble_eq_true rfl) rfl rfl ?_
                  refine ls_goto 41 f_223_293 rfl ?_
                  exact ls_mask [true, true, false, false, false] [some (.ref 92), some (.int (x1 + 1)), none, none, none] rfl hyp
    · refine ls_iload_n f_223_166 rfl ?_
      refine ls_aload_n f_223_167 rfl ?_
      refine ls_getI f_223_168 p_223_323 hl S_92 ?_
      refine ls_icmp_le 184 f_223_171 rfl hyp (fun _ hyp => ?_) (fun _ hyp => ?_)
      · refine ls_aload_n f_223_174 rfl ?_
        refine ls_iload_n f_223_175 rfl ?_
        refine ls_putI f_223_176 p_223_323 hl S_92 rfl ?_
        refine ls_aload_n f_223_179 rfl ?_
        refine ls_iconst 0 f_223_180 (by decide) ?_
        refine ls_putI f_223_181 p_223_305 (lm_Lay_si hl _ _ _) S_92 rfl ?_
        refine ls_aload_n f_223_184 rfl ?_
        refine ls_dup f_223_185 rfl ?_
        refine ls_getI f_223_186 p_223_305 (lm_Lay_si (lm_Lay_si hl _ _ _) _ _ _) S_92 ?_
        refine ls_top 0 rfl ?_
        refine ls_iload_n f_223_189 rfl ?_
        refine ls_aload_n f_223_190 rfl ?_
        refine ls_getI f_223_191 p_223_323 (lm_Lay_si (lm_Lay_si hl _ _ _) _ _ _) S_92 ?_
        refine ls_top x3 rfl ?_
        refine ls_icmp_ne 201 f_223_194 rfl hyp (fun _ hyp => ?_) (fun _ hyp => ?_)
        · refine ls_iconst 1 f_223_197 (by decide) ?_
          refine ls_goto 202 f_223_198 rfl ?_
          refine ls_iadd 1 f_223_202 (by decide) ?_
          refine ls_putI f_223_203 p_223_305 (lm_Lay_si (lm_Lay_si hl _ _ _) _ _ _) S_92 rfl ?_
          refine ls_aload_n f_223_206 rfl ?_
          refine ls_invV (a := 92) f_223_207 q_223_326 [] [] rfl (Nat.le_of_ble_eq_true rfl) (lm_Lay_si (lm_Lay_si (lm_Lay_si hl _ _ _) _ _ _) _ _ _) S_92 ow_222 ?_
          refine ls_call hyp (lm_Lay_si (lm_Lay_si (lm_Lay_si hl _ _ _) _ _ _) _ _ _) (fun _ h9 hl9 hyp => ?_)
          refine ls_retI hyp (fun r10 hyp => ?_)
          refine ls_if_ne 216 f_223_210 rfl hyp (fun _ hyp => ?_) (fun _ hyp => ?_)
          · refine ls_goto 290 f_223_213 rfl ?_
            refine ls_iinc (x1 + 1) [some (.ref 92), some (.int (x1 + 1)), some (.int x2), some (.int x3), some (.int x4)] f_223_290 rfl (Nat.le_of_ble_eq_true rfl) rfl rfl ?_
            refine ls_goto 41 f_223_293 rfl ?_
            exact ls_mask [true, true, false, false, false] [some (.ref 92), some (.int (x1 + 1)), none, none, none] rfl hyp
          · refine ls_aload_n f_223_216 rfl ?_
            refine ls_aload_n f_223_217 rfl ?_
            refine ls_getI f_223_218 p_223_308 hl9 S_92 ?_
            refine ls_if_eq 232 f_223_221 rfl hyp (fun _ hyp => ?_) (fun _ hyp => ?_)
            · refine ls_iload_n f_223_232 rfl ?_
              refine ls_goto 240 f_223_233 rfl ?_
              refine ls_putI f_223_240 p_223_329 hl9 S_92 rfl ?_
              refine ls_aload_n f_223_243 rfl ?_
              refine ls_aload_n f_223_244 rfl ?_
              refine ls_getI f_223_245 p_223_308 (lm_Lay_si hl9 _ _ _) S_92 ?_
              refine ls_top (lm_i h9 92 35) rfl ?_
              refine ls_if_eq 259 f_223_248 rfl hyp (fun _ hyp => ?_) (fun _ hyp => ?_)
              · refine ls_iload_n f_223_259 rfl ?_
                refine ls_goto 267 f_223_260 rfl ?_
                refine ls_putI f_223_267 p_223_332 (lm_Lay_si hl9 _ _ _) S_92 rfl ?_
                refine ls_aload_n f_223_270 rfl ?_
                refine ls_getR f_223_271 p_223_75 (lm_Lay_si (lm_Lay_si hl9 _ _ _) _ _ _) S_92 F_92_38 ?_
                refine ls_aload_n f_223_274 rfl ?_
                refine ls_getI f_223_275 p_223_308 (lm_Lay_si (lm_Lay_si hl9 _ _ _) _ _ _) S_92 ?_
                refine ls_top (lm_i h9 92 35) rfl ?_
                refine ls_iload_n f_223_278 rfl ?_
                refine ls_iast f_223_279 (lm_Lay_si (lm_Lay_si hl9 _ _ _) _ _ _) S_108 hyp (fun hyp => ?_)
                refine ls_aload_n f_223_280 rfl ?_
                refine ls_dup f_223_281 rfl ?_
                refine ls_getI f_223_282 p_223_308 (lm_Lay_si (lm_Lay_si (lm_Lay_si hl9 _ _ _) _ _ _) _ _ _) S_92 ?_
                refine ls_top (lm_i h9 92 35) rfl ?_
                refine ls_iconst 1 f_223_285 (by decide) ?_
                refine ls_iadd ((lm_i h9 92 35) + 1) f_223_286 rfl ?_
                refine ls_putI f_223_287 p_223_308 (lm_Lay_si (lm_Lay_si (lm_Lay_si hl9 _ _ _) _ _ _) _ _ _) S_92 rfl ?_
                refine ls_iinc (x1 + 1) [some (.ref 92), some (.int (x1 + 1)), some (.int x2), some (.int x3), some (.int x4)] f_223_290 rfl (Nat.le_of_ble_eq_true rfl) rfl rfl ?_
                refine ls_goto 41 f_223_293 rfl ?_
                exact ls_mask [true, true, false, false, false] [some (.ref 92), some (.int (x1 + 1)), none, none, none] rfl hyp
              · refine ls_iload_n f_223_251 rfl ?_
                refine ls_aload_n f_223_252 rfl ?_
                refine ls_getI f_223_253 p_223_332 (lm_Lay_si hl9 _ _ _) S_92 ?_
                refine ls_top (lm_i h9 92 37) rfl ?_
                refine ls_icmp_ge 263 f_223_256 rfl hyp (fun _ hyp => ?_) (fun _ hyp => ?_)
                · refine ls_iload_n f_223_259 rfl ?_
                  refine ls_goto 267 f_223_260 rfl ?_
                  refine ls_putI f_223_267 p_223_332 (lm_Lay_si hl9 _ _ _) S_92 rfl ?_
                  refine ls_aload_n f_223_270 rfl ?_
                  refine ls_getR f_223_271 p_223_75 (lm_Lay_si (lm_Lay_si hl9 _ _ _) _ _ _) S_92 F_92_38 ?_
                  refine ls_aload_n f_223_274 rfl ?_
                  refine ls_getI f_223_275 p_223_308 (lm_Lay_si (lm_Lay_si hl9 _ _ _) _ _ _) S_92 ?_
                  refine ls_top (lm_i h9 92 35) rfl ?_
                  refine ls_iload_n f_223_278 rfl ?_
                  refine ls_iast f_223_279 (lm_Lay_si (lm_Lay_si hl9 _ _ _) _ _ _) S_108 hyp (fun hyp => ?_)
                  refine ls_aload_n f_223_280 rfl ?_
                  refine ls_dup f_223_281 rfl ?_
                  refine ls_getI f_223_282 p_223_308 (lm_Lay_si (lm_Lay_si (lm_Lay_si hl9 _ _ _) _ _ _) _ _ _) S_92 ?_
                  refine ls_top (lm_i h9 92 35) rfl ?_
                  refine ls_iconst 1 f_223_285 (by decide) ?_
                  refine ls_iadd ((lm_i h9 92 35) + 1) f_223_286 rfl ?_
                  refine ls_putI f_223_287 p_223_308 (lm_Lay_si (lm_Lay_si (lm_Lay_si hl9 _ _ _) _ _ _) _ _ _) S_92 rfl ?_
                  refine ls_iinc (x1 + 1) [some (.ref 92), some (.int (x1 + 1)), some (.int x2), some (.int x3), some (.int x4)] f_223_290 rfl (Nat.le_of_ble_eq_true rfl) rfl rfl ?_
                  refine ls_goto 41 f_223_293 rfl ?_
                  exact ls_mask [true, true, false, false, false] [some (.ref 92), some (.int (x1 + 1)), none, none, none] rfl hyp
                · refine ls_aload_n f_223_263 rfl ?_
                  refine ls_getI f_223_264 p_223_332 (lm_Lay_si hl9 _ _ _) S_92 ?_
                  refine ls_top (lm_i h9 92 37) rfl ?_
                  refine ls_putI f_223_267 p_223_332 (lm_Lay_si hl9 _ _ _) S_92 rfl ?_
                  refine ls_aload_n f_223_270 rfl ?_
                  refine ls_getR f_223_271 p_223_75 (lm_Lay_si (lm_Lay_si hl9 _ _ _) _ _ _) S_92 F_92_38 ?_
                  refine ls_aload_n f_223_274 rfl ?_
                  refine ls_getI f_223_275 p_223_308 (lm_Lay_si (lm_Lay_si hl9 _ _ _) _ _ _) S_92 ?_
                  refine ls_top (lm_i h9 92 35) rfl ?_
                  refine ls_iload_n f_223_278 rfl ?_
                  refine ls_iast f_223_279 (lm_Lay_si (lm_Lay_si hl9 _ _ _) _ _ _) S_108 hyp (fun hyp => ?_)
                  refine ls_aload_n f_223_280 rfl ?_
                  refine ls_dup f_223_281 rfl ?_
                  refine ls_getI f_223_282 p_223_308 (lm_Lay_si (lm_Lay_si (lm_Lay_si hl9 _ _ _) _ _ _) _ _ _) S_92 ?_
                  refine ls_top (lm_i h9 92 35) rfl ?_
                  refine ls_iconst 1 f_223_285 (by decide) ?_
                  refine ls_iadd ((lm_i h9 92 35) + 1) f_223_286 rfl ?_
                  refine ls_putI f_223_287 p_223_308 (lm_Lay_si (lm_Lay_si (lm_Lay_si hl9 _ _ _) _ _ _) _ _ _) S_92 rfl ?_
                  refine ls_iinc (x1 + 1) [some (.ref 92), some (.int (x1 + 1)), some (.int x2), some (.int x3), some (.int x4)] f_223_290 rfl (Nat.le_of_ble_eq_true rfl) rfl rfl ?_
                  refine ls_goto 41 f_223_293 rfl ?_
                  exact ls_mask [true, true, false, false, false] [some (.ref 92), some (.int (x1 + 1)), none, none, none] rfl hyp
            · refine ls_iload_n f_223_224 rfl ?_
              refine ls_aload_n f_223_225 rfl ?_
              refine ls_getI f_223_226 p_223_329 hl9 S_92 ?_
              refine ls_icmp_le 236 f_223_229 rfl hyp (fun _ hyp => ?_) (fun _ hyp => ?_)
              · refine ls_iload_n f_223_232 rfl ?_
                refine ls_goto 240 f_223_233 rfl ?_
                refine ls_putI f_223_240 p_223_329 hl9 S_92 rfl ?_
                refine ls_aload_n f_223_243 rfl ?_
                refine ls_aload_n f_223_244 rfl ?_
                refine ls_getI f_223_245 p_223_308 (lm_Lay_si hl9 _ _ _) S_92 ?_
                refine ls_top (lm_i h9 92 35) rfl ?_
                refine ls_if_eq 259 f_223_248 rfl hyp (fun _ hyp => ?_) (fun _ hyp => ?_)
                · refine ls_iload_n f_223_259 rfl ?_
                  refine ls_goto 267 f_223_260 rfl ?_
                  refine ls_putI f_223_267 p_223_332 (lm_Lay_si hl9 _ _ _) S_92 rfl ?_
                  refine ls_aload_n f_223_270 rfl ?_
                  refine ls_getR f_223_271 p_223_75 (lm_Lay_si (lm_Lay_si hl9 _ _ _) _ _ _) S_92 F_92_38 ?_
                  refine ls_aload_n f_223_274 rfl ?_
                  refine ls_getI f_223_275 p_223_308 (lm_Lay_si (lm_Lay_si hl9 _ _ _) _ _ _) S_92 ?_
                  refine ls_top (lm_i h9 92 35) rfl ?_
                  refine ls_iload_n f_223_278 rfl ?_
                  refine ls_iast f_223_279 (lm_Lay_si (lm_Lay_si hl9 _ _ _) _ _ _) S_108 hyp (fun hyp => ?_)
                  refine ls_aload_n f_223_280 rfl ?_
                  refine ls_dup f_223_281 rfl ?_
                  refine ls_getI f_223_282 p_223_308 (lm_Lay_si (lm_Lay_si (lm_Lay_si hl9 _ _ _) _ _ _) _ _ _) S_92 ?_
                  refine ls_top (lm_i h9 92 35) rfl ?_
                  refine ls_iconst 1 f_223_285 (by decide) ?_
                  refine ls_iadd ((lm_i h9 92 35) + 1) f_223_286 rfl ?_
                  refine ls_putI f_223_287 p_223_308 (lm_Lay_si (lm_Lay_si (lm_Lay_si hl9 _ _ _) _ _ _) _ _ _) S_92 rfl ?_
                  refine ls_iinc (x1 + 1) [some (.ref 92), some (.int (x1 + 1)), some (.int x2), some (.int x3), some (.int x4)] f_223_290 rfl (Nat.le_of_ble_eq_true rfl) rfl rfl ?_
                  refine ls_goto 41 f_223_293 rfl ?_
                  exact ls_mask [true, true, false, false, false] [some (.ref 92), some (.int (x1 + 1)), none, none, none] rfl hyp
                · refine ls_iload_n f_223_251 rfl ?_
                  refine ls_aload_n f_223_252 rfl ?_
                  refine ls_getI f_223_253 p_223_332 (lm_Lay_si hl9 _ _ _) S_92 ?_
                  refine ls_top (lm_i h9 92 37) rfl ?_
                  refine ls_icmp_ge 263 f_223_256 rfl hyp (fun _ hyp => ?_) (fun _ hyp => ?_)
                  · refine ls_iload_n f_223_259 rfl ?_
                    refine ls_goto 267 f_223_260 rfl ?_
                    refine ls_putI f_223_267 p_223_332 (lm_Lay_si hl9 _ _ _) S_92 rfl ?_
                    refine ls_aload_n f_223_270 rfl ?_
                    refine ls_getR f_223_271 p_223_75 (lm_Lay_si (lm_Lay_si hl9 _ _ _) _ _ _) S_92 F_92_38 ?_
                    refine ls_aload_n f_223_274 rfl ?_
                    refine ls_getI f_223_275 p_223_308 (lm_Lay_si (lm_Lay_si hl9 _ _ _) _ _ _) S_92 ?_
                    refine ls_top (lm_i h9 92 35) rfl ?_
                    refine ls_iload_n f_223_278 rfl ?_
                    refine ls_iast f_223_279 (lm_Lay_si (lm_Lay_si hl9 _ _ _) _ _ _) S_108 hyp (fun hyp => ?_)
                    refine ls_aload_n f_223_280 rfl ?_
                    refine ls_dup f_223_281 rfl ?_
                    refine ls_getI f_223_282 p_223_308 (lm_Lay_si (lm_Lay_si (lm_Lay_si hl9 _ _ _) _ _ _) _ _ _) S_92 ?_
                    refine ls_top (lm_i h9 92 35) rfl ?_
                    refine ls_iconst 1 f_223_285 (by decide) ?_
                    refine ls_iadd ((lm_i h9 92 35) + 1) f_223_286 rfl ?_
                    refine ls_putI f_223_287 p_223_308 (lm_Lay_si (lm_Lay_si (lm_Lay_si hl9 _ _ _) _ _ _) _ _ _) S_92 rfl ?_
                    refine ls_iinc (x1 + 1) [some (.ref 92), some (.int (x1 + 1)), some (.int x2), some (.int x3), some (.int x4)] f_223_290 rfl (Nat.le_of_ble_eq_true rfl) rfl rfl ?_
                    refine ls_goto 41 f_223_293 rfl ?_
                    exact ls_mask [true, true, false, false, false] [some (.ref 92), some (.int (x1 + 1)), none, none, none] rfl hyp
                  · refine ls_aload_n f_223_263 rfl ?_
                    refine ls_getI f_223_264 p_223_332 (lm_Lay_si hl9 _ _ _) S_92 ?_
                    refine ls_top (lm_i h9 92 37) rfl ?_
                    refine ls_putI f_223_267 p_223_332 (lm_Lay_si hl9 _ _ _) S_92 rfl ?_
                    refine ls_aload_n f_223_270 rfl ?_
                    refine ls_getR f_223_271 p_223_75 (lm_Lay_si (lm_Lay_si hl9 _ _ _) _ _ _) S_92 F_92_38 ?_
                    refine ls_aload_n f_223_274 rfl ?_
                    refine ls_getI f_223_275 p_223_308 (lm_Lay_si (lm_Lay_si hl9 _ _ _) _ _ _) S_92 ?_
                    refine ls_top (lm_i h9 92 35) rfl ?_
                    refine ls_iload_n f_223_278 rfl ?_
                    refine ls_iast f_223_279 (lm_Lay_si (lm_Lay_si hl9 _ _ _) _ _ _) S_108 hyp (fun hyp => ?_)
                    refine ls_aload_n f_223_280 rfl ?_
                    refine ls_dup f_223_281 rfl ?_
                    refine ls_getI f_223_282 p_223_308 (lm_Lay_si (lm_Lay_si (lm_Lay_si hl9 _ _ _) _ _ _) _ _ _) S_92 ?_
                    refine ls_top (lm_i h9 92 35) rfl ?_
                    refine ls_iconst 1 f_223_285 (by decide) ?_
                    refine ls_iadd ((lm_i h9 92 35) + 1) f_223_286 rfl ?_
                    refine ls_putI f_223_287 p_223_308 (lm_Lay_si (lm_Lay_si (lm_Lay_si hl9 _ _ _) _ _ _) _ _ _) S_92 rfl ?_
                    refine ls_iinc (x1 + 1) [some (.ref 92), some (.int (x1 + 1)), some (.int x2), some (.int x3), some (.int x4)] f_223_290 rfl (Nat.le_of_ble_eq_true rfl) rfl rfl ?_
                    refine ls_goto 41 f_223_293 rfl ?_
                    exact ls_mask [true, true, false, false, false] [some (.ref 92), some (.int (x1 + 1)), none, none, none] rfl hyp
              · refine ls_aload_n f_223_236 rfl ?_
                refine ls_getI f_223_237 p_223_329 hl9 S_92 ?_
                refine ls_putI f_223_240 p_223_329 hl9 S_92 rfl ?_
                refine ls_aload_n f_223_243 rfl ?_
                refine ls_aload_n f_223_244 rfl ?_
                refine ls_getI f_223_245 p_223_308 (lm_Lay_si hl9 _ _ _) S_92 ?_
                refine ls_top (lm_i h9 92 35) rfl ?_
                refine ls_if_eq 259 f_223_248 rfl hyp (fun _ hyp => ?_) (fun _ hyp => ?_)
                · refine ls_iload_n f_223_259 rfl ?_
                  refine ls_goto 267 f_223_260 rfl ?_
                  refine ls_putI f_223_267 p_223_332 (lm_Lay_si hl9 _ _ _) S_92 rfl ?_
                  refine ls_aload_n f_223_270 rfl ?_
                  refine ls_getR f_223_271 p_223_75 (lm_Lay_si (lm_Lay_si hl9 _ _ _) _ _ _) S_92 F_92_38 ?_
                  refine ls_aload_n f_223_274 rfl ?_
                  refine ls_getI f_223_275 p_223_308 (lm_Lay_si (lm_Lay_si hl9 _ _ _) _ _ _) S_92 ?_
                  refine ls_top (lm_i h9 92 35) rfl ?_
                  refine ls_iload_n f_223_278 rfl ?_
                  refine ls_iast f_223_279 (lm_Lay_si (lm_Lay_si hl9 _ _ _) _ _ _) S_108 hyp (fun hyp => ?_)
                  refine ls_aload_n f_223_280 rfl ?_
                  refine ls_dup f_223_281 rfl ?_
                  refine ls_getI f_223_282 p_223_308 (lm_Lay_si (lm_Lay_si (lm_Lay_si hl9 _ _ _) _ _ _) _ _ _) S_92 ?_
                  refine ls_top (lm_i h9 92 35) rfl ?_
                  refine ls_iconst 1 f_223_285 (by decide) ?_
                  refine ls_iadd ((lm_i h9 92 35) + 1) f_223_286 rfl ?_
                  refine ls_putI f_223_287 p_223_308 (lm_Lay_si (lm_Lay_si (lm_Lay_si hl9 _ _ _) _ _ _) _ _ _) S_92 rfl ?_
                  refine ls_iinc (x1 + 1) [some (.ref 92), some (.int (x1 + 1)), some (.int x2), some (.int x3), some (.int x4)] f_223_290 rfl (Nat.le_of_ble_eq_true rfl) rfl rfl ?_
                  refine ls_goto 41 f_223_293 rfl ?_
                  exact ls_mask [true, true, false, false, false] [some (.ref 92), some (.int (x1 + 1)), none, none, none] rfl hyp
                · refine ls_iload_n f_223_251 rfl ?_
                  refine ls_aload_n f_223_252 rfl ?_
                  refine ls_getI f_223_253 p_223_332 (lm_Lay_si hl9 _ _ _) S_92 ?_
                  refine ls_top (lm_i h9 92 37) rfl ?_
                  refine ls_icmp_ge 263 f_223_256 rfl hyp (fun _ hyp => ?_) (fun _ hyp => ?_)
                  · refine ls_iload_n f_223_259 rfl ?_
                    refine ls_goto 267 f_223_260 rfl ?_
                    refine ls_putI f_223_267 p_223_332 (lm_Lay_si hl9 _ _ _) S_92 rfl ?_
                    refine ls_aload_n f_223_270 rfl ?_
                    refine ls_getR f_223_271 p_223_75 (lm_Lay_si (lm_Lay_si hl9 _ _ _) _ _ _) S_92 F_92_38 ?_
                    refine ls_aload_n f_223_274 rfl ?_
                    refine ls_getI f_223_275 p_223_308 (lm_Lay_si (lm_Lay_si hl9 _ _ _) _ _ _) S_92 ?_
                    refine ls_top (lm_i h9 92 35) rfl ?_
                    refine ls_iload_n f_223_278 rfl ?_
                    refine ls_iast f_223_279 (lm_Lay_si (lm_Lay_si hl9 _ _ _) _ _ _) S_108 hyp (fun hyp => ?_)
                    refine ls_aload_n f_223_280 rfl ?_
                    refine ls_dup f_223_281 rfl ?_
                    refine ls_getI f_223_282 p_223_308 (lm_Lay_si (lm_Lay_si (lm_Lay_si hl9 _ _ _) _ _ _) _ _ _) S_92 ?_
                    refine ls_top (lm_i h9 92 35) rfl ?_
                    refine ls_iconst 1 f_223_285 (by decide) ?_
                    refine ls_iadd ((lm_i h9 92 35) + 1) f_223_286 rfl ?_
                    refine ls_putI f_223_287 p_223_308 (lm_Lay_si (lm_Lay_si (lm_Lay_si hl9 _ _ _) _ _ _) _ _ _) S_92 rfl ?_
                    refine ls_iinc (x1 + 1) [some (.ref 92), some (.int (x1 + 1)), some (.int x2), some (.int x3), some (.int x4)] f_223_290 rfl (Nat.le_of_ble_eq_true rfl) rfl rfl ?_
                    refine ls_goto 41 f_223_293 rfl ?_
                    exact ls_mask [true, true, false, false, false] [some (.ref 92), some (.int (x1 + 1)), none, none, none] rfl hyp
                  · refine ls_aload_n f_223_263 rfl ?_
                    refine ls_getI f_223_264 p_223_332 (lm_Lay_si hl9 _ _ _) S_92 ?_
                    refine ls_top (lm_i h9 92 37) rfl ?_
                    refine ls_putI f_223_267 p_223_332 (lm_Lay_si hl9 _ _ _) S_92 rfl ?_
                    refine ls_aload_n f_223_270 rfl ?_
                    refine ls_getR f_223_271 p_223_75 (lm_Lay_si (lm_Lay_si hl9 _ _ _) _ _ _) S_92 F_92_38 ?_
                    refine ls_aload_n f_223_274 rfl ?_
                    refine ls_getI f_223_275 p_223_308 (lm_Lay_si (lm_Lay_si hl9 _ _ _) _ _ _) S_92 ?_
                    refine ls_top (lm_i h9 92 35) rfl ?_
                    refine ls_iload_n f_223_278 rfl ?_
                    refine ls_iast f_223_279 (lm_Lay_si (lm_Lay_si hl9 _ _ _) _ _ _) S_108 hyp (fun hyp => ?_)
                    refine ls_aload_n f_223_280 rfl ?_
                    refine ls_dup f_223_281 rfl ?_
                    refine ls_getI f_223_282 p_223_308 (lm_Lay_si (lm_Lay_si (lm_Lay_si hl9 _ _ _) _ _ _) _ _ _) S_92 ?_
                    refine ls_top (lm_i h9 92 35) rfl ?_
                    refine ls_iconst 1 f_223_285 (by decide) ?_
                    refine ls_iadd ((lm_i h9 92 35) + 1) f_223_286 rfl ?_
                    refine ls_putI f_223_287 p_223_308 (lm_Lay_si (lm_Lay_si (lm_Lay_si hl9 _ _ _) _ _ _) _ _ _) S_92 rfl ?_
                    refine ls_iinc (x1 + 1) [some (.ref 92), some (.int (x1 + 1)), some (.int x2), some (.int x3), some (.int x4)] f_223_290 rfl (Nat.le_of_ble_eq_true rfl) rfl rfl ?_
                    refine ls_goto 41 f_223_293 rfl ?_
                    exact ls_mask [true, true, false, false, false] [some (.ref 92), some (.int (x1 + 1)), none, none, none] rfl hyp
        · refine ls_iconst 0 f_223_201 (by decide) ?_
          refine ls_iadd 0 f_223_202 (by decide) ?_
          refine ls_putI f_223_203 p_223_305 (lm_Lay_si (lm_Lay_si hl _ _ _) _ _ _) S_92 rfl ?_
          refine ls_aload_n f_223_206 rfl ?_
          refine ls_invV (a := 92) f_223_207 q_223_326 [] [] rfl (Nat.le_of_ble_eq_true rfl) (lm_Lay_si (lm_Lay_si (lm_Lay_si hl _ _ _) _ _ _) _ _ _) S_92 ow_222 ?_
          refine ls_call hyp (lm_Lay_si (lm_Lay_si (lm_Lay_si hl _ _ _) _ _ _) _ _ _) (fun _ h11 hl11 hyp => ?_)
          refine ls_retI hyp (fun r12 hyp => ?_)
          refine ls_if_ne 216 f_223_210 rfl hyp (fun _ hyp => ?_) (fun _ hyp => ?_)
          · refine ls_goto 290 f_223_213 rfl ?_
            refine ls_iinc (x1 + 1) [some (.ref 92), some (.int (x1 + 1)), some (.int x2), some (.int x3), some (.int x4)] f_223_290 rfl (Nat.le_of_ble_eq_true rfl) rfl rfl ?_
            refine ls_goto 41 f_223_293 rfl ?_
            exact ls_mask [true, true, false, false, false] [some (.ref 92), some (.int (x1 + 1)), none, none, none] rfl hyp
          · refine ls_aload_n f_223_216 rfl ?_
            refine ls_aload_n f_223_217 rfl ?_
            refine ls_getI f_223_218 p_223_308 hl11 S_92 ?_
            refine ls_if_eq 232 f_223_221 rfl hyp (fun _ hyp => ?_) (fun _ hyp => ?_)
            · refine ls_iload_n f_223_232 rfl ?_
              refine ls_goto 240 f_223_233 rfl ?_
              refine ls_putI f_223_240 p_223_329 hl11 S_92 rfl ?_
              refine ls_aload_n f_223_243 rfl ?_
              refine ls_aload_n f_223_244 rfl ?_
              refine ls_getI f_223_245 p_223_308 (lm_Lay_si hl11 _ _ _) S_92 ?_
              refine ls_top (lm_i h11 92 35) rfl ?_
              refine ls_if_eq 259 f_223_248 rfl hyp (fun _ hyp => ?_) (fun _ hyp => ?_)
              · refine ls_iload_n f_223_259 rfl ?_
                refine ls_goto 267 f_223_260 rfl ?_
                refine ls_putI f_223_267 p_223_332 (lm_Lay_si hl11 _ _ _) S_92 rfl ?_
                refine ls_aload_n f_223_270 rfl ?_
                refine ls_getR f_223_271 p_223_75 (lm_Lay_si (lm_Lay_si hl11 _ _ _) _ _ _) S_92 F_92_38 ?_
                refine ls_aload_n f_223_274 rfl ?_
                refine ls_getI f_223_275 p_223_308 (lm_Lay_si (lm_Lay_si hl11 _ _ _) _ _ _) S_92 ?_
                refine ls_top (lm_i h11 92 35) rfl ?_
                refine ls_iload_n f_223_278 rfl ?_
                refine ls_iast f_223_279 (lm_Lay_si (lm_Lay_si hl11 _ _ _) _ _ _) S_108 hyp (fun hyp => ?_)
                refine ls_aload_n f_223_280 rfl ?_
                refine ls_dup f_223_281 rfl ?_
                refine ls_getI f_223_282 p_223_308 (lm_Lay_si (lm_Lay_si (lm_Lay_si hl11 _ _ _) _ _ _) _ _ _) S_92 ?_
                refine ls_top (lm_i h11 92 35) rfl ?_
                refine ls_iconst 1 f_223_285 (by decide) ?_
                refine ls_iadd ((lm_i h11 92 35) + 1) f_223_286 rfl ?_
                refine ls_putI f_223_287 p_223_308 (lm_Lay_si (lm_Lay_si (lm_Lay_si hl11 _ _ _) _ _ _) _ _ _) S_92 rfl ?_
                refine ls_iinc (x1 + 1) [some (.ref 92), some (.int (x1 + 1)), some (.int x2), some (.int x3), some (.int x4)] f_223_290 rfl (Nat.le_of_ble_eq_true rfl) rfl rfl ?_
                refine ls_goto 41 f_223_293 rfl ?_
                exact ls_mask [true, true, false, false, false] [some (.ref 92), some (.int (x1 + 1)), none, none, none] rfl hyp
              · refine ls_iload_n f_223_251 rfl ?_
                refine ls_aload_n f_223_252 rfl ?_
                refine ls_getI f_223_253 p_223_332 (lm_Lay_si hl11 _ _ _) S_92 ?_
                refine ls_top (lm_i h11 92 37) rfl ?_
                refine ls_icmp_ge 263 f_223_256 rfl hyp (fun _ hyp => ?_) (fun _ hyp => ?_)
                · refine ls_iload_n f_223_259 rfl ?_
                  refine ls_goto 267 f_223_260 rfl ?_
                  refine ls_putI f_223_267 p_223_332 (lm_Lay_si hl11 _ _ _) S_92 rfl ?_
                  refine ls_aload_n f_223_270 rfl ?_
                  refine ls_getR f_223_271 p_223_75 (lm_Lay_si (lm_Lay_si hl11 _ _ _) _ _ _) S_92 F_92_38 ?_
                  refine ls_aload_n f_223_274 rfl ?_
                  refine ls_getI f_223_275 p_223_308 (lm_Lay_si (lm_Lay_si hl11 _ _ _) _ _ _) S_92 ?_
                  refine ls_top (lm_i h11 92 35) rfl ?_
                  refine ls_iload_n f_223_278 rfl ?_
                  refine ls_iast f_223_279 (lm_Lay_si (lm_Lay_si hl11 _ _ _) _ _ _) S_108 hyp (fun hyp => ?_)
                  refine ls_aload_n f_223_280 rfl ?_
                  refine ls_dup f_223_281 rfl ?_
                  refine ls_getI f_223_282 p_223_308 (lm_Lay_si (lm_Lay_si (lm_Lay_si hl11 _ _ _) _ _ _) _ _ _) S_92 ?_
                  refine ls_top (lm_i h11 92 35) rfl ?_
                  refine ls_iconst 1 f_223_285 (by decide) ?_
                  refine ls_iadd ((lm_i h11 92 35) + 1) f_223_286 rfl ?_
                  refine ls_putI f_223_287 p_223_308 (lm_Lay_si (lm_Lay_si (lm_Lay_si hl11 _ _ _) _ _ _) _ _ _) S_92 rfl ?_
                  refine ls_iinc (x1 + 1) [some (.ref 92), some (.int (x1 + 1)), some (.int x2), some (.int x3), some (.int x4)] f_223_290 rfl (Nat.le_of_ble_eq_true rfl) rfl rfl ?_
                  refine ls_goto 41 f_223_293 rfl ?_
                  exact ls_mask [true, true, false, false, false] [some (.ref 92), some (.int (x1 + 1)), none, none, none] rfl hyp
                · refine ls_aload_n f_223_263 rfl ?_
                  refine ls_getI f_223_264 p_223_332 (lm_Lay_si hl11 _ _ _) S_92 ?_
                  refine ls_top (lm_i h11 92 37) rfl ?_
                  refine ls_putI f_223_267 p_223_332 (lm_Lay_si hl11 _ _ _) S_92 rfl ?_
                  refine ls_aload_n f_223_270 rfl ?_
                  refine ls_getR f_223_271 p_223_75 (lm_Lay_si (lm_Lay_si hl11 _ _ _) _ _ _) S_92 F_92_38 ?_
                  refine ls_aload_n f_223_274 rfl ?_
                  refine ls_getI f_223_275 p_223_308 (lm_Lay_si (lm_Lay_si hl11 _ _ _) _ _ _) S_92 ?_
                  refine ls_top (lm_i h11 92 35) rfl ?_
                  refine ls_iload_n f_223_278 rfl ?_
                  refine ls_iast f_223_279 (lm_Lay_si (lm_Lay_si hl11 _ _ _) _ _ _) S_108 hyp (fun hyp => ?_)
                  refine ls_aload_n f_223_280 rfl ?_
                  refine ls_dup f_223_281 rfl ?_
                  refine ls_getI f_223_282 p_223_308 (lm_Lay_si (lm_Lay_si (lm_Lay_si hl11 _ _ _) _ _ _) _ _ _) S_92 ?_
                  refine ls_top (lm_i h11 92 35) rfl ?_
                  refine ls_iconst 1 f_223_285 (by decide) ?_
                  refine ls_iadd ((lm_i h11 92 35) + 1) f_223_286 rfl ?_
                  refine ls_putI f_223_287 p_223_308 (lm_Lay_si (lm_Lay_si (lm_Lay_si hl11 _ _ _) _ _ _) _ _ _) S_92 rfl ?_
                  refine ls_iinc (x1 + 1) [some (.ref 92), some (.int (x1 + 1)), some (.int x2), some (.int x3), some (.int x4)] f_223_290 rfl (Nat.le_of_ble_eq_true rfl) rfl rfl ?_
                  refine ls_goto 41 f_223_293 rfl ?_
                  exact ls_mask [true, true, false, false, false] [some (.ref 92), some (.int (x1 + 1)), none, none, none] rfl hyp
            · refine ls_iload_n f_223_224 rfl ?_
              refine ls_aload_n f_223_225 rfl ?_
              refine ls_getI f_223_226 p_223_329 hl11 S_92 ?_
              refine ls_icmp_le 236 f_223_229 rfl hyp (fun _ hyp => ?_) (fun _ hyp => ?_)
              · refine ls_iload_n f_223_232 rfl ?_
                refine ls_goto 240 f_223_233 rfl ?_
                refine ls_putI f_223_240 p_223_329 hl11 S_92 rfl ?_
                refine ls_aload_n f_223_243 rfl ?_
                refine ls_aload_n f_223_244 rfl ?_
                refine ls_getI f_223_245 p_223_308 (lm_Lay_si hl11 _ _ _) S_92 ?_
                refine ls_top (lm_i h11 92 35) rfl ?_
                refine ls_if_eq 259 f_223_248 rfl hyp (fun _ hyp => ?_) (fun _ hyp => ?_)
                · refine ls_iload_n f_223_259 rfl ?_
                  refine ls_goto 267 f_223_260 rfl ?_
                  refine ls_putI f_223_267 p_223_332 (lm_Lay_si hl11 _ _ _) S_92 rfl ?_
                  refine ls_aload_n f_223_270 rfl ?_
                  refine ls_getR f_223_271 p_223_75 (lm_Lay_si (lm_Lay_si hl11 _ _ _) _ _ _) S_92 F_92_38 ?_
                  refine ls_aload_n f_223_274 rfl ?_
                  refine ls_getI f_223_275 p_223_308 (lm_Lay_si (lm_Lay_si hl11 _ _ _) _ _ _) S_92 ?_
                  refine ls_top (lm_i h11 92 35) rfl ?_
                  refine ls_iload_n f_223_278 rfl ?_
                  refine ls_iast f_223_279 (lm_Lay_si (lm_Lay_si hl11 _ _ _) _ _ _) S_108 hyp (fun hyp => ?_)
                  refine ls_aload_n f_223_280 rfl ?_
                  refine ls_dup f_223_281 rfl ?_
                  refine ls_getI f_223_282 p_223_308 (lm_Lay_si (lm_Lay_si (lm_Lay_si hl11 _ _ _) _ _ _) _ _ _) S_92 ?_
                  refine ls_top (lm_i h11 92 35) rfl ?_
                  refine ls_iconst 1 f_223_285 (by decide) ?_
                  refine ls_iadd ((lm_i h11 92 35) + 1) f_223_286 rfl ?_
                  refine ls_putI f_223_287 p_223_308 (lm_Lay_si (lm_Lay_si (lm_Lay_si hl11 _ _ _) _ _ _) _ _ _) S_92 rfl ?_
                  refine ls_iinc (x1 + 1) [some (.ref 92), some (.int (x1 + 1)), some (.int x2), some (.int x3), some (.int x4)] f_223_290 rfl (Nat.le_of_ble_eq_true rfl) rfl rfl ?_
                  refine ls_goto 41 f_223_293 rfl ?_
                  exact ls_mask [true, true, false, false, false] [some (.ref 92), some (.int (x1 + 1)), none, none, none] rfl hyp
                · refine ls_iload_n f_223_251 rfl ?_
                  refine ls_aload_n f_223_252 rfl ?_
                  refine ls_getI f_223_253 p_223_332 (lm_Lay_si hl11 _ _ _) S_92 ?_
                  refine ls_top (lm_i h11 92 37) rfl ?_
                  refine ls_icmp_ge 263 f_223_256 rfl hyp (fun _ hyp => ?_) (fun _ hyp => ?_)
                  · refine ls_iload_n f_223_259 rfl ?_
                    refine ls_goto 267 f_223_260 rfl ?_
                    refine ls_putI f_223_267 p_223_332 (lm_Lay_si hl11 _ _ _) S_92 rfl ?_
                    refine ls_aload_n f_223_270 rfl ?_
                    refine ls_getR f_223_271 p_223_75 (lm_Lay_si (lm_Lay_si hl11 _ _ _) _ _ _) S_92 F_92_38 ?_
                    refine ls_aload_n f_223_274 rfl ?_
                    refine ls_getI f_223_275 p_223_308 (lm_Lay_si (lm_Lay_si hl11 _ _ _) _ _ _) S_92 ?_
                    refine ls_top (lm_i h11 92 35) rfl ?_
                    refine ls_iload_n f_223_278 rfl ?_
                    refine ls_iast f_223_279 (lm_Lay_si (lm_Lay_si hl11 _ _ _) _ _ _) S_108 hyp (fun hyp => ?_)
                    refine ls_aload_n f_223_280 rfl ?_
                    refine ls_dup f_223_281 rfl ?_
                    refine ls_getI f_223_282 p_223_308 (lm_Lay_si (lm_Lay_si (lm_Lay_si hl11 _ _ _) _ _ _) _ _ _) S_92 ?_
                    refine ls_top (lm_i h11 92 35) rfl ?_
                    refine ls_iconst 1 f_223_285 (by decide) ?_
                    refine ls_iadd ((lm_i h11 92 35) + 1) f_223_286 rfl ?_
                    refine ls_putI f_223_287 p_223_308 (lm_Lay_si (lm_Lay_si (lm_Lay_si hl11 _ _ _) _ _ _) _ _ _) S_92 rfl ?_
                    refine ls_iinc (x1 + 1) [some (.ref 92), some (.int (x1 + 1)), some (.int x2), some (.int x3), some (.int x4)] f_223_290 rfl (Nat.le_of_ble_eq_true rfl) rfl rfl ?_
                    refine ls_goto 41 f_223_293 rfl ?_
                    exact ls_mask [true, true, false, false, false] [some (.ref 92), some (.int (x1 + 1)), none, none, none] rfl hyp
                  · refine ls_aload_n f_223_263 rfl ?_
                    refine ls_getI f_223_264 p_223_332 (lm_Lay_si hl11 _ _ _) S_92 ?_
                    refine ls_top (lm_i h11 92 37) rfl ?_
                    refine ls_putI f_223_267 p_223_332 (lm_Lay_si hl11 _ _ _) S_92 rfl ?_
                    refine ls_aload_n f_223_270 rfl ?_
                    refine ls_getR f_223_271 p_223_75 (lm_Lay_si (lm_Lay_si hl11 _ _ _) _ _ _) S_92 F_92_38 ?_
                    refine ls_aload_n f_223_274 rfl ?_
                    refine ls_getI f_223_275 p_223_308 (lm_Lay_si (lm_Lay_si hl11 _ _ _) _ _ _) S_92 ?_
                    refine ls_top (lm_i h11 92 35) rfl ?_
                    refine ls_iload_n f_223_278 rfl ?_
                    refine ls_iast f_223_279 (lm_Lay_si (lm_Lay_si hl11 _ _ _) _ _ _) S_108 hyp (fun hyp => ?_)
                    refine ls_aload_n f_223_280 rfl ?_
                    refine ls_dup f_223_281 rfl ?_
                    refine ls_getI f_223_282 p_223_308 (lm_Lay_si (lm_Lay_si (lm_Lay_si hl11 _ _ _) _ _ _) _ _ _) S_92 ?_
                    refine ls_top (lm_i h11 92 35) rfl ?_
                    refine ls_iconst 1 f_223_285 (by decide) ?_
                    refine ls_iadd ((lm_i h11 92 35) + 1) f_223_286 rfl ?_
                    refine ls_putI f_223_287 p_223_308 (lm_Lay_si (lm_Lay_si (lm_Lay_si hl11 _ _ _) _ _ _) _ _ _) S_92 rfl ?_
                    refine ls_iinc (x1 + 1) [some (.ref 92), some (.int (x1 + 1)), some (.int x2), some (.int x3), some (.int x4)] f_223_290 rfl (Nat.le_of_ble_eq_true rfl) rfl rfl ?_
                    refine ls_goto 41 f_223_293 rfl ?_
                    exact ls_mask [true, true, false, false, false] [some (.ref 92), some (.int (x1 + 1)), none, none, none] rfl hyp
              · refine ls_aload_n f_223_236 rfl ?_
                refine ls_getI f_223_237 p_223_329 hl11 S_92 ?_
                refine ls_putI f_223_240 p_223_329 hl11 S_92 rfl ?_
                refine ls_aload_n f_223_243 rfl ?_
                refine ls_aload_n f_223_244 rfl ?_
                refine ls_getI f_223_245 p_223_308 (lm_Lay_si hl11 _ _ _) S_92 ?_
                refine ls_top (lm_i h11 92 35) rfl ?_
                refine ls_if_eq 259 f_223_248 rfl hyp (fun _ hyp => ?_) (fun _ hyp => ?_)
                · refine ls_iload_n f_223_259 rfl ?_
                  refine ls_goto 267 f_223_260 rfl ?_
                  refine ls_putI f_223_267 p_223_332 (lm_Lay_si hl11 _ _ _) S_92 rfl ?_
                  refine ls_aload_n f_223_270 rfl ?_
                  refine ls_getR f_223_271 p_223_75 (lm_Lay_si (lm_Lay_si hl11 _ _ _) _ _ _) S_92 F_92_38 ?_
                  refine ls_aload_n f_223_274 rfl ?_
                  refine ls_getI f_223_275 p_223_308 (lm_Lay_si (lm_Lay_si hl11 _ _ _) _ _ _) S_92 ?_
                  refine ls_top (lm_i h11 92 35) rfl ?_
                  refine ls_iload_n f_223_278 rfl ?_
                  refine ls_iast f_223_279 (lm_Lay_si (lm_Lay_si hl11 _ _ _) _ _ _) S_108 hyp (fun hyp => ?_)
                  refine ls_aload_n f_223_280 rfl ?_
                  refine ls_dup f_223_281 rfl ?_
                  refine ls_getI f_223_282 p_223_308 (lm_Lay_si (lm_Lay_si (lm_Lay_si hl11 _ _ _) _ _ _) _ _ _) S_92 ?_
                  refine ls_top (lm_i h11 92 35) rfl ?_
                  refine ls_iconst 1 f_223_285 (by decide) ?_
                  refine ls_iadd ((lm_i h11 92 35) + 1) f_223_286 rfl ?_
                  refine ls_putI f_223_287 p_223_308 (lm_Lay_si (lm_Lay_si (lm_Lay_si hl11 _ _ _) _ _ _) _ _ _) S_92 rfl ?_
                  refine ls_iinc (x1 + 1) [some (.ref 92), some (.int (x1 + 1)), some (.int x2), some (.int x3), some (.int x4)] f_223_290 rfl (Nat.le_of_ble_eq_true rfl) rfl rfl ?_
                  refine ls_goto 41 f_223_293 rfl ?_
                  exact ls_mask [true, true, false, false, false] [some (.ref 92), some (.int (x1 + 1)), none, none, none] rfl hyp
                · refine ls_iload_n f_223_251 rfl ?_
                  refine ls_aload_n f_223_252 rfl ?_
                  refine ls_getI f_223_253 p_223_332 (lm_Lay_si hl11 _ _ _) S_92 ?_
                  refine ls_top (lm_i h11 92 37) rfl ?_
                  refine ls_icmp_ge 263 f_223_256 rfl hyp (fun _ hyp => ?_) (fun _ hyp => ?_)
                  · refine ls_iload_n f_223_259 rfl ?_
                    refine ls_goto 267 f_223_260 rfl ?_
                    refine ls_putI f_223_267 p_223_332 (lm_Lay_si hl11 _ _ _) S_92 rfl ?_
                    refine ls_aload_n f_223_270 rfl ?_
                    refine ls_getR f_223_271 p_223_75 (lm_Lay_si (lm_Lay_si hl11 _ _ _) _ _ _) S_92 F_92_38 ?_
                    refine ls_aload_n f_223_274 rfl ?_
                    refine ls_getI f_223_275 p_223_308 (lm_Lay_si (lm_Lay_si hl11 _ _ _) _ _ _) S_92 ?_
                    refine ls_top (lm_i h11 92 35) rfl ?_
                    refine ls_iload_n f_223_278 rfl ?_
                    refine ls_iast f_223_279 (lm_Lay_si (lm_Lay_si hl11 _ _ _) _ _ _) S_108 hyp (fun hyp => ?_)
                    refine ls_aload_n f_223_280 rfl ?_
                    refine ls_dup f_223_281 rfl ?_
                    refine ls_getI f_223_282 p_223_308 (lm_Lay_si (lm_Lay_si (lm_Lay_si hl11 _ _ _) _ _ _) _ _ _) S_92 ?_
                    refine ls_top (lm_i h11 92 35) rfl ?_
                    refine ls_iconst 1 f_223_285 (by decide) ?_
                    refine ls_iadd ((lm_i h11 92 35) + 1) f_223_286 rfl ?_
                    refine ls_putI f_223_287 p_223_308 (lm_Lay_si (lm_Lay_si (lm_Lay_si hl11 _ _ _) _ _ _) _ _ _) S_92 rfl ?_
                    refine ls_iinc (x1 + 1) [some (.ref 92), some (.int (x1 + 1)), some (.int x2), some (.int x3), some (.int x4)] f_223_290 rfl (Nat.le_of_ble_eq_true rfl) rfl rfl ?_
                    refine ls_goto 41 f_223_293 rfl ?_
                    exact ls_mask [true, true, false, false, false] [some (.ref 92), some (.int (x1 + 1)), none, none, none] rfl hyp
                  · refine ls_aload_n f_223_263 rfl ?_
                    refine ls_getI f_223_264 p_223_332 (lm_Lay_si hl11 _ _ _) S_92 ?_
                    refine ls_top (lm_i h11 92 37) rfl ?_
                    refine ls_putI f_223_267 p_223_332 (lm_Lay_si hl11 _ _ _) S_92 rfl ?_
                    refine ls_aload_n f_223_270 rfl ?_
                    refine ls_getR f_223_271 p_223_75 (lm_Lay_si (lm_Lay_si hl11 _ _ _) _ _ _) S_92 F_92_38 ?_
                    refine ls_aload_n f_223_274 rfl ?_
                    refine ls_getI f_223_275 p_223_308 (lm_Lay_si (lm_Lay_si hl11 _ _ _) _ _ _) S_92 ?_
                    refine ls_top (lm_i h11 92 35) rfl ?_
                    refine ls_iload_n f_223_278 rfl ?_
                    refine ls_iast f_223_279 (lm_Lay_si (lm_Lay_si hl11 _ _ _) _ _ _) S_108 hyp (fun hyp => ?_)
                    refine ls_aload_n f_223_280 rfl ?_
                    refine ls_dup f_223_281 rfl ?_
                    refine ls_getI f_223_282 p_223_308 (lm_Lay_si (lm_Lay_si (lm_Lay_si hl11 _ _ _) _ _ _) _ _ _) S_92 ?_
                    refine ls_top (lm_i h11 92 35) rfl ?_
                    refine ls_iconst 1 f_223_285 (by decide) ?_
                    refine ls_iadd ((lm_i h11 92 35) + 1) f_223_286 rfl ?_
                    refine ls_putI f_223_287 p_223_308 (lm_Lay_si (lm_Lay_si (lm_Lay_si hl11 _ _ _) _ _ _) _ _ _) S_92 rfl ?_
                    refine ls_iinc (x1 + 1) [some (.ref 92), some (.int (x1 + 1)), some (.int x2), some (.int x3), some (.int x4)] f_223_290 rfl (Nat.le_of_ble_eq_true rfl) rfl rfl ?_
                    refine ls_goto 41 f_223_293 rfl ?_
                    exact ls_mask [true, true, false, false, false] [some (.ref 92), some (.int (x1 + 1)), none, none, none] rfl hyp
      · refine ls_aload_n f_223_184 rfl ?_
        refine ls_dup f_223_185 rfl ?_
        refine ls_getI f_223_186 p_223_305 hl S_92 ?_
        refine ls_iload_n f_223_189 rfl ?_
        refine ls_aload_n f_223_190 rfl ?_
        refine ls_getI f_223_191 p_223_323 hl S_92 ?_
        refine ls_icmp_ne 201 f_223_194 rfl hyp (fun _ hyp => ?_) (fun _ hyp => ?_)
        · refine ls_iconst 1 f_223_197 (by decide) ?_
          refine ls_goto 202 f_223_198 rfl ?_
          refine ls_iadd ((lm_i h 92 34) + 1) f_223_202 rfl ?_
          refine ls_putI f_223_203 p_223_305 hl S_92 rfl ?_
          refine ls_aload_n f_223_206 rfl ?_
          refine ls_invV (a := 92) f_223_207 q_223_326 [] [] rfl (Nat.le_of_ble_eq_true rfl) (lm_Lay_si hl _ _ _) S_92 ow_222 ?_
          refine ls_call hyp (lm_Lay_si hl _ _ _) (fun _ h13 hl13 hyp => ?_)
          refine ls_retI hyp (fun r14 hyp => ?_)
          refine ls_if_ne 216 f_223_210 rfl hyp (fun _ hyp => ?_) (fun _ hyp => ?_)
          · refine ls_goto 290 f_223_213 rfl ?_
            refine ls_iinc (x1 + 1) [some (.ref 92), some (.int (x1 + 1)), some (.int x2), some (.int x3), some (.int x4)] f_223_290 rfl (Nat.le_of_ble_eq_true rfl) rfl rfl ?_
            refine ls_goto 41 f_223_293 rfl ?_
            exact ls_mask [true, true, false, false, false] [some (.ref 92), some (.int (x1 + 1)), none, none, none] rfl hyp
          · refine ls_aload_n f_223_216 rfl ?_
            refine ls_aload_n f_223_217 rfl ?_
            refine ls_getI f_223_218 p_223_308 hl13 S_92 ?_
            refine ls_if_eq 232 f_223_221 rfl hyp (fun _ hyp => ?_) (fun _ hyp => ?_)
            · refine ls_iload_n f_223_232 rfl ?_
              refine ls_goto 240 f_223_233 rfl ?_
              refine ls_putI f_223_240 p_223_329 hl13 S_92 rfl ?_
              refine ls_aload_n f_223_243 rfl ?_
              refine ls_aload_n f_223_244 rfl ?_
              refine ls_getI f_223_245 p_223_308 (lm_Lay_si hl13 _ _ _) S_92 ?_
              refine ls_top (lm_i h13 92 35) rfl ?_
              refine ls_if_eq 259 f_223_248 rfl hyp (fun _ hyp => ?_) (fun _ hyp => ?_)
              · refine ls_iload_n f_223_259 rfl ?_
                refine ls_goto 267 f_223_260 rfl ?_
                refine ls_putI f_223_267 p_223_332 (lm_Lay_si hl13 _ _ _) S_92 rfl ?_
                refine ls_aload_n f_223_270 rfl ?_
                refine ls_getR f_223_271 p_223_75 (lm_Lay_si (lm_Lay_si hl13 _ _ _) _ _ _) S_92 F_92_38 ?_
                refine ls_aload_n f_223_274 rfl ?_
                refine ls_getI f_223_275 p_223_308 (lm_Lay_si (lm_Lay_si hl13 _ _ _) _ _ _) S_92 ?_
                refine ls_top (lm_i h13 92 35) rfl ?_
                refine ls_iload_n f_223_278 rfl ?_
                refine ls_iast f_223_279 (lm_Lay_si (lm_Lay_si hl13 _ _ _) _ _ _) S_108 hyp (fun hyp => ?_)
                refine ls_aload_n f_223_280 rfl ?_
                refine ls_dup f_223_281 rfl ?_
                refine ls_getI f_223_282 p_223_308 (lm_Lay_si (lm_Lay_si (lm_Lay_si hl13 _ _ _) _ _ _) _ _ _) S_92 ?_
                refine ls_top (lm_i h13 92 35) rfl ?_
                refine ls_iconst 1 f_223_285 (by decide) ?_
                refine ls_iadd ((lm_i h13 92 35) + 1) f_223_286 rfl ?_
                refine ls_putI f_223_287 p_223_308 (lm_Lay_si (lm_Lay_si (lm_Lay_si hl13 _ _ _) _ _ _) _ _ _) S_92 rfl ?_
                refine ls_iinc (x1 + 1) [some (.ref 92), some (.int (x1 + 1)), some (.int x2), some (.int x3), some (.int x4)] f_223_290 rfl (Nat.le_of_ble_eq_true rfl) rfl rfl ?_
                refine ls_goto 41 f_223_293 rfl ?_
                exact ls_mask [true, true, false, false, false] [some (.ref 92), some (.int (x1 + 1)), none, none, none] rfl hyp
              · refine ls_iload_n f_223_251 rfl ?_
                refine ls_aload_n f_223_252 rfl ?_
                refine ls_getI f_223_253 p_223_332 (lm_Lay_si hl13 _ _ _) S_92 ?_
                refine ls_top (lm_i h13 92 37) rfl ?_
                refine ls_icmp_ge 263 f_223_256 rfl hyp (fun _ hyp => ?_) (fun _ hyp => ?_)
                · refine ls_iload_n f_223_259 rfl ?_
                  refine ls_goto 267 f_223_260 rfl ?_
                  refine ls_putI f_223_267 p_223_332 (lm_Lay_si hl13 _ _ _) S_92 rfl ?_
                  refine ls_aload_n f_223_270 rfl ?_
                  refine ls_getR f_223_271 p_223_75 (lm_Lay_si (lm_Lay_si hl13 _ _ _) _ _ _) S_92 F_92_38 ?_
                  refine ls_aload_n f_223_274 rfl ?_
                  refine ls_getI f_223_275 p_223_308 (lm_Lay_si (lm_Lay_si hl13 _ _ _) _ _ _) S_92 ?_
                  refine ls_top (lm_i h13 92 35) rfl ?_
                  refine ls_iload_n f_223_278 rfl ?_
                  refine ls_iast f_223_279 (lm_Lay_si (lm_Lay_si hl13 _ _ _) _ _ _) S_108 hyp (fun hyp => ?_)
                  refine ls_aload_n f_223_280 rfl ?_
                  refine ls_dup f_223_281 rfl ?_
                  refine ls_getI f_223_282 p_223_308 (lm_Lay_si (lm_Lay_si (lm_Lay_si hl13 _ _ _) _ _ _) _ _ _) S_92 ?_
                  refine ls_top (lm_i h13 92 35) rfl ?_
                  refine ls_iconst 1 f_223_285 (by decide) ?_
                  refine ls_iadd ((lm_i h13 92 35) + 1) f_223_286 rfl ?_
                  refine ls_putI f_223_287 p_223_308 (lm_Lay_si (lm_Lay_si (lm_Lay_si hl13 _ _ _) _ _ _) _ _ _) S_92 rfl ?_
                  refine ls_iinc (x1 + 1) [some (.ref 92), some (.int (x1 + 1)), some (.int x2), some (.int x3), some (.int x4)] f_223_290 rfl (Nat.le_of_ble_eq_true rfl) rfl rfl ?_
                  refine ls_goto 41 f_223_293 rfl ?_
                  exact ls_mask [true, true, false, false, false] [some (.ref 92), some (.int (x1 + 1)), none, none, none] rfl hyp
                · refine ls_aload_n f_223_263 rfl ?_
                  refine ls_getI f_223_264 p_223_332 (lm_Lay_si hl13 _ _ _) S_92 ?_
                  refine ls_top (lm_i h13 92 37) rfl ?_
                  refine ls_putI f_223_267 p_223_332 (lm_Lay_si hl13 _ _ _) S_92 rfl ?_
                  refine ls_aload_n f_223_270 rfl ?_
                  refine ls_getR f_223_271 p_223_75 (lm_Lay_si (lm_Lay_si hl13 _ _ _) _ _ _) S_92 F_92_38 ?_
                  refine ls_aload_n f_223_274 rfl ?_
                  refine ls_getI f_223_275 p_223_308 (lm_Lay_si (lm_Lay_si hl13 _ _ _) _ _ _) S_92 ?_
                  refine ls_top (lm_i h13 92 35) rfl ?_
                  refine ls_iload_n f_223_278 rfl ?_
                  refine ls_iast f_223_279 (lm_Lay_si (lm_Lay_si hl13 _ _ _) _ _ _) S_108 hyp (fun hyp => ?_)
                  refine ls_aload_n f_223_280 rfl ?_
                  refine ls_dup f_223_281 rfl ?_
                  refine ls_getI f_223_282 p_223_308 (lm_Lay_si (lm_Lay_si (lm_Lay_si hl13 _ _ _) _ _ _) _ _ _) S_92 ?_
                  refine ls_top (lm_i h13 92 35) rfl ?_
                  refine ls_iconst 1 f_223_285 (by decide) ?_
                  refine ls_iadd ((lm_i h13 92 35) + 1) f_223_286 rfl ?_
                  refine ls_putI f_223_287 p_223_308 (lm_Lay_si (lm_Lay_si (lm_Lay_si hl13 _ _ _) _ _ _) _ _ _) S_92 rfl ?_
                  refine ls_iinc (x1 + 1) [some (.ref 92), some (.int (x1 + 1)), some (.int x2), some (.int x3), some (.int x4)] f_223_290 rfl (Nat.le_of_ble_eq_true rfl) rfl rfl ?_
                  refine ls_goto 41 f_223_293 rfl ?_
                  exact ls_mask [true, true, false, false, false] [some (.ref 92), some (.int (x1 + 1)), none, none, none] rfl hyp
            · refine ls_iload_n f_223_224 rfl ?_
              refine ls_aload_n f_223_225 rfl ?_
              refine ls_getI f_223_226 p_223_329 hl13 S_92 ?_
              refine ls_icmp_le 236 f_223_229 rfl hyp (fun _ hyp => ?_) (fun _ hyp => ?_)
              · refine ls_iload_n f_223_232 rfl ?_
                refine ls_goto 240 f_223_233 rfl ?_
                refine ls_putI f_223_240 p_223_329 hl13 S_92 rfl ?_
                refine ls_aload_n f_223_243 rfl ?_
                refine ls_aload_n f_223_244 rfl ?_
                refine ls_getI f_223_245 p_223_308 (lm_Lay_si hl13 _ _ _) S_92 ?_
                refine ls_top (lm_i h13 92 35) rfl ?_
                refine ls_if_eq 259 f_223_248 rfl hyp (fun _ hyp => ?_) (fun _ hyp => ?_)
                · refine ls_iload_n f_223_259 rfl ?_
                  refine ls_goto 267 f_223_260 rfl ?_
                  refine ls_putI f_223_267 p_223_332 (lm_Lay_si hl13 _ _ _) S_92 rfl ?_
                  refine ls_aload_n f_223_270 rfl ?_
                  refine ls_getR f_223_271 p_223_75 (lm_Lay_si (lm_Lay_si hl13 _ _ _) _ _ _) S_92 F_92_38 ?_
                  refine ls_aload_n f_223_274 rfl ?_
                  refine ls_getI f_223_275 p_223_308 (lm_Lay_si (lm_Lay_si hl13 _ _ _) _ _ _) S_92 ?_
                  refine ls_top (lm_i h13 92 35) rfl ?_
                  refine ls_iload_n f_223_278 rfl ?_
                  refine ls_iast f_223_279 (lm_Lay_si (lm_Lay_si hl13 _ _ _) _ _ _) S_108 hyp (fun hyp => ?_)
                  refine ls_aload_n f_223_280 rfl ?_
                  refine ls_dup f_223_281 rfl ?_
                  refine ls_getI f_223_282 p_223_308 (lm_Lay_si (lm_Lay_si (lm_Lay_si hl13 _ _ _) _ _ _) _ _ _) S_92 ?_
                  refine ls_top (lm_i h13 92 35) rfl ?_
                  refine ls_iconst 1 f_223_285 (by decide) ?_
                  refine ls_iadd ((lm_i h13 92 35) + 1) f_223_286 rfl ?_
                  refine ls_putI f_223_287 p_223_308 (lm_Lay_si (lm_Lay_si (lm_Lay_si hl13 _ _ _) _ _ _) _ _ _) S_92 rfl ?_
                  refine ls_iinc (x1 + 1) [some (.ref 92), some (.int (x1 + 1)), some (.int x2), some (.int x3), some (.int x4)] f_223_290 rfl (Nat.le_of_ble_eq_true rfl) rfl rfl ?_
                  refine ls_goto 41 f_223_293 rfl ?_
                  exact ls_mask [true, true, false, false, false] [some (.ref 92), some (.int (x1 + 1)), none, none, none] rfl hyp
                · refine ls_iload_n f_223_251 rfl ?_
                  refine ls_aload_n f_223_252 rfl ?_
                  refine ls_getI f_223_253 p_223_332 (lm_Lay_si hl13 _ _ _) S_92 ?_
                  refine ls_top (lm_i h13 92 37) rfl ?_
                  refine ls_icmp_ge 263 f_223_256 rfl hyp (fun _ hyp => ?_) (fun _ hyp => ?_)
                  · refine ls_iload_n f_223_259 rfl ?_
                    refine ls_goto 267 f_223_260 rfl ?_
                    refine ls_putI f_223_267 p_223_332 (lm_Lay_si hl13 _ _ _) S_92 rfl ?_
                    refine ls_aload_n f_223_270 rfl ?_
                    refine ls_getR f_223_271 p_223_75 (lm_Lay_si (lm_Lay_si hl13 _ _ _) _ _ _) S_92 F_92_38 ?_
                    refine ls_aload_n f_223_274 rfl ?_
                    refine ls_getI f_223_275 p_223_308 (lm_Lay_si (lm_Lay_si hl13 _ _ _) _ _ _) S_92 ?_
                    refine ls_top (lm_i h13 92 35) rfl ?_
                    refine ls_iload_n f_223_278 rfl ?_
                    refine ls_iast f_223_279 (lm_Lay_si (lm_Lay_si hl13 _ _ _) _ _ _) S_108 hyp (fun hyp => ?_)
                    refine ls_aload_n f_223_280 rfl ?_
                    refine ls_dup f_223_281 rfl ?_
                    refine ls_getI f_223_282 p_223_308 (lm_Lay_si (lm_Lay_si (lm_Lay_si hl13 _ _ _) _ _ _) _ _ _) S_92 ?_
                    refine ls_top (lm_i h13 92 35) rfl ?_
                    refine ls_iconst 1 f_223_285 (by decide) ?_
                    refine ls_iadd ((lm_i h13 92 35) + 1) f_223_286 rfl ?_
                    refine ls_putI f_223_287 p_223_308 (lm_Lay_si (lm_Lay_si (lm_Lay_si hl13 _ _ _) _ _ _) _ _ _) S_92 rfl ?_
                    refine ls_iinc (x1 + 1) [some (.ref 92), some (.int (x1 + 1)), some (.int x2), some (.int x3), some (.int x4)] f_223_290 rfl (Nat.le_of_ble_eq_true rfl) rfl rfl ?_
                    refine ls_goto 41 f_223_293 rfl ?_
                    exact ls_mask [true, true, false, false, false] [some (.ref 92), some (.int (x1 + 1)), none, none, none] rfl hyp
                  · refine ls_aload_n f_223_263 rfl ?_
                    refine ls_getI f_223_264 p_223_332 (lm_Lay_si hl13 _ _ _) S_92 ?_
                    refine ls_top (lm_i h13 92 37) rfl ?_
                    refine ls_putI f_223_267 p_223_332 (lm_Lay_si hl13 _ _ _) S_92 rfl ?_
                    refine ls_aload_n f_223_270 rfl ?_
                    refine ls_getR f_223_271 p_223_75 (lm_Lay_si (lm_Lay_si hl13 _ _ _) _ _ _) S_92 F_92_38 ?_
                    refine ls_aload_n f_223_274 rfl ?_
                    refine ls_getI f_223_275 p_223_308 (lm_Lay_si (lm_Lay_si hl13 _ _ _) _ _ _) S_92 ?_
                    refine ls_top (lm_i h13 92 35) rfl ?_
                    refine ls_iload_n f_223_278 rfl ?_
                    refine ls_iast f_223_279 (lm_Lay_si (lm_Lay_si hl13 _ _ _) _ _ _) S_108 hyp (fun hyp => ?_)
                    refine ls_aload_n f_223_280 rfl ?_
                    refine ls_dup f_223_281 rfl ?_
                    refine ls_getI f_223_282 p_223_308 (lm_Lay_si (lm_Lay_si (lm_Lay_si hl13 _ _ _) _ _ _) _ _ _) S_92 ?_
                    refine ls_top (lm_i h13 92 35) rfl ?_
                    refine ls_iconst 1 f_223_285 (by decide) ?_
                    refine ls_iadd ((lm_i h13 92 35) + 1) f_223_286 rfl ?_
                    refine ls_putI f_223_287 p_223_308 (lm_Lay_si (lm_Lay_si (lm_Lay_si hl13 _ _ _) _ _ _) _ _ _) S_92 rfl ?_
                    refine ls_iinc (x1 + 1) [some (.ref 92), some (.int (x1 + 1)), some (.int x2), some (.int x3), some (.int x4)] f_223_290 rfl (Nat.le_of_ble_eq_true rfl) rfl rfl ?_
                    refine ls_goto 41 f_223_293 rfl ?_
                    exact ls_mask [true, true, false, false, false] [some (.ref 92), some (.int (x1 + 1)), none, none, none] rfl hyp
              · refine ls_aload_n f_223_236 rfl ?_
                refine ls_getI f_223_237 p_223_329 hl13 S_92 ?_
                refine ls_putI f_223_240 p_223_329 hl13 S_92 rfl ?_
                refine ls_aload_n f_223_243 rfl ?_
                refine ls_aload_n f_223_244 rfl ?_
                refine ls_getI f_223_245 p_223_308 (lm_Lay_si hl13 _ _ _) S_92 ?_
                refine ls_top (lm_i h13 92 35) rfl ?_
                refine ls_if_eq 259 f_223_248 rfl hyp (fun _ hyp => ?_) (fun _ hyp => ?_)
                · refine ls_iload_n f_223_259 rfl ?_
                  refine ls_goto 267 f_223_260 rfl ?_
                  refine ls_putI f_223_267 p_223_332 (lm_Lay_si hl13 _ _ _) S_92 rfl ?_
                  refine ls_aload_n f_223_270 rfl ?_
                  refine ls_getR f_223_271 p_223_75 (lm_Lay_si (lm_Lay_si hl13 _ _ _) _ _ _) S_92 F_92_38 ?_
                  refine ls_aload_n f_223_274 rfl ?_
                  refine ls_getI f_223_275 p_223_308 (lm_Lay_si (lm_Lay_si hl13 _ _ _) _ _ _) S_92 ?_
                  refine ls_top (lm_i h13 92 35) rfl ?_
                  refine ls_iload_n f_223_278 rfl ?_
                  refine ls_iast f_223_279 (lm_Lay_si (lm_Lay_si hl13 _ _ _) _ _ _) S_108 hyp (fun hyp => ?_)
                  refine ls_aload_n f_223_280 rfl ?_
                  refine ls_dup f_223_281 rfl ?_
                  refine ls_getI f_223_282 p_223_308 (lm_Lay_si (lm_Lay_si (lm_Lay_si hl13 _ _ _) _ _ _) _ _ _) S_92 ?_
                  refine ls_top (lm_i h13 92 35) rfl ?_
                  refine ls_iconst 1 f_223_285 (by decide) ?_
                  refine ls_iadd ((lm_i h13 92 35) + 1) f_223_286 rfl ?_
                  refine ls_putI f_223_287 p_223_308 (lm_Lay_si (lm_Lay_si (lm_Lay_si hl13 _ _ _) _ _ _) _ _ _) S_92 rfl ?_
                  refine ls_iinc (x1 + 1) [some (.ref 92), some (.int (x1 + 1)), some (.int x2), some (.int x3), some (.int x4)] f_223_290 rfl (Nat.le_of_ble_eq_true rfl) rfl rfl ?_
                  refine ls_goto 41 f_223_293 rfl ?_
                  exact ls_mask [true, true, false, false, false] [some (.ref 92), some (.int (x1 + 1)), none, none, none] rfl hyp
                · refine ls_iload_n f_223_251 rfl ?_
                  refine ls_aload_n f_223_252 rfl ?_
                  refine ls_getI f_223_253 p_223_332 (lm_Lay_si hl13 _ _ _) S_92 ?_
                  refine ls_top (lm_i h13 92 37) rfl ?_
                  refine ls_icmp_ge 263 f_223_256 rfl hyp (fun _ hyp => ?_) (fun _ hyp => ?_)
                  · refine ls_iload_n f_223_259 rfl ?_
                    refine ls_goto 267 f_223_260 rfl ?_
                    refine ls_putI f_223_267 p_223_332 (lm_Lay_si hl13 _ _ _) S_92 rfl ?_
                    refine ls_aload_n f_223_270 rfl ?_
                    refine ls_getR f_223_271 p_223_75 (lm_Lay_si (lm_Lay_si hl13 _ _ _) _ _ _) S_92 F_92_38 ?_
                    refine ls_aload_n f_223_274 rfl ?_
                    refine ls_getI f_223_275 p_223_308 (lm_Lay_si (lm_Lay_si hl13 _ _ _) _ _ _) S_92 ?_
                    refine ls_top (lm_i h13 92 35) rfl ?_
                    refine ls_iload_n f_223_278 rfl ?_
                    refine ls_iast f_223_279 (lm_Lay_si (lm_Lay_si hl13 _ _ _) _ _ _) S_108 hyp (fun hyp => ?_)
                    refine ls_aload_n f_223_280 rfl ?_
                    refine ls_dup f_223_281 rfl ?_
                    refine ls_getI f_223_282 p_223_308 (lm_Lay_si (lm_Lay_si (lm_Lay_si hl13 _ _ _) _ _ _) _ _ _) S_92 ?_
                    refine ls_top (lm_i h13 92 35) rfl ?_
                    refine ls_iconst 1 f_223_285 (by decide) ?_
                    refine ls_iadd ((lm_i h13 92 35) + 1) f_223_286 rfl ?_
                    refine ls_putI f_223_287 p_223_308 (lm_Lay_si (lm_Lay_si (lm_Lay_si hl13 _ _ _) _ _ _) _ _ _) S_92 rfl ?_
                    refine ls_iinc (x1 + 1) [some (.ref 92), some (.int (x1 + 1)), some (.int x2), some (.int x3), some (.int x4)] f_223_290 rfl (Nat.le_of_ble_eq_true rfl) rfl rfl ?_
                    refine ls_goto 41 f_223_293 rfl ?_
                    exact ls_mask [true, true, false, false, false] [some (.ref 92), some (.int (x1 + 1)), none, none, none] rfl hyp
                  · refine ls_aload_n f_223_263 rfl ?_
                    refine ls_getI f_223_264 p_223_332 (lm_Lay_si hl13 _ _ _) S_92 ?_
                    refine ls_top (lm_i h13 92 37) rfl ?_
                    refine ls_putI f_223_267 p_223_332 (lm_Lay_si hl13 _ _ _) S_92 rfl ?_
                    refine ls_aload_n f_223_270 rfl ?_
                    refine ls_getR f_223_271 p_223_75 (lm_Lay_si (lm_Lay_si hl13 _ _ _) _ _ _) S_92 F_92_38 ?_
                    refine ls_aload_n f_223_274 rfl ?_
                    refine ls_getI f_223_275 p_223_308 (lm_Lay_si (lm_Lay_si hl13 _ _ _) _ _ _) S_92 ?_
                    refine ls_top (lm_i h13 92 35) rfl ?_
                    refine ls_iload_n f_223_278 rfl ?_
                    refine ls_iast f_223_279 (lm_Lay_si (lm_Lay_si hl13 _ _ _) _ _ _) S_108 hyp (fun hyp => ?_)
                    refine ls_aload_n f_223_280 rfl ?_
                    refine ls_dup f_223_281 rfl ?_
                    refine ls_getI f_223_282 p_223_308 (lm_Lay_si (lm_Lay_si (lm_Lay_si hl13 _ _ _) _ _ _) _ _ _) S_92 ?_
                    refine ls_top (lm_i h13 92 35) rfl ?_
                    refine ls_iconst 1 f_223_285 (by decide) ?_
                    refine ls_iadd ((lm_i h13 92 35) + 1) f_223_286 rfl ?_
                    refine ls_putI f_223_287 p_223_308 (lm_Lay_si (lm_Lay_si (lm_Lay_si hl13 _ _ _) _ _ _) _ _ _) S_92 rfl ?_
                    refine ls_iinc (x1 + 1) [some (.ref 92), some (.int (x1 + 1)), some (.int x2), some (.int x3), some (.int x4)] f_223_290 rfl (Nat.le_of_ble_eq_true rfl) rfl rfl ?_
                    refine ls_goto 41 f_223_293 rfl ?_
                    exact ls_mask [true, true, false, false, false] [some (.ref 92), some (.int (x1 + 1)), none, none, none] rfl hyp
        · refine ls_iconst 0 f_223_201 (by decide) ?_
          refine ls_iadd ((lm_i h 92 34) + 0) f_223_202 rfl ?_
          refine ls_putI f_223_203 p_223_305 hl S_92 rfl ?_
          refine ls_aload_n f_223_206 rfl ?_
          refine ls_invV (a := 92) f_223_207 q_223_326 [] [] rfl (Nat.le_of_ble_eq_true rfl) (lm_Lay_si hl _ _ _) S_92 ow_222 ?_
          refine ls_call hyp (lm_Lay_si hl _ _ _) (fun _ h15 hl15 hyp => ?_)
          refine ls_retI hyp (fun r16 hyp => ?_)
          refine ls_if_ne 216 f_223_210 rfl hyp (fun _ hyp => ?_) (fun _ hyp => ?_)
          · refine ls_goto 290 f_223_213 rfl ?_
            refine ls_iinc (x1 + 1) [some (.ref 92), some (.int (x1 + 1)), some (.int x2), some (.int x3), some (.int x4)] f_223_290 rfl (Nat.le_of_ble_eq_true rfl) rfl rfl ?_
            refine ls_goto 41 f_223_293 rfl ?_
            exact ls_mask [true, true, false, false, false] [some (.ref 92), some (.int (x1 + 1)), none, none, none] rfl hyp
          · refine ls_aload_n f_223_216 rfl ?_
            refine ls_aload_n f_223_217 rfl ?_
            refine ls_getI f_223_218 p_223_308 hl15 S_92 ?_
            refine ls_if_eq 232 f_223_221 rfl hyp (fun _ hyp => ?_) (fun _ hyp => ?_)
            · refine ls_iload_n f_223_232 rfl ?_
              refine ls_goto 240 f_223_233 rfl ?_
              refine ls_putI f_223_240 p_223_329 hl15 S_92 rfl ?_
              refine ls_aload_n f_223_243 rfl ?_
              refine ls_aload_n f_223_244 rfl ?_
              refine ls_getI f_223_245 p_223_308 (lm_Lay_si hl15 _ _ _) S_92 ?_
              refine ls_top (lm_i h15 92 35) rfl ?_
              refine ls_if_eq 259 f_223_248 rfl hyp (fun _ hyp => ?_) (fun _ hyp => ?_)
              · refine ls_iload_n f_223_259 rfl ?_
                refine ls_goto 267 f_223_260 rfl ?_
                refine ls_putI f_223_267 p_223_332 (lm_Lay_si hl15 _ _ _) S_92 rfl ?_
                refine ls_aload_n f_223_270 rfl ?_
                refine ls_getR f_223_271 p_223_75 (lm_Lay_si (lm_Lay_si hl15 _ _ _) _ _ _) S_92 F_92_38 ?_
                refine ls_aload_n f_223_274 rfl ?_
                refine ls_getI f_223_275 p_223_308 (lm_Lay_si (lm_Lay_si hl15 _ _ _) _ _ _) S_92 ?_
                refine ls_top (lm_i h15 92 35) rfl ?_
                refine ls_iload_n f_223_278 rfl ?_
                refine ls_iast f_223_279 (lm_Lay_si (lm_Lay_si hl15 _ _ _) _ _ _) S_108 hyp (fun hyp => ?_)
                refine ls_aload_n f_223_280 rfl ?_
                refine ls_dup f_223_281 rfl ?_
                refine ls_getI f_223_282 p_223_308 (lm_Lay_si (lm_Lay_si (lm_Lay_si hl15 _ _ _) _ _ _) _ _ _) S_92 ?_
                refine ls_top (lm_i h15 92 35) rfl ?_
                refine ls_iconst 1 f_223_285 (by decide) ?_
                refine ls_iadd ((lm_i h15 92 35) + 1) f_223_286 rfl ?_
                refine ls_putI f_223_287 p_223_308 (lm_Lay_si (lm_Lay_si (lm_Lay_si hl15 _ _ _) _ _ _) _ _ _) S_92 rfl ?_
                refine ls_iinc (x1 + 1) [some (.ref 92), some (.int (x1 + 1)), some (.int x2), some (.int x3), some (.int x4)] f_223_290 rfl (Nat.le_of_ble_eq_true rfl) rfl rfl ?_
                refine ls_goto 41 f_223_293 rfl ?_
                exact ls_mask [true, true, false, false, false] [some (.ref 92), some (.int (x1 + 1)), none, none, none] rfl hyp
              · refine ls_iload_n f_223_251 rfl ?_
                refine ls_aload_n f_223_252 rfl ?_
                refine ls_getI f_223_253 p_223_332 (lm_Lay_si hl15 _ _ _) S_92 ?_
                refine ls_top (lm_i h15 92 37) rfl ?_
                refine ls_icmp_ge 263 f_223_256 rfl hyp (fun _ hyp => ?_) (fun _ hyp => ?_)
                · refine ls_iload_n f_223_259 rfl ?_
                  refine ls_goto 267 f_223_260 rfl ?_
                  refine ls_putI f_223_267 p_223_332 (lm_Lay_si hl15 _ _ _) S_92 rfl ?_
                  refine ls_aload_n f_223_270 rfl ?_
                  refine ls_getR f_223_271 p_223_75 (lm_Lay_si (lm_Lay_si hl15 _ _ _) _ _ _) S_92 F_92_38 ?_
                  refine ls_aload_n f_223_274 rfl ?_
                  refine ls_getI f_223_275 p_223_308 (lm_Lay_si (lm_Lay_si hl15 _ _ _) _ _ _) S_92 ?_
                  refine ls_top (lm_i h15 92 35) rfl ?_
                  refine ls_iload_n f_223_278 rfl ?_
                  refine ls_iast f_223_279 (lm_Lay_si (lm_Lay_si hl15 _ _ _) _ _ _) S_108 hyp (fun hyp => ?_)
                  refine ls_aload_n f_223_280 rfl ?_
                  refine ls_dup f_223_281 rfl ?_
                  refine ls_getI f_223_282 p_223_308 (lm_Lay_si (lm_Lay_si (lm_Lay_si hl15 _ _ _) _ _ _) _ _ _) S_92 ?_
                  refine ls_top (lm_i h15 92 35) rfl ?_
                  refine ls_iconst 1 f_223_285 (by decide) ?_
                  refine ls_iadd ((lm_i h15 92 35) + 1) f_223_286 rfl ?_
                  refine ls_putI f_223_287 p_223_308 (lm_Lay_si (lm_Lay_si (lm_Lay_si hl15 _ _ _) _ _ _) _ _ _) S_92 rfl ?_
                  refine ls_iinc (x1 + 1) [some (.ref 92), some (.int (x1 + 1)), some (.int x2), some (.int x3), some (.int x4)] f_223_290 rfl (Nat.le_of_ble_eq_true rfl) rfl rfl ?_
                  refine ls_goto 41 f_223_293 rfl ?_
                  exact ls_mask [true, true, false, false, false] [some (.ref 92), some (.int (x1 + 1)), none, none, none] rfl hyp
                · refine ls_aload_n f_223_263 rfl ?_
                  refine ls_getI f_223_264 p_223_332 (lm_Lay_si hl15 _ _ _) S_92 ?_
                  refine ls_top (lm_i h15 92 37) rfl ?_
                  refine ls_putI f_223_267 p_223_332 (lm_Lay_si hl15 _ _ _) S_92 rfl ?_
                  refine ls_aload_n f_223_270 rfl ?_
                  refine ls_getR f_223_271 p_223_75 (lm_Lay_si (lm_Lay_si hl15 _ _ _) _ _ _) S_92 F_92_38 ?_
                  refine ls_aload_n f_223_274 rfl ?_
                  refine ls_getI f_223_275 p_223_308 (lm_Lay_si (lm_Lay_si hl15 _ _ _) _ _ _) S_92 ?_
                  refine ls_top (lm_i h15 92 35) rfl ?_
                  refine ls_iload_n f_223_278 rfl ?_
                  refine ls_iast f_223_279 (lm_Lay_si (lm_Lay_si hl15 _ _ _) _ _ _) S_108 hyp (fun hyp => ?_)
                  refine ls_aload_n f_223_280 rfl ?_
                  refine ls_dup f_223_281 rfl ?_
                  refine ls_getI f_223_282 p_223_308 (lm_Lay_si (lm_Lay_si (lm_Lay_si hl15 _ _ _) _ _ _) _ _ _) S_92 ?_
                  refine ls_top (lm_i h15 92 35) rfl ?_
                  refine ls_iconst 1 f_223_285 (by decide) ?_
                  refine ls_iadd ((lm_i h15 92 35) + 1) f_223_286 rfl ?_
                  refine ls_putI f_223_287 p_223_308 (lm_Lay_si (lm_Lay_si (lm_Lay_si hl15 _ _ _) _ _ _) _ _ _) S_92 rfl ?_
                  refine ls_iinc (x1 + 1) [some (.ref 92), some (.int (x1 + 1)), some (.int x2), some (.int x3), some (.int x4)] f_223_290 rfl (Nat.le_of_ble_eq_true rfl) rfl rfl ?_
                  refine ls_goto 41 f_223_293 rfl ?_
                  exact ls_mask [true, true, false, false, false] [some (.ref 92), some (.int (x1 + 1)), none, none, none] rfl hyp
            · refine ls_iload_n f_223_224 rfl ?_
              refine ls_aload_n f_223_225 rfl ?_
              refine ls_getI f_223_226 p_223_329 hl15 S_92 ?_
              refine ls_icmp_le 236 f_223_229 rfl hyp (fun _ hyp => ?_) (fun _ hyp => ?_)
              · refine ls_iload_n f_223_232 rfl ?_
                refine ls_goto 240 f_223_233 rfl ?_
                refine ls_putI f_223_240 p_223_329 hl15 S_92 rfl ?_
                refine ls_aload_n f_223_243 rfl ?_
                refine ls_aload_n f_223_244 rfl ?_
                refine ls_getI f_223_245 p_223_308 (lm_Lay_si hl15 _ _ _) S_92 ?_
                refine ls_top (lm_i h15 92 35) rfl ?_
                refine ls_if_eq 259 f_223_248 rfl hyp (fun _ hyp => ?_) (fun _ hyp => ?_)
                · refine ls_iload_n f_223_259 rfl ?_
                  refine ls_goto 267 f_223_260 rfl ?_
                  refine ls_putI f_223_267 p_223_332 (lm_Lay_si hl15 _ _ _) S_92 rfl ?_
                  refine ls_aload_n f_223_270 rfl ?_
                  refine ls_getR f_223_271 p_223_75 (lm_Lay_si (lm_Lay_si hl15 _ _ _) _ _ _) S_92 F_92_38 ?_
                  refine ls_aload_n f_223_274 rfl ?_
                  refine ls_getI f_223_275 p_223_308 (lm_Lay_si (lm_Lay_si hl15 _ _ _) _ _ _) S_92 ?_
                  refine ls_top (lm_i h15 92 35) rfl ?_
                  refine ls_iload_n f_223_278 rfl ?_
                  refine ls_iast f_223_279 (lm_Lay_si (lm_Lay_si hl15 _ _ _) _ _ _) S_108 hyp (fun hyp => ?_)
                  refine ls_aload_n f_223_280 rfl ?_
                  refine ls_dup f_223_281 rfl ?_
                  refine ls_getI f_223_282 p_223_308 (lm_Lay_si (lm_Lay_si (lm_Lay_si hl15 _ _ _) _ _ _) _ _ _) S_92 ?_
                  refine ls_top (lm_i h15 92 35) rfl ?_
                  refine ls_iconst 1 f_223_285 (by decide) ?_
                  refine ls_iadd ((lm_i h15 92 35) + 1) f_223_286 rfl ?_
                  refine ls_putI f_223_287 p_223_308 (lm_Lay_si (lm_Lay_si (lm_Lay_si hl15 _ _ _) _ _ _) _ _ _) S_92 rfl ?_
                  refine ls_iinc (x1 + 1) [some (.ref 92), some (.int (x1 + 1)), some (.int x2), some (.int x3), some (.int x4)] f_223_290 rfl (Nat.le_of_ble_eq_true rfl) rfl rfl ?_
                  refine ls_goto 41 f_223_293 rfl ?_
                  exact ls_mask [true, true, false, false, false] [some (.ref 92), some (.int (x1 + 1)), none, none, none] rfl hyp
                · refine ls_iload_n f_223_251 rfl ?_
                  refine ls_aload_n f_223_252 rfl ?_
                  refine ls_getI f_223_253 p_223_332 (lm_Lay_si hl15 _ _ _) S_92 ?_
                  refine ls_top (lm_i h15 92 37) rfl ?_
                  refine ls_icmp_ge 263 f_223_256 rfl hyp (fun _ hyp => ?_) (fun _ hyp => ?_)
                  · refine ls_iload_n f_223_259 rfl ?_
                    refine ls_goto 267 f_223_260 rfl ?_
                    refine ls_putI f_223_267 p_223_332 (lm_Lay_si hl15 _ _ _) S_92 rfl ?_
                    refine ls_aload_n f_223_270 rfl ?_
                    refine ls_getR f_223_271 p_223_75 (lm_Lay_si (lm_Lay_si hl15 _ _ _) _ _ _) S_92 F_92_38 ?_
                    refine ls_aload_n f_223_274 rfl ?_
                    refine ls_getI f_223_275 p_223_308 (lm_Lay_si (lm_Lay_si hl15 _ _ _) _ _ _) S_92 ?_
                    refine ls_top (lm_i h15 92 35) rfl ?_
                    refine ls_iload_n f_223_278 rfl ?_
                    refine ls_iast f_223_279 (lm_Lay_si (lm_Lay_si hl15 _ _ _) _ _ _) S_108 hyp (fun hyp => ?_)
                    refine ls_aload_n f_223_280 rfl ?_
                    refine ls_dup f_223_281 rfl ?_
                    refine ls_getI f_223_282 p_223_308 (lm_Lay_si (lm_Lay_si (lm_Lay_si hl15 _ _ _) _ _ _) _ _ _) S_92 ?_
                    refine ls_top (lm_i h15 92 35) rfl ?_
                    refine ls_iconst 1 f_223_285 (by decide) ?_
                    refine ls_iadd ((lm_i h15 92 35) + 1) f_223_286 rfl ?_
                    refine ls_putI f_223_287 p_223_308 (lm_Lay_si (lm_Lay_si (lm_Lay_si hl15 _ _ _) _ _ _) _ _ _) S_92 rfl ?_
                    refine ls_iinc (x1 + 1) [some (.ref 92), some (.int (x1 + 1)), some (.int x2), some (.int x3), some (.int x4)] f_223_290 rfl (Nat.le_of_ble_eq_true rfl) rfl rfl ?_
                    refine ls_goto 41 f_223_293 rfl ?_
                    exact ls_mask [true, true, false, false, false] [some (.ref 92), some (.int (x1 + 1)), none, none, none] rfl hyp
                  · refine ls_aload_n f_223_263 rfl ?_
                    refine ls_getI f_223_264 p_223_332 (lm_Lay_si hl15 _ _ _) S_92 ?_
                    refine ls_top (lm_i h15 92 37) rfl ?_
                    refine ls_putI f_223_267 p_223_332 (lm_Lay_si hl15 _ _ _) S_92 rfl ?_
                    refine ls_aload_n f_223_270 rfl ?_
                    refine ls_getR f_223_271 p_223_75 (lm_Lay_si (lm_Lay_si hl15 _ _ _) _ _ _) S_92 F_92_38 ?_
                    refine ls_aload_n f_223_274 rfl ?_
                    refine ls_getI f_223_275 p_223_308 (lm_Lay_si (lm_Lay_si hl15 _ _ _) _ _ _) S_92 ?_
                    refine ls_top (lm_i h15 92 35) rfl ?_
                    refine ls_iload_n f_223_278 rfl ?_
                    refine ls_iast f_223_279 (lm_Lay_si (lm_Lay_si hl15 _ _ _) _ _ _) S_108 hyp (fun hyp => ?_)
                    refine ls_aload_n f_223_280 rfl ?_
                    refine ls_dup f_223_281 rfl ?_
                    refine ls_getI f_223_282 p_223_308 (lm_Lay_si (lm_Lay_si (lm_Lay_si hl15 _ _ _) _ _ _) _ _ _) S_92 ?_
                    refine ls_top (lm_i h15 92 35) rfl ?_
                    refine ls_iconst 1 f_223_285 (by decide) ?_
                    refine ls_iadd ((lm_i h15 92 35) + 1) f_223_286 rfl ?_
                    refine ls_putI f_223_287 p_223_308 (lm_Lay_si (lm_Lay_si (lm_Lay_si hl15 _ _ _) _ _ _) _ _ _) S_92 rfl ?_
                    refine ls_iinc (x1 + 1) [some (.ref 92), some (.int (x1 + 1)), some (.int x2), some (.int x3), some (.int x4)] f_223_290 rfl (Nat.le_of_ble_eq_true rfl) rfl rfl ?_
                    refine ls_goto 41 f_223_293 rfl ?_
                    exact ls_mask [true, true, false, false, false] [some (.ref 92), some (.int (x1 + 1)), none, none, none] rfl hyp
              · refine ls_aload_n f_223_236 rfl ?_
                refine ls_getI f_223_237 p_223_329 hl15 S_92 ?_
                refine ls_putI f_223_240 p_223_329 hl15 S_92 rfl ?_
                refine ls_aload_n f_223_243 rfl ?_
                refine ls_aload_n f_223_244 rfl ?_
                refine ls_getI f_223_245 p_223_308 (lm_Lay_si hl15 _ _ _) S_92 ?_
                refine ls_top (lm_i h15 92 35) rfl ?_
                refine ls_if_eq 259 f_223_248 rfl hyp (fun _ hyp => ?_) (fun _ hyp => ?_)
                · refine ls_iload_n f_223_259 rfl ?_
                  refine ls_goto 267 f_223_260 rfl ?_
                  refine ls_putI f_223_267 p_223_332 (lm_Lay_si hl15 _ _ _) S_92 rfl ?_
                  refine ls_aload_n f_223_270 rfl ?_
                  refine ls_getR f_223_271 p_223_75 (lm_Lay_si (lm_Lay_si hl15 _ _ _) _ _ _) S_92 F_92_38 ?_
                  refine ls_aload_n f_223_274 rfl ?_
                  refine ls_getI f_223_275 p_223_308 (lm_Lay_si (lm_Lay_si hl15 _ _ _) _ _ _) S_92 ?_
                  refine ls_top (lm_i h15 92 35) rfl ?_
                  refine ls_iload_n f_223_278 rfl ?_
                  refine ls_iast f_223_279 (lm_Lay_si (lm_Lay_si hl15 _ _ _) _ _ _) S_108 hyp (fun hyp => ?_)
                  refine ls_aload_n f_223_280 rfl ?_
                  refine ls_dup f_223_281 rfl ?_
                  refine ls_getI f_223_282 p_223_308 (lm_Lay_si (lm_Lay_si (lm_Lay_si hl15 _ _ _) _ _ _) _ _ _) S_92 ?_
                  refine ls_top (lm_i h15 92 35) rfl ?_
                  refine ls_iconst 1 f_223_285 (by decide) ?_
                  refine ls_iadd ((lm_i h15 92 35) + 1) f_223_286 rfl ?_
                  refine ls_putI f_223_287 p_223_308 (lm_Lay_si (lm_Lay_si (lm_Lay_si hl15 _ _ _) _ _ _) _ _ _) S_92 rfl ?_
                  refine ls_iinc (x1 + 1) [some (.ref 92), some (.int (x1 + 1)), some (.int x2), some (.int x3), some (.int x4)] f_223_290 rfl (Nat.le_of_ble_eq_true rfl) rfl rfl ?_
                  refine ls_goto 41 f_223_293 rfl ?_
                  exact ls_mask [true, true, false, false, false] [some (.ref 92), some (.int (x1 + 1)), none, none, none] rfl hyp
                · refine ls_iload_n f_223_251 rfl ?_
                  refine ls_aload_n f_223_252 rfl ?_
                  refine ls_getI f_223_253 p_223_332 (lm_Lay_si hl15 _ _ _) S_92 ?_
                  refine ls_top (lm_i h15 92 37) rfl ?_
                  refine ls_icmp_ge 263 f_223_256 rfl hyp (fun _ hyp => ?_) (fun _ hyp => ?_)
                  · refine ls_iload_n f_223_259 rfl ?_
                    refine ls_goto 267 f_223_260 rfl ?_
                    refine ls_putI f_223_267 p_223_332 (lm_Lay_si hl15 _ _ _) S_92 rfl ?_
                    refine ls_aload_n f_223_270 rfl ?_
                    refine ls_getR f_223_271 p_223_75 (lm_Lay_si (lm_Lay_si hl15 _ _ _) _ _ _) S_92 F_92_38 ?_
                    refine ls_aload_n f_223_274 rfl ?_
                    refine ls_getI f_223_275 p_223_308 (lm_Lay_si (lm_Lay_si hl15 _ _ _) _ _ _) S_92 ?_
                    refine ls_top (lm_i h15 92 35) rfl ?_
                    refine ls_iload_n f_223_278 rfl ?_
                    refine ls_iast f_223_279 (lm_Lay_si (lm_Lay_si hl15 _ _ _) _ _ _) S_108 hyp (fun hyp => ?_)
                    refine ls_aload_n f_223_280 rfl ?_
                    refine ls_dup f_223_281 rfl ?_
                    refine ls_getI f_223_282 p_223_308 (lm_Lay_si (lm_Lay_si (lm_Lay_si hl15 _ _ _) _ _ _) _ _ _) S_92 ?_
                    refine ls_top (lm_i h15 92 35) rfl ?_
                    refine ls_iconst 1 f_223_285 (by decide) ?_
                    refine ls_iadd ((lm_i h15 92 35) + 1) f_223_286 rfl ?_
                    refine ls_putI f_223_287 p_223_308 (lm_Lay_si (lm_Lay_si (lm_Lay_si hl15 _ _ _) _ _ _) _ _ _) S_92 rfl ?_
                    refine ls_iinc (x1 + 1) [some (.ref 92), some (.int (x1 + 1)), some (.int x2), some (.int x3), some (.int x4)] f_223_290 rfl (Nat.le_of_ble_eq_true rfl) rfl rfl ?_
                    refine ls_goto 41 f_223_293 rfl ?_
                    exact ls_mask [true, true, false, false, false] [some (.ref 92), some (.int (x1 + 1)), none, none, none] rfl hyp
                  · refine ls_aload_n f_223_263 rfl ?_
                    refine ls_getI f_223_264 p_223_332 (lm_Lay_si hl15 _ _ _) S_92 ?_
                    refine ls_top (lm_i h15 92 37) rfl ?_
                    refine ls_putI f_223_267 p_223_332 (lm_Lay_si hl15 _ _ _) S_92 rfl ?_
                    refine ls_aload_n f_223_270 rfl ?_
                    refine ls_getR f_223_271 p_223_75 (lm_Lay_si (lm_Lay_si hl15 _ _ _) _ _ _) S_92 F_92_38 ?_
                    refine ls_aload_n f_223_274 rfl ?_
                    refine ls_getI f_223_275 p_223_308 (lm_Lay_si (lm_Lay_si hl15 _ _ _) _ _ _) S_92 ?_
                    refine ls_top (lm_i h15 92 35) rfl ?_
                    refine ls_iload_n f_223_278 rfl ?_
                    refine ls_iast f_223_279 (lm_Lay_si (lm_Lay_si hl15 _ _ _) _ _ _) S_108 hyp (fun hyp => ?_)
                    refine ls_aload_n f_223_280 rfl ?_
                    refine ls_dup f_223_281 rfl ?_
                    refine ls_getI f_223_282 p_223_308 (lm_Lay_si (lm_Lay_si (lm_Lay_si hl15 _ _ _) _ _ _) _ _ _) S_92 ?_
                    refine ls_top (lm_i h15 92 35) rfl ?_
                    refine ls_iconst 1 f_223_285 (by decide) ?_
                    refine ls_iadd ((lm_i h15 92 35) + 1) f_223_286 rfl ?_
                    refine ls_putI f_223_287 p_223_308 (lm_Lay_si (lm_Lay_si (lm_Lay_si hl15 _ _ _) _ _ _) _ _ _) S_92 rfl ?_
                    refine ls_iinc (x1 + 1) [some (.ref 92), some (.int (x1 + 1)), some (.int x2), some (.int x3), some (.int x4)] f_223_290 rfl (Nat.le_of_ble_eq_true rfl) rfl rfl ?_
                    refine ls_goto 41 f_223_293 rfl ?_
                    exact ls_mask [true, true, false, false, false] [some (.ref 92), some (.int (x1 + 1)), none, none, none] rfl hyp
