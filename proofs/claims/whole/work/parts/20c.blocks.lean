theorem e_224 {d : Nat} {h : lm_H} {K : Int32 → lm_H → Prop} (x1 : Int32) (x2 : Int32) (hl : lm_Lay h) (hyp : lm_call (d + 1) 220 [.ref 92, .int x1] h (lm_kI fun r2 h1 => lm_in x2 5 False (if (lm_i h1 107 x2.toNatClampNeg) = (lm_i h1 94 82) then (K (-1) h1) else (lm_in x2 5 False (K (lm_i h1 107 x2.toNatClampNeg) h1))))) : lm_call (d + 2) 224 [.ref 92, .int x1, .int x2] h (lm_kI K) := by
  refine ls_enter [some (.ref 92), some (.int x1), some (.int x2)] ml_224 (Nat.le_of_ble_eq_true rfl) rfl ?_
  refine ls_aload_n f_224_0 rfl ?_
  refine ls_iload_n f_224_1 rfl ?_
  refine ls_invV (a := 92) f_224_2 q_224_314 [.int x1] [] rfl (Nat.le_of_ble_eq_true rfl) hl S_92 ow_220 ?_
  refine ls_call hyp hl (fun _ h1 hl1 hyp => ?_)
  refine ls_retI hyp (fun r2 hyp => ?_)
  refine ls_pop f_224_5 rfl ?_
  refine ls_aload_n f_224_6 rfl ?_
  refine ls_getR f_224_7 p_224_72 hl1 S_92 F_92_29 ?_
  refine ls_iload_n f_224_10 rfl ?_
  refine ls_iald f_224_11 hl1 S_107 hyp (fun hyp => ?_)
  refine ls_aload_n f_224_12 rfl ?_
  refine ls_invV (a := 92) f_224_13 q_224_126 [] [.int (lm_i h1 107 x2.toNatClampNeg)] rfl (Nat.le_of_ble_eq_true rfl) hl1 S_92 ow_161 ?_
  refine ls_enter [some (.ref 92)] ml_161 (Nat.le_of_ble_eq_true rfl) rfl ?_
  refine ls_aload_n f_161_0 rfl ?_
  refine ls_getR f_161_1 p_161_25 hl1 S_92 F_92_3 ?_
  refine ls_bipush 82 f_161_4 (by decide) ?_
  refine ls_ialdC 82 f_161_6 hl1 S_94 ⟨by decide, by decide, by decide⟩ ?_
  refine ls_ireturn f_161_7 rI_161 ?_
  show lm_W _ _ _ _ [.int (lm_i h1 94 82), .int (lm_i h1 107 x2.toNatClampNeg)] _ _
  refine ls_icmp_ne 23 f_224_16 rfl hyp (fun _ hyp => ?_) (fun _ hyp => ?_)
  · refine ls_iconst (-1) f_224_19 (by decide) ?_
    refine ls_goto 29 f_224_20 rfl ?_
    exact ls_ireturn f_224_29 rI_224 hyp
  · refine ls_aload_n f_224_23 rfl ?_
    refine ls_getR f_224_24 p_224_72 hl1 S_92 F_92_29 ?_
    refine ls_iload_n f_224_27 rfl ?_
    refine ls_iald f_224_28 hl1 S_107 hyp (fun hyp => ?_)
    exact ls_ireturn f_224_29 rI_224 hyp
theorem e_225 {d : Nat} {h : lm_H} {K : Int32 → lm_H → Prop} (x1 : Int32) (hl : lm_Lay h) (hyp : (if x1 < 0 then (K (-1000000) h) else (if 1 < x1 then (K (-1000000) h) else (lm_call (d + 1) 223 [.ref 92] h (lm_kV fun h1 => (if x1 = 0 then (K (lm_i h1 92 30) h1) else (K (lm_i h1 92 31) h1))))))) : lm_call (d + 2) 225 [.ref 92, .int x1] h (lm_kI K) := by
  refine ls_enter [some (.ref 92), some (.int x1)] ml_225 (Nat.le_of_ble_eq_true rfl) rfl ?_
  refine ls_iload_n f_225_0 rfl ?_
  refine ls_iconst 0 f_225_1 (by decide) ?_
  refine ls_iconst 1 f_225_2 (by decide) ?_
  refine ls_invS f_225_3 q_225_115 [.int x1, .int 0, .int 1] [] rfl (Nat.le_of_ble_eq_true rfl) ?_
  refine ls_enter [some (.int x1), some (.int 0), some (.int 1)] ml_152 (Nat.le_of_ble_eq_true rfl) rfl ?_
  refine ls_iload_n f_152_0 rfl ?_
  refine ls_iload_n f_152_1 rfl ?_
  refine ls_icmp_lt 14 f_152_2 rfl hyp (fun _ hyp => ?_) (fun _ hyp => ?_)
  · refine ls_iconst 0 f_152_14 (by decide) ?_
    refine ls_zreturn f_152_15 rZ_152 (by decide) ?_
    show lm_W _ _ _ _ [.int 0] _ _
    refine ls_if_ne_T 12 f_225_6 rfl (by decide) ?_
    refine ls_ldc f_225_9 k_225_15 ?_
    exact ls_ireturn f_225_11 rI_225 hyp
  · refine ls_iload_n f_152_5 rfl ?_
    refine ls_iload_n f_152_6 rfl ?_
    refine ls_icmp_gt 14 f_152_7 rfl hyp (fun _ hyp => ?_) (fun _ hyp => ?_)
    · refine ls_iconst 0 f_152_14 (by decide) ?_
      refine ls_zreturn f_152_15 rZ_152 (by decide) ?_
      show lm_W _ _ _ _ [.int 0] _ _
      refine ls_if_ne_T 12 f_225_6 rfl (by decide) ?_
      refine ls_ldc f_225_9 k_225_15 ?_
      exact ls_ireturn f_225_11 rI_225 hyp
    · refine ls_iconst 1 f_152_10 (by decide) ?_
      refine ls_goto 15 f_152_11 rfl ?_
      refine ls_zreturn f_152_15 rZ_152 (by decide) ?_
      show lm_W _ _ _ _ [.int 1] _ _
      refine ls_if_ne_F 12 f_225_6 rfl (by decide) ?_
      refine ls_aload_n f_225_12 rfl ?_
      refine ls_invV (a := 92) f_225_13 q_225_335 [] [] rfl (Nat.le_of_ble_eq_true rfl) hl S_92 ow_223 ?_
      refine ls_call hyp hl (fun _ h1 hl1 hyp => ?_)
      refine ls_retV hyp (fun hyp => ?_)
      refine ls_iload_n f_225_16 rfl ?_
      refine ls_if_ne 27 f_225_17 rfl hyp (fun _ hyp => ?_) (fun _ hyp => ?_)
      · refine ls_aload_n f_225_20 rfl ?_
        refine ls_getI f_225_21 p_225_317 hl1 S_92 ?_
        refine ls_goto 31 f_225_24 rfl ?_
        exact ls_ireturn f_225_31 rI_225 hyp
      · refine ls_aload_n f_225_27 rfl ?_
        refine ls_getI f_225_28 p_225_302 hl1 S_92 ?_
        exact ls_ireturn f_225_31 rI_225 hyp
theorem e_226 {d : Nat} {h : lm_H} {K : Int32 → lm_H → Prop} (x1 : Int32) (hl : lm_Lay h) (hyp : (if x1 < 0 then (K (-1) h) else (if ((lm_i h 94 81) - 1) < x1 then (K (-1) h) else (lm_call (d + 2) 223 [.ref 92] h (lm_kV fun h1 => lm_call (d + 2) 224 [.ref 92, .int (lm_i h1 92 32), .int x1] h1 (lm_kI fun r3 h2 => K r3 h2)))))) : lm_call (d + 3) 226 [.ref 92, .int x1] h (lm_kI K) := by
  refine ls_enter [some (.ref 92), some (.int x1)] ml_226 (Nat.le_of_ble_eq_true rfl) rfl ?_
  refine ls_aload_n f_226_0 rfl ?_
  refine ls_iload_n f_226_1 rfl ?_
  refine ls_invV (a := 92) f_226_2 q_226_132 [.int x1] [] rfl (Nat.le_of_ble_eq_true rfl) hl S_92 ow_162 ?_
  refine ls_enter [some (.ref 92), some (.int x1)] ml_162 (Nat.le_of_ble_eq_true rfl) rfl ?_
  refine ls_iload_n f_162_0 rfl ?_
  refine ls_iconst 0 f_162_1 (by decide) ?_
  refine ls_aload_n f_162_2 rfl ?_
  refine ls_invV (a := 92) f_162_3 q_162_122 [] [.int 0, .int x1] rfl (Nat.le_of_ble_eq_true rfl) hl S_92 ow_160 ?_
  refine ls_enter [some (.ref 92)] ml_160 (Nat.le_of_ble_eq_true rfl) rfl ?_
  refine ls_aload_n f_160_0 rfl ?_
  refine ls_getR f_160_1 p_160_25 hl S_92 F_92_3 ?_
  refine ls_bipush 81 f_160_4 (by decide) ?_
  refine ls_ialdC 81 f_160_6 hl S_94 ⟨by decide, by decide, by decide⟩ ?_
  refine ls_ireturn f_160_7 rI_160 ?_
  show lm_W _ _ _ _ [.int (lm_i h 94 81), .int 0, .int x1] _ _
  refine ls_iconst 1 f_162_6 (by decide) ?_
  refine ls_isub ((lm_i h 94 81) - 1) f_162_7 rfl ?_
  refine ls_invS f_162_8 q_162_115 [.int x1, .int 0, .int ((lm_i h 94 81) - 1)] [] rfl (Nat.le_of_ble_eq_true rfl) ?_
  refine ls_enter [some (.int x1), some (.int 0), some (.int ((lm_i h 94 81) - 1))] ml_152 (Nat.le_of_ble_eq_true rfl) rfl ?_
  refine ls_iload_n f_152_0 rfl ?_
  refine ls_iload_n f_152_1 rfl ?_
  refine ls_icmp_lt 14 f_152_2 rfl hyp (fun _ hyp => ?_) (fun _ hyp => ?_)
  · refine ls_iconst 0 f_152_14 (by decide) ?_
    refine ls_zreturn f_152_15 rZ_152 (by decide) ?_
    show lm_W _ _ _ _ [.int 0] _ _
    refine ls_zreturn f_162_11 rZ_162 (by decide) ?_
    show lm_W _ _ _ _ [.int 0] _ _
    refine ls_if_ne_T 10 f_226_5 rfl (by decide) ?_
    refine ls_iconst (-1) f_226_8 (by decide) ?_
    exact ls_ireturn f_226_9 rI_226 hyp
  · refine ls_iload_n f_152_5 rfl ?_
    refine ls_iload_n f_152_6 rfl ?_
    refine ls_icmp_gt 14 f_152_7 rfl hyp (fun _ hyp => ?_) (fun _ hyp => ?_)
    · refine ls_iconst 0 f_152_14 (by decide) ?_
      refine ls_zreturn f_152_15 rZ_152 (by decide) ?_
      show lm_W _ _ _ _ [.int 0] _ _
      refine ls_zreturn f_162_11 rZ_162 (by decide) ?_
      show lm_W _ _ _ _ [.int 0] _ _
      refine ls_if_ne_T 10 f_226_5 rfl (by decide) ?_
      refine ls_iconst (-1) f_226_8 (by decide) ?_
      exact ls_ireturn f_226_9 rI_226 hyp
    · refine ls_iconst 1 f_152_10 (by decide) ?_
      refine ls_goto 15 f_152_11 rfl ?_
      refine ls_zreturn f_152_15 rZ_152 (by decide) ?_
      show lm_W _ _ _ _ [.int 1] _ _
      refine ls_zreturn f_162_11 rZ_162 (by decide) ?_
      show lm_W _ _ _ _ [.int 1] _ _
      refine ls_if_ne_F 10 f_226_5 rfl (by decide) ?_
      refine ls_aload_n f_226_10 rfl ?_
      refine ls_invV (a := 92) f_226_11 q_226_335 [] [] rfl (Nat.le_of_ble_eq_true rfl) hl S_92 ow_223 ?_
      refine ls_call hyp hl (fun _ h1 hl1 hyp => ?_)
      refine ls_retV hyp (fun hyp => ?_)
      refine ls_aload_n f_226_14 rfl ?_
      refine ls_aload_n f_226_15 rfl ?_
      refine ls_getI f_226_16 p_226_320 hl1 S_92 ?_
      refine ls_iload_n f_226_19 rfl ?_
      refine ls_invV (a := 92) f_226_20 q_226_338 [.int (lm_i h1 92 32), .int x1] [] rfl (Nat.le_of_ble_eq_true rfl) hl1 S_92 ow_224 ?_
      refine ls_call hyp hl1 (fun _ h2 hl2 hyp => ?_)
      refine ls_retI hyp (fun r3 hyp => ?_)
      exact ls_ireturn f_226_23 rI_226 hyp
theorem e_227 {d : Nat} {h : lm_H} {K : Int32 → lm_H → Prop} (x1 : Int32) (hl : lm_Lay h) (hyp : (if x1 < 0 then (K (-1000000) h) else (if 1 < x1 then (K (-1000000) h) else (if (lm_i h 94 81) = 0 then (K (-1000000) h) else (lm_call (d + 1) 223 [.ref 92] h (lm_kV fun h1 => (if x1 = 0 then (K (lm_i h1 92 33) h1) else (K (lm_i h1 92 34) h1)))))))) : lm_call (d + 2) 227 [.ref 92, .int x1] h (lm_kI K) := by
  refine ls_enter [some (.ref 92), some (.int x1)] ml_227 (Nat.le_of_ble_eq_true rfl) rfl ?_
  refine ls_iload_n f_227_0 rfl ?_
  refine ls_iconst 0 f_227_1 (by decide) ?_
  refine ls_iconst 1 f_227_2 (by decide) ?_
  refine ls_invS f_227_3 q_227_115 [.int x1, .int 0, .int 1] [] rfl (Nat.le_of_ble_eq_true rfl) ?_
  refine ls_enter [some (.int x1), some (.int 0), some (.int 1)] ml_152 (Nat.le_of_ble_eq_true rfl) rfl ?_
  refine ls_iload_n f_152_0 rfl ?_
  refine ls_iload_n f_152_1 rfl ?_
  refine ls_icmp_lt 14 f_152_2 rfl hyp (fun _ hyp => ?_) (fun _ hyp => ?_)
  · refine ls_iconst 0 f_152_14 (by decide) ?_
    refine ls_zreturn f_152_15 rZ_152 (by decide) ?_
    show lm_W _ _ _ _ [.int 0] _ _
    refine ls_if_eq_T 16 f_227_6 rfl (by decide) ?_
    refine ls_ldc f_227_16 k_227_15 ?_
    exact ls_ireturn f_227_18 rI_227 hyp
  · refine ls_iload_n f_152_5 rfl ?_
    refine ls_iload_n f_152_6 rfl ?_
    refine ls_icmp_gt 14 f_152_7 rfl hyp (fun _ hyp => ?_) (fun _ hyp => ?_)
    · refine ls_iconst 0 f_152_14 (by decide) ?_
      refine ls_zreturn f_152_15 rZ_152 (by decide) ?_
      show lm_W _ _ _ _ [.int 0] _ _
      refine ls_if_eq_T 16 f_227_6 rfl (by decide) ?_
      refine ls_ldc f_227_16 k_227_15 ?_
      exact ls_ireturn f_227_18 rI_227 hyp
    · refine ls_iconst 1 f_152_10 (by decide) ?_
      refine ls_goto 15 f_152_11 rfl ?_
      refine ls_zreturn f_152_15 rZ_152 (by decide) ?_
      show lm_W _ _ _ _ [.int 1] _ _
      refine ls_if_eq_F 16 f_227_6 rfl (by decide) ?_
      refine ls_aload_n f_227_9 rfl ?_
      refine ls_invV (a := 92) f_227_10 q_227_122 [] [] rfl (Nat.le_of_ble_eq_true rfl) hl S_92 ow_160 ?_
      refine ls_enter [some (.ref 92)] ml_160 (Nat.le_of_ble_eq_true rfl) rfl ?_
      refine ls_aload_n f_160_0 rfl ?_
      refine ls_getR f_160_1 p_160_25 hl S_92 F_92_3 ?_
      refine ls_bipush 81 f_160_4 (by decide) ?_
      refine ls_ialdC 81 f_160_6 hl S_94 ⟨by decide, by decide, by decide⟩ ?_
      refine ls_ireturn f_160_7 rI_160 ?_
      show lm_W _ _ _ _ [.int (lm_i h 94 81)] _ _
      refine ls_if_ne 19 f_227_13 rfl hyp (fun _ hyp => ?_) (fun _ hyp => ?_)
      · refine ls_ldc f_227_16 k_227_15 ?_
        exact ls_ireturn f_227_18 rI_227 hyp
      · refine ls_aload_n f_227_19 rfl ?_
        refine ls_invV (a := 92) f_227_20 q_227_335 [] [] rfl (Nat.le_of_ble_eq_true rfl) hl S_92 ow_223 ?_
        refine ls_call hyp hl (fun _ h1 hl1 hyp => ?_)
        refine ls_retV hyp (fun hyp => ?_)
        refine ls_iload_n f_227_23 rfl ?_
        refine ls_if_ne 34 f_227_24 rfl hyp (fun _ hyp => ?_) (fun _ hyp => ?_)
        · refine ls_aload_n f_227_27 rfl ?_
          refine ls_getI f_227_28 p_227_323 hl1 S_92 ?_
          refine ls_goto 38 f_227_31 rfl ?_
          exact ls_ireturn f_227_38 rI_227 hyp
        · refine ls_aload_n f_227_34 rfl ?_
          refine ls_getI f_227_35 p_227_305 hl1 S_92 ?_
          exact ls_ireturn f_227_38 rI_227 hyp
theorem e_228 {d : Nat} {h : lm_H} {K : Int32 → lm_H → Prop} (hl : lm_Lay h) (hyp : lm_call (d) 223 [.ref 92] h (lm_kV fun h1 => K (lm_i h1 92 35) h1)) : lm_call (d + 1) 228 [.ref 92] h (lm_kI K) := by
  refine ls_enter [some (.ref 92)] ml_228 (Nat.le_of_ble_eq_true rfl) rfl ?_
  refine ls_aload_n f_228_0 rfl ?_
  refine ls_invV (a := 92) f_228_1 q_228_335 [] [] rfl (Nat.le_of_ble_eq_true rfl) hl S_92 ow_223 ?_
  refine ls_call hyp hl (fun _ h1 hl1 hyp => ?_)
  refine ls_retV hyp (fun hyp => ?_)
  refine ls_aload_n f_228_4 rfl ?_
  refine ls_getI f_228_5 p_228_308 hl1 S_92 ?_
  exact ls_ireturn f_228_8 rI_228 hyp
theorem e_229 {d : Nat} {h : lm_H} {K : Int32 → lm_H → Prop} (x1 : Int32) (x2 : Int32) (hl : lm_Lay h) (hyp : (if x2 < 0 then (K (-1) h) else (if ((lm_i h 94 81) - 1) < x2 then (K (-1) h) else (lm_call (d + 2) 223 [.ref 92] h (lm_kV fun h1 => (if x1 < 0 then (K (-1) h1) else (if ((lm_i h1 92 35) - 1) < x1 then (K (-1) h1) else (lm_in x1 16807 False (lm_call (d + 2) 224 [.ref 92, .int (lm_i h1 108 x1.toNatClampNeg), .int x2] h1 (lm_kI fun r3 h2 => K r3 h2)))))))))) : lm_call (d + 3) 229 [.ref 92, .int x1, .int x2] h (lm_kI K) := by
  refine ls_enter [some (.ref 92), some (.int x1), some (.int x2)] ml_229 (Nat.le_of_ble_eq_true rfl) rfl ?_
  refine ls_aload_n f_229_0 rfl ?_
  refine ls_iload_n f_229_1 rfl ?_
  refine ls_invV (a := 92) f_229_2 q_229_132 [.int x2] [] rfl (Nat.le_of_ble_eq_true rfl) hl S_92 ow_162 ?_
  refine ls_enter [some (.ref 92), some (.int x2)] ml_162 (Nat.le_of_ble_eq_true rfl) rfl ?_
  refine ls_iload_n f_162_0 rfl ?_
  refine ls_iconst 0 f_162_1 (by decide) ?_
  refine ls_aload_n f_162_2 rfl ?_
  refine ls_invV (a := 92) f_162_3 q_162_122 [] [.int 0, .int x2] rfl (Nat.le_of_ble_eq_true rfl) hl S_92 ow_160 ?_
  refine ls_enter [some (.ref 92)] ml_160 (Nat.le_of_ble_eq_true rfl) rfl ?_
  refine ls_aload_n f_160_0 rfl ?_
  refine ls_getR f_160_1 p_160_25 hl S_92 F_92_3 ?_
  refine ls_bipush 81 f_160_4 (by decide) ?_
  refine ls_ialdC 81 f_160_6 hl S_94 ⟨by decide, by decide, by decide⟩ ?_
  refine ls_ireturn f_160_7 rI_160 ?_
  show lm_W _ _ _ _ [.int (lm_i h 94 81), .int 0, .int x2] _ _
  refine ls_iconst 1 f_162_6 (by decide) ?_
  refine ls_isub ((lm_i h 94 81) - 1) f_162_7 rfl ?_
  refine ls_invS f_162_8 q_162_115 [.int x2, .int 0, .int ((lm_i h 94 81) - 1)] [] rfl (Nat.le_of_ble_eq_true rfl) ?_
  refine ls_enter [some (.int x2), some (.int 0), some (.int ((lm_i h 94 81) - 1))] ml_152 (Nat.le_of_ble_eq_true rfl) rfl ?_
  refine ls_iload_n f_152_0 rfl ?_
  refine ls_iload_n f_152_1 rfl ?_
  refine ls_icmp_lt 14 f_152_2 rfl hyp (fun _ hyp => ?_) (fun _ hyp => ?_)
  · refine ls_iconst 0 f_152_14 (by decide) ?_
    refine ls_zreturn f_152_15 rZ_152 (by decide) ?_
    show lm_W _ _ _ _ [.int 0] _ _
    refine ls_zreturn f_162_11 rZ_162 (by decide) ?_
    show lm_W _ _ _ _ [.int 0] _ _
    refine ls_if_ne_T 10 f_229_5 rfl (by decide) ?_
    refine ls_iconst (-1) f_229_8 (by decide) ?_
    exact ls_ireturn f_229_9 rI_229 hyp
  · refine ls_iload_n f_152_5 rfl ?_
    refine ls_iload_n f_152_6 rfl ?_
    refine ls_icmp_gt 14 f_152_7 rfl hyp (fun _ hyp => ?_) (fun _ hyp => ?_)
    · refine ls_iconst 0 f_152_14 (by decide) ?_
      refine ls_zreturn f_152_15 rZ_152 (by decide) ?_
      show lm_W _ _ _ _ [.int 0] _ _
      refine ls_zreturn f_162_11 rZ_162 (by decide) ?_
      show lm_W _ _ _ _ [.int 0] _ _
      refine ls_if_ne_T 10 f_229_5 rfl (by decide) ?_
      refine ls_iconst (-1) f_229_8 (by decide) ?_
      exact ls_ireturn f_229_9 rI_229 hyp
    · refine ls_iconst 1 f_152_10 (by decide) ?_
      refine ls_goto 15 f_152_11 rfl ?_
      refine ls_zreturn f_152_15 rZ_152 (by decide) ?_
      show lm_W _ _ _ _ [.int 1] _ _
      refine ls_zreturn f_162_11 rZ_162 (by decide) ?_
      show lm_W _ _ _ _ [.int 1] _ _
      refine ls_if_ne_F 10 f_229_5 rfl (by decide) ?_
      refine ls_aload_n f_229_10 rfl ?_
      refine ls_invV (a := 92) f_229_11 q_229_335 [] [] rfl (Nat.le_of_ble_eq_true rfl) hl S_92 ow_223 ?_
      refine ls_call hyp hl (fun _ h1 hl1 hyp => ?_)
      refine ls_retV hyp (fun hyp => ?_)
      refine ls_iload_n f_229_14 rfl ?_
      refine ls_iconst 0 f_229_15 (by decide) ?_
      refine ls_aload_n f_229_16 rfl ?_
      refine ls_getI f_229_17 p_229_308 hl1 S_92 ?_
      refine ls_iconst 1 f_229_20 (by decide) ?_
      refine ls_isub ((lm_i h1 92 35) - 1) f_229_21 rfl ?_
      refine ls_invS f_229_22 q_229_115 [.int x1, .int 0, .int ((lm_i h1 92 35) - 1)] [] rfl (Nat.le_of_ble_eq_true rfl) ?_
      refine ls_enter [some (.int x1), some (.int 0), some (.int ((lm_i h1 92 35) - 1))] ml_152 (Nat.le_of_ble_eq_true rfl) rfl ?_
      refine ls_iload_n f_152_0 rfl ?_
      refine ls_iload_n f_152_1 rfl ?_
      refine ls_icmp_lt 14 f_152_2 rfl hyp (fun _ hyp => ?_) (fun _ hyp => ?_)
      · refine ls_iconst 0 f_152_14 (by decide) ?_
        refine ls_zreturn f_152_15 rZ_152 (by decide) ?_
        show lm_W _ _ _ _ [.int 0] _ _
        refine ls_if_eq_T 42 f_229_25 rfl (by decide) ?_
        refine ls_iconst (-1) f_229_42 (by decide) ?_
        exact ls_ireturn f_229_43 rI_229 hyp
      · refine ls_iload_n f_152_5 rfl ?_
        refine ls_iload_n f_152_6 rfl ?_
        refine ls_icmp_gt 14 f_152_7 rfl hyp (fun _ hyp => ?_) (fun _ hyp => ?_)
        · refine ls_iconst 0 f_152_14 (by decide) ?_
          refine ls_zreturn f_152_15 rZ_152 (by decide) ?_
          show lm_W _ _ _ _ [.int 0] _ _
          refine ls_if_eq_T 42 f_229_25 rfl (by decide) ?_
          refine ls_iconst (-1) f_229_42 (by decide) ?_
          exact ls_ireturn f_229_43 rI_229 hyp
        · refine ls_iconst 1 f_152_10 (by decide) ?_
          refine ls_goto 15 f_152_11 rfl ?_
          refine ls_zreturn f_152_15 rZ_152 (by decide) ?_
          show lm_W _ _ _ _ [.int 1] _ _
          refine ls_if_eq_F 42 f_229_25 rfl (by decide) ?_
          refine ls_aload_n f_229_28 rfl ?_
          refine ls_aload_n f_229_29 rfl ?_
          refine ls_getR f_229_30 p_229_75 hl1 S_92 F_92_38 ?_
          refine ls_iload_n f_229_33 rfl ?_
          refine ls_iald f_229_34 hl1 S_108 hyp (fun hyp => ?_)
          refine ls_iload_n f_229_35 rfl ?_
          refine ls_invV (a := 92) f_229_36 q_229_338 [.int (lm_i h1 108 x1.toNatClampNeg), .int x2] [] rfl (Nat.le_of_ble_eq_true rfl) hl1 S_92 ow_224 ?_
          refine ls_call hyp hl1 (fun _ h2 hl2 hyp => ?_)
          refine ls_retI hyp (fun r3 hyp => ?_)
          refine ls_goto 43 f_229_39 rfl ?_
          exact ls_ireturn f_229_43 rI_229 hyp
theorem e_230 {d : Nat} {h : lm_H} {K : Int32 → lm_H → Prop} (x1 : Int32) (hl : lm_Lay h) (hyp : (if x1 < 0 then (K (-1000000) h) else (if 1 < x1 then (K (-1000000) h) else (lm_call (d + 1) 223 [.ref 92] h (lm_kV fun h1 => (if (lm_i h1 92 35) = 0 then (K (-1000000) h1) else (if x1 = 0 then (K (lm_i h1 92 36) h1) else (K (lm_i h1 92 37) h1)))))))) : lm_call (d + 2) 230 [.ref 92, .int x1] h (lm_kI K) := by
  refine ls_enter [some (.ref 92), some (.int x1)] ml_230 (Nat.le_of_ble_eq_true rfl) rfl ?_
  refine ls_iload_n f_230_0 rfl ?_
  refine ls_iconst 0 f_230_1 (by decide) ?_
  refine ls_iconst 1 f_230_2 (by decide) ?_
  refine ls_invS f_230_3 q_230_115 [.int x1, .int 0, .int 1] [] rfl (Nat.le_of_ble_eq_true rfl) ?_
  refine ls_enter [some (.int x1), some (.int 0), some (.int 1)] ml_152 (Nat.le_of_ble_eq_true rfl) rfl ?_
  refine ls_iload_n f_152_0 rfl ?_
  refine ls_iload_n f_152_1 rfl ?_
  refine ls_icmp_lt 14 f_152_2 rfl hyp (fun _ hyp => ?_) (fun _ hyp => ?_)
  · refine ls_iconst 0 f_152_14 (by decide) ?_
    refine ls_zreturn f_152_15 rZ_152 (by decide) ?_
    show lm_W _ _ _ _ [.int 0] _ _
    refine ls_if_ne_T 12 f_230_6 rfl (by decide) ?_
    refine ls_ldc f_230_9 k_230_15 ?_
    exact ls_ireturn f_230_11 rI_230 hyp
  · refine ls_iload_n f_152_5 rfl ?_
    refine ls_iload_n f_152_6 rfl ?_
    refine ls_icmp_gt 14 f_152_7 rfl hyp (fun _ hyp => ?_) (fun _ hyp => ?_)
    · refine ls_iconst 0 f_152_14 (by decide) ?_
      refine ls_zreturn f_152_15 rZ_152 (by decide) ?_
      show lm_W _ _ _ _ [.int 0] _ _
      refine ls_if_ne_T 12 f_230_6 rfl (by decide) ?_
      refine ls_ldc f_230_9 k_230_15 ?_
      exact ls_ireturn f_230_11 rI_230 hyp
    · refine ls_iconst 1 f_152_10 (by decide) ?_
      refine ls_goto 15 f_152_11 rfl ?_
      refine ls_zreturn f_152_15 rZ_152 (by decide) ?_
      show lm_W _ _ _ _ [.int 1] _ _
      refine ls_if_ne_F 12 f_230_6 rfl (by decide) ?_
      refine ls_aload_n f_230_12 rfl ?_
      refine ls_invV (a := 92) f_230_13 q_230_335 [] [] rfl (Nat.le_of_ble_eq_true rfl) hl S_92 ow_223 ?_
      refine ls_call hyp hl (fun _ h1 hl1 hyp => ?_)
      refine ls_retV hyp (fun hyp => ?_)
      refine ls_aload_n f_230_16 rfl ?_
      refine ls_getI f_230_17 p_230_308 hl1 S_92 ?_
      refine ls_if_ne 28 f_230_20 rfl hyp (fun _ hyp => ?_) (fun _ hyp => ?_)
      · refine ls_ldc f_230_23 k_230_15 ?_
        refine ls_goto 43 f_230_25 rfl ?_
        exact ls_ireturn f_230_43 rI_230 hyp
      · refine ls_iload_n f_230_28 rfl ?_
        refine ls_if_ne 39 f_230_29 rfl hyp (fun _ hyp => ?_) (fun _ hyp => ?_)
        · refine ls_aload_n f_230_32 rfl ?_
          refine ls_getI f_230_33 p_230_329 hl1 S_92 ?_
          refine ls_goto 43 f_230_36 rfl ?_
          exact ls_ireturn f_230_43 rI_230 hyp
        · refine ls_aload_n f_230_39 rfl ?_
          refine ls_getI f_230_40 p_230_332 hl1 S_92 ?_
          exact ls_ireturn f_230_43 rI_230 hyp
theorem e_231 {d : Nat} {h : lm_H} {K : Int32 → lm_H → Prop} (x1 : Int32) (hl : lm_Lay h) (hyp : lm_in x1 5 False (lm_W (d + 1) 231 16 [some (.ref 92), some (.int x1), some (.int (lm_i h 107 x1.toNatClampNeg)), some (.int (-1000000)), some (.int 0), some (.int 0), none] [] h (lm_kI K))) : lm_call (d + 2) 231 [.ref 92, .int x1] h (lm_kI K) := by
  refine ls_enter [some (.ref 92), some (.int x1), none, none, none, none, none] ml_231 (Nat.le_of_ble_eq_true rfl) rfl ?_
  refine ls_aload_n f_231_0 rfl ?_
  refine ls_getR f_231_1 p_231_72 hl S_92 F_92_29 ?_
  refine ls_iload_n f_231_4 rfl ?_
  refine ls_iald f_231_5 hl S_107 hyp (fun hyp => ?_)
  refine ls_istore_n [some (.ref 92), some (.int x1), some (.int (lm_i h 107 x1.toNatClampNeg)), none, none, none, none] f_231_6 (Nat.le_of_ble_eq_true rfl) rfl ?_
  refine ls_ldc f_231_7 k_231_15 ?_
  refine ls_istore_n [some (.ref 92), some (.int x1), some (.int (lm_i h 107 x1.toNatClampNeg)), some (.int (-1000000)), none, none, none] f_231_9 (Nat.le_of_ble_eq_true rfl) rfl ?_
  refine ls_iconst 0 f_231_10 (by decide) ?_
  refine ls_istore [some (.ref 92), some (.int x1), some (.int (lm_i h 107 x1.toNatClampNeg)), some (.int (-1000000)), some (.int 0), none, none] f_231_11 (Nat.le_of_ble_eq_true rfl) rfl ?_
  refine ls_iconst 0 f_231_13 (by decide) ?_
  refine ls_istore [some (.ref 92), some (.int x1), some (.int (lm_i h 107 x1.toNatClampNeg)), some (.int (-1000000)), some (.int 0), some (.int 0), none] f_231_14 (Nat.le_of_ble_eq_true rfl) rfl ?_
  exact hyp
theorem b_231_16 {d : Nat} {h : lm_H} {K : Int32 → lm_H → Prop} (x1 : Int32) (x2 : Int32) (x3 : Int32) (x4 : Int32) (x5 : Int32) (hl : lm_Lay h) (hyp : (if (lm_i h 94 82) < x5 then (lm_in x1 5 False (K x4 (lm_si h 107 x1.toNatClampNeg x2))) else (lm_call (d + 1) 210 [.ref 92, .int x1, .int x5] h (lm_kI fun r2 h1 => (if r2 = 0 then (lm_W (d + 1) 231 16 [some (.ref 92), some (.int x1), some (.int x2), some (.int x3), some (.int x4), some (.int (x5 + 1)), none] [] h1 (lm_kI K)) else (lm_in x1 5 False (lm_call (d + 1) 214 [.ref 92, .int x1] (lm_si h1 107 x1.toNatClampNeg x5) (lm_kI fun r4 h3 => (if x3 < r4 then (if x3 < r4 then (if r4 = r4 then (lm_W (d + 1) 231 16 [some (.ref 92), some (.int x1), some (.int x2), some (.int r4), some (.int ((0 : Int32) ||| ((1 : Int32) <<< (x5 &&& 31)))), some (.int (x5 + 1)), none] [] h3 (lm_kI K)) else (lm_W (d + 1) 231 16 [some (.ref 92), some (.int x1), some (.int x2), some (.int r4), some (.int 0), some (.int (x5 + 1)), none] [] h3 (lm_kI K))) else (if r4 = x3 then (lm_W (d + 1) 231 16 [some (.ref 92), some (.int x1), some (.int x2), some (.int x3), some (.int ((0 : Int32) ||| ((1 : Int32) <<< (x5 &&& 31)))), some (.int (x5 + 1)), none] [] h3 (lm_kI K)) else (lm_W (d + 1) 231 16 [some (.ref 92), some (.int x1), some (.int x2), some (.int x3), some (.int 0), some (.int (x5 + 1)), none] [] h3 (lm_kI K)))) else (if x3 < r4 then (if r4 = r4 then (lm_W (d + 1) 231 16 [some (.ref 92), some (.int x1), some (.int x2), some (.int r4), some (.int (x4 ||| ((1 : Int32) <<< (x5 &&& 31)))), some (.int (x5 + 1)), none] [] h3 (lm_kI K)) else (lm_W (d + 1) 231 16 [some (.ref 92), some (.int x1), some (.int x2), some (.int r4), some (.int (x4 ||| 0)), some (.int (x5 + 1)), none] [] h3 (lm_kI K))) else (if r4 = x3 then (lm_W (d + 1) 231 16 [some (.ref 92), some (.int x1), some (.int x2), some (.int x3), some (.int (x4 ||| ((1 : Int32) <<< (x5 &&& 31)))), some (.int (x5 + 1)), none] [] h3 (lm_kI K)) else (lm_W (d + 1) 231 16 [some (.ref 92), some (.int x1), some (.int x2), some (.int x3), some (.int (x4 ||| 0)), some (.int (x5 + 1)), none] [] h3 (lm_kI K))))))))))))) : lm_W (d + 1) 231 16 [some (.ref 92), some (.int x1), some (.int x2), some (.int x3), some (.int x4), some (.int x5), none] [] h (lm_kI K) := by
  refine ls_iload f_231_16 rfl ?_
  refine ls_aload_n f_231_18 rfl ?_
  refine ls_invV (a := 92) f_231_19 q_231_126 [] [.int x5] rfl (Nat.le_of_ble_eq_true rfl) hl S_92 ow_161 ?_
  refine ls_enter [some (.ref 92)] ml_161 (Nat.le_of_ble_eq_true rfl) rfl ?_
  refine ls_aload_n f_161_0 rfl ?_
  refine ls_getR f_161_1 p_161_25 hl S_92 F_92_3 ?_
  refine ls_bipush 82 f_161_4 (by decide) ?_
  refine ls_ialdC 82 f_161_6 hl S_94 ⟨by decide, by decide, by decide⟩ ?_
  refine ls_ireturn f_161_7 rI_161 ?_
  show lm_W _ _ _ _ [.int (lm_i h 94 82), .int x5] _ _
  refine ls_icmp_gt 100 f_231_22 rfl hyp (fun _ hyp => ?_) (fun _ hyp => ?_)
  · refine ls_aload_n f_231_100 rfl ?_
    refine ls_getR f_231_101 p_231_72 hl S_92 F_92_29 ?_
    refine ls_iload_n f_231_104 rfl ?_
    refine ls_iload_n f_231_105 rfl ?_
    refine ls_iast f_231_106 hl S_107 hyp (fun hyp => ?_)
    refine ls_iload f_231_107 rfl ?_
    exact ls_ireturn f_231_109 rI_231 hyp
  · refine ls_aload_n f_231_25 rfl ?_
    refine ls_iload_n f_231_26 rfl ?_
    refine ls_iload f_231_27 rfl ?_
    refine ls_invV (a := 92) f_231_29 q_231_283 [.int x1, .int x5] [] rfl (Nat.le_of_ble_eq_true rfl) hl S_92 ow_210 ?_
    refine ls_call hyp hl (fun _ h1 hl1 hyp => ?_)
    refine ls_retI hyp (fun r2 hyp => ?_)
    refine ls_if_ne 38 f_231_32 rfl hyp (fun _ hyp => ?_) (fun _ hyp => ?_)
    · refine ls_goto 94 f_231_35 rfl ?_
      refine ls_iinc (x5 + 1) [some (.ref 92), some (.int x1), some (.int x2), some (.int x3), some (.int x4), some (.int (x5 + 1)), none] f_231_94 rfl (Nat.le_of_ble_eq_true rfl) rfl rfl ?_
      refine ls_goto 16 f_231_97 rfl ?_
      exact hyp
    · refine ls_aload_n f_231_38 rfl ?_
      refine ls_getR f_231_39 p_231_72 hl1 S_92 F_92_29 ?_
      refine ls_iload_n f_231_42 rfl ?_
      refine ls_iload f_231_43 rfl ?_
      refine ls_iast f_231_45 hl1 S_107 hyp (fun hyp => ?_)
      refine ls_aload_n f_231_46 rfl ?_
      refine ls_iload_n f_231_47 rfl ?_
      refine ls_invV (a := 92) f_231_48 q_231_293 [.int x1] [] rfl (Nat.le_of_ble_eq_true rfl) (lm_Lay_si hl1 _ _ _) S_92 ow_214 ?_
      refine ls_call hyp (lm_Lay_si hl1 _ _ _) (fun _ h3 hl3 hyp => ?_)
      refine ls_retI hyp (fun r4 hyp => ?_)
      refine ls_istore [some (.ref 92), some (.int x1), some (.int x2), some (.int x3), some (.int x4), some (.int x5), some (.int r4)] f_231_51 (Nat.le_of_ble_eq_true rfl) rfl ?_
      refine ls_iload f_231_53 rfl ?_
      refine ls_iload_n f_231_55 rfl ?_
      refine ls_icmp_le 62 f_231_56 rfl hyp (fun _ hyp => ?_) (fun _ hyp => ?_)
      · refine ls_iconst 0 f_231_59 (by decide) ?_
        refine ls_istore [some (.ref 92), some (.int x1), some (.int x2), some (.int x3), some (.int 0), some (.int x5), some (.int r4)] f_231_60 (Nat.le_of_ble_eq_true rfl) rfl ?_
        refine ls_iload f_231_62 rfl ?_
        refine ls_iload_n f_231_64 rfl ?_
        refine ls_icmp_le 73 f_231_65 rfl hyp (fun _ hyp => ?_) (fun _ hyp => ?_)
        · refine ls_iload f_231_68 rfl ?_
          refine ls_goto 74 f_231_70 rfl ?_
          refine ls_istore_n [some (.ref 92), some (.int x1), some (.int x2), some (.int r4), some (.int 0), some (.int x5), some (.int r4)] f_231_74 (Nat.le_of_ble_eq_true rfl) rfl ?_
          refine ls_iload f_231_75 rfl ?_
          refine ls_iload f_231_77 rfl ?_
          refine ls_iload_n f_231_79 rfl ?_
          refine ls_icmp_ne 90 f_231_80 rfl hyp (fun _ hyp => ?_) (fun _ hyp => ?_)
          · refine ls_iconst 1 f_231_83 (by decide) ?_
            refine ls_iload f_231_84 rfl ?_
            refine ls_ishl ((1 : Int32) <<< (x5 &&& 31)) f_231_86 rfl ?_
            refine ls_goto 91 f_231_87 rfl ?_
            refine ls_ior ((0 : Int32) ||| ((1 : Int32) <<< (x5 &&& 31))) f_231_91 rfl ?_
            refine ls_istore [some (.ref 92), some (.int x1), some (.int x2), some (.int r4), some (.int ((0 : Int32) ||| ((1 : Int32) <<< (x5 &&& 31)))), some (.int x5), some (.int r4)] f_231_92 (Nat.le_of_ble_eq_true rfl) rfl ?_
            refine ls_iinc (x5 + 1) [some (.ref 92), some (.int x1), some (.int x2), some (.int r4), some (.int ((0 : Int32) ||| ((1 : Int32) <<< (x5 &&& 31)))), some (.int (x5 + 1)), some (.int r4)] f_231_94 rfl (Nat.le_of_ble_eq_true rfl) rfl rfl ?_
            refine ls_goto 16 f_231_97 rfl ?_
            exact ls_mask [true, true, true, true, true, true, false] [some (.ref 92), some (.int x1), some (.int x2), some (.int r4), some (.int ((0 : Int32) ||| ((1 : Int32) <<< (x5 &&& 31)))), some (.int (x5 + 1)), none] rfl hyp
          · refine ls_iconst 0 f_231_90 (by decide) ?_
            refine ls_ior 0 f_231_91 (by decide) ?_
            refine ls_istore [some (.ref 92), some (.int x1), some (.int x2), some (.int r4), some (.int 0), some (.int x5), some (.int r4)] f_231_92 (Nat.le_of_ble_eq_true rfl) rfl ?_
            refine ls_iinc (x5 + 1) [some (.ref 92), some (.int x1), some (.int x2), some (.int r4), some (.int 0), some (.int (x5 + 1)), some (.int r4)] f_231_94 rfl (Nat.le_of_ble_eq_true rfl) rfl rfl ?_
            refine ls_goto 16 f_231_97 rfl ?_
            exact ls_mask [true, true, true, true, true, true, false] [some (.ref 92), some (.int x1), some (.int x2), some (.int r4), some (.int 0), some (.int (x5 + 1)), none] rfl hyp
        · refine ls_iload_n f_231_73 rfl ?_
          refine ls_istore_n [some (.ref 92), some (.int x1), some (.int x2), some (.int x3), some (.int 0), some (.int x5), some (.int r4)] f_231_74 (Nat.le_of_ble_eq_true rfl) rfl ?_
          refine ls_iload f_231_75 rfl ?_
          refine ls_iload f_231_77 rfl ?_
          refine ls_iload_n f_231_79 rfl ?_
          refine ls_icmp_ne 90 f_231_80 rfl hyp (fun _ hyp => ?_) (fun _ hyp => ?_)
          · refine ls_iconst 1 f_231_83 (by decide) ?_
            refine ls_iload f_231_84 rfl ?_
            refine ls_ishl ((1 : Int32) <<< (x5 &&& 31)) f_231_86 rfl ?_
            refine ls_goto 91 f_231_87 rfl ?_
            refine ls_ior ((0 : Int32) ||| ((1 : Int32) <<< (x5 &&& 31))) f_231_91 rfl ?_
            refine ls_istore [some (.ref 92), some (.int x1), some (.int x2), some (.int x3), some (.int ((0 : Int32) ||| ((1 : Int32) <<< (x5 &&& 31)))), some (.int x5), some (.int r4)] f_231_92 (Nat.le_of_ble_eq_true rfl) rfl ?_
            refine ls_iinc (x5 + 1) [some (.ref 92), some (.int x1), some (.int x2), some (.int x3), some (.int ((0 : Int32) ||| ((1 : Int32) <<< (x5 &&& 31)))), some (.int (x5 + 1)), some (.int r4)] f_231_94 rfl (Nat.le_of_ble_eq_true rfl) rfl rfl ?_
            refine ls_goto 16 f_231_97 rfl ?_
            exact ls_mask [true, true, true, true, true, true, false] [some (.ref 92), some (.int x1), some (.int x2), some (.int x3), some (.int ((0 : Int32) ||| ((1 : Int32) <<< (x5 &&& 31)))), some (.int (x5 + 1)), none] rfl hyp
          · refine ls_iconst 0 f_231_90 (by decide) ?_
            refine ls_ior 0 f_231_91 (by decide) ?_
            refine ls_istore [some (.ref 92), some (.int x1), some (.int x2), some (.int x3), some (.int 0), some (.int x5), some (.int r4)] f_231_92 (Nat.le_of_ble_eq_true rfl) rfl ?_
            refine ls_iinc (x5 + 1) [some (.ref 92), some (.int x1), some (.int x2), some (.int x3), some (.int 0), some (.int (x5 + 1)), some (.int r4)] f_231_94 rfl (Nat.le_of_ble_eq_true rfl) rfl rfl ?_
            refine ls_goto 16 f_231_97 rfl ?_
            exact ls_mask [true, true, true, true, true, true, false] [some (.ref 92), some (.int x1), some (.int x2), some (.int x3), some (.int 0), some (.int (x5 + 1)), none] rfl hyp
      · refine ls_iload f_231_62 rfl ?_
        refine ls_iload_n f_231_64 rfl ?_
        refine ls_icmp_le 73 f_231_65 rfl hyp (fun _ hyp => ?_) (fun _ hyp => ?_)
        · refine ls_iload f_231_68 rfl ?_
          refine ls_goto 74 f_231_70 rfl ?_
          refine ls_istore_n [some (.ref 92), some (.int x1), some (.int x2), some (.int r4), some (.int x4), some (.int x5), some (.int r4)] f_231_74 (Nat.le_of_ble_eq_true rfl) rfl ?_
          refine ls_iload f_231_75 rfl ?_
          refine ls_iload f_231_77 rfl ?_
          refine ls_iload_n f_231_79 rfl ?_
          refine ls_icmp_ne 90 f_231_80 rfl hyp (fun _ hyp => ?_) (fun _ hyp => ?_)
          · refine ls_iconst 1 f_231_83 (by decide) ?_
            refine ls_iload f_231_84 rfl ?_
            refine ls_ishl ((1 : Int32) <<< (x5 &&& 31)) f_231_86 rfl ?_
            refine ls_goto 91 f_231_87 rfl ?_
            refine ls_ior (x4 ||| ((1 : Int32) <<< (x5 &&& 31))) f_231_91 rfl ?_
            refine ls_istore [some (.ref 92), some (.int x1), some (.int x2), some (.int r4), some (.int (x4 ||| ((1 : Int32) <<< (x5 &&& 31)))), some (.int x5), some (.int r4)] f_231_92 (Nat.le_of_ble_eq_true rfl) rfl ?_
            refine ls_iinc (x5 + 1) [some (.ref 92), some (.int x1), some (.int x2), some (.int r4), some (.int (x4 ||| ((1 : Int32) <<< (x5 &&& 31)))), some (.int (x5 + 1)), some (.int r4)] f_231_94 rfl (Nat.le_of_ble_eq_true rfl) rfl rfl ?_
            refine ls_goto 16 f_231_97 rfl ?_
            exact ls_mask [true, true, true, true, true, true, false] [some (.ref 92), some (.int x1), some (.int x2), some (.int r4), some (.int (x4 ||| ((1 : Int32) <<< (x5 &&& 31)))), some (.int (x5 + 1)), none] rfl hyp
          · refine ls_iconst 0 f_231_90 (by decide) ?_
            refine ls_ior (x4 ||| 0) f_231_91 rfl ?_
            refine ls_istore [some (.ref 92), some (.int x1), some (.int x2), some (.int r4), some (.int (x4 ||| 0)), some (.int x5), some (.int r4)] f_231_92 (Nat.le_of_ble_eq_true rfl) rfl ?_
            refine ls_iinc (x5 + 1) [some (.ref 92), some (.int x1), some (.int x2), some (.int r4), some (.int (x4 ||| 0)), some (.int (x5 + 1)), some (.int r4)] f_231_94 rfl (Nat.le_of_ble_eq_true rfl) rfl rfl ?_
            refine ls_goto 16 f_231_97 rfl ?_
            exact ls_mask [true, true, true, true, true, true, false] [some (.ref 92), some (.int x1), some (.int x2), some (.int r4), some (.int (x4 ||| 0)), some (.int (x5 + 1)), none] rfl hyp
        · refine ls_iload_n f_231_73 rfl ?_
          refine ls_istore_n [some (.ref 92), some (.int x1), some (.int x2), some (.int x3), some (.int x4), some (.int x5), some (.int r4)] f_231_74 (Nat.le_of_ble_eq_true rfl) rfl ?_
          refine ls_iload f_231_75 rfl ?_
          refine ls_iload f_231_77 rfl ?_
          refine ls_iload_n f_231_79 rfl ?_
          refine ls_icmp_ne 90 f_231_80 rfl hyp (fun _ hyp => ?_) (fun _ hyp => ?_)
          · refine ls_iconst 1 f_231_83 (by decide) ?_
            refine ls_iload f_231_84 rfl ?_
            refine ls_ishl ((1 : Int32) <<< (x5 &&& 31)) f_231_86 rfl ?_
            refine ls_goto 91 f_231_87 rfl ?_
            refine ls_ior (x4 ||| ((1 : Int32) <<< (x5 &&& 31))) f_231_91 rfl ?_
            refine ls_istore [some (.ref 92), some (.int x1), some (.int x2), some (.int x3), some (.int (x4 ||| ((1 : Int32) <<< (x5 &&& 31)))), some (.int x5), some (.int r4)] f_231_92 (Nat.le_of_ble_eq_true rfl) rfl ?_
            refine ls_iinc (x5 + 1) [some (.ref 92), some (.int x1), some (.int x2), some (.int x3), some (.int (x4 ||| ((1 : Int32) <<< (x5 &&& 31)))), some (.int (x5 + 1)), some (.int r4)] f_231_94 rfl (Nat.le_of_ble_eq_true rfl) rfl rfl ?_
            refine ls_goto 16 f_231_97 rfl ?_
            exact ls_mask [true, true, true, true, true, true, false] [some (.ref 92), some (.int x1), some (.int x2), some (.int x3), some (.int (x4 ||| ((1 : Int32) <<< (x5 &&& 31)))), some (.int (x5 + 1)), none] rfl hyp
          · refine ls_iconst 0 f_231_90 (by decide) ?_
            refine ls_ior (x4 ||| 0) f_231_91 rfl ?_
            refine ls_istore [some (.ref 92), some (.int x1), some (.int x2), some (.int x3), some (.int (x4 ||| 0)), some (.int x5), some (.int r4)] f_231_92 (Nat.le_of_ble_eq_true rfl) rfl ?_
            refine ls_iinc (x5 + 1) [some (.ref 92), some (.int x1), some (.int x2), some (.int x3), some (.int (x4 ||| 0)), some (.int (x5 + 1)), some (.int r4)] f_231_94 rfl (Nat.le_of_ble_eq_true rfl) rfl rfl ?_
            refine ls_goto 16 f_231_97 rfl ?_
            exact ls_mask [true, true, true, true, true, true, false] [some (.ref 92), some (.int x1), some (.int x2), some (.int x3), some (.int (x4 ||| 0)), some (.int (x5 + 1)), none] rfl hyp
theorem e_232 {d : Nat} {h : lm_H} {K : Int32 → lm_H → Prop} (x0 : Int32) (hl : lm_Lay h) (hyp : lm_W (d + 1) 232 2 [some (.int x0), some (.int 0)] [] h (lm_kI K)) : lm_call (d + 2) 232 [.int x0] h (lm_kI K) := by
  refine ls_enter [some (.int x0), none] ml_232 (Nat.le_of_ble_eq_true rfl) rfl ?_
  refine ls_iconst 0 f_232_0 (by decide) ?_
  refine ls_istore_n [some (.int x0), some (.int 0)] f_232_1 (Nat.le_of_ble_eq_true rfl) rfl ?_
  exact hyp
theorem b_232_2 {d : Nat} {h : lm_H} {K : Int32 → lm_H → Prop} (x0 : Int32) (x1 : Int32) (hl : lm_Lay h) (hyp : (if ((x0 >>> (x1 &&& 31)) &&& 1) = 1 then (K x1 h) else (lm_W (d + 1) 232 2 [some (.int x0), some (.int (x1 + 1))] [] h (lm_kI K)))) : lm_W (d + 1) 232 2 [some (.int x0), some (.int x1)] [] h (lm_kI K) := by
  refine ls_iload_n f_232_2 rfl ?_
  refine ls_iload_n f_232_3 rfl ?_
  refine ls_invS f_232_4 q_232_341 [.int x0, .int x1] [] rfl (Nat.le_of_ble_eq_true rfl) ?_
  refine ls_enter [some (.int x0), some (.int x1)] ml_156 (Nat.le_of_ble_eq_true rfl) rfl ?_
  refine ls_iload_n f_156_0 rfl ?_
  refine ls_iload_n f_156_1 rfl ?_
  refine ls_ishr (x0 >>> (x1 &&& 31)) f_156_2 rfl ?_
  refine ls_iconst 1 f_156_3 (by decide) ?_
  refine ls_iand ((x0 >>> (x1 &&& 31)) &&& 1) f_156_4 rfl ?_
  refine ls_iconst 1 f_156_5 (by decide) ?_
  refine ls_icmp_ne 13 f_156_6 rfl hyp (fun _ hyp => ?_) (fun _ hyp => ?_)
  · refine ls_iconst 1 f_156_9 (by decide) ?_
    refine ls_goto 14 f_156_10 rfl ?_
    refine ls_zreturn f_156_14 rZ_156 (by decide) ?_
    show lm_W _ _ _ _ [.int 1] _ _
    refine ls_if_ne_F 16 f_232_7 rfl (by decide) ?_
    refine ls_iload_n f_232_16 rfl ?_
    exact ls_ireturn f_232_17 rI_232 hyp
  · refine ls_iconst 0 f_156_13 (by decide) ?_
    refine ls_zreturn f_156_14 rZ_156 (by decide) ?_
    show lm_W _ _ _ _ [.int 0] _ _
    refine ls_if_ne_T 16 f_232_7 rfl (by decide) ?_
    refine ls_iinc (x1 + 1) [some (.int x0), some (.int (x1 + 1))] f_232_10 rfl (Nat.le_of_ble_eq_true rfl) rfl rfl ?_
    refine ls_goto 2 f_232_13 rfl ?_
    exact hyp
theorem e_233 {d : Nat} {h : lm_H} {K : Int32 → lm_H → Prop} (x1 : Int32) (hl : lm_Lay h) (hyp : (if x1 < 0 then (K (-1) h) else (if ((lm_i h 94 81) - 1) < x1 then (K (-1) h) else (lm_call (d + 2) 208 [.ref 92] h (lm_kV fun h1 => lm_call (d + 2) 212 [.ref 92] h1 (lm_kV fun h2 => lm_call (d + 2) 231 [.ref 92, .int x1] h2 (lm_kI fun r4 h3 => (if ((r4 >>> ((lm_i h3 94 82) &&& 31)) &&& 1) = 1 then (K ((r4 &&& (((1 : Int32) <<< ((lm_i h3 94 82) &&& 31)) ^^^ (-1))) ||| 64) h3) else (K ((r4 &&& (((1 : Int32) <<< ((lm_i h3 94 82) &&& 31)) ^^^ (-1))) ||| 0) h3))))))))) : lm_call (d + 3) 233 [.ref 92, .int x1] h (lm_kI K) := by
  refine ls_enter [some (.ref 92), some (.int x1), none] ml_233 (Nat.le_of_ble_eq_true rfl) rfl ?_
  refine ls_aload_n f_233_0 rfl ?_
  refine ls_iload_n f_233_1 rfl ?_
  refine ls_invV (a := 92) f_233_2 q_233_132 [.int x1] [] rfl (Nat.le_of_ble_eq_true rfl) hl S_92 ow_162 ?_
  refine ls_enter [some (.ref 92), some (.int x1)] ml_162 (Nat.le_of_ble_eq_true rfl) rfl ?_
  refine ls_iload_n f_162_0 rfl ?_
  refine ls_iconst 0 f_162_1 (by decide) ?_
  refine ls_aload_n f_162_2 rfl ?_
  refine ls_invV (a := 92) f_162_3 q_162_122 [] [.int 0, .int x1] rfl (Nat.le_of_ble_eq_true rfl) hl S_92 ow_160 ?_
  refine ls_enter [some (.ref 92)] ml_160 (Nat.le_of_ble_eq_true rfl) rfl ?_
  refine ls_aload_n f_160_0 rfl ?_
  refine ls_getR f_160_1 p_160_25 hl S_92 F_92_3 ?_
  refine ls_bipush 81 f_160_4 (by decide) ?_
  refine ls_ialdC 81 f_160_6 hl S_94 ⟨by decide, by decide, by decide⟩ ?_
  refine ls_ireturn f_160_7 rI_160 ?_
  show lm_W _ _ _ _ [.int (lm_i h 94 81), .int 0, .int x1] _ _
  refine ls_iconst 1 f_162_6 (by decide) ?_
  refine ls_isub ((lm_i h 94 81) - 1) f_162_7 rfl ?_
  refine ls_invS f_162_8 q_162_115 [.int x1, .int 0, .int ((lm_i h 94 81) - 1)] [] rfl (Nat.le_of_ble_eq_true rfl) ?_
  refine ls_enter [some (.int x1), some (.int 0), some (.int ((lm_i h 94 81) - 1))] ml_152 (Nat.le_of_ble_eq_true rfl) rfl ?_
  refine ls_iload_n f_152_0 rfl ?_
  refine ls_iload_n f_152_1 rfl ?_
  refine ls_icmp_lt 14 f_152_2 rfl hyp (fun _ hyp => ?_) (fun _ hyp => ?_)
  · refine ls_iconst 0 f_152_14 (by decide) ?_
    refine ls_zreturn f_152_15 rZ_152 (by decide) ?_
    show lm_W _ _ _ _ [.int 0] _ _
    refine ls_zreturn f_162_11 rZ_162 (by decide) ?_
    show lm_W _ _ _ _ [.int 0] _ _
    refine ls_if_ne_T 10 f_233_5 rfl (by decide) ?_
    refine ls_iconst (-1) f_233_8 (by decide) ?_
    exact ls_ireturn f_233_9 rI_233 hyp
  · refine ls_iload_n f_152_5 rfl ?_
    refine ls_iload_n f_152_6 rfl ?_
    refine ls_icmp_gt 14 f_152_7 rfl hyp (fun _ hyp => ?_) (fun _ hyp => ?_)
    · refine ls_iconst 0 f_152_14 (by decide) ?_
      refine ls_zreturn f_152_15 rZ_152 (by decide) ?_
      show lm_W _ _ _ _ [.int 0] _ _
      refine ls_zreturn f_162_11 rZ_162 (by decide) ?_
      show lm_W _ _ _ _ [.int 0] _ _
      refine ls_if_ne_T 10 f_233_5 rfl (by decide) ?_
      refine ls_iconst (-1) f_233_8 (by decide) ?_
      exact ls_ireturn f_233_9 rI_233 hyp
    · refine ls_iconst 1 f_152_10 (by decide) ?_
      refine ls_goto 15 f_152_11 rfl ?_
      refine ls_zreturn f_152_15 rZ_152 (by decide) ?_
      show lm_W _ _ _ _ [.int 1] _ _
      refine ls_zreturn f_162_11 rZ_162 (by decide) ?_
      show lm_W _ _ _ _ [.int 1] _ _
      refine ls_if_ne_F 10 f_233_5 rfl (by decide) ?_
      refine ls_aload_n f_233_10 rfl ?_
      refine ls_invV (a := 92) f_233_11 q_233_280 [] [] rfl (Nat.le_of_ble_eq_true rfl) hl S_92 ow_208 ?_
      refine ls_call hyp hl (fun _ h1 hl1 hyp => ?_)
      refine ls_retV hyp (fun hyp => ?_)
      refine ls_aload_n f_233_14 rfl ?_
      refine ls_invV (a := 92) f_233_15 q_233_296 [] [] rfl (Nat.le_of_ble_eq_true rfl) hl1 S_92 ow_212 ?_
      refine ls_call hyp hl1 (fun _ h2 hl2 hyp => ?_)
      refine ls_retV hyp (fun hyp => ?_)
      refine ls_aload_n f_233_18 rfl ?_
      refine ls_iload_n f_233_19 rfl ?_
      refine ls_invV (a := 92) f_233_20 q_233_344 [.int x1] [] rfl (Nat.le_of_ble_eq_true rfl) hl2 S_92 ow_231 ?_
      refine ls_call hyp hl2 (fun _ h3 hl3 hyp => ?_)
      refine ls_retI hyp (fun r4 hyp => ?_)
      refine ls_istore_n [some (.ref 92), some (.int x1), some (.int r4)] f_233_23 (Nat.le_of_ble_eq_true rfl) rfl ?_
      refine ls_iload_n f_233_24 rfl ?_
      refine ls_iconst 1 f_233_25 (by decide) ?_
      refine ls_aload_n f_233_26 rfl ?_
      refine ls_invV (a := 92) f_233_27 q_233_126 [] [.int 1, .int r4] rfl (Nat.le_of_ble_eq_true rfl) hl3 S_92 ow_161 ?_
      refine ls_enter [some (.ref 92)] ml_161 (Nat.le_of_ble_eq_true rfl) rfl ?_
      refine ls_aload_n f_161_0 rfl ?_
      refine ls_getR f_161_1 p_161_25 hl3 S_92 F_92_3 ?_
      refine ls_bipush 82 f_161_4 (by decide) ?_
      refine ls_ialdC 82 f_161_6 hl3 S_94 ⟨by decide, by decide, by decide⟩ ?_
      refine ls_ireturn f_161_7 rI_161 ?_
      show lm_W _ _ _ _ [.int (lm_i h3 94 82), .int 1, .int r4] _ _
      refine ls_ishl ((1 : Int32) <<< ((lm_i h3 94 82) &&& 31)) f_233_30 rfl ?_
      refine ls_iconst (-1) f_233_31 (by decide) ?_
      refine ls_ixor (((1 : Int32) <<< ((lm_i h3 94 82) &&& 31)) ^^^ (-1)) f_233_32 rfl ?_
      refine ls_iand (r4 &&& (((1 : Int32) <<< ((lm_i h3 94 82) &&& 31)) ^^^ (-1))) f_233_33 rfl ?_
      refine ls_iload_n f_233_34 rfl ?_
      refine ls_aload_n f_233_35 rfl ?_
      refine ls_invV (a := 92) f_233_36 q_233_126 [] [.int r4, .int (r4 &&& (((1 : Int32) <<< ((lm_i h3 94 82) &&& 31)) ^^^ (-1)))] rfl (Nat.le_of_ble_eq_true rfl) hl3 S_92 ow_161 ?_
      refine ls_enter [some (.ref 92)] ml_161 (Nat.le_of_ble_eq_true rfl) rfl ?_
      refine ls_aload_n f_161_0 rfl ?_
      refine ls_getR f_161_1 p_161_25 hl3 S_92 F_92_3 ?_
      refine ls_bipush 82 f_161_4 (by decide) ?_
      refine ls_ialdC 82 f_161_6 hl3 S_94 ⟨by decide, by decide, by decide⟩ ?_
      refine ls_ireturn f_161_7 rI_161 ?_
      show lm_W _ _ _ _ [.int (lm_i h3 94 82), .int r4, .int (r4 &&& (((1 : Int32) <<< ((lm_i h3 94 82) &&& 31)) ^^^ (-1)))] _ _
      refine ls_invS f_233_39 q_233_341 [.int r4, .int (lm_i h3 94 82)] [.int (r4 &&& (((1 : Int32) <<< ((lm_i h3 94 82) &&& 31)) ^^^ (-1)))] rfl (Nat.le_of_ble_eq_true rfl) ?_
      refine ls_enter [some (.int r4), some (.int (lm_i h3 94 82))] ml_156 (Nat.le_of_ble_eq_true rfl) rfl ?_
      refine ls_iload_n f_156_0 rfl ?_
      refine ls_iload_n f_156_1 rfl ?_
      refine ls_ishr (r4 >>> ((lm_i h3 94 82) &&& 31)) f_156_2 rfl ?_
      refine ls_iconst 1 f_156_3 (by decide) ?_
      refine ls_iand ((r4 >>> ((lm_i h3 94 82) &&& 31)) &&& 1) f_156_4 rfl ?_
      refine ls_iconst 1 f_156_5 (by decide) ?_
      refine ls_icmp_ne 13 f_156_6 rfl hyp (fun _ hyp => ?_) (fun _ hyp => ?_)
      · refine ls_iconst 1 f_156_9 (by decide) ?_
        refine ls_goto 14 f_156_10 rfl ?_
        refine ls_zreturn f_156_14 rZ_156 (by decide) ?_
        show lm_W _ _ _ _ [.int 1, .int (r4 &&& (((1 : Int32) <<< ((lm_i h3 94 82) &&& 31)) ^^^ (-1)))] _ _
        refine ls_if_eq_F 50 f_233_42 rfl (by decide) ?_
        refine ls_bipush 64 f_233_45 (by decide) ?_
        refine ls_goto 51 f_233_47 rfl ?_
        refine ls_ior ((r4 &&& (((1 : Int32) <<< ((lm_i h3 94 82) &&& 31)) ^^^ (-1))) ||| 64) f_233_51 rfl ?_
        exact ls_ireturn f_233_52 rI_233 hyp
      · refine ls_iconst 0 f_156_13 (by decide) ?_
        refine ls_zreturn f_156_14 rZ_156 (by decide) ?_
        show lm_W _ _ _ _ [.int 0, .int (r4 &&& (((1 : Int32) <<< ((lm_i h3 94 82) &&& 31)) ^^^ (-1)))] _ _
        refine ls_if_eq_T 50 f_233_42 rfl (by decide) ?_
        refine ls_iconst 0 f_233_50 (by decide) ?_
        refine ls_ior ((r4 &&& (((1 : Int32) <<< ((lm_i h3 94 82) &&& 31)) ^^^ (-1))) ||| 0) f_233_51 rfl ?_
        exact ls_ireturn f_233_52 rI_233 hyp
theorem e_234 {d : Nat} {h : lm_H} {K : lm_H → Prop} (hl : lm_Lay h) (hyp : lm_call (d + 1) 208 [.ref 92] h (lm_kV fun h1 => lm_call (d + 1) 212 [.ref 92] h1 (lm_kV fun h2 => lm_W (d + 1) 234 10 [some (.ref 92), some (.int 0), none, none] [] h2 (lm_kV K)))) : lm_call (d + 2) 234 [.ref 92] h (lm_kV K) := by
  refine ls_enter [some (.ref 92), none, none, none] ml_234 (Nat.le_of_ble_eq_true rfl) rfl ?_
  refine ls_aload_n f_234_0 rfl ?_
  refine ls_invV (a := 92) f_234_1 q_234_280 [] [] rfl (Nat.le_of_ble_eq_true rfl) hl S_92 ow_208 ?_
  refine ls_call hyp hl (fun _ h1 hl1 hyp => ?_)
  refine ls_retV hyp (fun hyp => ?_)
  refine ls_aload_n f_234_4 rfl ?_
  refine ls_invV (a := 92) f_234_5 q_234_296 [] [] rfl (Nat.le_of_ble_eq_true rfl) hl1 S_92 ow_212 ?_
  refine ls_call hyp hl1 (fun _ h2 hl2 hyp => ?_)
  refine ls_retV hyp (fun hyp => ?_)
  refine ls_iconst 0 f_234_8 (by decide) ?_
  refine ls_istore_n [some (.ref 92), some (.int 0), none, none] f_234_9 (Nat.le_of_ble_eq_true rfl) rfl ?_
  exact hyp
theorem b_234_10 {d : Nat} {h : lm_H} {K : lm_H → Prop} (x1 : Int32) (hl : lm_Lay h) (hyp : (if x1 < 16807 then (lm_in x1 16807 False (lm_W (d + 1) 234 10 [some (.ref 92), some (.int (x1 + 1)), none, none] [] (lm_si h 109 x1.toNatClampNeg 0) (lm_kV K))) else (lm_call (d + 1) 221 [.ref 92] h (lm_kI fun r2 h1 => lm_in r2 16807 False (lm_W (d + 1) 234 52 [some (.ref 92), some (.int 1), none, none] [] (lm_si (lm_si (lm_si h1 109 r2.toNatClampNeg 1) 92 41 0) 92 42 0) (lm_kV K)))))) : lm_W (d + 1) 234 10 [some (.ref 92), some (.int x1), none, none] [] h (lm_kV K) := by
  refine ls_iload_n f_234_10 rfl ?_
  refine ls_sipush 16807 f_234_11 (by decide) ?_
  refine ls_icmp_ge 30 f_234_14 rfl hyp (fun _ hyp => ?_) (fun _ hyp => ?_)
  · refine ls_aload_n f_234_17 rfl ?_
    refine ls_getR f_234_18 p_234_81 hl S_92 F_92_40 ?_
    refine ls_iload_n f_234_21 rfl ?_
    refine ls_iconst 0 f_234_22 (by decide) ?_
    refine ls_zast f_234_23 hl S_109 hyp (fun hyp => ?_)
    refine ls_heap (lm_si h 109 x1.toNatClampNeg 0) rfl ?_
    refine ls_iinc (x1 + 1) [some (.ref 92), some (.int (x1 + 1)), none, none] f_234_24 rfl (Nat.le_of_ble_eq_true rfl) rfl rfl ?_
    refine ls_goto 10 f_234_27 rfl ?_
    exact hyp
  · refine ls_aload_n f_234_30 rfl ?_
    refine ls_getR f_234_31 p_234_81 hl S_92 F_92_40 ?_
    refine ls_aload_n f_234_34 rfl ?_
    refine ls_invV (a := 92) f_234_35 q_234_347 [] [.ref 109] rfl (Nat.le_of_ble_eq_true rfl) hl S_92 ow_221 ?_
    refine ls_call hyp hl (fun _ h1 hl1 hyp => ?_)
    refine ls_retI hyp (fun r2 hyp => ?_)
    refine ls_iconst 1 f_234_38 (by decide) ?_
    refine ls_zast f_234_39 hl1 S_109 hyp (fun hyp => ?_)
    refine ls_heap (lm_si h1 109 r2.toNatClampNeg 1) rfl ?_
    refine ls_aload_n f_234_40 rfl ?_
    refine ls_iconst 0 f_234_41 (by decide) ?_
    refine ls_putI f_234_42 p_234_350 (lm_Lay_si hl1 _ _ _) S_92 rfl ?_
    refine ls_aload_n f_234_45 rfl ?_
    refine ls_iconst 0 f_234_46 (by decide) ?_
    refine ls_putI f_234_47 p_234_353 (lm_Lay_si (lm_Lay_si hl1 _ _ _) _ _ _) S_92 (by decide) ?_
    refine ls_iconst 1 f_234_50 (by decide) ?_
    refine ls_istore_n [some (.ref 92), some (.int 1), none, none] f_234_51 (Nat.le_of_ble_eq_true rfl) rfl ?_
    exact hyp
theorem b_234_52 {d : Nat} {h : lm_H} {K : lm_H → Prop} (x1 : Int32) (hl : lm_Lay h) (hyp : (if x1 = 0 then (K h) else (lm_W (d + 1) 234 70 [some (.ref 92), some (.int 0), some (.int 0), none] [] (lm_si h 92 41 ((lm_i h 92 41) + 1)) (lm_kV K)))) : lm_W (d + 1) 234 52 [some (.ref 92), some (.int x1), none, none] [] h (lm_kV K) := by
  refine ls_iload_n f_234_52 rfl ?_
  refine ls_if_eq 173 f_234_53 rfl hyp (fun _ hyp => ?_) (fun _ hyp => ?_)
  · exact ls_return f_234_173 rV_234 hyp
  · refine ls_aload_n f_234_56 rfl ?_
    refine ls_dup f_234_57 rfl ?_
    refine ls_getI f_234_58 p_234_350 hl S_92 ?_
    refine ls_iconst 1 f_234_61 (by decide) ?_
    refine ls_iadd ((lm_i h 92 41) + 1) f_234_62 rfl ?_
    refine ls_putI f_234_63 p_234_350 hl S_92 rfl ?_
    refine ls_iconst 0 f_234_66 (by decide) ?_
    refine ls_istore_n [some (.ref 92), some (.int 0), none, none] f_234_67 (Nat.le_of_ble_eq_true rfl) rfl ?_
    refine ls_iconst 0 f_234_68 (by decide) ?_
    refine ls_istore_n [some (.ref 92), some (.int 0), some (.int 0), none] f_234_69 (Nat.le_of_ble_eq_true rfl) rfl ?_
    exact hyp
theorem b_234_70 {d : Nat} {h : lm_H} {K : lm_H → Prop} (x1 : Int32) (x2 : Int32) (hl : lm_Lay h) (hyp : (if x2 < (lm_i h 94 81) then (lm_call (d + 1) 231 [.ref 92, .int x2] h (lm_kI fun r2 h1 => lm_in x2 5 False (if ((r2 >>> ((lm_i h1 107 x2.toNatClampNeg) &&& 31)) &&& 1) = 1 then (lm_W (d + 1) 234 70 [some (.ref 92), some (.int x1), some (.int (x2 + 1)), none] [] h1 (lm_kV K)) else (lm_call (d + 1) 232 [.int r2] h1 (lm_kI fun r4 h3 => lm_in x2 5 False (lm_W (d + 1) 234 70 [some (.ref 92), some (.int 1), some (.int (x2 + 1)), none] [] (lm_si h3 107 x2.toNatClampNeg r4) (lm_kV K))))))) else (if x1 = 0 then (lm_call (d + 1) 221 [.ref 92] (lm_si h 92 42 0) (lm_kI fun r6 h5 => lm_in r6 16807 False (if x1 = 0 then (lm_W (d + 1) 234 52 [some (.ref 92), some (.int 0), none, none] [] (lm_si h5 109 r6.toNatClampNeg 1) (lm_kV K)) else (if (lm_i h5 92 42) = 0 then (lm_W (d + 1) 234 52 [some (.ref 92), some (.int 1), none, none] [] (lm_si h5 109 r6.toNatClampNeg 1) (lm_kV K)) else (lm_W (d + 1) 234 52 [some (.ref 92), some (.int 0), none, none] [] (lm_si h5 109 r6.toNatClampNeg 1) (lm_kV K)))))) else (lm_call (d + 1) 221 [.ref 92] h (lm_kI fun r8 h7 => lm_in r8 16807 False (if (lm_i h7 109 r8.toNatClampNeg) = 0 then (lm_call (d + 1) 221 [.ref 92] (lm_si h7 92 42 0) (lm_kI fun r10 h9 => lm_in r10 16807 False (if x1 = 0 then (lm_W (d + 1) 234 52 [some (.ref 92), some (.int 0), none, none] [] (lm_si h9 109 r10.toNatClampNeg 1) (lm_kV K)) else (if (lm_i h9 92 42) = 0 then (lm_W (d + 1) 234 52 [some (.ref 92), some (.int 1), none, none] [] (lm_si h9 109 r10.toNatClampNeg 1) (lm_kV K)) else (lm_W (d + 1) 234 52 [some (.ref 92), some (.int 0), none, none] [] (lm_si h9 109 r10.toNatClampNeg 1) (lm_kV K)))))) else (lm_call (d + 1) 221 [.ref 92] (lm_si h7 92 42 1) (lm_kI fun r12 h11 => lm_in r12 16807 False (if x1 = 0 then (lm_W (d + 1) 234 52 [some (.ref 92), some (.int 0), none, none] [] (lm_si h11 109 r12.toNatClampNeg 1) (lm_kV K)) else (if (lm_i h11 92 42) = 0 then (lm_W (d + 1) 234 52 [some (.ref 92), some (.int 1), none, none] [] (lm_si h11 109 r12.toNatClampNeg 1) (lm_kV K)) else (lm_W (d + 1) 234 52 [some (.ref 92), some (.int 0), none, none] [] (lm_si h11 109 r12.toNatClampNeg 1) (lm_kV K)))))))))))) : lm_W (d + 1) 234 70 [some (.ref 92), some (.int x1), some (.int x2), none] [] h (lm_kV K) := by
  refine ls_iload_n f_234_70 rfl ?_
  refine ls_aload_n f_234_71 rfl ?_
  refine ls_invV (a := 92) f_234_72 q_234_122 [] [.int x2] rfl (Nat.le_of_ble_eq_true rfl) hl S_92 ow_160 ?_
  refine ls_enter [some (.ref 92)] ml_160 (Nat.le_of_ble_eq_true rfl) rfl ?_
  refine ls_aload_n f_160_0 rfl ?_
  refine ls_getR f_160_1 p_160_25 hl S_92 F_92_3 ?_
  refine ls_bipush 81 f_160_4 (by decide) ?_
  refine ls_ialdC 81 f_160_6 hl S_94 ⟨by decide, by decide, by decide⟩ ?_
  refine ls_ireturn f_160_7 rI_160 ?_
  show lm_W _ _ _ _ [.int (lm_i h 94 81), .int x2] _ _
  refine ls_icmp_ge 118 f_234_75 rfl hyp (fun _ hyp => ?_) (fun _ hyp => ?_)
  · refine ls_aload_n f_234_78 rfl ?_
    refine ls_iload_n f_234_79 rfl ?_
    refine ls_invV (a := 92) f_234_80 q_234_344 [.int x2] [] rfl (Nat.le_of_ble_eq_true rfl) hl S_92 ow_231 ?_
    refine ls_call hyp hl (fun _ h1 hl1 hyp => ?_)
    refine ls_retI hyp (fun r2 hyp => ?_)
    refine ls_istore_n [some (.ref 92), some (.int x1), some (.int x2), some (.int r2)] f_234_83 (Nat.le_of_ble_eq_true rfl) rfl ?_
    refine ls_iload_n f_234_84 rfl ?_
    refine ls_aload_n f_234_85 rfl ?_
    refine ls_getR f_234_86 p_234_72 hl1 S_92 F_92_29 ?_
    refine ls_iload_n f_234_89 rfl ?_
    refine ls_iald f_234_90 hl1 S_107 hyp (fun hyp => ?_)
    refine ls_invS f_234_91 q_234_341 [.int r2, .int (lm_i h1 107 x2.toNatClampNeg)] [] rfl (Nat.le_of_ble_eq_true rfl) ?_
    refine ls_enter [some (.int r2), some (.int (lm_i h1 107 x2.toNatClampNeg))] ml_156 (Nat.le_of_ble_eq_true rfl) rfl ?_
    refine ls_iload_n f_156_0 rfl ?_
    refine ls_iload_n f_156_1 rfl ?_
    refine ls_ishr (r2 >>> ((lm_i h1 107 x2.toNatClampNeg) &&& 31)) f_156_2 rfl ?_
    refine ls_iconst 1 f_156_3 (by decide) ?_
    refine ls_iand ((r2 >>> ((lm_i h1 107 x2.toNatClampNeg) &&& 31)) &&& 1) f_156_4 rfl ?_
    refine ls_iconst 1 f_156_5 (by decide) ?_
    refine ls_icmp_ne 13 f_156_6 rfl hyp (fun _ hyp => ?_) (fun _ hyp => ?_)
    · refine ls_iconst 1 f_156_9 (by decide) ?_
      refine ls_goto 14 f_156_10 rfl ?_
      refine ls_zreturn f_156_14 rZ_156 (by decide) ?_
      show lm_W _ _ _ _ [.int 1] _ _
      refine ls_if_eq_F 100 f_234_94 rfl (by decide) ?_
      refine ls_goto 112 f_234_97 rfl ?_
      refine ls_iinc (x2 + 1) [some (.ref 92), some (.int x1), some (.int (x2 + 1)), some (.int r2)] f_234_112 rfl (Nat.le_of_ble_eq_true rfl) rfl rfl ?_
      refine ls_goto 70 f_234_115 rfl ?_
      exact ls_mask [true, true, true, false] [some (.ref 92), some (.int x1), some (.int (x2 + 1)), none] rfl hyp
    · refine ls_iconst 0 f_156_13 (by decide) ?_
      refine ls_zreturn f_156_14 rZ_156 (by decide) ?_
      show lm_W _ _ _ _ [.int 0] _ _
      refine ls_if_eq_T 100 f_234_94 rfl (by decide) ?_
      refine ls_aload_n f_234_100 rfl ?_
      refine ls_getR f_234_101 p_234_72 hl1 S_92 F_92_29 ?_
      refine ls_iload_n f_234_104 rfl ?_
      refine ls_iload_n f_234_105 rfl ?_
      refine ls_invS f_234_106 q_234_356 [.int r2] [.int x2, .ref 107] rfl (Nat.le_of_ble_eq_true rfl) ?_
      refine ls_call hyp hl1 (fun _ h3 hl3 hyp => ?_)
      refine ls_retI hyp (fun r4 hyp => ?_)
      refine ls_iast f_234_109 hl3 S_107 hyp (fun hyp => ?_)
      refine ls_iconst 1 f_234_110 (by decide) ?_
      refine ls_istore_n [some (.ref 92), some (.int 1), some (.int x2), some (.int r2)] f_234_111 (Nat.le_of_ble_eq_true rfl) rfl ?_
      refine ls_iinc (x2 + 1) [some (.ref 92), some (.int 1), some (.int (x2 + 1)), some (.int r2)] f_234_112 rfl (Nat.le_of_ble_eq_true rfl) rfl rfl ?_
      refine ls_goto 70 f_234_115 rfl ?_
      exact ls_mask [true, true, true, false] [some (.ref 92), some (.int 1), some (.int (x2 + 1)), none] rfl hyp
  · refine ls_aload_n f_234_118 rfl ?_
    refine ls_iload_n f_234_119 rfl ?_
    refine ls_if_eq 139 f_234_120 rfl hyp (fun _ hyp => ?_) (fun _ hyp => ?_)
    · refine ls_iconst 0 f_234_139 (by decide) ?_
      refine ls_putI f_234_140 p_234_353 hl S_92 (by decide) ?_
      refine ls_aload_n f_234_143 rfl ?_
      refine ls_getR f_234_144 p_234_81 (lm_Lay_si hl _ _ _) S_92 F_92_40 ?_
      refine ls_aload_n f_234_147 rfl ?_
      refine ls_invV (a := 92) f_234_148 q_234_347 [] [.ref 109] rfl (Nat.le_of_ble_eq_true rfl) (lm_Lay_si hl _ _ _) S_92 ow_221 ?_
      refine ls_call hyp (lm_Lay_si hl _ _ _) (fun _ h5 hl5 hyp => ?_)
      refine ls_retI hyp (fun r6 hyp => ?_)
      refine ls_iconst 1 f_234_151 (by decide) ?_
      refine ls_zast f_234_152 hl5 S_109 hyp (fun hyp => ?_)
      refine ls_heap (lm_si h5 109 r6.toNatClampNeg 1) rfl ?_
      refine ls_iload_n f_234_153 rfl ?_
      refine ls_if_eq 168 f_234_154 rfl hyp (fun _ hyp => ?_) (fun _ hyp => ?_)
      · refine ls_iconst 0 f_234_168 (by decide) ?_
        refine ls_istore_n [some (.ref 92), some (.int 0), some (.int x2), none] f_234_169 (Nat.le_of_ble_eq_true rfl) rfl ?_
        refine ls_goto 52 f_234_170 rfl ?_
        exact ls_mask [true, true, false, false] [some (.ref 92), some (.int 0), none, none] rfl hyp
      · refine ls_aload_n f_234_157 rfl ?_
        refine ls_getI f_234_158 p_234_353 (lm_Lay_si hl5 _ _ _) S_92 ?_
        refine ls_top (lm_i h5 92 42) rfl ?_
        refine ls_if_ne 168 f_234_161 rfl hyp (fun _ hyp => ?_) (fun _ hyp => ?_)
        · refine ls_iconst 1 f_234_164 (by decide) ?_
          refine ls_goto 169 f_234_165 rfl ?_
          refine ls_istore_n [some (.ref 92), some (.int 1), some (.int x2), none] f_234_169 (Nat.le_of_ble_eq_true rfl) rfl ?_
          refine ls_goto 52 f_234_170 rfl ?_
          exact ls_mask [true, true, false, false] [some (.ref 92), some (.int 1), none, none] rfl hyp
        · refine ls_iconst 0 f_234_168 (by decide) ?_
          refine ls_istore_n [some (.ref 92), some (.int 0), some (.int x2), none] f_234_169 (Nat.le_of_ble_eq_true rfl) rfl ?_
          refine ls_goto 52 f_234_170 rfl ?_
          exact ls_mask [true, true, false, false] [some (.ref 92), some (.int 0), none, none] rfl hyp
    · refine ls_aload_n f_234_123 rfl ?_
      refine ls_getR f_234_124 p_234_81 hl S_92 F_92_40 ?_
      refine ls_aload_n f_234_127 rfl ?_
      refine ls_invV (a := 92) f_234_128 q_234_347 [] [.ref 109, .ref 92] rfl (Nat.le_of_ble_eq_true rfl) hl S_92 ow_221 ?_
      refine ls_call hyp hl (fun _ h7 hl7 hyp => ?_)
      refine ls_retI hyp (fun r8 hyp => ?_)
      refine ls_zald f_234_131 hl7 S_109 hyp (fun hyp => ?_)
      refine ls_if_eq 139 f_234_132 rfl hyp (fun _ hyp => ?_) (fun _ hyp => ?_)
      · refine ls_iconst 0 f_234_139 (by decide) ?_
        refine ls_putI f_234_140 p_234_353 hl7 S_92 (by decide) ?_
        refine ls_aload_n f_234_143 rfl ?_
        refine ls_getR f_234_144 p_234_81 (lm_Lay_si hl7 _ _ _) S_92 F_92_40 ?_
        refine ls_aload_n f_234_147 rfl ?_
        refine ls_invV (a := 92) f_234_148 q_234_347 [] [.ref 109] rfl (Nat.le_of_ble_eq_true rfl) (lm_Lay_si hl7 _ _ _) S_92 ow_221 ?_
        refine ls_call hyp (lm_Lay_si hl7 _ _ _) (fun _ h9 hl9 hyp => ?_)
        refine ls_retI hyp (fun r10 hyp => ?_)
        refine ls_iconst 1 f_234_151 (by decide) ?_
        refine ls_zast f_234_152 hl9 S_109 hyp (fun hyp => ?_)
        refine ls_heap (lm_si h9 109 r10.toNatClampNeg 1) rfl ?_
        refine ls_iload_n f_234_153 rfl ?_
        refine ls_if_eq 168 f_234_154 rfl hyp (fun _ hyp => ?_) (fun _ hyp => ?_)
        · refine ls_iconst 0 f_234_168 (by decide) ?_
          refine ls_istore_n [some (.ref 92), some (.int 0), some (.int x2), none] f_234_169 (Nat.le_of_ble_eq_true rfl) rfl ?_
          refine ls_goto 52 f_234_170 rfl ?_
          exact ls_mask [true, true, false, false] [some (.ref 92), some (.int 0), none, none] rfl hyp
        · refine ls_aload_n f_234_157 rfl ?_
          refine ls_getI f_234_158 p_234_353 (lm_Lay_si hl9 _ _ _) S_92 ?_
          refine ls_top (lm_i h9 92 42) rfl ?_
          refine ls_if_ne 168 f_234_161 rfl hyp (fun _ hyp => ?_) (fun _ hyp => ?_)
          · refine ls_iconst 1 f_234_164 (by decide) ?_
            refine ls_goto 169 f_234_165 rfl ?_
            refine ls_istore_n [some (.ref 92), some (.int 1), some (.int x2), none] f_234_169 (Nat.le_of_ble_eq_true rfl) rfl ?_
            refine ls_goto 52 f_234_170 rfl ?_
            exact ls_mask [true, true, false, false] [some (.ref 92), some (.int 1), none, none] rfl hyp
          · refine ls_iconst 0 f_234_168 (by decide) ?_
            refine ls_istore_n [some (.ref 92), some (.int 0), some (.int x2), none] f_234_169 (Nat.le_of_ble_eq_true rfl) rfl ?_
            refine ls_goto 52 f_234_170 rfl ?_
            exact ls_mask [true, true, false, false] [some (.ref 92), some (.int 0), none, none] rfl hyp
      · refine ls_iconst 1 f_234_135 (by decide) ?_
        refine ls_goto 140 f_234_136 rfl ?_
        refine ls_putI f_234_140 p_234_353 hl7 S_92 (by decide) ?_
        refine ls_aload_n f_234_143 rfl ?_
        refine ls_getR f_234_144 p_234_81 (lm_Lay_si hl7 _ _ _) S_92 F_92_40 ?_
        refine ls_aload_n f_234_147 rfl ?_
        refine ls_invV (a := 92) f_234_148 q_234_347 [] [.ref 109] rfl (Nat.le_of_ble_eq_true rfl) (lm_Lay_si hl7 _ _ _) S_92 ow_221 ?_
        refine ls_call hyp (lm_Lay_si hl7 _ _ _) (fun _ h11 hl11 hyp => ?_)
        refine ls_retI hyp (fun r12 hyp => ?_)
        refine ls_iconst 1 f_234_151 (by decide) ?_
        refine ls_zast f_234_152 hl11 S_109 hyp (fun hyp => ?_)
        refine ls_heap (lm_si h11 109 r12.toNatClampNeg 1) rfl ?_
        refine ls_iload_n f_234_153 rfl ?_
        refine ls_if_eq 168 f_234_154 rfl hyp (fun _ hyp => ?_) (fun _ hyp => ?_)
        · refine ls_iconst 0 f_234_168 (by decide) ?_
          refine ls_istore_n [some (.ref 92), some (.int 0), some (.int x2), none] f_234_169 (Nat.le_of_ble_eq_true rfl) rfl ?_
          refine ls_goto 52 f_234_170 rfl ?_
          exact ls_mask [true, true, false, false] [some (.ref 92), some (.int 0), none, none] rfl hyp
        · refine ls_aload_n f_234_157 rfl ?_
          refine ls_getI f_234_158 p_234_353 (lm_Lay_si hl11 _ _ _) S_92 ?_
          refine ls_top (lm_i h11 92 42) rfl ?_
          refine ls_if_ne 168 f_234_161 rfl hyp (fun _ hyp => ?_) (fun _ hyp => ?_)
          · refine ls_iconst 1 f_234_164 (by decide) ?_
            refine ls_goto 169 f_234_165 rfl ?_
            refine ls_istore_n [some (.ref 92), some (.int 1), some (.int x2), none] f_234_169 (Nat.le_of_ble_eq_true rfl) rfl ?_
            refine ls_goto 52 f_234_170 rfl ?_
            exact ls_mask [true, true, false, false] [some (.ref 92), some (.int 1), none, none] rfl hyp
          · refine ls_iconst 0 f_234_168 (by decide) ?_
            refine ls_istore_n [some (.ref 92), some (.int 0), some (.int x2), none] f_234_169 (Nat.le_of_ble_eq_true rfl) rfl ?_
            refine ls_goto 52 f_234_170 rfl ?_
            exact ls_mask [true, true, false, false] [some (.ref 92), some (.int 0), none, none] rfl hyp
theorem e_235 {d : Nat} {h : lm_H} {K : Int32 → lm_H → Prop} (x1 : Int32) (hl : lm_Lay h) (hyp : (if x1 < 0 then (K (-1) h) else (if 1 < x1 then (K (-1) h) else (lm_call (d + 1) 234 [.ref 92] h (lm_kV fun h1 => (if x1 = 0 then (K (lm_i h1 92 41) h1) else (if (lm_i h1 92 42) = 0 then (K 1 h1) else (K 0 h1)))))))) : lm_call (d + 2) 235 [.ref 92, .int x1] h (lm_kI K) := by
  refine ls_enter [some (.ref 92), some (.int x1)] ml_235 (Nat.le_of_ble_eq_true rfl) rfl ?_
  refine ls_iload_n f_235_0 rfl ?_
  refine ls_iconst 0 f_235_1 (by decide) ?_
  refine ls_iconst 1 f_235_2 (by decide) ?_
  refine ls_invS f_235_3 q_235_115 [.int x1, .int 0, .int 1] [] rfl (Nat.le_of_ble_eq_true rfl) ?_
  refine ls_enter [some (.int x1), some (.int 0), some (.int 1)] ml_152 (Nat.le_of_ble_eq_true rfl) rfl ?_
  refine ls_iload_n f_152_0 rfl ?_
  refine ls_iload_n f_152_1 rfl ?_
  refine ls_icmp_lt 14 f_152_2 rfl hyp (fun _ hyp => ?_) (fun _ hyp => ?_)
  · refine ls_iconst 0 f_152_14 (by decide) ?_
    refine ls_zreturn f_152_15 rZ_152 (by decide) ?_
    show lm_W _ _ _ _ [.int 0] _ _
    refine ls_if_ne_T 11 f_235_6 rfl (by decide) ?_
    refine ls_iconst (-1) f_235_9 (by decide) ?_
    exact ls_ireturn f_235_10 rI_235 hyp
  · refine ls_iload_n f_152_5 rfl ?_
    refine ls_iload_n f_152_6 rfl ?_
    refine ls_icmp_gt 14 f_152_7 rfl hyp (fun _ hyp => ?_) (fun _ hyp => ?_)
    · refine ls_iconst 0 f_152_14 (by decide) ?_
      refine ls_zreturn f_152_15 rZ_152 (by decide) ?_
      show lm_W _ _ _ _ [.int 0] _ _
      refine ls_if_ne_T 11 f_235_6 rfl (by decide) ?_
      refine ls_iconst (-1) f_235_9 (by decide) ?_
      exact ls_ireturn f_235_10 rI_235 hyp
    · refine ls_iconst 1 f_152_10 (by decide) ?_
      refine ls_goto 15 f_152_11 rfl ?_
      refine ls_zreturn f_152_15 rZ_152 (by decide) ?_
      show lm_W _ _ _ _ [.int 1] _ _
      refine ls_if_ne_F 11 f_235_6 rfl (by decide) ?_
      refine ls_aload_n f_235_11 rfl ?_
      refine ls_invV (a := 92) f_235_12 q_235_359 [] [] rfl (Nat.le_of_ble_eq_true rfl) hl S_92 ow_234 ?_
      refine ls_call hyp hl (fun _ h1 hl1 hyp => ?_)
      refine ls_retV hyp (fun hyp => ?_)
      refine ls_iload_n f_235_15 rfl ?_
      refine ls_if_ne 26 f_235_16 rfl hyp (fun _ hyp => ?_) (fun _ hyp => ?_)
      · refine ls_aload_n f_235_19 rfl ?_
        refine ls_getI f_235_20 p_235_350 hl1 S_92 ?_
        refine ls_goto 38 f_235_23 rfl ?_
        exact ls_ireturn f_235_38 rI_235 hyp
      · refine ls_aload_n f_235_26 rfl ?_
        refine ls_getI f_235_27 p_235_353 hl1 S_92 ?_
        refine ls_if_eq 37 f_235_30 rfl hyp (fun _ hyp => ?_) (fun _ hyp => ?_)
        · refine ls_iconst 1 f_235_37 (by decide) ?_
          exact ls_ireturn f_235_38 rI_235 hyp
        · refine ls_iconst 0 f_235_33 (by decide) ?_
          refine ls_goto 38 f_235_34 rfl ?_
          exact ls_ireturn f_235_38 rI_235 hyp
theorem e_236 {d : Nat} {h : lm_H} {K : Int32 → lm_H → Prop} (x1 : Int32) (hl : lm_Lay h) (hyp : (if x1 < 0 then (K (-1) h) else (if ((lm_i h 94 81) - 1) < x1 then (K (-1) h) else (lm_call (d + 2) 234 [.ref 92] h (lm_kV fun h1 => lm_in x1 5 False (if (lm_i h1 107 x1.toNatClampNeg) = (lm_i h1 94 82) then (K (-1) h1) else (lm_in x1 5 False (K (lm_i h1 107 x1.toNatClampNeg) h1)))))))) : lm_call (d + 3) 236 [.ref 92, .int x1] h (lm_kI K) := by
  refine ls_enter [some (.ref 92), some (.int x1)] ml_236 (Nat.le_of_ble_eq_true rfl) rfl ?_
  refine ls_aload_n f_236_0 rfl ?_
  refine ls_iload_n f_236_1 rfl ?_
  refine ls_invV (a := 92) f_236_2 q_236_132 [.int x1] [] rfl (Nat.le_of_ble_eq_true rfl) hl S_92 ow_162 ?_
  refine ls_enter [some (.ref 92), some (.int x1)] ml_162 (Nat.le_of_ble_eq_true rfl) rfl ?_
  refine ls_iload_n f_162_0 rfl ?_
  refine ls_iconst 0 f_162_1 (by decide) ?_
  refine ls_aload_n f_162_2 rfl ?_
  refine ls_invV (a := 92) f_162_3 q_162_122 [] [.int 0, .int x1] rfl (Nat.le_of_ble_eq_true rfl) hl S_92 ow_160 ?_
  refine ls_enter [some (.ref 92)] ml_160 (Nat.le_of_ble_eq_true rfl) rfl ?_
  refine ls_aload_n f_160_0 rfl ?_
  refine ls_getR f_160_1 p_160_25 hl S_92 F_92_3 ?_
  refine ls_bipush 81 f_160_4 (by decide) ?_
  refine ls_ialdC 81 f_160_6 hl S_94 ⟨by decide, by decide, by decide⟩ ?_
  refine ls_ireturn f_160_7 rI_160 ?_
  show lm_W _ _ _ _ [.int (lm_i h 94 81), .int 0, .int x1] _ _
  refine ls_iconst 1 f_162_6 (by decide) ?_
  refine ls_isub ((lm_i h 94 81) - 1) f_162_7 rfl ?_
  refine ls_invS f_162_8 q_162_115 [.int x1, .int 0, .int ((lm_i h 94 81) - 1)] [] rfl (Nat.le_of_ble_eq_true rfl) ?_
  refine ls_enter [some (.int x1), some (.int 0), some (.int ((lm_i h 94 81) - 1))] ml_152 (Nat.le_of_ble_eq_true rfl) rfl ?_
  refine ls_iload_n f_152_0 rfl ?_
  refine ls_iload_n f_152_1 rfl ?_
  refine ls_icmp_lt 14 f_152_2 rfl hyp (fun _ hyp => ?_) (fun _ hyp => ?_)
  · refine ls_iconst 0 f_152_14 (by decide) ?_
    refine ls_zreturn f_152_15 rZ_152 (by decide) ?_
    show lm_W _ _ _ _ [.int 0] _ _
    refine ls_zreturn f_162_11 rZ_162 (by decide) ?_
    show lm_W _ _ _ _ [.int 0] _ _
    refine ls_if_ne_T 10 f_236_5 rfl (by decide) ?_
    refine ls_iconst (-1) f_236_8 (by decide) ?_
    exact ls_ireturn f_236_9 rI_236 hyp
  · refine ls_iload_n f_152_5 rfl ?_
    refine ls_iload_n f_152_6 rfl ?_
    refine ls_icmp_gt 14 f_152_7 rfl hyp (fun _ hyp => ?_) (fun _ hyp => ?_)
    · refine ls_iconst 0 f_152_14 (by decide) ?_
      refine ls_zreturn f_152_15 rZ_152 (by decide) ?_
      show lm_W _ _ _ _ [.int 0] _ _
      refine ls_zreturn f_162_11 rZ_162 (by decide) ?_
      show lm_W _ _ _ _ [.int 0] _ _
      refine ls_if_ne_T 10 f_236_5 rfl (by decide) ?_
      refine ls_iconst (-1) f_236_8 (by decide) ?_
      exact ls_ireturn f_236_9 rI_236 hyp
    · refine ls_iconst 1 f_152_10 (by decide) ?_
      refine ls_goto 15 f_152_11 rfl ?_
      refine ls_zreturn f_152_15 rZ_152 (by decide) ?_
      show lm_W _ _ _ _ [.int 1] _ _
      refine ls_zreturn f_162_11 rZ_162 (by decide) ?_
      show lm_W _ _ _ _ [.int 1] _ _
      refine ls_if_ne_F 10 f_236_5 rfl (by decide) ?_
      refine ls_aload_n f_236_10 rfl ?_
      refine ls_invV (a := 92) f_236_11 q_236_359 [] [] rfl (Nat.le_of_ble_eq_true rfl) hl S_92 ow_234 ?_
      refine ls_call hyp hl (fun _ h1 hl1 hyp => ?_)
      refine ls_retV hyp (fun hyp => ?_)
      refine ls_aload_n f_236_14 rfl ?_
      refine ls_getR f_236_15 p_236_72 hl1 S_92 F_92_29 ?_
      refine ls_iload_n f_236_18 rfl ?_
      refine ls_iald f_236_19 hl1 S_107 hyp (fun hyp => ?_)
      refine ls_aload_n f_236_20 rfl ?_
      refine ls_invV (a := 92) f_236_21 q_236_126 [] [.int (lm_i h1 107 x1.toNatClampNeg)] rfl (Nat.le_of_ble_eq_true rfl) hl1 S_92 ow_161 ?_
      refine ls_enter [some (.ref 92)] ml_161 (Nat.le_of_ble_eq_true rfl) rfl ?_
      refine ls_aload_n f_161_0 rfl ?_
      refine ls_getR f_161_1 p_161_25 hl1 S_92 F_92_3 ?_
      refine ls_bipush 82 f_161_4 (by decide) ?_
      refine ls_ialdC 82 f_161_6 hl1 S_94 ⟨by decide, by decide, by decide⟩ ?_
      refine ls_ireturn f_161_7 rI_161 ?_
      show lm_W _ _ _ _ [.int (lm_i h1 94 82), .int (lm_i h1 107 x1.toNatClampNeg)] _ _
      refine ls_icmp_ne 31 f_236_24 rfl hyp (fun _ hyp => ?_) (fun _ hyp => ?_)
      · refine ls_iconst (-1) f_236_27 (by decide) ?_
        refine ls_goto 37 f_236_28 rfl ?_
        exact ls_ireturn f_236_37 rI_236 hyp
      · refine ls_aload_n f_236_31 rfl ?_
        refine ls_getR f_236_32 p_236_72 hl1 S_92 F_92_29 ?_
        refine ls_iload_n f_236_35 rfl ?_
        refine ls_iald f_236_36 hl1 S_107 hyp (fun hyp => ?_)
        exact ls_ireturn f_236_37 rI_236 hyp
theorem e_237 {d : Nat} {h : lm_H} {K : Int32 → lm_H → Prop} (x1 : Int32) (hl : lm_Lay h) (hyp : lm_call (d + 1) 212 [.ref 92] h (lm_kV fun h1 => lm_W (d + 1) 237 8 [some (.ref 92), some (.int x1), some (.int 1), some (.int 0), none, none, none] [] h1 (lm_kI K))) : lm_call (d + 2) 237 [.ref 92, .int x1] h (lm_kI K) := by
  refine ls_enter [some (.ref 92), some (.int x1), none, none, none, none, none] ml_237 (Nat.le_of_ble_eq_true rfl) rfl ?_
  refine ls_aload_n f_237_0 rfl ?_
  refine ls_invV (a := 92) f_237_1 q_237_296 [] [] rfl (Nat.le_of_ble_eq_true rfl) hl S_92 ow_212 ?_
  refine ls_call hyp hl (fun _ h1 hl1 hyp => ?_)
  refine ls_retV hyp (fun hyp => ?_)
  refine ls_iconst 1 f_237_4 (by decide) ?_
  refine ls_istore_n [some (.ref 92), some (.int x1), some (.int 1), none, none, none, none] f_237_5 (Nat.le_of_ble_eq_true rfl) rfl ?_
  refine ls_iconst 0 f_237_6 (by decide) ?_
  refine ls_istore_n [some (.ref 92), some (.int x1), some (.int 1), some (.int 0), none, none, none] f_237_7 (Nat.le_of_ble_eq_true rfl) rfl ?_
  exact hyp
theorem b_237_8 {d : Nat} {h : lm_H} {K : Int32 → lm_H → Prop} (x1 : Int32) (x2 : Int32) (x3 : Int32) (hl : lm_Lay h) (hyp : (if x3 < (lm_i h 94 81) then (lm_call (d + 1) 214 [.ref 92, .int x3] h (lm_kI fun r2 h1 => lm_in x3 5 False (if ((x1 >>> (x3 &&& 31)) &&& 1) = 1 then (lm_W (d + 1) 237 8 [some (.ref 92), some (.int x1), some (.int (x2 * ((lm_i h1 94 82) + 1))), some (.int (x3 + 1)), none, none, none] [] (lm_si h1 110 x3.toNatClampNeg r2) (lm_kI K)) else (lm_W (d + 1) 237 8 [some (.ref 92), some (.int x1), some (.int (x2 * 1)), some (.int (x3 + 1)), none, none, none] [] (lm_si h1 110 x3.toNatClampNeg r2) (lm_kI K))))) else (lm_W (d + 1) 237 56 [some (.ref 92), some (.int x1), some (.int x2), some (.int 0), none, none, none] [] h (lm_kI K)))) : lm_W (d + 1) 237 8 [some (.ref 92), some (.int x1), some (.int x2), some (.int x3), none, none, none] [] h (lm_kI K) := by
  refine ls_iload_n f_237_8 rfl ?_
  refine ls_aload_n f_237_9 rfl ?_
  refine ls_invV (a := 92) f_237_10 q_237_122 [] [.int x3] rfl (Nat.le_of_ble_eq_true rfl) hl S_92 ow_160 ?_
  refine ls_enter [some (.ref 92)] ml_160 (Nat.le_of_ble_eq_true rfl) rfl ?_
  refine ls_aload_n f_160_0 rfl ?_
  refine ls_getR f_160_1 p_160_25 hl S_92 F_92_3 ?_
  refine ls_bipush 81 f_160_4 (by decide) ?_
  refine ls_ialdC 81 f_160_6 hl S_94 ⟨by decide, by decide, by decide⟩ ?_
  refine ls_ireturn f_160_7 rI_160 ?_
  show lm_W _ _ _ _ [.int (lm_i h 94 81), .int x3] _ _
  refine ls_icmp_ge 54 f_237_13 rfl hyp (fun _ hyp => ?_) (fun _ hyp => ?_)
  · refine ls_aload_n f_237_16 rfl ?_
    refine ls_getR f_237_17 p_237_84 hl S_92 F_92_43 ?_
    refine ls_iload_n f_237_20 rfl ?_
    refine ls_aload_n f_237_21 rfl ?_
    refine ls_iload_n f_237_22 rfl ?_
    refine ls_invV (a := 92) f_237_23 q_237_293 [.int x3] [.int x3, .ref 110] rfl (Nat.le_of_ble_eq_true rfl) hl S_92 ow_214 ?_
    refine ls_call hyp hl (fun _ h1 hl1 hyp => ?_)
    refine ls_retI hyp (fun r2 hyp => ?_)
    refine ls_iast f_237_26 hl1 S_110 hyp (fun hyp => ?_)
    refine ls_iload_n f_237_27 rfl ?_
    refine ls_iload_n f_237_28 rfl ?_
    refine ls_iload_n f_237_29 rfl ?_
    refine ls_invS f_237_30 q_237_341 [.int x1, .int x3] [.int x2] rfl (Nat.le_of_ble_eq_true rfl) ?_
    refine ls_enter [some (.int x1), some (.int x3)] ml_156 (Nat.le_of_ble_eq_true rfl) rfl ?_
    refine ls_iload_n f_156_0 rfl ?_
    refine ls_iload_n f_156_1 rfl ?_
    refine ls_ishr (x1 >>> (x3 &&& 31)) f_156_2 rfl ?_
    refine ls_iconst 1 f_156_3 (by decide) ?_
    refine ls_iand ((x1 >>> (x3 &&& 31)) &&& 1) f_156_4 rfl ?_
    refine ls_iconst 1 f_156_5 (by decide) ?_
    refine ls_icmp_ne 13 f_156_6 rfl hyp (fun _ hyp => ?_) (fun _ hyp => ?_)
    · refine ls_iconst 1 f_156_9 (by decide) ?_
      refine ls_goto 14 f_156_10 rfl ?_
      refine ls_zreturn f_156_14 rZ_156 (by decide) ?_
      show lm_W _ _ _ _ [.int 1, .int x2] _ _
      refine ls_if_eq_F 45 f_237_33 rfl (by decide) ?_
      refine ls_aload_n f_237_36 rfl ?_
      refine ls_invV (a := 92) f_237_37 q_237_126 [] [.int x2] rfl (Nat.le_of_ble_eq_true rfl) (lm_Lay_si hl1 _ _ _) S_92 ow_161 ?_
      refine ls_enter [some (.ref 92)] ml_161 (Nat.le_of_ble_eq_true rfl) rfl ?_
      refine ls_aload_n f_161_0 rfl ?_
      refine ls_getR f_161_1 p_161_25 (lm_Lay_si hl1 _ _ _) S_92 F_92_3 ?_
      refine ls_bipush 82 f_161_4 (by decide) ?_
      refine ls_ialdC 82 f_161_6 (lm_Lay_si hl1 _ _ _) S_94 ⟨by decide, by decide, by decide⟩ ?_
      refine ls_top (lm_i h1 94 82) rfl ?_
      refine ls_ireturn f_161_7 rI_161 ?_
      show lm_W _ _ _ _ [.int (lm_i h1 94 82), .int x2] _ _
      refine ls_iconst 1 f_237_40 (by decide) ?_
      refine ls_iadd ((lm_i h1 94 82) + 1) f_237_41 rfl ?_
      refine ls_goto 46 f_237_42 rfl ?_
      refine ls_imul (x2 * ((lm_i h1 94 82) + 1)) f_237_46 rfl ?_
      refine ls_istore_n [some (.ref 92), some (.int x1), some (.int (x2 * ((lm_i h1 94 82) + 1))), some (.int x3), none, none, none] f_237_47 (Nat.le_of_ble_eq_true rfl) rfl ?_
      refine ls_iinc (x3 + 1) [some (.ref 92), some (.int x1), some (.int (x2 * ((lm_i h1 94 82) + 1))), some (.int (x3 + 1)), none, none, none] f_237_48 rfl (Nat.le_of_ble_eq_true rfl) rfl rfl ?_
      refine ls_goto 8 f_237_51 rfl ?_
      exact hyp
    · refine ls_iconst 0 f_156_13 (by decide) ?_
      refine ls_zreturn f_156_14 rZ_156 (by decide) ?_
      show lm_W _ _ _ _ [.int 0, .int x2] _ _
      refine ls_if_eq_T 45 f_237_33 rfl (by decide) ?_
      refine ls_iconst 1 f_237_45 (by decide) ?_
      refine ls_imul (x2 * 1) f_237_46 rfl ?_
      refine ls_istore_n [some (.ref 92), some (.int x1), some (.int (x2 * 1)), some (.int x3), none, none, none] f_237_47 (Nat.le_of_ble_eq_true rfl) rfl ?_
      refine ls_iinc (x3 + 1) [some (.ref 92), some (.int x1), some (.int (x2 * 1)), some (.int (x3 + 1)), none, none, none] f_237_48 rfl (Nat.le_of_ble_eq_true rfl) rfl rfl ?_
      refine ls_goto 8 f_237_51 rfl ?_
      exact hyp
  · refine ls_iconst 0 f_237_54 (by decide) ?_
    refine ls_istore_n [some (.ref 92), some (.int x1), some (.int x2), some (.int 0), none, none, none] f_237_55 (Nat.le_of_ble_eq_true rfl) rfl ?_
    exact hyp
theorem b_237_56 {d : Nat} {h : lm_H} {K : Int32 → lm_H → Prop} (x1 : Int32) (x2 : Int32) (x3 : Int32) (hl : lm_Lay h) (hyp : (if x3 < x2 then (lm_W (d + 1) 237 70 [some (.ref 92), some (.int x1), some (.int x2), some (.int x3), some (.int x3), some (.int 1), some (.int 0)] [] h (lm_kI K)) else (K 0 h))) : lm_W (d + 1) 237 56 [some (.ref 92), some (.int x1), some (.int x2), some (.int x3), none, none, none] [] h (lm_kI K) := by
  refine ls_iload_n f_237_56 rfl ?_
  refine ls_iload_n f_237_57 rfl ?_
  refine ls_icmp_ge 220 f_237_58 rfl hyp (fun _ hyp => ?_) (fun _ hyp => ?_)
  · refine ls_iload_n f_237_61 rfl ?_
    refine ls_istore [some (.ref 92), some (.int x1), some (.int x2), some (.int x3), some (.int x3), none, none] f_237_62 (Nat.le_of_ble_eq_true rfl) rfl ?_
    refine ls_iconst 1 f_237_64 (by decide) ?_
    refine ls_istore [some (.ref 92), some (.int x1), some (.int x2), some (.int x3), some (.int x3), some (.int 1), none] f_237_65 (Nat.le_of_ble_eq_true rfl) rfl ?_
    refine ls_iconst 0 f_237_67 (by decide) ?_
    refine ls_istore [some (.ref 92), some (.int x1), some (.int x2), some (.int x3), some (.int x3), some (.int 1), some (.int 0)] f_237_68 (Nat.le_of_ble_eq_true rfl) rfl ?_
    exact hyp
  · refine ls_iconst 0 f_237_220 (by decide) ?_
    exact ls_zreturn f_237_221 rZ_237 (by decide) hyp
theorem b_237_70 {d : Nat} {h : lm_H} {K : Int32 → lm_H → Prop} (x1 : Int32) (x2 : Int32) (x3 : Int32) (x4 : Int32) (x5 : Int32) (x6 : Int32) (hl : lm_Lay h) (hyp : (if x6 < (lm_i h 94 81) then (if ((x1 >>> (x6 &&& 31)) &&& 1) = 1 then ((¬ ((lm_i h 94 82) + 1) = 0) ∧ (lm_in x6 5 False ((¬ ((lm_i h 94 82) + 1) = 0) ∧ ((if x5 = 0 then (lm_W (d + 1) 237 70 [some (.ref 92), some (.int x1), some (.int x2), some (.int x3), some (.int (x4 / ((lm_i h 94 82) + 1))), some (.int 0), some (.int (x6 + 1))] [] (lm_si h 107 x6.toNatClampNeg (x4 - x4 / ((lm_i h 94 82) + 1) * ((lm_i h 94 82) + 1))) (lm_kI K)) else (lm_in x6 5 False (lm_call (d + 1) 210 [.ref 92, .int x6, .int (x4 - x4 / ((lm_i h 94 82) + 1) * ((lm_i h 94 82) + 1))] (lm_si h 107 x6.toNatClampNeg (x4 - x4 / ((lm_i h 94 82) + 1) * ((lm_i h 94 82) + 1))) (lm_kI fun r2 h1 => (if r2 = 0 then (lm_W (d + 1) 237 70 [some (.ref 92), some (.int x1), some (.int x2), some (.int x3), some (.int (x4 / ((lm_i h 94 82) + 1))), some (.int 0), some (.int (x6 + 1))] [] h1 (lm_kI K)) else (lm_W (d + 1) 237 70 [some (.ref 92), some (.int x1), some (.int x2), some (.int x3), some (.int (x4 / ((lm_i h 94 82) + 1))), some (.int 1), some (.int (x6 + 1))] [] h1 (lm_kI K))))))))))) else (lm_W (d + 1) 237 70 [some (.ref 92), some (.int x1), some (.int x2), some (.int x3), some (.int x4), some (.int x5), some (.int (x6 + 1))] [] h (lm_kI K))) else (lm_W (d + 1) 237 155 [some (.ref 92), some (.int x1), some (.int x2), some (.int x3), none, some (.int x5), some (.int 0)] [] h (lm_kI K)))) : lm_W (d + 1) 237 70 [some (.ref 92), some (.int x1), some (.int x2), some (.int x3), some (.int x4), some (.int x5), some (.int x6)] [] h (lm_kI K) := by
  refine ls_iload f_237_70 rfl ?_
  refine ls_aload_n f_237_72 rfl ?_
  refine ls_invV (a := 92) f_237_73 q_237_122 [] [.int x6] rfl (Nat.le_of_ble_eq_true rfl) hl S_92 ow_160 ?_
  refine ls_enter [some (.ref 92)] ml_160 (Nat.le_of_ble_eq_true rfl) rfl ?_
  refine ls_aload_n f_160_0 rfl ?_
  refine ls_getR f_160_1 p_160_25 hl S_92 F_92_3 ?_
  refine ls_bipush 81 f_160_4 (by decide) ?_
  refine ls_ialdC 81 f_160_6 hl S_94 ⟨by decide, by decide, by decide⟩ ?_
  refine ls_ireturn f_160_7 rI_160 ?_
  show lm_W _ _ _ _ [.int (lm_i h 94 81), .int x6] _ _
  refine ls_icmp_ge 152 f_237_76 rfl hyp (fun _ hyp => ?_) (fun _ hyp => ?_)
  · refine ls_iload_n f_237_79 rfl ?_
    refine ls_iload f_237_80 rfl ?_
    refine ls_invS f_237_82 q_237_341 [.int x1, .int x6] [] rfl (Nat.le_of_ble_eq_true rfl) ?_
    refine ls_enter [some (.int x1), some (.int x6)] ml_156 (Nat.le_of_ble_eq_true rfl) rfl ?_
    refine ls_iload_n f_156_0 rfl ?_
    refine ls_iload_n f_156_1 rfl ?_
    refine ls_ishr (x1 >>> (x6 &&& 31)) f_156_2 rfl ?_
    refine ls_iconst 1 f_156_3 (by decide) ?_
    refine ls_iand ((x1 >>> (x6 &&& 31)) &&& 1) f_156_4 rfl ?_
    refine ls_iconst 1 f_156_5 (by decide) ?_
    refine ls_icmp_ne 13 f_156_6 rfl hyp (fun _ hyp => ?_) (fun _ hyp => ?_)
    · refine ls_iconst 1 f_156_9 (by decide) ?_
      refine ls_goto 14 f_156_10 rfl ?_
      refine ls_zreturn f_156_14 rZ_156 (by decide) ?_
      show lm_W _ _ _ _ [.int 1] _ _
      refine ls_if_ne_F 91 f_237_85 rfl (by decide) ?_
      refine ls_aload_n f_237_91 rfl ?_
      refine ls_getR f_237_92 p_237_72 hl S_92 F_92_29 ?_
      refine ls_iload f_237_95 rfl ?_
      refine ls_iload f_237_97 rfl ?_
      refine ls_aload_n f_237_99 rfl ?_
      refine ls_invV (a := 92) f_237_100 q_237_126 [] [.int x4, .int x6, .ref 107] rfl (Nat.le_of_ble_eq_true rfl) hl S_92 ow_161 ?_
      refine ls_enter [some (.ref 92)] ml_161 (Nat.le_of_ble_eq_true rfl) rfl ?_
      refine ls_aload_n f_161_0 rfl ?_
      refine ls_getR f_161_1 p_161_25 hl S_92 F_92_3 ?_
      refine ls_bipush 82 f_161_4 (by decide) ?_
      refine ls_ialdC 82 f_161_6 hl S_94 ⟨by decide, by decide, by decide⟩ ?_
      refine ls_ireturn f_161_7 rI_161 ?_
      show lm_W _ _ _ _ [.int (lm_i h 94 82), .int x4, .int x6, .ref 107] _ _
      refine ls_iconst 1 f_237_103 (by decide) ?_
      refine ls_iadd ((lm_i h 94 82) + 1) f_237_104 rfl ?_
      refine ls_irem (x4 - x4 / ((lm_i h 94 82) + 1) * ((lm_i h 94 82) + 1)) f_237_105 hyp.1 rfl ?_
      replace hyp := hyp.2
      refine ls_iast f_237_106 hl S_107 hyp (fun hyp => ?_)
      refine ls_iload f_237_107 rfl ?_
      refine ls_aload_n f_237_109 rfl ?_
      refine ls_invV (a := 92) f_237_110 q_237_126 [] [.int x4] rfl (Nat.le_of_ble_eq_true rfl) (lm_Lay_si hl _ _ _) S_92 ow_161 ?_
      refine ls_enter [some (.ref 92)] ml_161 (Nat.le_of_ble_eq_true rfl) rfl ?_
      refine ls_aload_n f_161_0 rfl ?_
      refine ls_getR f_161_1 p_161_25 (lm_Lay_si hl _ _ _) S_92 F_92_3 ?_
      refine ls_bipush 82 f_161_4 (by decide) ?_
      refine ls_ialdC 82 f_161_6 (lm_Lay_si hl _ _ _) S_94 ⟨by decide, by decide, by decide⟩ ?_
      refine ls_top (lm_i h 94 82) rfl ?_
      refine ls_ireturn f_161_7 rI_161 ?_
      show lm_W _ _ _ _ [.int (lm_i h 94 82), .int x4] _ _
      refine ls_iconst 1 f_237_113 (by decide) ?_
      refine ls_iadd ((lm_i h 94 82) + 1) f_237_114 rfl ?_
      refine ls_idiv (x4 / ((lm_i h 94 82) + 1)) f_237_115 hyp.1 rfl ?_
      replace hyp := hyp.2
      refine ls_istore [some (.ref 92), some (.int x1), some (.int x2), some (.int x3), some (.int (x4 / ((lm_i h 94 82) + 1))), some (.int x5), some (.int x6)] f_237_116 (Nat.le_of_ble_eq_true rfl) rfl ?_
      refine ls_iload f_237_118 rfl ?_
      refine ls_if_eq 143 f_237_120 rfl hyp (fun _ hyp => ?_) (fun _ hyp => ?_)
      · refine ls_iconst 0 f_237_143 (by decide) ?_
        refine ls_istore [some (.ref 92), some (.int x1), some (.int x2), some (.int x3), some (.int (x4 / ((lm_i h 94 82) + 1))), some (.int 0), some (.int x6)] f_237_144 (Nat.le_of_ble_eq_true rfl) rfl ?_
        refine ls_iinc (x6 + 1) [some (.ref 92), some (.int x1), some (.int x2), some (.int x3), some (.int (x4 / ((lm_i h 94 82) + 1))), some (.int 0), some (.int (x6 + 1))] f_237_146 rfl (Nat.le_of_ble_eq_true rfl) rfl rfl ?_
        refine ls_goto 70 f_237_149 rfl ?_
        exact hyp
      · refine ls_aload_n f_237_123 rfl ?_
        refine ls_iload f_237_124 rfl ?_
        refine ls_aload_n f_237_126 rfl ?_
        refine ls_getR f_237_127 p_237_72 (lm_Lay_si hl _ _ _) S_92 F_92_29 ?_
        refine ls_iload f_237_130 rfl ?_
        refine ls_iald f_237_132 (lm_Lay_si hl _ _ _) S_107 hyp (fun hyp => ?_)
        refine ls_top (x4 - x4 / ((lm_i h 94 82) + 1) * ((lm_i h 94 82) + 1)) lm_iE ?_
        refine ls_invV (a := 92) f_237_133 q_237_283 [.int x6, .int (x4 - x4 / ((lm_i h 94 82) + 1) * ((lm_i h 94 82) + 1))] [] rfl (Nat.le_of_ble_eq_true rfl) (lm_Lay_si hl _ _ _) S_92 ow_210 ?_
        refine ls_call hyp (lm_Lay_si hl _ _ _) (fun _ h1 hl1 hyp => ?_)
        refine ls_retI hyp (fun r2 hyp => ?_)
        refine ls_if_eq 143 f_237_136 rfl hyp (fun _ hyp => ?_) (fun _ hyp => ?_)
        · refine ls_iconst 0 f_237_143 (by decide) ?_
          refine ls_istore [some (.ref 92), some (.int x1), some (.int x2), some (.int x3), some (.int (x4 / ((lm_i h 94 82) + 1))), some (.int 0), some (.int x6)] f_237_144 (Nat.le_of_ble_eq_true rfl) rfl ?_
          refine ls_iinc (x6 + 1) [some (.ref 92), some (.int x1), some (.int x2), some (.int x3), some (.int (x4 / ((lm_i h 94 82) + 1))), some (.int 0), some (.int (x6 + 1))] f_237_146 rfl (Nat.le_of_ble_eq_true rfl) rfl rfl ?_
          refine ls_goto 70 f_237_149 rfl ?_
          exact hyp
        · refine ls_iconst 1 f_237_139 (by decide) ?_
          refine ls_goto 144 f_237_140 rfl ?_
          refine ls_istore [some (.ref 92), some (.int x1), some (.int x2), some (.int x3), some (.int (x4 / ((lm_i h 94 82) + 1))), some (.int 1), some (.int x6)] f_237_144 (Nat.le_of_ble_eq_true rfl) rfl ?_
          refine ls_iinc (x6 + 1) [some (.ref 92), some (.int x1), some (.int x2), some (.int x3), some (.int (x4 / ((lm_i h 94 82) + 1))), some (.int 1), some (.int (x6 + 1))] f_237_146 rfl (Nat.le_of_ble_eq_true rfl) rfl rfl ?_
          refine ls_goto 70 f_237_149 rfl ?_
          exact hyp
    · refine ls_iconst 0 f_156_13 (by decide) ?_
      refine ls_zreturn f_156_14 rZ_156 (by decide) ?_
      show lm_W _ _ _ _ [.int 0] _ _
      refine ls_if_ne_T 91 f_237_85 rfl (by decide) ?_
      refine ls_goto 146 f_237_88 rfl ?_
      refine ls_iinc (x6 + 1) [some (.ref 92), some (.int x1), some (.int x2), some (.int x3), some (.int x4), some (.int x5), some (.int (x6 + 1))] f_237_146 rfl (Nat.le_of_ble_eq_true rfl) rfl rfl ?_
      refine ls_goto 70 f_237_149 rfl ?_
      exact hyp
  · refine ls_iconst 0 f_237_152 (by decide) ?_
    refine ls_istore [some (.ref 92), some (.int x1), some (.int x2), some (.int x3), some (.int x4), some (.int x5), some (.int 0)] f_237_153 (Nat.le_of_ble_eq_true rfl) rfl ?_
    exact ls_mask [true, true, true, true, false, true, true] [some (.ref 92), some (.int x1), some (.int x2), some (.int x3), none, some (.int x5), some (.int 0)] rfl hyp
theorem b_237_155 {d : Nat} {h : lm_H} {K : Int32 → lm_H → Prop} (x1 : Int32) (x2 : Int32) (x3 : Int32) (x5 : Int32) (x6 : Int32) (hl : lm_Lay h) (hyp : (if x6 < (lm_i h 94 81) then (if x5 = 0 then (if x5 = 0 then (lm_W (d + 1) 237 56 [some (.ref 92), some (.int x1), some (.int x2), some (.int (x3 + 1)), none, none, none] [] h (lm_kI K)) else (K 1 h)) else (if ((x1 >>> (x6 &&& 31)) &&& 1) = 1 then (lm_call (d + 1) 214 [.ref 92, .int x6] h (lm_kI fun r2 h1 => lm_in x6 5 False (if (lm_i h1 110 x6.toNatClampNeg) < r2 then (lm_W (d + 1) 237 155 [some (.ref 92), some (.int x1), some (.int x2), some (.int x3), none, some (.int 1), some (.int (x6 + 1))] [] h1 (lm_kI K)) else (lm_W (d + 1) 237 155 [some (.ref 92), some (.int x1), some (.int x2), some (.int x3), none, some (.int 0), some (.int (x6 + 1))] [] h1 (lm_kI K))))) else (lm_W (d + 1) 237 155 [some (.ref 92), some (.int x1), some (.int x2), some (.int x3), none, some (.int 1), some (.int (x6 + 1))] [] h (lm_kI K)))) else (if x5 = 0 then (lm_W (d + 1) 237 56 [some (.ref 92), some (.int x1), some (.int x2), some (.int (x3 + 1)), none, none, none] [] h (lm_kI K)) else (K 1 h)))) : lm_W (d + 1) 237 155 [some (.ref 92), some (.int x1), some (.int x2), some (.int x3), none, some (.int x5), some (.int x6)] [] h (lm_kI K) := by
  refine ls_iload f_237_155 rfl ?_
  refine ls_aload_n f_237_157 rfl ?_
  refine ls_invV (a := 92) f_237_158 q_237_122 [] [.int x6] rfl (Nat.le_of_ble_eq_true rfl) hl S_92 ow_160 ?_
  refine ls_enter [some (.ref 92)] ml_160 (Nat.le_of_ble_eq_true rfl) rfl ?_
  refine ls_aload_n f_160_0 rfl ?_
  refine ls_getR f_160_1 p_160_25 hl S_92 F_92_3 ?_
  refine ls_bipush 81 f_160_4 (by decide) ?_
  refine ls_ialdC 81 f_160_6 hl S_94 ⟨by decide, by decide, by decide⟩ ?_
  refine ls_ireturn f_160_7 rI_160 ?_
  show lm_W _ _ _ _ [.int (lm_i h 94 81), .int x6] _ _
  refine ls_icmp_ge 207 f_237_161 rfl hyp (fun _ hyp => ?_) (fun _ hyp => ?_)
  · refine ls_iload f_237_164 rfl ?_
    refine ls_if_eq 207 f_237_166 rfl hyp (fun _ hyp => ?_) (fun _ hyp => ?_)
    · refine ls_iload f_237_207 rfl ?_
      refine ls_if_eq 214 f_237_209 rfl hyp (fun _ hyp => ?_) (fun _ hyp => ?_)
      · refine ls_iinc (x3 + 1) [some (.ref 92), some (.int x1), some (.int x2), some (.int (x3 + 1)), none, some (.int x5), some (.int x6)] f_237_214 rfl (Nat.le_of_ble_eq_true rfl) rfl rfl ?_
        refine ls_goto 56 f_237_217 rfl ?_
        exact ls_mask [true, true, true, true, false, false, false] [some (.ref 92), some (.int x1), some (.int x2), some (.int (x3 + 1)), none, none, none] rfl hyp
      · refine ls_iconst 1 f_237_212 (by decide) ?_
        exact ls_zreturn f_237_213 rZ_237 (by decide) hyp
    · refine ls_iload_n f_237_169 rfl ?_
      refine ls_iload f_237_170 rfl ?_
      refine ls_invS f_237_172 q_237_341 [.int x1, .int x6] [] rfl (Nat.le_of_ble_eq_true rfl) ?_
      refine ls_enter [some (.int x1), some (.int x6)] ml_156 (Nat.le_of_ble_eq_true rfl) rfl ?_
      refine ls_iload_n f_156_0 rfl ?_
      refine ls_iload_n f_156_1 rfl ?_
      refine ls_ishr (x1 >>> (x6 &&& 31)) f_156_2 rfl ?_
      refine ls_iconst 1 f_156_3 (by decide) ?_
      refine ls_iand ((x1 >>> (x6 &&& 31)) &&& 1) f_156_4 rfl ?_
      refine ls_iconst 1 f_156_5 (by decide) ?_
      refine ls_icmp_ne 13 f_156_6 rfl hyp (fun _ hyp => ?_) (fun _ hyp => ?_)
      · refine ls_iconst 1 f_156_9 (by decide) ?_
        refine ls_goto 14 f_156_10 rfl ?_
        refine ls_zreturn f_156_14 rZ_156 (by decide) ?_
        show lm_W _ _ _ _ [.int 1] _ _
        refine ls_if_eq_F 194 f_237_175 rfl (by decide) ?_
        refine ls_aload_n f_237_178 rfl ?_
        refine ls_iload f_237_179 rfl ?_
        refine ls_invV (a := 92) f_237_181 q_237_293 [.int x6] [] rfl (Nat.le_of_ble_eq_true rfl) hl S_92 ow_214 ?_
        refine ls_call hyp hl (fun _ h1 hl1 hyp => ?_)
        refine ls_retI hyp (fun r2 hyp => ?_)
        refine ls_aload_n f_237_184 rfl ?_
        refine ls_getR f_237_185 p_237_84 hl1 S_92 F_92_43 ?_
        refine ls_iload f_237_188 rfl ?_
        refine ls_iald f_237_190 hl1 S_110 hyp (fun hyp => ?_)
        refine ls_icmp_le 198 f_237_191 rfl hyp (fun _ hyp => ?_) (fun _ hyp => ?_)
        · refine ls_iconst 1 f_237_194 (by decide) ?_
          refine ls_goto 199 f_237_195 rfl ?_
          refine ls_istore [some (.ref 92), some (.int x1), some (.int x2), some (.int x3), none, some (.int 1), some (.int x6)] f_237_199 (Nat.le_of_ble_eq_true rfl) rfl ?_
          refine ls_iinc (x6 + 1) [some (.ref 92), some (.int x1), some (.int x2), some (.int x3), none, some (.int 1), some (.int (x6 + 1))] f_237_201 rfl (Nat.le_of_ble_eq_true rfl) rfl rfl ?_
          refine ls_goto 155 f_237_204 rfl ?_
          exact hyp
        · refine ls_iconst 0 f_237_198 (by decide) ?_
          refine ls_istore [some (.ref 92), some (.int x1), some (.int x2), some (.int x3), none, some (.int 0), some (.int x6)] f_237_199 (Nat.le_of_ble_eq_true rfl) rfl ?_
          refine ls_iinc (x6 + 1) [some (.ref 92), some (.int x1), some (.int x2), some (.int x3), none, some (.int 0), some (.int (x6 + 1))] f_237_201 rfl (Nat.le_of_ble_eq_true rfl) rfl rfl ?_
          refine ls_goto 155 f_237_204 rfl ?_
          exact hyp
      · refine ls_iconst 0 f_156_13 (by decide) ?_
        refine ls_zreturn f_156_14 rZ_156 (by decide) ?_
        show lm_W _ _ _ _ [.int 0] _ _
        refine ls_if_eq_T 194 f_237_175 rfl (by decide) ?_
        refine ls_iconst 1 f_237_194 (by decide) ?_
        refine ls_goto 199 f_237_195 rfl ?_
        refine ls_istore [some (.ref 92), some (.int x1), some (.int x2), some (.int x3), none, some (.int 1), some (.int x6)] f_237_199 (Nat.le_of_ble_eq_true rfl) rfl ?_
        refine ls_iinc (x6 + 1) [some (.ref 92), some (.int x1), some (.int x2), some (.int x3), none, some (.int 1), some (.int (x6 + 1))] f_237_201 rfl (Nat.le_of_ble_eq_true rfl) rfl rfl ?_
        refine ls_goto 155 f_237_204 rfl ?_
        exact hyp
  · refine ls_iload f_237_207 rfl ?_
    refine ls_if_eq 214 f_237_209 rfl hyp (fun _ hyp => ?_) (fun _ hyp => ?_)
    · refine ls_iinc (x3 + 1) [some (.ref 92), some (.int x1), some (.int x2), some (.int (x3 + 1)), none, some (.int x5), some (.int x6)] f_237_214 rfl (Nat.le_of_ble_eq_true rfl) rfl rfl ?_
      refine ls_goto 56 f_237_217 rfl ?_
      exact ls_mask [true, true, true, true, false, false, false] [some (.ref 92), some (.int x1), some (.int x2), some (.int (x3 + 1)), none, none, none] rfl hyp
    · refine ls_iconst 1 f_237_212 (by decide) ?_
      exact ls_zreturn f_237_213 rZ_237 (by decide) hyp
theorem e_238 {d : Nat} {h : lm_H} {K : Int32 → lm_H → Prop} (x1 : Int32) (hl : lm_Lay h) (hyp : (if x1 < 1 then (K (-1) h) else (if (((1 : Int32) <<< ((lm_i h 94 81) &&& 31)) - 1) < x1 then (K (-1) h) else (lm_call (d + 1) 208 [.ref 92] h (lm_kV fun h1 => lm_call (d + 1) 237 [.ref 92, .int x1] h1 (lm_kI fun r3 h2 => (if r3 = 0 then (K 0 h2) else (K 1 h2)))))))) : lm_call (d + 2) 238 [.ref 92, .int x1] h (lm_kI K) := by
  refine ls_enter [some (.ref 92), some (.int x1)] ml_238 (Nat.le_of_ble_eq_true rfl) rfl ?_
  refine ls_iload_n f_238_0 rfl ?_
  refine ls_iconst 1 f_238_1 (by decide) ?_
  refine ls_iconst 1 f_238_2 (by decide) ?_
  refine ls_aload_n f_238_3 rfl ?_
  refine ls_invV (a := 92) f_238_4 q_238_122 [] [.int 1, .int 1, .int x1] rfl (Nat.le_of_ble_eq_true rfl) hl S_92 ow_160 ?_
  refine ls_enter [some (.ref 92)] ml_160 (Nat.le_of_ble_eq_true rfl) rfl ?_
  refine ls_aload_n f_160_0 rfl ?_
  refine ls_getR f_160_1 p_160_25 hl S_92 F_92_3 ?_
  refine ls_bipush 81 f_160_4 (by decide) ?_
  refine ls_ialdC 81 f_160_6 hl S_94 ⟨by decide, by decide, by decide⟩ ?_
  refine ls_ireturn f_160_7 rI_160 ?_
  show lm_W _ _ _ _ [.int (lm_i h 94 81), .int 1, .int 1, .int x1] _ _
  refine ls_ishl ((1 : Int32) <<< ((lm_i h 94 81) &&& 31)) f_238_7 rfl ?_
  refine ls_iconst 1 f_238_8 (by decide) ?_
  refine ls_isub (((1 : Int32) <<< ((lm_i h 94 81) &&& 31)) - 1) f_238_9 rfl ?_
  refine ls_invS f_238_10 q_238_115 [.int x1, .int 1, .int (((1 : Int32) <<< ((lm_i h 94 81) &&& 31)) - 1)] [] rfl (Nat.le_of_ble_eq_true rfl) ?_
  refine ls_enter [some (.int x1), some (.int 1), some (.int (((1 : Int32) <<< ((lm_i h 94 81) &&& 31)) - 1))] ml_152 (Nat.le_of_ble_eq_true rfl) rfl ?_
  refine ls_iload_n f_152_0 rfl ?_
  refine ls_iload_n f_152_1 rfl ?_
  refine ls_icmp_lt 14 f_152_2 rfl hyp (fun _ hyp => ?_) (fun _ hyp => ?_)
  · refine ls_iconst 0 f_152_14 (by decide) ?_
    refine ls_zreturn f_152_15 rZ_152 (by decide) ?_
    show lm_W _ _ _ _ [.int 0] _ _
    refine ls_if_ne_T 18 f_238_13 rfl (by decide) ?_
    refine ls_iconst (-1) f_238_16 (by decide) ?_
    exact ls_ireturn f_238_17 rI_238 hyp
  · refine ls_iload_n f_152_5 rfl ?_
    refine ls_iload_n f_152_6 rfl ?_
    refine ls_icmp_gt 14 f_152_7 rfl hyp (fun _ hyp => ?_) (fun _ hyp => ?_)
    · refine ls_iconst 0 f_152_14 (by decide) ?_
      refine ls_zreturn f_152_15 rZ_152 (by decide) ?_
      show lm_W _ _ _ _ [.int 0] _ _
      refine ls_if_ne_T 18 f_238_13 rfl (by decide) ?_
      refine ls_iconst (-1) f_238_16 (by decide) ?_
      exact ls_ireturn f_238_17 rI_238 hyp
    · refine ls_iconst 1 f_152_10 (by decide) ?_
      refine ls_goto 15 f_152_11 rfl ?_
      refine ls_zreturn f_152_15 rZ_152 (by decide) ?_
      show lm_W _ _ _ _ [.int 1] _ _
      refine ls_if_ne_F 18 f_238_13 rfl (by decide) ?_
      refine ls_aload_n f_238_18 rfl ?_
      refine ls_invV (a := 92) f_238_19 q_238_280 [] [] rfl (Nat.le_of_ble_eq_true rfl) hl S_92 ow_208 ?_
      refine ls_call hyp hl (fun _ h1 hl1 hyp => ?_)
      refine ls_retV hyp (fun hyp => ?_)
      refine ls_aload_n f_238_22 rfl ?_
      refine ls_iload_n f_238_23 rfl ?_
      refine ls_invV (a := 92) f_238_24 q_238_362 [.int x1] [] rfl (Nat.le_of_ble_eq_true rfl) hl1 S_92 ow_237 ?_
      refine ls_call hyp hl1 (fun _ h2 hl2 hyp => ?_)
      refine ls_retI hyp (fun r3 hyp => ?_)
      refine ls_if_eq 34 f_238_27 rfl hyp (fun _ hyp => ?_) (fun _ hyp => ?_)
      · refine ls_iconst 0 f_238_34 (by decide) ?_
        exact ls_ireturn f_238_35 rI_238 hyp
      · refine ls_iconst 1 f_238_30 (by decide) ?_
        refine ls_goto 35 f_238_31 rfl ?_
        exact ls_ireturn f_238_35 rI_238 hyp
theorem e_239 {d : Nat} {h : lm_H} {K : Int32 → lm_H → Prop} (hl : lm_Lay h) (hyp : lm_call (d + 1) 208 [.ref 92] h (lm_kV fun h1 => lm_W (d + 1) 239 6 [some (.ref 92), some (.int 1)] [] h1 (lm_kI K))) : lm_call (d + 2) 239 [.ref 92] h (lm_kI K) := by
  refine ls_enter [some (.ref 92), none] ml_239 (Nat.le_of_ble_eq_true rfl) rfl ?_
  refine ls_aload_n f_239_0 rfl ?_
  refine ls_invV (a := 92) f_239_1 q_239_280 [] [] rfl (Nat.le_of_ble_eq_true rfl) hl S_92 ow_208 ?_
  refine ls_call hyp hl (fun _ h1 hl1 hyp => ?_)
  refine ls_retV hyp (fun hyp => ?_)
  refine ls_iconst 1 f_239_4 (by decide) ?_
  refine ls_istore_n [some (.ref 92), some (.int 1)] f_239_5 (Nat.le_of_ble_eq_true rfl) rfl ?_
  exact hyp
theorem b_239_6 {d : Nat} {h : lm_H} {K : Int32 → lm_H → Prop} (x1 : Int32) (hl : lm_Lay h) (hyp : (if x1 < ((1 : Int32) <<< ((lm_i h 94 81) &&& 31)) then (lm_call (d + 1) 237 [.ref 92, .int x1] h (lm_kI fun r2 h1 => (if r2 = 0 then (lm_W (d + 1) 239 6 [some (.ref 92), some (.int (x1 + 1))] [] h1 (lm_kI K)) else (K x1 h1)))) else (K (-1) h))) : lm_W (d + 1) 239 6 [some (.ref 92), some (.int x1)] [] h (lm_kI K) := by
  refine ls_iload_n f_239_6 rfl ?_
  refine ls_iconst 1 f_239_7 (by decide) ?_
  refine ls_aload_n f_239_8 rfl ?_
  refine ls_invV (a := 92) f_239_9 q_239_122 [] [.int 1, .int x1] rfl (Nat.le_of_ble_eq_true rfl) hl S_92 ow_160 ?_
  refine ls_enter [some (.ref 92)] ml_160 (Nat.le_of_ble_eq_true rfl) rfl ?_
  refine ls_aload_n f_160_0 rfl ?_
  refine ls_getR f_160_1 p_160_25 hl S_92 F_92_3 ?_
  refine ls_bipush 81 f_160_4 (by decide) ?_
  refine ls_ialdC 81 f_160_6 hl S_94 ⟨by decide, by decide, by decide⟩ ?_
  refine ls_ireturn f_160_7 rI_160 ?_
  show lm_W _ _ _ _ [.int (lm_i h 94 81), .int 1, .int x1] _ _
  refine ls_ishl ((1 : Int32) <<< ((lm_i h 94 81) &&& 31)) f_239_12 rfl ?_
  refine ls_icmp_ge 32 f_239_13 rfl hyp (fun _ hyp => ?_) (fun _ hyp => ?_)
  · refine ls_aload_n f_239_16 rfl ?_
    refine ls_iload_n f_239_17 rfl ?_
    refine ls_invV (a := 92) f_239_18 q_239_362 [.int x1] [] rfl (Nat.le_of_ble_eq_true rfl) hl S_92 ow_237 ?_
    refine ls_call hyp hl (fun _ h1 hl1 hyp => ?_)
    refine ls_retI hyp (fun r2 hyp => ?_)
    refine ls_if_eq 26 f_239_21 rfl hyp (fun _ hyp => ?_) (fun _ hyp => ?_)
    · refine ls_iinc (x1 + 1) [some (.ref 92), some (.int (x1 + 1))] f_239_26 rfl (Nat.le_of_ble_eq_true rfl) rfl rfl ?_
      refine ls_goto 6 f_239_29 rfl ?_
      exact hyp
    · refine ls_iload_n f_239_24 rfl ?_
      exact ls_ireturn f_239_25 rI_239 hyp
  · refine ls_iconst (-1) f_239_32 (by decide) ?_
    exact ls_ireturn f_239_33 rI_239 hyp
theorem e_240 {d : Nat} {h : lm_H} {K : Int64 → lm_H → Prop} (x0 : Int32) (hl : lm_Lay h) (hyp : lm_W (d) 240 4 [some (.int x0), some (.long 1), none, some (.int 0)] [] h (lm_kL K)) : lm_call (d + 1) 240 [.int x0] h (lm_kL K) := by
  refine ls_enter [some (.int x0), none, none, none] ml_240 (Nat.le_of_ble_eq_true rfl) rfl ?_
  refine ls_lconst 1 f_240_0 (by decide) ?_
  refine ls_lstore_n [some (.int x0), some (.long 1), none, none] f_240_1 (Nat.le_of_ble_eq_true rfl) rfl ?_
  refine ls_iconst 0 f_240_2 (by decide) ?_
  refine ls_istore_n [some (.int x0), some (.long 1), none, some (.int 0)] f_240_3 (Nat.le_of_ble_eq_true rfl) rfl ?_
  exact hyp
theorem b_240_4 {d : Nat} {h : lm_H} {K : Int64 → lm_H → Prop} (x0 : Int32) (x1 : Int64) (x3 : Int32) (hl : lm_Lay h) (hyp : (if x3 < x0 then (lm_W (d) 240 4 [some (.int x0), some (.long (x1 * 10)), none, some (.int (x3 + 1))] [] h (lm_kL K)) else (K x1 h))) : lm_W (d) 240 4 [some (.int x0), some (.long x1), none, some (.int x3)] [] h (lm_kL K) := by
  refine ls_iload_n f_240_4 rfl ?_
  refine ls_iload_n f_240_5 rfl ?_
  refine ls_icmp_ge 21 f_240_6 rfl hyp (fun _ hyp => ?_) (fun _ hyp => ?_)
  · refine ls_lload_n f_240_9 rfl ?_
    refine ls_ldc2 f_240_10 k_240_365 ?_
    refine ls_lmul (x1 * 10) f_240_13 rfl ?_
    refine ls_lstore_n [some (.int x0), some (.long (x1 * 10)), none, some (.int x3)] f_240_14 (Nat.le_of_ble_eq_true rfl) rfl ?_
    refine ls_iinc (x3 + 1) [some (.int x0), some (.long (x1 * 10)), none, some (.int (x3 + 1))] f_240_15 rfl (Nat.le_of_ble_eq_true rfl) rfl rfl ?_
    refine ls_goto 4 f_240_18 rfl ?_
    exact hyp
  · refine ls_lload_n f_240_21 rfl ?_
    exact ls_lreturn f_240_22 rZ_240 rfl hyp
theorem e_241 {d : Nat} {h : lm_H} {K : Int64 → lm_H → Prop} (x1 : Int32) (x2 : Int32) (hl : lm_Lay h) (hyp : (if x2 = (lm_i h 94 82) then (lm_call (d + 1) 240 [.int ((lm_i h 94 81) - 1)] h (lm_kL fun r2 h1 => K (((60 * (lm_i h 94 84)).toInt64) * r2) h1)) else (lm_in ((6 * x1) + x2) 30 False (lm_W (d + 1) 241 48 [some (.ref 92), some (.int x1), some (.int x2), some (.int (lm_i h 94 84)), some (.int (lm_i h 104 (((6 * x1) + x2).toNatClampNeg))), some (.int 0), none, none, none] [] h (lm_kL K))))) : lm_call (d + 2) 241 [.ref 92, .int x1, .int x2] h (lm_kL K) := by
  refine ls_enter [some (.ref 92), some (.int x1), some (.int x2), none, none, none, none, none, none] ml_241 (Nat.le_of_ble_eq_true rfl) rfl ?_
  refine ls_aload_n f_241_0 rfl ?_
  refine ls_getR f_241_1 p_241_25 hl S_92 F_92_3 ?_
  refine ls_bipush 84 f_241_4 (by decide) ?_
  refine ls_ialdC 84 f_241_6 hl S_94 ⟨by decide, by decide, by decide⟩ ?_
  refine ls_istore_n [some (.ref 92), some (.int x1), some (.int x2), some (.int (lm_i h 94 84)), none, none, none, none, none] f_241_7 (Nat.le_of_ble_eq_true rfl) rfl ?_
  refine ls_iload_n f_241_8 rfl ?_
  refine ls_aload_n f_241_9 rfl ?_
  refine ls_invV (a := 92) f_241_10 q_241_126 [] [.int x2] rfl (Nat.le_of_ble_eq_true rfl) hl S_92 ow_161 ?_
  refine ls_enter [some (.ref 92)] ml_161 (Nat.le_of_ble_eq_true rfl) rfl ?_
  refine ls_aload_n f_161_0 rfl ?_
  refine ls_getR f_161_1 p_161_25 hl S_92 F_92_3 ?_
  refine ls_bipush 82 f_161_4 (by decide) ?_
  refine ls_ialdC 82 f_161_6 hl S_94 ⟨by decide, by decide, by decide⟩ ?_
  refine ls_ireturn f_161_7 rI_161 ?_
  show lm_W _ _ _ _ [.int (lm_i h 94 82), .int x2] _ _
  refine ls_icmp_ne 32 f_241_13 rfl hyp (fun _ hyp => ?_) (fun _ hyp => ?_)
  · refine ls_bipush 60 f_241_16 (by decide) ?_
    refine ls_iload_n f_241_18 rfl ?_
    refine ls_imul (60 * (lm_i h 94 84)) f_241_19 rfl ?_
    refine ls_i2l ((60 * (lm_i h 94 84)).toInt64) f_241_20 rfl ?_
    refine ls_aload_n f_241_21 rfl ?_
    refine ls_invV (a := 92) f_241_22 q_241_122 [] [.long ((60 * (lm_i h 94 84)).toInt64)] rfl (Nat.le_of_ble_eq_true rfl) hl S_92 ow_160 ?_
    refine ls_enter [some (.ref 92)] ml_160 (Nat.le_of_ble_eq_true rfl) rfl ?_
    refine ls_aload_n f_160_0 rfl ?_
    refine ls_getR f_160_1 p_160_25 hl S_92 F_92_3 ?_
    refine ls_bipush 81 f_160_4 (by decide) ?_
    refine ls_ialdC 81 f_160_6 hl S_94 ⟨by decide, by decide, by decide⟩ ?_
    refine ls_ireturn f_160_7 rI_160 ?_
    show lm_W _ _ _ _ [.int (lm_i h 94 81), .long ((60 * (lm_i h 94 84)).toInt64)] _ _
    refine ls_iconst 1 f_241_25 (by decide) ?_
    refine ls_isub ((lm_i h 94 81) - 1) f_241_26 rfl ?_
    refine ls_invS f_241_27 q_241_367 [.int ((lm_i h 94 81) - 1)] [.long ((60 * (lm_i h 94 84)).toInt64)] rfl (Nat.le_of_ble_eq_true rfl) ?_
    refine ls_call hyp hl (fun _ h1 hl1 hyp => ?_)
    refine ls_retL hyp (fun r2 hyp => ?_)
    refine ls_lmul (((60 * (lm_i h 94 84)).toInt64) * r2) f_241_30 rfl ?_
    exact ls_lreturn f_241_31 rZ_241 rfl hyp
  · refine ls_aload_n f_241_32 rfl ?_
    refine ls_getR f_241_33 p_241_60 hl S_92 F_92_25 ?_
    refine ls_bipush 6 f_241_36 (by decide) ?_
    refine ls_iload_n f_241_38 rfl ?_
    refine ls_imul (6 * x1) f_241_39 rfl ?_
    refine ls_iload_n f_241_40 rfl ?_
    refine ls_iadd ((6 * x1) + x2) f_241_41 rfl ?_
    refine ls_iald f_241_42 hl S_104 hyp (fun hyp => ?_)
    refine ls_istore [some (.ref 92), some (.int x1), some (.int x2), some (.int (lm_i h 94 84)), some (.int (lm_i h 104 (((6 * x1) + x2).toNatClampNeg))), none, none, none, none] f_241_43 (Nat.le_of_ble_eq_true rfl) rfl ?_
    refine ls_iconst 0 f_241_45 (by decide) ?_
    refine ls_istore [some (.ref 92), some (.int x1), some (.int x2), some (.int (lm_i h 94 84)), some (.int (lm_i h 104 (((6 * x1) + x2).toNatClampNeg))), some (.int 0), none, none, none] f_241_46 (Nat.le_of_ble_eq_true rfl) rfl ?_
    exact hyp
theorem b_241_48 {d : Nat} {h : lm_H} {K : Int64 → lm_H → Prop} (x1 : Int32) (x2 : Int32) (x3 : Int32) (x4 : Int32) (x5 : Int32) (hl : lm_Lay h) (hyp : (if 5 < x5 then (lm_W (d + 1) 241 80 [some (.ref 92), some (.int x1), some (.int x2), some (.int x3), some (.int x4), some (.int 0), none, none, none] [] h (lm_kL K)) else (if x5 = 0 then (lm_in x5 6 False (lm_W (d + 1) 241 48 [some (.ref 92), some (.int x1), some (.int x2), some (.int x3), some (.int x4), some (.int (x5 + 1)), none, none, none] [] (lm_sl h 112 x5.toNatClampNeg 1) (lm_kL K))) else (lm_in x5 6 False (lm_W (d + 1) 241 48 [some (.ref 92), some (.int x1), some (.int x2), some (.int x3), some (.int x4), some (.int (x5 + 1)), none, none, none] [] (lm_sl h 112 x5.toNatClampNeg 0) (lm_kL K)))))) : lm_W (d + 1) 241 48 [some (.ref 92), some (.int x1), some (.int x2), some (.int x3), some (.int x4), some (.int x5), none, none, none] [] h (lm_kL K) := by
  refine ls_iload f_241_48 rfl ?_
  refine ls_iconst 5 f_241_50 (by decide) ?_
  refine ls_icmp_gt 77 f_241_51 rfl hyp (fun _ hyp => ?_) (fun _ hyp => ?_)
  · refine ls_iconst 0 f_241_77 (by decide) ?_
    refine ls_istore [some (.ref 92), some (.int x1), some (.int x2), some (.int x3), some (.int x4), some (.int 0), none, none, none] f_241_78 (Nat.le_of_ble_eq_true rfl) rfl ?_
    exact hyp
  · refine ls_aload_n f_241_54 rfl ?_
    refine ls_getR f_241_55 p_241_90 hl S_92 F_92_45 ?_
    refine ls_iload f_241_58 rfl ?_
    refine ls_iload f_241_60 rfl ?_
    refine ls_if_ne 69 f_241_62 rfl hyp (fun _ hyp => ?_) (fun _ hyp => ?_)
    · refine ls_lconst 1 f_241_65 (by decide) ?_
      refine ls_goto 70 f_241_66 rfl ?_
      refine ls_last f_241_70 hl S_112 hyp (fun hyp => ?_)
      refine ls_iinc (x5 + 1) [some (.ref 92), some (.int x1), some (.int x2), some (.int x3), some (.int x4), some (.int (x5 + 1)), none, none, none] f_241_71 rfl (Nat.le_of_ble_eq_true rfl) rfl rfl ?_
      refine ls_goto 48 f_241_74 rfl ?_
      exact hyp
    · refine ls_lconst 0 f_241_69 (by decide) ?_
      refine ls_last f_241_70 hl S_112 hyp (fun hyp => ?_)
      refine ls_iinc (x5 + 1) [some (.ref 92), some (.int x1), some (.int x2), some (.int x3), some (.int x4), some (.int (x5 + 1)), none, none, none] f_241_71 rfl (Nat.le_of_ble_eq_true rfl) rfl rfl ?_
      refine ls_goto 48 f_241_74 rfl ?_
      exact hyp
theorem b_241_80 {d : Nat} {h : lm_H} {K : Int64 → lm_H → Prop} (x1 : Int32) (x2 : Int32) (x3 : Int32) (x4 : Int32) (x5 : Int32) (hl : lm_Lay h) (hyp : (if x5 < (lm_i h 94 81) then (if x5 = x1 then (lm_W (d + 1) 241 80 [some (.ref 92), some (.int x1), some (.int x2), some (.int x3), some (.int x4), some (.int (x5 + 1)), none, none, none] [] h (lm_kL K)) else (if (lm_i h 94 83) = 1 then (if x1 < x5 then (lm_W (d + 1) 241 136 [some (.ref 92), some (.int x1), some (.int x2), some (.int x3), some (.int x4), some (.int x5), some (.int 0), some (.int 5), none] [] h (lm_kL K)) else (lm_in ((6 * x5) + x2) 30 False (lm_W (d + 1) 241 136 [some (.ref 92), some (.int x1), some (.int x2), some (.int x3), some (.int x4), some (.int x5), some (.int (lm_i h 111 (((6 * x5) + x2).toNatClampNeg))), some (.int 5), none] [] h (lm_kL K)))) else (lm_in ((6 * x5) + x2) 30 False (lm_W (d + 1) 241 136 [some (.ref 92), some (.int x1), some (.int x2), some (.int x3), some (.int x4), some (.int x5), some (.int (lm_i h 111 (((6 * x5) + x2).toNatClampNeg))), some (.int 5), none] [] h (lm_kL K))))) else (lm_W (d + 1) 241 203 [some (.ref 92), none, none, some (.int x3), some (.int x4), some (.long 0), none, some (.int 0), none] [] h (lm_kL K)))) : lm_W (d + 1) 241 80 [some (.ref 92), some (.int x1), some (.int x2), some (.int x3), some (.int x4), some (.int x5), none, none, none] [] h (lm_kL K) := by
  refine ls_iload f_241_80 rfl ?_
  refine ls_aload_n f_241_82 rfl ?_
  refine ls_invV (a := 92) f_241_83 q_241_122 [] [.int x5] rfl (Nat.le_of_ble_eq_true rfl) hl S_92 ow_160 ?_
  refine ls_enter [some (.ref 92)] ml_160 (Nat.le_of_ble_eq_true rfl) rfl ?_
  refine ls_aload_n f_160_0 rfl ?_
  refine ls_getR f_160_1 p_160_25 hl S_92 F_92_3 ?_
  refine ls_bipush 81 f_160_4 (by decide) ?_
  refine ls_ialdC 81 f_160_6 hl S_94 ⟨by decide, by decide, by decide⟩ ?_
  refine ls_ireturn f_160_7 rI_160 ?_
  show lm_W _ _ _ _ [.int (lm_i h 94 81), .int x5] _ _
  refine ls_icmp_ge 197 f_241_86 rfl hyp (fun _ hyp => ?_) (fun _ hyp => ?_)
  · refine ls_iload f_241_89 rfl ?_
    refine ls_iload_n f_241_91 rfl ?_
    refine ls_icmp_ne 98 f_241_92 rfl hyp (fun _ hyp => ?_) (fun _ hyp => ?_)
    · refine ls_goto 191 f_241_95 rfl ?_
      refine ls_iinc (x5 + 1) [some (.ref 92), some (.int x1), some (.int x2), some (.int x3), some (.int x4), some (.int (x5 + 1)), none, none, none] f_241_191 rfl (Nat.le_of_ble_eq_true rfl) rfl rfl ?_
      refine ls_goto 80 f_241_194 rfl ?_
      exact hyp
    · refine ls_aload_n f_241_98 rfl ?_
      refine ls_getR f_241_99 p_241_25 hl S_92 F_92_3 ?_
      refine ls_bipush 83 f_241_102 (by decide) ?_
      refine ls_ialdC 83 f_241_104 hl S_94 ⟨by decide, by decide, by decide⟩ ?_
      refine ls_iconst 1 f_241_105 (by decide) ?_
      refine ls_icmp_ne 119 f_241_106 rfl hyp (fun _ hyp => ?_) (fun _ hyp => ?_)
      · refine ls_iload f_241_109 rfl ?_
        refine ls_iload_n f_241_111 rfl ?_
        refine ls_icmp_le 119 f_241_112 rfl hyp (fun _ hyp => ?_) (fun _ hyp => ?_)
        · refine ls_iconst 0 f_241_115 (by decide) ?_
          refine ls_goto 131 f_241_116 rfl ?_
          refine ls_istore [some (.ref 92), some (.int x1), some (.int x2), some (.int x3), some (.int x4), some (.int x5), some (.int 0), none, none] f_241_131 (Nat.le_of_ble_eq_true rfl) rfl ?_
          refine ls_iconst 5 f_241_133 (by decide) ?_
          refine ls_istore [some (.ref 92), some (.int x1), some (.int x2), some (.int x3), some (.int x4), some (.int x5), some (.int 0), some (.int 5), none] f_241_134 (Nat.le_of_ble_eq_true rfl) rfl ?_
          exact hyp
        · refine ls_aload_n f_241_119 rfl ?_
          refine ls_getR f_241_120 p_241_87 hl S_92 F_92_44 ?_
          refine ls_bipush 6 f_241_123 (by decide) ?_
          refine ls_iload f_241_125 rfl ?_
          refine ls_imul (6 * x5) f_241_127 rfl ?_
          refine ls_iload_n f_241_128 rfl ?_
          refine ls_iadd ((6 * x5) + x2) f_241_129 rfl ?_
          refine ls_iald f_241_130 hl S_111 hyp (fun hyp => ?_)
          refine ls_istore [some (.ref 92), some (.int x1), some (.int x2), some (.int x3), some (.int x4), some (.int x5), some (.int (lm_i h 111 (((6 * x5) + x2).toNatClampNeg))), none, none] f_241_131 (Nat.le_of_ble_eq_true rfl) rfl ?_
          refine ls_iconst 5 f_241_133 (by decide) ?_
          refine ls_istore [some (.ref 92), some (.int x1), some (.int x2), some (.int x3), some (.int x4), some (.int x5), some (.int (lm_i h 111 (((6 * x5) + x2).toNatClampNeg))), some (.int 5), none] f_241_134 (Nat.le_of_ble_eq_true rfl) rfl ?_
          exact hyp
      · refine ls_aload_n f_241_119 rfl ?_
        refine ls_getR f_241_120 p_241_87 hl S_92 F_92_44 ?_
        refine ls_bipush 6 f_241_123 (by decide) ?_
        refine ls_iload f_241_125 rfl ?_
        refine ls_imul (6 * x5) f_241_127 rfl ?_
        refine ls_iload_n f_241_128 rfl ?_
        refine ls_iadd ((6 * x5) + x2) f_241_129 rfl ?_
        refine ls_iald f_241_130 hl S_111 hyp (fun hyp => ?_)
        refine ls_istore [some (.ref 92), some (.int x1), some (.int x2), some (.int x3), some (.int x4), some (.int x5), some (.int (lm_i h 111 (((6 * x5) + x2).toNatClampNeg))), none, none] f_241_131 (Nat.le_of_ble_eq_true rfl) rfl ?_
        refine ls_iconst 5 f_241_133 (by decide) ?_
        refine ls_istore [some (.ref 92), some (.int x1), some (.int x2), some (.int x3), some (.int x4), some (.int x5), some (.int (lm_i h 111 (((6 * x5) + x2).toNatClampNeg))), some (.int 5), none] f_241_134 (Nat.le_of_ble_eq_true rfl) rfl ?_
        exact hyp
  · refine ls_lconst 0 f_241_197 (by decide) ?_
    refine ls_lstore [some (.ref 92), some (.int x1), some (.int x2), some (.int x3), some (.int x4), some (.long 0), none, none, none] f_241_198 (Nat.le_of_ble_eq_true rfl) rfl ?_
    refine ls_iconst 0 f_241_200 (by decide) ?_
    refine ls_istore [some (.ref 92), some (.int x1), some (.int x2), some (.int x3), some (.int x4), some (.long 0), none, some (.int 0), none] f_241_201 (Nat.le_of_ble_eq_true rfl) rfl ?_
    exact ls_mask [true, false, false, true, true, true, false, true, false] [some (.ref 92), none, none, some (.int x3), some (.int x4), some (.long 0), none, some (.int 0), none] rfl hyp
theorem b_241_136 {d : Nat} {h : lm_H} {K : Int64 → lm_H → Prop} (x1 : Int32) (x2 : Int32) (x3 : Int32) (x4 : Int32) (x5 : Int32) (x6 : Int32) (x7 : Int32) (hl : lm_Lay h) (hyp : (if x7 < 0 then (lm_W (d + 1) 241 80 [some (.ref 92), some (.int x1), some (.int x2), some (.int x3), some (.int x4), some (.int (x5 + 1)), none, none, none] [] h (lm_kL K)) else (lm_in x7 6 False (if x7 = 0 then (lm_in x7 6 False (lm_W (d + 1) 241 136 [some (.ref 92), some (.int x1), some (.int x2), some (.int x3), some (.int x4), some (.int x5), some (.int x6), some (.int (x7 - 1)), none] [] (lm_sl h 112 x7.toNatClampNeg (((lm_l h 112 x7.toNatClampNeg) * ((10 - x6).toInt64)) + 0)) (lm_kL K))) else (lm_in (x7 - 1) 6 False (lm_in x7 6 False (lm_W (d + 1) 241 136 [some (.ref 92), some (.int x1), some (.int x2), some (.int x3), some (.int x4), some (.int x5), some (.int x6), some (.int (x7 - 1)), none] [] (lm_sl h 112 x7.toNatClampNeg (((lm_l h 112 x7.toNatClampNeg) * ((10 - x6).toInt64)) + ((lm_l h 112 ((x7 - 1).toNatClampNeg)) * x6.toInt64))) (lm_kL K)))))))) : lm_W (d + 1) 241 136 [some (.ref 92), some (.int x1), some (.int x2), some (.int x3), some (.int x4), some (.int x5), some (.int x6), some (.int x7), none] [] h (lm_kL K) := by
  refine ls_iload f_241_136 rfl ?_
  refine ls_if_lt 191 f_241_138 rfl hyp (fun _ hyp => ?_) (fun _ hyp => ?_)
  · refine ls_iinc (x5 + 1) [some (.ref 92), some (.int x1), some (.int x2), some (.int x3), some (.int x4), some (.int (x5 + 1)), some (.int x6), some (.int x7), none] f_241_191 rfl (Nat.le_of_ble_eq_true rfl) rfl rfl ?_
    refine ls_goto 80 f_241_194 rfl ?_
    exact ls_mask [true, true, true, true, true, true, false, false, false] [some (.ref 92), some (.int x1), some (.int x2), some (.int x3), some (.int x4), some (.int (x5 + 1)), none, none, none] rfl hyp
  · refine ls_aload_n f_241_141 rfl ?_
    refine ls_getR f_241_142 p_241_90 hl S_92 F_92_45 ?_
    refine ls_iload f_241_145 rfl ?_
    refine ls_aload_n f_241_147 rfl ?_
    refine ls_getR f_241_148 p_241_90 hl S_92 F_92_45 ?_
    refine ls_iload f_241_151 rfl ?_
    refine ls_lald f_241_153 hl S_112 hyp (fun hyp => ?_)
    refine ls_bipush 10 f_241_154 (by decide) ?_
    refine ls_iload f_241_156 rfl ?_
    refine ls_isub (10 - x6) f_241_158 rfl ?_
    refine ls_i2l ((10 - x6).toInt64) f_241_159 rfl ?_
    refine ls_lmul ((lm_l h 112 x7.toNatClampNeg) * ((10 - x6).toInt64)) f_241_160 rfl ?_
    refine ls_iload f_241_161 rfl ?_
    refine ls_if_ne 170 f_241_163 rfl hyp (fun _ hyp => ?_) (fun _ hyp => ?_)
    · refine ls_lconst 0 f_241_166 (by decide) ?_
      refine ls_goto 183 f_241_167 rfl ?_
      refine ls_ladd (((lm_l h 112 x7.toNatClampNeg) * ((10 - x6).toInt64)) + 0) f_241_183 rfl ?_
      refine ls_last f_241_184 hl S_112 hyp (fun hyp => ?_)
      refine ls_iinc (x7 - 1) [some (.ref 92), some (.int x1), some (.int x2), some (.int x3), some (.int x4), some (.int x5), some (.int x6), some (.int (x7 - 1)), none] f_241_185 rfl (Nat.le_of_ble_eq_true rfl) (lm_m1 _) rfl ?_
      refine ls_goto 136 f_241_188 rfl ?_
      exact hyp
    · refine ls_aload_n f_241_170 rfl ?_
      refine ls_getR f_241_171 p_241_90 hl S_92 F_92_45 ?_
      refine ls_iload f_241_174 rfl ?_
      refine ls_iconst 1 f_241_176 (by decide) ?_
      refine ls_isub (x7 - 1) f_241_177 rfl ?_
      refine ls_lald f_241_178 hl S_112 hyp (fun hyp => ?_)
      refine ls_iload f_241_179 rfl ?_
      refine ls_i2l x6.toInt64 f_241_181 rfl ?_
      refine ls_lmul ((lm_l h 112 ((x7 - 1).toNatClampNeg)) * x6.toInt64) f_241_182 rfl ?_
      refine ls_ladd (((lm_l h 112 x7.toNatClampNeg) * ((10 - x6).toInt64)) + ((lm_l h 112 ((x7 - 1).toNatClampNeg)) * x6.toInt64)) f_241_183 rfl ?_
      refine ls_last f_241_184 hl S_112 hyp (fun hyp => ?_)
      refine ls_iinc (x7 - 1) [some (.ref 92), some (.int x1), some (.int x2), some (.int x3), some (.int x4), some (.int x5), some (.int x6), some (.int (x7 - 1)), none] f_241_185 rfl (Nat.le_of_ble_eq_true rfl) (lm_m1 _) rfl ?_
      refine ls_goto 136 f_241_188 rfl ?_
      exact hyp
theorem b_241_203 {d : Nat} {h : lm_H} {K : Int64 → lm_H → Prop} (x3 : Int32) (x4 : Int32) (x5 : Int64) (x7 : Int32) (hl : lm_Lay h) (hyp : (if x7 < 5 then (if x7 = 0 then (lm_in x7 6 False (lm_W (d + 1) 241 203 [some (.ref 92), none, none, some (.int x3), some (.int x4), some (.long (x5 + ((lm_l h 112 x7.toNatClampNeg) * ((60 * x4).toInt64)))), none, some (.int (x7 + 1)), none] [] h (lm_kL K))) else (if (lm_i h 94 83) = 2 then ((¬ (x7 + 1) = 0) ∧ (lm_in x7 6 False (lm_W (d + 1) 241 203 [some (.ref 92), none, none, some (.int x3), some (.int x4), some (.long (x5 + ((lm_l h 112 x7.toNatClampNeg) * (((60 / (x7 + 1)) * (x4 + (x7 * x3))).toInt64)))), none, some (.int (x7 + 1)), none] [] h (lm_kL K)))) else (lm_in x7 6 False (lm_W (d + 1) 241 203 [some (.ref 92), none, none, some (.int x3), some (.int x4), some (.long (x5 + ((lm_l h 112 x7.toNatClampNeg) * ((60 * x3).toInt64)))), none, some (.int (x7 + 1)), none] [] h (lm_kL K))))) else (K x5 h))) : lm_W (d + 1) 241 203 [some (.ref 92), none, none, some (.int x3), some (.int x4), some (.long x5), none, some (.int x7), none] [] h (lm_kL K) := by
  refine ls_iload f_241_203 rfl ?_
  refine ls_iconst 5 f_241_205 (by decide) ?_
  refine ls_icmp_ge 279 f_241_206 rfl hyp (fun _ hyp => ?_) (fun _ hyp => ?_)
  · refine ls_iload f_241_209 rfl ?_
    refine ls_if_ne 222 f_241_211 rfl hyp (fun _ hyp => ?_) (fun _ hyp => ?_)
    · refine ls_bipush 60 f_241_214 (by decide) ?_
      refine ls_iload f_241_216 rfl ?_
      refine ls_imul (60 * x4) f_241_218 rfl ?_
      refine ls_goto 255 f_241_219 rfl ?_
      refine ls_istore [some (.ref 92), none, none, some (.int x3), some (.int x4), some (.long x5), none, some (.int x7), some (.int (60 * x4))] f_241_255 (Nat.le_of_ble_eq_true rfl) rfl ?_
      refine ls_lload f_241_257 rfl ?_
      refine ls_aload_n f_241_259 rfl ?_
      refine ls_getR f_241_260 p_241_90 hl S_92 F_92_45 ?_
      refine ls_iload f_241_263 rfl ?_
      refine ls_lald f_241_265 hl S_112 hyp (fun hyp => ?_)
      refine ls_iload f_241_266 rfl ?_
      refine ls_i2l ((60 * x4).toInt64) f_241_268 rfl ?_
      refine ls_lmul ((lm_l h 112 x7.toNatClampNeg) * ((60 * x4).toInt64)) f_241_269 rfl ?_
      refine ls_ladd (x5 + ((lm_l h 112 x7.toNatClampNeg) * ((60 * x4).toInt64))) f_241_270 rfl ?_
      refine ls_lstore [some (.ref 92), none, none, some (.int x3), some (.int x4), some (.long (x5 + ((lm_l h 112 x7.toNatClampNeg) * ((60 * x4).toInt64)))), none, some (.int x7), some (.int (60 * x4))] f_241_271 (Nat.le_of_ble_eq_true rfl) rfl ?_
      refine ls_iinc (x7 + 1) [some (.ref 92), none, none, some (.int x3), some (.int x4), some (.long (x5 + ((lm_l h 112 x7.toNatClampNeg) * ((60 * x4).toInt64)))), none, some (.int (x7 + 1)), some (.int (60 * x4))] f_241_273 rfl (Nat.le_of_ble_eq_true rfl) rfl rfl ?_
      refine ls_goto 203 f_241_276 rfl ?_
      exact ls_mask [true, false, false, true, true, true, false, true, false] [some (.ref 92), none, none, some (.int x3), some (.int x4), some (.long (x5 + ((lm_l h 112 x7.toNatClampNeg) * ((60 * x4).toInt64)))), none, some (.int (x7 + 1)), none] rfl hyp
    · refine ls_aload_n f_241_222 rfl ?_
      refine ls_getR f_241_223 p_241_25 hl S_92 F_92_3 ?_
      refine ls_bipush 83 f_241_226 (by decide) ?_
      refine ls_ialdC 83 f_241_228 hl S_94 ⟨by decide, by decide, by decide⟩ ?_
      refine ls_iconst 2 f_241_229 (by decide) ?_
      refine ls_icmp_ne 251 f_241_230 rfl hyp (fun _ hyp => ?_) (fun _ hyp => ?_)
      · refine ls_bipush 60 f_241_233 (by decide) ?_
        refine ls_iload f_241_235 rfl ?_
        refine ls_iconst 1 f_241_237 (by decide) ?_
        refine ls_iadd (x7 + 1) f_241_238 rfl ?_
        refine ls_idiv (60 / (x7 + 1)) f_241_239 hyp.1 rfl ?_
        replace hyp := hyp.2
        refine ls_iload f_241_240 rfl ?_
        refine ls_iload f_241_242 rfl ?_
        refine ls_iload_n f_241_244 rfl ?_
        refine ls_imul (x7 * x3) f_241_245 rfl ?_
        refine ls_iadd (x4 + (x7 * x3)) f_241_246 rfl ?_
        refine ls_imul ((60 / (x7 + 1)) * (x4 + (x7 * x3))) f_241_247 rfl ?_
        refine ls_goto 255 f_241_248 rfl ?_
        refine ls_istore [some (.ref 92), none, none, some (.int x3), some (.int x4), some (.long x5), none, some (.int x7), some (.int ((60 / (x7 + 1)) * (x4 + (x7 * x3))))] f_241_255 (Nat.le_of_ble_eq_true rfl) rfl ?_
        refine ls_lload f_241_257 rfl ?_
        refine ls_aload_n f_241_259 rfl ?_
        refine ls_getR f_241_260 p_241_90 hl S_92 F_92_45 ?_
        refine ls_iload f_241_263 rfl ?_
        refine ls_lald f_241_265 hl S_112 hyp (fun hyp => ?_)
        refine ls_iload f_241_266 rfl ?_
        refine ls_i2l (((60 / (x7 + 1)) * (x4 + (x7 * x3))).toInt64) f_241_268 rfl ?_
        refine ls_lmul ((lm_l h 112 x7.toNatClampNeg) * (((60 / (x7 + 1)) * (x4 + (x7 * x3))).toInt64)) f_241_269 rfl ?_
        refine ls_ladd (x5 + ((lm_l h 112 x7.toNatClampNeg) * (((60 / (x7 + 1)) * (x4 + (x7 * x3))).toInt64))) f_241_270 rfl ?_
        refine ls_lstore [some (.ref 92), none, none, some (.int x3), some (.int x4), some (.long (x5 + ((lm_l h 112 x7.toNatClampNeg) * (((60 / (x7 + 1)) * (x4 + (x7 * x3))).toInt64)))), none, some (.int x7), some (.int ((60 / (x7 + 1)) * (x4 + (x7 * x3))))] f_241_271 (Nat.le_of_ble_eq_true rfl) rfl ?_
        refine ls_iinc (x7 + 1) [some (.ref 92), none, none, some (.int x3), some (.int x4), some (.long (x5 + ((lm_l h 112 x7.toNatClampNeg) * (((60 / (x7 + 1)) * (x4 + (x7 * x3))).toInt64)))), none, some (.int (x7 + 1)), some (.int ((60 / (x7 + 1)) * (x4 + (x7 * x3))))] f_241_273 rfl (Nat.le_of_ble_eq_true rfl) rfl rfl ?_
        refine ls_goto 203 f_241_276 rfl ?_
        exact ls_mask [true, false, false, true, true, true, false, true, false] [some (.ref 92), none, none, some (.int x3), some (.int x4), some (.long (x5 + ((lm_l h 112 x7.toNatClampNeg) * (((60 / (x7 + 1)) * (x4 + (x7 * x3))).toInt64)))), none, some (.int (x7 + 1)), none] rfl hyp
      · refine ls_bipush 60 f_241_251 (by decide) ?_
        refine ls_iload_n f_241_253 rfl ?_
        refine ls_imul (60 * x3) f_241_254 rfl ?_
        refine ls_istore [some (.ref 92), none, none, some (.int x3), some (.int x4), some (.long x5), none, some (.int x7), some (.int (60 * x3))] f_241_255 (Nat.le_of_ble_eq_true rfl) rfl ?_
        refine ls_lload f_241_257 rfl ?_
        refine ls_aload_n f_241_259 rfl ?_
        refine ls_getR f_241_260 p_241_90 hl S_92 F_92_45 ?_
        refine ls_iload f_241_263 rfl ?_
        refine ls_lald f_241_265 hl S_112 hyp (fun hyp => ?_)
        refine ls_iload f_241_266 rfl ?_
        refine ls_i2l ((60 * x3).toInt64) f_241_268 rfl ?_
        refine ls_lmul ((lm_l h 112 x7.toNatClampNeg) * ((60 * x3).toInt64)) f_241_269 rfl ?_
        refine ls_ladd (x5 + ((lm_l h 112 x7.toNatClampNeg) * ((60 * x3).toInt64))) f_241_270 rfl ?_
        refine ls_lstore [some (.ref 92), none, none, some (.int x3), some (.int x4), some (.long (x5 + ((lm_l h 112 x7.toNatClampNeg) * ((60 * x3).toInt64)))), none, some (.int x7), some (.int (60 * x3))] f_241_271 (Nat.le_of_ble_eq_true rfl) rfl ?_
        refine ls_iinc (x7 + 1) [some (.ref 92), none, none, some (.int x3), some (.int x4), some (.long (x5 + ((lm_l h 112 x7.toNatClampNeg) * ((60 * x3).toInt64)))), none, some (.int (x7 + 1)), some (.int (60 * x3))] f_241_273 rfl (Nat.le_of_ble_eq_true rfl) rfl rfl ?_
        refine ls_goto 203 f_241_276 rfl ?_
        exact ls_mask [true, false, false, true, true, true, false, true, false] [some (.ref 92), none, none, some (.int x3), some (.int x4), some (.long (x5 + ((lm_l h 112 x7.toNatClampNeg) * ((60 * x3).toInt64)))), none, some (.int (x7 + 1)), none] rfl hyp
  · refine ls_lload f_241_279 rfl ?_
    exact ls_lreturn f_241_281 rZ_241 rfl hyp
theorem e_242 {d : Nat} {h : lm_H} {K : Int64 → lm_H → Prop} (x1 : Int32) (hl : lm_Lay h) (hyp : lm_W (d + 1) 242 9 [some (.ref 92), some (.int x1), some (.long 0), none, some (.int 10), some (.int 0), none] [] h (lm_kL K)) : lm_call (d + 2) 242 [.ref 92, .int x1] h (lm_kL K) := by
  refine ls_enter [some (.ref 92), some (.int x1), none, none, none, none, none] ml_242 (Nat.le_of_ble_eq_true rfl) rfl ?_
  refine ls_lconst 0 f_242_0 (by decide) ?_
  refine ls_lstore_n [some (.ref 92), some (.int x1), some (.long 0), none, none, none, none] f_242_1 (Nat.le_of_ble_eq_true rfl) rfl ?_
  refine ls_bipush 10 f_242_2 (by decide) ?_
  refine ls_istore [some (.ref 92), some (.int x1), some (.long 0), none, some (.int 10), none, none] f_242_4 (Nat.le_of_ble_eq_true rfl) rfl ?_
  refine ls_iconst 0 f_242_6 (by decide) ?_
  refine ls_istore [some (.ref 92), some (.int x1), some (.long 0), none, some (.int 10), some (.int 0), none] f_242_7 (Nat.le_of_ble_eq_true rfl) rfl ?_
  exact hyp
theorem b_242_9 {d : Nat} {h : lm_H} {K : Int64 → lm_H → Prop} (x1 : Int32) (x2 : Int64) (x4 : Int32) (x5 : Int32) (hl : lm_Lay h) (hyp : (if x5 < (lm_i h 94 82) then (lm_in ((6 * x1) + x5) 30 False (if 0 < (lm_i h 111 (((6 * x1) + x5).toNatClampNeg)) then (lm_call (d + 1) 241 [.ref 92, .int x1, .int x5] h (lm_kL fun r2 h1 => lm_W (d + 1) 242 9 [some (.ref 92), some (.int x1), some (.long (x2 + (((lm_i h 111 (((6 * x1) + x5).toNatClampNeg)).toInt64) * r2))), none, some (.int (x4 - (lm_i h 111 (((6 * x1) + x5).toNatClampNeg)))), some (.int (x5 + 1)), none] [] h1 (lm_kL K))) else (lm_W (d + 1) 242 9 [some (.ref 92), some (.int x1), some (.long x2), none, some (.int (x4 - (lm_i h 111 (((6 * x1) + x5).toNatClampNeg)))), some (.int (x5 + 1)), none] [] h (lm_kL K)))) else (lm_call (d + 1) 241 [.ref 92, .int x1, .int (lm_i h 94 82)] h (lm_kL fun r4 h3 => K (x2 + (x4.toInt64 * r4)) h3)))) : lm_W (d + 1) 242 9 [some (.ref 92), some (.int x1), some (.long x2), none, some (.int x4), some (.int x5), none] [] h (lm_kL K) := by
  refine ls_iload f_242_9 rfl ?_
  refine ls_aload_n f_242_11 rfl ?_
  refine ls_invV (a := 92) f_242_12 q_242_126 [] [.int x5] rfl (Nat.le_of_ble_eq_true rfl) hl S_92 ow_161 ?_
  refine ls_enter [some (.ref 92)] ml_161 (Nat.le_of_ble_eq_true rfl) rfl ?_
  refine ls_aload_n f_161_0 rfl ?_
  refine ls_getR f_161_1 p_161_25 hl S_92 F_92_3 ?_
  refine ls_bipush 82 f_161_4 (by decide) ?_
  refine ls_ialdC 82 f_161_6 hl S_94 ⟨by decide, by decide, by decide⟩ ?_
  refine ls_ireturn f_161_7 rI_161 ?_
  show lm_W _ _ _ _ [.int (lm_i h 94 82), .int x5] _ _
  refine ls_icmp_ge 64 f_242_15 rfl hyp (fun _ hyp => ?_) (fun _ hyp => ?_)
  · refine ls_aload_n f_242_18 rfl ?_
    refine ls_getR f_242_19 p_242_87 hl S_92 F_92_44 ?_
    refine ls_bipush 6 f_242_22 (by decide) ?_
    refine ls_iload_n f_242_24 rfl ?_
    refine ls_imul (6 * x1) f_242_25 rfl ?_
    refine ls_iload f_242_26 rfl ?_
    refine ls_iadd ((6 * x1) + x5) f_242_28 rfl ?_
    refine ls_iald f_242_29 hl S_111 hyp (fun hyp => ?_)
    refine ls_istore [some (.ref 92), some (.int x1), some (.long x2), none, some (.int x4), some (.int x5), some (.int (lm_i h 111 (((6 * x1) + x5).toNatClampNeg)))] f_242_30 (Nat.le_of_ble_eq_true rfl) rfl ?_
    refine ls_iload f_242_32 rfl ?_
    refine ls_iload f_242_34 rfl ?_
    refine ls_isub (x4 - (lm_i h 111 (((6 * x1) + x5).toNatClampNeg))) f_242_36 rfl ?_
    refine ls_istore [some (.ref 92), some (.int x1), some (.long x2), none, some (.int (x4 - (lm_i h 111 (((6 * x1) + x5).toNatClampNeg)))), some (.int x5), some (.int (lm_i h 111 (((6 * x1) + x5).toNatClampNeg)))] f_242_37 (Nat.le_of_ble_eq_true rfl) rfl ?_
    refine ls_iload f_242_39 rfl ?_
    refine ls_if_le 58 f_242_41 rfl hyp (fun _ hyp => ?_) (fun _ hyp => ?_)
    · refine ls_lload_n f_242_44 rfl ?_
      refine ls_iload f_242_45 rfl ?_
      refine ls_i2l ((lm_i h 111 (((6 * x1) + x5).toNatClampNeg)).toInt64) f_242_47 rfl ?_
      refine ls_aload_n f_242_48 rfl ?_
      refine ls_iload_n f_242_49 rfl ?_
      refine ls_iload f_242_50 rfl ?_
      refine ls_invV (a := 92) f_242_52 q_242_371 [.int x1, .int x5] [.long ((lm_i h 111 (((6 * x1) + x5).toNatClampNeg)).toInt64), .long x2] rfl (Nat.le_of_ble_eq_true rfl) hl S_92 ow_241 ?_
      refine ls_call hyp hl (fun _ h1 hl1 hyp => ?_)
      refine ls_retL hyp (fun r2 hyp => ?_)
      refine ls_lmul (((lm_i h 111 (((6 * x1) + x5).toNatClampNeg)).toInt64) * r2) f_242_55 rfl ?_
      refine ls_ladd (x2 + (((lm_i h 111 (((6 * x1) + x5).toNatClampNeg)).toInt64) * r2)) f_242_56 rfl ?_
      refine ls_lstore_n [some (.ref 92), some (.int x1), some (.long (x2 + (((lm_i h 111 (((6 * x1) + x5).toNatClampNeg)).toInt64) * r2))), none, some (.int (x4 - (lm_i h 111 (((6 * x1) + x5).toNatClampNeg)))), some (.int x5), some (.int (lm_i h 111 (((6 * x1) + x5).toNatClampNeg)))] f_242_57 (Nat.le_of_ble_eq_true rfl) rfl ?_
      refine ls_iinc (x5 + 1) [some (.ref 92), some (.int x1), some (.long (x2 + (((lm_i h 111 (((6 * x1) + x5).toNatClampNeg)).toInt64) * r2))), none, some (.int (x4 - (lm_i h 111 (((6 * x1) + x5).toNatClampNeg)))), some (.int (x5 + 1)), some (.int (lm_i h 111 (((6 * x1) + x5).toNatClampNeg)))] f_242_58 rfl (Nat.le_of_ble_eq_true rfl) rfl rfl ?_
      refine ls_goto 9 f_242_61 rfl ?_
      exact ls_mask [true, true, true, false, true, true, false] [some (.ref 92), some (.int x1), some (.long (x2 + (((lm_i h 111 (((6 * x1) + x5).toNatClampNeg)).toInt64) * r2))), none, some (.int (x4 - (lm_i h 111 (((6 * x1) + x5).toNatClampNeg)))), some (.int (x5 + 1)), none] rfl hyp
    · refine ls_iinc (x5 + 1) [some (.ref 92), some (.int x1), some (.long x2), none, some (.int (x4 - (lm_i h 111 (((6 * x1) + x5).toNatClampNeg)))), some (.int (x5 + 1)), some (.int (lm_i h 111 (((6 * x1) + x5).toNatClampNeg)))] f_242_58 rfl (Nat.le_of_ble_eq_true rfl) rfl rfl ?_
      refine ls_goto 9 f_242_61 rfl ?_
      exact ls_mask [true, true, true, false, true, true, false] [some (.ref 92), some (.int x1), some (.long x2), none, some (.int (x4 - (lm_i h 111 (((6 * x1) + x5).toNatClampNeg)))), some (.int (x5 + 1)), none] rfl hyp
  · refine ls_lload_n f_242_64 rfl ?_
    refine ls_iload f_242_65 rfl ?_
    refine ls_i2l x4.toInt64 f_242_67 rfl ?_
    refine ls_aload_n f_242_68 rfl ?_
    refine ls_iload_n f_242_69 rfl ?_
    refine ls_aload_n f_242_70 rfl ?_
    refine ls_invV (a := 92) f_242_71 q_242_126 [] [.int x1, .ref 92, .long x4.toInt64, .long x2] rfl (Nat.le_of_ble_eq_true rfl) hl S_92 ow_161 ?_
    refine ls_enter [some (.ref 92)] ml_161 (Nat.le_of_ble_eq_true rfl) rfl ?_
    refine ls_aload_n f_161_0 rfl ?_
    refine ls_getR f_161_1 p_161_25 hl S_92 F_92_3 ?_
    refine ls_bipush 82 f_161_4 (by decide) ?_
    refine ls_ialdC 82 f_161_6 hl S_94 ⟨by decide, by decide, by decide⟩ ?_
    refine ls_ireturn f_161_7 rI_161 ?_
    show lm_W _ _ _ _ [.int (lm_i h 94 82), .int x1, .ref 92, .long x4.toInt64, .long x2] _ _
    refine ls_invV (a := 92) f_242_74 q_242_371 [.int x1, .int (lm_i h 94 82)] [.long x4.toInt64, .long x2] rfl (Nat.le_of_ble_eq_true rfl) hl S_92 ow_241 ?_
    refine ls_call hyp hl (fun _ h3 hl3 hyp => ?_)
    refine ls_retL hyp (fun r4 hyp => ?_)
    refine ls_lmul (x4.toInt64 * r4) f_242_77 rfl ?_
    refine ls_ladd (x2 + (x4.toInt64 * r4)) f_242_78 rfl ?_
    exact ls_lreturn f_242_79 rZ_242 rfl hyp
theorem e_243 {d : Nat} {h : lm_H} {K : lm_H → Prop} (hl : lm_Lay h) (hyp : lm_call (d + 1) 208 [.ref 92] h (lm_kV fun h1 => lm_W (d + 1) 243 6 [some (.ref 92), some (.int 0), none] [] h1 (lm_kV K))) : lm_call (d + 2) 243 [.ref 92] h (lm_kV K) := by
  refine ls_enter [some (.ref 92), none, none] ml_243 (Nat.le_of_ble_eq_true rfl) rfl ?_
  refine ls_aload_n f_243_0 rfl ?_
  refine ls_invV (a := 92) f_243_1 q_243_280 [] [] rfl (Nat.le_of_ble_eq_true rfl) hl S_92 ow_208 ?_
  refine ls_call hyp hl (fun _ h1 hl1 hyp => ?_)
  refine ls_retV hyp (fun hyp => ?_)
  refine ls_iconst 0 f_243_4 (by decide) ?_
  refine ls_istore_n [some (.ref 92), some (.int 0), none] f_243_5 (Nat.le_of_ble_eq_true rfl) rfl ?_
  exact hyp
theorem b_243_6 {d : Nat} {h : lm_H} {K : lm_H → Prop} (x1 : Int32) (hl : lm_Lay h) (hyp : (if x1 < (lm_i h 94 81) then (lm_W (d + 1) 243 16 [some (.ref 92), some (.int x1), some (.int 0)] [] h (lm_kV K)) else (K h))) : lm_W (d + 1) 243 6 [some (.ref 92), some (.int x1), none] [] h (lm_kV K) := by
  refine ls_iload_n f_243_6 rfl ?_
  refine ls_aload_n f_243_7 rfl ?_
  refine ls_invV (a := 92) f_243_8 q_243_122 [] [.int x1] rfl (Nat.le_of_ble_eq_true rfl) hl S_92 ow_160 ?_
  refine ls_enter [some (.ref 92)] ml_160 (Nat.le_of_ble_eq_true rfl) rfl ?_
  refine ls_aload_n f_160_0 rfl ?_
  refine ls_getR f_160_1 p_160_25 hl S_92 F_92_3 ?_
  refine ls_bipush 81 f_160_4 (by decide) ?_
  refine ls_ialdC 81 f_160_6 hl S_94 ⟨by decide, by decide, by decide⟩ ?_
  refine ls_ireturn f_160_7 rI_160 ?_
  show lm_W _ _ _ _ [.int (lm_i h 94 81), .int x1] _ _
  refine ls_icmp_ge 74 f_243_11 rfl hyp (fun _ hyp => ?_) (fun _ hyp => ?_)
  · refine ls_iconst 0 f_243_14 (by decide) ?_
    refine ls_istore_n [some (.ref 92), some (.int x1), some (.int 0)] f_243_15 (Nat.le_of_ble_eq_true rfl) rfl ?_
    exact hyp
  · exact ls_return f_243_74 rV_243 hyp
theorem b_243_16 {d : Nat} {h : lm_H} {K : lm_H → Prop} (x1 : Int32) (x2 : Int32) (hl : lm_Lay h) (hyp : (if x2 < (lm_i h 94 82) then (lm_call (d + 1) 210 [.ref 92, .int x1, .int x2] h (lm_kI fun r2 h1 => (if r2 = 0 then (lm_in ((6 * x1) + x2) 30 False (lm_W (d + 1) 243 16 [some (.ref 92), some (.int x1), some (.int (x2 + 1))] [] (lm_si h1 111 (((6 * x1) + x2).toNatClampNeg) 0) (lm_kV K))) else (lm_in ((41 + (6 * x1)) + x2) 4893 False (lm_in ((6 * x1) + x2) 30 False (lm_W (d + 1) 243 16 [some (.ref 92), some (.int x1), some (.int (x2 + 1))] [] (lm_si h1 111 (((6 * x1) + x2).toNatClampNeg) (lm_i h1 94 (((41 + (6 * x1)) + x2).toNatClampNeg))) (lm_kV K))))))) else (lm_W (d + 1) 243 6 [some (.ref 92), some (.int (x1 + 1)), none] [] h (lm_kV K)))) : lm_W (d + 1) 243 16 [some (.ref 92), some (.int x1), some (.int x2)] [] h (lm_kV K) := by
  refine ls_iload_n f_243_16 rfl ?_
  refine ls_aload_n f_243_17 rfl ?_
  refine ls_invV (a := 92) f_243_18 q_243_126 [] [.int x2] rfl (Nat.le_of_ble_eq_true rfl) hl S_92 ow_161 ?_
  refine ls_enter [some (.ref 92)] ml_161 (Nat.le_of_ble_eq_true rfl) rfl ?_
  refine ls_aload_n f_161_0 rfl ?_
  refine ls_getR f_161_1 p_161_25 hl S_92 F_92_3 ?_
  refine ls_bipush 82 f_161_4 (by decide) ?_
  refine ls_ialdC 82 f_161_6 hl S_94 ⟨by decide, by decide, by decide⟩ ?_
  refine ls_ireturn f_161_7 rI_161 ?_
  show lm_W _ _ _ _ [.int (lm_i h 94 82), .int x2] _ _
  refine ls_icmp_ge 68 f_243_21 rfl hyp (fun _ hyp => ?_) (fun _ hyp => ?_)
  · refine ls_aload_n f_243_24 rfl ?_
    refine ls_getR f_243_25 p_243_87 hl S_92 F_92_44 ?_
    refine ls_bipush 6 f_243_28 (by decide) ?_
    refine ls_iload_n f_243_30 rfl ?_
    refine ls_imul (6 * x1) f_243_31 rfl ?_
    refine ls_iload_n f_243_32 rfl ?_
    refine ls_iadd ((6 * x1) + x2) f_243_33 rfl ?_
    refine ls_aload_n f_243_34 rfl ?_
    refine ls_iload_n f_243_35 rfl ?_
    refine ls_iload_n f_243_36 rfl ?_
    refine ls_invV (a := 92) f_243_37 q_243_283 [.int x1, .int x2] [.int ((6 * x1) + x2), .ref 111] rfl (Nat.le_of_ble_eq_true rfl) hl S_92 ow_210 ?_
    refine ls_call hyp hl (fun _ h1 hl1 hyp => ?_)
    refine ls_retI hyp (fun r2 hyp => ?_)
    refine ls_if_eq 60 f_243_40 rfl hyp (fun _ hyp => ?_) (fun _ hyp => ?_)
    · refine ls_iconst 0 f_243_60 (by decide) ?_
      refine ls_iast f_243_61 hl1 S_111 hyp (fun hyp => ?_)
      refine ls_iinc (x2 + 1) [some (.ref 92), some (.int x1), some (.int (x2 + 1))] f_243_62 rfl (Nat.le_of_ble_eq_true rfl) rfl rfl ?_
      refine ls_goto 16 f_243_65 rfl ?_
      exact hyp
    · refine ls_aload_n f_243_43 rfl ?_
      refine ls_getR f_243_44 p_243_25 hl1 S_92 F_92_3 ?_
      refine ls_bipush 41 f_243_47 (by decide) ?_
      refine ls_bipush 6 f_243_49 (by decide) ?_
      refine ls_iload_n f_243_51 rfl ?_
      refine ls_imul (6 * x1) f_243_52 rfl ?_
      refine ls_iadd (41 + (6 * x1)) f_243_53 rfl ?_
      refine ls_iload_n f_243_54 rfl ?_
      refine ls_iadd ((41 + (6 * x1)) + x2) f_243_55 rfl ?_
      refine ls_iald f_243_56 hl1 S_94 hyp (fun hyp => ?_)
      refine ls_goto 61 f_243_57 rfl ?_
      refine ls_iast f_243_61 hl1 S_111 hyp (fun hyp => ?_)
      refine ls_iinc (x2 + 1) [some (.ref 92), some (.int x1), some (.int (x2 + 1))] f_243_62 rfl (Nat.le_of_ble_eq_true rfl) rfl rfl ?_
      refine ls_goto 16 f_243_65 rfl ?_
      exact hyp
  · refine ls_iinc (x1 + 1) [some (.ref 92), some (.int (x1 + 1)), some (.int x2)] f_243_68 rfl (Nat.le_of_ble_eq_true rfl) rfl rfl ?_
    refine ls_goto 6 f_243_71 rfl ?_
    exact ls_mask [true, true, false] [some (.ref 92), some (.int (x1 + 1)), none] rfl hyp
theorem e_244 {d : Nat} {h : lm_H} {K : Int64 → lm_H → Prop} (hl : lm_Lay h) (hyp : lm_W (d + 1) 244 4 [some (.ref 92), some (.long 0), none, some (.int 0)] [] h (lm_kL K)) : lm_call (d + 2) 244 [.ref 92] h (lm_kL K) := by
  refine ls_enter [some (.ref 92), none, none, none] ml_244 (Nat.le_of_ble_eq_true rfl) rfl ?_
  refine ls_lconst 0 f_244_0 (by decide) ?_
  refine ls_lstore_n [some (.ref 92), some (.long 0), none, none] f_244_1 (Nat.le_of_ble_eq_true rfl) rfl ?_
  refine ls_iconst 0 f_244_2 (by decide) ?_
  refine ls_istore_n [some (.ref 92), some (.long 0), none, some (.int 0)] f_244_3 (Nat.le_of_ble_eq_true rfl) rfl ?_
  exact hyp
theorem b_244_4 {d : Nat} {h : lm_H} {K : Int64 → lm_H → Prop} (x1 : Int64) (x3 : Int32) (hl : lm_Lay h) (hyp : (if x3 < (lm_i h 94 81) then (lm_call (d + 1) 242 [.ref 92, .int x3] h (lm_kL fun r2 h1 => lm_W (d + 1) 244 4 [some (.ref 92), some (.long (x1 + r2)), none, some (.int (x3 + 1))] [] h1 (lm_kL K))) else (K x1 h))) : lm_W (d + 1) 244 4 [some (.ref 92), some (.long x1), none, some (.int x3)] [] h (lm_kL K) := by
  refine ls_iload_n f_244_4 rfl ?_
  refine ls_aload_n f_244_5 rfl ?_
  refine ls_invV (a := 92) f_244_6 q_244_122 [] [.int x3] rfl (Nat.le_of_ble_eq_true rfl) hl S_92 ow_160 ?_
  refine ls_enter [some (.ref 92)] ml_160 (Nat.le_of_ble_eq_true rfl) rfl ?_
  refine ls_aload_n f_160_0 rfl ?_
  refine ls_getR f_160_1 p_160_25 hl S_92 F_92_3 ?_
  refine ls_bipush 81 f_160_4 (by decide) ?_
  refine ls_ialdC 81 f_160_6 hl S_94 ⟨by decide, by decide, by decide⟩ ?_
  refine ls_ireturn f_160_7 rI_160 ?_
  show lm_W _ _ _ _ [.int (lm_i h 94 81), .int x3] _ _
  refine ls_icmp_ge 26 f_244_9 rfl hyp (fun _ hyp => ?_) (fun _ hyp => ?_)
  · refine ls_lload_n f_244_12 rfl ?_
    refine ls_aload_n f_244_13 rfl ?_
    refine ls_iload_n f_244_14 rfl ?_
    refine ls_invV (a := 92) f_244_15 q_244_375 [.int x3] [.long x1] rfl (Nat.le_of_ble_eq_true rfl) hl S_92 ow_242 ?_
    refine ls_call hyp hl (fun _ h1 hl1 hyp => ?_)
    refine ls_retL hyp (fun r2 hyp => ?_)
    refine ls_ladd (x1 + r2) f_244_18 rfl ?_
    refine ls_lstore_n [some (.ref 92), some (.long (x1 + r2)), none, some (.int x3)] f_244_19 (Nat.le_of_ble_eq_true rfl) rfl ?_
    refine ls_iinc (x3 + 1) [some (.ref 92), some (.long (x1 + r2)), none, some (.int (x3 + 1))] f_244_20 rfl (Nat.le_of_ble_eq_true rfl) rfl rfl ?_
    refine ls_goto 4 f_244_23 rfl ?_
    exact hyp
  · refine ls_lload_n f_244_26 rfl ?_
    exact ls_lreturn f_244_27 rZ_244 rfl hyp
theorem e_245 {d : Nat} {h : lm_H} {K : Int64 → lm_H → Prop} (x1 : Int32) (hl : lm_Lay h) (hyp : (if x1 = (-1) then (lm_call (d + 2) 243 [.ref 92] h (lm_kV fun h1 => (if x1 = (-1) then (lm_call (d + 2) 244 [.ref 92] h1 (lm_kL fun r3 h2 => K r3 h2)) else (lm_call (d + 2) 242 [.ref 92, .int x1] h1 (lm_kL fun r5 h4 => K r5 h4))))) else (if x1 < 0 then (K (-1000000) h) else (if ((lm_i h 94 81) - 1) < x1 then (K (-1000000) h) else (lm_call (d + 2) 243 [.ref 92] h (lm_kV fun h6 => (if x1 = (-1) then (lm_call (d + 2) 244 [.ref 92] h6 (lm_kL fun r8 h7 => K r8 h7)) else (lm_call (d + 2) 242 [.ref 92, .int x1] h6 (lm_kL fun r10 h9 => K r10 h9))))))))) : lm_call (d + 3) 245 [.ref 92, .int x1] h (lm_kL K) := by
  refine ls_enter [some (.ref 92), some (.int x1)] ml_245 (Nat.le_of_ble_eq_true rfl) rfl ?_
  refine ls_iload_n f_245_0 rfl ?_
  refine ls_iconst (-1) f_245_1 (by decide) ?_
  refine ls_icmp_eq 17 f_245_2 rfl hyp (fun _ hyp => ?_) (fun _ hyp => ?_)
  · refine ls_aload_n f_245_17 rfl ?_
    refine ls_invV (a := 92) f_245_18 q_245_380 [] [] rfl (Nat.le_of_ble_eq_true rfl) hl S_92 ow_243 ?_
    refine ls_call hyp hl (fun _ h1 hl1 hyp => ?_)
    refine ls_retV hyp (fun hyp => ?_)
    refine ls_iload_n f_245_21 rfl ?_
    refine ls_iconst (-1) f_245_22 (by decide) ?_
    refine ls_icmp_ne 33 f_245_23 rfl hyp (fun _ hyp => ?_) (fun _ hyp => ?_)
    · refine ls_aload_n f_245_26 rfl ?_
      refine ls_invV (a := 92) f_245_27 q_245_383 [] [] rfl (Nat.le_of_ble_eq_true rfl) hl1 S_92 ow_244 ?_
      refine ls_call hyp hl1 (fun _ h2 hl2 hyp => ?_)
      refine ls_retL hyp (fun r3 hyp => ?_)
      refine ls_goto 38 f_245_30 rfl ?_
      exact ls_lreturn f_245_38 rZ_245 rfl hyp
    · refine ls_aload_n f_245_33 rfl ?_
      refine ls_iload_n f_245_34 rfl ?_
      refine ls_invV (a := 92) f_245_35 q_245_375 [.int x1] [] rfl (Nat.le_of_ble_eq_true rfl) hl1 S_92 ow_242 ?_
      refine ls_call hyp hl1 (fun _ h4 hl4 hyp => ?_)
      refine ls_retL hyp (fun r5 hyp => ?_)
      exact ls_lreturn f_245_38 rZ_245 rfl hyp
  · refine ls_aload_n f_245_5 rfl ?_
    refine ls_iload_n f_245_6 rfl ?_
    refine ls_invV (a := 92) f_245_7 q_245_132 [.int x1] [] rfl (Nat.le_of_ble_eq_true rfl) hl S_92 ow_162 ?_
    refine ls_enter [some (.ref 92), some (.int x1)] ml_162 (Nat.le_of_ble_eq_true rfl) rfl ?_
    refine ls_iload_n f_162_0 rfl ?_
    refine ls_iconst 0 f_162_1 (by decide) ?_
    refine ls_aload_n f_162_2 rfl ?_
    refine ls_invV (a := 92) f_162_3 q_162_122 [] [.int 0, .int x1] rfl (Nat.le_of_ble_eq_true rfl) hl S_92 ow_160 ?_
    refine ls_enter [some (.ref 92)] ml_160 (Nat.le_of_ble_eq_true rfl) rfl ?_
    refine ls_aload_n f_160_0 rfl ?_
    refine ls_getR f_160_1 p_160_25 hl S_92 F_92_3 ?_
    refine ls_bipush 81 f_160_4 (by decide) ?_
    refine ls_ialdC 81 f_160_6 hl S_94 ⟨by decide, by decide, by decide⟩ ?_
    refine ls_ireturn f_160_7 rI_160 ?_
    show lm_W _ _ _ _ [.int (lm_i h 94 81), .int 0, .int x1] _ _
    refine ls_iconst 1 f_162_6 (by decide) ?_
    refine ls_isub ((lm_i h 94 81) - 1) f_162_7 rfl ?_
    refine ls_invS f_162_8 q_162_115 [.int x1, .int 0, .int ((lm_i h 94 81) - 1)] [] rfl (Nat.le_of_ble_eq_true rfl) ?_
    refine ls_enter [some (.int x1), some (.int 0), some (.int ((lm_i h 94 81) - 1))] ml_152 (Nat.le_of_ble_eq_true rfl) rfl ?_
    refine ls_iload_n f_152_0 rfl ?_
    refine ls_iload_n f_152_1 rfl ?_
    refine ls_icmp_lt 14 f_152_2 rfl hyp (fun _ hyp => ?_) (fun _ hyp => ?_)
    · refine ls_iconst 0 f_152_14 (by decide) ?_
      refine ls_zreturn f_152_15 rZ_152 (by decide) ?_
      show lm_W _ _ _ _ [.int 0] _ _
      refine ls_zreturn f_162_11 rZ_162 (by decide) ?_
      show lm_W _ _ _ _ [.int 0] _ _
      refine ls_if_ne_T 17 f_245_10 rfl (by decide) ?_
      refine ls_ldc2 f_245_13 k_245_378 ?_
      exact ls_lreturn f_245_16 rZ_245 rfl hyp
    · refine ls_iload_n f_152_5 rfl ?_
      refine ls_iload_n f_152_6 rfl ?_
      refine ls_icmp_gt 14 f_152_7 rfl hyp (fun _ hyp => ?_) (fun _ hyp => ?_)
      · refine ls_iconst 0 f_152_14 (by decide) ?_
        refine ls_zreturn f_152_15 rZ_152 (by decide) ?_
        show lm_W _ _ _ _ [.int 0] _ _
        refine ls_zreturn f_162_11 rZ_162 (by decide) ?_
        show lm_W _ _ _ _ [.int 0] _ _
        refine ls_if_ne_T 17 f_245_10 rfl (by decide) ?_
        refine ls_ldc2 f_245_13 k_245_378 ?_
        exact ls_lreturn f_245_16 rZ_245 rfl hyp
      · refine ls_iconst 1 f_152_10 (by decide) ?_
        refine ls_goto 15 f_152_11 rfl ?_
        refine ls_zreturn f_152_15 rZ_152 (by decide) ?_
        show lm_W _ _ _ _ [.int 1] _ _
        refine ls_zreturn f_162_11 rZ_162 (by decide) ?_
        show lm_W _ _ _ _ [.int 1] _ _
        refine ls_if_ne_F 17 f_245_10 rfl (by decide) ?_
        refine ls_aload_n f_245_17 rfl ?_
        refine ls_invV (a := 92) f_245_18 q_245_380 [] [] rfl (Nat.le_of_ble_eq_true rfl) hl S_92 ow_243 ?_
        refine ls_call hyp hl (fun _ h6 hl6 hyp => ?_)
        refine ls_retV hyp (fun hyp => ?_)
        refine ls_iload_n f_245_21 rfl ?_
        refine ls_iconst (-1) f_245_22 (by decide) ?_
        refine ls_icmp_ne 33 f_245_23 rfl hyp (fun _ hyp => ?_) (fun _ hyp => ?_)
        · refine ls_aload_n f_245_26 rfl ?_
          refine ls_invV (a := 92) f_245_27 q_245_383 [] [] rfl (Nat.le_of_ble_eq_true rfl) hl6 S_92 ow_244 ?_
          refine ls_call hyp hl6 (fun _ h7 hl7 hyp => ?_)
          refine ls_retL hyp (fun r8 hyp => ?_)
          refine ls_goto 38 f_245_30 rfl ?_
          exact ls_lreturn f_245_38 rZ_245 rfl hyp
        · refine ls_aload_n f_245_33 rfl ?_
          refine ls_iload_n f_245_34 rfl ?_
          refine ls_invV (a := 92) f_245_35 q_245_375 [.int x1] [] rfl (Nat.le_of_ble_eq_true rfl) hl6 S_92 ow_242 ?_
          refine ls_call hyp hl6 (fun _ h9 hl9 hyp => ?_)
          refine ls_retL hyp (fun r10 hyp => ?_)
          exact ls_lreturn f_245_38 rZ_245 rfl hyp
theorem e_246 {d : Nat} {h : lm_H} {K : Int32 → lm_H → Prop} (hl : lm_Lay h) (hyp : lm_call (d + 1) 243 [.ref 92] h (lm_kV fun h1 => lm_W (d + 1) 246 6 [some (.ref 92), some (.int 0), none] [] h1 (lm_kI K))) : lm_call (d + 2) 246 [.ref 92] h (lm_kI K) := by
  refine ls_enter [some (.ref 92), none, none] ml_246 (Nat.le_of_ble_eq_true rfl) rfl ?_
  refine ls_aload_n f_246_0 rfl ?_
  refine ls_invV (a := 92) f_246_1 q_246_380 [] [] rfl (Nat.le_of_ble_eq_true rfl) hl S_92 ow_243 ?_
  refine ls_call hyp hl (fun _ h1 hl1 hyp => ?_)
  refine ls_retV hyp (fun hyp => ?_)
  refine ls_iconst 0 f_246_4 (by decide) ?_
  refine ls_istore_n [some (.ref 92), some (.int 0), none] f_246_5 (Nat.le_of_ble_eq_true rfl) rfl ?_
  exact hyp
theorem b_246_6 {d : Nat} {h : lm_H} {K : Int32 → lm_H → Prop} (x1 : Int32) (hl : lm_Lay h) (hyp : (if x1 < (lm_i h 94 81) then (lm_W (d + 1) 246 16 [some (.ref 92), some (.int x1), some (.int 0)] [] h (lm_kI K)) else (K (-1) h))) : lm_W (d + 1) 246 6 [some (.ref 92), some (.int x1), none] [] h (lm_kI K) := by
  refine ls_iload_n f_246_6 rfl ?_
  refine ls_aload_n f_246_7 rfl ?_
  refine ls_invV (a := 92) f_246_8 q_246_122 [] [.int x1] rfl (Nat.le_of_ble_eq_true rfl) hl S_92 ow_160 ?_
  refine ls_enter [some (.ref 92)] ml_160 (Nat.le_of_ble_eq_true rfl) rfl ?_
  refine ls_aload_n f_160_0 rfl ?_
  refine ls_getR f_160_1 p_160_25 hl S_92 F_92_3 ?_
  refine ls_bipush 81 f_160_4 (by decide) ?_
  refine ls_ialdC 81 f_160_6 hl S_94 ⟨by decide, by decide, by decide⟩ ?_
  refine ls_ireturn f_160_7 rI_160 ?_
  show lm_W _ _ _ _ [.int (lm_i h 94 81), .int x1] _ _
  refine ls_icmp_ge 66 f_246_11 rfl hyp (fun _ hyp => ?_) (fun _ hyp => ?_)
  · refine ls_iconst 0 f_246_14 (by decide) ?_
    refine ls_istore_n [some (.ref 92), some (.int x1), some (.int 0)] f_246_15 (Nat.le_of_ble_eq_true rfl) rfl ?_
    exact hyp
  · refine ls_iconst (-1) f_246_66 (by decide) ?_
    exact ls_ireturn f_246_67 rI_246 hyp
theorem b_246_16 {d : Nat} {h : lm_H} {K : Int32 → lm_H → Prop} (x1 : Int32) (x2 : Int32) (hl : lm_Lay h) (hyp : (if (lm_i h 94 82) < x2 then (lm_W (d + 1) 246 6 [some (.ref 92), some (.int (x1 + 1)), none] [] h (lm_kI K)) else (lm_call (d + 1) 210 [.ref 92, .int x1, .int x2] h (lm_kI fun r2 h1 => (if r2 = 0 then (lm_W (d + 1) 246 16 [some (.ref 92), some (.int x1), some (.int (x2 + 1))] [] h1 (lm_kI K)) else (lm_call (d + 1) 241 [.ref 92, .int x1, .int x2] h1 (lm_kL fun r4 h3 => lm_call (d + 1) 242 [.ref 92, .int x1] h3 (lm_kL fun r6 h5 => (if 0 < (lg_cmp (10 * r4) r6) then (K x1 h5) else (lm_W (d + 1) 246 16 [some (.ref 92), some (.int x1), some (.int (x2 + 1))] [] h5 (lm_kI K))))))))))) : lm_W (d + 1) 246 16 [some (.ref 92), some (.int x1), some (.int x2)] [] h (lm_kI K) := by
  refine ls_iload_n f_246_16 rfl ?_
  refine ls_aload_n f_246_17 rfl ?_
  refine ls_invV (a := 92) f_246_18 q_246_126 [] [.int x2] rfl (Nat.le_of_ble_eq_true rfl) hl S_92 ow_161 ?_
  refine ls_enter [some (.ref 92)] ml_161 (Nat.le_of_ble_eq_true rfl) rfl ?_
  refine ls_aload_n f_161_0 rfl ?_
  refine ls_getR f_161_1 p_161_25 hl S_92 F_92_3 ?_
  refine ls_bipush 82 f_161_4 (by decide) ?_
  refine ls_ialdC 82 f_161_6 hl S_94 ⟨by decide, by decide, by decide⟩ ?_
  refine ls_ireturn f_161_7 rI_161 ?_
  show lm_W _ _ _ _ [.int (lm_i h 94 82), .int x2] _ _
  refine ls_icmp_gt 60 f_246_21 rfl hyp (fun _ hyp => ?_) (fun _ hyp => ?_)
  · refine ls_iinc (x1 + 1) [some (.ref 92), some (.int (x1 + 1)), some (.int x2)] f_246_60 rfl (Nat.le_of_ble_eq_true rfl) rfl rfl ?_
    refine ls_goto 6 f_246_63 rfl ?_
    exact ls_mask [true, true, false] [some (.ref 92), some (.int (x1 + 1)), none] rfl hyp
  · refine ls_aload_n f_246_24 rfl ?_
    refine ls_iload_n f_246_25 rfl ?_
    refine ls_iload_n f_246_26 rfl ?_
    refine ls_invV (a := 92) f_246_27 q_246_283 [.int x1, .int x2] [] rfl (Nat.le_of_ble_eq_true rfl) hl S_92 ow_210 ?_
    refine ls_call hyp hl (fun _ h1 hl1 hyp => ?_)
    refine ls_retI hyp (fun r2 hyp => ?_)
    refine ls_if_eq 54 f_246_30 rfl hyp (fun _ hyp => ?_) (fun _ hyp => ?_)
    · refine ls_iinc (x2 + 1) [some (.ref 92), some (.int x1), some (.int (x2 + 1))] f_246_54 rfl (Nat.le_of_ble_eq_true rfl) rfl rfl ?_
      refine ls_goto 16 f_246_57 rfl ?_
      exact hyp
    · refine ls_ldc2 f_246_33 k_246_365 ?_
      refine ls_aload_n f_246_36 rfl ?_
      refine ls_iload_n f_246_37 rfl ?_
      refine ls_iload_n f_246_38 rfl ?_
      refine ls_invV (a := 92) f_246_39 q_246_371 [.int x1, .int x2] [.long 10] rfl (Nat.le_of_ble_eq_true rfl) hl1 S_92 ow_241 ?_
      refine ls_call hyp hl1 (fun _ h3 hl3 hyp => ?_)
      refine ls_retL hyp (fun r4 hyp => ?_)
      refine ls_lmul (10 * r4) f_246_42 rfl ?_
      refine ls_aload_n f_246_43 rfl ?_
      refine ls_iload_n f_246_44 rfl ?_
      refine ls_invV (a := 92) f_246_45 q_246_375 [.int x1] [.long (10 * r4)] rfl (Nat.le_of_ble_eq_true rfl) hl3 S_92 ow_242 ?_
      refine ls_call hyp hl3 (fun _ h5 hl5 hyp => ?_)
      refine ls_retL hyp (fun r6 hyp => ?_)
      refine ls_lcmp f_246_48 ?_
      refine ls_if_le 54 f_246_49 rfl hyp (fun _ hyp => ?_) (fun _ hyp => ?_)
      · refine ls_iload_n f_246_52 rfl ?_
        exact ls_ireturn f_246_53 rI_246 hyp
      · refine ls_iinc (x2 + 1) [some (.ref 92), some (.int x1), some (.int (x2 + 1))] f_246_54 rfl (Nat.le_of_ble_eq_true rfl) rfl rfl ?_
        refine ls_goto 16 f_246_57 rfl ?_
        exact hyp
theorem e_247 {d : Nat} {h : lm_H} {K : lm_H → Prop} (hl : lm_Lay h) (hyp : lm_call (d + 1) 208 [.ref 92] h (lm_kV fun h1 => lm_W (d + 1) 247 6 [some (.ref 92), some (.int 0), none, none, none] [] h1 (lm_kV K))) : lm_call (d + 2) 247 [.ref 92] h (lm_kV K) := by
  refine ls_enter [some (.ref 92), none, none, none, none] ml_247 (Nat.le_of_ble_eq_true rfl) rfl ?_
  refine ls_aload_n f_247_0 rfl ?_
  refine ls_invV (a := 92) f_247_1 q_247_280 [] [] rfl (Nat.le_of_ble_eq_true rfl) hl S_92 ow_208 ?_
  refine ls_call hyp hl (fun _ h1 hl1 hyp => ?_)
  refine ls_retV hyp (fun hyp => ?_)
  refine ls_iconst 0 f_247_4 (by decide) ?_
  refine ls_istore_n [some (.ref 92), some (.int 0), none, none, none] f_247_5 (Nat.le_of_ble_eq_true rfl) rfl ?_
  exact hyp
theorem b_247_6 {d : Nat} {h : lm_H} {K : lm_H → Prop} (x1 : Int32) (hl : lm_Lay h) (hyp : (if x1 < 6 then (lm_in x1 6 False (lm_W (d + 1) 247 6 [some (.ref 92), some (.int (x1 + 1)), none, none, none] [] (lm_si h 113 x1.toNatClampNeg 0) (lm_kV K))) else (lm_W (d + 1) 247 32 [some (.ref 92), some (.int 1), none, none, none] [] (lm_si h 92 49 0) (lm_kV K)))) : lm_W (d + 1) 247 6 [some (.ref 92), some (.int x1), none, none, none] [] h (lm_kV K) := by
  refine ls_iload_n f_247_6 rfl ?_
  refine ls_bipush 6 f_247_7 (by decide) ?_
  refine ls_icmp_ge 25 f_247_9 rfl hyp (fun _ hyp => ?_) (fun _ hyp => ?_)
  · refine ls_aload_n f_247_12 rfl ?_
    refine ls_getR f_247_13 p_247_94 hl S_92 F_92_46 ?_
    refine ls_iload_n f_247_16 rfl ?_
    refine ls_iconst 0 f_247_17 (by decide) ?_
    refine ls_iast f_247_18 hl S_113 hyp (fun hyp => ?_)
    refine ls_iinc (x1 + 1) [some (.ref 92), some (.int (x1 + 1)), none, none, none] f_247_19 rfl (Nat.le_of_ble_eq_true rfl) rfl rfl ?_
    refine ls_goto 6 f_247_22 rfl ?_
    exact hyp
  · refine ls_aload_n f_247_25 rfl ?_
    refine ls_iconst 0 f_247_26 (by decide) ?_
    refine ls_putI f_247_27 p_247_387 hl S_92 rfl ?_
    refine ls_iconst 1 f_247_30 (by decide) ?_
    refine ls_istore_n [some (.ref 92), some (.int 1), none, none, none] f_247_31 (Nat.le_of_ble_eq_true rfl) rfl ?_
    exact hyp
theorem b_247_32 {d : Nat} {h : lm_H} {K : lm_H → Prop} (x1 : Int32) (hl : lm_Lay h) (hyp : (if x1 = 0 then (K h) else (lm_W (d + 1) 247 38 [some (.ref 92), none, some (.int 0), none, none] [] h (lm_kV K)))) : lm_W (d + 1) 247 32 [some (.ref 92), some (.int x1), none, none, none] [] h (lm_kV K) := by
  refine ls_iload_n f_247_32 rfl ?_
  refine ls_if_eq 190 f_247_33 rfl hyp (fun _ hyp => ?_) (fun _ hyp => ?_)
  · exact ls_return f_247_190 rV_247 hyp
  · refine ls_iconst 0 f_247_36 (by decide) ?_
    refine ls_istore_n [some (.ref 92), some (.int x1), some (.int 0), none, none] f_247_37 (Nat.le_of_ble_eq_true rfl) rfl ?_
    exact ls_mask [true, false, true, false, false] [some (.ref 92), none, some (.int 0), none, none] rfl hyp
theorem b_247_38 {d : Nat} {h : lm_H} {K : lm_H → Prop} (x2 : Int32) (hl : lm_Lay h) (hyp : (if x2 < (lm_i h 94 81) then (lm_W (d + 1) 247 48 [some (.ref 92), none, some (.int x2), some (.int 0), none] [] h (lm_kV K)) else (lm_call (d + 1) 244 [.ref 92] h (lm_kL fun r2 h1 => (if (lm_i h1 92 49) = 0 then (lm_W (d + 1) 247 132 [some (.ref 92), none, some (.long r2), none, some (.int 0)] [] (lm_si (lm_sl h1 92 48 r2) 92 49 0) (lm_kV K)) else (if 0 < (lg_cmp r2 (lm_l h1 92 48)) then (lm_W (d + 1) 247 132 [some (.ref 92), none, some (.long r2), none, some (.int 0)] [] (lm_si (lm_sl h1 92 48 r2) 92 49 0) (lm_kV K)) else (if (lg_cmp r2 (lm_l h1 92 48)) = 0 then (lm_call (d + 1) 248 [.ref 92] (lm_si h1 92 49 ((lm_i h1 92 49) + 1)) (lm_kI fun r4 h3 => lm_W (d + 1) 247 32 [some (.ref 92), some (.int r4), none, none, none] [] h3 (lm_kV K))) else (lm_call (d + 1) 248 [.ref 92] (lm_si h1 92 49 ((lm_i h1 92 49) + 0)) (lm_kI fun r6 h5 => lm_W (d + 1) 247 32 [some (.ref 92), some (.int r6), none, none, none] [] h5 (lm_kV K)))))))))) : lm_W (d + 1) 247 38 [some (.ref 92), none, some (.int x2), none, none] [] h (lm_kV K) := by
  refine ls_iload_n f_247_38 rfl ?_
  refine ls_aload_n f_247_39 rfl ?_
  refine ls_invV (a := 92) f_247_40 q_247_122 [] [.int x2] rfl (Nat.le_of_ble_eq_true rfl) hl S_92 ow_160 ?_
  refine ls_enter [some (.ref 92)] ml_160 (Nat.le_of_ble_eq_true rfl) rfl ?_
  refine ls_aload_n f_160_0 rfl ?_
  refine ls_getR f_160_1 p_160_25 hl S_92 F_92_3 ?_
  refine ls_bipush 81 f_160_4 (by decide) ?_
  refine ls_ialdC 81 f_160_6 hl S_94 ⟨by decide, by decide, by decide⟩ ?_
  refine ls_ireturn f_160_7 rI_160 ?_
  show lm_W _ _ _ _ [.int (lm_i h 94 81), .int x2] _ _
  refine ls_icmp_ge 98 f_247_43 rfl hyp (fun _ hyp => ?_) (fun _ hyp => ?_)
  · refine ls_iconst 0 f_247_46 (by decide) ?_
    refine ls_istore_n [some (.ref 92), none, some (.int x2), some (.int 0), none] f_247_47 (Nat.le_of_ble_eq_true rfl) rfl ?_
    exact hyp
  · refine ls_aload_n f_247_98 rfl ?_
    refine ls_invV (a := 92) f_247_99 q_247_383 [] [] rfl (Nat.le_of_ble_eq_true rfl) hl S_92 ow_244 ?_
    refine ls_call hyp hl (fun _ h1 hl1 hyp => ?_)
    refine ls_retL hyp (fun r2 hyp => ?_)
    refine ls_lstore_n [some (.ref 92), none, some (.long r2), none, none] f_247_102 (Nat.le_of_ble_eq_true rfl) rfl ?_
    refine ls_aload_n f_247_103 rfl ?_
    refine ls_getI f_247_104 p_247_387 hl1 S_92 ?_
    refine ls_if_eq 119 f_247_107 rfl hyp (fun _ hyp => ?_) (fun _ hyp => ?_)
    · refine ls_aload_n f_247_119 rfl ?_
      refine ls_lload_n f_247_120 rfl ?_
      refine ls_putL f_247_121 p_247_390 hl1 S_92 ?_
      refine ls_aload_n f_247_124 rfl ?_
      refine ls_iconst 0 f_247_125 (by decide) ?_
      refine ls_putI f_247_126 p_247_387 (lm_Lay_sl hl1 _ _ _) S_92 rfl ?_
      refine ls_iconst 0 f_247_129 (by decide) ?_
      refine ls_istore [some (.ref 92), none, some (.long r2), none, some (.int 0)] f_247_130 (Nat.le_of_ble_eq_true rfl) rfl ?_
      exact hyp
    · refine ls_lload_n f_247_110 rfl ?_
      refine ls_aload_n f_247_111 rfl ?_
      refine ls_getL f_247_112 p_247_390 hl1 S_92 ?_
      refine ls_lcmp f_247_115 ?_
      refine ls_if_le 159 f_247_116 rfl hyp (fun _ hyp => ?_) (fun _ hyp => ?_)
      · refine ls_aload_n f_247_119 rfl ?_
        refine ls_lload_n f_247_120 rfl ?_
        refine ls_putL f_247_121 p_247_390 hl1 S_92 ?_
        refine ls_aload_n f_247_124 rfl ?_
        refine ls_iconst 0 f_247_125 (by decide) ?_
        refine ls_putI f_247_126 p_247_387 (lm_Lay_sl hl1 _ _ _) S_92 rfl ?_
        refine ls_iconst 0 f_247_129 (by decide) ?_
        refine ls_istore [some (.ref 92), none, some (.long r2), none, some (.int 0)] f_247_130 (Nat.le_of_ble_eq_true rfl) rfl ?_
        exact hyp
      · refine ls_aload_n f_247_159 rfl ?_
        refine ls_dup f_247_160 rfl ?_
        refine ls_getI f_247_161 p_247_387 hl1 S_92 ?_
        refine ls_lload_n f_247_164 rfl ?_
        refine ls_aload_n f_247_165 rfl ?_
        refine ls_getL f_247_166 p_247_390 hl1 S_92 ?_
        refine ls_lcmp f_247_169 ?_
        refine ls_if_ne 177 f_247_170 rfl hyp (fun _ hyp => ?_) (fun _ hyp => ?_)
        · refine ls_iconst 1 f_247_173 (by decide) ?_
          refine ls_goto 178 f_247_174 rfl ?_
          refine ls_iadd ((lm_i h1 92 49) + 1) f_247_178 rfl ?_
          refine ls_putI f_247_179 p_247_387 hl1 S_92 rfl ?_
          refine ls_aload_n f_247_182 rfl ?_
          refine ls_invV (a := 92) f_247_183 q_247_394 [] [] rfl (Nat.le_of_ble_eq_true rfl) (lm_Lay_si hl1 _ _ _) S_92 ow_248 ?_
          refine ls_call hyp (lm_Lay_si hl1 _ _ _) (fun _ h3 hl3 hyp => ?_)
          refine ls_retI hyp (fun r4 hyp => ?_)
          refine ls_istore_n [some (.ref 92), some (.int r4), some (.long r2), none, none] f_247_186 (Nat.le_of_ble_eq_true rfl) rfl ?_
          refine ls_goto 32 f_247_187 rfl ?_
          exact ls_mask [true, true, false, false, false] [some (.ref 92), some (.int r4), none, none, none] rfl hyp
        · refine ls_iconst 0 f_247_177 (by decide) ?_
          refine ls_iadd ((lm_i h1 92 49) + 0) f_247_178 rfl ?_
          refine ls_putI f_247_179 p_247_387 hl1 S_92 rfl ?_
          refine ls_aload_n f_247_182 rfl ?_
          refine ls_invV (a := 92) f_247_183 q_247_394 [] [] rfl (Nat.le_of_ble_eq_true rfl) (lm_Lay_si hl1 _ _ _) S_92 ow_248 ?_
          refine ls_call hyp (lm_Lay_si hl1 _ _ _) (fun _ h5 hl5 hyp => ?_)
          refine ls_retI hyp (fun r6 hyp => ?_)
          refine ls_istore_n [some (.ref 92), some (.int r6), some (.long r2), none, none] f_247_186 (Nat.le_of_ble_eq_true rfl) rfl ?_
          refine ls_goto 32 f_247_187 rfl ?_
          exact ls_mask [true, true, false, false, false] [some (.ref 92), some (.int r6), none, none, none] rfl hyp
theorem b_247_48 {d : Nat} {h : lm_H} {K : lm_H → Prop} (x2 : Int32) (x3 : Int32) (hl : lm_Lay h) (hyp : (if x3 < (lm_i h 94 82) then (lm_call (d + 1) 210 [.ref 92, .int x2, .int x3] h (lm_kI fun r2 h1 => (if r2 = 0 then (lm_in ((6 * x2) + x3) 30 False (lm_W (d + 1) 247 48 [some (.ref 92), none, some (.int x2), some (.int (x3 + 1)), none] [] (lm_si h1 111 (((6 * x2) + x3).toNatClampNeg) 0) (lm_kV K))) else (lm_in x3 6 False (lm_in ((6 * x2) + x3) 30 False (lm_W (d + 1) 247 48 [some (.ref 92), none, some (.int x2), some (.int (x3 + 1)), none] [] (lm_si h1 111 (((6 * x2) + x3).toNatClampNeg) (lm_i h1 113 x3.toNatClampNeg)) (lm_kV K))))))) else (lm_W (d + 1) 247 38 [some (.ref 92), none, some (.int (x2 + 1)), none, none] [] h (lm_kV K)))) : lm_W (d + 1) 247 48 [some (.ref 92), none, some (.int x2), some (.int x3), none] [] h (lm_kV K) := by
  refine ls_iload_n f_247_48 rfl ?_
  refine ls_aload_n f_247_49 rfl ?_
  refine ls_invV (a := 92) f_247_50 q_247_126 [] [.int x3] rfl (Nat.le_of_ble_eq_true rfl) hl S_92 ow_161 ?_
  refine ls_enter [some (.ref 92)] ml_161 (Nat.le_of_ble_eq_true rfl) rfl ?_
  refine ls_aload_n f_161_0 rfl ?_
  refine ls_getR f_161_1 p_161_25 hl S_92 F_92_3 ?_
  refine ls_bipush 82 f_161_4 (by decide) ?_
  refine ls_ialdC 82 f_161_6 hl S_94 ⟨by decide, by decide, by decide⟩ ?_
  refine ls_ireturn f_161_7 rI_161 ?_
  show lm_W _ _ _ _ [.int (lm_i h 94 82), .int x3] _ _
  refine ls_icmp_ge 92 f_247_53 rfl hyp (fun _ hyp => ?_) (fun _ hyp => ?_)
  · refine ls_aload_n f_247_56 rfl ?_
    refine ls_getR f_247_57 p_247_87 hl S_92 F_92_44 ?_
    refine ls_bipush 6 f_247_60 (by decide) ?_
    refine ls_iload_n f_247_62 rfl ?_
    refine ls_imul (6 * x2) f_247_63 rfl ?_
    refine ls_iload_n f_247_64 rfl ?_
    refine ls_iadd ((6 * x2) + x3) f_247_65 rfl ?_
    refine ls_aload_n f_247_66 rfl ?_
    refine ls_iload_n f_247_67 rfl ?_
    refine ls_iload_n f_247_68 rfl ?_
    refine ls_invV (a := 92) f_247_69 q_247_283 [.int x2, .int x3] [.int ((6 * x2) + x3), .ref 111] rfl (Nat.le_of_ble_eq_true rfl) hl S_92 ow_210 ?_
    refine ls_call hyp hl (fun _ h1 hl1 hyp => ?_)
    refine ls_retI hyp (fun r2 hyp => ?_)
    refine ls_if_eq 84 f_247_72 rfl hyp (fun _ hyp => ?_) (fun _ hyp => ?_)
    · refine ls_iconst 0 f_247_84 (by decide) ?_
      refine ls_iast f_247_85 hl1 S_111 hyp (fun hyp => ?_)
      refine ls_iinc (x3 + 1) [some (.ref 92), none, some (.int x2), some (.int (x3 + 1)), none] f_247_86 rfl (Nat.le_of_ble_eq_true rfl) rfl rfl ?_
      refine ls_goto 48 f_247_89 rfl ?_
      exact hyp
    · refine ls_aload_n f_247_75 rfl ?_
      refine ls_getR f_247_76 p_247_94 hl1 S_92 F_92_46 ?_
      refine ls_iload_n f_247_79 rfl ?_
      refine ls_iald f_247_80 hl1 S_113 hyp (fun hyp => ?_)
      refine ls_goto 85 f_247_81 rfl ?_
      refine ls_iast f_247_85 hl1 S_111 hyp (fun hyp => ?_)
      refine ls_iinc (x3 + 1) [some (.ref 92), none, some (.int x2), some (.int (x3 + 1)), none] f_247_86 rfl (Nat.le_of_ble_eq_true rfl) rfl rfl ?_
      refine ls_goto 48 f_247_89 rfl ?_
      exact hyp
  · refine ls_iinc (x2 + 1) [some (.ref 92), none, some (.int (x2 + 1)), some (.int x3), none] f_247_92 rfl (Nat.le_of_ble_eq_true rfl) rfl rfl ?_
    refine ls_goto 38 f_247_95 rfl ?_
    exact ls_mask [true, false, true, false, false] [some (.ref 92), none, some (.int (x2 + 1)), none, none] rfl hyp
theorem b_247_132 {d : Nat} {h : lm_H} {K : lm_H → Prop} (x2 : Int64) (x4 : Int32) (hl : lm_Lay h) (hyp : (if x4 < 6 then (lm_in x4 6 False (lm_in x4 6 False (lm_W (d + 1) 247 132 [some (.ref 92), none, some (.long x2), none, some (.int (x4 + 1))] [] (lm_si h 114 x4.toNatClampNeg (lm_i h 113 x4.toNatClampNeg)) (lm_kV K)))) else (if (lg_cmp x2 (lm_l h 92 48)) = 0 then (lm_call (d + 1) 248 [.ref 92] (lm_si h 92 49 ((lm_i h 92 49) + 1)) (lm_kI fun r2 h1 => lm_W (d + 1) 247 32 [some (.ref 92), some (.int r2), none, none, none] [] h1 (lm_kV K))) else (lm_call (d + 1) 248 [.ref 92] (lm_si h 92 49 ((lm_i h 92 49) + 0)) (lm_kI fun r4 h3 => lm_W (d + 1) 247 32 [some (.ref 92), some (.int r4), none, none, none] [] h3 (lm_kV K)))))) : lm_W (d + 1) 247 132 [some (.ref 92), none, some (.long x2), none, some (.int x4)] [] h (lm_kV K) := by
  refine ls_iload f_247_132 rfl ?_
  refine ls_bipush 6 f_247_134 (by decide) ?_
  refine ls_icmp_ge 159 f_247_136 rfl hyp (fun _ hyp => ?_) (fun _ hyp => ?_)
  · refine ls_aload_n f_247_139 rfl ?_
    refine ls_getR f_247_140 p_247_97 hl S_92 F_92_47 ?_
    refine ls_iload f_247_143 rfl ?_
    refine ls_aload_n f_247_145 rfl ?_
    refine ls_getR f_247_146 p_247_94 hl S_92 F_92_46 ?_
    refine ls_iload f_247_149 rfl ?_
    refine ls_iald f_247_151 hl S_113 hyp (fun hyp => ?_)
    refine ls_iast f_247_152 hl S_114 hyp (fun hyp => ?_)
    refine ls_iinc (x4 + 1) [some (.ref 92), none, some (.long x2), none, some (.int (x4 + 1))] f_247_153 rfl (Nat.le_of_ble_eq_true rfl) rfl rfl ?_
    refine ls_goto 132 f_247_156 rfl ?_
    exact hyp
  · refine ls_aload_n f_247_159 rfl ?_
    refine ls_dup f_247_160 rfl ?_
    refine ls_getI f_247_161 p_247_387 hl S_92 ?_
    refine ls_lload_n f_247_164 rfl ?_
    refine ls_aload_n f_247_165 rfl ?_
    refine ls_getL f_247_166 p_247_390 hl S_92 ?_
    refine ls_lcmp f_247_169 ?_
    refine ls_if_ne 177 f_247_170 rfl hyp (fun _ hyp => ?_) (fun _ hyp => ?_)
    · refine ls_iconst 1 f_247_173 (by decide) ?_
      refine ls_goto 178 f_247_174 rfl ?_
      refine ls_iadd ((lm_i h 92 49) + 1) f_247_178 rfl ?_
      refine ls_putI f_247_179 p_247_387 hl S_92 rfl ?_
      refine ls_aload_n f_247_182 rfl ?_
      refine ls_invV (a := 92) f_247_183 q_247_394 [] [] rfl (Nat.le_of_ble_eq_true rfl) (lm_Lay_si hl _ _ _) S_92 ow_248 ?_
      refine ls_call hyp (lm_Lay_si hl _ _ _) (fun _ h1 hl1 hyp => ?_)
      refine ls_retI hyp (fun r2 hyp => ?_)
      refine ls_istore_n [some (.ref 92), some (.int r2), some (.long x2), none, some (.int x4)] f_247_186 (Nat.le_of_ble_eq_true rfl) rfl ?_
      refine ls_goto 32 f_247_187 rfl ?_
      exact ls_mask [true, true, false, false, false] [some (.ref 92), some (.int r2), none, none, none] rfl hyp
    · refine ls_iconst 0 f_247_177 (by decide) ?_
      refine ls_iadd ((lm_i h 92 49) + 0) f_247_178 rfl ?_
      refine ls_putI f_247_179 p_247_387 hl S_92 rfl ?_
      refine ls_aload_n f_247_182 rfl ?_
      refine ls_invV (a := 92) f_247_183 q_247_394 [] [] rfl (Nat.le_of_ble_eq_true rfl) (lm_Lay_si hl _ _ _) S_92 ow_248 ?_
      refine ls_call hyp (lm_Lay_si hl _ _ _) (fun _ h3 hl3 hyp => ?_)
      refine ls_retI hyp (fun r4 hyp => ?_)
      refine ls_istore_n [some (.ref 92), some (.int r4), some (.long x2), none, some (.int x4)] f_247_186 (Nat.le_of_ble_eq_true rfl) rfl ?_
      refine ls_goto 32 f_247_187 rfl ?_
      exact ls_mask [true, true, false, false, false] [some (.ref 92), some (.int r4), none, none, none] rfl hyp
theorem e_248 {d : Nat} {h : lm_H} {K : Int32 → lm_H → Prop} (hl : lm_Lay h) (hyp : lm_W (d + 1) 248 4 [some (.ref 92), some (.int 0), some (.int 0)] [] h (lm_kI K)) : lm_call (d + 2) 248 [.ref 92] h (lm_kI K) := by
  refine ls_enter [some (.ref 92), none, none] ml_248 (Nat.le_of_ble_eq_true rfl) rfl ?_
  refine ls_iconst 0 f_248_0 (by decide) ?_
  refine ls_istore_n [some (.ref 92), some (.int 0), none] f_248_1 (Nat.le_of_ble_eq_true rfl) rfl ?_
  refine ls_iconst 0 f_248_2 (by decide) ?_
  refine ls_istore_n [some (.ref 92), some (.int 0), some (.int 0)] f_248_3 (Nat.le_of_ble_eq_true rfl) rfl ?_
  exact hyp
theorem b_248_4 {d : Nat} {h : lm_H} {K : Int32 → lm_H → Prop} (x1 : Int32) (x2 : Int32) (hl : lm_Lay h) (hyp : (if x2 < (lm_i h 94 82) then (lm_in x2 6 False (lm_W (d + 1) 248 4 [some (.ref 92), some (.int (x1 + (lm_i h 113 x2.toNatClampNeg))), some (.int (x2 + 1))] [] h (lm_kI K))) else (lm_W (d + 1) 248 34 [some (.ref 92), some (.int x1), some (.int ((lm_i h 94 82) - 1))] [] h (lm_kI K)))) : lm_W (d + 1) 248 4 [some (.ref 92), some (.int x1), some (.int x2)] [] h (lm_kI K) := by
  refine ls_iload_n f_248_4 rfl ?_
  refine ls_aload_n f_248_5 rfl ?_
  refine ls_invV (a := 92) f_248_6 q_248_126 [] [.int x2] rfl (Nat.le_of_ble_eq_true rfl) hl S_92 ow_161 ?_
  refine ls_enter [some (.ref 92)] ml_161 (Nat.le_of_ble_eq_true rfl) rfl ?_
  refine ls_aload_n f_161_0 rfl ?_
  refine ls_getR f_161_1 p_161_25 hl S_92 F_92_3 ?_
  refine ls_bipush 82 f_161_4 (by decide) ?_
  refine ls_ialdC 82 f_161_6 hl S_94 ⟨by decide, by decide, by decide⟩ ?_
  refine ls_ireturn f_161_7 rI_161 ?_
  show lm_W _ _ _ _ [.int (lm_i h 94 82), .int x2] _ _
  refine ls_icmp_ge 27 f_248_9 rfl hyp (fun _ hyp => ?_) (fun _ hyp => ?_)
  · refine ls_iload_n f_248_12 rfl ?_
    refine ls_aload_n f_248_13 rfl ?_
    refine ls_getR f_248_14 p_248_94 hl S_92 F_92_46 ?_
    refine ls_iload_n f_248_17 rfl ?_
    refine ls_iald f_248_18 hl S_113 hyp (fun hyp => ?_)
    refine ls_iadd (x1 + (lm_i h 113 x2.toNatClampNeg)) f_248_19 rfl ?_
    refine ls_istore_n [some (.ref 92), some (.int (x1 + (lm_i h 113 x2.toNatClampNeg))), some (.int x2)] f_248_20 (Nat.le_of_ble_eq_true rfl) rfl ?_
    refine ls_iinc (x2 + 1) [some (.ref 92), some (.int (x1 + (lm_i h 113 x2.toNatClampNeg))), some (.int (x2 + 1))] f_248_21 rfl (Nat.le_of_ble_eq_true rfl) rfl rfl ?_
    refine ls_goto 4 f_248_24 rfl ?_
    exact hyp
  · refine ls_aload_n f_248_27 rfl ?_
    refine ls_invV (a := 92) f_248_28 q_248_126 [] [] rfl (Nat.le_of_ble_eq_true rfl) hl S_92 ow_161 ?_
    refine ls_enter [some (.ref 92)] ml_161 (Nat.le_of_ble_eq_true rfl) rfl ?_
    refine ls_aload_n f_161_0 rfl ?_
    refine ls_getR f_161_1 p_161_25 hl S_92 F_92_3 ?_
    refine ls_bipush 82 f_161_4 (by decide) ?_
    refine ls_ialdC 82 f_161_6 hl S_94 ⟨by decide, by decide, by decide⟩ ?_
    refine ls_ireturn f_161_7 rI_161 ?_
    show lm_W _ _ _ _ [.int (lm_i h 94 82)] _ _
    refine ls_iconst 1 f_248_31 (by decide) ?_
    refine ls_isub ((lm_i h 94 82) - 1) f_248_32 rfl ?_
    refine ls_istore_n [some (.ref 92), some (.int x1), some (.int ((lm_i h 94 82) - 1))] f_248_33 (Nat.le_of_ble_eq_true rfl) rfl ?_
    exact hyp
theorem b_248_34 {d : Nat} {h : lm_H} {K : Int32 → lm_H → Prop} (x1 : Int32) (x2 : Int32) (hl : lm_Lay h) (hyp : (if x2 < 0 then (K 0 h) else (if x1 < 10 then (lm_in x2 6 False (lm_in x2 6 False (K 1 (lm_si h 113 x2.toNatClampNeg ((lm_i h 113 x2.toNatClampNeg) + 1))))) else (lm_in x2 6 False (lm_in x2 6 False (lm_W (d + 1) 248 34 [some (.ref 92), some (.int (x1 - (lm_i h 113 x2.toNatClampNeg))), some (.int (x2 - 1))] [] (lm_si h 113 x2.toNatClampNeg 0) (lm_kI K))))))) : lm_W (d + 1) 248 34 [some (.ref 92), some (.int x1), some (.int x2)] [] h (lm_kI K) := by
  refine ls_iload_n f_248_34 rfl ?_
  refine ls_if_lt 78 f_248_35 rfl hyp (fun _ hyp => ?_) (fun _ hyp => ?_)
  · refine ls_iconst 0 f_248_78 (by decide) ?_
    exact ls_zreturn f_248_79 rZ_248 (by decide) hyp
  · refine ls_iload_n f_248_38 rfl ?_
    refine ls_bipush 10 f_248_39 (by decide) ?_
    refine ls_icmp_ge 56 f_248_41 rfl hyp (fun _ hyp => ?_) (fun _ hyp => ?_)
    · refine ls_aload_n f_248_44 rfl ?_
      refine ls_getR f_248_45 p_248_94 hl S_92 F_92_46 ?_
      refine ls_iload_n f_248_48 rfl ?_
      refine ls_dup2 f_248_49 rfl rfl ?_
      refine ls_iald f_248_50 hl S_113 hyp (fun hyp => ?_)
      refine ls_iconst 1 f_248_51 (by decide) ?_
      refine ls_iadd ((lm_i h 113 x2.toNatClampNeg) + 1) f_248_52 rfl ?_
      refine ls_iast f_248_53 hl S_113 hyp (fun hyp => ?_)
      refine ls_iconst 1 f_248_54 (by decide) ?_
      exact ls_zreturn f_248_55 rZ_248 (by decide) hyp
    · refine ls_iload_n f_248_56 rfl ?_
      refine ls_aload_n f_248_57 rfl ?_
      refine ls_getR f_248_58 p_248_94 hl S_92 F_92_46 ?_
      refine ls_iload_n f_248_61 rfl ?_
      refine ls_iald f_248_62 hl S_113 hyp (fun hyp => ?_)
      refine ls_isub (x1 - (lm_i h 113 x2.toNatClampNeg)) f_248_63 rfl ?_
      refine ls_istore_n [some (.ref 92), some (.int (x1 - (lm_i h 113 x2.toNatClampNeg))), some (.int x2)] f_248_64 (Nat.le_of_ble_eq_true rfl) rfl ?_
      refine ls_aload_n f_248_65 rfl ?_
      refine ls_getR f_248_66 p_248_94 hl S_92 F_92_46 ?_
      refine ls_iload_n f_248_69 rfl ?_
      refine ls_iconst 0 f_248_70 (by decide) ?_
      refine ls_iast f_248_71 hl S_113 hyp (fun hyp => ?_)
      refine ls_iinc (x2 - 1) [some (.ref 92), some (.int (x1 - (lm_i h 113 x2.toNatClampNeg))), some (.int (x2 - 1))] f_248_72 rfl (Nat.le_of_ble_eq_true rfl) (lm_m1 _) rfl ?_
      refine ls_goto 34 f_248_75 rfl ?_
      exact hyp
theorem e_249 {d : Nat} {h : lm_H} {K : lm_H → Prop} (hl : lm_Lay h) (hyp : (if (lm_i h 92 50) = (lm_i h 92 1) then (K h) else (lm_call (d) 247 [.ref 92] h (lm_kV fun h1 => K (lm_si h1 92 50 (lm_i h1 92 1)))))) : lm_call (d + 1) 249 [.ref 92] h (lm_kV K) := by
  refine ls_enter [some (.ref 92)] ml_249 (Nat.le_of_ble_eq_true rfl) rfl ?_
  refine ls_aload_n f_249_0 rfl ?_
  refine ls_getI f_249_1 p_249_100 hl S_92 ?_
  refine ls_aload_n f_249_4 rfl ?_
  refine ls_getI f_249_5 p_249_16 hl S_92 ?_
  refine ls_icmp_ne 12 f_249_8 rfl hyp (fun _ hyp => ?_) (fun _ hyp => ?_)
  · exact ls_return f_249_11 rV_249 hyp
  · refine ls_aload_n f_249_12 rfl ?_
    refine ls_invV (a := 92) f_249_13 q_249_397 [] [] rfl (Nat.le_of_ble_eq_true rfl) hl S_92 ow_247 ?_
    refine ls_call hyp hl (fun _ h1 hl1 hyp => ?_)
    refine ls_retV hyp (fun hyp => ?_)
    refine ls_aload_n f_249_16 rfl ?_
    refine ls_aload_n f_249_17 rfl ?_
    refine ls_getI f_249_18 p_249_16 hl1 S_92 ?_
    refine ls_putI f_249_21 p_249_100 hl1 S_92 rfl ?_
    exact ls_return f_249_24 rV_249 hyp
theorem e_250 {d : Nat} {h : lm_H} {K : Int64 → lm_H → Prop} (x1 : Int32) (hl : lm_Lay h) (hyp : (if x1 < 0 then (K (-1000000) h) else (if 1 < x1 then (K (-1000000) h) else (lm_call (d + 1) 249 [.ref 92] h (lm_kV fun h1 => (if x1 = 0 then (K (lm_l h1 92 48) h1) else (K ((lm_i h1 92 49).toInt64) h1))))))) : lm_call (d + 2) 250 [.ref 92, .int x1] h (lm_kL K) := by
  refine ls_enter [some (.ref 92), some (.int x1)] ml_250 (Nat.le_of_ble_eq_true rfl) rfl ?_
  refine ls_iload_n f_250_0 rfl ?_
  refine ls_iconst 0 f_250_1 (by decide) ?_
  refine ls_iconst 1 f_250_2 (by decide) ?_
  refine ls_invS f_250_3 q_250_115 [.int x1, .int 0, .int 1] [] rfl (Nat.le_of_ble_eq_true rfl) ?_
  refine ls_enter [some (.int x1), some (.int 0), some (.int 1)] ml_152 (Nat.le_of_ble_eq_true rfl) rfl ?_
  refine ls_iload_n f_152_0 rfl ?_
  refine ls_iload_n f_152_1 rfl ?_
  refine ls_icmp_lt 14 f_152_2 rfl hyp (fun _ hyp => ?_) (fun _ hyp => ?_)
  · refine ls_iconst 0 f_152_14 (by decide) ?_
    refine ls_zreturn f_152_15 rZ_152 (by decide) ?_
    show lm_W _ _ _ _ [.int 0] _ _
    refine ls_if_ne_T 13 f_250_6 rfl (by decide) ?_
    refine ls_ldc2 f_250_9 k_250_378 ?_
    exact ls_lreturn f_250_12 rZ_250 rfl hyp
  · refine ls_iload_n f_152_5 rfl ?_
    refine ls_iload_n f_152_6 rfl ?_
    refine ls_icmp_gt 14 f_152_7 rfl hyp (fun _ hyp => ?_) (fun _ hyp => ?_)
    · refine ls_iconst 0 f_152_14 (by decide) ?_
      refine ls_zreturn f_152_15 rZ_152 (by decide) ?_
      show lm_W _ _ _ _ [.int 0] _ _
      refine ls_if_ne_T 13 f_250_6 rfl (by decide) ?_
      refine ls_ldc2 f_250_9 k_250_378 ?_
      exact ls_lreturn f_250_12 rZ_250 rfl hyp
    · refine ls_iconst 1 f_152_10 (by decide) ?_
      refine ls_goto 15 f_152_11 rfl ?_
      refine ls_zreturn f_152_15 rZ_152 (by decide) ?_
      show lm_W _ _ _ _ [.int 1] _ _
      refine ls_if_ne_F 13 f_250_6 rfl (by decide) ?_
      refine ls_aload_n f_250_13 rfl ?_
      refine ls_invV (a := 92) f_250_14 q_250_400 [] [] rfl (Nat.le_of_ble_eq_true rfl) hl S_92 ow_249 ?_
      refine ls_call hyp hl (fun _ h1 hl1 hyp => ?_)
      refine ls_retV hyp (fun hyp => ?_)
      refine ls_iload_n f_250_17 rfl ?_
      refine ls_if_ne 28 f_250_18 rfl hyp (fun _ hyp => ?_) (fun _ hyp => ?_)
      · refine ls_aload_n f_250_21 rfl ?_
        refine ls_getL f_250_22 p_250_390 hl1 S_92 ?_
        refine ls_goto 33 f_250_25 rfl ?_
        exact ls_lreturn f_250_33 rZ_250 rfl hyp
      · refine ls_aload_n f_250_28 rfl ?_
        refine ls_getI f_250_29 p_250_387 hl1 S_92 ?_
        refine ls_i2l ((lm_i h1 92 49).toInt64) f_250_32 rfl ?_
        exact ls_lreturn f_250_33 rZ_250 rfl hyp
theorem e_251 {d : Nat} {h : lm_H} {K : Int32 → lm_H → Prop} (x1 : Int32) (hl : lm_Lay h) (hyp : (if x1 < 0 then (K (-1) h) else (if ((lm_i h 94 82) - 1) < x1 then (K (-1) h) else (lm_call (d + 2) 249 [.ref 92] h (lm_kV fun h1 => lm_in x1 6 False (K (lm_i h1 114 x1.toNatClampNeg) h1)))))) : lm_call (d + 3) 251 [.ref 92, .int x1] h (lm_kI K) := by
  refine ls_enter [some (.ref 92), some (.int x1)] ml_251 (Nat.le_of_ble_eq_true rfl) rfl ?_
  refine ls_aload_n f_251_0 rfl ?_
  refine ls_iload_n f_251_1 rfl ?_
  refine ls_invV (a := 92) f_251_2 q_251_136 [.int x1] [] rfl (Nat.le_of_ble_eq_true rfl) hl S_92 ow_163 ?_
  refine ls_enter [some (.ref 92), some (.int x1)] ml_163 (Nat.le_of_ble_eq_true rfl) rfl ?_
  refine ls_iload_n f_163_0 rfl ?_
  refine ls_iconst 0 f_163_1 (by decide) ?_
  refine ls_aload_n f_163_2 rfl ?_
  refine ls_invV (a := 92) f_163_3 q_163_126 [] [.int 0, .int x1] rfl (Nat.le_of_ble_eq_true rfl) hl S_92 ow_161 ?_
  refine ls_enter [some (.ref 92)] ml_161 (Nat.le_of_ble_eq_true rfl) rfl ?_
  refine ls_aload_n f_161_0 rfl ?_
  refine ls_getR f_161_1 p_161_25 hl S_92 F_92_3 ?_
  refine ls_bipush 82 f_161_4 (by decide) ?_
  refine ls_ialdC 82 f_161_6 hl S_94 ⟨by decide, by decide, by decide⟩ ?_
  refine ls_ireturn f_161_7 rI_161 ?_
  show lm_W _ _ _ _ [.int (lm_i h 94 82), .int 0, .int x1] _ _
  refine ls_iconst 1 f_163_6 (by decide) ?_
  refine ls_isub ((lm_i h 94 82) - 1) f_163_7 rfl ?_
  refine ls_invS f_163_8 q_163_115 [.int x1, .int 0, .int ((lm_i h 94 82) - 1)] [] rfl (Nat.le_of_ble_eq_true rfl) ?_
  refine ls_enter [some (.int x1), some (.int 0), some (.int ((lm_i h 94 82) - 1))] ml_152 (Nat.le_of_ble_eq_true rfl) rfl ?_
  refine ls_iload_n f_152_0 rfl ?_
  refine ls_iload_n f_152_1 rfl ?_
  refine ls_icmp_lt 14 f_152_2 rfl hyp (fun _ hyp => ?_) (fun _ hyp => ?_)
  · refine ls_iconst 0 f_152_14 (by decide) ?_
    refine ls_zreturn f_152_15 rZ_152 (by decide) ?_
    show lm_W _ _ _ _ [.int 0] _ _
    refine ls_zreturn f_163_11 rZ_163 (by decide) ?_
    show lm_W _ _ _ _ [.int 0] _ _
    refine ls_if_ne_T 10 f_251_5 rfl (by decide) ?_
    refine ls_iconst (-1) f_251_8 (by decide) ?_
    exact ls_ireturn f_251_9 rI_251 hyp
  · refine ls_iload_n f_152_5 rfl ?_
    refine ls_iload_n f_152_6 rfl ?_
    refine ls_icmp_gt 14 f_152_7 rfl hyp (fun _ hyp => ?_) (fun _ hyp => ?_)
    · refine ls_iconst 0 f_152_14 (by decide) ?_
      refine ls_zreturn f_152_15 rZ_152 (by decide) ?_
      show lm_W _ _ _ _ [.int 0] _ _
      refine ls_zreturn f_163_11 rZ_163 (by decide) ?_
      show lm_W _ _ _ _ [.int 0] _ _
      refine ls_if_ne_T 10 f_251_5 rfl (by decide) ?_
      refine ls_iconst (-1) f_251_8 (by decide) ?_
      exact ls_ireturn f_251_9 rI_251 hyp
    · refine ls_iconst 1 f_152_10 (by decide) ?_
      refine ls_goto 15 f_152_11 rfl ?_
      refine ls_zreturn f_152_15 rZ_152 (by decide) ?_
      show lm_W _ _ _ _ [.int 1] _ _
      refine ls_zreturn f_163_11 rZ_163 (by decide) ?_
      show lm_W _ _ _ _ [.int 1] _ _
      refine ls_if_ne_F 10 f_251_5 rfl (by decide) ?_
      refine ls_aload_n f_251_10 rfl ?_
      refine ls_invV (a := 92) f_251_11 q_251_400 [] [] rfl (Nat.le_of_ble_eq_true rfl) hl S_92 ow_249 ?_
      refine ls_call hyp hl (fun _ h1 hl1 hyp => ?_)
      refine ls_retV hyp (fun hyp => ?_)
      refine ls_aload_n f_251_14 rfl ?_
      refine ls_getR f_251_15 p_251_97 hl1 S_92 F_92_47 ?_
      refine ls_iload_n f_251_18 rfl ?_
      refine ls_iald f_251_19 hl1 S_114 hyp (fun hyp => ?_)
      exact ls_ireturn f_251_20 rI_251 hyp
theorem e_252 {d : Nat} {h : lm_H} {K : Int32 → lm_H → Prop} (x1 : Int32) (hl : lm_Lay h) (hyp : (¬ x1 = 0) ∧ (K (((((1103 * ((lm_i h 92 57).toInt64)) + 12345) - ((1103 * ((lm_i h 92 57).toInt64)) + 12345) / 1000003 * 1000003).toInt32) - ((((1103 * ((lm_i h 92 57).toInt64)) + 12345) - ((1103 * ((lm_i h 92 57).toInt64)) + 12345) / 1000003 * 1000003).toInt32) / x1 * x1) (lm_si h 92 57 ((((1103 * ((lm_i h 92 57).toInt64)) + 12345) - ((1103 * ((lm_i h 92 57).toInt64)) + 12345) / 1000003 * 1000003).toInt32)))) : lm_call (d + 1) 252 [.ref 92, .int x1] h (lm_kI K) := by
  refine ls_enter [some (.ref 92), some (.int x1)] ml_252 (Nat.le_of_ble_eq_true rfl) rfl ?_
  refine ls_aload_n f_252_0 rfl ?_
  refine ls_ldc2 f_252_1 k_252_403 ?_
  refine ls_aload_n f_252_4 rfl ?_
  refine ls_getI f_252_5 p_252_405 hl S_92 ?_
  refine ls_i2l ((lm_i h 92 57).toInt64) f_252_8 rfl ?_
  refine ls_lmul (1103 * ((lm_i h 92 57).toInt64)) f_252_9 rfl ?_
  refine ls_ldc2 f_252_10 k_252_408 ?_
  refine ls_ladd ((1103 * ((lm_i h 92 57).toInt64)) + 12345) f_252_13 rfl ?_
  refine ls_ldc2 f_252_14 k_252_410 ?_
  refine ls_lrem (((1103 * ((lm_i h 92 57).toInt64)) + 12345) - ((1103 * ((lm_i h 92 57).toInt64)) + 12345) / 1000003 * 1000003) f_252_17 (by decide) rfl ?_
  refine ls_l2i ((((1103 * ((lm_i h 92 57).toInt64)) + 12345) - ((1103 * ((lm_i h 92 57).toInt64)) + 12345) / 1000003 * 1000003).toInt32) f_252_18 rfl ?_
  refine ls_putI f_252_19 p_252_405 hl S_92 rfl ?_
  refine ls_aload_n f_252_22 rfl ?_
  refine ls_getI f_252_23 p_252_405 (lm_Lay_si hl _ _ _) S_92 ?_
  refine ls_top ((((1103 * ((lm_i h 92 57).toInt64)) + 12345) - ((1103 * ((lm_i h 92 57).toInt64)) + 12345) / 1000003 * 1000003).toInt32) rfl ?_
  refine ls_iload_n f_252_26 rfl ?_
  refine ls_irem (((((1103 * ((lm_i h 92 57).toInt64)) + 12345) - ((1103 * ((lm_i h 92 57).toInt64)) + 12345) / 1000003 * 1000003).toInt32) - ((((1103 * ((lm_i h 92 57).toInt64)) + 12345) - ((1103 * ((lm_i h 92 57).toInt64)) + 12345) / 1000003 * 1000003).toInt32) / x1 * x1) f_252_27 hyp.1 rfl ?_
  replace hyp := hyp.2
  exact ls_ireturn f_252_28 rI_252 hyp
theorem e_253 {d : Nat} {h : lm_H} {K : Int32 → lm_H → Prop} (x1 : Int32) (x2 : Int32) (hl : lm_Lay h) (hyp : lm_in (71 + x1) 4893 False (lm_in (76 + x1) 4893 False (if (lm_i h 94 ((76 + x1).toNatClampNeg)) = 3 then (lm_call (d + 1) 252 [.ref 92, .int 10] h (lm_kI fun r2 h1 => lm_W (d + 1) 253 48 [some (.ref 92), some (.int x1), none, none, none, none, some (.int r2), some (.int 0), some (.int 0), none] [] h1 (lm_kI K))) else (if x2 = 0 then (K (lm_i h 94 ((71 + x1).toNatClampNeg)) h) else (if (lm_i h 94 ((76 + x1).toNatClampNeg)) = 0 then (K (lm_i h 94 ((71 + x1).toNatClampNeg)) h) else (if (lm_i h 94 ((76 + x1).toNatClampNeg)) = 1 then (lm_W (d + 1) 253 115 [some (.ref 92), some (.int x1), none, none, none, some (.int (5 * (x2 - 1))), some (.int 0), none, none, none] [] h (lm_kI K)) else (if (lm_i h 94 ((76 + x1).toNatClampNeg)) = 2 then (lm_W (d + 1) 253 209 [some (.ref 92), some (.int x1), none, none, none, none, some (.int (-1)), some (.int 0), some (.int 0), none] [] h (lm_kI K)) else (if (lm_i h 94 ((76 + x1).toNatClampNeg)) = 4 then (lm_W (d + 1) 253 292 [some (.ref 92), some (.int x1), none, some (.int (lm_i h 94 ((71 + x1).toNatClampNeg))), none, some (.int (5 * (x2 - 1))), some (.int (-1)), some (.int 0), none, none] [] h (lm_kI K)) else (lm_in ((5 * (x2 - 1)) + x1) 200 False (if (lm_i h 116 (((5 * (x2 - 1)) + x1).toNatClampNeg)) = (-1) then (lm_W (d + 1) 253 407 [some (.ref 92), some (.int x1), none, some (.int (lm_i h 94 ((71 + x1).toNatClampNeg))), none, some (.int (5 * (x2 - 1))), some (.int 0), none, none, none] [] h (lm_kI K)) else (lm_in ((5 * (x2 - 1)) + x1) 200 False (K (lm_i h 116 (((5 * (x2 - 1)) + x1).toNatClampNeg)) h)))))))))))) : lm_call (d + 2) 253 [.ref 92, .int x1, .int x2] h (lm_kI K) := by
  refine ls_enter [some (.ref 92), some (.int x1), some (.int x2), none, none, none, none, none, none, none] ml_253 (Nat.le_of_ble_eq_true rfl) rfl ?_
  refine ls_aload_n f_253_0 rfl ?_
  refine ls_getR f_253_1 p_253_25 hl S_92 F_92_3 ?_
  refine ls_bipush 71 f_253_4 (by decide) ?_
  refine ls_iload_n f_253_6 rfl ?_
  refine ls_iadd (71 + x1) f_253_7 rfl ?_
  refine ls_iald f_253_8 hl S_94 hyp (fun hyp => ?_)
  refine ls_istore_n [some (.ref 92), some (.int x1), some (.int x2), some (.int (lm_i h 94 ((71 + x1).toNatClampNeg))), none, none, none, none, none, none] f_253_9 (Nat.le_of_ble_eq_true rfl) rfl ?_
  refine ls_aload_n f_253_10 rfl ?_
  refine ls_getR f_253_11 p_253_25 hl S_92 F_92_3 ?_
  refine ls_bipush 76 f_253_14 (by decide) ?_
  refine ls_iload_n f_253_16 rfl ?_
  refine ls_iadd (76 + x1) f_253_17 rfl ?_
  refine ls_iald f_253_18 hl S_94 hyp (fun hyp => ?_)
  refine ls_istore [some (.ref 92), some (.int x1), some (.int x2), some (.int (lm_i h 94 ((71 + x1).toNatClampNeg))), some (.int (lm_i h 94 ((76 + x1).toNatClampNeg))), none, none, none, none, none] f_253_19 (Nat.le_of_ble_eq_true rfl) rfl ?_
  refine ls_iconst 5 f_253_21 (by decide) ?_
  refine ls_iload_n f_253_22 rfl ?_
  refine ls_iconst 1 f_253_23 (by decide) ?_
  refine ls_isub (x2 - 1) f_253_24 rfl ?_
  refine ls_imul (5 * (x2 - 1)) f_253_25 rfl ?_
  refine ls_istore [some (.ref 92), some (.int x1), some (.int x2), some (.int (lm_i h 94 ((71 + x1).toNatClampNeg))), some (.int (lm_i h 94 ((76 + x1).toNatClampNeg))), some (.int (5 * (x2 - 1))), none, none, none, none] f_253_26 (Nat.le_of_ble_eq_true rfl) rfl ?_
  refine ls_iload f_253_28 rfl ?_
  refine ls_iconst 3 f_253_30 (by decide) ?_
  refine ls_icmp_ne 95 f_253_31 rfl hyp (fun _ hyp => ?_) (fun _ hyp => ?_)
  · refine ls_aload_n f_253_34 rfl ?_
    refine ls_bipush 10 f_253_35 (by decide) ?_
    refine ls_invV (a := 92) f_253_37 q_253_412 [.int 10] [] rfl (Nat.le_of_ble_eq_true rfl) hl S_92 ow_252 ?_
    refine ls_call hyp hl (fun _ h1 hl1 hyp => ?_)
    refine ls_retI hyp (fun r2 hyp => ?_)
    refine ls_istore [some (.ref 92), some (.int x1), some (.int x2), some (.int (lm_i h 94 ((71 + x1).toNatClampNeg))), some (.int (lm_i h 94 ((76 + x1).toNatClampNeg))), some (.int (5 * (x2 - 1))), some (.int r2), none, none, none] f_253_40 (Nat.le_of_ble_eq_true rfl) rfl ?_
    refine ls_iconst 0 f_253_42 (by decide) ?_
    refine ls_istore [some (.ref 92), some (.int x1), some (.int x2), some (.int (lm_i h 94 ((71 + x1).toNatClampNeg))), some (.int (lm_i h 94 ((76 + x1).toNatClampNeg))), some (.int (5 * (x2 - 1))), some (.int r2), some (.int 0), none, none] f_253_43 (Nat.le_of_ble_eq_true rfl) rfl ?_
    refine ls_iconst 0 f_253_45 (by decide) ?_
    refine ls_istore [some (.ref 92), some (.int x1), some (.int x2), some (.int (lm_i h 94 ((71 + x1).toNatClampNeg))), some (.int (lm_i h 94 ((76 + x1).toNatClampNeg))), some (.int (5 * (x2 - 1))), some (.int r2), some (.int 0), some (.int 0), none] f_253_46 (Nat.le_of_ble_eq_true rfl) rfl ?_
    exact ls_mask [true, true, false, false, false, false, true, true, true, false] [some (.ref 92), some (.int x1), none, none, none, none, some (.int r2), some (.int 0), some (.int 0), none] rfl hyp
  · refine ls_iload_n f_253_95 rfl ?_
    refine ls_if_eq 104 f_253_96 rfl hyp (fun _ hyp => ?_) (fun _ hyp => ?_)
    · refine ls_iload_n f_253_104 rfl ?_
      exact ls_ireturn f_253_105 rI_253 hyp
    · refine ls_iload f_253_99 rfl ?_
      refine ls_if_ne 106 f_253_101 rfl hyp (fun _ hyp => ?_) (fun _ hyp => ?_)
      · refine ls_iload_n f_253_104 rfl ?_
        exact ls_ireturn f_253_105 rI_253 hyp
      · refine ls_iload f_253_106 rfl ?_
        refine ls_iconst 1 f_253_108 (by decide) ?_
        refine ls_icmp_ne 194 f_253_109 rfl hyp (fun _ hyp => ?_) (fun _ hyp => ?_)
        · refine ls_iconst 0 f_253_112 (by decide) ?_
          refine ls_istore [some (.ref 92), some (.int x1), some (.int x2), some (.int (lm_i h 94 ((71 + x1).toNatClampNeg))), some (.int (lm_i h 94 ((76 + x1).toNatClampNeg))), some (.int (5 * (x2 - 1))), some (.int 0), none, none, none] f_253_113 (Nat.le_of_ble_eq_true rfl) rfl ?_
          exact ls_mask [true, true, false, false, false, true, true, false, false, false] [some (.ref 92), some (.int x1), none, none, none, some (.int (5 * (x2 - 1))), some (.int 0), none, none, none] rfl hyp
        · refine ls_iload f_253_194 rfl ?_
          refine ls_iconst 2 f_253_196 (by decide) ?_
          refine ls_icmp_ne 280 f_253_197 rfl hyp (fun _ hyp => ?_) (fun _ hyp => ?_)
          · refine ls_iconst (-1) f_253_200 (by decide) ?_
            refine ls_istore [some (.ref 92), some (.int x1), some (.int x2), some (.int (lm_i h 94 ((71 + x1).toNatClampNeg))), some (.int (lm_i h 94 ((76 + x1).toNatClampNeg))), some (.int (5 * (x2 - 1))), some (.int (-1)), none, none, none] f_253_201 (Nat.le_of_ble_eq_true rfl) rfl ?_
            refine ls_iconst 0 f_253_203 (by decide) ?_
            refine ls_istore [some (.ref 92), some (.int x1), some (.int x2), some (.int (lm_i h 94 ((71 + x1).toNatClampNeg))), some (.int (lm_i h 94 ((76 + x1).toNatClampNeg))), some (.int (5 * (x2 - 1))), some (.int (-1)), some (.int 0), none, none] f_253_204 (Nat.le_of_ble_eq_true rfl) rfl ?_
            refine ls_iconst 0 f_253_206 (by decide) ?_
            refine ls_istore [some (.ref 92), some (.int x1), some (.int x2), some (.int (lm_i h 94 ((71 + x1).toNatClampNeg))), some (.int (lm_i h 94 ((76 + x1).toNatClampNeg))), some (.int (5 * (x2 - 1))), some (.int (-1)), some (.int 0), some (.int 0), none] f_253_207 (Nat.le_of_ble_eq_true rfl) rfl ?_
            exact ls_mask [true, true, false, false, false, false, true, true, true, false] [some (.ref 92), some (.int x1), none, none, none, none, some (.int (-1)), some (.int 0), some (.int 0), none] rfl hyp
          · refine ls_iload f_253_280 rfl ?_
            refine ls_iconst 4 f_253_282 (by decide) ?_
            refine ls_icmp_ne 381 f_253_283 rfl hyp (fun _ hyp => ?_) (fun _ hyp => ?_)
            · refine ls_iconst (-1) f_253_286 (by decide) ?_
              refine ls_istore [some (.ref 92), some (.int x1), some (.int x2), some (.int (lm_i h 94 ((71 + x1).toNatClampNeg))), some (.int (lm_i h 94 ((76 + x1).toNatClampNeg))), some (.int (5 * (x2 - 1))), some (.int (-1)), none, none, none] f_253_287 (Nat.le_of_ble_eq_true rfl) rfl ?_
              refine ls_iconst 0 f_253_289 (by decide) ?_
              refine ls_istore [some (.ref 92), some (.int x1), some (.int x2), some (.int (lm_i h 94 ((71 + x1).toNatClampNeg))), some (.int (lm_i h 94 ((76 + x1).toNatClampNeg))), some (.int (5 * (x2 - 1))), some (.int (-1)), some (.int 0), none, none] f_253_290 (Nat.le_of_ble_eq_true rfl) rfl ?_
              exact ls_mask [true, true, false, true, false, true, true, true, false, false] [some (.ref 92), some (.int x1), none, some (.int (lm_i h 94 ((71 + x1).toNatClampNeg))), none, some (.int (5 * (x2 - 1))), some (.int (-1)), some (.int 0), none, none] rfl hyp
            · refine ls_aload_n f_253_381 rfl ?_
              refine ls_getR f_253_382 p_253_106 hl S_92 F_92_52 ?_
              refine ls_iload f_253_385 rfl ?_
              refine ls_iload_n f_253_387 rfl ?_
              refine ls_iadd ((5 * (x2 - 1)) + x1) f_253_388 rfl ?_
              refine ls_iald f_253_389 hl S_116 hyp (fun hyp => ?_)
              refine ls_iconst (-1) f_253_390 (by decide) ?_
              refine ls_icmp_eq 404 f_253_391 rfl hyp (fun _ hyp => ?_) (fun _ hyp => ?_)
              · refine ls_iconst 0 f_253_404 (by decide) ?_
                refine ls_istore [some (.ref 92), some (.int x1), some (.int x2), some (.int (lm_i h 94 ((71 + x1).toNatClampNeg))), some (.int (lm_i h 94 ((76 + x1).toNatClampNeg))), some (.int (5 * (x2 - 1))), some (.int 0), none, none, none] f_253_405 (Nat.le_of_ble_eq_true rfl) rfl ?_
                exact ls_mask [true, true, false, true, false, true, true, false, false, false] [some (.ref 92), some (.int x1), none, some (.int (lm_i h 94 ((71 + x1).toNatClampNeg))), none, some (.int (5 * (x2 - 1))), some (.int 0), none, none, none] rfl hyp
              · refine ls_aload_n f_253_394 rfl ?_
                refine ls_getR f_253_395 p_253_106 hl S_92 F_92_52 ?_
                refine ls_iload f_253_398 rfl ?_
                refine ls_iload_n f_253_400 rfl ?_
                refine ls_iadd ((5 * (x2 - 1)) + x1) f_253_401 rfl ?_
                refine ls_iald f_253_402 hl S_116 hyp (fun hyp => ?_)
                exact ls_ireturn f_253_403 rI_253 hyp
theorem b_253_48 {d : Nat} {h : lm_H} {K : Int32 → lm_H → Prop} (x1 : Int32) (x6 : Int32) (x7 : Int32) (x8 : Int32) (hl : lm_Lay h) (hyp : (if x8 < (lm_i h 94 82) then (lm_in ((41 + (6 * x1)) + x8) 4893 False (if x6 < (x7 + (lm_i h 94 (((41 + (6 * x1)) + x8).toNatClampNeg))) then (K x8 h) else (lm_W (d + 1) 253 48 [some (.ref 92), some (.int x1), none, none, none, none, some (.int x6), some (.int (x7 + (lm_i h 94 (((41 + (6 * x1)) + x8).toNatClampNeg)))), some (.int (x8 + 1)), none] [] h (lm_kI K)))) else (K (-1) h))) : lm_W (d + 1) 253 48 [some (.ref 92), some (.int x1), none, none, none, none, some (.int x6), some (.int x7), some (.int x8), none] [] h (lm_kI K) := by
  refine ls_iload f_253_48 rfl ?_
  refine ls_aload_n f_253_50 rfl ?_
  refine ls_invV (a := 92) f_253_51 q_253_126 [] [.int x8] rfl (Nat.le_of_ble_eq_true rfl) hl S_92 ow_161 ?_
  refine ls_enter [some (.ref 92)] ml_161 (Nat.le_of_ble_eq_true rfl) rfl ?_
  refine ls_aload_n f_161_0 rfl ?_
  refine ls_getR f_161_1 p_161_25 hl S_92 F_92_3 ?_
  refine ls_bipush 82 f_161_4 (by decide) ?_
  refine ls_ialdC 82 f_161_6 hl S_94 ⟨by decide, by decide, by decide⟩ ?_
  refine ls_ireturn f_161_7 rI_161 ?_
  show lm_W _ _ _ _ [.int (lm_i h 94 82), .int x8] _ _
  refine ls_icmp_ge 93 f_253_54 rfl hyp (fun _ hyp => ?_) (fun _ hyp => ?_)
  · refine ls_iload f_253_57 rfl ?_
    refine ls_aload_n f_253_59 rfl ?_
    refine ls_getR f_253_60 p_253_25 hl S_92 F_92_3 ?_
    refine ls_bipush 41 f_253_63 (by decide) ?_
    refine ls_bipush 6 f_253_65 (by decide) ?_
    refine ls_iload_n f_253_67 rfl ?_
    refine ls_imul (6 * x1) f_253_68 rfl ?_
    refine ls_iadd (41 + (6 * x1)) f_253_69 rfl ?_
    refine ls_iload f_253_70 rfl ?_
    refine ls_iadd ((41 + (6 * x1)) + x8) f_253_72 rfl ?_
    refine ls_iald f_253_73 hl S_94 hyp (fun hyp => ?_)
    refine ls_iadd (x7 + (lm_i h 94 (((41 + (6 * x1)) + x8).toNatClampNeg))) f_253_74 rfl ?_
    refine ls_istore [some (.ref 92), some (.int x1), none, none, none, none, some (.int x6), some (.int (x7 + (lm_i h 94 (((41 + (6 * x1)) + x8).toNatClampNeg)))), some (.int x8), none] f_253_75 (Nat.le_of_ble_eq_true rfl) rfl ?_
    refine ls_iload f_253_77 rfl ?_
    refine ls_iload f_253_79 rfl ?_
    refine ls_icmp_ge 87 f_253_81 rfl hyp (fun _ hyp => ?_) (fun _ hyp => ?_)
    · refine ls_iload f_253_84 rfl ?_
      exact ls_ireturn f_253_86 rI_253 hyp
    · refine ls_iinc (x8 + 1) [some (.ref 92), some (.int x1), none, none, none, none, some (.int x6), some (.int (x7 + (lm_i h 94 (((41 + (6 * x1)) + x8).toNatClampNeg)))), some (.int (x8 + 1)), none] f_253_87 rfl (Nat.le_of_ble_eq_true rfl) rfl rfl ?_
      refine ls_goto 48 f_253_90 rfl ?_
      exact hyp
  · refine ls_iconst (-1) f_253_93 (by decide) ?_
    exact ls_ireturn f_253_94 rI_253 hyp
theorem b_253_115 {d : Nat} {h : lm_H} {K : Int32 → lm_H → Prop} (x1 : Int32) (x5 : Int32) (x6 : Int32) (hl : lm_Lay h) (hyp : (if x6 < (lm_i h 94 81) then (lm_in (x5 + x6) 200 False (if (lm_i h 115 ((x5 + x6).toNatClampNeg)) = (-1) then (lm_in x6 5 False (lm_W (d + 1) 253 115 [some (.ref 92), some (.int x1), none, none, none, some (.int x5), some (.int (x6 + 1)), none, none, none] [] (lm_si h 107 x6.toNatClampNeg (lm_i h 94 82)) (lm_kI K))) else (lm_in (x5 + x6) 200 False (lm_in x6 5 False (lm_W (d + 1) 253 115 [some (.ref 92), some (.int x1), none, none, none, some (.int x5), some (.int (x6 + 1)), none, none, none] [] (lm_si h 107 x6.toNatClampNeg (lm_i h 115 ((x5 + x6).toNatClampNeg))) (lm_kI K)))))) else (lm_call (d + 1) 231 [.ref 92, .int x1] h (lm_kI fun r2 h1 => lm_call (d + 1) 232 [.int r2] h1 (lm_kI fun r4 h3 => (if r4 = (lm_i h3 94 82) then (K (-1) h3) else (K r4 h3))))))) : lm_W (d + 1) 253 115 [some (.ref 92), some (.int x1), none, none, none, some (.int x5), some (.int x6), none, none, none] [] h (lm_kI K) := by
  refine ls_iload f_253_115 rfl ?_
  refine ls_aload_n f_253_117 rfl ?_
  refine ls_invV (a := 92) f_253_118 q_253_122 [] [.int x6] rfl (Nat.le_of_ble_eq_true rfl) hl S_92 ow_160 ?_
  refine ls_enter [some (.ref 92)] ml_160 (Nat.le_of_ble_eq_true rfl) rfl ?_
  refine ls_aload_n f_160_0 rfl ?_
  refine ls_getR f_160_1 p_160_25 hl S_92 F_92_3 ?_
  refine ls_bipush 81 f_160_4 (by decide) ?_
  refine ls_ialdC 81 f_160_6 hl S_94 ⟨by decide, by decide, by decide⟩ ?_
  refine ls_ireturn f_160_7 rI_160 ?_
  show lm_W _ _ _ _ [.int (lm_i h 94 81), .int x6] _ _
  refine ls_icmp_ge 168 f_253_121 rfl hyp (fun _ hyp => ?_) (fun _ hyp => ?_)
  · refine ls_aload_n f_253_124 rfl ?_
    refine ls_getR f_253_125 p_253_72 hl S_92 F_92_29 ?_
    refine ls_iload f_253_128 rfl ?_
    refine ls_aload_n f_253_130 rfl ?_
    refine ls_getR f_253_131 p_253_103 hl S_92 F_92_51 ?_
    refine ls_iload f_253_134 rfl ?_
    refine ls_iload f_253_136 rfl ?_
    refine ls_iadd (x5 + x6) f_253_138 rfl ?_
    refine ls_iald f_253_139 hl S_115 hyp (fun hyp => ?_)
    refine ls_iconst (-1) f_253_140 (by decide) ?_
    refine ls_icmp_ne 151 f_253_141 rfl hyp (fun _ hyp => ?_) (fun _ hyp => ?_)
    · refine ls_aload_n f_253_144 rfl ?_
      refine ls_invV (a := 92) f_253_145 q_253_126 [] [.int x6, .ref 107] rfl (Nat.le_of_ble_eq_true rfl) hl S_92 ow_161 ?_
      refine ls_enter [some (.ref 92)] ml_161 (Nat.le_of_ble_eq_true rfl) rfl ?_
      refine ls_aload_n f_161_0 rfl ?_
      refine ls_getR f_161_1 p_161_25 hl S_92 F_92_3 ?_
      refine ls_bipush 82 f_161_4 (by decide) ?_
      refine ls_ialdC 82 f_161_6 hl S_94 ⟨by decide, by decide, by decide⟩ ?_
      refine ls_ireturn f_161_7 rI_161 ?_
      show lm_W _ _ _ _ [.int (lm_i h 94 82), .int x6, .ref 107] _ _
      refine ls_goto 161 f_253_148 rfl ?_
      refine ls_iast f_253_161 hl S_107 hyp (fun hyp => ?_)
      refine ls_iinc (x6 + 1) [some (.ref 92), some (.int x1), none, none, none, some (.int x5), some (.int (x6 + 1)), none, none, none] f_253_162 rfl (Nat.le_of_ble_eq_true rfl) rfl rfl ?_
      refine ls_goto 115 f_253_165 rfl ?_
      exact hyp
    · refine ls_aload_n f_253_151 rfl ?_
      refine ls_getR f_253_152 p_253_103 hl S_92 F_92_51 ?_
      refine ls_iload f_253_155 rfl ?_
      refine ls_iload f_253_157 rfl ?_
      refine ls_iadd (x5 + x6) f_253_159 rfl ?_
      refine ls_iald f_253_160 hl S_115 hyp (fun hyp => ?_)
      refine ls_iast f_253_161 hl S_107 hyp (fun hyp => ?_)
      refine ls_iinc (x6 + 1) [some (.ref 92), some (.int x1), none, none, none, some (.int x5), some (.int (x6 + 1)), none, none, none] f_253_162 rfl (Nat.le_of_ble_eq_true rfl) rfl rfl ?_
      refine ls_goto 115 f_253_165 rfl ?_
      exact hyp
  · refine ls_aload_n f_253_168 rfl ?_
    refine ls_iload_n f_253_169 rfl ?_
    refine ls_invV (a := 92) f_253_170 q_253_344 [.int x1] [] rfl (Nat.le_of_ble_eq_true rfl) hl S_92 ow_231 ?_
    refine ls_call hyp hl (fun _ h1 hl1 hyp => ?_)
    refine ls_retI hyp (fun r2 hyp => ?_)
    refine ls_invS f_253_173 q_253_356 [.int r2] [] rfl (Nat.le_of_ble_eq_true rfl) ?_
    refine ls_call hyp hl1 (fun _ h3 hl3 hyp => ?_)
    refine ls_retI hyp (fun r4 hyp => ?_)
    refine ls_istore [some (.ref 92), some (.int x1), none, none, none, some (.int x5), some (.int r4), none, none, none] f_253_176 (Nat.le_of_ble_eq_true rfl) rfl ?_
    refine ls_iload f_253_178 rfl ?_
    refine ls_aload_n f_253_180 rfl ?_
    refine ls_invV (a := 92) f_253_181 q_253_126 [] [.int r4] rfl (Nat.le_of_ble_eq_true rfl) hl3 S_92 ow_161 ?_
    refine ls_enter [some (.ref 92)] ml_161 (Nat.le_of_ble_eq_true rfl) rfl ?_
    refine ls_aload_n f_161_0 rfl ?_
    refine ls_getR f_161_1 p_161_25 hl3 S_92 F_92_3 ?_
    refine ls_bipush 82 f_161_4 (by decide) ?_
    refine ls_ialdC 82 f_161_6 hl3 S_94 ⟨by decide, by decide, by decide⟩ ?_
    refine ls_ireturn f_161_7 rI_161 ?_
    show lm_W _ _ _ _ [.int (lm_i h3 94 82), .int r4] _ _
    refine ls_icmp_ne 191 f_253_184 rfl hyp (fun _ hyp => ?_) (fun _ hyp => ?_)
    · refine ls_iconst (-1) f_253_187 (by decide) ?_
      refine ls_goto 193 f_253_188 rfl ?_
      exact ls_ireturn f_253_193 rI_253 hyp
    · refine ls_iload f_253_191 rfl ?_
      exact ls_ireturn f_253_193 rI_253 hyp
theorem b_253_209 {d : Nat} {h : lm_H} {K : Int32 → lm_H → Prop} (x1 : Int32) (x6 : Int32) (x7 : Int32) (x8 : Int32) (hl : lm_Lay h) (hyp : (if x8 < (lm_i h 94 82) then (lm_in ((6 * x1) + x8) 30 False (lm_in ((6 * x1) + x8) 30 False (if x7 < (((lm_i h 104 (((6 * x1) + x8).toNatClampNeg)) - (lm_i h 94 84)) * (lm_i h 118 (((6 * x1) + x8).toNatClampNeg))) then (lm_W (d + 1) 253 209 [some (.ref 92), some (.int x1), none, none, none, none, some (.int x8), some (.int (((lm_i h 104 (((6 * x1) + x8).toNatClampNeg)) - (lm_i h 94 84)) * (lm_i h 118 (((6 * x1) + x8).toNatClampNeg)))), some (.int (x8 + 1)), none] [] h (lm_kI K)) else (lm_W (d + 1) 253 209 [some (.ref 92), some (.int x1), none, none, none, none, some (.int x6), some (.int x7), some (.int (x8 + 1)), none] [] h (lm_kI K))))) else (K x6 h))) : lm_W (d + 1) 253 209 [some (.ref 92), some (.int x1), none, none, none, none, some (.int x6), some (.int x7), some (.int x8), none] [] h (lm_kI K) := by
  refine ls_iload f_253_209 rfl ?_
  refine ls_aload_n f_253_211 rfl ?_
  refine ls_invV (a := 92) f_253_212 q_253_126 [] [.int x8] rfl (Nat.le_of_ble_eq_true rfl) hl S_92 ow_161 ?_
  refine ls_enter [some (.ref 92)] ml_161 (Nat.le_of_ble_eq_true rfl) rfl ?_
  refine ls_aload_n f_161_0 rfl ?_
  refine ls_getR f_161_1 p_161_25 hl S_92 F_92_3 ?_
  refine ls_bipush 82 f_161_4 (by decide) ?_
  refine ls_ialdC 82 f_161_6 hl S_94 ⟨by decide, by decide, by decide⟩ ?_
  refine ls_ireturn f_161_7 rI_161 ?_
  show lm_W _ _ _ _ [.int (lm_i h 94 82), .int x8] _ _
  refine ls_icmp_ge 277 f_253_215 rfl hyp (fun _ hyp => ?_) (fun _ hyp => ?_)
  · refine ls_aload_n f_253_218 rfl ?_
    refine ls_getR f_253_219 p_253_60 hl S_92 F_92_25 ?_
    refine ls_bipush 6 f_253_222 (by decide) ?_
    refine ls_iload_n f_253_224 rfl ?_
    refine ls_imul (6 * x1) f_253_225 rfl ?_
    refine ls_iload f_253_226 rfl ?_
    refine ls_iadd ((6 * x1) + x8) f_253_228 rfl ?_
    refine ls_iald f_253_229 hl S_104 hyp (fun hyp => ?_)
    refine ls_aload_n f_253_230 rfl ?_
    refine ls_getR f_253_231 p_253_25 hl S_92 F_92_3 ?_
    refine ls_bipush 84 f_253_234 (by decide) ?_
    refine ls_ialdC 84 f_253_236 hl S_94 ⟨by decide, by decide, by decide⟩ ?_
    refine ls_isub ((lm_i h 104 (((6 * x1) + x8).toNatClampNeg)) - (lm_i h 94 84)) f_253_237 rfl ?_
    refine ls_aload_n f_253_238 rfl ?_
    refine ls_getR f_253_239 p_253_112 hl S_92 F_92_54 ?_
    refine ls_bipush 6 f_253_242 (by decide) ?_
    refine ls_iload_n f_253_244 rfl ?_
    refine ls_imul (6 * x1) f_253_245 rfl ?_
    refine ls_iload f_253_246 rfl ?_
    refine ls_iadd ((6 * x1) + x8) f_253_248 rfl ?_
    refine ls_iald f_253_249 hl S_118 hyp (fun hyp => ?_)
    refine ls_imul (((lm_i h 104 (((6 * x1) + x8).toNatClampNeg)) - (lm_i h 94 84)) * (lm_i h 118 (((6 * x1) + x8).toNatClampNeg))) f_253_250 rfl ?_
    refine ls_istore [some (.ref 92), some (.int x1), none, none, none, none, some (.int x6), some (.int x7), some (.int x8), some (.int (((lm_i h 104 (((6 * x1) + x8).toNatClampNeg)) - (lm_i h 94 84)) * (lm_i h 118 (((6 * x1) + x8).toNatClampNeg))))] f_253_251 (Nat.le_of_ble_eq_true rfl) rfl ?_
    refine ls_iload f_253_253 rfl ?_
    refine ls_iload f_253_255 rfl ?_
    refine ls_icmp_gt 263 f_253_257 rfl hyp (fun _ hyp => ?_) (fun _ hyp => ?_)
    · refine ls_iload f_253_263 rfl ?_
      refine ls_istore [some (.ref 92), some (.int x1), none, none, none, none, some (.int x6), some (.int (((lm_i h 104 (((6 * x1) + x8).toNatClampNeg)) - (lm_i h 94 84)) * (lm_i h 118 (((6 * x1) + x8).toNatClampNeg)))), some (.int x8), some (.int (((lm_i h 104 (((6 * x1) + x8).toNatClampNeg)) - (lm_i h 94 84)) * (lm_i h 118 (((6 * x1) + x8).toNatClampNeg))))] f_253_265 (Nat.le_of_ble_eq_true rfl) rfl ?_
      refine ls_iload f_253_267 rfl ?_
      refine ls_istore [some (.ref 92), some (.int x1), none, none, none, none, some (.int x8), some (.int (((lm_i h 104 (((6 * x1) + x8).toNatClampNeg)) - (lm_i h 94 84)) * (lm_i h 118 (((6 * x1) + x8).toNatClampNeg)))), some (.int x8), some (.int (((lm_i h 104 (((6 * x1) + x8).toNatClampNeg)) - (lm_i h 94 84)) * (lm_i h 118 (((6 * x1) + x8).toNatClampNeg))))] f_253_269 (Nat.le_of_ble_eq_true rfl) rfl ?_
      refine ls_iinc (x8 + 1) [some (.ref 92), some (.int x1), none, none, none, none, some (.int x8), some (.int (((lm_i h 104 (((6 * x1) + x8).toNatClampNeg)) - (lm_i h 94 84)) * (lm_i h 118 (((6 * x1) + x8).toNatClampNeg)))), some (.int (x8 + 1)), some (.int (((lm_i h 104 (((6 * x1) + x8).toNatClampNeg)) - (lm_i h 94 84)) * (lm_i h 118 (((6 * x1) + x8).toNatClampNeg))))] f_253_271 rfl (Nat.le_of_ble_eq_true rfl) rfl rfl ?_
      refine ls_goto 209 f_253_274 rfl ?_
      exact ls_mask [true, true, false, false, false, false, true, true, true, false] [some (.ref 92), some (.int x1), none, none, none, none, some (.int x8), some (.int (((lm_i h 104 (((6 * x1) + x8).toNatClampNeg)) - (lm_i h 94 84)) * (lm_i h 118 (((6 * x1) + x8).toNatClampNeg)))), some (.int (x8 + 1)), none] rfl hyp
    · refine ls_goto 271 f_253_260 rfl ?_
      refine ls_iinc (x8 + 1) [some (.ref 92), some (.int x1), none, none, none, none, some (.int x6), some (.int x7), some (.int (x8 + 1)), some (.int (((lm_i h 104 (((6 * x1) + x8).toNatClampNeg)) - (lm_i h 94 84)) * (lm_i h 118 (((6 * x1) + x8).toNatClampNeg))))] f_253_271 rfl (Nat.le_of_ble_eq_true rfl) rfl rfl ?_
      refine ls_goto 209 f_253_274 rfl ?_
      exact ls_mask [true, true, false, false, false, false, true, true, true, false] [some (.ref 92), some (.int x1), none, none, none, none, some (.int x6), some (.int x7), some (.int (x8 + 1)), none] rfl hyp
  · refine ls_iload f_253_277 rfl ?_
    exact ls_ireturn f_253_279 rI_253 hyp
theorem b_253_292 {d : Nat} {h : lm_H} {K : Int32 → lm_H → Prop} (x1 : Int32) (x3 : Int32) (x5 : Int32) (x6 : Int32) (x7 : Int32) (hl : lm_Lay h) (hyp : (if x7 < (lm_i h 94 81) then (if x7 = x1 then (lm_W (d + 1) 253 292 [some (.ref 92), some (.int x1), none, some (.int x3), none, some (.int x5), some (.int x6), some (.int (x7 + 1)), none, none] [] h (lm_kI K)) else (if x6 = (-1) then (lm_W (d + 1) 253 292 [some (.ref 92), some (.int x1), none, some (.int x3), none, some (.int x5), some (.int x7), some (.int (x7 + 1)), none, none] [] h (lm_kI K)) else (lm_in (x5 + x7) 200 False (lm_in (x5 + x6) 200 False (if (lm_i h 117 ((x5 + x6).toNatClampNeg)) < (lm_i h 117 ((x5 + x7).toNatClampNeg)) then (lm_W (d + 1) 253 292 [some (.ref 92), some (.int x1), none, some (.int x3), none, some (.int x5), some (.int x7), some (.int (x7 + 1)), none, none] [] h (lm_kI K)) else (lm_W (d + 1) 253 292 [some (.ref 92), some (.int x1), none, some (.int x3), none, some (.int x5), some (.int x6), some (.int (x7 + 1)), none, none] [] h (lm_kI K))))))) else (if x6 = (-1) then (K x3 h) else (lm_in (x5 + x6) 200 False (if (lm_i h 116 ((x5 + x6).toNatClampNeg)) = (-1) then (K x3 h) else (lm_in (x5 + x6) 200 False (K (lm_i h 116 ((x5 + x6).toNatClampNeg)) h))))))) : lm_W (d + 1) 253 292 [some (.ref 92), some (.int x1), none, some (.int x3), none, some (.int x5), some (.int x6), some (.int x7), none, none] [] h (lm_kI K) := by
  refine ls_iload f_253_292 rfl ?_
  refine ls_aload_n f_253_294 rfl ?_
  refine ls_invV (a := 92) f_253_295 q_253_122 [] [.int x7] rfl (Nat.le_of_ble_eq_true rfl) hl S_92 ow_160 ?_
  refine ls_enter [some (.ref 92)] ml_160 (Nat.le_of_ble_eq_true rfl) rfl ?_
  refine ls_aload_n f_160_0 rfl ?_
  refine ls_getR f_160_1 p_160_25 hl S_92 F_92_3 ?_
  refine ls_bipush 81 f_160_4 (by decide) ?_
  refine ls_ialdC 81 f_160_6 hl S_94 ⟨by decide, by decide, by decide⟩ ?_
  refine ls_ireturn f_160_7 rI_160 ?_
  show lm_W _ _ _ _ [.int (lm_i h 94 81), .int x7] _ _
  refine ls_icmp_ge 346 f_253_298 rfl hyp (fun _ hyp => ?_) (fun _ hyp => ?_)
  · refine ls_iload f_253_301 rfl ?_
    refine ls_iload_n f_253_303 rfl ?_
    refine ls_icmp_eq 340 f_253_304 rfl hyp (fun _ hyp => ?_) (fun _ hyp => ?_)
    · refine ls_iinc (x7 + 1) [some (.ref 92), some (.int x1), none, some (.int x3), none, some (.int x5), some (.int x6), some (.int (x7 + 1)), none, none] f_253_340 rfl (Nat.le_of_ble_eq_true rfl) rfl rfl ?_
      refine ls_goto 292 f_253_343 rfl ?_
      exact hyp
    · refine ls_iload f_253_307 rfl ?_
      refine ls_iconst (-1) f_253_309 (by decide) ?_
      refine ls_icmp_eq 336 f_253_310 rfl hyp (fun _ hyp => ?_) (fun _ hyp => ?_)
      · refine ls_iload f_253_336 rfl ?_
        refine ls_istore [some (.ref 92), some (.int x1), none, some (.int x3), none, some (.int x5), some (.int x7), some (.int x7), none, none] f_253_338 (Nat.le_of_ble_eq_true rfl) rfl ?_
        refine ls_iinc (x7 + 1) [some (.ref 92), some (.int x1), none, some (.int x3), none, some (.int x5), some (.int x7), some (.int (x7 + 1)), none, none] f_253_340 rfl (Nat.le_of_ble_eq_true rfl) rfl rfl ?_
        refine ls_goto 292 f_253_343 rfl ?_
        exact hyp
      · refine ls_aload_n f_253_313 rfl ?_
        refine ls_getR f_253_314 p_253_109 hl S_92 F_92_53 ?_
        refine ls_iload f_253_317 rfl ?_
        refine ls_iload f_253_319 rfl ?_
        refine ls_iadd (x5 + x7) f_253_321 rfl ?_
        refine ls_iald f_253_322 hl S_117 hyp (fun hyp => ?_)
        refine ls_aload_n f_253_323 rfl ?_
        refine ls_getR f_253_324 p_253_109 hl S_92 F_92_53 ?_
        refine ls_iload f_253_327 rfl ?_
        refine ls_iload f_253_329 rfl ?_
        refine ls_iadd (x5 + x6) f_253_331 rfl ?_
        refine ls_iald f_253_332 hl S_117 hyp (fun hyp => ?_)
        refine ls_icmp_le 340 f_253_333 rfl hyp (fun _ hyp => ?_) (fun _ hyp => ?_)
        · refine ls_iload f_253_336 rfl ?_
          refine ls_istore [some (.ref 92), some (.int x1), none, some (.int x3), none, some (.int x5), some (.int x7), some (.int x7), none, none] f_253_338 (Nat.le_of_ble_eq_true rfl) rfl ?_
          refine ls_iinc (x7 + 1) [some (.ref 92), some (.int x1), none, some (.int x3), none, some (.int x5), some (.int x7), some (.int (x7 + 1)), none, none] f_253_340 rfl (Nat.le_of_ble_eq_true rfl) rfl rfl ?_
          refine ls_goto 292 f_253_343 rfl ?_
          exact hyp
        · refine ls_iinc (x7 + 1) [some (.ref 92), some (.int x1), none, some (.int x3), none, some (.int x5), some (.int x6), some (.int (x7 + 1)), none, none] f_253_340 rfl (Nat.le_of_ble_eq_true rfl) rfl rfl ?_
          refine ls_goto 292 f_253_343 rfl ?_
          exact hyp
  · refine ls_iload f_253_346 rfl ?_
    refine ls_iconst (-1) f_253_348 (by decide) ?_
    refine ls_icmp_eq 366 f_253_349 rfl hyp (fun _ hyp => ?_) (fun _ hyp => ?_)
    · refine ls_iload_n f_253_366 rfl ?_
      refine ls_goto 380 f_253_367 rfl ?_
      exact ls_ireturn f_253_380 rI_253 hyp
    · refine ls_aload_n f_253_352 rfl ?_
      refine ls_getR f_253_353 p_253_106 hl S_92 F_92_52 ?_
      refine ls_iload f_253_356 rfl ?_
      refine ls_iload f_253_358 rfl ?_
      refine ls_iadd (x5 + x6) f_253_360 rfl ?_
      refine ls_iald f_253_361 hl S_116 hyp (fun hyp => ?_)
      refine ls_iconst (-1) f_253_362 (by decide) ?_
      refine ls_icmp_ne 370 f_253_363 rfl hyp (fun _ hyp => ?_) (fun _ hyp => ?_)
      · refine ls_iload_n f_253_366 rfl ?_
        refine ls_goto 380 f_253_367 rfl ?_
        exact ls_ireturn f_253_380 rI_253 hyp
      · refine ls_aload_n f_253_370 rfl ?_
        refine ls_getR f_253_371 p_253_106 hl S_92 F_92_52 ?_
        refine ls_iload f_253_374 rfl ?_
        refine ls_iload f_253_376 rfl ?_
        refine ls_iadd (x5 + x6) f_253_378 rfl ?_
        refine ls_iald f_253_379 hl S_116 hyp (fun hyp => ?_)
        exact ls_ireturn f_253_380 rI_253 hyp
theorem b_253_407 {d : Nat} {h : lm_H} {K : Int32 → lm_H → Prop} (x1 : Int32) (x3 : Int32) (x5 : Int32) (x6 : Int32) (hl : lm_Lay h) (hyp : (if x6 < (lm_i h 94 82) then (lm_call (d + 1) 210 [.ref 92, .int x1, .int x6] h (lm_kI fun r2 h1 => lm_W (d + 1) 253 428 [some (.ref 92), some (.int x1), none, some (.int x3), none, some (.int x5), some (.int x6), some (.int r2), some (.int 0), none] [] h1 (lm_kI K))) else (K x3 h))) : lm_W (d + 1) 253 407 [some (.ref 92), some (.int x1), none, some (.int x3), none, some (.int x5), some (.int x6), none, none, none] [] h (lm_kI K) := by
  refine ls_iload f_253_407 rfl ?_
  refine ls_aload_n f_253_409 rfl ?_
  refine ls_invV (a := 92) f_253_410 q_253_126 [] [.int x6] rfl (Nat.le_of_ble_eq_true rfl) hl S_92 ow_161 ?_
  refine ls_enter [some (.ref 92)] ml_161 (Nat.le_of_ble_eq_true rfl) rfl ?_
  refine ls_aload_n f_161_0 rfl ?_
  refine ls_getR f_161_1 p_161_25 hl S_92 F_92_3 ?_
  refine ls_bipush 82 f_161_4 (by decide) ?_
  refine ls_ialdC 82 f_161_6 hl S_94 ⟨by decide, by decide, by decide⟩ ?_
  refine ls_ireturn f_161_7 rI_161 ?_
  show lm_W _ _ _ _ [.int (lm_i h 94 82), .int x6] _ _
  refine ls_icmp_ge 484 f_253_413 rfl hyp (fun _ hyp => ?_) (fun _ hyp => ?_)
  · refine ls_aload_n f_253_416 rfl ?_
    refine ls_iload_n f_253_417 rfl ?_
    refine ls_iload f_253_418 rfl ?_
    refine ls_invV (a := 92) f_253_420 q_253_283 [.int x1, .int x6] [] rfl (Nat.le_of_ble_eq_true rfl) hl S_92 ow_210 ?_
    refine ls_call hyp hl (fun _ h1 hl1 hyp => ?_)
    refine ls_retI hyp (fun r2 hyp => ?_)
    refine ls_istore [some (.ref 92), some (.int x1), none, some (.int x3), none, some (.int x5), some (.int x6), some (.int r2), none, none] f_253_423 (Nat.le_of_ble_eq_true rfl) rfl ?_
    refine ls_iconst 0 f_253_425 (by decide) ?_
    refine ls_istore [some (.ref 92), some (.int x1), none, some (.int x3), none, some (.int x5), some (.int x6), some (.int r2), some (.int 0), none] f_253_426 (Nat.le_of_ble_eq_true rfl) rfl ?_
    exact hyp
  · refine ls_iload_n f_253_484 rfl ?_
    exact ls_ireturn f_253_485 rI_253 hyp
theorem b_253_428 {d : Nat} {h : lm_H} {K : Int32 → lm_H → Prop} (x1 : Int32) (x3 : Int32) (x5 : Int32) (x6 : Int32) (x7 : Int32) (x8 : Int32) (hl : lm_Lay h) (hyp : (if x8 < (lm_i h 94 81) then (if x7 = 0 then (lm_W (d + 1) 253 428 [some (.ref 92), some (.int x1), none, some (.int x3), none, some (.int x5), some (.int x6), some (.int 0), some (.int (x8 + 1)), none] [] h (lm_kI K)) else (lm_in (x5 + x8) 200 False (if (lm_i h 115 ((x5 + x8).toNatClampNeg)) = x6 then (lm_W (d + 1) 253 428 [some (.ref 92), some (.int x1), none, some (.int x3), none, some (.int x5), some (.int x6), some (.int 0), some (.int (x8 + 1)), none] [] h (lm_kI K)) else (lm_W (d + 1) 253 428 [some (.ref 92), some (.int x1), none, some (.int x3), none, some (.int x5), some (.int x6), some (.int 1), some (.int (x8 + 1)), none] [] h (lm_kI K))))) else (if x7 = 0 then (lm_W (d + 1) 253 407 [some (.ref 92), some (.int x1), none, some (.int x3), none, some (.int x5), some (.int (x6 + 1)), none, none, none] [] h (lm_kI K)) else (K x6 h)))) : lm_W (d + 1) 253 428 [some (.ref 92), some (.int x1), none, some (.int x3), none, some (.int x5), some (.int x6), some (.int x7), some (.int x8), none] [] h (lm_kI K) := by
  refine ls_iload f_253_428 rfl ?_
  refine ls_aload_n f_253_430 rfl ?_
  refine ls_invV (a := 92) f_253_431 q_253_122 [] [.int x8] rfl (Nat.le_of_ble_eq_true rfl) hl S_92 ow_160 ?_
  refine ls_enter [some (.ref 92)] ml_160 (Nat.le_of_ble_eq_true rfl) rfl ?_
  refine ls_aload_n f_160_0 rfl ?_
  refine ls_getR f_160_1 p_160_25 hl S_92 F_92_3 ?_
  refine ls_bipush 81 f_160_4 (by decide) ?_
  refine ls_ialdC 81 f_160_6 hl S_94 ⟨by decide, by decide, by decide⟩ ?_
  refine ls_ireturn f_160_7 rI_160 ?_
  show lm_W _ _ _ _ [.int (lm_i h 94 81), .int x8] _ _
  refine ls_icmp_ge 470 f_253_434 rfl hyp (fun _ hyp => ?_) (fun _ hyp => ?_)
  · refine ls_iload f_253_437 rfl ?_
    refine ls_if_eq 461 f_253_439 rfl hyp (fun _ hyp => ?_) (fun _ hyp => ?_)
    · refine ls_iconst 0 f_253_461 (by decide) ?_
      refine ls_istore [some (.ref 92), some (.int x1), none, some (.int x3), none, some (.int x5), some (.int x6), some (.int 0), some (.int x8), none] f_253_462 (Nat.le_of_ble_eq_true rfl) rfl ?_
      refine ls_iinc (x8 + 1) [some (.ref 92), some (.int x1), none, some (.int x3), none, some (.int x5), some (.int x6), some (.int 0), some (.int (x8 + 1)), none] f_253_464 rfl (Nat.le_of_ble_eq_true rfl) rfl rfl ?_
      refine ls_goto 428 f_253_467 rfl ?_
      exact hyp
    · refine ls_aload_n f_253_442 rfl ?_
      refine ls_getR f_253_443 p_253_103 hl S_92 F_92_51 ?_
      refine ls_iload f_253_446 rfl ?_
      refine ls_iload f_253_448 rfl ?_
      refine ls_iadd (x5 + x8) f_253_450 rfl ?_
      refine ls_iald f_253_451 hl S_115 hyp (fun hyp => ?_)
      refine ls_iload f_253_452 rfl ?_
      refine ls_icmp_eq 461 f_253_454 rfl hyp (fun _ hyp => ?_) (fun _ hyp => ?_)
      · refine ls_iconst 0 f_253_461 (by decide) ?_
        refine ls_istore [some (.ref 92), some (.int x1), none, some (.int x3), none, some (.int x5), some (.int x6), some (.int 0), some (.int x8), none] f_253_462 (Nat.le_of_ble_eq_true rfl) rfl ?_
        refine ls_iinc (x8 + 1) [some (.ref 92), some (.int x1), none, some (.int x3), none, some (.int x5), some (.int x6), some (.int 0), some (.int (x8 + 1)), none] f_253_464 rfl (Nat.le_of_ble_eq_true rfl) rfl rfl ?_
        refine ls_goto 428 f_253_467 rfl ?_
        exact hyp
      · refine ls_iconst 1 f_253_457 (by decide) ?_
        refine ls_goto 462 f_253_458 rfl ?_
        refine ls_istore [some (.ref 92), some (.int x1), none, some (.int x3), none, some (.int x5), some (.int x6), some (.int 1), some (.int x8), none] f_253_462 (Nat.le_of_ble_eq_true rfl) rfl ?_
        refine ls_iinc (x8 + 1) [some (.ref 92), some (.int x1), none, some (.int x3), none, some (.int x5), some (.int x6), some (.int 1), some (.int (x8 + 1)), none] f_253_464 rfl (Nat.le_of_ble_eq_true rfl) rfl rfl ?_
        refine ls_goto 428 f_253_467 rfl ?_
        exact hyp
  · refine ls_iload f_253_470 rfl ?_
    refine ls_if_eq 478 f_253_472 rfl hyp (fun _ hyp => ?_) (fun _ hyp => ?_)
    · refine ls_iinc (x6 + 1) [some (.ref 92), some (.int x1), none, some (.int x3), none, some (.int x5), some (.int (x6 + 1)), some (.int x7), some (.int x8), none] f_253_478 rfl (Nat.le_of_ble_eq_true rfl) rfl rfl ?_
      refine ls_goto 407 f_253_481 rfl ?_
      exact ls_mask [true, true, false, true, false, true, true, false, false, false] [some (.ref 92), some (.int x1), none, some (.int x3), none, some (.int x5), some (.int (x6 + 1)), none, none, none] rfl hyp
    · refine ls_iload f_253_475 rfl ?_
      exact ls_ireturn f_253_477 rI_253 hyp
theorem e_254 {d : Nat} {h : lm_H} {K : Int32 → lm_H → Prop} (x1 : Int32) (hl : lm_Lay h) (hyp : lm_call (d + 1) 207 [.ref 92, .int x1] h (lm_kV fun h1 => lm_W (d + 1) 254 11 [some (.ref 92), some (.int x1), some (.int (5 * x1)), some (.int 0), none, none, none] [] h1 (lm_kI K))) : lm_call (d + 2) 254 [.ref 92, .int x1] h (lm_kI K) := by
  refine ls_enter [some (.ref 92), some (.int x1), none, none, none, none, none] ml_254 (Nat.le_of_ble_eq_true rfl) rfl ?_
  refine ls_aload_n f_254_0 rfl ?_
  refine ls_iload_n f_254_1 rfl ?_
  refine ls_invV (a := 92) f_254_2 q_254_277 [.int x1] [] rfl (Nat.le_of_ble_eq_true rfl) hl S_92 ow_207 ?_
  refine ls_call hyp hl (fun _ h1 hl1 hyp => ?_)
  refine ls_retV hyp (fun hyp => ?_)
  refine ls_iconst 5 f_254_5 (by decide) ?_
  refine ls_iload_n f_254_6 rfl ?_
  refine ls_imul (5 * x1) f_254_7 rfl ?_
  refine ls_istore_n [some (.ref 92), some (.int x1), some (.int (5 * x1)), none, none, none, none] f_254_8 (Nat.le_of_ble_eq_true rfl) rfl ?_
  refine ls_iconst 0 f_254_9 (by decide) ?_
  refine ls_istore_n [some (.ref 92), some (.int x1), some (.int (5 * x1)), some (.int 0), none, none, none] f_254_10 (Nat.le_of_ble_eq_true rfl) rfl ?_
  exact hyp
theorem b_254_11 {d : Nat} {h : lm_H} {K : Int32 → lm_H → Prop} (x1 : Int32) (x2 : Int32) (x3 : Int32) (hl : lm_Lay h) (hyp : (if x3 < (lm_i h 94 81) then (lm_call (d + 1) 253 [.ref 92, .int x3, .int x1] h (lm_kI fun r2 h1 => (if r2 = (-1) then (lm_in (x2 + x3) 200 False (lm_W (d + 1) 254 11 [some (.ref 92), some (.int x1), some (.int x2), some (.int (x3 + 1)), none, none, none] [] (lm_si h1 115 ((x2 + x3).toNatClampNeg) (-1)) (lm_kI K))) else (lm_call (d + 1) 210 [.ref 92, .int x3, .int r2] h1 (lm_kI fun r4 h3 => (if r4 = 0 then (lm_in (x2 + x3) 200 False (lm_W (d + 1) 254 11 [some (.ref 92), some (.int x1), some (.int x2), some (.int (x3 + 1)), none, none, none] [] (lm_si h3 115 ((x2 + x3).toNatClampNeg) (-1)) (lm_kI K))) else (lm_in (x2 + x3) 200 False (lm_W (d + 1) 254 11 [some (.ref 92), some (.int x1), some (.int x2), some (.int (x3 + 1)), none, none, none] [] (lm_si h3 115 ((x2 + x3).toNatClampNeg) r2) (lm_kI K))))))))) else (lm_W (d + 1) 254 65 [some (.ref 92), none, some (.int x2), some (.int 0), none, none, none] [] h (lm_kI K)))) : lm_W (d + 1) 254 11 [some (.ref 92), some (.int x1), some (.int x2), some (.int x3), none, none, none] [] h (lm_kI K) := by
  refine ls_iload_n f_254_11 rfl ?_
  refine ls_aload_n f_254_12 rfl ?_
  refine ls_invV (a := 92) f_254_13 q_254_122 [] [.int x3] rfl (Nat.le_of_ble_eq_true rfl) hl S_92 ow_160 ?_
  refine ls_enter [some (.ref 92)] ml_160 (Nat.le_of_ble_eq_true rfl) rfl ?_
  refine ls_aload_n f_160_0 rfl ?_
  refine ls_getR f_160_1 p_160_25 hl S_92 F_92_3 ?_
  refine ls_bipush 81 f_160_4 (by decide) ?_
  refine ls_ialdC 81 f_160_6 hl S_94 ⟨by decide, by decide, by decide⟩ ?_
  refine ls_ireturn f_160_7 rI_160 ?_
  show lm_W _ _ _ _ [.int (lm_i h 94 81), .int x3] _ _
  refine ls_icmp_ge 63 f_254_16 rfl hyp (fun _ hyp => ?_) (fun _ hyp => ?_)
  · refine ls_aload_n f_254_19 rfl ?_
    refine ls_iload_n f_254_20 rfl ?_
    refine ls_iload_n f_254_21 rfl ?_
    refine ls_invV (a := 92) f_254_22 q_254_415 [.int x3, .int x1] [] rfl (Nat.le_of_ble_eq_true rfl) hl S_92 ow_253 ?_
    refine ls_call hyp hl (fun _ h1 hl1 hyp => ?_)
    refine ls_retI hyp (fun r2 hyp => ?_)
    refine ls_istore [some (.ref 92), some (.int x1), some (.int x2), some (.int x3), some (.int r2), none, none] f_254_25 (Nat.le_of_ble_eq_true rfl) rfl ?_
    refine ls_aload_n f_254_27 rfl ?_
    refine ls_getR f_254_28 p_254_103 hl1 S_92 F_92_51 ?_
    refine ls_iload_n f_254_31 rfl ?_
    refine ls_iload_n f_254_32 rfl ?_
    refine ls_iadd (x2 + x3) f_254_33 rfl ?_
    refine ls_iload f_254_34 rfl ?_
    refine ls_iconst (-1) f_254_36 (by decide) ?_
    refine ls_icmp_eq 50 f_254_37 rfl hyp (fun _ hyp => ?_) (fun _ hyp => ?_)
    · refine ls_iconst (-1) f_254_50 (by decide) ?_
      refine ls_goto 56 f_254_51 rfl ?_
      refine ls_iast f_254_56 hl1 S_115 hyp (fun hyp => ?_)
      refine ls_iinc (x3 + 1) [some (.ref 92), some (.int x1), some (.int x2), some (.int (x3 + 1)), some (.int r2), none, none] f_254_57 rfl (Nat.le_of_ble_eq_true rfl) rfl rfl ?_
      refine ls_goto 11 f_254_60 rfl ?_
      exact ls_mask [true, true, true, true, false, false, false] [some (.ref 92), some (.int x1), some (.int x2), some (.int (x3 + 1)), none, none, none] rfl hyp
    · refine ls_aload_n f_254_40 rfl ?_
      refine ls_iload_n f_254_41 rfl ?_
      refine ls_iload f_254_42 rfl ?_
      refine ls_invV (a := 92) f_254_44 q_254_283 [.int x3, .int r2] [.int (x2 + x3), .ref 115] rfl (Nat.le_of_ble_eq_true rfl) hl1 S_92 ow_210 ?_
      refine ls_call hyp hl1 (fun _ h3 hl3 hyp => ?_)
      refine ls_retI hyp (fun r4 hyp => ?_)
      refine ls_if_ne 54 f_254_47 rfl hyp (fun _ hyp => ?_) (fun _ hyp => ?_)
      · refine ls_iconst (-1) f_254_50 (by decide) ?_
        refine ls_goto 56 f_254_51 rfl ?_
        refine ls_iast f_254_56 hl3 S_115 hyp (fun hyp => ?_)
        refine ls_iinc (x3 + 1) [some (.ref 92), some (.int x1), some (.int x2), some (.int (x3 + 1)), some (.int r2), none, none] f_254_57 rfl (Nat.le_of_ble_eq_true rfl) rfl rfl ?_
        refine ls_goto 11 f_254_60 rfl ?_
        exact ls_mask [true, true, true, true, false, false, false] [some (.ref 92), some (.int x1), some (.int x2), some (.int (x3 + 1)), none, none, none] rfl hyp
      · refine ls_iload f_254_54 rfl ?_
        refine ls_iast f_254_56 hl3 S_115 hyp (fun hyp => ?_)
        refine ls_iinc (x3 + 1) [some (.ref 92), some (.int x1), some (.int x2), some (.int (x3 + 1)), some (.int r2), none, none] f_254_57 rfl (Nat.le_of_ble_eq_true rfl) rfl rfl ?_
        refine ls_goto 11 f_254_60 rfl ?_
        exact ls_mask [true, true, true, true, false, false, false] [some (.ref 92), some (.int x1), some (.int x2), some (.int (x3 + 1)), none, none, none] rfl hyp
  · refine ls_iconst 0 f_254_63 (by decide) ?_
    refine ls_istore_n [some (.ref 92), some (.int x1), some (.int x2), some (.int 0), none, none, none] f_254_64 (Nat.le_of_ble_eq_true rfl) rfl ?_
    exact ls_mask [true, false, true, true, false, false, false] [some (.ref 92), none, some (.int x2), some (.int 0), none, none, none] rfl hyp
theorem b_254_65 {d : Nat} {h : lm_H} {K : Int32 → lm_H → Prop} (x2 : Int32) (x3 : Int32) (hl : lm_Lay h) (hyp : (if x3 < (lm_i h 94 81) then (lm_in (x2 + x3) 200 False (lm_W (d + 1) 254 65 [some (.ref 92), none, some (.int x2), some (.int (x3 + 1)), none, none, none] [] (lm_si h 116 ((x2 + x3).toNatClampNeg) (-1)) (lm_kI K))) else (lm_W (d + 1) 254 90 [some (.ref 92), none, some (.int x2), some (.int 0), none, none, none] [] h (lm_kI K)))) : lm_W (d + 1) 254 65 [some (.ref 92), none, some (.int x2), some (.int x3), none, none, none] [] h (lm_kI K) := by
  refine ls_iload_n f_254_65 rfl ?_
  refine ls_aload_n f_254_66 rfl ?_
  refine ls_invV (a := 92) f_254_67 q_254_122 [] [.int x3] rfl (Nat.le_of_ble_eq_true rfl) hl S_92 ow_160 ?_
  refine ls_enter [some (.ref 92)] ml_160 (Nat.le_of_ble_eq_true rfl) rfl ?_
  refine ls_aload_n f_160_0 rfl ?_
  refine ls_getR f_160_1 p_160_25 hl S_92 F_92_3 ?_
  refine ls_bipush 81 f_160_4 (by decide) ?_
  refine ls_ialdC 81 f_160_6 hl S_94 ⟨by decide, by decide, by decide⟩ ?_
  refine ls_ireturn f_160_7 rI_160 ?_
  show lm_W _ _ _ _ [.int (lm_i h 94 81), .int x3] _ _
  refine ls_icmp_ge 88 f_254_70 rfl hyp (fun _ hyp => ?_) (fun _ hyp => ?_)
  · refine ls_aload_n f_254_73 rfl ?_
    refine ls_getR f_254_74 p_254_106 hl S_92 F_92_52 ?_
    refine ls_iload_n f_254_77 rfl ?_
    refine ls_iload_n f_254_78 rfl ?_
    refine ls_iadd (x2 + x3) f_254_79 rfl ?_
    refine ls_iconst (-1) f_254_80 (by decide) ?_
    refine ls_iast f_254_81 hl S_116 hyp (fun hyp => ?_)
    refine ls_iinc (x3 + 1) [some (.ref 92), none, some (.int x2), some (.int (x3 + 1)), none, none, none] f_254_82 rfl (Nat.le_of_ble_eq_true rfl) rfl rfl ?_
    refine ls_goto 65 f_254_85 rfl ?_
    exact hyp
  · refine ls_iconst 0 f_254_88 (by decide) ?_
    refine ls_istore_n [some (.ref 92), none, some (.int x2), some (.int 0), none, none, none] f_254_89 (Nat.le_of_ble_eq_true rfl) rfl ?_
    exact hyp
theorem b_254_90 {d : Nat} {h : lm_H} {K : Int32 → lm_H → Prop} (x2 : Int32) (x3 : Int32) (hl : lm_Lay h) (hyp : (if x3 < (lm_i h 94 82) then (lm_W (d + 1) 254 104 [some (.ref 92), none, some (.int x2), some (.int x3), some (.int 0), some (.int 0), none] [] h (lm_kI K)) else (lm_W (d + 1) 254 258 [some (.ref 92), none, some (.int x2), some (.int 0), some (.int 0), none, none] [] h (lm_kI K)))) : lm_W (d + 1) 254 90 [some (.ref 92), none, some (.int x2), some (.int x3), none, none, none] [] h (lm_kI K) := by
  refine ls_iload_n f_254_90 rfl ?_
  refine ls_aload_n f_254_91 rfl ?_
  refine ls_invV (a := 92) f_254_92 q_254_126 [] [.int x3] rfl (Nat.le_of_ble_eq_true rfl) hl S_92 ow_161 ?_
  refine ls_enter [some (.ref 92)] ml_161 (Nat.le_of_ble_eq_true rfl) rfl ?_
  refine ls_aload_n f_161_0 rfl ?_
  refine ls_getR f_161_1 p_161_25 hl S_92 F_92_3 ?_
  refine ls_bipush 82 f_161_4 (by decide) ?_
  refine ls_ialdC 82 f_161_6 hl S_94 ⟨by decide, by decide, by decide⟩ ?_
  refine ls_ireturn f_161_7 rI_161 ?_
  show lm_W _ _ _ _ [.int (lm_i h 94 82), .int x3] _ _
  refine ls_icmp_ge 253 f_254_95 rfl hyp (fun _ hyp => ?_) (fun _ hyp => ?_)
  · refine ls_iconst 0 f_254_98 (by decide) ?_
    refine ls_istore [some (.ref 92), none, some (.int x2), some (.int x3), some (.int 0), none, none] f_254_99 (Nat.le_of_ble_eq_true rfl) rfl ?_
    refine ls_iconst 0 f_254_101 (by decide) ?_
    refine ls_istore [some (.ref 92), none, some (.int x2), some (.int x3), some (.int 0), some (.int 0), none] f_254_102 (Nat.le_of_ble_eq_true rfl) rfl ?_
    exact hyp
  · refine ls_iconst 0 f_254_253 (by decide) ?_
    refine ls_istore_n [some (.ref 92), none, some (.int x2), some (.int 0), none, none, none] f_254_254 (Nat.le_of_ble_eq_true rfl) rfl ?_
    refine ls_iconst 0 f_254_255 (by decide) ?_
    refine ls_istore [some (.ref 92), none, some (.int x2), some (.int 0), some (.int 0), none, none] f_254_256 (Nat.le_of_ble_eq_true rfl) rfl ?_
    exact hyp
theorem b_254_104 {d : Nat} {h : lm_H} {K : Int32 → lm_H → Prop} (x2 : Int32) (x3 : Int32) (x4 : Int32) (x5 : Int32) (hl : lm_Lay h) (hyp : (if x5 < (lm_i h 94 81) then (lm_in (x2 + x5) 200 False (if (lm_i h 115 ((x2 + x5).toNatClampNeg)) = x3 then (lm_W (d + 1) 254 104 [some (.ref 92), none, some (.int x2), some (.int x3), some (.int (x4 + 1)), some (.int (x5 + 1)), none] [] h (lm_kI K)) else (lm_W (d + 1) 254 104 [some (.ref 92), none, some (.int x2), some (.int x3), some (.int (x4 + 0)), some (.int (x5 + 1)), none] [] h (lm_kI K)))) else (if x4 = 0 then (lm_W (d + 1) 254 90 [some (.ref 92), none, some (.int x2), some (.int (x3 + 1)), none, none, none] [] h (lm_kI K)) else (if 1 < x4 then (if (lm_i h 94 83) = 0 then (lm_W (d + 1) 254 90 [some (.ref 92), none, some (.int x2), some (.int (x3 + 1)), none, none, none] [] h (lm_kI K)) else (if 1 < x4 then (if (lm_i h 94 83) = 2 then (lm_call (d + 1) 252 [.ref 92, .int x4] h (lm_kI fun r2 h1 => lm_W (d + 1) 254 198 [some (.ref 92), none, some (.int x2), some (.int x3), none, some (.int r2), some (.int 0)] [] h1 (lm_kI K))) else (lm_W (d + 1) 254 198 [some (.ref 92), none, some (.int x2), some (.int x3), none, some (.int 0), some (.int 0)] [] h (lm_kI K))) else (lm_W (d + 1) 254 198 [some (.ref 92), none, some (.int x2), some (.int x3), none, some (.int 0), some (.int 0)] [] h (lm_kI K)))) else (if 1 < x4 then (if (lm_i h 94 83) = 2 then (lm_call (d + 1) 252 [.ref 92, .int x4] h (lm_kI fun r4 h3 => lm_W (d + 1) 254 198 [some (.ref 92), none, some (.int x2), some (.int x3), none, some (.int r4), some (.int 0)] [] h3 (lm_kI K))) else (lm_W (d + 1) 254 198 [some (.ref 92), none, some (.int x2), some (.int x3), none, some (.int 0), some (.int 0)] [] h (lm_kI K))) else (lm_W (d + 1) 254 198 [some (.ref 92), none, some (.int x2), some (.int x3), none, some (.int 0), some (.int 0)] [] h (lm_kI K))))))) : lm_W (d + 1) 254 104 [some (.ref 92), none, some (.int x2), some (.int x3), some (.int x4), some (.int x5), none] [] h (lm_kI K) := by
  refine ls_iload f_254_104 rfl ?_
  refine ls_aload_n f_254_106 rfl ?_
  refine ls_invV (a := 92) f_254_107 q_254_122 [] [.int x5] rfl (Nat.le_of_ble_eq_true rfl) hl S_92 ow_160 ?_
  refine ls_enter [some (.ref 92)] ml_160 (Nat.le_of_ble_eq_true rfl) rfl ?_
  refine ls_aload_n f_160_0 rfl ?_
  refine ls_getR f_160_1 p_160_25 hl S_92 F_92_3 ?_
  refine ls_bipush 81 f_160_4 (by decide) ?_
  refine ls_ialdC 81 f_160_6 hl S_94 ⟨by decide, by decide, by decide⟩ ?_
  refine ls_ireturn f_160_7 rI_160 ?_
  show lm_W _ _ _ _ [.int (lm_i h 94 81), .int x5] _ _
  refine ls_icmp_ge 142 f_254_110 rfl hyp (fun _ hyp => ?_) (fun _ hyp => ?_)
  · refine ls_iload f_254_113 rfl ?_
    refine ls_aload_n f_254_115 rfl ?_
    refine ls_getR f_254_116 p_254_103 hl S_92 F_92_51 ?_
    refine ls_iload_n f_254_119 rfl ?_
    refine ls_iload f_254_120 rfl ?_
    refine ls_iadd (x2 + x5) f_254_122 rfl ?_
    refine ls_iald f_254_123 hl S_115 hyp (fun hyp => ?_)
    refine ls_iload_n f_254_124 rfl ?_
    refine ls_icmp_ne 132 f_254_125 rfl hyp (fun _ hyp => ?_) (fun _ hyp => ?_)
    · refine ls_iconst 1 f_254_128 (by decide) ?_
      refine ls_goto 133 f_254_129 rfl ?_
      refine ls_iadd (x4 + 1) f_254_133 rfl ?_
      refine ls_istore [some (.ref 92), none, some (.int x2), some (.int x3), some (.int (x4 + 1)), some (.int x5), none] f_254_134 (Nat.le_of_ble_eq_true rfl) rfl ?_
      refine ls_iinc (x5 + 1) [some (.ref 92), none, some (.int x2), some (.int x3), some (.int (x4 + 1)), some (.int (x5 + 1)), none] f_254_136 rfl (Nat.le_of_ble_eq_true rfl) rfl rfl ?_
      refine ls_goto 104 f_254_139 rfl ?_
      exact hyp
    · refine ls_iconst 0 f_254_132 (by decide) ?_
      refine ls_iadd (x4 + 0) f_254_133 rfl ?_
      refine ls_istore [some (.ref 92), none, some (.int x2), some (.int x3), some (.int (x4 + 0)), some (.int x5), none] f_254_134 (Nat.le_of_ble_eq_true rfl) rfl ?_
      refine ls_iinc (x5 + 1) [some (.ref 92), none, some (.int x2), some (.int x3), some (.int (x4 + 0)), some (.int (x5 + 1)), none] f_254_136 rfl (Nat.le_of_ble_eq_true rfl) rfl rfl ?_
      refine ls_goto 104 f_254_139 rfl ?_
      exact hyp
  · refine ls_iload f_254_142 rfl ?_
    refine ls_if_eq 247 f_254_144 rfl hyp (fun _ hyp => ?_) (fun _ hyp => ?_)
    · refine ls_iinc (x3 + 1) [some (.ref 92), none, some (.int x2), some (.int (x3 + 1)), some (.int x4), some (.int x5), none] f_254_247 rfl (Nat.le_of_ble_eq_true rfl) rfl rfl ?_
      refine ls_goto 90 f_254_250 rfl ?_
      exact ls_mask [true, false, true, true, false, false, false] [some (.ref 92), none, some (.int x2), some (.int (x3 + 1)), none, none, none] rfl hyp
    · refine ls_iload f_254_147 rfl ?_
      refine ls_iconst 1 f_254_149 (by decide) ?_
      refine ls_icmp_le 166 f_254_150 rfl hyp (fun _ hyp => ?_) (fun _ hyp => ?_)
      · refine ls_aload_n f_254_153 rfl ?_
        refine ls_getR f_254_154 p_254_25 hl S_92 F_92_3 ?_
        refine ls_bipush 83 f_254_157 (by decide) ?_
        refine ls_ialdC 83 f_254_159 hl S_94 ⟨by decide, by decide, by decide⟩ ?_
        refine ls_if_ne 166 f_254_160 rfl hyp (fun _ hyp => ?_) (fun _ hyp => ?_)
        · refine ls_goto 247 f_254_163 rfl ?_
          refine ls_iinc (x3 + 1) [some (.ref 92), none, some (.int x2), some (.int (x3 + 1)), some (.int x4), some (.int x5), none] f_254_247 rfl (Nat.le_of_ble_eq_true rfl) rfl rfl ?_
          refine ls_goto 90 f_254_250 rfl ?_
          exact ls_mask [true, false, true, true, false, false, false] [some (.ref 92), none, some (.int x2), some (.int (x3 + 1)), none, none, none] rfl hyp
        · refine ls_iload f_254_166 rfl ?_
          refine ls_iconst 1 f_254_168 (by decide) ?_
          refine ls_icmp_le 192 f_254_169 rfl hyp (fun _ hyp => ?_) (fun _ hyp => ?_)
          · refine ls_aload_n f_254_172 rfl ?_
            refine ls_getR f_254_173 p_254_25 hl S_92 F_92_3 ?_
            refine ls_bipush 83 f_254_176 (by decide) ?_
            refine ls_ialdC 83 f_254_178 hl S_94 ⟨by decide, by decide, by decide⟩ ?_
            refine ls_iconst 2 f_254_179 (by decide) ?_
            refine ls_icmp_ne 192 f_254_180 rfl hyp (fun _ hyp => ?_) (fun _ hyp => ?_)
            · refine ls_aload_n f_254_183 rfl ?_
              refine ls_iload f_254_184 rfl ?_
              refine ls_invV (a := 92) f_254_186 q_254_412 [.int x4] [] rfl (Nat.le_of_ble_eq_true rfl) hl S_92 ow_252 ?_
              refine ls_call hyp hl (fun _ h1 hl1 hyp => ?_)
              refine ls_retI hyp (fun r2 hyp => ?_)
              refine ls_goto 193 f_254_189 rfl ?_
              refine ls_istore [some (.ref 92), none, some (.int x2), some (.int x3), some (.int x4), some (.int r2), none] f_254_193 (Nat.le_of_ble_eq_true rfl) rfl ?_
              refine ls_iconst 0 f_254_195 (by decide) ?_
              refine ls_istore [some (.ref 92), none, some (.int x2), some (.int x3), some (.int x4), some (.int r2), some (.int 0)] f_254_196 (Nat.le_of_ble_eq_true rfl) rfl ?_
              exact ls_mask [true, false, true, true, false, true, true] [some (.ref 92), none, some (.int x2), some (.int x3), none, some (.int r2), some (.int 0)] rfl hyp
            · refine ls_iconst 0 f_254_192 (by decide) ?_
              refine ls_istore [some (.ref 92), none, some (.int x2), some (.int x3), some (.int x4), some (.int 0), none] f_254_193 (Nat.le_of_ble_eq_true rfl) rfl ?_
              refine ls_iconst 0 f_254_195 (by decide) ?_
              refine ls_istore [some (.ref 92), none, some (.int x2), some (.int x3), some (.int x4), some (.int 0), some (.int 0)] f_254_196 (Nat.le_of_ble_eq_true rfl) rfl ?_
              exact ls_mask [true, false, true, true, false, true, true] [some (.ref 92), none, some (.int x2), some (.int x3), none, some (.int 0), some (.int 0)] rfl hyp
          · refine ls_iconst 0 f_254_192 (by decide) ?_
            refine ls_istore [some (.ref 92), none, some (.int x2), some (.int x3), some (.int x4), some (.int 0), none] f_254_193 (Nat.le_of_ble_eq_true rfl) rfl ?_
            refine ls_iconst 0 f_254_195 (by decide) ?_
            refine ls_istore [some (.ref 92), none, some (.int x2), some (.int x3), some (.int x4), some (.int 0), some (.int 0)] f_254_196 (Nat.le_of_ble_eq_true rfl) rfl ?_
            exact ls_mask [true, false, true, true, false, true, true] [some (.ref 92), none, some (.int x2), some (.int x3), none, some (.int 0), some (.int 0)] rfl hyp
      · refine ls_iload f_254_166 rfl ?_
        refine ls_iconst 1 f_254_168 (by decide) ?_
        refine ls_icmp_le 192 f_254_169 rfl hyp (fun _ hyp => ?_) (fun _ hyp => ?_)
        · refine ls_aload_n f_254_172 rfl ?_
          refine ls_getR f_254_173 p_254_25 hl S_92 F_92_3 ?_
          refine ls_bipush 83 f_254_176 (by decide) ?_
          refine ls_ialdC 83 f_254_178 hl S_94 ⟨by decide, by decide, by decide⟩ ?_
          refine ls_iconst 2 f_254_179 (by decide) ?_
          refine ls_icmp_ne 192 f_254_180 rfl hyp (fun _ hyp => ?_) (fun _ hyp => ?_)
          · refine ls_aload_n f_254_183 rfl ?_
            refine ls_iload f_254_184 rfl ?_
            refine ls_invV (a := 92) f_254_186 q_254_412 [.int x4] [] rfl (Nat.le_of_ble_eq_true rfl) hl S_92 ow_252 ?_
            refine ls_call hyp hl (fun _ h3 hl3 hyp => ?_)
            refine ls_retI hyp (fun r4 hyp => ?_)
            refine ls_goto 193 f_254_189 rfl ?_
            refine ls_istore [some (.ref 92), none, some (.int x2), some (.int x3), some (.int x4), some (.int r4), none] f_254_193 (Nat.le_of_ble_eq_true rfl) rfl ?_
            refine ls_iconst 0 f_254_195 (by decide) ?_
            refine ls_istore [some (.ref 92), none, some (.int x2), some (.int x3), some (.int x4), some (.int r4), some (.int 0)] f_254_196 (Nat.le_of_ble_eq_true rfl) rfl ?_
            exact ls_mask [true, false, true, true, false, true, true] [some (.ref 92), none, some (.int x2), some (.int x3), none, some (.int r4), some (.int 0)] rfl hyp
          · refine ls_iconst 0 f_254_192 (by decide) ?_
            refine ls_istore [some (.ref 92), none, some (.int x2), some (.int x3), some (.int x4), some (.int 0), none] f_254_193 (Nat.le_of_ble_eq_true rfl) rfl ?_
            refine ls_iconst 0 f_254_195 (by decide) ?_
            refine ls_istore [some (.ref 92), none, some (.int x2), some (.int x3), some (.int x4), some (.int 0), some (.int 0)] f_254_196 (Nat.le_of_ble_eq_true rfl) rfl ?_
            exact ls_mask [true, false, true, true, false, true, true] [some (.ref 92), none, some (.int x2), some (.int x3), none, some (.int 0), some (.int 0)] rfl hyp
        · refine ls_iconst 0 f_254_192 (by decide) ?_
          refine ls_istore [some (.ref 92), none, some (.int x2), some (.int x3), some (.int x4), some (.int 0), none] f_254_193 (Nat.le_of_ble_eq_true rfl) rfl ?_
          refine ls_iconst 0 f_254_195 (by decide) ?_
          refine ls_istore [some (.ref 92), none, some (.int x2), some (.int x3), some (.int x4), some (.int 0), some (.int 0)] f_254_196 (Nat.le_of_ble_eq_true rfl) rfl ?_
          exact ls_mask [true, false, true, true, false, true, true] [some (.ref 92), none, some (.int x2), some (.int x3), none, some (.int 0), some (.int 0)] rfl hyp
theorem b_254_258 {d : Nat} {h : lm_H} {K : Int32 → lm_H → Prop} (x2 : Int32) (x3 : Int32) (x4 : Int32) (hl : lm_Lay h) (hyp : (if x4 < (lm_i h 94 81) then (lm_in (x2 + x4) 200 False (if (lm_i h 116 ((x2 + x4).toNatClampNeg)) = (-1) then (lm_in (x2 + x4) 200 False (if x3 = 0 then (if (lm_i h 116 ((x2 + x4).toNatClampNeg)) = (-1) then (if (lm_i h 116 ((x2 + x4).toNatClampNeg)) = (-1) then (lm_W (d + 1) 254 361 [some (.ref 92), none, some (.int x2), some (.int 1), some (.int x4), none, some (.int 0)] [] (lm_si h 117 ((x2 + x4).toNatClampNeg) (60 * (lm_i h 94 84))) (lm_kI K)) else (lm_in ((6 * x4) + (lm_i h 116 ((x2 + x4).toNatClampNeg))) 30 False (lm_in ((6 * x4) + (lm_i h 116 ((x2 + x4).toNatClampNeg))) 30 False (lm_W (d + 1) 254 361 [some (.ref 92), none, some (.int x2), some (.int 1), some (.int x4), none, some (.int 0)] [] (lm_si (lm_si h 117 ((x2 + x4).toNatClampNeg) (60 * (lm_i h 94 84))) 106 (((6 * x4) + (lm_i h 116 ((x2 + x4).toNatClampNeg))).toNatClampNeg) ((lm_i h 106 (((6 * x4) + (lm_i h 116 ((x2 + x4).toNatClampNeg))).toNatClampNeg)) + 1)) (lm_kI K))))) else (if (lm_i h 116 ((x2 + x4).toNatClampNeg)) = (-1) then (lm_W (d + 1) 254 361 [some (.ref 92), none, some (.int x2), some (.int 0), some (.int x4), none, some (.int 0)] [] (lm_si h 117 ((x2 + x4).toNatClampNeg) (60 * (lm_i h 94 84))) (lm_kI K)) else (lm_in ((6 * x4) + (lm_i h 116 ((x2 + x4).toNatClampNeg))) 30 False (lm_in ((6 * x4) + (lm_i h 116 ((x2 + x4).toNatClampNeg))) 30 False (lm_W (d + 1) 254 361 [some (.ref 92), none, some (.int x2), some (.int 0), some (.int x4), none, some (.int 0)] [] (lm_si (lm_si h 117 ((x2 + x4).toNatClampNeg) (60 * (lm_i h 94 84))) 106 (((6 * x4) + (lm_i h 116 ((x2 + x4).toNatClampNeg))).toNatClampNeg) ((lm_i h 106 (((6 * x4) + (lm_i h 116 ((x2 + x4).toNatClampNeg))).toNatClampNeg)) + 1)) (lm_kI K)))))) else (if (lm_i h 116 ((x2 + x4).toNatClampNeg)) = (-1) then (lm_W (d + 1) 254 361 [some (.ref 92), none, some (.int x2), some (.int 1), some (.int x4), none, some (.int 0)] [] (lm_si h 117 ((x2 + x4).toNatClampNeg) (60 * (lm_i h 94 84))) (lm_kI K)) else (lm_in ((6 * x4) + (lm_i h 116 ((x2 + x4).toNatClampNeg))) 30 False (lm_in ((6 * x4) + (lm_i h 116 ((x2 + x4).toNatClampNeg))) 30 False (lm_W (d + 1) 254 361 [some (.ref 92), none, some (.int x2), some (.int 1), some (.int x4), none, some (.int 0)] [] (lm_si (lm_si h 117 ((x2 + x4).toNatClampNeg) (60 * (lm_i h 94 84))) 106 (((6 * x4) + (lm_i h 116 ((x2 + x4).toNatClampNeg))).toNatClampNeg) ((lm_i h 106 (((6 * x4) + (lm_i h 116 ((x2 + x4).toNatClampNeg))).toNatClampNeg)) + 1)) (lm_kI K))))))) else (lm_in ((6 * x4) + (lm_i h 116 ((x2 + x4).toNatClampNeg))) 30 False (lm_in (x2 + x4) 200 False (if x3 = 0 then (if (lm_i h 116 ((x2 + x4).toNatClampNeg)) = (-1) then (if (lm_i h 116 ((x2 + x4).toNatClampNeg)) = (-1) then (lm_W (d + 1) 254 361 [some (.ref 92), none, some (.int x2), some (.int 1), some (.int x4), none, some (.int 0)] [] (lm_si h 117 ((x2 + x4).toNatClampNeg) (60 * (lm_i h 104 (((6 * x4) + (lm_i h 116 ((x2 + x4).toNatClampNeg))).toNatClampNeg)))) (lm_kI K)) else (lm_in ((6 * x4) + (lm_i h 116 ((x2 + x4).toNatClampNeg))) 30 False (lm_in ((6 * x4) + (lm_i h 116 ((x2 + x4).toNatClampNeg))) 30 False (lm_W (d + 1) 254 361 [some (.ref 92), none, some (.int x2), some (.int 1), some (.int x4), none, some (.int 0)] [] (lm_si (lm_si h 117 ((x2 + x4).toNatClampNeg) (60 * (lm_i h 104 (((6 * x4) + (lm_i h 116 ((x2 + x4).toNatClampNeg))).toNatClampNeg)))) 106 (((6 * x4) + (lm_i h 116 ((x2 + x4).toNatClampNeg))).toNatClampNeg) ((lm_i h 106 (((6 * x4) + (lm_i h 116 ((x2 + x4).toNatClampNeg))).toNatClampNeg)) + 1)) (lm_kI K))))) else (if (lm_i h 116 ((x2 + x4).toNatClampNeg)) = (-1) then (lm_W (d + 1) 254 361 [some (.ref 92), none, some (.int x2), some (.int 0), some (.int x4), none, some (.int 0)] [] (lm_si h 117 ((x2 + x4).toNatClampNeg) (60 * (lm_i h 104 (((6 * x4) + (lm_i h 116 ((x2 + x4).toNatClampNeg))).toNatClampNeg)))) (lm_kI K)) else (lm_in ((6 * x4) + (lm_i h 116 ((x2 + x4).toNatClampNeg))) 30 False (lm_in ((6 * x4) + (lm_i h 116 ((x2 + x4).toNatClampNeg))) 30 False (lm_W (d + 1) 254 361 [some (.ref 92), none, some (.int x2), some (.int 0), some (.int x4), none, some (.int 0)] [] (lm_si (lm_si h 117 ((x2 + x4).toNatClampNeg) (60 * (lm_i h 104 (((6 * x4) + (lm_i h 116 ((x2 + x4).toNatClampNeg))).toNatClampNeg)))) 106 (((6 * x4) + (lm_i h 116 ((x2 + x4).toNatClampNeg))).toNatClampNeg) ((lm_i h 106 (((6 * x4) + (lm_i h 116 ((x2 + x4).toNatClampNeg))).toNatClampNeg)) + 1)) (lm_kI K)))))) else (if (lm_i h 116 ((x2 + x4).toNatClampNeg)) = (-1) then (lm_W (d + 1) 254 361 [some (.ref 92), none, some (.int x2), some (.int 1), some (.int x4), none, some (.int 0)] [] (lm_si h 117 ((x2 + x4).toNatClampNeg) (60 * (lm_i h 104 (((6 * x4) + (lm_i h 116 ((x2 + x4).toNatClampNeg))).toNatClampNeg)))) (lm_kI K)) else (lm_in ((6 * x4) + (lm_i h 116 ((x2 + x4).toNatClampNeg))) 30 False (lm_in ((6 * x4) + (lm_i h 116 ((x2 + x4).toNatClampNeg))) 30 False (lm_W (d + 1) 254 361 [some (.ref 92), none, some (.int x2), some (.int 1), some (.int x4), none, some (.int 0)] [] (lm_si (lm_si h 117 ((x2 + x4).toNatClampNeg) (60 * (lm_i h 104 (((6 * x4) + (lm_i h 116 ((x2 + x4).toNatClampNeg))).toNatClampNeg)))) 106 (((6 * x4) + (lm_i h 116 ((x2 + x4).toNatClampNeg))).toNatClampNeg) ((lm_i h 106 (((6 * x4) + (lm_i h 116 ((x2 + x4).toNatClampNeg))).toNatClampNeg)) + 1)) (lm_kI K)))))))))) else ((vp_nar .boolean x3 = x3) ∧ K x3 h))) : lm_W (d + 1) 254 258 [some (.ref 92), none, some (.int x2), some (.int x3), some (.int x4), none, none] [] h (lm_kI K) := by
  refine ls_iload f_254_258 rfl ?_
  refine ls_aload_n f_254_260 rfl ?_
  refine ls_invV (a := 92) f_254_261 q_254_122 [] [.int x4] rfl (Nat.le_of_ble_eq_true rfl) hl S_92 ow_160 ?_
  refine ls_enter [some (.ref 92)] ml_160 (Nat.le_of_ble_eq_true rfl) rfl ?_
  refine ls_aload_n f_160_0 rfl ?_
  refine ls_getR f_160_1 p_160_25 hl S_92 F_92_3 ?_
  refine ls_bipush 81 f_160_4 (by decide) ?_
  refine ls_ialdC 81 f_160_6 hl S_94 ⟨by decide, by decide, by decide⟩ ?_
  refine ls_ireturn f_160_7 rI_160 ?_
  show lm_W _ _ _ _ [.int (lm_i h 94 81), .int x4] _ _
  refine ls_icmp_ge 415 f_254_264 rfl hyp (fun _ hyp => ?_) (fun _ hyp => ?_)
  · refine ls_aload_n f_254_267 rfl ?_
    refine ls_getR f_254_268 p_254_106 hl S_92 F_92_52 ?_
    refine ls_iload_n f_254_271 rfl ?_
    refine ls_iload f_254_272 rfl ?_
    refine ls_iadd (x2 + x4) f_254_274 rfl ?_
    refine ls_iald f_254_275 hl S_116 hyp (fun hyp => ?_)
    refine ls_istore [some (.ref 92), none, some (.int x2), some (.int x3), some (.int x4), some (.int (lm_i h 116 ((x2 + x4).toNatClampNeg))), none] f_254_276 (Nat.le_of_ble_eq_true rfl) rfl ?_
    refine ls_aload_n f_254_278 rfl ?_
    refine ls_getR f_254_279 p_254_109 hl S_92 F_92_53 ?_
    refine ls_iload_n f_254_282 rfl ?_
    refine ls_iload f_254_283 rfl ?_
    refine ls_iadd (x2 + x4) f_254_285 rfl ?_
    refine ls_bipush 60 f_254_286 (by decide) ?_
    refine ls_iload f_254_288 rfl ?_
    refine ls_iconst (-1) f_254_290 (by decide) ?_
    refine ls_icmp_ne 304 f_254_291 rfl hyp (fun _ hyp => ?_) (fun _ hyp => ?_)
    · refine ls_aload_n f_254_294 rfl ?_
      refine ls_getR f_254_295 p_254_25 hl S_92 F_92_3 ?_
      refine ls_bipush 84 f_254_298 (by decide) ?_
      refine ls_ialdC 84 f_254_300 hl S_94 ⟨by decide, by decide, by decide⟩ ?_
      refine ls_goto 317 f_254_301 rfl ?_
      refine ls_imul (60 * (lm_i h 94 84)) f_254_317 rfl ?_
      refine ls_iast f_254_318 hl S_117 hyp (fun hyp => ?_)
      refine ls_iload_n f_254_319 rfl ?_
      refine ls_if_ne 329 f_254_320 rfl hyp (fun _ hyp => ?_) (fun _ hyp => ?_)
      · refine ls_iload f_254_323 rfl ?_
        refine ls_iconst (-1) f_254_325 (by decide) ?_
        refine ls_icmp_ne 333 f_254_326 rfl hyp (fun _ hyp => ?_) (fun _ hyp => ?_)
        · refine ls_iconst 1 f_254_329 (by decide) ?_
          refine ls_goto 334 f_254_330 rfl ?_
          refine ls_istore_n [some (.ref 92), none, some (.int x2), some (.int 1), some (.int x4), some (.int (lm_i h 116 ((x2 + x4).toNatClampNeg))), none] f_254_334 (Nat.le_of_ble_eq_true rfl) rfl ?_
          refine ls_iload f_254_335 rfl ?_
          refine ls_iconst (-1) f_254_337 (by decide) ?_
          refine ls_icmp_eq 358 f_254_338 rfl hyp (fun _ hyp => ?_) (fun _ hyp => ?_)
          · refine ls_iconst 0 f_254_358 (by decide) ?_
            refine ls_istore [some (.ref 92), none, some (.int x2), some (.int 1), some (.int x4), some (.int (lm_i h 116 ((x2 + x4).toNatClampNeg))), some (.int 0)] f_254_359 (Nat.le_of_ble_eq_true rfl) rfl ?_
            exact ls_mask [true, false, true, true, true, false, true] [some (.ref 92), none, some (.int x2), some (.int 1), some (.int x4), none, some (.int 0)] rfl hyp
          · refine ls_aload_n f_254_341 rfl ?_
            refine ls_getR f_254_342 p_254_66 (lm_Lay_si hl _ _ _) S_92 F_92_27 ?_
            refine ls_bipush 6 f_254_345 (by decide) ?_
            refine ls_iload f_254_347 rfl ?_
            refine ls_imul (6 * x4) f_254_349 rfl ?_
            refine ls_iload f_254_350 rfl ?_
            refine ls_iadd ((6 * x4) + (lm_i h 116 ((x2 + x4).toNatClampNeg))) f_254_352 rfl ?_
            refine ls_dup2 f_254_353 rfl rfl ?_
            refine ls_iald f_254_354 (lm_Lay_si hl _ _ _) S_106 hyp (fun hyp => ?_)
            refine ls_top (lm_i h 106 (((6 * x4) + (lm_i h 116 ((x2 + x4).toNatClampNeg))).toNatClampNeg)) rfl ?_
            refine ls_iconst 1 f_254_355 (by decide) ?_
            refine ls_iadd ((lm_i h 106 (((6 * x4) + (lm_i h 116 ((x2 + x4).toNatClampNeg))).toNatClampNeg)) + 1) f_254_356 rfl ?_
            refine ls_iast f_254_357 (lm_Lay_si hl _ _ _) S_106 hyp (fun hyp => ?_)
            refine ls_iconst 0 f_254_358 (by decide) ?_
            refine ls_istore [some (.ref 92), none, some (.int x2), some (.int 1), some (.int x4), some (.int (lm_i h 116 ((x2 + x4).toNatClampNeg))), some (.int 0)] f_254_359 (Nat.le_of_ble_eq_true rfl) rfl ?_
            exact ls_mask [true, false, true, true, true, false, true] [some (.ref 92), none, some (.int x2), some (.int 1), some (.int x4), none, some (.int 0)] rfl hyp
        · refine ls_iconst 0 f_254_333 (by decide) ?_
          refine ls_istore_n [some (.ref 92), none, some (.int x2), some (.int 0), some (.int x4), some (.int (lm_i h 116 ((x2 + x4).toNatClampNeg))), none] f_254_334 (Nat.le_of_ble_eq_true rfl) rfl ?_
          refine ls_iload f_254_335 rfl ?_
          refine ls_iconst (-1) f_254_337 (by decide) ?_
          refine ls_icmp_eq 358 f_254_338 rfl hyp (fun _ hyp => ?_) (fun _ hyp => ?_)
          · refine ls_iconst 0 f_254_358 (by decide) ?_
            refine ls_istore [some (.ref 92), none, some (.int x2), some (.int 0), some (.int x4), some (.int (lm_i h 116 ((x2 + x4).toNatClampNeg))), some (.int 0)] f_254_359 (Nat.le_of_ble_eq_true rfl) rfl ?_
            exact ls_mask [true, false, true, true, true, false, true] [some (.ref 92), none, some (.int x2), some (.int 0), some (.int x4), none, some (.int 0)] rfl hyp
          · refine ls_aload_n f_254_341 rfl ?_
            refine ls_getR f_254_342 p_254_66 (lm_Lay_si hl _ _ _) S_92 F_92_27 ?_
            refine ls_bipush 6 f_254_345 (by decide) ?_
            refine ls_iload f_254_347 rfl ?_
            refine ls_imul (6 * x4) f_254_349 rfl ?_
            refine ls_iload f_254_350 rfl ?_
            refine ls_iadd ((6 * x4) + (lm_i h 116 ((x2 + x4).toNatClampNeg))) f_254_352 rfl ?_
            refine ls_dup2 f_254_353 rfl rfl ?_
            refine ls_iald f_254_354 (lm_Lay_si hl _ _ _) S_106 hyp (fun hyp => ?_)
            refine ls_top (lm_i h 106 (((6 * x4) + (lm_i h 116 ((x2 + x4).toNatClampNeg))).toNatClampNeg)) rfl ?_
            refine ls_iconst 1 f_254_355 (by decide) ?_
            refine ls_iadd ((lm_i h 106 (((6 * x4) + (lm_i h 116 ((x2 + x4).toNatClampNeg))).toNatClampNeg)) + 1) f_254_356 rfl ?_
            refine ls_iast f_254_357 (lm_Lay_si hl _ _ _) S_106 hyp (fun hyp => ?_)
            refine ls_iconst 0 f_254_358 (by decide) ?_
            refine ls_istore [some (.ref 92), none, some (.int x2), some (.int 0), some (.int x4), some (.int (lm_i h 116 ((x2 + x4).toNatClampNeg))), some (.int 0)] f_254_359 (Nat.le_of_ble_eq_true rfl) rfl ?_
            exact ls_mask [true, false, true, true, true, false, true] [some (.ref 92), none, some (.int x2), some (.int 0), some (.int x4), none, some (.int 0)] rfl hyp
      · refine ls_iconst 1 f_254_329 (by decide) ?_
        refine ls_goto 334 f_254_330 rfl ?_
        refine ls_istore_n [some (.ref 92), none, some (.int x2), some (.int 1), some (.int x4), some (.int (lm_i h 116 ((x2 + x4).toNatClampNeg))), none] f_254_334 (Nat.le_of_ble_eq_true rfl) rfl ?_
        refine ls_iload f_254_335 rfl ?_
        refine ls_iconst (-1) f_254_337 (by decide) ?_
        refine ls_icmp_eq 358 f_254_338 rfl hyp (fun _ hyp => ?_) (fun _ hyp => ?_)
        · refine ls_iconst 0 f_254_358 (by decide) ?_
          refine ls_istore [some (.ref 92), none, some (.int x2), some (.int 1), some (.int x4), some (.int (lm_i h 116 ((x2 + x4).toNatClampNeg))), some (.int 0)] f_254_359 (Nat.le_of_ble_eq_true rfl) rfl ?_
          exact ls_mask [true, false, true, true, true, false, true] [some (.ref 92), none, some (.int x2), some (.int 1), some (.int x4), none, some (.int 0)] rfl hyp
        · refine ls_aload_n f_254_341 rfl ?_
          refine ls_getR f_254_342 p_254_66 (lm_Lay_si hl _ _ _) S_92 F_92_27 ?_
          refine ls_bipush 6 f_254_345 (by decide) ?_
          refine ls_iload f_254_347 rfl ?_
          refine ls_imul (6 * x4) f_254_349 rfl ?_
          refine ls_iload f_254_350 rfl ?_
          refine ls_iadd ((6 * x4) + (lm_i h 116 ((x2 + x4).toNatClampNeg))) f_254_352 rfl ?_
          refine ls_dup2 f_254_353 rfl rfl ?_
          refine ls_iald f_254_354 (lm_Lay_si hl _ _ _) S_106 hyp (fun hyp => ?_)
          refine ls_top (lm_i h 106 (((6 * x4) + (lm_i h 116 ((x2 + x4).toNatClampNeg))).toNatClampNeg)) rfl ?_
          refine ls_iconst 1 f_254_355 (by decide) ?_
          refine ls_iadd ((lm_i h 106 (((6 * x4) + (lm_i h 116 ((x2 + x4).toNatClampNeg))).toNatClampNeg)) + 1) f_254_356 rfl ?_
          refine ls_iast f_254_357 (lm_Lay_si hl _ _ _) S_106 hyp (fun hyp => ?_)
          refine ls_iconst 0 f_254_358 (by decide) ?_
          refine ls_istore [some (.ref 92), none, some (.int x2), some (.int 1), some (.int x4), some (.int (lm_i h 116 ((x2 + x4).toNatClampNeg))), some (.int 0)] f_254_359 (Nat.le_of_ble_eq_true rfl) rfl ?_
          exact ls_mask [true, false, true, true, true, false, true] [some (.ref 92), none, some (.int x2), some (.int 1), some (.int x4), none, some (.int 0)] rfl hyp
    · refine ls_aload_n f_254_304 rfl ?_
      refine ls_getR f_254_305 p_254_60 hl S_92 F_92_25 ?_
      refine ls_bipush 6 f_254_308 (by decide) ?_
      refine ls_iload f_254_310 rfl ?_
      refine ls_imul (6 * x4) f_254_312 rfl ?_
      refine ls_iload f_254_313 rfl ?_
      refine ls_iadd ((6 * x4) + (lm_i h 116 ((x2 + x4).toNatClampNeg))) f_254_315 rfl ?_
      refine ls_iald f_254_316 hl S_104 hyp (fun hyp => ?_)
      refine ls_imul (60 * (lm_i h 104 (((6 * x4) + (lm_i h 116 ((x2 + x4).toNatClampNeg))).toNatClampNeg))) f_254_317 rfl ?_
      refine ls_iast f_254_318 hl S_117 hyp (fun hyp => ?_)
      refine ls_iload_n f_254_319 rfl ?_
      refine ls_if_ne 329 f_254_320 rfl hyp (fun _ hyp => ?_) (fun _ hyp => ?_)
      · refine ls_iload f_254_323 rfl ?_
        refine ls_iconst (-1) f_254_325 (by decide) ?_
        refine ls_icmp_ne 333 f_254_326 rfl hyp (fun _ hyp => ?_) (fun _ hyp => ?_)
        · refine ls_iconst 1 f_254_329 (by decide) ?_
          refine ls_goto 334 f_254_330 rfl ?_
          refine ls_istore_n [some (.ref 92), none, some (.int x2), some (.int 1), some (.int x4), some (.int (lm_i h 116 ((x2 + x4).toNatClampNeg))), none] f_254_334 (Nat.le_of_ble_eq_true rfl) rfl ?_
          refine ls_iload f_254_335 rfl ?_
          refine ls_iconst (-1) f_254_337 (by decide) ?_
          refine ls_icmp_eq 358 f_254_338 rfl hyp (fun _ hyp => ?_) (fun _ hyp => ?_)
          · refine ls_iconst 0 f_254_358 (by decide) ?_
            refine ls_istore [some (.ref 92), none, some (.int x2), some (.int 1), some (.int x4), some (.int (lm_i h 116 ((x2 + x4).toNatClampNeg))), some (.int 0)] f_254_359 (Nat.le_of_ble_eq_true rfl) rfl ?_
            exact ls_mask [true, false, true, true, true, false, true] [some (.ref 92), none, some (.int x2), some (.int 1), some (.int x4), none, some (.int 0)] rfl hyp
          · refine ls_aload_n f_254_341 rfl ?_
            refine ls_getR f_254_342 p_254_66 (lm_Lay_si hl _ _ _) S_92 F_92_27 ?_
            refine ls_bipush 6 f_254_345 (by decide) ?_
            refine ls_iload f_254_347 rfl ?_
            refine ls_imul (6 * x4) f_254_349 rfl ?_
            refine ls_iload f_254_350 rfl ?_
            refine ls_iadd ((6 * x4) + (lm_i h 116 ((x2 + x4).toNatClampNeg))) f_254_352 rfl ?_
            refine ls_dup2 f_254_353 rfl rfl ?_
            refine ls_iald f_254_354 (lm_Lay_si hl _ _ _) S_106 hyp (fun hyp => ?_)
            refine ls_top (lm_i h 106 (((6 * x4) + (lm_i h 116 ((x2 + x4).toNatClampNeg))).toNatClampNeg)) rfl ?_
            refine ls_iconst 1 f_254_355 (by decide) ?_
            refine ls_iadd ((lm_i h 106 (((6 * x4) + (lm_i h 116 ((x2 + x4).toNatClampNeg))).toNatClampNeg)) + 1) f_254_356 rfl ?_
            refine ls_iast f_254_357 (lm_Lay_si hl _ _ _) S_106 hyp (fun hyp => ?_)
            refine ls_iconst 0 f_254_358 (by decide) ?_
            refine ls_istore [some (.ref 92), none, some (.int x2), some (.int 1), some (.int x4), some (.int (lm_i h 116 ((x2 + x4).toNatClampNeg))), some (.int 0)] f_254_359 (Nat.le_of_ble_eq_true rfl) rfl ?_
            exact ls_mask [true, false, true, true, true, false, true] [some (.ref 92), none, some (.int x2), some (.int 1), some (.int x4), none, some (.int 0)] rfl hyp
        · refine ls_iconst 0 f_254_333 (by decide) ?_
          refine ls_istore_n [some (.ref 92), none, some (.int x2), some (.int 0), some (.int x4), some (.int (lm_i h 116 ((x2 + x4).toNatClampNeg))), none] f_254_334 (Nat.le_of_ble_eq_true rfl) rfl ?_
          refine ls_iload f_254_335 rfl ?_
          refine ls_iconst (-1) f_254_337 (by decide) ?_
          refine ls_icmp_eq 358 f_254_338 rfl hyp (fun _ hyp => ?_) (fun _ hyp => ?_)
          · refine ls_iconst 0 f_254_358 (by decide) ?_
            refine ls_istore [some (.ref 92), none, some (.int x2), some (.int 0), some (.int x4), some (.int (lm_i h 116 ((x2 + x4).toNatClampNeg))), some (.int 0)] f_254_359 (Nat.le_of_ble_eq_true rfl) rfl ?_
            exact ls_mask [true, false, true, true, true, false, true] [some (.ref 92), none, some (.int x2), some (.int 0), some (.int x4), none, some (.int 0)] rfl hyp
          · refine ls_aload_n f_254_341 rfl ?_
            refine ls_getR f_254_342 p_254_66 (lm_Lay_si hl _ _ _) S_92 F_92_27 ?_
            refine ls_bipush 6 f_254_345 (by decide) ?_
            refine ls_iload f_254_347 rfl ?_
            refine ls_imul (6 * x4) f_254_349 rfl ?_
            refine ls_iload f_254_350 rfl ?_
            refine ls_iadd ((6 * x4) + (lm_i h 116 ((x2 + x4).toNatClampNeg))) f_254_352 rfl ?_
            refine ls_dup2 f_254_353 rfl rfl ?_
            refine ls_iald f_254_354 (lm_Lay_si hl _ _ _) S_106 hyp (fun hyp => ?_)
            refine ls_top (lm_i h 106 (((6 * x4) + (lm_i h 116 ((x2 + x4).toNatClampNeg))).toNatClampNeg)) rfl ?_
            refine ls_iconst 1 f_254_355 (by decide) ?_
            refine ls_iadd ((lm_i h 106 (((6 * x4) + (lm_i h 116 ((x2 + x4).toNatClampNeg))).toNatClampNeg)) + 1) f_254_356 rfl ?_
            refine ls_iast f_254_357 (lm_Lay_si hl _ _ _) S_106 hyp (fun hyp => ?_)
            refine ls_iconst 0 f_254_358 (by decide) ?_
            refine ls_istore [some (.ref 92), none, some (.int x2), some (.int 0), some (.int x4), some (.int (lm_i h 116 ((x2 + x4).toNatClampNeg))), some (.int 0)] f_254_359 (Nat.le_of_ble_eq_true rfl) rfl ?_
            exact ls_mask [true, false, true, true, true, false, true] [some (.ref 92), none, some (.int x2), some (.int 0), some (.int x4), none, some (.int 0)] rfl hyp
      · refine ls_iconst 1 f_254_329 (by decide) ?_
        refine ls_goto 334 f_254_330 rfl ?_
        refine ls_istore_n [some (.ref 92), none, some (.int x2), some (.int 1), some (.int x4), some (.int (lm_i h 116 ((x2 + x4).toNatClampNeg))), none] f_254_334 (Nat.le_of_ble_eq_true rfl) rfl ?_
        refine ls_iload f_254_335 rfl ?_
        refine ls_iconst (-1) f_254_337 (by decide) ?_
        refine ls_icmp_eq 358 f_254_338 rfl hyp (fun _ hyp => ?_) (fun _ hyp => ?_)
        · refine ls_iconst 0 f_254_358 (by decide) ?_
          refine ls_istore [some (.ref 92), none, some (.int x2), some (.int 1), some (.int x4), some (.int (lm_i h 116 ((x2 + x4).toNatClampNeg))), some (.int 0)] f_254_359 (Nat.le_of_ble_eq_true rfl) rfl ?_
          exact ls_mask [true, false, true, true, true, false, true] [some (.ref 92), none, some (.int x2), some (.int 1), some (.int x4), none, some (.int 0)] rfl hyp
        · refine ls_aload_n f_254_341 rfl ?_
          refine ls_getR f_254_342 p_254_66 (lm_Lay_si hl _ _ _) S_92 F_92_27 ?_
          refine ls_bipush 6 f_254_345 (by decide) ?_
          refine ls_iload f_254_347 rfl ?_
          refine ls_imul (6 * x4) f_254_349 rfl ?_
          refine ls_iload f_254_350 rfl ?_
          refine ls_iadd ((6 * x4) + (lm_i h 116 ((x2 + x4).toNatClampNeg))) f_254_352 rfl ?_
          refine ls_dup2 f_254_353 rfl rfl ?_
          refine ls_iald f_254_354 (lm_Lay_si hl _ _ _) S_106 hyp (fun hyp => ?_)
          refine ls_top (lm_i h 106 (((6 * x4) + (lm_i h 116 ((x2 + x4).toNatClampNeg))).toNatClampNeg)) rfl ?_
          refine ls_iconst 1 f_254_355 (by decide) ?_
          refine ls_iadd ((lm_i h 106 (((6 * x4) + (lm_i h 116 ((x2 + x4).toNatClampNeg))).toNatClampNeg)) + 1) f_254_356 rfl ?_
          refine ls_iast f_254_357 (lm_Lay_si hl _ _ _) S_106 hyp (fun hyp => ?_)
          refine ls_iconst 0 f_254_358 (by decide) ?_
          refine ls_istore [some (.ref 92), none, some (.int x2), some (.int 1), some (.int x4), some (.int (lm_i h 116 ((x2 + x4).toNatClampNeg))), some (.int 0)] f_254_359 (Nat.le_of_ble_eq_true rfl) rfl ?_
          exact ls_mask [true, false, true, true, true, false, true] [some (.ref 92), none, some (.int x2), some (.int 1), some (.int x4), none, some (.int 0)] rfl hyp
  · refine ls_iload_n f_254_415 rfl ?_
    exact ls_zreturn f_254_416 rZ_254 hyp.1 hyp.2
theorem b_254_198 {d : Nat} {h : lm_H} {K : Int32 → lm_H → Prop} (x2 : Int32) (x3 : Int32) (x5 : Int32) (x6 : Int32) (hl : lm_Lay h) (hyp : (if x6 < (lm_i h 94 81) then (lm_in (x2 + x6) 200 False (if (lm_i h 115 ((x2 + x6).toNatClampNeg)) = x3 then (if x5 = 0 then (lm_in (x2 + x6) 200 False (lm_W (d + 1) 254 198 [some (.ref 92), none, some (.int x2), some (.int x3), none, some (.int (x5 - 1)), some (.int (x6 + 1))] [] (lm_si h 116 ((x2 + x6).toNatClampNeg) x3) (lm_kI K))) else (lm_W (d + 1) 254 198 [some (.ref 92), none, some (.int x2), some (.int x3), none, some (.int (x5 - 1)), some (.int (x6 + 1))] [] h (lm_kI K))) else (lm_W (d + 1) 254 198 [some (.ref 92), none, some (.int x2), some (.int x3), none, some (.int x5), some (.int (x6 + 1))] [] h (lm_kI K)))) else (lm_W (d + 1) 254 90 [some (.ref 92), none, some (.int x2), some (.int (x3 + 1)), none, none, none] [] h (lm_kI K)))) : lm_W (d + 1) 254 198 [some (.ref 92), none, some (.int x2), some (.int x3), none, some (.int x5), some (.int x6)] [] h (lm_kI K) := by
  refine ls_iload f_254_198 rfl ?_
  refine ls_aload_n f_254_200 rfl ?_
  refine ls_invV (a := 92) f_254_201 q_254_122 [] [.int x6] rfl (Nat.le_of_ble_eq_true rfl) hl S_92 ow_160 ?_
  refine ls_enter [some (.ref 92)] ml_160 (Nat.le_of_ble_eq_true rfl) rfl ?_
  refine ls_aload_n f_160_0 rfl ?_
  refine ls_getR f_160_1 p_160_25 hl S_92 F_92_3 ?_
  refine ls_bipush 81 f_160_4 (by decide) ?_
  refine ls_ialdC 81 f_160_6 hl S_94 ⟨by decide, by decide, by decide⟩ ?_
  refine ls_ireturn f_160_7 rI_160 ?_
  show lm_W _ _ _ _ [.int (lm_i h 94 81), .int x6] _ _
  refine ls_icmp_ge 247 f_254_204 rfl hyp (fun _ hyp => ?_) (fun _ hyp => ?_)
  · refine ls_aload_n f_254_207 rfl ?_
    refine ls_getR f_254_208 p_254_103 hl S_92 F_92_51 ?_
    refine ls_iload_n f_254_211 rfl ?_
    refine ls_iload f_254_212 rfl ?_
    refine ls_iadd (x2 + x6) f_254_214 rfl ?_
    refine ls_iald f_254_215 hl S_115 hyp (fun hyp => ?_)
    refine ls_iload_n f_254_216 rfl ?_
    refine ls_icmp_eq 223 f_254_217 rfl hyp (fun _ hyp => ?_) (fun _ hyp => ?_)
    · refine ls_iload f_254_223 rfl ?_
      refine ls_if_ne 238 f_254_225 rfl hyp (fun _ hyp => ?_) (fun _ hyp => ?_)
      · refine ls_aload_n f_254_228 rfl ?_
        refine ls_getR f_254_229 p_254_106 hl S_92 F_92_52 ?_
        refine ls_iload_n f_254_232 rfl ?_
        refine ls_iload f_254_233 rfl ?_
        refine ls_iadd (x2 + x6) f_254_235 rfl ?_
        refine ls_iload_n f_254_236 rfl ?_
        refine ls_iast f_254_237 hl S_116 hyp (fun hyp => ?_)
        refine ls_iinc (x5 - 1) [some (.ref 92), none, some (.int x2), some (.int x3), none, some (.int (x5 - 1)), some (.int x6)] f_254_238 rfl (Nat.le_of_ble_eq_true rfl) (lm_m1 _) rfl ?_
        refine ls_iinc (x6 + 1) [some (.ref 92), none, some (.int x2), some (.int x3), none, some (.int (x5 - 1)), some (.int (x6 + 1))] f_254_241 rfl (Nat.le_of_ble_eq_true rfl) rfl rfl ?_
        refine ls_goto 198 f_254_244 rfl ?_
        exact hyp
      · refine ls_iinc (x5 - 1) [some (.ref 92), none, some (.int x2), some (.int x3), none, some (.int (x5 - 1)), some (.int x6)] f_254_238 rfl (Nat.le_of_ble_eq_true rfl) (lm_m1 _) rfl ?_
        refine ls_iinc (x6 + 1) [some (.ref 92), none, some (.int x2), some (.int x3), none, some (.int (x5 - 1)), some (.int (x6 + 1))] f_254_241 rfl (Nat.le_of_ble_eq_true rfl) rfl rfl ?_
        refine ls_goto 198 f_254_244 rfl ?_
        exact hyp
    · refine ls_goto 241 f_254_220 rfl ?_
      refine ls_iinc (x6 + 1) [some (.ref 92), none, some (.int x2), some (.int x3), none, some (.int x5), some (.int (x6 + 1))] f_254_241 rfl (Nat.le_of_ble_eq_true rfl) rfl rfl ?_
      refine ls_goto 198 f_254_244 rfl ?_
      exact hyp
  · refine ls_iinc (x3 + 1) [some (.ref 92), none, some (.int x2), some (.int (x3 + 1)), none, some (.int x5), some (.int x6)] f_254_247 rfl (Nat.le_of_ble_eq_true rfl) rfl rfl ?_
    refine ls_goto 90 f_254_250 rfl ?_
    exact ls_mask [true, false, true, true, false, false, false] [some (.ref 92), none, some (.int x2), some (.int (x3 + 1)), none, none, none] rfl hyp
theorem b_254_361 {d : Nat} {h : lm_H} {K : Int32 → lm_H → Prop} (x2 : Int32) (x3 : Int32) (x4 : Int32) (x6 : Int32) (hl : lm_Lay h) (hyp : (if x6 < (lm_i h 94 82) then (lm_in ((6 * x4) + x6) 30 False (lm_call (d + 1) 255 [.ref 92, .int x2, .int x4, .int x6] h (lm_kI fun r2 h1 => (if r2 = 0 then (lm_in ((6 * x4) + x6) 30 False (lm_W (d + 1) 254 361 [some (.ref 92), none, some (.int x2), some (.int x3), some (.int x4), none, some (.int (x6 + 1))] [] (lm_si h1 118 (((6 * x4) + x6).toNatClampNeg) ((lm_i h 118 (((6 * x4) + x6).toNatClampNeg)) + 1)) (lm_kI K))) else (lm_in ((6 * x4) + x6) 30 False (lm_W (d + 1) 254 361 [some (.ref 92), none, some (.int x2), some (.int x3), some (.int x4), none, some (.int (x6 + 1))] [] (lm_si h1 118 (((6 * x4) + x6).toNatClampNeg) ((lm_i h 118 (((6 * x4) + x6).toNatClampNeg)) + 0)) (lm_kI K))))))) else (lm_W (d + 1) 254 258 [some (.ref 92), none, some (.int x2), some (.int x3), some (.int (x4 + 1)), none, none] [] h (lm_kI K)))) : lm_W (d + 1) 254 361 [some (.ref 92), none, some (.int x2), some (.int x3), some (.int x4), none, some (.int x6)] [] h (lm_kI K) := by
  refine ls_iload f_254_361 rfl ?_
  refine ls_aload_n f_254_363 rfl ?_
  refine ls_invV (a := 92) f_254_364 q_254_126 [] [.int x6] rfl (Nat.le_of_ble_eq_true rfl) hl S_92 ow_161 ?_
  refine ls_enter [some (.ref 92)] ml_161 (Nat.le_of_ble_eq_true rfl) rfl ?_
  refine ls_aload_n f_161_0 rfl ?_
  refine ls_getR f_161_1 p_161_25 hl S_92 F_92_3 ?_
  refine ls_bipush 82 f_161_4 (by decide) ?_
  refine ls_ialdC 82 f_161_6 hl S_94 ⟨by decide, by decide, by decide⟩ ?_
  refine ls_ireturn f_161_7 rI_161 ?_
  show lm_W _ _ _ _ [.int (lm_i h 94 82), .int x6] _ _
  refine ls_icmp_ge 409 f_254_367 rfl hyp (fun _ hyp => ?_) (fun _ hyp => ?_)
  · refine ls_aload_n f_254_370 rfl ?_
    refine ls_getR f_254_371 p_254_112 hl S_92 F_92_54 ?_
    refine ls_bipush 6 f_254_374 (by decide) ?_
    refine ls_iload f_254_376 rfl ?_
    refine ls_imul (6 * x4) f_254_378 rfl ?_
    refine ls_iload f_254_379 rfl ?_
    refine ls_iadd ((6 * x4) + x6) f_254_381 rfl ?_
    refine ls_dup2 f_254_382 rfl rfl ?_
    refine ls_iald f_254_383 hl S_118 hyp (fun hyp => ?_)
    refine ls_aload_n f_254_384 rfl ?_
    refine ls_iload_n f_254_385 rfl ?_
    refine ls_iload f_254_386 rfl ?_
    refine ls_iload f_254_388 rfl ?_
    refine ls_invV (a := 92) f_254_390 q_254_418 [.int x2, .int x4, .int x6] [.int (lm_i h 118 (((6 * x4) + x6).toNatClampNeg)), .int ((6 * x4) + x6), .ref 118] rfl (Nat.le_of_ble_eq_true rfl) hl S_92 ow_255 ?_
    refine ls_call hyp hl (fun _ h1 hl1 hyp => ?_)
    refine ls_retI hyp (fun r2 hyp => ?_)
    refine ls_if_eq 400 f_254_393 rfl hyp (fun _ hyp => ?_) (fun _ hyp => ?_)
    · refine ls_iconst 1 f_254_400 (by decide) ?_
      refine ls_iadd ((lm_i h 118 (((6 * x4) + x6).toNatClampNeg)) + 1) f_254_401 rfl ?_
      refine ls_iast f_254_402 hl1 S_118 hyp (fun hyp => ?_)
      refine ls_iinc (x6 + 1) [some (.ref 92), none, some (.int x2), some (.int x3), some (.int x4), none, some (.int (x6 + 1))] f_254_403 rfl (Nat.le_of_ble_eq_true rfl) rfl rfl ?_
      refine ls_goto 361 f_254_406 rfl ?_
      exact hyp
    · refine ls_iconst 0 f_254_396 (by decide) ?_
      refine ls_goto 401 f_254_397 rfl ?_
      refine ls_iadd ((lm_i h 118 (((6 * x4) + x6).toNatClampNeg)) + 0) f_254_401 rfl ?_
      refine ls_iast f_254_402 hl1 S_118 hyp (fun hyp => ?_)
      refine ls_iinc (x6 + 1) [some (.ref 92), none, some (.int x2), some (.int x3), some (.int x4), none, some (.int (x6 + 1))] f_254_403 rfl (Nat.le_of_ble_eq_true rfl) rfl rfl ?_
      refine ls_goto 361 f_254_406 rfl ?_
      exact hyp
  · refine ls_iinc (x4 + 1) [some (.ref 92), none, some (.int x2), some (.int x3), some (.int (x4 + 1)), none, some (.int x6)] f_254_409 rfl (Nat.le_of_ble_eq_true rfl) rfl rfl ?_
    refine ls_goto 258 f_254_412 rfl ?_
    exact ls_mask [true, false, true, true, true, false, false] [some (.ref 92), none, some (.int x2), some (.int x3), some (.int (x4 + 1)), none, none] rfl hyp
theorem e_255 {d : Nat} {h : lm_H} {K : Int32 → lm_H → Prop} (x1 : Int32) (x2 : Int32) (x3 : Int32) (hl : lm_Lay h) (hyp : lm_W (d + 1) 255 3 [some (.ref 92), some (.int x1), some (.int x2), some (.int x3), some (.int 0)] [] h (lm_kI K)) : lm_call (d + 2) 255 [.ref 92, .int x1, .int x2, .int x3] h (lm_kI K) := by
  refine ls_enter [some (.ref 92), some (.int x1), some (.int x2), some (.int x3), none] ml_255 (Nat.le_of_ble_eq_true rfl) rfl ?_
  refine ls_iconst 0 f_255_0 (by decide) ?_
  refine ls_istore [some (.ref 92), some (.int x1), some (.int x2), some (.int x3), some (.int 0)] f_255_1 (Nat.le_of_ble_eq_true rfl) rfl ?_
  exact hyp
theorem b_255_3 {d : Nat} {h : lm_H} {K : Int32 → lm_H → Prop} (x1 : Int32) (x2 : Int32) (x3 : Int32) (x4 : Int32) (hl : lm_Lay h) (hyp : (if x4 < (lm_i h 94 81) then (if x4 = x2 then (lm_W (d + 1) 255 3 [some (.ref 92), some (.int x1), some (.int x2), some (.int x3), some (.int (x4 + 1))] [] h (lm_kI K)) else (lm_in (x1 + x4) 200 False (if (lm_i h 115 ((x1 + x4).toNatClampNeg)) = x3 then (K 1 h) else (lm_W (d + 1) 255 3 [some (.ref 92), some (.int x1), some (.int x2), some (.int x3), some (.int (x4 + 1))] [] h (lm_kI K))))) else (K 0 h))) : lm_W (d + 1) 255 3 [some (.ref 92), some (.int x1), some (.int x2), some (.int x3), some (.int x4)] [] h (lm_kI K) := by
  refine ls_iload f_255_3 rfl ?_
  refine ls_aload_n f_255_5 rfl ?_
  refine ls_invV (a := 92) f_255_6 q_255_122 [] [.int x4] rfl (Nat.le_of_ble_eq_true rfl) hl S_92 ow_160 ?_
  refine ls_enter [some (.ref 92)] ml_160 (Nat.le_of_ble_eq_true rfl) rfl ?_
  refine ls_aload_n f_160_0 rfl ?_
  refine ls_getR f_160_1 p_160_25 hl S_92 F_92_3 ?_
  refine ls_bipush 81 f_160_4 (by decide) ?_
  refine ls_ialdC 81 f_160_6 hl S_94 ⟨by decide, by decide, by decide⟩ ?_
  refine ls_ireturn f_160_7 rI_160 ?_
  show lm_W _ _ _ _ [.int (lm_i h 94 81), .int x4] _ _
  refine ls_icmp_ge 39 f_255_9 rfl hyp (fun _ hyp => ?_) (fun _ hyp => ?_)
  · refine ls_iload f_255_12 rfl ?_
    refine ls_iload_n f_255_14 rfl ?_
    refine ls_icmp_eq 33 f_255_15 rfl hyp (fun _ hyp => ?_) (fun _ hyp => ?_)
    · refine ls_iinc (x4 + 1) [some (.ref 92), some (.int x1), some (.int x2), some (.int x3), some (.int (x4 + 1))] f_255_33 rfl (Nat.le_of_ble_eq_true rfl) rfl rfl ?_
      refine ls_goto 3 f_255_36 rfl ?_
      exact hyp
    · refine ls_aload_n f_255_18 rfl ?_
      refine ls_getR f_255_19 p_255_103 hl S_92 F_92_51 ?_
      refine ls_iload_n f_255_22 rfl ?_
      refine ls_iload f_255_23 rfl ?_
      refine ls_iadd (x1 + x4) f_255_25 rfl ?_
      refine ls_iald f_255_26 hl S_115 hyp (fun hyp => ?_)
      refine ls_iload_n f_255_27 rfl ?_
      refine ls_icmp_ne 33 f_255_28 rfl hyp (fun _ hyp => ?_) (fun _ hyp => ?_)
      · refine ls_iconst 1 f_255_31 (by decide) ?_
        exact ls_zreturn f_255_32 rZ_255 (by decide) hyp
      · refine ls_iinc (x4 + 1) [some (.ref 92), some (.int x1), some (.int x2), some (.int x3), some (.int (x4 + 1))] f_255_33 rfl (Nat.le_of_ble_eq_true rfl) rfl rfl ?_
        refine ls_goto 3 f_255_36 rfl ?_
        exact hyp
  · refine ls_iconst 0 f_255_39 (by decide) ?_
    exact ls_zreturn f_255_40 rZ_255 (by decide) hyp
theorem e_256 {d : Nat} {h : lm_H} {K : Int32 → lm_H → Prop} (x1 : Int32) (x2 : Int32) (hl : lm_Lay h) (hyp : (if x1 < 0 then (K (-1) (lm_si (lm_si h 92 0 (-1)) 93 1 ((lm_i h 93 1) + 1))) else (if 1000000 < x1 then (K (-1) (lm_si (lm_si h 92 0 (-1)) 93 1 ((lm_i h 93 1) + 1))) else (if x2 < 1 then (K (-1) (lm_si (lm_si h 92 0 (-1)) 93 1 ((lm_i h 93 1) + 1))) else (if 40 < x2 then (K (-1) (lm_si (lm_si h 92 0 (-1)) 93 1 ((lm_i h 93 1) + 1))) else (lm_W (d + 1) 256 46 [some (.ref 92), none, some (.int x2), some (.int 0), none] [] (lm_si (lm_si (lm_si h 92 57 x1) 92 55 x2) 92 56 (lm_i h 94 81)) (lm_kI K))))))) : lm_call (d + 2) 256 [.ref 92, .int x1, .int x2] h (lm_kI K) := by
  refine ls_enter [some (.ref 92), some (.int x1), some (.int x2), none, none] ml_256 (Nat.le_of_ble_eq_true rfl) rfl ?_
  refine ls_iload_n f_256_0 rfl ?_
  refine ls_iconst 0 f_256_1 (by decide) ?_
  refine ls_ldc f_256_2 k_256_158 ?_
  refine ls_invS f_256_4 q_256_115 [.int x1, .int 0, .int 1000000] [] rfl (Nat.le_of_ble_eq_true rfl) ?_
  refine ls_enter [some (.int x1), some (.int 0), some (.int 1000000)] ml_152 (Nat.le_of_ble_eq_true rfl) rfl ?_
  refine ls_iload_n f_152_0 rfl ?_
  refine ls_iload_n f_152_1 rfl ?_
  refine ls_icmp_lt 14 f_152_2 rfl hyp (fun _ hyp => ?_) (fun _ hyp => ?_)
  · refine ls_iconst 0 f_152_14 (by decide) ?_
    refine ls_zreturn f_152_15 rZ_152 (by decide) ?_
    show lm_W _ _ _ _ [.int 0] _ _
    refine ls_if_eq_T 20 f_256_7 rfl (by decide) ?_
    refine ls_aload_n f_256_20 rfl ?_
    refine ls_iconst (-1) f_256_21 (by decide) ?_
    refine ls_invV (a := 92) f_256_22 q_256_11 [.int (-1)] [] rfl (Nat.le_of_ble_eq_true rfl) hl S_92 ow_153 ?_
    refine ls_enter [some (.ref 92), some (.int (-1))] ml_153 (Nat.le_of_ble_eq_true rfl) rfl ?_
    refine ls_aload_n f_153_0 rfl ?_
    refine ls_iload_n f_153_1 rfl ?_
    refine ls_putI f_153_2 p_153_3 hl S_92 rfl ?_
    refine ls_aload_n f_153_5 rfl ?_
    refine ls_getR f_153_6 p_153_7 (lm_Lay_si hl _ _ _) S_92 F_92_2 ?_
    refine ls_iload_n f_153_9 rfl ?_
    refine ls_ineg 1 f_153_10 (by decide) ?_
    refine ls_dup2 f_153_11 rfl rfl ?_
    refine ls_ialdC 1 f_153_12 (lm_Lay_si hl _ _ _) S_93 ⟨by decide, by decide, by decide⟩ ?_
    refine ls_top (lm_i h 93 1) rfl ?_
    refine ls_iconst 1 f_153_13 (by decide) ?_
    refine ls_iadd ((lm_i h 93 1) + 1) f_153_14 rfl ?_
    refine ls_iastC 1 f_153_15 (lm_Lay_si hl _ _ _) S_93 ⟨by decide, by decide, by decide⟩ ?_
    refine ls_iload_n f_153_16 rfl ?_
    refine ls_ireturn f_153_17 rI_153 ?_
    show lm_W _ _ _ _ [.int (-1)] _ _
    exact ls_ireturn f_256_25 rI_256 hyp
  · refine ls_iload_n f_152_5 rfl ?_
    refine ls_iload_n f_152_6 rfl ?_
    refine ls_icmp_gt 14 f_152_7 rfl hyp (fun _ hyp => ?_) (fun _ hyp => ?_)
    · refine ls_iconst 0 f_152_14 (by decide) ?_
      refine ls_zreturn f_152_15 rZ_152 (by decide) ?_
      show lm_W _ _ _ _ [.int 0] _ _
      refine ls_if_eq_T 20 f_256_7 rfl (by decide) ?_
      refine ls_aload_n f_256_20 rfl ?_
      refine ls_iconst (-1) f_256_21 (by decide) ?_
      refine ls_invV (a := 92) f_256_22 q_256_11 [.int (-1)] [] rfl (Nat.le_of_ble_eq_true rfl) hl S_92 ow_153 ?_
      refine ls_enter [some (.ref 92), some (.int (-1))] ml_153 (Nat.le_of_ble_eq_true rfl) rfl ?_
      refine ls_aload_n f_153_0 rfl ?_
      refine ls_iload_n f_153_1 rfl ?_
      refine ls_putI f_153_2 p_153_3 hl S_92 rfl ?_
      refine ls_aload_n f_153_5 rfl ?_
      refine ls_getR f_153_6 p_153_7 (lm_Lay_si hl _ _ _) S_92 F_92_2 ?_
      refine ls_iload_n f_153_9 rfl ?_
      refine ls_ineg 1 f_153_10 (by decide) ?_
      refine ls_dup2 f_153_11 rfl rfl ?_
      refine ls_ialdC 1 f_153_12 (lm_Lay_si hl _ _ _) S_93 ⟨by decide, by decide, by decide⟩ ?_
      refine ls_top (lm_i h 93 1) rfl ?_
      refine ls_iconst 1 f_153_13 (by decide) ?_
      refine ls_iadd ((lm_i h 93 1) + 1) f_153_14 rfl ?_
      refine ls_iastC 1 f_153_15 (lm_Lay_si hl _ _ _) S_93 ⟨by decide, by decide, by decide⟩ ?_
      refine ls_iload_n f_153_16 rfl ?_
      refine ls_ireturn f_153_17 rI_153 ?_
      show lm_W _ _ _ _ [.int (-1)] _ _
      exact ls_ireturn f_256_25 rI_256 hyp
    · refine ls_iconst 1 f_152_10 (by decide) ?_
      refine ls_goto 15 f_152_11 rfl ?_
      refine ls_zreturn f_152_15 rZ_152 (by decide) ?_
      show lm_W _ _ _ _ [.int 1] _ _
      refine ls_if_eq_F 20 f_256_7 rfl (by decide) ?_
      refine ls_iload_n f_256_10 rfl ?_
      refine ls_iconst 1 f_256_11 (by decide) ?_
      refine ls_bipush 40 f_256_12 (by decide) ?_
      refine ls_invS f_256_14 q_256_115 [.int x2, .int 1, .int 40] [] rfl (Nat.le_of_ble_eq_true rfl) ?_
      refine ls_enter [some (.int x2), some (.int 1), some (.int 40)] ml_152 (Nat.le_of_ble_eq_true rfl) rfl ?_
      refine ls_iload_n f_152_0 rfl ?_
      refine ls_iload_n f_152_1 rfl ?_
      refine ls_icmp_lt 14 f_152_2 rfl hyp (fun _ hyp => ?_) (fun _ hyp => ?_)
      · refine ls_iconst 0 f_152_14 (by decide) ?_
        refine ls_zreturn f_152_15 rZ_152 (by decide) ?_
        show lm_W _ _ _ _ [.int 0] _ _
        refine ls_if_ne_T 26 f_256_17 rfl (by decide) ?_
        refine ls_aload_n f_256_20 rfl ?_
        refine ls_iconst (-1) f_256_21 (by decide) ?_
        refine ls_invV (a := 92) f_256_22 q_256_11 [.int (-1)] [] rfl (Nat.le_of_ble_eq_true rfl) hl S_92 ow_153 ?_
        refine ls_enter [some (.ref 92), some (.int (-1))] ml_153 (Nat.le_of_ble_eq_true rfl) rfl ?_
        refine ls_aload_n f_153_0 rfl ?_
        refine ls_iload_n f_153_1 rfl ?_
        refine ls_putI f_153_2 p_153_3 hl S_92 rfl ?_
        refine ls_aload_n f_153_5 rfl ?_
        refine ls_getR f_153_6 p_153_7 (lm_Lay_si hl _ _ _) S_92 F_92_2 ?_
        refine ls_iload_n f_153_9 rfl ?_
        refine ls_ineg 1 f_153_10 (by decide) ?_
        refine ls_dup2 f_153_11 rfl rfl ?_
        refine ls_ialdC 1 f_153_12 (lm_Lay_si hl _ _ _) S_93 ⟨by decide, by decide, by decide⟩ ?_
        refine ls_top (lm_i h 93 1) rfl ?_
        refine ls_iconst 1 f_153_13 (by decide) ?_
        refine ls_iadd ((lm_i h 93 1) + 1) f_153_14 rfl ?_
        refine ls_iastC 1 f_153_15 (lm_Lay_si hl _ _ _) S_93 ⟨by decide, by decide, by decide⟩ ?_
        refine ls_iload_n f_153_16 rfl ?_
        refine ls_ireturn f_153_17 rI_153 ?_
        show lm_W _ _ _ _ [.int (-1)] _ _
        exact ls_ireturn f_256_25 rI_256 hyp
      · refine ls_iload_n f_152_5 rfl ?_
        refine ls_iload_n f_152_6 rfl ?_
        refine ls_icmp_gt 14 f_152_7 rfl hyp (fun _ hyp => ?_) (fun _ hyp => ?_)
        · refine ls_iconst 0 f_152_14 (by decide) ?_
          refine ls_zreturn f_152_15 rZ_152 (by decide) ?_
          show lm_W _ _ _ _ [.int 0] _ _
          refine ls_if_ne_T 26 f_256_17 rfl (by decide) ?_
          refine ls_aload_n f_256_20 rfl ?_
          refine ls_iconst (-1) f_256_21 (by decide) ?_
          refine ls_invV (a := 92) f_256_22 q_256_11 [.int (-1)] [] rfl (Nat.le_of_ble_eq_true rfl) hl S_92 ow_153 ?_
          refine ls_enter [some (.ref 92), some (.int (-1))] ml_153 (Nat.le_of_ble_eq_true rfl) rfl ?_
          refine ls_aload_n f_153_0 rfl ?_
          refine ls_iload_n f_153_1 rfl ?_
          refine ls_putI f_153_2 p_153_3 hl S_92 rfl ?_
          refine ls_aload_n f_153_5 rfl ?_
          refine ls_getR f_153_6 p_153_7 (lm_Lay_si hl _ _ _) S_92 F_92_2 ?_
          refine ls_iload_n f_153_9 rfl ?_
          refine ls_ineg 1 f_153_10 (by decide) ?_
          refine ls_dup2 f_153_11 rfl rfl ?_
          refine ls_ialdC 1 f_153_12 (lm_Lay_si hl _ _ _) S_93 ⟨by decide, by decide, by decide⟩ ?_
          refine ls_top (lm_i h 93 1) rfl ?_
          refine ls_iconst 1 f_153_13 (by decide) ?_
          refine ls_iadd ((lm_i h 93 1) + 1) f_153_14 rfl ?_
          refine ls_iastC 1 f_153_15 (lm_Lay_si hl _ _ _) S_93 ⟨by decide, by decide, by decide⟩ ?_
          refine ls_iload_n f_153_16 rfl ?_
          refine ls_ireturn f_153_17 rI_153 ?_
          show lm_W _ _ _ _ [.int (-1)] _ _
          exact ls_ireturn f_256_25 rI_256 hyp
        · refine ls_iconst 1 f_152_10 (by decide) ?_
          refine ls_goto 15 f_152_11 rfl ?_
          refine ls_zreturn f_152_15 rZ_152 (by decide) ?_
          show lm_W _ _ _ _ [.int 1] _ _
          refine ls_if_ne_F 26 f_256_17 rfl (by decide) ?_
          refine ls_aload_n f_256_26 rfl ?_
          refine ls_iload_n f_256_27 rfl ?_
          refine ls_putI f_256_28 p_256_405 hl S_92 rfl ?_
          refine ls_aload_n f_256_31 rfl ?_
          refine ls_iload_n f_256_32 rfl ?_
          refine ls_putI f_256_33 p_256_421 (lm_Lay_si hl _ _ _) S_92 rfl ?_
          refine ls_aload_n f_256_36 rfl ?_
          refine ls_aload_n f_256_37 rfl ?_
          refine ls_invV (a := 92) f_256_38 q_256_122 [] [.ref 92] rfl (Nat.le_of_ble_eq_true rfl) (lm_Lay_si (lm_Lay_si hl _ _ _) _ _ _) S_92 ow_160 ?_
          refine ls_enter [some (.ref 92)] ml_160 (Nat.le_of_ble_eq_true rfl) rfl ?_
          refine ls_aload_n f_160_0 rfl ?_
          refine ls_getR f_160_1 p_160_25 (lm_Lay_si (lm_Lay_si hl _ _ _) _ _ _) S_92 F_92_3 ?_
          refine ls_bipush 81 f_160_4 (by decide) ?_
          refine ls_ialdC 81 f_160_6 (lm_Lay_si (lm_Lay_si hl _ _ _) _ _ _) S_94 ⟨by decide, by decide, by decide⟩ ?_
          refine ls_top (lm_i h 94 81) rfl ?_
          refine ls_ireturn f_160_7 rI_160 ?_
          show lm_W _ _ _ _ [.int (lm_i h 94 81), .ref 92] _ _
          refine ls_putI f_256_41 p_256_424 (lm_Lay_si (lm_Lay_si hl _ _ _) _ _ _) S_92 rfl ?_
          refine ls_iconst 0 f_256_44 (by decide) ?_
          refine ls_istore_n [some (.ref 92), some (.int x1), some (.int x2), some (.int 0), none] f_256_45 (Nat.le_of_ble_eq_true rfl) rfl ?_
          exact ls_mask [true, false, true, true, false] [some (.ref 92), none, some (.int x2), some (.int 0), none] rfl hyp
theorem b_256_46 {d : Nat} {h : lm_H} {K : Int32 → lm_H → Prop} (x2 : Int32) (x3 : Int32) (hl : lm_Lay h) (hyp : (if x3 < 30 then (lm_in x3 30 False (lm_in x3 30 False (lm_W (d + 1) 256 46 [some (.ref 92), none, some (.int x2), some (.int (x3 + 1)), none] [] (lm_si (lm_si h 106 x3.toNatClampNeg 0) 118 x3.toNatClampNeg 0) (lm_kI K)))) else (lm_W (d + 1) 256 77 [some (.ref 92), none, some (.int x2), some (.int 0), some (.int 0)] [] h (lm_kI K)))) : lm_W (d + 1) 256 46 [some (.ref 92), none, some (.int x2), some (.int x3), none] [] h (lm_kI K) := by
  refine ls_iload_n f_256_46 rfl ?_
  refine ls_bipush 30 f_256_47 (by decide) ?_
  refine ls_icmp_ge 72 f_256_49 rfl hyp (fun _ hyp => ?_) (fun _ hyp => ?_)
  · refine ls_aload_n f_256_52 rfl ?_
    refine ls_getR f_256_53 p_256_66 hl S_92 F_92_27 ?_
    refine ls_iload_n f_256_56 rfl ?_
    refine ls_iconst 0 f_256_57 (by decide) ?_
    refine ls_iast f_256_58 hl S_106 hyp (fun hyp => ?_)
    refine ls_aload_n f_256_59 rfl ?_
    refine ls_getR f_256_60 p_256_112 (lm_Lay_si hl _ _ _) S_92 F_92_54 ?_
    refine ls_iload_n f_256_63 rfl ?_
    refine ls_iconst 0 f_256_64 (by decide) ?_
    refine ls_iast f_256_65 (lm_Lay_si hl _ _ _) S_118 hyp (fun hyp => ?_)
    refine ls_iinc (x3 + 1) [some (.ref 92), none, some (.int x2), some (.int (x3 + 1)), none] f_256_66 rfl (Nat.le_of_ble_eq_true rfl) rfl rfl ?_
    refine ls_goto 46 f_256_69 rfl ?_
    exact hyp
  · refine ls_iconst 0 f_256_72 (by decide) ?_
    refine ls_istore_n [some (.ref 92), none, some (.int x2), some (.int 0), none] f_256_73 (Nat.le_of_ble_eq_true rfl) rfl ?_
    refine ls_iconst 0 f_256_74 (by decide) ?_
    refine ls_istore [some (.ref 92), none, some (.int x2), some (.int 0), some (.int 0)] f_256_75 (Nat.le_of_ble_eq_true rfl) rfl ?_
    exact hyp
theorem b_256_77 {d : Nat} {h : lm_H} {K : Int32 → lm_H → Prop} (x2 : Int32) (x3 : Int32) (x4 : Int32) (hl : lm_Lay h) (hyp : (if x4 < x2 then (lm_call (d + 1) 254 [.ref 92, .int x4] h (lm_kI fun r2 h1 => (if r2 = 0 then (lm_W (d + 1) 256 77 [some (.ref 92), none, some (.int x2), some (.int (x3 + 0)), some (.int (x4 + 1))] [] h1 (lm_kI K)) else (lm_W (d + 1) 256 77 [some (.ref 92), none, some (.int x2), some (.int (x3 + 1)), some (.int (x4 + 1))] [] h1 (lm_kI K))))) else (K x3 (lm_si (lm_si (lm_si h 92 28 (-1)) 92 0 0) 92 1 ((lm_i h 92 1) + 1))))) : lm_W (d + 1) 256 77 [some (.ref 92), none, some (.int x2), some (.int x3), some (.int x4)] [] h (lm_kI K) := by
  refine ls_iload f_256_77 rfl ?_
  refine ls_iload_n f_256_79 rfl ?_
  refine ls_icmp_ge 106 f_256_80 rfl hyp (fun _ hyp => ?_) (fun _ hyp => ?_)
  · refine ls_iload_n f_256_83 rfl ?_
    refine ls_aload_n f_256_84 rfl ?_
    refine ls_iload f_256_85 rfl ?_
    refine ls_invV (a := 92) f_256_87 q_256_427 [.int x4] [.int x3] rfl (Nat.le_of_ble_eq_true rfl) hl S_92 ow_254 ?_
    refine ls_call hyp hl (fun _ h1 hl1 hyp => ?_)
    refine ls_retI hyp (fun r2 hyp => ?_)
    refine ls_if_eq 97 f_256_90 rfl hyp (fun _ hyp => ?_) (fun _ hyp => ?_)
    · refine ls_iconst 0 f_256_97 (by decide) ?_
      refine ls_iadd (x3 + 0) f_256_98 rfl ?_
      refine ls_istore_n [some (.ref 92), none, some (.int x2), some (.int (x3 + 0)), some (.int x4)] f_256_99 (Nat.le_of_ble_eq_true rfl) rfl ?_
      refine ls_iinc (x4 + 1) [some (.ref 92), none, some (.int x2), some (.int (x3 + 0)), some (.int (x4 + 1))] f_256_100 rfl (Nat.le_of_ble_eq_true rfl) rfl rfl ?_
      refine ls_goto 77 f_256_103 rfl ?_
      exact hyp
    · refine ls_iconst 1 f_256_93 (by decide) ?_
      refine ls_goto 98 f_256_94 rfl ?_
      refine ls_iadd (x3 + 1) f_256_98 rfl ?_
      refine ls_istore_n [some (.ref 92), none, some (.int x2), some (.int (x3 + 1)), some (.int x4)] f_256_99 (Nat.le_of_ble_eq_true rfl) rfl ?_
      refine ls_iinc (x4 + 1) [some (.ref 92), none, some (.int x2), some (.int (x3 + 1)), some (.int (x4 + 1))] f_256_100 rfl (Nat.le_of_ble_eq_true rfl) rfl rfl ?_
      refine ls_goto 77 f_256_103 rfl ?_
      exact hyp
  · refine ls_aload_n f_256_106 rfl ?_
    refine ls_iconst (-1) f_256_107 (by decide) ?_
    refine ls_putI f_256_108 p_256_69 hl S_92 rfl ?_
    refine ls_aload_n f_256_111 rfl ?_
    refine ls_iload_n f_256_112 rfl ?_
    refine ls_invV (a := 92) f_256_113 q_256_119 [.int x3] [] rfl (Nat.le_of_ble_eq_true rfl) (lm_Lay_si hl _ _ _) S_92 ow_155 ?_
    refine ls_enter [some (.ref 92), some (.int x3)] ml_155 (Nat.le_of_ble_eq_true rfl) rfl ?_
    refine ls_aload_n f_155_0 rfl ?_
    refine ls_iconst 0 f_155_1 (by decide) ?_
    refine ls_putI f_155_2 p_155_3 (lm_Lay_si hl _ _ _) S_92 rfl ?_
    refine ls_aload_n f_155_5 rfl ?_
    refine ls_dup f_155_6 rfl ?_
    refine ls_getI f_155_7 p_155_16 (lm_Lay_si (lm_Lay_si hl _ _ _) _ _ _) S_92 ?_
    refine ls_top (lm_i h 92 1) rfl ?_
    refine ls_iconst 1 f_155_10 (by decide) ?_
    refine ls_iadd ((lm_i h 92 1) + 1) f_155_11 rfl ?_
    refine ls_putI f_155_12 p_155_16 (lm_Lay_si (lm_Lay_si hl _ _ _) _ _ _) S_92 rfl ?_
    refine ls_iload_n f_155_15 rfl ?_
    refine ls_ireturn f_155_16 rI_155 ?_
    show lm_W _ _ _ _ [.int x3] _ _
    exact ls_ireturn f_256_116 rI_256 hyp
theorem e_257 {d : Nat} {h : lm_H} {K : Int32 → lm_H → Prop} (x1 : Int32) (x2 : Int32) (x3 : Int32) (hl : lm_Lay h) (hyp : (if x1 < 0 then (K (-1) h) else (if ((lm_i h 92 55) - 1) < x1 then (K (-1) h) else (if x2 < 0 then (K (-1) h) else (if ((lm_i h 92 56) - 1) < x2 then (K (-1) h) else (if x3 < 0 then (K (-1) h) else (if 1 < x3 then (K (-1) h) else (if x3 = 0 then (lm_in ((5 * x1) + x2) 200 False (K (lm_i h 115 (((5 * x1) + x2).toNatClampNeg)) h)) else (lm_in ((5 * x1) + x2) 200 False (K (lm_i h 116 (((5 * x1) + x2).toNatClampNeg)) h)))))))))) : lm_call (d + 2) 257 [.ref 92, .int x1, .int x2, .int x3] h (lm_kI K) := by
  refine ls_enter [some (.ref 92), some (.int x1), some (.int x2), some (.int x3)] ml_257 (Nat.le_of_ble_eq_true rfl) rfl ?_
  refine ls_iload_n f_257_0 rfl ?_
  refine ls_iconst 0 f_257_1 (by decide) ?_
  refine ls_aload_n f_257_2 rfl ?_
  refine ls_getI f_257_3 p_257_421 hl S_92 ?_
  refine ls_iconst 1 f_257_6 (by decide) ?_
  refine ls_isub ((lm_i h 92 55) - 1) f_257_7 rfl ?_
  refine ls_invS f_257_8 q_257_115 [.int x1, .int 0, .int ((lm_i h 92 55) - 1)] [] rfl (Nat.le_of_ble_eq_true rfl) ?_
  refine ls_enter [some (.int x1), some (.int 0), some (.int ((lm_i h 92 55) - 1))] ml_152 (Nat.le_of_ble_eq_true rfl) rfl ?_
  refine ls_iload_n f_152_0 rfl ?_
  refine ls_iload_n f_152_1 rfl ?_
  refine ls_icmp_lt 14 f_152_2 rfl hyp (fun _ hyp => ?_) (fun _ hyp => ?_)
  · refine ls_iconst 0 f_152_14 (by decide) ?_
    refine ls_zreturn f_152_15 rZ_152 (by decide) ?_
    show lm_W _ _ _ _ [.int 0] _ _
    refine ls_if_eq_T 37 f_257_11 rfl (by decide) ?_
    refine ls_iconst (-1) f_257_37 (by decide) ?_
    exact ls_ireturn f_257_38 rI_257 hyp
  · refine ls_iload_n f_152_5 rfl ?_
    refine ls_iload_n f_152_6 rfl ?_
    refine ls_icmp_gt 14 f_152_7 rfl hyp (fun _ hyp => ?_) (fun _ hyp => ?_)
    · refine ls_iconst 0 f_152_14 (by decide) ?_
      refine ls_zreturn f_152_15 rZ_152 (by decide) ?_
      show lm_W _ _ _ _ [.int 0] _ _
      refine ls_if_eq_T 37 f_257_11 rfl (by decide) ?_
      refine ls_iconst (-1) f_257_37 (by decide) ?_
      exact ls_ireturn f_257_38 rI_257 hyp
    · refine ls_iconst 1 f_152_10 (by decide) ?_
      refine ls_goto 15 f_152_11 rfl ?_
      refine ls_zreturn f_152_15 rZ_152 (by decide) ?_
      show lm_W _ _ _ _ [.int 1] _ _
      refine ls_if_eq_F 37 f_257_11 rfl (by decide) ?_
      refine ls_iload_n f_257_14 rfl ?_
      refine ls_iconst 0 f_257_15 (by decide) ?_
      refine ls_aload_n f_257_16 rfl ?_
      refine ls_getI f_257_17 p_257_424 hl S_92 ?_
      refine ls_iconst 1 f_257_20 (by decide) ?_
      refine ls_isub ((lm_i h 92 56) - 1) f_257_21 rfl ?_
      refine ls_invS f_257_22 q_257_115 [.int x2, .int 0, .int ((lm_i h 92 56) - 1)] [] rfl (Nat.le_of_ble_eq_true rfl) ?_
      refine ls_enter [some (.int x2), some (.int 0), some (.int ((lm_i h 92 56) - 1))] ml_152 (Nat.le_of_ble_eq_true rfl) rfl ?_
      refine ls_iload_n f_152_0 rfl ?_
      refine ls_iload_n f_152_1 rfl ?_
      refine ls_icmp_lt 14 f_152_2 rfl hyp (fun _ hyp => ?_) (fun _ hyp => ?_)
      · refine ls_iconst 0 f_152_14 (by decide) ?_
        refine ls_zreturn f_152_15 rZ_152 (by decide) ?_
        show lm_W _ _ _ _ [.int 0] _ _
        refine ls_if_eq_T 37 f_257_25 rfl (by decide) ?_
        refine ls_iconst (-1) f_257_37 (by decide) ?_
        exact ls_ireturn f_257_38 rI_257 hyp
      · refine ls_iload_n f_152_5 rfl ?_
        refine ls_iload_n f_152_6 rfl ?_
        refine ls_icmp_gt 14 f_152_7 rfl hyp (fun _ hyp => ?_) (fun _ hyp => ?_)
        · refine ls_iconst 0 f_152_14 (by decide) ?_
          refine ls_zreturn f_152_15 rZ_152 (by decide) ?_
          show lm_W _ _ _ _ [.int 0] _ _
          refine ls_if_eq_T 37 f_257_25 rfl (by decide) ?_
          refine ls_iconst (-1) f_257_37 (by decide) ?_
          exact ls_ireturn f_257_38 rI_257 hyp
        · refine ls_iconst 1 f_152_10 (by decide) ?_
          refine ls_goto 15 f_152_11 rfl ?_
          refine ls_zreturn f_152_15 rZ_152 (by decide) ?_
          show lm_W _ _ _ _ [.int 1] _ _
          refine ls_if_eq_F 37 f_257_25 rfl (by decide) ?_
          refine ls_iload_n f_257_28 rfl ?_
          refine ls_iconst 0 f_257_29 (by decide) ?_
          refine ls_iconst 1 f_257_30 (by decide) ?_
          refine ls_invS f_257_31 q_257_115 [.int x3, .int 0, .int 1] [] rfl (Nat.le_of_ble_eq_true rfl) ?_
          refine ls_enter [some (.int x3), some (.int 0), some (.int 1)] ml_152 (Nat.le_of_ble_eq_true rfl) rfl ?_
          refine ls_iload_n f_152_0 rfl ?_
          refine ls_iload_n f_152_1 rfl ?_
          refine ls_icmp_lt 14 f_152_2 rfl hyp (fun _ hyp => ?_) (fun _ hyp => ?_)
          · refine ls_iconst 0 f_152_14 (by decide) ?_
            refine ls_zreturn f_152_15 rZ_152 (by decide) ?_
            show lm_W _ _ _ _ [.int 0] _ _
            refine ls_if_ne_T 39 f_257_34 rfl (by decide) ?_
            refine ls_iconst (-1) f_257_37 (by decide) ?_
            exact ls_ireturn f_257_38 rI_257 hyp
          · refine ls_iload_n f_152_5 rfl ?_
            refine ls_iload_n f_152_6 rfl ?_
            refine ls_icmp_gt 14 f_152_7 rfl hyp (fun _ hyp => ?_) (fun _ hyp => ?_)
            · refine ls_iconst 0 f_152_14 (by decide) ?_
              refine ls_zreturn f_152_15 rZ_152 (by decide) ?_
              show lm_W _ _ _ _ [.int 0] _ _
              refine ls_if_ne_T 39 f_257_34 rfl (by decide) ?_
              refine ls_iconst (-1) f_257_37 (by decide) ?_
              exact ls_ireturn f_257_38 rI_257 hyp
            · refine ls_iconst 1 f_152_10 (by decide) ?_
              refine ls_goto 15 f_152_11 rfl ?_
              refine ls_zreturn f_152_15 rZ_152 (by decide) ?_
              show lm_W _ _ _ _ [.int 1] _ _
              refine ls_if_ne_F 39 f_257_34 rfl (by decide) ?_
              refine ls_iload_n f_257_39 rfl ?_
              refine ls_if_ne 56 f_257_40 rfl hyp (fun _ hyp => ?_) (fun _ hyp => ?_)
              · refine ls_aload_n f_257_43 rfl ?_
                refine ls_getR f_257_44 p_257_103 hl S_92 F_92_51 ?_
                refine ls_iconst 5 f_257_47 (by decide) ?_
                refine ls_iload_n f_257_48 rfl ?_
                refine ls_imul (5 * x1) f_257_49 rfl ?_
                refine ls_iload_n f_257_50 rfl ?_
                refine ls_iadd ((5 * x1) + x2) f_257_51 rfl ?_
                refine ls_iald f_257_52 hl S_115 hyp (fun hyp => ?_)
                refine ls_goto 66 f_257_53 rfl ?_
                exact ls_ireturn f_257_66 rI_257 hyp
              · refine ls_aload_n f_257_56 rfl ?_
                refine ls_getR f_257_57 p_257_106 hl S_92 F_92_52 ?_
                refine ls_iconst 5 f_257_60 (by decide) ?_
                refine ls_iload_n f_257_61 rfl ?_
                refine ls_imul (5 * x1) f_257_62 rfl ?_
                refine ls_iload_n f_257_63 rfl ?_
                refine ls_iadd ((5 * x1) + x2) f_257_64 rfl ?_
                refine ls_iald f_257_65 hl S_116 hyp (fun hyp => ?_)
                exact ls_ireturn f_257_66 rI_257 hyp
theorem e_258 {d : Nat} {h : lm_H} {K : Int32 → lm_H → Prop} (x1 : Int32) (hl : lm_Lay h) (hyp : (if (lm_i h 92 55) = 0 then (K (-1000000) h) else (if x1 < 0 then (K (-1000000) h) else (if ((lm_i h 92 56) - 1) < x1 then (K (-1000000) h) else (lm_W (d + 1) 258 28 [some (.ref 92), some (.int x1), some (.int 0), some (.int 0)] [] h (lm_kI K)))))) : lm_call (d + 2) 258 [.ref 92, .int x1] h (lm_kI K) := by
  refine ls_enter [some (.ref 92), some (.int x1), none, none] ml_258 (Nat.le_of_ble_eq_true rfl) rfl ?_
  refine ls_aload_n f_258_0 rfl ?_
  refine ls_getI f_258_1 p_258_421 hl S_92 ?_
  refine ls_if_eq 21 f_258_4 rfl hyp (fun _ hyp => ?_) (fun _ hyp => ?_)
  · refine ls_ldc f_258_21 k_258_15 ?_
    exact ls_ireturn f_258_23 rI_258 hyp
  · refine ls_iload_n f_258_7 rfl ?_
    refine ls_iconst 0 f_258_8 (by decide) ?_
    refine ls_aload_n f_258_9 rfl ?_
    refine ls_getI f_258_10 p_258_424 hl S_92 ?_
    refine ls_iconst 1 f_258_13 (by decide) ?_
    refine ls_isub ((lm_i h 92 56) - 1) f_258_14 rfl ?_
    refine ls_invS f_258_15 q_258_115 [.int x1, .int 0, .int ((lm_i h 92 56) - 1)] [] rfl (Nat.le_of_ble_eq_true rfl) ?_
    refine ls_enter [some (.int x1), some (.int 0), some (.int ((lm_i h 92 56) - 1))] ml_152 (Nat.le_of_ble_eq_true rfl) rfl ?_
    refine ls_iload_n f_152_0 rfl ?_
    refine ls_iload_n f_152_1 rfl ?_
    refine ls_icmp_lt 14 f_152_2 rfl hyp (fun _ hyp => ?_) (fun _ hyp => ?_)
    · refine ls_iconst 0 f_152_14 (by decide) ?_
      refine ls_zreturn f_152_15 rZ_152 (by decide) ?_
      show lm_W _ _ _ _ [.int 0] _ _
      refine ls_if_ne_T 24 f_258_18 rfl (by decide) ?_
      refine ls_ldc f_258_21 k_258_15 ?_
      exact ls_ireturn f_258_23 rI_258 hyp
    · refine ls_iload_n f_152_5 rfl ?_
      refine ls_iload_n f_152_6 rfl ?_
      refine ls_icmp_gt 14 f_152_7 rfl hyp (fun _ hyp => ?_) (fun _ hyp => ?_)
      · refine ls_iconst 0 f_152_14 (by decide) ?_
        refine ls_zreturn f_152_15 rZ_152 (by decide) ?_
        show lm_W _ _ _ _ [.int 0] _ _
        refine ls_if_ne_T 24 f_258_18 rfl (by decide) ?_
        refine ls_ldc f_258_21 k_258_15 ?_
        exact ls_ireturn f_258_23 rI_258 hyp
      · refine ls_iconst 1 f_152_10 (by decide) ?_
        refine ls_goto 15 f_152_11 rfl ?_
        refine ls_zreturn f_152_15 rZ_152 (by decide) ?_
        show lm_W _ _ _ _ [.int 1] _ _
        refine ls_if_ne_F 24 f_258_18 rfl (by decide) ?_
        refine ls_iconst 0 f_258_24 (by decide) ?_
        refine ls_istore_n [some (.ref 92), some (.int x1), some (.int 0), none] f_258_25 (Nat.le_of_ble_eq_true rfl) rfl ?_
        refine ls_iconst 0 f_258_26 (by decide) ?_
        refine ls_istore_n [some (.ref 92), some (.int x1), some (.int 0), some (.int 0)] f_258_27 (Nat.le_of_ble_eq_true rfl) rfl ?_
        exact hyp
theorem b_258_28 {d : Nat} {h : lm_H} {K : Int32 → lm_H → Prop} (x1 : Int32) (x2 : Int32) (x3 : Int32) (hl : lm_Lay h) (hyp : (if x3 < (lm_i h 92 55) then (lm_in ((5 * x3) + x1) 200 False (lm_W (d + 1) 258 28 [some (.ref 92), some (.int x1), some (.int (x2 + (lm_i h 117 (((5 * x3) + x1).toNatClampNeg)))), some (.int (x3 + 1))] [] h (lm_kI K))) else (K x2 h))) : lm_W (d + 1) 258 28 [some (.ref 92), some (.int x1), some (.int x2), some (.int x3)] [] h (lm_kI K) := by
  refine ls_iload_n f_258_28 rfl ?_
  refine ls_aload_n f_258_29 rfl ?_
  refine ls_getI f_258_30 p_258_421 hl S_92 ?_
  refine ls_icmp_ge 55 f_258_33 rfl hyp (fun _ hyp => ?_) (fun _ hyp => ?_)
  · refine ls_iload_n f_258_36 rfl ?_
    refine ls_aload_n f_258_37 rfl ?_
    refine ls_getR f_258_38 p_258_109 hl S_92 F_92_53 ?_
    refine ls_iconst 5 f_258_41 (by decide) ?_
    refine ls_iload_n f_258_42 rfl ?_
    refine ls_imul (5 * x3) f_258_43 rfl ?_
    refine ls_iload_n f_258_44 rfl ?_
    refine ls_iadd ((5 * x3) + x1) f_258_45 rfl ?_
    refine ls_iald f_258_46 hl S_117 hyp (fun hyp => ?_)
    refine ls_iadd (x2 + (lm_i h 117 (((5 * x3) + x1).toNatClampNeg))) f_258_47 rfl ?_
    refine ls_istore_n [some (.ref 92), some (.int x1), some (.int (x2 + (lm_i h 117 (((5 * x3) + x1).toNatClampNeg)))), some (.int x3)] f_258_48 (Nat.le_of_ble_eq_true rfl) rfl ?_
    refine ls_iinc (x3 + 1) [some (.ref 92), some (.int x1), some (.int (x2 + (lm_i h 117 (((5 * x3) + x1).toNatClampNeg)))), some (.int (x3 + 1))] f_258_49 rfl (Nat.le_of_ble_eq_true rfl) rfl rfl ?_
    refine ls_goto 28 f_258_52 rfl ?_
    exact hyp
  · refine ls_iload_n f_258_55 rfl ?_
    exact ls_ireturn f_258_56 rI_258 hyp
theorem e_259 {d : Nat} {h : lm_H} {K : Int32 → lm_H → Prop} (hl : lm_Lay h) (hyp : (if 0 < ((lm_i h 92 55) - 1) then (lm_W (d) 259 17 [some (.ref 92), some (.int ((lm_i h 92 55) - 1)), some (.int 1), none] [] h (lm_kI K)) else (lm_W (d) 259 17 [some (.ref 92), some (.int ((lm_i h 92 55) - 1)), some (.int 0), none] [] h (lm_kI K)))) : lm_call (d + 1) 259 [.ref 92] h (lm_kI K) := by
  refine ls_enter [some (.ref 92), none, none, none] ml_259 (Nat.le_of_ble_eq_true rfl) rfl ?_
  refine ls_aload_n f_259_0 rfl ?_
  refine ls_getI f_259_1 p_259_421 hl S_92 ?_
  refine ls_iconst 1 f_259_4 (by decide) ?_
  refine ls_isub ((lm_i h 92 55) - 1) f_259_5 rfl ?_
  refine ls_istore_n [some (.ref 92), some (.int ((lm_i h 92 55) - 1)), none, none] f_259_6 (Nat.le_of_ble_eq_true rfl) rfl ?_
  refine ls_iload_n f_259_7 rfl ?_
  refine ls_if_le 15 f_259_8 rfl hyp (fun _ hyp => ?_) (fun _ hyp => ?_)
  · refine ls_iconst 1 f_259_11 (by decide) ?_
    refine ls_goto 16 f_259_12 rfl ?_
    refine ls_istore_n [some (.ref 92), some (.int ((lm_i h 92 55) - 1)), some (.int 1), none] f_259_16 (Nat.le_of_ble_eq_true rfl) rfl ?_
    exact hyp
  · refine ls_iconst 0 f_259_15 (by decide) ?_
    refine ls_istore_n [some (.ref 92), some (.int ((lm_i h 92 55) - 1)), some (.int 0), none] f_259_16 (Nat.le_of_ble_eq_true rfl) rfl ?_
    exact hyp
theorem b_259_17 {d : Nat} {h : lm_H} {K : Int32 → lm_H → Prop} (x1 : Int32) (x2 : Int32) (hl : lm_Lay h) (hyp : (if x2 = 0 then (K x1 h) else (lm_W (d) 259 23 [some (.ref 92), some (.int x1), some (.int x2), some (.int 0)] [] h (lm_kI K)))) : lm_W (d) 259 17 [some (.ref 92), some (.int x1), some (.int x2), none] [] h (lm_kI K) := by
  refine ls_iload_n f_259_17 rfl ?_
  refine ls_if_eq 96 f_259_18 rfl hyp (fun _ hyp => ?_) (fun _ hyp => ?_)
  · refine ls_iload_n f_259_96 rfl ?_
    exact ls_ireturn f_259_97 rI_259 hyp
  · refine ls_iconst 0 f_259_21 (by decide) ?_
    refine ls_istore_n [some (.ref 92), some (.int x1), some (.int x2), some (.int 0)] f_259_22 (Nat.le_of_ble_eq_true rfl) rfl ?_
    exact hyp
theorem b_259_23 {d : Nat} {h : lm_H} {K : Int32 → lm_H → Prop} (x1 : Int32) (x2 : Int32) (x3 : Int32) (hl : lm_Lay h) (hyp : (if x3 < (lm_i h 92 56) then (if x2 = 0 then (lm_W (d) 259 23 [some (.ref 92), some (.int x1), some (.int 0), some (.int (x3 + 1))] [] h (lm_kI K)) else (lm_in ((5 * x1) + x3) 200 False (lm_in ((5 * (x1 - 1)) + x3) 200 False (if (lm_i h 115 (((5 * x1) + x3).toNatClampNeg)) = (lm_i h 115 (((5 * (x1 - 1)) + x3).toNatClampNeg)) then (lm_W (d) 259 23 [some (.ref 92), some (.int x1), some (.int 1), some (.int (x3 + 1))] [] h (lm_kI K)) else (lm_W (d) 259 23 [some (.ref 92), some (.int x1), some (.int 0), some (.int (x3 + 1))] [] h (lm_kI K)))))) else (if x2 = 0 then (if x2 = 0 then (lm_W (d) 259 17 [some (.ref 92), some (.int x1), some (.int 0), none] [] h (lm_kI K)) else (if 0 < x1 then (lm_W (d) 259 17 [some (.ref 92), some (.int x1), some (.int 1), none] [] h (lm_kI K)) else (lm_W (d) 259 17 [some (.ref 92), some (.int x1), some (.int 0), none] [] h (lm_kI K)))) else (if x2 = 0 then (lm_W (d) 259 17 [some (.ref 92), some (.int (x1 - 1)), some (.int 0), none] [] h (lm_kI K)) else (if 0 < (x1 - 1) then (lm_W (d) 259 17 [some (.ref 92), some (.int (x1 - 1)), some (.int 1), none] [] h (lm_kI K)) else (lm_W (d) 259 17 [some (.ref 92), some (.int (x1 - 1)), some (.int 0), none] [] h (lm_kI K))))))) : lm_W (d) 259 23 [some (.ref 92), some (.int x1), some (.int x2), some (.int x3)] [] h (lm_kI K) := by
  refine ls_iload_n f_259_23 rfl ?_
  refine ls_aload_n f_259_24 rfl ?_
  refine ls_getI f_259_25 p_259_424 hl S_92 ?_
  refine ls_icmp_ge 72 f_259_28 rfl hyp (fun _ hyp => ?_) (fun _ hyp => ?_)
  · refine ls_iload_n f_259_31 rfl ?_
    refine ls_if_eq 64 f_259_32 rfl hyp (fun _ hyp => ?_) (fun _ hyp => ?_)
    · refine ls_iconst 0 f_259_64 (by decide) ?_
      refine ls_istore_n [some (.ref 92), some (.int x1), some (.int 0), some (.int x3)] f_259_65 (Nat.le_of_ble_eq_true rfl) rfl ?_
      refine ls_iinc (x3 + 1) [some (.ref 92), some (.int x1), some (.int 0), some (.int (x3 + 1))] f_259_66 rfl (Nat.le_of_ble_eq_true rfl) rfl rfl ?_
      refine ls_goto 23 f_259_69 rfl ?_
      exact hyp
    · refine ls_aload_n f_259_35 rfl ?_
      refine ls_getR f_259_36 p_259_103 hl S_92 F_92_51 ?_
      refine ls_iconst 5 f_259_39 (by decide) ?_
      refine ls_iload_n f_259_40 rfl ?_
      refine ls_imul (5 * x1) f_259_41 rfl ?_
      refine ls_iload_n f_259_42 rfl ?_
      refine ls_iadd ((5 * x1) + x3) f_259_43 rfl ?_
      refine ls_iald f_259_44 hl S_115 hyp (fun hyp => ?_)
      refine ls_aload_n f_259_45 rfl ?_
      refine ls_getR f_259_46 p_259_103 hl S_92 F_92_51 ?_
      refine ls_iconst 5 f_259_49 (by decide) ?_
      refine ls_iload_n f_259_50 rfl ?_
      refine ls_iconst 1 f_259_51 (by decide) ?_
      refine ls_isub (x1 - 1) f_259_52 rfl ?_
      refine ls_imul (5 * (x1 - 1)) f_259_53 rfl ?_
      refine ls_iload_n f_259_54 rfl ?_
      refine ls_iadd ((5 * (x1 - 1)) + x3) f_259_55 rfl ?_
      refine ls_iald f_259_56 hl S_115 hyp (fun hyp => ?_)
      refine ls_icmp_ne 64 f_259_57 rfl hyp (fun _ hyp => ?_) (fun _ hyp => ?_)
      · refine ls_iconst 1 f_259_60 (by decide) ?_
        refine ls_goto 65 f_259_61 rfl ?_
        refine ls_istore_n [some (.ref 92), some (.int x1), some (.int 1), some (.int x3)] f_259_65 (Nat.le_of_ble_eq_true rfl) rfl ?_
        refine ls_iinc (x3 + 1) [some (.ref 92), some (.int x1), some (.int 1), some (.int (x3 + 1))] f_259_66 rfl (Nat.le_of_ble_eq_true rfl) rfl rfl ?_
        refine ls_goto 23 f_259_69 rfl ?_
        exact hyp
      · refine ls_iconst 0 f_259_64 (by decide) ?_
        refine ls_istore_n [some (.ref 92), some (.int x1), some (.int 0), some (.int x3)] f_259_65 (Nat.le_of_ble_eq_true rfl) rfl ?_
        refine ls_iinc (x3 + 1) [some (.ref 92), some (.int x1), some (.int 0), some (.int (x3 + 1))] f_259_66 rfl (Nat.le_of_ble_eq_true rfl) rfl rfl ?_
        refine ls_goto 23 f_259_69 rfl ?_
        exact hyp
  · refine ls_iload_n f_259_72 rfl ?_
    refine ls_if_eq 79 f_259_73 rfl hyp (fun _ hyp => ?_) (fun _ hyp => ?_)
    · refine ls_iload_n f_259_79 rfl ?_
      refine ls_if_eq 91 f_259_80 rfl hyp (fun _ hyp => ?_) (fun _ hyp => ?_)
      · refine ls_iconst 0 f_259_91 (by decide) ?_
        refine ls_istore_n [some (.ref 92), some (.int x1), some (.int 0), some (.int x3)] f_259_92 (Nat.le_of_ble_eq_true rfl) rfl ?_
        refine ls_goto 17 f_259_93 rfl ?_
        exact ls_mask [true, true, true, false] [some (.ref 92), some (.int x1), some (.int 0), none] rfl hyp
      · refine ls_iload_n f_259_83 rfl ?_
        refine ls_if_le 91 f_259_84 rfl hyp (fun _ hyp => ?_) (fun _ hyp => ?_)
        · refine ls_iconst 1 f_259_87 (by decide) ?_
          refine ls_goto 92 f_259_88 rfl ?_
          refine ls_istore_n [some (.ref 92), some (.int x1), some (.int 1), some (.int x3)] f_259_92 (Nat.le_of_ble_eq_true rfl) rfl ?_
          refine ls_goto 17 f_259_93 rfl ?_
          exact ls_mask [true, true, true, false] [some (.ref 92), some (.int x1), some (.int 1), none] rfl hyp
        · refine ls_iconst 0 f_259_91 (by decide) ?_
          refine ls_istore_n [some (.ref 92), some (.int x1), some (.int 0), some (.int x3)] f_259_92 (Nat.le_of_ble_eq_true rfl) rfl ?_
          refine ls_goto 17 f_259_93 rfl ?_
          exact ls_mask [true, true, true, false] [some (.ref 92), some (.int x1), some (.int 0), none] rfl hyp
    · refine ls_iinc (x1 - 1) [some (.ref 92), some (.int (x1 - 1)), some (.int x2), some (.int x3)] f_259_76 rfl (Nat.le_of_ble_eq_true rfl) (lm_m1 _) rfl ?_
      refine ls_iload_n f_259_79 rfl ?_
      refine ls_if_eq 91 f_259_80 rfl hyp (fun _ hyp => ?_) (fun _ hyp => ?_)
      · refine ls_iconst 0 f_259_91 (by decide) ?_
        refine ls_istore_n [some (.ref 92), some (.int (x1 - 1)), some (.int 0), some (.int x3)] f_259_92 (Nat.le_of_ble_eq_true rfl) rfl ?_
        refine ls_goto 17 f_259_93 rfl ?_
        exact ls_mask [true, true, true, false] [some (.ref 92), some (.int (x1 - 1)), some (.int 0), none] rfl hyp
      · refine ls_iload_n f_259_83 rfl ?_
        refine ls_if_le 91 f_259_84 rfl hyp (fun _ hyp => ?_) (fun _ hyp => ?_)
        · refine ls_iconst 1 f_259_87 (by decide) ?_
          refine ls_goto 92 f_259_88 rfl ?_
          refine ls_istore_n [some (.ref 92), some (.int (x1 - 1)), some (.int 1), some (.int x3)] f_259_92 (Nat.le_of_ble_eq_true rfl) rfl ?_
          refine ls_goto 17 f_259_93 rfl ?_
          exact ls_mask [true, true, true, false] [some (.ref 92), some (.int (x1 - 1)), some (.int 1), none] rfl hyp
        · refine ls_iconst 0 f_259_91 (by decide) ?_
          refine ls_istore_n [some (.ref 92), some (.int (x1 - 1)), some (.int 0), some (.int x3)] f_259_92 (Nat.le_of_ble_eq_true rfl) rfl ?_
          refine ls_goto 17 f_259_93 rfl ?_
          exact ls_mask [true, true, true, false] [some (.ref 92), some (.int (x1 - 1)), some (.int 0), none] rfl hyp
theorem e_260 {d : Nat} {h : lm_H} {K : Int32 → lm_H → Prop} (x1 : Int32) (hl : lm_Lay h) (hyp : (if x1 = 0 then (K (lm_i h 94 81) h) else (if x1 = 1 then (K (lm_i h 94 82) h) else (if x1 = 2 then (K (lm_i h 94 85) h) else (if x1 = 3 then (K (lm_i h 92 10) h) else (if x1 = 4 then (lm_in (x1 - 3) 7 False (K (lm_i h 93 ((x1 - 3).toNatClampNeg)) h)) else (if x1 = 5 then (lm_in (x1 - 3) 7 False (K (lm_i h 93 ((x1 - 3).toNatClampNeg)) h)) else (if x1 = 6 then (lm_in (x1 - 3) 7 False (K (lm_i h 93 ((x1 - 3).toNatClampNeg)) h)) else (if x1 = 7 then (K (lm_i h 93 5) h) else (if x1 = 8 then (K (lm_i h 93 6) h) else (if x1 = 9 then (K (lm_i h 94 86) h) else (if x1 = 10 then (K (lm_i h 94 83) h) else (K (-1) h))))))))))))) : lm_call (d + 2) 260 [.ref 92, .int x1] h (lm_kI K) := by
  refine ls_enter [some (.ref 92), some (.int x1)] ml_260 (Nat.le_of_ble_eq_true rfl) rfl ?_
  refine ls_iload_n f_260_0 rfl ?_
  refine ls_table f_260_1 (by decide) ?_
  refine ls_swC (v := 0) (by decide) hyp (fun _ hyp => lm_tg_of (t := 60) rfl ?_) (fun _ hyp => ?_)
  · refine ls_aload_n f_260_60 rfl ?_
    refine ls_invV (a := 92) f_260_61 q_260_122 [] [] rfl (Nat.le_of_ble_eq_true rfl) hl S_92 ow_160 ?_
    refine ls_enter [some (.ref 92)] ml_160 (Nat.le_of_ble_eq_true rfl) rfl ?_
    refine ls_aload_n f_160_0 rfl ?_
    refine ls_getR f_160_1 p_160_25 hl S_92 F_92_3 ?_
    refine ls_bipush 81 f_160_4 (by decide) ?_
    refine ls_ialdC 81 f_160_6 hl S_94 ⟨by decide, by decide, by decide⟩ ?_
    refine ls_ireturn f_160_7 rI_160 ?_
    show lm_W _ _ _ _ [.int (lm_i h 94 81)] _ _
    exact ls_ireturn f_260_64 rI_260 hyp
  refine ls_swC (v := 1) (by decide) hyp (fun _ hyp => lm_tg_of (t := 65) rfl ?_) (fun _ hyp => ?_)
  · refine ls_aload_n f_260_65 rfl ?_
    refine ls_invV (a := 92) f_260_66 q_260_126 [] [] rfl (Nat.le_of_ble_eq_true rfl) hl S_92 ow_161 ?_
    refine ls_enter [some (.ref 92)] ml_161 (Nat.le_of_ble_eq_true rfl) rfl ?_
    refine ls_aload_n f_161_0 rfl ?_
    refine ls_getR f_161_1 p_161_25 hl S_92 F_92_3 ?_
    refine ls_bipush 82 f_161_4 (by decide) ?_
    refine ls_ialdC 82 f_161_6 hl S_94 ⟨by decide, by decide, by decide⟩ ?_
    refine ls_ireturn f_161_7 rI_161 ?_
    show lm_W _ _ _ _ [.int (lm_i h 94 82)] _ _
    exact ls_ireturn f_260_69 rI_260 hyp
  refine ls_swC (v := 2) (by decide) hyp (fun _ hyp => lm_tg_of (t := 70) rfl ?_) (fun _ hyp => ?_)
  · refine ls_aload_n f_260_70 rfl ?_
    refine ls_getR f_260_71 p_260_25 hl S_92 F_92_3 ?_
    refine ls_bipush 85 f_260_74 (by decide) ?_
    refine ls_ialdC 85 f_260_76 hl S_94 ⟨by decide, by decide, by decide⟩ ?_
    exact ls_ireturn f_260_77 rI_260 hyp
  refine ls_swC (v := 3) (by decide) hyp (fun _ hyp => lm_tg_of (t := 78) rfl ?_) (fun _ hyp => ?_)
  · refine ls_aload_n f_260_78 rfl ?_
    refine ls_getI f_260_79 p_260_139 hl S_92 ?_
    exact ls_ireturn f_260_82 rI_260 hyp
  refine ls_swC (v := 4) (by decide) hyp (fun _ hyp => lm_tg_of (t := 83) rfl ?_) (fun _ hyp => ?_)
  · refine ls_aload_n f_260_83 rfl ?_
    refine ls_getR f_260_84 p_260_7 hl S_92 F_92_2 ?_
    refine ls_iload_n f_260_87 rfl ?_
    refine ls_iconst 3 f_260_88 (by decide) ?_
    refine ls_isub (x1 - 3) f_260_89 rfl ?_
    refine ls_iald f_260_90 hl S_93 hyp (fun hyp => ?_)
    exact ls_ireturn f_260_91 rI_260 hyp
  refine ls_swC (v := 5) (by decide) hyp (fun _ hyp => lm_tg_of (t := 83) rfl ?_) (fun _ hyp => ?_)
  · refine ls_aload_n f_260_83 rfl ?_
    refine ls_getR f_260_84 p_260_7 hl S_92 F_92_2 ?_
    refine ls_iload_n f_260_87 rfl ?_
    refine ls_iconst 3 f_260_88 (by decide) ?_
    refine ls_isub (x1 - 3) f_260_89 rfl ?_
    refine ls_iald f_260_90 hl S_93 hyp (fun hyp => ?_)
    exact ls_ireturn f_260_91 rI_260 hyp
  refine ls_swC (v := 6) (by decide) hyp (fun _ hyp => lm_tg_of (t := 83) rfl ?_) (fun _ hyp => ?_)
  · refine ls_aload_n f_260_83 rfl ?_
    refine ls_getR f_260_84 p_260_7 hl S_92 F_92_2 ?_
    refine ls_iload_n f_260_87 rfl ?_
    refine ls_iconst 3 f_260_88 (by decide) ?_
    refine ls_isub (x1 - 3) f_260_89 rfl ?_
    refine ls_iald f_260_90 hl S_93 hyp (fun hyp => ?_)
    exact ls_ireturn f_260_91 rI_260 hyp
  refine ls_swC (v := 7) (by decide) hyp (fun _ hyp => lm_tg_of (t := 92) rfl ?_) (fun _ hyp => ?_)
  · refine ls_aload_n f_260_92 rfl ?_
    refine ls_getR f_260_93 p_260_7 hl S_92 F_92_2 ?_
    refine ls_iconst 5 f_260_96 (by decide) ?_
    refine ls_ialdC 5 f_260_97 hl S_93 ⟨by decide, by decide, by decide⟩ ?_
    exact ls_ireturn f_260_98 rI_260 hyp
  refine ls_swC (v := 8) (by decide) hyp (fun _ hyp => lm_tg_of (t := 99) rfl ?_) (fun _ hyp => ?_)
  · refine ls_aload_n f_260_99 rfl ?_
    refine ls_getR f_260_100 p_260_7 hl S_92 F_92_2 ?_
    refine ls_bipush 6 f_260_103 (by decide) ?_
    refine ls_ialdC 6 f_260_105 hl S_93 ⟨by decide, by decide, by decide⟩ ?_
    exact ls_ireturn f_260_106 rI_260 hyp
  refine ls_swC (v := 9) (by decide) hyp (fun _ hyp => lm_tg_of (t := 107) rfl ?_) (fun _ hyp => ?_)
  · refine ls_aload_n f_260_107 rfl ?_
    refine ls_getR f_260_108 p_260_25 hl S_92 F_92_3 ?_
    refine ls_bipush 86 f_260_111 (by decide) ?_
    refine ls_ialdC 86 f_260_113 hl S_94 ⟨by decide, by decide, by decide⟩ ?_
    exact ls_ireturn f_260_114 rI_260 hyp
  refine ls_swC (v := 10) (by decide) hyp (fun _ hyp => lm_tg_of (t := 115) rfl ?_) (fun _ hyp => ?_)
  · refine ls_aload_n f_260_115 rfl ?_
    refine ls_getR f_260_116 p_260_25 hl S_92 F_92_3 ?_
    refine ls_bipush 83 f_260_119 (by decide) ?_
    refine ls_ialdC 83 f_260_121 hl S_94 ⟨by decide, by decide, by decide⟩ ?_
    exact ls_ireturn f_260_122 rI_260 hyp
  refine ls_swD ?_
  refine lm_tg_of (t := 123) rfl ?_
  refine ls_iconst (-1) f_260_123 (by decide) ?_
  exact ls_ireturn f_260_124 rI_260 hyp
theorem e_261 {d : Nat} {h : lm_H} {K : Int32 → lm_H → Prop} (hl : lm_Lay h) (hyp : K (lm_i h 92 0) h) : lm_call (d + 1) 261 [.ref 92] h (lm_kI K) := by
  refine ls_enter [some (.ref 92)] ml_261 (Nat.le_of_ble_eq_true rfl) rfl ?_
  refine ls_aload_n f_261_0 rfl ?_
  refine ls_getI f_261_1 p_261_3 hl S_92 ?_
  exact ls_ireturn f_261_4 rI_261 hyp
