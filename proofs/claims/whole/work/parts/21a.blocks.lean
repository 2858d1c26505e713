theorem e_1 {d : Nat} {h : lm_H} {K : lm_H → Prop} (hl : lm_Lay h) (hyp : lm_W (d + 1) 1 2 [some (.ref 52), some (.ref 21), some (.ref 1), some (.int 0), none] [] h (lm_kV K)) : lm_call (d + 2) 1 [.ref 52, .ref 21, .ref 1] h (lm_kV K) := by
  refine ls_enter [some (.ref 52), some (.ref 21), some (.ref 1), none, none] ml_1 (Nat.le_of_ble_eq_true rfl) rfl ?_
  refine ls_iconst 0 f_1_0 (by decide) ?_
  refine ls_istore_n [some (.ref 52), some (.ref 21), some (.ref 1), some (.int 0), none] f_1_1 (Nat.le_of_ble_eq_true rfl) rfl ?_
  exact hyp
theorem b_1_2 {d : Nat} {h : lm_H} {K : lm_H → Prop} (x3 : Int32) (hl : lm_Lay h) (hyp : (if x3 < (lm_i h 21 0) then (lm_W (d + 1) 1 13 [some (.ref 52), some (.ref 21), some (.ref 1), some (.int x3), some (.int 0)] [] h (lm_kV K)) else (K h))) : lm_W (d + 1) 1 2 [some (.ref 52), some (.ref 21), some (.ref 1), some (.int x3), none] [] h (lm_kV K) := by
  refine ls_iload_n f_1_2 rfl ?_
  refine ls_aload_n f_1_3 rfl ?_
  refine ls_getI f_1_4 p_1_28 hl S_21 ?_
  refine ls_icmp_ge 74 f_1_7 rfl hyp (fun _ hyp => ?_) (fun _ hyp => ?_)
  · refine ls_iconst 0 f_1_10 (by decide) ?_
    refine ls_istore [some (.ref 52), some (.ref 21), some (.ref 1), some (.int x3), some (.int 0)] f_1_11 (Nat.le_of_ble_eq_true rfl) rfl ?_
    exact hyp
  · exact ls_return f_1_74 rV_1 hyp
theorem b_1_13 {d : Nat} {h : lm_H} {K : lm_H → Prop} (x3 : Int32) (x4 : Int32) (hl : lm_Lay h) (hyp : (if x4 < (lm_i h 21 1) then (lm_in ((x3 * 7) + x4) 35 False (if (lm_i h 23 (((x3 * 7) + x4).toNatClampNeg)) = 0 then (lm_in ((x3 * 6) + x4) 30 False (lm_in ((x3 * 6) + x4) 30 False (lm_W (d + 1) 1 13 [some (.ref 52), some (.ref 21), some (.ref 1), some (.int x3), some (.int (x4 + 1))] [] (lm_si h 53 (((x3 * 6) + x4).toNatClampNeg) (lm_i h 6 (((x3 * 6) + x4).toNatClampNeg))) (lm_kV K)))) else (lm_in ((x3 * 6) + x4) 30 False (lm_W (d + 1) 1 13 [some (.ref 52), some (.ref 21), some (.ref 1), some (.int x3), some (.int (x4 + 1))] [] (lm_si h 53 (((x3 * 6) + x4).toNatClampNeg) 0) (lm_kV K))))) else (lm_W (d + 1) 1 2 [some (.ref 52), some (.ref 21), some (.ref 1), some (.int (x3 + 1)), none] [] h (lm_kV K)))) : lm_W (d + 1) 1 13 [some (.ref 52), some (.ref 21), some (.ref 1), some (.int x3), some (.int x4)] [] h (lm_kV K) := by
  refine ls_iload f_1_13 rfl ?_
  refine ls_aload_n f_1_15 rfl ?_
  refine ls_getI f_1_16 p_1_34 hl S_21 ?_
  refine ls_icmp_ge 68 f_1_19 rfl hyp (fun _ hyp => ?_) (fun _ hyp => ?_)
  · refine ls_aload_n f_1_22 rfl ?_
    refine ls_getR f_1_23 p_1_9 hl S_52 F_52_0 ?_
    refine ls_iload_n f_1_26 rfl ?_
    refine ls_iload f_1_27 rfl ?_
    refine ls_invS f_1_29 q_1_37 [.int x3, .int x4] [.ref 53] rfl (Nat.le_of_ble_eq_true rfl) ?_
    refine ls_enter [some (.int x3), some (.int x4)] ml_147 (Nat.le_of_ble_eq_true rfl) rfl ?_
    refine ls_iload_n f_147_0 rfl ?_
    refine ls_bipush 6 f_147_1 (by decide) ?_
    refine ls_imul (x3 * 6) f_147_3 rfl ?_
    refine ls_iload_n f_147_4 rfl ?_
    refine ls_iadd ((x3 * 6) + x4) f_147_5 rfl ?_
    refine ls_ireturn f_147_6 rI_147 ?_
    show lm_W _ _ _ _ [.int ((x3 * 6) + x4), .ref 53] _ _
    refine ls_aload_n f_1_32 rfl ?_
    refine ls_getR f_1_33 p_1_41 hl S_21 F_21_5 ?_
    refine ls_iload_n f_1_36 rfl ?_
    refine ls_iload f_1_37 rfl ?_
    refine ls_invS f_1_39 q_1_45 [.int x3, .int x4] [.ref 23, .int ((x3 * 6) + x4), .ref 53] rfl (Nat.le_of_ble_eq_true rfl) ?_
    refine ls_enter [some (.int x3), some (.int x4)] ml_148 (Nat.le_of_ble_eq_true rfl) rfl ?_
    refine ls_iload_n f_148_0 rfl ?_
    refine ls_bipush 7 f_148_1 (by decide) ?_
    refine ls_imul (x3 * 7) f_148_3 rfl ?_
    refine ls_iload_n f_148_4 rfl ?_
    refine ls_iadd ((x3 * 7) + x4) f_148_5 rfl ?_
    refine ls_ireturn f_148_6 rI_148 ?_
    show lm_W _ _ _ _ [.int ((x3 * 7) + x4), .ref 23, .int ((x3 * 6) + x4), .ref 53] _ _
    refine ls_zald f_1_42 hl S_23 hyp (fun hyp => ?_)
    refine ls_if_eq 50 f_1_43 rfl hyp (fun _ hyp => ?_) (fun _ hyp => ?_)
    · refine ls_aload_n f_1_50 rfl ?_
      refine ls_getR f_1_51 p_1_48 hl S_1 F_1_10 ?_
      refine ls_iload_n f_1_54 rfl ?_
      refine ls_iload f_1_55 rfl ?_
      refine ls_invS f_1_57 q_1_37 [.int x3, .int x4] [.ref 6, .int ((x3 * 6) + x4), .ref 53] rfl (Nat.le_of_ble_eq_true rfl) ?_
      refine ls_enter [some (.int x3), some (.int x4)] ml_147 (Nat.le_of_ble_eq_true rfl) rfl ?_
      refine ls_iload_n f_147_0 rfl ?_
      refine ls_bipush 6 f_147_1 (by decide) ?_
      refine ls_imul (x3 * 6) f_147_3 rfl ?_
      refine ls_iload_n f_147_4 rfl ?_
      refine ls_iadd ((x3 * 6) + x4) f_147_5 rfl ?_
      refine ls_ireturn f_147_6 rI_147 ?_
      show lm_W _ _ _ _ [.int ((x3 * 6) + x4), .ref 6, .int ((x3 * 6) + x4), .ref 53] _ _
      refine ls_iald f_1_60 hl S_6 hyp (fun hyp => ?_)
      refine ls_iast f_1_61 hl S_53 hyp (fun hyp => ?_)
      refine ls_iinc (x4 + 1) [some (.ref 52), some (.ref 21), some (.ref 1), some (.int x3), some (.int (x4 + 1))] f_1_62 rfl (Nat.le_of_ble_eq_true rfl) rfl rfl ?_
      refine ls_goto 13 f_1_65 rfl ?_
      exact hyp
    · refine ls_iconst 0 f_1_46 (by decide) ?_
      refine ls_goto 61 f_1_47 rfl ?_
      refine ls_iast f_1_61 hl S_53 hyp (fun hyp => ?_)
      refine ls_iinc (x4 + 1) [some (.ref 52), some (.ref 21), some (.ref 1), some (.int x3), some (.int (x4 + 1))] f_1_62 rfl (Nat.le_of_ble_eq_true rfl) rfl rfl ?_
      refine ls_goto 13 f_1_65 rfl ?_
      exact hyp
  · refine ls_iinc (x3 + 1) [some (.ref 52), some (.ref 21), some (.ref 1), some (.int (x3 + 1)), some (.int x4)] f_1_68 rfl (Nat.le_of_ble_eq_true rfl) rfl rfl ?_
    refine ls_goto 2 f_1_71 rfl ?_
    exact ls_mask [true, true, true, true, false] [some (.ref 52), some (.ref 21), some (.ref 1), some (.int (x3 + 1)), none] rfl hyp
theorem e_2 {d : Nat} {h : lm_H} {K : Int64 → lm_H → Prop} (hl : lm_Lay h) (hyp : lm_W (d) 2 12 [some (.ref 21), some (.long (60 * ((lm_i h 21 3).toInt64))), none, some (.int 0)] [] h (lm_kL K)) : lm_call (d + 1) 2 [.ref 21] h (lm_kL K) := by
  refine ls_enter [some (.ref 21), none, none, none] ml_2 (Nat.le_of_ble_eq_true rfl) rfl ?_
  refine ls_ldc2 f_2_0 k_2_51 ?_
  refine ls_aload_n f_2_3 rfl ?_
  refine ls_getI f_2_4 p_2_53 hl S_21 ?_
  refine ls_i2l ((lm_i h 21 3).toInt64) f_2_7 rfl ?_
  refine ls_lmul (60 * ((lm_i h 21 3).toInt64)) f_2_8 rfl ?_
  refine ls_lstore_n [some (.ref 21), some (.long (60 * ((lm_i h 21 3).toInt64))), none, none] f_2_9 (Nat.le_of_ble_eq_true rfl) rfl ?_
  refine ls_iconst 0 f_2_10 (by decide) ?_
  refine ls_istore_n [some (.ref 21), some (.long (60 * ((lm_i h 21 3).toInt64))), none, some (.int 0)] f_2_11 (Nat.le_of_ble_eq_true rfl) rfl ?_
  exact hyp
theorem b_2_12 {d : Nat} {h : lm_H} {K : Int64 → lm_H → Prop} (x1 : Int64) (x3 : Int32) (hl : lm_Lay h) (hyp : (if x3 < (lm_i h 21 0) then (lm_W (d) 2 12 [some (.ref 21), some (.long (x1 * 10)), none, some (.int (x3 + 1))] [] h (lm_kL K)) else (K x1 h))) : lm_W (d) 2 12 [some (.ref 21), some (.long x1), none, some (.int x3)] [] h (lm_kL K) := by
  refine ls_iload_n f_2_12 rfl ?_
  refine ls_aload_n f_2_13 rfl ?_
  refine ls_getI f_2_14 p_2_28 hl S_21 ?_
  refine ls_icmp_ge 32 f_2_17 rfl hyp (fun _ hyp => ?_) (fun _ hyp => ?_)
  · refine ls_lload_n f_2_20 rfl ?_
    refine ls_ldc2 f_2_21 k_2_56 ?_
    refine ls_lmul (x1 * 10) f_2_24 rfl ?_
    refine ls_lstore_n [some (.ref 21), some (.long (x1 * 10)), none, some (.int x3)] f_2_25 (Nat.le_of_ble_eq_true rfl) rfl ?_
    refine ls_iinc (x3 + 1) [some (.ref 21), some (.long (x1 * 10)), none, some (.int (x3 + 1))] f_2_26 rfl (Nat.le_of_ble_eq_true rfl) rfl rfl ?_
    refine ls_goto 12 f_2_29 rfl ?_
    exact hyp
  · refine ls_lload_n f_2_32 rfl ?_
    exact ls_lreturn f_2_33 rZ_2 rfl hyp
theorem e_3 {d : Nat} {h : lm_H} {K : Int64 → lm_H → Prop} (x2 : Int32) (x3 : Int32) (hl : lm_Lay h) (hyp : lm_call (d + 1) 269 [.ref 54, .long 0] h (lm_kV fun h1 => lm_W (d + 1) 3 18 [some (.ref 52), some (.ref 21), some (.int x2), some (.int x3), some (.int 0), none, none] [] (lm_sl h1 54 0 1) (lm_kL K))) : lm_call (d + 2) 3 [.ref 52, .ref 21, .int x2, .int x3] h (lm_kL K) := by
  refine ls_enter [some (.ref 52), some (.ref 21), some (.int x2), some (.int x3), none, none, none] ml_3 (Nat.le_of_ble_eq_true rfl) rfl ?_
  refine ls_aload_n f_3_0 rfl ?_
  refine ls_getR f_3_1 p_3_15 hl S_52 F_52_1 ?_
  refine ls_lconst 0 f_3_4 (by decide) ?_
  refine ls_invS f_3_5 q_3_58 [.ref 54, .long 0] [] rfl (Nat.le_of_ble_eq_true rfl) ?_
  refine ls_call hyp hl (fun _ h1 hl1 hyp => ?_)
  refine ls_retV hyp (fun hyp => ?_)
  refine ls_aload_n f_3_8 rfl ?_
  refine ls_getR f_3_9 p_3_15 hl1 S_52 F_52_1 ?_
  refine ls_iconst 0 f_3_12 (by decide) ?_
  refine ls_lconst 1 f_3_13 (by decide) ?_
  refine ls_lastC 0 f_3_14 hl1 S_54 ⟨by decide, by decide, by decide⟩ ?_
  refine ls_iconst 0 f_3_15 (by decide) ?_
  refine ls_istore [some (.ref 52), some (.ref 21), some (.int x2), some (.int x3), some (.int 0), none, none] f_3_16 (Nat.le_of_ble_eq_true rfl) rfl ?_
  exact hyp
theorem b_3_18 {d : Nat} {h : lm_H} {K : Int64 → lm_H → Prop} (x2 : Int32) (x3 : Int32) (x4 : Int32) (hl : lm_Lay h) (hyp : (if x4 < (lm_i h 21 0) then (if x4 = x2 then (lm_W (d + 1) 3 18 [some (.ref 52), some (.ref 21), some (.int x2), some (.int x3), some (.int (x4 + 1)), none, none] [] h (lm_kL K)) else (if (lm_i h 21 2) = 1 then (if x4 < x2 then (lm_in ((x4 * 6) + x3) 30 False (lm_call (d + 1) 4 [.ref 52, .int (lm_i h 53 (((x4 * 6) + x3).toNatClampNeg))] h (lm_kV fun h1 => lm_W (d + 1) 3 18 [some (.ref 52), some (.ref 21), some (.int x2), some (.int x3), some (.int (x4 + 1)), none, none] [] h1 (lm_kL K)))) else (lm_call (d + 1) 4 [.ref 52, .int 0] h (lm_kV fun h2 => lm_W (d + 1) 3 18 [some (.ref 52), some (.ref 21), some (.int x2), some (.int x3), some (.int (x4 + 1)), none, none] [] h2 (lm_kL K)))) else (lm_in ((x4 * 6) + x3) 30 False (lm_call (d + 1) 4 [.ref 52, .int (lm_i h 53 (((x4 * 6) + x3).toNatClampNeg))] h (lm_kV fun h3 => lm_W (d + 1) 3 18 [some (.ref 52), some (.ref 21), some (.int x2), some (.int x3), some (.int (x4 + 1)), none, none] [] h3 (lm_kL K)))))) else (lm_W (d + 1) 3 90 [some (.ref 52), some (.ref 21), some (.int x2), some (.int x3), some (.long 0), none, some (.int 0)] [] h (lm_kL K)))) : lm_W (d + 1) 3 18 [some (.ref 52), some (.ref 21), some (.int x2), some (.int x3), some (.int x4), none, none] [] h (lm_kL K) := by
  refine ls_iload f_3_18 rfl ?_
  refine ls_aload_n f_3_20 rfl ?_
  refine ls_getI f_3_21 p_3_28 hl S_21 ?_
  refine ls_icmp_ge 84 f_3_24 rfl hyp (fun _ hyp => ?_) (fun _ hyp => ?_)
  · refine ls_iload f_3_27 rfl ?_
    refine ls_iload_n f_3_29 rfl ?_
    refine ls_icmp_eq 78 f_3_30 rfl hyp (fun _ hyp => ?_) (fun _ hyp => ?_)
    · refine ls_iinc (x4 + 1) [some (.ref 52), some (.ref 21), some (.int x2), some (.int x3), some (.int (x4 + 1)), none, none] f_3_78 rfl (Nat.le_of_ble_eq_true rfl) rfl rfl ?_
      refine ls_goto 18 f_3_81 rfl ?_
      exact hyp
    · refine ls_aload_n f_3_33 rfl ?_
      refine ls_getI f_3_34 p_3_64 hl S_21 ?_
      refine ls_iconst 1 f_3_37 (by decide) ?_
      refine ls_icmp_ne 47 f_3_38 rfl hyp (fun _ hyp => ?_) (fun _ hyp => ?_)
      · refine ls_iload f_3_41 rfl ?_
        refine ls_iload_n f_3_43 rfl ?_
        refine ls_icmp_ge 51 f_3_44 rfl hyp (fun _ hyp => ?_) (fun _ hyp => ?_)
        · refine ls_iconst 1 f_3_47 (by decide) ?_
          refine ls_goto 52 f_3_48 rfl ?_
          refine ls_istore [some (.ref 52), some (.ref 21), some (.int x2), some (.int x3), some (.int x4), some (.int 1), none] f_3_52 (Nat.le_of_ble_eq_true rfl) rfl ?_
          refine ls_aload_n f_3_54 rfl ?_
          refine ls_iload f_3_55 rfl ?_
          refine ls_if_eq_F 74 f_3_57 rfl (by decide) ?_
          refine ls_aload_n f_3_60 rfl ?_
          refine ls_getR f_3_61 p_3_9 hl S_52 F_52_0 ?_
          refine ls_iload f_3_64 rfl ?_
          refine ls_iload_n f_3_66 rfl ?_
          refine ls_invS f_3_67 q_3_37 [.int x4, .int x3] [.ref 53, .ref 52] rfl (Nat.le_of_ble_eq_true rfl) ?_
          refine ls_enter [some (.int x4), some (.int x3)] ml_147 (Nat.le_of_ble_eq_true rfl) rfl ?_
          refine ls_iload_n f_147_0 rfl ?_
          refine ls_bipush 6 f_147_1 (by decide) ?_
          refine ls_imul (x4 * 6) f_147_3 rfl ?_
          refine ls_iload_n f_147_4 rfl ?_
          refine ls_iadd ((x4 * 6) + x3) f_147_5 rfl ?_
          refine ls_ireturn f_147_6 rI_147 ?_
          show lm_W _ _ _ _ [.int ((x4 * 6) + x3), .ref 53, .ref 52] _ _
          refine ls_iald f_3_70 hl S_53 hyp (fun hyp => ?_)
          refine ls_goto 75 f_3_71 rfl ?_
          refine ls_invV (a := 52) f_3_75 q_3_67 [.int (lm_i h 53 (((x4 * 6) + x3).toNatClampNeg))] [] rfl (Nat.le_of_ble_eq_true rfl) hl S_52 ow_4 ?_
          refine ls_call hyp hl (fun _ h1 hl1 hyp => ?_)
          refine ls_retV hyp (fun hyp => ?_)
          refine ls_iinc (x4 + 1) [some (.ref 52), some (.ref 21), some (.int x2), some (.int x3), some (.int (x4 + 1)), some (.int 1), none] f_3_78 rfl (Nat.le_of_ble_eq_true rfl) rfl rfl ?_
          refine ls_goto 18 f_3_81 rfl ?_
          exact ls_mask [true, true, true, true, true, false, false] [some (.ref 52), some (.ref 21), some (.int x2), some (.int x3), some (.int (x4 + 1)), none, none] rfl hyp
        · refine ls_iconst 0 f_3_51 (by decide) ?_
          refine ls_istore [some (.ref 52), some (.ref 21), some (.int x2), some (.int x3), some (.int x4), some (.int 0), none] f_3_52 (Nat.le_of_ble_eq_true rfl) rfl ?_
          refine ls_aload_n f_3_54 rfl ?_
          refine ls_iload f_3_55 rfl ?_
          refine ls_if_eq_T 74 f_3_57 rfl (by decide) ?_
          refine ls_iconst 0 f_3_74 (by decide) ?_
          refine ls_invV (a := 52) f_3_75 q_3_67 [.int 0] [] rfl (Nat.le_of_ble_eq_true rfl) hl S_52 ow_4 ?_
          refine ls_call hyp hl (fun _ h2 hl2 hyp => ?_)
          refine ls_retV hyp (fun hyp => ?_)
          refine ls_iinc (x4 + 1) [some (.ref 52), some (.ref 21), some (.int x2), some (.int x3), some (.int (x4 + 1)), some (.int 0), none] f_3_78 rfl (Nat.le_of_ble_eq_true rfl) rfl rfl ?_
          refine ls_goto 18 f_3_81 rfl ?_
          exact ls_mask [true, true, true, true, true, false, false] [some (.ref 52), some (.ref 21), some (.int x2), some (.int x3), some (.int (x4 + 1)), none, none] rfl hyp
      · refine ls_iconst 1 f_3_47 (by decide) ?_
        refine ls_goto 52 f_3_48 rfl ?_
        refine ls_istore [some (.ref 52), some (.ref 21), some (.int x2), some (.int x3), some (.int x4), some (.int 1), none] f_3_52 (Nat.le_of_ble_eq_true rfl) rfl ?_
        refine ls_aload_n f_3_54 rfl ?_
        refine ls_iload f_3_55 rfl ?_
        refine ls_if_eq_F 74 f_3_57 rfl (by decide) ?_
        refine ls_aload_n f_3_60 rfl ?_
        refine ls_getR f_3_61 p_3_9 hl S_52 F_52_0 ?_
        refine ls_iload f_3_64 rfl ?_
        refine ls_iload_n f_3_66 rfl ?_
        refine ls_invS f_3_67 q_3_37 [.int x4, .int x3] [.ref 53, .ref 52] rfl (Nat.le_of_ble_eq_true rfl) ?_
        refine ls_enter [some (.int x4), some (.int x3)] ml_147 (Nat.le_of_ble_eq_true rfl) rfl ?_
        refine ls_iload_n f_147_0 rfl ?_
        refine ls_bipush 6 f_147_1 (by decide) ?_
        refine ls_imul (x4 * 6) f_147_3 rfl ?_
        refine ls_iload_n f_147_4 rfl ?_
        refine ls_iadd ((x4 * 6) + x3) f_147_5 rfl ?_
        refine ls_ireturn f_147_6 rI_147 ?_
        show lm_W _ _ _ _ [.int ((x4 * 6) + x3), .ref 53, .ref 52] _ _
        refine ls_iald f_3_70 hl S_53 hyp (fun hyp => ?_)
        refine ls_goto 75 f_3_71 rfl ?_
        refine ls_invV (a := 52) f_3_75 q_3_67 [.int (lm_i h 53 (((x4 * 6) + x3).toNatClampNeg))] [] rfl (Nat.le_of_ble_eq_true rfl) hl S_52 ow_4 ?_
        refine ls_call hyp hl (fun _ h3 hl3 hyp => ?_)
        refine ls_retV hyp (fun hyp => ?_)
        refine ls_iinc (x4 + 1) [some (.ref 52), some (.ref 21), some (.int x2), some (.int x3), some (.int (x4 + 1)), some (.int 1), none] f_3_78 rfl (Nat.le_of_ble_eq_true rfl) rfl rfl ?_
        refine ls_goto 18 f_3_81 rfl ?_
        exact ls_mask [true, true, true, true, true, false, false] [some (.ref 52), some (.ref 21), some (.int x2), some (.int x3), some (.int (x4 + 1)), none, none] rfl hyp
  · refine ls_lconst 0 f_3_84 (by decide) ?_
    refine ls_lstore [some (.ref 52), some (.ref 21), some (.int x2), some (.int x3), some (.long 0), none, none] f_3_85 (Nat.le_of_ble_eq_true rfl) rfl ?_
    refine ls_iconst 0 f_3_87 (by decide) ?_
    refine ls_istore [some (.ref 52), some (.ref 21), some (.int x2), some (.int x3), some (.long 0), none, some (.int 0)] f_3_88 (Nat.le_of_ble_eq_true rfl) rfl ?_
    exact hyp
theorem b_3_90 {d : Nat} {h : lm_H} {K : Int64 → lm_H → Prop} (x2 : Int32) (x3 : Int32) (x4 : Int64) (x6 : Int32) (hl : lm_Lay h) (hyp : (if x6 < 5 then (lm_in x6 5 False (lm_call (d + 1) 70 [.ref 21, .int x6] h (lm_kI fun r2 h1 => lm_W (d + 1) 3 90 [some (.ref 52), some (.ref 21), some (.int x2), some (.int x3), some (.long (x4 + ((lm_l h 54 x6.toNatClampNeg) * r2.toInt64))), none, some (.int (x6 + 1))] [] h1 (lm_kL K)))) else (lm_in ((x2 * 7) + x3) 35 False (K (x4 * (((lm_i h 22 (((x2 * 7) + x3).toNatClampNeg)) - (lm_i h 21 3)).toInt64)) h)))) : lm_W (d + 1) 3 90 [some (.ref 52), some (.ref 21), some (.int x2), some (.int x3), some (.long x4), none, some (.int x6)] [] h (lm_kL K) := by
  refine ls_iload f_3_90 rfl ?_
  refine ls_iconst 5 f_3_92 (by decide) ?_
  refine ls_icmp_ge 122 f_3_93 rfl hyp (fun _ hyp => ?_) (fun _ hyp => ?_)
  · refine ls_lload f_3_96 rfl ?_
    refine ls_aload_n f_3_98 rfl ?_
    refine ls_getR f_3_99 p_3_15 hl S_52 F_52_1 ?_
    refine ls_iload f_3_102 rfl ?_
    refine ls_lald f_3_104 hl S_54 hyp (fun hyp => ?_)
    refine ls_aload_n f_3_105 rfl ?_
    refine ls_iload f_3_106 rfl ?_
    refine ls_invV (a := 21) f_3_108 q_3_71 [.int x6] [.long (lm_l h 54 x6.toNatClampNeg), .long x4] rfl (Nat.le_of_ble_eq_true rfl) hl S_21 ow_70 ?_
    refine ls_call hyp hl (fun _ h1 hl1 hyp => ?_)
    refine ls_retI hyp (fun r2 hyp => ?_)
    refine ls_i2l r2.toInt64 f_3_111 rfl ?_
    refine ls_lmul ((lm_l h 54 x6.toNatClampNeg) * r2.toInt64) f_3_112 rfl ?_
    refine ls_ladd (x4 + ((lm_l h 54 x6.toNatClampNeg) * r2.toInt64)) f_3_113 rfl ?_
    refine ls_lstore [some (.ref 52), some (.ref 21), some (.int x2), some (.int x3), some (.long (x4 + ((lm_l h 54 x6.toNatClampNeg) * r2.toInt64))), none, some (.int x6)] f_3_114 (Nat.le_of_ble_eq_true rfl) rfl ?_
    refine ls_iinc (x6 + 1) [some (.ref 52), some (.ref 21), some (.int x2), some (.int x3), some (.long (x4 + ((lm_l h 54 x6.toNatClampNeg) * r2.toInt64))), none, some (.int (x6 + 1))] f_3_116 rfl (Nat.le_of_ble_eq_true rfl) rfl rfl ?_
    refine ls_goto 90 f_3_119 rfl ?_
    exact hyp
  · refine ls_lload f_3_122 rfl ?_
    refine ls_aload_n f_3_124 rfl ?_
    refine ls_getR f_3_125 p_3_75 hl S_21 F_21_4 ?_
    refine ls_iload_n f_3_128 rfl ?_
    refine ls_iload_n f_3_129 rfl ?_
    refine ls_invS f_3_130 q_3_45 [.int x2, .int x3] [.ref 22, .long x4] rfl (Nat.le_of_ble_eq_true rfl) ?_
    refine ls_enter [some (.int x2), some (.int x3)] ml_148 (Nat.le_of_ble_eq_true rfl) rfl ?_
    refine ls_iload_n f_148_0 rfl ?_
    refine ls_bipush 7 f_148_1 (by decide) ?_
    refine ls_imul (x2 * 7) f_148_3 rfl ?_
    refine ls_iload_n f_148_4 rfl ?_
    refine ls_iadd ((x2 * 7) + x3) f_148_5 rfl ?_
    refine ls_ireturn f_148_6 rI_148 ?_
    show lm_W _ _ _ _ [.int ((x2 * 7) + x3), .ref 22, .long x4] _ _
    refine ls_iald f_3_133 hl S_22 hyp (fun hyp => ?_)
    refine ls_aload_n f_3_134 rfl ?_
    refine ls_getI f_3_135 p_3_53 hl S_21 ?_
    refine ls_isub ((lm_i h 22 (((x2 * 7) + x3).toNatClampNeg)) - (lm_i h 21 3)) f_3_138 rfl ?_
    refine ls_i2l (((lm_i h 22 (((x2 * 7) + x3).toNatClampNeg)) - (lm_i h 21 3)).toInt64) f_3_139 rfl ?_
    refine ls_lmul (x4 * (((lm_i h 22 (((x2 * 7) + x3).toNatClampNeg)) - (lm_i h 21 3)).toInt64)) f_3_140 rfl ?_
    exact ls_lreturn f_3_141 rZ_3 rfl hyp
theorem e_4 {d : Nat} {h : lm_H} {K : lm_H → Prop} (x1 : Int32) (hl : lm_Lay h) (hyp : lm_W (d) 4 2 [some (.ref 52), some (.int x1), some (.int 4)] [] h (lm_kV K)) : lm_call (d + 1) 4 [.ref 52, .int x1] h (lm_kV K) := by
  refine ls_enter [some (.ref 52), some (.int x1), none] ml_4 (Nat.le_of_ble_eq_true rfl) rfl ?_
  refine ls_iconst 4 f_4_0 (by decide) ?_
  refine ls_istore_n [some (.ref 52), some (.int x1), some (.int 4)] f_4_1 (Nat.le_of_ble_eq_true rfl) rfl ?_
  exact hyp
theorem b_4_2 {d : Nat} {h : lm_H} {K : lm_H → Prop} (x1 : Int32) (x2 : Int32) (hl : lm_Lay h) (hyp : (if 0 < x2 then (lm_in x2 5 False (lm_in (x2 - 1) 5 False (lm_in x2 5 False (lm_W (d) 4 2 [some (.ref 52), some (.int x1), some (.int (x2 - 1))] [] (lm_sl h 54 x2.toNatClampNeg (((lm_l h 54 x2.toNatClampNeg) * ((10 - x1).toInt64)) + ((lm_l h 54 ((x2 - 1).toNatClampNeg)) * x1.toInt64))) (lm_kV K))))) else (K (lm_sl h 54 0 ((lm_l h 54 0) * ((10 - x1).toInt64)))))) : lm_W (d) 4 2 [some (.ref 52), some (.int x1), some (.int x2)] [] h (lm_kV K) := by
  refine ls_iload_n f_4_2 rfl ?_
  refine ls_if_le 42 f_4_3 rfl hyp (fun _ hyp => ?_) (fun _ hyp => ?_)
  · refine ls_aload_n f_4_6 rfl ?_
    refine ls_getR f_4_7 p_4_15 hl S_52 F_52_1 ?_
    refine ls_iload_n f_4_10 rfl ?_
    refine ls_aload_n f_4_11 rfl ?_
    refine ls_getR f_4_12 p_4_15 hl S_52 F_52_1 ?_
    refine ls_iload_n f_4_15 rfl ?_
    refine ls_lald f_4_16 hl S_54 hyp (fun hyp => ?_)
    refine ls_bipush 10 f_4_17 (by decide) ?_
    refine ls_iload_n f_4_19 rfl ?_
    refine ls_isub (10 - x1) f_4_20 rfl ?_
    refine ls_i2l ((10 - x1).toInt64) f_4_21 rfl ?_
    refine ls_lmul ((lm_l h 54 x2.toNatClampNeg) * ((10 - x1).toInt64)) f_4_22 rfl ?_
    refine ls_aload_n f_4_23 rfl ?_
    refine ls_getR f_4_24 p_4_15 hl S_52 F_52_1 ?_
    refine ls_iload_n f_4_27 rfl ?_
    refine ls_iconst 1 f_4_28 (by decide) ?_
    refine ls_isub (x2 - 1) f_4_29 rfl ?_
    refine ls_lald f_4_30 hl S_54 hyp (fun hyp => ?_)
    refine ls_iload_n f_4_31 rfl ?_
    refine ls_i2l x1.toInt64 f_4_32 rfl ?_
    refine ls_lmul ((lm_l h 54 ((x2 - 1).toNatClampNeg)) * x1.toInt64) f_4_33 rfl ?_
    refine ls_ladd (((lm_l h 54 x2.toNatClampNeg) * ((10 - x1).toInt64)) + ((lm_l h 54 ((x2 - 1).toNatClampNeg)) * x1.toInt64)) f_4_34 rfl ?_
    refine ls_last f_4_35 hl S_54 hyp (fun hyp => ?_)
    refine ls_iinc (x2 - 1) [some (.ref 52), some (.int x1), some (.int (x2 - 1))] f_4_36 rfl (Nat.le_of_ble_eq_true rfl) (lm_m1 _) rfl ?_
    refine ls_goto 2 f_4_39 rfl ?_
    exact hyp
  · refine ls_aload_n f_4_42 rfl ?_
    refine ls_getR f_4_43 p_4_15 hl S_52 F_52_1 ?_
    refine ls_iconst 0 f_4_46 (by decide) ?_
    refine ls_dup2 f_4_47 rfl rfl ?_
    refine ls_laldC 0 f_4_48 hl S_54 ⟨by decide, by decide, by decide⟩ ?_
    refine ls_bipush 10 f_4_49 (by decide) ?_
    refine ls_iload_n f_4_51 rfl ?_
    refine ls_isub (10 - x1) f_4_52 rfl ?_
    refine ls_i2l ((10 - x1).toInt64) f_4_53 rfl ?_
    refine ls_lmul ((lm_l h 54 0) * ((10 - x1).toInt64)) f_4_54 rfl ?_
    refine ls_lastC 0 f_4_55 hl S_54 ⟨by decide, by decide, by decide⟩ ?_
    exact ls_return f_4_56 rV_4 hyp
theorem e_5 {d : Nat} {h : lm_H} {K : Int64 → lm_H → Prop} (x2 : Int32) (hl : lm_Lay h) (hyp : lm_call (d + 1) 2 [.ref 21] h (lm_kL fun r2 h1 => lm_W (d + 1) 5 8 [some (.ref 52), some (.ref 21), some (.int x2), some (.long r2), none, some (.int 0)] [] h1 (lm_kL K))) : lm_call (d + 2) 5 [.ref 52, .ref 21, .int x2] h (lm_kL K) := by
  refine ls_enter [some (.ref 52), some (.ref 21), some (.int x2), none, none, none] ml_5 (Nat.le_of_ble_eq_true rfl) rfl ?_
  refine ls_aload_n f_5_0 rfl ?_
  refine ls_invS f_5_1 q_5_78 [.ref 21] [] rfl (Nat.le_of_ble_eq_true rfl) ?_
  refine ls_call hyp hl (fun _ h1 hl1 hyp => ?_)
  refine ls_retL hyp (fun r2 hyp => ?_)
  refine ls_lstore_n [some (.ref 52), some (.ref 21), some (.int x2), some (.long r2), none, none] f_5_4 (Nat.le_of_ble_eq_true rfl) rfl ?_
  refine ls_iconst 0 f_5_5 (by decide) ?_
  refine ls_istore [some (.ref 52), some (.ref 21), some (.int x2), some (.long r2), none, some (.int 0)] f_5_6 (Nat.le_of_ble_eq_true rfl) rfl ?_
  exact hyp
theorem b_5_8 {d : Nat} {h : lm_H} {K : Int64 → lm_H → Prop} (x2 : Int32) (x3 : Int64) (x5 : Int32) (hl : lm_Lay h) (hyp : (if x5 < (lm_i h 21 1) then (lm_in ((x2 * 6) + x5) 30 False (lm_call (d + 1) 3 [.ref 52, .ref 21, .int x2, .int x5] h (lm_kL fun r2 h1 => lm_W (d + 1) 5 8 [some (.ref 52), some (.ref 21), some (.int x2), some (.long (x3 + (((lm_i h 53 (((x2 * 6) + x5).toNatClampNeg)).toInt64) * r2))), none, some (.int (x5 + 1))] [] h1 (lm_kL K)))) else (K x3 h))) : lm_W (d + 1) 5 8 [some (.ref 52), some (.ref 21), some (.int x2), some (.long x3), none, some (.int x5)] [] h (lm_kL K) := by
  refine ls_iload f_5_8 rfl ?_
  refine ls_aload_n f_5_10 rfl ?_
  refine ls_getI f_5_11 p_5_34 hl S_21 ?_
  refine ls_icmp_ge 47 f_5_14 rfl hyp (fun _ hyp => ?_) (fun _ hyp => ?_)
  · refine ls_lload_n f_5_17 rfl ?_
    refine ls_aload_n f_5_18 rfl ?_
    refine ls_getR f_5_19 p_5_9 hl S_52 F_52_0 ?_
    refine ls_iload_n f_5_22 rfl ?_
    refine ls_iload f_5_23 rfl ?_
    refine ls_invS f_5_25 q_5_37 [.int x2, .int x5] [.ref 53, .long x3] rfl (Nat.le_of_ble_eq_true rfl) ?_
    refine ls_enter [some (.int x2), some (.int x5)] ml_147 (Nat.le_of_ble_eq_true rfl) rfl ?_
    refine ls_iload_n f_147_0 rfl ?_
    refine ls_bipush 6 f_147_1 (by decide) ?_
    refine ls_imul (x2 * 6) f_147_3 rfl ?_
    refine ls_iload_n f_147_4 rfl ?_
    refine ls_iadd ((x2 * 6) + x5) f_147_5 rfl ?_
    refine ls_ireturn f_147_6 rI_147 ?_
    show lm_W _ _ _ _ [.int ((x2 * 6) + x5), .ref 53, .long x3] _ _
    refine ls_iald f_5_28 hl S_53 hyp (fun hyp => ?_)
    refine ls_i2l ((lm_i h 53 (((x2 * 6) + x5).toNatClampNeg)).toInt64) f_5_29 rfl ?_
    refine ls_aload_n f_5_30 rfl ?_
    refine ls_aload_n f_5_31 rfl ?_
    refine ls_iload_n f_5_32 rfl ?_
    refine ls_iload f_5_33 rfl ?_
    refine ls_invV (a := 52) f_5_35 q_5_82 [.ref 21, .int x2, .int x5] [.long ((lm_i h 53 (((x2 * 6) + x5).toNatClampNeg)).toInt64), .long x3] rfl (Nat.le_of_ble_eq_true rfl) hl S_52 ow_3 ?_
    refine ls_call hyp hl (fun _ h1 hl1 hyp => ?_)
    refine ls_retL hyp (fun r2 hyp => ?_)
    refine ls_lmul (((lm_i h 53 (((x2 * 6) + x5).toNatClampNeg)).toInt64) * r2) f_5_38 rfl ?_
    refine ls_ladd (x3 + (((lm_i h 53 (((x2 * 6) + x5).toNatClampNeg)).toInt64) * r2)) f_5_39 rfl ?_
    refine ls_lstore_n [some (.ref 52), some (.ref 21), some (.int x2), some (.long (x3 + (((lm_i h 53 (((x2 * 6) + x5).toNatClampNeg)).toInt64) * r2))), none, some (.int x5)] f_5_40 (Nat.le_of_ble_eq_true rfl) rfl ?_
    refine ls_iinc (x5 + 1) [some (.ref 52), some (.ref 21), some (.int x2), some (.long (x3 + (((lm_i h 53 (((x2 * 6) + x5).toNatClampNeg)).toInt64) * r2))), none, some (.int (x5 + 1))] f_5_41 rfl (Nat.le_of_ble_eq_true rfl) rfl rfl ?_
    refine ls_goto 8 f_5_44 rfl ?_
    exact hyp
  · refine ls_lload_n f_5_47 rfl ?_
    exact ls_lreturn f_5_48 rZ_5 rfl hyp
theorem e_6 {d : Nat} {h : lm_H} {K : Int64 → lm_H → Prop} (x2 : Int32) (hl : lm_Lay h) (hyp : lm_call (d + 1) 2 [.ref 21] h (lm_kL fun r2 h1 => lm_W (d + 1) 6 11 [some (.ref 52), some (.ref 21), some (.int x2), some (.long r2), none, some (.long r2), none, some (.int 0)] [] h1 (lm_kL K))) : lm_call (d + 2) 6 [.ref 52, .ref 21, .int x2] h (lm_kL K) := by
  refine ls_enter [some (.ref 52), some (.ref 21), some (.int x2), none, none, none, none, none] ml_6 (Nat.le_of_ble_eq_true rfl) rfl ?_
  refine ls_aload_n f_6_0 rfl ?_
  refine ls_invS f_6_1 q_6_78 [.ref 21] [] rfl (Nat.le_of_ble_eq_true rfl) ?_
  refine ls_call hyp hl (fun _ h1 hl1 hyp => ?_)
  refine ls_retL hyp (fun r2 hyp => ?_)
  refine ls_lstore_n [some (.ref 52), some (.ref 21), some (.int x2), some (.long r2), none, none, none, none] f_6_4 (Nat.le_of_ble_eq_true rfl) rfl ?_
  refine ls_lload_n f_6_5 rfl ?_
  refine ls_lstore [some (.ref 52), some (.ref 21), some (.int x2), some (.long r2), none, some (.long r2), none, none] f_6_6 (Nat.le_of_ble_eq_true rfl) rfl ?_
  refine ls_iconst 0 f_6_8 (by decide) ?_
  refine ls_istore [some (.ref 52), some (.ref 21), some (.int x2), some (.long r2), none, some (.long r2), none, some (.int 0)] f_6_9 (Nat.le_of_ble_eq_true rfl) rfl ?_
  exact hyp
theorem b_6_11 {d : Nat} {h : lm_H} {K : Int64 → lm_H → Prop} (x2 : Int32) (x3 : Int64) (x5 : Int64) (x7 : Int32) (hl : lm_Lay h) (hyp : (if x7 < (lm_i h 21 1) then (lm_in ((x2 * 7) + x7) 35 False (if (lm_i h 23 (((x2 * 7) + x7).toNatClampNeg)) = 0 then (lm_call (d + 1) 3 [.ref 52, .ref 21, .int x2, .int x7] h (lm_kL fun r2 h1 => lm_W (d + 1) 6 11 [some (.ref 52), some (.ref 21), some (.int x2), some (.long x3), none, some (.long (if (x3 + (10 * r2)) < x5 then x5 else (x3 + (10 * r2)))), none, some (.int (x7 + 1))] [] h1 (lm_kL K))) else (lm_W (d + 1) 6 11 [some (.ref 52), some (.ref 21), some (.int x2), some (.long x3), none, some (.long x5), none, some (.int (x7 + 1))] [] h (lm_kL K)))) else (K x5 h))) : lm_W (d + 1) 6 11 [some (.ref 52), some (.ref 21), some (.int x2), some (.long x3), none, some (.long x5), none, some (.int x7)] [] h (lm_kL K) := by
  refine ls_iload f_6_11 rfl ?_
  refine ls_aload_n f_6_13 rfl ?_
  refine ls_getI f_6_14 p_6_34 hl S_21 ?_
  refine ls_icmp_ge 61 f_6_17 rfl hyp (fun _ hyp => ?_) (fun _ hyp => ?_)
  · refine ls_aload_n f_6_20 rfl ?_
    refine ls_getR f_6_21 p_6_41 hl S_21 F_21_5 ?_
    refine ls_iload_n f_6_24 rfl ?_
    refine ls_iload f_6_25 rfl ?_
    refine ls_invS f_6_27 q_6_45 [.int x2, .int x7] [.ref 23] rfl (Nat.le_of_ble_eq_true rfl) ?_
    refine ls_enter [some (.int x2), some (.int x7)] ml_148 (Nat.le_of_ble_eq_true rfl) rfl ?_
    refine ls_iload_n f_148_0 rfl ?_
    refine ls_bipush 7 f_148_1 (by decide) ?_
    refine ls_imul (x2 * 7) f_148_3 rfl ?_
    refine ls_iload_n f_148_4 rfl ?_
    refine ls_iadd ((x2 * 7) + x7) f_148_5 rfl ?_
    refine ls_ireturn f_148_6 rI_148 ?_
    show lm_W _ _ _ _ [.int ((x2 * 7) + x7), .ref 23] _ _
    refine ls_zald f_6_30 hl S_23 hyp (fun hyp => ?_)
    refine ls_if_ne 55 f_6_31 rfl hyp (fun _ hyp => ?_) (fun _ hyp => ?_)
    · refine ls_lload f_6_34 rfl ?_
      refine ls_lload_n f_6_36 rfl ?_
      refine ls_ldc2 f_6_37 k_6_56 ?_
      refine ls_aload_n f_6_40 rfl ?_
      refine ls_aload_n f_6_41 rfl ?_
      refine ls_iload_n f_6_42 rfl ?_
      refine ls_iload f_6_43 rfl ?_
      refine ls_invV (a := 52) f_6_45 q_6_82 [.ref 21, .int x2, .int x7] [.long 10, .long x3, .long x5] rfl (Nat.le_of_ble_eq_true rfl) hl S_52 ow_3 ?_
      refine ls_call hyp hl (fun _ h1 hl1 hyp => ?_)
      refine ls_retL hyp (fun r2 hyp => ?_)
      refine ls_lmul (10 * r2) f_6_48 rfl ?_
      refine ls_ladd (x3 + (10 * r2)) f_6_49 rfl ?_
      refine ls_mathL (v := if (x3 + (10 * r2)) < x5 then x5 else (x3 + (10 * r2))) 1004 f_6_50 q_6_86 (Or.inl ⟨rfl, rfl⟩) (Nat.le_of_ble_eq_true rfl) ?_
      refine ls_lstore [some (.ref 52), some (.ref 21), some (.int x2), some (.long x3), none, some (.long (if (x3 + (10 * r2)) < x5 then x5 else (x3 + (10 * r2)))), none, some (.int x7)] f_6_53 (Nat.le_of_ble_eq_true rfl) rfl ?_
      refine ls_iinc (x7 + 1) [some (.ref 52), some (.ref 21), some (.int x2), some (.long x3), none, some (.long (if (x3 + (10 * r2)) < x5 then x5 else (x3 + (10 * r2)))), none, some (.int (x7 + 1))] f_6_55 rfl (Nat.le_of_ble_eq_true rfl) rfl rfl ?_
      refine ls_goto 11 f_6_58 rfl ?_
      exact hyp
    · refine ls_iinc (x7 + 1) [some (.ref 52), some (.ref 21), some (.int x2), some (.long x3), none, some (.long x5), none, some (.int (x7 + 1))] f_6_55 rfl (Nat.le_of_ble_eq_true rfl) rfl rfl ?_
      refine ls_goto 11 f_6_58 rfl ?_
      exact hyp
  · refine ls_lload f_6_61 rfl ?_
    exact ls_lreturn f_6_63 rZ_6 rfl hyp
theorem e_7 {d : Nat} {h : lm_H} {K : lm_H → Prop} (hl : lm_Lay h) (hyp : lm_W (d) 7 2 [some (.ref 52), some (.ref 21), some (.int 0), none] [] h (lm_kV K)) : lm_call (d + 1) 7 [.ref 52, .ref 21] h (lm_kV K) := by
  refine ls_enter [some (.ref 52), some (.ref 21), none, none] ml_7 (Nat.le_of_ble_eq_true rfl) rfl ?_
  refine ls_iconst 0 f_7_0 (by decide) ?_
  refine ls_istore_n [some (.ref 52), some (.ref 21), some (.int 0), none] f_7_1 (Nat.le_of_ble_eq_true rfl) rfl ?_
  exact hyp
theorem b_7_2 {d : Nat} {h : lm_H} {K : lm_H → Prop} (x2 : Int32) (hl : lm_Lay h) (hyp : (if x2 < 11 then (lm_in (((lm_i h 21 1) * 11) + x2) 77 False (lm_in (((lm_i h 21 1) * 11) + x2) 77 False (lm_W (d) 7 2 [some (.ref 52), some (.ref 21), some (.int (x2 + 1)), none] [] (lm_si (lm_sl h 56 ((((lm_i h 21 1) * 11) + x2).toNatClampNeg) 0) 57 ((((lm_i h 21 1) * 11) + x2).toNatClampNeg) 1) (lm_kV K)))) else (lm_W (d) 7 51 [some (.ref 52), some (.ref 21), some (.int ((lm_i h 21 1) - 1)), none] [] h (lm_kV K)))) : lm_W (d) 7 2 [some (.ref 52), some (.ref 21), some (.int x2), none] [] h (lm_kV K) := by
  refine ls_iload_n f_7_2 rfl ?_
  refine ls_bipush 11 f_7_3 (by decide) ?_
  refine ls_icmp_ge 44 f_7_5 rfl hyp (fun _ hyp => ?_) (fun _ hyp => ?_)
  · refine ls_aload_n f_7_8 rfl ?_
    refine ls_getR f_7_9 p_7_22 hl S_52 F_52_3 ?_
    refine ls_aload_n f_7_12 rfl ?_
    refine ls_getI f_7_13 p_7_34 hl S_21 ?_
    refine ls_bipush 11 f_7_16 (by decide) ?_
    refine ls_imul ((lm_i h 21 1) * 11) f_7_18 rfl ?_
    refine ls_iload_n f_7_19 rfl ?_
    refine ls_iadd (((lm_i h 21 1) * 11) + x2) f_7_20 rfl ?_
    refine ls_lconst 0 f_7_21 (by decide) ?_
    refine ls_last f_7_22 hl S_56 hyp (fun hyp => ?_)
    refine ls_aload_n f_7_23 rfl ?_
    refine ls_getR f_7_24 p_7_25 (lm_Lay_sl hl _ _ _) S_52 F_52_4 ?_
    refine ls_aload_n f_7_27 rfl ?_
    refine ls_getI f_7_28 p_7_34 (lm_Lay_sl hl _ _ _) S_21 ?_
    refine ls_top (lm_i h 21 1) rfl ?_
    refine ls_bipush 11 f_7_31 (by decide) ?_
    refine ls_imul ((lm_i h 21 1) * 11) f_7_33 rfl ?_
    refine ls_iload_n f_7_34 rfl ?_
    refine ls_iadd (((lm_i h 21 1) * 11) + x2) f_7_35 rfl ?_
    refine ls_iconst 1 f_7_36 (by decide) ?_
    refine ls_iast f_7_37 (lm_Lay_sl hl _ _ _) S_57 hyp (fun hyp => ?_)
    refine ls_iinc (x2 + 1) [some (.ref 52), some (.ref 21), some (.int (x2 + 1)), none] f_7_38 rfl (Nat.le_of_ble_eq_true rfl) rfl rfl ?_
    refine ls_goto 2 f_7_41 rfl ?_
    exact hyp
  · refine ls_aload_n f_7_44 rfl ?_
    refine ls_getI f_7_45 p_7_34 hl S_21 ?_
    refine ls_iconst 1 f_7_48 (by decide) ?_
    refine ls_isub ((lm_i h 21 1) - 1) f_7_49 rfl ?_
    refine ls_istore_n [some (.ref 52), some (.ref 21), some (.int ((lm_i h 21 1) - 1)), none] f_7_50 (Nat.le_of_ble_eq_true rfl) rfl ?_
    exact hyp
theorem b_7_51 {d : Nat} {h : lm_H} {K : lm_H → Prop} (x2 : Int32) (hl : lm_Lay h) (hyp : (if x2 < 0 then (K h) else (lm_W (d) 7 57 [some (.ref 52), some (.ref 21), some (.int x2), some (.int 0)] [] h (lm_kV K)))) : lm_W (d) 7 51 [some (.ref 52), some (.ref 21), some (.int x2), none] [] h (lm_kV K) := by
  refine ls_iload_n f_7_51 rfl ?_
  refine ls_if_lt 113 f_7_52 rfl hyp (fun _ hyp => ?_) (fun _ hyp => ?_)
  · exact ls_return f_7_113 rV_7 hyp
  · refine ls_iconst 0 f_7_55 (by decide) ?_
    refine ls_istore_n [some (.ref 52), some (.ref 21), some (.int x2), some (.int 0)] f_7_56 (Nat.le_of_ble_eq_true rfl) rfl ?_
    exact hyp
theorem b_7_57 {d : Nat} {h : lm_H} {K : lm_H → Prop} (x2 : Int32) (x3 : Int32) (hl : lm_Lay h) (hyp : (if x3 < 11 then (lm_call (d) 8 [.ref 52, .ref 21, .int x2, .int x3] h (lm_kL fun r2 h1 => lm_in ((x2 * 11) + x3) 66 False (lm_W (d) 7 57 [some (.ref 52), some (.ref 21), some (.int x2), some (.int (x3 + 1))] [] (lm_sl h1 55 (((x2 * 11) + x3).toNatClampNeg) r2) (lm_kV K)))) else (lm_W (d) 7 89 [some (.ref 52), some (.ref 21), some (.int x2), some (.int 0)] [] h (lm_kV K)))) : lm_W (d) 7 57 [some (.ref 52), some (.ref 21), some (.int x2), some (.int x3)] [] h (lm_kV K) := by
  refine ls_iload_n f_7_57 rfl ?_
  refine ls_bipush 11 f_7_58 (by decide) ?_
  refine ls_icmp_ge 87 f_7_60 rfl hyp (fun _ hyp => ?_) (fun _ hyp => ?_)
  · refine ls_aload_n f_7_63 rfl ?_
    refine ls_getR f_7_64 p_7_19 hl S_52 F_52_2 ?_
    refine ls_iload_n f_7_67 rfl ?_
    refine ls_bipush 11 f_7_68 (by decide) ?_
    refine ls_imul (x2 * 11) f_7_70 rfl ?_
    refine ls_iload_n f_7_71 rfl ?_
    refine ls_iadd ((x2 * 11) + x3) f_7_72 rfl ?_
    refine ls_aload_n f_7_73 rfl ?_
    refine ls_aload_n f_7_74 rfl ?_
    refine ls_iload_n f_7_75 rfl ?_
    refine ls_iload_n f_7_76 rfl ?_
    refine ls_invV (a := 52) f_7_77 q_7_92 [.ref 21, .int x2, .int x3] [.int ((x2 * 11) + x3), .ref 55] rfl (Nat.le_of_ble_eq_true rfl) hl S_52 ow_8 ?_
    refine ls_call hyp hl (fun _ h1 hl1 hyp => ?_)
    refine ls_retL hyp (fun r2 hyp => ?_)
    refine ls_last f_7_80 hl1 S_55 hyp (fun hyp => ?_)
    refine ls_iinc (x3 + 1) [some (.ref 52), some (.ref 21), some (.int x2), some (.int (x3 + 1))] f_7_81 rfl (Nat.le_of_ble_eq_true rfl) rfl rfl ?_
    refine ls_goto 57 f_7_84 rfl ?_
    exact hyp
  · refine ls_iconst 0 f_7_87 (by decide) ?_
    refine ls_istore_n [some (.ref 52), some (.ref 21), some (.int x2), some (.int 0)] f_7_88 (Nat.le_of_ble_eq_true rfl) rfl ?_
    exact hyp
theorem b_7_89 {d : Nat} {h : lm_H} {K : lm_H → Prop} (x2 : Int32) (x3 : Int32) (hl : lm_Lay h) (hyp : (if x3 < 11 then (lm_call (d) 9 [.ref 52, .int x2, .int x3] h (lm_kV fun h1 => lm_W (d) 7 89 [some (.ref 52), some (.ref 21), some (.int x2), some (.int (x3 + 1))] [] h1 (lm_kV K))) else (lm_W (d) 7 51 [some (.ref 52), some (.ref 21), some (.int (x2 - 1)), none] [] h (lm_kV K)))) : lm_W (d) 7 89 [some (.ref 52), some (.ref 21), some (.int x2), some (.int x3)] [] h (lm_kV K) := by
  refine ls_iload_n f_7_89 rfl ?_
  refine ls_bipush 11 f_7_90 (by decide) ?_
  refine ls_icmp_ge 107 f_7_92 rfl hyp (fun _ hyp => ?_) (fun _ hyp => ?_)
  · refine ls_aload_n f_7_95 rfl ?_
    refine ls_iload_n f_7_96 rfl ?_
    refine ls_iload_n f_7_97 rfl ?_
    refine ls_invV (a := 52) f_7_98 q_7_95 [.int x2, .int x3] [] rfl (Nat.le_of_ble_eq_true rfl) hl S_52 ow_9 ?_
    refine ls_call hyp hl (fun _ h1 hl1 hyp => ?_)
    refine ls_retV hyp (fun hyp => ?_)
    refine ls_iinc (x3 + 1) [some (.ref 52), some (.ref 21), some (.int x2), some (.int (x3 + 1))] f_7_101 rfl (Nat.le_of_ble_eq_true rfl) rfl rfl ?_
    refine ls_goto 89 f_7_104 rfl ?_
    exact hyp
  · refine ls_iinc (x2 - 1) [some (.ref 52), some (.ref 21), some (.int (x2 - 1)), some (.int x3)] f_7_107 rfl (Nat.le_of_ble_eq_true rfl) (lm_m1 _) rfl ?_
    refine ls_goto 51 f_7_110 rfl ?_
    exact ls_mask [true, true, true, false] [some (.ref 52), some (.ref 21), some (.int (x2 - 1)), none] rfl hyp
theorem e_8 {d : Nat} {h : lm_H} {K : Int64 → lm_H → Prop} (x2 : Int32) (x3 : Int32) (hl : lm_Lay h) (hyp : lm_W (d + 1) 8 3 [some (.ref 52), some (.ref 21), some (.int x2), some (.int x3), some (.int 0), none, none] [] h (lm_kL K)) : lm_call (d + 2) 8 [.ref 52, .ref 21, .int x2, .int x3] h (lm_kL K) := by
  refine ls_enter [some (.ref 52), some (.ref 21), some (.int x2), some (.int x3), none, none, none] ml_8 (Nat.le_of_ble_eq_true rfl) rfl ?_
  refine ls_iconst 0 f_8_0 (by decide) ?_
  refine ls_istore [some (.ref 52), some (.ref 21), some (.int x2), some (.int x3), some (.int 0), none, none] f_8_1 (Nat.le_of_ble_eq_true rfl) rfl ?_
  exact hyp
theorem b_8_3 {d : Nat} {h : lm_H} {K : Int64 → lm_H → Prop} (x2 : Int32) (x3 : Int32) (x4 : Int32) (hl : lm_Lay h) (hyp : (if x4 < (lm_i h 21 0) then (lm_in ((x4 * 7) + x2) 35 False (if (lm_i h 23 (((x4 * 7) + x2).toNatClampNeg)) = 0 then (lm_in ((x4 * 6) + x2) 30 False (lm_W (d + 1) 8 3 [some (.ref 52), some (.ref 21), some (.int x2), some (.int x3), some (.int (x4 + 1)), none, none] [] (lm_si h 53 (((x4 * 6) + x2).toNatClampNeg) x3) (lm_kL K))) else (lm_in ((x4 * 6) + x2) 30 False (lm_W (d + 1) 8 3 [some (.ref 52), some (.ref 21), some (.int x2), some (.int x3), some (.int (x4 + 1)), none, none] [] (lm_si h 53 (((x4 * 6) + x2).toNatClampNeg) 0) (lm_kL K))))) else (lm_W (d + 1) 8 54 [some (.ref 52), some (.ref 21), some (.int x2), none, some (.long 0), none, some (.int 0)] [] h (lm_kL K)))) : lm_W (d + 1) 8 3 [some (.ref 52), some (.ref 21), some (.int x2), some (.int x3), some (.int x4), none, none] [] h (lm_kL K) := by
  refine ls_iload f_8_3 rfl ?_
  refine ls_aload_n f_8_5 rfl ?_
  refine ls_getI f_8_6 p_8_28 hl S_21 ?_
  refine ls_icmp_ge 48 f_8_9 rfl hyp (fun _ hyp => ?_) (fun _ hyp => ?_)
  · refine ls_aload_n f_8_12 rfl ?_
    refine ls_getR f_8_13 p_8_9 hl S_52 F_52_0 ?_
    refine ls_iload f_8_16 rfl ?_
    refine ls_iload_n f_8_18 rfl ?_
    refine ls_invS f_8_19 q_8_37 [.int x4, .int x2] [.ref 53] rfl (Nat.le_of_ble_eq_true rfl) ?_
    refine ls_enter [some (.int x4), some (.int x2)] ml_147 (Nat.le_of_ble_eq_true rfl) rfl ?_
    refine ls_iload_n f_147_0 rfl ?_
    refine ls_bipush 6 f_147_1 (by decide) ?_
    refine ls_imul (x4 * 6) f_147_3 rfl ?_
    refine ls_iload_n f_147_4 rfl ?_
    refine ls_iadd ((x4 * 6) + x2) f_147_5 rfl ?_
    refine ls_ireturn f_147_6 rI_147 ?_
    show lm_W _ _ _ _ [.int ((x4 * 6) + x2), .ref 53] _ _
    refine ls_aload_n f_8_22 rfl ?_
    refine ls_getR f_8_23 p_8_41 hl S_21 F_21_5 ?_
    refine ls_iload f_8_26 rfl ?_
    refine ls_iload_n f_8_28 rfl ?_
    refine ls_invS f_8_29 q_8_45 [.int x4, .int x2] [.ref 23, .int ((x4 * 6) + x2), .ref 53] rfl (Nat.le_of_ble_eq_true rfl) ?_
    refine ls_enter [some (.int x4), some (.int x2)] ml_148 (Nat.le_of_ble_eq_true rfl) rfl ?_
    refine ls_iload_n f_148_0 rfl ?_
    refine ls_bipush 7 f_148_1 (by decide) ?_
    refine ls_imul (x4 * 7) f_148_3 rfl ?_
    refine ls_iload_n f_148_4 rfl ?_
    refine ls_iadd ((x4 * 7) + x2) f_148_5 rfl ?_
    refine ls_ireturn f_148_6 rI_148 ?_
    show lm_W _ _ _ _ [.int ((x4 * 7) + x2), .ref 23, .int ((x4 * 6) + x2), .ref 53] _ _
    refine ls_zald f_8_32 hl S_23 hyp (fun hyp => ?_)
    refine ls_if_eq 40 f_8_33 rfl hyp (fun _ hyp => ?_) (fun _ hyp => ?_)
    · refine ls_iload_n f_8_40 rfl ?_
      refine ls_iast f_8_41 hl S_53 hyp (fun hyp => ?_)
      refine ls_iinc (x4 + 1) [some (.ref 52), some (.ref 21), some (.int x2), some (.int x3), some (.int (x4 + 1)), none, none] f_8_42 rfl (Nat.le_of_ble_eq_true rfl) rfl rfl ?_
      refine ls_goto 3 f_8_45 rfl ?_
      exact hyp
    · refine ls_iconst 0 f_8_36 (by decide) ?_
      refine ls_goto 41 f_8_37 rfl ?_
      refine ls_iast f_8_41 hl S_53 hyp (fun hyp => ?_)
      refine ls_iinc (x4 + 1) [some (.ref 52), some (.ref 21), some (.int x2), some (.int x3), some (.int (x4 + 1)), none, none] f_8_42 rfl (Nat.le_of_ble_eq_true rfl) rfl rfl ?_
      refine ls_goto 3 f_8_45 rfl ?_
      exact hyp
  · refine ls_lconst 0 f_8_48 (by decide) ?_
    refine ls_lstore [some (.ref 52), some (.ref 21), some (.int x2), some (.int x3), some (.long 0), none, none] f_8_49 (Nat.le_of_ble_eq_true rfl) rfl ?_
    refine ls_iconst 0 f_8_51 (by decide) ?_
    refine ls_istore [some (.ref 52), some (.ref 21), some (.int x2), some (.int x3), some (.long 0), none, some (.int 0)] f_8_52 (Nat.le_of_ble_eq_true rfl) rfl ?_
    exact ls_mask [true, true, true, false, true, false, true] [some (.ref 52), some (.ref 21), some (.int x2), none, some (.long 0), none, some (.int 0)] rfl hyp
theorem b_8_54 {d : Nat} {h : lm_H} {K : Int64 → lm_H → Prop} (x2 : Int32) (x4 : Int64) (x6 : Int32) (hl : lm_Lay h) (hyp : (if x6 < (lm_i h 21 0) then (lm_in ((x6 * 6) + x2) 30 False (lm_call (d + 1) 3 [.ref 52, .ref 21, .int x6, .int x2] h (lm_kL fun r2 h1 => lm_W (d + 1) 8 54 [some (.ref 52), some (.ref 21), some (.int x2), none, some (.long (x4 + (((lm_i h 53 (((x6 * 6) + x2).toNatClampNeg)).toInt64) * r2))), none, some (.int (x6 + 1))] [] h1 (lm_kL K)))) else (K x4 h))) : lm_W (d + 1) 8 54 [some (.ref 52), some (.ref 21), some (.int x2), none, some (.long x4), none, some (.int x6)] [] h (lm_kL K) := by
  refine ls_iload f_8_54 rfl ?_
  refine ls_aload_n f_8_56 rfl ?_
  refine ls_getI f_8_57 p_8_28 hl S_21 ?_
  refine ls_icmp_ge 95 f_8_60 rfl hyp (fun _ hyp => ?_) (fun _ hyp => ?_)
  · refine ls_lload f_8_63 rfl ?_
    refine ls_aload_n f_8_65 rfl ?_
    refine ls_getR f_8_66 p_8_9 hl S_52 F_52_0 ?_
    refine ls_iload f_8_69 rfl ?_
    refine ls_iload_n f_8_71 rfl ?_
    refine ls_invS f_8_72 q_8_37 [.int x6, .int x2] [.ref 53, .long x4] rfl (Nat.le_of_ble_eq_true rfl) ?_
    refine ls_enter [some (.int x6), some (.int x2)] ml_147 (Nat.le_of_ble_eq_true rfl) rfl ?_
    refine ls_iload_n f_147_0 rfl ?_
    refine ls_bipush 6 f_147_1 (by decide) ?_
    refine ls_imul (x6 * 6) f_147_3 rfl ?_
    refine ls_iload_n f_147_4 rfl ?_
    refine ls_iadd ((x6 * 6) + x2) f_147_5 rfl ?_
    refine ls_ireturn f_147_6 rI_147 ?_
    show lm_W _ _ _ _ [.int ((x6 * 6) + x2), .ref 53, .long x4] _ _
    refine ls_iald f_8_75 hl S_53 hyp (fun hyp => ?_)
    refine ls_i2l ((lm_i h 53 (((x6 * 6) + x2).toNatClampNeg)).toInt64) f_8_76 rfl ?_
    refine ls_aload_n f_8_77 rfl ?_
    refine ls_aload_n f_8_78 rfl ?_
    refine ls_iload f_8_79 rfl ?_
    refine ls_iload_n f_8_81 rfl ?_
    refine ls_invV (a := 52) f_8_82 q_8_82 [.ref 21, .int x6, .int x2] [.long ((lm_i h 53 (((x6 * 6) + x2).toNatClampNeg)).toInt64), .long x4] rfl (Nat.le_of_ble_eq_true rfl) hl S_52 ow_3 ?_
    refine ls_call hyp hl (fun _ h1 hl1 hyp => ?_)
    refine ls_retL hyp (fun r2 hyp => ?_)
    refine ls_lmul (((lm_i h 53 (((x6 * 6) + x2).toNatClampNeg)).toInt64) * r2) f_8_85 rfl ?_
    refine ls_ladd (x4 + (((lm_i h 53 (((x6 * 6) + x2).toNatClampNeg)).toInt64) * r2)) f_8_86 rfl ?_
    refine ls_lstore [some (.ref 52), some (.ref 21), some (.int x2), none, some (.long (x4 + (((lm_i h 53 (((x6 * 6) + x2).toNatClampNeg)).toInt64) * r2))), none, some (.int x6)] f_8_87 (Nat.le_of_ble_eq_true rfl) rfl ?_
    refine ls_iinc (x6 + 1) [some (.ref 52), some (.ref 21), some (.int x2), none, some (.long (x4 + (((lm_i h 53 (((x6 * 6) + x2).toNatClampNeg)).toInt64) * r2))), none, some (.int (x6 + 1))] f_8_89 rfl (Nat.le_of_ble_eq_true rfl) rfl rfl ?_
    refine ls_goto 54 f_8_92 rfl ?_
    exact hyp
  · refine ls_lload f_8_95 rfl ?_
    exact ls_lreturn f_8_97 rZ_8 rfl hyp
theorem e_9 {d : Nat} {h : lm_H} {K : lm_H → Prop} (x1 : Int32) (x2 : Int32) (hl : lm_Lay h) (hyp : lm_in ((x1 * 11) + x2) 77 False (lm_W (d) 9 17 [some (.ref 52), some (.int x1), some (.int x2), some (.int ((x1 * 11) + x2)), some (.int 0), none, none] [] (lm_si h 57 (((x1 * 11) + x2).toNatClampNeg) 0) (lm_kV K))) : lm_call (d + 1) 9 [.ref 52, .int x1, .int x2] h (lm_kV K) := by
  refine ls_enter [some (.ref 52), some (.int x1), some (.int x2), none, none, none, none] ml_9 (Nat.le_of_ble_eq_true rfl) rfl ?_
  refine ls_iload_n f_9_0 rfl ?_
  refine ls_bipush 11 f_9_1 (by decide) ?_
  refine ls_imul (x1 * 11) f_9_3 rfl ?_
  refine ls_iload_n f_9_4 rfl ?_
  refine ls_iadd ((x1 * 11) + x2) f_9_5 rfl ?_
  refine ls_istore_n [some (.ref 52), some (.int x1), some (.int x2), some (.int ((x1 * 11) + x2)), none, none, none] f_9_6 (Nat.le_of_ble_eq_true rfl) rfl ?_
  refine ls_aload_n f_9_7 rfl ?_
  refine ls_getR f_9_8 p_9_25 hl S_52 F_52_4 ?_
  refine ls_iload_n f_9_11 rfl ?_
  refine ls_iconst 0 f_9_12 (by decide) ?_
  refine ls_iast f_9_13 hl S_57 hyp (fun hyp => ?_)
  refine ls_iconst 0 f_9_14 (by decide) ?_
  refine ls_istore [some (.ref 52), some (.int x1), some (.int x2), some (.int ((x1 * 11) + x2)), some (.int 0), none, none] f_9_15 (Nat.le_of_ble_eq_true rfl) rfl ?_
  exact hyp
theorem b_9_17 {d : Nat} {h : lm_H} {K : lm_H → Prop} (x1 : Int32) (x2 : Int32) (x3 : Int32) (x4 : Int32) (hl : lm_Lay h) (hyp : (if x2 < x4 then (K h) else (lm_call (d) 10 [.ref 52, .int x1, .int x4, .int x2] h (lm_kL fun r2 h1 => lm_in x3 77 False (if (lm_i h1 57 x3.toNatClampNeg) = 0 then (lm_in x3 77 False (lm_in ((x3 + 11) - x4) 77 False (lm_in x3 77 False (lm_W (d) 9 17 [some (.ref 52), some (.int x1), some (.int x2), some (.int x3), some (.int (x4 + 1)), none, none] [] (lm_si (lm_sl h1 56 x3.toNatClampNeg r2) 57 x3.toNatClampNeg (lm_i h1 57 (((x3 + 11) - x4).toNatClampNeg))) (lm_kV K))))) else (lm_in x3 77 False (if 0 < (lg_cmp r2 (lm_l h1 56 x3.toNatClampNeg)) then (lm_in x3 77 False (lm_in ((x3 + 11) - x4) 77 False (lm_in x3 77 False (lm_W (d) 9 17 [some (.ref 52), some (.int x1), some (.int x2), some (.int x3), some (.int (x4 + 1)), none, none] [] (lm_si (lm_sl h1 56 x3.toNatClampNeg r2) 57 x3.toNatClampNeg (lm_i h1 57 (((x3 + 11) - x4).toNatClampNeg))) (lm_kV K))))) else (lm_in x3 77 False (if (lg_cmp r2 (lm_l h1 56 x3.toNatClampNeg)) = 0 then (lm_in x3 77 False (lm_in ((x3 + 11) - x4) 77 False (lm_in x3 77 False (lm_W (d) 9 17 [some (.ref 52), some (.int x1), some (.int x2), some (.int x3), some (.int (x4 + 1)), none, none] [] (lm_si h1 57 x3.toNatClampNeg ((lm_i h1 57 x3.toNatClampNeg) + (lm_i h1 57 (((x3 + 11) - x4).toNatClampNeg)))) (lm_kV K))))) else (lm_W (d) 9 17 [some (.ref 52), some (.int x1), some (.int x2), some (.int x3), some (.int (x4 + 1)), none, none] [] h1 (lm_kV K))))))))))) : lm_W (d) 9 17 [some (.ref 52), some (.int x1), some (.int x2), some (.int x3), some (.int x4), none, none] [] h (lm_kV K) := by
  refine ls_iload f_9_17 rfl ?_
  refine ls_iload_n f_9_19 rfl ?_
  refine ls_icmp_gt 122 f_9_20 rfl hyp (fun _ hyp => ?_) (fun _ hyp => ?_)
  · exact ls_return f_9_122 rV_9 hyp
  · refine ls_aload_n f_9_23 rfl ?_
    refine ls_iload_n f_9_24 rfl ?_
    refine ls_iload f_9_25 rfl ?_
    refine ls_iload_n f_9_27 rfl ?_
    refine ls_invV (a := 52) f_9_28 q_9_99 [.int x1, .int x4, .int x2] [] rfl (Nat.le_of_ble_eq_true rfl) hl S_52 ow_10 ?_
    refine ls_call hyp hl (fun _ h1 hl1 hyp => ?_)
    refine ls_retL hyp (fun r2 hyp => ?_)
    refine ls_lstore [some (.ref 52), some (.int x1), some (.int x2), some (.int x3), some (.int x4), some (.long r2), none] f_9_31 (Nat.le_of_ble_eq_true rfl) rfl ?_
    refine ls_aload_n f_9_33 rfl ?_
    refine ls_getR f_9_34 p_9_25 hl1 S_52 F_52_4 ?_
    refine ls_iload_n f_9_37 rfl ?_
    refine ls_iald f_9_38 hl1 S_57 hyp (fun hyp => ?_)
    refine ls_if_eq 54 f_9_39 rfl hyp (fun _ hyp => ?_) (fun _ hyp => ?_)
    · refine ls_aload_n f_9_54 rfl ?_
      refine ls_getR f_9_55 p_9_22 hl1 S_52 F_52_3 ?_
      refine ls_iload_n f_9_58 rfl ?_
      refine ls_lload f_9_59 rfl ?_
      refine ls_last f_9_61 hl1 S_56 hyp (fun hyp => ?_)
      refine ls_aload_n f_9_62 rfl ?_
      refine ls_getR f_9_63 p_9_25 (lm_Lay_sl hl1 _ _ _) S_52 F_52_4 ?_
      refine ls_iload_n f_9_66 rfl ?_
      refine ls_aload_n f_9_67 rfl ?_
      refine ls_getR f_9_68 p_9_25 (lm_Lay_sl hl1 _ _ _) S_52 F_52_4 ?_
      refine ls_iload_n f_9_71 rfl ?_
      refine ls_bipush 11 f_9_72 (by decide) ?_
      refine ls_iadd (x3 + 11) f_9_74 rfl ?_
      refine ls_iload f_9_75 rfl ?_
      refine ls_isub ((x3 + 11) - x4) f_9_77 rfl ?_
      refine ls_iald f_9_78 (lm_Lay_sl hl1 _ _ _) S_57 hyp (fun hyp => ?_)
      refine ls_top (lm_i h1 57 (((x3 + 11) - x4).toNatClampNeg)) rfl ?_
      refine ls_iast f_9_79 (lm_Lay_sl hl1 _ _ _) S_57 hyp (fun hyp => ?_)
      refine ls_goto 116 f_9_80 rfl ?_
      refine ls_iinc (x4 + 1) [some (.ref 52), some (.int x1), some (.int x2), some (.int x3), some (.int (x4 + 1)), some (.long r2), none] f_9_116 rfl (Nat.le_of_ble_eq_true rfl) rfl rfl ?_
      refine ls_goto 17 f_9_119 rfl ?_
      exact ls_mask [true, true, true, true, true, false, false] [some (.ref 52), some (.int x1), some (.int x2), some (.int x3), some (.int (x4 + 1)), none, none] rfl hyp
    · refine ls_lload f_9_42 rfl ?_
      refine ls_aload_n f_9_44 rfl ?_
      refine ls_getR f_9_45 p_9_22 hl1 S_52 F_52_3 ?_
      refine ls_iload_n f_9_48 rfl ?_
      refine ls_lald f_9_49 hl1 S_56 hyp (fun hyp => ?_)
      refine ls_lcmp f_9_50 ?_
      refine ls_if_le 83 f_9_51 rfl hyp (fun _ hyp => ?_) (fun _ hyp => ?_)
      · refine ls_aload_n f_9_54 rfl ?_
        refine ls_getR f_9_55 p_9_22 hl1 S_52 F_52_3 ?_
        refine ls_iload_n f_9_58 rfl ?_
        refine ls_lload f_9_59 rfl ?_
        refine ls_last f_9_61 hl1 S_56 hyp (fun hyp => ?_)
        refine ls_aload_n f_9_62 rfl ?_
        refine ls_getR f_9_63 p_9_25 (lm_Lay_sl hl1 _ _ _) S_52 F_52_4 ?_
        refine ls_iload_n f_9_66 rfl ?_
        refine ls_aload_n f_9_67 rfl ?_
        refine ls_getR f_9_68 p_9_25 (lm_Lay_sl hl1 _ _ _) S_52 F_52_4 ?_
        refine ls_iload_n f_9_71 rfl ?_
        refine ls_bipush 11 f_9_72 (by decide) ?_
        refine ls_iadd (x3 + 11) f_9_74 rfl ?_
        refine ls_iload f_9_75 rfl ?_
        refine ls_isub ((x3 + 11) - x4) f_9_77 rfl ?_
        refine ls_iald f_9_78 (lm_Lay_sl hl1 _ _ _) S_57 hyp (fun hyp => ?_)
        refine ls_top (lm_i h1 57 (((x3 + 11) - x4).toNatClampNeg)) rfl ?_
        refine ls_iast f_9_79 (lm_Lay_sl hl1 _ _ _) S_57 hyp (fun hyp => ?_)
        refine ls_goto 116 f_9_80 rfl ?_
        refine ls_iinc (x4 + 1) [some (.ref 52), some (.int x1), some (.int x2), some (.int x3), some (.int (x4 + 1)), some (.long r2), none] f_9_116 rfl (Nat.le_of_ble_eq_true rfl) rfl rfl ?_
        refine ls_goto 17 f_9_119 rfl ?_
        exact ls_mask [true, true, true, true, true, false, false] [some (.ref 52), some (.int x1), some (.int x2), some (.int x3), some (.int (x4 + 1)), none, none] rfl hyp
      · refine ls_lload f_9_83 rfl ?_
        refine ls_aload_n f_9_85 rfl ?_
        refine ls_getR f_9_86 p_9_22 hl1 S_52 F_52_3 ?_
        refine ls_iload_n f_9_89 rfl ?_
        refine ls_lald f_9_90 hl1 S_56 hyp (fun hyp => ?_)
        refine ls_lcmp f_9_91 ?_
        refine ls_if_ne 116 f_9_92 rfl hyp (fun _ hyp => ?_) (fun _ hyp => ?_)
        · refine ls_aload_n f_9_95 rfl ?_
          refine ls_getR f_9_96 p_9_25 hl1 S_52 F_52_4 ?_
          refine ls_iload_n f_9_99 rfl ?_
          refine ls_dup2 f_9_100 rfl rfl ?_
          refine ls_iald f_9_101 hl1 S_57 hyp (fun hyp => ?_)
          refine ls_aload_n f_9_102 rfl ?_
          refine ls_getR f_9_103 p_9_25 hl1 S_52 F_52_4 ?_
          refine ls_iload_n f_9_106 rfl ?_
          refine ls_bipush 11 f_9_107 (by decide) ?_
          refine ls_iadd (x3 + 11) f_9_109 rfl ?_
          refine ls_iload f_9_110 rfl ?_
          refine ls_isub ((x3 + 11) - x4) f_9_112 rfl ?_
          refine ls_iald f_9_113 hl1 S_57 hyp (fun hyp => ?_)
          refine ls_iadd ((lm_i h1 57 x3.toNatClampNeg) + (lm_i h1 57 (((x3 + 11) - x4).toNatClampNeg))) f_9_114 rfl ?_
          refine ls_iast f_9_115 hl1 S_57 hyp (fun hyp => ?_)
          refine ls_iinc (x4 + 1) [some (.ref 52), some (.int x1), some (.int x2), some (.int x3), some (.int (x4 + 1)), some (.long r2), none] f_9_116 rfl (Nat.le_of_ble_eq_true rfl) rfl rfl ?_
          refine ls_goto 17 f_9_119 rfl ?_
          exact ls_mask [true, true, true, true, true, false, false] [some (.ref 52), some (.int x1), some (.int x2), some (.int x3), some (.int (x4 + 1)), none, none] rfl hyp
        · refine ls_iinc (x4 + 1) [some (.ref 52), some (.int x1), some (.int x2), some (.int x3), some (.int (x4 + 1)), some (.long r2), none] f_9_116 rfl (Nat.le_of_ble_eq_true rfl) rfl rfl ?_
          refine ls_goto 17 f_9_119 rfl ?_
          exact ls_mask [true, true, true, true, true, false, false] [some (.ref 52), some (.int x1), some (.int x2), some (.int x3), some (.int (x4 + 1)), none, none] rfl hyp
theorem e_10 {d : Nat} {h : lm_H} {K : Int64 → lm_H → Prop} (x1 : Int32) (x2 : Int32) (x3 : Int32) (hl : lm_Lay h) (hyp : lm_in ((x1 * 11) + x2) 66 False (lm_in ((((x1 + 1) * 11) + x3) - x2) 77 False (K ((lm_l h 55 (((x1 * 11) + x2).toNatClampNeg)) + (lm_l h 56 (((((x1 + 1) * 11) + x3) - x2).toNatClampNeg))) h))) : lm_call (d + 1) 10 [.ref 52, .int x1, .int x2, .int x3] h (lm_kL K) := by
  refine ls_enter [some (.ref 52), some (.int x1), some (.int x2), some (.int x3)] ml_10 (Nat.le_of_ble_eq_true rfl) rfl ?_
  refine ls_aload_n f_10_0 rfl ?_
  refine ls_getR f_10_1 p_10_19 hl S_52 F_52_2 ?_
  refine ls_iload_n f_10_4 rfl ?_
  refine ls_bipush 11 f_10_5 (by decide) ?_
  refine ls_imul (x1 * 11) f_10_7 rfl ?_
  refine ls_iload_n f_10_8 rfl ?_
  refine ls_iadd ((x1 * 11) + x2) f_10_9 rfl ?_
  refine ls_lald f_10_10 hl S_55 hyp (fun hyp => ?_)
  refine ls_aload_n f_10_11 rfl ?_
  refine ls_getR f_10_12 p_10_22 hl S_52 F_52_3 ?_
  refine ls_iload_n f_10_15 rfl ?_
  refine ls_iconst 1 f_10_16 (by decide) ?_
  refine ls_iadd (x1 + 1) f_10_17 rfl ?_
  refine ls_bipush 11 f_10_18 (by decide) ?_
  refine ls_imul ((x1 + 1) * 11) f_10_20 rfl ?_
  refine ls_iload_n f_10_21 rfl ?_
  refine ls_iadd (((x1 + 1) * 11) + x3) f_10_22 rfl ?_
  refine ls_iload_n f_10_23 rfl ?_
  refine ls_isub ((((x1 + 1) * 11) + x3) - x2) f_10_24 rfl ?_
  refine ls_lald f_10_25 hl S_56 hyp (fun hyp => ?_)
  refine ls_ladd ((lm_l h 55 (((x1 * 11) + x2).toNatClampNeg)) + (lm_l h 56 (((((x1 + 1) * 11) + x3) - x2).toNatClampNeg))) f_10_26 rfl ?_
  exact ls_lreturn f_10_27 rZ_10 rfl hyp
theorem e_11 {d : Nat} {h : lm_H} {K : Int64 → lm_H → Prop} (hl : lm_Lay h) (hyp : lm_call (d) 2 [.ref 21] h (lm_kL fun r2 h1 => K ((lm_l h 56 10) + (((lm_i h 21 0).toInt64) * r2)) h1)) : lm_call (d + 1) 11 [.ref 52, .ref 21] h (lm_kL K) := by
  refine ls_enter [some (.ref 52), some (.ref 21)] ml_11 (Nat.le_of_ble_eq_true rfl) rfl ?_
  refine ls_aload_n f_11_0 rfl ?_
  refine ls_getR f_11_1 p_11_22 hl S_52 F_52_3 ?_
  refine ls_bipush 10 f_11_4 (by decide) ?_
  refine ls_laldC 10 f_11_6 hl S_56 ⟨by decide, by decide, by decide⟩ ?_
  refine ls_aload_n f_11_7 rfl ?_
  refine ls_getI f_11_8 p_11_28 hl S_21 ?_
  refine ls_i2l ((lm_i h 21 0).toInt64) f_11_11 rfl ?_
  refine ls_aload_n f_11_12 rfl ?_
  refine ls_invS f_11_13 q_11_78 [.ref 21] [.long ((lm_i h 21 0).toInt64), .long (lm_l h 56 10)] rfl (Nat.le_of_ble_eq_true rfl) ?_
  refine ls_call hyp hl (fun _ h1 hl1 hyp => ?_)
  refine ls_retL hyp (fun r2 hyp => ?_)
  refine ls_lmul (((lm_i h 21 0).toInt64) * r2) f_11_16 rfl ?_
  refine ls_ladd ((lm_l h 56 10) + (((lm_i h 21 0).toInt64) * r2)) f_11_17 rfl ?_
  exact ls_lreturn f_11_18 rZ_11 rfl hyp
theorem e_12 {d : Nat} {h : lm_H} {K : Int32 → lm_H → Prop} (hl : lm_Lay h) (hyp : K (lm_i h 57 10) h) : lm_call (d + 1) 12 [.ref 52] h (lm_kI K) := by
  refine ls_enter [some (.ref 52)] ml_12 (Nat.le_of_ble_eq_true rfl) rfl ?_
  refine ls_aload_n f_12_0 rfl ?_
  refine ls_getR f_12_1 p_12_25 hl S_52 F_52_4 ?_
  refine ls_bipush 10 f_12_4 (by decide) ?_
  refine ls_ialdC 10 f_12_6 hl S_57 ⟨by decide, by decide, by decide⟩ ?_
  exact ls_ireturn f_12_7 rI_12 hyp
theorem e_13 {d : Nat} {h : lm_H} {K : Int32 → lm_H → Prop} (x2 : Int32) (hl : lm_Lay h) (hyp : lm_W (d) 13 9 [some (.ref 52), some (.ref 21), some (.int x2), some (.int 10), some (.int 0), some (.int 0)] [] h (lm_kI K)) : lm_call (d + 1) 13 [.ref 52, .ref 21, .int x2] h (lm_kI K) := by
  refine ls_enter [some (.ref 52), some (.ref 21), some (.int x2), none, none, none] ml_13 (Nat.le_of_ble_eq_true rfl) rfl ?_
  refine ls_bipush 10 f_13_0 (by decide) ?_
  refine ls_istore_n [some (.ref 52), some (.ref 21), some (.int x2), some (.int 10), none, none] f_13_2 (Nat.le_of_ble_eq_true rfl) rfl ?_
  refine ls_iconst 0 f_13_3 (by decide) ?_
  refine ls_istore [some (.ref 52), some (.ref 21), some (.int x2), some (.int 10), some (.int 0), none] f_13_4 (Nat.le_of_ble_eq_true rfl) rfl ?_
  refine ls_iconst 0 f_13_6 (by decide) ?_
  refine ls_istore [some (.ref 52), some (.ref 21), some (.int x2), some (.int 10), some (.int 0), some (.int 0)] f_13_7 (Nat.le_of_ble_eq_true rfl) rfl ?_
  exact hyp
theorem b_13_9 {d : Nat} {h : lm_H} {K : Int32 → lm_H → Prop} (x2 : Int32) (x3 : Int32) (x4 : Int32) (x5 : Int32) (hl : lm_Lay h) (hyp : (if x5 < (lm_i h 21 1) then (if x2 < x5 then (K x4 h) else (lm_W (d) 13 27 [some (.ref 52), some (.ref 21), some (.int x2), some (.int x3), some (.int 0), some (.int x5)] [] h (lm_kI K))) else (K x4 h))) : lm_W (d) 13 9 [some (.ref 52), some (.ref 21), some (.int x2), some (.int x3), some (.int x4), some (.int x5)] [] h (lm_kI K) := by
  refine ls_iload f_13_9 rfl ?_
  refine ls_aload_n f_13_11 rfl ?_
  refine ls_getI f_13_12 p_13_34 hl S_21 ?_
  refine ls_icmp_ge 75 f_13_15 rfl hyp (fun _ hyp => ?_) (fun _ hyp => ?_)
  · refine ls_iload f_13_18 rfl ?_
    refine ls_iload_n f_13_20 rfl ?_
    refine ls_icmp_gt 75 f_13_21 rfl hyp (fun _ hyp => ?_) (fun _ hyp => ?_)
    · refine ls_iload f_13_75 rfl ?_
      exact ls_ireturn f_13_77 rI_13 hyp
    · refine ls_iconst 0 f_13_24 (by decide) ?_
      refine ls_istore [some (.ref 52), some (.ref 21), some (.int x2), some (.int x3), some (.int 0), some (.int x5)] f_13_25 (Nat.le_of_ble_eq_true rfl) rfl ?_
      exact hyp
  · refine ls_iload f_13_75 rfl ?_
    exact ls_ireturn f_13_77 rI_13 hyp
theorem b_13_27 {d : Nat} {h : lm_H} {K : Int32 → lm_H → Prop} (x2 : Int32) (x3 : Int32) (x4 : Int32) (x5 : Int32) (hl : lm_Lay h) (hyp : (if x4 < x3 then (lm_call (d) 10 [.ref 52, .int x5, .int x4, .int x3] h (lm_kL fun r2 h1 => lm_in ((x5 * 11) + x3) 77 False (if (lg_cmp r2 (lm_l h1 56 (((x5 * 11) + x3).toNatClampNeg))) = 0 then (lm_W (d) 13 9 [some (.ref 52), some (.ref 21), some (.int x2), some (.int (x3 - x4)), some (.int x4), some (.int (x5 + 1))] [] h1 (lm_kI K)) else (lm_W (d) 13 27 [some (.ref 52), some (.ref 21), some (.int x2), some (.int x3), some (.int (x4 + 1)), some (.int x5)] [] h1 (lm_kI K))))) else (lm_W (d) 13 9 [some (.ref 52), some (.ref 21), some (.int x2), some (.int (x3 - x4)), some (.int x4), some (.int (x5 + 1))] [] h (lm_kI K)))) : lm_W (d) 13 27 [some (.ref 52), some (.ref 21), some (.int x2), some (.int x3), some (.int x4), some (.int x5)] [] h (lm_kI K) := by
  refine ls_iload f_13_27 rfl ?_
  refine ls_iload_n f_13_29 rfl ?_
  refine ls_icmp_ge 64 f_13_30 rfl hyp (fun _ hyp => ?_) (fun _ hyp => ?_)
  · refine ls_aload_n f_13_33 rfl ?_
    refine ls_iload f_13_34 rfl ?_
    refine ls_iload f_13_36 rfl ?_
    refine ls_iload_n f_13_38 rfl ?_
    refine ls_invV (a := 52) f_13_39 q_13_99 [.int x5, .int x4, .int x3] [] rfl (Nat.le_of_ble_eq_true rfl) hl S_52 ow_10 ?_
    refine ls_call hyp hl (fun _ h1 hl1 hyp => ?_)
    refine ls_retL hyp (fun r2 hyp => ?_)
    refine ls_aload_n f_13_42 rfl ?_
    refine ls_getR f_13_43 p_13_22 hl1 S_52 F_52_3 ?_
    refine ls_iload f_13_46 rfl ?_
    refine ls_bipush 11 f_13_48 (by decide) ?_
    refine ls_imul (x5 * 11) f_13_50 rfl ?_
    refine ls_iload_n f_13_51 rfl ?_
    refine ls_iadd ((x5 * 11) + x3) f_13_52 rfl ?_
    refine ls_lald f_13_53 hl1 S_56 hyp (fun hyp => ?_)
    refine ls_lcmp f_13_54 ?_
    refine ls_if_eq 64 f_13_55 rfl hyp (fun _ hyp => ?_) (fun _ hyp => ?_)
    · refine ls_iload_n f_13_64 rfl ?_
      refine ls_iload f_13_65 rfl ?_
      refine ls_isub (x3 - x4) f_13_67 rfl ?_
      refine ls_istore_n [some (.ref 52), some (.ref 21), some (.int x2), some (.int (x3 - x4)), some (.int x4), some (.int x5)] f_13_68 (Nat.le_of_ble_eq_true rfl) rfl ?_
      refine ls_iinc (x5 + 1) [some (.ref 52), some (.ref 21), some (.int x2), some (.int (x3 - x4)), some (.int x4), some (.int (x5 + 1))] f_13_69 rfl (Nat.le_of_ble_eq_true rfl) rfl rfl ?_
      refine ls_goto 9 f_13_72 rfl ?_
      exact hyp
    · refine ls_iinc (x4 + 1) [some (.ref 52), some (.ref 21), some (.int x2), some (.int x3), some (.int (x4 + 1)), some (.int x5)] f_13_58 rfl (Nat.le_of_ble_eq_true rfl) rfl rfl ?_
      refine ls_goto 27 f_13_61 rfl ?_
      exact hyp
  · refine ls_iload_n f_13_64 rfl ?_
    refine ls_iload f_13_65 rfl ?_
    refine ls_isub (x3 - x4) f_13_67 rfl ?_
    refine ls_istore_n [some (.ref 52), some (.ref 21), some (.int x2), some (.int (x3 - x4)), some (.int x4), some (.int x5)] f_13_68 (Nat.le_of_ble_eq_true rfl) rfl ?_
    refine ls_iinc (x5 + 1) [some (.ref 52), some (.ref 21), some (.int x2), some (.int (x3 - x4)), some (.int x4), some (.int (x5 + 1))] f_13_69 rfl (Nat.le_of_ble_eq_true rfl) rfl rfl ?_
    refine ls_goto 9 f_13_72 rfl ?_
    exact hyp
theorem e_15 {d : Nat} {h : lm_H} {K : lm_H → Prop} (w : Nat) (hl : lm_Lay h) (hyp : (lm_sh (lm_si (lm_si h 18 4 (lm_i h 19 2)) 18 5 0) w = some (0, 2) ∧ ∃ w1, lm_r (lm_si (lm_si h 18 4 (lm_i h 19 2)) 18 5 0) w 0 = some w1 ∧ (lm_W (d) 15 28 [some (.ref 18), none, some (.ref w1), some (.int 0), some (.int 0), some (.int 0), none, none, none] [] (lm_si (lm_si h 18 4 (lm_i h 19 2)) 18 5 0) (lm_kV K)))) : lm_call (d + 1) 15 [.ref 18, .ref w] h (lm_kV K) := by
  refine ls_enter [some (.ref 18), some (.ref w), none, none, none, none, none, none, none] ml_15 (Nat.le_of_ble_eq_true rfl) rfl ?_
  refine ls_aload_n f_15_0 rfl ?_
  refine ls_aload_n f_15_1 rfl ?_
  refine ls_getR f_15_2 p_15_11 hl S_18 F_18_0 ?_
  refine ls_iconst 2 f_15_5 (by decide) ?_
  refine ls_ialdC 2 f_15_6 hl S_19 ⟨by decide, by decide, by decide⟩ ?_
  refine ls_putI f_15_7 p_15_27 hl S_18 rfl ?_
  refine ls_aload_n f_15_10 rfl ?_
  refine ls_iconst 0 f_15_11 (by decide) ?_
  refine ls_putI f_15_12 p_15_30 (lm_Lay_si hl _ _ _) S_18 (by decide) ?_
  refine ls_aload_n f_15_15 rfl ?_
  refine ls_getW f_15_16 p_15_33 hyp (fun w1 _ hyp => ?_)
  refine ls_astore_n [some (.ref 18), some (.ref w), some (.ref w1), none, none, none, none, none, none] f_15_19 (Nat.le_of_ble_eq_true rfl) rfl ?_
  refine ls_iconst 0 f_15_20 (by decide) ?_
  refine ls_istore_n [some (.ref 18), some (.ref w), some (.ref w1), some (.int 0), none, none, none, none, none] f_15_21 (Nat.le_of_ble_eq_true rfl) rfl ?_
  refine ls_iconst 0 f_15_22 (by decide) ?_
  refine ls_istore [some (.ref 18), some (.ref w), some (.ref w1), some (.int 0), some (.int 0), none, none, none, none] f_15_23 (Nat.le_of_ble_eq_true rfl) rfl ?_
  refine ls_iconst 0 f_15_25 (by decide) ?_
  refine ls_istore [some (.ref 18), some (.ref w), some (.ref w1), some (.int 0), some (.int 0), some (.int 0), none, none, none] f_15_26 (Nat.le_of_ble_eq_true rfl) rfl ?_
  exact ls_mask [true, false, true, true, true, true, false, false, false] [some (.ref 18), none, some (.ref w1), some (.int 0), some (.int 0), some (.int 0), none, none, none] rfl hyp
theorem b_15_28 {d : Nat} {h : lm_H} {K : lm_H → Prop} (w2 : Nat) (x3 : Int32) (x4 : Int32) (x5 : Int32) (hl : lm_Lay h) (hyp : (∃ n1, lm_sh h w2 = some (1, n1) ∧ (if x5 < (Int32.ofNat n1) then (if x4 < 0 then (K h) else (∃ n2, lm_sh h w2 = some (1, n2) ∧ (if x4 < (Int32.ofNat n2) then (∃ n13, lm_sh h w2 = some (1, n13) ∧ lm_in x4 n13 False (∃ n12, lm_sh h w2 = some (1, n12) ∧ lm_in x4 n12 False (if ((lm_i h w2 x4.toNatClampNeg) &&& 15) = 12 then (lm_W (d) 15 28 [some (.ref 18), none, some (.ref w2), some (.int ((lm_i h w2 x4.toNatClampNeg) >>> (4 &&& 31))), some (.int (x4 + 1)), some (.int (x5 + 1)), none, none, none] [] (lm_si (lm_si h 18 3 0) 18 2 0) (lm_kV K)) else (if ((lm_i h w2 x4.toNatClampNeg) &&& 15) = 10 then (lm_call (d) 16 [.ref 18] (lm_si h 18 3 0) (lm_kI fun r4 h3 => (if ((lm_i h w2 x4.toNatClampNeg) &&& 15) = 10 then (if r4 = 1 then (if (lm_i h3 18 3) = 0 then (lm_W (d) 15 28 [some (.ref 18), none, some (.ref w2), some (.int x3), some (.int ((lm_i h w2 x4.toNatClampNeg) >>> (4 &&& 31))), some (.int (x5 + 1)), none, none, none] [] (lm_si h3 18 2 (lm_i h3 18 2)) (lm_kV K)) else (lm_W (d) 15 28 [some (.ref 18), none, some (.ref w2), some (.int x3), some (.int x3), some (.int (x5 + 1)), none, none, none] [] (lm_si h3 18 2 (lm_i h3 18 2)) (lm_kV K))) else (if (lm_i h3 18 3) = 0 then (lm_W (d) 15 28 [some (.ref 18), none, some (.ref w2), some (.int x3), some (.int (x4 + 1)), some (.int (x5 + 1)), none, none, none] [] (lm_si h3 18 2 ((lm_i h3 18 2) - 1)) (lm_kV K)) else (lm_W (d) 15 28 [some (.ref 18), none, some (.ref w2), some (.int x3), some (.int x3), some (.int (x5 + 1)), none, none, none] [] (lm_si h3 18 2 ((lm_i h3 18 2) - 1)) (lm_kV K)))) else (if r4 = 0 then (if (lm_i h3 18 3) = 0 then (lm_W (d) 15 28 [some (.ref 18), none, some (.ref w2), some (.int x3), some (.int ((lm_i h w2 x4.toNatClampNeg) >>> (4 &&& 31))), some (.int (x5 + 1)), none, none, none] [] (lm_si h3 18 2 (lm_i h3 18 2)) (lm_kV K)) else (lm_W (d) 15 28 [some (.ref 18), none, some (.ref w2), some (.int x3), some (.int x3), some (.int (x5 + 1)), none, none, none] [] (lm_si h3 18 2 (lm_i h3 18 2)) (lm_kV K))) else (if (lm_i h3 18 3) = 0 then (lm_W (d) 15 28 [some (.ref 18), none, some (.ref w2), some (.int x3), some (.int (x4 + 1)), some (.int (x5 + 1)), none, none, none] [] (lm_si h3 18 2 ((lm_i h3 18 2) - 1)) (lm_kV K)) else (lm_W (d) 15 28 [some (.ref 18), none, some (.ref w2), some (.int x3), some (.int x3), some (.int (x5 + 1)), none, none, none] [] (lm_si h3 18 2 ((lm_i h3 18 2) - 1)) (lm_kV K))))))) else (if ((lm_i h w2 x4.toNatClampNeg) &&& 15) = 11 then (lm_call (d) 16 [.ref 18] (lm_si h 18 3 0) (lm_kI fun r6 h5 => (if ((lm_i h w2 x4.toNatClampNeg) &&& 15) = 10 then (if r6 = 1 then (if (lm_i h5 18 3) = 0 then (lm_W (d) 15 28 [some (.ref 18), none, some (.ref w2), some (.int x3), some (.int ((lm_i h w2 x4.toNatClampNeg) >>> (4 &&& 31))), some (.int (x5 + 1)), none, none, none] [] (lm_si h5 18 2 (lm_i h5 18 2)) (lm_kV K)) else (lm_W (d) 15 28 [some (.ref 18), none, some (.ref w2), some (.int x3), some (.int x3), some (.int (x5 + 1)), none, none, none] [] (lm_si h5 18 2 (lm_i h5 18 2)) (lm_kV K))) else (if (lm_i h5 18 3) = 0 then (lm_W (d) 15 28 [some (.ref 18), none, some (.ref w2), some (.int x3), some (.int (x4 + 1)), some (.int (x5 + 1)), none, none, none] [] (lm_si h5 18 2 ((lm_i h5 18 2) - 1)) (lm_kV K)) else (lm_W (d) 15 28 [some (.ref 18), none, some (.ref w2), some (.int x3), some (.int x3), some (.int (x5 + 1)), none, none, none] [] (lm_si h5 18 2 ((lm_i h5 18 2) - 1)) (lm_kV K)))) else (if r6 = 0 then (if (lm_i h5 18 3) = 0 then (lm_W (d) 15 28 [some (.ref 18), none, some (.ref w2), some (.int x3), some (.int ((lm_i h w2 x4.toNatClampNeg) >>> (4 &&& 31))), some (.int (x5 + 1)), none, none, none] [] (lm_si h5 18 2 (lm_i h5 18 2)) (lm_kV K)) else (lm_W (d) 15 28 [some (.ref 18), none, some (.ref w2), some (.int x3), some (.int x3), some (.int (x5 + 1)), none, none, none] [] (lm_si h5 18 2 (lm_i h5 18 2)) (lm_kV K))) else (if (lm_i h5 18 3) = 0 then (lm_W (d) 15 28 [some (.ref 18), none, some (.ref w2), some (.int x3), some (.int (x4 + 1)), some (.int (x5 + 1)), none, none, none] [] (lm_si h5 18 2 ((lm_i h5 18 2) - 1)) (lm_kV K)) else (lm_W (d) 15 28 [some (.ref 18), none, some (.ref w2), some (.int x3), some (.int x3), some (.int (x5 + 1)), none, none, none] [] (lm_si h5 18 2 ((lm_i h5 18 2) - 1)) (lm_kV K))))))) else (if ((lm_i h w2 x4.toNatClampNeg) &&& 15) = 13 then (if ((lm_i h w2 x4.toNatClampNeg) >>> (4 &&& 31)) = 1 then (lm_call (d) 19 [.ref 18, .int ((lm_i h w2 x4.toNatClampNeg) &&& 15), .int 1] (lm_si h 18 3 0) (lm_kV fun h7 => (if (lm_i h7 18 3) = 0 then (lm_W (d) 15 28 [some (.ref 18), none, some (.ref w2), some (.int x3), some (.int (x4 + 1)), some (.int (x5 + 1)), none, none, none] [] h7 (lm_kV K)) else (lm_W (d) 15 28 [some (.ref 18), none, some (.ref w2), some (.int x3), some (.int x3), some (.int (x5 + 1)), none, none, none] [] h7 (lm_kV K))))) else (lm_call (d) 19 [.ref 18, .int ((lm_i h w2 x4.toNatClampNeg) &&& 15), .int 0] (lm_si h 18 3 0) (lm_kV fun h8 => (if (lm_i h8 18 3) = 0 then (lm_W (d) 15 28 [some (.ref 18), none, some (.ref w2), some (.int x3), some (.int (x4 + 1)), some (.int (x5 + 1)), none, none, none] [] h8 (lm_kV K)) else (lm_W (d) 15 28 [some (.ref 18), none, some (.ref w2), some (.int x3), some (.int x3), some (.int (x5 + 1)), none, none, none] [] h8 (lm_kV K)))))) else (if ((lm_i h w2 x4.toNatClampNeg) &&& 15) = 14 then (if ((lm_i h w2 x4.toNatClampNeg) >>> (4 &&& 31)) = 1 then (lm_call (d) 19 [.ref 18, .int ((lm_i h w2 x4.toNatClampNeg) &&& 15), .int 1] (lm_si h 18 3 0) (lm_kV fun h9 => (if (lm_i h9 18 3) = 0 then (lm_W (d) 15 28 [some (.ref 18), none, some (.ref w2), some (.int x3), some (.int (x4 + 1)), some (.int (x5 + 1)), none, none, none] [] h9 (lm_kV K)) else (lm_W (d) 15 28 [some (.ref 18), none, some (.ref w2), some (.int x3), some (.int x3), some (.int (x5 + 1)), none, none, none] [] h9 (lm_kV K))))) else (lm_call (d) 19 [.ref 18, .int ((lm_i h w2 x4.toNatClampNeg) &&& 15), .int 0] (lm_si h 18 3 0) (lm_kV fun h10 => (if (lm_i h10 18 3) = 0 then (lm_W (d) 15 28 [some (.ref 18), none, some (.ref w2), some (.int x3), some (.int (x4 + 1)), some (.int (x5 + 1)), none, none, none] [] h10 (lm_kV K)) else (lm_W (d) 15 28 [some (.ref 18), none, some (.ref w2), some (.int x3), some (.int x3), some (.int (x5 + 1)), none, none, none] [] h10 (lm_kV K)))))) else (lm_call (d) 20 [.ref 18, .int ((lm_i h w2 x4.toNatClampNeg) &&& 15), .int ((lm_i h w2 x4.toNatClampNeg) >>> (4 &&& 31))] (lm_si h 18 3 0) (lm_kV fun h11 => (if (lm_i h11 18 3) = 0 then (lm_W (d) 15 28 [some (.ref 18), none, some (.ref w2), some (.int x3), some (.int (x4 + 1)), some (.int (x5 + 1)), none, none, none] [] h11 (lm_kV K)) else (lm_W (d) 15 28 [some (.ref 18), none, some (.ref w2), some (.int x3), some (.int x3), some (.int (x5 + 1)), none, none, none] [] h11 (lm_kV K)))))))))))) else (K h)))) else (K h)))) : lm_W (d) 15 28 [some (.ref 18), none, some (.ref w2), some (.int x3), some (.int x4), some (.int x5), none, none, none] [] h (lm_kV K) := by
  refine ls_iload f_15_28 rfl ?_
  refine ls_aload_n f_15_30 rfl ?_
  refine ls_alenW f_15_31 hyp (fun n1 hyp => ?_)
  refine ls_icmp_ge 227 f_15_32 rfl hyp (fun _ hyp => ?_) (fun _ hyp => ?_)
  · refine ls_iload f_15_35 rfl ?_
    refine ls_if_lt 227 f_15_37 rfl hyp (fun _ hyp => ?_) (fun _ hyp => ?_)
    · exact ls_return f_15_227 rV_15 hyp
    · refine ls_iload f_15_40 rfl ?_
      refine ls_aload_n f_15_42 rfl ?_
      refine ls_alenW f_15_43 hyp (fun n2 hyp => ?_)
      refine ls_icmp_ge 227 f_15_44 rfl hyp (fun _ hyp => ?_) (fun _ hyp => ?_)
      · refine ls_aload_n f_15_47 rfl ?_
        refine ls_iload f_15_48 rfl ?_
        refine ls_ialdW f_15_50 hyp (fun hyp => ?_)
        refine ls_bipush 15 f_15_51 (by decide) ?_
        refine ls_iand ((lm_i h w2 x4.toNatClampNeg) &&& 15) f_15_53 rfl ?_
        refine ls_istore [some (.ref 18), none, some (.ref w2), some (.int x3), some (.int x4), some (.int x5), some (.int ((lm_i h w2 x4.toNatClampNeg) &&& 15)), none, none] f_15_54 (Nat.le_of_ble_eq_true rfl) rfl ?_
        refine ls_aload_n f_15_56 rfl ?_
        refine ls_iload f_15_57 rfl ?_
        refine ls_ialdW f_15_59 hyp (fun hyp => ?_)
        refine ls_iconst 4 f_15_60 (by decide) ?_
        refine ls_ishr ((lm_i h w2 x4.toNatClampNeg) >>> (4 &&& 31)) f_15_61 rfl ?_
        refine ls_istore [some (.ref 18), none, some (.ref w2), some (.int x3), some (.int x4), some (.int x5), some (.int ((lm_i h w2 x4.toNatClampNeg) &&& 15)), some (.int ((lm_i h w2 x4.toNatClampNeg) >>> (4 &&& 31))), none] f_15_62 (Nat.le_of_ble_eq_true rfl) rfl ?_
        refine ls_iinc (x4 + 1) [some (.ref 18), none, some (.ref w2), some (.int x3), some (.int (x4 + 1)), some (.int x5), some (.int ((lm_i h w2 x4.toNatClampNeg) &&& 15)), some (.int ((lm_i h w2 x4.toNatClampNeg) >>> (4 &&& 31))), none] f_15_64 rfl (Nat.le_of_ble_eq_true rfl) rfl rfl ?_
        refine ls_aload_n f_15_67 rfl ?_
        refine ls_iconst 0 f_15_68 (by decide) ?_
        refine ls_putI f_15_69 p_15_23 hl S_18 (by decide) ?_
        refine ls_iload f_15_72 rfl ?_
        refine ls_bipush 12 f_15_74 (by decide) ?_
        refine ls_icmp_ne 90 f_15_76 rfl hyp (fun _ hyp => ?_) (fun _ hyp => ?_)
        · refine ls_iload f_15_79 rfl ?_
          refine ls_istore_n [some (.ref 18), none, some (.ref w2), some (.int ((lm_i h w2 x4.toNatClampNeg) >>> (4 &&& 31))), some (.int (x4 + 1)), some (.int x5), some (.int ((lm_i h w2 x4.toNatClampNeg) &&& 15)), some (.int ((lm_i h w2 x4.toNatClampNeg) >>> (4 &&& 31))), none] f_15_81 (Nat.le_of_ble_eq_true rfl) rfl ?_
          refine ls_aload_n f_15_82 rfl ?_
          refine ls_iconst 0 f_15_83 (by decide) ?_
          refine ls_putI f_15_84 p_15_19 (lm_Lay_si hl _ _ _) S_18 rfl ?_
          refine ls_goto 211 f_15_87 rfl ?_
          refine ls_aload_n f_15_211 rfl ?_
          refine ls_getI f_15_212 p_15_23 (lm_Lay_si (lm_Lay_si hl _ _ _) _ _ _) S_18 ?_
          refine ls_top 0 rfl ?_
          refine ls_if_eq_T 221 f_15_215 rfl (by decide) ?_
          refine ls_iinc (x5 + 1) [some (.ref 18), none, some (.ref w2), some (.int ((lm_i h w2 x4.toNatClampNeg) >>> (4 &&& 31))), some (.int (x4 + 1)), some (.int (x5 + 1)), some (.int ((lm_i h w2 x4.toNatClampNeg) &&& 15)), some (.int ((lm_i h w2 x4.toNatClampNeg) >>> (4 &&& 31))), none] f_15_221 rfl (Nat.le_of_ble_eq_true rfl) rfl rfl ?_
          refine ls_goto 28 f_15_224 rfl ?_
          exact ls_mask [true, false, true, true, true, true, false, false, false] [some (.ref 18), none, some (.ref w2), some (.int ((lm_i h w2 x4.toNatClampNeg) >>> (4 &&& 31))), some (.int (x4 + 1)), some (.int (x5 + 1)), none, none, none] rfl hyp
        · refine ls_iload f_15_90 rfl ?_
          refine ls_bipush 10 f_15_92 (by decide) ?_
          refine ls_icmp_eq 104 f_15_94 rfl hyp (fun _ hyp => ?_) (fun _ hyp => ?_)
          · refine ls_aload_n f_15_104 rfl ?_
            refine ls_invV (a := 18) f_15_105 q_15_38 [] [] rfl (Nat.le_of_ble_eq_true rfl) (lm_Lay_si hl _ _ _) S_18 ow_16 ?_
            refine ls_call hyp (lm_Lay_si hl _ _ _) (fun _ h3 hl3 hyp => ?_)
            refine ls_retI hyp (fun r4 hyp => ?_)
            refine ls_iload f_15_108 rfl ?_
            refine ls_bipush 10 f_15_110 (by decide) ?_
            refine ls_icmp_ne 119 f_15_112 rfl hyp (fun _ hyp => ?_) (fun _ hyp => ?_)
            · refine ls_iconst 1 f_15_115 (by decide) ?_
              refine ls_goto 120 f_15_116 rfl ?_
              refine ls_icmp_ne 127 f_15_120 rfl hyp (fun _ hyp => ?_) (fun _ hyp => ?_)
              · refine ls_iconst 1 f_15_123 (by decide) ?_
                refine ls_goto 128 f_15_124 rfl ?_
                refine ls_istore [some (.ref 18), none, some (.ref w2), some (.int x3), some (.int (x4 + 1)), some (.int x5), some (.int ((lm_i h w2 x4.toNatClampNeg) &&& 15)), some (.int ((lm_i h w2 x4.toNatClampNeg) >>> (4 &&& 31))), some (.int 1)] f_15_128 (Nat.le_of_ble_eq_true rfl) rfl ?_
                refine ls_iload f_15_130 rfl ?_
                refine ls_if_eq_F 140 f_15_132 rfl (by decide) ?_
                refine ls_iload f_15_135 rfl ?_
                refine ls_goto 142 f_15_137 rfl ?_
                refine ls_istore [some (.ref 18), none, some (.ref w2), some (.int x3), some (.int ((lm_i h w2 x4.toNatClampNeg) >>> (4 &&& 31))), some (.int x5), some (.int ((lm_i h w2 x4.toNatClampNeg) &&& 15)), some (.int ((lm_i h w2 x4.toNatClampNeg) >>> (4 &&& 31))), some (.int 1)] f_15_142 (Nat.le_of_ble_eq_true rfl) rfl ?_
                refine ls_aload_n f_15_144 rfl ?_
                refine ls_iload f_15_145 rfl ?_
                refine ls_if_eq_F 157 f_15_147 rfl (by decide) ?_
                refine ls_aload_n f_15_150 rfl ?_
                refine ls_getI f_15_151 p_15_19 hl3 S_18 ?_
                refine ls_goto 163 f_15_154 rfl ?_
                refine ls_putI f_15_163 p_15_19 hl3 S_18 rfl ?_
                refine ls_goto 211 f_15_166 rfl ?_
                refine ls_aload_n f_15_211 rfl ?_
                refine ls_getI f_15_212 p_15_23 (lm_Lay_si hl3 _ _ _) S_18 ?_
                refine ls_top (lm_i h3 18 3) rfl ?_
                refine ls_if_eq 221 f_15_215 rfl hyp (fun _ hyp => ?_) (fun _ hyp => ?_)
                · refine ls_iinc (x5 + 1) [some (.ref 18), none, some (.ref w2), some (.int x3), some (.int ((lm_i h w2 x4.toNatClampNeg) >>> (4 &&& 31))), some (.int (x5 + 1)), some (.int ((lm_i h w2 x4.toNatClampNeg) &&& 15)), some (.int ((lm_i h w2 x4.toNatClampNeg) >>> (4 &&& 31))), some (.int 1)] f_15_221 rfl (Nat.le_of_ble_eq_true rfl) rfl rfl ?_
                  refine ls_goto 28 f_15_224 rfl ?_
                  exact ls_mask [true, false, true, true, true, true, false, false, false] [some (.ref 18), none, some (.ref w2), some (.int x3), some (.int ((lm_i h w2 x4.toNatClampNeg) >>> (4 &&& 31))), some (.int (x5 + 1)), none, none, none] rfl hyp
                · refine ls_iload_n f_15_218 rfl ?_
                  refine ls_istore [some (.ref 18), none, some (.ref w2), some (.int x3), some (.int x3), some (.int x5), some (.int ((lm_i h w2 x4.toNatClampNeg) &&& 15)), some (.int ((lm_i h w2 x4.toNatClampNeg) >>> (4 &&& 31))), some (.int 1)] f_15_219 (Nat.le_of_ble_eq_true rfl) rfl ?_
                  refine ls_iinc (x5 + 1) [some (.ref 18), none, some (.ref w2), some (.int x3), some (.int x3), some (.int (x5 + 1)), some (.int ((lm_i h w2 x4.toNatClampNeg) &&& 15)), some (.int ((lm_i h w2 x4.toNatClampNeg) >>> (4 &&& 31))), some (.int 1)] f_15_221 rfl (Nat.le_of_ble_eq_true rfl) rfl rfl ?_
                  refine ls_goto 28 f_15_224 rfl ?_
                  exact ls_mask [true, false, true, true, true, true, false, false, false] [some (.ref 18), none, some (.ref w2), some (.int x3), some (.int x3), some (.int (x5 + 1)), none, none, none] rfl hyp
              · refine ls_iconst 0 f_15_127 (by decide) ?_
                refine ls_istore [some (.ref 18), none, some (.ref w2), some (.int x3), some (.int (x4 + 1)), some (.int x5), some (.int ((lm_i h w2 x4.toNatClampNeg) &&& 15)), some (.int ((lm_i h w2 x4.toNatClampNeg) >>> (4 &&& 31))), some (.int 0)] f_15_128 (Nat.le_of_ble_eq_true rfl) rfl ?_
                refine ls_iload f_15_130 rfl ?_
                refine ls_if_eq_T 140 f_15_132 rfl (by decide) ?_
                refine ls_iload f_15_140 rfl ?_
                refine ls_istore [some (.ref 18), none, some (.ref w2), some (.int x3), some (.int (x4 + 1)), some (.int x5), some (.int ((lm_i h w2 x4.toNatClampNeg) &&& 15)), some (.int ((lm_i h w2 x4.toNatClampNeg) >>> (4 &&& 31))), some (.int 0)] f_15_142 (Nat.le_of_ble_eq_true rfl) rfl ?_
                refine ls_aload_n f_15_144 rfl ?_
                refine ls_iload f_15_145 rfl ?_
                refine ls_if_eq_T 157 f_15_147 rfl (by decide) ?_
                refine ls_aload_n f_15_157 rfl ?_
                refine ls_getI f_15_158 p_15_19 hl3 S_18 ?_
                refine ls_iconst 1 f_15_161 (by decide) ?_
                refine ls_isub ((lm_i h3 18 2) - 1) f_15_162 rfl ?_
                refine ls_putI f_15_163 p_15_19 hl3 S_18 rfl ?_
                refine ls_goto 211 f_15_166 rfl ?_
                refine ls_aload_n f_15_211 rfl ?_
                refine ls_getI f_15_212 p_15_23 (lm_Lay_si hl3 _ _ _) S_18 ?_
                refine ls_top (lm_i h3 18 3) rfl ?_
                refine ls_if_eq 221 f_15_215 rfl hyp (fun _ hyp => ?_) (fun _ hyp => ?_)
                · refine ls_iinc (x5 + 1) [some (.ref 18), none, some (.ref w2), some (.int x3), some (.int (x4 + 1)), some (.int (x5 + 1)), some (.int ((lm_i h w2 x4.toNatClampNeg) &&& 15)), some (.int ((lm_i h w2 x4.toNatClampNeg) >>> (4 &&& 31))), some (.int 0)] f_15_221 rfl (Nat.le_of_ble_eq_true rfl) rfl rfl ?_
                  refine ls_goto 28 f_15_224 rfl ?_
                  exact ls_mask [true, false, true, true, true, true, false, false, false] [some (.ref 18), none, some (.ref w2), some (.int x3), some (.int (x4 + 1)), some (.int (x5 + 1)), none, none, none] rfl hyp
                · refine ls_iload_n f_15_218 rfl ?_
                  refine ls_istore [some (.ref 18), none, some (.ref w2), some (.int x3), some (.int x3), some (.int x5), some (.int ((lm_i h w2 x4.toNatClampNeg) &&& 15)), some (.int ((lm_i h w2 x4.toNatClampNeg) >>> (4 &&& 31))), some (.int 0)] f_15_219 (Nat.le_of_ble_eq_true rfl) rfl ?_
                  refine ls_iinc (x5 + 1) [some (.ref 18), none, some (.ref w2), some (.int x3), some (.int x3), some (.int (x5 + 1)), some (.int ((lm_i h w2 x4.toNatClampNeg) &&& 15)), some (.int ((lm_i h w2 x4.toNatClampNeg) >>> (4 &&& 31))), some (.int 0)] f_15_221 rfl (Nat.le_of_ble_eq_true rfl) rfl rfl ?_
                  refine ls_goto 28 f_15_224 rfl ?_
                  exact ls_mask [true, false, true, true, true, true, false, false, false] [some (.ref 18), none, some (.ref w2), some (.int x3), some (.int x3), some (.int (x5 + 1)), none, none, none] rfl hyp
            · refine ls_iconst 0 f_15_119 (by decide) ?_
              refine ls_icmp_ne 127 f_15_120 rfl hyp (fun _ hyp => ?_) (fun _ hyp => ?_)
              · refine ls_iconst 1 f_15_123 (by decide) ?_
                refine ls_goto 128 f_15_124 rfl ?_
                refine ls_istore [some (.ref 18), none, some (.ref w2), some (.int x3), some (.int (x4 + 1)), some (.int x5), some (.int ((lm_i h w2 x4.toNatClampNeg) &&& 15)), some (.int ((lm_i h w2 x4.toNatClampNeg) >>> (4 &&& 31))), some (.int 1)] f_15_128 (Nat.le_of_ble_eq_true rfl) rfl ?_
                refine ls_iload f_15_130 rfl ?_
                refine ls_if_eq_F 140 f_15_132 rfl (by decide) ?_
                refine ls_iload f_15_135 rfl ?_
                refine ls_goto 142 f_15_137 rfl ?_
                refine ls_istore [some (.ref 18), none, some (.ref w2), some (.int x3), some (.int ((lm_i h w2 x4.toNatClampNeg) >>> (4 &&& 31))), some (.int x5), some (.int ((lm_i h w2 x4.toNatClampNeg) &&& 15)), some (.int ((lm_i h w2 x4.toNatClampNeg) >>> (4 &&& 31))), some (.int 1)] f_15_142 (Nat.le_of_ble_eq_true rfl) rfl ?_
                refine ls_aload_n f_15_144 rfl ?_
                refine ls_iload f_15_145 rfl ?_
                refine ls_if_eq_F 157 f_15_147 rfl (by decide) ?_
                refine ls_aload_n f_15_150 rfl ?_
                refine ls_getI f_15_151 p_15_19 hl3 S_18 ?_
                refine ls_goto 163 f_15_154 rfl ?_
                refine ls_putI f_15_163 p_15_19 hl3 S_18 rfl ?_
                refine ls_goto 211 f_15_166 rfl ?_
                refine ls_aload_n f_15_211 rfl ?_
                refine ls_getI f_15_212 p_15_23 (lm_Lay_si hl3 _ _ _) S_18 ?_
                refine ls_top (lm_i h3 18 3) rfl ?_
                refine ls_if_eq 221 f_15_215 rfl hyp (fun _ hyp => ?_) (fun _ hyp => ?_)
                · refine ls_iinc (x5 + 1) [some (.ref 18), none, some (.ref w2), some (.int x3), some (.int ((lm_i h w2 x4.toNatClampNeg) >>> (4 &&& 31))), some (.int (x5 + 1)), some (.int ((lm_i h w2 x4.toNatClampNeg) &&& 15)), some (.int ((lm_i h w2 x4.toNatClampNeg) >>> (4 &&& 31))), some (.int 1)] f_15_221 rfl (Nat.le_of_ble_eq_true rfl) rfl rfl ?_
                  refine ls_goto 28 f_15_224 rfl ?_
                  exact ls_mask [true, false, true, true, true, true, false, false, false] [some (.ref 18), none, some (.ref w2), some (.int x3), some (.int ((lm_i h w2 x4.toNatClampNeg) >>> (4 &&& 31))), some (.int (x5 + 1)), none, none, none] rfl hyp
                · refine ls_iload_n f_15_218 rfl ?_
                  refine ls_istore [some (.ref 18), none, some (.ref w2), some (.int x3), some (.int x3), some (.int x5), some (.int ((lm_i h w2 x4.toNatClampNeg) &&& 15)), some (.int ((lm_i h w2 x4.toNatClampNeg) >>> (4 &&& 31))), some (.int 1)] f_15_219 (Nat.le_of_ble_eq_true rfl) rfl ?_
                  refine ls_iinc (x5 + 1) [some (.ref 18), none, some (.ref w2), some (.int x3), some (.int x3), some (.int (x5 + 1)), some (.int ((lm_i h w2 x4.toNatClampNeg) &&& 15)), some (.int ((lm_i h w2 x4.toNatClampNeg) >>> (4 &&& 31))), some (.int 1)] f_15_221 rfl (Nat.le_of_ble_eq_true rfl) rfl rfl ?_
                  refine ls_goto 28 f_15_224 rfl ?_
                  exact ls_mask [true, false, true, true, true, true, false, false, false] [some (.ref 18), none, some (.ref w2), some (.int x3), some (.int x3), some (.int (x5 + 1)), none, none, none] rfl hyp
              · refine ls_iconst 0 f_15_127 (by decide) ?_
                refine ls_istore [some (.ref 18), none, some (.ref w2), some (.int x3), some (.int (x4 + 1)), some (.int x5), some (.int ((lm_i h w2 x4.toNatClampNeg) &&& 15)), some (.int ((lm_i h w2 x4.toNatClampNeg) >>> (4 &&& 31))), some (.int 0)] f_15_128 (Nat.le_of_ble_eq_true rfl) rfl ?_
                refine ls_iload f_15_130 rfl ?_
                refine ls_if_eq_T 140 f_15_132 rfl (by decide) ?_
                refine ls_iload f_15_140 rfl ?_
                refine ls_istore [some (.ref 18), none, some (.ref w2), some (.int x3), some (.int (x4 + 1)), some (.int x5), some (.int ((lm_i h w2 x4.toNatClampNeg) &&& 15)), some (.int ((lm_i h w2 x4.toNatClampNeg) >>> (4 &&& 31))), some (.int 0)] f_15_142 (Nat.le_of_ble_eq_true rfl) rfl ?_
                refine ls_aload_n f_15_144 rfl ?_
                refine ls_iload f_15_145 rfl ?_
                refine ls_if_eq_T 157 f_15_147 rfl (by decide) ?_
                refine ls_aload_n f_15_157 rfl ?_
                refine ls_getI f_15_158 p_15_19 hl3 S_18 ?_
                refine ls_iconst 1 f_15_161 (by decide) ?_
                refine ls_isub ((lm_i h3 18 2) - 1) f_15_162 rfl ?_
                refine ls_putI f_15_163 p_15_19 hl3 S_18 rfl ?_
                refine ls_goto 211 f_15_166 rfl ?_
                refine ls_aload_n f_15_211 rfl ?_
                refine ls_getI f_15_212 p_15_23 (lm_Lay_si hl3 _ _ _) S_18 ?_
                refine ls_top (lm_i h3 18 3) rfl ?_
                refine ls_if_eq 221 f_15_215 rfl hyp (fun _ hyp => ?_) (fun _ hyp => ?_)
                · refine ls_iinc (x5 + 1) [some (.ref 18), none, some (.ref w2), some (.int x3), some (.int (x4 + 1)), some (.int (x5 + 1)), some (.int ((lm_i h w2 x4.toNatClampNeg) &&& 15)), some (.int ((lm_i h w2 x4.toNatClampNeg) >>> (4 &&& 31))), some (.int 0)] f_15_221 rfl (Nat.le_of_ble_eq_true rfl) rfl rfl ?_
                  refine ls_goto 28 f_15_224 rfl ?_
                  exact ls_mask [true, false, true, true, true, true, false, false, false] [some (.ref 18), none, some (.ref w2), some (.int x3), some (.int (x4 + 1)), some (.int (x5 + 1)), none, none, none] rfl hyp
                · refine ls_iload_n f_15_218 rfl ?_
                  refine ls_istore [some (.ref 18), none, some (.ref w2), some (.int x3), some (.int x3), some (.int x5), some (.int ((lm_i h w2 x4.toNatClampNeg) &&& 15)), some (.int ((lm_i h w2 x4.toNatClampNeg) >>> (4 &&& 31))), some (.int 0)] f_15_219 (Nat.le_of_ble_eq_true rfl) rfl ?_
                  refine ls_iinc (x5 + 1) [some (.ref 18), none, some (.ref w2), some (.int x3), some (.int x3), some (.int (x5 + 1)), some (.int ((lm_i h w2 x4.toNatClampNeg) &&& 15)), some (.int ((lm_i h w2 x4.toNatClampNeg) >>> (4 &&& 31))), some (.int 0)] f_15_221 rfl (Nat.le_of_ble_eq_true rfl) rfl rfl ?_
                  refine ls_goto 28 f_15_224 rfl ?_
                  exact ls_mask [true, false, true, true, true, true, false, false, false] [some (.ref 18), none, some (.ref w2), some (.int x3), some (.int x3), some (.int (x5 + 1)), none, none, none] rfl hyp
          · refine ls_iload f_15_97 rfl ?_
            refine ls_bipush 11 f_15_99 (by decide) ?_
            refine ls_icmp_ne 169 f_15_101 rfl hyp (fun _ hyp => ?_) (fun _ hyp => ?_)
            · refine ls_aload_n f_15_104 rfl ?_
              refine ls_invV (a := 18) f_15_105 q_15_38 [] [] rfl (Nat.le_of_ble_eq_true rfl) (lm_Lay_si hl _ _ _) S_18 ow_16 ?_
              refine ls_call hyp (lm_Lay_si hl _ _ _) (fun _ h5 hl5 hyp => ?_)
              refine ls_retI hyp (fun r6 hyp => ?_)
              refine ls_iload f_15_108 rfl ?_
              refine ls_bipush 10 f_15_110 (by decide) ?_
              refine ls_icmp_ne 119 f_15_112 rfl hyp (fun _ hyp => ?_) (fun _ hyp => ?_)
              · refine ls_iconst 1 f_15_115 (by decide) ?_
                refine ls_goto 120 f_15_116 rfl ?_
                refine ls_icmp_ne 127 f_15_120 rfl hyp (fun _ hyp => ?_) (fun _ hyp => ?_)
                · refine ls_iconst 1 f_15_123 (by decide) ?_
                  refine ls_goto 128 f_15_124 rfl ?_
                  refine ls_istore [some (.ref 18), none, some (.ref w2), some (.int x3), some (.int (x4 + 1)), some (.int x5), some (.int ((lm_i h w2 x4.toNatClampNeg) &&& 15)), some (.int ((lm_i h w2 x4.toNatClampNeg) >>> (4 &&& 31))), some (.int 1)] f_15_128 (Nat.le_of_ble_eq_true rfl) rfl ?_
                  refine ls_iload f_15_130 rfl ?_
                  refine ls_if_eq_F 140 f_15_132 rfl (by decide) ?_
                  refine ls_iload f_15_135 rfl ?_
                  refine ls_goto 142 f_15_137 rfl ?_
                  refine ls_istore [some (.ref 18), none, some (.ref w2), some (.int x3), some (.int ((lm_i h w2 x4.toNatClampNeg) >>> (4 &&& 31))), some (.int x5), some (.int ((lm_i h w2 x4.toNatClampNeg) &&& 15)), some (.int ((lm_i h w2 x4.toNatClampNeg) >>> (4 &&& 31))), some (.int 1)] f_15_142 (Nat.le_of_ble_eq_true rfl) rfl ?_
                  refine ls_aload_n f_15_144 rfl ?_
                  refine ls_iload f_15_145 rfl ?_
                  refine ls_if_eq_F 157 f_15_147 rfl (by decide) ?_
                  refine ls_aload_n f_15_150 rfl ?_
                  refine ls_getI f_15_151 p_15_19 hl5 S_18 ?_
                  refine ls_goto 163 f_15_154 rfl ?_
                  refine ls_putI f_15_163 p_15_19 hl5 S_18 rfl ?_
                  refine ls_goto 211 f_15_166 rfl ?_
                  refine ls_aload_n f_15_211 rfl ?_
                  refine ls_getI f_15_212 p_15_23 (lm_Lay_si hl5 _ _ _) S_18 ?_
                  refine ls_top (lm_i h5 18 3) rfl ?_
                  refine ls_if_eq 221 f_15_215 rfl hyp (fun _ hyp => ?_) (fun _ hyp => ?_)
                  · refine ls_iinc (x5 + 1) [some (.ref 18), none, some (.ref w2), some (.int x3), some (.int ((lm_i h w2 x4.toNatClampNeg) >>> (4 &&& 31))), some (.int (x5 + 1)), some (.int ((lm_i h w2 x4.toNatClampNeg) &&& 15)), some (.int ((lm_i h w2 x4.toNatClampNeg) >>> (4 &&& 31))), some (.int 1)] f_15_221 rfl (Nat.le_of_ble_eq_true rfl) rfl rfl ?_
                    refine ls_goto 28 f_15_224 rfl ?_
                    exact ls_mask [true, false, true, true, true, true, false, false, false] [some (.ref 18), none, some (.ref w2), some (.int x3), some (.int ((lm_i h w2 x4.toNatClampNeg) >>> (4 &&& 31))), some (.int (x5 + 1)), none, none, none] rfl hyp
                  · refine ls_iload_n f_15_218 rfl ?_
                    refine ls_istore [some (.ref 18), none, some (.ref w2), some (.int x3), some (.int x3), some (.int x5), some (.int ((lm_i h w2 x4.toNatClampNeg) &&& 15)), some (.int ((lm_i h w2 x4.toNatClampNeg) >>> (4 &&& 31))), some (.int 1)] f_15_219 (Nat.le_of_ble_eq_true rfl) rfl ?_
                    refine ls_iinc (x5 + 1) [some (.ref 18), none, some (.ref w2), some (.int x3), some (.int x3), some (.int (x5 + 1)), some (.int ((lm_i h w2 x4.toNatClampNeg) &&& 15)), some (.int ((lm_i h w2 x4.toNatClampNeg) >>> (4 &&& 31))), some (.int 1)] f_15_221 rfl (Nat.le_of_ble_eq_true rfl) rfl rfl ?_
                    refine ls_goto 28 f_15_224 rfl ?_
                    exact ls_mask [true, false, true, true, true, true, false, false, false] [some (.ref 18), none, some (.ref w2), some (.int x3), some (.int x3), some (.int (x5 + 1)), none, none, none] rfl hyp
                · refine ls_iconst 0 f_15_127 (by decide) ?_
                  refine ls_istore [some (.ref 18), none, some (.ref w2), some (.int x3), some (.int (x4 + 1)), some (.int x5), some (.int ((lm_i h w2 x4.toNatClampNeg) &&& 15)), some (.int ((lm_i h w2 x4.toNatClampNeg) >>> (4 &&& 31))), some (.int 0)] f_15_128 (Nat.le_of_ble_eq_true rfl) rfl ?_
                  refine ls_iload f_15_130 rfl ?_
                  refine ls_if_eq_T 140 f_15_132 rfl (by decide) ?_
                  refine ls_iload f_15_140 rfl ?_
                  refine ls_istore [some (.ref 18), none, some (.ref w2), some (.int x3), some (.int (x4 + 1)), some (.int x5), some (.int ((lm_i h w2 x4.toNatClampNeg) &&& 15)), some (.int ((lm_i h w2 x4.toNatClampNeg) >>> (4 &&& 31))), some (.int 0)] f_15_142 (Nat.le_of_ble_eq_true rfl) rfl ?_
                  refine ls_aload_n f_15_144 rfl ?_
                  refine ls_iload f_15_145 rfl ?_
                  refine ls_if_eq_T 157 f_15_147 rfl (by decide) ?_
                  refine ls_aload_n f_15_157 rfl ?_
                  refine ls_getI f_15_158 p_15_19 hl5 S_18 ?_
                  refine ls_iconst 1 f_15_161 (by decide) ?_
                  refine ls_isub ((lm_i h5 18 2) - 1) f_15_162 rfl ?_
                  refine ls_putI f_15_163 p_15_19 hl5 S_18 rfl ?_
                  refine ls_goto 211 f_15_166 rfl ?_
                  refine ls_aload_n f_15_211 rfl ?_
                  refine ls_getI f_15_212 p_15_23 (lm_Lay_si hl5 _ _ _) S_18 ?_
                  refine ls_top (lm_i h5 18 3) rfl ?_
                  refine ls_if_eq 221 f_15_215 rfl hyp (fun _ hyp => ?_) (fun _ hyp => ?_)
                  · refine ls_iinc (x5 + 1) [some (.ref 18), none, some (.ref w2), some (.int x3), some (.int (x4 + 1)), some (.int (x5 + 1)), some (.int ((lm_i h w2 x4.toNatClampNeg) &&& 15)), some (.int ((lm_i h w2 x4.toNatClampNeg) >>> (4 &&& 31))), some (.int 0)] f_15_221 rfl (Nat.le_of_ble_eq_true rfl) rfl rfl ?_
                    refine ls_goto 28 f_15_224 rfl ?_
                    exact ls_mask [true, false, true, true, true, true, false, false, false] [some (.ref 18), none, some (.ref w2), some (.int x3), some (.int (x4 + 1)), some (.int (x5 + 1)), none, none, none] rfl hyp
                  · refine ls_iload_n f_15_218 rfl ?_
                    refine ls_istore [some (.ref 18), none, some (.ref w2), some (.int x3), some (.int x3), some (.int x5), some (.int ((lm_i h w2 x4.toNatClampNeg) &&& 15)), some (.int ((lm_i h w2 x4.toNatClampNeg) >>> (4 &&& 31))), some (.int 0)] f_15_219 (Nat.le_of_ble_eq_true rfl) rfl ?_
                    refine ls_iinc (x5 + 1) [some (.ref 18), none, some (.ref w2), some (.int x3), some (.int x3), some (.int (x5 + 1)), some (.int ((lm_i h w2 x4.toNatClampNeg) &&& 15)), some (.int ((lm_i h w2 x4.toNatClampNeg) >>> (4 &&& 31))), some (.int 0)] f_15_221 rfl (Nat.le_of_ble_eq_true rfl) rfl rfl ?_
                    refine ls_goto 28 f_15_224 rfl ?_
                    exact ls_mask [true, false, true, true, true, true, false, false, false] [some (.ref 18), none, some (.ref w2), some (.int x3), some (.int x3), some (.int (x5 + 1)), none, none, none] rfl hyp
              · refine ls_iconst 0 f_15_119 (by decide) ?_
                refine ls_icmp_ne 127 f_15_120 rfl hyp (fun _ hyp => ?_) (fun _ hyp => ?_)
                · refine ls_iconst 1 f_15_123 (by decide) ?_
                  refine ls_goto 128 f_15_124 rfl ?_
                  refine ls_istore [some (.ref 18), none, some (.ref w2), some (.int x3), some (.int (x4 + 1)), some (.int x5), some (.int ((lm_i h w2 x4.toNatClampNeg) &&& 15)), some (.int ((lm_i h w2 x4.toNatClampNeg) >>> (4 &&& 31))), some (.int 1)] f_15_128 (Nat.le_of_ble_eq_true rfl) rfl ?_
                  refine ls_iload f_15_130 rfl ?_
                  refine ls_if_eq_F 140 f_15_132 rfl (by decide) ?_
                  refine ls_iload f_15_135 rfl ?_
                  refine ls_goto 142 f_15_137 rfl ?_
                  refine ls_istore [some (.ref 18), none, some (.ref w2), some (.int x3), some (.int ((lm_i h w2 x4.toNatClampNeg) >>> (4 &&& 31))), some (.int x5), some (.int ((lm_i h w2 x4.toNatClampNeg) &&& 15)), some (.int ((lm_i h w2 x4.toNatClampNeg) >>> (4 &&& 31))), some (.int 1)] f_15_142 (Nat.le_of_ble_eq_true rfl) rfl ?_
                  refine ls_aload_n f_15_144 rfl ?_
                  refine ls_iload f_15_145 rfl ?_
                  refine ls_if_eq_F 157 f_15_147 rfl (by decide) ?_
                  refine ls_aload_n f_15_150 rfl ?_
                  refine ls_getI f_15_151 p_15_19 hl5 S_18 ?_
                  refine ls_goto 163 f_15_154 rfl ?_
                  refine ls_putI f_15_163 p_15_19 hl5 S_18 rfl ?_
                  refine ls_goto 211 f_15_166 rfl ?_
                  refine ls_aload_n f_15_211 rfl ?_
                  refine ls_getI f_15_212 p_15_23 (lm_Lay_si hl5 _ _ _) S_18 ?_
                  refine ls_top (lm_i h5 18 3) rfl ?_
                  refine ls_if_eq 221 f_15_215 rfl hyp (fun _ hyp => ?_) (fun _ hyp => ?_)
                  · refine ls_iinc (x5 + 1) [some (.ref 18), none, some (.ref w2), some (.int x3), some (.int ((lm_i h w2 x4.toNatClampNeg) >>> (4 &&& 31))), some (.int (x5 + 1)), some (.int ((lm_i h w2 x4.toNatClampNeg) &&& 15)), some (.int ((lm_i h w2 x4.toNatClampNeg) >>> (4 &&& 31))), some (.int 1)] f_15_221 rfl (Nat.le_of_ble_eq_true rfl) rfl rfl ?_
                    refine ls_goto 28 f_15_224 rfl ?_
                    exact ls_mask [true, false, true, true, true, true, false, false, false] [some (.ref 18), none, some (.ref w2), some (.int x3), some (.int ((lm_i h w2 x4.toNatClampNeg) >>> (4 &&& 31))), some (.int (x5 + 1)), none, none, none] rfl hyp
                  · refine ls_iload_n f_15_218 rfl ?_
                    refine ls_istore [some (.ref 18), none, some (.ref w2), some (.int x3), some (.int x3), some (.int x5), some (.int ((lm_i h w2 x4.toNatClampNeg) &&& 15)), some (.int ((lm_i h w2 x4.toNatClampNeg) >>> (4 &&& 31))), some (.int 1)] f_15_219 (Nat.le_of_ble_eq_true rfl) rfl ?_
                    refine ls_iinc (x5 + 1) [some (.ref 18), none, some (.ref w2), some (.int x3), some (.int x3), some (.int (x5 + 1)), some (.int ((lm_i h w2 x4.toNatClampNeg) &&& 15)), some (.int ((lm_i h w2 x4.toNatClampNeg) >>> (4 &&& 31))), some (.int 1)] f_15_221 rfl (Nat.le_of_ble_eq_true rfl) rfl rfl ?_
                    refine ls_goto 28 f_15_224 rfl ?_
                    exact ls_mask [true, false, true, true, true, true, false, false, false] [some (.ref 18), none, some (.ref w2), some (.int x3), some (.int x3), some (.int (x5 + 1)), none, none, none] rfl hyp
                · refine ls_iconst 0 f_15_127 (by decide) ?_
                  refine ls_istore [some (.ref 18), none, some (.ref w2), some (.int x3), some (.int (x4 + 1)), some (.int x5), some (.int ((lm_i h w2 x4.toNatClampNeg) &&& 15)), some (.int ((lm_i h w2 x4.toNatClampNeg) >>> (4 &&& 31))), some (.int 0)] f_15_128 (Nat.le_of_ble_eq_true rfl) rfl ?_
                  refine ls_iload f_15_130 rfl ?_
                  refine ls_if_eq_T 140 f_15_132 rfl (by decide) ?_
                  refine ls_iload f_15_140 rfl ?_
                  refine ls_istore [some (.ref 18), none, some (.ref w2), some (.int x3), some (.int (x4 + 1)), some (.int x5), some (.int ((lm_i h w2 x4.toNatClampNeg) &&& 15)), some (.int ((lm_i h w2 x4.toNatClampNeg) >>> (4 &&& 31))), some (.int 0)] f_15_142 (Nat.le_of_ble_eq_true rfl) rfl ?_
                  refine ls_aload_n f_15_144 rfl ?_
                  refine ls_iload f_15_145 rfl ?_
                  refine ls_if_eq_T 157 f_15_147 rfl (by decide) ?_
                  refine ls_aload_n f_15_157 rfl ?_
                  refine ls_getI f_15_158 p_15_19 hl5 S_18 ?_
                  refine ls_iconst 1 f_15_161 (by decide) ?_
                  refine ls_isub ((lm_i h5 18 2) - 1) f_15_162 rfl ?_
                  refine ls_putI f_15_163 p_15_19 hl5 S_18 rfl ?_
                  refine ls_goto 211 f_15_166 rfl ?_
                  refine ls_aload_n f_15_211 rfl ?_
                  refine ls_getI f_15_212 p_15_23 (lm_Lay_si hl5 _ _ _) S_18 ?_
                  refine ls_top (lm_i h5 18 3) rfl ?_
                  refine ls_if_eq 221 f_15_215 rfl hyp (fun _ hyp => ?_) (fun _ hyp => ?_)
                  · refine ls_iinc (x5 + 1) [some (.ref 18), none, some (.ref w2), some (.int x3), some (.int (x4 + 1)), some (.int (x5 + 1)), some (.int ((lm_i h w2 x4.toNatClampNeg) &&& 15)), some (.int ((lm_i h w2 x4.toNatClampNeg) >>> (4 &&& 31))), some (.int 0)] f_15_221 rfl (Nat.le_of_ble_eq_true rfl) rfl rfl ?_
                    refine ls_goto 28 f_15_224 rfl ?_
                    exact ls_mask [true, false, true, true, true, true, false, false, false] [some (.ref 18), none, some (.ref w2), some (.int x3), some (.int (x4 + 1)), some (.int (x5 + 1)), none, none, none] rfl hyp
                  · refine ls_iload_n f_15_218 rfl ?_
                    refine ls_istore [some (.ref 18), none, some (.ref w2), some (.int x3), some (.int x3), some (.int x5), some (.int ((lm_i h w2 x4.toNatClampNeg) &&& 15)), some (.int ((lm_i h w2 x4.toNatClampNeg) >>> (4 &&& 31))), some (.int 0)] f_15_219 (Nat.le_of_ble_eq_true rfl) rfl ?_
                    refine ls_iinc (x5 + 1) [some (.ref 18), none, some (.ref w2), some (.int x3), some (.int x3), some (.int (x5 + 1)), some (.int ((lm_i h w2 x4.toNatClampNeg) &&& 15)), some (.int ((lm_i h w2 x4.toNatClampNeg) >>> (4 &&& 31))), some (.int 0)] f_15_221 rfl (Nat.le_of_ble_eq_true rfl) rfl rfl ?_
                    refine ls_goto 28 f_15_224 rfl ?_
                    exact ls_mask [true, false, true, true, true, true, false, false, false] [some (.ref 18), none, some (.ref w2), some (.int x3), some (.int x3), some (.int (x5 + 1)), none, none, none] rfl hyp
            · refine ls_iload f_15_169 rfl ?_
              refine ls_bipush 13 f_15_171 (by decide) ?_
              refine ls_icmp_eq 183 f_15_173 rfl hyp (fun _ hyp => ?_) (fun _ hyp => ?_)
              · refine ls_aload_n f_15_183 rfl ?_
                refine ls_iload f_15_184 rfl ?_
                refine ls_iload f_15_186 rfl ?_
                refine ls_iconst 1 f_15_188 (by decide) ?_
                refine ls_icmp_ne 196 f_15_189 rfl hyp (fun _ hyp => ?_) (fun _ hyp => ?_)
                · refine ls_iconst 1 f_15_192 (by decide) ?_
                  refine ls_goto 197 f_15_193 rfl ?_
                  refine ls_invV (a := 18) f_15_197 q_15_42 [.int ((lm_i h w2 x4.toNatClampNeg) &&& 15), .int 1] [] rfl (Nat.le_of_ble_eq_true rfl) (lm_Lay_si hl _ _ _) S_18 ow_19 ?_
                  refine ls_call hyp (lm_Lay_si hl _ _ _) (fun _ h7 hl7 hyp => ?_)
                  refine ls_retV hyp (fun hyp => ?_)
                  refine ls_goto 211 f_15_200 rfl ?_
                  refine ls_aload_n f_15_211 rfl ?_
                  refine ls_getI f_15_212 p_15_23 hl7 S_18 ?_
                  refine ls_if_eq 221 f_15_215 rfl hyp (fun _ hyp => ?_) (fun _ hyp => ?_)
                  · refine ls_iinc (x5 + 1) [some (.ref 18), none, some (.ref w2), some (.int x3), some (.int (x4 + 1)), some (.int (x5 + 1)), some (.int ((lm_i h w2 x4.toNatClampNeg) &&& 15)), some (.int ((lm_i h w2 x4.toNatClampNeg) >>> (4 &&& 31))), none] f_15_221 rfl (Nat.le_of_ble_eq_true rfl) rfl rfl ?_
                    refine ls_goto 28 f_15_224 rfl ?_
                    exact ls_mask [true, false, true, true, true, true, false, false, false] [some (.ref 18), none, some (.ref w2), some (.int x3), some (.int (x4 + 1)), some (.int (x5 + 1)), none, none, none] rfl hyp
                  · refine ls_iload_n f_15_218 rfl ?_
                    refine ls_istore [some (.ref 18), none, some (.ref w2), some (.int x3), some (.int x3), some (.int x5), some (.int ((lm_i h w2 x4.toNatClampNeg) &&& 15)), some (.int ((lm_i h w2 x4.toNatClampNeg) >>> (4 &&& 31))), none] f_15_219 (Nat.le_of_ble_eq_true rfl) rfl ?_
                    refine ls_iinc (x5 + 1) [some (.ref 18), none, some (.ref w2), some (.int x3), some (.int x3), some (.int (x5 + 1)), some (.int ((lm_i h w2 x4.toNatClampNeg) &&& 15)), some (.int ((lm_i h w2 x4.toNatClampNeg) >>> (4 &&& 31))), none] f_15_221 rfl (Nat.le_of_ble_eq_true rfl) rfl rfl ?_
                    refine ls_goto 28 f_15_224 rfl ?_
                    exact ls_mask [true, false, true, true, true, true, false, false, false] [some (.ref 18), none, some (.ref w2), some (.int x3), some (.int x3), some (.int (x5 + 1)), none, none, none] rfl hyp
                · refine ls_iconst 0 f_15_196 (by decide) ?_
                  refine ls_invV (a := 18) f_15_197 q_15_42 [.int ((lm_i h w2 x4.toNatClampNeg) &&& 15), .int 0] [] rfl (Nat.le_of_ble_eq_true rfl) (lm_Lay_si hl _ _ _) S_18 ow_19 ?_
                  refine ls_call hyp (lm_Lay_si hl _ _ _) (fun _ h8 hl8 hyp => ?_)
                  refine ls_retV hyp (fun hyp => ?_)
                  refine ls_goto 211 f_15_200 rfl ?_
                  refine ls_aload_n f_15_211 rfl ?_
                  refine ls_getI f_15_212 p_15_23 hl8 S_18 ?_
                  refine ls_if_eq 221 f_15_215 rfl hyp (fun _ hyp => ?_) (fun _ hyp => ?_)
                  · refine ls_iinc (x5 + 1) [some (.ref 18), none, some (.ref w2), some (.int x3), some (.int (x4 + 1)), some (.int (x5 + 1)), some (.int ((lm_i h w2 x4.toNatClampNeg) &&& 15)), some (.int ((lm_i h w2 x4.toNatClampNeg) >>> (4 &&& 31))), none] f_15_221 rfl (Nat.le_of_ble_eq_true rfl) rfl rfl ?_
                    refine ls_goto 28 f_15_224 rfl ?_
                    exact ls_mask [true, false, true, true, true, true, false, false, false] [some (.ref 18), none, some (.ref w2), some (.int x3), some (.int (x4 + 1)), some (.int (x5 + 1)), none, none, none] rfl hyp
                  · refine ls_iload_n f_15_218 rfl ?_
                    refine ls_istore [some (.ref 18), none, some (.ref w2), some (.int x3), some (.int x3), some (.int x5), some (.int ((lm_i h w2 x4.toNatClampNeg) &&& 15)), some (.int ((lm_i h w2 x4.toNatClampNeg) >>> (4 &&& 31))), none] f_15_219 (Nat.le_of_ble_eq_true rfl) rfl ?_
                    refine ls_iinc (x5 + 1) [some (.ref 18), none, some (.ref w2), some (.int x3), some (.int x3), some (.int (x5 + 1)), some (.int ((lm_i h w2 x4.toNatClampNeg) &&& 15)), some (.int ((lm_i h w2 x4.toNatClampNeg) >>> (4 &&& 31))), none] f_15_221 rfl (Nat.le_of_ble_eq_true rfl) rfl rfl ?_
                    refine ls_goto 28 f_15_224 rfl ?_
                    exact ls_mask [true, false, true, true, true, true, false, false, false] [some (.ref 18), none, some (.ref w2), some (.int x3), some (.int x3), some (.int (x5 + 1)), none, none, none] rfl hyp
              · refine ls_iload f_15_176 rfl ?_
                refine ls_bipush 14 f_15_178 (by decide) ?_
                refine ls_icmp_ne 203 f_15_180 rfl hyp (fun _ hyp => ?_) (fun _ hyp => ?_)
                · refine ls_aload_n f_15_183 rfl ?_
                  refine ls_iload f_15_184 rfl ?_
                  refine ls_iload f_15_186 rfl ?_
                  refine ls_iconst 1 f_15_188 (by decide) ?_
                  refine ls_icmp_ne 196 f_15_189 rfl hyp (fun _ hyp => ?_) (fun _ hyp => ?_)
                  · refine ls_iconst 1 f_15_192 (by decide) ?_
                    refine ls_goto 197 f_15_193 rfl ?_
                    refine ls_invV (a := 18) f_15_197 q_15_42 [.int ((lm_i h w2 x4.toNatClampNeg) &&& 15), .int 1] [] rfl (Nat.le_of_ble_eq_true rfl) (lm_Lay_si hl _ _ _) S_18 ow_19 ?_
                    refine ls_call hyp (lm_Lay_si hl _ _ _) (fun _ h9 hl9 hyp => ?_)
                    refine ls_retV hyp (fun hyp => ?_)
                    refine ls_goto 211 f_15_200 rfl ?_
                    refine ls_aload_n f_15_211 rfl ?_
                    refine ls_getI f_15_212 p_15_23 hl9 S_18 ?_
                    refine ls_if_eq 221 f_15_215 rfl hyp (fun _ hyp => ?_) (fun _ hyp => ?_)
                    · refine ls_iinc (x5 + 1) [some (.ref 18), none, some (.ref w2), some (.int x3), some (.int (x4 + 1)), some (.int (x5 + 1)), some (.int ((lm_i h w2 x4.toNatClampNeg) &&& 15)), some (.int ((lm_i h w2 x4.toNatClampNeg) >>> (4 &&& 31))), none] f_15_221 rfl (Nat.le_of_ble_eq_true rfl) rfl rfl ?_
                      refine ls_goto 28 f_15_224 rfl ?_
                      exact ls_mask [true, false, true, true, true, true, false, false, false] [some (.ref 18), none, some (.ref w2), some (.int x3), some (.int (x4 + 1)), some (.int (x5 + 1)), none, none, none] rfl hyp
                    · refine ls_iload_n f_15_218 rfl ?_
                      refine ls_istore [some (.ref 18), none, some (.ref w2), some (.int x3), some (.int x3), some (.int x5), some (.int ((lm_i h w2 x4.toNatClampNeg) &&& 15)), some (.int ((lm_i h w2 x4.toNatClampNeg) >>> (4 &&& 31))), none] f_15_219 (Nat.le_of_ble_eq_true rfl) rfl ?_
                      refine ls_iinc (x5 + 1) [some (.ref 18), none, some (.ref w2), some (.int x3), some (.int x3), some (.int (x5 + 1)), some (.int ((lm_i h w2 x4.toNatClampNeg) &&& 15)), some (.int ((lm_i h w2 x4.toNatClampNeg) >>> (4 &&& 31))), none] f_15_221 rfl (Nat.le_of_ble_eq_true rfl) rfl rfl ?_
                      refine ls_goto 28 f_15_224 rfl ?_
                      exact ls_mask [true, false, true, true, true, true, false, false, false] [some (.ref 18), none, some (.ref w2), some (.int x3), some (.int x3), some (.int (x5 + 1)), none, none, none] rfl hyp
                  · refine ls_iconst 0 f_15_196 (by decide) ?_
                    refine ls_invV (a := 18) f_15_197 q_15_42 [.int ((lm_i h w2 x4.toNatClampNeg) &&& 15), .int 0] [] rfl (Nat.le_of_ble_eq_true rfl) (lm_Lay_si hl _ _ _) S_18 ow_19 ?_
                    refine ls_call hyp (lm_Lay_si hl _ _ _) (fun _ h10 hl10 hyp => ?_)
                    refine ls_retV hyp (fun hyp => ?_)
                    refine ls_goto 211 f_15_200 rfl ?_
                    refine ls_aload_n f_15_211 rfl ?_
                    refine ls_getI f_15_212 p_15_23 hl10 S_18 ?_
                    refine ls_if_eq 221 f_15_215 rfl hyp (fun _ hyp => ?_) (fun _ hyp => ?_)
                    · refine ls_iinc (x5 + 1) [some (.ref 18), none, some (.ref w2), some (.int x3), some (.int (x4 + 1)), some (.int (x5 + 1)), some (.int ((lm_i h w2 x4.toNatClampNeg) &&& 15)), some (.int ((lm_i h w2 x4.toNatClampNeg) >>> (4 &&& 31))), none] f_15_221 rfl (Nat.le_of_ble_eq_true rfl) rfl rfl ?_
                      refine ls_goto 28 f_15_224 rfl ?_
                      exact ls_mask [true, false, true, true, true, true, false, false, false] [some (.ref 18), none, some (.ref w2), some (.int x3), some (.int (x4 + 1)), some (.int (x5 + 1)), none, none, none] rfl hyp
                    · refine ls_iload_n f_15_218 rfl ?_
                      refine ls_istore [some (.ref 18), none, some (.ref w2), some (.int x3), some (.int x3), some (.int x5), some (.int ((lm_i h w2 x4.toNatClampNeg) &&& 15)), some (.int ((lm_i h w2 x4.toNatClampNeg) >>> (4 &&& 31))), none] f_15_219 (Nat.le_of_ble_eq_true rfl) rfl ?_
                      refine ls_iinc (x5 + 1) [some (.ref 18), none, some (.ref w2), some (.int x3), some (.int x3), some (.int (x5 + 1)), some (.int ((lm_i h w2 x4.toNatClampNeg) &&& 15)), some (.int ((lm_i h w2 x4.toNatClampNeg) >>> (4 &&& 31))), none] f_15_221 rfl (Nat.le_of_ble_eq_true rfl) rfl rfl ?_
                      refine ls_goto 28 f_15_224 rfl ?_
                      exact ls_mask [true, false, true, true, true, true, false, false, false] [some (.ref 18), none, some (.ref w2), some (.int x3), some (.int x3), some (.int (x5 + 1)), none, none, none] rfl hyp
                · refine ls_aload_n f_15_203 rfl ?_
                  refine ls_iload f_15_204 rfl ?_
                  refine ls_iload f_15_206 rfl ?_
                  refine ls_invV (a := 18) f_15_208 q_15_46 [.int ((lm_i h w2 x4.toNatClampNeg) &&& 15), .int ((lm_i h w2 x4.toNatClampNeg) >>> (4 &&& 31))] [] rfl (Nat.le_of_ble_eq_true rfl) (lm_Lay_si hl _ _ _) S_18 ow_20 ?_
                  refine ls_call hyp (lm_Lay_si hl _ _ _) (fun _ h11 hl11 hyp => ?_)
                  refine ls_retV hyp (fun hyp => ?_)
                  refine ls_aload_n f_15_211 rfl ?_
                  refine ls_getI f_15_212 p_15_23 hl11 S_18 ?_
                  refine ls_if_eq 221 f_15_215 rfl hyp (fun _ hyp => ?_) (fun _ hyp => ?_)
                  · refine ls_iinc (x5 + 1) [some (.ref 18), none, some (.ref w2), some (.int x3), some (.int (x4 + 1)), some (.int (x5 + 1)), some (.int ((lm_i h w2 x4.toNatClampNeg) &&& 15)), some (.int ((lm_i h w2 x4.toNatClampNeg) >>> (4 &&& 31))), none] f_15_221 rfl (Nat.le_of_ble_eq_true rfl) rfl rfl ?_
                    refine ls_goto 28 f_15_224 rfl ?_
                    exact ls_mask [true, false, true, true, true, true, false, false, false] [some (.ref 18), none, some (.ref w2), some (.int x3), some (.int (x4 + 1)), some (.int (x5 + 1)), none, none, none] rfl hyp
                  · refine ls_iload_n f_15_218 rfl ?_
                    refine ls_istore [some (.ref 18), none, some (.ref w2), some (.int x3), some (.int x3), some (.int x5), some (.int ((lm_i h w2 x4.toNatClampNeg) &&& 15)), some (.int ((lm_i h w2 x4.toNatClampNeg) >>> (4 &&& 31))), none] f_15_219 (Nat.le_of_ble_eq_true rfl) rfl ?_
                    refine ls_iinc (x5 + 1) [some (.ref 18), none, some (.ref w2), some (.int x3), some (.int x3), some (.int (x5 + 1)), some (.int ((lm_i h w2 x4.toNatClampNeg) &&& 15)), some (.int ((lm_i h w2 x4.toNatClampNeg) >>> (4 &&& 31))), none] f_15_221 rfl (Nat.le_of_ble_eq_true rfl) rfl rfl ?_
                    refine ls_goto 28 f_15_224 rfl ?_
                    exact ls_mask [true, false, true, true, true, true, false, false, false] [some (.ref 18), none, some (.ref w2), some (.int x3), some (.int x3), some (.int (x5 + 1)), none, none, none] rfl hyp
      · exact ls_return f_15_227 rV_15 hyp
  · exact ls_return f_15_227 rV_15 hyp
theorem e_16 {d : Nat} {h : lm_H} {K : Int32 → lm_H → Prop} (hl : lm_Lay h) (hyp : (if 0 < (lm_i h 18 2) then (lm_in ((lm_i h 18 2) - 1) 400 False (if (lg_cmp (lm_l h 20 (((lm_i h 18 2) - 1).toNatClampNeg)) 0) = 0 then (K 0 h) else (K 1 h))) else (K 0 h))) : lm_call (d + 1) 16 [.ref 18] h (lm_kI K) := by
  refine ls_enter [some (.ref 18)] ml_16 (Nat.le_of_ble_eq_true rfl) rfl ?_
  refine ls_aload_n f_16_0 rfl ?_
  refine ls_getI f_16_1 p_16_19 hl S_18 ?_
  refine ls_if_le 27 f_16_4 rfl hyp (fun _ hyp => ?_) (fun _ hyp => ?_)
  · refine ls_aload_n f_16_7 rfl ?_
    refine ls_getR f_16_8 p_16_15 hl S_18 F_18_1 ?_
    refine ls_aload_n f_16_11 rfl ?_
    refine ls_getI f_16_12 p_16_19 hl S_18 ?_
    refine ls_iconst 1 f_16_15 (by decide) ?_
    refine ls_isub ((lm_i h 18 2) - 1) f_16_16 rfl ?_
    refine ls_lald f_16_17 hl S_20 hyp (fun hyp => ?_)
    refine ls_lconst 0 f_16_18 (by decide) ?_
    refine ls_lcmp f_16_19 ?_
    refine ls_if_eq 27 f_16_20 rfl hyp (fun _ hyp => ?_) (fun _ hyp => ?_)
    · refine ls_iconst 0 f_16_27 (by decide) ?_
      exact ls_zreturn f_16_28 rZ_16 (by decide) hyp
    · refine ls_iconst 1 f_16_23 (by decide) ?_
      refine ls_goto 28 f_16_24 rfl ?_
      exact ls_zreturn f_16_28 rZ_16 (by decide) hyp
  · refine ls_iconst 0 f_16_27 (by decide) ?_
    exact ls_zreturn f_16_28 rZ_16 (by decide) hyp
theorem e_17 {d : Nat} {h : lm_H} {K : lm_H → Prop} (x1 : Int64) (hl : lm_Lay h) (hyp : (if (lm_i h 18 2) < 0 then (K h) else (if (lm_i h 18 2) < 400 then (lm_in (lm_i h 18 2) 400 False (K (lm_si (lm_sl h 20 ((lm_i h 18 2).toNatClampNeg) x1) 18 2 ((lm_i h 18 2) + 1)))) else (K h)))) : lm_call (d + 1) 17 [.ref 18, .long x1] h (lm_kV K) := by
  refine ls_enter [some (.ref 18), some (.long x1), none] ml_17 (Nat.le_of_ble_eq_true rfl) rfl ?_
  refine ls_aload_n f_17_0 rfl ?_
  refine ls_getI f_17_1 p_17_19 hl S_18 ?_
  refine ls_if_lt 39 f_17_4 rfl hyp (fun _ hyp => ?_) (fun _ hyp => ?_)
  · exact ls_return f_17_39 rV_17 hyp
  · refine ls_aload_n f_17_7 rfl ?_
    refine ls_getI f_17_8 p_17_19 hl S_18 ?_
    refine ls_aload_n f_17_11 rfl ?_
    refine ls_getR f_17_12 p_17_15 hl S_18 F_18_1 ?_
    refine ls_alen f_17_15 hl S_20 rfl ?_
    refine ls_top 400 (by decide) ?_
    refine ls_icmp_ge 39 f_17_16 rfl hyp (fun _ hyp => ?_) (fun _ hyp => ?_)
    · refine ls_aload_n f_17_19 rfl ?_
      refine ls_getR f_17_20 p_17_15 hl S_18 F_18_1 ?_
      refine ls_aload_n f_17_23 rfl ?_
      refine ls_getI f_17_24 p_17_19 hl S_18 ?_
      refine ls_lload_n f_17_27 rfl ?_
      refine ls_last f_17_28 hl S_20 hyp (fun hyp => ?_)
      refine ls_aload_n f_17_29 rfl ?_
      refine ls_dup f_17_30 rfl ?_
      refine ls_getI f_17_31 p_17_19 (lm_Lay_sl hl _ _ _) S_18 ?_
      refine ls_top (lm_i h 18 2) rfl ?_
      refine ls_iconst 1 f_17_34 (by decide) ?_
      refine ls_iadd ((lm_i h 18 2) + 1) f_17_35 rfl ?_
      refine ls_putI f_17_36 p_17_19 (lm_Lay_sl hl _ _ _) S_18 rfl ?_
      exact ls_return f_17_39 rV_17 hyp
    · exact ls_return f_17_39 rV_17 hyp
theorem e_18 {d : Nat} {h : lm_H} {K : Int64 → lm_H → Prop} (hl : lm_Lay h) (hyp : (if 0 < (lm_i h 18 2) then (lm_in ((lm_i h 18 2) - 1) 400 False (K (lm_l h 20 (((lm_i h 18 2) - 1).toNatClampNeg)) (lm_si h 18 2 ((lm_i h 18 2) - 1)))) else (K 0 h))) : lm_call (d + 1) 18 [.ref 18] h (lm_kL K) := by
  refine ls_enter [some (.ref 18)] ml_18 (Nat.le_of_ble_eq_true rfl) rfl ?_
  refine ls_aload_n f_18_0 rfl ?_
  refine ls_getI f_18_1 p_18_19 hl S_18 ?_
  refine ls_if_gt 9 f_18_4 rfl hyp (fun _ hyp => ?_) (fun _ hyp => ?_)
  · refine ls_aload_n f_18_9 rfl ?_
    refine ls_dup f_18_10 rfl ?_
    refine ls_getI f_18_11 p_18_19 hl S_18 ?_
    refine ls_iconst 1 f_18_14 (by decide) ?_
    refine ls_isub ((lm_i h 18 2) - 1) f_18_15 rfl ?_
    refine ls_putI f_18_16 p_18_19 hl S_18 rfl ?_
    refine ls_aload_n f_18_19 rfl ?_
    refine ls_getR f_18_20 p_18_15 (lm_Lay_si hl _ _ _) S_18 F_18_1 ?_
    refine ls_aload_n f_18_23 rfl ?_
    refine ls_getI f_18_24 p_18_19 (lm_Lay_si hl _ _ _) S_18 ?_
    refine ls_top ((lm_i h 18 2) - 1) rfl ?_
    refine ls_lald f_18_27 (lm_Lay_si hl _ _ _) S_20 hyp (fun hyp => ?_)
    refine ls_topl (lm_l h 20 (((lm_i h 18 2) - 1).toNatClampNeg)) rfl ?_
    exact ls_lreturn f_18_28 rZ_18 rfl hyp
  · refine ls_lconst 0 f_18_7 (by decide) ?_
    exact ls_lreturn f_18_8 rZ_18 rfl hyp
theorem e_19 {d : Nat} {h : lm_H} {K : lm_H → Prop} (x1 : Int32) (x2 : Int32) (hl : lm_Lay h) (hyp : (if x2 = 0 then (if x1 = 14 then (K (lm_si h 18 5 1)) else (lm_call (d) 18 [.ref 18] h (lm_kL fun r2 h1 => K (lm_si h1 18 4 ((if (if r2 < 99 then r2 else 99) < (-99) then (-99) else (if r2 < 99 then r2 else 99)).toInt32))))) else (lm_call (d) 18 [.ref 18] h (lm_kL fun r4 h3 => (if (lg_cmp r4 0) = 0 then (K h3) else (if x1 = 14 then (K (lm_si h3 18 5 1)) else (lm_call (d) 18 [.ref 18] h3 (lm_kL fun r6 h5 => K (lm_si h5 18 4 ((if (if r6 < 99 then r6 else 99) < (-99) then (-99) else (if r6 < 99 then r6 else 99)).toInt32)))))))))) : lm_call (d + 1) 19 [.ref 18, .int x1, .int x2] h (lm_kV K) := by
  refine ls_enter [some (.ref 18), some (.int x1), some (.int x2), none] ml_19 (Nat.le_of_ble_eq_true rfl) rfl ?_
  refine ls_iload_n f_19_0 rfl ?_
  refine ls_if_eq 13 f_19_1 rfl hyp (fun _ hyp => ?_) (fun _ hyp => ?_)
  · refine ls_iconst 1 f_19_13 (by decide) ?_
    refine ls_goto 18 f_19_14 rfl ?_
    refine ls_istore_n [some (.ref 18), some (.int x1), some (.int x2), some (.int 1)] f_19_18 (Nat.le_of_ble_eq_true rfl) rfl ?_
    refine ls_iload_n f_19_19 rfl ?_
    refine ls_if_ne_F 24 f_19_20 rfl (by decide) ?_
    refine ls_iload_n f_19_24 rfl ?_
    refine ls_bipush 14 f_19_25 (by decide) ?_
    refine ls_icmp_ne 38 f_19_27 rfl hyp (fun _ hyp => ?_) (fun _ hyp => ?_)
    · refine ls_aload_n f_19_30 rfl ?_
      refine ls_iconst 1 f_19_31 (by decide) ?_
      refine ls_putI f_19_32 p_19_30 hl S_18 (by decide) ?_
      refine ls_goto 59 f_19_35 rfl ?_
      exact ls_return f_19_59 rV_19 hyp
    · refine ls_aload_n f_19_38 rfl ?_
      refine ls_ldc2 f_19_39 k_19_54 ?_
      refine ls_ldc2 f_19_42 k_19_56 ?_
      refine ls_aload_n f_19_45 rfl ?_
      refine ls_invV (a := 18) f_19_46 q_19_50 [] [.long 99, .long (-99), .ref 18] rfl (Nat.le_of_ble_eq_true rfl) hl S_18 ow_18 ?_
      refine ls_call hyp hl (fun _ h1 hl1 hyp => ?_)
      refine ls_retL hyp (fun r2 hyp => ?_)
      refine ls_mathL (v := if r2 < 99 then r2 else 99) 1005 f_19_49 q_19_58 (Or.inr ⟨rfl, rfl⟩) (Nat.le_of_ble_eq_true rfl) ?_
      refine ls_mathL (v := if (if r2 < 99 then r2 else 99) < (-99) then (-99) else (if r2 < 99 then r2 else 99)) 1004 f_19_52 q_19_64 (Or.inl ⟨rfl, rfl⟩) (Nat.le_of_ble_eq_true rfl) ?_
      refine ls_l2i ((if (if r2 < 99 then r2 else 99) < (-99) then (-99) else (if r2 < 99 then r2 else 99)).toInt32) f_19_55 rfl ?_
      refine ls_putI f_19_56 p_19_27 hl1 S_18 rfl ?_
      exact ls_return f_19_59 rV_19 hyp
  · refine ls_aload_n f_19_4 rfl ?_
    refine ls_invV (a := 18) f_19_5 q_19_50 [] [] rfl (Nat.le_of_ble_eq_true rfl) hl S_18 ow_18 ?_
    refine ls_call hyp hl (fun _ h3 hl3 hyp => ?_)
    refine ls_retL hyp (fun r4 hyp => ?_)
    refine ls_lconst 0 f_19_8 (by decide) ?_
    refine ls_lcmp f_19_9 ?_
    refine ls_if_eq 17 f_19_10 rfl hyp (fun _ hyp => ?_) (fun _ hyp => ?_)
    · refine ls_iconst 0 f_19_17 (by decide) ?_
      refine ls_istore_n [some (.ref 18), some (.int x1), some (.int x2), some (.int 0)] f_19_18 (Nat.le_of_ble_eq_true rfl) rfl ?_
      refine ls_iload_n f_19_19 rfl ?_
      refine ls_if_ne_T 24 f_19_20 rfl (by decide) ?_
      exact ls_return f_19_23 rV_19 hyp
    · refine ls_iconst 1 f_19_13 (by decide) ?_
      refine ls_goto 18 f_19_14 rfl ?_
      refine ls_istore_n [some (.ref 18), some (.int x1), some (.int x2), some (.int 1)] f_19_18 (Nat.le_of_ble_eq_true rfl) rfl ?_
      refine ls_iload_n f_19_19 rfl ?_
      refine ls_if_ne_F 24 f_19_20 rfl (by decide) ?_
      refine ls_iload_n f_19_24 rfl ?_
      refine ls_bipush 14 f_19_25 (by decide) ?_
      refine ls_icmp_ne 38 f_19_27 rfl hyp (fun _ hyp => ?_) (fun _ hyp => ?_)
      · refine ls_aload_n f_19_30 rfl ?_
        refine ls_iconst 1 f_19_31 (by decide) ?_
        refine ls_putI f_19_32 p_19_30 hl3 S_18 (by decide) ?_
        refine ls_goto 59 f_19_35 rfl ?_
        exact ls_return f_19_59 rV_19 hyp
      · refine ls_aload_n f_19_38 rfl ?_
        refine ls_ldc2 f_19_39 k_19_54 ?_
        refine ls_ldc2 f_19_42 k_19_56 ?_
        refine ls_aload_n f_19_45 rfl ?_
        refine ls_invV (a := 18) f_19_46 q_19_50 [] [.long 99, .long (-99), .ref 18] rfl (Nat.le_of_ble_eq_true rfl) hl3 S_18 ow_18 ?_
        refine ls_call hyp hl3 (fun _ h5 hl5 hyp => ?_)
        refine ls_retL hyp (fun r6 hyp => ?_)
        refine ls_mathL (v := if r6 < 99 then r6 else 99) 1005 f_19_49 q_19_58 (Or.inr ⟨rfl, rfl⟩) (Nat.le_of_ble_eq_true rfl) ?_
        refine ls_mathL (v := if (if r6 < 99 then r6 else 99) < (-99) then (-99) else (if r6 < 99 then r6 else 99)) 1004 f_19_52 q_19_64 (Or.inl ⟨rfl, rfl⟩) (Nat.le_of_ble_eq_true rfl) ?_
        refine ls_l2i ((if (if r6 < 99 then r6 else 99) < (-99) then (-99) else (if r6 < 99 then r6 else 99)).toInt32) f_19_55 rfl ?_
        refine ls_putI f_19_56 p_19_27 hl5 S_18 rfl ?_
        exact ls_return f_19_59 rV_19 hyp
theorem e_20 {d : Nat} {h : lm_H} {K : lm_H → Prop} (x1 : Int32) (x2 : Int32) (hl : lm_Lay h) (hyp : (if x1 = 0 then (lm_call (d) 17 [.ref 18, .long x2.toInt64] h (lm_kV fun h1 => K h1)) else (if x1 = 1 then (if x2 < 0 then (lm_call (d) 17 [.ref 18, .long 0] h (lm_kV fun h2 => K h2)) else (if x2 < 7 then (lm_in x2 7 False (lm_call (d) 17 [.ref 18, .long ((lm_i h 19 x2.toNatClampNeg).toInt64)] h (lm_kV fun h3 => K h3))) else (lm_call (d) 17 [.ref 18, .long 0] h (lm_kV fun h4 => K h4)))) else (if x1 = 9 then (lm_call (d) 18 [.ref 18] h (lm_kL fun r6 h5 => (if (lg_cmp r6 0) = 0 then (lm_call (d) 17 [.ref 18, .long 1] h5 (lm_kV fun h7 => K h7)) else (lm_call (d) 17 [.ref 18, .long 0] h5 (lm_kV fun h8 => K h8))))) else (lm_call (d) 18 [.ref 18] h (lm_kL fun r10 h9 => lm_call (d) 18 [.ref 18] h9 (lm_kL fun r12 h11 => lm_call (d) 21 [.ref 18, .int x1, .long r12, .long r10] h11 (lm_kL fun r14 h13 => lm_call (d) 17 [.ref 18, .long r14] h13 (lm_kV fun h15 => K h15))))))))) : lm_call (d + 1) 20 [.ref 18, .int x1, .int x2] h (lm_kV K) := by
  refine ls_enter [some (.ref 18), some (.int x1), some (.int x2), none, none, none, none] ml_20 (Nat.le_of_ble_eq_true rfl) rfl ?_
  refine ls_iload_n f_20_0 rfl ?_
  refine ls_look f_20_1 (by decide) ?_
  refine ls_swC (v := 0) (by decide) hyp (fun _ hyp => lm_tg_of (t := 36) rfl ?_) (fun _ hyp => ?_)
  · refine ls_aload_n f_20_36 rfl ?_
    refine ls_iload_n f_20_37 rfl ?_
    refine ls_i2l x2.toInt64 f_20_38 rfl ?_
    refine ls_invV (a := 18) f_20_39 q_20_67 [.long x2.toInt64] [] rfl (Nat.le_of_ble_eq_true rfl) hl S_18 ow_17 ?_
    refine ls_call hyp hl (fun _ h1 hl1 hyp => ?_)
    refine ls_retV hyp (fun hyp => ?_)
    refine ls_goto 117 f_20_42 rfl ?_
    exact ls_return f_20_117 rV_20 hyp
  refine ls_swC (v := 1) (by decide) hyp (fun _ hyp => lm_tg_of (t := 45) rfl ?_) (fun _ hyp => ?_)
  · refine ls_aload_n f_20_45 rfl ?_
    refine ls_iload_n f_20_46 rfl ?_
    refine ls_if_lt 66 f_20_47 rfl hyp (fun _ hyp => ?_) (fun _ hyp => ?_)
    · refine ls_lconst 0 f_20_66 (by decide) ?_
      refine ls_invV (a := 18) f_20_67 q_20_67 [.long 0] [] rfl (Nat.le_of_ble_eq_true rfl) hl S_18 ow_17 ?_
      refine ls_call hyp hl (fun _ h2 hl2 hyp => ?_)
      refine ls_retV hyp (fun hyp => ?_)
      refine ls_goto 117 f_20_70 rfl ?_
      exact ls_return f_20_117 rV_20 hyp
    · refine ls_iload_n f_20_50 rfl ?_
      refine ls_bipush 7 f_20_51 (by decide) ?_
      refine ls_icmp_ge 66 f_20_53 rfl hyp (fun _ hyp => ?_) (fun _ hyp => ?_)
      · refine ls_aload_n f_20_56 rfl ?_
        refine ls_getR f_20_57 p_20_11 hl S_18 F_18_0 ?_
        refine ls_iload_n f_20_60 rfl ?_
        refine ls_iald f_20_61 hl S_19 hyp (fun hyp => ?_)
        refine ls_i2l ((lm_i h 19 x2.toNatClampNeg).toInt64) f_20_62 rfl ?_
        refine ls_goto 67 f_20_63 rfl ?_
        refine ls_invV (a := 18) f_20_67 q_20_67 [.long ((lm_i h 19 x2.toNatClampNeg).toInt64)] [] rfl (Nat.le_of_ble_eq_true rfl) hl S_18 ow_17 ?_
        refine ls_call hyp hl (fun _ h3 hl3 hyp => ?_)
        refine ls_retV hyp (fun hyp => ?_)
        refine ls_goto 117 f_20_70 rfl ?_
        exact ls_return f_20_117 rV_20 hyp
      · refine ls_lconst 0 f_20_66 (by decide) ?_
        refine ls_invV (a := 18) f_20_67 q_20_67 [.long 0] [] rfl (Nat.le_of_ble_eq_true rfl) hl S_18 ow_17 ?_
        refine ls_call hyp hl (fun _ h4 hl4 hyp => ?_)
        refine ls_retV hyp (fun hyp => ?_)
        refine ls_goto 117 f_20_70 rfl ?_
        exact ls_return f_20_117 rV_20 hyp
  refine ls_swC (v := 9) (by decide) hyp (fun _ hyp => lm_tg_of (t := 73) rfl ?_) (fun _ hyp => ?_)
  · refine ls_aload_n f_20_73 rfl ?_
    refine ls_aload_n f_20_74 rfl ?_
    refine ls_invV (a := 18) f_20_75 q_20_50 [] [.ref 18] rfl (Nat.le_of_ble_eq_true rfl) hl S_18 ow_18 ?_
    refine ls_call hyp hl (fun _ h5 hl5 hyp => ?_)
    refine ls_retL hyp (fun r6 hyp => ?_)
    refine ls_lconst 0 f_20_78 (by decide) ?_
    refine ls_lcmp f_20_79 ?_
    refine ls_if_ne 87 f_20_80 rfl hyp (fun _ hyp => ?_) (fun _ hyp => ?_)
    · refine ls_lconst 1 f_20_83 (by decide) ?_
      refine ls_goto 88 f_20_84 rfl ?_
      refine ls_invV (a := 18) f_20_88 q_20_67 [.long 1] [] rfl (Nat.le_of_ble_eq_true rfl) hl5 S_18 ow_17 ?_
      refine ls_call hyp hl5 (fun _ h7 hl7 hyp => ?_)
      refine ls_retV hyp (fun hyp => ?_)
      refine ls_goto 117 f_20_91 rfl ?_
      exact ls_return f_20_117 rV_20 hyp
    · refine ls_lconst 0 f_20_87 (by decide) ?_
      refine ls_invV (a := 18) f_20_88 q_20_67 [.long 0] [] rfl (Nat.le_of_ble_eq_true rfl) hl5 S_18 ow_17 ?_
      refine ls_call hyp hl5 (fun _ h8 hl8 hyp => ?_)
      refine ls_retV hyp (fun hyp => ?_)
      refine ls_goto 117 f_20_91 rfl ?_
      exact ls_return f_20_117 rV_20 hyp
  refine ls_swD ?_
  refine lm_tg_of (t := 94) rfl ?_
  refine ls_aload_n f_20_94 rfl ?_
  refine ls_invV (a := 18) f_20_95 q_20_50 [] [] rfl (Nat.le_of_ble_eq_true rfl) hl S_18 ow_18 ?_
  refine ls_call hyp hl (fun _ h9 hl9 hyp => ?_)
  refine ls_retL hyp (fun r10 hyp => ?_)
  refine ls_lstore_n [some (.ref 18), some (.int x1), some (.int x2), some (.long r10), none, none, none] f_20_98 (Nat.le_of_ble_eq_true rfl) rfl ?_
  refine ls_aload_n f_20_99 rfl ?_
  refine ls_invV (a := 18) f_20_100 q_20_50 [] [] rfl (Nat.le_of_ble_eq_true rfl) hl9 S_18 ow_18 ?_
  refine ls_call hyp hl9 (fun _ h11 hl11 hyp => ?_)
  refine ls_retL hyp (fun r12 hyp => ?_)
  refine ls_lstore [some (.ref 18), some (.int x1), some (.int x2), some (.long r10), none, some (.long r12), none] f_20_103 (Nat.le_of_ble_eq_true rfl) rfl ?_
  refine ls_aload_n f_20_105 rfl ?_
  refine ls_aload_n f_20_106 rfl ?_
  refine ls_iload_n f_20_107 rfl ?_
  refine ls_lload f_20_108 rfl ?_
  refine ls_lload_n f_20_110 rfl ?_
  refine ls_invV (a := 18) f_20_111 q_20_71 [.int x1, .long r12, .long r10] [.ref 18] rfl (Nat.le_of_ble_eq_true rfl) hl11 S_18 ow_21 ?_
  refine ls_call hyp hl11 (fun _ h13 hl13 hyp => ?_)
  refine ls_retL hyp (fun r14 hyp => ?_)
  refine ls_invV (a := 18) f_20_114 q_20_67 [.long r14] [] rfl (Nat.le_of_ble_eq_true rfl) hl13 S_18 ow_17 ?_
  refine ls_call hyp hl13 (fun _ h15 hl15 hyp => ?_)
  refine ls_retV hyp (fun hyp => ?_)
  exact ls_return f_20_117 rV_20 hyp
theorem e_21 {d : Nat} {h : lm_H} {K : Int64 → lm_H → Prop} (x1 : Int32) (x2 : Int64) (x4 : Int64) (hl : lm_Lay h) (hyp : (if x1 = 2 then (lm_call (d) 22 [.ref 18, .long (x2 + x4)] h (lm_kL fun r2 h1 => K r2 h1)) else (if x1 = 3 then (lm_call (d) 22 [.ref 18, .long (x2 - x4)] h (lm_kL fun r4 h3 => K r4 h3)) else (if x1 = 4 then (lm_call (d) 22 [.ref 18, .long (x2 * x4)] h (lm_kL fun r6 h5 => K r6 h5)) else (if x1 = 5 then (if (lg_cmp x4 0) = 0 then (K 0 (lm_si h 18 3 1)) else ((¬ x4 = 0) ∧ (lm_call (d) 22 [.ref 18, .long (x2 / x4)] h (lm_kL fun r8 h7 => K r8 h7)))) else (if x1 = 6 then (if (lg_cmp x2 x4) < 0 then (K 1 h) else (K 0 h)) else (if x1 = 7 then (if 0 < (lg_cmp x2 x4) then (K 1 h) else (K 0 h)) else (if x1 = 8 then (if (lg_cmp x2 x4) = 0 then (K 1 h) else (K 0 h)) else (if (lg_cmp x4 0) = 0 then (K 0 (lm_si h 18 3 1)) else ((¬ x4 = 0) ∧ (lm_call (d) 22 [.ref 18, .long (x2 / x4)] h (lm_kL fun r10 h9 => K r10 h9)))))))))))) : lm_call (d + 1) 21 [.ref 18, .int x1, .long x2, .long x4] h (lm_kL K) := by
  refine ls_enter [some (.ref 18), some (.int x1), some (.long x2), none, some (.long x4), none] ml_21 (Nat.le_of_ble_eq_true rfl) rfl ?_
  refine ls_iload_n f_21_0 rfl ?_
  refine ls_table f_21_1 (by decide) ?_
  refine ls_swC (v := 2) (by decide) hyp (fun _ hyp => lm_tg_of (t := 83) rfl ?_) (fun _ hyp => ?_)
  · refine ls_aload_n f_21_83 rfl ?_
    refine ls_lload_n f_21_84 rfl ?_
    refine ls_lload f_21_85 rfl ?_
    refine ls_ladd (x2 + x4) f_21_87 rfl ?_
    refine ls_invV (a := 18) f_21_88 q_21_75 [.long (x2 + x4)] [] rfl (Nat.le_of_ble_eq_true rfl) hl S_18 ow_22 ?_
    refine ls_call hyp hl (fun _ h1 hl1 hyp => ?_)
    refine ls_retL hyp (fun r2 hyp => ?_)
    exact ls_lreturn f_21_91 rZ_21 rfl hyp
  refine ls_swC (v := 3) (by decide) hyp (fun _ hyp => lm_tg_of (t := 92) rfl ?_) (fun _ hyp => ?_)
  · refine ls_aload_n f_21_92 rfl ?_
    refine ls_lload_n f_21_93 rfl ?_
    refine ls_lload f_21_94 rfl ?_
    refine ls_lsub (x2 - x4) f_21_96 rfl ?_
    refine ls_invV (a := 18) f_21_97 q_21_75 [.long (x2 - x4)] [] rfl (Nat.le_of_ble_eq_true rfl) hl S_18 ow_22 ?_
    refine ls_call hyp hl (fun _ h3 hl3 hyp => ?_)
    refine ls_retL hyp (fun r4 hyp => ?_)
    exact ls_lreturn f_21_100 rZ_21 rfl hyp
  refine ls_swC (v := 4) (by decide) hyp (fun _ hyp => lm_tg_of (t := 101) rfl ?_) (fun _ hyp => ?_)
  · refine ls_aload_n f_21_101 rfl ?_
    refine ls_lload_n f_21_102 rfl ?_
    refine ls_lload f_21_103 rfl ?_
    refine ls_lmul (x2 * x4) f_21_105 rfl ?_
    refine ls_invV (a := 18) f_21_106 q_21_75 [.long (x2 * x4)] [] rfl (Nat.le_of_ble_eq_true rfl) hl S_18 ow_22 ?_
    refine ls_call hyp hl (fun _ h5 hl5 hyp => ?_)
    refine ls_retL hyp (fun r6 hyp => ?_)
    exact ls_lreturn f_21_109 rZ_21 rfl hyp
  refine ls_swC (v := 5) (by decide) hyp (fun _ hyp => lm_tg_of (t := 110) rfl ?_) (fun _ hyp => ?_)
  · refine ls_lload f_21_110 rfl ?_
    refine ls_lconst 0 f_21_112 (by decide) ?_
    refine ls_lcmp f_21_113 ?_
    refine ls_if_ne 124 f_21_114 rfl hyp (fun _ hyp => ?_) (fun _ hyp => ?_)
    · refine ls_aload_n f_21_117 rfl ?_
      refine ls_iconst 1 f_21_118 (by decide) ?_
      refine ls_putI f_21_119 p_21_23 hl S_18 (by decide) ?_
      refine ls_lconst 0 f_21_122 (by decide) ?_
      exact ls_lreturn f_21_123 rZ_21 rfl hyp
    · refine ls_aload_n f_21_124 rfl ?_
      refine ls_lload_n f_21_125 rfl ?_
      refine ls_lload f_21_126 rfl ?_
      refine ls_ldiv (x2 / x4) f_21_128 hyp.1 rfl ?_
      replace hyp := hyp.2
      refine ls_invV (a := 18) f_21_129 q_21_75 [.long (x2 / x4)] [] rfl (Nat.le_of_ble_eq_true rfl) hl S_18 ow_22 ?_
      refine ls_call hyp hl (fun _ h7 hl7 hyp => ?_)
      refine ls_retL hyp (fun r8 hyp => ?_)
      exact ls_lreturn f_21_132 rZ_21 rfl hyp
  refine ls_swC (v := 6) (by decide) hyp (fun _ hyp => lm_tg_of (t := 44) rfl ?_) (fun _ hyp => ?_)
  · refine ls_lload_n f_21_44 rfl ?_
    refine ls_lload f_21_45 rfl ?_
    refine ls_lcmp f_21_47 ?_
    refine ls_if_ge 55 f_21_48 rfl hyp (fun _ hyp => ?_) (fun _ hyp => ?_)
    · refine ls_lconst 1 f_21_51 (by decide) ?_
      refine ls_goto 56 f_21_52 rfl ?_
      exact ls_lreturn f_21_56 rZ_21 rfl hyp
    · refine ls_lconst 0 f_21_55 (by decide) ?_
      exact ls_lreturn f_21_56 rZ_21 rfl hyp
  refine ls_swC (v := 7) (by decide) hyp (fun _ hyp => lm_tg_of (t := 57) rfl ?_) (fun _ hyp => ?_)
  · refine ls_lload_n f_21_57 rfl ?_
    refine ls_lload f_21_58 rfl ?_
    refine ls_lcmp f_21_60 ?_
    refine ls_if_le 68 f_21_61 rfl hyp (fun _ hyp => ?_) (fun _ hyp => ?_)
    · refine ls_lconst 1 f_21_64 (by decide) ?_
      refine ls_goto 69 f_21_65 rfl ?_
      exact ls_lreturn f_21_69 rZ_21 rfl hyp
    · refine ls_lconst 0 f_21_68 (by decide) ?_
      exact ls_lreturn f_21_69 rZ_21 rfl hyp
  refine ls_swC (v := 8) (by decide) hyp (fun _ hyp => lm_tg_of (t := 70) rfl ?_) (fun _ hyp => ?_)
  · refine ls_lload_n f_21_70 rfl ?_
    refine ls_lload f_21_71 rfl ?_
    refine ls_lcmp f_21_73 ?_
    refine ls_if_ne 81 f_21_74 rfl hyp (fun _ hyp => ?_) (fun _ hyp => ?_)
    · refine ls_lconst 1 f_21_77 (by decide) ?_
      refine ls_goto 82 f_21_78 rfl ?_
      exact ls_lreturn f_21_82 rZ_21 rfl hyp
    · refine ls_lconst 0 f_21_81 (by decide) ?_
      exact ls_lreturn f_21_82 rZ_21 rfl hyp
  refine ls_swD ?_
  refine lm_tg_of (t := 110) rfl ?_
  refine ls_lload f_21_110 rfl ?_
  refine ls_lconst 0 f_21_112 (by decide) ?_
  refine ls_lcmp f_21_113 ?_
  refine ls_if_ne 124 f_21_114 rfl hyp (fun _ hyp => ?_) (fun _ hyp => ?_)
  · refine ls_aload_n f_21_117 rfl ?_
    refine ls_iconst 1 f_21_118 (by decide) ?_
    refine ls_putI f_21_119 p_21_23 hl S_18 (by decide) ?_
    refine ls_lconst 0 f_21_122 (by decide) ?_
    exact ls_lreturn f_21_123 rZ_21 rfl hyp
  · refine ls_aload_n f_21_124 rfl ?_
    refine ls_lload_n f_21_125 rfl ?_
    refine ls_lload f_21_126 rfl ?_
    refine ls_ldiv (x2 / x4) f_21_128 hyp.1 rfl ?_
    replace hyp := hyp.2
    refine ls_invV (a := 18) f_21_129 q_21_75 [.long (x2 / x4)] [] rfl (Nat.le_of_ble_eq_true rfl) hl S_18 ow_22 ?_
    refine ls_call hyp hl (fun _ h9 hl9 hyp => ?_)
    refine ls_retL hyp (fun r10 hyp => ?_)
    exact ls_lreturn f_21_132 rZ_21 rfl hyp
theorem e_22 {d : Nat} {h : lm_H} {K : Int64 → lm_H → Prop} (x1 : Int64) (hl : lm_Lay h) (hyp : (if 0 < (lg_cmp x1 1000000000) then (K x1 (lm_si h 18 3 1)) else (if (lg_cmp x1 (-1000000000)) < 0 then (K x1 (lm_si h 18 3 1)) else (K x1 (lm_si h 18 3 0))))) : lm_call (d + 1) 22 [.ref 18, .long x1] h (lm_kL K) := by
  refine ls_enter [some (.ref 18), some (.long x1), none] ml_22 (Nat.le_of_ble_eq_true rfl) rfl ?_
  refine ls_aload_n f_22_0 rfl ?_
  refine ls_lload_n f_22_1 rfl ?_
  refine ls_ldc2 f_22_2 k_22_79 ?_
  refine ls_lcmp f_22_5 ?_
  refine ls_if_gt 17 f_22_6 rfl hyp (fun _ hyp => ?_) (fun _ hyp => ?_)
  · refine ls_iconst 1 f_22_17 (by decide) ?_
    refine ls_goto 22 f_22_18 rfl ?_
    refine ls_putI f_22_22 p_22_23 hl S_18 (by decide) ?_
    refine ls_lload_n f_22_25 rfl ?_
    exact ls_lreturn f_22_26 rZ_22 rfl hyp
  · refine ls_lload_n f_22_9 rfl ?_
    refine ls_ldc2 f_22_10 k_22_81 ?_
    refine ls_lcmp f_22_13 ?_
    refine ls_if_ge 21 f_22_14 rfl hyp (fun _ hyp => ?_) (fun _ hyp => ?_)
    · refine ls_iconst 1 f_22_17 (by decide) ?_
      refine ls_goto 22 f_22_18 rfl ?_
      refine ls_putI f_22_22 p_22_23 hl S_18 (by decide) ?_
      refine ls_lload_n f_22_25 rfl ?_
      exact ls_lreturn f_22_26 rZ_22 rfl hyp
    · refine ls_iconst 0 f_22_21 (by decide) ?_
      refine ls_putI f_22_22 p_22_23 hl S_18 (by decide) ?_
      refine ls_lload_n f_22_25 rfl ?_
      exact ls_lreturn f_22_26 rZ_22 rfl hyp
theorem e_26 {d : Nat} {h : lm_H} {K : lm_H → Prop} (x2 : Int32) (hl : lm_Lay h) (hyp : lm_W (d + 1) 26 5 [some (.ref 13), some (.ref 12), some (.int x2), some (.int 0), some (.int 0), none] [] h (lm_kV K)) : lm_call (d + 2) 26 [.ref 13, .ref 12, .int x2] h (lm_kV K) := by
  refine ls_enter [some (.ref 13), some (.ref 12), some (.int x2), none, none, none] ml_26 (Nat.le_of_ble_eq_true rfl) rfl ?_
  refine ls_iconst 0 f_26_0 (by decide) ?_
  refine ls_istore_n [some (.ref 13), some (.ref 12), some (.int x2), some (.int 0), none, none] f_26_1 (Nat.le_of_ble_eq_true rfl) rfl ?_
  refine ls_iconst 0 f_26_2 (by decide) ?_
  refine ls_istore [some (.ref 13), some (.ref 12), some (.int x2), some (.int 0), some (.int 0), none] f_26_3 (Nat.le_of_ble_eq_true rfl) rfl ?_
  exact hyp
theorem b_26_5 {d : Nat} {h : lm_H} {K : lm_H → Prop} (x2 : Int32) (x3 : Int32) (x4 : Int32) (hl : lm_Lay h) (hyp : (if x4 < x2 then (lm_in x4 400 False (if (lm_i h 12 x4.toNatClampNeg) < 97 then (lm_in x4 400 False (if (lm_i h 12 x4.toNatClampNeg) < 48 then (lm_in x4 400 False (lm_in x3 401 False (lm_in x3 401 False (lm_in x4 400 False (if (lm_i h 12 x4.toNatClampNeg) = 32 then (lm_W (d + 1) 26 5 [some (.ref 13), some (.ref 12), some (.int x2), some (.int x3), some (.int (x4 + 1)), none] [] (lm_si (lm_si h 14 x3.toNatClampNeg (lm_i h 12 x4.toNatClampNeg)) 15 x3.toNatClampNeg x4) (lm_kV K)) else (lm_W (d + 1) 26 5 [some (.ref 13), some (.ref 12), some (.int x2), some (.int (x3 + 1)), some (.int (x4 + 1)), none] [] (lm_si (lm_si h 14 x3.toNatClampNeg (lm_i h 12 x4.toNatClampNeg)) 15 x3.toNatClampNeg x4) (lm_kV K))))))) else (if 57 < (lm_i h 12 x4.toNatClampNeg) then (lm_in x4 400 False (lm_in x3 401 False (lm_in x3 401 False (lm_in x4 400 False (if (lm_i h 12 x4.toNatClampNeg) = 32 then (lm_W (d + 1) 26 5 [some (.ref 13), some (.ref 12), some (.int x2), some (.int x3), some (.int (x4 + 1)), none] [] (lm_si (lm_si h 14 x3.toNatClampNeg (lm_i h 12 x4.toNatClampNeg)) 15 x3.toNatClampNeg x4) (lm_kV K)) else (lm_W (d + 1) 26 5 [some (.ref 13), some (.ref 12), some (.int x2), some (.int (x3 + 1)), some (.int (x4 + 1)), none] [] (lm_si (lm_si h 14 x3.toNatClampNeg (lm_i h 12 x4.toNatClampNeg)) 15 x3.toNatClampNeg x4) (lm_kV K))))))) else (lm_W (d + 1) 26 76 [some (.ref 13), some (.ref 12), some (.int x2), some (.int x3), some (.int x4), some (.int (x4 + 1))] [] h (lm_kV K))))) else (if 122 < (lm_i h 12 x4.toNatClampNeg) then (lm_in x4 400 False (if (lm_i h 12 x4.toNatClampNeg) < 48 then (lm_in x4 400 False (lm_in x3 401 False (lm_in x3 401 False (lm_in x4 400 False (if (lm_i h 12 x4.toNatClampNeg) = 32 then (lm_W (d + 1) 26 5 [some (.ref 13), some (.ref 12), some (.int x2), some (.int x3), some (.int (x4 + 1)), none] [] (lm_si (lm_si h 14 x3.toNatClampNeg (lm_i h 12 x4.toNatClampNeg)) 15 x3.toNatClampNeg x4) (lm_kV K)) else (lm_W (d + 1) 26 5 [some (.ref 13), some (.ref 12), some (.int x2), some (.int (x3 + 1)), some (.int (x4 + 1)), none] [] (lm_si (lm_si h 14 x3.toNatClampNeg (lm_i h 12 x4.toNatClampNeg)) 15 x3.toNatClampNeg x4) (lm_kV K))))))) else (if 57 < (lm_i h 12 x4.toNatClampNeg) then (lm_in x4 400 False (lm_in x3 401 False (lm_in x3 401 False (lm_in x4 400 False (if (lm_i h 12 x4.toNatClampNeg) = 32 then (lm_W (d + 1) 26 5 [some (.ref 13), some (.ref 12), some (.int x2), some (.int x3), some (.int (x4 + 1)), none] [] (lm_si (lm_si h 14 x3.toNatClampNeg (lm_i h 12 x4.toNatClampNeg)) 15 x3.toNatClampNeg x4) (lm_kV K)) else (lm_W (d + 1) 26 5 [some (.ref 13), some (.ref 12), some (.int x2), some (.int (x3 + 1)), some (.int (x4 + 1)), none] [] (lm_si (lm_si h 14 x3.toNatClampNeg (lm_i h 12 x4.toNatClampNeg)) 15 x3.toNatClampNeg x4) (lm_kV K))))))) else (lm_W (d + 1) 26 76 [some (.ref 13), some (.ref 12), some (.int x2), some (.int x3), some (.int x4), some (.int (x4 + 1))] [] h (lm_kV K))))) else (lm_W (d + 1) 26 27 [some (.ref 13), some (.ref 12), some (.int x2), some (.int x3), some (.int x4), some (.int (x4 + 1))] [] h (lm_kV K))))) else (lm_in x3 401 False (lm_in x3 401 False (K (lm_si (lm_si h 14 x3.toNatClampNeg 256) 15 x3.toNatClampNeg x2)))))) : lm_W (d + 1) 26 5 [some (.ref 13), some (.ref 12), some (.int x2), some (.int x3), some (.int x4), none] [] h (lm_kV K) := by
  refine ls_iload f_26_5 rfl ?_
  refine ls_iload_n f_26_7 rfl ?_
  refine ls_icmp_ge 161 f_26_8 rfl hyp (fun _ hyp => ?_) (fun _ hyp => ?_)
  · refine ls_iload f_26_11 rfl ?_
    refine ls_iconst 1 f_26_13 (by decide) ?_
    refine ls_iadd (x4 + 1) f_26_14 rfl ?_
    refine ls_istore [some (.ref 13), some (.ref 12), some (.int x2), some (.int x3), some (.int x4), some (.int (x4 + 1))] f_26_15 (Nat.le_of_ble_eq_true rfl) rfl ?_
    refine ls_aload_n f_26_17 rfl ?_
    refine ls_iload f_26_18 rfl ?_
    refine ls_iald f_26_20 hl S_12 hyp (fun hyp => ?_)
    refine ls_invS f_26_21 q_26_69 [.int (lm_i h 12 x4.toNatClampNeg)] [] rfl (Nat.le_of_ble_eq_true rfl) ?_
    refine ls_enter [some (.int (lm_i h 12 x4.toNatClampNeg))] ml_27 (Nat.le_of_ble_eq_true rfl) rfl ?_
    refine ls_iload_n f_27_0 rfl ?_
    refine ls_bipush 97 f_27_1 (by decide) ?_
    refine ls_icmp_lt 16 f_27_3 rfl hyp (fun _ hyp => ?_) (fun _ hyp => ?_)
    · refine ls_iconst 0 f_27_16 (by decide) ?_
      refine ls_zreturn f_27_17 rZ_27 (by decide) ?_
      show lm_W _ _ _ _ [.int 0] _ _
      refine ls_if_eq_T 66 f_26_24 rfl (by decide) ?_
      refine ls_aload_n f_26_66 rfl ?_
      refine ls_iload f_26_67 rfl ?_
      refine ls_iald f_26_69 hl S_12 hyp (fun hyp => ?_)
      refine ls_invS f_26_70 q_26_77 [.int (lm_i h 12 x4.toNatClampNeg)] [] rfl (Nat.le_of_ble_eq_true rfl) ?_
      refine ls_enter [some (.int (lm_i h 12 x4.toNatClampNeg))] ml_28 (Nat.le_of_ble_eq_true rfl) rfl ?_
      refine ls_iload_n f_28_0 rfl ?_
      refine ls_bipush 48 f_28_1 (by decide) ?_
      refine ls_icmp_lt 16 f_28_3 rfl hyp (fun _ hyp => ?_) (fun _ hyp => ?_)
      · refine ls_iconst 0 f_28_16 (by decide) ?_
        refine ls_zreturn f_28_17 rZ_28 (by decide) ?_
        show lm_W _ _ _ _ [.int 0] _ _
        refine ls_if_eq_T 124 f_26_73 rfl (by decide) ?_
        refine ls_aload_n f_26_124 rfl ?_
        refine ls_getR f_26_125 p_26_9 hl S_13 F_13_0 ?_
        refine ls_iload_n f_26_128 rfl ?_
        refine ls_aload_n f_26_129 rfl ?_
        refine ls_iload f_26_130 rfl ?_
        refine ls_iald f_26_132 hl S_12 hyp (fun hyp => ?_)
        refine ls_iast f_26_133 hl S_14 hyp (fun hyp => ?_)
        refine ls_aload_n f_26_134 rfl ?_
        refine ls_getR f_26_135 p_26_15 (lm_Lay_si hl _ _ _) S_13 F_13_1 ?_
        refine ls_iload_n f_26_138 rfl ?_
        refine ls_iload f_26_139 rfl ?_
        refine ls_iast f_26_141 (lm_Lay_si hl _ _ _) S_15 hyp (fun hyp => ?_)
        refine ls_aload_n f_26_142 rfl ?_
        refine ls_iload f_26_143 rfl ?_
        refine ls_iald f_26_145 (lm_Lay_si (lm_Lay_si hl _ _ _) _ _ _) S_12 hyp (fun hyp => ?_)
        refine ls_top (lm_i h 12 x4.toNatClampNeg) rfl ?_
        refine ls_bipush 32 f_26_146 (by decide) ?_
        refine ls_icmp_eq 154 f_26_148 rfl hyp (fun _ hyp => ?_) (fun _ hyp => ?_)
        · refine ls_iload f_26_154 rfl ?_
          refine ls_istore [some (.ref 13), some (.ref 12), some (.int x2), some (.int x3), some (.int (x4 + 1)), some (.int (x4 + 1))] f_26_156 (Nat.le_of_ble_eq_true rfl) rfl ?_
          refine ls_goto 5 f_26_158 rfl ?_
          exact ls_mask [true, true, true, true, true, false] [some (.ref 13), some (.ref 12), some (.int x2), some (.int x3), some (.int (x4 + 1)), none] rfl hyp
        · refine ls_iinc (x3 + 1) [some (.ref 13), some (.ref 12), some (.int x2), some (.int (x3 + 1)), some (.int x4), some (.int (x4 + 1))] f_26_151 rfl (Nat.le_of_ble_eq_true rfl) rfl rfl ?_
          refine ls_iload f_26_154 rfl ?_
          refine ls_istore [some (.ref 13), some (.ref 12), some (.int x2), some (.int (x3 + 1)), some (.int (x4 + 1)), some (.int (x4 + 1))] f_26_156 (Nat.le_of_ble_eq_true rfl) rfl ?_
          refine ls_goto 5 f_26_158 rfl ?_
          exact ls_mask [true, true, true, true, true, false] [some (.ref 13), some (.ref 12), some (.int x2), some (.int (x3 + 1)), some (.int (x4 + 1)), none] rfl hyp
      · refine ls_iload_n f_28_6 rfl ?_
        refine ls_bipush 57 f_28_7 (by decide) ?_
        refine ls_icmp_gt 16 f_28_9 rfl hyp (fun _ hyp => ?_) (fun _ hyp => ?_)
        · refine ls_iconst 0 f_28_16 (by decide) ?_
          refine ls_zreturn f_28_17 rZ_28 (by decide) ?_
          show lm_W _ _ _ _ [.int 0] _ _
          refine ls_if_eq_T 124 f_26_73 rfl (by decide) ?_
          refine ls_aload_n f_26_124 rfl ?_
          refine ls_getR f_26_125 p_26_9 hl S_13 F_13_0 ?_
          refine ls_iload_n f_26_128 rfl ?_
          refine ls_aload_n f_26_129 rfl ?_
          refine ls_iload f_26_130 rfl ?_
          refine ls_iald f_26_132 hl S_12 hyp (fun hyp => ?_)
          refine ls_iast f_26_133 hl S_14 hyp (fun hyp => ?_)
          refine ls_aload_n f_26_134 rfl ?_
          refine ls_getR f_26_135 p_26_15 (lm_Lay_si hl _ _ _) S_13 F_13_1 ?_
          refine ls_iload_n f_26_138 rfl ?_
          refine ls_iload f_26_139 rfl ?_
          refine ls_iast f_26_141 (lm_Lay_si hl _ _ _) S_15 hyp (fun hyp => ?_)
          refine ls_aload_n f_26_142 rfl ?_
          refine ls_iload f_26_143 rfl ?_
          refine ls_iald f_26_145 (lm_Lay_si (lm_Lay_si hl _ _ _) _ _ _) S_12 hyp (fun hyp => ?_)
          refine ls_top (lm_i h 12 x4.toNatClampNeg) rfl ?_
          refine ls_bipush 32 f_26_146 (by decide) ?_
          refine ls_icmp_eq 154 f_26_148 rfl hyp (fun _ hyp => ?_) (fun _ hyp => ?_)
          · refine ls_iload f_26_154 rfl ?_
            refine ls_istore [some (.ref 13), some (.ref 12), some (.int x2), some (.int x3), some (.int (x4 + 1)), some (.int (x4 + 1))] f_26_156 (Nat.le_of_ble_eq_true rfl) rfl ?_
            refine ls_goto 5 f_26_158 rfl ?_
            exact ls_mask [true, true, true, true, true, false] [some (.ref 13), some (.ref 12), some (.int x2), some (.int x3), some (.int (x4 + 1)), none] rfl hyp
          · refine ls_iinc (x3 + 1) [some (.ref 13), some (.ref 12), some (.int x2), some (.int (x3 + 1)), some (.int x4), some (.int (x4 + 1))] f_26_151 rfl (Nat.le_of_ble_eq_true rfl) rfl rfl ?_
            refine ls_iload f_26_154 rfl ?_
            refine ls_istore [some (.ref 13), some (.ref 12), some (.int x2), some (.int (x3 + 1)), some (.int (x4 + 1)), some (.int (x4 + 1))] f_26_156 (Nat.le_of_ble_eq_true rfl) rfl ?_
            refine ls_goto 5 f_26_158 rfl ?_
            exact ls_mask [true, true, true, true, true, false] [some (.ref 13), some (.ref 12), some (.int x2), some (.int (x3 + 1)), some (.int (x4 + 1)), none] rfl hyp
        · refine ls_iconst 1 f_28_12 (by decide) ?_
          refine ls_goto 17 f_28_13 rfl ?_
          refine ls_zreturn f_28_17 rZ_28 (by decide) ?_
          show lm_W _ _ _ _ [.int 1] _ _
          refine ls_if_eq_F 124 f_26_73 rfl (by decide) ?_
          exact hyp
    · refine ls_iload_n f_27_6 rfl ?_
      refine ls_bipush 122 f_27_7 (by decide) ?_
      refine ls_icmp_gt 16 f_27_9 rfl hyp (fun _ hyp => ?_) (fun _ hyp => ?_)
      · refine ls_iconst 0 f_27_16 (by decide) ?_
        refine ls_zreturn f_27_17 rZ_27 (by decide) ?_
        show lm_W _ _ _ _ [.int 0] _ _
        refine ls_if_eq_T 66 f_26_24 rfl (by decide) ?_
        refine ls_aload_n f_26_66 rfl ?_
        refine ls_iload f_26_67 rfl ?_
        refine ls_iald f_26_69 hl S_12 hyp (fun hyp => ?_)
        refine ls_invS f_26_70 q_26_77 [.int (lm_i h 12 x4.toNatClampNeg)] [] rfl (Nat.le_of_ble_eq_true rfl) ?_
        refine ls_enter [some (.int (lm_i h 12 x4.toNatClampNeg))] ml_28 (Nat.le_of_ble_eq_true rfl) rfl ?_
        refine ls_iload_n f_28_0 rfl ?_
        refine ls_bipush 48 f_28_1 (by decide) ?_
        refine ls_icmp_lt 16 f_28_3 rfl hyp (fun _ hyp => ?_) (fun _ hyp => ?_)
        · refine ls_iconst 0 f_28_16 (by decide) ?_
          refine ls_zreturn f_28_17 rZ_28 (by decide) ?_
          show lm_W _ _ _ _ [.int 0] _ _
          refine ls_if_eq_T 124 f_26_73 rfl (by decide) ?_
          refine ls_aload_n f_26_124 rfl ?_
          refine ls_getR f_26_125 p_26_9 hl S_13 F_13_0 ?_
          refine ls_iload_n f_26_128 rfl ?_
          refine ls_aload_n f_26_129 rfl ?_
          refine ls_iload f_26_130 rfl ?_
          refine ls_iald f_26_132 hl S_12 hyp (fun hyp => ?_)
          refine ls_iast f_26_133 hl S_14 hyp (fun hyp => ?_)
          refine ls_aload_n f_26_134 rfl ?_
          refine ls_getR f_26_135 p_26_15 (lm_Lay_si hl _ _ _) S_13 F_13_1 ?_
          refine ls_iload_n f_26_138 rfl ?_
          refine ls_iload f_26_139 rfl ?_
          refine ls_iast f_26_141 (lm_Lay_si hl _ _ _) S_15 hyp (fun hyp => ?_)
          refine ls_aload_n f_26_142 rfl ?_
          refine ls_iload f_26_143 rfl ?_
          refine ls_iald f_26_145 (lm_Lay_si (lm_Lay_si hl _ _ _) _ _ _) S_12 hyp (fun hyp => ?_)
          refine ls_top (lm_i h 12 x4.toNatClampNeg) rfl ?_
          refine ls_bipush 32 f_26_146 (by decide) ?_
          refine ls_icmp_eq 154 f_26_148 rfl hyp (fun _ hyp => ?_) (fun _ hyp => ?_)
          · refine ls_iload f_26_154 rfl ?_
            refine ls_istore [some (.ref 13), some (.ref 12), some (.int x2), some (.int x3), some (.int (x4 + 1)), some (.int (x4 + 1))] f_26_156 (Nat.le_of_ble_eq_true rfl) rfl ?_
            refine ls_goto 5 f_26_158 rfl ?_
            exact ls_mask [true, true, true, true, true, false] [some (.ref 13), some (.ref 12), some (.int x2), some (.int x3), some (.int (x4 + 1)), none] rfl hyp
          · refine ls_iinc (x3 + 1) [some (.ref 13), some (.ref 12), some (.int x2), some (.int (x3 + 1)), some (.int x4), some (.int (x4 + 1))] f_26_151 rfl (Nat.le_of_ble_eq_true rfl) rfl rfl ?_
            refine ls_iload f_26_154 rfl ?_
            refine ls_istore [some (.ref 13), some (.ref 12), some (.int x2), some (.int (x3 + 1)), some (.int (x4 + 1)), some (.int (x4 + 1))] f_26_156 (Nat.le_of_ble_eq_true rfl) rfl ?_
            refine ls_goto 5 f_26_158 rfl ?_
            exact ls_mask [true, true, true, true, true, false] [some (.ref 13), some (.ref 12), some (.int x2), some (.int (x3 + 1)), some (.int (x4 + 1)), none] rfl hyp
        · refine ls_iload_n f_28_6 rfl ?_
          refine ls_bipush 57 f_28_7 (by decide) ?_
          refine ls_icmp_gt 16 f_28_9 rfl hyp (fun _ hyp => ?_) (fun _ hyp => ?_)
          · refine ls_iconst 0 f_28_16 (by decide) ?_
            refine ls_zreturn f_28_17 rZ_28 (by decide) ?_
            show lm_W _ _ _ _ [.int 0] _ _
            refine ls_if_eq_T 124 f_26_73 rfl (by decide) ?_
            refine ls_aload_n f_26_124 rfl ?_
            refine ls_getR f_26_125 p_26_9 hl S_13 F_13_0 ?_
            refine ls_iload_n f_26_128 rfl ?_
            refine ls_aload_n f_26_129 rfl ?_
            refine ls_iload f_26_130 rfl ?_
            refine ls_iald f_26_132 hl S_12 hyp (fun hyp => ?_)
            refine ls_iast f_26_133 hl S_14 hyp (fun hyp => ?_)
            refine ls_aload_n f_26_134 rfl ?_
            refine ls_getR f_26_135 p_26_15 (lm_Lay_si hl _ _ _) S_13 F_13_1 ?_
            refine ls_iload_n f_26_138 rfl ?_
            refine ls_iload f_26_139 rfl ?_
            refine ls_iast f_26_141 (lm_Lay_si hl _ _ _) S_15 hyp (fun hyp => ?_)
            refine ls_aload_n f_26_142 rfl ?_
            refine ls_iload f_26_143 rfl ?_
            refine ls_iald f_26_145 (lm_Lay_si (lm_Lay_si hl _ _ _) _ _ _) S_12 hyp (fun hyp => ?_)
            refine ls_top (lm_i h 12 x4.toNatClampNeg) rfl ?_
            refine ls_bipush 32 f_26_146 (by decide) ?_
            refine ls_icmp_eq 154 f_26_148 rfl hyp (fun _ hyp => ?_) (fun _ hyp => ?_)
            · refine ls_iload f_26_154 rfl ?_
              refine ls_istore [some (.ref 13), some (.ref 12), some (.int x2), some (.int x3), some (.int (x4 + 1)), some (.int (x4 + 1))] f_26_156 (Nat.le_of_ble_eq_true rfl) rfl ?_
              refine ls_goto 5 f_26_158 rfl ?_
              exact ls_mask [true, true, true, true, true, false] [some (.ref 13), some (.ref 12), some (.int x2), some (.int x3), some (.int (x4 + 1)), none] rfl hyp
            · refine ls_iinc (x3 + 1) [some (.ref 13), some (.ref 12), some (.int x2), some (.int (x3 + 1)), some (.int x4), some (.int (x4 + 1))] f_26_151 rfl (Nat.le_of_ble_eq_true rfl) rfl rfl ?_
              refine ls_iload f_26_154 rfl ?_
              refine ls_istore [some (.ref 13), some (.ref 12), some (.int x2), some (.int (x3 + 1)), some (.int (x4 + 1)), some (.int (x4 + 1))] f_26_156 (Nat.le_of_ble_eq_true rfl) rfl ?_
              refine ls_goto 5 f_26_158 rfl ?_
              exact ls_mask [true, true, true, true, true, false] [some (.ref 13), some (.ref 12), some (.int x2), some (.int (x3 + 1)), some (.int (x4 + 1)), none] rfl hyp
          · refine ls_iconst 1 f_28_12 (by decide) ?_
            refine ls_goto 17 f_28_13 rfl ?_
            refine ls_zreturn f_28_17 rZ_28 (by decide) ?_
            show lm_W _ _ _ _ [.int 1] _ _
            refine ls_if_eq_F 124 f_26_73 rfl (by decide) ?_
            exact hyp
      · refine ls_iconst 1 f_27_12 (by decide) ?_
        refine ls_goto 17 f_27_13 rfl ?_
        refine ls_zreturn f_27_17 rZ_27 (by decide) ?_
        show lm_W _ _ _ _ [.int 1] _ _
        refine ls_if_eq_F 66 f_26_24 rfl (by decide) ?_
        exact hyp
  · refine ls_aload_n f_26_161 rfl ?_
    refine ls_getR f_26_162 p_26_9 hl S_13 F_13_0 ?_
    refine ls_iload_n f_26_165 rfl ?_
    refine ls_sipush 256 f_26_166 (by decide) ?_
    refine ls_iast f_26_169 hl S_14 hyp (fun hyp => ?_)
    refine ls_aload_n f_26_170 rfl ?_
    refine ls_getR f_26_171 p_26_15 (lm_Lay_si hl _ _ _) S_13 F_13_1 ?_
    refine ls_iload_n f_26_174 rfl ?_
    refine ls_iload_n f_26_175 rfl ?_
    refine ls_iast f_26_176 (lm_Lay_si hl _ _ _) S_15 hyp (fun hyp => ?_)
    exact ls_return f_26_177 rV_26 hyp
theorem b_26_76 {d : Nat} {h : lm_H} {K : lm_H → Prop} (x2 : Int32) (x3 : Int32) (x4 : Int32) (x5 : Int32) (hl : lm_Lay h) (hyp : (if x5 < x2 then (lm_in x5 400 False (if (lm_i h 12 x5.toNatClampNeg) < 48 then (lm_in x3 401 False (lm_call (d + 1) 29 [.ref 12, .int x4, .int x5] (lm_si h 14 x3.toNatClampNeg 257) (lm_kI fun r2 h1 => lm_in x3 401 False (lm_in x3 401 False (lm_in x4 400 False (if (lm_i h1 12 x4.toNatClampNeg) = 32 then (lm_W (d + 1) 26 5 [some (.ref 13), some (.ref 12), some (.int x2), some (.int x3), some (.int x5), none] [] (lm_si (lm_si h1 16 x3.toNatClampNeg r2) 15 x3.toNatClampNeg x4) (lm_kV K)) else (lm_W (d + 1) 26 5 [some (.ref 13), some (.ref 12), some (.int x2), some (.int (x3 + 1)), some (.int x5), none] [] (lm_si (lm_si h1 16 x3.toNatClampNeg r2) 15 x3.toNatClampNeg x4) (lm_kV K)))))))) else (if 57 < (lm_i h 12 x5.toNatClampNeg) then (lm_in x3 401 False (lm_call (d + 1) 29 [.ref 12, .int x4, .int x5] (lm_si h 14 x3.toNatClampNeg 257) (lm_kI fun r4 h3 => lm_in x3 401 False (lm_in x3 401 False (lm_in x4 400 False (if (lm_i h3 12 x4.toNatClampNeg) = 32 then (lm_W (d + 1) 26 5 [some (.ref 13), some (.ref 12), some (.int x2), some (.int x3), some (.int x5), none] [] (lm_si (lm_si h3 16 x3.toNatClampNeg r4) 15 x3.toNatClampNeg x4) (lm_kV K)) else (lm_W (d + 1) 26 5 [some (.ref 13), some (.ref 12), some (.int x2), some (.int (x3 + 1)), some (.int x5), none] [] (lm_si (lm_si h3 16 x3.toNatClampNeg r4) 15 x3.toNatClampNeg x4) (lm_kV K)))))))) else (lm_W (d + 1) 26 76 [some (.ref 13), some (.ref 12), some (.int x2), some (.int x3), some (.int x4), some (.int (x5 + 1))] [] h (lm_kV K))))) else (lm_in x3 401 False (lm_call (d + 1) 29 [.ref 12, .int x4, .int x5] (lm_si h 14 x3.toNatClampNeg 257) (lm_kI fun r6 h5 => lm_in x3 401 False (lm_in x3 401 False (lm_in x4 400 False (if (lm_i h5 12 x4.toNatClampNeg) = 32 then (lm_W (d + 1) 26 5 [some (.ref 13), some (.ref 12), some (.int x2), some (.int x3), some (.int x5), none] [] (lm_si (lm_si h5 16 x3.toNatClampNeg r6) 15 x3.toNatClampNeg x4) (lm_kV K)) else (lm_W (d + 1) 26 5 [some (.ref 13), some (.ref 12), some (.int x2), some (.int (x3 + 1)), some (.int x5), none] [] (lm_si (lm_si h5 16 x3.toNatClampNeg r6) 15 x3.toNatClampNeg x4) (lm_kV K)))))))))) : lm_W (d + 1) 26 76 [some (.ref 13), some (.ref 12), some (.int x2), some (.int x3), some (.int x4), some (.int x5)] [] h (lm_kV K) := by
  refine ls_iload f_26_76 rfl ?_
  refine ls_iload_n f_26_78 rfl ?_
  refine ls_icmp_ge 98 f_26_79 rfl hyp (fun _ hyp => ?_) (fun _ hyp => ?_)
  · refine ls_aload_n f_26_82 rfl ?_
    refine ls_iload f_26_83 rfl ?_
    refine ls_iald f_26_85 hl S_12 hyp (fun hyp => ?_)
    refine ls_invS f_26_86 q_26_77 [.int (lm_i h 12 x5.toNatClampNeg)] [] rfl (Nat.le_of_ble_eq_true rfl) ?_
    refine ls_enter [some (.int (lm_i h 12 x5.toNatClampNeg))] ml_28 (Nat.le_of_ble_eq_true rfl) rfl ?_
    refine ls_iload_n f_28_0 rfl ?_
    refine ls_bipush 48 f_28_1 (by decide) ?_
    refine ls_icmp_lt 16 f_28_3 rfl hyp (fun _ hyp => ?_) (fun _ hyp => ?_)
    · refine ls_iconst 0 f_28_16 (by decide) ?_
      refine ls_zreturn f_28_17 rZ_28 (by decide) ?_
      show lm_W _ _ _ _ [.int 0] _ _
      refine ls_if_eq_T 98 f_26_89 rfl (by decide) ?_
      refine ls_aload_n f_26_98 rfl ?_
      refine ls_getR f_26_99 p_26_9 hl S_13 F_13_0 ?_
      refine ls_iload_n f_26_102 rfl ?_
      refine ls_sipush 257 f_26_103 (by decide) ?_
      refine ls_iast f_26_106 hl S_14 hyp (fun hyp => ?_)
      refine ls_aload_n f_26_107 rfl ?_
      refine ls_getR f_26_108 p_26_18 (lm_Lay_si hl _ _ _) S_13 F_13_2 ?_
      refine ls_iload_n f_26_111 rfl ?_
      refine ls_aload_n f_26_112 rfl ?_
      refine ls_iload f_26_113 rfl ?_
      refine ls_iload f_26_115 rfl ?_
      refine ls_invS f_26_117 q_26_80 [.ref 12, .int x4, .int x5] [.int x3, .ref 16] rfl (Nat.le_of_ble_eq_true rfl) ?_
      refine ls_call hyp (lm_Lay_si hl _ _ _) (fun _ h1 hl1 hyp => ?_)
      refine ls_retI hyp (fun r2 hyp => ?_)
      refine ls_iast f_26_120 hl1 S_16 hyp (fun hyp => ?_)
      refine ls_goto 134 f_26_121 rfl ?_
      refine ls_aload_n f_26_134 rfl ?_
      refine ls_getR f_26_135 p_26_15 (lm_Lay_si hl1 _ _ _) S_13 F_13_1 ?_
      refine ls_iload_n f_26_138 rfl ?_
      refine ls_iload f_26_139 rfl ?_
      refine ls_iast f_26_141 (lm_Lay_si hl1 _ _ _) S_15 hyp (fun hyp => ?_)
      refine ls_aload_n f_26_142 rfl ?_
      refine ls_iload f_26_143 rfl ?_
      refine ls_iald f_26_145 (lm_Lay_si (lm_Lay_si hl1 _ _ _) _ _ _) S_12 hyp (fun hyp => ?_)
      refine ls_top (lm_i h1 12 x4.toNatClampNeg) rfl ?_
      refine ls_bipush 32 f_26_146 (by decide) ?_
      refine ls_icmp_eq 154 f_26_148 rfl hyp (fun _ hyp => ?_) (fun _ hyp => ?_)
      · refine ls_iload f_26_154 rfl ?_
        refine ls_istore [some (.ref 13), some (.ref 12), some (.int x2), some (.int x3), some (.int x5), some (.int x5)] f_26_156 (Nat.le_of_ble_eq_true rfl) rfl ?_
        refine ls_goto 5 f_26_158 rfl ?_
        exact ls_mask [true, true, true, true, true, false] [some (.ref 13), some (.ref 12), some (.int x2), some (.int x3), some (.int x5), none] rfl hyp
      · refine ls_iinc (x3 + 1) [some (.ref 13), some (.ref 12), some (.int x2), some (.int (x3 + 1)), some (.int x4), some (.int x5)] f_26_151 rfl (Nat.le_of_ble_eq_true rfl) rfl rfl ?_
        refine ls_iload f_26_154 rfl ?_
        refine ls_istore [some (.ref 13), some (.ref 12), some (.int x2), some (.int (x3 + 1)), some (.int x5), some (.int x5)] f_26_156 (Nat.le_of_ble_eq_true rfl) rfl ?_
        refine ls_goto 5 f_26_158 rfl ?_
        exact ls_mask [true, true, true, true, true, false] [some (.ref 13), some (.ref 12), some (.int x2), some (.int (x3 + 1)), some (.int x5), none] rfl hyp
    · refine ls_iload_n f_28_6 rfl ?_
      refine ls_bipush 57 f_28_7 (by decide) ?_
      refine ls_icmp_gt 16 f_28_9 rfl hyp (fun _ hyp => ?_) (fun _ hyp => ?_)
      · refine ls_iconst 0 f_28_16 (by decide) ?_
        refine ls_zreturn f_28_17 rZ_28 (by decide) ?_
        show lm_W _ _ _ _ [.int 0] _ _
        refine ls_if_eq_T 98 f_26_89 rfl (by decide) ?_
        refine ls_aload_n f_26_98 rfl ?_
        refine ls_getR f_26_99 p_26_9 hl S_13 F_13_0 ?_
        refine ls_iload_n f_26_102 rfl ?_
        refine ls_sipush 257 f_26_103 (by decide) ?_
        refine ls_iast f_26_106 hl S_14 hyp (fun hyp => ?_)
        refine ls_aload_n f_26_107 rfl ?_
        refine ls_getR f_26_108 p_26_18 (lm_Lay_si hl _ _ _) S_13 F_13_2 ?_
        refine ls_iload_n f_26_111 rfl ?_
        refine ls_aload_n f_26_112 rfl ?_
        refine ls_iload f_26_113 rfl ?_
        refine ls_iload f_26_115 rfl ?_
        refine ls_invS f_26_117 q_26_80 [.ref 12, .int x4, .int x5] [.int x3, .ref 16] rfl (Nat.le_of_ble_eq_true rfl) ?_
        refine ls_call hyp (lm_Lay_si hl _ _ _) (fun _ h3 hl3 hyp => ?_)
        refine ls_retI hyp (fun r4 hyp => ?_)
        refine ls_iast f_26_120 hl3 S_16 hyp (fun hyp => ?_)
        refine ls_goto 134 f_26_121 rfl ?_
        refine ls_aload_n f_26_134 rfl ?_
        refine ls_getR f_26_135 p_26_15 (lm_Lay_si hl3 _ _ _) S_13 F_13_1 ?_
        refine ls_iload_n f_26_138 rfl ?_
        refine ls_iload f_26_139 rfl ?_
        refine ls_iast f_26_141 (lm_Lay_si hl3 _ _ _) S_15 hyp (fun hyp => ?_)
        refine ls_aload_n f_26_142 rfl ?_
        refine ls_iload f_26_143 rfl ?_
        refine ls_iald f_26_145 (lm_Lay_si (lm_Lay_si hl3 _ _ _) _ _ _) S_12 hyp (fun hyp => ?_)
        refine ls_top (lm_i h3 12 x4.toNatClampNeg) rfl ?_
        refine ls_bipush 32 f_26_146 (by decide) ?_
        refine ls_icmp_eq 154 f_26_148 rfl hyp (fun _ hyp => ?_) (fun _ hyp => ?_)
        · refine ls_iload f_26_154 rfl ?_
          refine ls_istore [some (.ref 13), some (.ref 12), some (.int x2), some (.int x3), some (.int x5), some (.int x5)] f_26_156 (Nat.le_of_ble_eq_true rfl) rfl ?_
          refine ls_goto 5 f_26_158 rfl ?_
          exact ls_mask [true, true, true, true, true, false] [some (.ref 13), some (.ref 12), some (.int x2), some (.int x3), some (.int x5), none] rfl hyp
        · refine ls_iinc (x3 + 1) [some (.ref 13), some (.ref 12), some (.int x2), some (.int (x3 + 1)), some (.int x4), some (.int x5)] f_26_151 rfl (Nat.le_of_ble_eq_true rfl) rfl rfl ?_
          refine ls_iload f_26_154 rfl ?_
          refine ls_istore [some (.ref 13), some (.ref 12), some (.int x2), some (.int (x3 + 1)), some (.int x5), some (.int x5)] f_26_156 (Nat.le_of_ble_eq_true rfl) rfl ?_
          refine ls_goto 5 f_26_158 rfl ?_
          exact ls_mask [true, true, true, true, true, false] [some (.ref 13), some (.ref 12), some (.int x2), some (.int (x3 + 1)), some (.int x5), none] rfl hyp
      · refine ls_iconst 1 f_28_12 (by decide) ?_
        refine ls_goto 17 f_28_13 rfl ?_
        refine ls_zreturn f_28_17 rZ_28 (by decide) ?_
        show lm_W _ _ _ _ [.int 1] _ _
        refine ls_if_eq_F 98 f_26_89 rfl (by decide) ?_
        refine ls_iinc (x5 + 1) [some (.ref 13), some (.ref 12), some (.int x2), some (.int x3), some (.int x4), some (.int (x5 + 1))] f_26_92 rfl (Nat.le_of_ble_eq_true rfl) rfl rfl ?_
        refine ls_goto 76 f_26_95 rfl ?_
        exact hyp
  · refine ls_aload_n f_26_98 rfl ?_
    refine ls_getR f_26_99 p_26_9 hl S_13 F_13_0 ?_
    refine ls_iload_n f_26_102 rfl ?_
    refine ls_sipush 257 f_26_103 (by decide) ?_
    refine ls_iast f_26_106 hl S_14 hyp (fun hyp => ?_)
    refine ls_aload_n f_26_107 rfl ?_
    refine ls_getR f_26_108 p_26_18 (lm_Lay_si hl _ _ _) S_13 F_13_2 ?_
    refine ls_iload_n f_26_111 rfl ?_
    refine ls_aload_n f_26_112 rfl ?_
    refine ls_iload f_26_113 rfl ?_
    refine ls_iload f_26_115 rfl ?_
    refine ls_invS f_26_117 q_26_80 [.ref 12, .int x4, .int x5] [.int x3, .ref 16] rfl (Nat.le_of_ble_eq_true rfl) ?_
    refine ls_call hyp (lm_Lay_si hl _ _ _) (fun _ h5 hl5 hyp => ?_)
    refine ls_retI hyp (fun r6 hyp => ?_)
    refine ls_iast f_26_120 hl5 S_16 hyp (fun hyp => ?_)
    refine ls_goto 134 f_26_121 rfl ?_
    refine ls_aload_n f_26_134 rfl ?_
    refine ls_getR f_26_135 p_26_15 (lm_Lay_si hl5 _ _ _) S_13 F_13_1 ?_
    refine ls_iload_n f_26_138 rfl ?_
    refine ls_iload f_26_139 rfl ?_
    refine ls_iast f_26_141 (lm_Lay_si hl5 _ _ _) S_15 hyp (fun hyp => ?_)
    refine ls_aload_n f_26_142 rfl ?_
    refine ls_iload f_26_143 rfl ?_
    refine ls_iald f_26_145 (lm_Lay_si (lm_Lay_si hl5 _ _ _) _ _ _) S_12 hyp (fun hyp => ?_)
    refine ls_top (lm_i h5 12 x4.toNatClampNeg) rfl ?_
    refine ls_bipush 32 f_26_146 (by decide) ?_
    refine ls_icmp_eq 154 f_26_148 rfl hyp (fun _ hyp => ?_) (fun _ hyp => ?_)
    · refine ls_iload f_26_154 rfl ?_
      refine ls_istore [some (.ref 13), some (.ref 12), some (.int x2), some (.int x3), some (.int x5), some (.int x5)] f_26_156 (Nat.le_of_ble_eq_true rfl) rfl ?_
      refine ls_goto 5 f_26_158 rfl ?_
      exact ls_mask [true, true, true, true, true, false] [some (.ref 13), some (.ref 12), some (.int x2), some (.int x3), some (.int x5), none] rfl hyp
    · refine ls_iinc (x3 + 1) [some (.ref 13), some (.ref 12), some (.int x2), some (.int (x3 + 1)), some (.int x4), some (.int x5)] f_26_151 rfl (Nat.le_of_ble_eq_true rfl) rfl rfl ?_
      refine ls_iload f_26_154 rfl ?_
      refine ls_istore [some (.ref 13), some (.ref 12), some (.int x2), some (.int (x3 + 1)), some (.int x5), some (.int x5)] f_26_156 (Nat.le_of_ble_eq_true rfl) rfl ?_
      refine ls_goto 5 f_26_158 rfl ?_
      exact ls_mask [true, true, true, true, true, false] [some (.ref 13), some (.ref 12), some (.int x2), some (.int (x3 + 1)), some (.int x5), none] rfl hyp
theorem b_26_27 {d : Nat} {h : lm_H} {K : lm_H → Prop} (x2 : Int32) (x3 : Int32) (x4 : Int32) (x5 : Int32) (hl : lm_Lay h) (hyp : (if x5 < x2 then (lm_in x5 400 False (if (lm_i h 12 x5.toNatClampNeg) < 97 then (lm_call (d + 1) 30 [.ref 12, .int x4, .int x5] h (lm_kI fun r2 h1 => lm_in x3 401 False (lm_in x3 401 False (lm_in x4 400 False (if (lm_i h1 12 x4.toNatClampNeg) = 32 then (lm_W (d + 1) 26 5 [some (.ref 13), some (.ref 12), some (.int x2), some (.int x3), some (.int x5), none] [] (lm_si (lm_si h1 14 x3.toNatClampNeg r2) 15 x3.toNatClampNeg x4) (lm_kV K)) else (lm_W (d + 1) 26 5 [some (.ref 13), some (.ref 12), some (.int x2), some (.int (x3 + 1)), some (.int x5), none] [] (lm_si (lm_si h1 14 x3.toNatClampNeg r2) 15 x3.toNatClampNeg x4) (lm_kV K))))))) else (if 122 < (lm_i h 12 x5.toNatClampNeg) then (lm_call (d + 1) 30 [.ref 12, .int x4, .int x5] h (lm_kI fun r4 h3 => lm_in x3 401 False (lm_in x3 401 False (lm_in x4 400 False (if (lm_i h3 12 x4.toNatClampNeg) = 32 then (lm_W (d + 1) 26 5 [some (.ref 13), some (.ref 12), some (.int x2), some (.int x3), some (.int x5), none] [] (lm_si (lm_si h3 14 x3.toNatClampNeg r4) 15 x3.toNatClampNeg x4) (lm_kV K)) else (lm_W (d + 1) 26 5 [some (.ref 13), some (.ref 12), some (.int x2), some (.int (x3 + 1)), some (.int x5), none] [] (lm_si (lm_si h3 14 x3.toNatClampNeg r4) 15 x3.toNatClampNeg x4) (lm_kV K))))))) else (lm_W (d + 1) 26 27 [some (.ref 13), some (.ref 12), some (.int x2), some (.int x3), some (.int x4), some (.int (x5 + 1))] [] h (lm_kV K))))) else (lm_call (d + 1) 30 [.ref 12, .int x4, .int x5] h (lm_kI fun r6 h5 => lm_in x3 401 False (lm_in x3 401 False (lm_in x4 400 False (if (lm_i h5 12 x4.toNatClampNeg) = 32 then (lm_W (d + 1) 26 5 [some (.ref 13), some (.ref 12), some (.int x2), some (.int x3), some (.int x5), none] [] (lm_si (lm_si h5 14 x3.toNatClampNeg r6) 15 x3.toNatClampNeg x4) (lm_kV K)) else (lm_W (d + 1) 26 5 [some (.ref 13), some (.ref 12), some (.int x2), some (.int (x3 + 1)), some (.int x5), none] [] (lm_si (lm_si h5 14 x3.toNatClampNeg r6) 15 x3.toNatClampNeg x4) (lm_kV K))))))))) : lm_W (d + 1) 26 27 [some (.ref 13), some (.ref 12), some (.int x2), some (.int x3), some (.int x4), some (.int x5)] [] h (lm_kV K) := by
  refine ls_iload f_26_27 rfl ?_
  refine ls_iload_n f_26_29 rfl ?_
  refine ls_icmp_ge 49 f_26_30 rfl hyp (fun _ hyp => ?_) (fun _ hyp => ?_)
  · refine ls_aload_n f_26_33 rfl ?_
    refine ls_iload f_26_34 rfl ?_
    refine ls_iald f_26_36 hl S_12 hyp (fun hyp => ?_)
    refine ls_invS f_26_37 q_26_69 [.int (lm_i h 12 x5.toNatClampNeg)] [] rfl (Nat.le_of_ble_eq_true rfl) ?_
    refine ls_enter [some (.int (lm_i h 12 x5.toNatClampNeg))] ml_27 (Nat.le_of_ble_eq_true rfl) rfl ?_
    refine ls_iload_n f_27_0 rfl ?_
    refine ls_bipush 97 f_27_1 (by decide) ?_
    refine ls_icmp_lt 16 f_27_3 rfl hyp (fun _ hyp => ?_) (fun _ hyp => ?_)
    · refine ls_iconst 0 f_27_16 (by decide) ?_
      refine ls_zreturn f_27_17 rZ_27 (by decide) ?_
      show lm_W _ _ _ _ [.int 0] _ _
      refine ls_if_eq_T 49 f_26_40 rfl (by decide) ?_
      refine ls_aload_n f_26_49 rfl ?_
      refine ls_getR f_26_50 p_26_9 hl S_13 F_13_0 ?_
      refine ls_iload_n f_26_53 rfl ?_
      refine ls_aload_n f_26_54 rfl ?_
      refine ls_iload f_26_55 rfl ?_
      refine ls_iload f_26_57 rfl ?_
      refine ls_invS f_26_59 q_26_73 [.ref 12, .int x4, .int x5] [.int x3, .ref 14] rfl (Nat.le_of_ble_eq_true rfl) ?_
      refine ls_call hyp hl (fun _ h1 hl1 hyp => ?_)
      refine ls_retI hyp (fun r2 hyp => ?_)
      refine ls_iast f_26_62 hl1 S_14 hyp (fun hyp => ?_)
      refine ls_goto 134 f_26_63 rfl ?_
      refine ls_aload_n f_26_134 rfl ?_
      refine ls_getR f_26_135 p_26_15 (lm_Lay_si hl1 _ _ _) S_13 F_13_1 ?_
      refine ls_iload_n f_26_138 rfl ?_
      refine ls_iload f_26_139 rfl ?_
      refine ls_iast f_26_141 (lm_Lay_si hl1 _ _ _) S_15 hyp (fun hyp => ?_)
      refine ls_aload_n f_26_142 rfl ?_
      refine ls_iload f_26_143 rfl ?_
      refine ls_iald f_26_145 (lm_Lay_si (lm_Lay_si hl1 _ _ _) _ _ _) S_12 hyp (fun hyp => ?_)
      refine ls_top (lm_i h1 12 x4.toNatClampNeg) rfl ?_
      refine ls_bipush 32 f_26_146 (by decide) ?_
      refine ls_icmp_eq 154 f_26_148 rfl hyp (fun _ hyp => ?_) (fun _ hyp => ?_)
      · refine ls_iload f_26_154 rfl ?_
        refine ls_istore [some (.ref 13), some (.ref 12), some (.int x2), some (.int x3), some (.int x5), some (.int x5)] f_26_156 (Nat.le_of_ble_eq_true rfl) rfl ?_
        refine ls_goto 5 f_26_158 rfl ?_
        exact ls_mask [true, true, true, true, true, false] [some (.ref 13), some (.ref 12), some (.int x2), some (.int x3), some (.int x5), none] rfl hyp
      · refine ls_iinc (x3 + 1) [some (.ref 13), some (.ref 12), some (.int x2), some (.int (x3 + 1)), some (.int x4), some (.int x5)] f_26_151 rfl (Nat.le_of_ble_eq_true rfl) rfl rfl ?_
        refine ls_iload f_26_154 rfl ?_
        refine ls_istore [some (.ref 13), some (.ref 12), some (.int x2), some (.int (x3 + 1)), some (.int x5), some (.int x5)] f_26_156 (Nat.le_of_ble_eq_true rfl) rfl ?_
        refine ls_goto 5 f_26_158 rfl ?_
        exact ls_mask [true, true, true, true, true, false] [some (.ref 13), some (.ref 12), some (.int x2), some (.int (x3 + 1)), some (.int x5), none] rfl hyp
    · refine ls_iload_n f_27_6 rfl ?_
      refine ls_bipush 122 f_27_7 (by decide) ?_
      refine ls_icmp_gt 16 f_27_9 rfl hyp (fun _ hyp => ?_) (fun _ hyp => ?_)
      · refine ls_iconst 0 f_27_16 (by decide) ?_
        refine ls_zreturn f_27_17 rZ_27 (by decide) ?_
        show lm_W _ _ _ _ [.int 0] _ _
        refine ls_if_eq_T 49 f_26_40 rfl (by decide) ?_
        refine ls_aload_n f_26_49 rfl ?_
        refine ls_getR f_26_50 p_26_9 hl S_13 F_13_0 ?_
        refine ls_iload_n f_26_53 rfl ?_
        refine ls_aload_n f_26_54 rfl ?_
        refine ls_iload f_26_55 rfl ?_
        refine ls_iload f_26_57 rfl ?_
        refine ls_invS f_26_59 q_26_73 [.ref 12, .int x4, .int x5] [.int x3, .ref 14] rfl (Nat.le_of_ble_eq_true rfl) ?_
        refine ls_call hyp hl (fun _ h3 hl3 hyp => ?_)
        refine ls_retI hyp (fun r4 hyp => ?_)
        refine ls_iast f_26_62 hl3 S_14 hyp (fun hyp => ?_)
        refine ls_goto 134 f_26_63 rfl ?_
        refine ls_aload_n f_26_134 rfl ?_
        refine ls_getR f_26_135 p_26_15 (lm_Lay_si hl3 _ _ _) S_13 F_13_1 ?_
        refine ls_iload_n f_26_138 rfl ?_
        refine ls_iload f_26_139 rfl ?_
        refine ls_iast f_26_141 (lm_Lay_si hl3 _ _ _) S_15 hyp (fun hyp => ?_)
        refine ls_aload_n f_26_142 rfl ?_
        refine ls_iload f_26_143 rfl ?_
        refine ls_iald f_26_145 (lm_Lay_si (lm_Lay_si hl3 _ _ _) _ _ _) S_12 hyp (fun hyp => ?_)
        refine ls_top (lm_i h3 12 x4.toNatClampNeg) rfl ?_
        refine ls_bipush 32 f_26_146 (by decide) ?_
        refine ls_icmp_eq 154 f_26_148 rfl hyp (fun _ hyp => ?_) (fun _ hyp => ?_)
        · refine ls_iload f_26_154 rfl ?_
          refine ls_istore [some (.ref 13), some (.ref 12), some (.int x2), some (.int x3), some (.int x5), some (.int x5)] f_26_156 (Nat.le_of_ble_eq_true rfl) rfl ?_
          refine ls_goto 5 f_26_158 rfl ?_
          exact ls_mask [true, true, true, true, true, false] [some (.ref 13), some (.ref 12), some (.int x2), some (.int x3), some (.int x5), none] rfl hyp
        · refine ls_iinc (x3 + 1) [some (.ref 13), some (.ref 12), some (.int x2), some (.int (x3 + 1)), some (.int x4), some (.int x5)] f_26_151 rfl (Nat.le_of_ble_eq_true rfl) rfl rfl ?_
          refine ls_iload f_26_154 rfl ?_
          refine ls_istore [some (.ref 13), some (.ref 12), some (.int x2), some (.int (x3 + 1)), some (.int x5), some (.int x5)] f_26_156 (Nat.le_of_ble_eq_true rfl) rfl ?_
          refine ls_goto 5 f_26_158 rfl ?_
          exact ls_mask [true, true, true, true, true, false] [some (.ref 13), some (.ref 12), some (.int x2), some (.int (x3 + 1)), some (.int x5), none] rfl hyp
      · refine ls_iconst 1 f_27_12 (by decide) ?_
        refine ls_goto 17 f_27_13 rfl ?_
        refine ls_zreturn f_27_17 rZ_27 (by decide) ?_
        show lm_W _ _ _ _ [.int 1] _ _
        refine ls_if_eq_F 49 f_26_40 rfl (by decide) ?_
        refine ls_iinc (x5 + 1) [some (.ref 13), some (.ref 12), some (.int x2), some (.int x3), some (.int x4), some (.int (x5 + 1))] f_26_43 rfl (Nat.le_of_ble_eq_true rfl) rfl rfl ?_
        refine ls_goto 27 f_26_46 rfl ?_
        exact hyp
  · refine ls_aload_n f_26_49 rfl ?_
    refine ls_getR f_26_50 p_26_9 hl S_13 F_13_0 ?_
    refine ls_iload_n f_26_53 rfl ?_
    refine ls_aload_n f_26_54 rfl ?_
    refine ls_iload f_26_55 rfl ?_
    refine ls_iload f_26_57 rfl ?_
    refine ls_invS f_26_59 q_26_73 [.ref 12, .int x4, .int x5] [.int x3, .ref 14] rfl (Nat.le_of_ble_eq_true rfl) ?_
    refine ls_call hyp hl (fun _ h5 hl5 hyp => ?_)
    refine ls_retI hyp (fun r6 hyp => ?_)
    refine ls_iast f_26_62 hl5 S_14 hyp (fun hyp => ?_)
    refine ls_goto 134 f_26_63 rfl ?_
    refine ls_aload_n f_26_134 rfl ?_
    refine ls_getR f_26_135 p_26_15 (lm_Lay_si hl5 _ _ _) S_13 F_13_1 ?_
    refine ls_iload_n f_26_138 rfl ?_
    refine ls_iload f_26_139 rfl ?_
    refine ls_iast f_26_141 (lm_Lay_si hl5 _ _ _) S_15 hyp (fun hyp => ?_)
    refine ls_aload_n f_26_142 rfl ?_
    refine ls_iload f_26_143 rfl ?_
    refine ls_iald f_26_145 (lm_Lay_si (lm_Lay_si hl5 _ _ _) _ _ _) S_12 hyp (fun hyp => ?_)
    refine ls_top (lm_i h5 12 x4.toNatClampNeg) rfl ?_
    refine ls_bipush 32 f_26_146 (by decide) ?_
    refine ls_icmp_eq 154 f_26_148 rfl hyp (fun _ hyp => ?_) (fun _ hyp => ?_)
    · refine ls_iload f_26_154 rfl ?_
      refine ls_istore [some (.ref 13), some (.ref 12), some (.int x2), some (.int x3), some (.int x5), some (.int x5)] f_26_156 (Nat.le_of_ble_eq_true rfl) rfl ?_
      refine ls_goto 5 f_26_158 rfl ?_
      exact ls_mask [true, true, true, true, true, false] [some (.ref 13), some (.ref 12), some (.int x2), some (.int x3), some (.int x5), none] rfl hyp
    · refine ls_iinc (x3 + 1) [some (.ref 13), some (.ref 12), some (.int x2), some (.int (x3 + 1)), some (.int x4), some (.int x5)] f_26_151 rfl (Nat.le_of_ble_eq_true rfl) rfl rfl ?_
      refine ls_iload f_26_154 rfl ?_
      refine ls_istore [some (.ref 13), some (.ref 12), some (.int x2), some (.int (x3 + 1)), some (.int x5), some (.int x5)] f_26_156 (Nat.le_of_ble_eq_true rfl) rfl ?_
      refine ls_goto 5 f_26_158 rfl ?_
      exact ls_mask [true, true, true, true, true, false] [some (.ref 13), some (.ref 12), some (.int x2), some (.int (x3 + 1)), some (.int x5), none] rfl hyp
theorem e_27 {d : Nat} {h : lm_H} {K : Int32 → lm_H → Prop} (x0 : Int32) (hl : lm_Lay h) (hyp : (if x0 < 97 then (K 0 h) else (if 122 < x0 then (K 0 h) else (K 1 h)))) : lm_call (d + 1) 27 [.int x0] h (lm_kI K) := by
  refine ls_enter [some (.int x0)] ml_27 (Nat.le_of_ble_eq_true rfl) rfl ?_
  refine ls_iload_n f_27_0 rfl ?_
  refine ls_bipush 97 f_27_1 (by decide) ?_
  refine ls_icmp_lt 16 f_27_3 rfl hyp (fun _ hyp => ?_) (fun _ hyp => ?_)
  · refine ls_iconst 0 f_27_16 (by decide) ?_
    exact ls_zreturn f_27_17 rZ_27 (by decide) hyp
  · refine ls_iload_n f_27_6 rfl ?_
    refine ls_bipush 122 f_27_7 (by decide) ?_
    refine ls_icmp_gt 16 f_27_9 rfl hyp (fun _ hyp => ?_) (fun _ hyp => ?_)
    · refine ls_iconst 0 f_27_16 (by decide) ?_
      exact ls_zreturn f_27_17 rZ_27 (by decide) hyp
    · refine ls_iconst 1 f_27_12 (by decide) ?_
      refine ls_goto 17 f_27_13 rfl ?_
      exact ls_zreturn f_27_17 rZ_27 (by decide) hyp
theorem e_28 {d : Nat} {h : lm_H} {K : Int32 → lm_H → Prop} (x0 : Int32) (hl : lm_Lay h) (hyp : (if x0 < 48 then (K 0 h) else (if 57 < x0 then (K 0 h) else (K 1 h)))) : lm_call (d + 1) 28 [.int x0] h (lm_kI K) := by
  refine ls_enter [some (.int x0)] ml_28 (Nat.le_of_ble_eq_true rfl) rfl ?_
  refine ls_iload_n f_28_0 rfl ?_
  refine ls_bipush 48 f_28_1 (by decide) ?_
  refine ls_icmp_lt 16 f_28_3 rfl hyp (fun _ hyp => ?_) (fun _ hyp => ?_)
  · refine ls_iconst 0 f_28_16 (by decide) ?_
    exact ls_zreturn f_28_17 rZ_28 (by decide) hyp
  · refine ls_iload_n f_28_6 rfl ?_
    refine ls_bipush 57 f_28_7 (by decide) ?_
    refine ls_icmp_gt 16 f_28_9 rfl hyp (fun _ hyp => ?_) (fun _ hyp => ?_)
    · refine ls_iconst 0 f_28_16 (by decide) ?_
      exact ls_zreturn f_28_17 rZ_28 (by decide) hyp
    · refine ls_iconst 1 f_28_12 (by decide) ?_
      refine ls_goto 17 f_28_13 rfl ?_
      exact ls_zreturn f_28_17 rZ_28 (by decide) hyp
theorem e_29 {d : Nat} {h : lm_H} {K : Int32 → lm_H → Prop} (x1 : Int32) (x2 : Int32) (hl : lm_Lay h) (hyp : lm_W (d) 29 5 [some (.ref 12), none, some (.int x2), some (.int 0), some (.int x1)] [] h (lm_kI K)) : lm_call (d + 1) 29 [.ref 12, .int x1, .int x2] h (lm_kI K) := by
  refine ls_enter [some (.ref 12), some (.int x1), some (.int x2), none, none] ml_29 (Nat.le_of_ble_eq_true rfl) rfl ?_
  refine ls_iconst 0 f_29_0 (by decide) ?_
  refine ls_istore_n [some (.ref 12), some (.int x1), some (.int x2), some (.int 0), none] f_29_1 (Nat.le_of_ble_eq_true rfl) rfl ?_
  refine ls_iload_n f_29_2 rfl ?_
  refine ls_istore [some (.ref 12), some (.int x1), some (.int x2), some (.int 0), some (.int x1)] f_29_3 (Nat.le_of_ble_eq_true rfl) rfl ?_
  exact ls_mask [true, false, true, true, true] [some (.ref 12), none, some (.int x2), some (.int 0), some (.int x1)] rfl hyp
theorem b_29_5 {d : Nat} {h : lm_H} {K : Int32 → lm_H → Prop} (x2 : Int32) (x3 : Int32) (x4 : Int32) (hl : lm_Lay h) (hyp : (if x4 < x2 then (lm_in x4 400 False (lm_W (d) 29 5 [some (.ref 12), none, some (.int x2), some (.int (if 1001 < (((x3 * 10) + (lm_i h 12 x4.toNatClampNeg)) - 48) then 1001 else (((x3 * 10) + (lm_i h 12 x4.toNatClampNeg)) - 48))), some (.int (x4 + 1))] [] h (lm_kI K))) else (K x3 h))) : lm_W (d) 29 5 [some (.ref 12), none, some (.int x2), some (.int x3), some (.int x4)] [] h (lm_kI K) := by
  refine ls_iload f_29_5 rfl ?_
  refine ls_iload_n f_29_7 rfl ?_
  refine ls_icmp_ge 36 f_29_8 rfl hyp (fun _ hyp => ?_) (fun _ hyp => ?_)
  · refine ls_iload_n f_29_11 rfl ?_
    refine ls_bipush 10 f_29_12 (by decide) ?_
    refine ls_imul (x3 * 10) f_29_14 rfl ?_
    refine ls_aload_n f_29_15 rfl ?_
    refine ls_iload f_29_16 rfl ?_
    refine ls_iald f_29_18 hl S_12 hyp (fun hyp => ?_)
    refine ls_iadd ((x3 * 10) + (lm_i h 12 x4.toNatClampNeg)) f_29_19 rfl ?_
    refine ls_bipush 48 f_29_20 (by decide) ?_
    refine ls_isub (((x3 * 10) + (lm_i h 12 x4.toNatClampNeg)) - 48) f_29_22 rfl ?_
    refine ls_sipush 1001 f_29_23 (by decide) ?_
    refine ls_mathI (v := if 1001 < (((x3 * 10) + (lm_i h 12 x4.toNatClampNeg)) - 48) then 1001 else (((x3 * 10) + (lm_i h 12 x4.toNatClampNeg)) - 48)) 1003 f_29_26 q_29_37 (Or.inr ⟨rfl, rfl⟩) (Nat.le_of_ble_eq_true rfl) ?_
    refine ls_istore_n [some (.ref 12), none, some (.int x2), some (.int (if 1001 < (((x3 * 10) + (lm_i h 12 x4.toNatClampNeg)) - 48) then 1001 else (((x3 * 10) + (lm_i h 12 x4.toNatClampNeg)) - 48))), some (.int x4)] f_29_29 (Nat.le_of_ble_eq_true rfl) rfl ?_
    refine ls_iinc (x4 + 1) [some (.ref 12), none, some (.int x2), some (.int (if 1001 < (((x3 * 10) + (lm_i h 12 x4.toNatClampNeg)) - 48) then 1001 else (((x3 * 10) + (lm_i h 12 x4.toNatClampNeg)) - 48))), some (.int (x4 + 1))] f_29_30 rfl (Nat.le_of_ble_eq_true rfl) rfl rfl ?_
    refine ls_goto 5 f_29_33 rfl ?_
    exact hyp
  · refine ls_iload_n f_29_36 rfl ?_
    exact ls_ireturn f_29_37 rI_29 hyp
theorem e_30 {d : Nat} {h : lm_H} {K : Int32 → lm_H → Prop} (x1 : Int32) (x2 : Int32) (hl : lm_Lay h) (hyp : lm_W (d) 30 4 [some (.ref 12), some (.int x1), some (.int x2), some (.int 259)] [] h (lm_kI K)) : lm_call (d + 1) 30 [.ref 12, .int x1, .int x2] h (lm_kI K) := by
  refine ls_enter [some (.ref 12), some (.int x1), some (.int x2), none] ml_30 (Nat.le_of_ble_eq_true rfl) rfl ?_
  refine ls_sipush 259 f_30_0 (by decide) ?_
  refine ls_istore_n [some (.ref 12), some (.int x1), some (.int x2), some (.int 259)] f_30_3 (Nat.le_of_ble_eq_true rfl) rfl ?_
  exact hyp
theorem b_30_4 {d : Nat} {h : lm_H} {K : Int32 → lm_H → Prop} (x1 : Int32) (x2 : Int32) (x3 : Int32) (hl : lm_Lay h) (hyp : (if 271 < x3 then (K 258 h) else (lm_call (d) 31 [.int x3] h (lm_kR fun r2 h1 => lm_call (d) 32 [.ref 12, .int x1, .int x2, va_rf r2] h1 (lm_kI fun r4 h3 => (if r4 = 0 then (lm_W (d) 30 4 [some (.ref 12), some (.int x1), some (.int x2), some (.int (x3 + 1))] [] h3 (lm_kI K)) else (K x3 h3))))))) : lm_W (d) 30 4 [some (.ref 12), some (.int x1), some (.int x2), some (.int x3)] [] h (lm_kI K) := by
  refine ls_iload_n f_30_4 rfl ?_
  refine ls_sipush 271 f_30_5 (by decide) ?_
  refine ls_icmp_gt 32 f_30_8 rfl hyp (fun _ hyp => ?_) (fun _ hyp => ?_)
  · refine ls_sipush 258 f_30_32 (by decide) ?_
    exact ls_ireturn f_30_35 rI_30 hyp
  · refine ls_aload_n f_30_11 rfl ?_
    refine ls_iload_n f_30_12 rfl ?_
    refine ls_iload_n f_30_13 rfl ?_
    refine ls_iload_n f_30_14 rfl ?_
    refine ls_invS f_30_15 q_30_83 [.int x3] [.int x2, .int x1, .ref 12] rfl (Nat.le_of_ble_eq_true rfl) ?_
    refine ls_call hyp hl (fun _ h1 hl1 hyp => ?_)
    refine ls_retR hyp (fun r2 hyp => ?_)
    refine ls_invS f_30_18 q_30_87 [.ref 12, .int x1, .int x2, va_rf r2] [] rfl (Nat.le_of_ble_eq_true rfl) ?_
    refine ls_call hyp hl1 (fun _ h3 hl3 hyp => ?_)
    refine ls_retI hyp (fun r4 hyp => ?_)
    refine ls_if_eq 26 f_30_21 rfl hyp (fun _ hyp => ?_) (fun _ hyp => ?_)
    · refine ls_iinc (x3 + 1) [some (.ref 12), some (.int x1), some (.int x2), some (.int (x3 + 1))] f_30_26 rfl (Nat.le_of_ble_eq_true rfl) rfl rfl ?_
      refine ls_goto 4 f_30_29 rfl ?_
      exact hyp
    · refine ls_iload_n f_30_24 rfl ?_
      exact ls_ireturn f_30_25 rI_30 hyp
theorem e_33 {d : Nat} {h : lm_H} {K : Int32 → lm_H → Prop} (hl : lm_Lay h) (hyp : (if (lm_i h 13 4) < 0 then (K 256 h) else (if 400 < (lm_i h 13 4) then (K 256 h) else (lm_in (lm_i h 13 4) 401 False (K (lm_i h 14 ((lm_i h 13 4).toNatClampNeg)) h))))) : lm_call (d + 1) 33 [.ref 13] h (lm_kI K) := by
  refine ls_enter [some (.ref 13)] ml_33 (Nat.le_of_ble_eq_true rfl) rfl ?_
  refine ls_aload_n f_33_0 rfl ?_
  refine ls_getI f_33_1 p_33_24 hl S_13 ?_
  refine ls_if_lt 29 f_33_4 rfl hyp (fun _ hyp => ?_) (fun _ hyp => ?_)
  · refine ls_sipush 256 f_33_29 (by decide) ?_
    exact ls_ireturn f_33_32 rI_33 hyp
  · refine ls_aload_n f_33_7 rfl ?_
    refine ls_getI f_33_8 p_33_24 hl S_13 ?_
    refine ls_sipush 400 f_33_11 (by decide) ?_
    refine ls_icmp_gt 29 f_33_14 rfl hyp (fun _ hyp => ?_) (fun _ hyp => ?_)
    · refine ls_sipush 256 f_33_29 (by decide) ?_
      exact ls_ireturn f_33_32 rI_33 hyp
    · refine ls_aload_n f_33_17 rfl ?_
      refine ls_getR f_33_18 p_33_9 hl S_13 F_13_0 ?_
      refine ls_aload_n f_33_21 rfl ?_
      refine ls_getI f_33_22 p_33_24 hl S_13 ?_
      refine ls_iald f_33_25 hl S_14 hyp (fun hyp => ?_)
      refine ls_goto 32 f_33_26 rfl ?_
      exact ls_ireturn f_33_32 rI_33 hyp
theorem e_34 {d : Nat} {h : lm_H} {K : Int32 → lm_H → Prop} (hl : lm_Lay h) (hyp : (if (lm_i h 13 4) < 0 then (K 0 (lm_si h 13 7 (-1))) else (if 400 < (lm_i h 13 4) then (K 0 (lm_si h 13 7 (-1))) else (lm_in (lm_i h 13 4) 401 False (K 0 (lm_si h 13 7 (lm_i h 15 ((lm_i h 13 4).toNatClampNeg)))))))) : lm_call (d + 1) 34 [.ref 13] h (lm_kI K) := by
  refine ls_enter [some (.ref 13)] ml_34 (Nat.le_of_ble_eq_true rfl) rfl ?_
  refine ls_aload_n f_34_0 rfl ?_
  refine ls_aload_n f_34_1 rfl ?_
  refine ls_getI f_34_2 p_34_24 hl S_13 ?_
  refine ls_if_lt 30 f_34_5 rfl hyp (fun _ hyp => ?_) (fun _ hyp => ?_)
  · refine ls_iconst (-1) f_34_30 (by decide) ?_
    refine ls_putI f_34_31 p_34_34 hl S_13 rfl ?_
    refine ls_iconst 0 f_34_34 (by decide) ?_
    exact ls_zreturn f_34_35 rZ_34 (by decide) hyp
  · refine ls_aload_n f_34_8 rfl ?_
    refine ls_getI f_34_9 p_34_24 hl S_13 ?_
    refine ls_sipush 400 f_34_12 (by decide) ?_
    refine ls_icmp_gt 30 f_34_15 rfl hyp (fun _ hyp => ?_) (fun _ hyp => ?_)
    · refine ls_iconst (-1) f_34_30 (by decide) ?_
      refine ls_putI f_34_31 p_34_34 hl S_13 rfl ?_
      refine ls_iconst 0 f_34_34 (by decide) ?_
      exact ls_zreturn f_34_35 rZ_34 (by decide) hyp
    · refine ls_aload_n f_34_18 rfl ?_
      refine ls_getR f_34_19 p_34_15 hl S_13 F_13_1 ?_
      refine ls_aload_n f_34_22 rfl ?_
      refine ls_getI f_34_23 p_34_24 hl S_13 ?_
      refine ls_iald f_34_26 hl S_15 hyp (fun hyp => ?_)
      refine ls_goto 31 f_34_27 rfl ?_
      refine ls_putI f_34_31 p_34_34 hl S_13 rfl ?_
      refine ls_iconst 0 f_34_34 (by decide) ?_
      exact ls_zreturn f_34_35 rZ_34 (by decide) hyp
theorem e_35 {d : Nat} {h : lm_H} {K : lm_H → Prop} (x1 : Int32) (x2 : Int32) (hl : lm_Lay h) (hyp : (if (lm_i h 13 5) < 401 then (lm_in (lm_i h 13 5) 401 False (K (lm_si (lm_si h 17 ((lm_i h 13 5).toNatClampNeg) ((x2 <<< (4 &&& 31)) ||| x1)) 13 5 ((lm_i h 13 5) + 1)))) else (K h))) : lm_call (d + 1) 35 [.ref 13, .int x1, .int x2] h (lm_kV K) := by
  refine ls_enter [some (.ref 13), some (.int x1), some (.int x2)] ml_35 (Nat.le_of_ble_eq_true rfl) rfl ?_
  refine ls_aload_n f_35_0 rfl ?_
  refine ls_getI f_35_1 p_35_28 hl S_13 ?_
  refine ls_aload_n f_35_4 rfl ?_
  refine ls_getR f_35_5 p_35_21 hl S_13 F_13_3 ?_
  refine ls_alen f_35_8 hl S_17 rfl ?_
  refine ls_top 401 (by decide) ?_
  refine ls_icmp_ge 36 f_35_9 rfl hyp (fun _ hyp => ?_) (fun _ hyp => ?_)
  · refine ls_aload_n f_35_12 rfl ?_
    refine ls_getR f_35_13 p_35_21 hl S_13 F_13_3 ?_
    refine ls_aload_n f_35_16 rfl ?_
    refine ls_getI f_35_17 p_35_28 hl S_13 ?_
    refine ls_iload_n f_35_20 rfl ?_
    refine ls_iconst 4 f_35_21 (by decide) ?_
    refine ls_ishl (x2 <<< (4 &&& 31)) f_35_22 rfl ?_
    refine ls_iload_n f_35_23 rfl ?_
    refine ls_ior ((x2 <<< (4 &&& 31)) ||| x1) f_35_24 rfl ?_
    refine ls_iast f_35_25 hl S_17 hyp (fun hyp => ?_)
    refine ls_aload_n f_35_26 rfl ?_
    refine ls_dup f_35_27 rfl ?_
    refine ls_getI f_35_28 p_35_28 (lm_Lay_si hl _ _ _) S_13 ?_
    refine ls_top (lm_i h 13 5) rfl ?_
    refine ls_iconst 1 f_35_31 (by decide) ?_
    refine ls_iadd ((lm_i h 13 5) + 1) f_35_32 rfl ?_
    refine ls_putI f_35_33 p_35_28 (lm_Lay_si hl _ _ _) S_13 rfl ?_
    exact ls_return f_35_36 rV_35 hyp
  · exact ls_return f_35_36 rV_35 hyp
theorem e_36 {d : Nat} {h : lm_H} {K : lm_H → Prop} (x1 : Int32) (x2 : Int32) (hl : lm_Lay h) (hyp : (if x1 < 401 then (lm_in x1 401 False (K (lm_si h 17 x1.toNatClampNeg (((lm_i h 13 5) <<< (4 &&& 31)) ||| x2)))) else (K h))) : lm_call (d + 1) 36 [.ref 13, .int x1, .int x2] h (lm_kV K) := by
  refine ls_enter [some (.ref 13), some (.int x1), some (.int x2)] ml_36 (Nat.le_of_ble_eq_true rfl) rfl ?_
  refine ls_iload_n f_36_0 rfl ?_
  refine ls_aload_n f_36_1 rfl ?_
  refine ls_getR f_36_2 p_36_21 hl S_13 F_13_3 ?_
  refine ls_alen f_36_5 hl S_17 rfl ?_
  refine ls_top 401 (by decide) ?_
  refine ls_icmp_ge 23 f_36_6 rfl hyp (fun _ hyp => ?_) (fun _ hyp => ?_)
  · refine ls_aload_n f_36_9 rfl ?_
    refine ls_getR f_36_10 p_36_21 hl S_13 F_13_3 ?_
    refine ls_iload_n f_36_13 rfl ?_
    refine ls_aload_n f_36_14 rfl ?_
    refine ls_getI f_36_15 p_36_28 hl S_13 ?_
    refine ls_iconst 4 f_36_18 (by decide) ?_
    refine ls_ishl ((lm_i h 13 5) <<< (4 &&& 31)) f_36_19 rfl ?_
    refine ls_iload_n f_36_20 rfl ?_
    refine ls_ior (((lm_i h 13 5) <<< (4 &&& 31)) ||| x2) f_36_21 rfl ?_
    refine ls_iast f_36_22 hl S_17 hyp (fun hyp => ?_)
    exact ls_return f_36_23 rV_36 hyp
  · exact ls_return f_36_23 rV_36 hyp
theorem e_37 {d : Nat} {h : lm_H} {K : Int32 → lm_H → Prop} (hl : lm_Lay h) (hyp : lm_call (d) 33 [.ref 13] h (lm_kI fun r2 h1 => (if r2 = 263 then (lm_call (d) 35 [.ref 13, .int 12, .int 0] (lm_si h1 13 4 ((lm_i h1 13 4) + 1)) (lm_kV fun h3 => (if r2 = 263 then (lm_call (d) 45 [.ref 13, .int 0] h3 (lm_kI fun r5 h4 => (if r5 = 0 then (K 0 h4) else (lm_call (d) 33 [.ref 13] h4 (lm_kI fun r7 h6 => (if r7 = 259 then (lm_call (d) 38 [.ref 13, .int 0] (lm_si h6 13 4 ((lm_i h6 13 4) + 1)) (lm_kI fun r9 h8 => (if r9 = 0 then (K 0 h8) else (if r2 = 263 then (lm_call (d) 35 [.ref 13, .int 13, .int 1] h8 (lm_kV fun h10 => lm_call (d) 36 [.ref 13, .int (lm_i h 13 5), .int 12] h10 (lm_kV fun h11 => K 1 h11))) else (lm_call (d) 35 [.ref 13, .int 14, .int 1] h8 (lm_kV fun h12 => lm_call (d) 36 [.ref 13, .int (lm_i h 13 5), .int 12] h12 (lm_kV fun h13 => K 1 h13))))))) else (if r2 = 263 then (lm_call (d) 35 [.ref 13, .int 13, .int 0] h6 (lm_kV fun h14 => lm_call (d) 36 [.ref 13, .int (lm_i h 13 5), .int 12] h14 (lm_kV fun h15 => K 1 h15))) else (lm_call (d) 35 [.ref 13, .int 14, .int 0] h6 (lm_kV fun h16 => lm_call (d) 36 [.ref 13, .int (lm_i h 13 5), .int 12] h16 (lm_kV fun h17 => K 1 h17)))))))))) else (lm_call (d) 33 [.ref 13] h3 (lm_kI fun r19 h18 => (if r19 = 259 then (lm_call (d) 38 [.ref 13, .int 0] (lm_si h18 13 4 ((lm_i h18 13 4) + 1)) (lm_kI fun r21 h20 => (if r21 = 0 then (K 0 h20) else (if r2 = 263 then (lm_call (d) 35 [.ref 13, .int 13, .int 1] h20 (lm_kV fun h22 => lm_call (d) 36 [.ref 13, .int (lm_i h 13 5), .int 12] h22 (lm_kV fun h23 => K 1 h23))) else (lm_call (d) 35 [.ref 13, .int 14, .int 1] h20 (lm_kV fun h24 => lm_call (d) 36 [.ref 13, .int (lm_i h 13 5), .int 12] h24 (lm_kV fun h25 => K 1 h25))))))) else (if r2 = 263 then (lm_call (d) 35 [.ref 13, .int 13, .int 0] h18 (lm_kV fun h26 => lm_call (d) 36 [.ref 13, .int (lm_i h 13 5), .int 12] h26 (lm_kV fun h27 => K 1 h27))) else (lm_call (d) 35 [.ref 13, .int 14, .int 0] h18 (lm_kV fun h28 => lm_call (d) 36 [.ref 13, .int (lm_i h 13 5), .int 12] h28 (lm_kV fun h29 => K 1 h29)))))))))) else (if r2 = 264 then (lm_call (d) 35 [.ref 13, .int 12, .int 0] (lm_si h1 13 4 ((lm_i h1 13 4) + 1)) (lm_kV fun h30 => (if r2 = 263 then (lm_call (d) 45 [.ref 13, .int 0] h30 (lm_kI fun r32 h31 => (if r32 = 0 then (K 0 h31) else (lm_call (d) 33 [.ref 13] h31 (lm_kI fun r34 h33 => (if r34 = 259 then (lm_call (d) 38 [.ref 13, .int 0] (lm_si h33 13 4 ((lm_i h33 13 4) + 1)) (lm_kI fun r36 h35 => (if r36 = 0 then (K 0 h35) else (if r2 = 263 then (lm_call (d) 35 [.ref 13, .int 13, .int 1] h35 (lm_kV fun h37 => lm_call (d) 36 [.ref 13, .int (lm_i h 13 5), .int 12] h37 (lm_kV fun h38 => K 1 h38))) else (lm_call (d) 35 [.ref 13, .int 14, .int 1] h35 (lm_kV fun h39 => lm_call (d) 36 [.ref 13, .int (lm_i h 13 5), .int 12] h39 (lm_kV fun h40 => K 1 h40))))))) else (if r2 = 263 then (lm_call (d) 35 [.ref 13, .int 13, .int 0] h33 (lm_kV fun h41 => lm_call (d) 36 [.ref 13, .int (lm_i h 13 5), .int 12] h41 (lm_kV fun h42 => K 1 h42))) else (lm_call (d) 35 [.ref 13, .int 14, .int 0] h33 (lm_kV fun h43 => lm_call (d) 36 [.ref 13, .int (lm_i h 13 5), .int 12] h43 (lm_kV fun h44 => K 1 h44)))))))))) else (lm_call (d) 33 [.ref 13] h30 (lm_kI fun r46 h45 => (if r46 = 259 then (lm_call (d) 38 [.ref 13, .int 0] (lm_si h45 13 4 ((lm_i h45 13 4) + 1)) (lm_kI fun r48 h47 => (if r48 = 0 then (K 0 h47) else (if r2 = 263 then (lm_call (d) 35 [.ref 13, .int 13, .int 1] h47 (lm_kV fun h49 => lm_call (d) 36 [.ref 13, .int (lm_i h 13 5), .int 12] h49 (lm_kV fun h50 => K 1 h50))) else (lm_call (d) 35 [.ref 13, .int 14, .int 1] h47 (lm_kV fun h51 => lm_call (d) 36 [.ref 13, .int (lm_i h 13 5), .int 12] h51 (lm_kV fun h52 => K 1 h52))))))) else (if r2 = 263 then (lm_call (d) 35 [.ref 13, .int 13, .int 0] h45 (lm_kV fun h53 => lm_call (d) 36 [.ref 13, .int (lm_i h 13 5), .int 12] h53 (lm_kV fun h54 => K 1 h54))) else (lm_call (d) 35 [.ref 13, .int 14, .int 0] h45 (lm_kV fun h55 => lm_call (d) 36 [.ref 13, .int (lm_i h 13 5), .int 12] h55 (lm_kV fun h56 => K 1 h56)))))))))) else (lm_call (d) 34 [.ref 13] h1 (lm_kI fun r58 h57 => (vp_nar .boolean r58 = r58) ∧ K r58 h57)))))) : lm_call (d + 1) 37 [.ref 13] h (lm_kI K) := by
  refine ls_enter [some (.ref 13), none, none, none] ml_37 (Nat.le_of_ble_eq_true rfl) rfl ?_
  refine ls_aload_n f_37_0 rfl ?_
  refine ls_getI f_37_1 p_37_28 hl S_13 ?_
  refine ls_istore_n [some (.ref 13), some (.int (lm_i h 13 5)), none, none] f_37_4 (Nat.le_of_ble_eq_true rfl) rfl ?_
  refine ls_aload_n f_37_5 rfl ?_
  refine ls_invV (a := 13) f_37_6 q_37_51 [] [] rfl (Nat.le_of_ble_eq_true rfl) hl S_13 ow_33 ?_
  refine ls_call hyp hl (fun _ h1 hl1 hyp => ?_)
  refine ls_retI hyp (fun r2 hyp => ?_)
  refine ls_istore_n [some (.ref 13), some (.int (lm_i h 13 5)), some (.int r2), none] f_37_9 (Nat.le_of_ble_eq_true rfl) rfl ?_
  refine ls_iload_n f_37_10 rfl ?_
  refine ls_sipush 263 f_37_11 (by decide) ?_
  refine ls_icmp_eq 29 f_37_14 rfl hyp (fun _ hyp => ?_) (fun _ hyp => ?_)
  · refine ls_aload_n f_37_29 rfl ?_
    refine ls_dup f_37_30 rfl ?_
    refine ls_getI f_37_31 p_37_24 hl1 S_13 ?_
    refine ls_iconst 1 f_37_34 (by decide) ?_
    refine ls_iadd ((lm_i h1 13 4) + 1) f_37_35 rfl ?_
    refine ls_putI f_37_36 p_37_24 hl1 S_13 rfl ?_
    refine ls_aload_n f_37_39 rfl ?_
    refine ls_bipush 12 f_37_40 (by decide) ?_
    refine ls_iconst 0 f_37_42 (by decide) ?_
    refine ls_invV (a := 13) f_37_43 q_37_126 [.int 12, .int 0] [] rfl (Nat.le_of_ble_eq_true rfl) (lm_Lay_si hl1 _ _ _) S_13 ow_35 ?_
    refine ls_call hyp (lm_Lay_si hl1 _ _ _) (fun _ h3 hl3 hyp => ?_)
    refine ls_retV hyp (fun hyp => ?_)
    refine ls_iload_n f_37_46 rfl ?_
    refine ls_sipush 263 f_37_47 (by decide) ?_
    refine ls_icmp_ne 63 f_37_50 rfl hyp (fun _ hyp => ?_) (fun _ hyp => ?_)
    · refine ls_aload_n f_37_53 rfl ?_
      refine ls_iconst 0 f_37_54 (by decide) ?_
      refine ls_invV (a := 13) f_37_55 q_37_130 [.int 0] [] rfl (Nat.le_of_ble_eq_true rfl) hl3 S_13 ow_45 ?_
      refine ls_call hyp hl3 (fun _ h4 hl4 hyp => ?_)
      refine ls_retI hyp (fun r5 hyp => ?_)
      refine ls_if_ne 63 f_37_58 rfl hyp (fun _ hyp => ?_) (fun _ hyp => ?_)
      · refine ls_iconst 0 f_37_61 (by decide) ?_
        exact ls_zreturn f_37_62 rZ_37 (by decide) hyp
      · refine ls_aload_n f_37_63 rfl ?_
        refine ls_invV (a := 13) f_37_64 q_37_51 [] [] rfl (Nat.le_of_ble_eq_true rfl) hl4 S_13 ow_33 ?_
        refine ls_call hyp hl4 (fun _ h6 hl6 hyp => ?_)
        refine ls_retI hyp (fun r7 hyp => ?_)
        refine ls_sipush 259 f_37_67 (by decide) ?_
        refine ls_icmp_ne 77 f_37_70 rfl hyp (fun _ hyp => ?_) (fun _ hyp => ?_)
        · refine ls_iconst 1 f_37_73 (by decide) ?_
          refine ls_goto 78 f_37_74 rfl ?_
          refine ls_istore_n [some (.ref 13), some (.int (lm_i h 13 5)), some (.int r2), some (.int 1)] f_37_78 (Nat.le_of_ble_eq_true rfl) rfl ?_
          refine ls_iload_n f_37_79 rfl ?_
          refine ls_if_eq_F 103 f_37_80 rfl (by decide) ?_
          refine ls_aload_n f_37_83 rfl ?_
          refine ls_dup f_37_84 rfl ?_
          refine ls_getI f_37_85 p_37_24 hl6 S_13 ?_
          refine ls_iconst 1 f_37_88 (by decide) ?_
          refine ls_iadd ((lm_i h6 13 4) + 1) f_37_89 rfl ?_
          refine ls_putI f_37_90 p_37_24 hl6 S_13 rfl ?_
          refine ls_aload_n f_37_93 rfl ?_
          refine ls_iconst 0 f_37_94 (by decide) ?_
          refine ls_invV (a := 13) f_37_95 q_37_133 [.int 0] [] rfl (Nat.le_of_ble_eq_true rfl) (lm_Lay_si hl6 _ _ _) S_13 ow_38 ?_
          refine ls_call hyp (lm_Lay_si hl6 _ _ _) (fun _ h8 hl8 hyp => ?_)
          refine ls_retI hyp (fun r9 hyp => ?_)
          refine ls_if_ne 103 f_37_98 rfl hyp (fun _ hyp => ?_) (fun _ hyp => ?_)
          · refine ls_iconst 0 f_37_101 (by decide) ?_
            exact ls_zreturn f_37_102 rZ_37 (by decide) hyp
          · refine ls_aload_n f_37_103 rfl ?_
            refine ls_iload_n f_37_104 rfl ?_
            refine ls_sipush 263 f_37_105 (by decide) ?_
            refine ls_icmp_ne 116 f_37_108 rfl hyp (fun _ hyp => ?_) (fun _ hyp => ?_)
            · refine ls_bipush 13 f_37_111 (by decide) ?_
              refine ls_goto 118 f_37_113 rfl ?_
              refine ls_iload_n f_37_118 rfl ?_
              refine ls_if_eq_F 126 f_37_119 rfl (by decide) ?_
              refine ls_iconst 1 f_37_122 (by decide) ?_
              refine ls_goto 127 f_37_123 rfl ?_
              refine ls_invV (a := 13) f_37_127 q_37_126 [.int 13, .int 1] [] rfl (Nat.le_of_ble_eq_true rfl) hl8 S_13 ow_35 ?_
              refine ls_call hyp hl8 (fun _ h10 hl10 hyp => ?_)
              refine ls_retV hyp (fun hyp => ?_)
              refine ls_aload_n f_37_130 rfl ?_
              refine ls_iload_n f_37_131 rfl ?_
              refine ls_bipush 12 f_37_132 (by decide) ?_
              refine ls_invV (a := 13) f_37_134 q_37_136 [.int (lm_i h 13 5), .int 12] [] rfl (Nat.le_of_ble_eq_true rfl) hl10 S_13 ow_36 ?_
              refine ls_call hyp hl10 (fun _ h11 hl11 hyp => ?_)
              refine ls_retV hyp (fun hyp => ?_)
              refine ls_iconst 1 f_37_137 (by decide) ?_
              exact ls_zreturn f_37_138 rZ_37 (by decide) hyp
            · refine ls_bipush 14 f_37_116 (by decide) ?_
              refine ls_iload_n f_37_118 rfl ?_
              refine ls_if_eq_F 126 f_37_119 rfl (by decide) ?_
              refine ls_iconst 1 f_37_122 (by decide) ?_
              refine ls_goto 127 f_37_123 rfl ?_
              refine ls_invV (a := 13) f_37_127 q_37_126 [.int 14, .int 1] [] rfl (Nat.le_of_ble_eq_true rfl) hl8 S_13 ow_35 ?_
              refine ls_call hyp hl8 (fun _ h12 hl12 hyp => ?_)
              refine ls_retV hyp (fun hyp => ?_)
              refine ls_aload_n f_37_130 rfl ?_
              refine ls_iload_n f_37_131 rfl ?_
              refine ls_bipush 12 f_37_132 (by decide) ?_
              refine ls_invV (a := 13) f_37_134 q_37_136 [.int (lm_i h 13 5), .int 12] [] rfl (Nat.le_of_ble_eq_true rfl) hl12 S_13 ow_36 ?_
              refine ls_call hyp hl12 (fun _ h13 hl13 hyp => ?_)
              refine ls_retV hyp (fun hyp => ?_)
              refine ls_iconst 1 f_37_137 (by decide) ?_
              exact ls_zreturn f_37_138 rZ_37 (by decide) hyp
        · refine ls_iconst 0 f_37_77 (by decide) ?_
          refine ls_istore_n [some (.ref 13), some (.int (lm_i h 13 5)), some (.int r2), some (.int 0)] f_37_78 (Nat.le_of_ble_eq_true rfl) rfl ?_
          refine ls_iload_n f_37_79 rfl ?_
          refine ls_if_eq_T 103 f_37_80 rfl (by decide) ?_
          refine ls_aload_n f_37_103 rfl ?_
          refine ls_iload_n f_37_104 rfl ?_
          refine ls_sipush 263 f_37_105 (by decide) ?_
          refine ls_icmp_ne 116 f_37_108 rfl hyp (fun _ hyp => ?_) (fun _ hyp => ?_)
          · refine ls_bipush 13 f_37_111 (by decide) ?_
            refine ls_goto 118 f_37_113 rfl ?_
            refine ls_iload_n f_37_118 rfl ?_
            refine ls_if_eq_T 126 f_37_119 rfl (by decide) ?_
            refine ls_iconst 0 f_37_126 (by decide) ?_
            refine ls_invV (a := 13) f_37_127 q_37_126 [.int 13, .int 0] [] rfl (Nat.le_of_ble_eq_true rfl) hl6 S_13 ow_35 ?_
            refine ls_call hyp hl6 (fun _ h14 hl14 hyp => ?_)
            refine ls_retV hyp (fun hyp => ?_)
            refine ls_aload_n f_37_130 rfl ?_
            refine ls_iload_n f_37_131 rfl ?_
            refine ls_bipush 12 f_37_132 (by decide) ?_
            refine ls_invV (a := 13) f_37_134 q_37_136 [.int (lm_i h 13 5), .int 12] [] rfl (Nat.le_of_ble_eq_true rfl) hl14 S_13 ow_36 ?_
            refine ls_call hyp hl14 (fun _ h15 hl15 hyp => ?_)
            refine ls_retV hyp (fun hyp => ?_)
            refine ls_iconst 1 f_37_137 (by decide) ?_
            exact ls_zreturn f_37_138 rZ_37 (by decide) hyp
          · refine ls_bipush 14 f_37_116 (by decide) ?_
            refine ls_iload_n f_37_118 rfl ?_
            refine ls_if_eq_T 126 f_37_119 rfl (by decide) ?_
            refine ls_iconst 0 f_37_126 (by decide) ?_
            refine ls_invV (a := 13) f_37_127 q_37_126 [.int 14, .int 0] [] rfl (Nat.le_of_ble_eq_true rfl) hl6 S_13 ow_35 ?_
            refine ls_call hyp hl6 (fun _ h16 hl16 hyp => ?_)
            refine ls_retV hyp (fun hyp => ?_)
            refine ls_aload_n f_37_130 rfl ?_
            refine ls_iload_n f_37_131 rfl ?_
            refine ls_bipush 12 f_37_132 (by decide) ?_
            refine ls_invV (a := 13) f_37_134 q_37_136 [.int (lm_i h 13 5), .int 12] [] rfl (Nat.le_of_ble_eq_true rfl) hl16 S_13 ow_36 ?_
            refine ls_call hyp hl16 (fun _ h17 hl17 hyp => ?_)
            refine ls_retV hyp (fun hyp => ?_)
            refine ls_iconst 1 f_37_137 (by decide) ?_
            exact ls_zreturn f_37_138 rZ_37 (by decide) hyp
    · refine ls_aload_n f_37_63 rfl ?_
      refine ls_invV (a := 13) f_37_64 q_37_51 [] [] rfl (Nat.le_of_ble_eq_true rfl) hl3 S_13 ow_33 ?_
      refine ls_call hyp hl3 (fun _ h18 hl18 hyp => ?_)
      refine ls_retI hyp (fun r19 hyp => ?_)
      refine ls_sipush 259 f_37_67 (by decide) ?_
      refine ls_icmp_ne 77 f_37_70 rfl hyp (fun _ hyp => ?_) (fun _ hyp => ?_)
      · refine ls_iconst 1 f_37_73 (by decide) ?_
        refine ls_goto 78 f_37_74 rfl ?_
        refine ls_istore_n [some (.ref 13), some (.int (lm_i h 13 5)), some (.int r2), some (.int 1)] f_37_78 (Nat.le_of_ble_eq_true rfl) rfl ?_
        refine ls_iload_n f_37_79 rfl ?_
        refine ls_if_eq_F 103 f_37_80 rfl (by decide) ?_
        refine ls_aload_n f_37_83 rfl ?_
        refine ls_dup f_37_84 rfl ?_
        refine ls_getI f_37_85 p_37_24 hl18 S_13 ?_
        refine ls_iconst 1 f_37_88 (by decide) ?_
        refine ls_iadd ((lm_i h18 13 4) + 1) f_37_89 rfl ?_
        refine ls_putI f_37_90 p_37_24 hl18 S_13 rfl ?_
        refine ls_aload_n f_37_93 rfl ?_
        refine ls_iconst 0 f_37_94 (by decide) ?_
        refine ls_invV (a := 13) f_37_95 q_37_133 [.int 0] [] rfl (Nat.le_of_ble_eq_true rfl) (lm_Lay_si hl18 _ _ _) S_13 ow_38 ?_
        refine ls_call hyp (lm_Lay_si hl18 _ _ _) (fun _ h20 hl20 hyp => ?_)
        refine ls_retI hyp (fun r21 hyp => ?_)
        refine ls_if_ne 103 f_37_98 rfl hyp (fun _ hyp => ?_) (fun _ hyp => ?_)
        · refine ls_iconst 0 f_37_101 (by decide) ?_
          exact ls_zreturn f_37_102 rZ_37 (by decide) hyp
        · refine ls_aload_n f_37_103 rfl ?_
          refine ls_iload_n f_37_104 rfl ?_
          refine ls_sipush 263 f_37_105 (by decide) ?_
          refine ls_icmp_ne 116 f_37_108 rfl hyp (fun _ hyp => ?_) (fun _ hyp => ?_)
          · refine ls_bipush 13 f_37_111 (by decide) ?_
            refine ls_goto 118 f_37_113 rfl ?_
            refine ls_iload_n f_37_118 rfl ?_
            refine ls_if_eq_F 126 f_37_119 rfl (by decide) ?_
            refine ls_iconst 1 f_37_122 (by decide) ?_
            refine ls_goto 127 f_37_123 rfl ?_
            refine ls_invV (a := 13) f_37_127 q_37_126 [.int 13, .int 1] [] rfl (Nat.le_of_ble_eq_true rfl) hl20 S_13 ow_35 ?_
            refine ls_call hyp hl20 (fun _ h22 hl22 hyp => ?_)
            refine ls_retV hyp (fun hyp => ?_)
            refine ls_aload_n f_37_130 rfl ?_
            refine ls_iload_n f_37_131 rfl ?_
            refine ls_bipush 12 f_37_132 (by decide) ?_
            refine ls_invV (a := 13) f_37_134 q_37_136 [.int (lm_i h 13 5), .int 12] [] rfl (Nat.le_of_ble_eq_true rfl) hl22 S_13 ow_36 ?_
            refine ls_call hyp hl22 (fun _ h23 hl23 hyp => ?_)
            refine ls_retV hyp (fun hyp => ?_)
            refine ls_iconst 1 f_37_137 (by decide) ?_
            exact ls_zreturn f_37_138 rZ_37 (by decide) hyp
          · refine ls_bipush 14 f_37_116 (by decide) ?_
            refine ls_iload_n f_37_118 rfl ?_
            refine ls_if_eq_F 126 f_37_119 rfl (by decide) ?_
            refine ls_iconst 1 f_37_122 (by decide) ?_
            refine ls_goto 127 f_37_123 rfl ?_
            refine ls_invV (a := 13) f_37_127 q_37_126 [.int 14, .int 1] [] rfl (Nat.le_of_ble_eq_true rfl) hl20 S_13 ow_35 ?_
            refine ls_call hyp hl20 (fun _ h24 hl24 hyp => ?_)
            refine ls_retV hyp (fun hyp => ?_)
            refine ls_aload_n f_37_130 rfl ?_
            refine ls_iload_n f_37_131 rfl ?_
            refine ls_bipush 12 f_37_132 (by decide) ?_
            refine ls_invV (a := 13) f_37_134 q_37_136 [.int (lm_i h 13 5), .int 12] [] rfl (Nat.le_of_ble_eq_true rfl) hl24 S_13 ow_36 ?_
            refine ls_call hyp hl24 (fun _ h25 hl25 hyp => ?_)
            refine ls_retV hyp (fun hyp => ?_)
            refine ls_iconst 1 f_37_137 (by decide) ?_
            exact ls_zreturn f_37_138 rZ_37 (by decide) hyp
      · refine ls_iconst 0 f_37_77 (by decide) ?_
        refine ls_istore_n [some (.ref 13), some (.int (lm_i h 13 5)), some (.int r2), some (.int 0)] f_37_78 (Nat.le_of_ble_eq_true rfl) rfl ?_
        refine ls_iload_n f_37_79 rfl ?_
        refine ls_if_eq_T 103 f_37_80 rfl (by decide) ?_
        refine ls_aload_n f_37_103 rfl ?_
        refine ls_iload_n f_37_104 rfl ?_
        refine ls_sipush 263 f_37_105 (by decide) ?_
        refine ls_icmp_ne 116 f_37_108 rfl hyp (fun _ hyp => ?_) (fun _ hyp => ?_)
        · refine ls_bipush 13 f_37_111 (by decide) ?_
          refine ls_goto 118 f_37_113 rfl ?_
          refine ls_iload_n f_37_118 rfl ?_
          refine ls_if_eq_T 126 f_37_119 rfl (by decide) ?_
          refine ls_iconst 0 f_37_126 (by decide) ?_
          refine ls_invV (a := 13) f_37_127 q_37_126 [.int 13, .int 0] [] rfl (Nat.le_of_ble_eq_true rfl) hl18 S_13 ow_35 ?_
          refine ls_call hyp hl18 (fun _ h26 hl26 hyp => ?_)
          refine ls_retV hyp (fun hyp => ?_)
          refine ls_aload_n f_37_130 rfl ?_
          refine ls_iload_n f_37_131 rfl ?_
          refine ls_bipush 12 f_37_132 (by decide) ?_
          refine ls_invV (a := 13) f_37_134 q_37_136 [.int (lm_i h 13 5), .int 12] [] rfl (Nat.le_of_ble_eq_true rfl) hl26 S_13 ow_36 ?_
          refine ls_call hyp hl26 (fun _ h27 hl27 hyp => ?_)
          refine ls_retV hyp (fun hyp => ?_)
          refine ls_iconst 1 f_37_137 (by decide) ?_
          exact ls_zreturn f_37_138 rZ_37 (by decide) hyp
        · refine ls_bipush 14 f_37_116 (by decide) ?_
          refine ls_iload_n f_37_118 rfl ?_
          refine ls_if_eq_T 126 f_37_119 rfl (by decide) ?_
          refine ls_iconst 0 f_37_126 (by decide) ?_
          refine ls_invV (a := 13) f_37_127 q_37_126 [.int 14, .int 0] [] rfl (Nat.le_of_ble_eq_true rfl) hl18 S_13 ow_35 ?_
          refine ls_call hyp hl18 (fun _ h28 hl28 hyp => ?_)
          refine ls_retV hyp (fun hyp => ?_)
          refine ls_aload_n f_37_130 rfl ?_
          refine ls_iload_n f_37_131 rfl ?_
          refine ls_bipush 12 f_37_132 (by decide) ?_
          refine ls_invV (a := 13) f_37_134 q_37_136 [.int (lm_i h 13 5), .int 12] [] rfl (Nat.le_of_ble_eq_true rfl) hl28 S_13 ow_36 ?_
          refine ls_call hyp hl28 (fun _ h29 hl29 hyp => ?_)
          refine ls_retV hyp (fun hyp => ?_)
          refine ls_iconst 1 f_37_137 (by decide) ?_
          exact ls_zreturn f_37_138 rZ_37 (by decide) hyp
  · refine ls_iload_n f_37_17 rfl ?_
    refine ls_sipush 264 f_37_18 (by decide) ?_
    refine ls_icmp_eq 29 f_37_21 rfl hyp (fun _ hyp => ?_) (fun _ hyp => ?_)
    · refine ls_aload_n f_37_29 rfl ?_
      refine ls_dup f_37_30 rfl ?_
      refine ls_getI f_37_31 p_37_24 hl1 S_13 ?_
      refine ls_iconst 1 f_37_34 (by decide) ?_
      refine ls_iadd ((lm_i h1 13 4) + 1) f_37_35 rfl ?_
      refine ls_putI f_37_36 p_37_24 hl1 S_13 rfl ?_
      refine ls_aload_n f_37_39 rfl ?_
      refine ls_bipush 12 f_37_40 (by decide) ?_
      refine ls_iconst 0 f_37_42 (by decide) ?_
      refine ls_invV (a := 13) f_37_43 q_37_126 [.int 12, .int 0] [] rfl (Nat.le_of_ble_eq_true rfl) (lm_Lay_si hl1 _ _ _) S_13 ow_35 ?_
      refine ls_call hyp (lm_Lay_si hl1 _ _ _) (fun _ h30 hl30 hyp => ?_)
      refine ls_retV hyp (fun hyp => ?_)
      refine ls_iload_n f_37_46 rfl ?_
      refine ls_sipush 263 f_37_47 (by decide) ?_
      refine ls_icmp_ne 63 f_37_50 rfl hyp (fun _ hyp => ?_) (fun _ hyp => ?_)
      · refine ls_aload_n f_37_53 rfl ?_
        refine ls_iconst 0 f_37_54 (by decide) ?_
        refine ls_invV (a := 13) f_37_55 q_37_130 [.int 0] [] rfl (Nat.le_of_ble_eq_true rfl) hl30 S_13 ow_45 ?_
        refine ls_call hyp hl30 (fun _ h31 hl31 hyp => ?_)
        refine ls_retI hyp (fun r32 hyp => ?_)
        refine ls_if_ne 63 f_37_58 rfl hyp (fun _ hyp => ?_) (fun _ hyp => ?_)
        · refine ls_iconst 0 f_37_61 (by decide) ?_
          exact ls_zreturn f_37_62 rZ_37 (by decide) hyp
        · refine ls_aload_n f_37_63 rfl ?_
          refine ls_invV (a := 13) f_37_64 q_37_51 [] [] rfl (Nat.le_of_ble_eq_true rfl) hl31 S_13 ow_33 ?_
          refine ls_call hyp hl31 (fun _ h33 hl33 hyp => ?_)
          refine ls_retI hyp (fun r34 hyp => ?_)
          refine ls_sipush 259 f_37_67 (by decide) ?_
          refine ls_icmp_ne 77 f_37_70 rfl hyp (fun _ hyp => ?_) (fun _ hyp => ?_)
          · refine ls_iconst 1 f_37_73 (by decide) ?_
            refine ls_goto 78 f_37_74 rfl ?_
            refine ls_istore_n [some (.ref 13), some (.int (lm_i h 13 5)), some (.int r2), some (.int 1)] f_37_78 (Nat.le_of_ble_eq_true rfl) rfl ?_
            refine ls_iload_n f_37_79 rfl ?_
            refine ls_if_eq_F 103 f_37_80 rfl (by decide) ?_
            refine ls_aload_n f_37_83 rfl ?_
            refine ls_dup f_37_84 rfl ?_
            refine ls_getI f_37_85 p_37_24 hl33 S_13 ?_
            refine ls_iconst 1 f_37_88 (by decide) ?_
            refine ls_iadd ((lm_i h33 13 4) + 1) f_37_89 rfl ?_
            refine ls_putI f_37_90 p_37_24 hl33 S_13 rfl ?_
            refine ls_aload_n f_37_93 rfl ?_
            refine ls_iconst 0 f_37_94 (by decide) ?_
            refine ls_invV (a := 13) f_37_95 q_37_133 [.int 0] [] rfl (Nat.le_of_ble_eq_true rfl) (lm_Lay_si hl33 _ _ _) S_13 ow_38 ?_
            refine ls_call hyp (lm_Lay_si hl33 _ _ _) (fun _ h35 hl35 hyp => ?_)
            refine ls_retI hyp (fun r36 hyp => ?_)
            refine ls_if_ne 103 f_37_98 rfl hyp (fun _ hyp => ?_) (fun _ hyp => ?_)
            · refine ls_iconst 0 f_37_101 (by decide) ?_
              exact ls_zreturn f_37_102 rZ_37 (by decide) hyp
            · refine ls_aload_n f_37_103 rfl ?_
              refine ls_iload_n f_37_104 rfl ?_
              refine ls_sipush 263 f_37_105 (by decide) ?_
              refine ls_icmp_ne 116 f_37_108 rfl hyp (fun _ hyp => ?_) (fun _ hyp => ?_)
              · refine ls_bipush 13 f_37_111 (by decide) ?_
                refine ls_goto 118 f_37_113 rfl ?_
                refine ls_iload_n f_37_118 rfl ?_
                refine ls_if_eq_F 126 f_37_119 rfl (by decide) ?_
                refine ls_iconst 1 f_37_122 (by decide) ?_
                refine ls_goto 127 f_37_123 rfl ?_
                refine ls_invV (a := 13) f_37_127 q_37_126 [.int 13, .int 1] [] rfl (Nat.le_of_ble_eq_true rfl) hl35 S_13 ow_35 ?_
                refine ls_call hyp hl35 (fun _ h37 hl37 hyp => ?_)
                refine ls_retV hyp (fun hyp => ?_)
                refine ls_aload_n f_37_130 rfl ?_
                refine ls_iload_n f_37_131 rfl ?_
                refine ls_bipush 12 f_37_132 (by decide) ?_
                refine ls_invV (a := 13) f_37_134 q_37_136 [.int (lm_i h 13 5), .int 12] [] rfl (Nat.le_of_ble_eq_true rfl) hl37 S_13 ow_36 ?_
                refine ls_call hyp hl37 (fun _ h38 hl38 hyp => ?_)
                refine ls_retV hyp (fun hyp => ?_)
                refine ls_iconst 1 f_37_137 (by decide) ?_
                exact ls_zreturn f_37_138 rZ_37 (by decide) hyp
              · refine ls_bipush 14 f_37_116 (by decide) ?_
                refine ls_iload_n f_37_118 rfl ?_
                refine ls_if_eq_F 126 f_37_119 rfl (by decide) ?_
                refine ls_iconst 1 f_37_122 (by decide) ?_
                refine ls_goto 127 f_37_123 rfl ?_
                refine ls_invV (a := 13) f_37_127 q_37_126 [.int 14, .int 1] [] rfl (Nat.le_of_ble_eq_true rfl) hl35 S_13 ow_35 ?_
                refine ls_call hyp hl35 (fun _ h39 hl39 hyp => ?_)
                refine ls_retV hyp (fun hyp => ?_)
                refine ls_aload_n f_37_130 rfl ?_
                refine ls_iload_n f_37_131 rfl ?_
                refine ls_bipush 12 f_37_132 (by decide) ?_
                refine ls_invV (a := 13) f_37_134 q_37_136 [.int (lm_i h 13 5), .int 12] [] rfl (Nat.le_of_ble_eq_true rfl) hl39 S_13 ow_36 ?_
                refine ls_call hyp hl39 (fun _ h40 hl40 hyp => ?_)
                refine ls_retV hyp (fun hyp => ?_)
                refine ls_iconst 1 f_37_137 (by decide) ?_
                exact ls_zreturn f_37_138 rZ_37 (by decide) hyp
          · refine ls_iconst 0 f_37_77 (by decide) ?_
            refine ls_istore_n [some (.ref 13), some (.int (lm_i h 13 5)), some (.int r2), some (.int 0)] f_37_78 (Nat.le_of_ble_eq_true rfl) rfl ?_
            refine ls_iload_n f_37_79 rfl ?_
            refine ls_if_eq_T 103 f_37_80 rfl (by decide) ?_
            refine ls_aload_n f_37_103 rfl ?_
            refine ls_iload_n f_37_104 rfl ?_
            refine ls_sipush 263 f_37_105 (by decide) ?_
            refine ls_icmp_ne 116 f_37_108 rfl hyp (fun _ hyp => ?_) (fun _ hyp => ?_)
            · refine ls_bipush 13 f_37_111 (by decide) ?_
              refine ls_goto 118 f_37_113 rfl ?_
              refine ls_iload_n f_37_118 rfl ?_
              refine ls_if_eq_T 126 f_37_119 rfl (by decide) ?_
              refine ls_iconst 0 f_37_126 (by decide) ?_
              refine ls_invV (a := 13) f_37_127 q_37_126 [.int 13, .int 0] [] rfl (Nat.le_of_ble_eq_true rfl) hl33 S_13 ow_35 ?_
              refine ls_call hyp hl33 (fun _ h41 hl41 hyp => ?_)
              refine ls_retV hyp (fun hyp => ?_)
              refine ls_aload_n f_37_130 rfl ?_
              refine ls_iload_n f_37_131 rfl ?_
              refine ls_bipush 12 f_37_132 (by decide) ?_
              refine ls_invV (a := 13) f_37_134 q_37_136 [.int (lm_i h 13 5), .int 12] [] rfl (Nat.le_of_ble_eq_true rfl) hl41 S_13 ow_36 ?_
              refine ls_call hyp hl41 (fun _ h42 hl42 hyp => ?_)
              refine ls_retV hyp (fun hyp => ?_)
              refine ls_iconst 1 f_37_137 (by decide) ?_
              exact ls_zreturn f_37_138 rZ_37 (by decide) hyp
            · refine ls_bipush 14 f_37_116 (by decide) ?_
              refine ls_iload_n f_37_118 rfl ?_
              refine ls_if_eq_T 126 f_37_119 rfl (by decide) ?_
              refine ls_iconst 0 f_37_126 (by decide) ?_
              refine ls_invV (a := 13) f_37_127 q_37_126 [.int 14, .int 0] [] rfl (Nat.le_of_ble_eq_true rfl) hl33 S_13 ow_35 ?_
              refine ls_call hyp hl33 (fun _ h43 hl43 hyp => ?_)
              refine ls_retV hyp (fun hyp => ?_)
              refine ls_aload_n f_37_130 rfl ?_
              refine ls_iload_n f_37_131 rfl ?_
              refine ls_bipush 12 f_37_132 (by decide) ?_
              refine ls_invV (a := 13) f_37_134 q_37_136 [.int (lm_i h 13 5), .int 12] [] rfl (Nat.le_of_ble_eq_true rfl) hl43 S_13 ow_36 ?_
              refine ls_call hyp hl43 (fun _ h44 hl44 hyp => ?_)
              refine ls_retV hyp (fun hyp => ?_)
              refine ls_iconst 1 f_37_137 (by decide) ?_
              exact ls_zreturn f_37_138 rZ_37 (by decide) hyp
      · refine ls_aload_n f_37_63 rfl ?_
        refine ls_invV (a := 13) f_37_64 q_37_51 [] [] rfl (Nat.le_of_ble_eq_true rfl) hl30 S_13 ow_33 ?_
        refine ls_call hyp hl30 (fun _ h45 hl45 hyp => ?_)
        refine ls_retI hyp (fun r46 hyp => ?_)
        refine ls_sipush 259 f_37_67 (by decide) ?_
        refine ls_icmp_ne 77 f_37_70 rfl hyp (fun _ hyp => ?_) (fun _ hyp => ?_)
        · refine ls_iconst 1 f_37_73 (by decide) ?_
          refine ls_goto 78 f_37_74 rfl ?_
          refine ls_istore_n [some (.ref 13), some (.int (lm_i h 13 5)), some (.int r2), some (.int 1)] f_37_78 (Nat.le_of_ble_eq_true rfl) rfl ?_
          refine ls_iload_n f_37_79 rfl ?_
          refine ls_if_eq_F 103 f_37_80 rfl (by decide) ?_
          refine ls_aload_n f_37_83 rfl ?_
          refine ls_dup f_37_84 rfl ?_
          refine ls_getI f_37_85 p_37_24 hl45 S_13 ?_
          refine ls_iconst 1 f_37_88 (by decide) ?_
          refine ls_iadd ((lm_i h45 13 4) + 1) f_37_89 rfl ?_
          refine ls_putI f_37_90 p_37_24 hl45 S_13 rfl ?_
          refine ls_aload_n f_37_93 rfl ?_
          refine ls_iconst 0 f_37_94 (by decide) ?_
          refine ls_invV (a := 13) f_37_95 q_37_133 [.int 0] [] rfl (Nat.le_of_ble_eq_true rfl) (lm_Lay_si hl45 _ _ _) S_13 ow_38 ?_
          refine ls_call hyp (lm_Lay_si hl45 _ _ _) (fun _ h47 hl47 hyp => ?_)
          refine ls_retI hyp (fun r48 hyp => ?_)
          refine ls_if_ne 103 f_37_98 rfl hyp (fun _ hyp => ?_) (fun _ hyp => ?_)
          · refine ls_iconst 0 f_37_101 (by decide) ?_
            exact ls_zreturn f_37_102 rZ_37 (by decide) hyp
          · refine ls_aload_n f_37_103 rfl ?_
            refine ls_iload_n f_37_104 rfl ?_
            refine ls_sipush 263 f_37_105 (by decide) ?_
            refine ls_icmp_ne 116 f_37_108 rfl hyp (fun _ hyp => ?_) (fun _ hyp => ?_)
            · refine ls_bipush 13 f_37_111 (by decide) ?_
              refine ls_goto 118 f_37_113 rfl ?_
              refine ls_iload_n f_37_118 rfl ?_
              refine ls_if_eq_F 126 f_37_119 rfl (by decide) ?_
              refine ls_iconst 1 f_37_122 (by decide) ?_
              refine ls_goto 127 f_37_123 rfl ?_
              refine ls_invV (a := 13) f_37_127 q_37_126 [.int 13, .int 1] [] rfl (Nat.le_of_ble_eq_true rfl) hl47 S_13 ow_35 ?_
              refine ls_call hyp hl47 (fun _ h49 hl49 hyp => ?_)
              refine ls_retV hyp (fun hyp => ?_)
              refine ls_aload_n f_37_130 rfl ?_
              refine ls_iload_n f_37_131 rfl ?_
              refine ls_bipush 12 f_37_132 (by decide) ?_
              refine ls_invV (a := 13) f_37_134 q_37_136 [.int (lm_i h 13 5), .int 12] [] rfl (Nat.le_of_ble_eq_true rfl) hl49 S_13 ow_36 ?_
              refine ls_call hyp hl49 (fun _ h50 hl50 hyp => ?_)
              refine ls_retV hyp (fun hyp => ?_)
              refine ls_iconst 1 f_37_137 (by decide) ?_
              exact ls_zreturn f_37_138 rZ_37 (by decide) hyp
            · refine ls_bipush 14 f_37_116 (by decide) ?_
              refine ls_iload_n f_37_118 rfl ?_
              refine ls_if_eq_F 126 f_37_119 rfl (by decide) ?_
              refine ls_iconst 1 f_37_122 (by decide) ?_
              refine ls_goto 127 f_37_123 rfl ?_
              refine ls_invV (a := 13) f_37_127 q_37_126 [.int 14, .int 1] [] rfl (Nat.le_of_ble_eq_true rfl) hl47 S_13 ow_35 ?_
              refine ls_call hyp hl47 (fun _ h51 hl51 hyp => ?_)
              refine ls_retV hyp (fun hyp => ?_)
              refine ls_aload_n f_37_130 rfl ?_
              refine ls_iload_n f_37_131 rfl ?_
              refine ls_bipush 12 f_37_132 (by decide) ?_
              refine ls_invV (a := 13) f_37_134 q_37_136 [.int (lm_i h 13 5), .int 12] [] rfl (Nat.le_of_ble_eq_true rfl) hl51 S_13 ow_36 ?_
              refine ls_call hyp hl51 (fun _ h52 hl52 hyp => ?_)
              refine ls_retV hyp (fun hyp => ?_)
              refine ls_iconst 1 f_37_137 (by decide) ?_
              exact ls_zreturn f_37_138 rZ_37 (by decide) hyp
        · refine ls_iconst 0 f_37_77 (by decide) ?_
          refine ls_istore_n [some (.ref 13), some (.int (lm_i h 13 5)), some (.int r2), some (.int 0)] f_37_78 (Nat.le_of_ble_eq_true rfl) rfl ?_
          refine ls_iload_n f_37_79 rfl ?_
          refine ls_if_eq_T 103 f_37_80 rfl (by decide) ?_
          refine ls_aload_n f_37_103 rfl ?_
          refine ls_iload_n f_37_104 rfl ?_
          refine ls_sipush 263 f_37_105 (by decide) ?_
          refine ls_icmp_ne 116 f_37_108 rfl hyp (fun _ hyp => ?_) (fun _ hyp => ?_)
          · refine ls_bipush 13 f_37_111 (by decide) ?_
            refine ls_goto 118 f_37_113 rfl ?_
            refine ls_iload_n f_37_118 rfl ?_
            refine ls_if_eq_T 126 f_37_119 rfl (by decide) ?_
            refine ls_iconst 0 f_37_126 (by decide) ?_
            refine ls_invV (a := 13) f_37_127 q_37_126 [.int 13, .int 0] [] rfl (Nat.le_of_ble_eq_true rfl) hl45 S_13 ow_35 ?_
            refine ls_call hyp hl45 (fun _ h53 hl53 hyp => ?_)
            refine ls_retV hyp (fun hyp => ?_)
            refine ls_aload_n f_37_130 rfl ?_
            refine ls_iload_n f_37_131 rfl ?_
            refine ls_bipush 12 f_37_132 (by decide) ?_
            refine ls_invV (a := 13) f_37_134 q_37_136 [.int (lm_i h 13 5), .int 12] [] rfl (Nat.le_of_ble_eq_true rfl) hl53 S_13 ow_36 ?_
            refine ls_call hyp hl53 (fun _ h54 hl54 hyp => ?_)
            refine ls_retV hyp (fun hyp => ?_)
            refine ls_iconst 1 f_37_137 (by decide) ?_
            exact ls_zreturn f_37_138 rZ_37 (by decide) hyp
          · refine ls_bipush 14 f_37_116 (by decide) ?_
            refine ls_iload_n f_37_118 rfl ?_
            refine ls_if_eq_T 126 f_37_119 rfl (by decide) ?_
            refine ls_iconst 0 f_37_126 (by decide) ?_
            refine ls_invV (a := 13) f_37_127 q_37_126 [.int 14, .int 0] [] rfl (Nat.le_of_ble_eq_true rfl) hl45 S_13 ow_35 ?_
            refine ls_call hyp hl45 (fun _ h55 hl55 hyp => ?_)
            refine ls_retV hyp (fun hyp => ?_)
            refine ls_aload_n f_37_130 rfl ?_
            refine ls_iload_n f_37_131 rfl ?_
            refine ls_bipush 12 f_37_132 (by decide) ?_
            refine ls_invV (a := 13) f_37_134 q_37_136 [.int (lm_i h 13 5), .int 12] [] rfl (Nat.le_of_ble_eq_true rfl) hl55 S_13 ow_36 ?_
            refine ls_call hyp hl55 (fun _ h56 hl56 hyp => ?_)
            refine ls_retV hyp (fun hyp => ?_)
            refine ls_iconst 1 f_37_137 (by decide) ?_
            exact ls_zreturn f_37_138 rZ_37 (by decide) hyp
    · refine ls_aload_n f_37_24 rfl ?_
      refine ls_invV (a := 13) f_37_25 q_37_55 [] [] rfl (Nat.le_of_ble_eq_true rfl) hl1 S_13 ow_34 ?_
      refine ls_call hyp hl1 (fun _ h57 hl57 hyp => ?_)
      refine ls_retI hyp (fun r58 hyp => ?_)
      exact ls_zreturn f_37_28 rZ_37 hyp.1 hyp.2
theorem e_38 {d : Nat} {h : lm_H} {K : Int32 → lm_H → Prop} (x1 : Int32) (hl : lm_Lay h) (hyp : lm_call (d) 39 [.ref 13, .int x1] h (lm_kI fun r2 h1 => lm_W (d) 38 8 [some (.ref 13), some (.int x1), some (.int r2), some (.int 0), none] [] h1 (lm_kI K))) : lm_call (d + 1) 38 [.ref 13, .int x1] h (lm_kI K) := by
  refine ls_enter [some (.ref 13), some (.int x1), none, none, none] ml_38 (Nat.le_of_ble_eq_true rfl) rfl ?_
  refine ls_aload_n f_38_0 rfl ?_
  refine ls_iload_n f_38_1 rfl ?_
  refine ls_invV (a := 13) f_38_2 q_38_139 [.int x1] [] rfl (Nat.le_of_ble_eq_true rfl) hl S_13 ow_39 ?_
  refine ls_call hyp hl (fun _ h1 hl1 hyp => ?_)
  refine ls_retI hyp (fun r2 hyp => ?_)
  refine ls_istore_n [some (.ref 13), some (.int x1), some (.int r2), none, none] f_38_5 (Nat.le_of_ble_eq_true rfl) rfl ?_
  refine ls_iconst 0 f_38_6 (by decide) ?_
  refine ls_istore_n [some (.ref 13), some (.int x1), some (.int r2), some (.int 0), none] f_38_7 (Nat.le_of_ble_eq_true rfl) rfl ?_
  exact hyp
theorem b_38_8 {d : Nat} {h : lm_H} {K : Int32 → lm_H → Prop} (x1 : Int32) (x2 : Int32) (x3 : Int32) (hl : lm_Lay h) (hyp : (if x2 = 0 then ((vp_nar .boolean x2 = x2) ∧ K x2 h) else (if x3 < 400 then (lm_call (d) 33 [.ref 13] h (lm_kI fun r2 h1 => (if r2 = 260 then (lm_call (d) 35 [.ref 13, .int 10, .int 0] (lm_si h1 13 4 ((lm_i h1 13 4) + 1)) (lm_kV fun h3 => lm_call (d) 39 [.ref 13, .int x1] h3 (lm_kI fun r5 h4 => lm_call (d) 36 [.ref 13, .int (lm_i h1 13 5), .int 10] h4 (lm_kV fun h6 => lm_W (d) 38 8 [some (.ref 13), some (.int x1), some (.int r5), some (.int (x3 + 1)), none] [] h6 (lm_kI K))))) else ((vp_nar .boolean x2 = x2) ∧ K x2 h1)))) else ((vp_nar .boolean x2 = x2) ∧ K x2 h)))) : lm_W (d) 38 8 [some (.ref 13), some (.int x1), some (.int x2), some (.int x3), none] [] h (lm_kI K) := by
  refine ls_iload_n f_38_8 rfl ?_
  refine ls_if_eq 72 f_38_9 rfl hyp (fun _ hyp => ?_) (fun _ hyp => ?_)
  · refine ls_iload_n f_38_72 rfl ?_
    exact ls_zreturn f_38_73 rZ_38 hyp.1 hyp.2
  · refine ls_iload_n f_38_12 rfl ?_
    refine ls_sipush 400 f_38_13 (by decide) ?_
    refine ls_icmp_ge 72 f_38_16 rfl hyp (fun _ hyp => ?_) (fun _ hyp => ?_)
    · refine ls_aload_n f_38_19 rfl ?_
      refine ls_invV (a := 13) f_38_20 q_38_51 [] [] rfl (Nat.le_of_ble_eq_true rfl) hl S_13 ow_33 ?_
      refine ls_call hyp hl (fun _ h1 hl1 hyp => ?_)
      refine ls_retI hyp (fun r2 hyp => ?_)
      refine ls_sipush 260 f_38_23 (by decide) ?_
      refine ls_icmp_ne 72 f_38_26 rfl hyp (fun _ hyp => ?_) (fun _ hyp => ?_)
      · refine ls_aload_n f_38_29 rfl ?_
        refine ls_dup f_38_30 rfl ?_
        refine ls_getI f_38_31 p_38_24 hl1 S_13 ?_
        refine ls_iconst 1 f_38_34 (by decide) ?_
        refine ls_iadd ((lm_i h1 13 4) + 1) f_38_35 rfl ?_
        refine ls_putI f_38_36 p_38_24 hl1 S_13 rfl ?_
        refine ls_aload_n f_38_39 rfl ?_
        refine ls_getI f_38_40 p_38_28 (lm_Lay_si hl1 _ _ _) S_13 ?_
        refine ls_top (lm_i h1 13 5) rfl ?_
        refine ls_istore [some (.ref 13), some (.int x1), some (.int x2), some (.int x3), some (.int (lm_i h1 13 5))] f_38_43 (Nat.le_of_ble_eq_true rfl) rfl ?_
        refine ls_aload_n f_38_45 rfl ?_
        refine ls_bipush 10 f_38_46 (by decide) ?_
        refine ls_iconst 0 f_38_48 (by decide) ?_
        refine ls_invV (a := 13) f_38_49 q_38_126 [.int 10, .int 0] [] rfl (Nat.le_of_ble_eq_true rfl) (lm_Lay_si hl1 _ _ _) S_13 ow_35 ?_
        refine ls_call hyp (lm_Lay_si hl1 _ _ _) (fun _ h3 hl3 hyp => ?_)
        refine ls_retV hyp (fun hyp => ?_)
        refine ls_aload_n f_38_52 rfl ?_
        refine ls_iload_n f_38_53 rfl ?_
        refine ls_invV (a := 13) f_38_54 q_38_139 [.int x1] [] rfl (Nat.le_of_ble_eq_true rfl) hl3 S_13 ow_39 ?_
        refine ls_call hyp hl3 (fun _ h4 hl4 hyp => ?_)
        refine ls_retI hyp (fun r5 hyp => ?_)
        refine ls_istore_n [some (.ref 13), some (.int x1), some (.int r5), some (.int x3), some (.int (lm_i h1 13 5))] f_38_57 (Nat.le_of_ble_eq_true rfl) rfl ?_
        refine ls_aload_n f_38_58 rfl ?_
        refine ls_iload f_38_59 rfl ?_
        refine ls_bipush 10 f_38_61 (by decide) ?_
        refine ls_invV (a := 13) f_38_63 q_38_136 [.int (lm_i h1 13 5), .int 10] [] rfl (Nat.le_of_ble_eq_true rfl) hl4 S_13 ow_36 ?_
        refine ls_call hyp hl4 (fun _ h6 hl6 hyp => ?_)
        refine ls_retV hyp (fun hyp => ?_)
        refine ls_iinc (x3 + 1) [some (.ref 13), some (.int x1), some (.int r5), some (.int (x3 + 1)), some (.int (lm_i h1 13 5))] f_38_66 rfl (Nat.le_of_ble_eq_true rfl) rfl rfl ?_
        refine ls_goto 8 f_38_69 rfl ?_
        exact ls_mask [true, true, true, true, false] [some (.ref 13), some (.int x1), some (.int r5), some (.int (x3 + 1)), none] rfl hyp
      · refine ls_iload_n f_38_72 rfl ?_
        exact ls_zreturn f_38_73 rZ_38 hyp.1 hyp.2
    · refine ls_iload_n f_38_72 rfl ?_
      exact ls_zreturn f_38_73 rZ_38 hyp.1 hyp.2
theorem e_39 {d : Nat} {h : lm_H} {K : Int32 → lm_H → Prop} (x1 : Int32) (hl : lm_Lay h) (hyp : lm_call (d) 40 [.ref 13, .int x1] h (lm_kI fun r2 h1 => lm_W (d) 39 8 [some (.ref 13), some (.int x1), some (.int r2), some (.int 0), none] [] h1 (lm_kI K))) : lm_call (d + 1) 39 [.ref 13, .int x1] h (lm_kI K) := by
  refine ls_enter [some (.ref 13), some (.int x1), none, none, none] ml_39 (Nat.le_of_ble_eq_true rfl) rfl ?_
  refine ls_aload_n f_39_0 rfl ?_
  refine ls_iload_n f_39_1 rfl ?_
  refine ls_invV (a := 13) f_39_2 q_39_142 [.int x1] [] rfl (Nat.le_of_ble_eq_true rfl) hl S_13 ow_40 ?_
  refine ls_call hyp hl (fun _ h1 hl1 hyp => ?_)
  refine ls_retI hyp (fun r2 hyp => ?_)
  refine ls_istore_n [some (.ref 13), some (.int x1), some (.int r2), none, none] f_39_5 (Nat.le_of_ble_eq_true rfl) rfl ?_
  refine ls_iconst 0 f_39_6 (by decide) ?_
  refine ls_istore_n [some (.ref 13), some (.int x1), some (.int r2), some (.int 0), none] f_39_7 (Nat.le_of_ble_eq_true rfl) rfl ?_
  exact hyp
theorem b_39_8 {d : Nat} {h : lm_H} {K : Int32 → lm_H → Prop} (x1 : Int32) (x2 : Int32) (x3 : Int32) (hl : lm_Lay h) (hyp : (if x2 = 0 then ((vp_nar .boolean x2 = x2) ∧ K x2 h) else (if x3 < 400 then (lm_call (d) 33 [.ref 13] h (lm_kI fun r2 h1 => (if r2 = 261 then (lm_call (d) 35 [.ref 13, .int 11, .int 0] (lm_si h1 13 4 ((lm_i h1 13 4) + 1)) (lm_kV fun h3 => lm_call (d) 40 [.ref 13, .int x1] h3 (lm_kI fun r5 h4 => lm_call (d) 36 [.ref 13, .int (lm_i h1 13 5), .int 11] h4 (lm_kV fun h6 => lm_W (d) 39 8 [some (.ref 13), some (.int x1), some (.int r5), some (.int (x3 + 1)), none] [] h6 (lm_kI K))))) else ((vp_nar .boolean x2 = x2) ∧ K x2 h1)))) else ((vp_nar .boolean x2 = x2) ∧ K x2 h)))) : lm_W (d) 39 8 [some (.ref 13), some (.int x1), some (.int x2), some (.int x3), none] [] h (lm_kI K) := by
  refine ls_iload_n f_39_8 rfl ?_
  refine ls_if_eq 72 f_39_9 rfl hyp (fun _ hyp => ?_) (fun _ hyp => ?_)
  · refine ls_iload_n f_39_72 rfl ?_
    exact ls_zreturn f_39_73 rZ_39 hyp.1 hyp.2
  · refine ls_iload_n f_39_12 rfl ?_
    refine ls_sipush 400 f_39_13 (by decide) ?_
    refine ls_icmp_ge 72 f_39_16 rfl hyp (fun _ hyp => ?_) (fun _ hyp => ?_)
    · refine ls_aload_n f_39_19 rfl ?_
      refine ls_invV (a := 13) f_39_20 q_39_51 [] [] rfl (Nat.le_of_ble_eq_true rfl) hl S_13 ow_33 ?_
      refine ls_call hyp hl (fun _ h1 hl1 hyp => ?_)
      refine ls_retI hyp (fun r2 hyp => ?_)
      refine ls_sipush 261 f_39_23 (by decide) ?_
      refine ls_icmp_ne 72 f_39_26 rfl hyp (fun _ hyp => ?_) (fun _ hyp => ?_)
      · refine ls_aload_n f_39_29 rfl ?_
        refine ls_dup f_39_30 rfl ?_
        refine ls_getI f_39_31 p_39_24 hl1 S_13 ?_
        refine ls_iconst 1 f_39_34 (by decide) ?_
        refine ls_iadd ((lm_i h1 13 4) + 1) f_39_35 rfl ?_
        refine ls_putI f_39_36 p_39_24 hl1 S_13 rfl ?_
        refine ls_aload_n f_39_39 rfl ?_
        refine ls_getI f_39_40 p_39_28 (lm_Lay_si hl1 _ _ _) S_13 ?_
        refine ls_top (lm_i h1 13 5) rfl ?_
        refine ls_istore [some (.ref 13), some (.int x1), some (.int x2), some (.int x3), some (.int (lm_i h1 13 5))] f_39_43 (Nat.le_of_ble_eq_true rfl) rfl ?_
        refine ls_aload_n f_39_45 rfl ?_
        refine ls_bipush 11 f_39_46 (by decide) ?_
        refine ls_iconst 0 f_39_48 (by decide) ?_
        refine ls_invV (a := 13) f_39_49 q_39_126 [.int 11, .int 0] [] rfl (Nat.le_of_ble_eq_true rfl) (lm_Lay_si hl1 _ _ _) S_13 ow_35 ?_
        refine ls_call hyp (lm_Lay_si hl1 _ _ _) (fun _ h3 hl3 hyp => ?_)
        refine ls_retV hyp (fun hyp => ?_)
        refine ls_aload_n f_39_52 rfl ?_
        refine ls_iload_n f_39_53 rfl ?_
        refine ls_invV (a := 13) f_39_54 q_39_142 [.int x1] [] rfl (Nat.le_of_ble_eq_true rfl) hl3 S_13 ow_40 ?_
        refine ls_call hyp hl3 (fun _ h4 hl4 hyp => ?_)
        refine ls_retI hyp (fun r5 hyp => ?_)
        refine ls_istore_n [some (.ref 13), some (.int x1), some (.int r5), some (.int x3), some (.int (lm_i h1 13 5))] f_39_57 (Nat.le_of_ble_eq_true rfl) rfl ?_
        refine ls_aload_n f_39_58 rfl ?_
        refine ls_iload f_39_59 rfl ?_
        refine ls_bipush 11 f_39_61 (by decide) ?_
        refine ls_invV (a := 13) f_39_63 q_39_136 [.int (lm_i h1 13 5), .int 11] [] rfl (Nat.le_of_ble_eq_true rfl) hl4 S_13 ow_36 ?_
        refine ls_call hyp hl4 (fun _ h6 hl6 hyp => ?_)
        refine ls_retV hyp (fun hyp => ?_)
        refine ls_iinc (x3 + 1) [some (.ref 13), some (.int x1), some (.int r5), some (.int (x3 + 1)), some (.int (lm_i h1 13 5))] f_39_66 rfl (Nat.le_of_ble_eq_true rfl) rfl rfl ?_
        refine ls_goto 8 f_39_69 rfl ?_
        exact ls_mask [true, true, true, true, false] [some (.ref 13), some (.int x1), some (.int r5), some (.int (x3 + 1)), none] rfl hyp
      · refine ls_iload_n f_39_72 rfl ?_
        exact ls_zreturn f_39_73 rZ_39 hyp.1 hyp.2
    · refine ls_iload_n f_39_72 rfl ?_
      exact ls_zreturn f_39_73 rZ_39 hyp.1 hyp.2
theorem e_40 {d : Nat} {h : lm_H} {K : Int32 → lm_H → Prop} (x1 : Int32) (hl : lm_Lay h) (hyp : lm_W (d) 40 4 [some (.ref 13), some (.int x1), some (.int 0), some (.int 0)] [] h (lm_kI K)) : lm_call (d + 1) 40 [.ref 13, .int x1] h (lm_kI K) := by
  refine ls_enter [some (.ref 13), some (.int x1), none, none] ml_40 (Nat.le_of_ble_eq_true rfl) rfl ?_
  refine ls_iconst 0 f_40_0 (by decide) ?_
  refine ls_istore_n [some (.ref 13), some (.int x1), some (.int 0), none] f_40_1 (Nat.le_of_ble_eq_true rfl) rfl ?_
  refine ls_iconst 0 f_40_2 (by decide) ?_
  refine ls_istore_n [some (.ref 13), some (.int x1), some (.int 0), some (.int 0)] f_40_3 (Nat.le_of_ble_eq_true rfl) rfl ?_
  exact hyp
theorem b_40_4 {d : Nat} {h : lm_H} {K : Int32 → lm_H → Prop} (x1 : Int32) (x2 : Int32) (x3 : Int32) (hl : lm_Lay h) (hyp : (if x3 < 400 then (lm_call (d) 33 [.ref 13] h (lm_kI fun r2 h1 => (if r2 = 262 then (if x2 = 0 then (lm_W (d) 40 4 [some (.ref 13), some (.int x1), some (.int 1), some (.int (x3 + 1))] [] (lm_si h1 13 4 ((lm_i h1 13 4) + 1)) (lm_kI K)) else (lm_W (d) 40 4 [some (.ref 13), some (.int x1), some (.int 0), some (.int (x3 + 1))] [] (lm_si h1 13 4 ((lm_i h1 13 4) + 1)) (lm_kI K))) else (lm_call (d) 33 [.ref 13] h1 (lm_kI fun r4 h3 => (if r4 = 40 then (lm_call (d) 41 [.ref 13, .int x1] h3 (lm_kI fun r6 h5 => (if x2 = 0 then ((vp_nar .boolean r6 = r6) ∧ K r6 h5) else (lm_call (d) 35 [.ref 13, .int 9, .int 0] h5 (lm_kV fun h7 => (vp_nar .boolean r6 = r6) ∧ K r6 h7))))) else (lm_call (d) 42 [.ref 13, .int x1] h3 (lm_kI fun r9 h8 => (if x2 = 0 then ((vp_nar .boolean r9 = r9) ∧ K r9 h8) else (lm_call (d) 35 [.ref 13, .int 9, .int 0] h8 (lm_kV fun h10 => (vp_nar .boolean r9 = r9) ∧ K r9 h10))))))))))) else (lm_call (d) 33 [.ref 13] h (lm_kI fun r12 h11 => (if r12 = 40 then (lm_call (d) 41 [.ref 13, .int x1] h11 (lm_kI fun r14 h13 => (if x2 = 0 then ((vp_nar .boolean r14 = r14) ∧ K r14 h13) else (lm_call (d) 35 [.ref 13, .int 9, .int 0] h13 (lm_kV fun h15 => (vp_nar .boolean r14 = r14) ∧ K r14 h15))))) else (lm_call (d) 42 [.ref 13, .int x1] h11 (lm_kI fun r17 h16 => (if x2 = 0 then ((vp_nar .boolean r17 = r17) ∧ K r17 h16) else (lm_call (d) 35 [.ref 13, .int 9, .int 0] h16 (lm_kV fun h18 => (vp_nar .boolean r17 = r17) ∧ K r17 h18)))))))))) : lm_W (d) 40 4 [some (.ref 13), some (.int x1), some (.int x2), some (.int x3)] [] h (lm_kI K) := by
  refine ls_iload_n f_40_4 rfl ?_
  refine ls_sipush 400 f_40_5 (by decide) ?_
  refine ls_icmp_ge 47 f_40_8 rfl hyp (fun _ hyp => ?_) (fun _ hyp => ?_)
  · refine ls_aload_n f_40_11 rfl ?_
    refine ls_invV (a := 13) f_40_12 q_40_51 [] [] rfl (Nat.le_of_ble_eq_true rfl) hl S_13 ow_33 ?_
    refine ls_call hyp hl (fun _ h1 hl1 hyp => ?_)
    refine ls_retI hyp (fun r2 hyp => ?_)
    refine ls_sipush 262 f_40_15 (by decide) ?_
    refine ls_icmp_ne 47 f_40_18 rfl hyp (fun _ hyp => ?_) (fun _ hyp => ?_)
    · refine ls_aload_n f_40_21 rfl ?_
      refine ls_dup f_40_22 rfl ?_
      refine ls_getI f_40_23 p_40_24 hl1 S_13 ?_
      refine ls_iconst 1 f_40_26 (by decide) ?_
      refine ls_iadd ((lm_i h1 13 4) + 1) f_40_27 rfl ?_
      refine ls_putI f_40_28 p_40_24 hl1 S_13 rfl ?_
      refine ls_iload_n f_40_31 rfl ?_
      refine ls_if_ne 39 f_40_32 rfl hyp (fun _ hyp => ?_) (fun _ hyp => ?_)
      · refine ls_iconst 1 f_40_35 (by decide) ?_
        refine ls_goto 40 f_40_36 rfl ?_
        refine ls_istore_n [some (.ref 13), some (.int x1), some (.int 1), some (.int x3)] f_40_40 (Nat.le_of_ble_eq_true rfl) rfl ?_
        refine ls_iinc (x3 + 1) [some (.ref 13), some (.int x1), some (.int 1), some (.int (x3 + 1))] f_40_41 rfl (Nat.le_of_ble_eq_true rfl) rfl rfl ?_
        refine ls_goto 4 f_40_44 rfl ?_
        exact hyp
      · refine ls_iconst 0 f_40_39 (by decide) ?_
        refine ls_istore_n [some (.ref 13), some (.int x1), some (.int 0), some (.int x3)] f_40_40 (Nat.le_of_ble_eq_true rfl) rfl ?_
        refine ls_iinc (x3 + 1) [some (.ref 13), some (.int x1), some (.int 0), some (.int (x3 + 1))] f_40_41 rfl (Nat.le_of_ble_eq_true rfl) rfl rfl ?_
        refine ls_goto 4 f_40_44 rfl ?_
        exact hyp
    · refine ls_aload_n f_40_47 rfl ?_
      refine ls_invV (a := 13) f_40_48 q_40_51 [] [] rfl (Nat.le_of_ble_eq_true rfl) hl1 S_13 ow_33 ?_
      refine ls_call hyp hl1 (fun _ h3 hl3 hyp => ?_)
      refine ls_retI hyp (fun r4 hyp => ?_)
      refine ls_bipush 40 f_40_51 (by decide) ?_
      refine ls_icmp_ne 64 f_40_53 rfl hyp (fun _ hyp => ?_) (fun _ hyp => ?_)
      · refine ls_aload_n f_40_56 rfl ?_
        refine ls_iload_n f_40_57 rfl ?_
        refine ls_invV (a := 13) f_40_58 q_40_145 [.int x1] [] rfl (Nat.le_of_ble_eq_true rfl) hl3 S_13 ow_41 ?_
        refine ls_call hyp hl3 (fun _ h5 hl5 hyp => ?_)
        refine ls_retI hyp (fun r6 hyp => ?_)
        refine ls_goto 69 f_40_61 rfl ?_
        refine ls_istore_n [some (.ref 13), some (.int x1), some (.int x2), some (.int r6)] f_40_69 (Nat.le_of_ble_eq_true rfl) rfl ?_
        refine ls_iload_n f_40_70 rfl ?_
        refine ls_if_eq 81 f_40_71 rfl hyp (fun _ hyp => ?_) (fun _ hyp => ?_)
        · refine ls_iload_n f_40_81 rfl ?_
          exact ls_zreturn f_40_82 rZ_40 hyp.1 hyp.2
        · refine ls_aload_n f_40_74 rfl ?_
          refine ls_bipush 9 f_40_75 (by decide) ?_
          refine ls_iconst 0 f_40_77 (by decide) ?_
          refine ls_invV (a := 13) f_40_78 q_40_126 [.int 9, .int 0] [] rfl (Nat.le_of_ble_eq_true rfl) hl5 S_13 ow_35 ?_
          refine ls_call hyp hl5 (fun _ h7 hl7 hyp => ?_)
          refine ls_retV hyp (fun hyp => ?_)
          refine ls_iload_n f_40_81 rfl ?_
          exact ls_zreturn f_40_82 rZ_40 hyp.1 hyp.2
      · refine ls_aload_n f_40_64 rfl ?_
        refine ls_iload_n f_40_65 rfl ?_
        refine ls_invV (a := 13) f_40_66 q_40_148 [.int x1] [] rfl (Nat.le_of_ble_eq_true rfl) hl3 S_13 ow_42 ?_
        refine ls_call hyp hl3 (fun _ h8 hl8 hyp => ?_)
        refine ls_retI hyp (fun r9 hyp => ?_)
        refine ls_istore_n [some (.ref 13), some (.int x1), some (.int x2), some (.int r9)] f_40_69 (Nat.le_of_ble_eq_true rfl) rfl ?_
        refine ls_iload_n f_40_70 rfl ?_
        refine ls_if_eq 81 f_40_71 rfl hyp (fun _ hyp => ?_) (fun _ hyp => ?_)
        · refine ls_iload_n f_40_81 rfl ?_
          exact ls_zreturn f_40_82 rZ_40 hyp.1 hyp.2
        · refine ls_aload_n f_40_74 rfl ?_
          refine ls_bipush 9 f_40_75 (by decide) ?_
          refine ls_iconst 0 f_40_77 (by decide) ?_
          refine ls_invV (a := 13) f_40_78 q_40_126 [.int 9, .int 0] [] rfl (Nat.le_of_ble_eq_true rfl) hl8 S_13 ow_35 ?_
          refine ls_call hyp hl8 (fun _ h10 hl10 hyp => ?_)
          refine ls_retV hyp (fun hyp => ?_)
          refine ls_iload_n f_40_81 rfl ?_
          exact ls_zreturn f_40_82 rZ_40 hyp.1 hyp.2
  · refine ls_aload_n f_40_47 rfl ?_
    refine ls_invV (a := 13) f_40_48 q_40_51 [] [] rfl (Nat.le_of_ble_eq_true rfl) hl S_13 ow_33 ?_
    refine ls_call hyp hl (fun _ h11 hl11 hyp => ?_)
    refine ls_retI hyp (fun r12 hyp => ?_)
    refine ls_bipush 40 f_40_51 (by decide) ?_
    refine ls_icmp_ne 64 f_40_53 rfl hyp (fun _ hyp => ?_) (fun _ hyp => ?_)
    · refine ls_aload_n f_40_56 rfl ?_
      refine ls_iload_n f_40_57 rfl ?_
      refine ls_invV (a := 13) f_40_58 q_40_145 [.int x1] [] rfl (Nat.le_of_ble_eq_true rfl) hl11 S_13 ow_41 ?_
      refine ls_call hyp hl11 (fun _ h13 hl13 hyp => ?_)
      refine ls_retI hyp (fun r14 hyp => ?_)
      refine ls_goto 69 f_40_61 rfl ?_
      refine ls_istore_n [some (.ref 13), some (.int x1), some (.int x2), some (.int r14)] f_40_69 (Nat.le_of_ble_eq_true rfl) rfl ?_
      refine ls_iload_n f_40_70 rfl ?_
      refine ls_if_eq 81 f_40_71 rfl hyp (fun _ hyp => ?_) (fun _ hyp => ?_)
      · refine ls_iload_n f_40_81 rfl ?_
        exact ls_zreturn f_40_82 rZ_40 hyp.1 hyp.2
      · refine ls_aload_n f_40_74 rfl ?_
        refine ls_bipush 9 f_40_75 (by decide) ?_
        refine ls_iconst 0 f_40_77 (by decide) ?_
        refine ls_invV (a := 13) f_40_78 q_40_126 [.int 9, .int 0] [] rfl (Nat.le_of_ble_eq_true rfl) hl13 S_13 ow_35 ?_
        refine ls_call hyp hl13 (fun _ h15 hl15 hyp => ?_)
        refine ls_retV hyp (fun hyp => ?_)
        refine ls_iload_n f_40_81 rfl ?_
        exact ls_zreturn f_40_82 rZ_40 hyp.1 hyp.2
    · refine ls_aload_n f_40_64 rfl ?_
      refine ls_iload_n f_40_65 rfl ?_
      refine ls_invV (a := 13) f_40_66 q_40_148 [.int x1] [] rfl (Nat.le_of_ble_eq_true rfl) hl11 S_13 ow_42 ?_
      refine ls_call hyp hl11 (fun _ h16 hl16 hyp => ?_)
      refine ls_retI hyp (fun r17 hyp => ?_)
      refine ls_istore_n [some (.ref 13), some (.int x1), some (.int x2), some (.int r17)] f_40_69 (Nat.le_of_ble_eq_true rfl) rfl ?_
      refine ls_iload_n f_40_70 rfl ?_
      refine ls_if_eq 81 f_40_71 rfl hyp (fun _ hyp => ?_) (fun _ hyp => ?_)
      · refine ls_iload_n f_40_81 rfl ?_
        exact ls_zreturn f_40_82 rZ_40 hyp.1 hyp.2
      · refine ls_aload_n f_40_74 rfl ?_
        refine ls_bipush 9 f_40_75 (by decide) ?_
        refine ls_iconst 0 f_40_77 (by decide) ?_
        refine ls_invV (a := 13) f_40_78 q_40_126 [.int 9, .int 0] [] rfl (Nat.le_of_ble_eq_true rfl) hl16 S_13 ow_35 ?_
        refine ls_call hyp hl16 (fun _ h18 hl18 hyp => ?_)
        refine ls_retV hyp (fun hyp => ?_)
        refine ls_iload_n f_40_81 rfl ?_
        exact ls_zreturn f_40_82 rZ_40 hyp.1 hyp.2
theorem e_41 {d : Nat} {h : lm_H} {K : Int32 → lm_H → Prop} (x1 : Int32) (hl : lm_Lay h) (hyp : (if x1 < 8 then (lm_call (d) 38 [.ref 13, .int (x1 + 1)] (lm_si h 13 4 ((lm_i h 13 4) + 1)) (lm_kI fun r2 h1 => (if r2 = 0 then (K 0 h1) else (lm_call (d) 44 [.ref 13, .int 41] h1 (lm_kI fun r4 h3 => (if r4 = 0 then (K 0 h3) else (K 1 h3))))))) else (lm_call (d) 34 [.ref 13] h (lm_kI fun r6 h5 => (vp_nar .boolean r6 = r6) ∧ K r6 h5)))) : lm_call (d + 1) 41 [.ref 13, .int x1] h (lm_kI K) := by
  refine ls_enter [some (.ref 13), some (.int x1)] ml_41 (Nat.le_of_ble_eq_true rfl) rfl ?_
  refine ls_iload_n f_41_0 rfl ?_
  refine ls_bipush 8 f_41_1 (by decide) ?_
  refine ls_icmp_lt 11 f_41_3 rfl hyp (fun _ hyp => ?_) (fun _ hyp => ?_)
  · refine ls_aload_n f_41_11 rfl ?_
    refine ls_dup f_41_12 rfl ?_
    refine ls_getI f_41_13 p_41_24 hl S_13 ?_
    refine ls_iconst 1 f_41_16 (by decide) ?_
    refine ls_iadd ((lm_i h 13 4) + 1) f_41_17 rfl ?_
    refine ls_putI f_41_18 p_41_24 hl S_13 rfl ?_
    refine ls_aload_n f_41_21 rfl ?_
    refine ls_iload_n f_41_22 rfl ?_
    refine ls_iconst 1 f_41_23 (by decide) ?_
    refine ls_iadd (x1 + 1) f_41_24 rfl ?_
    refine ls_invV (a := 13) f_41_25 q_41_133 [.int (x1 + 1)] [] rfl (Nat.le_of_ble_eq_true rfl) (lm_Lay_si hl _ _ _) S_13 ow_38 ?_
    refine ls_call hyp (lm_Lay_si hl _ _ _) (fun _ h1 hl1 hyp => ?_)
    refine ls_retI hyp (fun r2 hyp => ?_)
    refine ls_if_eq 44 f_41_28 rfl hyp (fun _ hyp => ?_) (fun _ hyp => ?_)
    · refine ls_iconst 0 f_41_44 (by decide) ?_
      exact ls_zreturn f_41_45 rZ_41 (by decide) hyp
    · refine ls_aload_n f_41_31 rfl ?_
      refine ls_bipush 41 f_41_32 (by decide) ?_
      refine ls_invV (a := 13) f_41_34 q_41_151 [.int 41] [] rfl (Nat.le_of_ble_eq_true rfl) hl1 S_13 ow_44 ?_
      refine ls_call hyp hl1 (fun _ h3 hl3 hyp => ?_)
      refine ls_retI hyp (fun r4 hyp => ?_)
      refine ls_if_eq 44 f_41_37 rfl hyp (fun _ hyp => ?_) (fun _ hyp => ?_)
      · refine ls_iconst 0 f_41_44 (by decide) ?_
        exact ls_zreturn f_41_45 rZ_41 (by decide) hyp
      · refine ls_iconst 1 f_41_40 (by decide) ?_
        refine ls_goto 45 f_41_41 rfl ?_
        exact ls_zreturn f_41_45 rZ_41 (by decide) hyp
  · refine ls_aload_n f_41_6 rfl ?_
    refine ls_invV (a := 13) f_41_7 q_41_55 [] [] rfl (Nat.le_of_ble_eq_true rfl) hl S_13 ow_34 ?_
    refine ls_call hyp hl (fun _ h5 hl5 hyp => ?_)
    refine ls_retI hyp (fun r6 hyp => ?_)
    exact ls_zreturn f_41_10 rZ_41 hyp.1 hyp.2
theorem e_42 {d : Nat} {h : lm_H} {K : Int32 → lm_H → Prop} (x1 : Int32) (hl : lm_Lay h) (hyp : lm_call (d) 45 [.ref 13, .int x1] h (lm_kI fun r2 h1 => (if r2 = 0 then (K 0 h1) else (lm_call (d) 33 [.ref 13] h1 (lm_kI fun r4 h3 => lm_call (d) 43 [.int r4] h3 (lm_kI fun r6 h5 => (if r6 = (-1) then (lm_call (d) 34 [.ref 13] h5 (lm_kI fun r8 h7 => (vp_nar .boolean r8 = r8) ∧ K r8 h7)) else (lm_call (d) 45 [.ref 13, .int x1] (lm_si h5 13 4 ((lm_i h5 13 4) + 1)) (lm_kI fun r10 h9 => (if r10 = 0 then (K 0 h9) else (lm_call (d) 35 [.ref 13, .int r6, .int 0] h9 (lm_kV fun h11 => K 1 h11)))))))))))) : lm_call (d + 1) 42 [.ref 13, .int x1] h (lm_kI K) := by
  refine ls_enter [some (.ref 13), some (.int x1), none] ml_42 (Nat.le_of_ble_eq_true rfl) rfl ?_
  refine ls_aload_n f_42_0 rfl ?_
  refine ls_iload_n f_42_1 rfl ?_
  refine ls_invV (a := 13) f_42_2 q_42_130 [.int x1] [] rfl (Nat.le_of_ble_eq_true rfl) hl S_13 ow_45 ?_
  refine ls_call hyp hl (fun _ h1 hl1 hyp => ?_)
  refine ls_retI hyp (fun r2 hyp => ?_)
  refine ls_if_ne 10 f_42_5 rfl hyp (fun _ hyp => ?_) (fun _ hyp => ?_)
  · refine ls_iconst 0 f_42_8 (by decide) ?_
    exact ls_zreturn f_42_9 rZ_42 (by decide) hyp
  · refine ls_aload_n f_42_10 rfl ?_
    refine ls_invV (a := 13) f_42_11 q_42_51 [] [] rfl (Nat.le_of_ble_eq_true rfl) hl1 S_13 ow_33 ?_
    refine ls_call hyp hl1 (fun _ h3 hl3 hyp => ?_)
    refine ls_retI hyp (fun r4 hyp => ?_)
    refine ls_invS f_42_14 q_42_154 [.int r4] [] rfl (Nat.le_of_ble_eq_true rfl) ?_
    refine ls_call hyp hl3 (fun _ h5 hl5 hyp => ?_)
    refine ls_retI hyp (fun r6 hyp => ?_)
    refine ls_istore_n [some (.ref 13), some (.int x1), some (.int r6)] f_42_17 (Nat.le_of_ble_eq_true rfl) rfl ?_
    refine ls_iload_n f_42_18 rfl ?_
    refine ls_iconst (-1) f_42_19 (by decide) ?_
    refine ls_icmp_ne 28 f_42_20 rfl hyp (fun _ hyp => ?_) (fun _ hyp => ?_)
    · refine ls_aload_n f_42_23 rfl ?_
      refine ls_invV (a := 13) f_42_24 q_42_55 [] [] rfl (Nat.le_of_ble_eq_true rfl) hl5 S_13 ow_34 ?_
      refine ls_call hyp hl5 (fun _ h7 hl7 hyp => ?_)
      refine ls_retI hyp (fun r8 hyp => ?_)
      exact ls_zreturn f_42_27 rZ_42 hyp.1 hyp.2
    · refine ls_aload_n f_42_28 rfl ?_
      refine ls_dup f_42_29 rfl ?_
      refine ls_getI f_42_30 p_42_24 hl5 S_13 ?_
      refine ls_iconst 1 f_42_33 (by decide) ?_
      refine ls_iadd ((lm_i h5 13 4) + 1) f_42_34 rfl ?_
      refine ls_putI f_42_35 p_42_24 hl5 S_13 rfl ?_
      refine ls_aload_n f_42_38 rfl ?_
      refine ls_iload_n f_42_39 rfl ?_
      refine ls_invV (a := 13) f_42_40 q_42_130 [.int x1] [] rfl (Nat.le_of_ble_eq_true rfl) (lm_Lay_si hl5 _ _ _) S_13 ow_45 ?_
      refine ls_call hyp (lm_Lay_si hl5 _ _ _) (fun _ h9 hl9 hyp => ?_)
      refine ls_retI hyp (fun r10 hyp => ?_)
      refine ls_if_ne 48 f_42_43 rfl hyp (fun _ hyp => ?_) (fun _ hyp => ?_)
      · refine ls_iconst 0 f_42_46 (by decide) ?_
        exact ls_zreturn f_42_47 rZ_42 (by decide) hyp
      · refine ls_aload_n f_42_48 rfl ?_
        refine ls_iload_n f_42_49 rfl ?_
        refine ls_iconst 0 f_42_50 (by decide) ?_
        refine ls_invV (a := 13) f_42_51 q_42_126 [.int r6, .int 0] [] rfl (Nat.le_of_ble_eq_true rfl) hl9 S_13 ow_35 ?_
        refine ls_call hyp hl9 (fun _ h11 hl11 hyp => ?_)
        refine ls_retV hyp (fun hyp => ?_)
        refine ls_iconst 1 f_42_54 (by decide) ?_
        exact ls_zreturn f_42_55 rZ_42 (by decide) hyp
theorem e_43 {d : Nat} {h : lm_H} {K : Int32 → lm_H → Prop} (x0 : Int32) (hl : lm_Lay h) (hyp : (if x0 = 60 then (K 6 h) else (if x0 = 61 then (K 8 h) else (if x0 = 62 then (K 7 h) else (K (-1) h))))) : lm_call (d + 1) 43 [.int x0] h (lm_kI K) := by
  refine ls_enter [some (.int x0)] ml_43 (Nat.le_of_ble_eq_true rfl) rfl ?_
  refine ls_iload_n f_43_0 rfl ?_
  refine ls_table f_43_1 (by decide) ?_
  refine ls_swC (v := 60) (by decide) hyp (fun _ hyp => lm_tg_of (t := 28) rfl ?_) (fun _ hyp => ?_)
  · refine ls_bipush 6 f_43_28 (by decide) ?_
    exact ls_ireturn f_43_30 rI_43 hyp
  refine ls_swC (v := 61) (by decide) hyp (fun _ hyp => lm_tg_of (t := 34) rfl ?_) (fun _ hyp => ?_)
  · refine ls_bipush 8 f_43_34 (by decide) ?_
    exact ls_ireturn f_43_36 rI_43 hyp
  refine ls_swC (v := 62) (by decide) hyp (fun _ hyp => lm_tg_of (t := 31) rfl ?_) (fun _ hyp => ?_)
  · refine ls_bipush 7 f_43_31 (by decide) ?_
    exact ls_ireturn f_43_33 rI_43 hyp
  refine ls_swD ?_
  refine lm_tg_of (t := 37) rfl ?_
  refine ls_iconst (-1) f_43_37 (by decide) ?_
  exact ls_ireturn f_43_38 rI_43 hyp
theorem e_44 {d : Nat} {h : lm_H} {K : Int32 → lm_H → Prop} (x1 : Int32) (hl : lm_Lay h) (hyp : lm_call (d) 33 [.ref 13] h (lm_kI fun r2 h1 => (if r2 = x1 then (K 1 (lm_si h1 13 4 ((lm_i h1 13 4) + 1))) else (lm_call (d) 34 [.ref 13] h1 (lm_kI fun r4 h3 => (vp_nar .boolean r4 = r4) ∧ K r4 h3))))) : lm_call (d + 1) 44 [.ref 13, .int x1] h (lm_kI K) := by
  refine ls_enter [some (.ref 13), some (.int x1)] ml_44 (Nat.le_of_ble_eq_true rfl) rfl ?_
  refine ls_aload_n f_44_0 rfl ?_
  refine ls_invV (a := 13) f_44_1 q_44_51 [] [] rfl (Nat.le_of_ble_eq_true rfl) hl S_13 ow_33 ?_
  refine ls_call hyp hl (fun _ h1 hl1 hyp => ?_)
  refine ls_retI hyp (fun r2 hyp => ?_)
  refine ls_iload_n f_44_4 rfl ?_
  refine ls_icmp_eq 13 f_44_5 rfl hyp (fun _ hyp => ?_) (fun _ hyp => ?_)
  · refine ls_aload_n f_44_13 rfl ?_
    refine ls_dup f_44_14 rfl ?_
    refine ls_getI f_44_15 p_44_24 hl1 S_13 ?_
    refine ls_iconst 1 f_44_18 (by decide) ?_
    refine ls_iadd ((lm_i h1 13 4) + 1) f_44_19 rfl ?_
    refine ls_putI f_44_20 p_44_24 hl1 S_13 rfl ?_
    refine ls_iconst 1 f_44_23 (by decide) ?_
    exact ls_zreturn f_44_24 rZ_44 (by decide) hyp
  · refine ls_aload_n f_44_8 rfl ?_
    refine ls_invV (a := 13) f_44_9 q_44_55 [] [] rfl (Nat.le_of_ble_eq_true rfl) hl1 S_13 ow_34 ?_
    refine ls_call hyp hl1 (fun _ h3 hl3 hyp => ?_)
    refine ls_retI hyp (fun r4 hyp => ?_)
    exact ls_zreturn f_44_12 rZ_44 hyp.1 hyp.2
theorem e_45 {d : Nat} {h : lm_H} {K : Int32 → lm_H → Prop} (x1 : Int32) (hl : lm_Lay h) (hyp : lm_call (d) 46 [.ref 13, .int x1] h (lm_kI fun r2 h1 => lm_W (d) 45 8 [some (.ref 13), some (.int x1), some (.int r2), some (.int 0), none] [] h1 (lm_kI K))) : lm_call (d + 1) 45 [.ref 13, .int x1] h (lm_kI K) := by
  refine ls_enter [some (.ref 13), some (.int x1), none, none, none] ml_45 (Nat.le_of_ble_eq_true rfl) rfl ?_
  refine ls_aload_n f_45_0 rfl ?_
  refine ls_iload_n f_45_1 rfl ?_
  refine ls_invV (a := 13) f_45_2 q_45_158 [.int x1] [] rfl (Nat.le_of_ble_eq_true rfl) hl S_13 ow_46 ?_
  refine ls_call hyp hl (fun _ h1 hl1 hyp => ?_)
  refine ls_retI hyp (fun r2 hyp => ?_)
  refine ls_istore_n [some (.ref 13), some (.int x1), some (.int r2), none, none] f_45_5 (Nat.le_of_ble_eq_true rfl) rfl ?_
  refine ls_iconst 0 f_45_6 (by decide) ?_
  refine ls_istore_n [some (.ref 13), some (.int x1), some (.int r2), some (.int 0), none] f_45_7 (Nat.le_of_ble_eq_true rfl) rfl ?_
  exact hyp
theorem b_45_8 {d : Nat} {h : lm_H} {K : Int32 → lm_H → Prop} (x1 : Int32) (x2 : Int32) (x3 : Int32) (hl : lm_Lay h) (hyp : (if x2 = 0 then ((vp_nar .boolean x2 = x2) ∧ K x2 h) else (if x3 < 400 then (lm_call (d) 33 [.ref 13] h (lm_kI fun r2 h1 => (if r2 = 43 then (lm_call (d) 33 [.ref 13] h1 (lm_kI fun r4 h3 => (if r4 = 43 then (lm_call (d) 46 [.ref 13, .int x1] (lm_si h3 13 4 ((lm_i h3 13 4) + 1)) (lm_kI fun r6 h5 => lm_call (d) 35 [.ref 13, .int 2, .int 0] h5 (lm_kV fun h7 => lm_W (d) 45 8 [some (.ref 13), some (.int x1), some (.int r6), some (.int (x3 + 1)), none] [] h7 (lm_kI K)))) else (lm_call (d) 46 [.ref 13, .int x1] (lm_si h3 13 4 ((lm_i h3 13 4) + 1)) (lm_kI fun r9 h8 => lm_call (d) 35 [.ref 13, .int 3, .int 0] h8 (lm_kV fun h10 => lm_W (d) 45 8 [some (.ref 13), some (.int x1), some (.int r9), some (.int (x3 + 1)), none] [] h10 (lm_kI K))))))) else (lm_call (d) 33 [.ref 13] h1 (lm_kI fun r12 h11 => (if r12 = 45 then (lm_call (d) 33 [.ref 13] h11 (lm_kI fun r14 h13 => (if r14 = 43 then (lm_call (d) 46 [.ref 13, .int x1] (lm_si h13 13 4 ((lm_i h13 13 4) + 1)) (lm_kI fun r16 h15 => lm_call (d) 35 [.ref 13, .int 2, .int 0] h15 (lm_kV fun h17 => lm_W (d) 45 8 [some (.ref 13), some (.int x1), some (.int r16), some (.int (x3 + 1)), none] [] h17 (lm_kI K)))) else (lm_call (d) 46 [.ref 13, .int x1] (lm_si h13 13 4 ((lm_i h13 13 4) + 1)) (lm_kI fun r19 h18 => lm_call (d) 35 [.ref 13, .int 3, .int 0] h18 (lm_kV fun h20 => lm_W (d) 45 8 [some (.ref 13), some (.int x1), some (.int r19), some (.int (x3 + 1)), none] [] h20 (lm_kI K))))))) else ((vp_nar .boolean x2 = x2) ∧ K x2 h11))))))) else ((vp_nar .boolean x2 = x2) ∧ K x2 h)))) : lm_W (d) 45 8 [some (.ref 13), some (.int x1), some (.int x2), some (.int x3), none] [] h (lm_kI K) := by
  refine ls_iload_n f_45_8 rfl ?_
  refine ls_if_eq 82 f_45_9 rfl hyp (fun _ hyp => ?_) (fun _ hyp => ?_)
  · refine ls_iload_n f_45_82 rfl ?_
    exact ls_zreturn f_45_83 rZ_45 hyp.1 hyp.2
  · refine ls_iload_n f_45_12 rfl ?_
    refine ls_sipush 400 f_45_13 (by decide) ?_
    refine ls_icmp_ge 82 f_45_16 rfl hyp (fun _ hyp => ?_) (fun _ hyp => ?_)
    · refine ls_aload_n f_45_19 rfl ?_
      refine ls_invV (a := 13) f_45_20 q_45_51 [] [] rfl (Nat.le_of_ble_eq_true rfl) hl S_13 ow_33 ?_
      refine ls_call hyp hl (fun _ h1 hl1 hyp => ?_)
      refine ls_retI hyp (fun r2 hyp => ?_)
      refine ls_bipush 43 f_45_23 (by decide) ?_
      refine ls_icmp_eq 37 f_45_25 rfl hyp (fun _ hyp => ?_) (fun _ hyp => ?_)
      · refine ls_aload_n f_45_37 rfl ?_
        refine ls_invV (a := 13) f_45_38 q_45_51 [] [] rfl (Nat.le_of_ble_eq_true rfl) hl1 S_13 ow_33 ?_
        refine ls_call hyp hl1 (fun _ h3 hl3 hyp => ?_)
        refine ls_retI hyp (fun r4 hyp => ?_)
        refine ls_bipush 43 f_45_41 (by decide) ?_
        refine ls_icmp_ne 50 f_45_43 rfl hyp (fun _ hyp => ?_) (fun _ hyp => ?_)
        · refine ls_iconst 2 f_45_46 (by decide) ?_
          refine ls_goto 51 f_45_47 rfl ?_
          refine ls_istore [some (.ref 13), some (.int x1), some (.int x2), some (.int x3), some (.int 2)] f_45_51 (Nat.le_of_ble_eq_true rfl) rfl ?_
          refine ls_aload_n f_45_53 rfl ?_
          refine ls_dup f_45_54 rfl ?_
          refine ls_getI f_45_55 p_45_24 hl3 S_13 ?_
          refine ls_iconst 1 f_45_58 (by decide) ?_
          refine ls_iadd ((lm_i h3 13 4) + 1) f_45_59 rfl ?_
          refine ls_putI f_45_60 p_45_24 hl3 S_13 rfl ?_
          refine ls_aload_n f_45_63 rfl ?_
          refine ls_iload_n f_45_64 rfl ?_
          refine ls_invV (a := 13) f_45_65 q_45_158 [.int x1] [] rfl (Nat.le_of_ble_eq_true rfl) (lm_Lay_si hl3 _ _ _) S_13 ow_46 ?_
          refine ls_call hyp (lm_Lay_si hl3 _ _ _) (fun _ h5 hl5 hyp => ?_)
          refine ls_retI hyp (fun r6 hyp => ?_)
          refine ls_istore_n [some (.ref 13), some (.int x1), some (.int r6), some (.int x3), some (.int 2)] f_45_68 (Nat.le_of_ble_eq_true rfl) rfl ?_
          refine ls_aload_n f_45_69 rfl ?_
          refine ls_iload f_45_70 rfl ?_
          refine ls_iconst 0 f_45_72 (by decide) ?_
          refine ls_invV (a := 13) f_45_73 q_45_126 [.int 2, .int 0] [] rfl (Nat.le_of_ble_eq_true rfl) hl5 S_13 ow_35 ?_
          refine ls_call hyp hl5 (fun _ h7 hl7 hyp => ?_)
          refine ls_retV hyp (fun hyp => ?_)
          refine ls_iinc (x3 + 1) [some (.ref 13), some (.int x1), some (.int r6), some (.int (x3 + 1)), some (.int 2)] f_45_76 rfl (Nat.le_of_ble_eq_true rfl) rfl rfl ?_
          refine ls_goto 8 f_45_79 rfl ?_
          exact ls_mask [true, true, true, true, false] [some (.ref 13), some (.int x1), some (.int r6), some (.int (x3 + 1)), none] rfl hyp
        · refine ls_iconst 3 f_45_50 (by decide) ?_
          refine ls_istore [some (.ref 13), some (.int x1), some (.int x2), some (.int x3), some (.int 3)] f_45_51 (Nat.le_of_ble_eq_true rfl) rfl ?_
          refine ls_aload_n f_45_53 rfl ?_
          refine ls_dup f_45_54 rfl ?_
          refine ls_getI f_45_55 p_45_24 hl3 S_13 ?_
          refine ls_iconst 1 f_45_58 (by decide) ?_
          refine ls_iadd ((lm_i h3 13 4) + 1) f_45_59 rfl ?_
          refine ls_putI f_45_60 p_45_24 hl3 S_13 rfl ?_
          refine ls_aload_n f_45_63 rfl ?_
          refine ls_iload_n f_45_64 rfl ?_
          refine ls_invV (a := 13) f_45_65 q_45_158 [.int x1] [] rfl (Nat.le_of_ble_eq_true rfl) (lm_Lay_si hl3 _ _ _) S_13 ow_46 ?_
          refine ls_call hyp (lm_Lay_si hl3 _ _ _) (fun _ h8 hl8 hyp => ?_)
          refine ls_retI hyp (fun r9 hyp => ?_)
          refine ls_istore_n [some (.ref 13), some (.int x1), some (.int r9), some (.int x3), some (.int 3)] f_45_68 (Nat.le_of_ble_eq_true rfl) rfl ?_
          refine ls_aload_n f_45_69 rfl ?_
          refine ls_iload f_45_70 rfl ?_
          refine ls_iconst 0 f_45_72 (by decide) ?_
          refine ls_invV (a := 13) f_45_73 q_45_126 [.int 3, .int 0] [] rfl (Nat.le_of_ble_eq_true rfl) hl8 S_13 ow_35 ?_
          refine ls_call hyp hl8 (fun _ h10 hl10 hyp => ?_)
          refine ls_retV hyp (fun hyp => ?_)
          refine ls_iinc (x3 + 1) [some (.ref 13), some (.int x1), some (.int r9), some (.int (x3 + 1)), some (.int 3)] f_45_76 rfl (Nat.le_of_ble_eq_true rfl) rfl rfl ?_
          refine ls_goto 8 f_45_79 rfl ?_
          exact ls_mask [true, true, true, true, false] [some (.ref 13), some (.int x1), some (.int r9), some (.int (x3 + 1)), none] rfl hyp
      · refine ls_aload_n f_45_28 rfl ?_
        refine ls_invV (a := 13) f_45_29 q_45_51 [] [] rfl (Nat.le_of_ble_eq_true rfl) hl1 S_13 ow_33 ?_
        refine ls_call hyp hl1 (fun _ h11 hl11 hyp => ?_)
        refine ls_retI hyp (fun r12 hyp => ?_)
        refine ls_bipush 45 f_45_32 (by decide) ?_
        refine ls_icmp_ne 82 f_45_34 rfl hyp (fun _ hyp => ?_) (fun _ hyp => ?_)
        · refine ls_aload_n f_45_37 rfl ?_
          refine ls_invV (a := 13) f_45_38 q_45_51 [] [] rfl (Nat.le_of_ble_eq_true rfl) hl11 S_13 ow_33 ?_
          refine ls_call hyp hl11 (fun _ h13 hl13 hyp => ?_)
          refine ls_retI hyp (fun r14 hyp => ?_)
          refine ls_bipush 43 f_45_41 (by decide) ?_
          refine ls_icmp_ne 50 f_45_43 rfl hyp (fun _ hyp => ?_) (fun _ hyp => ?_)
          · refine ls_iconst 2 f_45_46 (by decide) ?_
            refine ls_goto 51 f_45_47 rfl ?_
            refine ls_istore [some (.ref 13), some (.int x1), some (.int x2), some (.int x3), some (.int 2)] f_45_51 (Nat.le_of_ble_eq_true rfl) rfl ?_
            refine ls_aload_n f_45_53 rfl ?_
            refine ls_dup f_45_54 rfl ?_
            refine ls_getI f_45_55 p_45_24 hl13 S_13 ?_
            refine ls_iconst 1 f_45_58 (by decide) ?_
            refine ls_iadd ((lm_i h13 13 4) + 1) f_45_59 rfl ?_
            refine ls_putI f_45_60 p_45_24 hl13 S_13 rfl ?_
            refine ls_aload_n f_45_63 rfl ?_
            refine ls_iload_n f_45_64 rfl ?_
            refine ls_invV (a := 13) f_45_65 q_45_158 [.int x1] [] rfl (Nat.le_of_ble_eq_true rfl) (lm_Lay_si hl13 _ _ _) S_13 ow_46 ?_
            refine ls_call hyp (lm_Lay_si hl13 _ _ _) (fun _ h15 hl15 hyp => ?_)
            refine ls_retI hyp (fun r16 hyp => ?_)
            refine ls_istore_n [some (.ref 13), some (.int x1), some (.int r16), some (.int x3), some (.int 2)] f_45_68 (Nat.le_of_ble_eq_true rfl) rfl ?_
            refine ls_aload_n f_45_69 rfl ?_
            refine ls_iload f_45_70 rfl ?_
            refine ls_iconst 0 f_45_72 (by decide) ?_
            refine ls_invV (a := 13) f_45_73 q_45_126 [.int 2, .int 0] [] rfl (Nat.le_of_ble_eq_true rfl) hl15 S_13 ow_35 ?_
            refine ls_call hyp hl15 (fun _ h17 hl17 hyp => ?_)
            refine ls_retV hyp (fun hyp => ?_)
            refine ls_iinc (x3 + 1) [some (.ref 13), some (.int x1), some (.int r16), some (.int (x3 + 1)), some (.int 2)] f_45_76 rfl (Nat.le_of_ble_eq_true rfl) rfl rfl ?_
            refine ls_goto 8 f_45_79 rfl ?_
            exact ls_mask [true, true, true, true, false] [some (.ref 13), some (.int x1), some (.int r16), some (.int (x3 + 1)), none] rfl hyp
          · refine ls_iconst 3 f_45_50 (by decide) ?_
            refine ls_istore [some (.ref 13), some (.int x1), some (.int x2), some (.int x3), some (.int 3)] f_45_51 (Nat.le_of_ble_eq_true rfl) rfl ?_
            refine ls_aload_n f_45_53 rfl ?_
            refine ls_dup f_45_54 rfl ?_
            refine ls_getI f_45_55 p_45_24 hl13 S_13 ?_
            refine ls_iconst 1 f_45_58 (by decide) ?_
            refine ls_iadd ((lm_i h13 13 4) + 1) f_45_59 rfl ?_
            refine ls_putI f_45_60 p_45_24 hl13 S_13 rfl ?_
            refine ls_aload_n f_45_63 rfl ?_
            refine ls_iload_n f_45_64 rfl ?_
            refine ls_invV (a := 13) f_45_65 q_45_158 [.int x1] [] rfl (Nat.le_of_ble_eq_true rfl) (lm_Lay_si hl13 _ _ _) S_13 ow_46 ?_
            refine ls_call hyp (lm_Lay_si hl13 _ _ _) (fun _ h18 hl18 hyp => ?_)
            refine ls_retI hyp (fun r19 hyp => ?_)
            refine ls_istore_n [some (.ref 13), some (.int x1), some (.int r19), some (.int x3), some (.int 3)] f_45_68 (Nat.le_of_ble_eq_true rfl) rfl ?_
            refine ls_aload_n f_45_69 rfl ?_
            refine ls_iload f_45_70 rfl ?_
            refine ls_iconst 0 f_45_72 (by decide) ?_
            refine ls_invV (a := 13) f_45_73 q_45_126 [.int 3, .int 0] [] rfl (Nat.le_of_ble_eq_true rfl) hl18 S_13 ow_35 ?_
            refine ls_call hyp hl18 (fun _ h20 hl20 hyp => ?_)
            refine ls_retV hyp (fun hyp => ?_)
            refine ls_iinc (x3 + 1) [some (.ref 13), some (.int x1), some (.int r19), some (.int (x3 + 1)), some (.int 3)] f_45_76 rfl (Nat.le_of_ble_eq_true rfl) rfl rfl ?_
            refine ls_goto 8 f_45_79 rfl ?_
            exact ls_mask [true, true, true, true, false] [some (.ref 13), some (.int x1), some (.int r19), some (.int (x3 + 1)), none] rfl hyp
        · refine ls_iload_n f_45_82 rfl ?_
          exact ls_zreturn f_45_83 rZ_45 hyp.1 hyp.2
    · refine ls_iload_n f_45_82 rfl ?_
      exact ls_zreturn f_45_83 rZ_45 hyp.1 hyp.2
theorem e_46 {d : Nat} {h : lm_H} {K : Int32 → lm_H → Prop} (x1 : Int32) (hl : lm_Lay h) (hyp : lm_call (d) 47 [.ref 13, .int x1] h (lm_kI fun r2 h1 => lm_W (d) 46 8 [some (.ref 13), some (.int x1), some (.int r2), some (.int 0), none] [] h1 (lm_kI K))) : lm_call (d + 1) 46 [.ref 13, .int x1] h (lm_kI K) := by
  refine ls_enter [some (.ref 13), some (.int x1), none, none, none] ml_46 (Nat.le_of_ble_eq_true rfl) rfl ?_
  refine ls_aload_n f_46_0 rfl ?_
  refine ls_iload_n f_46_1 rfl ?_
  refine ls_invV (a := 13) f_46_2 q_46_161 [.int x1] [] rfl (Nat.le_of_ble_eq_true rfl) hl S_13 ow_47 ?_
  refine ls_call hyp hl (fun _ h1 hl1 hyp => ?_)
  refine ls_retI hyp (fun r2 hyp => ?_)
  refine ls_istore_n [some (.ref 13), some (.int x1), some (.int r2), none, none] f_46_5 (Nat.le_of_ble_eq_true rfl) rfl ?_
  refine ls_iconst 0 f_46_6 (by decide) ?_
  refine ls_istore_n [some (.ref 13), some (.int x1), some (.int r2), some (.int 0), none] f_46_7 (Nat.le_of_ble_eq_true rfl) rfl ?_
  exact hyp
theorem b_46_8 {d : Nat} {h : lm_H} {K : Int32 → lm_H → Prop} (x1 : Int32) (x2 : Int32) (x3 : Int32) (hl : lm_Lay h) (hyp : (if x2 = 0 then ((vp_nar .boolean x2 = x2) ∧ K x2 h) else (if x3 < 400 then (lm_call (d) 33 [.ref 13] h (lm_kI fun r2 h1 => (if r2 = 42 then (lm_call (d) 33 [.ref 13] h1 (lm_kI fun r4 h3 => (if r4 = 42 then (lm_call (d) 47 [.ref 13, .int x1] (lm_si h3 13 4 ((lm_i h3 13 4) + 1)) (lm_kI fun r6 h5 => lm_call (d) 35 [.ref 13, .int 4, .int 0] h5 (lm_kV fun h7 => lm_W (d) 46 8 [some (.ref 13), some (.int x1), some (.int r6), some (.int (x3 + 1)), none] [] h7 (lm_kI K)))) else (lm_call (d) 47 [.ref 13, .int x1] (lm_si h3 13 4 ((lm_i h3 13 4) + 1)) (lm_kI fun r9 h8 => lm_call (d) 35 [.ref 13, .int 5, .int 0] h8 (lm_kV fun h10 => lm_W (d) 46 8 [some (.ref 13), some (.int x1), some (.int r9), some (.int (x3 + 1)), none] [] h10 (lm_kI K))))))) else (lm_call (d) 33 [.ref 13] h1 (lm_kI fun r12 h11 => (if r12 = 47 then (lm_call (d) 33 [.ref 13] h11 (lm_kI fun r14 h13 => (if r14 = 42 then (lm_call (d) 47 [.ref 13, .int x1] (lm_si h13 13 4 ((lm_i h13 13 4) + 1)) (lm_kI fun r16 h15 => lm_call (d) 35 [.ref 13, .int 4, .int 0] h15 (lm_kV fun h17 => lm_W (d) 46 8 [some (.ref 13), some (.int x1), some (.int r16), some (.int (x3 + 1)), none] [] h17 (lm_kI K)))) else (lm_call (d) 47 [.ref 13, .int x1] (lm_si h13 13 4 ((lm_i h13 13 4) + 1)) (lm_kI fun r19 h18 => lm_call (d) 35 [.ref 13, .int 5, .int 0] h18 (lm_kV fun h20 => lm_W (d) 46 8 [some (.ref 13), some (.int x1), some (.int r19), some (.int (x3 + 1)), none] [] h20 (lm_kI K))))))) else ((vp_nar .boolean x2 = x2) ∧ K x2 h11))))))) else ((vp_nar .boolean x2 = x2) ∧ K x2 h)))) : lm_W (d) 46 8 [some (.ref 13), some (.int x1), some (.int x2), some (.int x3), none] [] h (lm_kI K) := by
  refine ls_iload_n f_46_8 rfl ?_
  refine ls_if_eq 82 f_46_9 rfl hyp (fun _ hyp => ?_) (fun _ hyp => ?_)
  · refine ls_iload_n f_46_82 rfl ?_
    exact ls_zreturn f_46_83 rZ_46 hyp.1 hyp.2
  · refine ls_iload_n f_46_12 rfl ?_
    refine ls_sipush 400 f_46_13 (by decide) ?_
    refine ls_icmp_ge 82 f_46_16 rfl hyp (fun _ hyp => ?_) (fun _ hyp => ?_)
    · refine ls_aload_n f_46_19 rfl ?_
      refine ls_invV (a := 13) f_46_20 q_46_51 [] [] rfl (Nat.le_of_ble_eq_true rfl) hl S_13 ow_33 ?_
      refine ls_call hyp hl (fun _ h1 hl1 hyp => ?_)
      refine ls_retI hyp (fun r2 hyp => ?_)
      refine ls_bipush 42 f_46_23 (by decide) ?_
      refine ls_icmp_eq 37 f_46_25 rfl hyp (fun _ hyp => ?_) (fun _ hyp => ?_)
      · refine ls_aload_n f_46_37 rfl ?_
        refine ls_invV (a := 13) f_46_38 q_46_51 [] [] rfl (Nat.le_of_ble_eq_true rfl) hl1 S_13 ow_33 ?_
        refine ls_call hyp hl1 (fun _ h3 hl3 hyp => ?_)
        refine ls_retI hyp (fun r4 hyp => ?_)
        refine ls_bipush 42 f_46_41 (by decide) ?_
        refine ls_icmp_ne 50 f_46_43 rfl hyp (fun _ hyp => ?_) (fun _ hyp => ?_)
        · refine ls_iconst 4 f_46_46 (by decide) ?_
          refine ls_goto 51 f_46_47 rfl ?_
          refine ls_istore [some (.ref 13), some (.int x1), some (.int x2), some (.int x3), some (.int 4)] f_46_51 (Nat.le_of_ble_eq_true rfl) rfl ?_
          refine ls_aload_n f_46_53 rfl ?_
          refine ls_dup f_46_54 rfl ?_
          refine ls_getI f_46_55 p_46_24 hl3 S_13 ?_
          refine ls_iconst 1 f_46_58 (by decide) ?_
          refine ls_iadd ((lm_i h3 13 4) + 1) f_46_59 rfl ?_
          refine ls_putI f_46_60 p_46_24 hl3 S_13 rfl ?_
          refine ls_aload_n f_46_63 rfl ?_
          refine ls_iload_n f_46_64 rfl ?_
          refine ls_invV (a := 13) f_46_65 q_46_161 [.int x1] [] rfl (Nat.le_of_ble_eq_true rfl) (lm_Lay_si hl3 _ _ _) S_13 ow_47 ?_
          refine ls_call hyp (lm_Lay_si hl3 _ _ _) (fun _ h5 hl5 hyp => ?_)
          refine ls_retI hyp (fun r6 hyp => ?_)
          refine ls_istore_n [some (.ref 13), some (.int x1), some (.int r6), some (.int x3), some (.int 4)] f_46_68 (Nat.le_of_ble_eq_true rfl) rfl ?_
          refine ls_aload_n f_46_69 rfl ?_
          refine ls_iload f_46_70 rfl ?_
          refine ls_iconst 0 f_46_72 (by decide) ?_
          refine ls_invV (a := 13) f_46_73 q_46_126 [.int 4, .int 0] [] rfl (Nat.le_of_ble_eq_true rfl) hl5 S_13 ow_35 ?_
          refine ls_call hyp hl5 (fun _ h7 hl7 hyp => ?_)
          refine ls_retV hyp (fun hyp => ?_)
          refine ls_iinc (x3 + 1) [some (.ref 13), some (.int x1), some (.int r6), some (.int (x3 + 1)), some (.int 4)] f_46_76 rfl (Nat.le_of_ble_eq_true rfl) rfl rfl ?_
          refine ls_goto 8 f_46_79 rfl ?_
          exact ls_mask [true, true, true, true, false] [some (.ref 13), some (.int x1), some (.int r6), some (.int (x3 + 1)), none] rfl hyp
        · refine ls_iconst 5 f_46_50 (by decide) ?_
          refine ls_istore [some (.ref 13), some (.int x1), some (.int x2), some (.int x3), some (.int 5)] f_46_51 (Nat.le_of_ble_eq_true rfl) rfl ?_
          refine ls_aload_n f_46_53 rfl ?_
          refine ls_dup f_46_54 rfl ?_
          refine ls_getI f_46_55 p_46_24 hl3 S_13 ?_
          refine ls_iconst 1 f_46_58 (by decide) ?_
          refine ls_iadd ((lm_i h3 13 4) + 1) f_46_59 rfl ?_
          refine ls_putI f_46_60 p_46_24 hl3 S_13 rfl ?_
          refine ls_aload_n f_46_63 rfl ?_
          refine ls_iload_n f_46_64 rfl ?_
          refine ls_invV (a := 13) f_46_65 q_46_161 [.int x1] [] rfl (Nat.le_of_ble_eq_true rfl) (lm_Lay_si hl3 _ _ _) S_13 ow_47 ?_
          refine ls_call hyp (lm_Lay_si hl3 _ _ _) (fun _ h8 hl8 hyp => ?_)
          refine ls_retI hyp (fun r9 hyp => ?_)
          refine ls_istore_n [some (.ref 13), some (.int x1), some (.int r9), some (.int x3), some (.int 5)] f_46_68 (Nat.le_of_ble_eq_true rfl) rfl ?_
          refine ls_aload_n f_46_69 rfl ?_
          refine ls_iload f_46_70 rfl ?_
          refine ls_iconst 0 f_46_72 (by decide) ?_
          refine ls_invV (a := 13) f_46_73 q_46_126 [.int 5, .int 0] [] rfl (Nat.le_of_ble_eq_true rfl) hl8 S_13 ow_35 ?_
          refine ls_call hyp hl8 (fun _ h10 hl10 hyp => ?_)
          refine ls_retV hyp (fun hyp => ?_)
          refine ls_iinc (x3 + 1) [some (.ref 13), some (.int x1), some (.int r9), some (.int (x3 + 1)), some (.int 5)] f_46_76 rfl (Nat.le_of_ble_eq_true rfl) rfl rfl ?_
          refine ls_goto 8 f_46_79 rfl ?_
          exact ls_mask [true, true, true, true, false] [some (.ref 13), some (.int x1), some (.int r9), some (.int (x3 + 1)), none] rfl hyp
      · refine ls_aload_n f_46_28 rfl ?_
        refine ls_invV (a := 13) f_46_29 q_46_51 [] [] rfl (Nat.le_of_ble_eq_true rfl) hl1 S_13 ow_33 ?_
        refine ls_call hyp hl1 (fun _ h11 hl11 hyp => ?_)
        refine ls_retI hyp (fun r12 hyp => ?_)
        refine ls_bipush 47 f_46_32 (by decide) ?_
        refine ls_icmp_ne 82 f_46_34 rfl hyp (fun _ hyp => ?_) (fun _ hyp => ?_)
        · refine ls_aload_n f_46_37 rfl ?_
          refine ls_invV (a := 13) f_46_38 q_46_51 [] [] rfl (Nat.le_of_ble_eq_true rfl) hl11 S_13 ow_33 ?_
          refine ls_call hyp hl11 (fun _ h13 hl13 hyp => ?_)
          refine ls_retI hyp (fun r14 hyp => ?_)
          refine ls_bipush 42 f_46_41 (by decide) ?_
          refine ls_icmp_ne 50 f_46_43 rfl hyp (fun _ hyp => ?_) (fun _ hyp => ?_)
          · refine ls_iconst 4 f_46_46 (by decide) ?_
            refine ls_goto 51 f_46_47 rfl ?_
            refine ls_istore [some (.ref 13), some (.int x1), some (.int x2), some (.int x3), some (.int 4)] f_46_51 (Nat.le_of_ble_eq_true rfl) rfl ?_
            refine ls_aload_n f_46_53 rfl ?_
            refine ls_dup f_46_54 rfl ?_
            refine ls_getI f_46_55 p_46_24 hl13 S_13 ?_
            refine ls_iconst 1 f_46_58 (by decide) ?_
            refine ls_iadd ((lm_i h13 13 4) + 1) f_46_59 rfl ?_
            refine ls_putI f_46_60 p_46_24 hl13 S_13 rfl ?_
            refine ls_aload_n f_46_63 rfl ?_
            refine ls_iload_n f_46_64 rfl ?_
            refine ls_invV (a := 13) f_46_65 q_46_161 [.int x1] [] rfl (Nat.le_of_ble_eq_true rfl) (lm_Lay_si hl13 _ _ _) S_13 ow_47 ?_
            refine ls_call hyp (lm_Lay_si hl13 _ _ _) (fun _ h15 hl15 hyp => ?_)
            refine ls_retI hyp (fun r16 hyp => ?_)
            refine ls_istore_n [some (.ref 13), some (.int x1), some (.int r16), some (.int x3), some (.int 4)] f_46_68 (Nat.le_of_ble_eq_true rfl) rfl ?_
            refine ls_aload_n f_46_69 rfl ?_
            refine ls_iload f_46_70 rfl ?_
            refine ls_iconst 0 f_46_72 (by decide) ?_
            refine ls_invV (a := 13) f_46_73 q_46_126 [.int 4, .int 0] [] rfl (Nat.le_of_ble_eq_true rfl) hl15 S_13 ow_35 ?_
            refine ls_call hyp hl15 (fun _ h17 hl17 hyp => ?_)
            refine ls_retV hyp (fun hyp => ?_)
            refine ls_iinc (x3 + 1) [some (.ref 13), some (.int x1), some (.int r16), some (.int (x3 + 1)), some (.int 4)] f_46_76 rfl (Nat.le_of_ble_eq_true rfl) rfl rfl ?_
            refine ls_goto 8 f_46_79 rfl ?_
            exact ls_mask [true, true, true, true, false] [some (.ref 13), some (.int x1), some (.int r16), some (.int (x3 + 1)), none] rfl hyp
          · refine ls_iconst 5 f_46_50 (by decide) ?_
            refine ls_istore [some (.ref 13), some (.int x1), some (.int x2), some (.int x3), some (.int 5)] f_46_51 (Nat.le_of_ble_eq_true rfl) rfl ?_
            refine ls_aload_n f_46_53 rfl ?_
            refine ls_dup f_46_54 rfl ?_
            refine ls_getI f_46_55 p_46_24 hl13 S_13 ?_
            refine ls_iconst 1 f_46_58 (by decide) ?_
            refine ls_iadd ((lm_i h13 13 4) + 1) f_46_59 rfl ?_
            refine ls_putI f_46_60 p_46_24 hl13 S_13 rfl ?_
            refine ls_aload_n f_46_63 rfl ?_
            refine ls_iload_n f_46_64 rfl ?_
            refine ls_invV (a := 13) f_46_65 q_46_161 [.int x1] [] rfl (Nat.le_of_ble_eq_true rfl) (lm_Lay_si hl13 _ _ _) S_13 ow_47 ?_
            refine ls_call hyp (lm_Lay_si hl13 _ _ _) (fun _ h18 hl18 hyp => ?_)
            refine ls_retI hyp (fun r19 hyp => ?_)
            refine ls_istore_n [some (.ref 13), some (.int x1), some (.int r19), some (.int x3), some (.int 5)] f_46_68 (Nat.le_of_ble_eq_true rfl) rfl ?_
            refine ls_aload_n f_46_69 rfl ?_
            refine ls_iload f_46_70 rfl ?_
            refine ls_iconst 0 f_46_72 (by decide) ?_
            refine ls_invV (a := 13) f_46_73 q_46_126 [.int 5, .int 0] [] rfl (Nat.le_of_ble_eq_true rfl) hl18 S_13 ow_35 ?_
            refine ls_call hyp hl18 (fun _ h20 hl20 hyp => ?_)
            refine ls_retV hyp (fun hyp => ?_)
            refine ls_iinc (x3 + 1) [some (.ref 13), some (.int x1), some (.int r19), some (.int (x3 + 1)), some (.int 5)] f_46_76 rfl (Nat.le_of_ble_eq_true rfl) rfl rfl ?_
            refine ls_goto 8 f_46_79 rfl ?_
            exact ls_mask [true, true, true, true, false] [some (.ref 13), some (.int x1), some (.int r19), some (.int (x3 + 1)), none] rfl hyp
        · refine ls_iload_n f_46_82 rfl ?_
          exact ls_zreturn f_46_83 rZ_46 hyp.1 hyp.2
    · refine ls_iload_n f_46_82 rfl ?_
      exact ls_zreturn f_46_83 rZ_46 hyp.1 hyp.2
theorem e_47 {d : Nat} {h : lm_H} {K : Int32 → lm_H → Prop} (x1 : Int32) (hl : lm_Lay h) (hyp : lm_call (d) 33 [.ref 13] h (lm_kI fun r2 h1 => (if r2 = 91 then (if x1 < 8 then (lm_call (d) 45 [.ref 13, .int (x1 + 1)] (lm_si h1 13 4 ((lm_i h1 13 4) + 1)) (lm_kI fun r4 h3 => (if r4 = 0 then (K 0 h3) else (lm_call (d) 44 [.ref 13, .int 93] h3 (lm_kI fun r6 h5 => (if r6 = 0 then (K 0 h5) else (K 1 h5))))))) else (if r2 < 265 then (if r2 = 257 then (lm_in (lm_i h1 13 4) 401 False (if 1000 < (lm_i h1 16 ((lm_i h1 13 4).toNatClampNeg)) then (lm_call (d) 34 [.ref 13] h1 (lm_kI fun r8 h7 => (vp_nar .boolean r8 = r8) ∧ K r8 h7)) else (if (lm_i h1 13 6) < 50 then (lm_in (lm_i h1 13 4) 401 False (lm_call (d) 35 [.ref 13, .int 0, .int (lm_i h1 16 ((lm_i h1 13 4).toNatClampNeg))] (lm_si h1 13 6 ((lm_i h1 13 6) + 1)) (lm_kV fun h9 => K 1 (lm_si h9 13 4 ((lm_i h9 13 4) + 1))))) else (lm_call (d) 34 [.ref 13] h1 (lm_kI fun r11 h10 => (vp_nar .boolean r11 = r11) ∧ K r11 h10))))) else (lm_call (d) 34 [.ref 13] h1 (lm_kI fun r13 h12 => (vp_nar .boolean r13 = r13) ∧ K r13 h12))) else (if 271 < r2 then (if r2 = 257 then (lm_in (lm_i h1 13 4) 401 False (if 1000 < (lm_i h1 16 ((lm_i h1 13 4).toNatClampNeg)) then (lm_call (d) 34 [.ref 13] h1 (lm_kI fun r15 h14 => (vp_nar .boolean r15 = r15) ∧ K r15 h14)) else (if (lm_i h1 13 6) < 50 then (lm_in (lm_i h1 13 4) 401 False (lm_call (d) 35 [.ref 13, .int 0, .int (lm_i h1 16 ((lm_i h1 13 4).toNatClampNeg))] (lm_si h1 13 6 ((lm_i h1 13 6) + 1)) (lm_kV fun h16 => K 1 (lm_si h16 13 4 ((lm_i h16 13 4) + 1))))) else (lm_call (d) 34 [.ref 13] h1 (lm_kI fun r18 h17 => (vp_nar .boolean r18 = r18) ∧ K r18 h17))))) else (lm_call (d) 34 [.ref 13] h1 (lm_kI fun r20 h19 => (vp_nar .boolean r20 = r20) ∧ K r20 h19))) else (if r2 = 257 then (lm_in (lm_i h1 13 4) 401 False (if 1000 < (lm_i h1 16 ((lm_i h1 13 4).toNatClampNeg)) then (if (lm_i h1 13 6) < 50 then (lm_call (d) 35 [.ref 13, .int 1, .int (r2 - 265)] (lm_si h1 13 6 ((lm_i h1 13 6) + 1)) (lm_kV fun h21 => K 1 (lm_si h21 13 4 ((lm_i h21 13 4) + 1)))) else (lm_call (d) 34 [.ref 13] h1 (lm_kI fun r23 h22 => (vp_nar .boolean r23 = r23) ∧ K r23 h22))) else (if (lm_i h1 13 6) < 50 then (lm_call (d) 35 [.ref 13, .int 1, .int (r2 - 265)] (lm_si h1 13 6 ((lm_i h1 13 6) + 1)) (lm_kV fun h24 => K 1 (lm_si h24 13 4 ((lm_i h24 13 4) + 1)))) else (lm_call (d) 34 [.ref 13] h1 (lm_kI fun r26 h25 => (vp_nar .boolean r26 = r26) ∧ K r26 h25))))) else (if (lm_i h1 13 6) < 50 then (lm_call (d) 35 [.ref 13, .int 1, .int (r2 - 265)] (lm_si h1 13 6 ((lm_i h1 13 6) + 1)) (lm_kV fun h27 => K 1 (lm_si h27 13 4 ((lm_i h27 13 4) + 1)))) else (lm_call (d) 34 [.ref 13] h1 (lm_kI fun r29 h28 => (vp_nar .boolean r29 = r29) ∧ K r29 h28))))))) else (if r2 < 265 then (if r2 = 257 then (lm_in (lm_i h1 13 4) 401 False (if 1000 < (lm_i h1 16 ((lm_i h1 13 4).toNatClampNeg)) then (lm_call (d) 34 [.ref 13] h1 (lm_kI fun r31 h30 => (vp_nar .boolean r31 = r31) ∧ K r31 h30)) else (if (lm_i h1 13 6) < 50 then (lm_in (lm_i h1 13 4) 401 False (lm_call (d) 35 [.ref 13, .int 0, .int (lm_i h1 16 ((lm_i h1 13 4).toNatClampNeg))] (lm_si h1 13 6 ((lm_i h1 13 6) + 1)) (lm_kV fun h32 => K 1 (lm_si h32 13 4 ((lm_i h32 13 4) + 1))))) else (lm_call (d) 34 [.ref 13] h1 (lm_kI fun r34 h33 => (vp_nar .boolean r34 = r34) ∧ K r34 h33))))) else (lm_call (d) 34 [.ref 13] h1 (lm_kI fun r36 h35 => (vp_nar .boolean r36 = r36) ∧ K r36 h35))) else (if 271 < r2 then (if r2 = 257 then (lm_in (lm_i h1 13 4) 401 False (if 1000 < (lm_i h1 16 ((lm_i h1 13 4).toNatClampNeg)) then (lm_call (d) 34 [.ref 13] h1 (lm_kI fun r38 h37 => (vp_nar .boolean r38 = r38) ∧ K r38 h37)) else (if (lm_i h1 13 6) < 50 then (lm_in (lm_i h1 13 4) 401 False (lm_call (d) 35 [.ref 13, .int 0, .int (lm_i h1 16 ((lm_i h1 13 4).toNatClampNeg))] (lm_si h1 13 6 ((lm_i h1 13 6) + 1)) (lm_kV fun h39 => K 1 (lm_si h39 13 4 ((lm_i h39 13 4) + 1))))) else (lm_call (d) 34 [.ref 13] h1 (lm_kI fun r41 h40 => (vp_nar .boolean r41 = r41) ∧ K r41 h40))))) else (lm_call (d) 34 [.ref 13] h1 (lm_kI fun r43 h42 => (vp_nar .boolean r43 = r43) ∧ K r43 h42))) else (if r2 = 257 then (lm_in (lm_i h1 13 4) 401 False (if 1000 < (lm_i h1 16 ((lm_i h1 13 4).toNatClampNeg)) then (if (lm_i h1 13 6) < 50 then (lm_call (d) 35 [.ref 13, .int 1, .int (r2 - 265)] (lm_si h1 13 6 ((lm_i h1 13 6) + 1)) (lm_kV fun h44 => K 1 (lm_si h44 13 4 ((lm_i h44 13 4) + 1)))) else (lm_call (d) 34 [.ref 13] h1 (lm_kI fun r46 h45 => (vp_nar .boolean r46 = r46) ∧ K r46 h45))) else (if (lm_i h1 13 6) < 50 then (lm_call (d) 35 [.ref 13, .int 1, .int (r2 - 265)] (lm_si h1 13 6 ((lm_i h1 13 6) + 1)) (lm_kV fun h47 => K 1 (lm_si h47 13 4 ((lm_i h47 13 4) + 1)))) else (lm_call (d) 34 [.ref 13] h1 (lm_kI fun r49 h48 => (vp_nar .boolean r49 = r49) ∧ K r49 h48))))) else (if (lm_i h1 13 6) < 50 then (lm_call (d) 35 [.ref 13, .int 1, .int (r2 - 265)] (lm_si h1 13 6 ((lm_i h1 13 6) + 1)) (lm_kV fun h50 => K 1 (lm_si h50 13 4 ((lm_i h50 13 4) + 1)))) else (lm_call (d) 34 [.ref 13] h1 (lm_kI fun r52 h51 => (vp_nar .boolean r52 = r52) ∧ K r52 h51))))))))) : lm_call (d + 1) 47 [.ref 13, .int x1] h (lm_kI K) := by
  refine ls_enter [some (.ref 13), some (.int x1), none, none, none] ml_47 (Nat.le_of_ble_eq_true rfl) rfl ?_
  refine ls_aload_n f_47_0 rfl ?_
  refine ls_invV (a := 13) f_47_1 q_47_51 [] [] rfl (Nat.le_of_ble_eq_true rfl) hl S_13 ow_33 ?_
  refine ls_call hyp hl (fun _ h1 hl1 hyp => ?_)
  refine ls_retI hyp (fun r2 hyp => ?_)
  refine ls_istore_n [some (.ref 13), some (.int x1), some (.int r2), none, none] f_47_4 (Nat.le_of_ble_eq_true rfl) rfl ?_
  refine ls_iload_n f_47_5 rfl ?_
  refine ls_bipush 91 f_47_6 (by decide) ?_
  refine ls_icmp_ne 52 f_47_8 rfl hyp (fun _ hyp => ?_) (fun _ hyp => ?_)
  · refine ls_iload_n f_47_11 rfl ?_
    refine ls_bipush 8 f_47_12 (by decide) ?_
    refine ls_icmp_ge 52 f_47_14 rfl hyp (fun _ hyp => ?_) (fun _ hyp => ?_)
    · refine ls_aload_n f_47_17 rfl ?_
      refine ls_dup f_47_18 rfl ?_
      refine ls_getI f_47_19 p_47_24 hl1 S_13 ?_
      refine ls_iconst 1 f_47_22 (by decide) ?_
      refine ls_iadd ((lm_i h1 13 4) + 1) f_47_23 rfl ?_
      refine ls_putI f_47_24 p_47_24 hl1 S_13 rfl ?_
      refine ls_aload_n f_47_27 rfl ?_
      refine ls_iload_n f_47_28 rfl ?_
      refine ls_iconst 1 f_47_29 (by decide) ?_
      refine ls_iadd (x1 + 1) f_47_30 rfl ?_
      refine ls_invV (a := 13) f_47_31 q_47_130 [.int (x1 + 1)] [] rfl (Nat.le_of_ble_eq_true rfl) (lm_Lay_si hl1 _ _ _) S_13 ow_45 ?_
      refine ls_call hyp (lm_Lay_si hl1 _ _ _) (fun _ h3 hl3 hyp => ?_)
      refine ls_retI hyp (fun r4 hyp => ?_)
      refine ls_if_eq 50 f_47_34 rfl hyp (fun _ hyp => ?_) (fun _ hyp => ?_)
      · refine ls_iconst 0 f_47_50 (by decide) ?_
        exact ls_zreturn f_47_51 rZ_47 (by decide) hyp
      · refine ls_aload_n f_47_37 rfl ?_
        refine ls_bipush 93 f_47_38 (by decide) ?_
        refine ls_invV (a := 13) f_47_40 q_47_151 [.int 93] [] rfl (Nat.le_of_ble_eq_true rfl) hl3 S_13 ow_44 ?_
        refine ls_call hyp hl3 (fun _ h5 hl5 hyp => ?_)
        refine ls_retI hyp (fun r6 hyp => ?_)
        refine ls_if_eq 50 f_47_43 rfl hyp (fun _ hyp => ?_) (fun _ hyp => ?_)
        · refine ls_iconst 0 f_47_50 (by decide) ?_
          exact ls_zreturn f_47_51 rZ_47 (by decide) hyp
        · refine ls_iconst 1 f_47_46 (by decide) ?_
          refine ls_goto 51 f_47_47 rfl ?_
          exact ls_zreturn f_47_51 rZ_47 (by decide) hyp
    · refine ls_iload_n f_47_52 rfl ?_
      refine ls_sipush 265 f_47_53 (by decide) ?_
      refine ls_icmp_lt 70 f_47_56 rfl hyp (fun _ hyp => ?_) (fun _ hyp => ?_)
      · refine ls_iconst 0 f_47_70 (by decide) ?_
        refine ls_istore_n [some (.ref 13), some (.int x1), some (.int r2), some (.int 0), none] f_47_71 (Nat.le_of_ble_eq_true rfl) rfl ?_
        refine ls_iload_n f_47_72 rfl ?_
        refine ls_sipush 257 f_47_73 (by decide) ?_
        refine ls_icmp_ne 98 f_47_76 rfl hyp (fun _ hyp => ?_) (fun _ hyp => ?_)
        · refine ls_aload_n f_47_79 rfl ?_
          refine ls_getR f_47_80 p_47_18 hl1 S_13 F_13_2 ?_
          refine ls_aload_n f_47_83 rfl ?_
          refine ls_getI f_47_84 p_47_24 hl1 S_13 ?_
          refine ls_iald f_47_87 hl1 S_16 hyp (fun hyp => ?_)
          refine ls_sipush 1000 f_47_88 (by decide) ?_
          refine ls_icmp_gt 98 f_47_91 rfl hyp (fun _ hyp => ?_) (fun _ hyp => ?_)
          · refine ls_iconst 0 f_47_98 (by decide) ?_
            refine ls_istore [some (.ref 13), some (.int x1), some (.int r2), some (.int 0), some (.int 0)] f_47_99 (Nat.le_of_ble_eq_true rfl) rfl ?_
            refine ls_iload_n f_47_101 rfl ?_
            refine ls_if_ne_T 110 f_47_102 rfl (by decide) ?_
            refine ls_iload f_47_105 rfl ?_
            refine ls_if_eq_T 119 f_47_107 rfl (by decide) ?_
            refine ls_aload_n f_47_119 rfl ?_
            refine ls_invV (a := 13) f_47_120 q_47_55 [] [] rfl (Nat.le_of_ble_eq_true rfl) hl1 S_13 ow_34 ?_
            refine ls_call hyp hl1 (fun _ h7 hl7 hyp => ?_)
            refine ls_retI hyp (fun r8 hyp => ?_)
            exact ls_zreturn f_47_123 rZ_47 hyp.1 hyp.2
          · refine ls_iconst 1 f_47_94 (by decide) ?_
            refine ls_goto 99 f_47_95 rfl ?_
            refine ls_istore [some (.ref 13), some (.int x1), some (.int r2), some (.int 0), some (.int 1)] f_47_99 (Nat.le_of_ble_eq_true rfl) rfl ?_
            refine ls_iload_n f_47_101 rfl ?_
            refine ls_if_ne_T 110 f_47_102 rfl (by decide) ?_
            refine ls_iload f_47_105 rfl ?_
            refine ls_if_eq_F 119 f_47_107 rfl (by decide) ?_
            refine ls_aload_n f_47_110 rfl ?_
            refine ls_getI f_47_111 p_47_31 hl1 S_13 ?_
            refine ls_bipush 50 f_47_114 (by decide) ?_
            refine ls_icmp_lt 124 f_47_116 rfl hyp (fun _ hyp => ?_) (fun _ hyp => ?_)
            · refine ls_aload_n f_47_124 rfl ?_
              refine ls_dup f_47_125 rfl ?_
              refine ls_getI f_47_126 p_47_31 hl1 S_13 ?_
              refine ls_iconst 1 f_47_129 (by decide) ?_
              refine ls_iadd ((lm_i h1 13 6) + 1) f_47_130 rfl ?_
              refine ls_putI f_47_131 p_47_31 hl1 S_13 rfl ?_
              refine ls_iload_n f_47_134 rfl ?_
              refine ls_if_eq_T 151 f_47_135 rfl (by decide) ?_
              refine ls_aload_n f_47_151 rfl ?_
              refine ls_iconst 0 f_47_152 (by decide) ?_
              refine ls_aload_n f_47_153 rfl ?_
              refine ls_getR f_47_154 p_47_18 (lm_Lay_si hl1 _ _ _) S_13 F_13_2 ?_
              refine ls_aload_n f_47_157 rfl ?_
              refine ls_getI f_47_158 p_47_24 (lm_Lay_si hl1 _ _ _) S_13 ?_
              refine ls_top (lm_i h1 13 4) rfl ?_
              refine ls_iald f_47_161 (lm_Lay_si hl1 _ _ _) S_16 hyp (fun hyp => ?_)
              refine ls_top (lm_i h1 16 ((lm_i h1 13 4).toNatClampNeg)) rfl ?_
              refine ls_invV (a := 13) f_47_162 q_47_126 [.int 0, .int (lm_i h1 16 ((lm_i h1 13 4).toNatClampNeg))] [] rfl (Nat.le_of_ble_eq_true rfl) (lm_Lay_si hl1 _ _ _) S_13 ow_35 ?_
              refine ls_call hyp (lm_Lay_si hl1 _ _ _) (fun _ h9 hl9 hyp => ?_)
              refine ls_retV hyp (fun hyp => ?_)
              refine ls_aload_n f_47_165 rfl ?_
              refine ls_dup f_47_166 rfl ?_
              refine ls_getI f_47_167 p_47_24 hl9 S_13 ?_
              refine ls_iconst 1 f_47_170 (by decide) ?_
              refine ls_iadd ((lm_i h9 13 4) + 1) f_47_171 rfl ?_
              refine ls_putI f_47_172 p_47_24 hl9 S_13 rfl ?_
              refine ls_iconst 1 f_47_175 (by decide) ?_
              exact ls_zreturn f_47_176 rZ_47 (by decide) hyp
            · refine ls_aload_n f_47_119 rfl ?_
              refine ls_invV (a := 13) f_47_120 q_47_55 [] [] rfl (Nat.le_of_ble_eq_true rfl) hl1 S_13 ow_34 ?_
              refine ls_call hyp hl1 (fun _ h10 hl10 hyp => ?_)
              refine ls_retI hyp (fun r11 hyp => ?_)
              exact ls_zreturn f_47_123 rZ_47 hyp.1 hyp.2
        · refine ls_iconst 0 f_47_98 (by decide) ?_
          refine ls_istore [some (.ref 13), some (.int x1), some (.int r2), some (.int 0), some (.int 0)] f_47_99 (Nat.le_of_ble_eq_true rfl) rfl ?_
          refine ls_iload_n f_47_101 rfl ?_
          refine ls_if_ne_T 110 f_47_102 rfl (by decide) ?_
          refine ls_iload f_47_105 rfl ?_
          refine ls_if_eq_T 119 f_47_107 rfl (by decide) ?_
          refine ls_aload_n f_47_119 rfl ?_
          refine ls_invV (a := 13) f_47_120 q_47_55 [] [] rfl (Nat.le_of_ble_eq_true rfl) hl1 S_13 ow_34 ?_
          refine ls_call hyp hl1 (fun _ h12 hl12 hyp => ?_)
          refine ls_retI hyp (fun r13 hyp => ?_)
          exact ls_zreturn f_47_123 rZ_47 hyp.1 hyp.2
      · refine ls_iload_n f_47_59 rfl ?_
        refine ls_sipush 271 f_47_60 (by decide) ?_
        refine ls_icmp_gt 70 f_47_63 rfl hyp (fun _ hyp => ?_) (fun _ hyp => ?_)
        · refine ls_iconst 0 f_47_70 (by decide) ?_
          refine ls_istore_n [some (.ref 13), some (.int x1), some (.int r2), some (.int 0), none] f_47_71 (Nat.le_of_ble_eq_true rfl) rfl ?_
          refine ls_iload_n f_47_72 rfl ?_
          refine ls_sipush 257 f_47_73 (by decide) ?_
          refine ls_icmp_ne 98 f_47_76 rfl hyp (fun _ hyp => ?_) (fun _ hyp => ?_)
          · refine ls_aload_n f_47_79 rfl ?_
            refine ls_getR f_47_80 p_47_18 hl1 S_13 F_13_2 ?_
            refine ls_aload_n f_47_83 rfl ?_
            refine ls_getI f_47_84 p_47_24 hl1 S_13 ?_
            refine ls_iald f_47_87 hl1 S_16 hyp (fun hyp => ?_)
            refine ls_sipush 1000 f_47_88 (by decide) ?_
            refine ls_icmp_gt 98 f_47_91 rfl hyp (fun _ hyp => ?_) (fun _ hyp => ?_)
            · refine ls_iconst 0 f_47_98 (by decide) ?_
              refine ls_istore [some (.ref 13), some (.int x1), some (.int r2), some (.int 0), some (.int 0)] f_47_99 (Nat.le_of_ble_eq_true rfl) rfl ?_
              refine ls_iload_n f_47_101 rfl ?_
              refine ls_if_ne_T 110 f_47_102 rfl (by decide) ?_
              refine ls_iload f_47_105 rfl ?_
              refine ls_if_eq_T 119 f_47_107 rfl (by decide) ?_
              refine ls_aload_n f_47_119 rfl ?_
              refine ls_invV (a := 13) f_47_120 q_47_55 [] [] rfl (Nat.le_of_ble_eq_true rfl) hl1 S_13 ow_34 ?_
              refine ls_call hyp hl1 (fun _ h14 hl14 hyp => ?_)
              refine ls_retI hyp (fun r15 hyp => ?_)
              exact ls_zreturn f_47_123 rZ_47 hyp.1 hyp.2
            · refine ls_iconst 1 f_47_94 (by decide) ?_
              refine ls_goto 99 f_47_95 rfl ?_
              refine ls_istore [some (.ref 13), some (.int x1), some (.int r2), some (.int 0), some (.int 1)] f_47_99 (Nat.le_of_ble_eq_true rfl) rfl ?_
              refine ls_iload_n f_47_101 rfl ?_
              refine ls_if_ne_T 110 f_47_102 rfl (by decide) ?_
              refine ls_iload f_47_105 rfl ?_
              refine ls_if_eq_F 119 f_47_107 rfl (by decide) ?_
              refine ls_aload_n f_47_110 rfl ?_
              refine ls_getI f_47_111 p_47_31 hl1 S_13 ?_
              refine ls_bipush 50 f_47_114 (by decide) ?_
              refine ls_icmp_lt 124 f_47_116 rfl hyp (fun _ hyp => ?_) (fun _ hyp => ?_)
              · refine ls_aload_n f_47_124 rfl ?_
                refine ls_dup f_47_125 rfl ?_
                refine ls_getI f_47_126 p_47_31 hl1 S_13 ?_
                refine ls_iconst 1 f_47_129 (by decide) ?_
                refine ls_iadd ((lm_i h1 13 6) + 1) f_47_130 rfl ?_
                refine ls_putI f_47_131 p_47_31 hl1 S_13 rfl ?_
                refine ls_iload_n f_47_134 rfl ?_
                refine ls_if_eq_T 151 f_47_135 rfl (by decide) ?_
                refine ls_aload_n f_47_151 rfl ?_
                refine ls_iconst 0 f_47_152 (by decide) ?_
                refine ls_aload_n f_47_153 rfl ?_
                refine ls_getR f_47_154 p_47_18 (lm_Lay_si hl1 _ _ _) S_13 F_13_2 ?_
                refine ls_aload_n f_47_157 rfl ?_
                refine ls_getI f_47_158 p_47_24 (lm_Lay_si hl1 _ _ _) S_13 ?_
                refine ls_top (lm_i h1 13 4) rfl ?_
                refine ls_iald f_47_161 (lm_Lay_si hl1 _ _ _) S_16 hyp (fun hyp => ?_)
                refine ls_top (lm_i h1 16 ((lm_i h1 13 4).toNatClampNeg)) rfl ?_
                refine ls_invV (a := 13) f_47_162 q_47_126 [.int 0, .int (lm_i h1 16 ((lm_i h1 13 4).toNatClampNeg))] [] rfl (Nat.le_of_ble_eq_true rfl) (lm_Lay_si hl1 _ _ _) S_13 ow_35 ?_
                refine ls_call hyp (lm_Lay_si hl1 _ _ _) (fun _ h16 hl16 hyp => ?_)
                refine ls_retV hyp (fun hyp => ?_)
                refine ls_aload_n f_47_165 rfl ?_
                refine ls_dup f_47_166 rfl ?_
                refine ls_getI f_47_167 p_47_24 hl16 S_13 ?_
                refine ls_iconst 1 f_47_170 (by decide) ?_
                refine ls_iadd ((lm_i h16 13 4) + 1) f_47_171 rfl ?_
                refine ls_putI f_47_172 p_47_24 hl16 S_13 rfl ?_
                refine ls_iconst 1 f_47_175 (by decide) ?_
                exact ls_zreturn f_47_176 rZ_47 (by decide) hyp
              · refine ls_aload_n f_47_119 rfl ?_
                refine ls_invV (a := 13) f_47_120 q_47_55 [] [] rfl (Nat.le_of_ble_eq_true rfl) hl1 S_13 ow_34 ?_
                refine ls_call hyp hl1 (fun _ h17 hl17 hyp => ?_)
                refine ls_retI hyp (fun r18 hyp => ?_)
                exact ls_zreturn f_47_123 rZ_47 hyp.1 hyp.2
          · refine ls_iconst 0 f_47_98 (by decide) ?_
            refine ls_istore [some (.ref 13), some (.int x1), some (.int r2), some (.int 0), some (.int 0)] f_47_99 (Nat.le_of_ble_eq_true rfl) rfl ?_
            refine ls_iload_n f_47_101 rfl ?_
            refine ls_if_ne_T 110 f_47_102 rfl (by decide) ?_
            refine ls_iload f_47_105 rfl ?_
            refine ls_if_eq_T 119 f_47_107 rfl (by decide) ?_
            refine ls_aload_n f_47_119 rfl ?_
            refine ls_invV (a := 13) f_47_120 q_47_55 [] [] rfl (Nat.le_of_ble_eq_true rfl) hl1 S_13 ow_34 ?_
            refine ls_call hyp hl1 (fun _ h19 hl19 hyp => ?_)
            refine ls_retI hyp (fun r20 hyp => ?_)
            exact ls_zreturn f_47_123 rZ_47 hyp.1 hyp.2
        · refine ls_iconst 1 f_47_66 (by decide) ?_
          refine ls_goto 71 f_47_67 rfl ?_
          refine ls_istore_n [some (.ref 13), some (.int x1), some (.int r2), some (.int 1), none] f_47_71 (Nat.le_of_ble_eq_true rfl) rfl ?_
          refine ls_iload_n f_47_72 rfl ?_
          refine ls_sipush 257 f_47_73 (by decide) ?_
          refine ls_icmp_ne 98 f_47_76 rfl hyp (fun _ hyp => ?_) (fun _ hyp => ?_)
          · refine ls_aload_n f_47_79 rfl ?_
            refine ls_getR f_47_80 p_47_18 hl1 S_13 F_13_2 ?_
            refine ls_aload_n f_47_83 rfl ?_
            refine ls_getI f_47_84 p_47_24 hl1 S_13 ?_
            refine ls_iald f_47_87 hl1 S_16 hyp (fun hyp => ?_)
            refine ls_sipush 1000 f_47_88 (by decide) ?_
            refine ls_icmp_gt 98 f_47_91 rfl hyp (fun _ hyp => ?_) (fun _ hyp => ?_)
            · refine ls_iconst 0 f_47_98 (by decide) ?_
              refine ls_istore [some (.ref 13), some (.int x1), some (.int r2), some (.int 1), some (.int 0)] f_47_99 (Nat.le_of_ble_eq_true rfl) rfl ?_
              refine ls_iload_n f_47_101 rfl ?_
              refine ls_if_ne_F 110 f_47_102 rfl (by decide) ?_
              refine ls_aload_n f_47_110 rfl ?_
              refine ls_getI f_47_111 p_47_31 hl1 S_13 ?_
              refine ls_bipush 50 f_47_114 (by decide) ?_
              refine ls_icmp_lt 124 f_47_116 rfl hyp (fun _ hyp => ?_) (fun _ hyp => ?_)
              · refine ls_aload_n f_47_124 rfl ?_
                refine ls_dup f_47_125 rfl ?_
                refine ls_getI f_47_126 p_47_31 hl1 S_13 ?_
                refine ls_iconst 1 f_47_129 (by decide) ?_
                refine ls_iadd ((lm_i h1 13 6) + 1) f_47_130 rfl ?_
                refine ls_putI f_47_131 p_47_31 hl1 S_13 rfl ?_
                refine ls_iload_n f_47_134 rfl ?_
                refine ls_if_eq_F 151 f_47_135 rfl (by decide) ?_
                refine ls_aload_n f_47_138 rfl ?_
                refine ls_iconst 1 f_47_139 (by decide) ?_
                refine ls_iload_n f_47_140 rfl ?_
                refine ls_sipush 265 f_47_141 (by decide) ?_
                refine ls_isub (r2 - 265) f_47_144 rfl ?_
                refine ls_invV (a := 13) f_47_145 q_47_126 [.int 1, .int (r2 - 265)] [] rfl (Nat.le_of_ble_eq_true rfl) (lm_Lay_si hl1 _ _ _) S_13 ow_35 ?_
                refine ls_call hyp (lm_Lay_si hl1 _ _ _) (fun _ h21 hl21 hyp => ?_)
                refine ls_retV hyp (fun hyp => ?_)
                refine ls_goto 165 f_47_148 rfl ?_
                refine ls_aload_n f_47_165 rfl ?_
                refine ls_dup f_47_166 rfl ?_
                refine ls_getI f_47_167 p_47_24 hl21 S_13 ?_
                refine ls_iconst 1 f_47_170 (by decide) ?_
                refine ls_iadd ((lm_i h21 13 4) + 1) f_47_171 rfl ?_
                refine ls_putI f_47_172 p_47_24 hl21 S_13 rfl ?_
                refine ls_iconst 1 f_47_175 (by decide) ?_
                exact ls_zreturn f_47_176 rZ_47 (by decide) hyp
              · refine ls_aload_n f_47_119 rfl ?_
                refine ls_invV (a := 13) f_47_120 q_47_55 [] [] rfl (Nat.le_of_ble_eq_true rfl) hl1 S_13 ow_34 ?_
                refine ls_call hyp hl1 (fun _ h22 hl22 hyp => ?_)
                refine ls_retI hyp (fun r23 hyp => ?_)
                exact ls_zreturn f_47_123 rZ_47 hyp.1 hyp.2
            · refine ls_iconst 1 f_47_94 (by decide) ?_
              refine ls_goto 99 f_47_95 rfl ?_
              refine ls_istore [some (.ref 13), some (.int x1), some (.int r2), some (.int 1), some (.int 1)] f_47_99 (Nat.le_of_ble_eq_true rfl) rfl ?_
              refine ls_iload_n f_47_101 rfl ?_
              refine ls_if_ne_F 110 f_47_102 rfl (by decide) ?_
              refine ls_aload_n f_47_110 rfl ?_
              refine ls_getI f_47_111 p_47_31 hl1 S_13 ?_
              refine ls_bipush 50 f_47_114 (by decide) ?_
              refine ls_icmp_lt 124 f_47_116 rfl hyp (fun _ hyp => ?_) (fun _ hyp => ?_)
              · refine ls_aload_n f_47_124 rfl ?_
                refine ls_dup f_47_125 rfl ?_
                refine ls_getI f_47_126 p_47_31 hl1 S_13 ?_
                refine ls_iconst 1 f_47_129 (by decide) ?_
                refine ls_iadd ((lm_i h1 13 6) + 1) f_47_130 rfl ?_
                refine ls_putI f_47_131 p_47_31 hl1 S_13 rfl ?_
                refine ls_iload_n f_47_134 rfl ?_
                refine ls_if_eq_F 151 f_47_135 rfl (by decide) ?_
                refine ls_aload_n f_47_138 rfl ?_
                refine ls_iconst 1 f_47_139 (by decide) ?_
                refine ls_iload_n f_47_140 rfl ?_
                refine ls_sipush 265 f_47_141 (by decide) ?_
                refine ls_isub (r2 - 265) f_47_144 rfl ?_
                refine ls_invV (a := 13) f_47_145 q_47_126 [.int 1, .int (r2 - 265)] [] rfl (Nat.le_of_ble_eq_true rfl) (lm_Lay_si hl1 _ _ _) S_13 ow_35 ?_
                refine ls_call hyp (lm_Lay_si hl1 _ _ _) (fun _ h24 hl24 hyp => ?_)
                refine ls_retV hyp (fun hyp => ?_)
                refine ls_goto 165 f_47_148 rfl ?_
                refine ls_aload_n f_47_165 rfl ?_
                refine ls_dup f_47_166 rfl ?_
                refine ls_getI f_47_167 p_47_24 hl24 S_13 ?_
                refine ls_iconst 1 f_47_170 (by decide) ?_
                refine ls_iadd ((lm_i h24 13 4) + 1) f_47_171 rfl ?_
                refine ls_putI f_47_172 p_47_24 hl24 S_13 rfl ?_
                refine ls_iconst 1 f_47_175 (by decide) ?_
                exact ls_zreturn f_47_176 rZ_47 (by decide) hyp
              · refine ls_aload_n f_47_119 rfl ?_
                refine ls_invV (a := 13) f_47_120 q_47_55 [] [] rfl (Nat.le_of_ble_eq_true rfl) hl1 S_13 ow_34 ?_
                refine ls_call hyp hl1 (fun _ h25 hl25 hyp => ?_)
                refine ls_retI hyp (fun r26 hyp => ?_)
                exact ls_zreturn f_47_123 rZ_47 hyp.1 hyp.2
          · refine ls_iconst 0 f_47_98 (by decide) ?_
            refine ls_istore [some (.ref 13), some (.int x1), some (.int r2), some (.int 1), some (.int 0)] f_47_99 (Nat.le_of_ble_eq_true rfl) rfl ?_
            refine ls_iload_n f_47_101 rfl ?_
            refine ls_if_ne_F 110 f_47_102 rfl (by decide) ?_
            refine ls_aload_n f_47_110 rfl ?_
            refine ls_getI f_47_111 p_47_31 hl1 S_13 ?_
            refine ls_bipush 50 f_47_114 (by decide) ?_
            refine ls_icmp_lt 124 f_47_116 rfl hyp (fun _ hyp => ?_) (fun _ hyp => ?_)
            · refine ls_aload_n f_47_124 rfl ?_
              refine ls_dup f_47_125 rfl ?_
              refine ls_getI f_47_126 p_47_31 hl1 S_13 ?_
              refine ls_iconst 1 f_47_129 (by decide) ?_
              refine ls_iadd ((lm_i h1 13 6) + 1) f_47_130 rfl ?_
              refine ls_putI f_47_131 p_47_31 hl1 S_13 rfl ?_
              refine ls_iload_n f_47_134 rfl ?_
              refine ls_if_eq_F 151 f_47_135 rfl (by decide) ?_
              refine ls_aload_n f_47_138 rfl ?_
              refine ls_iconst 1 f_47_139 (by decide) ?_
              refine ls_iload_n f_47_140 rfl ?_
              refine ls_sipush 265 f_47_141 (by decide) ?_
              refine ls_isub (r2 - 265) f_47_144 rfl ?_
              refine ls_invV (a := 13) f_47_145 q_47_126 [.int 1, .int (r2 - 265)] [] rfl (Nat.le_of_ble_eq_true rfl) (lm_Lay_si hl1 _ _ _) S_13 ow_35 ?_
              refine ls_call hyp (lm_Lay_si hl1 _ _ _) (fun _ h27 hl27 hyp => ?_)
              refine ls_retV hyp (fun hyp => ?_)
              refine ls_goto 165 f_47_148 rfl ?_
              refine ls_aload_n f_47_165 rfl ?_
              refine ls_dup f_47_166 rfl ?_
              refine ls_getI f_47_167 p_47_24 hl27 S_13 ?_
              refine ls_iconst 1 f_47_170 (by decide) ?_
              refine ls_iadd ((lm_i h27 13 4) + 1) f_47_171 rfl ?_
              refine ls_putI f_47_172 p_47_24 hl27 S_13 rfl ?_
              refine ls_iconst 1 f_47_175 (by decide) ?_
              exact ls_zreturn f_47_176 rZ_47 (by decide) hyp
            · refine ls_aload_n f_47_119 rfl ?_
              refine ls_invV (a := 13) f_47_120 q_47_55 [] [] rfl (Nat.le_of_ble_eq_true rfl) hl1 S_13 ow_34 ?_
              refine ls_call hyp hl1 (fun _ h28 hl28 hyp => ?_)
              refine ls_retI hyp (fun r29 hyp => ?_)
              exact ls_zreturn f_47_123 rZ_47 hyp.1 hyp.2
  · refine ls_iload_n f_47_52 rfl ?_
    refine ls_sipush 265 f_47_53 (by decide) ?_
    refine ls_icmp_lt 70 f_47_56 rfl hyp (fun _ hyp => ?_) (fun _ hyp => ?_)
    · refine ls_iconst 0 f_47_70 (by decide) ?_
      refine ls_istore_n [some (.ref 13), some (.int x1), some (.int r2), some (.int 0), none] f_47_71 (Nat.le_of_ble_eq_true rfl) rfl ?_
      refine ls_iload_n f_47_72 rfl ?_
      refine ls_sipush 257 f_47_73 (by decide) ?_
      refine ls_icmp_ne 98 f_47_76 rfl hyp (fun _ hyp => ?_) (fun _ hyp => ?_)
      · refine ls_aload_n f_47_79 rfl ?_
        refine ls_getR f_47_80 p_47_18 hl1 S_13 F_13_2 ?_
        refine ls_aload_n f_47_83 rfl ?_
        refine ls_getI f_47_84 p_47_24 hl1 S_13 ?_
        refine ls_iald f_47_87 hl1 S_16 hyp (fun hyp => ?_)
        refine ls_sipush 1000 f_47_88 (by decide) ?_
        refine ls_icmp_gt 98 f_47_91 rfl hyp (fun _ hyp => ?_) (fun _ hyp => ?_)
        · refine ls_iconst 0 f_47_98 (by decide) ?_
          refine ls_istore [some (.ref 13), some (.int x1), some (.int r2), some (.int 0), some (.int 0)] f_47_99 (Nat.le_of_ble_eq_true rfl) rfl ?_
          refine ls_iload_n f_47_101 rfl ?_
          refine ls_if_ne_T 110 f_47_102 rfl (by decide) ?_
          refine ls_iload f_47_105 rfl ?_
          refine ls_if_eq_T 119 f_47_107 rfl (by decide) ?_
          refine ls_aload_n f_47_119 rfl ?_
          refine ls_invV (a := 13) f_47_120 q_47_55 [] [] rfl (Nat.le_of_ble_eq_true rfl) hl1 S_13 ow_34 ?_
          refine ls_call hyp hl1 (fun _ h30 hl30 hyp => ?_)
          refine ls_retI hyp (fun r31 hyp => ?_)
          exact ls_zreturn f_47_123 rZ_47 hyp.1 hyp.2
        · refine ls_iconst 1 f_47_94 (by decide) ?_
          refine ls_goto 99 f_47_95 rfl ?_
          refine ls_istore [some (.ref 13), some (.int x1), some (.int r2), some (.int 0), some (.int 1)] f_47_99 (Nat.le_of_ble_eq_true rfl) rfl ?_
          refine ls_iload_n f_47_101 rfl ?_
          refine ls_if_ne_T 110 f_47_102 rfl (by decide) ?_
          refine ls_iload f_47_105 rfl ?_
          refine ls_if_eq_F 119 f_47_107 rfl (by decide) ?_
          refine ls_aload_n f_47_110 rfl ?_
          refine ls_getI f_47_111 p_47_31 hl1 S_13 ?_
          refine ls_bipush 50 f_47_114 (by decide) ?_
          refine ls_icmp_lt 124 f_47_116 rfl hyp (fun _ hyp => ?_) (fun _ hyp => ?_)
          · refine ls_aload_n f_47_124 rfl ?_
            refine ls_dup f_47_125 rfl ?_
            refine ls_getI f_47_126 p_47_31 hl1 S_13 ?_
            refine ls_iconst 1 f_47_129 (by decide) ?_
            refine ls_iadd ((lm_i h1 13 6) + 1) f_47_130 rfl ?_
            refine ls_putI f_47_131 p_47_31 hl1 S_13 rfl ?_
            refine ls_iload_n f_47_134 rfl ?_
            refine ls_if_eq_T 151 f_47_135 rfl (by decide) ?_
            refine ls_aload_n f_47_151 rfl ?_
            refine ls_iconst 0 f_47_152 (by decide) ?_
            refine ls_aload_n f_47_153 rfl ?_
            refine ls_getR f_47_154 p_47_18 (lm_Lay_si hl1 _ _ _) S_13 F_13_2 ?_
            refine ls_aload_n f_47_157 rfl ?_
            refine ls_getI f_47_158 p_47_24 (lm_Lay_si hl1 _ _ _) S_13 ?_
            refine ls_top (lm_i h1 13 4) rfl ?_
            refine ls_iald f_47_161 (lm_Lay_si hl1 _ _ _) S_16 hyp (fun hyp => ?_)
            refine ls_top (lm_i h1 16 ((lm_i h1 13 4).toNatClampNeg)) rfl ?_
            refine ls_invV (a := 13) f_47_162 q_47_126 [.int 0, .int (lm_i h1 16 ((lm_i h1 13 4).toNatClampNeg))] [] rfl (Nat.le_of_ble_eq_true rfl) (lm_Lay_si hl1 _ _ _) S_13 ow_35 ?_
            refine ls_call hyp (lm_Lay_si hl1 _ _ _) (fun _ h32 hl32 hyp => ?_)
            refine ls_retV hyp (fun hyp => ?_)
            refine ls_aload_n f_47_165 rfl ?_
            refine ls_dup f_47_166 rfl ?_
            refine ls_getI f_47_167 p_47_24 hl32 S_13 ?_
            refine ls_iconst 1 f_47_170 (by decide) ?_
            refine ls_iadd ((lm_i h32 13 4) + 1) f_47_171 rfl ?_
            refine ls_putI f_47_172 p_47_24 hl32 S_13 rfl ?_
            refine ls_iconst 1 f_47_175 (by decide) ?_
            exact ls_zreturn f_47_176 rZ_47 (by decide) hyp
          · refine ls_aload_n f_47_119 rfl ?_
            refine ls_invV (a := 13) f_47_120 q_47_55 [] [] rfl (Nat.le_of_ble_eq_true rfl) hl1 S_13 ow_34 ?_
            refine ls_call hyp hl1 (fun _ h33 hl33 hyp => ?_)
            refine ls_retI hyp (fun r34 hyp => ?_)
            exact ls_zreturn f_47_123 rZ_47 hyp.1 hyp.2
      · refine ls_iconst 0 f_47_98 (by decide) ?_
        refine ls_istore [some (.ref 13), some (.int x1), some (.int r2), some (.int 0), some (.int 0)] f_47_99 (Nat.le_of_ble_eq_true rfl) rfl ?_
        refine ls_iload_n f_47_101 rfl ?_
        refine ls_if_ne_T 110 f_47_102 rfl (by decide) ?_
        refine ls_iload f_47_105 rfl ?_
        refine ls_if_eq_T 119 f_47_107 rfl (by decide) ?_
        refine ls_aload_n f_47_119 rfl ?_
        refine ls_invV (a := 13) f_47_120 q_47_55 [] [] rfl (Nat.le_of_ble_eq_true rfl) hl1 S_13 ow_34 ?_
        refine ls_call hyp hl1 (fun _ h35 hl35 hyp => ?_)
        refine ls_retI hyp (fun r36 hyp => ?_)
        exact ls_zreturn f_47_123 rZ_47 hyp.1 hyp.2
    · refine ls_iload_n f_47_59 rfl ?_
      refine ls_sipush 271 f_47_60 (by decide) ?_
      refine ls_icmp_gt 70 f_47_63 rfl hyp (fun _ hyp => ?_) (fun _ hyp => ?_)
      · refine ls_iconst 0 f_47_70 (by decide) ?_
        refine ls_istore_n [some (.ref 13), some (.int x1), some (.int r2), some (.int 0), none] f_47_71 (Nat.le_of_ble_eq_true rfl) rfl ?_
        refine ls_iload_n f_47_72 rfl ?_
        refine ls_sipush 257 f_47_73 (by decide) ?_
        refine ls_icmp_ne 98 f_47_76 rfl hyp (fun _ hyp => ?_) (fun _ hyp => ?_)
        · refine ls_aload_n f_47_79 rfl ?_
          refine ls_getR f_47_80 p_47_18 hl1 S_13 F_13_2 ?_
          refine ls_aload_n f_47_83 rfl ?_
          refine ls_getI f_47_84 p_47_24 hl1 S_13 ?_
          refine ls_iald f_47_87 hl1 S_16 hyp (fun hyp => ?_)
          refine ls_sipush 1000 f_47_88 (by decide) ?_
          refine ls_icmp_gt 98 f_47_91 rfl hyp (fun _ hyp => ?_) (fun _ hyp => ?_)
          · refine ls_iconst 0 f_47_98 (by decide) ?_
            refine ls_istore [some (.ref 13), some (.int x1), some (.int r2), some (.int 0), some (.int 0)] f_47_99 (Nat.le_of_ble_eq_true rfl) rfl ?_
            refine ls_iload_n f_47_101 rfl ?_
            refine ls_if_ne_T 110 f_47_102 rfl (by decide) ?_
            refine ls_iload f_47_105 rfl ?_
            refine ls_if_eq_T 119 f_47_107 rfl (by decide) ?_
            refine ls_aload_n f_47_119 rfl ?_
            refine ls_invV (a := 13) f_47_120 q_47_55 [] [] rfl (Nat.le_of_ble_eq_true rfl) hl1 S_13 ow_34 ?_
            refine ls_call hyp hl1 (fun _ h37 hl37 hyp => ?_)
            refine ls_retI hyp (fun r38 hyp => ?_)
            exact ls_zreturn f_47_123 rZ_47 hyp.1 hyp.2
          · refine ls_iconst 1 f_47_94 (by decide) ?_
            refine ls_goto 99 f_47_95 rfl ?_
            refine ls_istore [some (.ref 13), some (.int x1), some (.int r2), some (.int 0), some (.int 1)] f_47_99 (Nat.le_of_ble_eq_true rfl) rfl ?_
            refine ls_iload_n f_47_101 rfl ?_
            refine ls_if_ne_T 110 f_47_102 rfl (by decide) ?_
            refine ls_iload f_47_105 rfl ?_
            refine ls_if_eq_F 119 f_47_107 rfl (by decide) ?_
            refine ls_aload_n f_47_110 rfl ?_
            refine ls_getI f_47_111 p_47_31 hl1 S_13 ?_
            refine ls_bipush 50 f_47_114 (by decide) ?_
            refine ls_icmp_lt 124 f_47_116 rfl hyp (fun _ hyp => ?_) (fun _ hyp => ?_)
            · refine ls_aload_n f_47_124 rfl ?_
              refine ls_dup f_47_125 rfl ?_
              refine ls_getI f_47_126 p_47_31 hl1 S_13 ?_
              refine ls_iconst 1 f_47_129 (by decide) ?_
              refine ls_iadd ((lm_i h1 13 6) + 1) f_47_130 rfl ?_
              refine ls_putI f_47_131 p_47_31 hl1 S_13 rfl ?_
              refine ls_iload_n f_47_134 rfl ?_
              refine ls_if_eq_T 151 f_47_135 rfl (by decide) ?_
              refine ls_aload_n f_47_151 rfl ?_
              refine ls_iconst 0 f_47_152 (by decide) ?_
              refine ls_aload_n f_47_153 rfl ?_
              refine ls_getR f_47_154 p_47_18 (lm_Lay_si hl1 _ _ _) S_13 F_13_2 ?_
              refine ls_aload_n f_47_157 rfl ?_
              refine ls_getI f_47_158 p_47_24 (lm_Lay_si hl1 _ _ _) S_13 ?_
              refine ls_top (lm_i h1 13 4) rfl ?_
              refine ls_iald f_47_161 (lm_Lay_si hl1 _ _ _) S_16 hyp (fun hyp => ?_)
              refine ls_top (lm_i h1 16 ((lm_i h1 13 4).toNatClampNeg)) rfl ?_
              refine ls_invV (a := 13) f_47_162 q_47_126 [.int 0, .int (lm_i h1 16 ((lm_i h1 13 4).toNatClampNeg))] [] rfl (Nat.le_of_ble_eq_true rfl) (lm_Lay_si hl1 _ _ _) S_13 ow_35 ?_
              refine ls_call hyp (lm_Lay_si hl1 _ _ _) (fun _ h39 hl39 hyp => ?_)
              refine ls_retV hyp (fun hyp => ?_)
              refine ls_aload_n f_47_165 rfl ?_
              refine ls_dup f_47_166 rfl ?_
              refine ls_getI f_47_167 p_47_24 hl39 S_13 ?_
              refine ls_iconst 1 f_47_170 (by decide) ?_
              refine ls_iadd ((lm_i h39 13 4) + 1) f_47_171 rfl ?_
              refine ls_putI f_47_172 p_47_24 hl39 S_13 rfl ?_
              refine ls_iconst 1 f_47_175 (by decide) ?_
              exact ls_zreturn f_47_176 rZ_47 (by decide) hyp
            · refine ls_aload_n f_47_119 rfl ?_
              refine ls_invV (a := 13) f_47_120 q_47_55 [] [] rfl (Nat.le_of_ble_eq_true rfl) hl1 S_13 ow_34 ?_
              refine ls_call hyp hl1 (fun _ h40 hl40 hyp => ?_)
              refine ls_retI hyp (fun r41 hyp => ?_)
              exact ls_zreturn f_47_123 rZ_47 hyp.1 hyp.2
        · refine ls_iconst 0 f_47_98 (by decide) ?_
          refine ls_istore [some (.ref 13), some (.int x1), some (.int r2), some (.int 0), some (.int 0)] f_47_99 (Nat.le_of_ble_eq_true rfl) rfl ?_
          refine ls_iload_n f_47_101 rfl ?_
          refine ls_if_ne_T 110 f_47_102 rfl (by decide) ?_
          refine ls_iload f_47_105 rfl ?_
          refine ls_if_eq_T 119 f_47_107 rfl (by decide) ?_
          refine ls_aload_n f_47_119 rfl ?_
          refine ls_invV (a := 13) f_47_120 q_47_55 [] [] rfl (Nat.le_of_ble_eq_true rfl) hl1 S_13 ow_34 ?_
          refine ls_call hyp hl1 (fun _ h42 hl42 hyp => ?_)
          refine ls_retI hyp (fun r43 hyp => ?_)
          exact ls_zreturn f_47_123 rZ_47 hyp.1 hyp.2
      · refine ls_iconst 1 f_47_66 (by decide) ?_
        refine ls_goto 71 f_47_67 rfl ?_
        refine ls_istore_n [some (.ref 13), some (.int x1), some (.int r2), some (.int 1), none] f_47_71 (Nat.le_of_ble_eq_true rfl) rfl ?_
        refine ls_iload_n f_47_72 rfl ?_
        refine ls_sipush 257 f_47_73 (by decide) ?_
        refine ls_icmp_ne 98 f_47_76 rfl hyp (fun _ hyp => ?_) (fun _ hyp => ?_)
        · refine ls_aload_n f_47_79 rfl ?_
          refine ls_getR f_47_80 p_47_18 hl1 S_13 F_13_2 ?_
          refine ls_aload_n f_47_83 rfl ?_
          refine ls_getI f_47_84 p_47_24 hl1 S_13 ?_
          refine ls_iald f_47_87 hl1 S_16 hyp (fun hyp => ?_)
          refine ls_sipush 1000 f_47_88 (by decide) ?_
          refine ls_icmp_gt 98 f_47_91 rfl hyp (fun _ hyp => ?_) (fun _ hyp => ?_)
          · refine ls_iconst 0 f_47_98 (by decide) ?_
            refine ls_istore [some (.ref 13), some (.int x1), some (.int r2), some (.int 1), some (.int 0)] f_47_99 (Nat.le_of_ble_eq_true rfl) rfl ?_
            refine ls_iload_n f_47_101 rfl ?_
            refine ls_if_ne_F 110 f_47_102 rfl (by decide) ?_
            refine ls_aload_n f_47_110 rfl ?_
            refine ls_getI f_47_111 p_47_31 hl1 S_13 ?_
            refine ls_bipush 50 f_47_114 (by decide) ?_
            refine ls_icmp_lt 124 f_47_116 rfl hyp (fun _ hyp => ?_) (fun _ hyp => ?_)
            · refine ls_aload_n f_47_124 rfl ?_
              refine ls_dup f_47_125 rfl ?_
              refine ls_getI f_47_126 p_47_31 hl1 S_13 ?_
              refine ls_iconst 1 f_47_129 (by decide) ?_
              refine ls_iadd ((lm_i h1 13 6) + 1) f_47_130 rfl ?_
              refine ls_putI f_47_131 p_47_31 hl1 S_13 rfl ?_
              refine ls_iload_n f_47_134 rfl ?_
              refine ls_if_eq_F 151 f_47_135 rfl (by decide) ?_
              refine ls_aload_n f_47_138 rfl ?_
              refine ls_iconst 1 f_47_139 (by decide) ?_
              refine ls_iload_n f_47_140 rfl ?_
              refine ls_sipush 265 f_47_141 (by decide) ?_
              refine ls_isub (r2 - 265) f_47_144 rfl ?_
              refine ls_invV (a := 13) f_47_145 q_47_126 [.int 1, .int (r2 - 265)] [] rfl (Nat.le_of_ble_eq_true rfl) (lm_Lay_si hl1 _ _ _) S_13 ow_35 ?_
              refine ls_call hyp (lm_Lay_si hl1 _ _ _) (fun _ h44 hl44 hyp => ?_)
              refine ls_retV hyp (fun hyp => ?_)
              refine ls_goto 165 f_47_148 rfl ?_
              refine ls_aload_n f_47_165 rfl ?_
              refine ls_dup f_47_166 rfl ?_
              refine ls_getI f_47_167 p_47_24 hl44 S_13 ?_
              refine ls_iconst 1 f_47_170 (by decide) ?_
              refine ls_iadd ((lm_i h44 13 4) + 1) f_47_171 rfl ?_
              refine ls_putI f_47_172 p_47_24 hl44 S_13 rfl ?_
              refine ls_iconst 1 f_47_175 (by decide) ?_
              exact ls_zreturn f_47_176 rZ_47 (by decide) hyp
            · refine ls_aload_n f_47_119 rfl ?_
              refine ls_invV (a := 13) f_47_120 q_47_55 [] [] rfl (Nat.le_of_ble_eq_true rfl) hl1 S_13 ow_34 ?_
              refine ls_call hyp hl1 (fun _ h45 hl45 hyp => ?_)
              refine ls_retI hyp (fun r46 hyp => ?_)
              exact ls_zreturn f_47_123 rZ_47 hyp.1 hyp.2
          · refine ls_iconst 1 f_47_94 (by decide) ?_
            refine ls_goto 99 f_47_95 rfl ?_
            refine ls_istore [some (.ref 13), some (.int x1), some (.int r2), some (.int 1), some (.int 1)] f_47_99 (Nat.le_of_ble_eq_true rfl) rfl ?_
            refine ls_iload_n f_47_101 rfl ?_
            refine ls_if_ne_F 110 f_47_102 rfl (by decide) ?_
            refine ls_aload_n f_47_110 rfl ?_
            refine ls_getI f_47_111 p_47_31 hl1 S_13 ?_
            refine ls_bipush 50 f_47_114 (by decide) ?_
            refine ls_icmp_lt 124 f_47_116 rfl hyp (fun _ hyp => ?_) (fun _ hyp => ?_)
            · refine ls_aload_n f_47_124 rfl ?_
              refine ls_dup f_47_125 rfl ?_
              refine ls_getI f_47_126 p_47_31 hl1 S_13 ?_
              refine ls_iconst 1 f_47_129 (by decide) ?_
              refine ls_iadd ((lm_i h1 13 6) + 1) f_47_130 rfl ?_
              refine ls_putI f_47_131 p_47_31 hl1 S_13 rfl ?_
              refine ls_iload_n f_47_134 rfl ?_
              refine ls_if_eq_F 151 f_47_135 rfl (by decide) ?_
              refine ls_aload_n f_47_138 rfl ?_
              refine ls_iconst 1 f_47_139 (by decide) ?_
              refine ls_iload_n f_47_140 rfl ?_
              refine ls_sipush 265 f_47_141 (by decide) ?_
              refine ls_isub (r2 - 265) f_47_144 rfl ?_
              refine ls_invV (a := 13) f_47_145 q_47_126 [.int 1, .int (r2 - 265)] [] rfl (Nat.le_of_ble_eq_true rfl) (lm_Lay_si hl1 _ _ _) S_13 ow_35 ?_
              refine ls_call hyp (lm_Lay_si hl1 _ _ _) (fun _ h47 hl47 hyp => ?_)
              refine ls_retV hyp (fun hyp => ?_)
              refine ls_goto 165 f_47_148 rfl ?_
              refine ls_aload_n f_47_165 rfl ?_
              refine ls_dup f_47_166 rfl ?_
              refine ls_getI f_47_167 p_47_24 hl47 S_13 ?_
              refine ls_iconst 1 f_47_170 (by decide) ?_
              refine ls_iadd ((lm_i h47 13 4) + 1) f_47_171 rfl ?_
              refine ls_putI f_47_172 p_47_24 hl47 S_13 rfl ?_
              refine ls_iconst 1 f_47_175 (by decide) ?_
              exact ls_zreturn f_47_176 rZ_47 (by decide) hyp
            · refine ls_aload_n f_47_119 rfl ?_
              refine ls_invV (a := 13) f_47_120 q_47_55 [] [] rfl (Nat.le_of_ble_eq_true rfl) hl1 S_13 ow_34 ?_
              refine ls_call hyp hl1 (fun _ h48 hl48 hyp => ?_)
              refine ls_retI hyp (fun r49 hyp => ?_)
              exact ls_zreturn f_47_123 rZ_47 hyp.1 hyp.2
        · refine ls_iconst 0 f_47_98 (by decide) ?_
          refine ls_istore [some (.ref 13), some (.int x1), some (.int r2), some (.int 1), some (.int 0)] f_47_99 (Nat.le_of_ble_eq_true rfl) rfl ?_
          refine ls_iload_n f_47_101 rfl ?_
          refine ls_if_ne_F 110 f_47_102 rfl (by decide) ?_
          refine ls_aload_n f_47_110 rfl ?_
          refine ls_getI f_47_111 p_47_31 hl1 S_13 ?_
          refine ls_bipush 50 f_47_114 (by decide) ?_
          refine ls_icmp_lt 124 f_47_116 rfl hyp (fun _ hyp => ?_) (fun _ hyp => ?_)
          · refine ls_aload_n f_47_124 rfl ?_
            refine ls_dup f_47_125 rfl ?_
            refine ls_getI f_47_126 p_47_31 hl1 S_13 ?_
            refine ls_iconst 1 f_47_129 (by decide) ?_
            refine ls_iadd ((lm_i h1 13 6) + 1) f_47_130 rfl ?_
            refine ls_putI f_47_131 p_47_31 hl1 S_13 rfl ?_
            refine ls_iload_n f_47_134 rfl ?_
            refine ls_if_eq_F 151 f_47_135 rfl (by decide) ?_
            refine ls_aload_n f_47_138 rfl ?_
            refine ls_iconst 1 f_47_139 (by decide) ?_
            refine ls_iload_n f_47_140 rfl ?_
            refine ls_sipush 265 f_47_141 (by decide) ?_
            refine ls_isub (r2 - 265) f_47_144 rfl ?_
            refine ls_invV (a := 13) f_47_145 q_47_126 [.int 1, .int (r2 - 265)] [] rfl (Nat.le_of_ble_eq_true rfl) (lm_Lay_si hl1 _ _ _) S_13 ow_35 ?_
            refine ls_call hyp (lm_Lay_si hl1 _ _ _) (fun _ h50 hl50 hyp => ?_)
            refine ls_retV hyp (fun hyp => ?_)
            refine ls_goto 165 f_47_148 rfl ?_
            refine ls_aload_n f_47_165 rfl ?_
            refine ls_dup f_47_166 rfl ?_
            refine ls_getI f_47_167 p_47_24 hl50 S_13 ?_
            refine ls_iconst 1 f_47_170 (by decide) ?_
            refine ls_iadd ((lm_i h50 13 4) + 1) f_47_171 rfl ?_
            refine ls_putI f_47_172 p_47_24 hl50 S_13 rfl ?_
            refine ls_iconst 1 f_47_175 (by decide) ?_
            exact ls_zreturn f_47_176 rZ_47 (by decide) hyp
          · refine ls_aload_n f_47_119 rfl ?_
            refine ls_invV (a := 13) f_47_120 q_47_55 [] [] rfl (Nat.le_of_ble_eq_true rfl) hl1 S_13 ow_34 ?_
            refine ls_call hyp hl1 (fun _ h51 hl51 hyp => ?_)
            refine ls_retI hyp (fun r52 hyp => ?_)
            exact ls_zreturn f_47_123 rZ_47 hyp.1 hyp.2
theorem e_49 {d : Nat} {h : lm_H} {K : Int32 → lm_H → Prop} (x1 : Int32) (hl : lm_Lay h) (hyp : (if x1 < 0 then (K 0 h) else (if x1 < (lm_i h 1 0) then (K 1 h) else (K 0 h)))) : lm_call (d + 1) 49 [.ref 1, .int x1] h (lm_kI K) := by
  refine ls_enter [some (.ref 1), some (.int x1)] ml_49 (Nat.le_of_ble_eq_true rfl) rfl ?_
  refine ls_iload_n f_49_0 rfl ?_
  refine ls_if_lt 16 f_49_1 rfl hyp (fun _ hyp => ?_) (fun _ hyp => ?_)
  · refine ls_iconst 0 f_49_16 (by decide) ?_
    exact ls_zreturn f_49_17 rZ_49 (by decide) hyp
  · refine ls_iload_n f_49_4 rfl ?_
    refine ls_aload_n f_49_5 rfl ?_
    refine ls_getI f_49_6 p_49_9 hl S_1 ?_
    refine ls_icmp_ge 16 f_49_9 rfl hyp (fun _ hyp => ?_) (fun _ hyp => ?_)
    · refine ls_iconst 1 f_49_12 (by decide) ?_
      refine ls_goto 17 f_49_13 rfl ?_
      exact ls_zreturn f_49_17 rZ_49 (by decide) hyp
    · refine ls_iconst 0 f_49_16 (by decide) ?_
      exact ls_zreturn f_49_17 rZ_49 (by decide) hyp
theorem e_50 {d : Nat} {h : lm_H} {K : Int32 → lm_H → Prop} (x1 : Int32) (hl : lm_Lay h) (hyp : (if x1 < 0 then (K 0 h) else (if x1 < (lm_i h 1 1) then (K 1 h) else (K 0 h)))) : lm_call (d + 1) 50 [.ref 1, .int x1] h (lm_kI K) := by
  refine ls_enter [some (.ref 1), some (.int x1)] ml_50 (Nat.le_of_ble_eq_true rfl) rfl ?_
  refine ls_iload_n f_50_0 rfl ?_
  refine ls_if_lt 16 f_50_1 rfl hyp (fun _ hyp => ?_) (fun _ hyp => ?_)
  · refine ls_iconst 0 f_50_16 (by decide) ?_
    exact ls_zreturn f_50_17 rZ_50 (by decide) hyp
  · refine ls_iload_n f_50_4 rfl ?_
    refine ls_aload_n f_50_5 rfl ?_
    refine ls_getI f_50_6 p_50_15 hl S_1 ?_
    refine ls_icmp_ge 16 f_50_9 rfl hyp (fun _ hyp => ?_) (fun _ hyp => ?_)
    · refine ls_iconst 1 f_50_12 (by decide) ?_
      refine ls_goto 17 f_50_13 rfl ?_
      exact ls_zreturn f_50_17 rZ_50 (by decide) hyp
    · refine ls_iconst 0 f_50_16 (by decide) ?_
      exact ls_zreturn f_50_17 rZ_50 (by decide) hyp
theorem e_51 {d : Nat} {h : lm_H} {K : Int32 → lm_H → Prop} (x1 : Int32) (x2 : Int32) (hl : lm_Lay h) (hyp : (if x1 < 0 then (K 0 h) else (if x1 < (lm_i h 1 0) then (if x2 < 0 then (K 0 h) else (if x2 < (lm_i h 1 1) then (K 1 h) else (K 0 h))) else (K 0 h)))) : lm_call (d + 2) 51 [.ref 1, .int x1, .int x2] h (lm_kI K) := by
  refine ls_enter [some (.ref 1), some (.int x1), some (.int x2)] ml_51 (Nat.le_of_ble_eq_true rfl) rfl ?_
  refine ls_aload_n f_51_0 rfl ?_
  refine ls_iload_n f_51_1 rfl ?_
  refine ls_invV (a := 1) f_51_2 q_51_55 [.int x1] [] rfl (Nat.le_of_ble_eq_true rfl) hl S_1 ow_49 ?_
  refine ls_enter [some (.ref 1), some (.int x1)] ml_49 (Nat.le_of_ble_eq_true rfl) rfl ?_
  refine ls_iload_n f_49_0 rfl ?_
  refine ls_if_lt 16 f_49_1 rfl hyp (fun _ hyp => ?_) (fun _ hyp => ?_)
  · refine ls_iconst 0 f_49_16 (by decide) ?_
    refine ls_zreturn f_49_17 rZ_49 (by decide) ?_
    show lm_W _ _ _ _ [.int 0] _ _
    refine ls_if_eq_T 20 f_51_5 rfl (by decide) ?_
    refine ls_iconst 0 f_51_20 (by decide) ?_
    exact ls_zreturn f_51_21 rZ_51 (by decide) hyp
  · refine ls_iload_n f_49_4 rfl ?_
    refine ls_aload_n f_49_5 rfl ?_
    refine ls_getI f_49_6 p_49_9 hl S_1 ?_
    refine ls_icmp_ge 16 f_49_9 rfl hyp (fun _ hyp => ?_) (fun _ hyp => ?_)
    · refine ls_iconst 1 f_49_12 (by decide) ?_
      refine ls_goto 17 f_49_13 rfl ?_
      refine ls_zreturn f_49_17 rZ_49 (by decide) ?_
      show lm_W _ _ _ _ [.int 1] _ _
      refine ls_if_eq_F 20 f_51_5 rfl (by decide) ?_
      refine ls_aload_n f_51_8 rfl ?_
      refine ls_iload_n f_51_9 rfl ?_
      refine ls_invV (a := 1) f_51_10 q_51_59 [.int x2] [] rfl (Nat.le_of_ble_eq_true rfl) hl S_1 ow_50 ?_
      refine ls_enter [some (.ref 1), some (.int x2)] ml_50 (Nat.le_of_ble_eq_true rfl) rfl ?_
      refine ls_iload_n f_50_0 rfl ?_
      refine ls_if_lt 16 f_50_1 rfl hyp (fun _ hyp => ?_) (fun _ hyp => ?_)
      · refine ls_iconst 0 f_50_16 (by decide) ?_
        refine ls_zreturn f_50_17 rZ_50 (by decide) ?_
        show lm_W _ _ _ _ [.int 0] _ _
        refine ls_if_eq_T 20 f_51_13 rfl (by decide) ?_
        refine ls_iconst 0 f_51_20 (by decide) ?_
        exact ls_zreturn f_51_21 rZ_51 (by decide) hyp
      · refine ls_iload_n f_50_4 rfl ?_
        refine ls_aload_n f_50_5 rfl ?_
        refine ls_getI f_50_6 p_50_15 hl S_1 ?_
        refine ls_icmp_ge 16 f_50_9 rfl hyp (fun _ hyp => ?_) (fun _ hyp => ?_)
        · refine ls_iconst 1 f_50_12 (by decide) ?_
          refine ls_goto 17 f_50_13 rfl ?_
          refine ls_zreturn f_50_17 rZ_50 (by decide) ?_
          show lm_W _ _ _ _ [.int 1] _ _
          refine ls_if_eq_F 20 f_51_13 rfl (by decide) ?_
          refine ls_iconst 1 f_51_16 (by decide) ?_
          refine ls_goto 21 f_51_17 rfl ?_
          exact ls_zreturn f_51_21 rZ_51 (by decide) hyp
        · refine ls_iconst 0 f_50_16 (by decide) ?_
          refine ls_zreturn f_50_17 rZ_50 (by decide) ?_
          show lm_W _ _ _ _ [.int 0] _ _
          refine ls_if_eq_T 20 f_51_13 rfl (by decide) ?_
          refine ls_iconst 0 f_51_20 (by decide) ?_
          exact ls_zreturn f_51_21 rZ_51 (by decide) hyp
    · refine ls_iconst 0 f_49_16 (by decide) ?_
      refine ls_zreturn f_49_17 rZ_49 (by decide) ?_
      show lm_W _ _ _ _ [.int 0] _ _
      refine ls_if_eq_T 20 f_51_5 rfl (by decide) ?_
      refine ls_iconst 0 f_51_20 (by decide) ?_
      exact ls_zreturn f_51_21 rZ_51 (by decide) hyp
theorem e_52 {d : Nat} {h : lm_H} {K : Int32 → lm_H → Prop} (x1 : Int32) (hl : lm_Lay h) (hyp : lm_W (d + 1) 52 4 [some (.ref 1), some (.int x1), some (.int 0), some (.int 0)] [] h (lm_kI K)) : lm_call (d + 2) 52 [.ref 1, .int x1] h (lm_kI K) := by
  refine ls_enter [some (.ref 1), some (.int x1), none, none] ml_52 (Nat.le_of_ble_eq_true rfl) rfl ?_
  refine ls_iconst 0 f_52_0 (by decide) ?_
  refine ls_istore_n [some (.ref 1), some (.int x1), some (.int 0), none] f_52_1 (Nat.le_of_ble_eq_true rfl) rfl ?_
  refine ls_iconst 0 f_52_2 (by decide) ?_
  refine ls_istore_n [some (.ref 1), some (.int x1), some (.int 0), some (.int 0)] f_52_3 (Nat.le_of_ble_eq_true rfl) rfl ?_
  exact hyp
theorem b_52_4 {d : Nat} {h : lm_H} {K : Int32 → lm_H → Prop} (x1 : Int32) (x2 : Int32) (x3 : Int32) (hl : lm_Lay h) (hyp : (if x3 < (lm_i h 1 1) then (lm_in ((x1 * 6) + x3) 30 False (lm_W (d + 1) 52 4 [some (.ref 1), some (.int x1), some (.int (x2 + (lm_i h 6 (((x1 * 6) + x3).toNatClampNeg)))), some (.int (x3 + 1))] [] h (lm_kI K))) else (K x2 h))) : lm_W (d + 1) 52 4 [some (.ref 1), some (.int x1), some (.int x2), some (.int x3)] [] h (lm_kI K) := by
  refine ls_iload_n f_52_4 rfl ?_
  refine ls_aload_n f_52_5 rfl ?_
  refine ls_getI f_52_6 p_52_15 hl S_1 ?_
  refine ls_icmp_ge 31 f_52_9 rfl hyp (fun _ hyp => ?_) (fun _ hyp => ?_)
  · refine ls_iload_n f_52_12 rfl ?_
    refine ls_aload_n f_52_13 rfl ?_
    refine ls_getR f_52_14 p_52_43 hl S_1 F_1_10 ?_
    refine ls_iload_n f_52_17 rfl ?_
    refine ls_iload_n f_52_18 rfl ?_
    refine ls_invS f_52_19 q_52_62 [.int x1, .int x3] [.ref 6, .int x2] rfl (Nat.le_of_ble_eq_true rfl) ?_
    refine ls_enter [some (.int x1), some (.int x3)] ml_147 (Nat.le_of_ble_eq_true rfl) rfl ?_
    refine ls_iload_n f_147_0 rfl ?_
    refine ls_bipush 6 f_147_1 (by decide) ?_
    refine ls_imul (x1 * 6) f_147_3 rfl ?_
    refine ls_iload_n f_147_4 rfl ?_
    refine ls_iadd ((x1 * 6) + x3) f_147_5 rfl ?_
    refine ls_ireturn f_147_6 rI_147 ?_
    show lm_W _ _ _ _ [.int ((x1 * 6) + x3), .ref 6, .int x2] _ _
    refine ls_iald f_52_22 hl S_6 hyp (fun hyp => ?_)
    refine ls_iadd (x2 + (lm_i h 6 (((x1 * 6) + x3).toNatClampNeg))) f_52_23 rfl ?_
    refine ls_istore_n [some (.ref 1), some (.int x1), some (.int (x2 + (lm_i h 6 (((x1 * 6) + x3).toNatClampNeg)))), some (.int x3)] f_52_24 (Nat.le_of_ble_eq_true rfl) rfl ?_
    refine ls_iinc (x3 + 1) [some (.ref 1), some (.int x1), some (.int (x2 + (lm_i h 6 (((x1 * 6) + x3).toNatClampNeg)))), some (.int (x3 + 1))] f_52_25 rfl (Nat.le_of_ble_eq_true rfl) rfl rfl ?_
    refine ls_goto 4 f_52_28 rfl ?_
    exact hyp
  · refine ls_iload_n f_52_31 rfl ?_
    exact ls_ireturn f_52_32 rI_52 hyp
theorem e_530 {d : Nat} {h : lm_H} {K : lm_H → Prop} (hl : lm_Lay h) (hyp : lm_W (d) 53 137 [some (.ref 76), some (.ref 1), some (.int 0)] [] (lm_row (lm_row (lm_row (lm_row (lm_row (lm_row (lm_si (lm_si (lm_si (lm_si (lm_si (lm_si h 76 0 (lm_i h 1 0)) 76 1 (lm_i h 1 1)) 76 2 (lm_i h 1 2)) 76 3 (lm_i h 1 3)) 76 4 (lm_i h 1 4)) 76 5 (lm_i h 1 5)) 77 (va_cpy (h.2.1 2) (h.2.1 77) 0 0 5)) 78 (va_cpy (h.2.1 3) (h.2.1 78) 0 0 6)) 79 (va_cpy (h.2.1 4) (h.2.1 79) 0 0 30)) 80 (va_cpy (h.2.1 5) (h.2.1 80) 0 0 5)) 81 (va_cpy (h.2.1 6) (h.2.1 81) 0 0 30)) 82 (va_cpy (h.2.1 7) (h.2.1 82) 0 0 5)) (lm_kV K)) : lm_call (d + 1) 53 [.ref 76, .ref 1] h (lm_kV K) := by
  refine ls_enter [some (.ref 76), some (.ref 1), none] ml_53 (Nat.le_of_ble_eq_true rfl) rfl ?_
  refine ls_aload_n f_53_0 rfl ?_
  refine ls_aload_n f_53_1 rfl ?_
  refine ls_getI f_53_2 p_53_9 hl S_1 ?_
  refine ls_putI f_53_5 p_53_9 hl S_76 rfl ?_
  refine ls_aload_n f_53_8 rfl ?_
  refine ls_aload_n f_53_9 rfl ?_
  refine ls_getI f_53_10 p_53_15 (lm_Lay_si hl _ _ _) S_1 ?_
  refine ls_top (lm_i h 1 1) rfl ?_
  refine ls_putI f_53_13 p_53_15 (lm_Lay_si hl _ _ _) S_76 rfl ?_
  refine ls_aload_n f_53_16 rfl ?_
  refine ls_aload_n f_53_17 rfl ?_
  refine ls_getI f_53_18 p_53_18 (lm_Lay_si (lm_Lay_si hl _ _ _) _ _ _) S_1 ?_
  refine ls_top (lm_i h 1 2) rfl ?_
  refine ls_putI f_53_21 p_53_18 (lm_Lay_si (lm_Lay_si hl _ _ _) _ _ _) S_76 rfl ?_
  refine ls_aload_n f_53_24 rfl ?_
  refine ls_aload_n f_53_25 rfl ?_
  refine ls_getI f_53_26 p_53_21 (lm_Lay_si (lm_Lay_si (lm_Lay_si hl _ _ _) _ _ _) _ _ _) S_1 ?_
  refine ls_top (lm_i h 1 3) rfl ?_
  refine ls_putI f_53_29 p_53_21 (lm_Lay_si (lm_Lay_si (lm_Lay_si hl _ _ _) _ _ _) _ _ _) S_76 rfl ?_
  refine ls_aload_n f_53_32 rfl ?_
  refine ls_aload_n f_53_33 rfl ?_
  refine ls_getI f_53_34 p_53_24 (lm_Lay_si (lm_Lay_si (lm_Lay_si (lm_Lay_si hl _ _ _) _ _ _) _ _ _) _ _ _) S_1 ?_
  refine ls_top (lm_i h 1 4) rfl ?_
  refine ls_putI f_53_37 p_53_24 (lm_Lay_si (lm_Lay_si (lm_Lay_si (lm_Lay_si hl _ _ _) _ _ _) _ _ _) _ _ _) S_76 rfl ?_
  refine ls_aload_n f_53_40 rfl ?_
  refine ls_aload_n f_53_41 rfl ?_
  refine ls_getI f_53_42 p_53_27 (lm_Lay_si (lm_Lay_si (lm_Lay_si (lm_Lay_si (lm_Lay_si hl _ _ _) _ _ _) _ _ _) _ _ _) _ _ _) S_1 ?_
  refine ls_top (lm_i h 1 5) rfl ?_
  refine ls_putI f_53_45 p_53_27 (lm_Lay_si (lm_Lay_si (lm_Lay_si (lm_Lay_si (lm_Lay_si hl _ _ _) _ _ _) _ _ _) _ _ _) _ _ _) S_76 rfl ?_
  refine ls_aload_n f_53_48 rfl ?_
  refine ls_getR f_53_49 p_53_30 (lm_Lay_si (lm_Lay_si (lm_Lay_si (lm_Lay_si (lm_Lay_si (lm_Lay_si hl _ _ _) _ _ _) _ _ _) _ _ _) _ _ _) _ _ _) S_1 F_1_6 ?_
  refine ls_iconst 0 f_53_52 (by decide) ?_
  refine ls_aload_n f_53_53 rfl ?_
  refine ls_getR f_53_54 p_53_30 (lm_Lay_si (lm_Lay_si (lm_Lay_si (lm_Lay_si (lm_Lay_si (lm_Lay_si hl _ _ _) _ _ _) _ _ _) _ _ _) _ _ _) _ _ _) S_76 F_76_6 ?_
  refine ls_iconst 0 f_53_57 (by decide) ?_
  refine ls_iconst 5 f_53_58 (by decide) ?_
  refine ls_cpy f_53_59 q_53_66 (lm_Lay_si (lm_Lay_si (lm_Lay_si (lm_Lay_si (lm_Lay_si (lm_Lay_si hl _ _ _) _ _ _) _ _ _) _ _ _) _ _ _) _ _ _) S_2 S_77 ⟨by decide, Nat.le_of_ble_eq_true rfl⟩ ?_
  refine ls_heap (lm_row (lm_si (lm_si (lm_si (lm_si (lm_si (lm_si h 76 0 (lm_i h 1 0)) 76 1 (lm_i h 1 1)) 76 2 (lm_i h 1 2)) 76 3 (lm_i h 1 3)) 76 4 (lm_i h 1 4)) 76 5 (lm_i h 1 5)) 77 (va_cpy (h.2.1 2) (h.2.1 77) 0 0 5)) rfl ?_
  refine ls_aload_n f_53_62 rfl ?_
  refine ls_getR f_53_63 p_53_34 (lm_Lay_row (lm_Lay_si (lm_Lay_si (lm_Lay_si (lm_Lay_si (lm_Lay_si (lm_Lay_si hl _ _ _) _ _ _) _ _ _) _ _ _) _ _ _) _ _ _) _ _) S_1 F_1_7 ?_
  refine ls_iconst 0 f_53_66 (by decide) ?_
  refine ls_aload_n f_53_67 rfl ?_
  refine ls_getR f_53_68 p_53_34 (lm_Lay_row (lm_Lay_si (lm_Lay_si (lm_Lay_si (lm_Lay_si (lm_Lay_si (lm_Lay_si hl _ _ _) _ _ _) _ _ _) _ _ _) _ _ _) _ _ _) _ _) S_76 F_76_7 ?_
  refine ls_iconst 0 f_53_71 (by decide) ?_
  refine ls_bipush 6 f_53_72 (by decide) ?_
  refine ls_cpy f_53_74 q_53_66 (lm_Lay_row (lm_Lay_si (lm_Lay_si (lm_Lay_si (lm_Lay_si (lm_Lay_si (lm_Lay_si hl _ _ _) _ _ _) _ _ _) _ _ _) _ _ _) _ _ _) _ _) S_3 S_78 ⟨by decide, Nat.le_of_ble_eq_true rfl⟩ ?_
  refine ls_heap (lm_row (lm_row (lm_si (lm_si (lm_si (lm_si (lm_si (lm_si h 76 0 (lm_i h 1 0)) 76 1 (lm_i h 1 1)) 76 2 (lm_i h 1 2)) 76 3 (lm_i h 1 3)) 76 4 (lm_i h 1 4)) 76 5 (lm_i h 1 5)) 77 (va_cpy (h.2.1 2) (h.2.1 77) 0 0 5)) 78 (va_cpy (h.2.1 3) (h.2.1 78) 0 0 6)) rfl ?_
  refine ls_aload_n f_53_77 rfl ?_
  refine ls_getR f_53_78 p_53_37 (lm_Lay_row (lm_Lay_row (lm_Lay_si (lm_Lay_si (lm_Lay_si (lm_Lay_si (lm_Lay_si (lm_Lay_si hl _ _ _) _ _ _) _ _ _) _ _ _) _ _ _) _ _ _) _ _) _ _) S_1 F_1_8 ?_
  refine ls_iconst 0 f_53_81 (by decide) ?_
  refine ls_aload_n f_53_82 rfl ?_
  refine ls_getR f_53_83 p_53_37 (lm_Lay_row (lm_Lay_row (lm_Lay_si (lm_Lay_si (lm_Lay_si (lm_Lay_si (lm_Lay_si (lm_Lay_si hl _ _ _) _ _ _) _ _ _) _ _ _) _ _ _) _ _ _) _ _) _ _) S_76 F_76_8 ?_
  refine ls_iconst 0 f_53_86 (by decide) ?_
  refine ls_bipush 30 f_53_87 (by decide) ?_
  refine ls_cpy f_53_89 q_53_66 (lm_Lay_row (lm_Lay_row (lm_Lay_si (lm_Lay_si (lm_Lay_si (lm_Lay_si (lm_Lay_si (lm_Lay_si hl _ _ _) _ _ _) _ _ _) _ _ _) _ _ _) _ _ _) _ _) _ _) S_4 S_79 ⟨by decide, Nat.le_of_ble_eq_true rfl⟩ ?_
  refine ls_heap (lm_row (lm_row (lm_row (lm_si (lm_si (lm_si (lm_si (lm_si (lm_si h 76 0 (lm_i h 1 0)) 76 1 (lm_i h 1 1)) 76 2 (lm_i h 1 2)) 76 3 (lm_i h 1 3)) 76 4 (lm_i h 1 4)) 76 5 (lm_i h 1 5)) 77 (va_cpy (h.2.1 2) (h.2.1 77) 0 0 5)) 78 (va_cpy (h.2.1 3) (h.2.1 78) 0 0 6)) 79 (va_cpy (h.2.1 4) (h.2.1 79) 0 0 30)) rfl ?_
  refine ls_aload_n f_53_92 rfl ?_
  refine ls_getR f_53_93 p_53_40 (lm_Lay_row (lm_Lay_row (lm_Lay_row (lm_Lay_si (lm_Lay_si (lm_Lay_si (lm_Lay_si (lm_Lay_si (lm_Lay_si hl _ _ _) _ _ _) _ _ _) _ _ _) _ _ _) _ _ _) _ _) _ _) _ _) S_1 F_1_9 ?_
  refine ls_iconst 0 f_53_96 (by decide) ?_
  refine ls_aload_n f_53_97 rfl ?_
  refine ls_getR f_53_98 p_53_40 (lm_Lay_row (lm_Lay_row (lm_Lay_row (lm_Lay_si (lm_Lay_si (lm_Lay_si (lm_Lay_si (lm_Lay_si (lm_Lay_si hl _ _ _) _ _ _) _ _ _) _ _ _) _ _ _) _ _ _) _ _) _ _) _ _) S_76 F_76_9 ?_
  refine ls_iconst 0 f_53_101 (by decide) ?_
  refine ls_iconst 5 f_53_102 (by decide) ?_
  refine ls_cpy f_53_103 q_53_66 (lm_Lay_row (lm_Lay_row (lm_Lay_row (lm_Lay_si (lm_Lay_si (lm_Lay_si (lm_Lay_si (lm_Lay_si (lm_Lay_si hl _ _ _) _ _ _) _ _ _) _ _ _) _ _ _) _ _ _) _ _) _ _) _ _) S_5 S_80 ⟨by decide, Nat.le_of_ble_eq_true rfl⟩ ?_
  refine ls_heap (lm_row (lm_row (lm_row (lm_row (lm_si (lm_si (lm_si (lm_si (lm_si (lm_si h 76 0 (lm_i h 1 0)) 76 1 (lm_i h 1 1)) 76 2 (lm_i h 1 2)) 76 3 (lm_i h 1 3)) 76 4 (lm_i h 1 4)) 76 5 (lm_i h 1 5)) 77 (va_cpy (h.2.1 2) (h.2.1 77) 0 0 5)) 78 (va_cpy (h.2.1 3) (h.2.1 78) 0 0 6)) 79 (va_cpy (h.2.1 4) (h.2.1 79) 0 0 30)) 80 (va_cpy (h.2.1 5) (h.2.1 80) 0 0 5)) rfl ?_
  refine ls_aload_n f_53_106 rfl ?_
  refine ls_getR f_53_107 p_53_43 (lm_Lay_row (lm_Lay_row (lm_Lay_row (lm_Lay_row (lm_Lay_si (lm_Lay_si (lm_Lay_si (lm_Lay_si (lm_Lay_si (lm_Lay_si hl _ _ _) _ _ _) _ _ _) _ _ _) _ _ _) _ _ _) _ _) _ _) _ _) _ _) S_1 F_1_10 ?_
  refine ls_iconst 0 f_53_110 (by decide) ?_
  refine ls_aload_n f_53_111 rfl ?_
  refine ls_getR f_53_112 p_53_43 (lm_Lay_row (lm_Lay_row (lm_Lay_row (lm_Lay_row (lm_Lay_si (lm_Lay_si (lm_Lay_si (lm_Lay_si (lm_Lay_si (lm_Lay_si hl _ _ _) _ _ _) _ _ _) _ _ _) _ _ _) _ _ _) _ _) _ _) _ _) _ _) S_76 F_76_10 ?_
  refine ls_iconst 0 f_53_115 (by decide) ?_
  refine ls_bipush 30 f_53_116 (by decide) ?_
  refine ls_cpy f_53_118 q_53_66 (lm_Lay_row (lm_Lay_row (lm_Lay_row (lm_Lay_row (lm_Lay_si (lm_Lay_si (lm_Lay_si (lm_Lay_si (lm_Lay_si (lm_Lay_si hl _ _ _) _ _ _) _ _ _) _ _ _) _ _ _) _ _ _) _ _) _ _) _ _) _ _) S_6 S_81 ⟨by decide, Nat.le_of_ble_eq_true rfl⟩ ?_
  refine ls_heap (lm_row (lm_row (lm_row (lm_row (lm_row (lm_si (lm_si (lm_si (lm_si (lm_si (lm_si h 76 0 (lm_i h 1 0)) 76 1 (lm_i h 1 1)) 76 2 (lm_i h 1 2)) 76 3 (lm_i h 1 3)) 76 4 (lm_i h 1 4)) 76 5 (lm_i h 1 5)) 77 (va_cpy (h.2.1 2) (h.2.1 77) 0 0 5)) 78 (va_cpy (h.2.1 3) (h.2.1 78) 0 0 6)) 79 (va_cpy (h.2.1 4) (h.2.1 79) 0 0 30)) 80 (va_cpy (h.2.1 5) (h.2.1 80) 0 0 5)) 81 (va_cpy (h.2.1 6) (h.2.1 81) 0 0 30)) rfl ?_
  refine ls_aload_n f_53_121 rfl ?_
  refine ls_getR f_53_122 p_53_46 (lm_Lay_row (lm_Lay_row (lm_Lay_row (lm_Lay_row (lm_Lay_row (lm_Lay_si (lm_Lay_si (lm_Lay_si (lm_Lay_si (lm_Lay_si (lm_Lay_si hl _ _ _) _ _ _) _ _ _) _ _ _) _ _ _) _ _ _) _ _) _ _) _ _) _ _) _ _) S_1 F_1_11 ?_
  refine ls_iconst 0 f_53_125 (by decide) ?_
  refine ls_aload_n f_53_126 rfl ?_
  refine ls_getR f_53_127 p_53_46 (lm_Lay_row (lm_Lay_row (lm_Lay_row (lm_Lay_row (lm_Lay_row (lm_Lay_si (lm_Lay_si (lm_Lay_si (lm_Lay_si (lm_Lay_si (lm_Lay_si hl _ _ _) _ _ _) _ _ _) _ _ _) _ _ _) _ _ _) _ _) _ _) _ _) _ _) _ _) S_76 F_76_11 ?_
  refine ls_iconst 0 f_53_130 (by decide) ?_
  refine ls_iconst 5 f_53_131 (by decide) ?_
  refine ls_cpy f_53_132 q_53_66 (lm_Lay_row (lm_Lay_row (lm_Lay_row (lm_Lay_row (lm_Lay_row (lm_Lay_si (lm_Lay_si (lm_Lay_si (lm_Lay_si (lm_Lay_si (lm_Lay_si hl _ _ _) _ _ _) _ _ _) _ _ _) _ _ _) _ _ _) _ _) _ _) _ _) _ _) _ _) S_7 S_82 ⟨by decide, Nat.le_of_ble_eq_true rfl⟩ ?_
  refine ls_heap (lm_row (lm_row (lm_row (lm_row (lm_row (lm_row (lm_si (lm_si (lm_si (lm_si (lm_si (lm_si h 76 0 (lm_i h 1 0)) 76 1 (lm_i h 1 1)) 76 2 (lm_i h 1 2)) 76 3 (lm_i h 1 3)) 76 4 (lm_i h 1 4)) 76 5 (lm_i h 1 5)) 77 (va_cpy (h.2.1 2) (h.2.1 77) 0 0 5)) 78 (va_cpy (h.2.1 3) (h.2.1 78) 0 0 6)) 79 (va_cpy (h.2.1 4) (h.2.1 79) 0 0 30)) 80 (va_cpy (h.2.1 5) (h.2.1 80) 0 0 5)) 81 (va_cpy (h.2.1 6) (h.2.1 81) 0 0 30)) 82 (va_cpy (h.2.1 7) (h.2.1 82) 0 0 5)) rfl ?_
  refine ls_iconst 0 f_53_135 (by decide) ?_
  refine ls_istore_n [some (.ref 76), some (.ref 1), some (.int 0)] f_53_136 (Nat.le_of_ble_eq_true rfl) rfl ?_
  exact hyp
