theorem b_92_20 {d : Nat} {h : lm_H} {K : Int32 → lm_H → Prop} (x2 : Int32) (x3 : Int32) (hl : lm_Lay h) (hyp : (if x3 < (lm_i h 59 1) then (lm_in ((x2 * 7) + x3) 35 False (if (lm_i h 61 (((x2 * 7) + x3).toNatClampNeg)) = 0 then (lm_call (d + 1) 67 [.ref 59, .ref 70, .int x3] h (lm_kI fun r2 h1 => (if r2 = 0 then (K x3 h1) else (lm_W (d + 1) 92 20 [some (.ref 58), some (.ref 1), some (.int x2), some (.int (x3 + 1))] [] h1 (lm_kI K))))) else (lm_W (d + 1) 92 20 [some (.ref 58), some (.ref 1), some (.int x2), some (.int (x3 + 1))] [] h (lm_kI K)))) else (lm_in x2 5 False (K (lm_i h 5 x2.toNatClampNeg) h)))) : lm_W (d + 1) 92 20 [some (.ref 58), some (.ref 1), some (.int x2), some (.int x3)] [] h (lm_kI K) := by
  refine ls_iload_n f_92_20 rfl ?_
  refine ls_aload_n f_92_21 rfl ?_
  refine ls_getR f_92_22 p_92_12 hl S_58 F_58_0 ?_
  refine ls_getI f_92_25 p_92_114 hl S_59 ?_
  refine ls_icmp_ge 70 f_92_28 rfl hyp (fun _ hyp => ?_) (fun _ hyp => ?_)
  · refine ls_aload_n f_92_31 rfl ?_
    refine ls_getR f_92_32 p_92_12 hl S_58 F_58_0 ?_
    refine ls_getR f_92_35 p_92_132 hl S_59 F_59_5 ?_
    refine ls_iload_n f_92_38 rfl ?_
    refine ls_iload_n f_92_39 rfl ?_
    refine ls_invS f_92_40 q_92_126 [.int x2, .int x3] [.ref 61] rfl (Nat.le_of_ble_eq_true rfl) ?_
    refine ls_enter [some (.int x2), some (.int x3)] ml_148 (Nat.le_of_ble_eq_true rfl) rfl ?_
    refine ls_iload_n f_148_0 rfl ?_
    refine ls_bipush 7 f_148_1 (by decide) ?_
    refine ls_imul (x2 * 7) f_148_3 rfl ?_
    refine ls_iload_n f_148_4 rfl ?_
    refine ls_iadd ((x2 * 7) + x3) f_148_5 rfl ?_
    refine ls_ireturn f_148_6 rI_148 ?_
    show lm_W _ _ _ _ [.int ((x2 * 7) + x3), .ref 61] _ _
    refine ls_zald f_92_43 hl S_61 hyp (fun hyp => ?_)
    refine ls_if_ne 64 f_92_44 rfl hyp (fun _ hyp => ?_) (fun _ hyp => ?_)
    · refine ls_aload_n f_92_47 rfl ?_
      refine ls_getR f_92_48 p_92_12 hl S_58 F_58_0 ?_
      refine ls_aload_n f_92_51 rfl ?_
      refine ls_getR f_92_52 p_92_47 hl S_58 F_58_10 ?_
      refine ls_iload_n f_92_55 rfl ?_
      refine ls_invV (a := 59) f_92_56 q_92_136 [.ref 70, .int x3] [] rfl (Nat.le_of_ble_eq_true rfl) hl S_59 ow_67 ?_
      refine ls_call hyp hl (fun _ h1 hl1 hyp => ?_)
      refine ls_retI hyp (fun r2 hyp => ?_)
      refine ls_if_ne 64 f_92_59 rfl hyp (fun _ hyp => ?_) (fun _ hyp => ?_)
      · refine ls_iload_n f_92_62 rfl ?_
        exact ls_ireturn f_92_63 rI_92 hyp
      · refine ls_iinc (x3 + 1) [some (.ref 58), some (.ref 1), some (.int x2), some (.int (x3 + 1))] f_92_64 rfl (Nat.le_of_ble_eq_true rfl) rfl rfl ?_
        refine ls_goto 20 f_92_67 rfl ?_
        exact hyp
    · refine ls_iinc (x3 + 1) [some (.ref 58), some (.ref 1), some (.int x2), some (.int (x3 + 1))] f_92_64 rfl (Nat.le_of_ble_eq_true rfl) rfl rfl ?_
      refine ls_goto 20 f_92_67 rfl ?_
      exact hyp
  · refine ls_aload_n f_92_70 rfl ?_
    refine ls_getR f_92_71 p_92_91 hl S_1 F_1_9 ?_
    refine ls_iload_n f_92_74 rfl ?_
    refine ls_iald f_92_75 hl S_5 hyp (fun hyp => ?_)
    exact ls_ireturn f_92_76 rI_92 hyp
theorem e_93 {d : Nat} {h : lm_H} {K : lm_H → Prop} (hl : lm_Lay h) (hyp : lm_call (d) 270 [.ref 71, .int 6] h (lm_kV fun h1 => lm_W (d) 93 11 [some (.ref 58), some (.int 0), none, none] [] h1 (lm_kV K))) : lm_call (d + 1) 93 [.ref 58] h (lm_kV K) := by
  refine ls_enter [some (.ref 58), none, none, none] ml_93 (Nat.le_of_ble_eq_true rfl) rfl ?_
  refine ls_aload_n f_93_0 rfl ?_
  refine ls_getR f_93_1 p_93_50 hl S_58 F_58_11 ?_
  refine ls_bipush 6 f_93_4 (by decide) ?_
  refine ls_invS f_93_6 q_93_59 [.ref 71, .int 6] [] rfl (Nat.le_of_ble_eq_true rfl) ?_
  refine ls_call hyp hl (fun _ h1 hl1 hyp => ?_)
  refine ls_retV hyp (fun hyp => ?_)
  refine ls_iconst 0 f_93_9 (by decide) ?_
  refine ls_istore_n [some (.ref 58), some (.int 0), none, none] f_93_10 (Nat.le_of_ble_eq_true rfl) rfl ?_
  exact hyp
theorem b_93_11 {d : Nat} {h : lm_H} {K : lm_H → Prop} (x1 : Int32) (hl : lm_Lay h) (hyp : (if x1 < (lm_i h 59 1) then (lm_call (d) 67 [.ref 59, .ref 69, .int x1] h (lm_kI fun r2 h1 => lm_call (d) 262 [.int r2] h1 (lm_kI fun r4 h3 => (if 1 < r4 then (if (lm_i h3 59 2) = 2 then (lm_call (d) 87 [.ref 58, .int r4] h3 (lm_kI fun r6 h5 => lm_call (d) 94 [.ref 58, .int r2, .int r6] h5 (lm_kI fun r8 h7 => lm_in r8 5 False (lm_W (d) 93 11 [some (.ref 58), some (.int (x1 + 1)), none, none] [] (lm_si h7 71 r8.toNatClampNeg x1) (lm_kV K))))) else (if r4 = 1 then (lm_call (d) 94 [.ref 58, .int r2, .int 0] h3 (lm_kI fun r10 h9 => lm_in r10 5 False (lm_W (d) 93 11 [some (.ref 58), some (.int (x1 + 1)), none, none] [] (lm_si h9 71 r10.toNatClampNeg x1) (lm_kV K)))) else (if 1 < r4 then (if (lm_i h3 59 2) = 1 then (lm_call (d) 94 [.ref 58, .int r2, .int 0] h3 (lm_kI fun r12 h11 => lm_in r12 5 False (lm_W (d) 93 11 [some (.ref 58), some (.int (x1 + 1)), none, none] [] (lm_si h11 71 r12.toNatClampNeg x1) (lm_kV K)))) else (lm_W (d) 93 11 [some (.ref 58), some (.int (x1 + 1)), none, none] [] h3 (lm_kV K))) else (lm_W (d) 93 11 [some (.ref 58), some (.int (x1 + 1)), none, none] [] h3 (lm_kV K))))) else (if r4 = 1 then (lm_call (d) 94 [.ref 58, .int r2, .int 0] h3 (lm_kI fun r14 h13 => lm_in r14 5 False (lm_W (d) 93 11 [some (.ref 58), some (.int (x1 + 1)), none, none] [] (lm_si h13 71 r14.toNatClampNeg x1) (lm_kV K)))) else (if 1 < r4 then (if (lm_i h3 59 2) = 1 then (lm_call (d) 94 [.ref 58, .int r2, .int 0] h3 (lm_kI fun r16 h15 => lm_in r16 5 False (lm_W (d) 93 11 [some (.ref 58), some (.int (x1 + 1)), none, none] [] (lm_si h15 71 r16.toNatClampNeg x1) (lm_kV K)))) else (lm_W (d) 93 11 [some (.ref 58), some (.int (x1 + 1)), none, none] [] h3 (lm_kV K))) else (lm_W (d) 93 11 [some (.ref 58), some (.int (x1 + 1)), none, none] [] h3 (lm_kV K)))))))) else (K h))) : lm_W (d) 93 11 [some (.ref 58), some (.int x1), none, none] [] h (lm_kV K) := by
  refine ls_iload_n f_93_11 rfl ?_
  refine ls_aload_n f_93_12 rfl ?_
  refine ls_getR f_93_13 p_93_12 hl S_58 F_58_0 ?_
  refine ls_getI f_93_16 p_93_114 hl S_59 ?_
  refine ls_icmp_ge 114 f_93_19 rfl hyp (fun _ hyp => ?_) (fun _ hyp => ?_)
  · refine ls_aload_n f_93_22 rfl ?_
    refine ls_getR f_93_23 p_93_12 hl S_58 F_58_0 ?_
    refine ls_aload_n f_93_26 rfl ?_
    refine ls_getR f_93_27 p_93_44 hl S_58 F_58_9 ?_
    refine ls_iload_n f_93_30 rfl ?_
    refine ls_invV (a := 59) f_93_31 q_93_136 [.ref 69, .int x1] [] rfl (Nat.le_of_ble_eq_true rfl) hl S_59 ow_67 ?_
    refine ls_call hyp hl (fun _ h1 hl1 hyp => ?_)
    refine ls_retI hyp (fun r2 hyp => ?_)
    refine ls_istore_n [some (.ref 58), some (.int x1), some (.int r2), none] f_93_34 (Nat.le_of_ble_eq_true rfl) rfl ?_
    refine ls_iload_n f_93_35 rfl ?_
    refine ls_invS f_93_36 q_93_139 [.int r2] [] rfl (Nat.le_of_ble_eq_true rfl) ?_
    refine ls_call hyp hl1 (fun _ h3 hl3 hyp => ?_)
    refine ls_retI hyp (fun r4 hyp => ?_)
    refine ls_istore_n [some (.ref 58), some (.int x1), some (.int r2), some (.int r4)] f_93_39 (Nat.le_of_ble_eq_true rfl) rfl ?_
    refine ls_iload_n f_93_40 rfl ?_
    refine ls_iconst 1 f_93_41 (by decide) ?_
    refine ls_icmp_le 75 f_93_42 rfl hyp (fun _ hyp => ?_) (fun _ hyp => ?_)
    · refine ls_aload_n f_93_45 rfl ?_
      refine ls_getR f_93_46 p_93_12 hl3 S_58 F_58_0 ?_
      refine ls_getI f_93_49 p_93_144 hl3 S_59 ?_
      refine ls_iconst 2 f_93_52 (by decide) ?_
      refine ls_icmp_ne 75 f_93_53 rfl hyp (fun _ hyp => ?_) (fun _ hyp => ?_)
      · refine ls_aload_n f_93_56 rfl ?_
        refine ls_getR f_93_57 p_93_50 hl3 S_58 F_58_11 ?_
        refine ls_aload_n f_93_60 rfl ?_
        refine ls_iload_n f_93_61 rfl ?_
        refine ls_aload_n f_93_62 rfl ?_
        refine ls_iload_n f_93_63 rfl ?_
        refine ls_invV (a := 58) f_93_64 q_93_111 [.int r4] [.int r2, .ref 58, .ref 71] rfl (Nat.le_of_ble_eq_true rfl) hl3 S_58 ow_87 ?_
        refine ls_call hyp hl3 (fun _ h5 hl5 hyp => ?_)
        refine ls_retI hyp (fun r6 hyp => ?_)
        refine ls_invV (a := 58) f_93_67 q_93_147 [.int r2, .int r6] [.ref 71] rfl (Nat.le_of_ble_eq_true rfl) hl5 S_58 ow_94 ?_
        refine ls_call hyp hl5 (fun _ h7 hl7 hyp => ?_)
        refine ls_retI hyp (fun r8 hyp => ?_)
        refine ls_iload_n f_93_70 rfl ?_
        refine ls_iast f_93_71 hl7 S_71 hyp (fun hyp => ?_)
        refine ls_goto 108 f_93_72 rfl ?_
        refine ls_iinc (x1 + 1) [some (.ref 58), some (.int (x1 + 1)), some (.int r2), some (.int r4)] f_93_108 rfl (Nat.le_of_ble_eq_true rfl) rfl rfl ?_
        refine ls_goto 11 f_93_111 rfl ?_
        exact ls_mask [true, true, false, false] [some (.ref 58), some (.int (x1 + 1)), none, none] rfl hyp
      · refine ls_iload_n f_93_75 rfl ?_
        refine ls_iconst 1 f_93_76 (by decide) ?_
        refine ls_icmp_eq 96 f_93_77 rfl hyp (fun _ hyp => ?_) (fun _ hyp => ?_)
        · refine ls_aload_n f_93_96 rfl ?_
          refine ls_getR f_93_97 p_93_50 hl3 S_58 F_58_11 ?_
          refine ls_aload_n f_93_100 rfl ?_
          refine ls_iload_n f_93_101 rfl ?_
          refine ls_iconst 0 f_93_102 (by decide) ?_
          refine ls_invV (a := 58) f_93_103 q_93_147 [.int r2, .int 0] [.ref 71] rfl (Nat.le_of_ble_eq_true rfl) hl3 S_58 ow_94 ?_
          refine ls_call hyp hl3 (fun _ h9 hl9 hyp => ?_)
          refine ls_retI hyp (fun r10 hyp => ?_)
          refine ls_iload_n f_93_106 rfl ?_
          refine ls_iast f_93_107 hl9 S_71 hyp (fun hyp => ?_)
          refine ls_iinc (x1 + 1) [some (.ref 58), some (.int (x1 + 1)), some (.int r2), some (.int r4)] f_93_108 rfl (Nat.le_of_ble_eq_true rfl) rfl rfl ?_
          refine ls_goto 11 f_93_111 rfl ?_
          exact ls_mask [true, true, false, false] [some (.ref 58), some (.int (x1 + 1)), none, none] rfl hyp
        · refine ls_iload_n f_93_80 rfl ?_
          refine ls_iconst 1 f_93_81 (by decide) ?_
          refine ls_icmp_le 108 f_93_82 rfl hyp (fun _ hyp => ?_) (fun _ hyp => ?_)
          · refine ls_aload_n f_93_85 rfl ?_
            refine ls_getR f_93_86 p_93_12 hl3 S_58 F_58_0 ?_
            refine ls_getI f_93_89 p_93_144 hl3 S_59 ?_
            refine ls_iconst 1 f_93_92 (by decide) ?_
            refine ls_icmp_ne 108 f_93_93 rfl hyp (fun _ hyp => ?_) (fun _ hyp => ?_)
            · refine ls_aload_n f_93_96 rfl ?_
              refine ls_getR f_93_97 p_93_50 hl3 S_58 F_58_11 ?_
              refine ls_aload_n f_93_100 rfl ?_
              refine ls_iload_n f_93_101 rfl ?_
              refine ls_iconst 0 f_93_102 (by decide) ?_
              refine ls_invV (a := 58) f_93_103 q_93_147 [.int r2, .int 0] [.ref 71] rfl (Nat.le_of_ble_eq_true rfl) hl3 S_58 ow_94 ?_
              refine ls_call hyp hl3 (fun _ h11 hl11 hyp => ?_)
              refine ls_retI hyp (fun r12 hyp => ?_)
              refine ls_iload_n f_93_106 rfl ?_
              refine ls_iast f_93_107 hl11 S_71 hyp (fun hyp => ?_)
              refine ls_iinc (x1 + 1) [some (.ref 58), some (.int (x1 + 1)), some (.int r2), some (.int r4)] f_93_108 rfl (Nat.le_of_ble_eq_true rfl) rfl rfl ?_
              refine ls_goto 11 f_93_111 rfl ?_
              exact ls_mask [true, true, false, false] [some (.ref 58), some (.int (x1 + 1)), none, none] rfl hyp
            · refine ls_iinc (x1 + 1) [some (.ref 58), some (.int (x1 + 1)), some (.int r2), some (.int r4)] f_93_108 rfl (Nat.le_of_ble_eq_true rfl) rfl rfl ?_
              refine ls_goto 11 f_93_111 rfl ?_
              exact ls_mask [true, true, false, false] [some (.ref 58), some (.int (x1 + 1)), none, none] rfl hyp
          · refine ls_iinc (x1 + 1) [some (.ref 58), some (.int (x1 + 1)), some (.int r2), some (.int r4)] f_93_108 rfl (Nat.le_of_ble_eq_true rfl) rfl rfl ?_
            refine ls_goto 11 f_93_111 rfl ?_
            exact ls_mask [true, true, false, false] [some (.ref 58), some (.int (x1 + 1)), none, none] rfl hyp
    · refine ls_iload_n f_93_75 rfl ?_
      refine ls_iconst 1 f_93_76 (by decide) ?_
      refine ls_icmp_eq 96 f_93_77 rfl hyp (fun _ hyp => ?_) (fun _ hyp => ?_)
      · refine ls_aload_n f_93_96 rfl ?_
        refine ls_getR f_93_97 p_93_50 hl3 S_58 F_58_11 ?_
        refine ls_aload_n f_93_100 rfl ?_
        refine ls_iload_n f_93_101 rfl ?_
        refine ls_iconst 0 f_93_102 (by decide) ?_
        refine ls_invV (a := 58) f_93_103 q_93_147 [.int r2, .int 0] [.ref 71] rfl (Nat.le_of_ble_eq_true rfl) hl3 S_58 ow_94 ?_
        refine ls_call hyp hl3 (fun _ h13 hl13 hyp => ?_)
        refine ls_retI hyp (fun r14 hyp => ?_)
        refine ls_iload_n f_93_106 rfl ?_
        refine ls_iast f_93_107 hl13 S_71 hyp (fun hyp => ?_)
        refine ls_iinc (x1 + 1) [some (.ref 58), some (.int (x1 + 1)), some (.int r2), some (.int r4)] f_93_108 rfl (Nat.le_of_ble_eq_true rfl) rfl rfl ?_
        refine ls_goto 11 f_93_111 rfl ?_
        exact ls_mask [true, true, false, false] [some (.ref 58), some (.int (x1 + 1)), none, none] rfl hyp
      · refine ls_iload_n f_93_80 rfl ?_
        refine ls_iconst 1 f_93_81 (by decide) ?_
        refine ls_icmp_le 108 f_93_82 rfl hyp (fun _ hyp => ?_) (fun _ hyp => ?_)
        · refine ls_aload_n f_93_85 rfl ?_
          refine ls_getR f_93_86 p_93_12 hl3 S_58 F_58_0 ?_
          refine ls_getI f_93_89 p_93_144 hl3 S_59 ?_
          refine ls_iconst 1 f_93_92 (by decide) ?_
          refine ls_icmp_ne 108 f_93_93 rfl hyp (fun _ hyp => ?_) (fun _ hyp => ?_)
          · refine ls_aload_n f_93_96 rfl ?_
            refine ls_getR f_93_97 p_93_50 hl3 S_58 F_58_11 ?_
            refine ls_aload_n f_93_100 rfl ?_
            refine ls_iload_n f_93_101 rfl ?_
            refine ls_iconst 0 f_93_102 (by decide) ?_
            refine ls_invV (a := 58) f_93_103 q_93_147 [.int r2, .int 0] [.ref 71] rfl (Nat.le_of_ble_eq_true rfl) hl3 S_58 ow_94 ?_
            refine ls_call hyp hl3 (fun _ h15 hl15 hyp => ?_)
            refine ls_retI hyp (fun r16 hyp => ?_)
            refine ls_iload_n f_93_106 rfl ?_
            refine ls_iast f_93_107 hl15 S_71 hyp (fun hyp => ?_)
            refine ls_iinc (x1 + 1) [some (.ref 58), some (.int (x1 + 1)), some (.int r2), some (.int r4)] f_93_108 rfl (Nat.le_of_ble_eq_true rfl) rfl rfl ?_
            refine ls_goto 11 f_93_111 rfl ?_
            exact ls_mask [true, true, false, false] [some (.ref 58), some (.int (x1 + 1)), none, none] rfl hyp
          · refine ls_iinc (x1 + 1) [some (.ref 58), some (.int (x1 + 1)), some (.int r2), some (.int r4)] f_93_108 rfl (Nat.le_of_ble_eq_true rfl) rfl rfl ?_
            refine ls_goto 11 f_93_111 rfl ?_
            exact ls_mask [true, true, false, false] [some (.ref 58), some (.int (x1 + 1)), none, none] rfl hyp
        · refine ls_iinc (x1 + 1) [some (.ref 58), some (.int (x1 + 1)), some (.int r2), some (.int r4)] f_93_108 rfl (Nat.le_of_ble_eq_true rfl) rfl rfl ?_
          refine ls_goto 11 f_93_111 rfl ?_
          exact ls_mask [true, true, false, false] [some (.ref 58), some (.int (x1 + 1)), none, none] rfl hyp
  · exact ls_return f_93_114 rV_93 hyp
theorem e_94 {d : Nat} {h : lm_H} {K : Int32 → lm_H → Prop} (x1 : Int32) (x2 : Int32) (hl : lm_Lay h) (hyp : lm_W (d) 94 5 [some (.ref 58), some (.int x1), none, some (.int x2), some (.int 0)] [] h (lm_kI K)) : lm_call (d + 1) 94 [.ref 58, .int x1, .int x2] h (lm_kI K) := by
  refine ls_enter [some (.ref 58), some (.int x1), some (.int x2), none, none] ml_94 (Nat.le_of_ble_eq_true rfl) rfl ?_
  refine ls_iload_n f_94_0 rfl ?_
  refine ls_istore_n [some (.ref 58), some (.int x1), some (.int x2), some (.int x2), none] f_94_1 (Nat.le_of_ble_eq_true rfl) rfl ?_
  refine ls_iconst 0 f_94_2 (by decide) ?_
  refine ls_istore [some (.ref 58), some (.int x1), some (.int x2), some (.int x2), some (.int 0)] f_94_3 (Nat.le_of_ble_eq_true rfl) rfl ?_
  exact ls_mask [true, true, false, true, true] [some (.ref 58), some (.int x1), none, some (.int x2), some (.int 0)] rfl hyp
theorem b_94_5 {d : Nat} {h : lm_H} {K : Int32 → lm_H → Prop} (x1 : Int32) (x3 : Int32) (x4 : Int32) (hl : lm_Lay h) (hyp : (if x4 < (lm_i h 58 5) then (if ((x1 >>> (x4 &&& 31)) &&& 1) = 1 then (if x3 = 0 then (K x4 h) else (lm_W (d) 94 5 [some (.ref 58), some (.int x1), none, some (.int (x3 - 1)), some (.int (x4 + 1))] [] h (lm_kI K))) else (lm_W (d) 94 5 [some (.ref 58), some (.int x1), none, some (.int x3), some (.int (x4 + 1))] [] h (lm_kI K))) else (K 0 h))) : lm_W (d) 94 5 [some (.ref 58), some (.int x1), none, some (.int x3), some (.int x4)] [] h (lm_kI K) := by
  refine ls_iload f_94_5 rfl ?_
  refine ls_aload_n f_94_7 rfl ?_
  refine ls_getI f_94_8 p_94_32 hl S_58 ?_
  refine ls_icmp_ge 40 f_94_11 rfl hyp (fun _ hyp => ?_) (fun _ hyp => ?_)
  · refine ls_iload_n f_94_14 rfl ?_
    refine ls_iload f_94_15 rfl ?_
    refine ls_ishr (x1 >>> (x4 &&& 31)) f_94_17 rfl ?_
    refine ls_iconst 1 f_94_18 (by decide) ?_
    refine ls_iand ((x1 >>> (x4 &&& 31)) &&& 1) f_94_19 rfl ?_
    refine ls_iconst 1 f_94_20 (by decide) ?_
    refine ls_icmp_ne 34 f_94_21 rfl hyp (fun _ hyp => ?_) (fun _ hyp => ?_)
    · refine ls_iload_n f_94_24 rfl ?_
      refine ls_if_ne 31 f_94_25 rfl hyp (fun _ hyp => ?_) (fun _ hyp => ?_)
      · refine ls_iload f_94_28 rfl ?_
        exact ls_ireturn f_94_30 rI_94 hyp
      · refine ls_iinc (x3 - 1) [some (.ref 58), some (.int x1), none, some (.int (x3 - 1)), some (.int x4)] f_94_31 rfl (Nat.le_of_ble_eq_true rfl) (lm_m1 _) rfl ?_
        refine ls_iinc (x4 + 1) [some (.ref 58), some (.int x1), none, some (.int (x3 - 1)), some (.int (x4 + 1))] f_94_34 rfl (Nat.le_of_ble_eq_true rfl) rfl rfl ?_
        refine ls_goto 5 f_94_37 rfl ?_
        exact hyp
    · refine ls_iinc (x4 + 1) [some (.ref 58), some (.int x1), none, some (.int x3), some (.int (x4 + 1))] f_94_34 rfl (Nat.le_of_ble_eq_true rfl) rfl rfl ?_
      refine ls_goto 5 f_94_37 rfl ?_
      exact hyp
  · refine ls_iconst 0 f_94_40 (by decide) ?_
    exact ls_ireturn f_94_41 rI_94 hyp
theorem e_95 {d : Nat} {h : lm_H} {K : Int32 → lm_H → Prop} (x1 : Int32) (hl : lm_Lay h) (hyp : lm_W (d + 1) 95 4 [some (.ref 58), some (.int x1), some (.int 0), some (.int 0), none, none] [] h (lm_kI K)) : lm_call (d + 2) 95 [.ref 58, .int x1] h (lm_kI K) := by
  refine ls_enter [some (.ref 58), some (.int x1), none, none, none, none] ml_95 (Nat.le_of_ble_eq_true rfl) rfl ?_
  refine ls_iconst 0 f_95_0 (by decide) ?_
  refine ls_istore_n [some (.ref 58), some (.int x1), some (.int 0), none, none, none] f_95_1 (Nat.le_of_ble_eq_true rfl) rfl ?_
  refine ls_iconst 0 f_95_2 (by decide) ?_
  refine ls_istore_n [some (.ref 58), some (.int x1), some (.int 0), some (.int 0), none, none] f_95_3 (Nat.le_of_ble_eq_true rfl) rfl ?_
  exact hyp
theorem b_95_4 {d : Nat} {h : lm_H} {K : Int32 → lm_H → Prop} (x1 : Int32) (x2 : Int32) (x3 : Int32) (hl : lm_Lay h) (hyp : (if x3 < (lm_i h 58 5) then (lm_in x3 5 False (lm_in x3 5 False (lm_in ((x1 * 5) + x3) 200 False (lm_in ((x1 * 5) + x3) 200 False (lm_in x3 5 False (lm_in x3 5 False (lm_in ((x3 * 7) + (lm_i h 71 x3.toNatClampNeg)) 35 False (lm_in x3 5 False (lm_in x3 5 False (lm_in x3 5 False (lm_in x3 5 False (if (lm_i h 71 x3.toNatClampNeg) = 6 then (lm_W (d + 1) 95 128 [some (.ref 58), some (.int x1), some (.int 1), some (.int x3), none, some (.int 0)] [] (lm_si (lm_si (lm_si (lm_si (lm_si h 64 (((x1 * 5) + x3).toNatClampNeg) (lm_i h 69 x3.toNatClampNeg)) 65 (((x1 * 5) + x3).toNatClampNeg) (lm_i h 71 x3.toNatClampNeg)) 70 x3.toNatClampNeg (lm_i h 69 x3.toNatClampNeg)) 72 x3.toNatClampNeg (60 * (lm_i h 60 (((x3 * 7) + (lm_i h 71 x3.toNatClampNeg)).toNatClampNeg)))) 66 x3.toNatClampNeg ((lm_i h 66 x3.toNatClampNeg) + (60 * (lm_i h 60 (((x3 * 7) + (lm_i h 71 x3.toNatClampNeg)).toNatClampNeg))))) (lm_kI K)) else (lm_in ((x3 * 6) + (lm_i h 71 x3.toNatClampNeg)) 30 False (lm_in ((x3 * 6) + (lm_i h 71 x3.toNatClampNeg)) 30 False (lm_W (d + 1) 95 128 [some (.ref 58), some (.int x1), some (.int x2), some (.int x3), none, some (.int 0)] [] (lm_si (lm_si (lm_si (lm_si (lm_si (lm_si h 64 (((x1 * 5) + x3).toNatClampNeg) (lm_i h 69 x3.toNatClampNeg)) 65 (((x1 * 5) + x3).toNatClampNeg) (lm_i h 71 x3.toNatClampNeg)) 70 x3.toNatClampNeg (lm_i h 69 x3.toNatClampNeg)) 72 x3.toNatClampNeg (60 * (lm_i h 60 (((x3 * 7) + (lm_i h 71 x3.toNatClampNeg)).toNatClampNeg)))) 66 x3.toNatClampNeg ((lm_i h 66 x3.toNatClampNeg) + (60 * (lm_i h 60 (((x3 * 7) + (lm_i h 71 x3.toNatClampNeg)).toNatClampNeg))))) 67 (((x3 * 6) + (lm_i h 71 x3.toNatClampNeg)).toNatClampNeg) ((lm_i h 67 (((x3 * 6) + (lm_i h 71 x3.toNatClampNeg)).toNatClampNeg)) + 1)) (lm_kI K)))))))))))))))) else ((vp_nar .boolean x2 = x2) ∧ K x2 h))) : lm_W (d + 1) 95 4 [some (.ref 58), some (.int x1), some (.int x2), some (.int x3), none, none] [] h (lm_kI K) := by
  refine ls_iload_n f_95_4 rfl ?_
  refine ls_aload_n f_95_5 rfl ?_
  refine ls_getI f_95_6 p_95_32 hl S_58 ?_
  refine ls_icmp_ge 189 f_95_9 rfl hyp (fun _ hyp => ?_) (fun _ hyp => ?_)
  · refine ls_aload_n f_95_12 rfl ?_
    refine ls_getR f_95_13 p_95_50 hl S_58 F_58_11 ?_
    refine ls_iload_n f_95_16 rfl ?_
    refine ls_iald f_95_17 hl S_71 hyp (fun hyp => ?_)
    refine ls_istore [some (.ref 58), some (.int x1), some (.int x2), some (.int x3), some (.int (lm_i h 71 x3.toNatClampNeg)), none] f_95_18 (Nat.le_of_ble_eq_true rfl) rfl ?_
    refine ls_aload_n f_95_20 rfl ?_
    refine ls_getR f_95_21 p_95_18 hl S_58 F_58_1 ?_
    refine ls_iload_n f_95_24 rfl ?_
    refine ls_iconst 5 f_95_25 (by decide) ?_
    refine ls_imul (x1 * 5) f_95_26 rfl ?_
    refine ls_iload_n f_95_27 rfl ?_
    refine ls_iadd ((x1 * 5) + x3) f_95_28 rfl ?_
    refine ls_aload_n f_95_29 rfl ?_
    refine ls_getR f_95_30 p_95_44 hl S_58 F_58_9 ?_
    refine ls_iload_n f_95_33 rfl ?_
    refine ls_iald f_95_34 hl S_69 hyp (fun hyp => ?_)
    refine ls_iast f_95_35 hl S_64 hyp (fun hyp => ?_)
    refine ls_aload_n f_95_36 rfl ?_
    refine ls_getR f_95_37 p_95_22 (lm_Lay_si hl _ _ _) S_58 F_58_2 ?_
    refine ls_iload_n f_95_40 rfl ?_
    refine ls_iconst 5 f_95_41 (by decide) ?_
    refine ls_imul (x1 * 5) f_95_42 rfl ?_
    refine ls_iload_n f_95_43 rfl ?_
    refine ls_iadd ((x1 * 5) + x3) f_95_44 rfl ?_
    refine ls_iload f_95_45 rfl ?_
    refine ls_iast f_95_47 (lm_Lay_si hl _ _ _) S_65 hyp (fun hyp => ?_)
    refine ls_aload_n f_95_48 rfl ?_
    refine ls_getR f_95_49 p_95_47 (lm_Lay_si (lm_Lay_si hl _ _ _) _ _ _) S_58 F_58_10 ?_
    refine ls_iload_n f_95_52 rfl ?_
    refine ls_aload_n f_95_53 rfl ?_
    refine ls_getR f_95_54 p_95_44 (lm_Lay_si (lm_Lay_si hl _ _ _) _ _ _) S_58 F_58_9 ?_
    refine ls_iload_n f_95_57 rfl ?_
    refine ls_iald f_95_58 (lm_Lay_si (lm_Lay_si hl _ _ _) _ _ _) S_69 hyp (fun hyp => ?_)
    refine ls_top (lm_i h 69 x3.toNatClampNeg) rfl ?_
    refine ls_iast f_95_59 (lm_Lay_si (lm_Lay_si hl _ _ _) _ _ _) S_70 hyp (fun hyp => ?_)
    refine ls_aload_n f_95_60 rfl ?_
    refine ls_getR f_95_61 p_95_53 (lm_Lay_si (lm_Lay_si (lm_Lay_si hl _ _ _) _ _ _) _ _ _) S_58 F_58_12 ?_
    refine ls_iload_n f_95_64 rfl ?_
    refine ls_bipush 60 f_95_65 (by decide) ?_
    refine ls_aload_n f_95_67 rfl ?_
    refine ls_getR f_95_68 p_95_12 (lm_Lay_si (lm_Lay_si (lm_Lay_si hl _ _ _) _ _ _) _ _ _) S_58 F_58_0 ?_
    refine ls_getR f_95_71 p_95_123 (lm_Lay_si (lm_Lay_si (lm_Lay_si hl _ _ _) _ _ _) _ _ _) S_59 F_59_4 ?_
    refine ls_iload_n f_95_74 rfl ?_
    refine ls_iload f_95_75 rfl ?_
    refine ls_invS f_95_77 q_95_126 [.int x3, .int (lm_i h 71 x3.toNatClampNeg)] [.ref 60, .int 60, .int x3, .ref 72] rfl (Nat.le_of_ble_eq_true rfl) ?_
    refine ls_enter [some (.int x3), some (.int (lm_i h 71 x3.toNatClampNeg))] ml_148 (Nat.le_of_ble_eq_true rfl) rfl ?_
    refine ls_iload_n f_148_0 rfl ?_
    refine ls_bipush 7 f_148_1 (by decide) ?_
    refine ls_imul (x3 * 7) f_148_3 rfl ?_
    refine ls_iload_n f_148_4 rfl ?_
    refine ls_iadd ((x3 * 7) + (lm_i h 71 x3.toNatClampNeg)) f_148_5 rfl ?_
    refine ls_ireturn f_148_6 rI_148 ?_
    show lm_W _ _ _ _ [.int ((x3 * 7) + (lm_i h 71 x3.toNatClampNeg)), .ref 60, .int 60, .int x3, .ref 72] _ _
    refine ls_iald f_95_80 (lm_Lay_si (lm_Lay_si (lm_Lay_si hl _ _ _) _ _ _) _ _ _) S_60 hyp (fun hyp => ?_)
    refine ls_top (lm_i h 60 (((x3 * 7) + (lm_i h 71 x3.toNatClampNeg)).toNatClampNeg)) rfl ?_
    refine ls_imul (60 * (lm_i h 60 (((x3 * 7) + (lm_i h 71 x3.toNatClampNeg)).toNatClampNeg))) f_95_81 rfl ?_
    refine ls_iast f_95_82 (lm_Lay_si (lm_Lay_si (lm_Lay_si hl _ _ _) _ _ _) _ _ _) S_72 hyp (fun hyp => ?_)
    refine ls_aload_n f_95_83 rfl ?_
    refine ls_getR f_95_84 p_95_25 (lm_Lay_si (lm_Lay_si (lm_Lay_si (lm_Lay_si hl _ _ _) _ _ _) _ _ _) _ _ _) S_58 F_58_3 ?_
    refine ls_iload_n f_95_87 rfl ?_
    refine ls_dup2 f_95_88 rfl rfl ?_
    refine ls_iald f_95_89 (lm_Lay_si (lm_Lay_si (lm_Lay_si (lm_Lay_si hl _ _ _) _ _ _) _ _ _) _ _ _) S_66 hyp (fun hyp => ?_)
    refine ls_top (lm_i h 66 x3.toNatClampNeg) rfl ?_
    refine ls_aload_n f_95_90 rfl ?_
    refine ls_getR f_95_91 p_95_53 (lm_Lay_si (lm_Lay_si (lm_Lay_si (lm_Lay_si hl _ _ _) _ _ _) _ _ _) _ _ _) S_58 F_58_12 ?_
    refine ls_iload_n f_95_94 rfl ?_
    refine ls_iald f_95_95 (lm_Lay_si (lm_Lay_si (lm_Lay_si (lm_Lay_si hl _ _ _) _ _ _) _ _ _) _ _ _) S_72 hyp (fun hyp => ?_)
    refine ls_top (60 * (lm_i h 60 (((x3 * 7) + (lm_i h 71 x3.toNatClampNeg)).toNatClampNeg))) lm_iE ?_
    refine ls_iadd ((lm_i h 66 x3.toNatClampNeg) + (60 * (lm_i h 60 (((x3 * 7) + (lm_i h 71 x3.toNatClampNeg)).toNatClampNeg)))) f_95_96 rfl ?_
    refine ls_iast f_95_97 (lm_Lay_si (lm_Lay_si (lm_Lay_si (lm_Lay_si hl _ _ _) _ _ _) _ _ _) _ _ _) S_66 hyp (fun hyp => ?_)
    refine ls_iload f_95_98 rfl ?_
    refine ls_bipush 6 f_95_100 (by decide) ?_
    refine ls_icmp_ne 110 f_95_102 rfl hyp (fun _ hyp => ?_) (fun _ hyp => ?_)
    · refine ls_iconst 1 f_95_105 (by decide) ?_
      refine ls_istore_n [some (.ref 58), some (.int x1), some (.int 1), some (.int x3), some (.int (lm_i h 71 x3.toNatClampNeg)), none] f_95_106 (Nat.le_of_ble_eq_true rfl) rfl ?_
      refine ls_goto 125 f_95_107 rfl ?_
      refine ls_iconst 0 f_95_125 (by decide) ?_
      refine ls_istore [some (.ref 58), some (.int x1), some (.int 1), some (.int x3), some (.int (lm_i h 71 x3.toNatClampNeg)), some (.int 0)] f_95_126 (Nat.le_of_ble_eq_true rfl) rfl ?_
      exact ls_mask [true, true, true, true, false, true] [some (.ref 58), some (.int x1), some (.int 1), some (.int x3), none, some (.int 0)] rfl hyp
    · refine ls_aload_n f_95_110 rfl ?_
      refine ls_getR f_95_111 p_95_38 (lm_Lay_si (lm_Lay_si (lm_Lay_si (lm_Lay_si (lm_Lay_si hl _ _ _) _ _ _) _ _ _) _ _ _) _ _ _) S_58 F_58_7 ?_
      refine ls_iload_n f_95_114 rfl ?_
      refine ls_iload f_95_115 rfl ?_
      refine ls_invS f_95_117 q_95_120 [.int x3, .int (lm_i h 71 x3.toNatClampNeg)] [.ref 67] rfl (Nat.le_of_ble_eq_true rfl) ?_
      refine ls_enter [some (.int x3), some (.int (lm_i h 71 x3.toNatClampNeg))] ml_147 (Nat.le_of_ble_eq_true rfl) rfl ?_
      refine ls_iload_n f_147_0 rfl ?_
      refine ls_bipush 6 f_147_1 (by decide) ?_
      refine ls_imul (x3 * 6) f_147_3 rfl ?_
      refine ls_iload_n f_147_4 rfl ?_
      refine ls_iadd ((x3 * 6) + (lm_i h 71 x3.toNatClampNeg)) f_147_5 rfl ?_
      refine ls_ireturn f_147_6 rI_147 ?_
      show lm_W _ _ _ _ [.int ((x3 * 6) + (lm_i h 71 x3.toNatClampNeg)), .ref 67] _ _
      refine ls_dup2 f_95_120 rfl rfl ?_
      refine ls_iald f_95_121 (lm_Lay_si (lm_Lay_si (lm_Lay_si (lm_Lay_si (lm_Lay_si hl _ _ _) _ _ _) _ _ _) _ _ _) _ _ _) S_67 hyp (fun hyp => ?_)
      refine ls_top (lm_i h 67 (((x3 * 6) + (lm_i h 71 x3.toNatClampNeg)).toNatClampNeg)) rfl ?_
      refine ls_iconst 1 f_95_122 (by decide) ?_
      refine ls_iadd ((lm_i h 67 (((x3 * 6) + (lm_i h 71 x3.toNatClampNeg)).toNatClampNeg)) + 1) f_95_123 rfl ?_
      refine ls_iast f_95_124 (lm_Lay_si (lm_Lay_si (lm_Lay_si (lm_Lay_si (lm_Lay_si hl _ _ _) _ _ _) _ _ _) _ _ _) _ _ _) S_67 hyp (fun hyp => ?_)
      refine ls_iconst 0 f_95_125 (by decide) ?_
      refine ls_istore [some (.ref 58), some (.int x1), some (.int x2), some (.int x3), some (.int (lm_i h 71 x3.toNatClampNeg)), some (.int 0)] f_95_126 (Nat.le_of_ble_eq_true rfl) rfl ?_
      exact ls_mask [true, true, true, true, false, true] [some (.ref 58), some (.int x1), some (.int x2), some (.int x3), none, some (.int 0)] rfl hyp
  · refine ls_iload_n f_95_189 rfl ?_
    exact ls_zreturn f_95_190 rZ_95 hyp.1 hyp.2
theorem b_95_128 {d : Nat} {h : lm_H} {K : Int32 → lm_H → Prop} (x1 : Int32) (x2 : Int32) (x3 : Int32) (x5 : Int32) (hl : lm_Lay h) (hyp : (if x5 < (lm_i h 59 1) then (lm_call (d + 1) 67 [.ref 59, .ref 69, .int x5] h (lm_kI fun r2 h1 => (if (r2 &&& (((1 : Int32) <<< (x3 &&& 31)) ^^^ (-1))) = 0 then (lm_in ((x3 * 6) + x5) 30 False (lm_in ((x3 * 6) + x5) 30 False (lm_W (d + 1) 95 128 [some (.ref 58), some (.int x1), some (.int x2), some (.int x3), none, some (.int (x5 + 1))] [] (lm_si h1 68 (((x3 * 6) + x5).toNatClampNeg) ((lm_i h1 68 (((x3 * 6) + x5).toNatClampNeg)) + 1)) (lm_kI K)))) else (lm_W (d + 1) 95 128 [some (.ref 58), some (.int x1), some (.int x2), some (.int x3), none, some (.int (x5 + 1))] [] h1 (lm_kI K))))) else (lm_W (d + 1) 95 4 [some (.ref 58), some (.int x1), some (.int x2), some (.int (x3 + 1)), none, none] [] h (lm_kI K)))) : lm_W (d + 1) 95 128 [some (.ref 58), some (.int x1), some (.int x2), some (.int x3), none, some (.int x5)] [] h (lm_kI K) := by
  refine ls_iload f_95_128 rfl ?_
  refine ls_aload_n f_95_130 rfl ?_
  refine ls_getR f_95_131 p_95_12 hl S_58 F_58_0 ?_
  refine ls_getI f_95_134 p_95_114 hl S_59 ?_
  refine ls_icmp_ge 183 f_95_137 rfl hyp (fun _ hyp => ?_) (fun _ hyp => ?_)
  · refine ls_aload_n f_95_140 rfl ?_
    refine ls_getR f_95_141 p_95_12 hl S_58 F_58_0 ?_
    refine ls_aload_n f_95_144 rfl ?_
    refine ls_getR f_95_145 p_95_44 hl S_58 F_58_9 ?_
    refine ls_iload f_95_148 rfl ?_
    refine ls_invV (a := 59) f_95_150 q_95_136 [.ref 69, .int x5] [] rfl (Nat.le_of_ble_eq_true rfl) hl S_59 ow_67 ?_
    refine ls_call hyp hl (fun _ h1 hl1 hyp => ?_)
    refine ls_retI hyp (fun r2 hyp => ?_)
    refine ls_iconst 1 f_95_153 (by decide) ?_
    refine ls_iload_n f_95_154 rfl ?_
    refine ls_ishl ((1 : Int32) <<< (x3 &&& 31)) f_95_155 rfl ?_
    refine ls_iconst (-1) f_95_156 (by decide) ?_
    refine ls_ixor (((1 : Int32) <<< (x3 &&& 31)) ^^^ (-1)) f_95_157 rfl ?_
    refine ls_iand (r2 &&& (((1 : Int32) <<< (x3 &&& 31)) ^^^ (-1))) f_95_158 rfl ?_
    refine ls_if_ne 177 f_95_159 rfl hyp (fun _ hyp => ?_) (fun _ hyp => ?_)
    · refine ls_aload_n f_95_162 rfl ?_
      refine ls_getR f_95_163 p_95_41 hl1 S_58 F_58_8 ?_
      refine ls_iload_n f_95_166 rfl ?_
      refine ls_iload f_95_167 rfl ?_
      refine ls_invS f_95_169 q_95_120 [.int x3, .int x5] [.ref 68] rfl (Nat.le_of_ble_eq_true rfl) ?_
      refine ls_enter [some (.int x3), some (.int x5)] ml_147 (Nat.le_of_ble_eq_true rfl) rfl ?_
      refine ls_iload_n f_147_0 rfl ?_
      refine ls_bipush 6 f_147_1 (by decide) ?_
      refine ls_imul (x3 * 6) f_147_3 rfl ?_
      refine ls_iload_n f_147_4 rfl ?_
      refine ls_iadd ((x3 * 6) + x5) f_147_5 rfl ?_
      refine ls_ireturn f_147_6 rI_147 ?_
      show lm_W _ _ _ _ [.int ((x3 * 6) + x5), .ref 68] _ _
      refine ls_dup2 f_95_172 rfl rfl ?_
      refine ls_iald f_95_173 hl1 S_68 hyp (fun hyp => ?_)
      refine ls_iconst 1 f_95_174 (by decide) ?_
      refine ls_iadd ((lm_i h1 68 (((x3 * 6) + x5).toNatClampNeg)) + 1) f_95_175 rfl ?_
      refine ls_iast f_95_176 hl1 S_68 hyp (fun hyp => ?_)
      refine ls_iinc (x5 + 1) [some (.ref 58), some (.int x1), some (.int x2), some (.int x3), none, some (.int (x5 + 1))] f_95_177 rfl (Nat.le_of_ble_eq_true rfl) rfl rfl ?_
      refine ls_goto 128 f_95_180 rfl ?_
      exact hyp
    · refine ls_iinc (x5 + 1) [some (.ref 58), some (.int x1), some (.int x2), some (.int x3), none, some (.int (x5 + 1))] f_95_177 rfl (Nat.le_of_ble_eq_true rfl) rfl rfl ?_
      refine ls_goto 128 f_95_180 rfl ?_
      exact hyp
  · refine ls_iinc (x3 + 1) [some (.ref 58), some (.int x1), some (.int x2), some (.int (x3 + 1)), none, some (.int x5)] f_95_183 rfl (Nat.le_of_ble_eq_true rfl) rfl rfl ?_
    refine ls_goto 4 f_95_186 rfl ?_
    exact ls_mask [true, true, true, true, false, false] [some (.ref 58), some (.int x1), some (.int x2), some (.int (x3 + 1)), none, none] rfl hyp
theorem e_96 {d : Nat} {h : lm_H} {K : Int32 → lm_H → Prop} (x1 : Int32) (x2 : Int32) (hl : lm_Lay h) (hyp : lm_W (d) 96 2 [some (.ref 58), some (.int x1), some (.int x2), some (.int 0)] [] h (lm_kI K)) : lm_call (d + 1) 96 [.ref 58, .int x1, .int x2] h (lm_kI K) := by
  refine ls_enter [some (.ref 58), some (.int x1), some (.int x2), none] ml_96 (Nat.le_of_ble_eq_true rfl) rfl ?_
  refine ls_iconst 0 f_96_0 (by decide) ?_
  refine ls_istore_n [some (.ref 58), some (.int x1), some (.int x2), some (.int 0)] f_96_1 (Nat.le_of_ble_eq_true rfl) rfl ?_
  exact hyp
theorem b_96_2 {d : Nat} {h : lm_H} {K : Int32 → lm_H → Prop} (x1 : Int32) (x2 : Int32) (x3 : Int32) (hl : lm_Lay h) (hyp : (if x3 < (lm_i h 58 5) then (lm_in ((x1 * 5) + x3) 200 False (lm_in ((x2 * 5) + x3) 200 False (if (lm_i h 64 (((x1 * 5) + x3).toNatClampNeg)) = (lm_i h 64 (((x2 * 5) + x3).toNatClampNeg)) then (lm_W (d) 96 2 [some (.ref 58), some (.int x1), some (.int x2), some (.int (x3 + 1))] [] h (lm_kI K)) else (K 0 h)))) else (K 1 h))) : lm_W (d) 96 2 [some (.ref 58), some (.int x1), some (.int x2), some (.int x3)] [] h (lm_kI K) := by
  refine ls_iload_n f_96_2 rfl ?_
  refine ls_aload_n f_96_3 rfl ?_
  refine ls_getI f_96_4 p_96_32 hl S_58 ?_
  refine ls_icmp_ge 41 f_96_7 rfl hyp (fun _ hyp => ?_) (fun _ hyp => ?_)
  · refine ls_aload_n f_96_10 rfl ?_
    refine ls_getR f_96_11 p_96_18 hl S_58 F_58_1 ?_
    refine ls_iload_n f_96_14 rfl ?_
    refine ls_iconst 5 f_96_15 (by decide) ?_
    refine ls_imul (x1 * 5) f_96_16 rfl ?_
    refine ls_iload_n f_96_17 rfl ?_
    refine ls_iadd ((x1 * 5) + x3) f_96_18 rfl ?_
    refine ls_iald f_96_19 hl S_64 hyp (fun hyp => ?_)
    refine ls_aload_n f_96_20 rfl ?_
    refine ls_getR f_96_21 p_96_18 hl S_58 F_58_1 ?_
    refine ls_iload_n f_96_24 rfl ?_
    refine ls_iconst 5 f_96_25 (by decide) ?_
    refine ls_imul (x2 * 5) f_96_26 rfl ?_
    refine ls_iload_n f_96_27 rfl ?_
    refine ls_iadd ((x2 * 5) + x3) f_96_28 rfl ?_
    refine ls_iald f_96_29 hl S_64 hyp (fun hyp => ?_)
    refine ls_icmp_eq 35 f_96_30 rfl hyp (fun _ hyp => ?_) (fun _ hyp => ?_)
    · refine ls_iinc (x3 + 1) [some (.ref 58), some (.int x1), some (.int x2), some (.int (x3 + 1))] f_96_35 rfl (Nat.le_of_ble_eq_true rfl) rfl rfl ?_
      refine ls_goto 2 f_96_38 rfl ?_
      exact hyp
    · refine ls_iconst 0 f_96_33 (by decide) ?_
      exact ls_zreturn f_96_34 rZ_96 (by decide) hyp
  · refine ls_iconst 1 f_96_41 (by decide) ?_
    exact ls_zreturn f_96_42 rZ_96 (by decide) hyp
theorem e_98 {d : Nat} {h : lm_H} {K : Int32 → lm_H → Prop} (x1 : Int32) (hl : lm_Lay h) (hyp : (if x1 < 0 then (K (-1) (lm_si (lm_si h 0 15 (-1)) 75 0 ((lm_i h 75 0) + 1))) else (if 9 < x1 then (K (-1) (lm_si (lm_si h 0 15 (-1)) 75 0 ((lm_i h 75 0) + 1))) else (if (lm_i h 1 0) < 5 then (lm_in (lm_i h 1 0) 5 False (K (((lm_i h 1 0) + 1) - 1) (lm_si (lm_si (lm_si h 2 ((lm_i h 1 0).toNatClampNeg) x1) 1 0 ((lm_i h 1 0) + 1)) 0 15 0))) else (K (-5) (lm_si (lm_si h 0 15 (-5)) 75 3 ((lm_i h 75 3) + 1))))))) : lm_call (d + 3) 98 [.ref 0, .int x1] h (lm_kI K) := by
  refine ls_enter [some (.ref 0), some (.int x1)] ml_98 (Nat.le_of_ble_eq_true rfl) rfl ?_
  refine ls_iload_n f_98_0 rfl ?_
  refine ls_if_lt 10 f_98_1 rfl hyp (fun _ hyp => ?_) (fun _ hyp => ?_)
  · refine ls_aload_n f_98_10 rfl ?_
    refine ls_iconst (-1) f_98_11 (by decide) ?_
    refine ls_invV (a := 0) f_98_12 q_98_107 [.int (-1)] [] rfl (Nat.le_of_ble_eq_true rfl) hl S_0 ow_139 ?_
    refine ls_enter [some (.ref 0), some (.int (-1))] ml_139 (Nat.le_of_ble_eq_true rfl) rfl ?_
    refine ls_aload_n f_139_0 rfl ?_
    refine ls_iload_n f_139_1 rfl ?_
    refine ls_putI f_139_2 p_139_97 hl S_0 rfl ?_
    refine ls_aload_n f_139_5 rfl ?_
    refine ls_getR f_139_6 p_139_94 (lm_Lay_si hl _ _ _) S_0 F_0_14 ?_
    refine ls_iload_n f_139_9 rfl ?_
    refine ls_invS f_139_10 q_139_337 [.int (-1)] [.ref 75] rfl (Nat.le_of_ble_eq_true rfl) ?_
    refine ls_enter [some (.int (-1))] ml_141 (Nat.le_of_ble_eq_true rfl) rfl ?_
    refine ls_iload_n f_141_0 rfl ?_
    refine ls_table f_141_1 (by decide) ?_
    refine ls_swF (by decide) ?_
    refine ls_swF (by decide) ?_
    refine ls_swF (by decide) ?_
    refine ls_swF (by decide) ?_
    refine ls_swT (by decide) ?_
    refine lm_tg_of (t := 36) rfl ?_
    refine ls_iconst 0 f_141_36 (by decide) ?_
    refine ls_ireturn f_141_37 rI_141 ?_
    show lm_W _ _ _ _ [.int 0, .ref 75] _ _
    refine ls_dup2 f_139_13 rfl rfl ?_
    refine ls_ialdC 0 f_139_14 (lm_Lay_si hl _ _ _) S_75 ⟨by decide, by decide, by decide⟩ ?_
    refine ls_top (lm_i h 75 0) rfl ?_
    refine ls_iconst 1 f_139_15 (by decide) ?_
    refine ls_iadd ((lm_i h 75 0) + 1) f_139_16 rfl ?_
    refine ls_iastC 0 f_139_17 (lm_Lay_si hl _ _ _) S_75 ⟨by decide, by decide, by decide⟩ ?_
    refine ls_iload_n f_139_18 rfl ?_
    refine ls_ireturn f_139_19 rI_139 ?_
    show lm_W _ _ _ _ [.int (-1)] _ _
    exact ls_ireturn f_98_15 rI_98 hyp
  · refine ls_iload_n f_98_4 rfl ?_
    refine ls_bipush 9 f_98_5 (by decide) ?_
    refine ls_icmp_le 16 f_98_7 rfl hyp (fun _ hyp => ?_) (fun _ hyp => ?_)
    · refine ls_aload_n f_98_10 rfl ?_
      refine ls_iconst (-1) f_98_11 (by decide) ?_
      refine ls_invV (a := 0) f_98_12 q_98_107 [.int (-1)] [] rfl (Nat.le_of_ble_eq_true rfl) hl S_0 ow_139 ?_
      refine ls_enter [some (.ref 0), some (.int (-1))] ml_139 (Nat.le_of_ble_eq_true rfl) rfl ?_
      refine ls_aload_n f_139_0 rfl ?_
      refine ls_iload_n f_139_1 rfl ?_
      refine ls_putI f_139_2 p_139_97 hl S_0 rfl ?_
      refine ls_aload_n f_139_5 rfl ?_
      refine ls_getR f_139_6 p_139_94 (lm_Lay_si hl _ _ _) S_0 F_0_14 ?_
      refine ls_iload_n f_139_9 rfl ?_
      refine ls_invS f_139_10 q_139_337 [.int (-1)] [.ref 75] rfl (Nat.le_of_ble_eq_true rfl) ?_
      refine ls_enter [some (.int (-1))] ml_141 (Nat.le_of_ble_eq_true rfl) rfl ?_
      refine ls_iload_n f_141_0 rfl ?_
      refine ls_table f_141_1 (by decide) ?_
      refine ls_swF (by decide) ?_
      refine ls_swF (by decide) ?_
      refine ls_swF (by decide) ?_
      refine ls_swF (by decide) ?_
      refine ls_swT (by decide) ?_
      refine lm_tg_of (t := 36) rfl ?_
      refine ls_iconst 0 f_141_36 (by decide) ?_
      refine ls_ireturn f_141_37 rI_141 ?_
      show lm_W _ _ _ _ [.int 0, .ref 75] _ _
      refine ls_dup2 f_139_13 rfl rfl ?_
      refine ls_ialdC 0 f_139_14 (lm_Lay_si hl _ _ _) S_75 ⟨by decide, by decide, by decide⟩ ?_
      refine ls_top (lm_i h 75 0) rfl ?_
      refine ls_iconst 1 f_139_15 (by decide) ?_
      refine ls_iadd ((lm_i h 75 0) + 1) f_139_16 rfl ?_
      refine ls_iastC 0 f_139_17 (lm_Lay_si hl _ _ _) S_75 ⟨by decide, by decide, by decide⟩ ?_
      refine ls_iload_n f_139_18 rfl ?_
      refine ls_ireturn f_139_19 rI_139 ?_
      show lm_W _ _ _ _ [.int (-1)] _ _
      exact ls_ireturn f_98_15 rI_98 hyp
    · refine ls_aload_n f_98_16 rfl ?_
      refine ls_getR f_98_17 p_98_12 hl S_0 F_0_0 ?_
      refine ls_getI f_98_20 p_98_111 hl S_1 ?_
      refine ls_iconst 5 f_98_23 (by decide) ?_
      refine ls_icmp_lt 34 f_98_24 rfl hyp (fun _ hyp => ?_) (fun _ hyp => ?_)
      · refine ls_aload_n f_98_34 rfl ?_
        refine ls_getR f_98_35 p_98_12 hl S_0 F_0_0 ?_
        refine ls_getR f_98_38 p_98_114 hl S_1 F_1_6 ?_
        refine ls_aload_n f_98_41 rfl ?_
        refine ls_getR f_98_42 p_98_12 hl S_0 F_0_0 ?_
        refine ls_getI f_98_45 p_98_111 hl S_1 ?_
        refine ls_iload_n f_98_48 rfl ?_
        refine ls_iast f_98_49 hl S_2 hyp (fun hyp => ?_)
        refine ls_aload_n f_98_50 rfl ?_
        refine ls_getR f_98_51 p_98_12 (lm_Lay_si hl _ _ _) S_0 F_0_0 ?_
        refine ls_dup f_98_54 rfl ?_
        refine ls_getI f_98_55 p_98_111 (lm_Lay_si hl _ _ _) S_1 ?_
        refine ls_top (lm_i h 1 0) rfl ?_
        refine ls_iconst 1 f_98_58 (by decide) ?_
        refine ls_iadd ((lm_i h 1 0) + 1) f_98_59 rfl ?_
        refine ls_putI f_98_60 p_98_111 (lm_Lay_si hl _ _ _) S_1 rfl ?_
        refine ls_aload_n f_98_63 rfl ?_
        refine ls_aload_n f_98_64 rfl ?_
        refine ls_getR f_98_65 p_98_12 (lm_Lay_si (lm_Lay_si hl _ _ _) _ _ _) S_0 F_0_0 ?_
        refine ls_getI f_98_68 p_98_111 (lm_Lay_si (lm_Lay_si hl _ _ _) _ _ _) S_1 ?_
        refine ls_top ((lm_i h 1 0) + 1) rfl ?_
        refine ls_iconst 1 f_98_71 (by decide) ?_
        refine ls_isub (((lm_i h 1 0) + 1) - 1) f_98_72 rfl ?_
        refine ls_invV (a := 0) f_98_73 q_98_117 [.int (((lm_i h 1 0) + 1) - 1)] [] rfl (Nat.le_of_ble_eq_true rfl) (lm_Lay_si (lm_Lay_si hl _ _ _) _ _ _) S_0 ow_140 ?_
        refine ls_enter [some (.ref 0), some (.int (((lm_i h 1 0) + 1) - 1))] ml_140 (Nat.le_of_ble_eq_true rfl) rfl ?_
        refine ls_aload_n f_140_0 rfl ?_
        refine ls_iconst 0 f_140_1 (by decide) ?_
        refine ls_putI f_140_2 p_140_97 (lm_Lay_si (lm_Lay_si hl _ _ _) _ _ _) S_0 rfl ?_
        refine ls_iload_n f_140_5 rfl ?_
        refine ls_ireturn f_140_6 rI_140 ?_
        show lm_W _ _ _ _ [.int (((lm_i h 1 0) + 1) - 1)] _ _
        exact ls_ireturn f_98_76 rI_98 hyp
      · refine ls_aload_n f_98_27 rfl ?_
        refine ls_bipush (-5) f_98_28 (by decide) ?_
        refine ls_invV (a := 0) f_98_30 q_98_107 [.int (-5)] [] rfl (Nat.le_of_ble_eq_true rfl) hl S_0 ow_139 ?_
        refine ls_enter [some (.ref 0), some (.int (-5))] ml_139 (Nat.le_of_ble_eq_true rfl) rfl ?_
        refine ls_aload_n f_139_0 rfl ?_
        refine ls_iload_n f_139_1 rfl ?_
        refine ls_putI f_139_2 p_139_97 hl S_0 rfl ?_
        refine ls_aload_n f_139_5 rfl ?_
        refine ls_getR f_139_6 p_139_94 (lm_Lay_si hl _ _ _) S_0 F_0_14 ?_
        refine ls_iload_n f_139_9 rfl ?_
        refine ls_invS f_139_10 q_139_337 [.int (-5)] [.ref 75] rfl (Nat.le_of_ble_eq_true rfl) ?_
        refine ls_enter [some (.int (-5))] ml_141 (Nat.le_of_ble_eq_true rfl) rfl ?_
        refine ls_iload_n f_141_0 rfl ?_
        refine ls_table f_141_1 (by decide) ?_
        refine ls_swT (by decide) ?_
        refine lm_tg_of (t := 42) rfl ?_
        refine ls_iconst 3 f_141_42 (by decide) ?_
        refine ls_ireturn f_141_43 rI_141 ?_
        show lm_W _ _ _ _ [.int 3, .ref 75] _ _
        refine ls_dup2 f_139_13 rfl rfl ?_
        refine ls_ialdC 3 f_139_14 (lm_Lay_si hl _ _ _) S_75 ⟨by decide, by decide, by decide⟩ ?_
        refine ls_top (lm_i h 75 3) rfl ?_
        refine ls_iconst 1 f_139_15 (by decide) ?_
        refine ls_iadd ((lm_i h 75 3) + 1) f_139_16 rfl ?_
        refine ls_iastC 3 f_139_17 (lm_Lay_si hl _ _ _) S_75 ⟨by decide, by decide, by decide⟩ ?_
        refine ls_iload_n f_139_18 rfl ?_
        refine ls_ireturn f_139_19 rI_139 ?_
        show lm_W _ _ _ _ [.int (-5)] _ _
        exact ls_ireturn f_98_33 rI_98 hyp
theorem e_99 {d : Nat} {h : lm_H} {K : Int32 → lm_H → Prop} (x1 : Int32) (hl : lm_Lay h) (hyp : (if x1 < 0 then (K (-1) (lm_si (lm_si h 0 15 (-1)) 75 0 ((lm_i h 75 0) + 1))) else (if 9 < x1 then (K (-1) (lm_si (lm_si h 0 15 (-1)) 75 0 ((lm_i h 75 0) + 1))) else (if (lm_i h 1 1) < 6 then (lm_in (lm_i h 1 1) 6 False (K (((lm_i h 1 1) + 1) - 1) (lm_si (lm_si (lm_si h 3 ((lm_i h 1 1).toNatClampNeg) x1) 1 1 ((lm_i h 1 1) + 1)) 0 15 0))) else (K (-5) (lm_si (lm_si h 0 15 (-5)) 75 3 ((lm_i h 75 3) + 1))))))) : lm_call (d + 3) 99 [.ref 0, .int x1] h (lm_kI K) := by
  refine ls_enter [some (.ref 0), some (.int x1)] ml_99 (Nat.le_of_ble_eq_true rfl) rfl ?_
  refine ls_iload_n f_99_0 rfl ?_
  refine ls_if_lt 10 f_99_1 rfl hyp (fun _ hyp => ?_) (fun _ hyp => ?_)
  · refine ls_aload_n f_99_10 rfl ?_
    refine ls_iconst (-1) f_99_11 (by decide) ?_
    refine ls_invV (a := 0) f_99_12 q_99_107 [.int (-1)] [] rfl (Nat.le_of_ble_eq_true rfl) hl S_0 ow_139 ?_
    refine ls_enter [some (.ref 0), some (.int (-1))] ml_139 (Nat.le_of_ble_eq_true rfl) rfl ?_
    refine ls_aload_n f_139_0 rfl ?_
    refine ls_iload_n f_139_1 rfl ?_
    refine ls_putI f_139_2 p_139_97 hl S_0 rfl ?_
    refine ls_aload_n f_139_5 rfl ?_
    refine ls_getR f_139_6 p_139_94 (lm_Lay_si hl _ _ _) S_0 F_0_14 ?_
    refine ls_iload_n f_139_9 rfl ?_
    refine ls_invS f_139_10 q_139_337 [.int (-1)] [.ref 75] rfl (Nat.le_of_ble_eq_true rfl) ?_
    refine ls_enter [some (.int (-1))] ml_141 (Nat.le_of_ble_eq_true rfl) rfl ?_
    refine ls_iload_n f_141_0 rfl ?_
    refine ls_table f_141_1 (by decide) ?_
    refine ls_swF (by decide) ?_
    refine ls_swF (by decide) ?_
    refine ls_swF (by decide) ?_
    refine ls_swF (by decide) ?_
    refine ls_swT (by decide) ?_
    refine lm_tg_of (t := 36) rfl ?_
    refine ls_iconst 0 f_141_36 (by decide) ?_
    refine ls_ireturn f_141_37 rI_141 ?_
    show lm_W _ _ _ _ [.int 0, .ref 75] _ _
    refine ls_dup2 f_139_13 rfl rfl ?_
    refine ls_ialdC 0 f_139_14 (lm_Lay_si hl _ _ _) S_75 ⟨by decide, by decide, by decide⟩ ?_
    refine ls_top (lm_i h 75 0) rfl ?_
    refine ls_iconst 1 f_139_15 (by decide) ?_
    refine ls_iadd ((lm_i h 75 0) + 1) f_139_16 rfl ?_
    refine ls_iastC 0 f_139_17 (lm_Lay_si hl _ _ _) S_75 ⟨by decide, by decide, by decide⟩ ?_
    refine ls_iload_n f_139_18 rfl ?_
    refine ls_ireturn f_139_19 rI_139 ?_
    show lm_W _ _ _ _ [.int (-1)] _ _
    exact ls_ireturn f_99_15 rI_99 hyp
  · refine ls_iload_n f_99_4 rfl ?_
    refine ls_bipush 9 f_99_5 (by decide) ?_
    refine ls_icmp_le 16 f_99_7 rfl hyp (fun _ hyp => ?_) (fun _ hyp => ?_)
    · refine ls_aload_n f_99_10 rfl ?_
      refine ls_iconst (-1) f_99_11 (by decide) ?_
      refine ls_invV (a := 0) f_99_12 q_99_107 [.int (-1)] [] rfl (Nat.le_of_ble_eq_true rfl) hl S_0 ow_139 ?_
      refine ls_enter [some (.ref 0), some (.int (-1))] ml_139 (Nat.le_of_ble_eq_true rfl) rfl ?_
      refine ls_aload_n f_139_0 rfl ?_
      refine ls_iload_n f_139_1 rfl ?_
      refine ls_putI f_139_2 p_139_97 hl S_0 rfl ?_
      refine ls_aload_n f_139_5 rfl ?_
      refine ls_getR f_139_6 p_139_94 (lm_Lay_si hl _ _ _) S_0 F_0_14 ?_
      refine ls_iload_n f_139_9 rfl ?_
      refine ls_invS f_139_10 q_139_337 [.int (-1)] [.ref 75] rfl (Nat.le_of_ble_eq_true rfl) ?_
      refine ls_enter [some (.int (-1))] ml_141 (Nat.le_of_ble_eq_true rfl) rfl ?_
      refine ls_iload_n f_141_0 rfl ?_
      refine ls_table f_141_1 (by decide) ?_
      refine ls_swF (by decide) ?_
      refine ls_swF (by decide) ?_
      refine ls_swF (by decide) ?_
      refine ls_swF (by decide) ?_
      refine ls_swT (by decide) ?_
      refine lm_tg_of (t := 36) rfl ?_
      refine ls_iconst 0 f_141_36 (by decide) ?_
      refine ls_ireturn f_141_37 rI_141 ?_
      show lm_W _ _ _ _ [.int 0, .ref 75] _ _
      refine ls_dup2 f_139_13 rfl rfl ?_
      refine ls_ialdC 0 f_139_14 (lm_Lay_si hl _ _ _) S_75 ⟨by decide, by decide, by decide⟩ ?_
      refine ls_top (lm_i h 75 0) rfl ?_
      refine ls_iconst 1 f_139_15 (by decide) ?_
      refine ls_iadd ((lm_i h 75 0) + 1) f_139_16 rfl ?_
      refine ls_iastC 0 f_139_17 (lm_Lay_si hl _ _ _) S_75 ⟨by decide, by decide, by decide⟩ ?_
      refine ls_iload_n f_139_18 rfl ?_
      refine ls_ireturn f_139_19 rI_139 ?_
      show lm_W _ _ _ _ [.int (-1)] _ _
      exact ls_ireturn f_99_15 rI_99 hyp
    · refine ls_aload_n f_99_16 rfl ?_
      refine ls_getR f_99_17 p_99_12 hl S_0 F_0_0 ?_
      refine ls_getI f_99_20 p_99_120 hl S_1 ?_
      refine ls_bipush 6 f_99_23 (by decide) ?_
      refine ls_icmp_lt 35 f_99_25 rfl hyp (fun _ hyp => ?_) (fun _ hyp => ?_)
      · refine ls_aload_n f_99_35 rfl ?_
        refine ls_getR f_99_36 p_99_12 hl S_0 F_0_0 ?_
        refine ls_getR f_99_39 p_99_123 hl S_1 F_1_7 ?_
        refine ls_aload_n f_99_42 rfl ?_
        refine ls_getR f_99_43 p_99_12 hl S_0 F_0_0 ?_
        refine ls_getI f_99_46 p_99_120 hl S_1 ?_
        refine ls_iload_n f_99_49 rfl ?_
        refine ls_iast f_99_50 hl S_3 hyp (fun hyp => ?_)
        refine ls_aload_n f_99_51 rfl ?_
        refine ls_getR f_99_52 p_99_12 (lm_Lay_si hl _ _ _) S_0 F_0_0 ?_
        refine ls_dup f_99_55 rfl ?_
        refine ls_getI f_99_56 p_99_120 (lm_Lay_si hl _ _ _) S_1 ?_
        refine ls_top (lm_i h 1 1) rfl ?_
        refine ls_iconst 1 f_99_59 (by decide) ?_
        refine ls_iadd ((lm_i h 1 1) + 1) f_99_60 rfl ?_
        refine ls_putI f_99_61 p_99_120 (lm_Lay_si hl _ _ _) S_1 rfl ?_
        refine ls_aload_n f_99_64 rfl ?_
        refine ls_aload_n f_99_65 rfl ?_
        refine ls_getR f_99_66 p_99_12 (lm_Lay_si (lm_Lay_si hl _ _ _) _ _ _) S_0 F_0_0 ?_
        refine ls_getI f_99_69 p_99_120 (lm_Lay_si (lm_Lay_si hl _ _ _) _ _ _) S_1 ?_
        refine ls_top ((lm_i h 1 1) + 1) rfl ?_
        refine ls_iconst 1 f_99_72 (by decide) ?_
        refine ls_isub (((lm_i h 1 1) + 1) - 1) f_99_73 rfl ?_
        refine ls_invV (a := 0) f_99_74 q_99_117 [.int (((lm_i h 1 1) + 1) - 1)] [] rfl (Nat.le_of_ble_eq_true rfl) (lm_Lay_si (lm_Lay_si hl _ _ _) _ _ _) S_0 ow_140 ?_
        refine ls_enter [some (.ref 0), some (.int (((lm_i h 1 1) + 1) - 1))] ml_140 (Nat.le_of_ble_eq_true rfl) rfl ?_
        refine ls_aload_n f_140_0 rfl ?_
        refine ls_iconst 0 f_140_1 (by decide) ?_
        refine ls_putI f_140_2 p_140_97 (lm_Lay_si (lm_Lay_si hl _ _ _) _ _ _) S_0 rfl ?_
        refine ls_iload_n f_140_5 rfl ?_
        refine ls_ireturn f_140_6 rI_140 ?_
        show lm_W _ _ _ _ [.int (((lm_i h 1 1) + 1) - 1)] _ _
        exact ls_ireturn f_99_77 rI_99 hyp
      · refine ls_aload_n f_99_28 rfl ?_
        refine ls_bipush (-5) f_99_29 (by decide) ?_
        refine ls_invV (a := 0) f_99_31 q_99_107 [.int (-5)] [] rfl (Nat.le_of_ble_eq_true rfl) hl S_0 ow_139 ?_
        refine ls_enter [some (.ref 0), some (.int (-5))] ml_139 (Nat.le_of_ble_eq_true rfl) rfl ?_
        refine ls_aload_n f_139_0 rfl ?_
        refine ls_iload_n f_139_1 rfl ?_
        refine ls_putI f_139_2 p_139_97 hl S_0 rfl ?_
        refine ls_aload_n f_139_5 rfl ?_
        refine ls_getR f_139_6 p_139_94 (lm_Lay_si hl _ _ _) S_0 F_0_14 ?_
        refine ls_iload_n f_139_9 rfl ?_
        refine ls_invS f_139_10 q_139_337 [.int (-5)] [.ref 75] rfl (Nat.le_of_ble_eq_true rfl) ?_
        refine ls_enter [some (.int (-5))] ml_141 (Nat.le_of_ble_eq_true rfl) rfl ?_
        refine ls_iload_n f_141_0 rfl ?_
        refine ls_table f_141_1 (by decide) ?_
        refine ls_swT (by decide) ?_
        refine lm_tg_of (t := 42) rfl ?_
        refine ls_iconst 3 f_141_42 (by decide) ?_
        refine ls_ireturn f_141_43 rI_141 ?_
        show lm_W _ _ _ _ [.int 3, .ref 75] _ _
        refine ls_dup2 f_139_13 rfl rfl ?_
        refine ls_ialdC 3 f_139_14 (lm_Lay_si hl _ _ _) S_75 ⟨by decide, by decide, by decide⟩ ?_
        refine ls_top (lm_i h 75 3) rfl ?_
        refine ls_iconst 1 f_139_15 (by decide) ?_
        refine ls_iadd ((lm_i h 75 3) + 1) f_139_16 rfl ?_
        refine ls_iastC 3 f_139_17 (lm_Lay_si hl _ _ _) S_75 ⟨by decide, by decide, by decide⟩ ?_
        refine ls_iload_n f_139_18 rfl ?_
        refine ls_ireturn f_139_19 rI_139 ?_
        show lm_W _ _ _ _ [.int (-5)] _ _
        exact ls_ireturn f_99_34 rI_99 hyp
theorem e_100 {d : Nat} {h : lm_H} {K : Int32 → lm_H → Prop} (x1 : Int32) (x2 : Int32) (x3 : Int32) (hl : lm_Lay h) (hyp : (if x3 < (-99) then (K (-1000000) (lm_si (lm_si h 0 15 (-1)) 75 0 ((lm_i h 75 0) + 1))) else (if 99 < x3 then (K (-1000000) (lm_si (lm_si h 0 15 (-1)) 75 0 ((lm_i h 75 0) + 1))) else (if x1 < 0 then (K (-1000000) (lm_si (lm_si h 0 15 (-2)) 75 1 ((lm_i h 75 1) + 1))) else (if x1 < (lm_i h 1 0) then (if x2 < 0 then (K (-1000000) (lm_si (lm_si h 0 15 (-2)) 75 1 ((lm_i h 75 1) + 1))) else (if x2 < (lm_i h 1 1) then (lm_in ((x1 * 6) + x2) 30 False (lm_in ((x1 * 6) + x2) 30 False (K (lm_i h 4 (((x1 * 6) + x2).toNatClampNeg)) (lm_si (lm_si h 4 (((x1 * 6) + x2).toNatClampNeg) x3) 0 15 0)))) else (K (-1000000) (lm_si (lm_si h 0 15 (-2)) 75 1 ((lm_i h 75 1) + 1))))) else (K (-1000000) (lm_si (lm_si h 0 15 (-2)) 75 1 ((lm_i h 75 1) + 1)))))))) : lm_call (d + 3) 100 [.ref 0, .int x1, .int x2, .int x3] h (lm_kI K) := by
  refine ls_enter [some (.ref 0), some (.int x1), some (.int x2), some (.int x3), none] ml_100 (Nat.le_of_ble_eq_true rfl) rfl ?_
  refine ls_iload_n f_100_0 rfl ?_
  refine ls_invS f_100_1 q_100_126 [.int x3] [] rfl (Nat.le_of_ble_eq_true rfl) ?_
  refine ls_enter [some (.int x3)] ml_146 (Nat.le_of_ble_eq_true rfl) rfl ?_
  refine ls_iload_n f_146_0 rfl ?_
  refine ls_bipush (-99) f_146_1 (by decide) ?_
  refine ls_icmp_lt 12 f_146_3 rfl hyp (fun _ hyp => ?_) (fun _ hyp => ?_)
  · refine ls_iconst 1 f_146_12 (by decide) ?_
    refine ls_goto 17 f_146_13 rfl ?_
    refine ls_zreturn f_146_17 rZ_146 (by decide) ?_
    show lm_W _ _ _ _ [.int 1] _ _
    refine ls_if_eq_F 16 f_100_4 rfl (by decide) ?_
    refine ls_aload_n f_100_7 rfl ?_
    refine ls_iconst (-1) f_100_8 (by decide) ?_
    refine ls_invV (a := 0) f_100_9 q_100_107 [.int (-1)] [] rfl (Nat.le_of_ble_eq_true rfl) hl S_0 ow_139 ?_
    refine ls_enter [some (.ref 0), some (.int (-1))] ml_139 (Nat.le_of_ble_eq_true rfl) rfl ?_
    refine ls_aload_n f_139_0 rfl ?_
    refine ls_iload_n f_139_1 rfl ?_
    refine ls_putI f_139_2 p_139_97 hl S_0 rfl ?_
    refine ls_aload_n f_139_5 rfl ?_
    refine ls_getR f_139_6 p_139_94 (lm_Lay_si hl _ _ _) S_0 F_0_14 ?_
    refine ls_iload_n f_139_9 rfl ?_
    refine ls_invS f_139_10 q_139_337 [.int (-1)] [.ref 75] rfl (Nat.le_of_ble_eq_true rfl) ?_
    refine ls_enter [some (.int (-1))] ml_141 (Nat.le_of_ble_eq_true rfl) rfl ?_
    refine ls_iload_n f_141_0 rfl ?_
    refine ls_table f_141_1 (by decide) ?_
    refine ls_swF (by decide) ?_
    refine ls_swF (by decide) ?_
    refine ls_swF (by decide) ?_
    refine ls_swF (by decide) ?_
    refine ls_swT (by decide) ?_
    refine lm_tg_of (t := 36) rfl ?_
    refine ls_iconst 0 f_141_36 (by decide) ?_
    refine ls_ireturn f_141_37 rI_141 ?_
    show lm_W _ _ _ _ [.int 0, .ref 75] _ _
    refine ls_dup2 f_139_13 rfl rfl ?_
    refine ls_ialdC 0 f_139_14 (lm_Lay_si hl _ _ _) S_75 ⟨by decide, by decide, by decide⟩ ?_
    refine ls_top (lm_i h 75 0) rfl ?_
    refine ls_iconst 1 f_139_15 (by decide) ?_
    refine ls_iadd ((lm_i h 75 0) + 1) f_139_16 rfl ?_
    refine ls_iastC 0 f_139_17 (lm_Lay_si hl _ _ _) S_75 ⟨by decide, by decide, by decide⟩ ?_
    refine ls_iload_n f_139_18 rfl ?_
    refine ls_ireturn f_139_19 rI_139 ?_
    show lm_W _ _ _ _ [.int (-1)] _ _
    refine ls_pop f_100_12 rfl ?_
    refine ls_ldc f_100_13 k_100_130 ?_
    exact ls_ireturn f_100_15 rI_100 hyp
  · refine ls_iload_n f_146_6 rfl ?_
    refine ls_bipush 99 f_146_7 (by decide) ?_
    refine ls_icmp_le 16 f_146_9 rfl hyp (fun _ hyp => ?_) (fun _ hyp => ?_)
    · refine ls_iconst 1 f_146_12 (by decide) ?_
      refine ls_goto 17 f_146_13 rfl ?_
      refine ls_zreturn f_146_17 rZ_146 (by decide) ?_
      show lm_W _ _ _ _ [.int 1] _ _
      refine ls_if_eq_F 16 f_100_4 rfl (by decide) ?_
      refine ls_aload_n f_100_7 rfl ?_
      refine ls_iconst (-1) f_100_8 (by decide) ?_
      refine ls_invV (a := 0) f_100_9 q_100_107 [.int (-1)] [] rfl (Nat.le_of_ble_eq_true rfl) hl S_0 ow_139 ?_
      refine ls_enter [some (.ref 0), some (.int (-1))] ml_139 (Nat.le_of_ble_eq_true rfl) rfl ?_
      refine ls_aload_n f_139_0 rfl ?_
      refine ls_iload_n f_139_1 rfl ?_
      refine ls_putI f_139_2 p_139_97 hl S_0 rfl ?_
      refine ls_aload_n f_139_5 rfl ?_
      refine ls_getR f_139_6 p_139_94 (lm_Lay_si hl _ _ _) S_0 F_0_14 ?_
      refine ls_iload_n f_139_9 rfl ?_
      refine ls_invS f_139_10 q_139_337 [.int (-1)] [.ref 75] rfl (Nat.le_of_ble_eq_true rfl) ?_
      refine ls_enter [some (.int (-1))] ml_141 (Nat.le_of_ble_eq_true rfl) rfl ?_
      refine ls_iload_n f_141_0 rfl ?_
      refine ls_table f_141_1 (by decide) ?_
      refine ls_swF (by decide) ?_
      refine ls_swF (by decide) ?_
      refine ls_swF (by decide) ?_
      refine ls_swF (by decide) ?_
      refine ls_swT (by decide) ?_
      refine lm_tg_of (t := 36) rfl ?_
      refine ls_iconst 0 f_141_36 (by decide) ?_
      refine ls_ireturn f_141_37 rI_141 ?_
      show lm_W _ _ _ _ [.int 0, .ref 75] _ _
      refine ls_dup2 f_139_13 rfl rfl ?_
      refine ls_ialdC 0 f_139_14 (lm_Lay_si hl _ _ _) S_75 ⟨by decide, by decide, by decide⟩ ?_
      refine ls_top (lm_i h 75 0) rfl ?_
      refine ls_iconst 1 f_139_15 (by decide) ?_
      refine ls_iadd ((lm_i h 75 0) + 1) f_139_16 rfl ?_
      refine ls_iastC 0 f_139_17 (lm_Lay_si hl _ _ _) S_75 ⟨by decide, by decide, by decide⟩ ?_
      refine ls_iload_n f_139_18 rfl ?_
      refine ls_ireturn f_139_19 rI_139 ?_
      show lm_W _ _ _ _ [.int (-1)] _ _
      refine ls_pop f_100_12 rfl ?_
      refine ls_ldc f_100_13 k_100_130 ?_
      exact ls_ireturn f_100_15 rI_100 hyp
    · refine ls_iconst 0 f_146_16 (by decide) ?_
      refine ls_zreturn f_146_17 rZ_146 (by decide) ?_
      show lm_W _ _ _ _ [.int 0] _ _
      refine ls_if_eq_T 16 f_100_4 rfl (by decide) ?_
      refine ls_aload_n f_100_16 rfl ?_
      refine ls_getR f_100_17 p_100_12 hl S_0 F_0_0 ?_
      refine ls_iload_n f_100_20 rfl ?_
      refine ls_iload_n f_100_21 rfl ?_
      refine ls_invV (a := 1) f_100_22 q_100_131 [.int x1, .int x2] [] rfl (Nat.le_of_ble_eq_true rfl) hl S_1 ow_51 ?_
      refine ls_enter [some (.ref 1), some (.int x1), some (.int x2)] ml_51 (Nat.le_of_ble_eq_true rfl) rfl ?_
      refine ls_aload_n f_51_0 rfl ?_
      refine ls_iload_n f_51_1 rfl ?_
      refine ls_invV (a := 1) f_51_2 q_51_55 [.int x1] [] rfl (Nat.le_of_ble_eq_true rfl) hl S_1 ow_49 ?_
      refine ls_enter [some (.ref 1), some (.int x1)] ml_49 (Nat.le_of_ble_eq_true rfl) rfl ?_
      refine ls_iload_n f_49_0 rfl ?_
      refine ls_if_lt 16 f_49_1 rfl hyp (fun _ hyp => ?_) (fun _ hyp => ?_)
      · refine ls_iconst 0 f_49_16 (by decide) ?_
        refine ls_zreturn f_49_17 rZ_49 (by decide) ?_
        show lm_W _ _ _ _ [.int 0] _ _
        refine ls_if_eq_T 20 f_51_5 rfl (by decide) ?_
        refine ls_iconst 0 f_51_20 (by decide) ?_
        refine ls_zreturn f_51_21 rZ_51 (by decide) ?_
        show lm_W _ _ _ _ [.int 0] _ _
        refine ls_if_ne_T 38 f_100_25 rfl (by decide) ?_
        refine ls_aload_n f_100_28 rfl ?_
        refine ls_bipush (-2) f_100_29 (by decide) ?_
        refine ls_invV (a := 0) f_100_31 q_100_107 [.int (-2)] [] rfl (Nat.le_of_ble_eq_true rfl) hl S_0 ow_139 ?_
        refine ls_enter [some (.ref 0), some (.int (-2))] ml_139 (Nat.le_of_ble_eq_true rfl) rfl ?_
        refine ls_aload_n f_139_0 rfl ?_
        refine ls_iload_n f_139_1 rfl ?_
        refine ls_putI f_139_2 p_139_97 hl S_0 rfl ?_
        refine ls_aload_n f_139_5 rfl ?_
        refine ls_getR f_139_6 p_139_94 (lm_Lay_si hl _ _ _) S_0 F_0_14 ?_
        refine ls_iload_n f_139_9 rfl ?_
        refine ls_invS f_139_10 q_139_337 [.int (-2)] [.ref 75] rfl (Nat.le_of_ble_eq_true rfl) ?_
        refine ls_enter [some (.int (-2))] ml_141 (Nat.le_of_ble_eq_true rfl) rfl ?_
        refine ls_iload_n f_141_0 rfl ?_
        refine ls_table f_141_1 (by decide) ?_
        refine ls_swF (by decide) ?_
        refine ls_swF (by decide) ?_
        refine ls_swF (by decide) ?_
        refine ls_swT (by decide) ?_
        refine lm_tg_of (t := 38) rfl ?_
        refine ls_iconst 1 f_141_38 (by decide) ?_
        refine ls_ireturn f_141_39 rI_141 ?_
        show lm_W _ _ _ _ [.int 1, .ref 75] _ _
        refine ls_dup2 f_139_13 rfl rfl ?_
        refine ls_ialdC 1 f_139_14 (lm_Lay_si hl _ _ _) S_75 ⟨by decide, by decide, by decide⟩ ?_
        refine ls_top (lm_i h 75 1) rfl ?_
        refine ls_iconst 1 f_139_15 (by decide) ?_
        refine ls_iadd ((lm_i h 75 1) + 1) f_139_16 rfl ?_
        refine ls_iastC 1 f_139_17 (lm_Lay_si hl _ _ _) S_75 ⟨by decide, by decide, by decide⟩ ?_
        refine ls_iload_n f_139_18 rfl ?_
        refine ls_ireturn f_139_19 rI_139 ?_
        show lm_W _ _ _ _ [.int (-2)] _ _
        refine ls_pop f_100_34 rfl ?_
        refine ls_ldc f_100_35 k_100_130 ?_
        exact ls_ireturn f_100_37 rI_100 hyp
      · refine ls_iload_n f_49_4 rfl ?_
        refine ls_aload_n f_49_5 rfl ?_
        refine ls_getI f_49_6 p_49_9 hl S_1 ?_
        refine ls_icmp_ge 16 f_49_9 rfl hyp (fun _ hyp => ?_) (fun _ hyp => ?_)
        · refine ls_iconst 1 f_49_12 (by decide) ?_
          refine ls_goto 17 f_49_13 rfl ?_
          refine ls_zreturn f_49_17 rZ_49 (by decide) ?_
          show lm_W _ _ _ _ [.int 1] _ _
          refine ls_if_eq_F 20 f_51_5 rfl (by decide) ?_
          refine ls_aload_n f_51_8 rfl ?_
          refine ls_iload_n f_51_9 rfl ?_
          refine ls_invV (a := 1) f_51_10 q_51_59 [.int x2] [] rfl (Nat.le_of_ble_eq_true rfl) hl S_1 ow_50 ?_
          refine ls_enter [some (.ref 1), some (.int x2)] ml_50 (Nat.le_of_ble_eq_true rfl) rfl ?_
          refine ls_iload_n f_50_0 rfl ?_
          refine ls_if_lt 16 f_50_1 rfl hyp (fun _ hyp => ?_) (fun _ hyp => ?_)
          · refine ls_iconst 0 f_50_16 (by decide) ?_
            refine ls_zreturn f_50_17 rZ_50 (by decide) ?_
            show lm_W _ _ _ _ [.int 0] _ _
            refine ls_if_eq_T 20 f_51_13 rfl (by decide) ?_
            refine ls_iconst 0 f_51_20 (by decide) ?_
            refine ls_zreturn f_51_21 rZ_51 (by decide) ?_
            show lm_W _ _ _ _ [.int 0] _ _
            refine ls_if_ne_T 38 f_100_25 rfl (by decide) ?_
            refine ls_aload_n f_100_28 rfl ?_
            refine ls_bipush (-2) f_100_29 (by decide) ?_
            refine ls_invV (a := 0) f_100_31 q_100_107 [.int (-2)] [] rfl (Nat.le_of_ble_eq_true rfl) hl S_0 ow_139 ?_
            refine ls_enter [some (.ref 0), some (.int (-2))] ml_139 (Nat.le_of_ble_eq_true rfl) rfl ?_
            refine ls_aload_n f_139_0 rfl ?_
            refine ls_iload_n f_139_1 rfl ?_
            refine ls_putI f_139_2 p_139_97 hl S_0 rfl ?_
            refine ls_aload_n f_139_5 rfl ?_
            refine ls_getR f_139_6 p_139_94 (lm_Lay_si hl _ _ _) S_0 F_0_14 ?_
            refine ls_iload_n f_139_9 rfl ?_
            refine ls_invS f_139_10 q_139_337 [.int (-2)] [.ref 75] rfl (Nat.le_of_ble_eq_true rfl) ?_
            refine ls_enter [some (.int (-2))] ml_141 (Nat.le_of_ble_eq_true rfl) rfl ?_
            refine ls_iload_n f_141_0 rfl ?_
            refine ls_table f_141_1 (by decide) ?_
            refine ls_swF (by decide) ?_
            refine ls_swF (by decide) ?_
            refine ls_swF (by decide) ?_
            refine ls_swT (by decide) ?_
            refine lm_tg_of (t := 38) rfl ?_
            refine ls_iconst 1 f_141_38 (by decide) ?_
            refine ls_ireturn f_141_39 rI_141 ?_
            show lm_W _ _ _ _ [.int 1, .ref 75] _ _
            refine ls_dup2 f_139_13 rfl rfl ?_
            refine ls_ialdC 1 f_139_14 (lm_Lay_si hl _ _ _) S_75 ⟨by decide, by decide, by decide⟩ ?_
            refine ls_top (lm_i h 75 1) rfl ?_
            refine ls_iconst 1 f_139_15 (by decide) ?_
            refine ls_iadd ((lm_i h 75 1) + 1) f_139_16 rfl ?_
            refine ls_iastC 1 f_139_17 (lm_Lay_si hl _ _ _) S_75 ⟨by decide, by decide, by decide⟩ ?_
            refine ls_iload_n f_139_18 rfl ?_
            refine ls_ireturn f_139_19 rI_139 ?_
            show lm_W _ _ _ _ [.int (-2)] _ _
            refine ls_pop f_100_34 rfl ?_
            refine ls_ldc f_100_35 k_100_130 ?_
            exact ls_ireturn f_100_37 rI_100 hyp
          · refine ls_iload_n f_50_4 rfl ?_
            refine ls_aload_n f_50_5 rfl ?_
            refine ls_getI f_50_6 p_50_15 hl S_1 ?_
            refine ls_icmp_ge 16 f_50_9 rfl hyp (fun _ hyp => ?_) (fun _ hyp => ?_)
            · refine ls_iconst 1 f_50_12 (by decide) ?_
              refine ls_goto 17 f_50_13 rfl ?_
              refine ls_zreturn f_50_17 rZ_50 (by decide) ?_
              show lm_W _ _ _ _ [.int 1] _ _
              refine ls_if_eq_F 20 f_51_13 rfl (by decide) ?_
              refine ls_iconst 1 f_51_16 (by decide) ?_
              refine ls_goto 21 f_51_17 rfl ?_
              refine ls_zreturn f_51_21 rZ_51 (by decide) ?_
              show lm_W _ _ _ _ [.int 1] _ _
              refine ls_if_ne_F 38 f_100_25 rfl (by decide) ?_
              refine ls_aload_n f_100_38 rfl ?_
              refine ls_getR f_100_39 p_100_12 hl S_0 F_0_0 ?_
              refine ls_getR f_100_42 p_100_135 hl S_1 F_1_8 ?_
              refine ls_iload_n f_100_45 rfl ?_
              refine ls_iload_n f_100_46 rfl ?_
              refine ls_invS f_100_47 q_100_138 [.int x1, .int x2] [.ref 4] rfl (Nat.le_of_ble_eq_true rfl) ?_
              refine ls_enter [some (.int x1), some (.int x2)] ml_147 (Nat.le_of_ble_eq_true rfl) rfl ?_
              refine ls_iload_n f_147_0 rfl ?_
              refine ls_bipush 6 f_147_1 (by decide) ?_
              refine ls_imul (x1 * 6) f_147_3 rfl ?_
              refine ls_iload_n f_147_4 rfl ?_
              refine ls_iadd ((x1 * 6) + x2) f_147_5 rfl ?_
              refine ls_ireturn f_147_6 rI_147 ?_
              show lm_W _ _ _ _ [.int ((x1 * 6) + x2), .ref 4] _ _
              refine ls_iald f_100_50 hl S_4 hyp (fun hyp => ?_)
              refine ls_istore [some (.ref 0), some (.int x1), some (.int x2), some (.int x3), some (.int (lm_i h 4 (((x1 * 6) + x2).toNatClampNeg)))] f_100_51 (Nat.le_of_ble_eq_true rfl) rfl ?_
              refine ls_aload_n f_100_53 rfl ?_
              refine ls_getR f_100_54 p_100_12 hl S_0 F_0_0 ?_
              refine ls_getR f_100_57 p_100_135 hl S_1 F_1_8 ?_
              refine ls_iload_n f_100_60 rfl ?_
              refine ls_iload_n f_100_61 rfl ?_
              refine ls_invS f_100_62 q_100_138 [.int x1, .int x2] [.ref 4] rfl (Nat.le_of_ble_eq_true rfl) ?_
              refine ls_enter [some (.int x1), some (.int x2)] ml_147 (Nat.le_of_ble_eq_true rfl) rfl ?_
              refine ls_iload_n f_147_0 rfl ?_
              refine ls_bipush 6 f_147_1 (by decide) ?_
              refine ls_imul (x1 * 6) f_147_3 rfl ?_
              refine ls_iload_n f_147_4 rfl ?_
              refine ls_iadd ((x1 * 6) + x2) f_147_5 rfl ?_
              refine ls_ireturn f_147_6 rI_147 ?_
              show lm_W _ _ _ _ [.int ((x1 * 6) + x2), .ref 4] _ _
              refine ls_iload_n f_100_65 rfl ?_
              refine ls_iast f_100_66 hl S_4 hyp (fun hyp => ?_)
              refine ls_aload_n f_100_67 rfl ?_
              refine ls_iload f_100_68 rfl ?_
              refine ls_invV (a := 0) f_100_70 q_100_117 [.int (lm_i h 4 (((x1 * 6) + x2).toNatClampNeg))] [] rfl (Nat.le_of_ble_eq_true rfl) (lm_Lay_si hl _ _ _) S_0 ow_140 ?_
              refine ls_enter [some (.ref 0), some (.int (lm_i h 4 (((x1 * 6) + x2).toNatClampNeg)))] ml_140 (Nat.le_of_ble_eq_true rfl) rfl ?_
              refine ls_aload_n f_140_0 rfl ?_
              refine ls_iconst 0 f_140_1 (by decide) ?_
              refine ls_putI f_140_2 p_140_97 (lm_Lay_si hl _ _ _) S_0 rfl ?_
              refine ls_iload_n f_140_5 rfl ?_
              refine ls_ireturn f_140_6 rI_140 ?_
              show lm_W _ _ _ _ [.int (lm_i h 4 (((x1 * 6) + x2).toNatClampNeg))] _ _
              exact ls_ireturn f_100_73 rI_100 hyp
            · refine ls_iconst 0 f_50_16 (by decide) ?_
              refine ls_zreturn f_50_17 rZ_50 (by decide) ?_
              show lm_W _ _ _ _ [.int 0] _ _
              refine ls_if_eq_T 20 f_51_13 rfl (by decide) ?_
              refine ls_iconst 0 f_51_20 (by decide) ?_
              refine ls_zreturn f_51_21 rZ_51 (by decide) ?_
              show lm_W _ _ _ _ [.int 0] _ _
              refine ls_if_ne_T 38 f_100_25 rfl (by decide) ?_
              refine ls_aload_n f_100_28 rfl ?_
              refine ls_bipush (-2) f_100_29 (by decide) ?_
              refine ls_invV (a := 0) f_100_31 q_100_107 [.int (-2)] [] rfl (Nat.le_of_ble_eq_true rfl) hl S_0 ow_139 ?_
              refine ls_enter [some (.ref 0), some (.int (-2))] ml_139 (Nat.le_of_ble_eq_true rfl) rfl ?_
              refine ls_aload_n f_139_0 rfl ?_
              refine ls_iload_n f_139_1 rfl ?_
              refine ls_putI f_139_2 p_139_97 hl S_0 rfl ?_
              refine ls_aload_n f_139_5 rfl ?_
              refine ls_getR f_139_6 p_139_94 (lm_Lay_si hl _ _ _) S_0 F_0_14 ?_
              refine ls_iload_n f_139_9 rfl ?_
              refine ls_invS f_139_10 q_139_337 [.int (-2)] [.ref 75] rfl (Nat.le_of_ble_eq_true rfl) ?_
              refine ls_enter [some (.int (-2))] ml_141 (Nat.le_of_ble_eq_true rfl) rfl ?_
              refine ls_iload_n f_141_0 rfl ?_
              refine ls_table f_141_1 (by decide) ?_
              refine ls_swF (by decide) ?_
              refine ls_swF (by decide) ?_
              refine ls_swF (by decide) ?_
              refine ls_swT (by decide) ?_
              refine lm_tg_of (t := 38) rfl ?_
              refine ls_iconst 1 f_141_38 (by decide) ?_
              refine ls_ireturn f_141_39 rI_141 ?_
              show lm_W _ _ _ _ [.int 1, .ref 75] _ _
              refine ls_dup2 f_139_13 rfl rfl ?_
              refine ls_ialdC 1 f_139_14 (lm_Lay_si hl _ _ _) S_75 ⟨by decide, by decide, by decide⟩ ?_
              refine ls_top (lm_i h 75 1) rfl ?_
              refine ls_iconst 1 f_139_15 (by decide) ?_
              refine ls_iadd ((lm_i h 75 1) + 1) f_139_16 rfl ?_
              refine ls_iastC 1 f_139_17 (lm_Lay_si hl _ _ _) S_75 ⟨by decide, by decide, by decide⟩ ?_
              refine ls_iload_n f_139_18 rfl ?_
              refine ls_ireturn f_139_19 rI_139 ?_
              show lm_W _ _ _ _ [.int (-2)] _ _
              refine ls_pop f_100_34 rfl ?_
              refine ls_ldc f_100_35 k_100_130 ?_
              exact ls_ireturn f_100_37 rI_100 hyp
        · refine ls_iconst 0 f_49_16 (by decide) ?_
          refine ls_zreturn f_49_17 rZ_49 (by decide) ?_
          show lm_W _ _ _ _ [.int 0] _ _
          refine ls_if_eq_T 20 f_51_5 rfl (by decide) ?_
          refine ls_iconst 0 f_51_20 (by decide) ?_
          refine ls_zreturn f_51_21 rZ_51 (by decide) ?_
          show lm_W _ _ _ _ [.int 0] _ _
          refine ls_if_ne_T 38 f_100_25 rfl (by decide) ?_
          refine ls_aload_n f_100_28 rfl ?_
          refine ls_bipush (-2) f_100_29 (by decide) ?_
          refine ls_invV (a := 0) f_100_31 q_100_107 [.int (-2)] [] rfl (Nat.le_of_ble_eq_true rfl) hl S_0 ow_139 ?_
          refine ls_enter [some (.ref 0), some (.int (-2))] ml_139 (Nat.le_of_ble_eq_true rfl) rfl ?_
          refine ls_aload_n f_139_0 rfl ?_
          refine ls_iload_n f_139_1 rfl ?_
          refine ls_putI f_139_2 p_139_97 hl S_0 rfl ?_
          refine ls_aload_n f_139_5 rfl ?_
          refine ls_getR f_139_6 p_139_94 (lm_Lay_si hl _ _ _) S_0 F_0_14 ?_
          refine ls_iload_n f_139_9 rfl ?_
          refine ls_invS f_139_10 q_139_337 [.int (-2)] [.ref 75] rfl (Nat.le_of_ble_eq_true rfl) ?_
          refine ls_enter [some (.int (-2))] ml_141 (Nat.le_of_ble_eq_true rfl) rfl ?_
          refine ls_iload_n f_141_0 rfl ?_
          refine ls_table f_141_1 (by decide) ?_
          refine ls_swF (by decide) ?_
          refine ls_swF (by decide) ?_
          refine ls_swF (by decide) ?_
          refine ls_swT (by decide) ?_
          refine lm_tg_of (t := 38) rfl ?_
          refine ls_iconst 1 f_141_38 (by decide) ?_
          refine ls_ireturn f_141_39 rI_141 ?_
          show lm_W _ _ _ _ [.int 1, .ref 75] _ _
          refine ls_dup2 f_139_13 rfl rfl ?_
          refine ls_ialdC 1 f_139_14 (lm_Lay_si hl _ _ _) S_75 ⟨by decide, by decide, by decide⟩ ?_
          refine ls_top (lm_i h 75 1) rfl ?_
          refine ls_iconst 1 f_139_15 (by decide) ?_
          refine ls_iadd ((lm_i h 75 1) + 1) f_139_16 rfl ?_
          refine ls_iastC 1 f_139_17 (lm_Lay_si hl _ _ _) S_75 ⟨by decide, by decide, by decide⟩ ?_
          refine ls_iload_n f_139_18 rfl ?_
          refine ls_ireturn f_139_19 rI_139 ?_
          show lm_W _ _ _ _ [.int (-2)] _ _
          refine ls_pop f_100_34 rfl ?_
          refine ls_ldc f_100_35 k_100_130 ?_
          exact ls_ireturn f_100_37 rI_100 hyp
theorem e_101 {d : Nat} {h : lm_H} {K : Int32 → lm_H → Prop} (x1 : Int32) (x2 : Int32) (x3 : Int32) (hl : lm_Lay h) (hyp : (if x1 < 0 then (K (-1000000) h) else (if x1 < (lm_i h 1 0) then (if x2 < 0 then (K (-1000000) h) else (if x2 < (lm_i h 1 1) then (if x3 = 0 then (lm_in ((x1 * 6) + x2) 30 False (K (lm_i h 4 (((x1 * 6) + x2).toNatClampNeg)) h)) else (if x3 = 1 then (lm_call (d + 2) 143 [.ref 0] h (lm_kV fun h1 => lm_in ((x1 * 7) + x2) 35 False (K (lm_i h1 22 (((x1 * 7) + x2).toNatClampNeg)) h1))) else (if x3 = 2 then (lm_call (d + 2) 143 [.ref 0] h (lm_kV fun h2 => lm_in ((x1 * 7) + x2) 35 False (if (lm_i h2 23 (((x1 * 7) + x2).toNatClampNeg)) = 0 then (K 0 h2) else (K 1 h2)))) else (K (-1000000) h)))) else (K (-1000000) h))) else (K (-1000000) h)))) : lm_call (d + 3) 101 [.ref 0, .int x1, .int x2, .int x3] h (lm_kI K) := by
  refine ls_enter [some (.ref 0), some (.int x1), some (.int x2), some (.int x3)] ml_101 (Nat.le_of_ble_eq_true rfl) rfl ?_
  refine ls_aload_n f_101_0 rfl ?_
  refine ls_getR f_101_1 p_101_12 hl S_0 F_0_0 ?_
  refine ls_iload_n f_101_4 rfl ?_
  refine ls_iload_n f_101_5 rfl ?_
  refine ls_invV (a := 1) f_101_6 q_101_131 [.int x1, .int x2] [] rfl (Nat.le_of_ble_eq_true rfl) hl S_1 ow_51 ?_
  refine ls_enter [some (.ref 1), some (.int x1), some (.int x2)] ml_51 (Nat.le_of_ble_eq_true rfl) rfl ?_
  refine ls_aload_n f_51_0 rfl ?_
  refine ls_iload_n f_51_1 rfl ?_
  refine ls_invV (a := 1) f_51_2 q_51_55 [.int x1] [] rfl (Nat.le_of_ble_eq_true rfl) hl S_1 ow_49 ?_
  refine ls_enter [some (.ref 1), some (.int x1)] ml_49 (Nat.le_of_ble_eq_true rfl) rfl ?_
  refine ls_iload_n f_49_0 rfl ?_
  refine ls_if_lt 16 f_49_1 rfl hyp (fun _ hyp => ?_) (fun _ hyp => ?_)
  · refine ls_iconst 0 f_49_16 (by decide) ?_
    refine ls_zreturn f_49_17 rZ_49 (by decide) ?_
    show lm_W _ _ _ _ [.int 0] _ _
    refine ls_if_eq_T 20 f_51_5 rfl (by decide) ?_
    refine ls_iconst 0 f_51_20 (by decide) ?_
    refine ls_zreturn f_51_21 rZ_51 (by decide) ?_
    show lm_W _ _ _ _ [.int 0] _ _
    refine ls_if_ne_T 15 f_101_9 rfl (by decide) ?_
    refine ls_ldc f_101_12 k_101_130 ?_
    exact ls_ireturn f_101_14 rI_101 hyp
  · refine ls_iload_n f_49_4 rfl ?_
    refine ls_aload_n f_49_5 rfl ?_
    refine ls_getI f_49_6 p_49_9 hl S_1 ?_
    refine ls_icmp_ge 16 f_49_9 rfl hyp (fun _ hyp => ?_) (fun _ hyp => ?_)
    · refine ls_iconst 1 f_49_12 (by decide) ?_
      refine ls_goto 17 f_49_13 rfl ?_
      refine ls_zreturn f_49_17 rZ_49 (by decide) ?_
      show lm_W _ _ _ _ [.int 1] _ _
      refine ls_if_eq_F 20 f_51_5 rfl (by decide) ?_
      refine ls_aload_n f_51_8 rfl ?_
      refine ls_iload_n f_51_9 rfl ?_
      refine ls_invV (a := 1) f_51_10 q_51_59 [.int x2] [] rfl (Nat.le_of_ble_eq_true rfl) hl S_1 ow_50 ?_
      refine ls_enter [some (.ref 1), some (.int x2)] ml_50 (Nat.le_of_ble_eq_true rfl) rfl ?_
      refine ls_iload_n f_50_0 rfl ?_
      refine ls_if_lt 16 f_50_1 rfl hyp (fun _ hyp => ?_) (fun _ hyp => ?_)
      · refine ls_iconst 0 f_50_16 (by decide) ?_
        refine ls_zreturn f_50_17 rZ_50 (by decide) ?_
        show lm_W _ _ _ _ [.int 0] _ _
        refine ls_if_eq_T 20 f_51_13 rfl (by decide) ?_
        refine ls_iconst 0 f_51_20 (by decide) ?_
        refine ls_zreturn f_51_21 rZ_51 (by decide) ?_
        show lm_W _ _ _ _ [.int 0] _ _
        refine ls_if_ne_T 15 f_101_9 rfl (by decide) ?_
        refine ls_ldc f_101_12 k_101_130 ?_
        exact ls_ireturn f_101_14 rI_101 hyp
      · refine ls_iload_n f_50_4 rfl ?_
        refine ls_aload_n f_50_5 rfl ?_
        refine ls_getI f_50_6 p_50_15 hl S_1 ?_
        refine ls_icmp_ge 16 f_50_9 rfl hyp (fun _ hyp => ?_) (fun _ hyp => ?_)
        · refine ls_iconst 1 f_50_12 (by decide) ?_
          refine ls_goto 17 f_50_13 rfl ?_
          refine ls_zreturn f_50_17 rZ_50 (by decide) ?_
          show lm_W _ _ _ _ [.int 1] _ _
          refine ls_if_eq_F 20 f_51_13 rfl (by decide) ?_
          refine ls_iconst 1 f_51_16 (by decide) ?_
          refine ls_goto 21 f_51_17 rfl ?_
          refine ls_zreturn f_51_21 rZ_51 (by decide) ?_
          show lm_W _ _ _ _ [.int 1] _ _
          refine ls_if_ne_F 15 f_101_9 rfl (by decide) ?_
          refine ls_iload_n f_101_15 rfl ?_
          refine ls_table f_101_16 (by decide) ?_
          refine ls_swC (v := 0) (by decide) hyp (fun _ hyp => lm_tg_of (t := 44) rfl ?_) (fun _ hyp => ?_)
          · refine ls_aload_n f_101_44 rfl ?_
            refine ls_getR f_101_45 p_101_12 hl S_0 F_0_0 ?_
            refine ls_getR f_101_48 p_101_135 hl S_1 F_1_8 ?_
            refine ls_iload_n f_101_51 rfl ?_
            refine ls_iload_n f_101_52 rfl ?_
            refine ls_invS f_101_53 q_101_138 [.int x1, .int x2] [.ref 4] rfl (Nat.le_of_ble_eq_true rfl) ?_
            refine ls_enter [some (.int x1), some (.int x2)] ml_147 (Nat.le_of_ble_eq_true rfl) rfl ?_
            refine ls_iload_n f_147_0 rfl ?_
            refine ls_bipush 6 f_147_1 (by decide) ?_
            refine ls_imul (x1 * 6) f_147_3 rfl ?_
            refine ls_iload_n f_147_4 rfl ?_
            refine ls_iadd ((x1 * 6) + x2) f_147_5 rfl ?_
            refine ls_ireturn f_147_6 rI_147 ?_
            show lm_W _ _ _ _ [.int ((x1 * 6) + x2), .ref 4] _ _
            refine ls_iald f_101_56 hl S_4 hyp (fun hyp => ?_)
            exact ls_ireturn f_101_57 rI_101 hyp
          refine ls_swC (v := 1) (by decide) hyp (fun _ hyp => lm_tg_of (t := 58) rfl ?_) (fun _ hyp => ?_)
          · refine ls_aload_n f_101_58 rfl ?_
            refine ls_invV (a := 0) f_101_59 q_101_142 [] [] rfl (Nat.le_of_ble_eq_true rfl) hl S_0 ow_143 ?_
            refine ls_call hyp hl (fun _ h1 hl1 hyp => ?_)
            refine ls_retV hyp (fun hyp => ?_)
            refine ls_aload_n f_101_62 rfl ?_
            refine ls_getR f_101_63 p_101_48 hl1 S_0 F_0_6 ?_
            refine ls_getR f_101_66 p_101_145 hl1 S_21 F_21_4 ?_
            refine ls_iload_n f_101_69 rfl ?_
            refine ls_iload_n f_101_70 rfl ?_
            refine ls_invS f_101_71 q_101_148 [.int x1, .int x2] [.ref 22] rfl (Nat.le_of_ble_eq_true rfl) ?_
            refine ls_enter [some (.int x1), some (.int x2)] ml_148 (Nat.le_of_ble_eq_true rfl) rfl ?_
            refine ls_iload_n f_148_0 rfl ?_
            refine ls_bipush 7 f_148_1 (by decide) ?_
            refine ls_imul (x1 * 7) f_148_3 rfl ?_
            refine ls_iload_n f_148_4 rfl ?_
            refine ls_iadd ((x1 * 7) + x2) f_148_5 rfl ?_
            refine ls_ireturn f_148_6 rI_148 ?_
            show lm_W _ _ _ _ [.int ((x1 * 7) + x2), .ref 22] _ _
            refine ls_iald f_101_74 hl1 S_22 hyp (fun hyp => ?_)
            exact ls_ireturn f_101_75 rI_101 hyp
          refine ls_swC (v := 2) (by decide) hyp (fun _ hyp => lm_tg_of (t := 76) rfl ?_) (fun _ hyp => ?_)
          · refine ls_aload_n f_101_76 rfl ?_
            refine ls_invV (a := 0) f_101_77 q_101_142 [] [] rfl (Nat.le_of_ble_eq_true rfl) hl S_0 ow_143 ?_
            refine ls_call hyp hl (fun _ h2 hl2 hyp => ?_)
            refine ls_retV hyp (fun hyp => ?_)
            refine ls_aload_n f_101_80 rfl ?_
            refine ls_getR f_101_81 p_101_48 hl2 S_0 F_0_6 ?_
            refine ls_getR f_101_84 p_101_151 hl2 S_21 F_21_5 ?_
            refine ls_iload_n f_101_87 rfl ?_
            refine ls_iload_n f_101_88 rfl ?_
            refine ls_invS f_101_89 q_101_148 [.int x1, .int x2] [.ref 23] rfl (Nat.le_of_ble_eq_true rfl) ?_
            refine ls_enter [some (.int x1), some (.int x2)] ml_148 (Nat.le_of_ble_eq_true rfl) rfl ?_
            refine ls_iload_n f_148_0 rfl ?_
            refine ls_bipush 7 f_148_1 (by decide) ?_
            refine ls_imul (x1 * 7) f_148_3 rfl ?_
            refine ls_iload_n f_148_4 rfl ?_
            refine ls_iadd ((x1 * 7) + x2) f_148_5 rfl ?_
            refine ls_ireturn f_148_6 rI_148 ?_
            show lm_W _ _ _ _ [.int ((x1 * 7) + x2), .ref 23] _ _
            refine ls_zald f_101_92 hl2 S_23 hyp (fun hyp => ?_)
            refine ls_if_eq 100 f_101_93 rfl hyp (fun _ hyp => ?_) (fun _ hyp => ?_)
            · refine ls_iconst 0 f_101_100 (by decide) ?_
              exact ls_ireturn f_101_101 rI_101 hyp
            · refine ls_iconst 1 f_101_96 (by decide) ?_
              refine ls_goto 101 f_101_97 rfl ?_
              exact ls_ireturn f_101_101 rI_101 hyp
          refine ls_swD ?_
          refine lm_tg_of (t := 102) rfl ?_
          refine ls_ldc f_101_102 k_101_130 ?_
          exact ls_ireturn f_101_104 rI_101 hyp
        · refine ls_iconst 0 f_50_16 (by decide) ?_
          refine ls_zreturn f_50_17 rZ_50 (by decide) ?_
          show lm_W _ _ _ _ [.int 0] _ _
          refine ls_if_eq_T 20 f_51_13 rfl (by decide) ?_
          refine ls_iconst 0 f_51_20 (by decide) ?_
          refine ls_zreturn f_51_21 rZ_51 (by decide) ?_
          show lm_W _ _ _ _ [.int 0] _ _
          refine ls_if_ne_T 15 f_101_9 rfl (by decide) ?_
          refine ls_ldc f_101_12 k_101_130 ?_
          exact ls_ireturn f_101_14 rI_101 hyp
    · refine ls_iconst 0 f_49_16 (by decide) ?_
      refine ls_zreturn f_49_17 rZ_49 (by decide) ?_
      show lm_W _ _ _ _ [.int 0] _ _
      refine ls_if_eq_T 20 f_51_5 rfl (by decide) ?_
      refine ls_iconst 0 f_51_20 (by decide) ?_
      refine ls_zreturn f_51_21 rZ_51 (by decide) ?_
      show lm_W _ _ _ _ [.int 0] _ _
      refine ls_if_ne_T 15 f_101_9 rfl (by decide) ?_
      refine ls_ldc f_101_12 k_101_130 ?_
      exact ls_ireturn f_101_14 rI_101 hyp
theorem e_102 {d : Nat} {h : lm_H} {K : Int32 → lm_H → Prop} (x1 : Int32) (x2 : Int32) (hl : lm_Lay h) (hyp : (if x1 = 0 then (if x2 < 0 then (if x1 = 1 then (if x2 < (-99) then (K (-1000000) (lm_si (lm_si h 0 15 (-1)) 75 0 ((lm_i h 75 0) + 1))) else (if 99 < x2 then (K (-1000000) (lm_si (lm_si h 0 15 (-1)) 75 0 ((lm_i h 75 0) + 1))) else (K (lm_i h 1 3) (lm_si (lm_si h 1 3 x2) 0 15 0)))) else (K (-1000000) (lm_si (lm_si h 0 15 (-1)) 75 0 ((lm_i h 75 0) + 1)))) else (if 2 < x2 then (if x1 = 1 then (if x2 < (-99) then (K (-1000000) (lm_si (lm_si h 0 15 (-1)) 75 0 ((lm_i h 75 0) + 1))) else (if 99 < x2 then (K (-1000000) (lm_si (lm_si h 0 15 (-1)) 75 0 ((lm_i h 75 0) + 1))) else (K (lm_i h 1 3) (lm_si (lm_si h 1 3 x2) 0 15 0)))) else (K (-1000000) (lm_si (lm_si h 0 15 (-1)) 75 0 ((lm_i h 75 0) + 1)))) else (K (lm_i h 1 2) (lm_si (lm_si h 1 2 x2) 0 15 0)))) else (if x1 = 1 then (if x2 < (-99) then (K (-1000000) (lm_si (lm_si h 0 15 (-1)) 75 0 ((lm_i h 75 0) + 1))) else (if 99 < x2 then (K (-1000000) (lm_si (lm_si h 0 15 (-1)) 75 0 ((lm_i h 75 0) + 1))) else (K (lm_i h 1 3) (lm_si (lm_si h 1 3 x2) 0 15 0)))) else (K (-1000000) (lm_si (lm_si h 0 15 (-1)) 75 0 ((lm_i h 75 0) + 1)))))) : lm_call (d + 3) 102 [.ref 0, .int x1, .int x2] h (lm_kI K) := by
  refine ls_enter [some (.ref 0), some (.int x1), some (.int x2), none] ml_102 (Nat.le_of_ble_eq_true rfl) rfl ?_
  refine ls_iload_n f_102_0 rfl ?_
  refine ls_if_ne 35 f_102_1 rfl hyp (fun _ hyp => ?_) (fun _ hyp => ?_)
  · refine ls_iload_n f_102_4 rfl ?_
    refine ls_if_lt 35 f_102_5 rfl hyp (fun _ hyp => ?_) (fun _ hyp => ?_)
    · refine ls_iload_n f_102_35 rfl ?_
      refine ls_iconst 1 f_102_36 (by decide) ?_
      refine ls_icmp_ne 69 f_102_37 rfl hyp (fun _ hyp => ?_) (fun _ hyp => ?_)
      · refine ls_iload_n f_102_40 rfl ?_
        refine ls_invS f_102_41 q_102_126 [.int x2] [] rfl (Nat.le_of_ble_eq_true rfl) ?_
        refine ls_enter [some (.int x2)] ml_146 (Nat.le_of_ble_eq_true rfl) rfl ?_
        refine ls_iload_n f_146_0 rfl ?_
        refine ls_bipush (-99) f_146_1 (by decide) ?_
        refine ls_icmp_lt 12 f_146_3 rfl hyp (fun _ hyp => ?_) (fun _ hyp => ?_)
        · refine ls_iconst 1 f_146_12 (by decide) ?_
          refine ls_goto 17 f_146_13 rfl ?_
          refine ls_zreturn f_146_17 rZ_146 (by decide) ?_
          show lm_W _ _ _ _ [.int 1] _ _
          refine ls_if_ne_F 69 f_102_44 rfl (by decide) ?_
          refine ls_aload_n f_102_69 rfl ?_
          refine ls_iconst (-1) f_102_70 (by decide) ?_
          refine ls_invV (a := 0) f_102_71 q_102_107 [.int (-1)] [] rfl (Nat.le_of_ble_eq_true rfl) hl S_0 ow_139 ?_
          refine ls_enter [some (.ref 0), some (.int (-1))] ml_139 (Nat.le_of_ble_eq_true rfl) rfl ?_
          refine ls_aload_n f_139_0 rfl ?_
          refine ls_iload_n f_139_1 rfl ?_
          refine ls_putI f_139_2 p_139_97 hl S_0 rfl ?_
          refine ls_aload_n f_139_5 rfl ?_
          refine ls_getR f_139_6 p_139_94 (lm_Lay_si hl _ _ _) S_0 F_0_14 ?_
          refine ls_iload_n f_139_9 rfl ?_
          refine ls_invS f_139_10 q_139_337 [.int (-1)] [.ref 75] rfl (Nat.le_of_ble_eq_true rfl) ?_
          refine ls_enter [some (.int (-1))] ml_141 (Nat.le_of_ble_eq_true rfl) rfl ?_
          refine ls_iload_n f_141_0 rfl ?_
          refine ls_table f_141_1 (by decide) ?_
          refine ls_swF (by decide) ?_
          refine ls_swF (by decide) ?_
          refine ls_swF (by decide) ?_
          refine ls_swF (by decide) ?_
          refine ls_swT (by decide) ?_
          refine lm_tg_of (t := 36) rfl ?_
          refine ls_iconst 0 f_141_36 (by decide) ?_
          refine ls_ireturn f_141_37 rI_141 ?_
          show lm_W _ _ _ _ [.int 0, .ref 75] _ _
          refine ls_dup2 f_139_13 rfl rfl ?_
          refine ls_ialdC 0 f_139_14 (lm_Lay_si hl _ _ _) S_75 ⟨by decide, by decide, by decide⟩ ?_
          refine ls_top (lm_i h 75 0) rfl ?_
          refine ls_iconst 1 f_139_15 (by decide) ?_
          refine ls_iadd ((lm_i h 75 0) + 1) f_139_16 rfl ?_
          refine ls_iastC 0 f_139_17 (lm_Lay_si hl _ _ _) S_75 ⟨by decide, by decide, by decide⟩ ?_
          refine ls_iload_n f_139_18 rfl ?_
          refine ls_ireturn f_139_19 rI_139 ?_
          show lm_W _ _ _ _ [.int (-1)] _ _
          refine ls_pop f_102_74 rfl ?_
          refine ls_ldc f_102_75 k_102_130 ?_
          exact ls_ireturn f_102_77 rI_102 hyp
        · refine ls_iload_n f_146_6 rfl ?_
          refine ls_bipush 99 f_146_7 (by decide) ?_
          refine ls_icmp_le 16 f_146_9 rfl hyp (fun _ hyp => ?_) (fun _ hyp => ?_)
          · refine ls_iconst 1 f_146_12 (by decide) ?_
            refine ls_goto 17 f_146_13 rfl ?_
            refine ls_zreturn f_146_17 rZ_146 (by decide) ?_
            show lm_W _ _ _ _ [.int 1] _ _
            refine ls_if_ne_F 69 f_102_44 rfl (by decide) ?_
            refine ls_aload_n f_102_69 rfl ?_
            refine ls_iconst (-1) f_102_70 (by decide) ?_
            refine ls_invV (a := 0) f_102_71 q_102_107 [.int (-1)] [] rfl (Nat.le_of_ble_eq_true rfl) hl S_0 ow_139 ?_
            refine ls_enter [some (.ref 0), some (.int (-1))] ml_139 (Nat.le_of_ble_eq_true rfl) rfl ?_
            refine ls_aload_n f_139_0 rfl ?_
            refine ls_iload_n f_139_1 rfl ?_
            refine ls_putI f_139_2 p_139_97 hl S_0 rfl ?_
            refine ls_aload_n f_139_5 rfl ?_
            refine ls_getR f_139_6 p_139_94 (lm_Lay_si hl _ _ _) S_0 F_0_14 ?_
            refine ls_iload_n f_139_9 rfl ?_
            refine ls_invS f_139_10 q_139_337 [.int (-1)] [.ref 75] rfl (Nat.le_of_ble_eq_true rfl) ?_
            refine ls_enter [some (.int (-1))] ml_141 (Nat.le_of_ble_eq_true rfl) rfl ?_
            refine ls_iload_n f_141_0 rfl ?_
            refine ls_table f_141_1 (by decide) ?_
            refine ls_swF (by decide) ?_
            refine ls_swF (by decide) ?_
            refine ls_swF (by decide) ?_
            refine ls_swF (by decide) ?_
            refine ls_swT (by decide) ?_
            refine lm_tg_of (t := 36) rfl ?_
            refine ls_iconst 0 f_141_36 (by decide) ?_
            refine ls_ireturn f_141_37 rI_141 ?_
            show lm_W _ _ _ _ [.int 0, .ref 75] _ _
            refine ls_dup2 f_139_13 rfl rfl ?_
            refine ls_ialdC 0 f_139_14 (lm_Lay_si hl _ _ _) S_75 ⟨by decide, by decide, by decide⟩ ?_
            refine ls_top (lm_i h 75 0) rfl ?_
            refine ls_iconst 1 f_139_15 (by decide) ?_
            refine ls_iadd ((lm_i h 75 0) + 1) f_139_16 rfl ?_
            refine ls_iastC 0 f_139_17 (lm_Lay_si hl _ _ _) S_75 ⟨by decide, by decide, by decide⟩ ?_
            refine ls_iload_n f_139_18 rfl ?_
            refine ls_ireturn f_139_19 rI_139 ?_
            show lm_W _ _ _ _ [.int (-1)] _ _
            refine ls_pop f_102_74 rfl ?_
            refine ls_ldc f_102_75 k_102_130 ?_
            exact ls_ireturn f_102_77 rI_102 hyp
          · refine ls_iconst 0 f_146_16 (by decide) ?_
            refine ls_zreturn f_146_17 rZ_146 (by decide) ?_
            show lm_W _ _ _ _ [.int 0] _ _
            refine ls_if_ne_T 69 f_102_44 rfl (by decide) ?_
            refine ls_aload_n f_102_47 rfl ?_
            refine ls_getR f_102_48 p_102_12 hl S_0 F_0_0 ?_
            refine ls_getI f_102_51 p_102_157 hl S_1 ?_
            refine ls_istore_n [some (.ref 0), some (.int x1), some (.int x2), some (.int (lm_i h 1 3))] f_102_54 (Nat.le_of_ble_eq_true rfl) rfl ?_
            refine ls_aload_n f_102_55 rfl ?_
            refine ls_getR f_102_56 p_102_12 hl S_0 F_0_0 ?_
            refine ls_iload_n f_102_59 rfl ?_
            refine ls_putI f_102_60 p_102_157 hl S_1 rfl ?_
            refine ls_aload_n f_102_63 rfl ?_
            refine ls_iload_n f_102_64 rfl ?_
            refine ls_invV (a := 0) f_102_65 q_102_117 [.int (lm_i h 1 3)] [] rfl (Nat.le_of_ble_eq_true rfl) (lm_Lay_si hl _ _ _) S_0 ow_140 ?_
            refine ls_enter [some (.ref 0), some (.int (lm_i h 1 3))] ml_140 (Nat.le_of_ble_eq_true rfl) rfl ?_
            refine ls_aload_n f_140_0 rfl ?_
            refine ls_iconst 0 f_140_1 (by decide) ?_
            refine ls_putI f_140_2 p_140_97 (lm_Lay_si hl _ _ _) S_0 rfl ?_
            refine ls_iload_n f_140_5 rfl ?_
            refine ls_ireturn f_140_6 rI_140 ?_
            show lm_W _ _ _ _ [.int (lm_i h 1 3)] _ _
            exact ls_ireturn f_102_68 rI_102 hyp
      · refine ls_aload_n f_102_69 rfl ?_
        refine ls_iconst (-1) f_102_70 (by decide) ?_
        refine ls_invV (a := 0) f_102_71 q_102_107 [.int (-1)] [] rfl (Nat.le_of_ble_eq_true rfl) hl S_0 ow_139 ?_
        refine ls_enter [some (.ref 0), some (.int (-1))] ml_139 (Nat.le_of_ble_eq_true rfl) rfl ?_
        refine ls_aload_n f_139_0 rfl ?_
        refine ls_iload_n f_139_1 rfl ?_
        refine ls_putI f_139_2 p_139_97 hl S_0 rfl ?_
        refine ls_aload_n f_139_5 rfl ?_
        refine ls_getR f_139_6 p_139_94 (lm_Lay_si hl _ _ _) S_0 F_0_14 ?_
        refine ls_iload_n f_139_9 rfl ?_
        refine ls_invS f_139_10 q_139_337 [.int (-1)] [.ref 75] rfl (Nat.le_of_ble_eq_true rfl) ?_
        refine ls_enter [some (.int (-1))] ml_141 (Nat.le_of_ble_eq_true rfl) rfl ?_
        refine ls_iload_n f_141_0 rfl ?_
        refine ls_table f_141_1 (by decide) ?_
        refine ls_swF (by decide) ?_
        refine ls_swF (by decide) ?_
        refine ls_swF (by decide) ?_
        refine ls_swF (by decide) ?_
        refine ls_swT (by decide) ?_
        refine lm_tg_of (t := 36) rfl ?_
        refine ls_iconst 0 f_141_36 (by decide) ?_
        refine ls_ireturn f_141_37 rI_141 ?_
        show lm_W _ _ _ _ [.int 0, .ref 75] _ _
        refine ls_dup2 f_139_13 rfl rfl ?_
        refine ls_ialdC 0 f_139_14 (lm_Lay_si hl _ _ _) S_75 ⟨by decide, by decide, by decide⟩ ?_
        refine ls_top (lm_i h 75 0) rfl ?_
        refine ls_iconst 1 f_139_15 (by decide) ?_
        refine ls_iadd ((lm_i h 75 0) + 1) f_139_16 rfl ?_
        refine ls_iastC 0 f_139_17 (lm_Lay_si hl _ _ _) S_75 ⟨by decide, by decide, by decide⟩ ?_
        refine ls_iload_n f_139_18 rfl ?_
        refine ls_ireturn f_139_19 rI_139 ?_
        show lm_W _ _ _ _ [.int (-1)] _ _
        refine ls_pop f_102_74 rfl ?_
        refine ls_ldc f_102_75 k_102_130 ?_
        exact ls_ireturn f_102_77 rI_102 hyp
    · refine ls_iload_n f_102_8 rfl ?_
      refine ls_iconst 2 f_102_9 (by decide) ?_
      refine ls_icmp_gt 35 f_102_10 rfl hyp (fun _ hyp => ?_) (fun _ hyp => ?_)
      · refine ls_iload_n f_102_35 rfl ?_
        refine ls_iconst 1 f_102_36 (by decide) ?_
        refine ls_icmp_ne 69 f_102_37 rfl hyp (fun _ hyp => ?_) (fun _ hyp => ?_)
        · refine ls_iload_n f_102_40 rfl ?_
          refine ls_invS f_102_41 q_102_126 [.int x2] [] rfl (Nat.le_of_ble_eq_true rfl) ?_
          refine ls_enter [some (.int x2)] ml_146 (Nat.le_of_ble_eq_true rfl) rfl ?_
          refine ls_iload_n f_146_0 rfl ?_
          refine ls_bipush (-99) f_146_1 (by decide) ?_
          refine ls_icmp_lt 12 f_146_3 rfl hyp (fun _ hyp => ?_) (fun _ hyp => ?_)
          · refine ls_iconst 1 f_146_12 (by decide) ?_
            refine ls_goto 17 f_146_13 rfl ?_
            refine ls_zreturn f_146_17 rZ_146 (by decide) ?_
            show lm_W _ _ _ _ [.int 1] _ _
            refine ls_if_ne_F 69 f_102_44 rfl (by decide) ?_
            refine ls_aload_n f_102_69 rfl ?_
            refine ls_iconst (-1) f_102_70 (by decide) ?_
            refine ls_invV (a := 0) f_102_71 q_102_107 [.int (-1)] [] rfl (Nat.le_of_ble_eq_true rfl) hl S_0 ow_139 ?_
            refine ls_enter [some (.ref 0), some (.int (-1))] ml_139 (Nat.le_of_ble_eq_true rfl) rfl ?_
            refine ls_aload_n f_139_0 rfl ?_
            refine ls_iload_n f_139_1 rfl ?_
            refine ls_putI f_139_2 p_139_97 hl S_0 rfl ?_
            refine ls_aload_n f_139_5 rfl ?_
            refine ls_getR f_139_6 p_139_94 (lm_Lay_si hl _ _ _) S_0 F_0_14 ?_
            refine ls_iload_n f_139_9 rfl ?_
            refine ls_invS f_139_10 q_139_337 [.int (-1)] [.ref 75] rfl (Nat.le_of_ble_eq_true rfl) ?_
            refine ls_enter [some (.int (-1))] ml_141 (Nat.le_of_ble_eq_true rfl) rfl ?_
            refine ls_iload_n f_141_0 rfl ?_
            refine ls_table f_141_1 (by decide) ?_
            refine ls_swF (by decide) ?_
            refine ls_swF (by decide) ?_
            refine ls_swF (by decide) ?_
            refine ls_swF (by decide) ?_
            refine ls_swT (by decide) ?_
            refine lm_tg_of (t := 36) rfl ?_
            refine ls_iconst 0 f_141_36 (by decide) ?_
            refine ls_ireturn f_141_37 rI_141 ?_
            show lm_W _ _ _ _ [.int 0, .ref 75] _ _
            refine ls_dup2 f_139_13 rfl rfl ?_
            refine ls_ialdC 0 f_139_14 (lm_Lay_si hl _ _ _) S_75 ⟨by decide, by decide, by decide⟩ ?_
            refine ls_top (lm_i h 75 0) rfl ?_
            refine ls_iconst 1 f_139_15 (by decide) ?_
            refine ls_iadd ((lm_i h 75 0) + 1) f_139_16 rfl ?_
            refine ls_iastC 0 f_139_17 (lm_Lay_si hl _ _ _) S_75 ⟨by decide, by decide, by decide⟩ ?_
            refine ls_iload_n f_139_18 rfl ?_
            refine ls_ireturn f_139_19 rI_139 ?_
            show lm_W _ _ _ _ [.int (-1)] _ _
            refine ls_pop f_102_74 rfl ?_
            refine ls_ldc f_102_75 k_102_130 ?_
            exact ls_ireturn f_102_77 rI_102 hyp
          · refine ls_iload_n f_146_6 rfl ?_
            refine ls_bipush 99 f_146_7 (by decide) ?_
            refine ls_icmp_le 16 f_146_9 rfl hyp (fun _ hyp => ?_) (fun _ hyp => ?_)
            · refine ls_iconst 1 f_146_12 (by decide) ?_
              refine ls_goto 17 f_146_13 rfl ?_
              refine ls_zreturn f_146_17 rZ_146 (by decide) ?_
              show lm_W _ _ _ _ [.int 1] _ _
              refine ls_if_ne_F 69 f_102_44 rfl (by decide) ?_
              refine ls_aload_n f_102_69 rfl ?_
              refine ls_iconst (-1) f_102_70 (by decide) ?_
              refine ls_invV (a := 0) f_102_71 q_102_107 [.int (-1)] [] rfl (Nat.le_of_ble_eq_true rfl) hl S_0 ow_139 ?_
              refine ls_enter [some (.ref 0), some (.int (-1))] ml_139 (Nat.le_of_ble_eq_true rfl) rfl ?_
              refine ls_aload_n f_139_0 rfl ?_
              refine ls_iload_n f_139_1 rfl ?_
              refine ls_putI f_139_2 p_139_97 hl S_0 rfl ?_
              refine ls_aload_n f_139_5 rfl ?_
              refine ls_getR f_139_6 p_139_94 (lm_Lay_si hl _ _ _) S_0 F_0_14 ?_
              refine ls_iload_n f_139_9 rfl ?_
              refine ls_invS f_139_10 q_139_337 [.int (-1)] [.ref 75] rfl (Nat.le_of_ble_eq_true rfl) ?_
              refine ls_enter [some (.int (-1))] ml_141 (Nat.le_of_ble_eq_true rfl) rfl ?_
              refine ls_iload_n f_141_0 rfl ?_
              refine ls_table f_141_1 (by decide) ?_
              refine ls_swF (by decide) ?_
              refine ls_swF (by decide) ?_
              refine ls_swF (by decide) ?_
              refine ls_swF (by decide) ?_
              refine ls_swT (by decide) ?_
              refine lm_tg_of (t := 36) rfl ?_
              refine ls_iconst 0 f_141_36 (by decide) ?_
              refine ls_ireturn f_141_37 rI_141 ?_
              show lm_W _ _ _ _ [.int 0, .ref 75] _ _
              refine ls_dup2 f_139_13 rfl rfl ?_
              refine ls_ialdC 0 f_139_14 (lm_Lay_si hl _ _ _) S_75 ⟨by decide, by decide, by decide⟩ ?_
              refine ls_top (lm_i h 75 0) rfl ?_
              refine ls_iconst 1 f_139_15 (by decide) ?_
              refine ls_iadd ((lm_i h 75 0) + 1) f_139_16 rfl ?_
              refine ls_iastC 0 f_139_17 (lm_Lay_si hl _ _ _) S_75 ⟨by decide, by decide, by decide⟩ ?_
              refine ls_iload_n f_139_18 rfl ?_
              refine ls_ireturn f_139_19 rI_139 ?_
              show lm_W _ _ _ _ [.int (-1)] _ _
              refine ls_pop f_102_74 rfl ?_
              refine ls_ldc f_102_75 k_102_130 ?_
              exact ls_ireturn f_102_77 rI_102 hyp
            · refine ls_iconst 0 f_146_16 (by decide) ?_
              refine ls_zreturn f_146_17 rZ_146 (by decide) ?_
              show lm_W _ _ _ _ [.int 0] _ _
              refine ls_if_ne_T 69 f_102_44 rfl (by decide) ?_
              refine ls_aload_n f_102_47 rfl ?_
              refine ls_getR f_102_48 p_102_12 hl S_0 F_0_0 ?_
              refine ls_getI f_102_51 p_102_157 hl S_1 ?_
              refine ls_istore_n [some (.ref 0), some (.int x1), some (.int x2), some (.int (lm_i h 1 3))] f_102_54 (Nat.le_of_ble_eq_true rfl) rfl ?_
              refine ls_aload_n f_102_55 rfl ?_
              refine ls_getR f_102_56 p_102_12 hl S_0 F_0_0 ?_
              refine ls_iload_n f_102_59 rfl ?_
              refine ls_putI f_102_60 p_102_157 hl S_1 rfl ?_
              refine ls_aload_n f_102_63 rfl ?_
              refine ls_iload_n f_102_64 rfl ?_
              refine ls_invV (a := 0) f_102_65 q_102_117 [.int (lm_i h 1 3)] [] rfl (Nat.le_of_ble_eq_true rfl) (lm_Lay_si hl _ _ _) S_0 ow_140 ?_
              refine ls_enter [some (.ref 0), some (.int (lm_i h 1 3))] ml_140 (Nat.le_of_ble_eq_true rfl) rfl ?_
              refine ls_aload_n f_140_0 rfl ?_
              refine ls_iconst 0 f_140_1 (by decide) ?_
              refine ls_putI f_140_2 p_140_97 (lm_Lay_si hl _ _ _) S_0 rfl ?_
              refine ls_iload_n f_140_5 rfl ?_
              refine ls_ireturn f_140_6 rI_140 ?_
              show lm_W _ _ _ _ [.int (lm_i h 1 3)] _ _
              exact ls_ireturn f_102_68 rI_102 hyp
        · refine ls_aload_n f_102_69 rfl ?_
          refine ls_iconst (-1) f_102_70 (by decide) ?_
          refine ls_invV (a := 0) f_102_71 q_102_107 [.int (-1)] [] rfl (Nat.le_of_ble_eq_true rfl) hl S_0 ow_139 ?_
          refine ls_enter [some (.ref 0), some (.int (-1))] ml_139 (Nat.le_of_ble_eq_true rfl) rfl ?_
          refine ls_aload_n f_139_0 rfl ?_
          refine ls_iload_n f_139_1 rfl ?_
          refine ls_putI f_139_2 p_139_97 hl S_0 rfl ?_
          refine ls_aload_n f_139_5 rfl ?_
          refine ls_getR f_139_6 p_139_94 (lm_Lay_si hl _ _ _) S_0 F_0_14 ?_
          refine ls_iload_n f_139_9 rfl ?_
          refine ls_invS f_139_10 q_139_337 [.int (-1)] [.ref 75] rfl (Nat.le_of_ble_eq_true rfl) ?_
          refine ls_enter [some (.int (-1))] ml_141 (Nat.le_of_ble_eq_true rfl) rfl ?_
          refine ls_iload_n f_141_0 rfl ?_
          refine ls_table f_141_1 (by decide) ?_
          refine ls_swF (by decide) ?_
          refine ls_swF (by decide) ?_
          refine ls_swF (by decide) ?_
          refine ls_swF (by decide) ?_
          refine ls_swT (by decide) ?_
          refine lm_tg_of (t := 36) rfl ?_
          refine ls_iconst 0 f_141_36 (by decide) ?_
          refine ls_ireturn f_141_37 rI_141 ?_
          show lm_W _ _ _ _ [.int 0, .ref 75] _ _
          refine ls_dup2 f_139_13 rfl rfl ?_
          refine ls_ialdC 0 f_139_14 (lm_Lay_si hl _ _ _) S_75 ⟨by decide, by decide, by decide⟩ ?_
          refine ls_top (lm_i h 75 0) rfl ?_
          refine ls_iconst 1 f_139_15 (by decide) ?_
          refine ls_iadd ((lm_i h 75 0) + 1) f_139_16 rfl ?_
          refine ls_iastC 0 f_139_17 (lm_Lay_si hl _ _ _) S_75 ⟨by decide, by decide, by decide⟩ ?_
          refine ls_iload_n f_139_18 rfl ?_
          refine ls_ireturn f_139_19 rI_139 ?_
          show lm_W _ _ _ _ [.int (-1)] _ _
          refine ls_pop f_102_74 rfl ?_
          refine ls_ldc f_102_75 k_102_130 ?_
          exact ls_ireturn f_102_77 rI_102 hyp
      · refine ls_aload_n f_102_13 rfl ?_
        refine ls_getR f_102_14 p_102_12 hl S_0 F_0_0 ?_
        refine ls_getI f_102_17 p_102_154 hl S_1 ?_
        refine ls_istore_n [some (.ref 0), some (.int x1), some (.int x2), some (.int (lm_i h 1 2))] f_102_20 (Nat.le_of_ble_eq_true rfl) rfl ?_
        refine ls_aload_n f_102_21 rfl ?_
        refine ls_getR f_102_22 p_102_12 hl S_0 F_0_0 ?_
        refine ls_iload_n f_102_25 rfl ?_
        refine ls_putI f_102_26 p_102_154 hl S_1 rfl ?_
        refine ls_aload_n f_102_29 rfl ?_
        refine ls_iload_n f_102_30 rfl ?_
        refine ls_invV (a := 0) f_102_31 q_102_117 [.int (lm_i h 1 2)] [] rfl (Nat.le_of_ble_eq_true rfl) (lm_Lay_si hl _ _ _) S_0 ow_140 ?_
        refine ls_enter [some (.ref 0), some (.int (lm_i h 1 2))] ml_140 (Nat.le_of_ble_eq_true rfl) rfl ?_
        refine ls_aload_n f_140_0 rfl ?_
        refine ls_iconst 0 f_140_1 (by decide) ?_
        refine ls_putI f_140_2 p_140_97 (lm_Lay_si hl _ _ _) S_0 rfl ?_
        refine ls_iload_n f_140_5 rfl ?_
        refine ls_ireturn f_140_6 rI_140 ?_
        show lm_W _ _ _ _ [.int (lm_i h 1 2)] _ _
        exact ls_ireturn f_102_34 rI_102 hyp
  · refine ls_iload_n f_102_35 rfl ?_
    refine ls_iconst 1 f_102_36 (by decide) ?_
    refine ls_icmp_ne 69 f_102_37 rfl hyp (fun _ hyp => ?_) (fun _ hyp => ?_)
    · refine ls_iload_n f_102_40 rfl ?_
      refine ls_invS f_102_41 q_102_126 [.int x2] [] rfl (Nat.le_of_ble_eq_true rfl) ?_
      refine ls_enter [some (.int x2)] ml_146 (Nat.le_of_ble_eq_true rfl) rfl ?_
      refine ls_iload_n f_146_0 rfl ?_
      refine ls_bipush (-99) f_146_1 (by decide) ?_
      refine ls_icmp_lt 12 f_146_3 rfl hyp (fun _ hyp => ?_) (fun _ hyp => ?_)
      · refine ls_iconst 1 f_146_12 (by decide) ?_
        refine ls_goto 17 f_146_13 rfl ?_
        refine ls_zreturn f_146_17 rZ_146 (by decide) ?_
        show lm_W _ _ _ _ [.int 1] _ _
        refine ls_if_ne_F 69 f_102_44 rfl (by decide) ?_
        refine ls_aload_n f_102_69 rfl ?_
        refine ls_iconst (-1) f_102_70 (by decide) ?_
        refine ls_invV (a := 0) f_102_71 q_102_107 [.int (-1)] [] rfl (Nat.le_of_ble_eq_true rfl) hl S_0 ow_139 ?_
        refine ls_enter [some (.ref 0), some (.int (-1))] ml_139 (Nat.le_of_ble_eq_true rfl) rfl ?_
        refine ls_aload_n f_139_0 rfl ?_
        refine ls_iload_n f_139_1 rfl ?_
        refine ls_putI f_139_2 p_139_97 hl S_0 rfl ?_
        refine ls_aload_n f_139_5 rfl ?_
        refine ls_getR f_139_6 p_139_94 (lm_Lay_si hl _ _ _) S_0 F_0_14 ?_
        refine ls_iload_n f_139_9 rfl ?_
        refine ls_invS f_139_10 q_139_337 [.int (-1)] [.ref 75] rfl (Nat.le_of_ble_eq_true rfl) ?_
        refine ls_enter [some (.int (-1))] ml_141 (Nat.le_of_ble_eq_true rfl) rfl ?_
        refine ls_iload_n f_141_0 rfl ?_
        refine ls_table f_141_1 (by decide) ?_
        refine ls_swF (by decide) ?_
        refine ls_swF (by decide) ?_
        refine ls_swF (by decide) ?_
        refine ls_swF (by decide) ?_
        refine ls_swT (by decide) ?_
        refine lm_tg_of (t := 36) rfl ?_
        refine ls_iconst 0 f_141_36 (by decide) ?_
        refine ls_ireturn f_141_37 rI_141 ?_
        show lm_W _ _ _ _ [.int 0, .ref 75] _ _
        refine ls_dup2 f_139_13 rfl rfl ?_
        refine ls_ialdC 0 f_139_14 (lm_Lay_si hl _ _ _) S_75 ⟨by decide, by decide, by decide⟩ ?_
        refine ls_top (lm_i h 75 0) rfl ?_
        refine ls_iconst 1 f_139_15 (by decide) ?_
        refine ls_iadd ((lm_i h 75 0) + 1) f_139_16 rfl ?_
        refine ls_iastC 0 f_139_17 (lm_Lay_si hl _ _ _) S_75 ⟨by decide, by decide, by decide⟩ ?_
        refine ls_iload_n f_139_18 rfl ?_
        refine ls_ireturn f_139_19 rI_139 ?_
        show lm_W _ _ _ _ [.int (-1)] _ _
        refine ls_pop f_102_74 rfl ?_
        refine ls_ldc f_102_75 k_102_130 ?_
        exact ls_ireturn f_102_77 rI_102 hyp
      · refine ls_iload_n f_146_6 rfl ?_
        refine ls_bipush 99 f_146_7 (by decide) ?_
        refine ls_icmp_le 16 f_146_9 rfl hyp (fun _ hyp => ?_) (fun _ hyp => ?_)
        · refine ls_iconst 1 f_146_12 (by decide) ?_
          refine ls_goto 17 f_146_13 rfl ?_
          refine ls_zreturn f_146_17 rZ_146 (by decide) ?_
          show lm_W _ _ _ _ [.int 1] _ _
          refine ls_if_ne_F 69 f_102_44 rfl (by decide) ?_
          refine ls_aload_n f_102_69 rfl ?_
          refine ls_iconst (-1) f_102_70 (by decide) ?_
          refine ls_invV (a := 0) f_102_71 q_102_107 [.int (-1)] [] rfl (Nat.le_of_ble_eq_true rfl) hl S_0 ow_139 ?_
          refine ls_enter [some (.ref 0), some (.int (-1))] ml_139 (Nat.le_of_ble_eq_true rfl) rfl ?_
          refine ls_aload_n f_139_0 rfl ?_
          refine ls_iload_n f_139_1 rfl ?_
          refine ls_putI f_139_2 p_139_97 hl S_0 rfl ?_
          refine ls_aload_n f_139_5 rfl ?_
          refine ls_getR f_139_6 p_139_94 (lm_Lay_si hl _ _ _) S_0 F_0_14 ?_
          refine ls_iload_n f_139_9 rfl ?_
          refine ls_invS f_139_10 q_139_337 [.int (-1)] [.ref 75] rfl (Nat.le_of_ble_eq_true rfl) ?_
          refine ls_enter [some (.int (-1))] ml_141 (Nat.le_of_ble_eq_true rfl) rfl ?_
          refine ls_iload_n f_141_0 rfl ?_
          refine ls_table f_141_1 (by decide) ?_
          refine ls_swF (by decide) ?_
          refine ls_swF (by decide) ?_
          refine ls_swF (by decide) ?_
          refine ls_swF (by decide) ?_
          refine ls_swT (by decide) ?_
          refine lm_tg_of (t := 36) rfl ?_
          refine ls_iconst 0 f_141_36 (by decide) ?_
          refine ls_ireturn f_141_37 rI_141 ?_
          show lm_W _ _ _ _ [.int 0, .ref 75] _ _
          refine ls_dup2 f_139_13 rfl rfl ?_
          refine ls_ialdC 0 f_139_14 (lm_Lay_si hl _ _ _) S_75 ⟨by decide, by decide, by decide⟩ ?_
          refine ls_top (lm_i h 75 0) rfl ?_
          refine ls_iconst 1 f_139_15 (by decide) ?_
          refine ls_iadd ((lm_i h 75 0) + 1) f_139_16 rfl ?_
          refine ls_iastC 0 f_139_17 (lm_Lay_si hl _ _ _) S_75 ⟨by decide, by decide, by decide⟩ ?_
          refine ls_iload_n f_139_18 rfl ?_
          refine ls_ireturn f_139_19 rI_139 ?_
          show lm_W _ _ _ _ [.int (-1)] _ _
          refine ls_pop f_102_74 rfl ?_
          refine ls_ldc f_102_75 k_102_130 ?_
          exact ls_ireturn f_102_77 rI_102 hyp
        · refine ls_iconst 0 f_146_16 (by decide) ?_
          refine ls_zreturn f_146_17 rZ_146 (by decide) ?_
          show lm_W _ _ _ _ [.int 0] _ _
          refine ls_if_ne_T 69 f_102_44 rfl (by decide) ?_
          refine ls_aload_n f_102_47 rfl ?_
          refine ls_getR f_102_48 p_102_12 hl S_0 F_0_0 ?_
          refine ls_getI f_102_51 p_102_157 hl S_1 ?_
          refine ls_istore_n [some (.ref 0), some (.int x1), some (.int x2), some (.int (lm_i h 1 3))] f_102_54 (Nat.le_of_ble_eq_true rfl) rfl ?_
          refine ls_aload_n f_102_55 rfl ?_
          refine ls_getR f_102_56 p_102_12 hl S_0 F_0_0 ?_
          refine ls_iload_n f_102_59 rfl ?_
          refine ls_putI f_102_60 p_102_157 hl S_1 rfl ?_
          refine ls_aload_n f_102_63 rfl ?_
          refine ls_iload_n f_102_64 rfl ?_
          refine ls_invV (a := 0) f_102_65 q_102_117 [.int (lm_i h 1 3)] [] rfl (Nat.le_of_ble_eq_true rfl) (lm_Lay_si hl _ _ _) S_0 ow_140 ?_
          refine ls_enter [some (.ref 0), some (.int (lm_i h 1 3))] ml_140 (Nat.le_of_ble_eq_true rfl) rfl ?_
          refine ls_aload_n f_140_0 rfl ?_
          refine ls_iconst 0 f_140_1 (by decide) ?_
          refine ls_putI f_140_2 p_140_97 (lm_Lay_si hl _ _ _) S_0 rfl ?_
          refine ls_iload_n f_140_5 rfl ?_
          refine ls_ireturn f_140_6 rI_140 ?_
          show lm_W _ _ _ _ [.int (lm_i h 1 3)] _ _
          exact ls_ireturn f_102_68 rI_102 hyp
    · refine ls_aload_n f_102_69 rfl ?_
      refine ls_iconst (-1) f_102_70 (by decide) ?_
      refine ls_invV (a := 0) f_102_71 q_102_107 [.int (-1)] [] rfl (Nat.le_of_ble_eq_true rfl) hl S_0 ow_139 ?_
      refine ls_enter [some (.ref 0), some (.int (-1))] ml_139 (Nat.le_of_ble_eq_true rfl) rfl ?_
      refine ls_aload_n f_139_0 rfl ?_
      refine ls_iload_n f_139_1 rfl ?_
      refine ls_putI f_139_2 p_139_97 hl S_0 rfl ?_
      refine ls_aload_n f_139_5 rfl ?_
      refine ls_getR f_139_6 p_139_94 (lm_Lay_si hl _ _ _) S_0 F_0_14 ?_
      refine ls_iload_n f_139_9 rfl ?_
      refine ls_invS f_139_10 q_139_337 [.int (-1)] [.ref 75] rfl (Nat.le_of_ble_eq_true rfl) ?_
      refine ls_enter [some (.int (-1))] ml_141 (Nat.le_of_ble_eq_true rfl) rfl ?_
      refine ls_iload_n f_141_0 rfl ?_
      refine ls_table f_141_1 (by decide) ?_
      refine ls_swF (by decide) ?_
      refine ls_swF (by decide) ?_
      refine ls_swF (by decide) ?_
      refine ls_swF (by decide) ?_
      refine ls_swT (by decide) ?_
      refine lm_tg_of (t := 36) rfl ?_
      refine ls_iconst 0 f_141_36 (by decide) ?_
      refine ls_ireturn f_141_37 rI_141 ?_
      show lm_W _ _ _ _ [.int 0, .ref 75] _ _
      refine ls_dup2 f_139_13 rfl rfl ?_
      refine ls_ialdC 0 f_139_14 (lm_Lay_si hl _ _ _) S_75 ⟨by decide, by decide, by decide⟩ ?_
      refine ls_top (lm_i h 75 0) rfl ?_
      refine ls_iconst 1 f_139_15 (by decide) ?_
      refine ls_iadd ((lm_i h 75 0) + 1) f_139_16 rfl ?_
      refine ls_iastC 0 f_139_17 (lm_Lay_si hl _ _ _) S_75 ⟨by decide, by decide, by decide⟩ ?_
      refine ls_iload_n f_139_18 rfl ?_
      refine ls_ireturn f_139_19 rI_139 ?_
      show lm_W _ _ _ _ [.int (-1)] _ _
      refine ls_pop f_102_74 rfl ?_
      refine ls_ldc f_102_75 k_102_130 ?_
      exact ls_ireturn f_102_77 rI_102 hyp
theorem e_103 {d : Nat} {h : lm_H} {K : Int32 → lm_H → Prop} (x1 : Int32) (x2 : Int32) (x3 : Int32) (x4 : Int32) (x5 : Int32) (hl : lm_Lay h) (hyp : (if 400 < ((lm_i h 11 1) + 20) then (K (-1) h) else (lm_call (d) 74 [.ref 11, .int x1] h (lm_kV fun h1 => lm_call (d) 74 [.ref 11, .int x2] h1 (lm_kV fun h2 => lm_call (d) 74 [.ref 11, .int x3] h2 (lm_kV fun h3 => lm_call (d) 74 [.ref 11, .int x4] h3 (lm_kV fun h4 => lm_call (d) 74 [.ref 11, .int x5] h4 (lm_kV fun h5 => K (lm_i h5 11 1) h5)))))))) : lm_call (d + 1) 103 [.ref 0, .int x1, .int x2, .int x3, .int x4, .int x5] h (lm_kI K) := by
  refine ls_enter [some (.ref 0), some (.int x1), some (.int x2), some (.int x3), some (.int x4), some (.int x5)] ml_103 (Nat.le_of_ble_eq_true rfl) rfl ?_
  refine ls_aload_n f_103_0 rfl ?_
  refine ls_getR f_103_1 p_103_27 hl S_0 F_0_3 ?_
  refine ls_getI f_103_4 p_103_160 hl S_11 ?_
  refine ls_bipush 20 f_103_7 (by decide) ?_
  refine ls_iadd ((lm_i h 11 1) + 20) f_103_9 rfl ?_
  refine ls_sipush 400 f_103_10 (by decide) ?_
  refine ls_icmp_le 18 f_103_13 rfl hyp (fun _ hyp => ?_) (fun _ hyp => ?_)
  · refine ls_iconst (-1) f_103_16 (by decide) ?_
    exact ls_ireturn f_103_17 rI_103 hyp
  · refine ls_aload_n f_103_18 rfl ?_
    refine ls_getR f_103_19 p_103_27 hl S_0 F_0_3 ?_
    refine ls_iload_n f_103_22 rfl ?_
    refine ls_invV (a := 11) f_103_23 q_103_163 [.int x1] [] rfl (Nat.le_of_ble_eq_true rfl) hl S_11 ow_74 ?_
    refine ls_call hyp hl (fun _ h1 hl1 hyp => ?_)
    refine ls_retV hyp (fun hyp => ?_)
    refine ls_aload_n f_103_26 rfl ?_
    refine ls_getR f_103_27 p_103_27 hl1 S_0 F_0_3 ?_
    refine ls_iload_n f_103_30 rfl ?_
    refine ls_invV (a := 11) f_103_31 q_103_163 [.int x2] [] rfl (Nat.le_of_ble_eq_true rfl) hl1 S_11 ow_74 ?_
    refine ls_call hyp hl1 (fun _ h2 hl2 hyp => ?_)
    refine ls_retV hyp (fun hyp => ?_)
    refine ls_aload_n f_103_34 rfl ?_
    refine ls_getR f_103_35 p_103_27 hl2 S_0 F_0_3 ?_
    refine ls_iload_n f_103_38 rfl ?_
    refine ls_invV (a := 11) f_103_39 q_103_163 [.int x3] [] rfl (Nat.le_of_ble_eq_true rfl) hl2 S_11 ow_74 ?_
    refine ls_call hyp hl2 (fun _ h3 hl3 hyp => ?_)
    refine ls_retV hyp (fun hyp => ?_)
    refine ls_aload_n f_103_42 rfl ?_
    refine ls_getR f_103_43 p_103_27 hl3 S_0 F_0_3 ?_
    refine ls_iload f_103_46 rfl ?_
    refine ls_invV (a := 11) f_103_48 q_103_163 [.int x4] [] rfl (Nat.le_of_ble_eq_true rfl) hl3 S_11 ow_74 ?_
    refine ls_call hyp hl3 (fun _ h4 hl4 hyp => ?_)
    refine ls_retV hyp (fun hyp => ?_)
    refine ls_aload_n f_103_51 rfl ?_
    refine ls_getR f_103_52 p_103_27 hl4 S_0 F_0_3 ?_
    refine ls_iload f_103_55 rfl ?_
    refine ls_invV (a := 11) f_103_57 q_103_163 [.int x5] [] rfl (Nat.le_of_ble_eq_true rfl) hl4 S_11 ow_74 ?_
    refine ls_call hyp hl4 (fun _ h5 hl5 hyp => ?_)
    refine ls_retV hyp (fun hyp => ?_)
    refine ls_aload_n f_103_60 rfl ?_
    refine ls_getR f_103_61 p_103_27 hl5 S_0 F_0_3 ?_
    refine ls_getI f_103_64 p_103_160 hl5 S_11 ?_
    exact ls_ireturn f_103_67 rI_103 hyp
theorem e_104 {d : Nat} {h : lm_H} {K : Int32 → lm_H → Prop} (x1 : Int32) (hl : lm_Lay h) (hyp : (if x1 < 0 then (K (-1) h) else (if (lm_i h 11 1) < x1 then (K (-1) h) else (K x1 (lm_si h 11 1 x1))))) : lm_call (d + 1) 104 [.ref 0, .int x1] h (lm_kI K) := by
  refine ls_enter [some (.ref 0), some (.int x1)] ml_104 (Nat.le_of_ble_eq_true rfl) rfl ?_
  refine ls_iload_n f_104_0 rfl ?_
  refine ls_if_lt 15 f_104_1 rfl hyp (fun _ hyp => ?_) (fun _ hyp => ?_)
  · refine ls_iconst (-1) f_104_15 (by decide) ?_
    exact ls_ireturn f_104_16 rI_104 hyp
  · refine ls_iload_n f_104_4 rfl ?_
    refine ls_aload_n f_104_5 rfl ?_
    refine ls_getR f_104_6 p_104_27 hl S_0 F_0_3 ?_
    refine ls_getI f_104_9 p_104_160 hl S_11 ?_
    refine ls_icmp_le 17 f_104_12 rfl hyp (fun _ hyp => ?_) (fun _ hyp => ?_)
    · refine ls_iconst (-1) f_104_15 (by decide) ?_
      exact ls_ireturn f_104_16 rI_104 hyp
    · refine ls_aload_n f_104_17 rfl ?_
      refine ls_getR f_104_18 p_104_27 hl S_0 F_0_3 ?_
      refine ls_iload_n f_104_21 rfl ?_
      refine ls_putI f_104_22 p_104_160 hl S_11 rfl ?_
      refine ls_iload_n f_104_25 rfl ?_
      exact ls_ireturn f_104_26 rI_104 hyp
theorem e_105 {d : Nat} {h : lm_H} {K : Int32 → lm_H → Prop} (hl : lm_Lay h) (hyp : (if (lm_i h 11 1) = 0 then (K (-6) (lm_si (lm_si h 0 15 (-6)) 75 4 ((lm_i h 75 4) + 1))) else (lm_W (d + 2) 105 23 [some (.ref 0), some (.int 0), some (.int 0), some (.int 0)] [] h (lm_kI K)))) : lm_call (d + 3) 105 [.ref 0] h (lm_kI K) := by
  refine ls_enter [some (.ref 0), none, none, none] ml_105 (Nat.le_of_ble_eq_true rfl) rfl ?_
  refine ls_aload_n f_105_0 rfl ?_
  refine ls_getR f_105_1 p_105_27 hl S_0 F_0_3 ?_
  refine ls_getI f_105_4 p_105_160 hl S_11 ?_
  refine ls_if_ne 17 f_105_7 rfl hyp (fun _ hyp => ?_) (fun _ hyp => ?_)
  · refine ls_aload_n f_105_10 rfl ?_
    refine ls_bipush (-6) f_105_11 (by decide) ?_
    refine ls_invV (a := 0) f_105_13 q_105_107 [.int (-6)] [] rfl (Nat.le_of_ble_eq_true rfl) hl S_0 ow_139 ?_
    refine ls_enter [some (.ref 0), some (.int (-6))] ml_139 (Nat.le_of_ble_eq_true rfl) rfl ?_
    refine ls_aload_n f_139_0 rfl ?_
    refine ls_iload_n f_139_1 rfl ?_
    refine ls_putI f_139_2 p_139_97 hl S_0 rfl ?_
    refine ls_aload_n f_139_5 rfl ?_
    refine ls_getR f_139_6 p_139_94 (lm_Lay_si hl _ _ _) S_0 F_0_14 ?_
    refine ls_iload_n f_139_9 rfl ?_
    refine ls_invS f_139_10 q_139_337 [.int (-6)] [.ref 75] rfl (Nat.le_of_ble_eq_true rfl) ?_
    refine ls_enter [some (.int (-6))] ml_141 (Nat.le_of_ble_eq_true rfl) rfl ?_
    refine ls_iload_n f_141_0 rfl ?_
    refine ls_table f_141_1 (by decide) ?_
    refine ls_swF (by decide) ?_
    refine ls_swF (by decide) ?_
    refine ls_swF (by decide) ?_
    refine ls_swF (by decide) ?_
    refine ls_swF (by decide) ?_
    refine ls_swD ?_
    refine lm_tg_of (t := 44) rfl ?_
    refine ls_iconst 4 f_141_44 (by decide) ?_
    refine ls_ireturn f_141_45 rI_141 ?_
    show lm_W _ _ _ _ [.int 4, .ref 75] _ _
    refine ls_dup2 f_139_13 rfl rfl ?_
    refine ls_ialdC 4 f_139_14 (lm_Lay_si hl _ _ _) S_75 ⟨by decide, by decide, by decide⟩ ?_
    refine ls_top (lm_i h 75 4) rfl ?_
    refine ls_iconst 1 f_139_15 (by decide) ?_
    refine ls_iadd ((lm_i h 75 4) + 1) f_139_16 rfl ?_
    refine ls_iastC 4 f_139_17 (lm_Lay_si hl _ _ _) S_75 ⟨by decide, by decide, by decide⟩ ?_
    refine ls_iload_n f_139_18 rfl ?_
    refine ls_ireturn f_139_19 rI_139 ?_
    show lm_W _ _ _ _ [.int (-6)] _ _
    exact ls_ireturn f_105_16 rI_105 hyp
  · refine ls_iconst 0 f_105_17 (by decide) ?_
    refine ls_istore_n [some (.ref 0), some (.int 0), none, none] f_105_18 (Nat.le_of_ble_eq_true rfl) rfl ?_
    refine ls_iconst 0 f_105_19 (by decide) ?_
    refine ls_istore_n [some (.ref 0), some (.int 0), some (.int 0), none] f_105_20 (Nat.le_of_ble_eq_true rfl) rfl ?_
    refine ls_iconst 0 f_105_21 (by decide) ?_
    refine ls_istore_n [some (.ref 0), some (.int 0), some (.int 0), some (.int 0)] f_105_22 (Nat.le_of_ble_eq_true rfl) rfl ?_
    exact hyp
theorem b_105_23 {d : Nat} {h : lm_H} {K : Int32 → lm_H → Prop} (x1 : Int32) (x2 : Int32) (x3 : Int32) (hl : lm_Lay h) (hyp : (if x3 < (lm_i h 11 1) then (lm_call (d + 2) 142 [.ref 0, .int x3] h (lm_kI fun r2 h1 => (if r2 = 0 then (lm_W (d + 2) 105 23 [some (.ref 0), some (.int x1), some (.int (x2 + 1)), some (.int (x3 + 3))] [] h1 (lm_kI K)) else (lm_W (d + 2) 105 23 [some (.ref 0), some (.int (x1 + 1)), some (.int x2), some (.int (x3 + 3))] [] h1 (lm_kI K))))) else (K x1 (lm_si (lm_si (lm_si h 11 1 0) 0 17 x2) 0 15 0)))) : lm_W (d + 2) 105 23 [some (.ref 0), some (.int x1), some (.int x2), some (.int x3)] [] h (lm_kI K) := by
  refine ls_iload_n f_105_23 rfl ?_
  refine ls_aload_n f_105_24 rfl ?_
  refine ls_getR f_105_25 p_105_27 hl S_0 F_0_3 ?_
  refine ls_getI f_105_28 p_105_160 hl S_11 ?_
  refine ls_icmp_ge 57 f_105_31 rfl hyp (fun _ hyp => ?_) (fun _ hyp => ?_)
  · refine ls_aload_n f_105_34 rfl ?_
    refine ls_iload_n f_105_35 rfl ?_
    refine ls_invV (a := 0) f_105_36 q_105_167 [.int x3] [] rfl (Nat.le_of_ble_eq_true rfl) hl S_0 ow_142 ?_
    refine ls_call hyp hl (fun _ h1 hl1 hyp => ?_)
    refine ls_retI hyp (fun r2 hyp => ?_)
    refine ls_if_eq 48 f_105_39 rfl hyp (fun _ hyp => ?_) (fun _ hyp => ?_)
    · refine ls_iinc (x2 + 1) [some (.ref 0), some (.int x1), some (.int (x2 + 1)), some (.int x3)] f_105_48 rfl (Nat.le_of_ble_eq_true rfl) rfl rfl ?_
      refine ls_iinc (x3 + 3) [some (.ref 0), some (.int x1), some (.int (x2 + 1)), some (.int (x3 + 3))] f_105_51 rfl (Nat.le_of_ble_eq_true rfl) rfl rfl ?_
      refine ls_goto 23 f_105_54 rfl ?_
      exact hyp
    · refine ls_iinc (x1 + 1) [some (.ref 0), some (.int (x1 + 1)), some (.int x2), some (.int x3)] f_105_42 rfl (Nat.le_of_ble_eq_true rfl) rfl rfl ?_
      refine ls_goto 51 f_105_45 rfl ?_
      refine ls_iinc (x3 + 3) [some (.ref 0), some (.int (x1 + 1)), some (.int x2), some (.int (x3 + 3))] f_105_51 rfl (Nat.le_of_ble_eq_true rfl) rfl rfl ?_
      refine ls_goto 23 f_105_54 rfl ?_
      exact hyp
  · refine ls_aload_n f_105_57 rfl ?_
    refine ls_getR f_105_58 p_105_27 hl S_0 F_0_3 ?_
    refine ls_iconst 0 f_105_61 (by decide) ?_
    refine ls_putI f_105_62 p_105_160 hl S_11 rfl ?_
    refine ls_aload_n f_105_65 rfl ?_
    refine ls_iload_n f_105_66 rfl ?_
    refine ls_putI f_105_67 p_105_104 (lm_Lay_si hl _ _ _) S_0 rfl ?_
    refine ls_aload_n f_105_70 rfl ?_
    refine ls_iload_n f_105_71 rfl ?_
    refine ls_invV (a := 0) f_105_72 q_105_117 [.int x1] [] rfl (Nat.le_of_ble_eq_true rfl) (lm_Lay_si (lm_Lay_si hl _ _ _) _ _ _) S_0 ow_140 ?_
    refine ls_enter [some (.ref 0), some (.int x1)] ml_140 (Nat.le_of_ble_eq_true rfl) rfl ?_
    refine ls_aload_n f_140_0 rfl ?_
    refine ls_iconst 0 f_140_1 (by decide) ?_
    refine ls_putI f_140_2 p_140_97 (lm_Lay_si (lm_Lay_si hl _ _ _) _ _ _) S_0 rfl ?_
    refine ls_iload_n f_140_5 rfl ?_
    refine ls_ireturn f_140_6 rI_140 ?_
    show lm_W _ _ _ _ [.int x1] _ _
    exact ls_ireturn f_105_75 rI_105 hyp
theorem e_106 {d : Nat} {h : lm_H} {K : Int32 → lm_H → Prop} (hl : lm_Lay h) (hyp : K (lm_i h 0 17) h) : lm_call (d + 1) 106 [.ref 0] h (lm_kI K) := by
  refine ls_enter [some (.ref 0)] ml_106 (Nat.le_of_ble_eq_true rfl) rfl ?_
  refine ls_aload_n f_106_0 rfl ?_
  refine ls_getI f_106_1 p_106_104 hl S_0 ?_
  exact ls_ireturn f_106_4 rI_106 hyp
theorem e_107 {d : Nat} {h : lm_H} {K : Int32 → lm_H → Prop} (hl : lm_Lay h) (hyp : (if (lm_i h 1 4) < 6 then (lm_call (d + 2) 25 [.ref 13, .ref 12, .int (lm_i h 11 1)] (lm_si h 11 1 0) (lm_kR fun r2 h1 => (lm_o r2 (K (-6) (lm_si (lm_si (lm_si h1 0 16 (lm_i h1 13 7)) 0 15 (-6)) 75 4 ((lm_i h1 75 4) + 1))) (fun o3 => lm_in (lm_i h1 1 4) 6 False ((∀ b, (some o3) = some b → lm_sh (lm_si h1 0 16 (lm_i h1 13 7)) b = some (0, 2)) ∧ (K (((lm_i h1 1 4) + 1) - 1) (lm_si (lm_si (lm_sr (lm_si h1 0 16 (lm_i h1 13 7)) 8 ((lm_i h1 1 4).toNatClampNeg) (some o3)) 1 4 ((lm_i h1 1 4) + 1)) 0 15 0))))))) else (K (-5) (lm_si (lm_si (lm_si h 11 1 0) 0 15 (-5)) 75 3 ((lm_i h 75 3) + 1))))) : lm_call (d + 3) 107 [.ref 0] h (lm_kI K) := by
  refine ls_enter [some (.ref 0), none, none] ml_107 (Nat.le_of_ble_eq_true rfl) rfl ?_
  refine ls_aload_n f_107_0 rfl ?_
  refine ls_getR f_107_1 p_107_27 hl S_0 F_0_3 ?_
  refine ls_getI f_107_4 p_107_160 hl S_11 ?_
  refine ls_istore_n [some (.ref 0), some (.int (lm_i h 11 1)), none] f_107_7 (Nat.le_of_ble_eq_true rfl) rfl ?_
  refine ls_aload_n f_107_8 rfl ?_
  refine ls_getR f_107_9 p_107_27 hl S_0 F_0_3 ?_
  refine ls_iconst 0 f_107_12 (by decide) ?_
  refine ls_putI f_107_13 p_107_160 hl S_11 rfl ?_
  refine ls_aload_n f_107_16 rfl ?_
  refine ls_getR f_107_17 p_107_12 (lm_Lay_si hl _ _ _) S_0 F_0_0 ?_
  refine ls_getI f_107_20 p_107_170 (lm_Lay_si hl _ _ _) S_1 ?_
  refine ls_top (lm_i h 1 4) rfl ?_
  refine ls_bipush 6 f_107_23 (by decide) ?_
  refine ls_icmp_lt 35 f_107_25 rfl hyp (fun _ hyp => ?_) (fun _ hyp => ?_)
  · refine ls_aload_n f_107_35 rfl ?_
    refine ls_getR f_107_36 p_107_34 (lm_Lay_si hl _ _ _) S_0 F_0_4 ?_
    refine ls_aload_n f_107_39 rfl ?_
    refine ls_getR f_107_40 p_107_27 (lm_Lay_si hl _ _ _) S_0 F_0_3 ?_
    refine ls_getR f_107_43 p_107_173 (lm_Lay_si hl _ _ _) S_11 F_11_0 ?_
    refine ls_iload_n f_107_46 rfl ?_
    refine ls_invV (a := 13) f_107_47 q_107_176 [.ref 12, .int (lm_i h 11 1)] [] rfl (Nat.le_of_ble_eq_true rfl) (lm_Lay_si hl _ _ _) S_13 ow_25 ?_
    refine ls_call hyp (lm_Lay_si hl _ _ _) (fun _ h1 hl1 hyp => ?_)
    refine ls_retR hyp (fun r2 hyp => ?_)
    refine ls_astoreQ_n [some (.ref 0), some (.int (lm_i h 11 1)), some (va_rf r2)] f_107_50 (Nat.le_of_ble_eq_true rfl) rfl ?_
    refine ls_aload_n f_107_51 rfl ?_
    refine ls_aload_n f_107_52 rfl ?_
    refine ls_getR f_107_53 p_107_34 hl1 S_0 F_0_4 ?_
    refine ls_getI f_107_56 p_107_180 hl1 S_13 ?_
    refine ls_putI f_107_59 p_107_101 hl1 S_0 rfl ?_
    refine ls_aloadQ_n f_107_62 rfl ?_
    refine ls_ifnonnull 73 f_107_63 rfl hyp (fun ho hyp => ?_) (fun o3 ho hyp => ?_)
    · subst ho
      show lm_W _ _ _ [some (.ref 0), some (.int (lm_i h 11 1)), some (.null)] [] _ _
      refine ls_aload_n f_107_66 rfl ?_
      refine ls_bipush (-6) f_107_67 (by decide) ?_
      refine ls_invV (a := 0) f_107_69 q_107_107 [.int (-6)] [] rfl (Nat.le_of_ble_eq_true rfl) (lm_Lay_si hl1 _ _ _) S_0 ow_139 ?_
      refine ls_enter [some (.ref 0), some (.int (-6))] ml_139 (Nat.le_of_ble_eq_true rfl) rfl ?_
      refine ls_aload_n f_139_0 rfl ?_
      refine ls_iload_n f_139_1 rfl ?_
      refine ls_putI f_139_2 p_139_97 (lm_Lay_si hl1 _ _ _) S_0 rfl ?_
      refine ls_aload_n f_139_5 rfl ?_
      refine ls_getR f_139_6 p_139_94 (lm_Lay_si (lm_Lay_si hl1 _ _ _) _ _ _) S_0 F_0_14 ?_
      refine ls_iload_n f_139_9 rfl ?_
      refine ls_invS f_139_10 q_139_337 [.int (-6)] [.ref 75] rfl (Nat.le_of_ble_eq_true rfl) ?_
      refine ls_enter [some (.int (-6))] ml_141 (Nat.le_of_ble_eq_true rfl) rfl ?_
      refine ls_iload_n f_141_0 rfl ?_
      refine ls_table f_141_1 (by decide) ?_
      refine ls_swF (by decide) ?_
      refine ls_swF (by decide) ?_
      refine ls_swF (by decide) ?_
      refine ls_swF (by decide) ?_
      refine ls_swF (by decide) ?_
      refine ls_swD ?_
      refine lm_tg_of (t := 44) rfl ?_
      refine ls_iconst 4 f_141_44 (by decide) ?_
      refine ls_ireturn f_141_45 rI_141 ?_
      show lm_W _ _ _ _ [.int 4, .ref 75] _ _
      refine ls_dup2 f_139_13 rfl rfl ?_
      refine ls_ialdC 4 f_139_14 (lm_Lay_si (lm_Lay_si hl1 _ _ _) _ _ _) S_75 ⟨by decide, by decide, by decide⟩ ?_
      refine ls_top (lm_i h1 75 4) rfl ?_
      refine ls_iconst 1 f_139_15 (by decide) ?_
      refine ls_iadd ((lm_i h1 75 4) + 1) f_139_16 rfl ?_
      refine ls_iastC 4 f_139_17 (lm_Lay_si (lm_Lay_si hl1 _ _ _) _ _ _) S_75 ⟨by decide, by decide, by decide⟩ ?_
      refine ls_iload_n f_139_18 rfl ?_
      refine ls_ireturn f_139_19 rI_139 ?_
      show lm_W _ _ _ _ [.int (-6)] _ _
      exact ls_ireturn f_107_72 rI_107 hyp
    · subst ho
      show lm_W _ _ _ [some (.ref 0), some (.int (lm_i h 11 1)), some (.ref o3)] [] _ _
      refine ls_aload_n f_107_73 rfl ?_
      refine ls_getR f_107_74 p_107_12 (lm_Lay_si hl1 _ _ _) S_0 F_0_0 ?_
      refine ls_getR f_107_77 p_107_183 (lm_Lay_si hl1 _ _ _) S_1 F_1_12 ?_
      refine ls_aload_n f_107_80 rfl ?_
      refine ls_getR f_107_81 p_107_12 (lm_Lay_si hl1 _ _ _) S_0 F_0_0 ?_
      refine ls_getI f_107_84 p_107_170 (lm_Lay_si hl1 _ _ _) S_1 ?_
      refine ls_top (lm_i h1 1 4) rfl ?_
      refine ls_aload_n f_107_87 rfl ?_
      refine ls_aast (o := (some o3)) f_107_88 (lm_Lay_si hl1 _ _ _) S_8 hyp (fun hyp => ?_)
      refine ls_aload_n f_107_89 rfl ?_
      refine ls_getR f_107_90 p_107_12 (lm_Lay_srL (lm_Lay_si hl1 _ _ _) S_8 _ _) S_0 F_0_0 ?_
      refine ls_dup f_107_93 rfl ?_
      refine ls_getI f_107_94 p_107_170 (lm_Lay_srL (lm_Lay_si hl1 _ _ _) S_8 _ _) S_1 ?_
      refine ls_top (lm_i h1 1 4) rfl ?_
      refine ls_iconst 1 f_107_97 (by decide) ?_
      refine ls_iadd ((lm_i h1 1 4) + 1) f_107_98 rfl ?_
      refine ls_putI f_107_99 p_107_170 (lm_Lay_srL (lm_Lay_si hl1 _ _ _) S_8 _ _) S_1 rfl ?_
      refine ls_aload_n f_107_102 rfl ?_
      refine ls_aload_n f_107_103 rfl ?_
      refine ls_getR f_107_104 p_107_12 (lm_Lay_si (lm_Lay_srL (lm_Lay_si hl1 _ _ _) S_8 _ _) _ _ _) S_0 F_0_0 ?_
      refine ls_getI f_107_107 p_107_170 (lm_Lay_si (lm_Lay_srL (lm_Lay_si hl1 _ _ _) S_8 _ _) _ _ _) S_1 ?_
      refine ls_top ((lm_i h1 1 4) + 1) rfl ?_
      refine ls_iconst 1 f_107_110 (by decide) ?_
      refine ls_isub (((lm_i h1 1 4) + 1) - 1) f_107_111 rfl ?_
      refine ls_invV (a := 0) f_107_112 q_107_117 [.int (((lm_i h1 1 4) + 1) - 1)] [] rfl (Nat.le_of_ble_eq_true rfl) (lm_Lay_si (lm_Lay_srL (lm_Lay_si hl1 _ _ _) S_8 _ _) _ _ _) S_0 ow_140 ?_
      refine ls_enter [some (.ref 0), some (.int (((lm_i h1 1 4) + 1) - 1))] ml_140 (Nat.le_of_ble_eq_true rfl) rfl ?_
      refine ls_aload_n f_140_0 rfl ?_
      refine ls_iconst 0 f_140_1 (by decide) ?_
      refine ls_putI f_140_2 p_140_97 (lm_Lay_si (lm_Lay_srL (lm_Lay_si hl1 _ _ _) S_8 _ _) _ _ _) S_0 rfl ?_
      refine ls_iload_n f_140_5 rfl ?_
      refine ls_ireturn f_140_6 rI_140 ?_
      show lm_W _ _ _ _ [.int (((lm_i h1 1 4) + 1) - 1)] _ _
      exact ls_ireturn f_107_115 rI_107 hyp
  · refine ls_aload_n f_107_28 rfl ?_
    refine ls_bipush (-5) f_107_29 (by decide) ?_
    refine ls_invV (a := 0) f_107_31 q_107_107 [.int (-5)] [] rfl (Nat.le_of_ble_eq_true rfl) (lm_Lay_si hl _ _ _) S_0 ow_139 ?_
    refine ls_enter [some (.ref 0), some (.int (-5))] ml_139 (Nat.le_of_ble_eq_true rfl) rfl ?_
    refine ls_aload_n f_139_0 rfl ?_
    refine ls_iload_n f_139_1 rfl ?_
    refine ls_putI f_139_2 p_139_97 (lm_Lay_si hl _ _ _) S_0 rfl ?_
    refine ls_aload_n f_139_5 rfl ?_
    refine ls_getR f_139_6 p_139_94 (lm_Lay_si (lm_Lay_si hl _ _ _) _ _ _) S_0 F_0_14 ?_
    refine ls_iload_n f_139_9 rfl ?_
    refine ls_invS f_139_10 q_139_337 [.int (-5)] [.ref 75] rfl (Nat.le_of_ble_eq_true rfl) ?_
    refine ls_enter [some (.int (-5))] ml_141 (Nat.le_of_ble_eq_true rfl) rfl ?_
    refine ls_iload_n f_141_0 rfl ?_
    refine ls_table f_141_1 (by decide) ?_
    refine ls_swT (by decide) ?_
    refine lm_tg_of (t := 42) rfl ?_
    refine ls_iconst 3 f_141_42 (by decide) ?_
    refine ls_ireturn f_141_43 rI_141 ?_
    show lm_W _ _ _ _ [.int 3, .ref 75] _ _
    refine ls_dup2 f_139_13 rfl rfl ?_
    refine ls_ialdC 3 f_139_14 (lm_Lay_si (lm_Lay_si hl _ _ _) _ _ _) S_75 ⟨by decide, by decide, by decide⟩ ?_
    refine ls_top (lm_i h 75 3) rfl ?_
    refine ls_iconst 1 f_139_15 (by decide) ?_
    refine ls_iadd ((lm_i h 75 3) + 1) f_139_16 rfl ?_
    refine ls_iastC 3 f_139_17 (lm_Lay_si (lm_Lay_si hl _ _ _) _ _ _) S_75 ⟨by decide, by decide, by decide⟩ ?_
    refine ls_iload_n f_139_18 rfl ?_
    refine ls_ireturn f_139_19 rI_139 ?_
    show lm_W _ _ _ _ [.int (-5)] _ _
    exact ls_ireturn f_107_34 rI_107 hyp
theorem e_108 {d : Nat} {h : lm_H} {K : Int32 → lm_H → Prop} (hl : lm_Lay h) (hyp : K (lm_i h 0 16) h) : lm_call (d + 1) 108 [.ref 0] h (lm_kI K) := by
  refine ls_enter [some (.ref 0)] ml_108 (Nat.le_of_ble_eq_true rfl) rfl ?_
  refine ls_aload_n f_108_0 rfl ?_
  refine ls_getI f_108_1 p_108_101 hl S_0 ?_
  exact ls_ireturn f_108_4 rI_108 hyp
theorem e_109 {d : Nat} {h : lm_H} {K : Int32 → lm_H → Prop} (x1 : Int32) (hl : lm_Lay h) (hyp : (if x1 < (-1) then (K (-2) (lm_si (lm_si h 0 15 (-2)) 75 1 ((lm_i h 75 1) + 1))) else (if x1 < (lm_i h 1 4) then (K (lm_i h 1 5) (lm_si (lm_si h 1 5 x1) 0 15 0)) else (K (-2) (lm_si (lm_si h 0 15 (-2)) 75 1 ((lm_i h 75 1) + 1)))))) : lm_call (d + 3) 109 [.ref 0, .int x1] h (lm_kI K) := by
  refine ls_enter [some (.ref 0), some (.int x1), none] ml_109 (Nat.le_of_ble_eq_true rfl) rfl ?_
  refine ls_iload_n f_109_0 rfl ?_
  refine ls_iconst (-1) f_109_1 (by decide) ?_
  refine ls_icmp_lt 16 f_109_2 rfl hyp (fun _ hyp => ?_) (fun _ hyp => ?_)
  · refine ls_aload_n f_109_16 rfl ?_
    refine ls_bipush (-2) f_109_17 (by decide) ?_
    refine ls_invV (a := 0) f_109_19 q_109_107 [.int (-2)] [] rfl (Nat.le_of_ble_eq_true rfl) hl S_0 ow_139 ?_
    refine ls_enter [some (.ref 0), some (.int (-2))] ml_139 (Nat.le_of_ble_eq_true rfl) rfl ?_
    refine ls_aload_n f_139_0 rfl ?_
    refine ls_iload_n f_139_1 rfl ?_
    refine ls_putI f_139_2 p_139_97 hl S_0 rfl ?_
    refine ls_aload_n f_139_5 rfl ?_
    refine ls_getR f_139_6 p_139_94 (lm_Lay_si hl _ _ _) S_0 F_0_14 ?_
    refine ls_iload_n f_139_9 rfl ?_
    refine ls_invS f_139_10 q_139_337 [.int (-2)] [.ref 75] rfl (Nat.le_of_ble_eq_true rfl) ?_
    refine ls_enter [some (.int (-2))] ml_141 (Nat.le_of_ble_eq_true rfl) rfl ?_
    refine ls_iload_n f_141_0 rfl ?_
    refine ls_table f_141_1 (by decide) ?_
    refine ls_swF (by decide) ?_
    refine ls_swF (by decide) ?_
    refine ls_swF (by decide) ?_
    refine ls_swT (by decide) ?_
    refine lm_tg_of (t := 38) rfl ?_
    refine ls_iconst 1 f_141_38 (by decide) ?_
    refine ls_ireturn f_141_39 rI_141 ?_
    show lm_W _ _ _ _ [.int 1, .ref 75] _ _
    refine ls_dup2 f_139_13 rfl rfl ?_
    refine ls_ialdC 1 f_139_14 (lm_Lay_si hl _ _ _) S_75 ⟨by decide, by decide, by decide⟩ ?_
    refine ls_top (lm_i h 75 1) rfl ?_
    refine ls_iconst 1 f_139_15 (by decide) ?_
    refine ls_iadd ((lm_i h 75 1) + 1) f_139_16 rfl ?_
    refine ls_iastC 1 f_139_17 (lm_Lay_si hl _ _ _) S_75 ⟨by decide, by decide, by decide⟩ ?_
    refine ls_iload_n f_139_18 rfl ?_
    refine ls_ireturn f_139_19 rI_139 ?_
    show lm_W _ _ _ _ [.int (-2)] _ _
    exact ls_ireturn f_109_22 rI_109 hyp
  · refine ls_iload_n f_109_5 rfl ?_
    refine ls_aload_n f_109_6 rfl ?_
    refine ls_getR f_109_7 p_109_12 hl S_0 F_0_0 ?_
    refine ls_getI f_109_10 p_109_170 hl S_1 ?_
    refine ls_icmp_lt 23 f_109_13 rfl hyp (fun _ hyp => ?_) (fun _ hyp => ?_)
    · refine ls_aload_n f_109_23 rfl ?_
      refine ls_getR f_109_24 p_109_12 hl S_0 F_0_0 ?_
      refine ls_getI f_109_27 p_109_187 hl S_1 ?_
      refine ls_istore_n [some (.ref 0), some (.int x1), some (.int (lm_i h 1 5))] f_109_30 (Nat.le_of_ble_eq_true rfl) rfl ?_
      refine ls_aload_n f_109_31 rfl ?_
      refine ls_getR f_109_32 p_109_12 hl S_0 F_0_0 ?_
      refine ls_iload_n f_109_35 rfl ?_
      refine ls_putI f_109_36 p_109_187 hl S_1 rfl ?_
      refine ls_aload_n f_109_39 rfl ?_
      refine ls_iload_n f_109_40 rfl ?_
      refine ls_invV (a := 0) f_109_41 q_109_117 [.int (lm_i h 1 5)] [] rfl (Nat.le_of_ble_eq_true rfl) (lm_Lay_si hl _ _ _) S_0 ow_140 ?_
      refine ls_enter [some (.ref 0), some (.int (lm_i h 1 5))] ml_140 (Nat.le_of_ble_eq_true rfl) rfl ?_
      refine ls_aload_n f_140_0 rfl ?_
      refine ls_iconst 0 f_140_1 (by decide) ?_
      refine ls_putI f_140_2 p_140_97 (lm_Lay_si hl _ _ _) S_0 rfl ?_
      refine ls_iload_n f_140_5 rfl ?_
      refine ls_ireturn f_140_6 rI_140 ?_
      show lm_W _ _ _ _ [.int (lm_i h 1 5)] _ _
      exact ls_ireturn f_109_44 rI_109 hyp
    · refine ls_aload_n f_109_16 rfl ?_
      refine ls_bipush (-2) f_109_17 (by decide) ?_
      refine ls_invV (a := 0) f_109_19 q_109_107 [.int (-2)] [] rfl (Nat.le_of_ble_eq_true rfl) hl S_0 ow_139 ?_
      refine ls_enter [some (.ref 0), some (.int (-2))] ml_139 (Nat.le_of_ble_eq_true rfl) rfl ?_
      refine ls_aload_n f_139_0 rfl ?_
      refine ls_iload_n f_139_1 rfl ?_
      refine ls_putI f_139_2 p_139_97 hl S_0 rfl ?_
      refine ls_aload_n f_139_5 rfl ?_
      refine ls_getR f_139_6 p_139_94 (lm_Lay_si hl _ _ _) S_0 F_0_14 ?_
      refine ls_iload_n f_139_9 rfl ?_
      refine ls_invS f_139_10 q_139_337 [.int (-2)] [.ref 75] rfl (Nat.le_of_ble_eq_true rfl) ?_
      refine ls_enter [some (.int (-2))] ml_141 (Nat.le_of_ble_eq_true rfl) rfl ?_
      refine ls_iload_n f_141_0 rfl ?_
      refine ls_table f_141_1 (by decide) ?_
      refine ls_swF (by decide) ?_
      refine ls_swF (by decide) ?_
      refine ls_swF (by decide) ?_
      refine ls_swT (by decide) ?_
      refine lm_tg_of (t := 38) rfl ?_
      refine ls_iconst 1 f_141_38 (by decide) ?_
      refine ls_ireturn f_141_39 rI_141 ?_
      show lm_W _ _ _ _ [.int 1, .ref 75] _ _
      refine ls_dup2 f_139_13 rfl rfl ?_
      refine ls_ialdC 1 f_139_14 (lm_Lay_si hl _ _ _) S_75 ⟨by decide, by decide, by decide⟩ ?_
      refine ls_top (lm_i h 75 1) rfl ?_
      refine ls_iconst 1 f_139_15 (by decide) ?_
      refine ls_iadd ((lm_i h 75 1) + 1) f_139_16 rfl ?_
      refine ls_iastC 1 f_139_17 (lm_Lay_si hl _ _ _) S_75 ⟨by decide, by decide, by decide⟩ ?_
      refine ls_iload_n f_139_18 rfl ?_
      refine ls_ireturn f_139_19 rI_139 ?_
      show lm_W _ _ _ _ [.int (-2)] _ _
      exact ls_ireturn f_109_22 rI_109 hyp
theorem e_110 {d : Nat} {h : lm_H} {K : Int32 → lm_H → Prop} (x1 : Int32) (x2 : Int32) (hl : lm_Lay h) (hyp : (if x1 < 0 then (K (-2) (lm_si (lm_si h 0 15 (-2)) 75 1 ((lm_i h 75 1) + 1))) else (if x1 < (lm_i h 1 0) then (if x2 = (-1) then (lm_in x1 5 False (if x2 = (-1) then (lm_in x1 5 False (if (lm_i h 5 x1.toNatClampNeg) = 6 then (K (-1) (lm_si (lm_si h 5 x1.toNatClampNeg 6) 0 15 0)) else (K (lm_i h 5 x1.toNatClampNeg) (lm_si (lm_si h 5 x1.toNatClampNeg 6) 0 15 0)))) else (lm_in x1 5 False (if (lm_i h 5 x1.toNatClampNeg) = 6 then (K (-1) (lm_si (lm_si h 5 x1.toNatClampNeg x2) 0 15 0)) else (K (lm_i h 5 x1.toNatClampNeg) (lm_si (lm_si h 5 x1.toNatClampNeg x2) 0 15 0)))))) else (if x2 < 0 then (K (-2) (lm_si (lm_si h 0 15 (-2)) 75 1 ((lm_i h 75 1) + 1))) else (if x2 < (lm_i h 1 1) then (lm_in x1 5 False (if x2 = (-1) then (lm_in x1 5 False (if (lm_i h 5 x1.toNatClampNeg) = 6 then (K (-1) (lm_si (lm_si h 5 x1.toNatClampNeg 6) 0 15 0)) else (K (lm_i h 5 x1.toNatClampNeg) (lm_si (lm_si h 5 x1.toNatClampNeg 6) 0 15 0)))) else (lm_in x1 5 False (if (lm_i h 5 x1.toNatClampNeg) = 6 then (K (-1) (lm_si (lm_si h 5 x1.toNatClampNeg x2) 0 15 0)) else (K (lm_i h 5 x1.toNatClampNeg) (lm_si (lm_si h 5 x1.toNatClampNeg x2) 0 15 0)))))) else (K (-2) (lm_si (lm_si h 0 15 (-2)) 75 1 ((lm_i h 75 1) + 1)))))) else (K (-2) (lm_si (lm_si h 0 15 (-2)) 75 1 ((lm_i h 75 1) + 1)))))) : lm_call (d + 3) 110 [.ref 0, .int x1, .int x2] h (lm_kI K) := by
  refine ls_enter [some (.ref 0), some (.int x1), some (.int x2), none] ml_110 (Nat.le_of_ble_eq_true rfl) rfl ?_
  refine ls_aload_n f_110_0 rfl ?_
  refine ls_getR f_110_1 p_110_12 hl S_0 F_0_0 ?_
  refine ls_iload_n f_110_4 rfl ?_
  refine ls_invV (a := 1) f_110_5 q_110_190 [.int x1] [] rfl (Nat.le_of_ble_eq_true rfl) hl S_1 ow_49 ?_
  refine ls_enter [some (.ref 1), some (.int x1)] ml_49 (Nat.le_of_ble_eq_true rfl) rfl ?_
  refine ls_iload_n f_49_0 rfl ?_
  refine ls_if_lt 16 f_49_1 rfl hyp (fun _ hyp => ?_) (fun _ hyp => ?_)
  · refine ls_iconst 0 f_49_16 (by decide) ?_
    refine ls_zreturn f_49_17 rZ_49 (by decide) ?_
    show lm_W _ _ _ _ [.int 0] _ _
    refine ls_if_eq_T 27 f_110_8 rfl (by decide) ?_
    refine ls_aload_n f_110_27 rfl ?_
    refine ls_bipush (-2) f_110_28 (by decide) ?_
    refine ls_invV (a := 0) f_110_30 q_110_107 [.int (-2)] [] rfl (Nat.le_of_ble_eq_true rfl) hl S_0 ow_139 ?_
    refine ls_enter [some (.ref 0), some (.int (-2))] ml_139 (Nat.le_of_ble_eq_true rfl) rfl ?_
    refine ls_aload_n f_139_0 rfl ?_
    refine ls_iload_n f_139_1 rfl ?_
    refine ls_putI f_139_2 p_139_97 hl S_0 rfl ?_
    refine ls_aload_n f_139_5 rfl ?_
    refine ls_getR f_139_6 p_139_94 (lm_Lay_si hl _ _ _) S_0 F_0_14 ?_
    refine ls_iload_n f_139_9 rfl ?_
    refine ls_invS f_139_10 q_139_337 [.int (-2)] [.ref 75] rfl (Nat.le_of_ble_eq_true rfl) ?_
    refine ls_enter [some (.int (-2))] ml_141 (Nat.le_of_ble_eq_true rfl) rfl ?_
    refine ls_iload_n f_141_0 rfl ?_
    refine ls_table f_141_1 (by decide) ?_
    refine ls_swF (by decide) ?_
    refine ls_swF (by decide) ?_
    refine ls_swF (by decide) ?_
    refine ls_swT (by decide) ?_
    refine lm_tg_of (t := 38) rfl ?_
    refine ls_iconst 1 f_141_38 (by decide) ?_
    refine ls_ireturn f_141_39 rI_141 ?_
    show lm_W _ _ _ _ [.int 1, .ref 75] _ _
    refine ls_dup2 f_139_13 rfl rfl ?_
    refine ls_ialdC 1 f_139_14 (lm_Lay_si hl _ _ _) S_75 ⟨by decide, by decide, by decide⟩ ?_
    refine ls_top (lm_i h 75 1) rfl ?_
    refine ls_iconst 1 f_139_15 (by decide) ?_
    refine ls_iadd ((lm_i h 75 1) + 1) f_139_16 rfl ?_
    refine ls_iastC 1 f_139_17 (lm_Lay_si hl _ _ _) S_75 ⟨by decide, by decide, by decide⟩ ?_
    refine ls_iload_n f_139_18 rfl ?_
    refine ls_ireturn f_139_19 rI_139 ?_
    show lm_W _ _ _ _ [.int (-2)] _ _
    exact ls_ireturn f_110_33 rI_110 hyp
  · refine ls_iload_n f_49_4 rfl ?_
    refine ls_aload_n f_49_5 rfl ?_
    refine ls_getI f_49_6 p_49_9 hl S_1 ?_
    refine ls_icmp_ge 16 f_49_9 rfl hyp (fun _ hyp => ?_) (fun _ hyp => ?_)
    · refine ls_iconst 1 f_49_12 (by decide) ?_
      refine ls_goto 17 f_49_13 rfl ?_
      refine ls_zreturn f_49_17 rZ_49 (by decide) ?_
      show lm_W _ _ _ _ [.int 1] _ _
      refine ls_if_eq_F 27 f_110_8 rfl (by decide) ?_
      refine ls_iload_n f_110_11 rfl ?_
      refine ls_iconst (-1) f_110_12 (by decide) ?_
      refine ls_icmp_eq 34 f_110_13 rfl hyp (fun _ hyp => ?_) (fun _ hyp => ?_)
      · refine ls_aload_n f_110_34 rfl ?_
        refine ls_getR f_110_35 p_110_12 hl S_0 F_0_0 ?_
        refine ls_getR f_110_38 p_110_196 hl S_1 F_1_9 ?_
        refine ls_iload_n f_110_41 rfl ?_
        refine ls_iald f_110_42 hl S_5 hyp (fun hyp => ?_)
        refine ls_istore_n [some (.ref 0), some (.int x1), some (.int x2), some (.int (lm_i h 5 x1.toNatClampNeg))] f_110_43 (Nat.le_of_ble_eq_true rfl) rfl ?_
        refine ls_aload_n f_110_44 rfl ?_
        refine ls_getR f_110_45 p_110_12 hl S_0 F_0_0 ?_
        refine ls_getR f_110_48 p_110_196 hl S_1 F_1_9 ?_
        refine ls_iload_n f_110_51 rfl ?_
        refine ls_iload_n f_110_52 rfl ?_
        refine ls_iconst (-1) f_110_53 (by decide) ?_
        refine ls_icmp_ne 62 f_110_54 rfl hyp (fun _ hyp => ?_) (fun _ hyp => ?_)
        · refine ls_bipush 6 f_110_57 (by decide) ?_
          refine ls_goto 63 f_110_59 rfl ?_
          refine ls_iast f_110_63 hl S_5 hyp (fun hyp => ?_)
          refine ls_aload_n f_110_64 rfl ?_
          refine ls_iload_n f_110_65 rfl ?_
          refine ls_invS f_110_66 q_110_199 [.int (lm_i h 5 x1.toNatClampNeg)] [.ref 0] rfl (Nat.le_of_ble_eq_true rfl) ?_
          refine ls_enter [some (.int (lm_i h 5 x1.toNatClampNeg))] ml_149 (Nat.le_of_ble_eq_true rfl) rfl ?_
          refine ls_iload_n f_149_0 rfl ?_
          refine ls_bipush 6 f_149_1 (by decide) ?_
          refine ls_icmp_ne 10 f_149_3 rfl hyp (fun _ hyp => ?_) (fun _ hyp => ?_)
          · refine ls_iconst (-1) f_149_6 (by decide) ?_
            refine ls_goto 11 f_149_7 rfl ?_
            refine ls_ireturn f_149_11 rI_149 ?_
            show lm_W _ _ _ _ [.int (-1), .ref 0] _ _
            refine ls_invV (a := 0) f_110_69 q_110_117 [.int (-1)] [] rfl (Nat.le_of_ble_eq_true rfl) (lm_Lay_si hl _ _ _) S_0 ow_140 ?_
            refine ls_enter [some (.ref 0), some (.int (-1))] ml_140 (Nat.le_of_ble_eq_true rfl) rfl ?_
            refine ls_aload_n f_140_0 rfl ?_
            refine ls_iconst 0 f_140_1 (by decide) ?_
            refine ls_putI f_140_2 p_140_97 (lm_Lay_si hl _ _ _) S_0 rfl ?_
            refine ls_iload_n f_140_5 rfl ?_
            refine ls_ireturn f_140_6 rI_140 ?_
            show lm_W _ _ _ _ [.int (-1)] _ _
            exact ls_ireturn f_110_72 rI_110 hyp
          · refine ls_iload_n f_149_10 rfl ?_
            refine ls_ireturn f_149_11 rI_149 ?_
            show lm_W _ _ _ _ [.int (lm_i h 5 x1.toNatClampNeg), .ref 0] _ _
            refine ls_invV (a := 0) f_110_69 q_110_117 [.int (lm_i h 5 x1.toNatClampNeg)] [] rfl (Nat.le_of_ble_eq_true rfl) (lm_Lay_si hl _ _ _) S_0 ow_140 ?_
            refine ls_enter [some (.ref 0), some (.int (lm_i h 5 x1.toNatClampNeg))] ml_140 (Nat.le_of_ble_eq_true rfl) rfl ?_
            refine ls_aload_n f_140_0 rfl ?_
            refine ls_iconst 0 f_140_1 (by decide) ?_
            refine ls_putI f_140_2 p_140_97 (lm_Lay_si hl _ _ _) S_0 rfl ?_
            refine ls_iload_n f_140_5 rfl ?_
            refine ls_ireturn f_140_6 rI_140 ?_
            show lm_W _ _ _ _ [.int (lm_i h 5 x1.toNatClampNeg)] _ _
            exact ls_ireturn f_110_72 rI_110 hyp
        · refine ls_iload_n f_110_62 rfl ?_
          refine ls_iast f_110_63 hl S_5 hyp (fun hyp => ?_)
          refine ls_aload_n f_110_64 rfl ?_
          refine ls_iload_n f_110_65 rfl ?_
          refine ls_invS f_110_66 q_110_199 [.int (lm_i h 5 x1.toNatClampNeg)] [.ref 0] rfl (Nat.le_of_ble_eq_true rfl) ?_
          refine ls_enter [some (.int (lm_i h 5 x1.toNatClampNeg))] ml_149 (Nat.le_of_ble_eq_true rfl) rfl ?_
          refine ls_iload_n f_149_0 rfl ?_
          refine ls_bipush 6 f_149_1 (by decide) ?_
          refine ls_icmp_ne 10 f_149_3 rfl hyp (fun _ hyp => ?_) (fun _ hyp => ?_)
          · refine ls_iconst (-1) f_149_6 (by decide) ?_
            refine ls_goto 11 f_149_7 rfl ?_
            refine ls_ireturn f_149_11 rI_149 ?_
            show lm_W _ _ _ _ [.int (-1), .ref 0] _ _
            refine ls_invV (a := 0) f_110_69 q_110_117 [.int (-1)] [] rfl (Nat.le_of_ble_eq_true rfl) (lm_Lay_si hl _ _ _) S_0 ow_140 ?_
            refine ls_enter [some (.ref 0), some (.int (-1))] ml_140 (Nat.le_of_ble_eq_true rfl) rfl ?_
            refine ls_aload_n f_140_0 rfl ?_
            refine ls_iconst 0 f_140_1 (by decide) ?_
            refine ls_putI f_140_2 p_140_97 (lm_Lay_si hl _ _ _) S_0 rfl ?_
            refine ls_iload_n f_140_5 rfl ?_
            refine ls_ireturn f_140_6 rI_140 ?_
            show lm_W _ _ _ _ [.int (-1)] _ _
            exact ls_ireturn f_110_72 rI_110 hyp
          · refine ls_iload_n f_149_10 rfl ?_
            refine ls_ireturn f_149_11 rI_149 ?_
            show lm_W _ _ _ _ [.int (lm_i h 5 x1.toNatClampNeg), .ref 0] _ _
            refine ls_invV (a := 0) f_110_69 q_110_117 [.int (lm_i h 5 x1.toNatClampNeg)] [] rfl (Nat.le_of_ble_eq_true rfl) (lm_Lay_si hl _ _ _) S_0 ow_140 ?_
            refine ls_enter [some (.ref 0), some (.int (lm_i h 5 x1.toNatClampNeg))] ml_140 (Nat.le_of_ble_eq_true rfl) rfl ?_
            refine ls_aload_n f_140_0 rfl ?_
            refine ls_iconst 0 f_140_1 (by decide) ?_
            refine ls_putI f_140_2 p_140_97 (lm_Lay_si hl _ _ _) S_0 rfl ?_
            refine ls_iload_n f_140_5 rfl ?_
            refine ls_ireturn f_140_6 rI_140 ?_
            show lm_W _ _ _ _ [.int (lm_i h 5 x1.toNatClampNeg)] _ _
            exact ls_ireturn f_110_72 rI_110 hyp
      · refine ls_aload_n f_110_16 rfl ?_
        refine ls_getR f_110_17 p_110_12 hl S_0 F_0_0 ?_
        refine ls_iload_n f_110_20 rfl ?_
        refine ls_invV (a := 1) f_110_21 q_110_193 [.int x2] [] rfl (Nat.le_of_ble_eq_true rfl) hl S_1 ow_50 ?_
        refine ls_enter [some (.ref 1), some (.int x2)] ml_50 (Nat.le_of_ble_eq_true rfl) rfl ?_
        refine ls_iload_n f_50_0 rfl ?_
        refine ls_if_lt 16 f_50_1 rfl hyp (fun _ hyp => ?_) (fun _ hyp => ?_)
        · refine ls_iconst 0 f_50_16 (by decide) ?_
          refine ls_zreturn f_50_17 rZ_50 (by decide) ?_
          show lm_W _ _ _ _ [.int 0] _ _
          refine ls_if_ne_T 34 f_110_24 rfl (by decide) ?_
          refine ls_aload_n f_110_27 rfl ?_
          refine ls_bipush (-2) f_110_28 (by decide) ?_
          refine ls_invV (a := 0) f_110_30 q_110_107 [.int (-2)] [] rfl (Nat.le_of_ble_eq_true rfl) hl S_0 ow_139 ?_
          refine ls_enter [some (.ref 0), some (.int (-2))] ml_139 (Nat.le_of_ble_eq_true rfl) rfl ?_
          refine ls_aload_n f_139_0 rfl ?_
          refine ls_iload_n f_139_1 rfl ?_
          refine ls_putI f_139_2 p_139_97 hl S_0 rfl ?_
          refine ls_aload_n f_139_5 rfl ?_
          refine ls_getR f_139_6 p_139_94 (lm_Lay_si hl _ _ _) S_0 F_0_14 ?_
          refine ls_iload_n f_139_9 rfl ?_
          refine ls_invS f_139_10 q_139_337 [.int (-2)] [.ref 75] rfl (Nat.le_of_ble_eq_true rfl) ?_
          refine ls_enter [some (.int (-2))] ml_141 (Nat.le_of_ble_eq_true rfl) rfl ?_
          refine ls_iload_n f_141_0 rfl ?_
          refine ls_table f_141_1 (by decide) ?_
          refine ls_swF (by decide) ?_
          refine ls_swF (by decide) ?_
          refine ls_swF (by decide) ?_
          refine ls_swT (by decide) ?_
          refine lm_tg_of (t := 38) rfl ?_
          refine ls_iconst 1 f_141_38 (by decide) ?_
          refine ls_ireturn f_141_39 rI_141 ?_
          show lm_W _ _ _ _ [.int 1, .ref 75] _ _
          refine ls_dup2 f_139_13 rfl rfl ?_
          refine ls_ialdC 1 f_139_14 (lm_Lay_si hl _ _ _) S_75 ⟨by decide, by decide, by decide⟩ ?_
          refine ls_top (lm_i h 75 1) rfl ?_
          refine ls_iconst 1 f_139_15 (by decide) ?_
          refine ls_iadd ((lm_i h 75 1) + 1) f_139_16 rfl ?_
          refine ls_iastC 1 f_139_17 (lm_Lay_si hl _ _ _) S_75 ⟨by decide, by decide, by decide⟩ ?_
          refine ls_iload_n f_139_18 rfl ?_
          refine ls_ireturn f_139_19 rI_139 ?_
          show lm_W _ _ _ _ [.int (-2)] _ _
          exact ls_ireturn f_110_33 rI_110 hyp
        · refine ls_iload_n f_50_4 rfl ?_
          refine ls_aload_n f_50_5 rfl ?_
          refine ls_getI f_50_6 p_50_15 hl S_1 ?_
          refine ls_icmp_ge 16 f_50_9 rfl hyp (fun _ hyp => ?_) (fun _ hyp => ?_)
          · refine ls_iconst 1 f_50_12 (by decide) ?_
            refine ls_goto 17 f_50_13 rfl ?_
            refine ls_zreturn f_50_17 rZ_50 (by decide) ?_
            show lm_W _ _ _ _ [.int 1] _ _
            refine ls_if_ne_F 34 f_110_24 rfl (by decide) ?_
            refine ls_aload_n f_110_34 rfl ?_
            refine ls_getR f_110_35 p_110_12 hl S_0 F_0_0 ?_
            refine ls_getR f_110_38 p_110_196 hl S_1 F_1_9 ?_
            refine ls_iload_n f_110_41 rfl ?_
            refine ls_iald f_110_42 hl S_5 hyp (fun hyp => ?_)
            refine ls_istore_n [some (.ref 0), some (.int x1), some (.int x2), some (.int (lm_i h 5 x1.toNatClampNeg))] f_110_43 (Nat.le_of_ble_eq_true rfl) rfl ?_
            refine ls_aload_n f_110_44 rfl ?_
            refine ls_getR f_110_45 p_110_12 hl S_0 F_0_0 ?_
            refine ls_getR f_110_48 p_110_196 hl S_1 F_1_9 ?_
            refine ls_iload_n f_110_51 rfl ?_
            refine ls_iload_n f_110_52 rfl ?_
            refine ls_iconst (-1) f_110_53 (by decide) ?_
            refine ls_icmp_ne 62 f_110_54 rfl hyp (fun _ hyp => ?_) (fun _ hyp => ?_)
            · refine ls_bipush 6 f_110_57 (by decide) ?_
              refine ls_goto 63 f_110_59 rfl ?_
              refine ls_iast f_110_63 hl S_5 hyp (fun hyp => ?_)
              refine ls_aload_n f_110_64 rfl ?_
              refine ls_iload_n f_110_65 rfl ?_
              refine ls_invS f_110_66 q_110_199 [.int (lm_i h 5 x1.toNatClampNeg)] [.ref 0] rfl (Nat.le_of_ble_eq_true rfl) ?_
              refine ls_enter [some (.int (lm_i h 5 x1.toNatClampNeg))] ml_149 (Nat.le_of_ble_eq_true rfl) rfl ?_
              refine ls_iload_n f_149_0 rfl ?_
              refine ls_bipush 6 f_149_1 (by decide) ?_
              refine ls_icmp_ne 10 f_149_3 rfl hyp (fun _ hyp => ?_) (fun _ hyp => ?_)
              · refine ls_iconst (-1) f_149_6 (by decide) ?_
                refine ls_goto 11 f_149_7 rfl ?_
                refine ls_ireturn f_149_11 rI_149 ?_
                show lm_W _ _ _ _ [.int (-1), .ref 0] _ _
                refine ls_invV (a := 0) f_110_69 q_110_117 [.int (-1)] [] rfl (Nat.le_of_ble_eq_true rfl) (lm_Lay_si hl _ _ _) S_0 ow_140 ?_
                refine ls_enter [some (.ref 0), some (.int (-1))] ml_140 (Nat.le_of_ble_eq_true rfl) rfl ?_
                refine ls_aload_n f_140_0 rfl ?_
                refine ls_iconst 0 f_140_1 (by decide) ?_
                refine ls_putI f_140_2 p_140_97 (lm_Lay_si hl _ _ _) S_0 rfl ?_
                refine ls_iload_n f_140_5 rfl ?_
                refine ls_ireturn f_140_6 rI_140 ?_
                show lm_W _ _ _ _ [.int (-1)] _ _
                exact ls_ireturn f_110_72 rI_110 hyp
              · refine ls_iload_n f_149_10 rfl ?_
                refine ls_ireturn f_149_11 rI_149 ?_
                show lm_W _ _ _ _ [.int (lm_i h 5 x1.toNatClampNeg), .ref 0] _ _
                refine ls_invV (a := 0) f_110_69 q_110_117 [.int (lm_i h 5 x1.toNatClampNeg)] [] rfl (Nat.le_of_ble_eq_true rfl) (lm_Lay_si hl _ _ _) S_0 ow_140 ?_
                refine ls_enter [some (.ref 0), some (.int (lm_i h 5 x1.toNatClampNeg))] ml_140 (Nat.le_of_ble_eq_true rfl) rfl ?_
                refine ls_aload_n f_140_0 rfl ?_
                refine ls_iconst 0 f_140_1 (by decide) ?_
                refine ls_putI f_140_2 p_140_97 (lm_Lay_si hl _ _ _) S_0 rfl ?_
                refine ls_iload_n f_140_5 rfl ?_
                refine ls_ireturn f_140_6 rI_140 ?_
                show lm_W _ _ _ _ [.int (lm_i h 5 x1.toNatClampNeg)] _ _
                exact ls_ireturn f_110_72 rI_110 hyp
            · refine ls_iload_n f_110_62 rfl ?_
              refine ls_iast f_110_63 hl S_5 hyp (fun hyp => ?_)
              refine ls_aload_n f_110_64 rfl ?_
              refine ls_iload_n f_110_65 rfl ?_
              refine ls_invS f_110_66 q_110_199 [.int (lm_i h 5 x1.toNatClampNeg)] [.ref 0] rfl (Nat.le_of_ble_eq_true rfl) ?_
              refine ls_enter [some (.int (lm_i h 5 x1.toNatClampNeg))] ml_149 (Nat.le_of_ble_eq_true rfl) rfl ?_
              refine ls_iload_n f_149_0 rfl ?_
              refine ls_bipush 6 f_149_1 (by decide) ?_
              refine ls_icmp_ne 10 f_149_3 rfl hyp (fun _ hyp => ?_) (fun _ hyp => ?_)
              · refine ls_iconst (-1) f_149_6 (by decide) ?_
                refine ls_goto 11 f_149_7 rfl ?_
                refine ls_ireturn f_149_11 rI_149 ?_
                show lm_W _ _ _ _ [.int (-1), .ref 0] _ _
                refine ls_invV (a := 0) f_110_69 q_110_117 [.int (-1)] [] rfl (Nat.le_of_ble_eq_true rfl) (lm_Lay_si hl _ _ _) S_0 ow_140 ?_
                refine ls_enter [some (.ref 0), some (.int (-1))] ml_140 (Nat.le_of_ble_eq_true rfl) rfl ?_
                refine ls_aload_n f_140_0 rfl ?_
                refine ls_iconst 0 f_140_1 (by decide) ?_
                refine ls_putI f_140_2 p_140_97 (lm_Lay_si hl _ _ _) S_0 rfl ?_
                refine ls_iload_n f_140_5 rfl ?_
                refine ls_ireturn f_140_6 rI_140 ?_
                show lm_W _ _ _ _ [.int (-1)] _ _
                exact ls_ireturn f_110_72 rI_110 hyp
              · refine ls_iload_n f_149_10 rfl ?_
                refine ls_ireturn f_149_11 rI_149 ?_
                show lm_W _ _ _ _ [.int (lm_i h 5 x1.toNatClampNeg), .ref 0] _ _
                refine ls_invV (a := 0) f_110_69 q_110_117 [.int (lm_i h 5 x1.toNatClampNeg)] [] rfl (Nat.le_of_ble_eq_true rfl) (lm_Lay_si hl _ _ _) S_0 ow_140 ?_
                refine ls_enter [some (.ref 0), some (.int (lm_i h 5 x1.toNatClampNeg))] ml_140 (Nat.le_of_ble_eq_true rfl) rfl ?_
                refine ls_aload_n f_140_0 rfl ?_
                refine ls_iconst 0 f_140_1 (by decide) ?_
                refine ls_putI f_140_2 p_140_97 (lm_Lay_si hl _ _ _) S_0 rfl ?_
                refine ls_iload_n f_140_5 rfl ?_
                refine ls_ireturn f_140_6 rI_140 ?_
                show lm_W _ _ _ _ [.int (lm_i h 5 x1.toNatClampNeg)] _ _
                exact ls_ireturn f_110_72 rI_110 hyp
          · refine ls_iconst 0 f_50_16 (by decide) ?_
            refine ls_zreturn f_50_17 rZ_50 (by decide) ?_
            show lm_W _ _ _ _ [.int 0] _ _
            refine ls_if_ne_T 34 f_110_24 rfl (by decide) ?_
            refine ls_aload_n f_110_27 rfl ?_
            refine ls_bipush (-2) f_110_28 (by decide) ?_
            refine ls_invV (a := 0) f_110_30 q_110_107 [.int (-2)] [] rfl (Nat.le_of_ble_eq_true rfl) hl S_0 ow_139 ?_
            refine ls_enter [some (.ref 0), some (.int (-2))] ml_139 (Nat.le_of_ble_eq_true rfl) rfl ?_
            refine ls_aload_n f_139_0 rfl ?_
            refine ls_iload_n f_139_1 rfl ?_
            refine ls_putI f_139_2 p_139_97 hl S_0 rfl ?_
            refine ls_aload_n f_139_5 rfl ?_
            refine ls_getR f_139_6 p_139_94 (lm_Lay_si hl _ _ _) S_0 F_0_14 ?_
            refine ls_iload_n f_139_9 rfl ?_
            refine ls_invS f_139_10 q_139_337 [.int (-2)] [.ref 75] rfl (Nat.le_of_ble_eq_true rfl) ?_
            refine ls_enter [some (.int (-2))] ml_141 (Nat.le_of_ble_eq_true rfl) rfl ?_
            refine ls_iload_n f_141_0 rfl ?_
            refine ls_table f_141_1 (by decide) ?_
            refine ls_swF (by decide) ?_
            refine ls_swF (by decide) ?_
            refine ls_swF (by decide) ?_
            refine ls_swT (by decide) ?_
            refine lm_tg_of (t := 38) rfl ?_
            refine ls_iconst 1 f_141_38 (by decide) ?_
            refine ls_ireturn f_141_39 rI_141 ?_
            show lm_W _ _ _ _ [.int 1, .ref 75] _ _
            refine ls_dup2 f_139_13 rfl rfl ?_
            refine ls_ialdC 1 f_139_14 (lm_Lay_si hl _ _ _) S_75 ⟨by decide, by decide, by decide⟩ ?_
            refine ls_top (lm_i h 75 1) rfl ?_
            refine ls_iconst 1 f_139_15 (by decide) ?_
            refine ls_iadd ((lm_i h 75 1) + 1) f_139_16 rfl ?_
            refine ls_iastC 1 f_139_17 (lm_Lay_si hl _ _ _) S_75 ⟨by decide, by decide, by decide⟩ ?_
            refine ls_iload_n f_139_18 rfl ?_
            refine ls_ireturn f_139_19 rI_139 ?_
            show lm_W _ _ _ _ [.int (-2)] _ _
            exact ls_ireturn f_110_33 rI_110 hyp
    · refine ls_iconst 0 f_49_16 (by decide) ?_
      refine ls_zreturn f_49_17 rZ_49 (by decide) ?_
      show lm_W _ _ _ _ [.int 0] _ _
      refine ls_if_eq_T 27 f_110_8 rfl (by decide) ?_
      refine ls_aload_n f_110_27 rfl ?_
      refine ls_bipush (-2) f_110_28 (by decide) ?_
      refine ls_invV (a := 0) f_110_30 q_110_107 [.int (-2)] [] rfl (Nat.le_of_ble_eq_true rfl) hl S_0 ow_139 ?_
      refine ls_enter [some (.ref 0), some (.int (-2))] ml_139 (Nat.le_of_ble_eq_true rfl) rfl ?_
      refine ls_aload_n f_139_0 rfl ?_
      refine ls_iload_n f_139_1 rfl ?_
      refine ls_putI f_139_2 p_139_97 hl S_0 rfl ?_
      refine ls_aload_n f_139_5 rfl ?_
      refine ls_getR f_139_6 p_139_94 (lm_Lay_si hl _ _ _) S_0 F_0_14 ?_
      refine ls_iload_n f_139_9 rfl ?_
      refine ls_invS f_139_10 q_139_337 [.int (-2)] [.ref 75] rfl (Nat.le_of_ble_eq_true rfl) ?_
      refine ls_enter [some (.int (-2))] ml_141 (Nat.le_of_ble_eq_true rfl) rfl ?_
      refine ls_iload_n f_141_0 rfl ?_
      refine ls_table f_141_1 (by decide) ?_
      refine ls_swF (by decide) ?_
      refine ls_swF (by decide) ?_
      refine ls_swF (by decide) ?_
      refine ls_swT (by decide) ?_
      refine lm_tg_of (t := 38) rfl ?_
      refine ls_iconst 1 f_141_38 (by decide) ?_
      refine ls_ireturn f_141_39 rI_141 ?_
      show lm_W _ _ _ _ [.int 1, .ref 75] _ _
      refine ls_dup2 f_139_13 rfl rfl ?_
      refine ls_ialdC 1 f_139_14 (lm_Lay_si hl _ _ _) S_75 ⟨by decide, by decide, by decide⟩ ?_
      refine ls_top (lm_i h 75 1) rfl ?_
      refine ls_iconst 1 f_139_15 (by decide) ?_
      refine ls_iadd ((lm_i h 75 1) + 1) f_139_16 rfl ?_
      refine ls_iastC 1 f_139_17 (lm_Lay_si hl _ _ _) S_75 ⟨by decide, by decide, by decide⟩ ?_
      refine ls_iload_n f_139_18 rfl ?_
      refine ls_ireturn f_139_19 rI_139 ?_
      show lm_W _ _ _ _ [.int (-2)] _ _
      exact ls_ireturn f_110_33 rI_110 hyp
theorem e_111 {d : Nat} {h : lm_H} {K : Int32 → lm_H → Prop} (x1 : Int32) (hl : lm_Lay h) (hyp : (if x1 < 0 then (K (-1) h) else (if x1 < (lm_i h 1 1) then (lm_call (d + 1) 144 [.ref 0] h (lm_kV fun h1 => lm_call (d + 1) 67 [.ref 21, .ref 73, .int x1] h1 (lm_kI fun r3 h2 => lm_call (d + 1) 262 [.int r3] h2 (lm_kI fun r5 h4 => K r5 h4)))) else (K (-1) h)))) : lm_call (d + 2) 111 [.ref 0, .int x1] h (lm_kI K) := by
  refine ls_enter [some (.ref 0), some (.int x1)] ml_111 (Nat.le_of_ble_eq_true rfl) rfl ?_
  refine ls_aload_n f_111_0 rfl ?_
  refine ls_getR f_111_1 p_111_12 hl S_0 F_0_0 ?_
  refine ls_iload_n f_111_4 rfl ?_
  refine ls_invV (a := 1) f_111_5 q_111_193 [.int x1] [] rfl (Nat.le_of_ble_eq_true rfl) hl S_1 ow_50 ?_
  refine ls_enter [some (.ref 1), some (.int x1)] ml_50 (Nat.le_of_ble_eq_true rfl) rfl ?_
  refine ls_iload_n f_50_0 rfl ?_
  refine ls_if_lt 16 f_50_1 rfl hyp (fun _ hyp => ?_) (fun _ hyp => ?_)
  · refine ls_iconst 0 f_50_16 (by decide) ?_
    refine ls_zreturn f_50_17 rZ_50 (by decide) ?_
    show lm_W _ _ _ _ [.int 0] _ _
    refine ls_if_ne_T 13 f_111_8 rfl (by decide) ?_
    refine ls_iconst (-1) f_111_11 (by decide) ?_
    exact ls_ireturn f_111_12 rI_111 hyp
  · refine ls_iload_n f_50_4 rfl ?_
    refine ls_aload_n f_50_5 rfl ?_
    refine ls_getI f_50_6 p_50_15 hl S_1 ?_
    refine ls_icmp_ge 16 f_50_9 rfl hyp (fun _ hyp => ?_) (fun _ hyp => ?_)
    · refine ls_iconst 1 f_50_12 (by decide) ?_
      refine ls_goto 17 f_50_13 rfl ?_
      refine ls_zreturn f_50_17 rZ_50 (by decide) ?_
      show lm_W _ _ _ _ [.int 1] _ _
      refine ls_if_ne_F 13 f_111_8 rfl (by decide) ?_
      refine ls_aload_n f_111_13 rfl ?_
      refine ls_invV (a := 0) f_111_14 q_111_202 [] [] rfl (Nat.le_of_ble_eq_true rfl) hl S_0 ow_144 ?_
      refine ls_call hyp hl (fun _ h1 hl1 hyp => ?_)
      refine ls_retV hyp (fun hyp => ?_)
      refine ls_aload_n f_111_17 rfl ?_
      refine ls_getR f_111_18 p_111_48 hl1 S_0 F_0_6 ?_
      refine ls_aload_n f_111_21 rfl ?_
      refine ls_getR f_111_22 p_111_87 hl1 S_0 F_0_12 ?_
      refine ls_iload_n f_111_25 rfl ?_
      refine ls_invV (a := 21) f_111_26 q_111_205 [.ref 73, .int x1] [] rfl (Nat.le_of_ble_eq_true rfl) hl1 S_21 ow_67 ?_
      refine ls_call hyp hl1 (fun _ h2 hl2 hyp => ?_)
      refine ls_retI hyp (fun r3 hyp => ?_)
      refine ls_invS f_111_29 q_111_209 [.int r3] [] rfl (Nat.le_of_ble_eq_true rfl) ?_
      refine ls_call hyp hl2 (fun _ h4 hl4 hyp => ?_)
      refine ls_retI hyp (fun r5 hyp => ?_)
      exact ls_ireturn f_111_32 rI_111 hyp
    · refine ls_iconst 0 f_50_16 (by decide) ?_
      refine ls_zreturn f_50_17 rZ_50 (by decide) ?_
      show lm_W _ _ _ _ [.int 0] _ _
      refine ls_if_ne_T 13 f_111_8 rfl (by decide) ?_
      refine ls_iconst (-1) f_111_11 (by decide) ?_
      exact ls_ireturn f_111_12 rI_111 hyp
theorem e_112 {d : Nat} {h : lm_H} {K : Int32 → lm_H → Prop} (x1 : Int32) (hl : lm_Lay h) (hyp : (if x1 < 0 then (K (-1) h) else (if x1 < (lm_i h 1 1) then (lm_call (d + 1) 144 [.ref 0] h (lm_kV fun h1 => lm_call (d + 1) 67 [.ref 21, .ref 73, .int x1] h1 (lm_kI fun r3 h2 => (if r3 = 0 then (K (-1) h2) else (lm_call (d + 1) 262 [.int r3] h2 (lm_kI fun r5 h4 => (if 1 < r5 then (if (lm_i h4 21 2) = 1 then (lm_call (d + 1) 150 [.int r3] h4 (lm_kI fun r7 h6 => K r7 h6)) else (K (-1) h4)) else (lm_call (d + 1) 150 [.int r3] h4 (lm_kI fun r9 h8 => K r9 h8))))))))) else (K (-1) h)))) : lm_call (d + 2) 112 [.ref 0, .int x1] h (lm_kI K) := by
  refine ls_enter [some (.ref 0), some (.int x1), none] ml_112 (Nat.le_of_ble_eq_true rfl) rfl ?_
  refine ls_aload_n f_112_0 rfl ?_
  refine ls_getR f_112_1 p_112_12 hl S_0 F_0_0 ?_
  refine ls_iload_n f_112_4 rfl ?_
  refine ls_invV (a := 1) f_112_5 q_112_193 [.int x1] [] rfl (Nat.le_of_ble_eq_true rfl) hl S_1 ow_50 ?_
  refine ls_enter [some (.ref 1), some (.int x1)] ml_50 (Nat.le_of_ble_eq_true rfl) rfl ?_
  refine ls_iload_n f_50_0 rfl ?_
  refine ls_if_lt 16 f_50_1 rfl hyp (fun _ hyp => ?_) (fun _ hyp => ?_)
  · refine ls_iconst 0 f_50_16 (by decide) ?_
    refine ls_zreturn f_50_17 rZ_50 (by decide) ?_
    show lm_W _ _ _ _ [.int 0] _ _
    refine ls_if_ne_T 13 f_112_8 rfl (by decide) ?_
    refine ls_iconst (-1) f_112_11 (by decide) ?_
    exact ls_ireturn f_112_12 rI_112 hyp
  · refine ls_iload_n f_50_4 rfl ?_
    refine ls_aload_n f_50_5 rfl ?_
    refine ls_getI f_50_6 p_50_15 hl S_1 ?_
    refine ls_icmp_ge 16 f_50_9 rfl hyp (fun _ hyp => ?_) (fun _ hyp => ?_)
    · refine ls_iconst 1 f_50_12 (by decide) ?_
      refine ls_goto 17 f_50_13 rfl ?_
      refine ls_zreturn f_50_17 rZ_50 (by decide) ?_
      show lm_W _ _ _ _ [.int 1] _ _
      refine ls_if_ne_F 13 f_112_8 rfl (by decide) ?_
      refine ls_aload_n f_112_13 rfl ?_
      refine ls_invV (a := 0) f_112_14 q_112_202 [] [] rfl (Nat.le_of_ble_eq_true rfl) hl S_0 ow_144 ?_
      refine ls_call hyp hl (fun _ h1 hl1 hyp => ?_)
      refine ls_retV hyp (fun hyp => ?_)
      refine ls_aload_n f_112_17 rfl ?_
      refine ls_getR f_112_18 p_112_48 hl1 S_0 F_0_6 ?_
      refine ls_aload_n f_112_21 rfl ?_
      refine ls_getR f_112_22 p_112_87 hl1 S_0 F_0_12 ?_
      refine ls_iload_n f_112_25 rfl ?_
      refine ls_invV (a := 21) f_112_26 q_112_205 [.ref 73, .int x1] [] rfl (Nat.le_of_ble_eq_true rfl) hl1 S_21 ow_67 ?_
      refine ls_call hyp hl1 (fun _ h2 hl2 hyp => ?_)
      refine ls_retI hyp (fun r3 hyp => ?_)
      refine ls_istore_n [some (.ref 0), some (.int x1), some (.int r3)] f_112_29 (Nat.le_of_ble_eq_true rfl) rfl ?_
      refine ls_iload_n f_112_30 rfl ?_
      refine ls_if_eq 53 f_112_31 rfl hyp (fun _ hyp => ?_) (fun _ hyp => ?_)
      · refine ls_iconst (-1) f_112_53 (by decide) ?_
        exact ls_ireturn f_112_54 rI_112 hyp
      · refine ls_iload_n f_112_34 rfl ?_
        refine ls_invS f_112_35 q_112_209 [.int r3] [] rfl (Nat.le_of_ble_eq_true rfl) ?_
        refine ls_call hyp hl2 (fun _ h4 hl4 hyp => ?_)
        refine ls_retI hyp (fun r5 hyp => ?_)
        refine ls_iconst 1 f_112_38 (by decide) ?_
        refine ls_icmp_le 55 f_112_39 rfl hyp (fun _ hyp => ?_) (fun _ hyp => ?_)
        · refine ls_aload_n f_112_42 rfl ?_
          refine ls_getR f_112_43 p_112_48 hl4 S_0 F_0_6 ?_
          refine ls_getI f_112_46 p_112_214 hl4 S_21 ?_
          refine ls_iconst 1 f_112_49 (by decide) ?_
          refine ls_icmp_eq 55 f_112_50 rfl hyp (fun _ hyp => ?_) (fun _ hyp => ?_)
          · refine ls_iload_n f_112_55 rfl ?_
            refine ls_invS f_112_56 q_112_215 [.int r3] [] rfl (Nat.le_of_ble_eq_true rfl) ?_
            refine ls_call hyp hl4 (fun _ h6 hl6 hyp => ?_)
            refine ls_retI hyp (fun r7 hyp => ?_)
            exact ls_ireturn f_112_59 rI_112 hyp
          · refine ls_iconst (-1) f_112_53 (by decide) ?_
            exact ls_ireturn f_112_54 rI_112 hyp
        · refine ls_iload_n f_112_55 rfl ?_
          refine ls_invS f_112_56 q_112_215 [.int r3] [] rfl (Nat.le_of_ble_eq_true rfl) ?_
          refine ls_call hyp hl4 (fun _ h8 hl8 hyp => ?_)
          refine ls_retI hyp (fun r9 hyp => ?_)
          exact ls_ireturn f_112_59 rI_112 hyp
    · refine ls_iconst 0 f_50_16 (by decide) ?_
      refine ls_zreturn f_50_17 rZ_50 (by decide) ?_
      show lm_W _ _ _ _ [.int 0] _ _
      refine ls_if_ne_T 13 f_112_8 rfl (by decide) ?_
      refine ls_iconst (-1) f_112_11 (by decide) ?_
      exact ls_ireturn f_112_12 rI_112 hyp
theorem e_113 {d : Nat} {h : lm_H} {K : Int32 → lm_H → Prop} (x1 : Int32) (hl : lm_Lay h) (hyp : (if x1 = (-1) then (lm_call (d + 1) 144 [.ref 0] h (lm_kV fun h1 => (if x1 = (-1) then (lm_W (d + 1) 113 51 [some (.ref 0), none, some (.int 0), some (.int 0)] [] h1 (lm_kI K)) else (lm_in x1 5 False (lm_call (d + 1) 71 [.ref 21, .ref 73, .int x1, .int (lm_i h1 73 x1.toNatClampNeg)] h1 (lm_kI fun r3 h2 => K r3 h2)))))) else (if x1 < 0 then (K (-1000000) h) else (if x1 < (lm_i h 1 0) then (lm_call (d + 1) 144 [.ref 0] h (lm_kV fun h4 => (if x1 = (-1) then (lm_W (d + 1) 113 51 [some (.ref 0), none, some (.int 0), some (.int 0)] [] h4 (lm_kI K)) else (lm_in x1 5 False (lm_call (d + 1) 71 [.ref 21, .ref 73, .int x1, .int (lm_i h4 73 x1.toNatClampNeg)] h4 (lm_kI fun r6 h5 => K r6 h5)))))) else (K (-1000000) h))))) : lm_call (d + 2) 113 [.ref 0, .int x1] h (lm_kI K) := by
  refine ls_enter [some (.ref 0), some (.int x1), none, none] ml_113 (Nat.le_of_ble_eq_true rfl) rfl ?_
  refine ls_iload_n f_113_0 rfl ?_
  refine ls_iconst (-1) f_113_1 (by decide) ?_
  refine ls_icmp_eq 19 f_113_2 rfl hyp (fun _ hyp => ?_) (fun _ hyp => ?_)
  · refine ls_aload_n f_113_19 rfl ?_
    refine ls_invV (a := 0) f_113_20 q_113_202 [] [] rfl (Nat.le_of_ble_eq_true rfl) hl S_0 ow_144 ?_
    refine ls_call hyp hl (fun _ h1 hl1 hyp => ?_)
    refine ls_retV hyp (fun hyp => ?_)
    refine ls_iload_n f_113_23 rfl ?_
    refine ls_iconst (-1) f_113_24 (by decide) ?_
    refine ls_icmp_eq 47 f_113_25 rfl hyp (fun _ hyp => ?_) (fun _ hyp => ?_)
    · refine ls_iconst 0 f_113_47 (by decide) ?_
      refine ls_istore_n [some (.ref 0), some (.int x1), some (.int 0), none] f_113_48 (Nat.le_of_ble_eq_true rfl) rfl ?_
      refine ls_iconst 0 f_113_49 (by decide) ?_
      refine ls_istore_n [some (.ref 0), some (.int x1), some (.int 0), some (.int 0)] f_113_50 (Nat.le_of_ble_eq_true rfl) rfl ?_
      exact ls_mask [true, false, true, true] [some (.ref 0), none, some (.int 0), some (.int 0)] rfl hyp
    · refine ls_aload_n f_113_28 rfl ?_
      refine ls_getR f_113_29 p_113_48 hl1 S_0 F_0_6 ?_
      refine ls_aload_n f_113_32 rfl ?_
      refine ls_getR f_113_33 p_113_87 hl1 S_0 F_0_12 ?_
      refine ls_iload_n f_113_36 rfl ?_
      refine ls_aload_n f_113_37 rfl ?_
      refine ls_getR f_113_38 p_113_87 hl1 S_0 F_0_12 ?_
      refine ls_iload_n f_113_41 rfl ?_
      refine ls_iald f_113_42 hl1 S_73 hyp (fun hyp => ?_)
      refine ls_invV (a := 21) f_113_43 q_113_218 [.ref 73, .int x1, .int (lm_i h1 73 x1.toNatClampNeg)] [] rfl (Nat.le_of_ble_eq_true rfl) hl1 S_21 ow_71 ?_
      refine ls_call hyp hl1 (fun _ h2 hl2 hyp => ?_)
      refine ls_retI hyp (fun r3 hyp => ?_)
      exact ls_ireturn f_113_46 rI_113 hyp
  · refine ls_aload_n f_113_5 rfl ?_
    refine ls_getR f_113_6 p_113_12 hl S_0 F_0_0 ?_
    refine ls_iload_n f_113_9 rfl ?_
    refine ls_invV (a := 1) f_113_10 q_113_190 [.int x1] [] rfl (Nat.le_of_ble_eq_true rfl) hl S_1 ow_49 ?_
    refine ls_enter [some (.ref 1), some (.int x1)] ml_49 (Nat.le_of_ble_eq_true rfl) rfl ?_
    refine ls_iload_n f_49_0 rfl ?_
    refine ls_if_lt 16 f_49_1 rfl hyp (fun _ hyp => ?_) (fun _ hyp => ?_)
    · refine ls_iconst 0 f_49_16 (by decide) ?_
      refine ls_zreturn f_49_17 rZ_49 (by decide) ?_
      show lm_W _ _ _ _ [.int 0] _ _
      refine ls_if_ne_T 19 f_113_13 rfl (by decide) ?_
      refine ls_ldc f_113_16 k_113_130 ?_
      exact ls_ireturn f_113_18 rI_113 hyp
    · refine ls_iload_n f_49_4 rfl ?_
      refine ls_aload_n f_49_5 rfl ?_
      refine ls_getI f_49_6 p_49_9 hl S_1 ?_
      refine ls_icmp_ge 16 f_49_9 rfl hyp (fun _ hyp => ?_) (fun _ hyp => ?_)
      · refine ls_iconst 1 f_49_12 (by decide) ?_
        refine ls_goto 17 f_49_13 rfl ?_
        refine ls_zreturn f_49_17 rZ_49 (by decide) ?_
        show lm_W _ _ _ _ [.int 1] _ _
        refine ls_if_ne_F 19 f_113_13 rfl (by decide) ?_
        refine ls_aload_n f_113_19 rfl ?_
        refine ls_invV (a := 0) f_113_20 q_113_202 [] [] rfl (Nat.le_of_ble_eq_true rfl) hl S_0 ow_144 ?_
        refine ls_call hyp hl (fun _ h4 hl4 hyp => ?_)
        refine ls_retV hyp (fun hyp => ?_)
        refine ls_iload_n f_113_23 rfl ?_
        refine ls_iconst (-1) f_113_24 (by decide) ?_
        refine ls_icmp_eq 47 f_113_25 rfl hyp (fun _ hyp => ?_) (fun _ hyp => ?_)
        · refine ls_iconst 0 f_113_47 (by decide) ?_
          refine ls_istore_n [some (.ref 0), some (.int x1), some (.int 0), none] f_113_48 (Nat.le_of_ble_eq_true rfl) rfl ?_
          refine ls_iconst 0 f_113_49 (by decide) ?_
          refine ls_istore_n [some (.ref 0), some (.int x1), some (.int 0), some (.int 0)] f_113_50 (Nat.le_of_ble_eq_true rfl) rfl ?_
          exact ls_mask [true, false, true, true] [some (.ref 0), none, some (.int 0), some (.int 0)] rfl hyp
        · refine ls_aload_n f_113_28 rfl ?_
          refine ls_getR f_113_29 p_113_48 hl4 S_0 F_0_6 ?_
          refine ls_aload_n f_113_32 rfl ?_
          refine ls_getR f_113_33 p_113_87 hl4 S_0 F_0_12 ?_
          refine ls_iload_n f_113_36 rfl ?_
          refine ls_aload_n f_113_37 rfl ?_
          refine ls_getR f_113_38 p_113_87 hl4 S_0 F_0_12 ?_
          refine ls_iload_n f_113_41 rfl ?_
          refine ls_iald f_113_42 hl4 S_73 hyp (fun hyp => ?_)
          refine ls_invV (a := 21) f_113_43 q_113_218 [.ref 73, .int x1, .int (lm_i h4 73 x1.toNatClampNeg)] [] rfl (Nat.le_of_ble_eq_true rfl) hl4 S_21 ow_71 ?_
          refine ls_call hyp hl4 (fun _ h5 hl5 hyp => ?_)
          refine ls_retI hyp (fun r6 hyp => ?_)
          exact ls_ireturn f_113_46 rI_113 hyp
      · refine ls_iconst 0 f_49_16 (by decide) ?_
        refine ls_zreturn f_49_17 rZ_49 (by decide) ?_
        show lm_W _ _ _ _ [.int 0] _ _
        refine ls_if_ne_T 19 f_113_13 rfl (by decide) ?_
        refine ls_ldc f_113_16 k_113_130 ?_
        exact ls_ireturn f_113_18 rI_113 hyp
theorem b_113_51 {d : Nat} {h : lm_H} {K : Int32 → lm_H → Prop} (x2 : Int32) (x3 : Int32) (hl : lm_Lay h) (hyp : (if x3 < (lm_i h 1 0) then (lm_in x3 5 False (lm_call (d + 1) 71 [.ref 21, .ref 73, .int x3, .int (lm_i h 73 x3.toNatClampNeg)] h (lm_kI fun r2 h1 => lm_W (d + 1) 113 51 [some (.ref 0), none, some (.int (x2 + r2)), some (.int (x3 + 1))] [] h1 (lm_kI K)))) else (K x2 h))) : lm_W (d + 1) 113 51 [some (.ref 0), none, some (.int x2), some (.int x3)] [] h (lm_kI K) := by
  refine ls_iload_n f_113_51 rfl ?_
  refine ls_aload_n f_113_52 rfl ?_
  refine ls_getR f_113_53 p_113_12 hl S_0 F_0_0 ?_
  refine ls_getI f_113_56 p_113_111 hl S_1 ?_
  refine ls_icmp_ge 89 f_113_59 rfl hyp (fun _ hyp => ?_) (fun _ hyp => ?_)
  · refine ls_iload_n f_113_62 rfl ?_
    refine ls_aload_n f_113_63 rfl ?_
    refine ls_getR f_113_64 p_113_48 hl S_0 F_0_6 ?_
    refine ls_aload_n f_113_67 rfl ?_
    refine ls_getR f_113_68 p_113_87 hl S_0 F_0_12 ?_
    refine ls_iload_n f_113_71 rfl ?_
    refine ls_aload_n f_113_72 rfl ?_
    refine ls_getR f_113_73 p_113_87 hl S_0 F_0_12 ?_
    refine ls_iload_n f_113_76 rfl ?_
    refine ls_iald f_113_77 hl S_73 hyp (fun hyp => ?_)
    refine ls_invV (a := 21) f_113_78 q_113_218 [.ref 73, .int x3, .int (lm_i h 73 x3.toNatClampNeg)] [.int x2] rfl (Nat.le_of_ble_eq_true rfl) hl S_21 ow_71 ?_
    refine ls_call hyp hl (fun _ h1 hl1 hyp => ?_)
    refine ls_retI hyp (fun r2 hyp => ?_)
    refine ls_iadd (x2 + r2) f_113_81 rfl ?_
    refine ls_istore_n [some (.ref 0), none, some (.int (x2 + r2)), some (.int x3)] f_113_82 (Nat.le_of_ble_eq_true rfl) rfl ?_
    refine ls_iinc (x3 + 1) [some (.ref 0), none, some (.int (x2 + r2)), some (.int (x3 + 1))] f_113_83 rfl (Nat.le_of_ble_eq_true rfl) rfl rfl ?_
    refine ls_goto 51 f_113_86 rfl ?_
    exact hyp
  · refine ls_iload_n f_113_89 rfl ?_
    exact ls_ireturn f_113_90 rI_113 hyp
theorem e_114 {d : Nat} {h : lm_H} {K : Int32 → lm_H → Prop} (x1 : Int32) (hl : lm_Lay h) (hyp : (if x1 = 0 then (lm_call (d) 145 [.ref 0] h (lm_kV fun h1 => (if x1 = 0 then (K (lm_i h1 31 7) h1) else (K (lm_i h1 31 9) h1)))) else (if x1 = 1 then (lm_call (d) 145 [.ref 0] h (lm_kV fun h2 => (if x1 = 0 then (K (lm_i h2 31 7) h2) else (K (lm_i h2 31 9) h2)))) else (K (-1000000) h)))) : lm_call (d + 1) 114 [.ref 0, .int x1] h (lm_kI K) := by
  refine ls_enter [some (.ref 0), some (.int x1)] ml_114 (Nat.le_of_ble_eq_true rfl) rfl ?_
  refine ls_iload_n f_114_0 rfl ?_
  refine ls_if_eq 12 f_114_1 rfl hyp (fun _ hyp => ?_) (fun _ hyp => ?_)
  · refine ls_aload_n f_114_12 rfl ?_
    refine ls_invV (a := 0) f_114_13 q_114_222 [] [] rfl (Nat.le_of_ble_eq_true rfl) hl S_0 ow_145 ?_
    refine ls_call hyp hl (fun _ h1 hl1 hyp => ?_)
    refine ls_retV hyp (fun hyp => ?_)
    refine ls_iload_n f_114_16 rfl ?_
    refine ls_if_ne 30 f_114_17 rfl hyp (fun _ hyp => ?_) (fun _ hyp => ?_)
    · refine ls_aload_n f_114_20 rfl ?_
      refine ls_getR f_114_21 p_114_62 hl1 S_0 F_0_8 ?_
      refine ls_getI f_114_24 p_114_225 hl1 S_31 ?_
      refine ls_goto 37 f_114_27 rfl ?_
      exact ls_ireturn f_114_37 rI_114 hyp
    · refine ls_aload_n f_114_30 rfl ?_
      refine ls_getR f_114_31 p_114_62 hl1 S_0 F_0_8 ?_
      refine ls_getI f_114_34 p_114_228 hl1 S_31 ?_
      exact ls_ireturn f_114_37 rI_114 hyp
  · refine ls_iload_n f_114_4 rfl ?_
    refine ls_iconst 1 f_114_5 (by decide) ?_
    refine ls_icmp_eq 12 f_114_6 rfl hyp (fun _ hyp => ?_) (fun _ hyp => ?_)
    · refine ls_aload_n f_114_12 rfl ?_
      refine ls_invV (a := 0) f_114_13 q_114_222 [] [] rfl (Nat.le_of_ble_eq_true rfl) hl S_0 ow_145 ?_
      refine ls_call hyp hl (fun _ h2 hl2 hyp => ?_)
      refine ls_retV hyp (fun hyp => ?_)
      refine ls_iload_n f_114_16 rfl ?_
      refine ls_if_ne 30 f_114_17 rfl hyp (fun _ hyp => ?_) (fun _ hyp => ?_)
      · refine ls_aload_n f_114_20 rfl ?_
        refine ls_getR f_114_21 p_114_62 hl2 S_0 F_0_8 ?_
        refine ls_getI f_114_24 p_114_225 hl2 S_31 ?_
        refine ls_goto 37 f_114_27 rfl ?_
        exact ls_ireturn f_114_37 rI_114 hyp
      · refine ls_aload_n f_114_30 rfl ?_
        refine ls_getR f_114_31 p_114_62 hl2 S_0 F_0_8 ?_
        refine ls_getI f_114_34 p_114_228 hl2 S_31 ?_
        exact ls_ireturn f_114_37 rI_114 hyp
    · refine ls_ldc f_114_9 k_114_130 ?_
      exact ls_ireturn f_114_11 rI_114 hyp
theorem e_115 {d : Nat} {h : lm_H} {K : Int32 → lm_H → Prop} (x1 : Int32) (hl : lm_Lay h) (hyp : (if x1 < 0 then (K (-1) h) else (if x1 < (lm_i h 1 0) then (lm_call (d + 1) 145 [.ref 0] h (lm_kV fun h1 => lm_call (d + 1) 56 [.ref 31, .int x1, .int (lm_i h1 31 8)] h1 (lm_kI fun r3 h2 => (if r3 = 6 then (K (-1) h2) else (K r3 h2))))) else (K (-1) h)))) : lm_call (d + 2) 115 [.ref 0, .int x1] h (lm_kI K) := by
  refine ls_enter [some (.ref 0), some (.int x1)] ml_115 (Nat.le_of_ble_eq_true rfl) rfl ?_
  refine ls_aload_n f_115_0 rfl ?_
  refine ls_getR f_115_1 p_115_12 hl S_0 F_0_0 ?_
  refine ls_iload_n f_115_4 rfl ?_
  refine ls_invV (a := 1) f_115_5 q_115_190 [.int x1] [] rfl (Nat.le_of_ble_eq_true rfl) hl S_1 ow_49 ?_
  refine ls_enter [some (.ref 1), some (.int x1)] ml_49 (Nat.le_of_ble_eq_true rfl) rfl ?_
  refine ls_iload_n f_49_0 rfl ?_
  refine ls_if_lt 16 f_49_1 rfl hyp (fun _ hyp => ?_) (fun _ hyp => ?_)
  · refine ls_iconst 0 f_49_16 (by decide) ?_
    refine ls_zreturn f_49_17 rZ_49 (by decide) ?_
    show lm_W _ _ _ _ [.int 0] _ _
    refine ls_if_ne_T 13 f_115_8 rfl (by decide) ?_
    refine ls_iconst (-1) f_115_11 (by decide) ?_
    exact ls_ireturn f_115_12 rI_115 hyp
  · refine ls_iload_n f_49_4 rfl ?_
    refine ls_aload_n f_49_5 rfl ?_
    refine ls_getI f_49_6 p_49_9 hl S_1 ?_
    refine ls_icmp_ge 16 f_49_9 rfl hyp (fun _ hyp => ?_) (fun _ hyp => ?_)
    · refine ls_iconst 1 f_49_12 (by decide) ?_
      refine ls_goto 17 f_49_13 rfl ?_
      refine ls_zreturn f_49_17 rZ_49 (by decide) ?_
      show lm_W _ _ _ _ [.int 1] _ _
      refine ls_if_ne_F 13 f_115_8 rfl (by decide) ?_
      refine ls_aload_n f_115_13 rfl ?_
      refine ls_invV (a := 0) f_115_14 q_115_222 [] [] rfl (Nat.le_of_ble_eq_true rfl) hl S_0 ow_145 ?_
      refine ls_call hyp hl (fun _ h1 hl1 hyp => ?_)
      refine ls_retV hyp (fun hyp => ?_)
      refine ls_aload_n f_115_17 rfl ?_
      refine ls_getR f_115_18 p_115_62 hl1 S_0 F_0_8 ?_
      refine ls_iload_n f_115_21 rfl ?_
      refine ls_aload_n f_115_22 rfl ?_
      refine ls_getR f_115_23 p_115_62 hl1 S_0 F_0_8 ?_
      refine ls_getI f_115_26 p_115_231 hl1 S_31 ?_
      refine ls_invV (a := 31) f_115_29 q_115_234 [.int x1, .int (lm_i h1 31 8)] [] rfl (Nat.le_of_ble_eq_true rfl) hl1 S_31 ow_56 ?_
      refine ls_call hyp hl1 (fun _ h2 hl2 hyp => ?_)
      refine ls_retI hyp (fun r3 hyp => ?_)
      refine ls_invS f_115_32 q_115_199 [.int r3] [] rfl (Nat.le_of_ble_eq_true rfl) ?_
      refine ls_enter [some (.int r3)] ml_149 (Nat.le_of_ble_eq_true rfl) rfl ?_
      refine ls_iload_n f_149_0 rfl ?_
      refine ls_bipush 6 f_149_1 (by decide) ?_
      refine ls_icmp_ne 10 f_149_3 rfl hyp (fun _ hyp => ?_) (fun _ hyp => ?_)
      · refine ls_iconst (-1) f_149_6 (by decide) ?_
        refine ls_goto 11 f_149_7 rfl ?_
        refine ls_ireturn f_149_11 rI_149 ?_
        show lm_W _ _ _ _ [.int (-1)] _ _
        exact ls_ireturn f_115_35 rI_115 hyp
      · refine ls_iload_n f_149_10 rfl ?_
        refine ls_ireturn f_149_11 rI_149 ?_
        show lm_W _ _ _ _ [.int r3] _ _
        exact ls_ireturn f_115_35 rI_115 hyp
    · refine ls_iconst 0 f_49_16 (by decide) ?_
      refine ls_zreturn f_49_17 rZ_49 (by decide) ?_
      show lm_W _ _ _ _ [.int 0] _ _
      refine ls_if_ne_T 13 f_115_8 rfl (by decide) ?_
      refine ls_iconst (-1) f_115_11 (by decide) ?_
      exact ls_ireturn f_115_12 rI_115 hyp
theorem e_116 {d : Nat} {h : lm_H} {K : Int32 → lm_H → Prop} (x1 : Int32) (hl : lm_Lay h) (hyp : (if x1 = 0 then (if (lm_i h 1 0) = 0 then (K (-1000000) h) else (lm_call (d) 145 [.ref 0] h (lm_kV fun h1 => (if x1 = 0 then (K (lm_i h1 31 10) h1) else (K (lm_i h1 31 11) h1))))) else (if x1 = 1 then (if (lm_i h 1 0) = 0 then (K (-1000000) h) else (lm_call (d) 145 [.ref 0] h (lm_kV fun h2 => (if x1 = 0 then (K (lm_i h2 31 10) h2) else (K (lm_i h2 31 11) h2))))) else (K (-1000000) h)))) : lm_call (d + 1) 116 [.ref 0, .int x1] h (lm_kI K) := by
  refine ls_enter [some (.ref 0), some (.int x1)] ml_116 (Nat.le_of_ble_eq_true rfl) rfl ?_
  refine ls_iload_n f_116_0 rfl ?_
  refine ls_if_eq 9 f_116_1 rfl hyp (fun _ hyp => ?_) (fun _ hyp => ?_)
  · refine ls_aload_n f_116_9 rfl ?_
    refine ls_getR f_116_10 p_116_12 hl S_0 F_0_0 ?_
    refine ls_getI f_116_13 p_116_111 hl S_1 ?_
    refine ls_if_ne 22 f_116_16 rfl hyp (fun _ hyp => ?_) (fun _ hyp => ?_)
    · refine ls_ldc f_116_19 k_116_130 ?_
      exact ls_ireturn f_116_21 rI_116 hyp
    · refine ls_aload_n f_116_22 rfl ?_
      refine ls_invV (a := 0) f_116_23 q_116_222 [] [] rfl (Nat.le_of_ble_eq_true rfl) hl S_0 ow_145 ?_
      refine ls_call hyp hl (fun _ h1 hl1 hyp => ?_)
      refine ls_retV hyp (fun hyp => ?_)
      refine ls_iload_n f_116_26 rfl ?_
      refine ls_if_ne 40 f_116_27 rfl hyp (fun _ hyp => ?_) (fun _ hyp => ?_)
      · refine ls_aload_n f_116_30 rfl ?_
        refine ls_getR f_116_31 p_116_62 hl1 S_0 F_0_8 ?_
        refine ls_getI f_116_34 p_116_237 hl1 S_31 ?_
        refine ls_goto 47 f_116_37 rfl ?_
        exact ls_ireturn f_116_47 rI_116 hyp
      · refine ls_aload_n f_116_40 rfl ?_
        refine ls_getR f_116_41 p_116_62 hl1 S_0 F_0_8 ?_
        refine ls_getI f_116_44 p_116_240 hl1 S_31 ?_
        exact ls_ireturn f_116_47 rI_116 hyp
  · refine ls_iload_n f_116_4 rfl ?_
    refine ls_iconst 1 f_116_5 (by decide) ?_
    refine ls_icmp_ne 19 f_116_6 rfl hyp (fun _ hyp => ?_) (fun _ hyp => ?_)
    · refine ls_aload_n f_116_9 rfl ?_
      refine ls_getR f_116_10 p_116_12 hl S_0 F_0_0 ?_
      refine ls_getI f_116_13 p_116_111 hl S_1 ?_
      refine ls_if_ne 22 f_116_16 rfl hyp (fun _ hyp => ?_) (fun _ hyp => ?_)
      · refine ls_ldc f_116_19 k_116_130 ?_
        exact ls_ireturn f_116_21 rI_116 hyp
      · refine ls_aload_n f_116_22 rfl ?_
        refine ls_invV (a := 0) f_116_23 q_116_222 [] [] rfl (Nat.le_of_ble_eq_true rfl) hl S_0 ow_145 ?_
        refine ls_call hyp hl (fun _ h2 hl2 hyp => ?_)
        refine ls_retV hyp (fun hyp => ?_)
        refine ls_iload_n f_116_26 rfl ?_
        refine ls_if_ne 40 f_116_27 rfl hyp (fun _ hyp => ?_) (fun _ hyp => ?_)
        · refine ls_aload_n f_116_30 rfl ?_
          refine ls_getR f_116_31 p_116_62 hl2 S_0 F_0_8 ?_
          refine ls_getI f_116_34 p_116_237 hl2 S_31 ?_
          refine ls_goto 47 f_116_37 rfl ?_
          exact ls_ireturn f_116_47 rI_116 hyp
        · refine ls_aload_n f_116_40 rfl ?_
          refine ls_getR f_116_41 p_116_62 hl2 S_0 F_0_8 ?_
          refine ls_getI f_116_44 p_116_240 hl2 S_31 ?_
          exact ls_ireturn f_116_47 rI_116 hyp
    · refine ls_ldc f_116_19 k_116_130 ?_
      exact ls_ireturn f_116_21 rI_116 hyp
theorem e_117 {d : Nat} {h : lm_H} {K : Int32 → lm_H → Prop} (hl : lm_Lay h) (hyp : lm_call (d) 145 [.ref 0] h (lm_kV fun h1 => K (lm_i h1 31 12) h1)) : lm_call (d + 1) 117 [.ref 0] h (lm_kI K) := by
  refine ls_enter [some (.ref 0)] ml_117 (Nat.le_of_ble_eq_true rfl) rfl ?_
  refine ls_aload_n f_117_0 rfl ?_
  refine ls_invV (a := 0) f_117_1 q_117_222 [] [] rfl (Nat.le_of_ble_eq_true rfl) hl S_0 ow_145 ?_
  refine ls_call hyp hl (fun _ h1 hl1 hyp => ?_)
  refine ls_retV hyp (fun hyp => ?_)
  refine ls_aload_n f_117_4 rfl ?_
  refine ls_getR f_117_5 p_117_62 hl1 S_0 F_0_8 ?_
  refine ls_getI f_117_8 p_117_243 hl1 S_31 ?_
  exact ls_ireturn f_117_11 rI_117 hyp
theorem e_118 {d : Nat} {h : lm_H} {K : Int32 → lm_H → Prop} (x1 : Int32) (x2 : Int32) (hl : lm_Lay h) (hyp : (if x2 < 0 then (K (-1) h) else (if x2 < (lm_i h 1 0) then (if x1 < 0 then (K (-1) h) else (lm_call (d + 1) 145 [.ref 0] h (lm_kV fun h1 => lm_call (d + 1) 275 [.ref 31, .int x1] h1 (lm_kI fun r3 h2 => (if r3 = (-1) then (K (-1) h2) else (lm_call (d + 1) 56 [.ref 31, .int x2, .int r3] h2 (lm_kI fun r5 h4 => (if r5 = 6 then (K (-1) h4) else (K r5 h4))))))))) else (K (-1) h)))) : lm_call (d + 2) 118 [.ref 0, .int x1, .int x2] h (lm_kI K) := by
  refine ls_enter [some (.ref 0), some (.int x1), some (.int x2), none] ml_118 (Nat.le_of_ble_eq_true rfl) rfl ?_
  refine ls_aload_n f_118_0 rfl ?_
  refine ls_getR f_118_1 p_118_12 hl S_0 F_0_0 ?_
  refine ls_iload_n f_118_4 rfl ?_
  refine ls_invV (a := 1) f_118_5 q_118_190 [.int x2] [] rfl (Nat.le_of_ble_eq_true rfl) hl S_1 ow_49 ?_
  refine ls_enter [some (.ref 1), some (.int x2)] ml_49 (Nat.le_of_ble_eq_true rfl) rfl ?_
  refine ls_iload_n f_49_0 rfl ?_
  refine ls_if_lt 16 f_49_1 rfl hyp (fun _ hyp => ?_) (fun _ hyp => ?_)
  · refine ls_iconst 0 f_49_16 (by decide) ?_
    refine ls_zreturn f_49_17 rZ_49 (by decide) ?_
    show lm_W _ _ _ _ [.int 0] _ _
    refine ls_if_eq_T 15 f_118_8 rfl (by decide) ?_
    refine ls_iconst (-1) f_118_15 (by decide) ?_
    exact ls_ireturn f_118_16 rI_118 hyp
  · refine ls_iload_n f_49_4 rfl ?_
    refine ls_aload_n f_49_5 rfl ?_
    refine ls_getI f_49_6 p_49_9 hl S_1 ?_
    refine ls_icmp_ge 16 f_49_9 rfl hyp (fun _ hyp => ?_) (fun _ hyp => ?_)
    · refine ls_iconst 1 f_49_12 (by decide) ?_
      refine ls_goto 17 f_49_13 rfl ?_
      refine ls_zreturn f_49_17 rZ_49 (by decide) ?_
      show lm_W _ _ _ _ [.int 1] _ _
      refine ls_if_eq_F 15 f_118_8 rfl (by decide) ?_
      refine ls_iload_n f_118_11 rfl ?_
      refine ls_if_ge 17 f_118_12 rfl hyp (fun _ hyp => ?_) (fun _ hyp => ?_)
      · refine ls_iconst (-1) f_118_15 (by decide) ?_
        exact ls_ireturn f_118_16 rI_118 hyp
      · refine ls_aload_n f_118_17 rfl ?_
        refine ls_invV (a := 0) f_118_18 q_118_222 [] [] rfl (Nat.le_of_ble_eq_true rfl) hl S_0 ow_145 ?_
        refine ls_call hyp hl (fun _ h1 hl1 hyp => ?_)
        refine ls_retV hyp (fun hyp => ?_)
        refine ls_aload_n f_118_21 rfl ?_
        refine ls_getR f_118_22 p_118_62 hl1 S_0 F_0_8 ?_
        refine ls_iload_n f_118_25 rfl ?_
        refine ls_invV (a := 31) f_118_26 q_118_246 [.int x1] [] rfl (Nat.le_of_ble_eq_true rfl) hl1 S_31 ow_275 ?_
        refine ls_call hyp hl1 (fun _ h2 hl2 hyp => ?_)
        refine ls_retI hyp (fun r3 hyp => ?_)
        refine ls_istore_n [some (.ref 0), some (.int x1), some (.int x2), some (.int r3)] f_118_29 (Nat.le_of_ble_eq_true rfl) rfl ?_
        refine ls_iload_n f_118_30 rfl ?_
        refine ls_iconst (-1) f_118_31 (by decide) ?_
        refine ls_icmp_ne 39 f_118_32 rfl hyp (fun _ hyp => ?_) (fun _ hyp => ?_)
        · refine ls_iconst (-1) f_118_35 (by decide) ?_
          refine ls_goto 51 f_118_36 rfl ?_
          exact ls_ireturn f_118_51 rI_118 hyp
        · refine ls_aload_n f_118_39 rfl ?_
          refine ls_getR f_118_40 p_118_62 hl2 S_0 F_0_8 ?_
          refine ls_iload_n f_118_43 rfl ?_
          refine ls_iload_n f_118_44 rfl ?_
          refine ls_invV (a := 31) f_118_45 q_118_234 [.int x2, .int r3] [] rfl (Nat.le_of_ble_eq_true rfl) hl2 S_31 ow_56 ?_
          refine ls_call hyp hl2 (fun _ h4 hl4 hyp => ?_)
          refine ls_retI hyp (fun r5 hyp => ?_)
          refine ls_invS f_118_48 q_118_199 [.int r5] [] rfl (Nat.le_of_ble_eq_true rfl) ?_
          refine ls_enter [some (.int r5)] ml_149 (Nat.le_of_ble_eq_true rfl) rfl ?_
          refine ls_iload_n f_149_0 rfl ?_
          refine ls_bipush 6 f_149_1 (by decide) ?_
          refine ls_icmp_ne 10 f_149_3 rfl hyp (fun _ hyp => ?_) (fun _ hyp => ?_)
          · refine ls_iconst (-1) f_149_6 (by decide) ?_
            refine ls_goto 11 f_149_7 rfl ?_
            refine ls_ireturn f_149_11 rI_149 ?_
            show lm_W _ _ _ _ [.int (-1)] _ _
            exact ls_ireturn f_118_51 rI_118 hyp
          · refine ls_iload_n f_149_10 rfl ?_
            refine ls_ireturn f_149_11 rI_149 ?_
            show lm_W _ _ _ _ [.int r5] _ _
            exact ls_ireturn f_118_51 rI_118 hyp
    · refine ls_iconst 0 f_49_16 (by decide) ?_
      refine ls_zreturn f_49_17 rZ_49 (by decide) ?_
      show lm_W _ _ _ _ [.int 0] _ _
      refine ls_if_eq_T 15 f_118_8 rfl (by decide) ?_
      refine ls_iconst (-1) f_118_15 (by decide) ?_
      exact ls_ireturn f_118_16 rI_118 hyp
theorem e_119 {d : Nat} {h : lm_H} {K : Int32 → lm_H → Prop} (x1 : Int32) (hl : lm_Lay h) (hyp : (if x1 = 0 then (lm_call (d) 145 [.ref 0] h (lm_kV fun h1 => (if (lm_i h1 31 12) = 0 then (K (-1000000) h1) else (if x1 = 0 then (K (lm_i h1 31 13) h1) else (K (lm_i h1 31 14) h1))))) else (if x1 = 1 then (lm_call (d) 145 [.ref 0] h (lm_kV fun h2 => (if (lm_i h2 31 12) = 0 then (K (-1000000) h2) else (if x1 = 0 then (K (lm_i h2 31 13) h2) else (K (lm_i h2 31 14) h2))))) else (K (-1000000) h)))) : lm_call (d + 1) 119 [.ref 0, .int x1] h (lm_kI K) := by
  refine ls_enter [some (.ref 0), some (.int x1)] ml_119 (Nat.le_of_ble_eq_true rfl) rfl ?_
  refine ls_iload_n f_119_0 rfl ?_
  refine ls_if_eq 12 f_119_1 rfl hyp (fun _ hyp => ?_) (fun _ hyp => ?_)
  · refine ls_aload_n f_119_12 rfl ?_
    refine ls_invV (a := 0) f_119_13 q_119_222 [] [] rfl (Nat.le_of_ble_eq_true rfl) hl S_0 ow_145 ?_
    refine ls_call hyp hl (fun _ h1 hl1 hyp => ?_)
    refine ls_retV hyp (fun hyp => ?_)
    refine ls_aload_n f_119_16 rfl ?_
    refine ls_getR f_119_17 p_119_62 hl1 S_0 F_0_8 ?_
    refine ls_getI f_119_20 p_119_243 hl1 S_31 ?_
    refine ls_if_ne 29 f_119_23 rfl hyp (fun _ hyp => ?_) (fun _ hyp => ?_)
    · refine ls_ldc f_119_26 k_119_130 ?_
      exact ls_ireturn f_119_28 rI_119 hyp
    · refine ls_iload_n f_119_29 rfl ?_
      refine ls_if_ne 43 f_119_30 rfl hyp (fun _ hyp => ?_) (fun _ hyp => ?_)
      · refine ls_aload_n f_119_33 rfl ?_
        refine ls_getR f_119_34 p_119_62 hl1 S_0 F_0_8 ?_
        refine ls_getI f_119_37 p_119_249 hl1 S_31 ?_
        refine ls_goto 50 f_119_40 rfl ?_
        exact ls_ireturn f_119_50 rI_119 hyp
      · refine ls_aload_n f_119_43 rfl ?_
        refine ls_getR f_119_44 p_119_62 hl1 S_0 F_0_8 ?_
        refine ls_getI f_119_47 p_119_252 hl1 S_31 ?_
        exact ls_ireturn f_119_50 rI_119 hyp
  · refine ls_iload_n f_119_4 rfl ?_
    refine ls_iconst 1 f_119_5 (by decide) ?_
    refine ls_icmp_eq 12 f_119_6 rfl hyp (fun _ hyp => ?_) (fun _ hyp => ?_)
    · refine ls_aload_n f_119_12 rfl ?_
      refine ls_invV (a := 0) f_119_13 q_119_222 [] [] rfl (Nat.le_of_ble_eq_true rfl) hl S_0 ow_145 ?_
      refine ls_call hyp hl (fun _ h2 hl2 hyp => ?_)
      refine ls_retV hyp (fun hyp => ?_)
      refine ls_aload_n f_119_16 rfl ?_
      refine ls_getR f_119_17 p_119_62 hl2 S_0 F_0_8 ?_
      refine ls_getI f_119_20 p_119_243 hl2 S_31 ?_
      refine ls_if_ne 29 f_119_23 rfl hyp (fun _ hyp => ?_) (fun _ hyp => ?_)
      · refine ls_ldc f_119_26 k_119_130 ?_
        exact ls_ireturn f_119_28 rI_119 hyp
      · refine ls_iload_n f_119_29 rfl ?_
        refine ls_if_ne 43 f_119_30 rfl hyp (fun _ hyp => ?_) (fun _ hyp => ?_)
        · refine ls_aload_n f_119_33 rfl ?_
          refine ls_getR f_119_34 p_119_62 hl2 S_0 F_0_8 ?_
          refine ls_getI f_119_37 p_119_249 hl2 S_31 ?_
          refine ls_goto 50 f_119_40 rfl ?_
          exact ls_ireturn f_119_50 rI_119 hyp
        · refine ls_aload_n f_119_43 rfl ?_
          refine ls_getR f_119_44 p_119_62 hl2 S_0 F_0_8 ?_
          refine ls_getI f_119_47 p_119_252 hl2 S_31 ?_
          exact ls_ireturn f_119_50 rI_119 hyp
    · refine ls_ldc f_119_9 k_119_130 ?_
      exact ls_ireturn f_119_11 rI_119 hyp
theorem e_120 {d : Nat} {h : lm_H} {K : Int32 → lm_H → Prop} (x1 : Int32) (hl : lm_Lay h) (hyp : (if x1 < 0 then (K (-1) h) else (if x1 < (lm_i h 1 0) then (lm_call (d + 1) 144 [.ref 0] h (lm_kV fun h1 => lm_call (d + 1) 72 [.ref 21, .ref 73, .int x1] h1 (lm_kI fun r3 h2 => K r3 h2))) else (K (-1) h)))) : lm_call (d + 2) 120 [.ref 0, .int x1] h (lm_kI K) := by
  refine ls_enter [some (.ref 0), some (.int x1)] ml_120 (Nat.le_of_ble_eq_true rfl) rfl ?_
  refine ls_aload_n f_120_0 rfl ?_
  refine ls_getR f_120_1 p_120_12 hl S_0 F_0_0 ?_
  refine ls_iload_n f_120_4 rfl ?_
  refine ls_invV (a := 1) f_120_5 q_120_190 [.int x1] [] rfl (Nat.le_of_ble_eq_true rfl) hl S_1 ow_49 ?_
  refine ls_enter [some (.ref 1), some (.int x1)] ml_49 (Nat.le_of_ble_eq_true rfl) rfl ?_
  refine ls_iload_n f_49_0 rfl ?_
  refine ls_if_lt 16 f_49_1 rfl hyp (fun _ hyp => ?_) (fun _ hyp => ?_)
  · refine ls_iconst 0 f_49_16 (by decide) ?_
    refine ls_zreturn f_49_17 rZ_49 (by decide) ?_
    show lm_W _ _ _ _ [.int 0] _ _
    refine ls_if_ne_T 13 f_120_8 rfl (by decide) ?_
    refine ls_iconst (-1) f_120_11 (by decide) ?_
    exact ls_ireturn f_120_12 rI_120 hyp
  · refine ls_iload_n f_49_4 rfl ?_
    refine ls_aload_n f_49_5 rfl ?_
    refine ls_getI f_49_6 p_49_9 hl S_1 ?_
    refine ls_icmp_ge 16 f_49_9 rfl hyp (fun _ hyp => ?_) (fun _ hyp => ?_)
    · refine ls_iconst 1 f_49_12 (by decide) ?_
      refine ls_goto 17 f_49_13 rfl ?_
      refine ls_zreturn f_49_17 rZ_49 (by decide) ?_
      show lm_W _ _ _ _ [.int 1] _ _
      refine ls_if_ne_F 13 f_120_8 rfl (by decide) ?_
      refine ls_aload_n f_120_13 rfl ?_
      refine ls_invV (a := 0) f_120_14 q_120_202 [] [] rfl (Nat.le_of_ble_eq_true rfl) hl S_0 ow_144 ?_
      refine ls_call hyp hl (fun _ h1 hl1 hyp => ?_)
      refine ls_retV hyp (fun hyp => ?_)
      refine ls_aload_n f_120_17 rfl ?_
      refine ls_getR f_120_18 p_120_48 hl1 S_0 F_0_6 ?_
      refine ls_aload_n f_120_21 rfl ?_
      refine ls_getR f_120_22 p_120_87 hl1 S_0 F_0_12 ?_
      refine ls_iload_n f_120_25 rfl ?_
      refine ls_invV (a := 21) f_120_26 q_120_255 [.ref 73, .int x1] [] rfl (Nat.le_of_ble_eq_true rfl) hl1 S_21 ow_72 ?_
      refine ls_call hyp hl1 (fun _ h2 hl2 hyp => ?_)
      refine ls_retI hyp (fun r3 hyp => ?_)
      exact ls_ireturn f_120_29 rI_120 hyp
    · refine ls_iconst 0 f_49_16 (by decide) ?_
      refine ls_zreturn f_49_17 rZ_49 (by decide) ?_
      show lm_W _ _ _ _ [.int 0] _ _
      refine ls_if_ne_T 13 f_120_8 rfl (by decide) ?_
      refine ls_iconst (-1) f_120_11 (by decide) ?_
      exact ls_ireturn f_120_12 rI_120 hyp
theorem e_121 {d : Nat} {h : lm_H} {K : Int32 → lm_H → Prop} (x1 : Int32) (hl : lm_Lay h) (hyp : (if x1 = 0 then (lm_call (d) 144 [.ref 0] h (lm_kV fun h1 => lm_call (d) 76 [.ref 49, .ref 21, .ref 73] h1 (lm_kV fun h2 => (if x1 = 0 then (K (lm_i h2 49 2) h2) else (if (lm_i h2 49 3) = 0 then (K 0 h2) else (K 1 h2)))))) else (if x1 = 1 then (lm_call (d) 144 [.ref 0] h (lm_kV fun h3 => lm_call (d) 76 [.ref 49, .ref 21, .ref 73] h3 (lm_kV fun h4 => (if x1 = 0 then (K (lm_i h4 49 2) h4) else (if (lm_i h4 49 3) = 0 then (K 0 h4) else (K 1 h4)))))) else (K (-1) h)))) : lm_call (d + 1) 121 [.ref 0, .int x1] h (lm_kI K) := by
  refine ls_enter [some (.ref 0), some (.int x1)] ml_121 (Nat.le_of_ble_eq_true rfl) rfl ?_
  refine ls_iload_n f_121_0 rfl ?_
  refine ls_if_eq 11 f_121_1 rfl hyp (fun _ hyp => ?_) (fun _ hyp => ?_)
  · refine ls_aload_n f_121_11 rfl ?_
    refine ls_invV (a := 0) f_121_12 q_121_202 [] [] rfl (Nat.le_of_ble_eq_true rfl) hl S_0 ow_144 ?_
    refine ls_call hyp hl (fun _ h1 hl1 hyp => ?_)
    refine ls_retV hyp (fun hyp => ?_)
    refine ls_aload_n f_121_15 rfl ?_
    refine ls_getR f_121_16 p_121_69 hl1 S_0 F_0_9 ?_
    refine ls_aload_n f_121_19 rfl ?_
    refine ls_getR f_121_20 p_121_48 hl1 S_0 F_0_6 ?_
    refine ls_aload_n f_121_23 rfl ?_
    refine ls_getR f_121_24 p_121_87 hl1 S_0 F_0_12 ?_
    refine ls_invV (a := 49) f_121_27 q_121_258 [.ref 21, .ref 73] [] rfl (Nat.le_of_ble_eq_true rfl) hl1 S_49 ow_76 ?_
    refine ls_call hyp hl1 (fun _ h2 hl2 hyp => ?_)
    refine ls_retV hyp (fun hyp => ?_)
    refine ls_iload_n f_121_30 rfl ?_
    refine ls_if_ne 42 f_121_31 rfl hyp (fun _ hyp => ?_) (fun _ hyp => ?_)
    · refine ls_aload_n f_121_34 rfl ?_
      refine ls_getR f_121_35 p_121_69 hl2 S_0 F_0_9 ?_
      refine ls_getI f_121_38 p_121_262 hl2 S_49 ?_
      exact ls_ireturn f_121_41 rI_121 hyp
    · refine ls_aload_n f_121_42 rfl ?_
      refine ls_getR f_121_43 p_121_69 hl2 S_0 F_0_9 ?_
      refine ls_getI f_121_46 p_121_265 hl2 S_49 ?_
      refine ls_if_eq 56 f_121_49 rfl hyp (fun _ hyp => ?_) (fun _ hyp => ?_)
      · refine ls_iconst 0 f_121_56 (by decide) ?_
        exact ls_ireturn f_121_57 rI_121 hyp
      · refine ls_iconst 1 f_121_52 (by decide) ?_
        refine ls_goto 57 f_121_53 rfl ?_
        exact ls_ireturn f_121_57 rI_121 hyp
  · refine ls_iload_n f_121_4 rfl ?_
    refine ls_iconst 1 f_121_5 (by decide) ?_
    refine ls_icmp_eq 11 f_121_6 rfl hyp (fun _ hyp => ?_) (fun _ hyp => ?_)
    · refine ls_aload_n f_121_11 rfl ?_
      refine ls_invV (a := 0) f_121_12 q_121_202 [] [] rfl (Nat.le_of_ble_eq_true rfl) hl S_0 ow_144 ?_
      refine ls_call hyp hl (fun _ h3 hl3 hyp => ?_)
      refine ls_retV hyp (fun hyp => ?_)
      refine ls_aload_n f_121_15 rfl ?_
      refine ls_getR f_121_16 p_121_69 hl3 S_0 F_0_9 ?_
      refine ls_aload_n f_121_19 rfl ?_
      refine ls_getR f_121_20 p_121_48 hl3 S_0 F_0_6 ?_
      refine ls_aload_n f_121_23 rfl ?_
      refine ls_getR f_121_24 p_121_87 hl3 S_0 F_0_12 ?_
      refine ls_invV (a := 49) f_121_27 q_121_258 [.ref 21, .ref 73] [] rfl (Nat.le_of_ble_eq_true rfl) hl3 S_49 ow_76 ?_
      refine ls_call hyp hl3 (fun _ h4 hl4 hyp => ?_)
      refine ls_retV hyp (fun hyp => ?_)
      refine ls_iload_n f_121_30 rfl ?_
      refine ls_if_ne 42 f_121_31 rfl hyp (fun _ hyp => ?_) (fun _ hyp => ?_)
      · refine ls_aload_n f_121_34 rfl ?_
        refine ls_getR f_121_35 p_121_69 hl4 S_0 F_0_9 ?_
        refine ls_getI f_121_38 p_121_262 hl4 S_49 ?_
        exact ls_ireturn f_121_41 rI_121 hyp
      · refine ls_aload_n f_121_42 rfl ?_
        refine ls_getR f_121_43 p_121_69 hl4 S_0 F_0_9 ?_
        refine ls_getI f_121_46 p_121_265 hl4 S_49 ?_
        refine ls_if_eq 56 f_121_49 rfl hyp (fun _ hyp => ?_) (fun _ hyp => ?_)
        · refine ls_iconst 0 f_121_56 (by decide) ?_
          exact ls_ireturn f_121_57 rI_121 hyp
        · refine ls_iconst 1 f_121_52 (by decide) ?_
          refine ls_goto 57 f_121_53 rfl ?_
          exact ls_ireturn f_121_57 rI_121 hyp
    · refine ls_iconst (-1) f_121_9 (by decide) ?_
      exact ls_ireturn f_121_10 rI_121 hyp
theorem e_122 {d : Nat} {h : lm_H} {K : Int32 → lm_H → Prop} (x1 : Int32) (hl : lm_Lay h) (hyp : (if x1 < 0 then (K (-1) h) else (if x1 < (lm_i h 1 0) then (lm_call (d + 1) 144 [.ref 0] h (lm_kV fun h1 => lm_call (d + 1) 76 [.ref 49, .ref 21, .ref 73] h1 (lm_kV fun h2 => lm_in x1 5 False (if (lm_i h2 50 x1.toNatClampNeg) = 6 then (K (-1) h2) else (K (lm_i h2 50 x1.toNatClampNeg) h2))))) else (K (-1) h)))) : lm_call (d + 2) 122 [.ref 0, .int x1] h (lm_kI K) := by
  refine ls_enter [some (.ref 0), some (.int x1)] ml_122 (Nat.le_of_ble_eq_true rfl) rfl ?_
  refine ls_aload_n f_122_0 rfl ?_
  refine ls_getR f_122_1 p_122_12 hl S_0 F_0_0 ?_
  refine ls_iload_n f_122_4 rfl ?_
  refine ls_invV (a := 1) f_122_5 q_122_190 [.int x1] [] rfl (Nat.le_of_ble_eq_true rfl) hl S_1 ow_49 ?_
  refine ls_enter [some (.ref 1), some (.int x1)] ml_49 (Nat.le_of_ble_eq_true rfl) rfl ?_
  refine ls_iload_n f_49_0 rfl ?_
  refine ls_if_lt 16 f_49_1 rfl hyp (fun _ hyp => ?_) (fun _ hyp => ?_)
  · refine ls_iconst 0 f_49_16 (by decide) ?_
    refine ls_zreturn f_49_17 rZ_49 (by decide) ?_
    show lm_W _ _ _ _ [.int 0] _ _
    refine ls_if_ne_T 13 f_122_8 rfl (by decide) ?_
    refine ls_iconst (-1) f_122_11 (by decide) ?_
    exact ls_ireturn f_122_12 rI_122 hyp
  · refine ls_iload_n f_49_4 rfl ?_
    refine ls_aload_n f_49_5 rfl ?_
    refine ls_getI f_49_6 p_49_9 hl S_1 ?_
    refine ls_icmp_ge 16 f_49_9 rfl hyp (fun _ hyp => ?_) (fun _ hyp => ?_)
    · refine ls_iconst 1 f_49_12 (by decide) ?_
      refine ls_goto 17 f_49_13 rfl ?_
      refine ls_zreturn f_49_17 rZ_49 (by decide) ?_
      show lm_W _ _ _ _ [.int 1] _ _
      refine ls_if_ne_F 13 f_122_8 rfl (by decide) ?_
      refine ls_aload_n f_122_13 rfl ?_
      refine ls_invV (a := 0) f_122_14 q_122_202 [] [] rfl (Nat.le_of_ble_eq_true rfl) hl S_0 ow_144 ?_
      refine ls_call hyp hl (fun _ h1 hl1 hyp => ?_)
      refine ls_retV hyp (fun hyp => ?_)
      refine ls_aload_n f_122_17 rfl ?_
      refine ls_getR f_122_18 p_122_69 hl1 S_0 F_0_9 ?_
      refine ls_aload_n f_122_21 rfl ?_
      refine ls_getR f_122_22 p_122_48 hl1 S_0 F_0_6 ?_
      refine ls_aload_n f_122_25 rfl ?_
      refine ls_getR f_122_26 p_122_87 hl1 S_0 F_0_12 ?_
      refine ls_invV (a := 49) f_122_29 q_122_258 [.ref 21, .ref 73] [] rfl (Nat.le_of_ble_eq_true rfl) hl1 S_49 ow_76 ?_
      refine ls_call hyp hl1 (fun _ h2 hl2 hyp => ?_)
      refine ls_retV hyp (fun hyp => ?_)
      refine ls_aload_n f_122_32 rfl ?_
      refine ls_getR f_122_33 p_122_69 hl2 S_0 F_0_9 ?_
      refine ls_getR f_122_36 p_122_269 hl2 S_49 F_49_0 ?_
      refine ls_iload_n f_122_39 rfl ?_
      refine ls_iald f_122_40 hl2 S_50 hyp (fun hyp => ?_)
      refine ls_invS f_122_41 q_122_199 [.int (lm_i h2 50 x1.toNatClampNeg)] [] rfl (Nat.le_of_ble_eq_true rfl) ?_
      refine ls_enter [some (.int (lm_i h2 50 x1.toNatClampNeg))] ml_149 (Nat.le_of_ble_eq_true rfl) rfl ?_
      refine ls_iload_n f_149_0 rfl ?_
      refine ls_bipush 6 f_149_1 (by decide) ?_
      refine ls_icmp_ne 10 f_149_3 rfl hyp (fun _ hyp => ?_) (fun _ hyp => ?_)
      · refine ls_iconst (-1) f_149_6 (by decide) ?_
        refine ls_goto 11 f_149_7 rfl ?_
        refine ls_ireturn f_149_11 rI_149 ?_
        show lm_W _ _ _ _ [.int (-1)] _ _
        exact ls_ireturn f_122_44 rI_122 hyp
      · refine ls_iload_n f_149_10 rfl ?_
        refine ls_ireturn f_149_11 rI_149 ?_
        show lm_W _ _ _ _ [.int (lm_i h2 50 x1.toNatClampNeg)] _ _
        exact ls_ireturn f_122_44 rI_122 hyp
    · refine ls_iconst 0 f_49_16 (by decide) ?_
      refine ls_zreturn f_49_17 rZ_49 (by decide) ?_
      show lm_W _ _ _ _ [.int 0] _ _
      refine ls_if_ne_T 13 f_122_8 rfl (by decide) ?_
      refine ls_iconst (-1) f_122_11 (by decide) ?_
      exact ls_ireturn f_122_12 rI_122 hyp
theorem e_123 {d : Nat} {h : lm_H} {K : Int32 → lm_H → Prop} (x1 : Int32) (hl : lm_Lay h) (hyp : (if 0 < x1 then (if x1 < ((1 : Int32) <<< ((lm_i h 1 0) &&& 31)) then (lm_call (d) 144 [.ref 0] h (lm_kV fun h1 => lm_call (d) 83 [.ref 26, .ref 21, .ref 73, .int x1] h1 (lm_kI fun r3 h2 => (if r3 = 0 then (K 0 h2) else (K 1 h2))))) else (K (-1) h)) else (K (-1) h))) : lm_call (d + 1) 123 [.ref 0, .int x1] h (lm_kI K) := by
  refine ls_enter [some (.ref 0), some (.int x1)] ml_123 (Nat.le_of_ble_eq_true rfl) rfl ?_
  refine ls_iload_n f_123_0 rfl ?_
  refine ls_if_le 17 f_123_1 rfl hyp (fun _ hyp => ?_) (fun _ hyp => ?_)
  · refine ls_iload_n f_123_4 rfl ?_
    refine ls_iconst 1 f_123_5 (by decide) ?_
    refine ls_aload_n f_123_6 rfl ?_
    refine ls_getR f_123_7 p_123_12 hl S_0 F_0_0 ?_
    refine ls_getI f_123_10 p_123_111 hl S_1 ?_
    refine ls_ishl ((1 : Int32) <<< ((lm_i h 1 0) &&& 31)) f_123_13 rfl ?_
    refine ls_icmp_lt 19 f_123_14 rfl hyp (fun _ hyp => ?_) (fun _ hyp => ?_)
    · refine ls_aload_n f_123_19 rfl ?_
      refine ls_invV (a := 0) f_123_20 q_123_202 [] [] rfl (Nat.le_of_ble_eq_true rfl) hl S_0 ow_144 ?_
      refine ls_call hyp hl (fun _ h1 hl1 hyp => ?_)
      refine ls_retV hyp (fun hyp => ?_)
      refine ls_aload_n f_123_23 rfl ?_
      refine ls_getR f_123_24 p_123_55 hl1 S_0 F_0_7 ?_
      refine ls_aload_n f_123_27 rfl ?_
      refine ls_getR f_123_28 p_123_48 hl1 S_0 F_0_6 ?_
      refine ls_aload_n f_123_31 rfl ?_
      refine ls_getR f_123_32 p_123_87 hl1 S_0 F_0_12 ?_
      refine ls_iload_n f_123_35 rfl ?_
      refine ls_invV (a := 26) f_123_36 q_123_270 [.ref 21, .ref 73, .int x1] [] rfl (Nat.le_of_ble_eq_true rfl) hl1 S_26 ow_83 ?_
      refine ls_call hyp hl1 (fun _ h2 hl2 hyp => ?_)
      refine ls_retI hyp (fun r3 hyp => ?_)
      refine ls_if_eq 46 f_123_39 rfl hyp (fun _ hyp => ?_) (fun _ hyp => ?_)
      · refine ls_iconst 0 f_123_46 (by decide) ?_
        exact ls_ireturn f_123_47 rI_123 hyp
      · refine ls_iconst 1 f_123_42 (by decide) ?_
        refine ls_goto 47 f_123_43 rfl ?_
        exact ls_ireturn f_123_47 rI_123 hyp
    · refine ls_iconst (-1) f_123_17 (by decide) ?_
      exact ls_ireturn f_123_18 rI_123 hyp
  · refine ls_iconst (-1) f_123_17 (by decide) ?_
    exact ls_ireturn f_123_18 rI_123 hyp
theorem e_124 {d : Nat} {h : lm_H} {K : Int32 → lm_H → Prop} (hl : lm_Lay h) (hyp : lm_call (d) 144 [.ref 0] h (lm_kV fun h1 => lm_W (d) 124 6 [some (.ref 0), some (.int 1)] [] h1 (lm_kI K))) : lm_call (d + 1) 124 [.ref 0] h (lm_kI K) := by
  refine ls_enter [some (.ref 0), none] ml_124 (Nat.le_of_ble_eq_true rfl) rfl ?_
  refine ls_aload_n f_124_0 rfl ?_
  refine ls_invV (a := 0) f_124_1 q_124_202 [] [] rfl (Nat.le_of_ble_eq_true rfl) hl S_0 ow_144 ?_
  refine ls_call hyp hl (fun _ h1 hl1 hyp => ?_)
  refine ls_retV hyp (fun hyp => ?_)
  refine ls_iconst 1 f_124_4 (by decide) ?_
  refine ls_istore_n [some (.ref 0), some (.int 1)] f_124_5 (Nat.le_of_ble_eq_true rfl) rfl ?_
  exact hyp
theorem b_124_6 {d : Nat} {h : lm_H} {K : Int32 → lm_H → Prop} (x1 : Int32) (hl : lm_Lay h) (hyp : (if x1 < ((1 : Int32) <<< ((lm_i h 1 0) &&& 31)) then (lm_call (d) 83 [.ref 26, .ref 21, .ref 73, .int x1] h (lm_kI fun r2 h1 => (if r2 = 0 then (lm_W (d) 124 6 [some (.ref 0), some (.int (x1 + 1))] [] h1 (lm_kI K)) else (K x1 h1)))) else (K (-1) h))) : lm_W (d) 124 6 [some (.ref 0), some (.int x1)] [] h (lm_kI K) := by
  refine ls_iload_n f_124_6 rfl ?_
  refine ls_iconst 1 f_124_7 (by decide) ?_
  refine ls_aload_n f_124_8 rfl ?_
  refine ls_getR f_124_9 p_124_12 hl S_0 F_0_0 ?_
  refine ls_getI f_124_12 p_124_111 hl S_1 ?_
  refine ls_ishl ((1 : Int32) <<< ((lm_i h 1 0) &&& 31)) f_124_15 rfl ?_
  refine ls_icmp_ge 46 f_124_16 rfl hyp (fun _ hyp => ?_) (fun _ hyp => ?_)
  · refine ls_aload_n f_124_19 rfl ?_
    refine ls_getR f_124_20 p_124_55 hl S_0 F_0_7 ?_
    refine ls_aload_n f_124_23 rfl ?_
    refine ls_getR f_124_24 p_124_48 hl S_0 F_0_6 ?_
    refine ls_aload_n f_124_27 rfl ?_
    refine ls_getR f_124_28 p_124_87 hl S_0 F_0_12 ?_
    refine ls_iload_n f_124_31 rfl ?_
    refine ls_invV (a := 26) f_124_32 q_124_270 [.ref 21, .ref 73, .int x1] [] rfl (Nat.le_of_ble_eq_true rfl) hl S_26 ow_83 ?_
    refine ls_call hyp hl (fun _ h1 hl1 hyp => ?_)
    refine ls_retI hyp (fun r2 hyp => ?_)
    refine ls_if_eq 40 f_124_35 rfl hyp (fun _ hyp => ?_) (fun _ hyp => ?_)
    · refine ls_iinc (x1 + 1) [some (.ref 0), some (.int (x1 + 1))] f_124_40 rfl (Nat.le_of_ble_eq_true rfl) rfl rfl ?_
      refine ls_goto 6 f_124_43 rfl ?_
      exact hyp
    · refine ls_iload_n f_124_38 rfl ?_
      exact ls_ireturn f_124_39 rI_124 hyp
  · refine ls_iconst (-1) f_124_46 (by decide) ?_
    exact ls_ireturn f_124_47 rI_124 hyp
theorem e_125 {d : Nat} {h : lm_H} {K : Int32 → lm_H → Prop} (x1 : Int32) (x2 : Int32) (x3 : Int32) (hl : lm_Lay h) (hyp : (if x3 < 0 then (K (-1) (lm_si (lm_si h 0 15 (-1)) 75 0 ((lm_i h 75 0) + 1))) else (if 10 < x3 then (K (-1) (lm_si (lm_si h 0 15 (-1)) 75 0 ((lm_i h 75 0) + 1))) else (if x1 < 0 then (K (-2) (lm_si (lm_si h 0 15 (-2)) 75 1 ((lm_i h 75 1) + 1))) else (if x1 < (lm_i h 1 0) then (if x2 < 0 then (K (-2) (lm_si (lm_si h 0 15 (-2)) 75 1 ((lm_i h 75 1) + 1))) else (if x2 < (lm_i h 1 1) then (lm_in ((x1 * 6) + x2) 30 False (lm_call (d + 2) 52 [.ref 1, .int x1] h (lm_kI fun r2 h1 => (if 10 < ((r2 - (lm_i h 6 (((x1 * 6) + x2).toNatClampNeg))) + x3) then (K (-3) (lm_si (lm_si h1 0 15 (-3)) 75 2 ((lm_i h1 75 2) + 1))) else (lm_in ((x1 * 6) + x2) 30 False (K (lm_i h 6 (((x1 * 6) + x2).toNatClampNeg)) (lm_si (lm_si h1 6 (((x1 * 6) + x2).toNatClampNeg) x3) 0 15 0))))))) else (K (-2) (lm_si (lm_si h 0 15 (-2)) 75 1 ((lm_i h 75 1) + 1))))) else (K (-2) (lm_si (lm_si h 0 15 (-2)) 75 1 ((lm_i h 75 1) + 1)))))))) : lm_call (d + 3) 125 [.ref 0, .int x1, .int x2, .int x3] h (lm_kI K) := by
  refine ls_enter [some (.ref 0), some (.int x1), some (.int x2), some (.int x3), none] ml_125 (Nat.le_of_ble_eq_true rfl) rfl ?_
  refine ls_iload_n f_125_0 rfl ?_
  refine ls_if_lt 10 f_125_1 rfl hyp (fun _ hyp => ?_) (fun _ hyp => ?_)
  · refine ls_aload_n f_125_10 rfl ?_
    refine ls_iconst (-1) f_125_11 (by decide) ?_
    refine ls_invV (a := 0) f_125_12 q_125_107 [.int (-1)] [] rfl (Nat.le_of_ble_eq_true rfl) hl S_0 ow_139 ?_
    refine ls_enter [some (.ref 0), some (.int (-1))] ml_139 (Nat.le_of_ble_eq_true rfl) rfl ?_
    refine ls_aload_n f_139_0 rfl ?_
    refine ls_iload_n f_139_1 rfl ?_
    refine ls_putI f_139_2 p_139_97 hl S_0 rfl ?_
    refine ls_aload_n f_139_5 rfl ?_
    refine ls_getR f_139_6 p_139_94 (lm_Lay_si hl _ _ _) S_0 F_0_14 ?_
    refine ls_iload_n f_139_9 rfl ?_
    refine ls_invS f_139_10 q_139_337 [.int (-1)] [.ref 75] rfl (Nat.le_of_ble_eq_true rfl) ?_
    refine ls_enter [some (.int (-1))] ml_141 (Nat.le_of_ble_eq_true rfl) rfl ?_
    refine ls_iload_n f_141_0 rfl ?_
    refine ls_table f_141_1 (by decide) ?_
    refine ls_swF (by decide) ?_
    refine ls_swF (by decide) ?_
    refine ls_swF (by decide) ?_
    refine ls_swF (by decide) ?_
    refine ls_swT (by decide) ?_
    refine lm_tg_of (t := 36) rfl ?_
    refine ls_iconst 0 f_141_36 (by decide) ?_
    refine ls_ireturn f_141_37 rI_141 ?_
    show lm_W _ _ _ _ [.int 0, .ref 75] _ _
    refine ls_dup2 f_139_13 rfl rfl ?_
    refine ls_ialdC 0 f_139_14 (lm_Lay_si hl _ _ _) S_75 ⟨by decide, by decide, by decide⟩ ?_
    refine ls_top (lm_i h 75 0) rfl ?_
    refine ls_iconst 1 f_139_15 (by decide) ?_
    refine ls_iadd ((lm_i h 75 0) + 1) f_139_16 rfl ?_
    refine ls_iastC 0 f_139_17 (lm_Lay_si hl _ _ _) S_75 ⟨by decide, by decide, by decide⟩ ?_
    refine ls_iload_n f_139_18 rfl ?_
    refine ls_ireturn f_139_19 rI_139 ?_
    show lm_W _ _ _ _ [.int (-1)] _ _
    exact ls_ireturn f_125_15 rI_125 hyp
  · refine ls_iload_n f_125_4 rfl ?_
    refine ls_bipush 10 f_125_5 (by decide) ?_
    refine ls_icmp_le 16 f_125_7 rfl hyp (fun _ hyp => ?_) (fun _ hyp => ?_)
    · refine ls_aload_n f_125_10 rfl ?_
      refine ls_iconst (-1) f_125_11 (by decide) ?_
      refine ls_invV (a := 0) f_125_12 q_125_107 [.int (-1)] [] rfl (Nat.le_of_ble_eq_true rfl) hl S_0 ow_139 ?_
      refine ls_enter [some (.ref 0), some (.int (-1))] ml_139 (Nat.le_of_ble_eq_true rfl) rfl ?_
      refine ls_aload_n f_139_0 rfl ?_
      refine ls_iload_n f_139_1 rfl ?_
      refine ls_putI f_139_2 p_139_97 hl S_0 rfl ?_
      refine ls_aload_n f_139_5 rfl ?_
      refine ls_getR f_139_6 p_139_94 (lm_Lay_si hl _ _ _) S_0 F_0_14 ?_
      refine ls_iload_n f_139_9 rfl ?_
      refine ls_invS f_139_10 q_139_337 [.int (-1)] [.ref 75] rfl (Nat.le_of_ble_eq_true rfl) ?_
      refine ls_enter [some (.int (-1))] ml_141 (Nat.le_of_ble_eq_true rfl) rfl ?_
      refine ls_iload_n f_141_0 rfl ?_
      refine ls_table f_141_1 (by decide) ?_
      refine ls_swF (by decide) ?_
      refine ls_swF (by decide) ?_
      refine ls_swF (by decide) ?_
      refine ls_swF (by decide) ?_
      refine ls_swT (by decide) ?_
      refine lm_tg_of (t := 36) rfl ?_
      refine ls_iconst 0 f_141_36 (by decide) ?_
      refine ls_ireturn f_141_37 rI_141 ?_
      show lm_W _ _ _ _ [.int 0, .ref 75] _ _
      refine ls_dup2 f_139_13 rfl rfl ?_
      refine ls_ialdC 0 f_139_14 (lm_Lay_si hl _ _ _) S_75 ⟨by decide, by decide, by decide⟩ ?_
      refine ls_top (lm_i h 75 0) rfl ?_
      refine ls_iconst 1 f_139_15 (by decide) ?_
      refine ls_iadd ((lm_i h 75 0) + 1) f_139_16 rfl ?_
      refine ls_iastC 0 f_139_17 (lm_Lay_si hl _ _ _) S_75 ⟨by decide, by decide, by decide⟩ ?_
      refine ls_iload_n f_139_18 rfl ?_
      refine ls_ireturn f_139_19 rI_139 ?_
      show lm_W _ _ _ _ [.int (-1)] _ _
      exact ls_ireturn f_125_15 rI_125 hyp
    · refine ls_aload_n f_125_16 rfl ?_
      refine ls_getR f_125_17 p_125_12 hl S_0 F_0_0 ?_
      refine ls_iload_n f_125_20 rfl ?_
      refine ls_iload_n f_125_21 rfl ?_
      refine ls_invV (a := 1) f_125_22 q_125_131 [.int x1, .int x2] [] rfl (Nat.le_of_ble_eq_true rfl) hl S_1 ow_51 ?_
      refine ls_enter [some (.ref 1), some (.int x1), some (.int x2)] ml_51 (Nat.le_of_ble_eq_true rfl) rfl ?_
      refine ls_aload_n f_51_0 rfl ?_
      refine ls_iload_n f_51_1 rfl ?_
      refine ls_invV (a := 1) f_51_2 q_51_55 [.int x1] [] rfl (Nat.le_of_ble_eq_true rfl) hl S_1 ow_49 ?_
      refine ls_enter [some (.ref 1), some (.int x1)] ml_49 (Nat.le_of_ble_eq_true rfl) rfl ?_
      refine ls_iload_n f_49_0 rfl ?_
      refine ls_if_lt 16 f_49_1 rfl hyp (fun _ hyp => ?_) (fun _ hyp => ?_)
      · refine ls_iconst 0 f_49_16 (by decide) ?_
        refine ls_zreturn f_49_17 rZ_49 (by decide) ?_
        show lm_W _ _ _ _ [.int 0] _ _
        refine ls_if_eq_T 20 f_51_5 rfl (by decide) ?_
        refine ls_iconst 0 f_51_20 (by decide) ?_
        refine ls_zreturn f_51_21 rZ_51 (by decide) ?_
        show lm_W _ _ _ _ [.int 0] _ _
        refine ls_if_ne_T 35 f_125_25 rfl (by decide) ?_
        refine ls_aload_n f_125_28 rfl ?_
        refine ls_bipush (-2) f_125_29 (by decide) ?_
        refine ls_invV (a := 0) f_125_31 q_125_107 [.int (-2)] [] rfl (Nat.le_of_ble_eq_true rfl) hl S_0 ow_139 ?_
        refine ls_enter [some (.ref 0), some (.int (-2))] ml_139 (Nat.le_of_ble_eq_true rfl) rfl ?_
        refine ls_aload_n f_139_0 rfl ?_
        refine ls_iload_n f_139_1 rfl ?_
        refine ls_putI f_139_2 p_139_97 hl S_0 rfl ?_
        refine ls_aload_n f_139_5 rfl ?_
        refine ls_getR f_139_6 p_139_94 (lm_Lay_si hl _ _ _) S_0 F_0_14 ?_
        refine ls_iload_n f_139_9 rfl ?_
        refine ls_invS f_139_10 q_139_337 [.int (-2)] [.ref 75] rfl (Nat.le_of_ble_eq_true rfl) ?_
        refine ls_enter [some (.int (-2))] ml_141 (Nat.le_of_ble_eq_true rfl) rfl ?_
        refine ls_iload_n f_141_0 rfl ?_
        refine ls_table f_141_1 (by decide) ?_
        refine ls_swF (by decide) ?_
        refine ls_swF (by decide) ?_
        refine ls_swF (by decide) ?_
        refine ls_swT (by decide) ?_
        refine lm_tg_of (t := 38) rfl ?_
        refine ls_iconst 1 f_141_38 (by decide) ?_
        refine ls_ireturn f_141_39 rI_141 ?_
        show lm_W _ _ _ _ [.int 1, .ref 75] _ _
        refine ls_dup2 f_139_13 rfl rfl ?_
        refine ls_ialdC 1 f_139_14 (lm_Lay_si hl _ _ _) S_75 ⟨by decide, by decide, by decide⟩ ?_
        refine ls_top (lm_i h 75 1) rfl ?_
        refine ls_iconst 1 f_139_15 (by decide) ?_
        refine ls_iadd ((lm_i h 75 1) + 1) f_139_16 rfl ?_
        refine ls_iastC 1 f_139_17 (lm_Lay_si hl _ _ _) S_75 ⟨by decide, by decide, by decide⟩ ?_
        refine ls_iload_n f_139_18 rfl ?_
        refine ls_ireturn f_139_19 rI_139 ?_
        show lm_W _ _ _ _ [.int (-2)] _ _
        exact ls_ireturn f_125_34 rI_125 hyp
      · refine ls_iload_n f_49_4 rfl ?_
        refine ls_aload_n f_49_5 rfl ?_
        refine ls_getI f_49_6 p_49_9 hl S_1 ?_
        refine ls_icmp_ge 16 f_49_9 rfl hyp (fun _ hyp => ?_) (fun _ hyp => ?_)
        · refine ls_iconst 1 f_49_12 (by decide) ?_
          refine ls_goto 17 f_49_13 rfl ?_
          refine ls_zreturn f_49_17 rZ_49 (by decide) ?_
          show lm_W _ _ _ _ [.int 1] _ _
          refine ls_if_eq_F 20 f_51_5 rfl (by decide) ?_
          refine ls_aload_n f_51_8 rfl ?_
          refine ls_iload_n f_51_9 rfl ?_
          refine ls_invV (a := 1) f_51_10 q_51_59 [.int x2] [] rfl (Nat.le_of_ble_eq_true rfl) hl S_1 ow_50 ?_
          refine ls_enter [some (.ref 1), some (.int x2)] ml_50 (Nat.le_of_ble_eq_true rfl) rfl ?_
          refine ls_iload_n f_50_0 rfl ?_
          refine ls_if_lt 16 f_50_1 rfl hyp (fun _ hyp => ?_) (fun _ hyp => ?_)
          · refine ls_iconst 0 f_50_16 (by decide) ?_
            refine ls_zreturn f_50_17 rZ_50 (by decide) ?_
            show lm_W _ _ _ _ [.int 0] _ _
            refine ls_if_eq_T 20 f_51_13 rfl (by decide) ?_
            refine ls_iconst 0 f_51_20 (by decide) ?_
            refine ls_zreturn f_51_21 rZ_51 (by decide) ?_
            show lm_W _ _ _ _ [.int 0] _ _
            refine ls_if_ne_T 35 f_125_25 rfl (by decide) ?_
            refine ls_aload_n f_125_28 rfl ?_
            refine ls_bipush (-2) f_125_29 (by decide) ?_
            refine ls_invV (a := 0) f_125_31 q_125_107 [.int (-2)] [] rfl (Nat.le_of_ble_eq_true rfl) hl S_0 ow_139 ?_
            refine ls_enter [some (.ref 0), some (.int (-2))] ml_139 (Nat.le_of_ble_eq_true rfl) rfl ?_
            refine ls_aload_n f_139_0 rfl ?_
            refine ls_iload_n f_139_1 rfl ?_
            refine ls_putI f_139_2 p_139_97 hl S_0 rfl ?_
            refine ls_aload_n f_139_5 rfl ?_
            refine ls_getR f_139_6 p_139_94 (lm_Lay_si hl _ _ _) S_0 F_0_14 ?_
            refine ls_iload_n f_139_9 rfl ?_
            refine ls_invS f_139_10 q_139_337 [.int (-2)] [.ref 75] rfl (Nat.le_of_ble_eq_true rfl) ?_
            refine ls_enter [some (.int (-2))] ml_141 (Nat.le_of_ble_eq_true rfl) rfl ?_
            refine ls_iload_n f_141_0 rfl ?_
            refine ls_table f_141_1 (by decide) ?_
            refine ls_swF (by decide) ?_
            refine ls_swF (by decide) ?_
            refine ls_swF (by decide) ?_
            refine ls_swT (by decide) ?_
            refine lm_tg_of (t := 38) rfl ?_
            refine ls_iconst 1 f_141_38 (by decide) ?_
            refine ls_ireturn f_141_39 rI_141 ?_
            show lm_W _ _ _ _ [.int 1, .ref 75] _ _
            refine ls_dup2 f_139_13 rfl rfl ?_
            refine ls_ialdC 1 f_139_14 (lm_Lay_si hl _ _ _) S_75 ⟨by decide, by decide, by decide⟩ ?_
            refine ls_top (lm_i h 75 1) rfl ?_
            refine ls_iconst 1 f_139_15 (by decide) ?_
            refine ls_iadd ((lm_i h 75 1) + 1) f_139_16 rfl ?_
            refine ls_iastC 1 f_139_17 (lm_Lay_si hl _ _ _) S_75 ⟨by decide, by decide, by decide⟩ ?_
            refine ls_iload_n f_139_18 rfl ?_
            refine ls_ireturn f_139_19 rI_139 ?_
            show lm_W _ _ _ _ [.int (-2)] _ _
            exact ls_ireturn f_125_34 rI_125 hyp
          · refine ls_iload_n f_50_4 rfl ?_
            refine ls_aload_n f_50_5 rfl ?_
            refine ls_getI f_50_6 p_50_15 hl S_1 ?_
            refine ls_icmp_ge 16 f_50_9 rfl hyp (fun _ hyp => ?_) (fun _ hyp => ?_)
            · refine ls_iconst 1 f_50_12 (by decide) ?_
              refine ls_goto 17 f_50_13 rfl ?_
              refine ls_zreturn f_50_17 rZ_50 (by decide) ?_
              show lm_W _ _ _ _ [.int 1] _ _
              refine ls_if_eq_F 20 f_51_13 rfl (by decide) ?_
              refine ls_iconst 1 f_51_16 (by decide) ?_
              refine ls_goto 21 f_51_17 rfl ?_
              refine ls_zreturn f_51_21 rZ_51 (by decide) ?_
              show lm_W _ _ _ _ [.int 1] _ _
              refine ls_if_ne_F 35 f_125_25 rfl (by decide) ?_
              refine ls_aload_n f_125_35 rfl ?_
              refine ls_getR f_125_36 p_125_12 hl S_0 F_0_0 ?_
              refine ls_getR f_125_39 p_125_274 hl S_1 F_1_10 ?_
              refine ls_iload_n f_125_42 rfl ?_
              refine ls_iload_n f_125_43 rfl ?_
              refine ls_invS f_125_44 q_125_138 [.int x1, .int x2] [.ref 6] rfl (Nat.le_of_ble_eq_true rfl) ?_
              refine ls_enter [some (.int x1), some (.int x2)] ml_147 (Nat.le_of_ble_eq_true rfl) rfl ?_
              refine ls_iload_n f_147_0 rfl ?_
              refine ls_bipush 6 f_147_1 (by decide) ?_
              refine ls_imul (x1 * 6) f_147_3 rfl ?_
              refine ls_iload_n f_147_4 rfl ?_
              refine ls_iadd ((x1 * 6) + x2) f_147_5 rfl ?_
              refine ls_ireturn f_147_6 rI_147 ?_
              show lm_W _ _ _ _ [.int ((x1 * 6) + x2), .ref 6] _ _
              refine ls_iald f_125_47 hl S_6 hyp (fun hyp => ?_)
              refine ls_istore [some (.ref 0), some (.int x1), some (.int x2), some (.int x3), some (.int (lm_i h 6 (((x1 * 6) + x2).toNatClampNeg)))] f_125_48 (Nat.le_of_ble_eq_true rfl) rfl ?_
              refine ls_aload_n f_125_50 rfl ?_
              refine ls_getR f_125_51 p_125_12 hl S_0 F_0_0 ?_
              refine ls_iload_n f_125_54 rfl ?_
              refine ls_invV (a := 1) f_125_55 q_125_277 [.int x1] [] rfl (Nat.le_of_ble_eq_true rfl) hl S_1 ow_52 ?_
              refine ls_call hyp hl (fun _ h1 hl1 hyp => ?_)
              refine ls_retI hyp (fun r2 hyp => ?_)
              refine ls_iload f_125_58 rfl ?_
              refine ls_isub (r2 - (lm_i h 6 (((x1 * 6) + x2).toNatClampNeg))) f_125_60 rfl ?_
              refine ls_iload_n f_125_61 rfl ?_
              refine ls_iadd ((r2 - (lm_i h 6 (((x1 * 6) + x2).toNatClampNeg))) + x3) f_125_62 rfl ?_
              refine ls_bipush 10 f_125_63 (by decide) ?_
              refine ls_icmp_le 75 f_125_65 rfl hyp (fun _ hyp => ?_) (fun _ hyp => ?_)
              · refine ls_aload_n f_125_68 rfl ?_
                refine ls_bipush (-3) f_125_69 (by decide) ?_
                refine ls_invV (a := 0) f_125_71 q_125_107 [.int (-3)] [] rfl (Nat.le_of_ble_eq_true rfl) hl1 S_0 ow_139 ?_
                refine ls_enter [some (.ref 0), some (.int (-3))] ml_139 (Nat.le_of_ble_eq_true rfl) rfl ?_
                refine ls_aload_n f_139_0 rfl ?_
                refine ls_iload_n f_139_1 rfl ?_
                refine ls_putI f_139_2 p_139_97 hl1 S_0 rfl ?_
                refine ls_aload_n f_139_5 rfl ?_
                refine ls_getR f_139_6 p_139_94 (lm_Lay_si hl1 _ _ _) S_0 F_0_14 ?_
                refine ls_iload_n f_139_9 rfl ?_
                refine ls_invS f_139_10 q_139_337 [.int (-3)] [.ref 75] rfl (Nat.le_of_ble_eq_true rfl) ?_
                refine ls_enter [some (.int (-3))] ml_141 (Nat.le_of_ble_eq_true rfl) rfl ?_
                refine ls_iload_n f_141_0 rfl ?_
                refine ls_table f_141_1 (by decide) ?_
                refine ls_swF (by decide) ?_
                refine ls_swF (by decide) ?_
                refine ls_swT (by decide) ?_
                refine lm_tg_of (t := 40) rfl ?_
                refine ls_iconst 2 f_141_40 (by decide) ?_
                refine ls_ireturn f_141_41 rI_141 ?_
                show lm_W _ _ _ _ [.int 2, .ref 75] _ _
                refine ls_dup2 f_139_13 rfl rfl ?_
                refine ls_ialdC 2 f_139_14 (lm_Lay_si hl1 _ _ _) S_75 ⟨by decide, by decide, by decide⟩ ?_
                refine ls_top (lm_i h1 75 2) rfl ?_
                refine ls_iconst 1 f_139_15 (by decide) ?_
                refine ls_iadd ((lm_i h1 75 2) + 1) f_139_16 rfl ?_
                refine ls_iastC 2 f_139_17 (lm_Lay_si hl1 _ _ _) S_75 ⟨by decide, by decide, by decide⟩ ?_
                refine ls_iload_n f_139_18 rfl ?_
                refine ls_ireturn f_139_19 rI_139 ?_
                show lm_W _ _ _ _ [.int (-3)] _ _
                exact ls_ireturn f_125_74 rI_125 hyp
              · refine ls_aload_n f_125_75 rfl ?_
                refine ls_getR f_125_76 p_125_12 hl1 S_0 F_0_0 ?_
                refine ls_getR f_125_79 p_125_274 hl1 S_1 F_1_10 ?_
                refine ls_iload_n f_125_82 rfl ?_
                refine ls_iload_n f_125_83 rfl ?_
                refine ls_invS f_125_84 q_125_138 [.int x1, .int x2] [.ref 6] rfl (Nat.le_of_ble_eq_true rfl) ?_
                refine ls_enter [some (.int x1), some (.int x2)] ml_147 (Nat.le_of_ble_eq_true rfl) rfl ?_
                refine ls_iload_n f_147_0 rfl ?_
                refine ls_bipush 6 f_147_1 (by decide) ?_
                refine ls_imul (x1 * 6) f_147_3 rfl ?_
                refine ls_iload_n f_147_4 rfl ?_
                refine ls_iadd ((x1 * 6) + x2) f_147_5 rfl ?_
                refine ls_ireturn f_147_6 rI_147 ?_
                show lm_W _ _ _ _ [.int ((x1 * 6) + x2), .ref 6] _ _
                refine ls_iload_n f_125_87 rfl ?_
                refine ls_iast f_125_88 hl1 S_6 hyp (fun hyp => ?_)
                refine ls_aload_n f_125_89 rfl ?_
                refine ls_iload f_125_90 rfl ?_
                refine ls_invV (a := 0) f_125_92 q_125_117 [.int (lm_i h 6 (((x1 * 6) + x2).toNatClampNeg))] [] rfl (Nat.le_of_ble_eq_true rfl) (lm_Lay_si hl1 _ _ _) S_0 ow_140 ?_
                refine ls_enter [some (.ref 0), some (.int (lm_i h 6 (((x1 * 6) + x2).toNatClampNeg)))] ml_140 (Nat.le_of_ble_eq_true rfl) rfl ?_
                refine ls_aload_n f_140_0 rfl ?_
                refine ls_iconst 0 f_140_1 (by decide) ?_
                refine ls_putI f_140_2 p_140_97 (lm_Lay_si hl1 _ _ _) S_0 rfl ?_
                refine ls_iload_n f_140_5 rfl ?_
                refine ls_ireturn f_140_6 rI_140 ?_
                show lm_W _ _ _ _ [.int (lm_i h 6 (((x1 * 6) + x2).toNatClampNeg))] _ _
                exact ls_ireturn f_125_95 rI_125 hyp
            · refine ls_iconst 0 f_50_16 (by decide) ?_
              refine ls_zreturn f_50_17 rZ_50 (by decide) ?_
              show lm_W _ _ _ _ [.int 0] _ _
              refine ls_if_eq_T 20 f_51_13 rfl (by decide) ?_
              refine ls_iconst 0 f_51_20 (by decide) ?_
              refine ls_zreturn f_51_21 rZ_51 (by decide) ?_
              show lm_W _ _ _ _ [.int 0] _ _
              refine ls_if_ne_T 35 f_125_25 rfl (by decide) ?_
              refine ls_aload_n f_125_28 rfl ?_
              refine ls_bipush (-2) f_125_29 (by decide) ?_
              refine ls_invV (a := 0) f_125_31 q_125_107 [.int (-2)] [] rfl (Nat.le_of_ble_eq_true rfl) hl S_0 ow_139 ?_
              refine ls_enter [some (.ref 0), some (.int (-2))] ml_139 (Nat.le_of_ble_eq_true rfl) rfl ?_
              refine ls_aload_n f_139_0 rfl ?_
              refine ls_iload_n f_139_1 rfl ?_
              refine ls_putI f_139_2 p_139_97 hl S_0 rfl ?_
              refine ls_aload_n f_139_5 rfl ?_
              refine ls_getR f_139_6 p_139_94 (lm_Lay_si hl _ _ _) S_0 F_0_14 ?_
              refine ls_iload_n f_139_9 rfl ?_
              refine ls_invS f_139_10 q_139_337 [.int (-2)] [.ref 75] rfl (Nat.le_of_ble_eq_true rfl) ?_
              refine ls_enter [some (.int (-2))] ml_141 (Nat.le_of_ble_eq_true rfl) rfl ?_
              refine ls_iload_n f_141_0 rfl ?_
              refine ls_table f_141_1 (by decide) ?_
              refine ls_swF (by decide) ?_
              refine ls_swF (by decide) ?_
              refine ls_swF (by decide) ?_
              refine ls_swT (by decide) ?_
              refine lm_tg_of (t := 38) rfl ?_
              refine ls_iconst 1 f_141_38 (by decide) ?_
              refine ls_ireturn f_141_39 rI_141 ?_
              show lm_W _ _ _ _ [.int 1, .ref 75] _ _
              refine ls_dup2 f_139_13 rfl rfl ?_
              refine ls_ialdC 1 f_139_14 (lm_Lay_si hl _ _ _) S_75 ⟨by decide, by decide, by decide⟩ ?_
              refine ls_top (lm_i h 75 1) rfl ?_
              refine ls_iconst 1 f_139_15 (by decide) ?_
              refine ls_iadd ((lm_i h 75 1) + 1) f_139_16 rfl ?_
              refine ls_iastC 1 f_139_17 (lm_Lay_si hl _ _ _) S_75 ⟨by decide, by decide, by decide⟩ ?_
              refine ls_iload_n f_139_18 rfl ?_
              refine ls_ireturn f_139_19 rI_139 ?_
              show lm_W _ _ _ _ [.int (-2)] _ _
              exact ls_ireturn f_125_34 rI_125 hyp
        · refine ls_iconst 0 f_49_16 (by decide) ?_
          refine ls_zreturn f_49_17 rZ_49 (by decide) ?_
          show lm_W _ _ _ _ [.int 0] _ _
          refine ls_if_eq_T 20 f_51_5 rfl (by decide) ?_
          refine ls_iconst 0 f_51_20 (by decide) ?_
          refine ls_zreturn f_51_21 rZ_51 (by decide) ?_
          show lm_W _ _ _ _ [.int 0] _ _
          refine ls_if_ne_T 35 f_125_25 rfl (by decide) ?_
          refine ls_aload_n f_125_28 rfl ?_
          refine ls_bipush (-2) f_125_29 (by decide) ?_
          refine ls_invV (a := 0) f_125_31 q_125_107 [.int (-2)] [] rfl (Nat.le_of_ble_eq_true rfl) hl S_0 ow_139 ?_
          refine ls_enter [some (.ref 0), some (.int (-2))] ml_139 (Nat.le_of_ble_eq_true rfl) rfl ?_
          refine ls_aload_n f_139_0 rfl ?_
          refine ls_iload_n f_139_1 rfl ?_
          refine ls_putI f_139_2 p_139_97 hl S_0 rfl ?_
          refine ls_aload_n f_139_5 rfl ?_
          refine ls_getR f_139_6 p_139_94 (lm_Lay_si hl _ _ _) S_0 F_0_14 ?_
          refine ls_iload_n f_139_9 rfl ?_
          refine ls_invS f_139_10 q_139_337 [.int (-2)] [.ref 75] rfl (Nat.le_of_ble_eq_true rfl) ?_
          refine ls_enter [some (.int (-2))] ml_141 (Nat.le_of_ble_eq_true rfl) rfl ?_
          refine ls_iload_n f_141_0 rfl ?_
          refine ls_table f_141_1 (by decide) ?_
          refine ls_swF (by decide) ?_
          refine ls_swF (by decide) ?_
          refine ls_swF (by decide) ?_
          refine ls_swT (by decide) ?_
          refine lm_tg_of (t := 38) rfl ?_
          refine ls_iconst 1 f_141_38 (by decide) ?_
          refine ls_ireturn f_141_39 rI_141 ?_
          show lm_W _ _ _ _ [.int 1, .ref 75] _ _
          refine ls_dup2 f_139_13 rfl rfl ?_
          refine ls_ialdC 1 f_139_14 (lm_Lay_si hl _ _ _) S_75 ⟨by decide, by decide, by decide⟩ ?_
          refine ls_top (lm_i h 75 1) rfl ?_
          refine ls_iconst 1 f_139_15 (by decide) ?_
          refine ls_iadd ((lm_i h 75 1) + 1) f_139_16 rfl ?_
          refine ls_iastC 1 f_139_17 (lm_Lay_si hl _ _ _) S_75 ⟨by decide, by decide, by decide⟩ ?_
          refine ls_iload_n f_139_18 rfl ?_
          refine ls_ireturn f_139_19 rI_139 ?_
          show lm_W _ _ _ _ [.int (-2)] _ _
          exact ls_ireturn f_125_34 rI_125 hyp
theorem e_126 {d : Nat} {h : lm_H} {K : Int64 → lm_H → Prop} (x1 : Int32) (hl : lm_Lay h) (hyp : (if x1 = (-1) then (lm_call (d + 1) 143 [.ref 0] h (lm_kV fun h1 => lm_call (d + 1) 1 [.ref 52, .ref 21, .ref 1] h1 (lm_kV fun h2 => (if x1 = (-1) then (lm_W (d + 1) 126 62 [some (.ref 0), none, some (.long 0), none, some (.int 0)] [] h2 (lm_kL K)) else (lm_call (d + 1) 5 [.ref 52, .ref 21, .int x1] h2 (lm_kL fun r4 h3 => K r4 h3)))))) else (if x1 < 0 then (K (-1000000) h) else (if x1 < (lm_i h 1 0) then (lm_call (d + 1) 143 [.ref 0] h (lm_kV fun h5 => lm_call (d + 1) 1 [.ref 52, .ref 21, .ref 1] h5 (lm_kV fun h6 => (if x1 = (-1) then (lm_W (d + 1) 126 62 [some (.ref 0), none, some (.long 0), none, some (.int 0)] [] h6 (lm_kL K)) else (lm_call (d + 1) 5 [.ref 52, .ref 21, .int x1] h6 (lm_kL fun r8 h7 => K r8 h7)))))) else (K (-1000000) h))))) : lm_call (d + 2) 126 [.ref 0, .int x1] h (lm_kL K) := by
  refine ls_enter [some (.ref 0), some (.int x1), none, none, none] ml_126 (Nat.le_of_ble_eq_true rfl) rfl ?_
  refine ls_iload_n f_126_0 rfl ?_
  refine ls_iconst (-1) f_126_1 (by decide) ?_
  refine ls_icmp_eq 20 f_126_2 rfl hyp (fun _ hyp => ?_) (fun _ hyp => ?_)
  · refine ls_aload_n f_126_20 rfl ?_
    refine ls_invV (a := 0) f_126_21 q_126_142 [] [] rfl (Nat.le_of_ble_eq_true rfl) hl S_0 ow_143 ?_
    refine ls_call hyp hl (fun _ h1 hl1 hyp => ?_)
    refine ls_retV hyp (fun hyp => ?_)
    refine ls_aload_n f_126_24 rfl ?_
    refine ls_getR f_126_25 p_126_76 hl1 S_0 F_0_10 ?_
    refine ls_aload_n f_126_28 rfl ?_
    refine ls_getR f_126_29 p_126_48 hl1 S_0 F_0_6 ?_
    refine ls_aload_n f_126_32 rfl ?_
    refine ls_getR f_126_33 p_126_12 hl1 S_0 F_0_0 ?_
    refine ls_invV (a := 52) f_126_36 q_126_282 [.ref 21, .ref 1] [] rfl (Nat.le_of_ble_eq_true rfl) hl1 S_52 ow_1 ?_
    refine ls_call hyp hl1 (fun _ h2 hl2 hyp => ?_)
    refine ls_retV hyp (fun hyp => ?_)
    refine ls_iload_n f_126_39 rfl ?_
    refine ls_iconst (-1) f_126_40 (by decide) ?_
    refine ls_icmp_eq 57 f_126_41 rfl hyp (fun _ hyp => ?_) (fun _ hyp => ?_)
    · refine ls_lconst 0 f_126_57 (by decide) ?_
      refine ls_lstore_n [some (.ref 0), some (.int x1), some (.long 0), none, none] f_126_58 (Nat.le_of_ble_eq_true rfl) rfl ?_
      refine ls_iconst 0 f_126_59 (by decide) ?_
      refine ls_istore [some (.ref 0), some (.int x1), some (.long 0), none, some (.int 0)] f_126_60 (Nat.le_of_ble_eq_true rfl) rfl ?_
      exact ls_mask [true, false, true, false, true] [some (.ref 0), none, some (.long 0), none, some (.int 0)] rfl hyp
    · refine ls_aload_n f_126_44 rfl ?_
      refine ls_getR f_126_45 p_126_76 hl2 S_0 F_0_10 ?_
      refine ls_aload_n f_126_48 rfl ?_
      refine ls_getR f_126_49 p_126_48 hl2 S_0 F_0_6 ?_
      refine ls_iload_n f_126_52 rfl ?_
      refine ls_invV (a := 52) f_126_53 q_126_286 [.ref 21, .int x1] [] rfl (Nat.le_of_ble_eq_true rfl) hl2 S_52 ow_5 ?_
      refine ls_call hyp hl2 (fun _ h3 hl3 hyp => ?_)
      refine ls_retL hyp (fun r4 hyp => ?_)
      exact ls_lreturn f_126_56 rZ_126 rfl hyp
  · refine ls_aload_n f_126_5 rfl ?_
    refine ls_getR f_126_6 p_126_12 hl S_0 F_0_0 ?_
    refine ls_iload_n f_126_9 rfl ?_
    refine ls_invV (a := 1) f_126_10 q_126_190 [.int x1] [] rfl (Nat.le_of_ble_eq_true rfl) hl S_1 ow_49 ?_
    refine ls_enter [some (.ref 1), some (.int x1)] ml_49 (Nat.le_of_ble_eq_true rfl) rfl ?_
    refine ls_iload_n f_49_0 rfl ?_
    refine ls_if_lt 16 f_49_1 rfl hyp (fun _ hyp => ?_) (fun _ hyp => ?_)
    · refine ls_iconst 0 f_49_16 (by decide) ?_
      refine ls_zreturn f_49_17 rZ_49 (by decide) ?_
      show lm_W _ _ _ _ [.int 0] _ _
      refine ls_if_ne_T 20 f_126_13 rfl (by decide) ?_
      refine ls_ldc2 f_126_16 k_126_280 ?_
      exact ls_lreturn f_126_19 rZ_126 rfl hyp
    · refine ls_iload_n f_49_4 rfl ?_
      refine ls_aload_n f_49_5 rfl ?_
      refine ls_getI f_49_6 p_49_9 hl S_1 ?_
      refine ls_icmp_ge 16 f_49_9 rfl hyp (fun _ hyp => ?_) (fun _ hyp => ?_)
      · refine ls_iconst 1 f_49_12 (by decide) ?_
        refine ls_goto 17 f_49_13 rfl ?_
        refine ls_zreturn f_49_17 rZ_49 (by decide) ?_
        show lm_W _ _ _ _ [.int 1] _ _
        refine ls_if_ne_F 20 f_126_13 rfl (by decide) ?_
        refine ls_aload_n f_126_20 rfl ?_
        refine ls_invV (a := 0) f_126_21 q_126_142 [] [] rfl (Nat.le_of_ble_eq_true rfl) hl S_0 ow_143 ?_
        refine ls_call hyp hl (fun _ h5 hl5 hyp => ?_)
        refine ls_retV hyp (fun hyp => ?_)
        refine ls_aload_n f_126_24 rfl ?_
        refine ls_getR f_126_25 p_126_76 hl5 S_0 F_0_10 ?_
        refine ls_aload_n f_126_28 rfl ?_
        refine ls_getR f_126_29 p_126_48 hl5 S_0 F_0_6 ?_
        refine ls_aload_n f_126_32 rfl ?_
        refine ls_getR f_126_33 p_126_12 hl5 S_0 F_0_0 ?_
        refine ls_invV (a := 52) f_126_36 q_126_282 [.ref 21, .ref 1] [] rfl (Nat.le_of_ble_eq_true rfl) hl5 S_52 ow_1 ?_
        refine ls_call hyp hl5 (fun _ h6 hl6 hyp => ?_)
        refine ls_retV hyp (fun hyp => ?_)
        refine ls_iload_n f_126_39 rfl ?_
        refine ls_iconst (-1) f_126_40 (by decide) ?_
        refine ls_icmp_eq 57 f_126_41 rfl hyp (fun _ hyp => ?_) (fun _ hyp => ?_)
        · refine ls_lconst 0 f_126_57 (by decide) ?_
          refine ls_lstore_n [some (.ref 0), some (.int x1), some (.long 0), none, none] f_126_58 (Nat.le_of_ble_eq_true rfl) rfl ?_
          refine ls_iconst 0 f_126_59 (by decide) ?_
          refine ls_istore [some (.ref 0), some (.int x1), some (.long 0), none, some (.int 0)] f_126_60 (Nat.le_of_ble_eq_true rfl) rfl ?_
          exact ls_mask [true, false, true, false, true] [some (.ref 0), none, some (.long 0), none, some (.int 0)] rfl hyp
        · refine ls_aload_n f_126_44 rfl ?_
          refine ls_getR f_126_45 p_126_76 hl6 S_0 F_0_10 ?_
          refine ls_aload_n f_126_48 rfl ?_
          refine ls_getR f_126_49 p_126_48 hl6 S_0 F_0_6 ?_
          refine ls_iload_n f_126_52 rfl ?_
          refine ls_invV (a := 52) f_126_53 q_126_286 [.ref 21, .int x1] [] rfl (Nat.le_of_ble_eq_true rfl) hl6 S_52 ow_5 ?_
          refine ls_call hyp hl6 (fun _ h7 hl7 hyp => ?_)
          refine ls_retL hyp (fun r8 hyp => ?_)
          exact ls_lreturn f_126_56 rZ_126 rfl hyp
      · refine ls_iconst 0 f_49_16 (by decide) ?_
        refine ls_zreturn f_49_17 rZ_49 (by decide) ?_
        show lm_W _ _ _ _ [.int 0] _ _
        refine ls_if_ne_T 20 f_126_13 rfl (by decide) ?_
        refine ls_ldc2 f_126_16 k_126_280 ?_
        exact ls_lreturn f_126_19 rZ_126 rfl hyp
theorem b_126_62 {d : Nat} {h : lm_H} {K : Int64 → lm_H → Prop} (x2 : Int64) (x4 : Int32) (hl : lm_Lay h) (hyp : (if x4 < (lm_i h 1 0) then (lm_call (d + 1) 5 [.ref 52, .ref 21, .int x4] h (lm_kL fun r2 h1 => lm_W (d + 1) 126 62 [some (.ref 0), none, some (.long (x2 + r2)), none, some (.int (x4 + 1))] [] h1 (lm_kL K))) else (K x2 h))) : lm_W (d + 1) 126 62 [some (.ref 0), none, some (.long x2), none, some (.int x4)] [] h (lm_kL K) := by
  refine ls_iload f_126_62 rfl ?_
  refine ls_aload_n f_126_64 rfl ?_
  refine ls_getR f_126_65 p_126_12 hl S_0 F_0_0 ?_
  refine ls_getI f_126_68 p_126_111 hl S_1 ?_
  refine ls_icmp_ge 96 f_126_71 rfl hyp (fun _ hyp => ?_) (fun _ hyp => ?_)
  · refine ls_lload_n f_126_74 rfl ?_
    refine ls_aload_n f_126_75 rfl ?_
    refine ls_getR f_126_76 p_126_76 hl S_0 F_0_10 ?_
    refine ls_aload_n f_126_79 rfl ?_
    refine ls_getR f_126_80 p_126_48 hl S_0 F_0_6 ?_
    refine ls_iload f_126_83 rfl ?_
    refine ls_invV (a := 52) f_126_85 q_126_286 [.ref 21, .int x4] [.long x2] rfl (Nat.le_of_ble_eq_true rfl) hl S_52 ow_5 ?_
    refine ls_call hyp hl (fun _ h1 hl1 hyp => ?_)
    refine ls_retL hyp (fun r2 hyp => ?_)
    refine ls_ladd (x2 + r2) f_126_88 rfl ?_
    refine ls_lstore_n [some (.ref 0), none, some (.long (x2 + r2)), none, some (.int x4)] f_126_89 (Nat.le_of_ble_eq_true rfl) rfl ?_
    refine ls_iinc (x4 + 1) [some (.ref 0), none, some (.long (x2 + r2)), none, some (.int (x4 + 1))] f_126_90 rfl (Nat.le_of_ble_eq_true rfl) rfl rfl ?_
    refine ls_goto 62 f_126_93 rfl ?_
    exact hyp
  · refine ls_lload_n f_126_96 rfl ?_
    exact ls_lreturn f_126_97 rZ_126 rfl hyp
theorem e_127 {d : Nat} {h : lm_H} {K : Int32 → lm_H → Prop} (hl : lm_Lay h) (hyp : lm_call (d) 143 [.ref 0] h (lm_kV fun h1 => lm_call (d) 1 [.ref 52, .ref 21, .ref 1] h1 (lm_kV fun h2 => lm_W (d) 127 21 [some (.ref 0), some (.int 0)] [] h2 (lm_kI K)))) : lm_call (d + 1) 127 [.ref 0] h (lm_kI K) := by
  refine ls_enter [some (.ref 0), none] ml_127 (Nat.le_of_ble_eq_true rfl) rfl ?_
  refine ls_aload_n f_127_0 rfl ?_
  refine ls_invV (a := 0) f_127_1 q_127_142 [] [] rfl (Nat.le_of_ble_eq_true rfl) hl S_0 ow_143 ?_
  refine ls_call hyp hl (fun _ h1 hl1 hyp => ?_)
  refine ls_retV hyp (fun hyp => ?_)
  refine ls_aload_n f_127_4 rfl ?_
  refine ls_getR f_127_5 p_127_76 hl1 S_0 F_0_10 ?_
  refine ls_aload_n f_127_8 rfl ?_
  refine ls_getR f_127_9 p_127_48 hl1 S_0 F_0_6 ?_
  refine ls_aload_n f_127_12 rfl ?_
  refine ls_getR f_127_13 p_127_12 hl1 S_0 F_0_0 ?_
  refine ls_invV (a := 52) f_127_16 q_127_282 [.ref 21, .ref 1] [] rfl (Nat.le_of_ble_eq_true rfl) hl1 S_52 ow_1 ?_
  refine ls_call hyp hl1 (fun _ h2 hl2 hyp => ?_)
  refine ls_retV hyp (fun hyp => ?_)
  refine ls_iconst 0 f_127_19 (by decide) ?_
  refine ls_istore_n [some (.ref 0), some (.int 0)] f_127_20 (Nat.le_of_ble_eq_true rfl) rfl ?_
  exact hyp
theorem b_127_21 {d : Nat} {h : lm_H} {K : Int32 → lm_H → Prop} (x1 : Int32) (hl : lm_Lay h) (hyp : (if x1 < (lm_i h 1 0) then (lm_call (d) 6 [.ref 52, .ref 21, .int x1] h (lm_kL fun r2 h1 => lm_call (d) 5 [.ref 52, .ref 21, .int x1] h1 (lm_kL fun r4 h3 => (if 0 < (lg_cmp r2 r4) then (K x1 h3) else (lm_W (d) 127 21 [some (.ref 0), some (.int (x1 + 1))] [] h3 (lm_kI K)))))) else (K (-1) h))) : lm_W (d) 127 21 [some (.ref 0), some (.int x1)] [] h (lm_kI K) := by
  refine ls_iload_n f_127_21 rfl ?_
  refine ls_aload_n f_127_22 rfl ?_
  refine ls_getR f_127_23 p_127_12 hl S_0 F_0_0 ?_
  refine ls_getI f_127_26 p_127_111 hl S_1 ?_
  refine ls_icmp_ge 68 f_127_29 rfl hyp (fun _ hyp => ?_) (fun _ hyp => ?_)
  · refine ls_aload_n f_127_32 rfl ?_
    refine ls_getR f_127_33 p_127_76 hl S_0 F_0_10 ?_
    refine ls_aload_n f_127_36 rfl ?_
    refine ls_getR f_127_37 p_127_48 hl S_0 F_0_6 ?_
    refine ls_iload_n f_127_40 rfl ?_
    refine ls_invV (a := 52) f_127_41 q_127_290 [.ref 21, .int x1] [] rfl (Nat.le_of_ble_eq_true rfl) hl S_52 ow_6 ?_
    refine ls_call hyp hl (fun _ h1 hl1 hyp => ?_)
    refine ls_retL hyp (fun r2 hyp => ?_)
    refine ls_aload_n f_127_44 rfl ?_
    refine ls_getR f_127_45 p_127_76 hl1 S_0 F_0_10 ?_
    refine ls_aload_n f_127_48 rfl ?_
    refine ls_getR f_127_49 p_127_48 hl1 S_0 F_0_6 ?_
    refine ls_iload_n f_127_52 rfl ?_
    refine ls_invV (a := 52) f_127_53 q_127_286 [.ref 21, .int x1] [.long r2] rfl (Nat.le_of_ble_eq_true rfl) hl1 S_52 ow_5 ?_
    refine ls_call hyp hl1 (fun _ h3 hl3 hyp => ?_)
    refine ls_retL hyp (fun r4 hyp => ?_)
    refine ls_lcmp f_127_56 ?_
    refine ls_if_le 62 f_127_57 rfl hyp (fun _ hyp => ?_) (fun _ hyp => ?_)
    · refine ls_iload_n f_127_60 rfl ?_
      exact ls_ireturn f_127_61 rI_127 hyp
    · refine ls_iinc (x1 + 1) [some (.ref 0), some (.int (x1 + 1))] f_127_62 rfl (Nat.le_of_ble_eq_true rfl) rfl rfl ?_
      refine ls_goto 21 f_127_65 rfl ?_
      exact hyp
  · refine ls_iconst (-1) f_127_68 (by decide) ?_
    exact ls_ireturn f_127_69 rI_127 hyp
theorem e_128 {d : Nat} {h : lm_H} {K : Int64 → lm_H → Prop} (x1 : Int32) (hl : lm_Lay h) (hyp : (if x1 = 0 then (lm_call (d) 143 [.ref 0] h (lm_kV fun h1 => lm_call (d) 7 [.ref 52, .ref 21] h1 (lm_kV fun h2 => (if x1 = 0 then (lm_call (d) 11 [.ref 52, .ref 21] h2 (lm_kL fun r4 h3 => K r4 h3)) else (lm_call (d) 12 [.ref 52] h2 (lm_kI fun r6 h5 => K r6.toInt64 h5)))))) else (if x1 = 1 then (lm_call (d) 143 [.ref 0] h (lm_kV fun h7 => lm_call (d) 7 [.ref 52, .ref 21] h7 (lm_kV fun h8 => (if x1 = 0 then (lm_call (d) 11 [.ref 52, .ref 21] h8 (lm_kL fun r10 h9 => K r10 h9)) else (lm_call (d) 12 [.ref 52] h8 (lm_kI fun r12 h11 => K r12.toInt64 h11)))))) else (K (-1000000) h)))) : lm_call (d + 1) 128 [.ref 0, .int x1] h (lm_kL K) := by
  refine ls_enter [some (.ref 0), some (.int x1)] ml_128 (Nat.le_of_ble_eq_true rfl) rfl ?_
  refine ls_iload_n f_128_0 rfl ?_
  refine ls_if_eq 13 f_128_1 rfl hyp (fun _ hyp => ?_) (fun _ hyp => ?_)
  · refine ls_aload_n f_128_13 rfl ?_
    refine ls_invV (a := 0) f_128_14 q_128_142 [] [] rfl (Nat.le_of_ble_eq_true rfl) hl S_0 ow_143 ?_
    refine ls_call hyp hl (fun _ h1 hl1 hyp => ?_)
    refine ls_retV hyp (fun hyp => ?_)
    refine ls_aload_n f_128_17 rfl ?_
    refine ls_getR f_128_18 p_128_76 hl1 S_0 F_0_10 ?_
    refine ls_aload_n f_128_21 rfl ?_
    refine ls_getR f_128_22 p_128_48 hl1 S_0 F_0_6 ?_
    refine ls_invV (a := 52) f_128_25 q_128_293 [.ref 21] [] rfl (Nat.le_of_ble_eq_true rfl) hl1 S_52 ow_7 ?_
    refine ls_call hyp hl1 (fun _ h2 hl2 hyp => ?_)
    refine ls_retV hyp (fun hyp => ?_)
    refine ls_iload_n f_128_28 rfl ?_
    refine ls_if_ne 46 f_128_29 rfl hyp (fun _ hyp => ?_) (fun _ hyp => ?_)
    · refine ls_aload_n f_128_32 rfl ?_
      refine ls_getR f_128_33 p_128_76 hl2 S_0 F_0_10 ?_
      refine ls_aload_n f_128_36 rfl ?_
      refine ls_getR f_128_37 p_128_48 hl2 S_0 F_0_6 ?_
      refine ls_invV (a := 52) f_128_40 q_128_297 [.ref 21] [] rfl (Nat.le_of_ble_eq_true rfl) hl2 S_52 ow_11 ?_
      refine ls_call hyp hl2 (fun _ h3 hl3 hyp => ?_)
      refine ls_retL hyp (fun r4 hyp => ?_)
      refine ls_goto 54 f_128_43 rfl ?_
      exact ls_lreturn f_128_54 rZ_128 rfl hyp
    · refine ls_aload_n f_128_46 rfl ?_
      refine ls_getR f_128_47 p_128_76 hl2 S_0 F_0_10 ?_
      refine ls_invV (a := 52) f_128_50 q_128_301 [] [] rfl (Nat.le_of_ble_eq_true rfl) hl2 S_52 ow_12 ?_
      refine ls_call hyp hl2 (fun _ h5 hl5 hyp => ?_)
      refine ls_retI hyp (fun r6 hyp => ?_)
      refine ls_i2l r6.toInt64 f_128_53 rfl ?_
      exact ls_lreturn f_128_54 rZ_128 rfl hyp
  · refine ls_iload_n f_128_4 rfl ?_
    refine ls_iconst 1 f_128_5 (by decide) ?_
    refine ls_icmp_eq 13 f_128_6 rfl hyp (fun _ hyp => ?_) (fun _ hyp => ?_)
    · refine ls_aload_n f_128_13 rfl ?_
      refine ls_invV (a := 0) f_128_14 q_128_142 [] [] rfl (Nat.le_of_ble_eq_true rfl) hl S_0 ow_143 ?_
      refine ls_call hyp hl (fun _ h7 hl7 hyp => ?_)
      refine ls_retV hyp (fun hyp => ?_)
      refine ls_aload_n f_128_17 rfl ?_
      refine ls_getR f_128_18 p_128_76 hl7 S_0 F_0_10 ?_
      refine ls_aload_n f_128_21 rfl ?_
      refine ls_getR f_128_22 p_128_48 hl7 S_0 F_0_6 ?_
      refine ls_invV (a := 52) f_128_25 q_128_293 [.ref 21] [] rfl (Nat.le_of_ble_eq_true rfl) hl7 S_52 ow_7 ?_
      refine ls_call hyp hl7 (fun _ h8 hl8 hyp => ?_)
      refine ls_retV hyp (fun hyp => ?_)
      refine ls_iload_n f_128_28 rfl ?_
      refine ls_if_ne 46 f_128_29 rfl hyp (fun _ hyp => ?_) (fun _ hyp => ?_)
      · refine ls_aload_n f_128_32 rfl ?_
        refine ls_getR f_128_33 p_128_76 hl8 S_0 F_0_10 ?_
        refine ls_aload_n f_128_36 rfl ?_
        refine ls_getR f_128_37 p_128_48 hl8 S_0 F_0_6 ?_
        refine ls_invV (a := 52) f_128_40 q_128_297 [.ref 21] [] rfl (Nat.le_of_ble_eq_true rfl) hl8 S_52 ow_11 ?_
        refine ls_call hyp hl8 (fun _ h9 hl9 hyp => ?_)
        refine ls_retL hyp (fun r10 hyp => ?_)
        refine ls_goto 54 f_128_43 rfl ?_
        exact ls_lreturn f_128_54 rZ_128 rfl hyp
      · refine ls_aload_n f_128_46 rfl ?_
        refine ls_getR f_128_47 p_128_76 hl8 S_0 F_0_10 ?_
        refine ls_invV (a := 52) f_128_50 q_128_301 [] [] rfl (Nat.le_of_ble_eq_true rfl) hl8 S_52 ow_12 ?_
        refine ls_call hyp hl8 (fun _ h11 hl11 hyp => ?_)
        refine ls_retI hyp (fun r12 hyp => ?_)
        refine ls_i2l r12.toInt64 f_128_53 rfl ?_
        exact ls_lreturn f_128_54 rZ_128 rfl hyp
    · refine ls_ldc2 f_128_9 k_128_280 ?_
      exact ls_lreturn f_128_12 rZ_128 rfl hyp
theorem e_129 {d : Nat} {h : lm_H} {K : Int32 → lm_H → Prop} (x1 : Int32) (hl : lm_Lay h) (hyp : (if x1 < 0 then (K (-1) h) else (if x1 < (lm_i h 1 1) then (lm_call (d + 1) 143 [.ref 0] h (lm_kV fun h1 => lm_call (d + 1) 7 [.ref 52, .ref 21] h1 (lm_kV fun h2 => lm_call (d + 1) 13 [.ref 52, .ref 21, .int x1] h2 (lm_kI fun r4 h3 => K r4 h3)))) else (K (-1) h)))) : lm_call (d + 2) 129 [.ref 0, .int x1] h (lm_kI K) := by
  refine ls_enter [some (.ref 0), some (.int x1)] ml_129 (Nat.le_of_ble_eq_true rfl) rfl ?_
  refine ls_aload_n f_129_0 rfl ?_
  refine ls_getR f_129_1 p_129_12 hl S_0 F_0_0 ?_
  refine ls_iload_n f_129_4 rfl ?_
  refine ls_invV (a := 1) f_129_5 q_129_193 [.int x1] [] rfl (Nat.le_of_ble_eq_true rfl) hl S_1 ow_50 ?_
  refine ls_enter [some (.ref 1), some (.int x1)] ml_50 (Nat.le_of_ble_eq_true rfl) rfl ?_
  refine ls_iload_n f_50_0 rfl ?_
  refine ls_if_lt 16 f_50_1 rfl hyp (fun _ hyp => ?_) (fun _ hyp => ?_)
  · refine ls_iconst 0 f_50_16 (by decide) ?_
    refine ls_zreturn f_50_17 rZ_50 (by decide) ?_
    show lm_W _ _ _ _ [.int 0] _ _
    refine ls_if_ne_T 13 f_129_8 rfl (by decide) ?_
    refine ls_iconst (-1) f_129_11 (by decide) ?_
    exact ls_ireturn f_129_12 rI_129 hyp
  · refine ls_iload_n f_50_4 rfl ?_
    refine ls_aload_n f_50_5 rfl ?_
    refine ls_getI f_50_6 p_50_15 hl S_1 ?_
    refine ls_icmp_ge 16 f_50_9 rfl hyp (fun _ hyp => ?_) (fun _ hyp => ?_)
    · refine ls_iconst 1 f_50_12 (by decide) ?_
      refine ls_goto 17 f_50_13 rfl ?_
      refine ls_zreturn f_50_17 rZ_50 (by decide) ?_
      show lm_W _ _ _ _ [.int 1] _ _
      refine ls_if_ne_F 13 f_129_8 rfl (by decide) ?_
      refine ls_aload_n f_129_13 rfl ?_
      refine ls_invV (a := 0) f_129_14 q_129_142 [] [] rfl (Nat.le_of_ble_eq_true rfl) hl S_0 ow_143 ?_
      refine ls_call hyp hl (fun _ h1 hl1 hyp => ?_)
      refine ls_retV hyp (fun hyp => ?_)
      refine ls_aload_n f_129_17 rfl ?_
      refine ls_getR f_129_18 p_129_76 hl1 S_0 F_0_10 ?_
      refine ls_aload_n f_129_21 rfl ?_
      refine ls_getR f_129_22 p_129_48 hl1 S_0 F_0_6 ?_
      refine ls_invV (a := 52) f_129_25 q_129_293 [.ref 21] [] rfl (Nat.le_of_ble_eq_true rfl) hl1 S_52 ow_7 ?_
      refine ls_call hyp hl1 (fun _ h2 hl2 hyp => ?_)
      refine ls_retV hyp (fun hyp => ?_)
      refine ls_aload_n f_129_28 rfl ?_
      refine ls_getR f_129_29 p_129_76 hl2 S_0 F_0_10 ?_
      refine ls_aload_n f_129_32 rfl ?_
      refine ls_getR f_129_33 p_129_48 hl2 S_0 F_0_6 ?_
      refine ls_iload_n f_129_36 rfl ?_
      refine ls_invV (a := 52) f_129_37 q_129_305 [.ref 21, .int x1] [] rfl (Nat.le_of_ble_eq_true rfl) hl2 S_52 ow_13 ?_
      refine ls_call hyp hl2 (fun _ h3 hl3 hyp => ?_)
      refine ls_retI hyp (fun r4 hyp => ?_)
      exact ls_ireturn f_129_40 rI_129 hyp
    · refine ls_iconst 0 f_50_16 (by decide) ?_
      refine ls_zreturn f_50_17 rZ_50 (by decide) ?_
      show lm_W _ _ _ _ [.int 0] _ _
      refine ls_if_ne_T 13 f_129_8 rfl (by decide) ?_
      refine ls_iconst (-1) f_129_11 (by decide) ?_
      exact ls_ireturn f_129_12 rI_129 hyp
theorem e_130 {d : Nat} {h : lm_H} {K : Int32 → lm_H → Prop} (x1 : Int32) (x2 : Int32) (hl : lm_Lay h) (hyp : (if x2 < 0 then (K (-1) (lm_si (lm_si h 0 15 (-1)) 75 0 ((lm_i h 75 0) + 1))) else (if x2 < 6 then (if x1 < 0 then (K (-2) (lm_si (lm_si h 0 15 (-2)) 75 1 ((lm_i h 75 1) + 1))) else (if x1 < (lm_i h 1 0) then (lm_in x1 5 False (lm_in x1 5 False (K (lm_i h 7 x1.toNatClampNeg) (lm_si (lm_si h 7 x1.toNatClampNeg x2) 0 15 0)))) else (K (-2) (lm_si (lm_si h 0 15 (-2)) 75 1 ((lm_i h 75 1) + 1))))) else (K (-1) (lm_si (lm_si h 0 15 (-1)) 75 0 ((lm_i h 75 0) + 1)))))) : lm_call (d + 3) 130 [.ref 0, .int x1, .int x2] h (lm_kI K) := by
  refine ls_enter [some (.ref 0), some (.int x1), some (.int x2), none] ml_130 (Nat.le_of_ble_eq_true rfl) rfl ?_
  refine ls_iload_n f_130_0 rfl ?_
  refine ls_if_lt 10 f_130_1 rfl hyp (fun _ hyp => ?_) (fun _ hyp => ?_)
  · refine ls_aload_n f_130_10 rfl ?_
    refine ls_iconst (-1) f_130_11 (by decide) ?_
    refine ls_invV (a := 0) f_130_12 q_130_107 [.int (-1)] [] rfl (Nat.le_of_ble_eq_true rfl) hl S_0 ow_139 ?_
    refine ls_enter [some (.ref 0), some (.int (-1))] ml_139 (Nat.le_of_ble_eq_true rfl) rfl ?_
    refine ls_aload_n f_139_0 rfl ?_
    refine ls_iload_n f_139_1 rfl ?_
    refine ls_putI f_139_2 p_139_97 hl S_0 rfl ?_
    refine ls_aload_n f_139_5 rfl ?_
    refine ls_getR f_139_6 p_139_94 (lm_Lay_si hl _ _ _) S_0 F_0_14 ?_
    refine ls_iload_n f_139_9 rfl ?_
    refine ls_invS f_139_10 q_139_337 [.int (-1)] [.ref 75] rfl (Nat.le_of_ble_eq_true rfl) ?_
    refine ls_enter [some (.int (-1))] ml_141 (Nat.le_of_ble_eq_true rfl) rfl ?_
    refine ls_iload_n f_141_0 rfl ?_
    refine ls_table f_141_1 (by decide) ?_
    refine ls_swF (by decide) ?_
    refine ls_swF (by decide) ?_
    refine ls_swF (by decide) ?_
    refine ls_swF (by decide) ?_
    refine ls_swT (by decide) ?_
    refine lm_tg_of (t := 36) rfl ?_
    refine ls_iconst 0 f_141_36 (by decide) ?_
    refine ls_ireturn f_141_37 rI_141 ?_
    show lm_W _ _ _ _ [.int 0, .ref 75] _ _
    refine ls_dup2 f_139_13 rfl rfl ?_
    refine ls_ialdC 0 f_139_14 (lm_Lay_si hl _ _ _) S_75 ⟨by decide, by decide, by decide⟩ ?_
    refine ls_top (lm_i h 75 0) rfl ?_
    refine ls_iconst 1 f_139_15 (by decide) ?_
    refine ls_iadd ((lm_i h 75 0) + 1) f_139_16 rfl ?_
    refine ls_iastC 0 f_139_17 (lm_Lay_si hl _ _ _) S_75 ⟨by decide, by decide, by decide⟩ ?_
    refine ls_iload_n f_139_18 rfl ?_
    refine ls_ireturn f_139_19 rI_139 ?_
    show lm_W _ _ _ _ [.int (-1)] _ _
    exact ls_ireturn f_130_15 rI_130 hyp
  · refine ls_iload_n f_130_4 rfl ?_
    refine ls_bipush 6 f_130_5 (by decide) ?_
    refine ls_icmp_lt 16 f_130_7 rfl hyp (fun _ hyp => ?_) (fun _ hyp => ?_)
    · refine ls_aload_n f_130_16 rfl ?_
      refine ls_getR f_130_17 p_130_12 hl S_0 F_0_0 ?_
      refine ls_iload_n f_130_20 rfl ?_
      refine ls_invV (a := 1) f_130_21 q_130_190 [.int x1] [] rfl (Nat.le_of_ble_eq_true rfl) hl S_1 ow_49 ?_
      refine ls_enter [some (.ref 1), some (.int x1)] ml_49 (Nat.le_of_ble_eq_true rfl) rfl ?_
      refine ls_iload_n f_49_0 rfl ?_
      refine ls_if_lt 16 f_49_1 rfl hyp (fun _ hyp => ?_) (fun _ hyp => ?_)
      · refine ls_iconst 0 f_49_16 (by decide) ?_
        refine ls_zreturn f_49_17 rZ_49 (by decide) ?_
        show lm_W _ _ _ _ [.int 0] _ _
        refine ls_if_ne_T 34 f_130_24 rfl (by decide) ?_
        refine ls_aload_n f_130_27 rfl ?_
        refine ls_bipush (-2) f_130_28 (by decide) ?_
        refine ls_invV (a := 0) f_130_30 q_130_107 [.int (-2)] [] rfl (Nat.le_of_ble_eq_true rfl) hl S_0 ow_139 ?_
        refine ls_enter [some (.ref 0), some (.int (-2))] ml_139 (Nat.le_of_ble_eq_true rfl) rfl ?_
        refine ls_aload_n f_139_0 rfl ?_
        refine ls_iload_n f_139_1 rfl ?_
        refine ls_putI f_139_2 p_139_97 hl S_0 rfl ?_
        refine ls_aload_n f_139_5 rfl ?_
        refine ls_getR f_139_6 p_139_94 (lm_Lay_si hl _ _ _) S_0 F_0_14 ?_
        refine ls_iload_n f_139_9 rfl ?_
        refine ls_invS f_139_10 q_139_337 [.int (-2)] [.ref 75] rfl (Nat.le_of_ble_eq_true rfl) ?_
        refine ls_enter [some (.int (-2))] ml_141 (Nat.le_of_ble_eq_true rfl) rfl ?_
        refine ls_iload_n f_141_0 rfl ?_
        refine ls_table f_141_1 (by decide) ?_
        refine ls_swF (by decide) ?_
        refine ls_swF (by decide) ?_
        refine ls_swF (by decide) ?_
        refine ls_swT (by decide) ?_
        refine lm_tg_of (t := 38) rfl ?_
        refine ls_iconst 1 f_141_38 (by decide) ?_
        refine ls_ireturn f_141_39 rI_141 ?_
        show lm_W _ _ _ _ [.int 1, .ref 75] _ _
        refine ls_dup2 f_139_13 rfl rfl ?_
        refine ls_ialdC 1 f_139_14 (lm_Lay_si hl _ _ _) S_75 ⟨by decide, by decide, by decide⟩ ?_
        refine ls_top (lm_i h 75 1) rfl ?_
        refine ls_iconst 1 f_139_15 (by decide) ?_
        refine ls_iadd ((lm_i h 75 1) + 1) f_139_16 rfl ?_
        refine ls_iastC 1 f_139_17 (lm_Lay_si hl _ _ _) S_75 ⟨by decide, by decide, by decide⟩ ?_
        refine ls_iload_n f_139_18 rfl ?_
        refine ls_ireturn f_139_19 rI_139 ?_
        show lm_W _ _ _ _ [.int (-2)] _ _
        exact ls_ireturn f_130_33 rI_130 hyp
      · refine ls_iload_n f_49_4 rfl ?_
        refine ls_aload_n f_49_5 rfl ?_
        refine ls_getI f_49_6 p_49_9 hl S_1 ?_
        refine ls_icmp_ge 16 f_49_9 rfl hyp (fun _ hyp => ?_) (fun _ hyp => ?_)
        · refine ls_iconst 1 f_49_12 (by decide) ?_
          refine ls_goto 17 f_49_13 rfl ?_
          refine ls_zreturn f_49_17 rZ_49 (by decide) ?_
          show lm_W _ _ _ _ [.int 1] _ _
          refine ls_if_ne_F 34 f_130_24 rfl (by decide) ?_
          refine ls_aload_n f_130_34 rfl ?_
          refine ls_getR f_130_35 p_130_12 hl S_0 F_0_0 ?_
          refine ls_getR f_130_38 p_130_309 hl S_1 F_1_11 ?_
          refine ls_iload_n f_130_41 rfl ?_
          refine ls_iald f_130_42 hl S_7 hyp (fun hyp => ?_)
          refine ls_istore_n [some (.ref 0), some (.int x1), some (.int x2), some (.int (lm_i h 7 x1.toNatClampNeg))] f_130_43 (Nat.le_of_ble_eq_true rfl) rfl ?_
          refine ls_aload_n f_130_44 rfl ?_
          refine ls_getR f_130_45 p_130_12 hl S_0 F_0_0 ?_
          refine ls_getR f_130_48 p_130_309 hl S_1 F_1_11 ?_
          refine ls_iload_n f_130_51 rfl ?_
          refine ls_iload_n f_130_52 rfl ?_
          refine ls_iast f_130_53 hl S_7 hyp (fun hyp => ?_)
          refine ls_aload_n f_130_54 rfl ?_
          refine ls_iload_n f_130_55 rfl ?_
          refine ls_invV (a := 0) f_130_56 q_130_117 [.int (lm_i h 7 x1.toNatClampNeg)] [] rfl (Nat.le_of_ble_eq_true rfl) (lm_Lay_si hl _ _ _) S_0 ow_140 ?_
          refine ls_enter [some (.ref 0), some (.int (lm_i h 7 x1.toNatClampNeg))] ml_140 (Nat.le_of_ble_eq_true rfl) rfl ?_
          refine ls_aload_n f_140_0 rfl ?_
          refine ls_iconst 0 f_140_1 (by decide) ?_
          refine ls_putI f_140_2 p_140_97 (lm_Lay_si hl _ _ _) S_0 rfl ?_
          refine ls_iload_n f_140_5 rfl ?_
          refine ls_ireturn f_140_6 rI_140 ?_
          show lm_W _ _ _ _ [.int (lm_i h 7 x1.toNatClampNeg)] _ _
          exact ls_ireturn f_130_59 rI_130 hyp
        · refine ls_iconst 0 f_49_16 (by decide) ?_
          refine ls_zreturn f_49_17 rZ_49 (by decide) ?_
          show lm_W _ _ _ _ [.int 0] _ _
          refine ls_if_ne_T 34 f_130_24 rfl (by decide) ?_
          refine ls_aload_n f_130_27 rfl ?_
          refine ls_bipush (-2) f_130_28 (by decide) ?_
          refine ls_invV (a := 0) f_130_30 q_130_107 [.int (-2)] [] rfl (Nat.le_of_ble_eq_true rfl) hl S_0 ow_139 ?_
          refine ls_enter [some (.ref 0), some (.int (-2))] ml_139 (Nat.le_of_ble_eq_true rfl) rfl ?_
          refine ls_aload_n f_139_0 rfl ?_
          refine ls_iload_n f_139_1 rfl ?_
          refine ls_putI f_139_2 p_139_97 hl S_0 rfl ?_
          refine ls_aload_n f_139_5 rfl ?_
          refine ls_getR f_139_6 p_139_94 (lm_Lay_si hl _ _ _) S_0 F_0_14 ?_
          refine ls_iload_n f_139_9 rfl ?_
          refine ls_invS f_139_10 q_139_337 [.int (-2)] [.ref 75] rfl (Nat.le_of_ble_eq_true rfl) ?_
          refine ls_enter [some (.int (-2))] ml_141 (Nat.le_of_ble_eq_true rfl) rfl ?_
          refine ls_iload_n f_141_0 rfl ?_
          refine ls_table f_141_1 (by decide) ?_
          refine ls_swF (by decide) ?_
          refine ls_swF (by decide) ?_
          refine ls_swF (by decide) ?_
          refine ls_swT (by decide) ?_
          refine lm_tg_of (t := 38) rfl ?_
          refine ls_iconst 1 f_141_38 (by decide) ?_
          refine ls_ireturn f_141_39 rI_141 ?_
          show lm_W _ _ _ _ [.int 1, .ref 75] _ _
          refine ls_dup2 f_139_13 rfl rfl ?_
          refine ls_ialdC 1 f_139_14 (lm_Lay_si hl _ _ _) S_75 ⟨by decide, by decide, by decide⟩ ?_
          refine ls_top (lm_i h 75 1) rfl ?_
          refine ls_iconst 1 f_139_15 (by decide) ?_
          refine ls_iadd ((lm_i h 75 1) + 1) f_139_16 rfl ?_
          refine ls_iastC 1 f_139_17 (lm_Lay_si hl _ _ _) S_75 ⟨by decide, by decide, by decide⟩ ?_
          refine ls_iload_n f_139_18 rfl ?_
          refine ls_ireturn f_139_19 rI_139 ?_
          show lm_W _ _ _ _ [.int (-2)] _ _
          exact ls_ireturn f_130_33 rI_130 hyp
    · refine ls_aload_n f_130_10 rfl ?_
      refine ls_iconst (-1) f_130_11 (by decide) ?_
      refine ls_invV (a := 0) f_130_12 q_130_107 [.int (-1)] [] rfl (Nat.le_of_ble_eq_true rfl) hl S_0 ow_139 ?_
      refine ls_enter [some (.ref 0), some (.int (-1))] ml_139 (Nat.le_of_ble_eq_true rfl) rfl ?_
      refine ls_aload_n f_139_0 rfl ?_
      refine ls_iload_n f_139_1 rfl ?_
      refine ls_putI f_139_2 p_139_97 hl S_0 rfl ?_
      refine ls_aload_n f_139_5 rfl ?_
      refine ls_getR f_139_6 p_139_94 (lm_Lay_si hl _ _ _) S_0 F_0_14 ?_
      refine ls_iload_n f_139_9 rfl ?_
      refine ls_invS f_139_10 q_139_337 [.int (-1)] [.ref 75] rfl (Nat.le_of_ble_eq_true rfl) ?_
      refine ls_enter [some (.int (-1))] ml_141 (Nat.le_of_ble_eq_true rfl) rfl ?_
      refine ls_iload_n f_141_0 rfl ?_
      refine ls_table f_141_1 (by decide) ?_
      refine ls_swF (by decide) ?_
      refine ls_swF (by decide) ?_
      refine ls_swF (by decide) ?_
      refine ls_swF (by decide) ?_
      refine ls_swT (by decide) ?_
      refine lm_tg_of (t := 36) rfl ?_
      refine ls_iconst 0 f_141_36 (by decide) ?_
      refine ls_ireturn f_141_37 rI_141 ?_
      show lm_W _ _ _ _ [.int 0, .ref 75] _ _
      refine ls_dup2 f_139_13 rfl rfl ?_
      refine ls_ialdC 0 f_139_14 (lm_Lay_si hl _ _ _) S_75 ⟨by decide, by decide, by decide⟩ ?_
      refine ls_top (lm_i h 75 0) rfl ?_
      refine ls_iconst 1 f_139_15 (by decide) ?_
      refine ls_iadd ((lm_i h 75 0) + 1) f_139_16 rfl ?_
      refine ls_iastC 0 f_139_17 (lm_Lay_si hl _ _ _) S_75 ⟨by decide, by decide, by decide⟩ ?_
      refine ls_iload_n f_139_18 rfl ?_
      refine ls_ireturn f_139_19 rI_139 ?_
      show lm_W _ _ _ _ [.int (-1)] _ _
      exact ls_ireturn f_130_15 rI_130 hyp
theorem e_131 {d : Nat} {h : lm_H} {K : Int32 → lm_H → Prop} (x1 : Int32) (x2 : Int32) (hl : lm_Lay h) (hyp : (if x1 < 0 then (K (-1) (lm_si (lm_si h 0 15 (-1)) 75 0 ((lm_i h 75 0) + 1))) else (if 1000000 < x1 then (K (-1) (lm_si (lm_si h 0 15 (-1)) 75 0 ((lm_i h 75 0) + 1))) else (if x2 < 1 then (K (-1) (lm_si (lm_si h 0 15 (-1)) 75 0 ((lm_i h 75 0) + 1))) else (if 40 < x2 then (K (-1) (lm_si (lm_si h 0 15 (-1)) 75 0 ((lm_i h 75 0) + 1))) else (lm_call (d + 2) 86 [.ref 58, .ref 1, .ref 18, .int x1, .int x2] h (lm_kI fun r2 h1 => K r2 (lm_si h1 0 15 0)))))))) : lm_call (d + 3) 131 [.ref 0, .int x1, .int x2] h (lm_kI K) := by
  refine ls_enter [some (.ref 0), some (.int x1), some (.int x2)] ml_131 (Nat.le_of_ble_eq_true rfl) rfl ?_
  refine ls_iload_n f_131_0 rfl ?_
  refine ls_if_lt 22 f_131_1 rfl hyp (fun _ hyp => ?_) (fun _ hyp => ?_)
  · refine ls_aload_n f_131_22 rfl ?_
    refine ls_iconst (-1) f_131_23 (by decide) ?_
    refine ls_invV (a := 0) f_131_24 q_131_107 [.int (-1)] [] rfl (Nat.le_of_ble_eq_true rfl) hl S_0 ow_139 ?_
    refine ls_enter [some (.ref 0), some (.int (-1))] ml_139 (Nat.le_of_ble_eq_true rfl) rfl ?_
    refine ls_aload_n f_139_0 rfl ?_
    refine ls_iload_n f_139_1 rfl ?_
    refine ls_putI f_139_2 p_139_97 hl S_0 rfl ?_
    refine ls_aload_n f_139_5 rfl ?_
    refine ls_getR f_139_6 p_139_94 (lm_Lay_si hl _ _ _) S_0 F_0_14 ?_
    refine ls_iload_n f_139_9 rfl ?_
    refine ls_invS f_139_10 q_139_337 [.int (-1)] [.ref 75] rfl (Nat.le_of_ble_eq_true rfl) ?_
    refine ls_enter [some (.int (-1))] ml_141 (Nat.le_of_ble_eq_true rfl) rfl ?_
    refine ls_iload_n f_141_0 rfl ?_
    refine ls_table f_141_1 (by decide) ?_
    refine ls_swF (by decide) ?_
    refine ls_swF (by decide) ?_
    refine ls_swF (by decide) ?_
    refine ls_swF (by decide) ?_
    refine ls_swT (by decide) ?_
    refine lm_tg_of (t := 36) rfl ?_
    refine ls_iconst 0 f_141_36 (by decide) ?_
    refine ls_ireturn f_141_37 rI_141 ?_
    show lm_W _ _ _ _ [.int 0, .ref 75] _ _
    refine ls_dup2 f_139_13 rfl rfl ?_
    refine ls_ialdC 0 f_139_14 (lm_Lay_si hl _ _ _) S_75 ⟨by decide, by decide, by decide⟩ ?_
    refine ls_top (lm_i h 75 0) rfl ?_
    refine ls_iconst 1 f_139_15 (by decide) ?_
    refine ls_iadd ((lm_i h 75 0) + 1) f_139_16 rfl ?_
    refine ls_iastC 0 f_139_17 (lm_Lay_si hl _ _ _) S_75 ⟨by decide, by decide, by decide⟩ ?_
    refine ls_iload_n f_139_18 rfl ?_
    refine ls_ireturn f_139_19 rI_139 ?_
    show lm_W _ _ _ _ [.int (-1)] _ _
    exact ls_ireturn f_131_27 rI_131 hyp
  · refine ls_iload_n f_131_4 rfl ?_
    refine ls_ldcw f_131_5 k_131_312 ?_
    refine ls_icmp_gt 22 f_131_8 rfl hyp (fun _ hyp => ?_) (fun _ hyp => ?_)
    · refine ls_aload_n f_131_22 rfl ?_
      refine ls_iconst (-1) f_131_23 (by decide) ?_
      refine ls_invV (a := 0) f_131_24 q_131_107 [.int (-1)] [] rfl (Nat.le_of_ble_eq_true rfl) hl S_0 ow_139 ?_
      refine ls_enter [some (.ref 0), some (.int (-1))] ml_139 (Nat.le_of_ble_eq_true rfl) rfl ?_
      refine ls_aload_n f_139_0 rfl ?_
      refine ls_iload_n f_139_1 rfl ?_
      refine ls_putI f_139_2 p_139_97 hl S_0 rfl ?_
      refine ls_aload_n f_139_5 rfl ?_
      refine ls_getR f_139_6 p_139_94 (lm_Lay_si hl _ _ _) S_0 F_0_14 ?_
      refine ls_iload_n f_139_9 rfl ?_
      refine ls_invS f_139_10 q_139_337 [.int (-1)] [.ref 75] rfl (Nat.le_of_ble_eq_true rfl) ?_
      refine ls_enter [some (.int (-1))] ml_141 (Nat.le_of_ble_eq_true rfl) rfl ?_
      refine ls_iload_n f_141_0 rfl ?_
      refine ls_table f_141_1 (by decide) ?_
      refine ls_swF (by decide) ?_
      refine ls_swF (by decide) ?_
      refine ls_swF (by decide) ?_
      refine ls_swF (by decide) ?_
      refine ls_swT (by decide) ?_
      refine lm_tg_of (t := 36) rfl ?_
      refine ls_iconst 0 f_141_36 (by decide) ?_
      refine ls_ireturn f_141_37 rI_141 ?_
      show lm_W _ _ _ _ [.int 0, .ref 75] _ _
      refine ls_dup2 f_139_13 rfl rfl ?_
      refine ls_ialdC 0 f_139_14 (lm_Lay_si hl _ _ _) S_75 ⟨by decide, by decide, by decide⟩ ?_
      refine ls_top (lm_i h 75 0) rfl ?_
      refine ls_iconst 1 f_139_15 (by decide) ?_
      refine ls_iadd ((lm_i h 75 0) + 1) f_139_16 rfl ?_
      refine ls_iastC 0 f_139_17 (lm_Lay_si hl _ _ _) S_75 ⟨by decide, by decide, by decide⟩ ?_
      refine ls_iload_n f_139_18 rfl ?_
      refine ls_ireturn f_139_19 rI_139 ?_
      show lm_W _ _ _ _ [.int (-1)] _ _
      exact ls_ireturn f_131_27 rI_131 hyp
    · refine ls_iload_n f_131_11 rfl ?_
      refine ls_iconst 1 f_131_12 (by decide) ?_
      refine ls_icmp_lt 22 f_131_13 rfl hyp (fun _ hyp => ?_) (fun _ hyp => ?_)
      · refine ls_aload_n f_131_22 rfl ?_
        refine ls_iconst (-1) f_131_23 (by decide) ?_
        refine ls_invV (a := 0) f_131_24 q_131_107 [.int (-1)] [] rfl (Nat.le_of_ble_eq_true rfl) hl S_0 ow_139 ?_
        refine ls_enter [some (.ref 0), some (.int (-1))] ml_139 (Nat.le_of_ble_eq_true rfl) rfl ?_
        refine ls_aload_n f_139_0 rfl ?_
        refine ls_iload_n f_139_1 rfl ?_
        refine ls_putI f_139_2 p_139_97 hl S_0 rfl ?_
        refine ls_aload_n f_139_5 rfl ?_
        refine ls_getR f_139_6 p_139_94 (lm_Lay_si hl _ _ _) S_0 F_0_14 ?_
        refine ls_iload_n f_139_9 rfl ?_
        refine ls_invS f_139_10 q_139_337 [.int (-1)] [.ref 75] rfl (Nat.le_of_ble_eq_true rfl) ?_
        refine ls_enter [some (.int (-1))] ml_141 (Nat.le_of_ble_eq_true rfl) rfl ?_
        refine ls_iload_n f_141_0 rfl ?_
        refine ls_table f_141_1 (by decide) ?_
        refine ls_swF (by decide) ?_
        refine ls_swF (by decide) ?_
        refine ls_swF (by decide) ?_
        refine ls_swF (by decide) ?_
        refine ls_swT (by decide) ?_
        refine lm_tg_of (t := 36) rfl ?_
        refine ls_iconst 0 f_141_36 (by decide) ?_
        refine ls_ireturn f_141_37 rI_141 ?_
        show lm_W _ _ _ _ [.int 0, .ref 75] _ _
        refine ls_dup2 f_139_13 rfl rfl ?_
        refine ls_ialdC 0 f_139_14 (lm_Lay_si hl _ _ _) S_75 ⟨by decide, by decide, by decide⟩ ?_
        refine ls_top (lm_i h 75 0) rfl ?_
        refine ls_iconst 1 f_139_15 (by decide) ?_
        refine ls_iadd ((lm_i h 75 0) + 1) f_139_16 rfl ?_
        refine ls_iastC 0 f_139_17 (lm_Lay_si hl _ _ _) S_75 ⟨by decide, by decide, by decide⟩ ?_
        refine ls_iload_n f_139_18 rfl ?_
        refine ls_ireturn f_139_19 rI_139 ?_
        show lm_W _ _ _ _ [.int (-1)] _ _
        exact ls_ireturn f_131_27 rI_131 hyp
      · refine ls_iload_n f_131_16 rfl ?_
        refine ls_bipush 40 f_131_17 (by decide) ?_
        refine ls_icmp_le 28 f_131_19 rfl hyp (fun _ hyp => ?_) (fun _ hyp => ?_)
        · refine ls_aload_n f_131_22 rfl ?_
          refine ls_iconst (-1) f_131_23 (by decide) ?_
          refine ls_invV (a := 0) f_131_24 q_131_107 [.int (-1)] [] rfl (Nat.le_of_ble_eq_true rfl) hl S_0 ow_139 ?_
          refine ls_enter [some (.ref 0), some (.int (-1))] ml_139 (Nat.le_of_ble_eq_true rfl) rfl ?_
          refine ls_aload_n f_139_0 rfl ?_
          refine ls_iload_n f_139_1 rfl ?_
          refine ls_putI f_139_2 p_139_97 hl S_0 rfl ?_
          refine ls_aload_n f_139_5 rfl ?_
          refine ls_getR f_139_6 p_139_94 (lm_Lay_si hl _ _ _) S_0 F_0_14 ?_
          refine ls_iload_n f_139_9 rfl ?_
          refine ls_invS f_139_10 q_139_337 [.int (-1)] [.ref 75] rfl (Nat.le_of_ble_eq_true rfl) ?_
          refine ls_enter [some (.int (-1))] ml_141 (Nat.le_of_ble_eq_true rfl) rfl ?_
          refine ls_iload_n f_141_0 rfl ?_
          refine ls_table f_141_1 (by decide) ?_
          refine ls_swF (by decide) ?_
          refine ls_swF (by decide) ?_
          refine ls_swF (by decide) ?_
          refine ls_swF (by decide) ?_
          refine ls_swT (by decide) ?_
          refine lm_tg_of (t := 36) rfl ?_
          refine ls_iconst 0 f_141_36 (by decide) ?_
          refine ls_ireturn f_141_37 rI_141 ?_
          show lm_W _ _ _ _ [.int 0, .ref 75] _ _
          refine ls_dup2 f_139_13 rfl rfl ?_
          refine ls_ialdC 0 f_139_14 (lm_Lay_si hl _ _ _) S_75 ⟨by decide, by decide, by decide⟩ ?_
          refine ls_top (lm_i h 75 0) rfl ?_
          refine ls_iconst 1 f_139_15 (by decide) ?_
          refine ls_iadd ((lm_i h 75 0) + 1) f_139_16 rfl ?_
          refine ls_iastC 0 f_139_17 (lm_Lay_si hl _ _ _) S_75 ⟨by decide, by decide, by decide⟩ ?_
          refine ls_iload_n f_139_18 rfl ?_
          refine ls_ireturn f_139_19 rI_139 ?_
          show lm_W _ _ _ _ [.int (-1)] _ _
          exact ls_ireturn f_131_27 rI_131 hyp
        · refine ls_aload_n f_131_28 rfl ?_
          refine ls_aload_n f_131_29 rfl ?_
          refine ls_getR f_131_30 p_131_83 hl S_0 F_0_11 ?_
          refine ls_aload_n f_131_33 rfl ?_
          refine ls_getR f_131_34 p_131_12 hl S_0 F_0_0 ?_
          refine ls_aload_n f_131_37 rfl ?_
          refine ls_getR f_131_38 p_131_41 hl S_0 F_0_5 ?_
          refine ls_iload_n f_131_41 rfl ?_
          refine ls_iload_n f_131_42 rfl ?_
          refine ls_invV (a := 58) f_131_43 q_131_313 [.ref 1, .ref 18, .int x1, .int x2] [.ref 0] rfl (Nat.le_of_ble_eq_true rfl) hl S_58 ow_86 ?_
          refine ls_call hyp hl (fun _ h1 hl1 hyp => ?_)
          refine ls_retI hyp (fun r2 hyp => ?_)
          refine ls_invV (a := 0) f_131_46 q_131_117 [.int r2] [] rfl (Nat.le_of_ble_eq_true rfl) hl1 S_0 ow_140 ?_
          refine ls_enter [some (.ref 0), some (.int r2)] ml_140 (Nat.le_of_ble_eq_true rfl) rfl ?_
          refine ls_aload_n f_140_0 rfl ?_
          refine ls_iconst 0 f_140_1 (by decide) ?_
          refine ls_putI f_140_2 p_140_97 hl1 S_0 rfl ?_
          refine ls_iload_n f_140_5 rfl ?_
          refine ls_ireturn f_140_6 rI_140 ?_
          show lm_W _ _ _ _ [.int r2] _ _
          exact ls_ireturn f_131_49 rI_131 hyp
theorem e_132 {d : Nat} {h : lm_H} {K : Int32 → lm_H → Prop} (x1 : Int32) (x2 : Int32) (x3 : Int32) (hl : lm_Lay h) (hyp : (if x1 < 0 then (K (-1) h) else (if x1 < (lm_i h 58 4) then (if x2 < 0 then (K (-1) h) else (if x2 < (lm_i h 58 5) then (if x3 = 0 then (lm_in ((x1 * 5) + x2) 200 False (if (lm_i h 64 (((x1 * 5) + x2).toNatClampNeg)) = 6 then (K (-1) h) else (K (lm_i h 64 (((x1 * 5) + x2).toNatClampNeg)) h))) else (if x3 = 1 then (lm_in ((x1 * 5) + x2) 200 False (if (lm_i h 65 (((x1 * 5) + x2).toNatClampNeg)) = 6 then (K (-1) h) else (K (lm_i h 65 (((x1 * 5) + x2).toNatClampNeg)) h))) else (K (-1) h))) else (K (-1) h))) else (K (-1) h)))) : lm_call (d + 2) 132 [.ref 0, .int x1, .int x2, .int x3] h (lm_kI K) := by
  refine ls_enter [some (.ref 0), some (.int x1), some (.int x2), some (.int x3)] ml_132 (Nat.le_of_ble_eq_true rfl) rfl ?_
  refine ls_iload_n f_132_0 rfl ?_
  refine ls_if_lt 30 f_132_1 rfl hyp (fun _ hyp => ?_) (fun _ hyp => ?_)
  · refine ls_iconst (-1) f_132_30 (by decide) ?_
    exact ls_ireturn f_132_31 rI_132 hyp
  · refine ls_iload_n f_132_4 rfl ?_
    refine ls_aload_n f_132_5 rfl ?_
    refine ls_getR f_132_6 p_132_83 hl S_0 F_0_11 ?_
    refine ls_getI f_132_9 p_132_317 hl S_58 ?_
    refine ls_icmp_ge 30 f_132_12 rfl hyp (fun _ hyp => ?_) (fun _ hyp => ?_)
    · refine ls_iload_n f_132_15 rfl ?_
      refine ls_if_lt 30 f_132_16 rfl hyp (fun _ hyp => ?_) (fun _ hyp => ?_)
      · refine ls_iconst (-1) f_132_30 (by decide) ?_
        exact ls_ireturn f_132_31 rI_132 hyp
      · refine ls_iload_n f_132_19 rfl ?_
        refine ls_aload_n f_132_20 rfl ?_
        refine ls_getR f_132_21 p_132_83 hl S_0 F_0_11 ?_
        refine ls_getI f_132_24 p_132_320 hl S_58 ?_
        refine ls_icmp_lt 32 f_132_27 rfl hyp (fun _ hyp => ?_) (fun _ hyp => ?_)
        · refine ls_iload_n f_132_32 rfl ?_
          refine ls_if_ne 53 f_132_33 rfl hyp (fun _ hyp => ?_) (fun _ hyp => ?_)
          · refine ls_aload_n f_132_36 rfl ?_
            refine ls_getR f_132_37 p_132_83 hl S_0 F_0_11 ?_
            refine ls_getR f_132_40 p_132_321 hl S_58 F_58_1 ?_
            refine ls_iload_n f_132_43 rfl ?_
            refine ls_iconst 5 f_132_44 (by decide) ?_
            refine ls_imul (x1 * 5) f_132_45 rfl ?_
            refine ls_iload_n f_132_46 rfl ?_
            refine ls_iadd ((x1 * 5) + x2) f_132_47 rfl ?_
            refine ls_iald f_132_48 hl S_64 hyp (fun hyp => ?_)
            refine ls_invS f_132_49 q_132_199 [.int (lm_i h 64 (((x1 * 5) + x2).toNatClampNeg))] [] rfl (Nat.le_of_ble_eq_true rfl) ?_
            refine ls_enter [some (.int (lm_i h 64 (((x1 * 5) + x2).toNatClampNeg)))] ml_149 (Nat.le_of_ble_eq_true rfl) rfl ?_
            refine ls_iload_n f_149_0 rfl ?_
            refine ls_bipush 6 f_149_1 (by decide) ?_
            refine ls_icmp_ne 10 f_149_3 rfl hyp (fun _ hyp => ?_) (fun _ hyp => ?_)
            · refine ls_iconst (-1) f_149_6 (by decide) ?_
              refine ls_goto 11 f_149_7 rfl ?_
              refine ls_ireturn f_149_11 rI_149 ?_
              show lm_W _ _ _ _ [.int (-1)] _ _
              exact ls_ireturn f_132_52 rI_132 hyp
            · refine ls_iload_n f_149_10 rfl ?_
              refine ls_ireturn f_149_11 rI_149 ?_
              show lm_W _ _ _ _ [.int (lm_i h 64 (((x1 * 5) + x2).toNatClampNeg))] _ _
              exact ls_ireturn f_132_52 rI_132 hyp
          · refine ls_iload_n f_132_53 rfl ?_
            refine ls_iconst 1 f_132_54 (by decide) ?_
            refine ls_icmp_ne 77 f_132_55 rfl hyp (fun _ hyp => ?_) (fun _ hyp => ?_)
            · refine ls_aload_n f_132_58 rfl ?_
              refine ls_getR f_132_59 p_132_83 hl S_0 F_0_11 ?_
              refine ls_getR f_132_62 p_132_324 hl S_58 F_58_2 ?_
              refine ls_iload_n f_132_65 rfl ?_
              refine ls_iconst 5 f_132_66 (by decide) ?_
              refine ls_imul (x1 * 5) f_132_67 rfl ?_
              refine ls_iload_n f_132_68 rfl ?_
              refine ls_iadd ((x1 * 5) + x2) f_132_69 rfl ?_
              refine ls_iald f_132_70 hl S_65 hyp (fun hyp => ?_)
              refine ls_invS f_132_71 q_132_199 [.int (lm_i h 65 (((x1 * 5) + x2).toNatClampNeg))] [] rfl (Nat.le_of_ble_eq_true rfl) ?_
              refine ls_enter [some (.int (lm_i h 65 (((x1 * 5) + x2).toNatClampNeg)))] ml_149 (Nat.le_of_ble_eq_true rfl) rfl ?_
              refine ls_iload_n f_149_0 rfl ?_
              refine ls_bipush 6 f_149_1 (by decide) ?_
              refine ls_icmp_ne 10 f_149_3 rfl hyp (fun _ hyp => ?_) (fun _ hyp => ?_)
              · refine ls_iconst (-1) f_149_6 (by decide) ?_
                refine ls_goto 11 f_149_7 rfl ?_
                refine ls_ireturn f_149_11 rI_149 ?_
                show lm_W _ _ _ _ [.int (-1)] _ _
                refine ls_goto 78 f_132_74 rfl ?_
                exact ls_ireturn f_132_78 rI_132 hyp
              · refine ls_iload_n f_149_10 rfl ?_
                refine ls_ireturn f_149_11 rI_149 ?_
                show lm_W _ _ _ _ [.int (lm_i h 65 (((x1 * 5) + x2).toNatClampNeg))] _ _
                refine ls_goto 78 f_132_74 rfl ?_
                exact ls_ireturn f_132_78 rI_132 hyp
            · refine ls_iconst (-1) f_132_77 (by decide) ?_
              exact ls_ireturn f_132_78 rI_132 hyp
        · refine ls_iconst (-1) f_132_30 (by decide) ?_
          exact ls_ireturn f_132_31 rI_132 hyp
    · refine ls_iconst (-1) f_132_30 (by decide) ?_
      exact ls_ireturn f_132_31 rI_132 hyp
theorem e_133 {d : Nat} {h : lm_H} {K : Int32 → lm_H → Prop} (x1 : Int32) (hl : lm_Lay h) (hyp : (if x1 < 0 then (K (-1000000) h) else (if x1 < (lm_i h 58 5) then (lm_in x1 5 False (K (lm_i h 66 x1.toNatClampNeg) h)) else (K (-1000000) h)))) : lm_call (d + 1) 133 [.ref 0, .int x1] h (lm_kI K) := by
  refine ls_enter [some (.ref 0), some (.int x1)] ml_133 (Nat.le_of_ble_eq_true rfl) rfl ?_
  refine ls_iload_n f_133_0 rfl ?_
  refine ls_if_lt 15 f_133_1 rfl hyp (fun _ hyp => ?_) (fun _ hyp => ?_)
  · refine ls_ldc f_133_15 k_133_130 ?_
    exact ls_ireturn f_133_17 rI_133 hyp
  · refine ls_iload_n f_133_4 rfl ?_
    refine ls_aload_n f_133_5 rfl ?_
    refine ls_getR f_133_6 p_133_83 hl S_0 F_0_11 ?_
    refine ls_getI f_133_9 p_133_320 hl S_58 ?_
    refine ls_icmp_lt 18 f_133_12 rfl hyp (fun _ hyp => ?_) (fun _ hyp => ?_)
    · refine ls_aload_n f_133_18 rfl ?_
      refine ls_getR f_133_19 p_133_83 hl S_0 F_0_11 ?_
      refine ls_getR f_133_22 p_133_327 hl S_58 F_58_3 ?_
      refine ls_iload_n f_133_25 rfl ?_
      refine ls_iald f_133_26 hl S_66 hyp (fun hyp => ?_)
      exact ls_ireturn f_133_27 rI_133 hyp
    · refine ls_ldc f_133_15 k_133_130 ?_
      exact ls_ireturn f_133_17 rI_133 hyp
theorem e_134 {d : Nat} {h : lm_H} {K : Int32 → lm_H → Prop} (hl : lm_Lay h) (hyp : (if (lm_i h 58 4) = 0 then (K (-1) h) else (lm_W (d) 134 22 [some (.ref 0), some (.int ((lm_i h 58 4) - 1))] [] h (lm_kI K)))) : lm_call (d + 1) 134 [.ref 0] h (lm_kI K) := by
  refine ls_enter [some (.ref 0), none] ml_134 (Nat.le_of_ble_eq_true rfl) rfl ?_
  refine ls_aload_n f_134_0 rfl ?_
  refine ls_getR f_134_1 p_134_83 hl S_0 F_0_11 ?_
  refine ls_getI f_134_4 p_134_317 hl S_58 ?_
  refine ls_if_ne 12 f_134_7 rfl hyp (fun _ hyp => ?_) (fun _ hyp => ?_)
  · refine ls_iconst (-1) f_134_10 (by decide) ?_
    exact ls_ireturn f_134_11 rI_134 hyp
  · refine ls_aload_n f_134_12 rfl ?_
    refine ls_getR f_134_13 p_134_83 hl S_0 F_0_11 ?_
    refine ls_getI f_134_16 p_134_317 hl S_58 ?_
    refine ls_iconst 1 f_134_19 (by decide) ?_
    refine ls_isub ((lm_i h 58 4) - 1) f_134_20 rfl ?_
    refine ls_istore_n [some (.ref 0), some (.int ((lm_i h 58 4) - 1))] f_134_21 (Nat.le_of_ble_eq_true rfl) rfl ?_
    exact hyp
theorem b_134_22 {d : Nat} {h : lm_H} {K : Int32 → lm_H → Prop} (x1 : Int32) (hl : lm_Lay h) (hyp : (if 0 < x1 then (lm_call (d) 96 [.ref 58, .int (x1 - 1), .int x1] h (lm_kI fun r2 h1 => (if r2 = 0 then (K x1 h1) else (lm_W (d) 134 22 [some (.ref 0), some (.int (x1 - 1))] [] h1 (lm_kI K))))) else (K x1 h))) : lm_W (d) 134 22 [some (.ref 0), some (.int x1)] [] h (lm_kI K) := by
  refine ls_iload_n f_134_22 rfl ?_
  refine ls_if_le 46 f_134_23 rfl hyp (fun _ hyp => ?_) (fun _ hyp => ?_)
  · refine ls_aload_n f_134_26 rfl ?_
    refine ls_getR f_134_27 p_134_83 hl S_0 F_0_11 ?_
    refine ls_iload_n f_134_30 rfl ?_
    refine ls_iconst 1 f_134_31 (by decide) ?_
    refine ls_isub (x1 - 1) f_134_32 rfl ?_
    refine ls_iload_n f_134_33 rfl ?_
    refine ls_invV (a := 58) f_134_34 q_134_330 [.int (x1 - 1), .int x1] [] rfl (Nat.le_of_ble_eq_true rfl) hl S_58 ow_96 ?_
    refine ls_call hyp hl (fun _ h1 hl1 hyp => ?_)
    refine ls_retI hyp (fun r2 hyp => ?_)
    refine ls_if_eq 46 f_134_37 rfl hyp (fun _ hyp => ?_) (fun _ hyp => ?_)
    · refine ls_iload_n f_134_46 rfl ?_
      exact ls_ireturn f_134_47 rI_134 hyp
    · refine ls_iinc (x1 - 1) [some (.ref 0), some (.int (x1 - 1))] f_134_40 rfl (Nat.le_of_ble_eq_true rfl) (lm_m1 _) rfl ?_
      refine ls_goto 22 f_134_43 rfl ?_
      exact hyp
  · refine ls_iload_n f_134_46 rfl ?_
    exact ls_ireturn f_134_47 rI_134 hyp
theorem e_135 {d : Nat} {h : lm_H} {K : Int32 → lm_H → Prop} (x1 : Int32) (hl : lm_Lay h) (hyp : (if x1 < 0 then (K (-1) (lm_si (lm_si h 0 15 (-1)) 75 0 ((lm_i h 75 0) + 1))) else (if x1 < 2 then (if x1 = 0 then (lm_call (d + 2) 53 [.ref 76, .ref 1] h (lm_kV fun h1 => lm_in x1 2 False (K 0 (lm_si (lm_si h1 10 x1.toNatClampNeg 1) 0 15 0)))) else (if x1 = 1 then (lm_call (d + 2) 53 [.ref 84, .ref 1] h (lm_kV fun h2 => lm_in x1 2 False (K 0 (lm_si (lm_si h2 10 x1.toNatClampNeg 1) 0 15 0)))) else False)) else (K (-1) (lm_si (lm_si h 0 15 (-1)) 75 0 ((lm_i h 75 0) + 1)))))) : lm_call (d + 3) 135 [.ref 0, .int x1] h (lm_kI K) := by
  refine ls_enter [some (.ref 0), some (.int x1)] ml_135 (Nat.le_of_ble_eq_true rfl) rfl ?_
  refine ls_iload_n f_135_0 rfl ?_
  refine ls_if_lt 9 f_135_1 rfl hyp (fun _ hyp => ?_) (fun _ hyp => ?_)
  · refine ls_aload_n f_135_9 rfl ?_
    refine ls_iconst (-1) f_135_10 (by decide) ?_
    refine ls_invV (a := 0) f_135_11 q_135_107 [.int (-1)] [] rfl (Nat.le_of_ble_eq_true rfl) hl S_0 ow_139 ?_
    refine ls_enter [some (.ref 0), some (.int (-1))] ml_139 (Nat.le_of_ble_eq_true rfl) rfl ?_
    refine ls_aload_n f_139_0 rfl ?_
    refine ls_iload_n f_139_1 rfl ?_
    refine ls_putI f_139_2 p_139_97 hl S_0 rfl ?_
    refine ls_aload_n f_139_5 rfl ?_
    refine ls_getR f_139_6 p_139_94 (lm_Lay_si hl _ _ _) S_0 F_0_14 ?_
    refine ls_iload_n f_139_9 rfl ?_
    refine ls_invS f_139_10 q_139_337 [.int (-1)] [.ref 75] rfl (Nat.le_of_ble_eq_true rfl) ?_
    refine ls_enter [some (.int (-1))] ml_141 (Nat.le_of_ble_eq_true rfl) rfl ?_
    refine ls_iload_n f_141_0 rfl ?_
    refine ls_table f_141_1 (by decide) ?_
    refine ls_swF (by decide) ?_
    refine ls_swF (by decide) ?_
    refine ls_swF (by decide) ?_
    refine ls_swF (by decide) ?_
    refine ls_swT (by decide) ?_
    refine lm_tg_of (t := 36) rfl ?_
    refine ls_iconst 0 f_141_36 (by decide) ?_
    refine ls_ireturn f_141_37 rI_141 ?_
    show lm_W _ _ _ _ [.int 0, .ref 75] _ _
    refine ls_dup2 f_139_13 rfl rfl ?_
    refine ls_ialdC 0 f_139_14 (lm_Lay_si hl _ _ _) S_75 ⟨by decide, by decide, by decide⟩ ?_
    refine ls_top (lm_i h 75 0) rfl ?_
    refine ls_iconst 1 f_139_15 (by decide) ?_
    refine ls_iadd ((lm_i h 75 0) + 1) f_139_16 rfl ?_
    refine ls_iastC 0 f_139_17 (lm_Lay_si hl _ _ _) S_75 ⟨by decide, by decide, by decide⟩ ?_
    refine ls_iload_n f_139_18 rfl ?_
    refine ls_ireturn f_139_19 rI_139 ?_
    show lm_W _ _ _ _ [.int (-1)] _ _
    exact ls_ireturn f_135_14 rI_135 hyp
  · refine ls_iload_n f_135_4 rfl ?_
    refine ls_iconst 2 f_135_5 (by decide) ?_
    refine ls_icmp_lt 15 f_135_6 rfl hyp (fun _ hyp => ?_) (fun _ hyp => ?_)
    · refine ls_aload_n f_135_15 rfl ?_
      refine ls_getR f_135_16 p_135_16 hl S_0 F_0_1 ?_
      refine ls_iload_n f_135_19 rfl ?_
      refine ls_img f_135_20 hl hyp (fun _ hyp => ?_) (fun _ hyp => ?_)
      · refine ls_aload_n f_135_21 rfl ?_
        refine ls_getR f_135_22 p_135_12 hl S_0 F_0_0 ?_
        refine ls_invV (a := 76) f_135_25 q_135_333 [.ref 1] [] rfl (Nat.le_of_ble_eq_true rfl) hl S_76 ow_53 ?_
        refine ls_call hyp hl (fun _ h1 hl1 hyp => ?_)
        refine ls_retV hyp (fun hyp => ?_)
        refine ls_aload_n f_135_28 rfl ?_
        refine ls_getR f_135_29 p_135_20 hl1 S_0 F_0_2 ?_
        refine ls_iload_n f_135_32 rfl ?_
        refine ls_iconst 1 f_135_33 (by decide) ?_
        refine ls_zast f_135_34 hl1 S_10 hyp (fun hyp => ?_)
        refine ls_heap (lm_si h1 10 x1.toNatClampNeg 1) rfl ?_
        refine ls_aload_n f_135_35 rfl ?_
        refine ls_iconst 0 f_135_36 (by decide) ?_
        refine ls_invV (a := 0) f_135_37 q_135_117 [.int 0] [] rfl (Nat.le_of_ble_eq_true rfl) (lm_Lay_si hl1 _ _ _) S_0 ow_140 ?_
        refine ls_enter [some (.ref 0), some (.int 0)] ml_140 (Nat.le_of_ble_eq_true rfl) rfl ?_
        refine ls_aload_n f_140_0 rfl ?_
        refine ls_iconst 0 f_140_1 (by decide) ?_
        refine ls_putI f_140_2 p_140_97 (lm_Lay_si hl1 _ _ _) S_0 rfl ?_
        refine ls_iload_n f_140_5 rfl ?_
        refine ls_ireturn f_140_6 rI_140 ?_
        show lm_W _ _ _ _ [.int 0] _ _
        exact ls_ireturn f_135_40 rI_135 hyp
      · refine ls_aload_n f_135_21 rfl ?_
        refine ls_getR f_135_22 p_135_12 hl S_0 F_0_0 ?_
        refine ls_invV (a := 84) f_135_25 q_135_333 [.ref 1] [] rfl (Nat.le_of_ble_eq_true rfl) hl S_84 ow_53 ?_
        refine ls_call hyp hl (fun _ h2 hl2 hyp => ?_)
        refine ls_retV hyp (fun hyp => ?_)
        refine ls_aload_n f_135_28 rfl ?_
        refine ls_getR f_135_29 p_135_20 hl2 S_0 F_0_2 ?_
        refine ls_iload_n f_135_32 rfl ?_
        refine ls_iconst 1 f_135_33 (by decide) ?_
        refine ls_zast f_135_34 hl2 S_10 hyp (fun hyp => ?_)
        refine ls_heap (lm_si h2 10 x1.toNatClampNeg 1) rfl ?_
        refine ls_aload_n f_135_35 rfl ?_
        refine ls_iconst 0 f_135_36 (by decide) ?_
        refine ls_invV (a := 0) f_135_37 q_135_117 [.int 0] [] rfl (Nat.le_of_ble_eq_true rfl) (lm_Lay_si hl2 _ _ _) S_0 ow_140 ?_
        refine ls_enter [some (.ref 0), some (.int 0)] ml_140 (Nat.le_of_ble_eq_true rfl) rfl ?_
        refine ls_aload_n f_140_0 rfl ?_
        refine ls_iconst 0 f_140_1 (by decide) ?_
        refine ls_putI f_140_2 p_140_97 (lm_Lay_si hl2 _ _ _) S_0 rfl ?_
        refine ls_iload_n f_140_5 rfl ?_
        refine ls_ireturn f_140_6 rI_140 ?_
        show lm_W _ _ _ _ [.int 0] _ _
        exact ls_ireturn f_135_40 rI_135 hyp
    · refine ls_aload_n f_135_9 rfl ?_
      refine ls_iconst (-1) f_135_10 (by decide) ?_
      refine ls_invV (a := 0) f_135_11 q_135_107 [.int (-1)] [] rfl (Nat.le_of_ble_eq_true rfl) hl S_0 ow_139 ?_
      refine ls_enter [some (.ref 0), some (.int (-1))] ml_139 (Nat.le_of_ble_eq_true rfl) rfl ?_
      refine ls_aload_n f_139_0 rfl ?_
      refine ls_iload_n f_139_1 rfl ?_
      refine ls_putI f_139_2 p_139_97 hl S_0 rfl ?_
      refine ls_aload_n f_139_5 rfl ?_
      refine ls_getR f_139_6 p_139_94 (lm_Lay_si hl _ _ _) S_0 F_0_14 ?_
      refine ls_iload_n f_139_9 rfl ?_
      refine ls_invS f_139_10 q_139_337 [.int (-1)] [.ref 75] rfl (Nat.le_of_ble_eq_true rfl) ?_
      refine ls_enter [some (.int (-1))] ml_141 (Nat.le_of_ble_eq_true rfl) rfl ?_
      refine ls_iload_n f_141_0 rfl ?_
      refine ls_table f_141_1 (by decide) ?_
      refine ls_swF (by decide) ?_
      refine ls_swF (by decide) ?_
      refine ls_swF (by decide) ?_
      refine ls_swF (by decide) ?_
      refine ls_swT (by decide) ?_
      refine lm_tg_of (t := 36) rfl ?_
      refine ls_iconst 0 f_141_36 (by decide) ?_
      refine ls_ireturn f_141_37 rI_141 ?_
      show lm_W _ _ _ _ [.int 0, .ref 75] _ _
      refine ls_dup2 f_139_13 rfl rfl ?_
      refine ls_ialdC 0 f_139_14 (lm_Lay_si hl _ _ _) S_75 ⟨by decide, by decide, by decide⟩ ?_
      refine ls_top (lm_i h 75 0) rfl ?_
      refine ls_iconst 1 f_139_15 (by decide) ?_
      refine ls_iadd ((lm_i h 75 0) + 1) f_139_16 rfl ?_
      refine ls_iastC 0 f_139_17 (lm_Lay_si hl _ _ _) S_75 ⟨by decide, by decide, by decide⟩ ?_
      refine ls_iload_n f_139_18 rfl ?_
      refine ls_ireturn f_139_19 rI_139 ?_
      show lm_W _ _ _ _ [.int (-1)] _ _
      exact ls_ireturn f_135_14 rI_135 hyp
theorem e_136 {d : Nat} {h : lm_H} {K : Int32 → lm_H → Prop} (x1 : Int32) (hl : lm_Lay h) (hyp : (if x1 < 0 then (K (-1) (lm_si (lm_si h 0 15 (-1)) 75 0 ((lm_i h 75 0) + 1))) else (if x1 < 2 then (lm_in x1 2 False (if (lm_i h 10 x1.toNatClampNeg) = 0 then (K (-2) (lm_si (lm_si h 0 15 (-2)) 75 1 ((lm_i h 75 1) + 1))) else (if x1 = 0 then (lm_call (d + 2) 53 [.ref 1, .ref 76] h (lm_kV fun h1 => K 0 (lm_si h1 0 15 0))) else (if x1 = 1 then (lm_call (d + 2) 53 [.ref 1, .ref 84] h (lm_kV fun h2 => K 0 (lm_si h2 0 15 0))) else False)))) else (K (-1) (lm_si (lm_si h 0 15 (-1)) 75 0 ((lm_i h 75 0) + 1)))))) : lm_call (d + 3) 136 [.ref 0, .int x1] h (lm_kI K) := by
  refine ls_enter [some (.ref 0), some (.int x1)] ml_136 (Nat.le_of_ble_eq_true rfl) rfl ?_
  refine ls_iload_n f_136_0 rfl ?_
  refine ls_if_lt 9 f_136_1 rfl hyp (fun _ hyp => ?_) (fun _ hyp => ?_)
  · refine ls_aload_n f_136_9 rfl ?_
    refine ls_iconst (-1) f_136_10 (by decide) ?_
    refine ls_invV (a := 0) f_136_11 q_136_107 [.int (-1)] [] rfl (Nat.le_of_ble_eq_true rfl) hl S_0 ow_139 ?_
    refine ls_enter [some (.ref 0), some (.int (-1))] ml_139 (Nat.le_of_ble_eq_true rfl) rfl ?_
    refine ls_aload_n f_139_0 rfl ?_
    refine ls_iload_n f_139_1 rfl ?_
    refine ls_putI f_139_2 p_139_97 hl S_0 rfl ?_
    refine ls_aload_n f_139_5 rfl ?_
    refine ls_getR f_139_6 p_139_94 (lm_Lay_si hl _ _ _) S_0 F_0_14 ?_
    refine ls_iload_n f_139_9 rfl ?_
    refine ls_invS f_139_10 q_139_337 [.int (-1)] [.ref 75] rfl (Nat.le_of_ble_eq_true rfl) ?_
    refine ls_enter [some (.int (-1))] ml_141 (Nat.le_of_ble_eq_true rfl) rfl ?_
    refine ls_iload_n f_141_0 rfl ?_
    refine ls_table f_141_1 (by decide) ?_
    refine ls_swF (by decide) ?_
    refine ls_swF (by decide) ?_
    refine ls_swF (by decide) ?_
    refine ls_swF (by decide) ?_
    refine ls_swT (by decide) ?_
    refine lm_tg_of (t := 36) rfl ?_
    refine ls_iconst 0 f_141_36 (by decide) ?_
    refine ls_ireturn f_141_37 rI_141 ?_
    show lm_W _ _ _ _ [.int 0, .ref 75] _ _
    refine ls_dup2 f_139_13 rfl rfl ?_
    refine ls_ialdC 0 f_139_14 (lm_Lay_si hl _ _ _) S_75 ⟨by decide, by decide, by decide⟩ ?_
    refine ls_top (lm_i h 75 0) rfl ?_
    refine ls_iconst 1 f_139_15 (by decide) ?_
    refine ls_iadd ((lm_i h 75 0) + 1) f_139_16 rfl ?_
    refine ls_iastC 0 f_139_17 (lm_Lay_si hl _ _ _) S_75 ⟨by decide, by decide, by decide⟩ ?_
    refine ls_iload_n f_139_18 rfl ?_
    refine ls_ireturn f_139_19 rI_139 ?_
    show lm_W _ _ _ _ [.int (-1)] _ _
    exact ls_ireturn f_136_14 rI_136 hyp
  · refine ls_iload_n f_136_4 rfl ?_
    refine ls_iconst 2 f_136_5 (by decide) ?_
    refine ls_icmp_lt 15 f_136_6 rfl hyp (fun _ hyp => ?_) (fun _ hyp => ?_)
    · refine ls_aload_n f_136_15 rfl ?_
      refine ls_getR f_136_16 p_136_20 hl S_0 F_0_2 ?_
      refine ls_iload_n f_136_19 rfl ?_
      refine ls_zald f_136_20 hl S_10 hyp (fun hyp => ?_)
      refine ls_if_ne 31 f_136_21 rfl hyp (fun _ hyp => ?_) (fun _ hyp => ?_)
      · refine ls_aload_n f_136_24 rfl ?_
        refine ls_bipush (-2) f_136_25 (by decide) ?_
        refine ls_invV (a := 0) f_136_27 q_136_107 [.int (-2)] [] rfl (Nat.le_of_ble_eq_true rfl) hl S_0 ow_139 ?_
        refine ls_enter [some (.ref 0), some (.int (-2))] ml_139 (Nat.le_of_ble_eq_true rfl) rfl ?_
        refine ls_aload_n f_139_0 rfl ?_
        refine ls_iload_n f_139_1 rfl ?_
        refine ls_putI f_139_2 p_139_97 hl S_0 rfl ?_
        refine ls_aload_n f_139_5 rfl ?_
        refine ls_getR f_139_6 p_139_94 (lm_Lay_si hl _ _ _) S_0 F_0_14 ?_
        refine ls_iload_n f_139_9 rfl ?_
        refine ls_invS f_139_10 q_139_337 [.int (-2)] [.ref 75] rfl (Nat.le_of_ble_eq_true rfl) ?_
        refine ls_enter [some (.int (-2))] ml_141 (Nat.le_of_ble_eq_true rfl) rfl ?_
        refine ls_iload_n f_141_0 rfl ?_
        refine ls_table f_141_1 (by decide) ?_
        refine ls_swF (by decide) ?_
        refine ls_swF (by decide) ?_
        refine ls_swF (by decide) ?_
        refine ls_swT (by decide) ?_
        refine lm_tg_of (t := 38) rfl ?_
        refine ls_iconst 1 f_141_38 (by decide) ?_
        refine ls_ireturn f_141_39 rI_141 ?_
        show lm_W _ _ _ _ [.int 1, .ref 75] _ _
        refine ls_dup2 f_139_13 rfl rfl ?_
        refine ls_ialdC 1 f_139_14 (lm_Lay_si hl _ _ _) S_75 ⟨by decide, by decide, by decide⟩ ?_
        refine ls_top (lm_i h 75 1) rfl ?_
        refine ls_iconst 1 f_139_15 (by decide) ?_
        refine ls_iadd ((lm_i h 75 1) + 1) f_139_16 rfl ?_
        refine ls_iastC 1 f_139_17 (lm_Lay_si hl _ _ _) S_75 ⟨by decide, by decide, by decide⟩ ?_
        refine ls_iload_n f_139_18 rfl ?_
        refine ls_ireturn f_139_19 rI_139 ?_
        show lm_W _ _ _ _ [.int (-2)] _ _
        exact ls_ireturn f_136_30 rI_136 hyp
      · refine ls_aload_n f_136_31 rfl ?_
        refine ls_getR f_136_32 p_136_12 hl S_0 F_0_0 ?_
        refine ls_aload_n f_136_35 rfl ?_
        refine ls_getR f_136_36 p_136_16 hl S_0 F_0_1 ?_
        refine ls_iload_n f_136_39 rfl ?_
        refine ls_img f_136_40 hl hyp (fun _ hyp => ?_) (fun _ hyp => ?_)
        · refine ls_invV (a := 1) f_136_41 q_136_333 [.ref 76] [] rfl (Nat.le_of_ble_eq_true rfl) hl S_1 ow_53 ?_
          refine ls_call hyp hl (fun _ h1 hl1 hyp => ?_)
          refine ls_retV hyp (fun hyp => ?_)
          refine ls_aload_n f_136_44 rfl ?_
          refine ls_iconst 0 f_136_45 (by decide) ?_
          refine ls_invV (a := 0) f_136_46 q_136_117 [.int 0] [] rfl (Nat.le_of_ble_eq_true rfl) hl1 S_0 ow_140 ?_
          refine ls_enter [some (.ref 0), some (.int 0)] ml_140 (Nat.le_of_ble_eq_true rfl) rfl ?_
          refine ls_aload_n f_140_0 rfl ?_
          refine ls_iconst 0 f_140_1 (by decide) ?_
          refine ls_putI f_140_2 p_140_97 hl1 S_0 rfl ?_
          refine ls_iload_n f_140_5 rfl ?_
          refine ls_ireturn f_140_6 rI_140 ?_
          show lm_W _ _ _ _ [.int 0] _ _
          exact ls_ireturn f_136_49 rI_136 hyp
        · refine ls_invV (a := 1) f_136_41 q_136_333 [.ref 84] [] rfl (Nat.le_of_ble_eq_true rfl) hl S_1 ow_53 ?_
          refine ls_call hyp hl (fun _ h2 hl2 hyp => ?_)
          refine ls_retV hyp (fun hyp => ?_)
          refine ls_aload_n f_136_44 rfl ?_
          refine ls_iconst 0 f_136_45 (by decide) ?_
          refine ls_invV (a := 0) f_136_46 q_136_117 [.int 0] [] rfl (Nat.le_of_ble_eq_true rfl) hl2 S_0 ow_140 ?_
          refine ls_enter [some (.ref 0), some (.int 0)] ml_140 (Nat.le_of_ble_eq_true rfl) rfl ?_
          refine ls_aload_n f_140_0 rfl ?_
          refine ls_iconst 0 f_140_1 (by decide) ?_
          refine ls_putI f_140_2 p_140_97 hl2 S_0 rfl ?_
          refine ls_iload_n f_140_5 rfl ?_
          refine ls_ireturn f_140_6 rI_140 ?_
          show lm_W _ _ _ _ [.int 0] _ _
          exact ls_ireturn f_136_49 rI_136 hyp
    · refine ls_aload_n f_136_9 rfl ?_
      refine ls_iconst (-1) f_136_10 (by decide) ?_
      refine ls_invV (a := 0) f_136_11 q_136_107 [.int (-1)] [] rfl (Nat.le_of_ble_eq_true rfl) hl S_0 ow_139 ?_
      refine ls_enter [some (.ref 0), some (.int (-1))] ml_139 (Nat.le_of_ble_eq_true rfl) rfl ?_
      refine ls_aload_n f_139_0 rfl ?_
      refine ls_iload_n f_139_1 rfl ?_
      refine ls_putI f_139_2 p_139_97 hl S_0 rfl ?_
      refine ls_aload_n f_139_5 rfl ?_
      refine ls_getR f_139_6 p_139_94 (lm_Lay_si hl _ _ _) S_0 F_0_14 ?_
      refine ls_iload_n f_139_9 rfl ?_
      refine ls_invS f_139_10 q_139_337 [.int (-1)] [.ref 75] rfl (Nat.le_of_ble_eq_true rfl) ?_
      refine ls_enter [some (.int (-1))] ml_141 (Nat.le_of_ble_eq_true rfl) rfl ?_
      refine ls_iload_n f_141_0 rfl ?_
      refine ls_table f_141_1 (by decide) ?_
      refine ls_swF (by decide) ?_
      refine ls_swF (by decide) ?_
      refine ls_swF (by decide) ?_
      refine ls_swF (by decide) ?_
      refine ls_swT (by decide) ?_
      refine lm_tg_of (t := 36) rfl ?_
      refine ls_iconst 0 f_141_36 (by decide) ?_
      refine ls_ireturn f_141_37 rI_141 ?_
      show lm_W _ _ _ _ [.int 0, .ref 75] _ _
      refine ls_dup2 f_139_13 rfl rfl ?_
      refine ls_ialdC 0 f_139_14 (lm_Lay_si hl _ _ _) S_75 ⟨by decide, by decide, by decide⟩ ?_
      refine ls_top (lm_i h 75 0) rfl ?_
      refine ls_iconst 1 f_139_15 (by decide) ?_
      refine ls_iadd ((lm_i h 75 0) + 1) f_139_16 rfl ?_
      refine ls_iastC 0 f_139_17 (lm_Lay_si hl _ _ _) S_75 ⟨by decide, by decide, by decide⟩ ?_
      refine ls_iload_n f_139_18 rfl ?_
      refine ls_ireturn f_139_19 rI_139 ?_
      show lm_W _ _ _ _ [.int (-1)] _ _
      exact ls_ireturn f_136_14 rI_136 hyp
theorem e_137 {d : Nat} {h : lm_H} {K : Int32 → lm_H → Prop} (x1 : Int32) (hl : lm_Lay h) (hyp : (if x1 = 0 then (K (lm_i h 1 0) h) else (if x1 = 1 then (K (lm_i h 1 1) h) else (if x1 = 2 then (K (lm_i h 1 4) h) else (if x1 = 3 then (K (lm_i h 11 1) h) else (if x1 = 4 then (if x1 < 4 then (K (-1) h) else (if 8 < x1 then (K (-1) h) else (lm_in (x1 - 4) 5 False (K (lm_i h 75 ((x1 - 4).toNatClampNeg)) h)))) else (if x1 = 5 then (if x1 < 4 then (K (-1) h) else (if 8 < x1 then (K (-1) h) else (lm_in (x1 - 4) 5 False (K (lm_i h 75 ((x1 - 4).toNatClampNeg)) h)))) else (if x1 = 6 then (if x1 < 4 then (K (-1) h) else (if 8 < x1 then (K (-1) h) else (lm_in (x1 - 4) 5 False (K (lm_i h 75 ((x1 - 4).toNatClampNeg)) h)))) else (if x1 = 7 then (if x1 < 4 then (K (-1) h) else (if 8 < x1 then (K (-1) h) else (lm_in (x1 - 4) 5 False (K (lm_i h 75 ((x1 - 4).toNatClampNeg)) h)))) else (if x1 = 8 then (if x1 < 4 then (K (-1) h) else (if 8 < x1 then (K (-1) h) else (lm_in (x1 - 4) 5 False (K (lm_i h 75 ((x1 - 4).toNatClampNeg)) h)))) else (if x1 = 9 then (K (lm_i h 1 5) h) else (if x1 = 10 then (K (lm_i h 1 2) h) else (if x1 < 4 then (K (-1) h) else (if 8 < x1 then (K (-1) h) else (lm_in (x1 - 4) 5 False (K (lm_i h 75 ((x1 - 4).toNatClampNeg)) h)))))))))))))))) : lm_call (d + 1) 137 [.ref 0, .int x1] h (lm_kI K) := by
  refine ls_enter [some (.ref 0), some (.int x1)] ml_137 (Nat.le_of_ble_eq_true rfl) rfl ?_
  refine ls_iload_n f_137_0 rfl ?_
  refine ls_table f_137_1 (by decide) ?_
  refine ls_swC (v := 0) (by decide) hyp (fun _ hyp => lm_tg_of (t := 60) rfl ?_) (fun _ hyp => ?_)
  · refine ls_aload_n f_137_60 rfl ?_
    refine ls_getR f_137_61 p_137_12 hl S_0 F_0_0 ?_
    refine ls_getI f_137_64 p_137_111 hl S_1 ?_
    exact ls_ireturn f_137_67 rI_137 hyp
  refine ls_swC (v := 1) (by decide) hyp (fun _ hyp => lm_tg_of (t := 68) rfl ?_) (fun _ hyp => ?_)
  · refine ls_aload_n f_137_68 rfl ?_
    refine ls_getR f_137_69 p_137_12 hl S_0 F_0_0 ?_
    refine ls_getI f_137_72 p_137_120 hl S_1 ?_
    exact ls_ireturn f_137_75 rI_137 hyp
  refine ls_swC (v := 2) (by decide) hyp (fun _ hyp => lm_tg_of (t := 76) rfl ?_) (fun _ hyp => ?_)
  · refine ls_aload_n f_137_76 rfl ?_
    refine ls_getR f_137_77 p_137_12 hl S_0 F_0_0 ?_
    refine ls_getI f_137_80 p_137_170 hl S_1 ?_
    exact ls_ireturn f_137_83 rI_137 hyp
  refine ls_swC (v := 3) (by decide) hyp (fun _ hyp => lm_tg_of (t := 84) rfl ?_) (fun _ hyp => ?_)
  · refine ls_aload_n f_137_84 rfl ?_
    refine ls_getR f_137_85 p_137_27 hl S_0 F_0_3 ?_
    refine ls_getI f_137_88 p_137_160 hl S_11 ?_
    exact ls_ireturn f_137_91 rI_137 hyp
  refine ls_swC (v := 4) (by decide) hyp (fun _ hyp => lm_tg_of (t := 108) rfl ?_) (fun _ hyp => ?_)
  · refine ls_iload_n f_137_108 rfl ?_
    refine ls_iconst 4 f_137_109 (by decide) ?_
    refine ls_icmp_lt 130 f_137_110 rfl hyp (fun _ hyp => ?_) (fun _ hyp => ?_)
    · refine ls_iconst (-1) f_137_130 (by decide) ?_
      exact ls_ireturn f_137_131 rI_137 hyp
    · refine ls_iload_n f_137_113 rfl ?_
      refine ls_bipush 8 f_137_114 (by decide) ?_
      refine ls_icmp_gt 130 f_137_116 rfl hyp (fun _ hyp => ?_) (fun _ hyp => ?_)
      · refine ls_iconst (-1) f_137_130 (by decide) ?_
        exact ls_ireturn f_137_131 rI_137 hyp
      · refine ls_aload_n f_137_119 rfl ?_
        refine ls_getR f_137_120 p_137_94 hl S_0 F_0_14 ?_
        refine ls_iload_n f_137_123 rfl ?_
        refine ls_iconst 4 f_137_124 (by decide) ?_
        refine ls_isub (x1 - 4) f_137_125 rfl ?_
        refine ls_iald f_137_126 hl S_75 hyp (fun hyp => ?_)
        refine ls_goto 131 f_137_127 rfl ?_
        exact ls_ireturn f_137_131 rI_137 hyp
  refine ls_swC (v := 5) (by decide) hyp (fun _ hyp => lm_tg_of (t := 108) rfl ?_) (fun _ hyp => ?_)
  · refine ls_iload_n f_137_108 rfl ?_
    refine ls_iconst 4 f_137_109 (by decide) ?_
    refine ls_icmp_lt 130 f_137_110 rfl hyp (fun _ hyp => ?_) (fun _ hyp => ?_)
    · refine ls_iconst (-1) f_137_130 (by decide) ?_
      exact ls_ireturn f_137_131 rI_137 hyp
    · refine ls_iload_n f_137_113 rfl ?_
      refine ls_bipush 8 f_137_114 (by decide) ?_
      refine ls_icmp_gt 130 f_137_116 rfl hyp (fun _ hyp => ?_) (fun _ hyp => ?_)
      · refine ls_iconst (-1) f_137_130 (by decide) ?_
        exact ls_ireturn f_137_131 rI_137 hyp
      · refine ls_aload_n f_137_119 rfl ?_
        refine ls_getR f_137_120 p_137_94 hl S_0 F_0_14 ?_
        refine ls_iload_n f_137_123 rfl ?_
        refine ls_iconst 4 f_137_124 (by decide) ?_
        refine ls_isub (x1 - 4) f_137_125 rfl ?_
        refine ls_iald f_137_126 hl S_75 hyp (fun hyp => ?_)
        refine ls_goto 131 f_137_127 rfl ?_
        exact ls_ireturn f_137_131 rI_137 hyp
  refine ls_swC (v := 6) (by decide) hyp (fun _ hyp => lm_tg_of (t := 108) rfl ?_) (fun _ hyp => ?_)
  · refine ls_iload_n f_137_108 rfl ?_
    refine ls_iconst 4 f_137_109 (by decide) ?_
    refine ls_icmp_lt 130 f_137_110 rfl hyp (fun _ hyp => ?_) (fun _ hyp => ?_)
    · refine ls_iconst (-1) f_137_130 (by decide) ?_
      exact ls_ireturn f_137_131 rI_137 hyp
    · refine ls_iload_n f_137_113 rfl ?_
      refine ls_bipush 8 f_137_114 (by decide) ?_
      refine ls_icmp_gt 130 f_137_116 rfl hyp (fun _ hyp => ?_) (fun _ hyp => ?_)
      · refine ls_iconst (-1) f_137_130 (by decide) ?_
        exact ls_ireturn f_137_131 rI_137 hyp
      · refine ls_aload_n f_137_119 rfl ?_
        refine ls_getR f_137_120 p_137_94 hl S_0 F_0_14 ?_
        refine ls_iload_n f_137_123 rfl ?_
        refine ls_iconst 4 f_137_124 (by decide) ?_
        refine ls_isub (x1 - 4) f_137_125 rfl ?_
        refine ls_iald f_137_126 hl S_75 hyp (fun hyp => ?_)
        refine ls_goto 131 f_137_127 rfl ?_
        exact ls_ireturn f_137_131 rI_137 hyp
  refine ls_swC (v := 7) (by decide) hyp (fun _ hyp => lm_tg_of (t := 108) rfl ?_) (fun _ hyp => ?_)
  · refine ls_iload_n f_137_108 rfl ?_
    refine ls_iconst 4 f_137_109 (by decide) ?_
    refine ls_icmp_lt 130 f_137_110 rfl hyp (fun _ hyp => ?_) (fun _ hyp => ?_)
    · refine ls_iconst (-1) f_137_130 (by decide) ?_
      exact ls_ireturn f_137_131 rI_137 hyp
    · refine ls_iload_n f_137_113 rfl ?_
      refine ls_bipush 8 f_137_114 (by decide) ?_
      refine ls_icmp_gt 130 f_137_116 rfl hyp (fun _ hyp => ?_) (fun _ hyp => ?_)
      · refine ls_iconst (-1) f_137_130 (by decide) ?_
        exact ls_ireturn f_137_131 rI_137 hyp
      · refine ls_aload_n f_137_119 rfl ?_
        refine ls_getR f_137_120 p_137_94 hl S_0 F_0_14 ?_
        refine ls_iload_n f_137_123 rfl ?_
        refine ls_iconst 4 f_137_124 (by decide) ?_
        refine ls_isub (x1 - 4) f_137_125 rfl ?_
        refine ls_iald f_137_126 hl S_75 hyp (fun hyp => ?_)
        refine ls_goto 131 f_137_127 rfl ?_
        exact ls_ireturn f_137_131 rI_137 hyp
  refine ls_swC (v := 8) (by decide) hyp (fun _ hyp => lm_tg_of (t := 108) rfl ?_) (fun _ hyp => ?_)
  · refine ls_iload_n f_137_108 rfl ?_
    refine ls_iconst 4 f_137_109 (by decide) ?_
    refine ls_icmp_lt 130 f_137_110 rfl hyp (fun _ hyp => ?_) (fun _ hyp => ?_)
    · refine ls_iconst (-1) f_137_130 (by decide) ?_
      exact ls_ireturn f_137_131 rI_137 hyp
    · refine ls_iload_n f_137_113 rfl ?_
      refine ls_bipush 8 f_137_114 (by decide) ?_
      refine ls_icmp_gt 130 f_137_116 rfl hyp (fun _ hyp => ?_) (fun _ hyp => ?_)
      · refine ls_iconst (-1) f_137_130 (by decide) ?_
        exact ls_ireturn f_137_131 rI_137 hyp
      · refine ls_aload_n f_137_119 rfl ?_
        refine ls_getR f_137_120 p_137_94 hl S_0 F_0_14 ?_
        refine ls_iload_n f_137_123 rfl ?_
        refine ls_iconst 4 f_137_124 (by decide) ?_
        refine ls_isub (x1 - 4) f_137_125 rfl ?_
        refine ls_iald f_137_126 hl S_75 hyp (fun hyp => ?_)
        refine ls_goto 131 f_137_127 rfl ?_
        exact ls_ireturn f_137_131 rI_137 hyp
  refine ls_swC (v := 9) (by decide) hyp (fun _ hyp => lm_tg_of (t := 92) rfl ?_) (fun _ hyp => ?_)
  · refine ls_aload_n f_137_92 rfl ?_
    refine ls_getR f_137_93 p_137_12 hl S_0 F_0_0 ?_
    refine ls_getI f_137_96 p_137_187 hl S_1 ?_
    exact ls_ireturn f_137_99 rI_137 hyp
  refine ls_swC (v := 10) (by decide) hyp (fun _ hyp => lm_tg_of (t := 100) rfl ?_) (fun _ hyp => ?_)
  · refine ls_aload_n f_137_100 rfl ?_
    refine ls_getR f_137_101 p_137_12 hl S_0 F_0_0 ?_
    refine ls_getI f_137_104 p_137_154 hl S_1 ?_
    exact ls_ireturn f_137_107 rI_137 hyp
  refine ls_swD ?_
  refine lm_tg_of (t := 108) rfl ?_
  refine ls_iload_n f_137_108 rfl ?_
  refine ls_iconst 4 f_137_109 (by decide) ?_
  refine ls_icmp_lt 130 f_137_110 rfl hyp (fun _ hyp => ?_) (fun _ hyp => ?_)
  · refine ls_iconst (-1) f_137_130 (by decide) ?_
    exact ls_ireturn f_137_131 rI_137 hyp
  · refine ls_iload_n f_137_113 rfl ?_
    refine ls_bipush 8 f_137_114 (by decide) ?_
    refine ls_icmp_gt 130 f_137_116 rfl hyp (fun _ hyp => ?_) (fun _ hyp => ?_)
    · refine ls_iconst (-1) f_137_130 (by decide) ?_
      exact ls_ireturn f_137_131 rI_137 hyp
    · refine ls_aload_n f_137_119 rfl ?_
      refine ls_getR f_137_120 p_137_94 hl S_0 F_0_14 ?_
      refine ls_iload_n f_137_123 rfl ?_
      refine ls_iconst 4 f_137_124 (by decide) ?_
      refine ls_isub (x1 - 4) f_137_125 rfl ?_
      refine ls_iald f_137_126 hl S_75 hyp (fun hyp => ?_)
      refine ls_goto 131 f_137_127 rfl ?_
      exact ls_ireturn f_137_131 rI_137 hyp
theorem e_138 {d : Nat} {h : lm_H} {K : Int32 → lm_H → Prop} (hl : lm_Lay h) (hyp : K (lm_i h 0 15) h) : lm_call (d + 1) 138 [.ref 0] h (lm_kI K) := by
  refine ls_enter [some (.ref 0)] ml_138 (Nat.le_of_ble_eq_true rfl) rfl ?_
  refine ls_aload_n f_138_0 rfl ?_
  refine ls_getI f_138_1 p_138_97 hl S_0 ?_
  exact ls_ireturn f_138_4 rI_138 hyp
theorem e_139 {d : Nat} {h : lm_H} {K : Int32 → lm_H → Prop} (x1 : Int32) (hl : lm_Lay h) (hyp : (if x1 = (-5) then (K x1 (lm_si (lm_si h 0 15 x1) 75 3 ((lm_i h 75 3) + 1))) else (if x1 = (-4) then (K x1 (lm_si (lm_si h 0 15 x1) 75 4 ((lm_i h 75 4) + 1))) else (if x1 = (-3) then (K x1 (lm_si (lm_si h 0 15 x1) 75 2 ((lm_i h 75 2) + 1))) else (if x1 = (-2) then (K x1 (lm_si (lm_si h 0 15 x1) 75 1 ((lm_i h 75 1) + 1))) else (if x1 = (-1) then (K x1 (lm_si (lm_si h 0 15 x1) 75 0 ((lm_i h 75 0) + 1))) else (K x1 (lm_si (lm_si h 0 15 x1) 75 4 ((lm_i h 75 4) + 1))))))))) : lm_call (d + 2) 139 [.ref 0, .int x1] h (lm_kI K) := by
  refine ls_enter [some (.ref 0), some (.int x1)] ml_139 (Nat.le_of_ble_eq_true rfl) rfl ?_
  refine ls_aload_n f_139_0 rfl ?_
  refine ls_iload_n f_139_1 rfl ?_
  refine ls_putI f_139_2 p_139_97 hl S_0 rfl ?_
  refine ls_aload_n f_139_5 rfl ?_
  refine ls_getR f_139_6 p_139_94 (lm_Lay_si hl _ _ _) S_0 F_0_14 ?_
  refine ls_iload_n f_139_9 rfl ?_
  refine ls_invS f_139_10 q_139_337 [.int x1] [.ref 75] rfl (Nat.le_of_ble_eq_true rfl) ?_
  refine ls_enter [some (.int x1)] ml_141 (Nat.le_of_ble_eq_true rfl) rfl ?_
  refine ls_iload_n f_141_0 rfl ?_
  refine ls_table f_141_1 (by decide) ?_
  refine ls_swC (v := (-5)) (by decide) hyp (fun _ hyp => lm_tg_of (t := 42) rfl ?_) (fun _ hyp => ?_)
  · refine ls_iconst 3 f_141_42 (by decide) ?_
    refine ls_ireturn f_141_43 rI_141 ?_
    show lm_W _ _ _ _ [.int 3, .ref 75] _ _
    refine ls_dup2 f_139_13 rfl rfl ?_
    refine ls_ialdC 3 f_139_14 (lm_Lay_si hl _ _ _) S_75 ⟨by decide, by decide, by decide⟩ ?_
    refine ls_top (lm_i h 75 3) rfl ?_
    refine ls_iconst 1 f_139_15 (by decide) ?_
    refine ls_iadd ((lm_i h 75 3) + 1) f_139_16 rfl ?_
    refine ls_iastC 3 f_139_17 (lm_Lay_si hl _ _ _) S_75 ⟨by decide, by decide, by decide⟩ ?_
    refine ls_iload_n f_139_18 rfl ?_
    exact ls_ireturn f_139_19 rI_139 hyp
  refine ls_swC (v := (-4)) (by decide) hyp (fun _ hyp => lm_tg_of (t := 44) rfl ?_) (fun _ hyp => ?_)
  · refine ls_iconst 4 f_141_44 (by decide) ?_
    refine ls_ireturn f_141_45 rI_141 ?_
    show lm_W _ _ _ _ [.int 4, .ref 75] _ _
    refine ls_dup2 f_139_13 rfl rfl ?_
    refine ls_ialdC 4 f_139_14 (lm_Lay_si hl _ _ _) S_75 ⟨by decide, by decide, by decide⟩ ?_
    refine ls_top (lm_i h 75 4) rfl ?_
    refine ls_iconst 1 f_139_15 (by decide) ?_
    refine ls_iadd ((lm_i h 75 4) + 1) f_139_16 rfl ?_
    refine ls_iastC 4 f_139_17 (lm_Lay_si hl _ _ _) S_75 ⟨by decide, by decide, by decide⟩ ?_
    refine ls_iload_n f_139_18 rfl ?_
    exact ls_ireturn f_139_19 rI_139 hyp
  refine ls_swC (v := (-3)) (by decide) hyp (fun _ hyp => lm_tg_of (t := 40) rfl ?_) (fun _ hyp => ?_)
  · refine ls_iconst 2 f_141_40 (by decide) ?_
    refine ls_ireturn f_141_41 rI_141 ?_
    show lm_W _ _ _ _ [.int 2, .ref 75] _ _
    refine ls_dup2 f_139_13 rfl rfl ?_
    refine ls_ialdC 2 f_139_14 (lm_Lay_si hl _ _ _) S_75 ⟨by decide, by decide, by decide⟩ ?_
    refine ls_top (lm_i h 75 2) rfl ?_
    refine ls_iconst 1 f_139_15 (by decide) ?_
    refine ls_iadd ((lm_i h 75 2) + 1) f_139_16 rfl ?_
    refine ls_iastC 2 f_139_17 (lm_Lay_si hl _ _ _) S_75 ⟨by decide, by decide, by decide⟩ ?_
    refine ls_iload_n f_139_18 rfl ?_
    exact ls_ireturn f_139_19 rI_139 hyp
  refine ls_swC (v := (-2)) (by decide) hyp (fun _ hyp => lm_tg_of (t := 38) rfl ?_) (fun _ hyp => ?_)
  · refine ls_iconst 1 f_141_38 (by decide) ?_
    refine ls_ireturn f_141_39 rI_141 ?_
    show lm_W _ _ _ _ [.int 1, .ref 75] _ _
    refine ls_dup2 f_139_13 rfl rfl ?_
    refine ls_ialdC 1 f_139_14 (lm_Lay_si hl _ _ _) S_75 ⟨by decide, by decide, by decide⟩ ?_
    refine ls_top (lm_i h 75 1) rfl ?_
    refine ls_iconst 1 f_139_15 (by decide) ?_
    refine ls_iadd ((lm_i h 75 1) + 1) f_139_16 rfl ?_
    refine ls_iastC 1 f_139_17 (lm_Lay_si hl _ _ _) S_75 ⟨by decide, by decide, by decide⟩ ?_
    refine ls_iload_n f_139_18 rfl ?_
    exact ls_ireturn f_139_19 rI_139 hyp
  refine ls_swC (v := (-1)) (by decide) hyp (fun _ hyp => lm_tg_of (t := 36) rfl ?_) (fun _ hyp => ?_)
  · refine ls_iconst 0 f_141_36 (by decide) ?_
    refine ls_ireturn f_141_37 rI_141 ?_
    show lm_W _ _ _ _ [.int 0, .ref 75] _ _
    refine ls_dup2 f_139_13 rfl rfl ?_
    refine ls_ialdC 0 f_139_14 (lm_Lay_si hl _ _ _) S_75 ⟨by decide, by decide, by decide⟩ ?_
    refine ls_top (lm_i h 75 0) rfl ?_
    refine ls_iconst 1 f_139_15 (by decide) ?_
    refine ls_iadd ((lm_i h 75 0) + 1) f_139_16 rfl ?_
    refine ls_iastC 0 f_139_17 (lm_Lay_si hl _ _ _) S_75 ⟨by decide, by decide, by decide⟩ ?_
    refine ls_iload_n f_139_18 rfl ?_
    exact ls_ireturn f_139_19 rI_139 hyp
  refine ls_swD ?_
  refine lm_tg_of (t := 44) rfl ?_
  refine ls_iconst 4 f_141_44 (by decide) ?_
  refine ls_ireturn f_141_45 rI_141 ?_
  show lm_W _ _ _ _ [.int 4, .ref 75] _ _
  refine ls_dup2 f_139_13 rfl rfl ?_
  refine ls_ialdC 4 f_139_14 (lm_Lay_si hl _ _ _) S_75 ⟨by decide, by decide, by decide⟩ ?_
  refine ls_top (lm_i h 75 4) rfl ?_
  refine ls_iconst 1 f_139_15 (by decide) ?_
  refine ls_iadd ((lm_i h 75 4) + 1) f_139_16 rfl ?_
  refine ls_iastC 4 f_139_17 (lm_Lay_si hl _ _ _) S_75 ⟨by decide, by decide, by decide⟩ ?_
  refine ls_iload_n f_139_18 rfl ?_
  exact ls_ireturn f_139_19 rI_139 hyp
theorem e_140 {d : Nat} {h : lm_H} {K : Int32 → lm_H → Prop} (x1 : Int32) (hl : lm_Lay h) (hyp : K x1 (lm_si h 0 15 0)) : lm_call (d + 1) 140 [.ref 0, .int x1] h (lm_kI K) := by
  refine ls_enter [some (.ref 0), some (.int x1)] ml_140 (Nat.le_of_ble_eq_true rfl) rfl ?_
  refine ls_aload_n f_140_0 rfl ?_
  refine ls_iconst 0 f_140_1 (by decide) ?_
  refine ls_putI f_140_2 p_140_97 hl S_0 rfl ?_
  refine ls_iload_n f_140_5 rfl ?_
  exact ls_ireturn f_140_6 rI_140 hyp
theorem e_141 {d : Nat} {h : lm_H} {K : Int32 → lm_H → Prop} (x0 : Int32) (hl : lm_Lay h) (hyp : (if x0 = (-5) then (K 3 h) else (if x0 = (-4) then (K 4 h) else (if x0 = (-3) then (K 2 h) else (if x0 = (-2) then (K 1 h) else (if x0 = (-1) then (K 0 h) else (K 4 h))))))) : lm_call (d + 1) 141 [.int x0] h (lm_kI K) := by
  refine ls_enter [some (.int x0)] ml_141 (Nat.le_of_ble_eq_true rfl) rfl ?_
  refine ls_iload_n f_141_0 rfl ?_
  refine ls_table f_141_1 (by decide) ?_
  refine ls_swC (v := (-5)) (by decide) hyp (fun _ hyp => lm_tg_of (t := 42) rfl ?_) (fun _ hyp => ?_)
  · refine ls_iconst 3 f_141_42 (by decide) ?_
    exact ls_ireturn f_141_43 rI_141 hyp
  refine ls_swC (v := (-4)) (by decide) hyp (fun _ hyp => lm_tg_of (t := 44) rfl ?_) (fun _ hyp => ?_)
  · refine ls_iconst 4 f_141_44 (by decide) ?_
    exact ls_ireturn f_141_45 rI_141 hyp
  refine ls_swC (v := (-3)) (by decide) hyp (fun _ hyp => lm_tg_of (t := 40) rfl ?_) (fun _ hyp => ?_)
  · refine ls_iconst 2 f_141_40 (by decide) ?_
    exact ls_ireturn f_141_41 rI_141 hyp
  refine ls_swC (v := (-2)) (by decide) hyp (fun _ hyp => lm_tg_of (t := 38) rfl ?_) (fun _ hyp => ?_)
  · refine ls_iconst 1 f_141_38 (by decide) ?_
    exact ls_ireturn f_141_39 rI_141 hyp
  refine ls_swC (v := (-1)) (by decide) hyp (fun _ hyp => lm_tg_of (t := 36) rfl ?_) (fun _ hyp => ?_)
  · refine ls_iconst 0 f_141_36 (by decide) ?_
    exact ls_ireturn f_141_37 rI_141 hyp
  refine ls_swD ?_
  refine lm_tg_of (t := 44) rfl ?_
  refine ls_iconst 4 f_141_44 (by decide) ?_
  exact ls_ireturn f_141_45 rI_141 hyp
theorem e_142 {d : Nat} {h : lm_H} {K : Int32 → lm_H → Prop} (x1 : Int32) (hl : lm_Lay h) (hyp : (if (x1 + 2) < (lm_i h 11 1) then (lm_in x1 400 False (lm_in (x1 + 1) 400 False (lm_in (x1 + 2) 400 False (if ((lm_i h 12 ((x1 + 2).toNatClampNeg)) - 100) < (-99) then (K 0 h) else (if 99 < ((lm_i h 12 ((x1 + 2).toNatClampNeg)) - 100) then (K 0 h) else (if (lm_i h 12 x1.toNatClampNeg) < 0 then (K 0 h) else (if (lm_i h 12 x1.toNatClampNeg) < (lm_i h 1 0) then (if (lm_i h 12 ((x1 + 1).toNatClampNeg)) < 0 then (K 0 h) else (if (lm_i h 12 ((x1 + 1).toNatClampNeg)) < (lm_i h 1 1) then (lm_in (((lm_i h 12 x1.toNatClampNeg) * 6) + (lm_i h 12 ((x1 + 1).toNatClampNeg))) 30 False (K 1 (lm_si h 4 ((((lm_i h 12 x1.toNatClampNeg) * 6) + (lm_i h 12 ((x1 + 1).toNatClampNeg))).toNatClampNeg) ((lm_i h 12 ((x1 + 2).toNatClampNeg)) - 100)))) else (K 0 h))) else (K 0 h)))))))) else (K 0 h))) : lm_call (d + 3) 142 [.ref 0, .int x1] h (lm_kI K) := by
  refine ls_enter [some (.ref 0), some (.int x1), none, none, none] ml_142 (Nat.le_of_ble_eq_true rfl) rfl ?_
  refine ls_iload_n f_142_0 rfl ?_
  refine ls_iconst 2 f_142_1 (by decide) ?_
  refine ls_iadd (x1 + 2) f_142_2 rfl ?_
  refine ls_aload_n f_142_3 rfl ?_
  refine ls_getR f_142_4 p_142_27 hl S_0 F_0_3 ?_
  refine ls_getI f_142_7 p_142_160 hl S_11 ?_
  refine ls_icmp_lt 15 f_142_10 rfl hyp (fun _ hyp => ?_) (fun _ hyp => ?_)
  · refine ls_aload_n f_142_15 rfl ?_
    refine ls_getR f_142_16 p_142_27 hl S_0 F_0_3 ?_
    refine ls_getR f_142_19 p_142_173 hl S_11 F_11_0 ?_
    refine ls_iload_n f_142_22 rfl ?_
    refine ls_iald f_142_23 hl S_12 hyp (fun hyp => ?_)
    refine ls_istore_n [some (.ref 0), some (.int x1), some (.int (lm_i h 12 x1.toNatClampNeg)), none, none] f_142_24 (Nat.le_of_ble_eq_true rfl) rfl ?_
    refine ls_aload_n f_142_25 rfl ?_
    refine ls_getR f_142_26 p_142_27 hl S_0 F_0_3 ?_
    refine ls_getR f_142_29 p_142_173 hl S_11 F_11_0 ?_
    refine ls_iload_n f_142_32 rfl ?_
    refine ls_iconst 1 f_142_33 (by decide) ?_
    refine ls_iadd (x1 + 1) f_142_34 rfl ?_
    refine ls_iald f_142_35 hl S_12 hyp (fun hyp => ?_)
    refine ls_istore_n [some (.ref 0), some (.int x1), some (.int (lm_i h 12 x1.toNatClampNeg)), some (.int (lm_i h 12 ((x1 + 1).toNatClampNeg))), none] f_142_36 (Nat.le_of_ble_eq_true rfl) rfl ?_
    refine ls_aload_n f_142_37 rfl ?_
    refine ls_getR f_142_38 p_142_27 hl S_0 F_0_3 ?_
    refine ls_getR f_142_41 p_142_173 hl S_11 F_11_0 ?_
    refine ls_iload_n f_142_44 rfl ?_
    refine ls_iconst 2 f_142_45 (by decide) ?_
    refine ls_iadd (x1 + 2) f_142_46 rfl ?_
    refine ls_iald f_142_47 hl S_12 hyp (fun hyp => ?_)
    refine ls_bipush 100 f_142_48 (by decide) ?_
    refine ls_isub ((lm_i h 12 ((x1 + 2).toNatClampNeg)) - 100) f_142_50 rfl ?_
    refine ls_istore [some (.ref 0), some (.int x1), some (.int (lm_i h 12 x1.toNatClampNeg)), some (.int (lm_i h 12 ((x1 + 1).toNatClampNeg))), some (.int ((lm_i h 12 ((x1 + 2).toNatClampNeg)) - 100))] f_142_51 (Nat.le_of_ble_eq_true rfl) rfl ?_
    refine ls_iload f_142_53 rfl ?_
    refine ls_invS f_142_55 q_142_126 [.int ((lm_i h 12 ((x1 + 2).toNatClampNeg)) - 100)] [] rfl (Nat.le_of_ble_eq_true rfl) ?_
    refine ls_enter [some (.int ((lm_i h 12 ((x1 + 2).toNatClampNeg)) - 100))] ml_146 (Nat.le_of_ble_eq_true rfl) rfl ?_
    refine ls_iload_n f_146_0 rfl ?_
    refine ls_bipush (-99) f_146_1 (by decide) ?_
    refine ls_icmp_lt 12 f_146_3 rfl hyp (fun _ hyp => ?_) (fun _ hyp => ?_)
    · refine ls_iconst 1 f_146_12 (by decide) ?_
      refine ls_goto 17 f_146_13 rfl ?_
      refine ls_zreturn f_146_17 rZ_146 (by decide) ?_
      show lm_W _ _ _ _ [.int 1] _ _
      refine ls_if_ne_F 73 f_142_58 rfl (by decide) ?_
      refine ls_iconst 0 f_142_73 (by decide) ?_
      exact ls_zreturn f_142_74 rZ_142 (by decide) hyp
    · refine ls_iload_n f_146_6 rfl ?_
      refine ls_bipush 99 f_146_7 (by decide) ?_
      refine ls_icmp_le 16 f_146_9 rfl hyp (fun _ hyp => ?_) (fun _ hyp => ?_)
      · refine ls_iconst 1 f_146_12 (by decide) ?_
        refine ls_goto 17 f_146_13 rfl ?_
        refine ls_zreturn f_146_17 rZ_146 (by decide) ?_
        show lm_W _ _ _ _ [.int 1] _ _
        refine ls_if_ne_F 73 f_142_58 rfl (by decide) ?_
        refine ls_iconst 0 f_142_73 (by decide) ?_
        exact ls_zreturn f_142_74 rZ_142 (by decide) hyp
      · refine ls_iconst 0 f_146_16 (by decide) ?_
        refine ls_zreturn f_146_17 rZ_146 (by decide) ?_
        show lm_W _ _ _ _ [.int 0] _ _
        refine ls_if_ne_T 73 f_142_58 rfl (by decide) ?_
        refine ls_aload_n f_142_61 rfl ?_
        refine ls_getR f_142_62 p_142_12 hl S_0 F_0_0 ?_
        refine ls_iload_n f_142_65 rfl ?_
        refine ls_iload_n f_142_66 rfl ?_
        refine ls_invV (a := 1) f_142_67 q_142_131 [.int (lm_i h 12 x1.toNatClampNeg), .int (lm_i h 12 ((x1 + 1).toNatClampNeg))] [] rfl (Nat.le_of_ble_eq_true rfl) hl S_1 ow_51 ?_
        refine ls_enter [some (.ref 1), some (.int (lm_i h 12 x1.toNatClampNeg)), some (.int (lm_i h 12 ((x1 + 1).toNatClampNeg)))] ml_51 (Nat.le_of_ble_eq_true rfl) rfl ?_
        refine ls_aload_n f_51_0 rfl ?_
        refine ls_iload_n f_51_1 rfl ?_
        refine ls_invV (a := 1) f_51_2 q_51_55 [.int (lm_i h 12 x1.toNatClampNeg)] [] rfl (Nat.le_of_ble_eq_true rfl) hl S_1 ow_49 ?_
        refine ls_enter [some (.ref 1), some (.int (lm_i h 12 x1.toNatClampNeg))] ml_49 (Nat.le_of_ble_eq_true rfl) rfl ?_
        refine ls_iload_n f_49_0 rfl ?_
        refine ls_if_lt 16 f_49_1 rfl hyp (fun _ hyp => ?_) (fun _ hyp => ?_)
        · refine ls_iconst 0 f_49_16 (by decide) ?_
          refine ls_zreturn f_49_17 rZ_49 (by decide) ?_
          show lm_W _ _ _ _ [.int 0] _ _
          refine ls_if_eq_T 20 f_51_5 rfl (by decide) ?_
          refine ls_iconst 0 f_51_20 (by decide) ?_
          refine ls_zreturn f_51_21 rZ_51 (by decide) ?_
          show lm_W _ _ _ _ [.int 0] _ _
          refine ls_if_ne_T 75 f_142_70 rfl (by decide) ?_
          refine ls_iconst 0 f_142_73 (by decide) ?_
          exact ls_zreturn f_142_74 rZ_142 (by decide) hyp
        · refine ls_iload_n f_49_4 rfl ?_
          refine ls_aload_n f_49_5 rfl ?_
          refine ls_getI f_49_6 p_49_9 hl S_1 ?_
          refine ls_icmp_ge 16 f_49_9 rfl hyp (fun _ hyp => ?_) (fun _ hyp => ?_)
          · refine ls_iconst 1 f_49_12 (by decide) ?_
            refine ls_goto 17 f_49_13 rfl ?_
            refine ls_zreturn f_49_17 rZ_49 (by decide) ?_
            show lm_W _ _ _ _ [.int 1] _ _
            refine ls_if_eq_F 20 f_51_5 rfl (by decide) ?_
            refine ls_aload_n f_51_8 rfl ?_
            refine ls_iload_n f_51_9 rfl ?_
            refine ls_invV (a := 1) f_51_10 q_51_59 [.int (lm_i h 12 ((x1 + 1).toNatClampNeg))] [] rfl (Nat.le_of_ble_eq_true rfl) hl S_1 ow_50 ?_
            refine ls_enter [some (.ref 1), some (.int (lm_i h 12 ((x1 + 1).toNatClampNeg)))] ml_50 (Nat.le_of_ble_eq_true rfl) rfl ?_
            refine ls_iload_n f_50_0 rfl ?_
            refine ls_if_lt 16 f_50_1 rfl hyp (fun _ hyp => ?_) (fun _ hyp => ?_)
            · refine ls_iconst 0 f_50_16 (by decide) ?_
              refine ls_zreturn f_50_17 rZ_50 (by decide) ?_
              show lm_W _ _ _ _ [.int 0] _ _
              refine ls_if_eq_T 20 f_51_13 rfl (by decide) ?_
              refine ls_iconst 0 f_51_20 (by decide) ?_
              refine ls_zreturn f_51_21 rZ_51 (by decide) ?_
              show lm_W _ _ _ _ [.int 0] _ _
              refine ls_if_ne_T 75 f_142_70 rfl (by decide) ?_
              refine ls_iconst 0 f_142_73 (by decide) ?_
              exact ls_zreturn f_142_74 rZ_142 (by decide) hyp
            · refine ls_iload_n f_50_4 rfl ?_
              refine ls_aload_n f_50_5 rfl ?_
              refine ls_getI f_50_6 p_50_15 hl S_1 ?_
              refine ls_icmp_ge 16 f_50_9 rfl hyp (fun _ hyp => ?_) (fun _ hyp => ?_)
              · refine ls_iconst 1 f_50_12 (by decide) ?_
                refine ls_goto 17 f_50_13 rfl ?_
                refine ls_zreturn f_50_17 rZ_50 (by decide) ?_
                show lm_W _ _ _ _ [.int 1] _ _
                refine ls_if_eq_F 20 f_51_13 rfl (by decide) ?_
                refine ls_iconst 1 f_51_16 (by decide) ?_
                refine ls_goto 21 f_51_17 rfl ?_
                refine ls_zreturn f_51_21 rZ_51 (by decide) ?_
                show lm_W _ _ _ _ [.int 1] _ _
                refine ls_if_ne_F 75 f_142_70 rfl (by decide) ?_
                refine ls_aload_n f_142_75 rfl ?_
                refine ls_getR f_142_76 p_142_12 hl S_0 F_0_0 ?_
                refine ls_getR f_142_79 p_142_135 hl S_1 F_1_8 ?_
                refine ls_iload_n f_142_82 rfl ?_
                refine ls_iload_n f_142_83 rfl ?_
                refine ls_invS f_142_84 q_142_138 [.int (lm_i h 12 x1.toNatClampNeg), .int (lm_i h 12 ((x1 + 1).toNatClampNeg))] [.ref 4] rfl (Nat.le_of_ble_eq_true rfl) ?_
                refine ls_enter [some (.int (lm_i h 12 x1.toNatClampNeg)), some (.int (lm_i h 12 ((x1 + 1).toNatClampNeg)))] ml_147 (Nat.le_of_ble_eq_true rfl) rfl ?_
                refine ls_iload_n f_147_0 rfl ?_
                refine ls_bipush 6 f_147_1 (by decide) ?_
                refine ls_imul ((lm_i h 12 x1.toNatClampNeg) * 6) f_147_3 rfl ?_
                refine ls_iload_n f_147_4 rfl ?_
                refine ls_iadd (((lm_i h 12 x1.toNatClampNeg) * 6) + (lm_i h 12 ((x1 + 1).toNatClampNeg))) f_147_5 rfl ?_
                refine ls_ireturn f_147_6 rI_147 ?_
                show lm_W _ _ _ _ [.int (((lm_i h 12 x1.toNatClampNeg) * 6) + (lm_i h 12 ((x1 + 1).toNatClampNeg))), .ref 4] _ _
                refine ls_iload f_142_87 rfl ?_
                refine ls_iast f_142_89 hl S_4 hyp (fun hyp => ?_)
                refine ls_iconst 1 f_142_90 (by decide) ?_
                exact ls_zreturn f_142_91 rZ_142 (by decide) hyp
              · refine ls_iconst 0 f_50_16 (by decide) ?_
                refine ls_zreturn f_50_17 rZ_50 (by decide) ?_
                show lm_W _ _ _ _ [.int 0] _ _
                refine ls_if_eq_T 20 f_51_13 rfl (by decide) ?_
                refine ls_iconst 0 f_51_20 (by decide) ?_
                refine ls_zreturn f_51_21 rZ_51 (by decide) ?_
                show lm_W _ _ _ _ [.int 0] _ _
                refine ls_if_ne_T 75 f_142_70 rfl (by decide) ?_
                refine ls_iconst 0 f_142_73 (by decide) ?_
                exact ls_zreturn f_142_74 rZ_142 (by decide) hyp
          · refine ls_iconst 0 f_49_16 (by decide) ?_
            refine ls_zreturn f_49_17 rZ_49 (by decide) ?_
            show lm_W _ _ _ _ [.int 0] _ _
            refine ls_if_eq_T 20 f_51_5 rfl (by decide) ?_
            refine ls_iconst 0 f_51_20 (by decide) ?_
            refine ls_zreturn f_51_21 rZ_51 (by decide) ?_
            show lm_W _ _ _ _ [.int 0] _ _
            refine ls_if_ne_T 75 f_142_70 rfl (by decide) ?_
            refine ls_iconst 0 f_142_73 (by decide) ?_
            exact ls_zreturn f_142_74 rZ_142 (by decide) hyp
  · refine ls_iconst 0 f_142_13 (by decide) ?_
    exact ls_zreturn f_142_14 rZ_142 (by decide) hyp
theorem e_143 {d : Nat} {h : lm_H} {K : lm_H → Prop} (hl : lm_Lay h) (hyp : lm_call (d) 62 [.ref 21, .ref 1, .ref 18, .ref 74, .int 0] h (lm_kV fun h1 => K h1)) : lm_call (d + 1) 143 [.ref 0] h (lm_kV K) := by
  refine ls_enter [some (.ref 0)] ml_143 (Nat.le_of_ble_eq_true rfl) rfl ?_
  refine ls_aload_n f_143_0 rfl ?_
  refine ls_getR f_143_1 p_143_48 hl S_0 F_0_6 ?_
  refine ls_aload_n f_143_4 rfl ?_
  refine ls_getR f_143_5 p_143_12 hl S_0 F_0_0 ?_
  refine ls_aload_n f_143_8 rfl ?_
  refine ls_getR f_143_9 p_143_41 hl S_0 F_0_5 ?_
  refine ls_aload_n f_143_12 rfl ?_
  refine ls_getR f_143_13 p_143_91 hl S_0 F_0_13 ?_
  refine ls_iconst 0 f_143_16 (by decide) ?_
  refine ls_invV (a := 21) f_143_17 q_143_340 [.ref 1, .ref 18, .ref 74, .int 0] [] rfl (Nat.le_of_ble_eq_true rfl) hl S_21 ow_62 ?_
  refine ls_call hyp hl (fun _ h1 hl1 hyp => ?_)
  refine ls_retV hyp (fun hyp => ?_)
  exact ls_return f_143_20 rV_143 hyp
theorem e_144 {d : Nat} {h : lm_H} {K : lm_H → Prop} (hl : lm_Lay h) (hyp : lm_call (d) 62 [.ref 21, .ref 1, .ref 18, .ref 74, .int 0] h (lm_kV fun h1 => lm_W (d) 144 22 [some (.ref 0), some (.int 0)] [] h1 (lm_kV K))) : lm_call (d + 1) 144 [.ref 0] h (lm_kV K) := by
  refine ls_enter [some (.ref 0), none] ml_144 (Nat.le_of_ble_eq_true rfl) rfl ?_
  refine ls_aload_n f_144_0 rfl ?_
  refine ls_getR f_144_1 p_144_48 hl S_0 F_0_6 ?_
  refine ls_aload_n f_144_4 rfl ?_
  refine ls_getR f_144_5 p_144_12 hl S_0 F_0_0 ?_
  refine ls_aload_n f_144_8 rfl ?_
  refine ls_getR f_144_9 p_144_41 hl S_0 F_0_5 ?_
  refine ls_aload_n f_144_12 rfl ?_
  refine ls_getR f_144_13 p_144_91 hl S_0 F_0_13 ?_
  refine ls_iconst 0 f_144_16 (by decide) ?_
  refine ls_invV (a := 21) f_144_17 q_144_340 [.ref 1, .ref 18, .ref 74, .int 0] [] rfl (Nat.le_of_ble_eq_true rfl) hl S_21 ow_62 ?_
  refine ls_call hyp hl (fun _ h1 hl1 hyp => ?_)
  refine ls_retV hyp (fun hyp => ?_)
  refine ls_iconst 0 f_144_20 (by decide) ?_
  refine ls_istore_n [some (.ref 0), some (.int 0)] f_144_21 (Nat.le_of_ble_eq_true rfl) rfl ?_
  exact hyp
theorem b_144_22 {d : Nat} {h : lm_H} {K : lm_H → Prop} (x1 : Int32) (hl : lm_Lay h) (hyp : (if x1 < (lm_i h 1 0) then (lm_in x1 5 False (lm_call (d) 66 [.ref 21, .int x1, .int (lm_i h 5 x1.toNatClampNeg)] h (lm_kI fun r2 h1 => lm_in x1 5 False (lm_W (d) 144 22 [some (.ref 0), some (.int (x1 + 1))] [] (lm_si h1 73 x1.toNatClampNeg r2) (lm_kV K))))) else (K h))) : lm_W (d) 144 22 [some (.ref 0), some (.int x1)] [] h (lm_kV K) := by
  refine ls_iload_n f_144_22 rfl ?_
  refine ls_aload_n f_144_23 rfl ?_
  refine ls_getR f_144_24 p_144_12 hl S_0 F_0_0 ?_
  refine ls_getI f_144_27 p_144_111 hl S_1 ?_
  refine ls_icmp_ge 62 f_144_30 rfl hyp (fun _ hyp => ?_) (fun _ hyp => ?_)
  · refine ls_aload_n f_144_33 rfl ?_
    refine ls_getR f_144_34 p_144_87 hl S_0 F_0_12 ?_
    refine ls_iload_n f_144_37 rfl ?_
    refine ls_aload_n f_144_38 rfl ?_
    refine ls_getR f_144_39 p_144_48 hl S_0 F_0_6 ?_
    refine ls_iload_n f_144_42 rfl ?_
    refine ls_aload_n f_144_43 rfl ?_
    refine ls_getR f_144_44 p_144_12 hl S_0 F_0_0 ?_
    refine ls_getR f_144_47 p_144_196 hl S_1 F_1_9 ?_
    refine ls_iload_n f_144_50 rfl ?_
    refine ls_iald f_144_51 hl S_5 hyp (fun hyp => ?_)
    refine ls_invV (a := 21) f_144_52 q_144_344 [.int x1, .int (lm_i h 5 x1.toNatClampNeg)] [.int x1, .ref 73] rfl (Nat.le_of_ble_eq_true rfl) hl S_21 ow_66 ?_
    refine ls_call hyp hl (fun _ h1 hl1 hyp => ?_)
    refine ls_retI hyp (fun r2 hyp => ?_)
    refine ls_iast f_144_55 hl1 S_73 hyp (fun hyp => ?_)
    refine ls_iinc (x1 + 1) [some (.ref 0), some (.int (x1 + 1))] f_144_56 rfl (Nat.le_of_ble_eq_true rfl) rfl rfl ?_
    refine ls_goto 22 f_144_59 rfl ?_
    exact hyp
  · exact ls_return f_144_62 rV_144 hyp
theorem e_145 {d : Nat} {h : lm_H} {K : lm_H → Prop} (hl : lm_Lay h) (hyp : lm_call (d) 62 [.ref 21, .ref 1, .ref 18, .ref 74, .int 0] h (lm_kV fun h1 => lm_call (d) 55 [.ref 31, .ref 21] h1 (lm_kV fun h2 => K h2))) : lm_call (d + 1) 145 [.ref 0] h (lm_kV K) := by
  refine ls_enter [some (.ref 0)] ml_145 (Nat.le_of_ble_eq_true rfl) rfl ?_
  refine ls_aload_n f_145_0 rfl ?_
  refine ls_getR f_145_1 p_145_48 hl S_0 F_0_6 ?_
  refine ls_aload_n f_145_4 rfl ?_
  refine ls_getR f_145_5 p_145_12 hl S_0 F_0_0 ?_
  refine ls_aload_n f_145_8 rfl ?_
  refine ls_getR f_145_9 p_145_41 hl S_0 F_0_5 ?_
  refine ls_aload_n f_145_12 rfl ?_
  refine ls_getR f_145_13 p_145_91 hl S_0 F_0_13 ?_
  refine ls_iconst 0 f_145_16 (by decide) ?_
  refine ls_invV (a := 21) f_145_17 q_145_340 [.ref 1, .ref 18, .ref 74, .int 0] [] rfl (Nat.le_of_ble_eq_true rfl) hl S_21 ow_62 ?_
  refine ls_call hyp hl (fun _ h1 hl1 hyp => ?_)
  refine ls_retV hyp (fun hyp => ?_)
  refine ls_aload_n f_145_20 rfl ?_
  refine ls_getR f_145_21 p_145_62 hl1 S_0 F_0_8 ?_
  refine ls_aload_n f_145_24 rfl ?_
  refine ls_getR f_145_25 p_145_48 hl1 S_0 F_0_6 ?_
  refine ls_invV (a := 31) f_145_28 q_145_347 [.ref 21] [] rfl (Nat.le_of_ble_eq_true rfl) hl1 S_31 ow_55 ?_
  refine ls_call hyp hl1 (fun _ h2 hl2 hyp => ?_)
  refine ls_retV hyp (fun hyp => ?_)
  exact ls_return f_145_31 rV_145 hyp
theorem e_146 {d : Nat} {h : lm_H} {K : Int32 → lm_H → Prop} (x0 : Int32) (hl : lm_Lay h) (hyp : (if x0 < (-99) then (K 1 h) else (if 99 < x0 then (K 1 h) else (K 0 h)))) : lm_call (d + 1) 146 [.int x0] h (lm_kI K) := by
  refine ls_enter [some (.int x0)] ml_146 (Nat.le_of_ble_eq_true rfl) rfl ?_
  refine ls_iload_n f_146_0 rfl ?_
  refine ls_bipush (-99) f_146_1 (by decide) ?_
  refine ls_icmp_lt 12 f_146_3 rfl hyp (fun _ hyp => ?_) (fun _ hyp => ?_)
  · refine ls_iconst 1 f_146_12 (by decide) ?_
    refine ls_goto 17 f_146_13 rfl ?_
    exact ls_zreturn f_146_17 rZ_146 (by decide) hyp
  · refine ls_iload_n f_146_6 rfl ?_
    refine ls_bipush 99 f_146_7 (by decide) ?_
    refine ls_icmp_le 16 f_146_9 rfl hyp (fun _ hyp => ?_) (fun _ hyp => ?_)
    · refine ls_iconst 1 f_146_12 (by decide) ?_
      refine ls_goto 17 f_146_13 rfl ?_
      exact ls_zreturn f_146_17 rZ_146 (by decide) hyp
    · refine ls_iconst 0 f_146_16 (by decide) ?_
      exact ls_zreturn f_146_17 rZ_146 (by decide) hyp
theorem e_147 {d : Nat} {h : lm_H} {K : Int32 → lm_H → Prop} (x0 : Int32) (x1 : Int32) (hl : lm_Lay h) (hyp : K ((x0 * 6) + x1) h) : lm_call (d + 1) 147 [.int x0, .int x1] h (lm_kI K) := by
  refine ls_enter [some (.int x0), some (.int x1)] ml_147 (Nat.le_of_ble_eq_true rfl) rfl ?_
  refine ls_iload_n f_147_0 rfl ?_
  refine ls_bipush 6 f_147_1 (by decide) ?_
  refine ls_imul (x0 * 6) f_147_3 rfl ?_
  refine ls_iload_n f_147_4 rfl ?_
  refine ls_iadd ((x0 * 6) + x1) f_147_5 rfl ?_
  exact ls_ireturn f_147_6 rI_147 hyp
theorem e_148 {d : Nat} {h : lm_H} {K : Int32 → lm_H → Prop} (x0 : Int32) (x1 : Int32) (hl : lm_Lay h) (hyp : K ((x0 * 7) + x1) h) : lm_call (d + 1) 148 [.int x0, .int x1] h (lm_kI K) := by
  refine ls_enter [some (.int x0), some (.int x1)] ml_148 (Nat.le_of_ble_eq_true rfl) rfl ?_
  refine ls_iload_n f_148_0 rfl ?_
  refine ls_bipush 7 f_148_1 (by decide) ?_
  refine ls_imul (x0 * 7) f_148_3 rfl ?_
  refine ls_iload_n f_148_4 rfl ?_
  refine ls_iadd ((x0 * 7) + x1) f_148_5 rfl ?_
  exact ls_ireturn f_148_6 rI_148 hyp
theorem e_149 {d : Nat} {h : lm_H} {K : Int32 → lm_H → Prop} (x0 : Int32) (hl : lm_Lay h) (hyp : (if x0 = 6 then (K (-1) h) else (K x0 h))) : lm_call (d + 1) 149 [.int x0] h (lm_kI K) := by
  refine ls_enter [some (.int x0)] ml_149 (Nat.le_of_ble_eq_true rfl) rfl ?_
  refine ls_iload_n f_149_0 rfl ?_
  refine ls_bipush 6 f_149_1 (by decide) ?_
  refine ls_icmp_ne 10 f_149_3 rfl hyp (fun _ hyp => ?_) (fun _ hyp => ?_)
  · refine ls_iconst (-1) f_149_6 (by decide) ?_
    refine ls_goto 11 f_149_7 rfl ?_
    exact ls_ireturn f_149_11 rI_149 hyp
  · refine ls_iload_n f_149_10 rfl ?_
    exact ls_ireturn f_149_11 rI_149 hyp
theorem e_150 {d : Nat} {h : lm_H} {K : Int32 → lm_H → Prop} (x0 : Int32) (hl : lm_Lay h) (hyp : lm_W (d) 150 2 [some (.int x0), some (.int 0)] [] h (lm_kI K)) : lm_call (d + 1) 150 [.int x0] h (lm_kI K) := by
  refine ls_enter [some (.int x0), none] ml_150 (Nat.le_of_ble_eq_true rfl) rfl ?_
  refine ls_iconst 0 f_150_0 (by decide) ?_
  refine ls_istore_n [some (.int x0), some (.int 0)] f_150_1 (Nat.le_of_ble_eq_true rfl) rfl ?_
  exact hyp
theorem b_150_2 {d : Nat} {h : lm_H} {K : Int32 → lm_H → Prop} (x0 : Int32) (x1 : Int32) (hl : lm_Lay h) (hyp : (if x1 < 6 then (if ((x0 >>> (x1 &&& 31)) &&& 1) = 1 then (K x1 h) else (lm_W (d) 150 2 [some (.int x0), some (.int (x1 + 1))] [] h (lm_kI K))) else (K 6 h))) : lm_W (d) 150 2 [some (.int x0), some (.int x1)] [] h (lm_kI K) := by
  refine ls_iload_n f_150_2 rfl ?_
  refine ls_bipush 6 f_150_3 (by decide) ?_
  refine ls_icmp_ge 25 f_150_5 rfl hyp (fun _ hyp => ?_) (fun _ hyp => ?_)
  · refine ls_iload_n f_150_8 rfl ?_
    refine ls_iload_n f_150_9 rfl ?_
    refine ls_ishr (x0 >>> (x1 &&& 31)) f_150_10 rfl ?_
    refine ls_iconst 1 f_150_11 (by decide) ?_
    refine ls_iand ((x0 >>> (x1 &&& 31)) &&& 1) f_150_12 rfl ?_
    refine ls_iconst 1 f_150_13 (by decide) ?_
    refine ls_icmp_ne 19 f_150_14 rfl hyp (fun _ hyp => ?_) (fun _ hyp => ?_)
    · refine ls_iload_n f_150_17 rfl ?_
      exact ls_ireturn f_150_18 rI_150 hyp
    · refine ls_iinc (x1 + 1) [some (.int x0), some (.int (x1 + 1))] f_150_19 rfl (Nat.le_of_ble_eq_true rfl) rfl rfl ?_
      refine ls_goto 2 f_150_22 rfl ?_
      exact hyp
  · refine ls_bipush 6 f_150_25 (by decide) ?_
    exact ls_ireturn f_150_27 rI_150 hyp
theorem e_151 {d : Nat} {h : lm_H} {K : Int32 → lm_H → Prop} (x1 : Int32) (hl : lm_Lay h) (hyp : lm_W (d) 151 4 [some (.ref 50), some (.int x1), some (.int 0), some (.int 0)] [] h (lm_kI K)) : lm_call (d + 1) 151 [.ref 50, .int x1] h (lm_kI K) := by
  refine ls_enter [some (.ref 50), some (.int x1), none, none] ml_151 (Nat.le_of_ble_eq_true rfl) rfl ?_
  refine ls_iconst 0 f_151_0 (by decide) ?_
  refine ls_istore_n [some (.ref 50), some (.int x1), some (.int 0), none] f_151_1 (Nat.le_of_ble_eq_true rfl) rfl ?_
  refine ls_iconst 0 f_151_2 (by decide) ?_
  refine ls_istore_n [some (.ref 50), some (.int x1), some (.int 0), some (.int 0)] f_151_3 (Nat.le_of_ble_eq_true rfl) rfl ?_
  exact hyp
theorem b_151_4 {d : Nat} {h : lm_H} {K : Int32 → lm_H → Prop} (x1 : Int32) (x2 : Int32) (x3 : Int32) (hl : lm_Lay h) (hyp : (if x3 < x1 then (lm_in x3 5 False (lm_W (d) 151 4 [some (.ref 50), some (.int x1), some (.int ((x2 * 7) + (lm_i h 50 x3.toNatClampNeg))), some (.int (x3 + 1))] [] h (lm_kI K))) else (K x2 h))) : lm_W (d) 151 4 [some (.ref 50), some (.int x1), some (.int x2), some (.int x3)] [] h (lm_kI K) := by
  refine ls_iload_n f_151_4 rfl ?_
  refine ls_iload_n f_151_5 rfl ?_
  refine ls_icmp_ge 24 f_151_6 rfl hyp (fun _ hyp => ?_) (fun _ hyp => ?_)
  · refine ls_iload_n f_151_9 rfl ?_
    refine ls_bipush 7 f_151_10 (by decide) ?_
    refine ls_imul (x2 * 7) f_151_12 rfl ?_
    refine ls_aload_n f_151_13 rfl ?_
    refine ls_iload_n f_151_14 rfl ?_
    refine ls_iald f_151_15 hl S_50 hyp (fun hyp => ?_)
    refine ls_iadd ((x2 * 7) + (lm_i h 50 x3.toNatClampNeg)) f_151_16 rfl ?_
    refine ls_istore_n [some (.ref 50), some (.int x1), some (.int ((x2 * 7) + (lm_i h 50 x3.toNatClampNeg))), some (.int x3)] f_151_17 (Nat.le_of_ble_eq_true rfl) rfl ?_
    refine ls_iinc (x3 + 1) [some (.ref 50), some (.int x1), some (.int ((x2 * 7) + (lm_i h 50 x3.toNatClampNeg))), some (.int (x3 + 1))] f_151_18 rfl (Nat.le_of_ble_eq_true rfl) rfl rfl ?_
    refine ls_goto 4 f_151_21 rfl ?_
    exact hyp
  · refine ls_iload_n f_151_24 rfl ?_
    exact ls_ireturn f_151_25 rI_151 hyp
