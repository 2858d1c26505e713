theorem e_138 {d : Nat} {h : lm_H} {K : Int32 → lm_H → Prop} (hl : lm_Lay h) (hyp : K (lm_i h 0 15) h) : lm_call (d + 1) 138 [.ref 0] h (lm_kI K) := by
  refine ls_enter [some (.ref 0)] ml_138 (Nat.le_of_ble_eq_true rfl) rfl ?_
  refine ls_aload_n f_138_0 rfl ?_
  refine ls_getI f_138_1 p_138_97 hl S_0 ?_
  exact ls_ireturn f_138_4 rI_138 hyp
theorem e_139 {d : Nat} {h : lm_H} {K : Int32 → lm_H → Prop} (x1 : Int32) (hl : lm_Lay h) (hyp : (if x1 = (-5) then (K x1 (lm_si (lm_si h 0 15 x1) 75 3 ((lm_i h 75 3) + 1))) else (if x1 = (-4) then (K x1 (lm_si (lm_si h 0 15 x1) 75 4 ((lm_i h 75 4) + 1))) else (if x1 = (-3) then (K x1 (lm_si (lm_si h 0 15 x1) 75 2 ((lm_i h 75 2) + 1))) else (if x1 = (-2) then (K x1 (lm_si (lm_si h 0 15 x1) 75 1 ((lm_i h 75 1) + 1))) else (if x1 = (-1) then (K x1 (lm_si (lm_si h 0 15 x1) 75 0 ((lm_i h 75 0) + 1))) else (K x1 (lm_si (lm_si h 0 15 x1) 75 4 ((lm_i h 75 4) + 1))))))))) : lm_call (d + 2) 139 [.ref 0, .int x1] h (lm_kI K) := by
  refine ls_enter [some (.ref 0), some (.int x1)] ml_139 (Nat.le_of_ble_eq_true rfl) rfl ?_
  refine ls_aload_n f_139_0 rfl ?_
  refine ls_iload_n f_139_1 rfl ?_
  refine ls_putI f_139_2 p_139_97 hl S_0 rfl ?_
  refine ls_aload_n f_139_5 rfl ?_
  refine ls_getR f_139_6 p_139_94 (lm_Lay_si hl _ _ _) S_0 F_0_14 ?_
  refine ls_iload_n f_139_9 rfl ?_
  refine ls_invS f_139_10 q_139_335 [.int x1] [.ref 75] rfl (Nat.le_of_ble_eq_true rfl) ?_
  refine ls_enter [some (.int x1)] ml_141 (Nat.le_of_ble_eq_true rfl) rfl ?_
  refine ls_iload_n f_141_0 rfl ?_
  refine ls_table f_141_1 (by decide) ?_
  refine ls_swC (v := (-5)) (by decide) hyp (fun _ hyp => lm_tg_of (t := 42) rfl ?_) (fun _ hyp => ?_)
  · refine ls_iconst 3 f_141_42 (by decide) ?_
    refine ls_ireturn f_141_43 rI_141 ?_
    show lm_W _ _ _ _ [.int 3, .ref 75] _ _
    refine ls_dup2 f_139_13 rfl rfl ?_
    refine ls_ialdC 3 f_139_14 (lm_Lay_si hl _ _ _) S_75 ⟨by decide, by decide, by decide⟩ ?_
    refine ls_top (lm_i h 75 3) rfl ?_
    refine ls_iconst 1 f_139_15 (by decide) ?_
    refine ls_iadd ((lm_i h 75 3) + 1) f_139_16 rfl ?_
    refine ls_iastC 3 f_139_17 (lm_Lay_si hl _ _ _) S_75 ⟨by decide, by decide, by decide⟩ ?_
    refine ls_iload_n f_139_18 rfl ?_
    exact ls_ireturn f_139_19 rI_139 hyp
  refine ls_swC (v := (-4)) (by decide) hyp (fun _ hyp => lm_tg_of (t := 44) rfl ?_) (fun _ hyp => ?_)
  · refine ls_iconst 4 f_141_44 (by decide) ?_
    refine ls_ireturn f_141_45 rI_141 ?_
    show lm_W _ _ _ _ [.int 4, .ref 75] _ _
    refine ls_dup2 f_139_13 rfl rfl ?_
    refine ls_ialdC 4 f_139_14 (lm_Lay_si hl _ _ _) S_75 ⟨by decide, by decide, by decide⟩ ?_
    refine ls_top (lm_i h 75 4) rfl ?_
    refine ls_iconst 1 f_139_15 (by decide) ?_
    refine ls_iadd ((lm_i h 75 4) + 1) f_139_16 rfl ?_
    refine ls_iastC 4 f_139_17 (lm_Lay_si hl _ _ _) S_75 ⟨by decide, by decide, by decide⟩ ?_
    refine ls_iload_n f_139_18 rfl ?_
    exact ls_ireturn f_139_19 rI_139 hyp
  refine ls_swC (v := (-3)) (by decide) hyp (fun _ hyp => lm_tg_of (t := 40) rfl ?_) (fun _ hyp => ?_)
  · refine ls_iconst 2 f_141_40 (by decide) ?_
    refine ls_ireturn f_141_41 rI_141 ?_
    show lm_W _ _ _ _ [.int 2, .ref 75] _ _
    refine ls_dup2 f_139_13 rfl rfl ?_
    refine ls_ialdC 2 f_139_14 (lm_Lay_si hl _ _ _) S_75 ⟨by decide, by decide, by decide⟩ ?_
    refine ls_top (lm_i h 75 2) rfl ?_
    refine ls_iconst 1 f_139_15 (by decide) ?_
    refine ls_iadd ((lm_i h 75 2) + 1) f_139_16 rfl ?_
    refine ls_iastC 2 f_139_17 (lm_Lay_si hl _ _ _) S_75 ⟨by decide, by decide, by decide⟩ ?_
    refine ls_iload_n f_139_18 rfl ?_
    exact ls_ireturn f_139_19 rI_139 hyp
  refine ls_swC (v := (-2)) (by decide) hyp (fun _ hyp => lm_tg_of (t := 38) rfl ?_) (fun _ hyp => ?_)
  · refine ls_iconst 1 f_141_38 (by decide) ?_
    refine ls_ireturn f_141_39 rI_141 ?_
    show lm_W _ _ _ _ [.int 1, .ref 75] _ _
    refine ls_dup2 f_139_13 rfl rfl ?_
    refine ls_ialdC 1 f_139_14 (lm_Lay_si hl _ _ _) S_75 ⟨by decide, by decide, by decide⟩ ?_
    refine ls_top (lm_i h 75 1) rfl ?_
    refine ls_iconst 1 f_139_15 (by decide) ?_
    refine ls_iadd ((lm_i h 75 1) + 1) f_139_16 rfl ?_
    refine ls_iastC 1 f_139_17 (lm_Lay_si hl _ _ _) S_75 ⟨by decide, by decide, by decide⟩ ?_
    refine ls_iload_n f_139_18 rfl ?_
    exact ls_ireturn f_139_19 rI_139 hyp
  refine ls_swC (v := (-1)) (by decide) hyp (fun _ hyp => lm_tg_of (t := 36) rfl ?_) (fun _ hyp => ?_)
  · refine ls_iconst 0 f_141_36 (by decide) ?_
    refine ls_ireturn f_141_37 rI_141 ?_
    show lm_W _ _ _ _ [.int 0, .ref 75] _ _
    refine ls_dup2 f_139_13 rfl rfl ?_
    refine ls_ialdC 0 f_139_14 (lm_Lay_si hl _ _ _) S_75 ⟨by decide, by decide, by decide⟩ ?_
    refine ls_top (lm_i h 75 0) rfl ?_
    refine ls_iconst 1 f_139_15 (by decide) ?_
    refine ls_iadd ((lm_i h 75 0) + 1) f_139_16 rfl ?_
    refine ls_iastC 0 f_139_17 (lm_Lay_si hl _ _ _) S_75 ⟨by decide, by decide, by decide⟩ ?_
    refine ls_iload_n f_139_18 rfl ?_
    exact ls_ireturn f_139_19 rI_139 hyp
  refine ls_swD ?_
  refine lm_tg_of (t := 44) rfl ?_
  refine ls_iconst 4 f_141_44 (by decide) ?_
  refine ls_ireturn f_141_45 rI_141 ?_
  show lm_W _ _ _ _ [.int 4, .ref 75] _ _
  refine ls_dup2 f_139_13 rfl rfl ?_
  refine ls_ialdC 4 f_139_14 (lm_Lay_si hl _ _ _) S_75 ⟨by decide, by decide, by decide⟩ ?_
  refine ls_top (lm_i h 75 4) rfl ?_
  refine ls_iconst 1 f_139_15 (by decide) ?_
  refine ls_iadd ((lm_i h 75 4) + 1) f_139_16 rfl ?_
  refine ls_iastC 4 f_139_17 (lm_Lay_si hl _ _ _) S_75 ⟨by decide, by decide, by decide⟩ ?_
  refine ls_iload_n f_139_18 rfl ?_
  exact ls_ireturn f_139_19 rI_139 hyp
theorem e_140 {d : Nat} {h : lm_H} {K : Int32 → lm_H → Prop} (x1 : Int32) (hl : lm_Lay h) (hyp : K x1 (lm_si h 0 15 0)) : lm_call (d + 1) 140 [.ref 0, .int x1] h (lm_kI K) := by
  refine ls_enter [some (.ref 0), some (.int x1)] ml_140 (Nat.le_of_ble_eq_true rfl) rfl ?_
  refine ls_aload_n f_140_0 rfl ?_
  refine ls_iconst 0 f_140_1 (by decide) ?_
  refine ls_putI f_140_2 p_140_97 hl S_0 rfl ?_
  refine ls_iload_n f_140_5 rfl ?_
  exact ls_ireturn f_140_6 rI_140 hyp
theorem e_141 {d : Nat} {h : lm_H} {K : Int32 → lm_H → Prop} (x0 : Int32) (hl : lm_Lay h) (hyp : (if x0 = (-5) then (K 3 h) else (if x0 = (-4) then (K 4 h) else (if x0 = (-3) then (K 2 h) else (if x0 = (-2) then (K 1 h) else (if x0 = (-1) then (K 0 h) else (K 4 h))))))) : lm_call (d + 1) 141 [.int x0] h (lm_kI K) := by
  refine ls_enter [some (.int x0)] ml_141 (Nat.le_of_ble_eq_true rfl) rfl ?_
  refine ls_iload_n f_141_0 rfl ?_
  refine ls_table f_141_1 (by decide) ?_
  refine ls_swC (v := (-5)) (by decide) hyp (fun _ hyp => lm_tg_of (t := 42) rfl ?_) (fun _ hyp => ?_)
  · refine ls_iconst 3 f_141_42 (by decide) ?_
    exact ls_ireturn f_141_43 rI_141 hyp
  refine ls_swC (v := (-4)) (by decide) hyp (fun _ hyp => lm_tg_of (t := 44) rfl ?_) (fun _ hyp => ?_)
  · refine ls_iconst 4 f_141_44 (by decide) ?_
    exact ls_ireturn f_141_45 rI_141 hyp
  refine ls_swC (v := (-3)) (by decide) hyp (fun _ hyp => lm_tg_of (t := 40) rfl ?_) (fun _ hyp => ?_)
  · refine ls_iconst 2 f_141_40 (by decide) ?_
    exact ls_ireturn f_141_41 rI_141 hyp
  refine ls_swC (v := (-2)) (by decide) hyp (fun _ hyp => lm_tg_of (t := 38) rfl ?_) (fun _ hyp => ?_)
  · refine ls_iconst 1 f_141_38 (by decide) ?_
    exact ls_ireturn f_141_39 rI_141 hyp
  refine ls_swC (v := (-1)) (by decide) hyp (fun _ hyp => lm_tg_of (t := 36) rfl ?_) (fun _ hyp => ?_)
  · refine ls_iconst 0 f_141_36 (by decide) ?_
    exact ls_ireturn f_141_37 rI_141 hyp
  refine ls_swD ?_
  refine lm_tg_of (t := 44) rfl ?_
  refine ls_iconst 4 f_141_44 (by decide) ?_
  exact ls_ireturn f_141_45 rI_141 hyp
theorem e_142 {d : Nat} {h : lm_H} {K : Int32 → lm_H → Prop} (x1 : Int32) (hl : lm_Lay h) (hyp : (if (x1 + 2) < (lm_i h 11 1) then (lm_in x1 400 False (lm_in (x1 + 1) 400 False (lm_in (x1 + 2) 400 False (if ((lm_i h 12 ((x1 + 2).toNatClampNeg)) - 100) < (-99) then (K 0 h) else (if 99 < ((lm_i h 12 ((x1 + 2).toNatClampNeg)) - 100) then (K 0 h) else (if (lm_i h 12 x1.toNatClampNeg) < 0 then (K 0 h) else (if (lm_i h 12 x1.toNatClampNeg) < (lm_i h 1 0) then (if (lm_i h 12 ((x1 + 1).toNatClampNeg)) < 0 then (K 0 h) else (if (lm_i h 12 ((x1 + 1).toNatClampNeg)) < (lm_i h 1 1) then (lm_in (((lm_i h 12 x1.toNatClampNeg) * 6) + (lm_i h 12 ((x1 + 1).toNatClampNeg))) 30 False (K 1 (lm_si h 4 ((((lm_i h 12 x1.toNatClampNeg) * 6) + (lm_i h 12 ((x1 + 1).toNatClampNeg))).toNatClampNeg) ((lm_i h 12 ((x1 + 2).toNatClampNeg)) - 100)))) else (K 0 h))) else (K 0 h)))))))) else (K 0 h))) : lm_call (d + 3) 142 [.ref 0, .int x1] h (lm_kI K) := by
  refine ls_enter [some (.ref 0), some (.int x1), none, none, none] ml_142 (Nat.le_of_ble_eq_true rfl) rfl ?_
  refine ls_iload_n f_142_0 rfl ?_
  refine ls_iconst 2 f_142_1 (by decide) ?_
  refine ls_iadd (x1 + 2) f_142_2 rfl ?_
  refine ls_aload_n f_142_3 rfl ?_
  refine ls_getR f_142_4 p_142_27 hl S_0 F_0_3 ?_
  refine ls_getI f_142_7 p_142_160 hl S_11 ?_
  refine ls_icmp_lt 15 f_142_10 rfl hyp (fun _ hyp => ?_) (fun _ hyp => ?_)
  · refine ls_aload_n f_142_15 rfl ?_
    refine ls_getR f_142_16 p_142_27 hl S_0 F_0_3 ?_
    refine ls_getR f_142_19 p_142_173 hl S_11 F_11_0 ?_
    refine ls_iload_n f_142_22 rfl ?_
    refine ls_iald f_142_23 hl S_12 hyp (fun hyp => ?_)
    refine ls_istore_n [some (.ref 0), some (.int x1), some (.int (lm_i h 12 x1.toNatClampNeg)), none, none] f_142_24 (Nat.le_of_ble_eq_true rfl) rfl ?_
    refine ls_aload_n f_142_25 rfl ?_
    refine ls_getR f_142_26 p_142_27 hl S_0 F_0_3 ?_
    refine ls_getR f_142_29 p_142_173 hl S_11 F_11_0 ?_
    refine ls_iload_n f_142_32 rfl ?_
    refine ls_iconst 1 f_142_33 (by decide) ?_
    refine ls_iadd (x1 + 1) f_142_34 rfl ?_
    refine ls_iald f_142_35 hl S_12 hyp (fun hyp => ?_)
    refine ls_istore_n [some (.ref 0), some (.int x1), some (.int (lm_i h 12 x1.toNatClampNeg)), some (.int (lm_i h 12 ((x1 + 1).toNatClampNeg))), none] f_142_36 (Nat.le_of_ble_eq_true rfl) rfl ?_
    refine ls_aload_n f_142_37 rfl ?_
    refine ls_getR f_142_38 p_142_27 hl S_0 F_0_3 ?_
    refine ls_getR f_142_41 p_142_173 hl S_11 F_11_0 ?_
    refine ls_iload_n f_142_44 rfl ?_
    refine ls_iconst 2 f_142_45 (by decide) ?_
    refine ls_iadd (x1 + 2) f_142_46 rfl ?_
    refine ls_iald f_142_47 hl S_12 hyp (fun hyp => ?_)
    refine ls_bipush 100 f_142_48 (by decide) ?_
    refine ls_isub ((lm_i h 12 ((x1 + 2).toNatClampNeg)) - 100) f_142_50 rfl ?_
    refine ls_istore [some (.ref 0), some (.int x1), some (.int (lm_i h 12 x1.toNatClampNeg)), some (.int (lm_i h 12 ((x1 + 1).toNatClampNeg))), some (.int ((lm_i h 12 ((x1 + 2).toNatClampNeg)) - 100))] f_142_51 (Nat.le_of_ble_eq_true rfl) rfl ?_
    refine ls_iload f_142_53 rfl ?_
    refine ls_invS f_142_55 q_142_126 [.int ((lm_i h 12 ((x1 + 2).toNatClampNeg)) - 100)] [] rfl (Nat.le_of_ble_eq_true rfl) ?_
    refine ls_enter [some (.int ((lm_i h 12 ((x1 + 2).toNatClampNeg)) - 100))] ml_146 (Nat.le_of_ble_eq_true rfl) rfl ?_
    refine ls_iload_n f_146_0 rfl ?_
    refine ls_bipush (-99) f_146_1 (by decide) ?_
    refine ls_icmp_lt 12 f_146_3 rfl hyp (fun _ hyp => ?_) (fun _ hyp => ?_)
    · refine ls_iconst 1 f_146_12 (by decide) ?_
      refine ls_goto 17 f_146_13 rfl ?_
      refine ls_zreturn f_146_17 rZ_146 (by decide) ?_
      show lm_W _ _ _ _ [.int 1] _ _
      refine ls_if_ne_F 73 f_142_58 rfl (by decide) ?_
      refine ls_iconst 0 f_142_73 (by decide) ?_
      exact ls_zreturn f_142_74 rZ_142 (by decide) hyp
    · refine ls_iload_n f_146_6 rfl ?_
      refine ls_bipush 99 f_146_7 (by decide) ?_
      refine ls_icmp_le 16 f_146_9 rfl hyp (fun _ hyp => ?_) (fun _ hyp => ?_)
      · refine ls_iconst 1 f_146_12 (by decide) ?_
        refine ls_goto 17 f_146_13 rfl ?_
        refine ls_zreturn f_146_17 rZ_146 (by decide) ?_
        show lm_W _ _ _ _ [.int 1] _ _
        refine ls_if_ne_F 73 f_142_58 rfl (by decide) ?_
        refine ls_iconst 0 f_142_73 (by decide) ?_
        exact ls_zreturn f_142_74 rZ_142 (by decide) hyp
      · refine ls_iconst 0 f_146_16 (by decide) ?_
        refine ls_zreturn f_146_17 rZ_146 (by decide) ?_
        show lm_W _ _ _ _ [.int 0] _ _
        refine ls_if_ne_T 73 f_142_58 rfl (by decide) ?_
        refine ls_aload_n f_142_61 rfl ?_
        refine ls_getR f_142_62 p_142_12 hl S_0 F_0_0 ?_
        refine ls_iload_n f_142_65 rfl ?_
        refine ls_iload_n f_142_66 rfl ?_
        refine ls_invV (a := 1) f_142_67 q_142_131 [.int (lm_i h 12 x1.toNatClampNeg), .int (lm_i h 12 ((x1 + 1).toNatClampNeg))] [] rfl (Nat.le_of_ble_eq_true rfl) hl S_1 ow_51 ?_
        refine ls_enter [some (.ref 1), some (.int (lm_i h 12 x1.toNatClampNeg)), some (.int (lm_i h 12 ((x1 + 1).toNatClampNeg)))] ml_51 (Nat.le_of_ble_eq_true rfl) rfl ?_
        refine ls_aload_n f_51_0 rfl ?_
        refine ls_iload_n f_51_1 rfl ?_
        refine ls_invV (a := 1) f_51_2 q_51_55 [.int (lm_i h 12 x1.toNatClampNeg)] [] rfl (Nat.le_of_ble_eq_true rfl) hl S_1 ow_49 ?_
        refine ls_enter [some (.ref 1), some (.int (lm_i h 12 x1.toNatClampNeg))] ml_49 (Nat.le_of_ble_eq_true rfl) rfl ?_
        refine ls_iload_n f_49_0 rfl ?_
        refine ls_if_lt 16 f_49_1 rfl hyp (fun _ hyp => ?_) (fun _ hyp => ?_)
        · refine ls_iconst 0 f_49_16 (by decide) ?_
          refine ls_zreturn f_49_17 rZ_49 (by decide) ?_
          show lm_W _ _ _ _ [.int 0] _ _
          refine ls_if_eq_T 20 f_51_5 rfl (by decide) ?_
          refine ls_iconst 0 f_51_20 (by decide) ?_
          refine ls_zreturn f_51_21 rZ_51 (by decide) ?_
          show lm_W _ _ _ _ [.int 0] _ _
          refine ls_if_ne_T 75 f_142_70 rfl (by decide) ?_
          refine ls_iconst 0 f_142_73 (by decide) ?_
          exact ls_zreturn f_142_74 rZ_142 (by decide) hyp
        · refine ls_iload_n f_49_4 rfl ?_
          refine ls_aload_n f_49_5 rfl ?_
          refine ls_getI f_49_6 p_49_9 hl S_1 ?_
          refine ls_icmp_ge 16 f_49_9 rfl hyp (fun _ hyp => ?_) (fun _ hyp => ?_)
          · refine ls_iconst 1 f_49_12 (by decide) ?_
            refine ls_goto 17 f_49_13 rfl ?_
            refine ls_zreturn f_49_17 rZ_49 (by decide) ?_
            show lm_W _ _ _ _ [.int 1] _ _
            refine ls_if_eq_F 20 f_51_5 rfl (by decide) ?_
            refine ls_aload_n f_51_8 rfl ?_
            refine ls_iload_n f_51_9 rfl ?_
            refine ls_invV (a := 1) f_51_10 q_51_59 [.int (lm_i h 12 ((x1 + 1).toNatClampNeg))] [] rfl (Nat.le_of_ble_eq_true rfl) hl S_1 ow_50 ?_
            refine ls_enter [some (.ref 1), some (.int (lm_i h 12 ((x1 + 1).toNatClampNeg)))] ml_50 (Nat.le_of_ble_eq_true rfl) rfl ?_
            refine ls_iload_n f_50_0 rfl ?_
            refine ls_if_lt 16 f_50_1 rfl hyp (fun _ hyp => ?_) (fun _ hyp => ?_)
            · refine ls_iconst 0 f_50_16 (by decide) ?_
              refine ls_zreturn f_50_17 rZ_50 (by decide) ?_
              show lm_W _ _ _ _ [.int 0] _ _
              refine ls_if_eq_T 20 f_51_13 rfl (by decide) ?_
              refine ls_iconst 0 f_51_20 (by decide) ?_
              refine ls_zreturn f_51_21 rZ_51 (by decide) ?_
              show lm_W _ _ _ _ [.int 0] _ _
              refine ls_if_ne_T 75 f_142_70 rfl (by decide) ?_
              refine ls_iconst 0 f_142_73 (by decide) ?_
              exact ls_zreturn f_142_74 rZ_142 (by decide) hyp
            · refine ls_iload_n f_50_4 rfl ?_
              refine ls_aload_n f_50_5 rfl ?_
              refine ls_getI f_50_6 p_50_15 hl S_1 ?_
              refine ls_icmp_ge 16 f_50_9 rfl hyp (fun _ hyp => ?_) (fun _ hyp => ?_)
              · refine ls_iconst 1 f_50_12 (by decide) ?_
                refine ls_goto 17 f_50_13 rfl ?_
                refine ls_zreturn f_50_17 rZ_50 (by decide) ?_
                show lm_W _ _ _ _ [.int 1] _ _
                refine ls_if_eq_F 20 f_51_13 rfl (by decide) ?_
                refine ls_iconst 1 f_51_16 (by decide) ?_
                refine ls_goto 21 f_51_17 rfl ?_
                refine ls_zreturn f_51_21 rZ_51 (by decide) ?_
                show lm_W _ _ _ _ [.int 1] _ _
                refine ls_if_ne_F 75 f_142_70 rfl (by decide) ?_
                refine ls_aload_n f_142_75 rfl ?_
                refine ls_getR f_142_76 p_142_12 hl S_0 F_0_0 ?_
                refine ls_getR f_142_79 p_142_135 hl S_1 F_1_8 ?_
                refine ls_iload_n f_142_82 rfl ?_
                refine ls_iload_n f_142_83 rfl ?_
                refine ls_invS f_142_84 q_142_138 [.int (lm_i h 12 x1.toNatClampNeg), .int (lm_i h 12 ((x1 + 1).toNatClampNeg))] [.ref 4] rfl (Nat.le_of_ble_eq_true rfl) ?_
                refine ls_enter [some (.int (lm_i h 12 x1.toNatClampNeg)), some (.int (lm_i h 12 ((x1 + 1).toNatClampNeg)))] ml_147 (Nat.le_of_ble_eq_true rfl) rfl ?_
                refine ls_iload_n f_147_0 rfl ?_
                refine ls_bipush 6 f_147_1 (by decide) ?_
                refine ls_imul ((lm_i h 12 x1.toNatClampNeg) * 6) f_147_3 rfl ?_
                refine ls_iload_n f_147_4 rfl ?_
                refine ls_iadd (((lm_i h 12 x1.toNatClampNeg) * 6) + (lm_i h 12 ((x1 + 1).toNatClampNeg))) f_147_5 rfl ?_
                refine ls_ireturn f_147_6 rI_147 ?_
                show lm_W _ _ _ _ [.int (((lm_i h 12 x1.toNatClampNeg) * 6) + (lm_i h 12 ((x1 + 1).toNatClampNeg))), .ref 4] _ _
                refine ls_iload f_142_87 rfl ?_
                refine ls_iast f_142_89 hl S_4 hyp (fun hyp => ?_)
                refine ls_iconst 1 f_142_90 (by decide) ?_
                exact ls_zreturn f_142_91 rZ_142 (by decide) hyp
              · refine ls_iconst 0 f_50_16 (by decide) ?_
                refine ls_zreturn f_50_17 rZ_50 (by decide) ?_
                show lm_W _ _ _ _ [.int 0] _ _
                refine ls_if_eq_T 20 f_51_13 rfl (by decide) ?_
                refine ls_iconst 0 f_51_20 (by decide) ?_
                refine ls_zreturn f_51_21 rZ_51 (by decide) ?_
                show lm_W _ _ _ _ [.int 0] _ _
                refine ls_if_ne_T 75 f_142_70 rfl (by decide) ?_
                refine ls_iconst 0 f_142_73 (by decide) ?_
                exact ls_zreturn f_142_74 rZ_142 (by decide) hyp
          · refine ls_iconst 0 f_49_16 (by decide) ?_
            refine ls_zreturn f_49_17 rZ_49 (by decide) ?_
            show lm_W _ _ _ _ [.int 0] _ _
            refine ls_if_eq_T 20 f_51_5 rfl (by decide) ?_
            refine ls_iconst 0 f_51_20 (by decide) ?_
            refine ls_zreturn f_51_21 rZ_51 (by decide) ?_
            show lm_W _ _ _ _ [.int 0] _ _
            refine ls_if_ne_T 75 f_142_70 rfl (by decide) ?_
            refine ls_iconst 0 f_142_73 (by decide) ?_
            exact ls_zreturn f_142_74 rZ_142 (by decide) hyp
  · refine ls_iconst 0 f_142_13 (by decide) ?_
    exact ls_zreturn f_142_14 rZ_142 (by decide) hyp
theorem e_143 {d : Nat} {h : lm_H} {K : lm_H → Prop} (hl : lm_Lay h) (hyp : lm_call (d) 62 [.ref 21, .ref 1, .ref 18, .ref 74, .int 0] h (lm_kV fun h1 => K h1)) : lm_call (d + 1) 143 [.ref 0] h (lm_kV K) := by
  refine ls_enter [some (.ref 0)] ml_143 (Nat.le_of_ble_eq_true rfl) rfl ?_
  refine ls_aload_n f_143_0 rfl ?_
  refine ls_getR f_143_1 p_143_48 hl S_0 F_0_6 ?_
  refine ls_aload_n f_143_4 rfl ?_
  refine ls_getR f_143_5 p_143_12 hl S_0 F_0_0 ?_
  refine ls_aload_n f_143_8 rfl ?_
  refine ls_getR f_143_9 p_143_41 hl S_0 F_0_5 ?_
  refine ls_aload_n f_143_12 rfl ?_
  refine ls_getR f_143_13 p_143_91 hl S_0 F_0_13 ?_
  refine ls_iconst 0 f_143_16 (by decide) ?_
  refine ls_invV (a := 21) f_143_17 q_143_338 [.ref 1, .ref 18, .ref 74, .int 0] [] rfl (Nat.le_of_ble_eq_true rfl) hl S_21 ow_62 ?_
  refine ls_call hyp hl (fun _ h1 hl1 hyp => ?_)
  refine ls_retV hyp (fun hyp => ?_)
  exact ls_return f_143_20 rV_143 hyp
theorem e_144 {d : Nat} {h : lm_H} {K : lm_H → Prop} (hl : lm_Lay h) (hyp : lm_call (d) 62 [.ref 21, .ref 1, .ref 18, .ref 74, .int 0] h (lm_kV fun h1 => lm_W (d) 144 22 [some (.ref 0), some (.int 0)] [] h1 (lm_kV K))) : lm_call (d + 1) 144 [.ref 0] h (lm_kV K) := by
  refine ls_enter [some (.ref 0), none] ml_144 (Nat.le_of_ble_eq_true rfl) rfl ?_
  refine ls_aload_n f_144_0 rfl ?_
  refine ls_getR f_144_1 p_144_48 hl S_0 F_0_6 ?_
  refine ls_aload_n f_144_4 rfl ?_
  refine ls_getR f_144_5 p_144_12 hl S_0 F_0_0 ?_
  refine ls_aload_n f_144_8 rfl ?_
  refine ls_getR f_144_9 p_144_41 hl S_0 F_0_5 ?_
  refine ls_aload_n f_144_12 rfl ?_
  refine ls_getR f_144_13 p_144_91 hl S_0 F_0_13 ?_
  refine ls_iconst 0 f_144_16 (by decide) ?_
  refine ls_invV (a := 21) f_144_17 q_144_338 [.ref 1, .ref 18, .ref 74, .int 0] [] rfl (Nat.le_of_ble_eq_true rfl) hl S_21 ow_62 ?_
  refine ls_call hyp hl (fun _ h1 hl1 hyp => ?_)
  refine ls_retV hyp (fun hyp => ?_)
  refine ls_iconst 0 f_144_20 (by decide) ?_
  refine ls_istore_n [some (.ref 0), some (.int 0)] f_144_21 (Nat.le_of_ble_eq_true rfl) rfl ?_
  exact hyp
theorem b_144_22 {d : Nat} {h : lm_H} {K : lm_H → Prop} (x1 : Int32) (hl : lm_Lay h) (hyp : (if x1 < (lm_i h 1 0) then (lm_in x1 5 False (lm_call (d) 66 [.ref 21, .int x1, .int (lm_i h 5 x1.toNatClampNeg)] h (lm_kI fun r2 h1 => lm_in x1 5 False (lm_W (d) 144 22 [some (.ref 0), some (.int (x1 + 1))] [] (lm_si h1 73 x1.toNatClampNeg r2) (lm_kV K))))) else (K h))) : lm_W (d) 144 22 [some (.ref 0), some (.int x1)] [] h (lm_kV K) := by
  refine ls_iload_n f_144_22 rfl ?_
  refine ls_aload_n f_144_23 rfl ?_
  refine ls_getR f_144_24 p_144_12 hl S_0 F_0_0 ?_
  refine ls_getI f_144_27 p_144_111 hl S_1 ?_
  refine ls_icmp_ge 62 f_144_30 rfl hyp (fun _ hyp => ?_) (fun _ hyp => ?_)
  · refine ls_aload_n f_144_33 rfl ?_
    refine ls_getR f_144_34 p_144_87 hl S_0 F_0_12 ?_
    refine ls_iload_n f_144_37 rfl ?_
    refine ls_aload_n f_144_38 rfl ?_
    refine ls_getR f_144_39 p_144_48 hl S_0 F_0_6 ?_
    refine ls_iload_n f_144_42 rfl ?_
    refine ls_aload_n f_144_43 rfl ?_
    refine ls_getR f_144_44 p_144_12 hl S_0 F_0_0 ?_
    refine ls_getR f_144_47 p_144_196 hl S_1 F_1_9 ?_
    refine ls_iload_n f_144_50 rfl ?_
    refine ls_iald f_144_51 hl S_5 hyp (fun hyp => ?_)
    refine ls_invV (a := 21) f_144_52 q_144_342 [.int x1, .int (lm_i h 5 x1.toNatClampNeg)] [.int x1, .ref 73] rfl (Nat.le_of_ble_eq_true rfl) hl S_21 ow_66 ?_
    refine ls_call hyp hl (fun _ h1 hl1 hyp => ?_)
    refine ls_retI hyp (fun r2 hyp => ?_)
    refine ls_iast f_144_55 hl1 S_73 hyp (fun hyp => ?_)
    refine ls_iinc (x1 + 1) [some (.ref 0), some (.int (x1 + 1))] f_144_56 rfl (Nat.le_of_ble_eq_true rfl) rfl rfl ?_
    refine ls_goto 22 f_144_59 rfl ?_
    exact hyp
  · exact ls_return f_144_62 rV_144 hyp
theorem e_145 {d : Nat} {h : lm_H} {K : lm_H → Prop} (hl : lm_Lay h) (hyp : lm_call (d) 62 [.ref 21, .ref 1, .ref 18, .ref 74, .int 0] h (lm_kV fun h1 => lm_call (d) 55 [.ref 31, .ref 21] h1 (lm_kV fun h2 => K h2))) : lm_call (d + 1) 145 [.ref 0] h (lm_kV K) := by
  refine ls_enter [some (.ref 0)] ml_145 (Nat.le_of_ble_eq_true rfl) rfl ?_
  refine ls_aload_n f_145_0 rfl ?_
  refine ls_getR f_145_1 p_145_48 hl S_0 F_0_6 ?_
  refine ls_aload_n f_145_4 rfl ?_
  refine ls_getR f_145_5 p_145_12 hl S_0 F_0_0 ?_
  refine ls_aload_n f_145_8 rfl ?_
  refine ls_getR f_145_9 p_145_41 hl S_0 F_0_5 ?_
  refine ls_aload_n f_145_12 rfl ?_
  refine ls_getR f_145_13 p_145_91 hl S_0 F_0_13 ?_
  refine ls_iconst 0 f_145_16 (by decide) ?_
  refine ls_invV (a := 21) f_145_17 q_145_338 [.ref 1, .ref 18, .ref 74, .int 0] [] rfl (Nat.le_of_ble_eq_true rfl) hl S_21 ow_62 ?_
  refine ls_call hyp hl (fun _ h1 hl1 hyp => ?_)
  refine ls_retV hyp (fun hyp => ?_)
  refine ls_aload_n f_145_20 rfl ?_
  refine ls_getR f_145_21 p_145_62 hl1 S_0 F_0_8 ?_
  refine ls_aload_n f_145_24 rfl ?_
  refine ls_getR f_145_25 p_145_48 hl1 S_0 F_0_6 ?_
  refine ls_invV (a := 31) f_145_28 q_145_345 [.ref 21] [] rfl (Nat.le_of_ble_eq_true rfl) hl1 S_31 ow_55 ?_
  refine ls_call hyp hl1 (fun _ h2 hl2 hyp => ?_)
  refine ls_retV hyp (fun hyp => ?_)
  exact ls_return f_145_31 rV_145 hyp
theorem e_146 {d : Nat} {h : lm_H} {K : Int32 → lm_H → Prop} (x0 : Int32) (hl : lm_Lay h) (hyp : (if x0 < (-99) then (K 1 h) else (if 99 < x0 then (K 1 h) else (K 0 h)))) : lm_call (d + 1) 146 [.int x0] h (lm_kI K) := by
  refine ls_enter [some (.int x0)] ml_146 (Nat.le_of_ble_eq_true rfl) rfl ?_
  refine ls_iload_n f_146_0 rfl ?_
  refine ls_bipush (-99) f_146_1 (by decide) ?_
  refine ls_icmp_lt 12 f_146_3 rfl hyp (fun _ hyp => ?_) (fun _ hyp => ?_)
  · refine ls_iconst 1 f_146_12 (by decide) ?_
    refine ls_goto 17 f_146_13 rfl ?_
    exact ls_zreturn f_146_17 rZ_146 (by decide) hyp
  · refine ls_iload_n f_146_6 rfl ?_
    refine ls_bipush 99 f_146_7 (by decide) ?_
    refine ls_icmp_le 16 f_146_9 rfl hyp (fun _ hyp => ?_) (fun _ hyp => ?_)
    · refine ls_iconst 1 f_146_12 (by decide) ?_
      refine ls_goto 17 f_146_13 rfl ?_
      exact ls_zreturn f_146_17 rZ_146 (by decide) hyp
    · refine ls_iconst 0 f_146_16 (by decide) ?_
      exact ls_zreturn f_146_17 rZ_146 (by decide) hyp
theorem e_147 {d : Nat} {h : lm_H} {K : Int32 → lm_H → Prop} (x0 : Int32) (x1 : Int32) (hl : lm_Lay h) (hyp : K ((x0 * 6) + x1) h) : lm_call (d + 1) 147 [.int x0, .int x1] h (lm_kI K) := by
  refine ls_enter [some (.int x0), some (.int x1)] ml_147 (Nat.le_of_ble_eq_true rfl) rfl ?_
  refine ls_iload_n f_147_0 rfl ?_
  refine ls_bipush 6 f_147_1 (by decide) ?_
  refine ls_imul (x0 * 6) f_147_3 rfl ?_
  refine ls_iload_n f_147_4 rfl ?_
  refine ls_iadd ((x0 * 6) + x1) f_147_5 rfl ?_
  exact ls_ireturn f_147_6 rI_147 hyp
theorem e_148 {d : Nat} {h : lm_H} {K : Int32 → lm_H → Prop} (x0 : Int32) (x1 : Int32) (hl : lm_Lay h) (hyp : K ((x0 * 7) + x1) h) : lm_call (d + 1) 148 [.int x0, .int x1] h (lm_kI K) := by
  refine ls_enter [some (.int x0), some (.int x1)] ml_148 (Nat.le_of_ble_eq_true rfl) rfl ?_
  refine ls_iload_n f_148_0 rfl ?_
  refine ls_bipush 7 f_148_1 (by decide) ?_
  refine ls_imul (x0 * 7) f_148_3 rfl ?_
  refine ls_iload_n f_148_4 rfl ?_
  refine ls_iadd ((x0 * 7) + x1) f_148_5 rfl ?_
  exact ls_ireturn f_148_6 rI_148 hyp
theorem e_149 {d : Nat} {h : lm_H} {K : Int32 → lm_H → Prop} (x0 : Int32) (hl : lm_Lay h) (hyp : (if x0 = 6 then (K (-1) h) else (K x0 h))) : lm_call (d + 1) 149 [.int x0] h (lm_kI K) := by
  refine ls_enter [some (.int x0)] ml_149 (Nat.le_of_ble_eq_true rfl) rfl ?_
  refine ls_iload_n f_149_0 rfl ?_
  refine ls_bipush 6 f_149_1 (by decide) ?_
  refine ls_icmp_ne 10 f_149_3 rfl hyp (fun _ hyp => ?_) (fun _ hyp => ?_)
  · refine ls_iconst (-1) f_149_6 (by decide) ?_
    refine ls_goto 11 f_149_7 rfl ?_
    exact ls_ireturn f_149_11 rI_149 hyp
  · refine ls_iload_n f_149_10 rfl ?_
    exact ls_ireturn f_149_11 rI_149 hyp
theorem e_150 {d : Nat} {h : lm_H} {K : Int32 → lm_H → Prop} (x0 : Int32) (hl : lm_Lay h) (hyp : lm_W (d) 150 2 [some (.int x0), some (.int 0)] [] h (lm_kI K)) : lm_call (d + 1) 150 [.int x0] h (lm_kI K) := by
  refine ls_enter [some (.int x0), none] ml_150 (Nat.le_of_ble_eq_true rfl) rfl ?_
  refine ls_iconst 0 f_150_0 (by decide) ?_
  refine ls_istore_n [some (.int x0), some (.int 0)] f_150_1 (Nat.le_of_ble_eq_true rfl) rfl ?_
  exact hyp
theorem b_150_2 {d : Nat} {h : lm_H} {K : Int32 → lm_H → Prop} (x0 : Int32) (x1 : Int32) (hl : lm_Lay h) (hyp : (if x1 < 6 then (if ((x0 >>> (x1 &&& 31)) &&& 1) = 1 then (K x1 h) else (lm_W (d) 150 2 [some (.int x0), some (.int (x1 + 1))] [] h (lm_kI K))) else (K 6 h))) : lm_W (d) 150 2 [some (.int x0), some (.int x1)] [] h (lm_kI K) := by
  refine ls_iload_n f_150_2 rfl ?_
  refine ls_bipush 6 f_150_3 (by decide) ?_
  refine ls_icmp_ge 25 f_150_5 rfl hyp (fun _ hyp => ?_) (fun _ hyp => ?_)
  · refine ls_iload_n f_150_8 rfl ?_
    refine ls_iload_n f_150_9 rfl ?_
    refine ls_ishr (x0 >>> (x1 &&& 31)) f_150_10 rfl ?_
    refine ls_iconst 1 f_150_11 (by decide) ?_
    refine ls_iand ((x0 >>> (x1 &&& 31)) &&& 1) f_150_12 rfl ?_
    refine ls_iconst 1 f_150_13 (by decide) ?_
    refine ls_icmp_ne 19 f_150_14 rfl hyp (fun _ hyp => ?_) (fun _ hyp => ?_)
    · refine ls_iload_n f_150_17 rfl ?_
      exact ls_ireturn f_150_18 rI_150 hyp
    · refine ls_iinc (x1 + 1) [some (.int x0), some (.int (x1 + 1))] f_150_19 rfl (Nat.le_of_ble_eq_true rfl) rfl rfl ?_
      refine ls_goto 2 f_150_22 rfl ?_
      exact hyp
  · refine ls_bipush 6 f_150_25 (by decide) ?_
    exact ls_ireturn f_150_27 rI_150 hyp
theorem e_151 {d : Nat} {h : lm_H} {K : Int32 → lm_H → Prop} (x1 : Int32) (hl : lm_Lay h) (hyp : lm_W (d) 151 4 [some (.ref 50), some (.int x1), some (.int 0), some (.int 0)] [] h (lm_kI K)) : lm_call (d + 1) 151 [.ref 50, .int x1] h (lm_kI K) := by
  refine ls_enter [some (.ref 50), some (.int x1), none, none] ml_151 (Nat.le_of_ble_eq_true rfl) rfl ?_
  refine ls_iconst 0 f_151_0 (by decide) ?_
  refine ls_istore_n [some (.ref 50), some (.int x1), some (.int 0), none] f_151_1 (Nat.le_of_ble_eq_true rfl) rfl ?_
  refine ls_iconst 0 f_151_2 (by decide) ?_
  refine ls_istore_n [some (.ref 50), some (.int x1), some (.int 0), some (.int 0)] f_151_3 (Nat.le_of_ble_eq_true rfl) rfl ?_
  exact hyp
theorem b_151_4 {d : Nat} {h : lm_H} {K : Int32 → lm_H → Prop} (x1 : Int32) (x2 : Int32) (x3 : Int32) (hl : lm_Lay h) (hyp : (if x3 < x1 then (lm_in x3 5 False (lm_W (d) 151 4 [some (.ref 50), some (.int x1), some (.int ((x2 * 7) + (lm_i h 50 x3.toNatClampNeg))), some (.int (x3 + 1))] [] h (lm_kI K))) else (K x2 h))) : lm_W (d) 151 4 [some (.ref 50), some (.int x1), some (.int x2), some (.int x3)] [] h (lm_kI K) := by
  refine ls_iload_n f_151_4 rfl ?_
  refine ls_iload_n f_151_5 rfl ?_
  refine ls_icmp_ge 24 f_151_6 rfl hyp (fun _ hyp => ?_) (fun _ hyp => ?_)
  · refine ls_iload_n f_151_9 rfl ?_
    refine ls_bipush 7 f_151_10 (by decide) ?_
    refine ls_imul (x2 * 7) f_151_12 rfl ?_
    refine ls_aload_n f_151_13 rfl ?_
    refine ls_iload_n f_151_14 rfl ?_
    refine ls_iald f_151_15 hl S_50 hyp (fun hyp => ?_)
    refine ls_iadd ((x2 * 7) + (lm_i h 50 x3.toNatClampNeg)) f_151_16 rfl ?_
    refine ls_istore_n [some (.ref 50), some (.int x1), some (.int ((x2 * 7) + (lm_i h 50 x3.toNatClampNeg))), some (.int x3)] f_151_17 (Nat.le_of_ble_eq_true rfl) rfl ?_
    refine ls_iinc (x3 + 1) [some (.ref 50), some (.int x1), some (.int ((x2 * 7) + (lm_i h 50 x3.toNatClampNeg))), some (.int (x3 + 1))] f_151_18 rfl (Nat.le_of_ble_eq_true rfl) rfl rfl ?_
    refine ls_goto 4 f_151_21 rfl ?_
    exact hyp
  · refine ls_iload_n f_151_24 rfl ?_
    exact ls_ireturn f_151_25 rI_151 hyp
theorem e_262 {d : Nat} {h : lm_H} {K : Int32 → lm_H → Prop} (x0 : Int32) (hl : lm_Lay h) (hyp : K ((((((((x0 - (((x0.toUInt32 >>> ((1 : Int32).toUInt32 &&& Int32.toUInt32 31)).toInt32) &&& 1431655765)) &&& 858993459) + ((((x0 - (((x0.toUInt32 >>> ((1 : Int32).toUInt32 &&& Int32.toUInt32 31)).toInt32) &&& 1431655765)).toUInt32 >>> ((2 : Int32).toUInt32 &&& Int32.toUInt32 31)).toInt32) &&& 858993459)) + (((((x0 - (((x0.toUInt32 >>> ((1 : Int32).toUInt32 &&& Int32.toUInt32 31)).toInt32) &&& 1431655765)) &&& 858993459) + ((((x0 - (((x0.toUInt32 >>> ((1 : Int32).toUInt32 &&& Int32.toUInt32 31)).toInt32) &&& 1431655765)).toUInt32 >>> ((2 : Int32).toUInt32 &&& Int32.toUInt32 31)).toInt32) &&& 858993459)).toUInt32 >>> ((4 : Int32).toUInt32 &&& Int32.toUInt32 31)).toInt32)) &&& 252645135) + (((((((x0 - (((x0.toUInt32 >>> ((1 : Int32).toUInt32 &&& Int32.toUInt32 31)).toInt32) &&& 1431655765)) &&& 858993459) + ((((x0 - (((x0.toUInt32 >>> ((1 : Int32).toUInt32 &&& Int32.toUInt32 31)).toInt32) &&& 1431655765)).toUInt32 >>> ((2 : Int32).toUInt32 &&& Int32.toUInt32 31)).toInt32) &&& 858993459)) + (((((x0 - (((x0.toUInt32 >>> ((1 : Int32).toUInt32 &&& Int32.toUInt32 31)).toInt32) &&& 1431655765)) &&& 858993459) + ((((x0 - (((x0.toUInt32 >>> ((1 : Int32).toUInt32 &&& Int32.toUInt32 31)).toInt32) &&& 1431655765)).toUInt32 >>> ((2 : Int32).toUInt32 &&& Int32.toUInt32 31)).toInt32) &&& 858993459)).toUInt32 >>> ((4 : Int32).toUInt32 &&& Int32.toUInt32 31)).toInt32)) &&& 252645135).toUInt32 >>> ((8 : Int32).toUInt32 &&& Int32.toUInt32 31)).toInt32)) + ((((((((x0 - (((x0.toUInt32 >>> ((1 : Int32).toUInt32 &&& Int32.toUInt32 31)).toInt32) &&& 1431655765)) &&& 858993459) + ((((x0 - (((x0.toUInt32 >>> ((1 : Int32).toUInt32 &&& Int32.toUInt32 31)).toInt32) &&& 1431655765)).toUInt32 >>> ((2 : Int32).toUInt32 &&& Int32.toUInt32 31)).toInt32) &&& 858993459)) + (((((x0 - (((x0.toUInt32 >>> ((1 : Int32).toUInt32 &&& Int32.toUInt32 31)).toInt32) &&& 1431655765)) &&& 858993459) + ((((x0 - (((x0.toUInt32 >>> ((1 : Int32).toUInt32 &&& Int32.toUInt32 31)).toInt32) &&& 1431655765)).toUInt32 >>> ((2 : Int32).toUInt32 &&& Int32.toUInt32 31)).toInt32) &&& 858993459)).toUInt32 >>> ((4 : Int32).toUInt32 &&& Int32.toUInt32 31)).toInt32)) &&& 252645135) + (((((((x0 - (((x0.toUInt32 >>> ((1 : Int32).toUInt32 &&& Int32.toUInt32 31)).toInt32) &&& 1431655765)) &&& 858993459) + ((((x0 - (((x0.toUInt32 >>> ((1 : Int32).toUInt32 &&& Int32.toUInt32 31)).toInt32) &&& 1431655765)).toUInt32 >>> ((2 : Int32).toUInt32 &&& Int32.toUInt32 31)).toInt32) &&& 858993459)) + (((((x0 - (((x0.toUInt32 >>> ((1 : Int32).toUInt32 &&& Int32.toUInt32 31)).toInt32) &&& 1431655765)) &&& 858993459) + ((((x0 - (((x0.toUInt32 >>> ((1 : Int32).toUInt32 &&& Int32.toUInt32 31)).toInt32) &&& 1431655765)).toUInt32 >>> ((2 : Int32).toUInt32 &&& Int32.toUInt32 31)).toInt32) &&& 858993459)).toUInt32 >>> ((4 : Int32).toUInt32 &&& Int32.toUInt32 31)).toInt32)) &&& 252645135).toUInt32 >>> ((8 : Int32).toUInt32 &&& Int32.toUInt32 31)).toInt32)).toUInt32 >>> ((16 : Int32).toUInt32 &&& Int32.toUInt32 31)).toInt32)) &&& 63) h) : lm_call (d + 1) 262 [.int x0] h (lm_kI K) := by
  refine ls_enter [some (.int x0)] ml_262 (Nat.le_of_ble_eq_true rfl) rfl ?_
  refine ls_iload_n f_262_0 rfl ?_
  refine ls_iload_n f_262_1 rfl ?_
  refine ls_iconst 1 f_262_2 (by decide) ?_
  refine ls_iushr ((x0.toUInt32 >>> ((1 : Int32).toUInt32 &&& Int32.toUInt32 31)).toInt32) f_262_3 rfl ?_
  refine ls_ldcw f_262_4 k_262_265 ?_
  refine ls_iand (((x0.toUInt32 >>> ((1 : Int32).toUInt32 &&& Int32.toUInt32 31)).toInt32) &&& 1431655765) f_262_7 rfl ?_
  refine ls_isub (x0 - (((x0.toUInt32 >>> ((1 : Int32).toUInt32 &&& Int32.toUInt32 31)).toInt32) &&& 1431655765)) f_262_8 rfl ?_
  refine ls_istore_n [some (.int (x0 - (((x0.toUInt32 >>> ((1 : Int32).toUInt32 &&& Int32.toUInt32 31)).toInt32) &&& 1431655765)))] f_262_9 (Nat.le_of_ble_eq_true rfl) rfl ?_
  refine ls_iload_n f_262_10 rfl ?_
  refine ls_ldcw f_262_11 k_262_266 ?_
  refine ls_iand ((x0 - (((x0.toUInt32 >>> ((1 : Int32).toUInt32 &&& Int32.toUInt32 31)).toInt32) &&& 1431655765)) &&& 858993459) f_262_14 rfl ?_
  refine ls_iload_n f_262_15 rfl ?_
  refine ls_iconst 2 f_262_16 (by decide) ?_
  refine ls_iushr (((x0 - (((x0.toUInt32 >>> ((1 : Int32).toUInt32 &&& Int32.toUInt32 31)).toInt32) &&& 1431655765)).toUInt32 >>> ((2 : Int32).toUInt32 &&& Int32.toUInt32 31)).toInt32) f_262_17 rfl ?_
  refine ls_ldcw f_262_18 k_262_266 ?_
  refine ls_iand ((((x0 - (((x0.toUInt32 >>> ((1 : Int32).toUInt32 &&& Int32.toUInt32 31)).toInt32) &&& 1431655765)).toUInt32 >>> ((2 : Int32).toUInt32 &&& Int32.toUInt32 31)).toInt32) &&& 858993459) f_262_21 rfl ?_
  refine ls_iadd (((x0 - (((x0.toUInt32 >>> ((1 : Int32).toUInt32 &&& Int32.toUInt32 31)).toInt32) &&& 1431655765)) &&& 858993459) + ((((x0 - (((x0.toUInt32 >>> ((1 : Int32).toUInt32 &&& Int32.toUInt32 31)).toInt32) &&& 1431655765)).toUInt32 >>> ((2 : Int32).toUInt32 &&& Int32.toUInt32 31)).toInt32) &&& 858993459)) f_262_22 rfl ?_
  refine ls_istore_n [some (.int (((x0 - (((x0.toUInt32 >>> ((1 : Int32).toUInt32 &&& Int32.toUInt32 31)).toInt32) &&& 1431655765)) &&& 858993459) + ((((x0 - (((x0.toUInt32 >>> ((1 : Int32).toUInt32 &&& Int32.toUInt32 31)).toInt32) &&& 1431655765)).toUInt32 >>> ((2 : Int32).toUInt32 &&& Int32.toUInt32 31)).toInt32) &&& 858993459)))] f_262_23 (Nat.le_of_ble_eq_true rfl) rfl ?_
  refine ls_iload_n f_262_24 rfl ?_
  refine ls_iload_n f_262_25 rfl ?_
  refine ls_iconst 4 f_262_26 (by decide) ?_
  refine ls_iushr (((((x0 - (((x0.toUInt32 >>> ((1 : Int32).toUInt32 &&& Int32.toUInt32 31)).toInt32) &&& 1431655765)) &&& 858993459) + ((((x0 - (((x0.toUInt32 >>> ((1 : Int32).toUInt32 &&& Int32.toUInt32 31)).toInt32) &&& 1431655765)).toUInt32 >>> ((2 : Int32).toUInt32 &&& Int32.toUInt32 31)).toInt32) &&& 858993459)).toUInt32 >>> ((4 : Int32).toUInt32 &&& Int32.toUInt32 31)).toInt32) f_262_27 rfl ?_
  refine ls_iadd ((((x0 - (((x0.toUInt32 >>> ((1 : Int32).toUInt32 &&& Int32.toUInt32 31)).toInt32) &&& 1431655765)) &&& 858993459) + ((((x0 - (((x0.toUInt32 >>> ((1 : Int32).toUInt32 &&& Int32.toUInt32 31)).toInt32) &&& 1431655765)).toUInt32 >>> ((2 : Int32).toUInt32 &&& Int32.toUInt32 31)).toInt32) &&& 858993459)) + (((((x0 - (((x0.toUInt32 >>> ((1 : Int32).toUInt32 &&& Int32.toUInt32 31)).toInt32) &&& 1431655765)) &&& 858993459) + ((((x0 - (((x0.toUInt32 >>> ((1 : Int32).toUInt32 &&& Int32.toUInt32 31)).toInt32) &&& 1431655765)).toUInt32 >>> ((2 : Int32).toUInt32 &&& Int32.toUInt32 31)).toInt32) &&& 858993459)).toUInt32 >>> ((4 : Int32).toUInt32 &&& Int32.toUInt32 31)).toInt32)) f_262_28 rfl ?_
  refine ls_ldcw f_262_29 k_262_267 ?_
  refine ls_iand (((((x0 - (((x0.toUInt32 >>> ((1 : Int32).toUInt32 &&& Int32.toUInt32 31)).toInt32) &&& 1431655765)) &&& 858993459) + ((((x0 - (((x0.toUInt32 >>> ((1 : Int32).toUInt32 &&& Int32.toUInt32 31)).toInt32) &&& 1431655765)).toUInt32 >>> ((2 : Int32).toUInt32 &&& Int32.toUInt32 31)).toInt32) &&& 858993459)) + (((((x0 - (((x0.toUInt32 >>> ((1 : Int32).toUInt32 &&& Int32.toUInt32 31)).toInt32) &&& 1431655765)) &&& 858993459) + ((((x0 - (((x0.toUInt32 >>> ((1 : Int32).toUInt32 &&& Int32.toUInt32 31)).toInt32) &&& 1431655765)).toUInt32 >>> ((2 : Int32).toUInt32 &&& Int32.toUInt32 31)).toInt32) &&& 858993459)).toUInt32 >>> ((4 : Int32).toUInt32 &&& Int32.toUInt32 31)).toInt32)) &&& 252645135) f_262_32 rfl ?_
  refine ls_istore_n [some (.int (((((x0 - (((x0.toUInt32 >>> ((1 : Int32).toUInt32 &&& Int32.toUInt32 31)).toInt32) &&& 1431655765)) &&& 858993459) + ((((x0 - (((x0.toUInt32 >>> ((1 : Int32).toUInt32 &&& Int32.toUInt32 31)).toInt32) &&& 1431655765)).toUInt32 >>> ((2 : Int32).toUInt32 &&& Int32.toUInt32 31)).toInt32) &&& 858993459)) + (((((x0 - (((x0.toUInt32 >>> ((1 : Int32).toUInt32 &&& Int32.toUInt32 31)).toInt32) &&& 1431655765)) &&& 858993459) + ((((x0 - (((x0.toUInt32 >>> ((1 : Int32).toUInt32 &&& Int32.toUInt32 31)).toInt32) &&& 1431655765)).toUInt32 >>> ((2 : Int32).toUInt32 &&& Int32.toUInt32 31)).toInt32) &&& 858993459)).toUInt32 >>> ((4 : Int32).toUInt32 &&& Int32.toUInt32 31)).toInt32)) &&& 252645135))] f_262_33 (Nat.le_of_ble_eq_true rfl) rfl ?_
  refine ls_iload_n f_262_34 rfl ?_
  refine ls_iload_n f_262_35 rfl ?_
  refine ls_bipush 8 f_262_36 (by decide) ?_
  refine ls_iushr (((((((x0 - (((x0.toUInt32 >>> ((1 : Int32).toUInt32 &&& Int32.toUInt32 31)).toInt32) &&& 1431655765)) &&& 858993459) + ((((x0 - (((x0.toUInt32 >>> ((1 : Int32).toUInt32 &&& Int32.toUInt32 31)).toInt32) &&& 1431655765)).toUInt32 >>> ((2 : Int32).toUInt32 &&& Int32.toUInt32 31)).toInt32) &&& 858993459)) + (((((x0 - (((x0.toUInt32 >>> ((1 : Int32).toUInt32 &&& Int32.toUInt32 31)).toInt32) &&& 1431655765)) &&& 858993459) + ((((x0 - (((x0.toUInt32 >>> ((1 : Int32).toUInt32 &&& Int32.toUInt32 31)).toInt32) &&& 1431655765)).toUInt32 >>> ((2 : Int32).toUInt32 &&& Int32.toUInt32 31)).toInt32) &&& 858993459)).toUInt32 >>> ((4 : Int32).toUInt32 &&& Int32.toUInt32 31)).toInt32)) &&& 252645135).toUInt32 >>> ((8 : Int32).toUInt32 &&& Int32.toUInt32 31)).toInt32) f_262_38 rfl ?_
  refine ls_iadd ((((((x0 - (((x0.toUInt32 >>> ((1 : Int32).toUInt32 &&& Int32.toUInt32 31)).toInt32) &&& 1431655765)) &&& 858993459) + ((((x0 - (((x0.toUInt32 >>> ((1 : Int32).toUInt32 &&& Int32.toUInt32 31)).toInt32) &&& 1431655765)).toUInt32 >>> ((2 : Int32).toUInt32 &&& Int32.toUInt32 31)).toInt32) &&& 858993459)) + (((((x0 - (((x0.toUInt32 >>> ((1 : Int32).toUInt32 &&& Int32.toUInt32 31)).toInt32) &&& 1431655765)) &&& 858993459) + ((((x0 - (((x0.toUInt32 >>> ((1 : Int32).toUInt32 &&& Int32.toUInt32 31)).toInt32) &&& 1431655765)).toUInt32 >>> ((2 : Int32).toUInt32 &&& Int32.toUInt32 31)).toInt32) &&& 858993459)).toUInt32 >>> ((4 : Int32).toUInt32 &&& Int32.toUInt32 31)).toInt32)) &&& 252645135) + (((((((x0 - (((x0.toUInt32 >>> ((1 : Int32).toUInt32 &&& Int32.toUInt32 31)).toInt32) &&& 1431655765)) &&& 858993459) + ((((x0 - (((x0.toUInt32 >>> ((1 : Int32).toUInt32 &&& Int32.toUInt32 31)).toInt32) &&& 1431655765)).toUInt32 >>> ((2 : Int32).toUInt32 &&& Int32.toUInt32 31)).toInt32) &&& 858993459)) + (((((x0 - (((x0.toUInt32 >>> ((1 : Int32).toUInt32 &&& Int32.toUInt32 31)).toInt32) &&& 1431655765)) &&& 858993459) + ((((x0 - (((x0.toUInt32 >>> ((1 : Int32).toUInt32 &&& Int32.toUInt32 31)).toInt32) &&& 1431655765)).toUInt32 >>> ((2 : Int32).toUInt32 &&& Int32.toUInt32 31)).toInt32) &&& 858993459)).toUInt32 >>> ((4 : Int32).toUInt32 &&& Int32.toUInt32 31)).toInt32)) &&& 252645135).toUInt32 >>> ((8 : Int32).toUInt32 &&& Int32.toUInt32 31)).toInt32)) f_262_39 rfl ?_
  refine ls_istore_n [some (.int ((((((x0 - (((x0.toUInt32 >>> ((1 : Int32).toUInt32 &&& Int32.toUInt32 31)).toInt32) &&& 1431655765)) &&& 858993459) + ((((x0 - (((x0.toUInt32 >>> ((1 : Int32).toUInt32 &&& Int32.toUInt32 31)).toInt32) &&& 1431655765)).toUInt32 >>> ((2 : Int32).toUInt32 &&& Int32.toUInt32 31)).toInt32) &&& 858993459)) + (((((x0 - (((x0.toUInt32 >>> ((1 : Int32).toUInt32 &&& Int32.toUInt32 31)).toInt32) &&& 1431655765)) &&& 858993459) + ((((x0 - (((x0.toUInt32 >>> ((1 : Int32).toUInt32 &&& Int32.toUInt32 31)).toInt32) &&& 1431655765)).toUInt32 >>> ((2 : Int32).toUInt32 &&& Int32.toUInt32 31)).toInt32) &&& 858993459)).toUInt32 >>> ((4 : Int32).toUInt32 &&& Int32.toUInt32 31)).toInt32)) &&& 252645135) + (((((((x0 - (((x0.toUInt32 >>> ((1 : Int32).toUInt32 &&& Int32.toUInt32 31)).toInt32) &&& 1431655765)) &&& 858993459) + ((((x0 - (((x0.toUInt32 >>> ((1 : Int32).toUInt32 &&& Int32.toUInt32 31)).toInt32) &&& 1431655765)).toUInt32 >>> ((2 : Int32).toUInt32 &&& Int32.toUInt32 31)).toInt32) &&& 858993459)) + (((((x0 - (((x0.toUInt32 >>> ((1 : Int32).toUInt32 &&& Int32.toUInt32 31)).toInt32) &&& 1431655765)) &&& 858993459) + ((((x0 - (((x0.toUInt32 >>> ((1 : Int32).toUInt32 &&& Int32.toUInt32 31)).toInt32) &&& 1431655765)).toUInt32 >>> ((2 : Int32).toUInt32 &&& Int32.toUInt32 31)).toInt32) &&& 858993459)).toUInt32 >>> ((4 : Int32).toUInt32 &&& Int32.toUInt32 31)).toInt32)) &&& 252645135).toUInt32 >>> ((8 : Int32).toUInt32 &&& Int32.toUInt32 31)).toInt32)))] f_262_40 (Nat.le_of_ble_eq_true rfl) rfl ?_
  refine ls_iload_n f_262_41 rfl ?_
  refine ls_iload_n f_262_42 rfl ?_
  refine ls_bipush 16 f_262_43 (by decide) ?_
  refine ls_iushr ((((((((x0 - (((x0.toUInt32 >>> ((1 : Int32).toUInt32 &&& Int32.toUInt32 31)).toInt32) &&& 1431655765)) &&& 858993459) + ((((x0 - (((x0.toUInt32 >>> ((1 : Int32).toUInt32 &&& Int32.toUInt32 31)).toInt32) &&& 1431655765)).toUInt32 >>> ((2 : Int32).toUInt32 &&& Int32.toUInt32 31)).toInt32) &&& 858993459)) + (((((x0 - (((x0.toUInt32 >>> ((1 : Int32).toUInt32 &&& Int32.toUInt32 31)).toInt32) &&& 1431655765)) &&& 858993459) + ((((x0 - (((x0.toUInt32 >>> ((1 : Int32).toUInt32 &&& Int32.toUInt32 31)).toInt32) &&& 1431655765)).toUInt32 >>> ((2 : Int32).toUInt32 &&& Int32.toUInt32 31)).toInt32) &&& 858993459)).toUInt32 >>> ((4 : Int32).toUInt32 &&& Int32.toUInt32 31)).toInt32)) &&& 252645135) + (((((((x0 - (((x0.toUInt32 >>> ((1 : Int32).toUInt32 &&& Int32.toUInt32 31)).toInt32) &&& 1431655765)) &&& 858993459) + ((((x0 - (((x0.toUInt32 >>> ((1 : Int32).toUInt32 &&& Int32.toUInt32 31)).toInt32) &&& 1431655765)).toUInt32 >>> ((2 : Int32).toUInt32 &&& Int32.toUInt32 31)).toInt32) &&& 858993459)) + (((((x0 - (((x0.toUInt32 >>> ((1 : Int32).toUInt32 &&& Int32.toUInt32 31)).toInt32) &&& 1431655765)) &&& 858993459) + ((((x0 - (((x0.toUInt32 >>> ((1 : Int32).toUInt32 &&& Int32.toUInt32 31)).toInt32) &&& 1431655765)).toUInt32 >>> ((2 : Int32).toUInt32 &&& Int32.toUInt32 31)).toInt32) &&& 858993459)).toUInt32 >>> ((4 : Int32).toUInt32 &&& Int32.toUInt32 31)).toInt32)) &&& 252645135).toUInt32 >>> ((8 : Int32).toUInt32 &&& Int32.toUInt32 31)).toInt32)).toUInt32 >>> ((16 : Int32).toUInt32 &&& Int32.toUInt32 31)).toInt32) f_262_45 rfl ?_
  refine ls_iadd (((((((x0 - (((x0.toUInt32 >>> ((1 : Int32).toUInt32 &&& Int32.toUInt32 31)).toInt32) &&& 1431655765)) &&& 858993459) + ((((x0 - (((x0.toUInt32 >>> ((1 : Int32).toUInt32 &&& Int32.toUInt32 31)).toInt32) &&& 1431655765)).toUInt32 >>> ((2 : Int32).toUInt32 &&& Int32.toUInt32 31)).toInt32) &&& 858993459)) + (((((x0 - (((x0.toUInt32 >>> ((1 : Int32).toUInt32 &&& Int32.toUInt32 31)).toInt32) &&& 1431655765)) &&& 858993459) + ((((x0 - (((x0.toUInt32 >>> ((1 : Int32).toUInt32 &&& Int32.toUInt32 31)).toInt32) &&& 1431655765)).toUInt32 >>> ((2 : Int32).toUInt32 &&& Int32.toUInt32 31)).toInt32) &&& 858993459)).toUInt32 >>> ((4 : Int32).toUInt32 &&& Int32.toUInt32 31)).toInt32)) &&& 252645135) + (((((((x0 - (((x0.toUInt32 >>> ((1 : Int32).toUInt32 &&& Int32.toUInt32 31)).toInt32) &&& 1431655765)) &&& 858993459) + ((((x0 - (((x0.toUInt32 >>> ((1 : Int32).toUInt32 &&& Int32.toUInt32 31)).toInt32) &&& 1431655765)).toUInt32 >>> ((2 : Int32).toUInt32 &&& Int32.toUInt32 31)).toInt32) &&& 858993459)) + (((((x0 - (((x0.toUInt32 >>> ((1 : Int32).toUInt32 &&& Int32.toUInt32 31)).toInt32) &&& 1431655765)) &&& 858993459) + ((((x0 - (((x0.toUInt32 >>> ((1 : Int32).toUInt32 &&& Int32.toUInt32 31)).toInt32) &&& 1431655765)).toUInt32 >>> ((2 : Int32).toUInt32 &&& Int32.toUInt32 31)).toInt32) &&& 858993459)).toUInt32 >>> ((4 : Int32).toUInt32 &&& Int32.toUInt32 31)).toInt32)) &&& 252645135).toUInt32 >>> ((8 : Int32).toUInt32 &&& Int32.toUInt32 31)).toInt32)) + ((((((((x0 - (((x0.toUInt32 >>> ((1 : Int32).toUInt32 &&& Int32.toUInt32 31)).toInt32) &&& 1431655765)) &&& 858993459) + ((((x0 - (((x0.toUInt32 >>> ((1 : Int32).toUInt32 &&& Int32.toUInt32 31)).toInt32) &&& 1431655765)).toUInt32 >>> ((2 : Int32).toUInt32 &&& Int32.toUInt32 31)).toInt32) &&& 858993459)) + (((((x0 - (((x0.toUInt32 >>> ((1 : Int32).toUInt32 &&& Int32.toUInt32 31)).toInt32) &&& 1431655765)) &&& 858993459) + ((((x0 - (((x0.toUInt32 >>> ((1 : Int32).toUInt32 &&& Int32.toUInt32 31)).toInt32) &&& 1431655765)).toUInt32 >>> ((2 : Int32).toUInt32 &&& Int32.toUInt32 31)).toInt32) &&& 858993459)).toUInt32 >>> ((4 : Int32).toUInt32 &&& Int32.toUInt32 31)).toInt32)) &&& 252645135) + (((((((x0 - (((x0.toUInt32 >>> ((1 : Int32).toUInt32 &&& Int32.toUInt32 31)).toInt32) &&& 1431655765)) &&& 858993459) + ((((x0 - (((x0.toUInt32 >>> ((1 : Int32).toUInt32 &&& Int32.toUInt32 31)).toInt32) &&& 1431655765)).toUInt32 >>> ((2 : Int32).toUInt32 &&& Int32.toUInt32 31)).toInt32) &&& 858993459)) + (((((x0 - (((x0.toUInt32 >>> ((1 : Int32).toUInt32 &&& Int32.toUInt32 31)).toInt32) &&& 1431655765)) &&& 858993459) + ((((x0 - (((x0.toUInt32 >>> ((1 : Int32).toUInt32 &&& Int32.toUInt32 31)).toInt32) &&& 1431655765)).toUInt32 >>> ((2 : Int32).toUInt32 &&& Int32.toUInt32 31)).toInt32) &&& 858993459)).toUInt32 >>> ((4 : Int32).toUInt32 &&& Int32.toUInt32 31)).toInt32)) &&& 252645135).toUInt32 >>> ((8 : Int32).toUInt32 &&& Int32.toUInt32 31)).toInt32)).toUInt32 >>> ((16 : Int32).toUInt32 &&& Int32.toUInt32 31)).toInt32)) f_262_46 rfl ?_
  refine ls_istore_n [some (.int (((((((x0 - (((x0.toUInt32 >>> ((1 : Int32).toUInt32 &&& Int32.toUInt32 31)).toInt32) &&& 1431655765)) &&& 858993459) + ((((x0 - (((x0.toUInt32 >>> ((1 : Int32).toUInt32 &&& Int32.toUInt32 31)).toInt32) &&& 1431655765)).toUInt32 >>> ((2 : Int32).toUInt32 &&& Int32.toUInt32 31)).toInt32) &&& 858993459)) + (((((x0 - (((x0.toUInt32 >>> ((1 : Int32).toUInt32 &&& Int32.toUInt32 31)).toInt32) &&& 1431655765)) &&& 858993459) + ((((x0 - (((x0.toUInt32 >>> ((1 : Int32).toUInt32 &&& Int32.toUInt32 31)).toInt32) &&& 1431655765)).toUInt32 >>> ((2 : Int32).toUInt32 &&& Int32.toUInt32 31)).toInt32) &&& 858993459)).toUInt32 >>> ((4 : Int32).toUInt32 &&& Int32.toUInt32 31)).toInt32)) &&& 252645135) + (((((((x0 - (((x0.toUInt32 >>> ((1 : Int32).toUInt32 &&& Int32.toUInt32 31)).toInt32) &&& 1431655765)) &&& 858993459) + ((((x0 - (((x0.toUInt32 >>> ((1 : Int32).toUInt32 &&& Int32.toUInt32 31)).toInt32) &&& 1431655765)).toUInt32 >>> ((2 : Int32).toUInt32 &&& Int32.toUInt32 31)).toInt32) &&& 858993459)) + (((((x0 - (((x0.toUInt32 >>> ((1 : Int32).toUInt32 &&& Int32.toUInt32 31)).toInt32) &&& 1431655765)) &&& 858993459) + ((((x0 - (((x0.toUInt32 >>> ((1 : Int32).toUInt32 &&& Int32.toUInt32 31)).toInt32) &&& 1431655765)).toUInt32 >>> ((2 : Int32).toUInt32 &&& Int32.toUInt32 31)).toInt32) &&& 858993459)).toUInt32 >>> ((4 : Int32).toUInt32 &&& Int32.toUInt32 31)).toInt32)) &&& 252645135).toUInt32 >>> ((8 : Int32).toUInt32 &&& Int32.toUInt32 31)).toInt32)) + ((((((((x0 - (((x0.toUInt32 >>> ((1 : Int32).toUInt32 &&& Int32.toUInt32 31)).toInt32) &&& 1431655765)) &&& 858993459) + ((((x0 - (((x0.toUInt32 >>> ((1 : Int32).toUInt32 &&& Int32.toUInt32 31)).toInt32) &&& 1431655765)).toUInt32 >>> ((2 : Int32).toUInt32 &&& Int32.toUInt32 31)).toInt32) &&& 858993459)) + (((((x0 - (((x0.toUInt32 >>> ((1 : Int32).toUInt32 &&& Int32.toUInt32 31)).toInt32) &&& 1431655765)) &&& 858993459) + ((((x0 - (((x0.toUInt32 >>> ((1 : Int32).toUInt32 &&& Int32.toUInt32 31)).toInt32) &&& 1431655765)).toUInt32 >>> ((2 : Int32).toUInt32 &&& Int32.toUInt32 31)).toInt32) &&& 858993459)).toUInt32 >>> ((4 : Int32).toUInt32 &&& Int32.toUInt32 31)).toInt32)) &&& 252645135) + (((((((x0 - (((x0.toUInt32 >>> ((1 : Int32).toUInt32 &&& Int32.toUInt32 31)).toInt32) &&& 1431655765)) &&& 858993459) + ((((x0 - (((x0.toUInt32 >>> ((1 : Int32).toUInt32 &&& Int32.toUInt32 31)).toInt32) &&& 1431655765)).toUInt32 >>> ((2 : Int32).toUInt32 &&& Int32.toUInt32 31)).toInt32) &&& 858993459)) + (((((x0 - (((x0.toUInt32 >>> ((1 : Int32).toUInt32 &&& Int32.toUInt32 31)).toInt32) &&& 1431655765)) &&& 858993459) + ((((x0 - (((x0.toUInt32 >>> ((1 : Int32).toUInt32 &&& Int32.toUInt32 31)).toInt32) &&& 1431655765)).toUInt32 >>> ((2 : Int32).toUInt32 &&& Int32.toUInt32 31)).toInt32) &&& 858993459)).toUInt32 >>> ((4 : Int32).toUInt32 &&& Int32.toUInt32 31)).toInt32)) &&& 252645135).toUInt32 >>> ((8 : Int32).toUInt32 &&& Int32.toUInt32 31)).toInt32)).toUInt32 >>> ((16 : Int32).toUInt32 &&& Int32.toUInt32 31)).toInt32)))] f_262_47 (Nat.le_of_ble_eq_true rfl) rfl ?_
  refine ls_iload_n f_262_48 rfl ?_
  refine ls_bipush 63 f_262_49 (by decide) ?_
  refine ls_iand ((((((((x0 - (((x0.toUInt32 >>> ((1 : Int32).toUInt32 &&& Int32.toUInt32 31)).toInt32) &&& 1431655765)) &&& 858993459) + ((((x0 - (((x0.toUInt32 >>> ((1 : Int32).toUInt32 &&& Int32.toUInt32 31)).toInt32) &&& 1431655765)).toUInt32 >>> ((2 : Int32).toUInt32 &&& Int32.toUInt32 31)).toInt32) &&& 858993459)) + (((((x0 - (((x0.toUInt32 >>> ((1 : Int32).toUInt32 &&& Int32.toUInt32 31)).toInt32) &&& 1431655765)) &&& 858993459) + ((((x0 - (((x0.toUInt32 >>> ((1 : Int32).toUInt32 &&& Int32.toUInt32 31)).toInt32) &&& 1431655765)).toUInt32 >>> ((2 : Int32).toUInt32 &&& Int32.toUInt32 31)).toInt32) &&& 858993459)).toUInt32 >>> ((4 : Int32).toUInt32 &&& Int32.toUInt32 31)).toInt32)) &&& 252645135) + (((((((x0 - (((x0.toUInt32 >>> ((1 : Int32).toUInt32 &&& Int32.toUInt32 31)).toInt32) &&& 1431655765)) &&& 858993459) + ((((x0 - (((x0.toUInt32 >>> ((1 : Int32).toUInt32 &&& Int32.toUInt32 31)).toInt32) &&& 1431655765)).toUInt32 >>> ((2 : Int32).toUInt32 &&& Int32.toUInt32 31)).toInt32) &&& 858993459)) + (((((x0 - (((x0.toUInt32 >>> ((1 : Int32).toUInt32 &&& Int32.toUInt32 31)).toInt32) &&& 1431655765)) &&& 858993459) + ((((x0 - (((x0.toUInt32 >>> ((1 : Int32).toUInt32 &&& Int32.toUInt32 31)).toInt32) &&& 1431655765)).toUInt32 >>> ((2 : Int32).toUInt32 &&& Int32.toUInt32 31)).toInt32) &&& 858993459)).toUInt32 >>> ((4 : Int32).toUInt32 &&& Int32.toUInt32 31)).toInt32)) &&& 252645135).toUInt32 >>> ((8 : Int32).toUInt32 &&& Int32.toUInt32 31)).toInt32)) + ((((((((x0 - (((x0.toUInt32 >>> ((1 : Int32).toUInt32 &&& Int32.toUInt32 31)).toInt32) &&& 1431655765)) &&& 858993459) + ((((x0 - (((x0.toUInt32 >>> ((1 : Int32).toUInt32 &&& Int32.toUInt32 31)).toInt32) &&& 1431655765)).toUInt32 >>> ((2 : Int32).toUInt32 &&& Int32.toUInt32 31)).toInt32) &&& 858993459)) + (((((x0 - (((x0.toUInt32 >>> ((1 : Int32).toUInt32 &&& Int32.toUInt32 31)).toInt32) &&& 1431655765)) &&& 858993459) + ((((x0 - (((x0.toUInt32 >>> ((1 : Int32).toUInt32 &&& Int32.toUInt32 31)).toInt32) &&& 1431655765)).toUInt32 >>> ((2 : Int32).toUInt32 &&& Int32.toUInt32 31)).toInt32) &&& 858993459)).toUInt32 >>> ((4 : Int32).toUInt32 &&& Int32.toUInt32 31)).toInt32)) &&& 252645135) + (((((((x0 - (((x0.toUInt32 >>> ((1 : Int32).toUInt32 &&& Int32.toUInt32 31)).toInt32) &&& 1431655765)) &&& 858993459) + ((((x0 - (((x0.toUInt32 >>> ((1 : Int32).toUInt32 &&& Int32.toUInt32 31)).toInt32) &&& 1431655765)).toUInt32 >>> ((2 : Int32).toUInt32 &&& Int32.toUInt32 31)).toInt32) &&& 858993459)) + (((((x0 - (((x0.toUInt32 >>> ((1 : Int32).toUInt32 &&& Int32.toUInt32 31)).toInt32) &&& 1431655765)) &&& 858993459) + ((((x0 - (((x0.toUInt32 >>> ((1 : Int32).toUInt32 &&& Int32.toUInt32 31)).toInt32) &&& 1431655765)).toUInt32 >>> ((2 : Int32).toUInt32 &&& Int32.toUInt32 31)).toInt32) &&& 858993459)).toUInt32 >>> ((4 : Int32).toUInt32 &&& Int32.toUInt32 31)).toInt32)) &&& 252645135).toUInt32 >>> ((8 : Int32).toUInt32 &&& Int32.toUInt32 31)).toInt32)).toUInt32 >>> ((16 : Int32).toUInt32 &&& Int32.toUInt32 31)).toInt32)) &&& 63) f_262_51 rfl ?_
  exact ls_ireturn f_262_52 rI_262 hyp
