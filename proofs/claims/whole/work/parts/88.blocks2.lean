theorem e_25 {d : Nat} {h : lm_H} {K : Option Nat → lm_H → Prop} (x2 : Int32) (hl : lm_Lay h) (hyp : lm_call (d) 26 [.ref 13, .ref 12, .int (if 400 < x2 then 400 else x2)] h (lm_kV fun h1 => lm_call (d) 37 [.ref 13] (lm_si (lm_si (lm_si (lm_si h1 13 4 0) 13 5 0) 13 6 0) 13 7 (-1)) (lm_kI fun r3 h2 => lm_W (d) 25 40 [some (.ref 13), none, none, some (.int r3), some (.int 1)] [] h2 (lm_kR K)))) : lm_call (d + 1) 25 [.ref 13, .ref 12, .int x2] h (lm_kR K) := by
  refine ls_enter [some (.ref 13), some (.ref 12), some (.int x2), none, none] ml_25 (Nat.le_of_ble_eq_true rfl) rfl ?_
  refine ls_aload_n f_25_0 rfl ?_
  refine ls_aload_n f_25_1 rfl ?_
  refine ls_iload_n f_25_2 rfl ?_
  refine ls_sipush 400 f_25_3 (by decide) ?_
  refine ls_mathI (v := if 400 < x2 then 400 else x2) 1003 f_25_6 q_25_37 (Or.inr ⟨rfl, rfl⟩) (Nat.le_of_ble_eq_true rfl) ?_
  refine ls_invV (a := 13) f_25_9 q_25_43 [.ref 12, .int (if 400 < x2 then 400 else x2)] [] rfl (Nat.le_of_ble_eq_true rfl) hl S_13 ow_26 ?_
  refine ls_call hyp hl (fun _ h1 hl1 hyp => ?_)
  refine ls_retV hyp (fun hyp => ?_)
  refine ls_aload_n f_25_12 rfl ?_
  refine ls_iconst 0 f_25_13 (by decide) ?_
  refine ls_putI f_25_14 p_25_24 hl1 S_13 rfl ?_
  refine ls_aload_n f_25_17 rfl ?_
  refine ls_iconst 0 f_25_18 (by decide) ?_
  refine ls_putI f_25_19 p_25_28 (lm_Lay_si hl1 _ _ _) S_13 rfl ?_
  refine ls_aload_n f_25_22 rfl ?_
  refine ls_iconst 0 f_25_23 (by decide) ?_
  refine ls_putI f_25_24 p_25_31 (lm_Lay_si (lm_Lay_si hl1 _ _ _) _ _ _) S_13 rfl ?_
  refine ls_aload_n f_25_27 rfl ?_
  refine ls_iconst (-1) f_25_28 (by decide) ?_
  refine ls_putI f_25_29 p_25_34 (lm_Lay_si (lm_Lay_si (lm_Lay_si hl1 _ _ _) _ _ _) _ _ _) S_13 rfl ?_
  refine ls_aload_n f_25_32 rfl ?_
  refine ls_invV (a := 13) f_25_33 q_25_47 [] [] rfl (Nat.le_of_ble_eq_true rfl) (lm_Lay_si (lm_Lay_si (lm_Lay_si (lm_Lay_si hl1 _ _ _) _ _ _) _ _ _) _ _ _) S_13 ow_37 ?_
  refine ls_call hyp (lm_Lay_si (lm_Lay_si (lm_Lay_si (lm_Lay_si hl1 _ _ _) _ _ _) _ _ _) _ _ _) (fun _ h2 hl2 hyp => ?_)
  refine ls_retI hyp (fun r3 hyp => ?_)
  refine ls_istore_n [some (.ref 13), some (.ref 12), some (.int x2), some (.int r3), none] f_25_36 (Nat.le_of_ble_eq_true rfl) rfl ?_
  refine ls_iconst 1 f_25_37 (by decide) ?_
  refine ls_istore [some (.ref 13), some (.ref 12), some (.int x2), some (.int r3), some (.int 1)] f_25_38 (Nat.le_of_ble_eq_true rfl) rfl ?_
  exact ls_mask [true, false, false, true, true] [some (.ref 13), none, none, some (.int r3), some (.int 1)] rfl hyp
theorem b_25_40 {d : Nat} {h : lm_H} {K : Option Nat → lm_H → Prop} (x3 : Int32) (x4 : Int32) (hl : lm_Lay h) (hyp : (if x3 = 0 then (if x3 = 0 then (if x3 = 0 then (K none h) else (lm_W (d) 25 118 [some (.ref 13), none, none, none, none] [] h (lm_kR K))) else (lm_call (d) 33 [.ref 13] h (lm_kI fun r2 h1 => (if r2 = 256 then (if x3 = 0 then (K none h1) else (lm_W (d) 25 118 [some (.ref 13), none, none, none, none] [] h1 (lm_kR K))) else (lm_call (d) 34 [.ref 13] h1 (lm_kI fun r4 h3 => (if r4 = 0 then (K none h3) else (lm_W (d) 25 118 [some (.ref 13), none, none, none, none] [] h3 (lm_kR K))))))))) else (if 12 < x4 then (if x3 = 0 then (if x3 = 0 then (K none h) else (lm_W (d) 25 118 [some (.ref 13), none, none, none, none] [] h (lm_kR K))) else (lm_call (d) 33 [.ref 13] h (lm_kI fun r6 h5 => (if r6 = 256 then (if x3 = 0 then (K none h5) else (lm_W (d) 25 118 [some (.ref 13), none, none, none, none] [] h5 (lm_kR K))) else (lm_call (d) 34 [.ref 13] h5 (lm_kI fun r8 h7 => (if r8 = 0 then (K none h7) else (lm_W (d) 25 118 [some (.ref 13), none, none, none, none] [] h7 (lm_kR K))))))))) else (lm_call (d) 33 [.ref 13] h (lm_kI fun r10 h9 => (if r10 = 59 then (if x4 < 12 then (lm_call (d) 37 [.ref 13] (lm_si h9 13 4 ((lm_i h9 13 4) + 1)) (lm_kI fun r12 h11 => lm_W (d) 25 40 [some (.ref 13), none, none, some (.int r12), some (.int (x4 + 1))] [] h11 (lm_kR K))) else (lm_call (d) 34 [.ref 13] (lm_si h9 13 4 ((lm_i h9 13 4) + 1)) (lm_kI fun r14 h13 => lm_W (d) 25 40 [some (.ref 13), none, none, some (.int r14), some (.int (x4 + 1))] [] h13 (lm_kR K)))) else (if x3 = 0 then (if x3 = 0 then (K none h9) else (lm_W (d) 25 118 [some (.ref 13), none, none, none, none] [] h9 (lm_kR K))) else (lm_call (d) 33 [.ref 13] h9 (lm_kI fun r16 h15 => (if r16 = 256 then (if x3 = 0 then (K none h15) else (lm_W (d) 25 118 [some (.ref 13), none, none, none, none] [] h15 (lm_kR K))) else (lm_call (d) 34 [.ref 13] h15 (lm_kI fun r18 h17 => (if r18 = 0 then (K none h17) else (lm_W (d) 25 118 [some (.ref 13), none, none, none, none] [] h17 (lm_kR K))))))))))))))) : lm_W (d) 25 40 [some (.ref 13), none, none, some (.int x3), some (.int x4)] [] h (lm_kR K) := by
  refine ls_iload_n f_25_40 rfl ?_
  refine ls_if_eq 95 f_25_41 rfl hyp (fun _ hyp => ?_) (fun _ hyp => ?_)
  · refine ls_iload_n f_25_95 rfl ?_
    refine ls_if_eq 114 f_25_96 rfl hyp (fun _ hyp => ?_) (fun _ hyp => ?_)
    · refine ls_iload_n f_25_114 rfl ?_
      refine ls_if_eq 139 f_25_115 rfl hyp (fun _ hyp => ?_) (fun _ hyp => ?_)
      · refine ls_null f_25_139 ?_
        exact ls_areturn (x := none) f_25_140 rZ_25 rfl hyp
      · exact ls_mask [true, false, false, false, false] [some (.ref 13), none, none, none, none] rfl hyp
    · refine ls_aload_n f_25_99 rfl ?_
      refine ls_invV (a := 13) f_25_100 q_25_51 [] [] rfl (Nat.le_of_ble_eq_true rfl) hl S_13 ow_33 ?_
      refine ls_call hyp hl (fun _ h1 hl1 hyp => ?_)
      refine ls_retI hyp (fun r2 hyp => ?_)
      refine ls_sipush 256 f_25_103 (by decide) ?_
      refine ls_icmp_eq 114 f_25_106 rfl hyp (fun _ hyp => ?_) (fun _ hyp => ?_)
      · refine ls_iload_n f_25_114 rfl ?_
        refine ls_if_eq 139 f_25_115 rfl hyp (fun _ hyp => ?_) (fun _ hyp => ?_)
        · refine ls_null f_25_139 ?_
          exact ls_areturn (x := none) f_25_140 rZ_25 rfl hyp
        · exact ls_mask [true, false, false, false, false] [some (.ref 13), none, none, none, none] rfl hyp
      · refine ls_aload_n f_25_109 rfl ?_
        refine ls_invV (a := 13) f_25_110 q_25_55 [] [] rfl (Nat.le_of_ble_eq_true rfl) hl1 S_13 ow_34 ?_
        refine ls_call hyp hl1 (fun _ h3 hl3 hyp => ?_)
        refine ls_retI hyp (fun r4 hyp => ?_)
        refine ls_istore_n [some (.ref 13), none, none, some (.int r4), some (.int x4)] f_25_113 (Nat.le_of_ble_eq_true rfl) rfl ?_
        refine ls_iload_n f_25_114 rfl ?_
        refine ls_if_eq 139 f_25_115 rfl hyp (fun _ hyp => ?_) (fun _ hyp => ?_)
        · refine ls_null f_25_139 ?_
          exact ls_areturn (x := none) f_25_140 rZ_25 rfl hyp
        · exact ls_mask [true, false, false, false, false] [some (.ref 13), none, none, none, none] rfl hyp
  · refine ls_iload f_25_44 rfl ?_
    refine ls_bipush 12 f_25_46 (by decide) ?_
    refine ls_icmp_gt 95 f_25_48 rfl hyp (fun _ hyp => ?_) (fun _ hyp => ?_)
    · refine ls_iload_n f_25_95 rfl ?_
      refine ls_if_eq 114 f_25_96 rfl hyp (fun _ hyp => ?_) (fun _ hyp => ?_)
      · refine ls_iload_n f_25_114 rfl ?_
        refine ls_if_eq 139 f_25_115 rfl hyp (fun _ hyp => ?_) (fun _ hyp => ?_)
        · refine ls_null f_25_139 ?_
          exact ls_areturn (x := none) f_25_140 rZ_25 rfl hyp
        · exact ls_mask [true, false, false, false, false] [some (.ref 13), none, none, none, none] rfl hyp
      · refine ls_aload_n f_25_99 rfl ?_
        refine ls_invV (a := 13) f_25_100 q_25_51 [] [] rfl (Nat.le_of_ble_eq_true rfl) hl S_13 ow_33 ?_
        refine ls_call hyp hl (fun _ h5 hl5 hyp => ?_)
        refine ls_retI hyp (fun r6 hyp => ?_)
        refine ls_sipush 256 f_25_103 (by decide) ?_
        refine ls_icmp_eq 114 f_25_106 rfl hyp (fun _ hyp => ?_) (fun _ hyp => ?_)
        · refine ls_iload_n f_25_114 rfl ?_
          refine ls_if_eq 139 f_25_115 rfl hyp (fun _ hyp => ?_) (fun _ hyp => ?_)
          · refine ls_null f_25_139 ?_
            exact ls_areturn (x := none) f_25_140 rZ_25 rfl hyp
          · exact ls_mask [true, false, false, false, false] [some (.ref 13), none, none, none, none] rfl hyp
        · refine ls_aload_n f_25_109 rfl ?_
          refine ls_invV (a := 13) f_25_110 q_25_55 [] [] rfl (Nat.le_of_ble_eq_true rfl) hl5 S_13 ow_34 ?_
          refine ls_call hyp hl5 (fun _ h7 hl7 hyp => ?_)
          refine ls_retI hyp (fun r8 hyp => ?_)
          refine ls_istore_n [some (.ref 13), none, none, some (.int r8), some (.int x4)] f_25_113 (Nat.le_of_ble_eq_true rfl) rfl ?_
          refine ls_iload_n f_25_114 rfl ?_
          refine ls_if_eq 139 f_25_115 rfl hyp (fun _ hyp => ?_) (fun _ hyp => ?_)
          · refine ls_null f_25_139 ?_
            exact ls_areturn (x := none) f_25_140 rZ_25 rfl hyp
          · exact ls_mask [true, false, false, false, false] [some (.ref 13), none, none, none, none] rfl hyp
    · refine ls_aload_n f_25_51 rfl ?_
      refine ls_invV (a := 13) f_25_52 q_25_51 [] [] rfl (Nat.le_of_ble_eq_true rfl) hl S_13 ow_33 ?_
      refine ls_call hyp hl (fun _ h9 hl9 hyp => ?_)
      refine ls_retI hyp (fun r10 hyp => ?_)
      refine ls_bipush 59 f_25_55 (by decide) ?_
      refine ls_icmp_ne 95 f_25_57 rfl hyp (fun _ hyp => ?_) (fun _ hyp => ?_)
      · refine ls_aload_n f_25_60 rfl ?_
        refine ls_dup f_25_61 rfl ?_
        refine ls_getI f_25_62 p_25_24 hl9 S_13 ?_
        refine ls_iconst 1 f_25_65 (by decide) ?_
        refine ls_iadd ((lm_i h9 13 4) + 1) f_25_66 rfl ?_
        refine ls_putI f_25_67 p_25_24 hl9 S_13 rfl ?_
        refine ls_iload f_25_70 rfl ?_
        refine ls_bipush 12 f_25_72 (by decide) ?_
        refine ls_icmp_ge 84 f_25_74 rfl hyp (fun _ hyp => ?_) (fun _ hyp => ?_)
        · refine ls_aload_n f_25_77 rfl ?_
          refine ls_invV (a := 13) f_25_78 q_25_47 [] [] rfl (Nat.le_of_ble_eq_true rfl) (lm_Lay_si hl9 _ _ _) S_13 ow_37 ?_
          refine ls_call hyp (lm_Lay_si hl9 _ _ _) (fun _ h11 hl11 hyp => ?_)
          refine ls_retI hyp (fun r12 hyp => ?_)
          refine ls_goto 88 f_25_81 rfl ?_
          refine ls_istore_n [some (.ref 13), none, none, some (.int r12), some (.int x4)] f_25_88 (Nat.le_of_ble_eq_true rfl) rfl ?_
          refine ls_iinc (x4 + 1) [some (.ref 13), none, none, some (.int r12), some (.int (x4 + 1))] f_25_89 rfl (Nat.le_of_ble_eq_true rfl) rfl rfl ?_
          refine ls_goto 40 f_25_92 rfl ?_
          exact hyp
        · refine ls_aload_n f_25_84 rfl ?_
          refine ls_invV (a := 13) f_25_85 q_25_55 [] [] rfl (Nat.le_of_ble_eq_true rfl) (lm_Lay_si hl9 _ _ _) S_13 ow_34 ?_
          refine ls_call hyp (lm_Lay_si hl9 _ _ _) (fun _ h13 hl13 hyp => ?_)
          refine ls_retI hyp (fun r14 hyp => ?_)
          refine ls_istore_n [some (.ref 13), none, none, some (.int r14), some (.int x4)] f_25_88 (Nat.le_of_ble_eq_true rfl) rfl ?_
          refine ls_iinc (x4 + 1) [some (.ref 13), none, none, some (.int r14), some (.int (x4 + 1))] f_25_89 rfl (Nat.le_of_ble_eq_true rfl) rfl rfl ?_
          refine ls_goto 40 f_25_92 rfl ?_
          exact hyp
      · refine ls_iload_n f_25_95 rfl ?_
        refine ls_if_eq 114 f_25_96 rfl hyp (fun _ hyp => ?_) (fun _ hyp => ?_)
        · refine ls_iload_n f_25_114 rfl ?_
          refine ls_if_eq 139 f_25_115 rfl hyp (fun _ hyp => ?_) (fun _ hyp => ?_)
          · refine ls_null f_25_139 ?_
            exact ls_areturn (x := none) f_25_140 rZ_25 rfl hyp
          · exact ls_mask [true, false, false, false, false] [some (.ref 13), none, none, none, none] rfl hyp
        · refine ls_aload_n f_25_99 rfl ?_
          refine ls_invV (a := 13) f_25_100 q_25_51 [] [] rfl (Nat.le_of_ble_eq_true rfl) hl9 S_13 ow_33 ?_
          refine ls_call hyp hl9 (fun _ h15 hl15 hyp => ?_)
          refine ls_retI hyp (fun r16 hyp => ?_)
          refine ls_sipush 256 f_25_103 (by decide) ?_
          refine ls_icmp_eq 114 f_25_106 rfl hyp (fun _ hyp => ?_) (fun _ hyp => ?_)
          · refine ls_iload_n f_25_114 rfl ?_
            refine ls_if_eq 139 f_25_115 rfl hyp (fun _ hyp => ?_) (fun _ hyp => ?_)
            · refine ls_null f_25_139 ?_
              exact ls_areturn (x := none) f_25_140 rZ_25 rfl hyp
            · exact ls_mask [true, false, false, false, false] [some (.ref 13), none, none, none, none] rfl hyp
          · refine ls_aload_n f_25_109 rfl ?_
            refine ls_invV (a := 13) f_25_110 q_25_55 [] [] rfl (Nat.le_of_ble_eq_true rfl) hl15 S_13 ow_34 ?_
            refine ls_call hyp hl15 (fun _ h17 hl17 hyp => ?_)
            refine ls_retI hyp (fun r18 hyp => ?_)
            refine ls_istore_n [some (.ref 13), none, none, some (.int r18), some (.int x4)] f_25_113 (Nat.le_of_ble_eq_true rfl) rfl ?_
            refine ls_iload_n f_25_114 rfl ?_
            refine ls_if_eq 139 f_25_115 rfl hyp (fun _ hyp => ?_) (fun _ hyp => ?_)
            · refine ls_null f_25_139 ?_
              exact ls_areturn (x := none) f_25_140 rZ_25 rfl hyp
            · exact ls_mask [true, false, false, false, false] [some (.ref 13), none, none, none, none] rfl hyp
