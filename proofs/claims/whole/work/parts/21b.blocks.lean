theorem b_530_137 {d : Nat} {h : lm_H} {K : lm_H → Prop} (x2 : Int32) (hl : lm_Lay h) (hyp : (if x2 < 6 then (lm_in x2 6 False (lm_in x2 6 False ((∀ b, (lm_r h 8 x2.toNatClampNeg) = some b → lm_sh h b = some (0, 2)) ∧ (lm_W (d) 53 137 [some (.ref 76), some (.ref 1), some (.int (x2 + 1))] [] (lm_sr h 83 x2.toNatClampNeg (lm_r h 8 x2.toNatClampNeg)) (lm_kV K))))) else (K h))) : lm_W (d) 53 137 [some (.ref 76), some (.ref 1), some (.int x2)] [] h (lm_kV K) := by
  refine ls_iload_n f_53_137 rfl ?_
  refine ls_bipush 6 f_53_138 (by decide) ?_
  refine ls_icmp_ge 161 f_53_140 rfl hyp (fun _ hyp => ?_) (fun _ hyp => ?_)
  · refine ls_aload_n f_53_143 rfl ?_
    refine ls_getR f_53_144 p_53_51 hl S_76 F_76_12 ?_
    refine ls_iload_n f_53_147 rfl ?_
    refine ls_aload_n f_53_148 rfl ?_
    refine ls_getR f_53_149 p_53_51 hl S_1 F_1_12 ?_
    refine ls_iload_n f_53_152 rfl ?_
    refine ls_aald f_53_153 hl S_8 hyp (fun hyp => ?_)
    refine ls_aast (o := (lm_r h 8 x2.toNatClampNeg)) f_53_154 hl S_83 hyp (fun hyp => ?_)
    refine ls_iinc (x2 + 1) [some (.ref 76), some (.ref 1), some (.int (x2 + 1))] f_53_155 rfl (Nat.le_of_ble_eq_true rfl) rfl rfl ?_
    refine ls_goto 137 f_53_158 rfl ?_
    exact hyp
  · exact ls_return f_53_161 rV_53 hyp
theorem e_531 {d : Nat} {h : lm_H} {K : lm_H → Prop} (hl : lm_Lay h) (hyp : lm_W (d) 53 137 [some (.ref 84), some (.ref 1), some (.int 0)] [] (lm_row (lm_row (lm_row (lm_row (lm_row (lm_row (lm_si (lm_si (lm_si (lm_si (lm_si (lm_si h 84 0 (lm_i h 1 0)) 84 1 (lm_i h 1 1)) 84 2 (lm_i h 1 2)) 84 3 (lm_i h 1 3)) 84 4 (lm_i h 1 4)) 84 5 (lm_i h 1 5)) 85 (va_cpy (h.2.1 2) (h.2.1 85) 0 0 5)) 86 (va_cpy (h.2.1 3) (h.2.1 86) 0 0 6)) 87 (va_cpy (h.2.1 4) (h.2.1 87) 0 0 30)) 88 (va_cpy (h.2.1 5) (h.2.1 88) 0 0 5)) 89 (va_cpy (h.2.1 6) (h.2.1 89) 0 0 30)) 90 (va_cpy (h.2.1 7) (h.2.1 90) 0 0 5)) (lm_kV K)) : lm_call (d + 1) 53 [.ref 84, .ref 1] h (lm_kV K) := by
  refine ls_enter [some (.ref 84), some (.ref 1), none] ml_53 (Nat.le_of_ble_eq_true rfl) rfl ?_
  refine ls_aload_n f_53_0 rfl ?_
  refine ls_aload_n f_53_1 rfl ?_
  refine ls_getI f_53_2 p_53_9 hl S_1 ?_
  refine ls_putI f_53_5 p_53_9 hl S_84 rfl ?_
  refine ls_aload_n f_53_8 rfl ?_
  refine ls_aload_n f_53_9 rfl ?_
  refine ls_getI f_53_10 p_53_15 (lm_Lay_si hl _ _ _) S_1 ?_
  refine ls_top (lm_i h 1 1) rfl ?_
  refine ls_putI f_53_13 p_53_15 (lm_Lay_si hl _ _ _) S_84 rfl ?_
  refine ls_aload_n f_53_16 rfl ?_
  refine ls_aload_n f_53_17 rfl ?_
  refine ls_getI f_53_18 p_53_18 (lm_Lay_si (lm_Lay_si hl _ _ _) _ _ _) S_1 ?_
  refine ls_top (lm_i h 1 2) rfl ?_
  refine ls_putI f_53_21 p_53_18 (lm_Lay_si (lm_Lay_si hl _ _ _) _ _ _) S_84 rfl ?_
  refine ls_aload_n f_53_24 rfl ?_
  refine ls_aload_n f_53_25 rfl ?_
  refine ls_getI f_53_26 p_53_21 (lm_Lay_si (lm_Lay_si (lm_Lay_si hl _ _ _) _ _ _) _ _ _) S_1 ?_
  refine ls_top (lm_i h 1 3) rfl ?_
  refine ls_putI f_53_29 p_53_21 (lm_Lay_si (lm_Lay_si (lm_Lay_si hl _ _ _) _ _ _) _ _ _) S_84 rfl ?_
  refine ls_aload_n f_53_32 rfl ?_
  refine ls_aload_n f_53_33 rfl ?_
  refine ls_getI f_53_34 p_53_24 (lm_Lay_si (lm_Lay_si (lm_Lay_si (lm_Lay_si hl _ _ _) _ _ _) _ _ _) _ _ _) S_1 ?_
  refine ls_top (lm_i h 1 4) rfl ?_
  refine ls_putI f_53_37 p_53_24 (lm_Lay_si (lm_Lay_si (lm_Lay_si (lm_Lay_si hl _ _ _) _ _ _) _ _ _) _ _ _) S_84 rfl ?_
  refine ls_aload_n f_53_40 rfl ?_
  refine ls_aload_n f_53_41 rfl ?_
  refine ls_getI f_53_42 p_53_27 (lm_Lay_si (lm_Lay_si (lm_Lay_si (lm_Lay_si (lm_Lay_si hl _ _ _) _ _ _) _ _ _) _ _ _) _ _ _) S_1 ?_
  refine ls_top (lm_i h 1 5) rfl ?_
  refine ls_putI f_53_45 p_53_27 (lm_Lay_si (lm_Lay_si (lm_Lay_si (lm_Lay_si (lm_Lay_si hl _ _ _) _ _ _) _ _ _) _ _ _) _ _ _) S_84 rfl ?_
  refine ls_aload_n f_53_48 rfl ?_
  refine ls_getR f_53_49 p_53_30 (lm_Lay_si (lm_Lay_si (lm_Lay_si (lm_Lay_si (lm_Lay_si (lm_Lay_si hl _ _ _) _ _ _) _ _ _) _ _ _) _ _ _) _ _ _) S_1 F_1_6 ?_
  refine ls_iconst 0 f_53_52 (by decide) ?_
  refine ls_aload_n f_53_53 rfl ?_
  refine ls_getR f_53_54 p_53_30 (lm_Lay_si (lm_Lay_si (lm_Lay_si (lm_Lay_si (lm_Lay_si (lm_Lay_si hl _ _ _) _ _ _) _ _ _) _ _ _) _ _ _) _ _ _) S_84 F_84_6 ?_
  refine ls_iconst 0 f_53_57 (by decide) ?_
  refine ls_iconst 5 f_53_58 (by decide) ?_
  refine ls_cpy f_53_59 q_53_66 (lm_Lay_si (lm_Lay_si (lm_Lay_si (lm_Lay_si (lm_Lay_si (lm_Lay_si hl _ _ _) _ _ _) _ _ _) _ _ _) _ _ _) _ _ _) S_2 S_85 ⟨by decide, Nat.le_of_ble_eq_true rfl⟩ ?_
  refine ls_heap (lm_row (lm_si (lm_si (lm_si (lm_si (lm_si (lm_si h 84 0 (lm_i h 1 0)) 84 1 (lm_i h 1 1)) 84 2 (lm_i h 1 2)) 84 3 (lm_i h 1 3)) 84 4 (lm_i h 1 4)) 84 5 (lm_i h 1 5)) 85 (va_cpy (h.2.1 2) (h.2.1 85) 0 0 5)) rfl ?_
  refine ls_aload_n f_53_62 rfl ?_
  refine ls_getR f_53_63 p_53_34 (lm_Lay_row (lm_Lay_si (lm_Lay_si (lm_Lay_si (lm_Lay_si (lm_Lay_si (lm_Lay_si hl _ _ _) _ _ _) _ _ _) _ _ _) _ _ _) _ _ _) _ _) S_1 F_1_7 ?_
  refine ls_iconst 0 f_53_66 (by decide) ?_
  refine ls_aload_n f_53_67 rfl ?_
  refine ls_getR f_53_68 p_53_34 (lm_Lay_row (lm_Lay_si (lm_Lay_si (lm_Lay_si (lm_Lay_si (lm_Lay_si (lm_Lay_si hl _ _ _) _ _ _) _ _ _) _ _ _) _ _ _) _ _ _) _ _) S_84 F_84_7 ?_
  refine ls_iconst 0 f_53_71 (by decide) ?_
  refine ls_bipush 6 f_53_72 (by decide) ?_
  refine ls_cpy f_53_74 q_53_66 (lm_Lay_row (lm_Lay_si (lm_Lay_si (lm_Lay_si (lm_Lay_si (lm_Lay_si (lm_Lay_si hl _ _ _) _ _ _) _ _ _) _ _ _) _ _ _) _ _ _) _ _) S_3 S_86 ⟨by decide, Nat.le_of_ble_eq_true rfl⟩ ?_
  refine ls_heap (lm_row (lm_row (lm_si (lm_si (lm_si (lm_si (lm_si (lm_si h 84 0 (lm_i h 1 0)) 84 1 (lm_i h 1 1)) 84 2 (lm_i h 1 2)) 84 3 (lm_i h 1 3)) 84 4 (lm_i h 1 4)) 84 5 (lm_i h 1 5)) 85 (va_cpy (h.2.1 2) (h.2.1 85) 0 0 5)) 86 (va_cpy (h.2.1 3) (h.2.1 86) 0 0 6)) rfl ?_
  refine ls_aload_n f_53_77 rfl ?_
  refine ls_getR f_53_78 p_53_37 (lm_Lay_row (lm_Lay_row (lm_Lay_si (lm_Lay_si (lm_Lay_si (lm_Lay_si (lm_Lay_si (lm_Lay_si hl _ _ _) _ _ _) _ _ _) _ _ _) _ _ _) _ _ _) _ _) _ _) S_1 F_1_8 ?_
  refine ls_iconst 0 f_53_81 (by decide) ?_
  refine ls_aload_n f_53_82 rfl ?_
  refine ls_getR f_53_83 p_53_37 (lm_Lay_row (lm_Lay_row (lm_Lay_si (lm_Lay_si (lm_Lay_si (lm_Lay_si (lm_Lay_si (lm_Lay_si hl _ _ _) _ _ _) _ _ _) _ _ _) _ _ _) _ _ _) _ _) _ _) S_84 F_84_8 ?_
  refine ls_iconst 0 f_53_86 (by decide) ?_
  refine ls_bipush 30 f_53_87 (by decide) ?_
  refine ls_cpy f_53_89 q_53_66 (lm_Lay_row (lm_Lay_row (lm_Lay_si (lm_Lay_si (lm_Lay_si (lm_Lay_si (lm_Lay_si (lm_Lay_si hl _ _ _) _ _ _) _ _ _) _ _ _) _ _ _) _ _ _) _ _) _ _) S_4 S_87 ⟨by decide, Nat.le_of_ble_eq_true rfl⟩ ?_
  refine ls_heap (lm_row (lm_row (lm_row (lm_si (lm_si (lm_si (lm_si (lm_si (lm_si h 84 0 (lm_i h 1 0)) 84 1 (lm_i h 1 1)) 84 2 (lm_i h 1 2)) 84 3 (lm_i h 1 3)) 84 4 (lm_i h 1 4)) 84 5 (lm_i h 1 5)) 85 (va_cpy (h.2.1 2) (h.2.1 85) 0 0 5)) 86 (va_cpy (h.2.1 3) (h.2.1 86) 0 0 6)) 87 (va_cpy (h.2.1 4) (h.2.1 87) 0 0 30)) rfl ?_
  refine ls_aload_n f_53_92 rfl ?_
  refine ls_getR f_53_93 p_53_40 (lm_Lay_row (lm_Lay_row (lm_Lay_row (lm_Lay_si (lm_Lay_si (lm_Lay_si (lm_Lay_si (lm_Lay_si (lm_Lay_si hl _ _ _) _ _ _) _ _ _) _ _ _) _ _ _) _ _ _) _ _) _ _) _ _) S_1 F_1_9 ?_
  refine ls_iconst 0 f_53_96 (by decide) ?_
  refine ls_aload_n f_53_97 rfl ?_
  refine ls_getR f_53_98 p_53_40 (lm_Lay_row (lm_Lay_row (lm_Lay_row (lm_Lay_si (lm_Lay_si (lm_Lay_si (lm_Lay_si (lm_Lay_si (lm_Lay_si hl _ _ _) _ _ _) _ _ _) _ _ _) _ _ _) _ _ _) _ _) _ _) _ _) S_84 F_84_9 ?_
  refine ls_iconst 0 f_53_101 (by decide) ?_
  refine ls_iconst 5 f_53_102 (by decide) ?_
  refine ls_cpy f_53_103 q_53_66 (lm_Lay_row (lm_Lay_row (lm_Lay_row (lm_Lay_si (lm_Lay_si (lm_Lay_si (lm_Lay_si (lm_Lay_si (lm_Lay_si hl _ _ _) _ _ _) _ _ _) _ _ _) _ _ _) _ _ _) _ _) _ _) _ _) S_5 S_88 ⟨by decide, Nat.le_of_ble_eq_true rfl⟩ ?_
  refine ls_heap (lm_row (lm_row (lm_row (lm_row (lm_si (lm_si (lm_si (lm_si (lm_si (lm_si h 84 0 (lm_i h 1 0)) 84 1 (lm_i h 1 1)) 84 2 (lm_i h 1 2)) 84 3 (lm_i h 1 3)) 84 4 (lm_i h 1 4)) 84 5 (lm_i h 1 5)) 85 (va_cpy (h.2.1 2) (h.2.1 85) 0 0 5)) 86 (va_cpy (h.2.1 3) (h.2.1 86) 0 0 6)) 87 (va_cpy (h.2.1 4) (h.2.1 87) 0 0 30)) 88 (va_cpy (h.2.1 5) (h.2.1 88) 0 0 5)) rfl ?_
  refine ls_aload_n f_53_106 rfl ?_
  refine ls_getR f_53_107 p_53_43 (lm_Lay_row (lm_Lay_row (lm_Lay_row (lm_Lay_row (lm_Lay_si (lm_Lay_si (lm_Lay_si (lm_Lay_si (lm_Lay_si (lm_Lay_si hl _ _ _) _ _ _) _ _ _) _ _ _) _ _ _) _ _ _) _ _) _ _) _ _) _ _) S_1 F_1_10 ?_
  refine ls_iconst 0 f_53_110 (by decide) ?_
  refine ls_aload_n f_53_111 rfl ?_
  refine ls_getR f_53_112 p_53_43 (lm_Lay_row (lm_Lay_row (lm_Lay_row (lm_Lay_row (lm_Lay_si (lm_Lay_si (lm_Lay_si (lm_Lay_si (lm_Lay_si (lm_Lay_si hl _ _ _) _ _ _) _ _ _) _ _ _) _ _ _) _ _ _) _ _) _ _) _ _) _ _) S_84 F_84_10 ?_
  refine ls_iconst 0 f_53_115 (by decide) ?_
  refine ls_bipush 30 f_53_116 (by decide) ?_
  refine ls_cpy f_53_118 q_53_66 (lm_Lay_row (lm_Lay_row (lm_Lay_row (lm_Lay_row (lm_Lay_si (lm_Lay_si (lm_Lay_si (lm_Lay_si (lm_Lay_si (lm_Lay_si hl _ _ _) _ _ _) _ _ _) _ _ _) _ _ _) _ _ _) _ _) _ _) _ _) _ _) S_6 S_89 ⟨by decide, Nat.le_of_ble_eq_true rfl⟩ ?_
  refine ls_heap (lm_row (lm_row (lm_row (lm_row (lm_row (lm_si (lm_si (lm_si (lm_si (lm_si (lm_si h 84 0 (lm_i h 1 0)) 84 1 (lm_i h 1 1)) 84 2 (lm_i h 1 2)) 84 3 (lm_i h 1 3)) 84 4 (lm_i h 1 4)) 84 5 (lm_i h 1 5)) 85 (va_cpy (h.2.1 2) (h.2.1 85) 0 0 5)) 86 (va_cpy (h.2.1 3) (h.2.1 86) 0 0 6)) 87 (va_cpy (h.2.1 4) (h.2.1 87) 0 0 30)) 88 (va_cpy (h.2.1 5) (h.2.1 88) 0 0 5)) 89 (va_cpy (h.2.1 6) (h.2.1 89) 0 0 30)) rfl ?_
  refine ls_aload_n f_53_121 rfl ?_
  refine ls_getR f_53_122 p_53_46 (lm_Lay_row (lm_Lay_row (lm_Lay_row (lm_Lay_row (lm_Lay_row (lm_Lay_si (lm_Lay_si (lm_Lay_si (lm_Lay_si (lm_Lay_si (lm_Lay_si hl _ _ _) _ _ _) _ _ _) _ _ _) _ _ _) _ _ _) _ _) _ _) _ _) _ _) _ _) S_1 F_1_11 ?_
  refine ls_iconst 0 f_53_125 (by decide) ?_
  refine ls_aload_n f_53_126 rfl ?_
  refine ls_getR f_53_127 p_53_46 (lm_Lay_row (lm_Lay_row (lm_Lay_row (lm_Lay_row (lm_Lay_row (lm_Lay_si (lm_Lay_si (lm_Lay_si (lm_Lay_si (lm_Lay_si (lm_Lay_si hl _ _ _) _ _ _) _ _ _) _ _ _) _ _ _) _ _ _) _ _) _ _) _ _) _ _) _ _) S_84 F_84_11 ?_
  refine ls_iconst 0 f_53_130 (by decide) ?_
  refine ls_iconst 5 f_53_131 (by decide) ?_
  refine ls_cpy f_53_132 q_53_66 (lm_Lay_row (lm_Lay_row (lm_Lay_row (lm_Lay_row (lm_Lay_row (lm_Lay_si (lm_Lay_si (lm_Lay_si (lm_Lay_si (lm_Lay_si (lm_Lay_si hl _ _ _) _ _ _) _ _ _) _ _ _) _ _ _) _ _ _) _ _) _ _) _ _) _ _) _ _) S_7 S_90 ⟨by decide, Nat.le_of_ble_eq_true rfl⟩ ?_
  refine ls_heap (lm_row (lm_row (lm_row (lm_row (lm_row (lm_row (lm_si (lm_si (lm_si (lm_si (lm_si (lm_si h 84 0 (lm_i h 1 0)) 84 1 (lm_i h 1 1)) 84 2 (lm_i h 1 2)) 84 3 (lm_i h 1 3)) 84 4 (lm_i h 1 4)) 84 5 (lm_i h 1 5)) 85 (va_cpy (h.2.1 2) (h.2.1 85) 0 0 5)) 86 (va_cpy (h.2.1 3) (h.2.1 86) 0 0 6)) 87 (va_cpy (h.2.1 4) (h.2.1 87) 0 0 30)) 88 (va_cpy (h.2.1 5) (h.2.1 88) 0 0 5)) 89 (va_cpy (h.2.1 6) (h.2.1 89) 0 0 30)) 90 (va_cpy (h.2.1 7) (h.2.1 90) 0 0 5)) rfl ?_
  refine ls_iconst 0 f_53_135 (by decide) ?_
  refine ls_istore_n [some (.ref 84), some (.ref 1), some (.int 0)] f_53_136 (Nat.le_of_ble_eq_true rfl) rfl ?_
  exact hyp
theorem b_531_137 {d : Nat} {h : lm_H} {K : lm_H → Prop} (x2 : Int32) (hl : lm_Lay h) (hyp : (if x2 < 6 then (lm_in x2 6 False (lm_in x2 6 False ((∀ b, (lm_r h 8 x2.toNatClampNeg) = some b → lm_sh h b = some (0, 2)) ∧ (lm_W (d) 53 137 [some (.ref 84), some (.ref 1), some (.int (x2 + 1))] [] (lm_sr h 91 x2.toNatClampNeg (lm_r h 8 x2.toNatClampNeg)) (lm_kV K))))) else (K h))) : lm_W (d) 53 137 [some (.ref 84), some (.ref 1), some (.int x2)] [] h (lm_kV K) := by
  refine ls_iload_n f_53_137 rfl ?_
  refine ls_bipush 6 f_53_138 (by decide) ?_
  refine ls_icmp_ge 161 f_53_140 rfl hyp (fun _ hyp => ?_) (fun _ hyp => ?_)
  · refine ls_aload_n f_53_143 rfl ?_
    refine ls_getR f_53_144 p_53_51 hl S_84 F_84_12 ?_
    refine ls_iload_n f_53_147 rfl ?_
    refine ls_aload_n f_53_148 rfl ?_
    refine ls_getR f_53_149 p_53_51 hl S_1 F_1_12 ?_
    refine ls_iload_n f_53_152 rfl ?_
    refine ls_aald f_53_153 hl S_8 hyp (fun hyp => ?_)
    refine ls_aast (o := (lm_r h 8 x2.toNatClampNeg)) f_53_154 hl S_91 hyp (fun hyp => ?_)
    refine ls_iinc (x2 + 1) [some (.ref 84), some (.ref 1), some (.int (x2 + 1))] f_53_155 rfl (Nat.le_of_ble_eq_true rfl) rfl rfl ?_
    refine ls_goto 137 f_53_158 rfl ?_
    exact hyp
  · exact ls_return f_53_161 rV_53 hyp
theorem e_53b0 {d : Nat} {h : lm_H} {K : lm_H → Prop} (hl : lm_Lay h) (hyp : lm_W (d) 53 137 [some (.ref 1), some (.ref 76), some (.int 0)] [] (lm_row (lm_row (lm_row (lm_row (lm_row (lm_row (lm_si (lm_si (lm_si (lm_si (lm_si (lm_si h 1 0 (lm_i h 76 0)) 1 1 (lm_i h 76 1)) 1 2 (lm_i h 76 2)) 1 3 (lm_i h 76 3)) 1 4 (lm_i h 76 4)) 1 5 (lm_i h 76 5)) 2 (va_cpy (h.2.1 77) (h.2.1 2) 0 0 5)) 3 (va_cpy (h.2.1 78) (h.2.1 3) 0 0 6)) 4 (va_cpy (h.2.1 79) (h.2.1 4) 0 0 30)) 5 (va_cpy (h.2.1 80) (h.2.1 5) 0 0 5)) 6 (va_cpy (h.2.1 81) (h.2.1 6) 0 0 30)) 7 (va_cpy (h.2.1 82) (h.2.1 7) 0 0 5)) (lm_kV K)) : lm_call (d + 1) 53 [.ref 1, .ref 76] h (lm_kV K) := by
  refine ls_enter [some (.ref 1), some (.ref 76), none] ml_53 (Nat.le_of_ble_eq_true rfl) rfl ?_
  refine ls_aload_n f_53_0 rfl ?_
  refine ls_aload_n f_53_1 rfl ?_
  refine ls_getI f_53_2 p_53_9 hl S_76 ?_
  refine ls_putI f_53_5 p_53_9 hl S_1 rfl ?_
  refine ls_aload_n f_53_8 rfl ?_
  refine ls_aload_n f_53_9 rfl ?_
  refine ls_getI f_53_10 p_53_15 (lm_Lay_si hl _ _ _) S_76 ?_
  refine ls_top (lm_i h 76 1) rfl ?_
  refine ls_putI f_53_13 p_53_15 (lm_Lay_si hl _ _ _) S_1 rfl ?_
  refine ls_aload_n f_53_16 rfl ?_
  refine ls_aload_n f_53_17 rfl ?_
  refine ls_getI f_53_18 p_53_18 (lm_Lay_si (lm_Lay_si hl _ _ _) _ _ _) S_76 ?_
  refine ls_top (lm_i h 76 2) rfl ?_
  refine ls_putI f_53_21 p_53_18 (lm_Lay_si (lm_Lay_si hl _ _ _) _ _ _) S_1 rfl ?_
  refine ls_aload_n f_53_24 rfl ?_
  refine ls_aload_n f_53_25 rfl ?_
  refine ls_getI f_53_26 p_53_21 (lm_Lay_si (lm_Lay_si (lm_Lay_si hl _ _ _) _ _ _) _ _ _) S_76 ?_
  refine ls_top (lm_i h 76 3) rfl ?_
  refine ls_putI f_53_29 p_53_21 (lm_Lay_si (lm_Lay_si (lm_Lay_si hl _ _ _) _ _ _) _ _ _) S_1 rfl ?_
  refine ls_aload_n f_53_32 rfl ?_
  refine ls_aload_n f_53_33 rfl ?_
  refine ls_getI f_53_34 p_53_24 (lm_Lay_si (lm_Lay_si (lm_Lay_si (lm_Lay_si hl _ _ _) _ _ _) _ _ _) _ _ _) S_76 ?_
  refine ls_top (lm_i h 76 4) rfl ?_
  refine ls_putI f_53_37 p_53_24 (lm_Lay_si (lm_Lay_si (lm_Lay_si (lm_Lay_si hl _ _ _) _ _ _) _ _ _) _ _ _) S_1 rfl ?_
  refine ls_aload_n f_53_40 rfl ?_
  refine ls_aload_n f_53_41 rfl ?_
  refine ls_getI f_53_42 p_53_27 (lm_Lay_si (lm_Lay_si (lm_Lay_si (lm_Lay_si (lm_Lay_si hl _ _ _) _ _ _) _ _ _) _ _ _) _ _ _) S_76 ?_
  refine ls_top (lm_i h 76 5) rfl ?_
  refine ls_putI f_53_45 p_53_27 (lm_Lay_si (lm_Lay_si (lm_Lay_si (lm_Lay_si (lm_Lay_si hl _ _ _) _ _ _) _ _ _) _ _ _) _ _ _) S_1 rfl ?_
  refine ls_aload_n f_53_48 rfl ?_
  refine ls_getR f_53_49 p_53_30 (lm_Lay_si (lm_Lay_si (lm_Lay_si (lm_Lay_si (lm_Lay_si (lm_Lay_si hl _ _ _) _ _ _) _ _ _) _ _ _) _ _ _) _ _ _) S_76 F_76_6 ?_
  refine ls_iconst 0 f_53_52 (by decide) ?_
  refine ls_aload_n f_53_53 rfl ?_
  refine ls_getR f_53_54 p_53_30 (lm_Lay_si (lm_Lay_si (lm_Lay_si (lm_Lay_si (lm_Lay_si (lm_Lay_si hl _ _ _) _ _ _) _ _ _) _ _ _) _ _ _) _ _ _) S_1 F_1_6 ?_
  refine ls_iconst 0 f_53_57 (by decide) ?_
  refine ls_iconst 5 f_53_58 (by decide) ?_
  refine ls_cpy f_53_59 q_53_66 (lm_Lay_si (lm_Lay_si (lm_Lay_si (lm_Lay_si (lm_Lay_si (lm_Lay_si hl _ _ _) _ _ _) _ _ _) _ _ _) _ _ _) _ _ _) S_77 S_2 ⟨by decide, Nat.le_of_ble_eq_true rfl⟩ ?_
  refine ls_heap (lm_row (lm_si (lm_si (lm_si (lm_si (lm_si (lm_si h 1 0 (lm_i h 76 0)) 1 1 (lm_i h 76 1)) 1 2 (lm_i h 76 2)) 1 3 (lm_i h 76 3)) 1 4 (lm_i h 76 4)) 1 5 (lm_i h 76 5)) 2 (va_cpy (h.2.1 77) (h.2.1 2) 0 0 5)) rfl ?_
  refine ls_aload_n f_53_62 rfl ?_
  refine ls_getR f_53_63 p_53_34 (lm_Lay_row (lm_Lay_si (lm_Lay_si (lm_Lay_si (lm_Lay_si (lm_Lay_si (lm_Lay_si hl _ _ _) _ _ _) _ _ _) _ _ _) _ _ _) _ _ _) _ _) S_76 F_76_7 ?_
  refine ls_iconst 0 f_53_66 (by decide) ?_
  refine ls_aload_n f_53_67 rfl ?_
  refine ls_getR f_53_68 p_53_34 (lm_Lay_row (lm_Lay_si (lm_Lay_si (lm_Lay_si (lm_Lay_si (lm_Lay_si (lm_Lay_si hl _ _ _) _ _ _) _ _ _) _ _ _) _ _ _) _ _ _) _ _) S_1 F_1_7 ?_
  refine ls_iconst 0 f_53_71 (by decide) ?_
  refine ls_bipush 6 f_53_72 (by decide) ?_
  refine ls_cpy f_53_74 q_53_66 (lm_Lay_row (lm_Lay_si (lm_Lay_si (lm_Lay_si (lm_Lay_si (lm_Lay_si (lm_Lay_si hl _ _ _) _ _ _) _ _ _) _ _ _) _ _ _) _ _ _) _ _) S_78 S_3 ⟨by decide, Nat.le_of_ble_eq_true rfl⟩ ?_
  refine ls_heap (lm_row (lm_row (lm_si (lm_si (lm_si (lm_si (lm_si (lm_si h 1 0 (lm_i h 76 0)) 1 1 (lm_i h 76 1)) 1 2 (lm_i h 76 2)) 1 3 (lm_i h 76 3)) 1 4 (lm_i h 76 4)) 1 5 (lm_i h 76 5)) 2 (va_cpy (h.2.1 77) (h.2.1 2) 0 0 5)) 3 (va_cpy (h.2.1 78) (h.2.1 3) 0 0 6)) rfl ?_
  refine ls_aload_n f_53_77 rfl ?_
  refine ls_getR f_53_78 p_53_37 (lm_Lay_row (lm_Lay_row (lm_Lay_si (lm_Lay_si (lm_Lay_si (lm_Lay_si (lm_Lay_si (lm_Lay_si hl _ _ _) _ _ _) _ _ _) _ _ _) _ _ _) _ _ _) _ _) _ _) S_76 F_76_8 ?_
  refine ls_iconst 0 f_53_81 (by decide) ?_
  refine ls_aload_n f_53_82 rfl ?_
  refine ls_getR f_53_83 p_53_37 (lm_Lay_row (lm_Lay_row (lm_Lay_si (lm_Lay_si (lm_Lay_si (lm_Lay_si (lm_Lay_si (lm_Lay_si hl _ _ _) _ _ _) _ _ _) _ _ _) _ _ _) _ _ _) _ _) _ _) S_1 F_1_8 ?_
  refine ls_iconst 0 f_53_86 (by decide) ?_
  refine ls_bipush 30 f_53_87 (by decide) ?_
  refine ls_cpy f_53_89 q_53_66 (lm_Lay_row (lm_Lay_row (lm_Lay_si (lm_Lay_si (lm_Lay_si (lm_Lay_si (lm_Lay_si (lm_Lay_si hl _ _ _) _ _ _) _ _ _) _ _ _) _ _ _) _ _ _) _ _) _ _) S_79 S_4 ⟨by decide, Nat.le_of_ble_eq_true rfl⟩ ?_
  refine ls_heap (lm_row (lm_row (lm_row (lm_si (lm_si (lm_si (lm_si (lm_si (lm_si h 1 0 (lm_i h 76 0)) 1 1 (lm_i h 76 1)) 1 2 (lm_i h 76 2)) 1 3 (lm_i h 76 3)) 1 4 (lm_i h 76 4)) 1 5 (lm_i h 76 5)) 2 (va_cpy (h.2.1 77) (h.2.1 2) 0 0 5)) 3 (va_cpy (h.2.1 78) (h.2.1 3) 0 0 6)) 4 (va_cpy (h.2.1 79) (h.2.1 4) 0 0 30)) rfl ?_
  refine ls_aload_n f_53_92 rfl ?_
  refine ls_getR f_53_93 p_53_40 (lm_Lay_row (lm_Lay_row (lm_Lay_row (lm_Lay_si (lm_Lay_si (lm_Lay_si (lm_Lay_si (lm_Lay_si (lm_Lay_si hl _ _ _) _ _ _) _ _ _) _ _ _) _ _ _) _ _ _) _ _) _ _) _ _) S_76 F_76_9 ?_
  refine ls_iconst 0 f_53_96 (by decide) ?_
  refine ls_aload_n f_53_97 rfl ?_
  refine ls_getR f_53_98 p_53_40 (lm_Lay_row (lm_Lay_row (lm_Lay_row (lm_Lay_si (lm_Lay_si (lm_Lay_si (lm_Lay_si (lm_Lay_si (lm_Lay_si hl _ _ _) _ _ _) _ _ _) _ _ _) _ _ _) _ _ _) _ _) _ _) _ _) S_1 F_1_9 ?_
  refine ls_iconst 0 f_53_101 (by decide) ?_
  refine ls_iconst 5 f_53_102 (by decide) ?_
  refine ls_cpy f_53_103 q_53_66 (lm_Lay_row (lm_Lay_row (lm_Lay_row (lm_Lay_si (lm_Lay_si (lm_Lay_si (lm_Lay_si (lm_Lay_si (lm_Lay_si hl _ _ _) _ _ _) _ _ _) _ _ _) _ _ _) _ _ _) _ _) _ _) _ _) S_80 S_5 ⟨by decide, Nat.le_of_ble_eq_true rfl⟩ ?_
  refine ls_heap (lm_row (lm_row (lm_row (lm_row (lm_si (lm_si (lm_si (lm_si (lm_si (lm_si h 1 0 (lm_i h 76 0)) 1 1 (lm_i h 76 1)) 1 2 (lm_i h 76 2)) 1 3 (lm_i h 76 3)) 1 4 (lm_i h 76 4)) 1 5 (lm_i h 76 5)) 2 (va_cpy (h.2.1 77) (h.2.1 2) 0 0 5)) 3 (va_cpy (h.2.1 78) (h.2.1 3) 0 0 6)) 4 (va_cpy (h.2.1 79) (h.2.1 4) 0 0 30)) 5 (va_cpy (h.2.1 80) (h.2.1 5) 0 0 5)) rfl ?_
  refine ls_aload_n f_53_106 rfl ?_
  refine ls_getR f_53_107 p_53_43 (lm_Lay_row (lm_Lay_row (lm_Lay_row (lm_Lay_row (lm_Lay_si (lm_Lay_si (lm_Lay_si (lm_Lay_si (lm_Lay_si (lm_Lay_si hl _ _ _) _ _ _) _ _ _) _ _ _) _ _ _) _ _ _) _ _) _ _) _ _) _ _) S_76 F_76_10 ?_
  refine ls_iconst 0 f_53_110 (by decide) ?_
  refine ls_aload_n f_53_111 rfl ?_
  refine ls_getR f_53_112 p_53_43 (lm_Lay_row (lm_Lay_row (lm_Lay_row (lm_Lay_row (lm_Lay_si (lm_Lay_si (lm_Lay_si (lm_Lay_si (lm_Lay_si (lm_Lay_si hl _ _ _) _ _ _) _ _ _) _ _ _) _ _ _) _ _ _) _ _) _ _) _ _) _ _) S_1 F_1_10 ?_
  refine ls_iconst 0 f_53_115 (by decide) ?_
  refine ls_bipush 30 f_53_116 (by decide) ?_
  refine ls_cpy f_53_118 q_53_66 (lm_Lay_row (lm_Lay_row (lm_Lay_row (lm_Lay_row (lm_Lay_si (lm_Lay_si (lm_Lay_si (lm_Lay_si (lm_Lay_si (lm_Lay_si hl _ _ _) _ _ _) _ _ _) _ _ _) _ _ _) _ _ _) _ _) _ _) _ _) _ _) S_81 S_6 ⟨by decide, Nat.le_of_ble_eq_true rfl⟩ ?_
  refine ls_heap (lm_row (lm_row (lm_row (lm_row (lm_row (lm_si (lm_si (lm_si (lm_si (lm_si (lm_si h 1 0 (lm_i h 76 0)) 1 1 (lm_i h 76 1)) 1 2 (lm_i h 76 2)) 1 3 (lm_i h 76 3)) 1 4 (lm_i h 76 4)) 1 5 (lm_i h 76 5)) 2 (va_cpy (h.2.1 77) (h.2.1 2) 0 0 5)) 3 (va_cpy (h.2.1 78) (h.2.1 3) 0 0 6)) 4 (va_cpy (h.2.1 79) (h.2.1 4) 0 0 30)) 5 (va_cpy (h.2.1 80) (h.2.1 5) 0 0 5)) 6 (va_cpy (h.2.1 81) (h.2.1 6) 0 0 30)) rfl ?_
  refine ls_aload_n f_53_121 rfl ?_
  refine ls_getR f_53_122 p_53_46 (lm_Lay_row (lm_Lay_row (lm_Lay_row (lm_Lay_row (lm_Lay_row (lm_Lay_si (lm_Lay_si (lm_Lay_si (lm_Lay_si (lm_Lay_si (lm_Lay_si hl _ _ _) _ _ _) _ _ _) _ _ _) _ _ _) _ _ _) _ _) _ _) _ _) _ _) _ _) S_76 F_76_11 ?_
  refine ls_iconst 0 f_53_125 (by decide) ?_
  refine ls_aload_n f_53_126 rfl ?_
  refine ls_getR f_53_127 p_53_46 (lm_Lay_row (lm_Lay_row (lm_Lay_row (lm_Lay_row (lm_Lay_row (lm_Lay_si (lm_Lay_si (lm_Lay_si (lm_Lay_si (lm_Lay_si (lm_Lay_si hl _ _ _) _ _ _) _ _ _) _ _ _) _ _ _) _ _ _) _ _) _ _) _ _) _ _) _ _) S_1 F_1_11 ?_
  refine ls_iconst 0 f_53_130 (by decide) ?_
  refine ls_iconst 5 f_53_131 (by decide) ?_
  refine ls_cpy f_53_132 q_53_66 (lm_Lay_row (lm_Lay_row (lm_Lay_row (lm_Lay_row (lm_Lay_row (lm_Lay_si (lm_Lay_si (lm_Lay_si (lm_Lay_si (lm_Lay_si (lm_Lay_si hl _ _ _) _ _ _) _ _ _) _ _ _) _ _ _) _ _ _) _ _) _ _) _ _) _ _) _ _) S_82 S_7 ⟨by decide, Nat.le_of_ble_eq_true rfl⟩ ?_
  refine ls_heap (lm_row (lm_row (lm_row (lm_row (lm_row (lm_row (lm_si (lm_si (lm_si (lm_si (lm_si (lm_si h 1 0 (lm_i h 76 0)) 1 1 (lm_i h 76 1)) 1 2 (lm_i h 76 2)) 1 3 (lm_i h 76 3)) 1 4 (lm_i h 76 4)) 1 5 (lm_i h 76 5)) 2 (va_cpy (h.2.1 77) (h.2.1 2) 0 0 5)) 3 (va_cpy (h.2.1 78) (h.2.1 3) 0 0 6)) 4 (va_cpy (h.2.1 79) (h.2.1 4) 0 0 30)) 5 (va_cpy (h.2.1 80) (h.2.1 5) 0 0 5)) 6 (va_cpy (h.2.1 81) (h.2.1 6) 0 0 30)) 7 (va_cpy (h.2.1 82) (h.2.1 7) 0 0 5)) rfl ?_
  refine ls_iconst 0 f_53_135 (by decide) ?_
  refine ls_istore_n [some (.ref 1), some (.ref 76), some (.int 0)] f_53_136 (Nat.le_of_ble_eq_true rfl) rfl ?_
  exact hyp
theorem b_53b0_137 {d : Nat} {h : lm_H} {K : lm_H → Prop} (x2 : Int32) (hl : lm_Lay h) (hyp : (if x2 < 6 then (lm_in x2 6 False (lm_in x2 6 False ((∀ b, (lm_r h 83 x2.toNatClampNeg) = some b → lm_sh h b = some (0, 2)) ∧ (lm_W (d) 53 137 [some (.ref 1), some (.ref 76), some (.int (x2 + 1))] [] (lm_sr h 8 x2.toNatClampNeg (lm_r h 83 x2.toNatClampNeg)) (lm_kV K))))) else (K h))) : lm_W (d) 53 137 [some (.ref 1), some (.ref 76), some (.int x2)] [] h (lm_kV K) := by
  refine ls_iload_n f_53_137 rfl ?_
  refine ls_bipush 6 f_53_138 (by decide) ?_
  refine ls_icmp_ge 161 f_53_140 rfl hyp (fun _ hyp => ?_) (fun _ hyp => ?_)
  · refine ls_aload_n f_53_143 rfl ?_
    refine ls_getR f_53_144 p_53_51 hl S_1 F_1_12 ?_
    refine ls_iload_n f_53_147 rfl ?_
    refine ls_aload_n f_53_148 rfl ?_
    refine ls_getR f_53_149 p_53_51 hl S_76 F_76_12 ?_
    refine ls_iload_n f_53_152 rfl ?_
    refine ls_aald f_53_153 hl S_83 hyp (fun hyp => ?_)
    refine ls_aast (o := (lm_r h 83 x2.toNatClampNeg)) f_53_154 hl S_8 hyp (fun hyp => ?_)
    refine ls_iinc (x2 + 1) [some (.ref 1), some (.ref 76), some (.int (x2 + 1))] f_53_155 rfl (Nat.le_of_ble_eq_true rfl) rfl rfl ?_
    refine ls_goto 137 f_53_158 rfl ?_
    exact hyp
  · exact ls_return f_53_161 rV_53 hyp
theorem e_53b1 {d : Nat} {h : lm_H} {K : lm_H → Prop} (hl : lm_Lay h) (hyp : lm_W (d) 53 137 [some (.ref 1), some (.ref 84), some (.int 0)] [] (lm_row (lm_row (lm_row (lm_row (lm_row (lm_row (lm_si (lm_si (lm_si (lm_si (lm_si (lm_si h 1 0 (lm_i h 84 0)) 1 1 (lm_i h 84 1)) 1 2 (lm_i h 84 2)) 1 3 (lm_i h 84 3)) 1 4 (lm_i h 84 4)) 1 5 (lm_i h 84 5)) 2 (va_cpy (h.2.1 85) (h.2.1 2) 0 0 5)) 3 (va_cpy (h.2.1 86) (h.2.1 3) 0 0 6)) 4 (va_cpy (h.2.1 87) (h.2.1 4) 0 0 30)) 5 (va_cpy (h.2.1 88) (h.2.1 5) 0 0 5)) 6 (va_cpy (h.2.1 89) (h.2.1 6) 0 0 30)) 7 (va_cpy (h.2.1 90) (h.2.1 7) 0 0 5)) (lm_kV K)) : lm_call (d + 1) 53 [.ref 1, .ref 84] h (lm_kV K) := by
  refine ls_enter [some (.ref 1), some (.ref 84), none] ml_53 (Nat.le_of_ble_eq_true rfl) rfl ?_
  refine ls_aload_n f_53_0 rfl ?_
  refine ls_aload_n f_53_1 rfl ?_
  refine ls_getI f_53_2 p_53_9 hl S_84 ?_
  refine ls_putI f_53_5 p_53_9 hl S_1 rfl ?_
  refine ls_aload_n f_53_8 rfl ?_
  refine ls_aload_n f_53_9 rfl ?_
  refine ls_getI f_53_10 p_53_15 (lm_Lay_si hl _ _ _) S_84 ?_
  refine ls_top (lm_i h 84 1) rfl ?_
  refine ls_putI f_53_13 p_53_15 (lm_Lay_si hl _ _ _) S_1 rfl ?_
  refine ls_aload_n f_53_16 rfl ?_
  refine ls_aload_n f_53_17 rfl ?_
  refine ls_getI f_53_18 p_53_18 (lm_Lay_si (lm_Lay_si hl _ _ _) _ _ _) S_84 ?_
  refine ls_top (lm_i h 84 2) rfl ?_
  refine ls_putI f_53_21 p_53_18 (lm_Lay_si (lm_Lay_si hl _ _ _) _ _ _) S_1 rfl ?_
  refine ls_aload_n f_53_24 rfl ?_
  refine ls_aload_n f_53_25 rfl ?_
  refine ls_getI f_53_26 p_53_21 (lm_Lay_si (lm_Lay_si (lm_Lay_si hl _ _ _) _ _ _) _ _ _) S_84 ?_
  refine ls_top (lm_i h 84 3) rfl ?_
  refine ls_putI f_53_29 p_53_21 (lm_Lay_si (lm_Lay_si (lm_Lay_si hl _ _ _) _ _ _) _ _ _) S_1 rfl ?_
  refine ls_aload_n f_53_32 rfl ?_
  refine ls_aload_n f_53_33 rfl ?_
  refine ls_getI f_53_34 p_53_24 (lm_Lay_si (lm_Lay_si (lm_Lay_si (lm_Lay_si hl _ _ _) _ _ _) _ _ _) _ _ _) S_84 ?_
  refine ls_top (lm_i h 84 4) rfl ?_
  refine ls_putI f_53_37 p_53_24 (lm_Lay_si (lm_Lay_si (lm_Lay_si (lm_Lay_si hl _ _ _) _ _ _) _ _ _) _ _ _) S_1 rfl ?_
  refine ls_aload_n f_53_40 rfl ?_
  refine ls_aload_n f_53_41 rfl ?_
  refine ls_getI f_53_42 p_53_27 (lm_Lay_si (lm_Lay_si (lm_Lay_si (lm_Lay_si (lm_Lay_si hl _ _ _) _ _ _) _ _ _) _ _ _) _ _ _) S_84 ?_
  refine ls_top (lm_i h 84 5) rfl ?_
  refine ls_putI f_53_45 p_53_27 (lm_Lay_si (lm_Lay_si (lm_Lay_si (lm_Lay_si (lm_Lay_si hl _ _ _) _ _ _) _ _ _) _ _ _) _ _ _) S_1 rfl ?_
  refine ls_aload_n f_53_48 rfl ?_
  refine ls_getR f_53_49 p_53_30 (lm_Lay_si (lm_Lay_si (lm_Lay_si (lm_Lay_si (lm_Lay_si (lm_Lay_si hl _ _ _) _ _ _) _ _ _) _ _ _) _ _ _) _ _ _) S_84 F_84_6 ?_
  refine ls_iconst 0 f_53_52 (by decide) ?_
  refine ls_aload_n f_53_53 rfl ?_
  refine ls_getR f_53_54 p_53_30 (lm_Lay_si (lm_Lay_si (lm_Lay_si (lm_Lay_si (lm_Lay_si (lm_Lay_si hl _ _ _) _ _ _) _ _ _) _ _ _) _ _ _) _ _ _) S_1 F_1_6 ?_
  refine ls_iconst 0 f_53_57 (by decide) ?_
  refine ls_iconst 5 f_53_58 (by decide) ?_
  refine ls_cpy f_53_59 q_53_66 (lm_Lay_si (lm_Lay_si (lm_Lay_si (lm_Lay_si (lm_Lay_si (lm_Lay_si hl _ _ _) _ _ _) _ _ _) _ _ _) _ _ _) _ _ _) S_85 S_2 ⟨by decide, Nat.le_of_ble_eq_true rfl⟩ ?_
  refine ls_heap (lm_row (lm_si (lm_si (lm_si (lm_si (lm_si (lm_si h 1 0 (lm_i h 84 0)) 1 1 (lm_i h 84 1)) 1 2 (lm_i h 84 2)) 1 3 (lm_i h 84 3)) 1 4 (lm_i h 84 4)) 1 5 (lm_i h 84 5)) 2 (va_cpy (h.2.1 85) (h.2.1 2) 0 0 5)) rfl ?_
  refine ls_aload_n f_53_62 rfl ?_
  refine ls_getR f_53_63 p_53_34 (lm_Lay_row (lm_Lay_si (lm_Lay_si (lm_Lay_si (lm_Lay_si (lm_Lay_si (lm_Lay_si hl _ _ _) _ _ _) _ _ _) _ _ _) _ _ _) _ _ _) _ _) S_84 F_84_7 ?_
  refine ls_iconst 0 f_53_66 (by decide) ?_
  refine ls_aload_n f_53_67 rfl ?_
  refine ls_getR f_53_68 p_53_34 (lm_Lay_row (lm_Lay_si (lm_Lay_si (lm_Lay_si (lm_Lay_si (lm_Lay_si (lm_Lay_si hl _ _ _) _ _ _) _ _ _) _ _ _) _ _ _) _ _ _) _ _) S_1 F_1_7 ?_
  refine ls_iconst 0 f_53_71 (by decide) ?_
  refine ls_bipush 6 f_53_72 (by decide) ?_
  refine ls_cpy f_53_74 q_53_66 (lm_Lay_row (lm_Lay_si (lm_Lay_si (lm_Lay_si (lm_Lay_si (lm_Lay_si (lm_Lay_si hl _ _ _) _ _ _) _ _ _) _ _ _) _ _ _) _ _ _) _ _) S_86 S_3 ⟨by decide, Nat.le_of_ble_eq_true rfl⟩ ?_
  refine ls_heap (lm_row (lm_row (lm_si (lm_si (lm_si (lm_si (lm_si (lm_si h 1 0 (lm_i h 84 0)) 1 1 (lm_i h 84 1)) 1 2 (lm_i h 84 2)) 1 3 (lm_i h 84 3)) 1 4 (lm_i h 84 4)) 1 5 (lm_i h 84 5)) 2 (va_cpy (h.2.1 85) (h.2.1 2) 0 0 5)) 3 (va_cpy (h.2.1 86) (h.2.1 3) 0 0 6)) rfl ?_
  refine ls_aload_n f_53_77 rfl ?_
  refine ls_getR f_53_78 p_53_37 (lm_Lay_row (lm_Lay_row (lm_Lay_si (lm_Lay_si (lm_Lay_si (lm_Lay_si (lm_Lay_si (lm_Lay_si hl _ _ _) _ _ _) _ _ _) _ _ _) _ _ _) _ _ _) _ _) _ _) S_84 F_84_8 ?_
  refine ls_iconst 0 f_53_81 (by decide) ?_
  refine ls_aload_n f_53_82 rfl ?_
  refine ls_getR f_53_83 p_53_37 (lm_Lay_row (lm_Lay_row (lm_Lay_si (lm_Lay_si (lm_Lay_si (lm_Lay_si (lm_Lay_si (lm_Lay_si hl _ _ _) _ _ _) _ _ _) _ _ _) _ _ _) _ _ _) _ _) _ _) S_1 F_1_8 ?_
  refine ls_iconst 0 f_53_86 (by decide) ?_
  refine ls_bipush 30 f_53_87 (by decide) ?_
  refine ls_cpy f_53_89 q_53_66 (lm_Lay_row (lm_Lay_row (lm_Lay_si (lm_Lay_si (lm_Lay_si (lm_Lay_si (lm_Lay_si (lm_Lay_si hl _ _ _) _ _ _) _ _ _) _ _ _) _ _ _) _ _ _) _ _) _ _) S_87 S_4 ⟨by decide, Nat.le_of_ble_eq_true rfl⟩ ?_
  refine ls_heap (lm_row (lm_row (lm_row (lm_si (lm_si (lm_si (lm_si (lm_si (lm_si h 1 0 (lm_i h 84 0)) 1 1 (lm_i h 84 1)) 1 2 (lm_i h 84 2)) 1 3 (lm_i h 84 3)) 1 4 (lm_i h 84 4)) 1 5 (lm_i h 84 5)) 2 (va_cpy (h.2.1 85) (h.2.1 2) 0 0 5)) 3 (va_cpy (h.2.1 86) (h.2.1 3) 0 0 6)) 4 (va_cpy (h.2.1 87) (h.2.1 4) 0 0 30)) rfl ?_
  refine ls_aload_n f_53_92 rfl ?_
  refine ls_getR f_53_93 p_53_40 (lm_Lay_row (lm_Lay_row (lm_Lay_row (lm_Lay_si (lm_Lay_si (lm_Lay_si (lm_Lay_si (lm_Lay_si (lm_Lay_si hl _ _ _) _ _ _) _ _ _) _ _ _) _ _ _) _ _ _) _ _) _ _) _ _) S_84 F_84_9 ?_
  refine ls_iconst 0 f_53_96 (by decide) ?_
  refine ls_aload_n f_53_97 rfl ?_
  refine ls_getR f_53_98 p_53_40 (lm_Lay_row (lm_Lay_row (lm_Lay_row (lm_Lay_si (lm_Lay_si (lm_Lay_si (lm_Lay_si (lm_Lay_si (lm_Lay_si hl _ _ _) _ _ _) _ _ _) _ _ _) _ _ _) _ _ _) _ _) _ _) _ _) S_1 F_1_9 ?_
  refine ls_iconst 0 f_53_101 (by decide) ?_
  refine ls_iconst 5 f_53_102 (by decide) ?_
  refine ls_cpy f_53_103 q_53_66 (lm_Lay_row (lm_Lay_row (lm_Lay_row (lm_Lay_si (lm_Lay_si (lm_Lay_si (lm_Lay_si (lm_Lay_si (lm_Lay_si hl _ _ _) _ _ _) _ _ _) _ _ _) _ _ _) _ _ _) _ _) _ _) _ _) S_88 S_5 ⟨by decide, Nat.le_of_ble_eq_true rfl⟩ ?_
  refine ls_heap (lm_row (lm_row (lm_row (lm_row (lm_si (lm_si (lm_si (lm_si (lm_si (lm_si h 1 0 (lm_i h 84 0)) 1 1 (lm_i h 84 1)) 1 2 (lm_i h 84 2)) 1 3 (lm_i h 84 3)) 1 4 (lm_i h 84 4)) 1 5 (lm_i h 84 5)) 2 (va_cpy (h.2.1 85) (h.2.1 2) 0 0 5)) 3 (va_cpy (h.2.1 86) (h.2.1 3) 0 0 6)) 4 (va_cpy (h.2.1 87) (h.2.1 4) 0 0 30)) 5 (va_cpy (h.2.1 88) (h.2.1 5) 0 0 5)) rfl ?_
  refine ls_aload_n f_53_106 rfl ?_
  refine ls_getR f_53_107 p_53_43 (lm_Lay_row (lm_Lay_row (lm_Lay_row (lm_Lay_row (lm_Lay_si (lm_Lay_si (lm_Lay_si (lm_Lay_si (lm_Lay_si (lm_Lay_si hl _ _ _) _ _ _) _ _ _) _ _ _) _ _ _) _ _ _) _ _) _ _) _ _) _ _) S_84 F_84_10 ?_
  refine ls_iconst 0 f_53_110 (by decide) ?_
  refine ls_aload_n f_53_111 rfl ?_
  refine ls_getR f_53_112 p_53_43 (lm_Lay_row (lm_Lay_row (lm_Lay_row (lm_Lay_row (lm_Lay_si (lm_Lay_si (lm_Lay_si (lm_Lay_si (lm_Lay_si (lm_Lay_si hl _ _ _) _ _ _) _ _ _) _ _ _) _ _ _) _ _ _) _ _) _ _) _ _) _ _) S_1 F_1_10 ?_
  refine ls_iconst 0 f_53_115 (by decide) ?_
  refine ls_bipush 30 f_53_116 (by decide) ?_
  refine ls_cpy f_53_118 q_53_66 (lm_Lay_row (lm_Lay_row (lm_Lay_row (lm_Lay_row (lm_Lay_si (lm_Lay_si (lm_Lay_si (lm_Lay_si (lm_Lay_si (lm_Lay_si hl _ _ _) _ _ _) _ _ _) _ _ _) _ _ _) _ _ _) _ _) _ _) _ _) _ _) S_89 S_6 ⟨by decide, Nat.le_of_ble_eq_true rfl⟩ ?_
  refine ls_heap (lm_row (lm_row (lm_row (lm_row (lm_row (lm_si (lm_si (lm_si (lm_si (lm_si (lm_si h 1 0 (lm_i h 84 0)) 1 1 (lm_i h 84 1)) 1 2 (lm_i h 84 2)) 1 3 (lm_i h 84 3)) 1 4 (lm_i h 84 4)) 1 5 (lm_i h 84 5)) 2 (va_cpy (h.2.1 85) (h.2.1 2) 0 0 5)) 3 (va_cpy (h.2.1 86) (h.2.1 3) 0 0 6)) 4 (va_cpy (h.2.1 87) (h.2.1 4) 0 0 30)) 5 (va_cpy (h.2.1 88) (h.2.1 5) 0 0 5)) 6 (va_cpy (h.2.1 89) (h.2.1 6) 0 0 30)) rfl ?_
  refine ls_aload_n f_53_121 rfl ?_
  refine ls_getR f_53_122 p_53_46 (lm_Lay_row (lm_Lay_row (lm_Lay_row (lm_Lay_row (lm_Lay_row (lm_Lay_si (lm_Lay_si (lm_Lay_si (lm_Lay_si (lm_Lay_si (lm_Lay_si hl _ _ _) _ _ _) _ _ _) _ _ _) _ _ _) _ _ _) _ _) _ _) _ _) _ _) _ _) S_84 F_84_11 ?_
  refine ls_iconst 0 f_53_125 (by decide) ?_
  refine ls_aload_n f_53_126 rfl ?_
  refine ls_getR f_53_127 p_53_46 (lm_Lay_row (lm_Lay_row (lm_Lay_row (lm_Lay_row (lm_Lay_row (lm_Lay_si (lm_Lay_si (lm_Lay_si (lm_Lay_si (lm_Lay_si (lm_Lay_si hl _ _ _) _ _ _) _ _ _) _ _ _) _ _ _) _ _ _) _ _) _ _) _ _) _ _) _ _) S_1 F_1_11 ?_
  refine ls_iconst 0 f_53_130 (by decide) ?_
  refine ls_iconst 5 f_53_131 (by decide) ?_
  refine ls_cpy f_53_132 q_53_66 (lm_Lay_row (lm_Lay_row (lm_Lay_row (lm_Lay_row (lm_Lay_row (lm_Lay_si (lm_Lay_si (lm_Lay_si (lm_Lay_si (lm_Lay_si (lm_Lay_si hl _ _ _) _ _ _) _ _ _) _ _ _) _ _ _) _ _ _) _ _) _ _) _ _) _ _) _ _) S_90 S_7 ⟨by decide, Nat.le_of_ble_eq_true rfl⟩ ?_
  refine ls_heap (lm_row (lm_row (lm_row (lm_row (lm_row (lm_row (lm_si (lm_si (lm_si (lm_si (lm_si (lm_si h 1 0 (lm_i h 84 0)) 1 1 (lm_i h 84 1)) 1 2 (lm_i h 84 2)) 1 3 (lm_i h 84 3)) 1 4 (lm_i h 84 4)) 1 5 (lm_i h 84 5)) 2 (va_cpy (h.2.1 85) (h.2.1 2) 0 0 5)) 3 (va_cpy (h.2.1 86) (h.2.1 3) 0 0 6)) 4 (va_cpy (h.2.1 87) (h.2.1 4) 0 0 30)) 5 (va_cpy (h.2.1 88) (h.2.1 5) 0 0 5)) 6 (va_cpy (h.2.1 89) (h.2.1 6) 0 0 30)) 7 (va_cpy (h.2.1 90) (h.2.1 7) 0 0 5)) rfl ?_
  refine ls_iconst 0 f_53_135 (by decide) ?_
  refine ls_istore_n [some (.ref 1), some (.ref 84), some (.int 0)] f_53_136 (Nat.le_of_ble_eq_true rfl) rfl ?_
  exact hyp
theorem b_53b1_137 {d : Nat} {h : lm_H} {K : lm_H → Prop} (x2 : Int32) (hl : lm_Lay h) (hyp : (if x2 < 6 then (lm_in x2 6 False (lm_in x2 6 False ((∀ b, (lm_r h 91 x2.toNatClampNeg) = some b → lm_sh h b = some (0, 2)) ∧ (lm_W (d) 53 137 [some (.ref 1), some (.ref 84), some (.int (x2 + 1))] [] (lm_sr h 8 x2.toNatClampNeg (lm_r h 91 x2.toNatClampNeg)) (lm_kV K))))) else (K h))) : lm_W (d) 53 137 [some (.ref 1), some (.ref 84), some (.int x2)] [] h (lm_kV K) := by
  refine ls_iload_n f_53_137 rfl ?_
  refine ls_bipush 6 f_53_138 (by decide) ?_
  refine ls_icmp_ge 161 f_53_140 rfl hyp (fun _ hyp => ?_) (fun _ hyp => ?_)
  · refine ls_aload_n f_53_143 rfl ?_
    refine ls_getR f_53_144 p_53_51 hl S_1 F_1_12 ?_
    refine ls_iload_n f_53_147 rfl ?_
    refine ls_aload_n f_53_148 rfl ?_
    refine ls_getR f_53_149 p_53_51 hl S_84 F_84_12 ?_
    refine ls_iload_n f_53_152 rfl ?_
    refine ls_aald f_53_153 hl S_91 hyp (fun hyp => ?_)
    refine ls_aast (o := (lm_r h 91 x2.toNatClampNeg)) f_53_154 hl S_8 hyp (fun hyp => ?_)
    refine ls_iinc (x2 + 1) [some (.ref 1), some (.ref 84), some (.int (x2 + 1))] f_53_155 rfl (Nat.le_of_ble_eq_true rfl) rfl rfl ?_
    refine ls_goto 137 f_53_158 rfl ?_
    exact hyp
  · exact ls_return f_53_161 rV_53 hyp
theorem e_55 {d : Nat} {h : lm_H} {K : lm_H → Prop} (hl : lm_Lay h) (hyp : (if (lm_i h 31 2) = 0 then (lm_call (d) 65 [.ref 32, .ref 21] h (lm_kV fun h1 => lm_W (d) 55 44 [some (.ref 31), none, some (.int 1), some (.int ((lm_i h1 32 0) - 1)), none, none] [] (lm_si h1 31 2 1) (lm_kV K))) else (lm_call (d) 64 [.ref 32, .ref 21] h (lm_kI fun r3 h2 => (if r3 = 0 then (lm_call (d) 65 [.ref 32, .ref 21] h2 (lm_kV fun h4 => lm_W (d) 55 44 [some (.ref 31), none, some (.int 1), some (.int ((lm_i h4 32 0) - 1)), none, none] [] (lm_si h4 31 2 1) (lm_kV K))) else (K h2)))))) : lm_call (d + 1) 55 [.ref 31, .ref 21] h (lm_kV K) := by
  refine ls_enter [some (.ref 31), some (.ref 21), none, none, none, none] ml_55 (Nat.le_of_ble_eq_true rfl) rfl ?_
  refine ls_aload_n f_55_0 rfl ?_
  refine ls_getI f_55_1 p_55_25 hl S_31 ?_
  refine ls_if_eq 19 f_55_4 rfl hyp (fun _ hyp => ?_) (fun _ hyp => ?_)
  · refine ls_aload_n f_55_19 rfl ?_
    refine ls_getR f_55_20 p_55_12 hl S_31 F_31_0 ?_
    refine ls_aload_n f_55_23 rfl ?_
    refine ls_invV (a := 32) f_55_24 q_55_72 [.ref 21] [] rfl (Nat.le_of_ble_eq_true rfl) hl S_32 ow_65 ?_
    refine ls_call hyp hl (fun _ h1 hl1 hyp => ?_)
    refine ls_retV hyp (fun hyp => ?_)
    refine ls_aload_n f_55_27 rfl ?_
    refine ls_iconst 1 f_55_28 (by decide) ?_
    refine ls_putI f_55_29 p_55_25 hl1 S_31 (by decide) ?_
    refine ls_iconst 1 f_55_32 (by decide) ?_
    refine ls_istore_n [some (.ref 31), some (.ref 21), some (.int 1), none, none, none] f_55_33 (Nat.le_of_ble_eq_true rfl) rfl ?_
    refine ls_aload_n f_55_34 rfl ?_
    refine ls_getR f_55_35 p_55_12 (lm_Lay_si hl1 _ _ _) S_31 F_31_0 ?_
    refine ls_getI f_55_38 p_55_76 (lm_Lay_si hl1 _ _ _) S_32 ?_
    refine ls_top (lm_i h1 32 0) rfl ?_
    refine ls_iconst 1 f_55_41 (by decide) ?_
    refine ls_isub ((lm_i h1 32 0) - 1) f_55_42 rfl ?_
    refine ls_istore_n [some (.ref 31), some (.ref 21), some (.int 1), some (.int ((lm_i h1 32 0) - 1)), none, none] f_55_43 (Nat.le_of_ble_eq_true rfl) rfl ?_
    exact ls_mask [true, false, true, true, false, false] [some (.ref 31), none, some (.int 1), some (.int ((lm_i h1 32 0) - 1)), none, none] rfl hyp
  · refine ls_aload_n f_55_7 rfl ?_
    refine ls_getR f_55_8 p_55_12 hl S_31 F_31_0 ?_
    refine ls_aload_n f_55_11 rfl ?_
    refine ls_invV (a := 32) f_55_12 q_55_68 [.ref 21] [] rfl (Nat.le_of_ble_eq_true rfl) hl S_32 ow_64 ?_
    refine ls_call hyp hl (fun _ h2 hl2 hyp => ?_)
    refine ls_retI hyp (fun r3 hyp => ?_)
    refine ls_if_eq 19 f_55_15 rfl hyp (fun _ hyp => ?_) (fun _ hyp => ?_)
    · refine ls_aload_n f_55_19 rfl ?_
      refine ls_getR f_55_20 p_55_12 hl2 S_31 F_31_0 ?_
      refine ls_aload_n f_55_23 rfl ?_
      refine ls_invV (a := 32) f_55_24 q_55_72 [.ref 21] [] rfl (Nat.le_of_ble_eq_true rfl) hl2 S_32 ow_65 ?_
      refine ls_call hyp hl2 (fun _ h4 hl4 hyp => ?_)
      refine ls_retV hyp (fun hyp => ?_)
      refine ls_aload_n f_55_27 rfl ?_
      refine ls_iconst 1 f_55_28 (by decide) ?_
      refine ls_putI f_55_29 p_55_25 hl4 S_31 (by decide) ?_
      refine ls_iconst 1 f_55_32 (by decide) ?_
      refine ls_istore_n [some (.ref 31), some (.ref 21), some (.int 1), none, none, none] f_55_33 (Nat.le_of_ble_eq_true rfl) rfl ?_
      refine ls_aload_n f_55_34 rfl ?_
      refine ls_getR f_55_35 p_55_12 (lm_Lay_si hl4 _ _ _) S_31 F_31_0 ?_
      refine ls_getI f_55_38 p_55_76 (lm_Lay_si hl4 _ _ _) S_32 ?_
      refine ls_top (lm_i h4 32 0) rfl ?_
      refine ls_iconst 1 f_55_41 (by decide) ?_
      refine ls_isub ((lm_i h4 32 0) - 1) f_55_42 rfl ?_
      refine ls_istore_n [some (.ref 31), some (.ref 21), some (.int 1), some (.int ((lm_i h4 32 0) - 1)), none, none] f_55_43 (Nat.le_of_ble_eq_true rfl) rfl ?_
      exact ls_mask [true, false, true, true, false, false] [some (.ref 31), none, some (.int 1), some (.int ((lm_i h4 32 0) - 1)), none, none] rfl hyp
    · exact ls_return f_55_18 rV_55 hyp
theorem b_55_44 {d : Nat} {h : lm_H} {K : lm_H → Prop} (x2 : Int32) (x3 : Int32) (hl : lm_Lay h) (hyp : (if x3 < 0 then (lm_call (d) 269 [.ref 45, .long 0] (lm_si (lm_si (lm_si h 31 7 (-1000000)) 31 10 (-1000000)) 31 12 0) (lm_kV fun h1 => lm_call (d) 80 [.ref 37, .ref 32, .ref 38, .int (((1 : Int32) <<< ((lm_i h1 32 0) &&& 31)) - 1)] h1 (lm_kI fun r3 h2 => lm_W (d) 55 139 [some (.ref 31), none, none, some (.int (((1 : Int32) <<< ((lm_i h1 32 0) &&& 31)) - 1)), some (.int r3), some (.int 0)] [] h2 (lm_kV K)))) else (lm_in x3 5 False (lm_in x3 5 False (lm_call (d) 57 [.ref 31, .int x3] (lm_si h 42 x3.toNatClampNeg x2) (lm_kV fun h4 => lm_W (d) 55 44 [some (.ref 31), none, some (.int (x2 * (lm_i h 36 x3.toNatClampNeg))), some (.int (x3 - 1)), none, none] [] h4 (lm_kV K))))))) : lm_W (d) 55 44 [some (.ref 31), none, some (.int x2), some (.int x3), none, none] [] h (lm_kV K) := by
  refine ls_iload_n f_55_44 rfl ?_
  refine ls_if_lt 78 f_55_45 rfl hyp (fun _ hyp => ?_) (fun _ hyp => ?_)
  · refine ls_aload_n f_55_78 rfl ?_
    refine ls_ldc f_55_79 k_55_86 ?_
    refine ls_putI f_55_81 p_55_43 hl S_31 rfl ?_
    refine ls_aload_n f_55_84 rfl ?_
    refine ls_ldc f_55_85 k_55_86 ?_
    refine ls_putI f_55_87 p_55_53 (lm_Lay_si hl _ _ _) S_31 rfl ?_
    refine ls_aload_n f_55_90 rfl ?_
    refine ls_iconst 0 f_55_91 (by decide) ?_
    refine ls_putI f_55_92 p_55_59 (lm_Lay_si (lm_Lay_si hl _ _ _) _ _ _) S_31 rfl ?_
    refine ls_aload_n f_55_95 rfl ?_
    refine ls_getR f_55_96 p_55_39 (lm_Lay_si (lm_Lay_si (lm_Lay_si hl _ _ _) _ _ _) _ _ _) S_31 F_31_6 ?_
    refine ls_lconst 0 f_55_99 (by decide) ?_
    refine ls_invS f_55_100 q_55_87 [.ref 45, .long 0] [] rfl (Nat.le_of_ble_eq_true rfl) ?_
    refine ls_call hyp (lm_Lay_si (lm_Lay_si (lm_Lay_si hl _ _ _) _ _ _) _ _ _) (fun _ h1 hl1 hyp => ?_)
    refine ls_retV hyp (fun hyp => ?_)
    refine ls_iconst 1 f_55_103 (by decide) ?_
    refine ls_aload_n f_55_104 rfl ?_
    refine ls_getR f_55_105 p_55_12 hl1 S_31 F_31_0 ?_
    refine ls_getI f_55_108 p_55_76 hl1 S_32 ?_
    refine ls_ishl ((1 : Int32) <<< ((lm_i h1 32 0) &&& 31)) f_55_111 rfl ?_
    refine ls_iconst 1 f_55_112 (by decide) ?_
    refine ls_isub (((1 : Int32) <<< ((lm_i h1 32 0) &&& 31)) - 1) f_55_113 rfl ?_
    refine ls_istore_n [some (.ref 31), none, some (.int x2), some (.int (((1 : Int32) <<< ((lm_i h1 32 0) &&& 31)) - 1)), none, none] f_55_114 (Nat.le_of_ble_eq_true rfl) rfl ?_
    refine ls_aload_n f_55_115 rfl ?_
    refine ls_getR f_55_116 p_55_21 hl1 S_31 F_31_1 ?_
    refine ls_aload_n f_55_119 rfl ?_
    refine ls_getR f_55_120 p_55_12 hl1 S_31 F_31_0 ?_
    refine ls_aload_n f_55_123 rfl ?_
    refine ls_getR f_55_124 p_55_21 hl1 S_31 F_31_1 ?_
    refine ls_getR f_55_127 p_55_93 hl1 S_37 F_37_0 ?_
    refine ls_iload_n f_55_130 rfl ?_
    refine ls_invV (a := 37) f_55_131 q_55_96 [.ref 32, .ref 38, .int (((1 : Int32) <<< ((lm_i h1 32 0) &&& 31)) - 1)] [] rfl (Nat.le_of_ble_eq_true rfl) hl1 S_37 ow_80 ?_
    refine ls_call hyp hl1 (fun _ h2 hl2 hyp => ?_)
    refine ls_retI hyp (fun r3 hyp => ?_)
    refine ls_istore [some (.ref 31), none, some (.int x2), some (.int (((1 : Int32) <<< ((lm_i h1 32 0) &&& 31)) - 1)), some (.int r3), none] f_55_134 (Nat.le_of_ble_eq_true rfl) rfl ?_
    refine ls_iconst 0 f_55_136 (by decide) ?_
    refine ls_istore [some (.ref 31), none, some (.int x2), some (.int (((1 : Int32) <<< ((lm_i h1 32 0) &&& 31)) - 1)), some (.int r3), some (.int 0)] f_55_137 (Nat.le_of_ble_eq_true rfl) rfl ?_
    exact ls_mask [true, false, false, true, true, true] [some (.ref 31), none, none, some (.int (((1 : Int32) <<< ((lm_i h1 32 0) &&& 31)) - 1)), some (.int r3), some (.int 0)] rfl hyp
  · refine ls_aload_n f_55_48 rfl ?_
    refine ls_getR f_55_49 p_55_29 hl S_31 F_31_3 ?_
    refine ls_iload_n f_55_52 rfl ?_
    refine ls_iload_n f_55_53 rfl ?_
    refine ls_iast f_55_54 hl S_42 hyp (fun hyp => ?_)
    refine ls_iload_n f_55_55 rfl ?_
    refine ls_aload_n f_55_56 rfl ?_
    refine ls_getR f_55_57 p_55_12 (lm_Lay_si hl _ _ _) S_31 F_31_0 ?_
    refine ls_getR f_55_60 p_55_79 (lm_Lay_si hl _ _ _) S_32 F_32_7 ?_
    refine ls_iload_n f_55_63 rfl ?_
    refine ls_iald f_55_64 (lm_Lay_si hl _ _ _) S_36 hyp (fun hyp => ?_)
    refine ls_top (lm_i h 36 x3.toNatClampNeg) rfl ?_
    refine ls_imul (x2 * (lm_i h 36 x3.toNatClampNeg)) f_55_65 rfl ?_
    refine ls_istore_n [some (.ref 31), none, some (.int (x2 * (lm_i h 36 x3.toNatClampNeg))), some (.int x3), none, none] f_55_66 (Nat.le_of_ble_eq_true rfl) rfl ?_
    refine ls_aload_n f_55_67 rfl ?_
    refine ls_iload_n f_55_68 rfl ?_
    refine ls_invV (a := 31) f_55_69 q_55_82 [.int x3] [] rfl (Nat.le_of_ble_eq_true rfl) (lm_Lay_si hl _ _ _) S_31 ow_57 ?_
    refine ls_call hyp (lm_Lay_si hl _ _ _) (fun _ h4 hl4 hyp => ?_)
    refine ls_retV hyp (fun hyp => ?_)
    refine ls_iinc (x3 - 1) [some (.ref 31), none, some (.int (x2 * (lm_i h 36 x3.toNatClampNeg))), some (.int (x3 - 1)), none, none] f_55_72 rfl (Nat.le_of_ble_eq_true rfl) (lm_m1 _) rfl ?_
    refine ls_goto 44 f_55_75 rfl ?_
    exact hyp
theorem b_55_139 {d : Nat} {h : lm_H} {K : lm_H → Prop} (x3 : Int32) (x4 : Int32) (x5 : Int32) (hl : lm_Lay h) (hyp : (if x5 < x4 then (lm_call (d) 58 [.ref 31, .int x5] h (lm_kV fun h1 => lm_call (d) 81 [.ref 37, .ref 32, .int x3] h1 (lm_kV fun h2 => lm_W (d) 55 139 [some (.ref 31), none, none, some (.int x3), some (.int x4), some (.int (x5 + 1))] [] h2 (lm_kV K)))) else (K h))) : lm_W (d) 55 139 [some (.ref 31), none, none, some (.int x3), some (.int x4), some (.int x5)] [] h (lm_kV K) := by
  refine ls_iload f_55_139 rfl ?_
  refine ls_iload f_55_141 rfl ?_
  refine ls_icmp_ge 170 f_55_143 rfl hyp (fun _ hyp => ?_) (fun _ hyp => ?_)
  · refine ls_aload_n f_55_146 rfl ?_
    refine ls_iload f_55_147 rfl ?_
    refine ls_invV (a := 31) f_55_149 q_55_100 [.int x5] [] rfl (Nat.le_of_ble_eq_true rfl) hl S_31 ow_58 ?_
    refine ls_call hyp hl (fun _ h1 hl1 hyp => ?_)
    refine ls_retV hyp (fun hyp => ?_)
    refine ls_aload_n f_55_152 rfl ?_
    refine ls_getR f_55_153 p_55_21 hl1 S_31 F_31_1 ?_
    refine ls_aload_n f_55_156 rfl ?_
    refine ls_getR f_55_157 p_55_12 hl1 S_31 F_31_0 ?_
    refine ls_iload_n f_55_160 rfl ?_
    refine ls_invV (a := 37) f_55_161 q_55_103 [.ref 32, .int x3] [] rfl (Nat.le_of_ble_eq_true rfl) hl1 S_37 ow_81 ?_
    refine ls_call hyp hl1 (fun _ h2 hl2 hyp => ?_)
    refine ls_retV hyp (fun hyp => ?_)
    refine ls_iinc (x5 + 1) [some (.ref 31), none, none, some (.int x3), some (.int x4), some (.int (x5 + 1))] f_55_164 rfl (Nat.le_of_ble_eq_true rfl) rfl rfl ?_
    refine ls_goto 139 f_55_167 rfl ?_
    exact hyp
  · exact ls_return f_55_170 rV_55 hyp
theorem e_56 {d : Nat} {h : lm_H} {K : Int32 → lm_H → Prop} (x1 : Int32) (x2 : Int32) (hl : lm_Lay h) (hyp : lm_in x1 5 False ((¬ (if 1 < (lm_i h 42 x1.toNatClampNeg) then (lm_i h 42 x1.toNatClampNeg) else 1) = 0) ∧ (lm_in x1 5 False ((¬ (if 1 < (lm_i h 36 x1.toNatClampNeg) then (lm_i h 36 x1.toNatClampNeg) else 1) = 0) ∧ (lm_in ((x1 * 7) + ((x2 / (if 1 < (lm_i h 42 x1.toNatClampNeg) then (lm_i h 42 x1.toNatClampNeg) else 1)) - (x2 / (if 1 < (lm_i h 42 x1.toNatClampNeg) then (lm_i h 42 x1.toNatClampNeg) else 1)) / (if 1 < (lm_i h 36 x1.toNatClampNeg) then (lm_i h 36 x1.toNatClampNeg) else 1) * (if 1 < (lm_i h 36 x1.toNatClampNeg) then (lm_i h 36 x1.toNatClampNeg) else 1))) 35 False (K (lm_i h 35 (((x1 * 7) + ((x2 / (if 1 < (lm_i h 42 x1.toNatClampNeg) then (lm_i h 42 x1.toNatClampNeg) else 1)) - (x2 / (if 1 < (lm_i h 42 x1.toNatClampNeg) then (lm_i h 42 x1.toNatClampNeg) else 1)) / (if 1 < (lm_i h 36 x1.toNatClampNeg) then (lm_i h 36 x1.toNatClampNeg) else 1) * (if 1 < (lm_i h 36 x1.toNatClampNeg) then (lm_i h 36 x1.toNatClampNeg) else 1))).toNatClampNeg)) h)))))) : lm_call (d + 2) 56 [.ref 31, .int x1, .int x2] h (lm_kI K) := by
  refine ls_enter [some (.ref 31), some (.int x1), some (.int x2), none] ml_56 (Nat.le_of_ble_eq_true rfl) rfl ?_
  refine ls_iload_n f_56_0 rfl ?_
  refine ls_iconst 1 f_56_1 (by decide) ?_
  refine ls_aload_n f_56_2 rfl ?_
  refine ls_getR f_56_3 p_56_29 hl S_31 F_31_3 ?_
  refine ls_iload_n f_56_6 rfl ?_
  refine ls_iald f_56_7 hl S_42 hyp (fun hyp => ?_)
  refine ls_mathI (v := if 1 < (lm_i h 42 x1.toNatClampNeg) then (lm_i h 42 x1.toNatClampNeg) else 1) 1002 f_56_8 q_56_120 (Or.inl ⟨rfl, rfl⟩) (Nat.le_of_ble_eq_true rfl) ?_
  refine ls_idiv (x2 / (if 1 < (lm_i h 42 x1.toNatClampNeg) then (lm_i h 42 x1.toNatClampNeg) else 1)) f_56_11 hyp.1 rfl ?_
  replace hyp := hyp.2
  refine ls_iconst 1 f_56_12 (by decide) ?_
  refine ls_aload_n f_56_13 rfl ?_
  refine ls_getR f_56_14 p_56_12 hl S_31 F_31_0 ?_
  refine ls_getR f_56_17 p_56_79 hl S_32 F_32_7 ?_
  refine ls_iload_n f_56_20 rfl ?_
  refine ls_iald f_56_21 hl S_36 hyp (fun hyp => ?_)
  refine ls_mathI (v := if 1 < (lm_i h 36 x1.toNatClampNeg) then (lm_i h 36 x1.toNatClampNeg) else 1) 1002 f_56_22 q_56_120 (Or.inl ⟨rfl, rfl⟩) (Nat.le_of_ble_eq_true rfl) ?_
  refine ls_irem ((x2 / (if 1 < (lm_i h 42 x1.toNatClampNeg) then (lm_i h 42 x1.toNatClampNeg) else 1)) - (x2 / (if 1 < (lm_i h 42 x1.toNatClampNeg) then (lm_i h 42 x1.toNatClampNeg) else 1)) / (if 1 < (lm_i h 36 x1.toNatClampNeg) then (lm_i h 36 x1.toNatClampNeg) else 1) * (if 1 < (lm_i h 36 x1.toNatClampNeg) then (lm_i h 36 x1.toNatClampNeg) else 1)) f_56_25 hyp.1 rfl ?_
  replace hyp := hyp.2
  refine ls_istore_n [some (.ref 31), some (.int x1), some (.int x2), some (.int ((x2 / (if 1 < (lm_i h 42 x1.toNatClampNeg) then (lm_i h 42 x1.toNatClampNeg) else 1)) - (x2 / (if 1 < (lm_i h 42 x1.toNatClampNeg) then (lm_i h 42 x1.toNatClampNeg) else 1)) / (if 1 < (lm_i h 36 x1.toNatClampNeg) then (lm_i h 36 x1.toNatClampNeg) else 1) * (if 1 < (lm_i h 36 x1.toNatClampNeg) then (lm_i h 36 x1.toNatClampNeg) else 1)))] f_56_26 (Nat.le_of_ble_eq_true rfl) rfl ?_
  refine ls_aload_n f_56_27 rfl ?_
  refine ls_getR f_56_28 p_56_12 hl S_31 F_31_0 ?_
  refine ls_getR f_56_31 p_56_110 hl S_32 F_32_6 ?_
  refine ls_iload_n f_56_34 rfl ?_
  refine ls_iload_n f_56_35 rfl ?_
  refine ls_invS f_56_36 q_56_113 [.int x1, .int ((x2 / (if 1 < (lm_i h 42 x1.toNatClampNeg) then (lm_i h 42 x1.toNatClampNeg) else 1)) - (x2 / (if 1 < (lm_i h 42 x1.toNatClampNeg) then (lm_i h 42 x1.toNatClampNeg) else 1)) / (if 1 < (lm_i h 36 x1.toNatClampNeg) then (lm_i h 36 x1.toNatClampNeg) else 1) * (if 1 < (lm_i h 36 x1.toNatClampNeg) then (lm_i h 36 x1.toNatClampNeg) else 1))] [.ref 35] rfl (Nat.le_of_ble_eq_true rfl) ?_
  refine ls_enter [some (.int x1), some (.int ((x2 / (if 1 < (lm_i h 42 x1.toNatClampNeg) then (lm_i h 42 x1.toNatClampNeg) else 1)) - (x2 / (if 1 < (lm_i h 42 x1.toNatClampNeg) then (lm_i h 42 x1.toNatClampNeg) else 1)) / (if 1 < (lm_i h 36 x1.toNatClampNeg) then (lm_i h 36 x1.toNatClampNeg) else 1) * (if 1 < (lm_i h 36 x1.toNatClampNeg) then (lm_i h 36 x1.toNatClampNeg) else 1)))] ml_148 (Nat.le_of_ble_eq_true rfl) rfl ?_
  refine ls_iload_n f_148_0 rfl ?_
  refine ls_bipush 7 f_148_1 (by decide) ?_
  refine ls_imul (x1 * 7) f_148_3 rfl ?_
  refine ls_iload_n f_148_4 rfl ?_
  refine ls_iadd ((x1 * 7) + ((x2 / (if 1 < (lm_i h 42 x1.toNatClampNeg) then (lm_i h 42 x1.toNatClampNeg) else 1)) - (x2 / (if 1 < (lm_i h 42 x1.toNatClampNeg) then (lm_i h 42 x1.toNatClampNeg) else 1)) / (if 1 < (lm_i h 36 x1.toNatClampNeg) then (lm_i h 36 x1.toNatClampNeg) else 1) * (if 1 < (lm_i h 36 x1.toNatClampNeg) then (lm_i h 36 x1.toNatClampNeg) else 1))) f_148_5 rfl ?_
  refine ls_ireturn f_148_6 rI_148 ?_
  show lm_W _ _ _ _ [.int ((x1 * 7) + ((x2 / (if 1 < (lm_i h 42 x1.toNatClampNeg) then (lm_i h 42 x1.toNatClampNeg) else 1)) - (x2 / (if 1 < (lm_i h 42 x1.toNatClampNeg) then (lm_i h 42 x1.toNatClampNeg) else 1)) / (if 1 < (lm_i h 36 x1.toNatClampNeg) then (lm_i h 36 x1.toNatClampNeg) else 1) * (if 1 < (lm_i h 36 x1.toNatClampNeg) then (lm_i h 36 x1.toNatClampNeg) else 1))), .ref 35] _ _
  refine ls_iald f_56_39 hl S_35 hyp (fun hyp => ?_)
  exact ls_ireturn f_56_40 rI_56 hyp
theorem e_57 {d : Nat} {h : lm_H} {K : lm_H → Prop} (x1 : Int32) (hl : lm_Lay h) (hyp : lm_in x1 5 False (lm_W (d + 1) 57 18 [some (.ref 31), some (.int x1), some (.int 0), none, none] [] (lm_si h 44 x1.toNatClampNeg (60 * (lm_i h 32 3))) (lm_kV K))) : lm_call (d + 2) 57 [.ref 31, .int x1] h (lm_kV K) := by
  refine ls_enter [some (.ref 31), some (.int x1), none, none, none] ml_57 (Nat.le_of_ble_eq_true rfl) rfl ?_
  refine ls_aload_n f_57_0 rfl ?_
  refine ls_getR f_57_1 p_57_36 hl S_31 F_31_5 ?_
  refine ls_iload_n f_57_4 rfl ?_
  refine ls_bipush 60 f_57_5 (by decide) ?_
  refine ls_aload_n f_57_7 rfl ?_
  refine ls_getR f_57_8 p_57_12 hl S_31 F_31_0 ?_
  refine ls_getI f_57_11 p_57_107 hl S_32 ?_
  refine ls_imul (60 * (lm_i h 32 3)) f_57_14 rfl ?_
  refine ls_iast f_57_15 hl S_44 hyp (fun hyp => ?_)
  refine ls_iconst 0 f_57_16 (by decide) ?_
  refine ls_istore_n [some (.ref 31), some (.int x1), some (.int 0), none, none] f_57_17 (Nat.le_of_ble_eq_true rfl) rfl ?_
  exact hyp
theorem b_57_18 {d : Nat} {h : lm_H} {K : lm_H → Prop} (x1 : Int32) (x2 : Int32) (hl : lm_Lay h) (hyp : lm_in x1 5 False (if x2 < (lm_i h 36 x1.toNatClampNeg) then (lm_in ((x1 * 7) + x2) 35 False (lm_in x1 5 False (lm_in ((x1 * 7) + (lm_i h 35 (((x1 * 7) + x2).toNatClampNeg))) 35 False (lm_in x1 5 False (lm_W (d + 1) 57 79 [some (.ref 31), some (.int x1), some (.int x2), some (.int (lm_i h 35 (((x1 * 7) + x2).toNatClampNeg))), some (.int 0)] [] (lm_si h 44 x1.toNatClampNeg (if (lm_i h 44 x1.toNatClampNeg) < (60 * (lm_i h 33 (((x1 * 7) + (lm_i h 35 (((x1 * 7) + x2).toNatClampNeg))).toNatClampNeg))) then (60 * (lm_i h 33 (((x1 * 7) + (lm_i h 35 (((x1 * 7) + x2).toNatClampNeg))).toNatClampNeg))) else (lm_i h 44 x1.toNatClampNeg))) (lm_kV K)))))) else (K h))) : lm_W (d + 1) 57 18 [some (.ref 31), some (.int x1), some (.int x2), none, none] [] h (lm_kV K) := by
  refine ls_iload_n f_57_18 rfl ?_
  refine ls_aload_n f_57_19 rfl ?_
  refine ls_getR f_57_20 p_57_12 hl S_31 F_31_0 ?_
  refine ls_getR f_57_23 p_57_79 hl S_32 F_32_7 ?_
  refine ls_iload_n f_57_26 rfl ?_
  refine ls_iald f_57_27 hl S_36 hyp (fun hyp => ?_)
  refine ls_icmp_ge 132 f_57_28 rfl hyp (fun _ hyp => ?_) (fun _ hyp => ?_)
  · refine ls_aload_n f_57_31 rfl ?_
    refine ls_getR f_57_32 p_57_12 hl S_31 F_31_0 ?_
    refine ls_getR f_57_35 p_57_110 hl S_32 F_32_6 ?_
    refine ls_iload_n f_57_38 rfl ?_
    refine ls_iload_n f_57_39 rfl ?_
    refine ls_invS f_57_40 q_57_113 [.int x1, .int x2] [.ref 35] rfl (Nat.le_of_ble_eq_true rfl) ?_
    refine ls_enter [some (.int x1), some (.int x2)] ml_148 (Nat.le_of_ble_eq_true rfl) rfl ?_
    refine ls_iload_n f_148_0 rfl ?_
    refine ls_bipush 7 f_148_1 (by decide) ?_
    refine ls_imul (x1 * 7) f_148_3 rfl ?_
    refine ls_iload_n f_148_4 rfl ?_
    refine ls_iadd ((x1 * 7) + x2) f_148_5 rfl ?_
    refine ls_ireturn f_148_6 rI_148 ?_
    show lm_W _ _ _ _ [.int ((x1 * 7) + x2), .ref 35] _ _
    refine ls_iald f_57_43 hl S_35 hyp (fun hyp => ?_)
    refine ls_istore_n [some (.ref 31), some (.int x1), some (.int x2), some (.int (lm_i h 35 (((x1 * 7) + x2).toNatClampNeg))), none] f_57_44 (Nat.le_of_ble_eq_true rfl) rfl ?_
    refine ls_aload_n f_57_45 rfl ?_
    refine ls_getR f_57_46 p_57_36 hl S_31 F_31_5 ?_
    refine ls_iload_n f_57_49 rfl ?_
    refine ls_aload_n f_57_50 rfl ?_
    refine ls_getR f_57_51 p_57_36 hl S_31 F_31_5 ?_
    refine ls_iload_n f_57_54 rfl ?_
    refine ls_iald f_57_55 hl S_44 hyp (fun hyp => ?_)
    refine ls_bipush 60 f_57_56 (by decide) ?_
    refine ls_aload_n f_57_58 rfl ?_
    refine ls_getR f_57_59 p_57_12 hl S_31 F_31_0 ?_
    refine ls_getR f_57_62 p_57_117 hl S_32 F_32_4 ?_
    refine ls_iload_n f_57_65 rfl ?_
    refine ls_iload_n f_57_66 rfl ?_
    refine ls_invS f_57_67 q_57_113 [.int x1, .int (lm_i h 35 (((x1 * 7) + x2).toNatClampNeg))] [.ref 33, .int 60, .int (lm_i h 44 x1.toNatClampNeg), .int x1, .ref 44] rfl (Nat.le_of_ble_eq_true rfl) ?_
    refine ls_enter [some (.int x1), some (.int (lm_i h 35 (((x1 * 7) + x2).toNatClampNeg)))] ml_148 (Nat.le_of_ble_eq_true rfl) rfl ?_
    refine ls_iload_n f_148_0 rfl ?_
    refine ls_bipush 7 f_148_1 (by decide) ?_
    refine ls_imul (x1 * 7) f_148_3 rfl ?_
    refine ls_iload_n f_148_4 rfl ?_
    refine ls_iadd ((x1 * 7) + (lm_i h 35 (((x1 * 7) + x2).toNatClampNeg))) f_148_5 rfl ?_
    refine ls_ireturn f_148_6 rI_148 ?_
    show lm_W _ _ _ _ [.int ((x1 * 7) + (lm_i h 35 (((x1 * 7) + x2).toNatClampNeg))), .ref 33, .int 60, .int (lm_i h 44 x1.toNatClampNeg), .int x1, .ref 44] _ _
    refine ls_iald f_57_70 hl S_33 hyp (fun hyp => ?_)
    refine ls_imul (60 * (lm_i h 33 (((x1 * 7) + (lm_i h 35 (((x1 * 7) + x2).toNatClampNeg))).toNatClampNeg))) f_57_71 rfl ?_
    refine ls_mathI (v := if (lm_i h 44 x1.toNatClampNeg) < (60 * (lm_i h 33 (((x1 * 7) + (lm_i h 35 (((x1 * 7) + x2).toNatClampNeg))).toNatClampNeg))) then (60 * (lm_i h 33 (((x1 * 7) + (lm_i h 35 (((x1 * 7) + x2).toNatClampNeg))).toNatClampNeg))) else (lm_i h 44 x1.toNatClampNeg)) 1002 f_57_72 q_57_120 (Or.inl ⟨rfl, rfl⟩) (Nat.le_of_ble_eq_true rfl) ?_
    refine ls_iast f_57_75 hl S_44 hyp (fun hyp => ?_)
    refine ls_iconst 0 f_57_76 (by decide) ?_
    refine ls_istore [some (.ref 31), some (.int x1), some (.int x2), some (.int (lm_i h 35 (((x1 * 7) + x2).toNatClampNeg))), some (.int 0)] f_57_77 (Nat.le_of_ble_eq_true rfl) rfl ?_
    exact hyp
  · exact ls_return f_57_132 rV_57 hyp
theorem b_57_79 {d : Nat} {h : lm_H} {K : lm_H → Prop} (x1 : Int32) (x2 : Int32) (x3 : Int32) (x4 : Int32) (hl : lm_Lay h) (hyp : (if x4 < ((1 : Int32) <<< ((lm_i h 32 0) &&& 31)) then (lm_call (d + 1) 68 [.ref 32, .int x1, .int x3, .int x4] h (lm_kI fun r2 h1 => lm_in ((((x1 * 7) + x3) * 32) + x4) 1120 False (lm_W (d + 1) 57 79 [some (.ref 31), some (.int x1), some (.int x2), some (.int x3), some (.int (x4 + 1))] [] (lm_si h1 43 (((((x1 * 7) + x3) * 32) + x4).toNatClampNeg) r2) (lm_kV K)))) else (lm_W (d + 1) 57 18 [some (.ref 31), some (.int x1), some (.int (x2 + 1)), none, none] [] h (lm_kV K)))) : lm_W (d + 1) 57 79 [some (.ref 31), some (.int x1), some (.int x2), some (.int x3), some (.int x4)] [] h (lm_kV K) := by
  refine ls_iload f_57_79 rfl ?_
  refine ls_iconst 1 f_57_81 (by decide) ?_
  refine ls_aload_n f_57_82 rfl ?_
  refine ls_getR f_57_83 p_57_12 hl S_31 F_31_0 ?_
  refine ls_getI f_57_86 p_57_76 hl S_32 ?_
  refine ls_ishl ((1 : Int32) <<< ((lm_i h 32 0) &&& 31)) f_57_89 rfl ?_
  refine ls_icmp_ge 126 f_57_90 rfl hyp (fun _ hyp => ?_) (fun _ hyp => ?_)
  · refine ls_aload_n f_57_93 rfl ?_
    refine ls_getR f_57_94 p_57_33 hl S_31 F_31_4 ?_
    refine ls_iload_n f_57_97 rfl ?_
    refine ls_iload_n f_57_98 rfl ?_
    refine ls_invS f_57_99 q_57_113 [.int x1, .int x3] [.ref 43] rfl (Nat.le_of_ble_eq_true rfl) ?_
    refine ls_enter [some (.int x1), some (.int x3)] ml_148 (Nat.le_of_ble_eq_true rfl) rfl ?_
    refine ls_iload_n f_148_0 rfl ?_
    refine ls_bipush 7 f_148_1 (by decide) ?_
    refine ls_imul (x1 * 7) f_148_3 rfl ?_
    refine ls_iload_n f_148_4 rfl ?_
    refine ls_iadd ((x1 * 7) + x3) f_148_5 rfl ?_
    refine ls_ireturn f_148_6 rI_148 ?_
    show lm_W _ _ _ _ [.int ((x1 * 7) + x3), .ref 43] _ _
    refine ls_bipush 32 f_57_102 (by decide) ?_
    refine ls_imul (((x1 * 7) + x3) * 32) f_57_104 rfl ?_
    refine ls_iload f_57_105 rfl ?_
    refine ls_iadd ((((x1 * 7) + x3) * 32) + x4) f_57_107 rfl ?_
    refine ls_aload_n f_57_108 rfl ?_
    refine ls_getR f_57_109 p_57_12 hl S_31 F_31_0 ?_
    refine ls_iload_n f_57_112 rfl ?_
    refine ls_iload_n f_57_113 rfl ?_
    refine ls_iload f_57_114 rfl ?_
    refine ls_invV (a := 32) f_57_116 q_57_125 [.int x1, .int x3, .int x4] [.int ((((x1 * 7) + x3) * 32) + x4), .ref 43] rfl (Nat.le_of_ble_eq_true rfl) hl S_32 ow_68 ?_
    refine ls_call hyp hl (fun _ h1 hl1 hyp => ?_)
    refine ls_retI hyp (fun r2 hyp => ?_)
    refine ls_iast f_57_119 hl1 S_43 hyp (fun hyp => ?_)
    refine ls_iinc (x4 + 1) [some (.ref 31), some (.int x1), some (.int x2), some (.int x3), some (.int (x4 + 1))] f_57_120 rfl (Nat.le_of_ble_eq_true rfl) rfl rfl ?_
    refine ls_goto 79 f_57_123 rfl ?_
    exact hyp
  · refine ls_iinc (x2 + 1) [some (.ref 31), some (.int x1), some (.int (x2 + 1)), some (.int x3), some (.int x4)] f_57_126 rfl (Nat.le_of_ble_eq_true rfl) rfl rfl ?_
    refine ls_goto 18 f_57_129 rfl ?_
    exact ls_mask [true, true, true, false, false] [some (.ref 31), some (.int x1), some (.int (x2 + 1)), none, none] rfl hyp
theorem e_58 {d : Nat} {h : lm_H} {K : lm_H → Prop} (x1 : Int32) (hl : lm_Lay h) (hyp : lm_W (d) 58 38 [some (.ref 31), some (.int x1), some (.ref 38), some (.ref 40), some (.int (lm_i h 32 0)), some (.int 0), some (.int 1000000), some (.int 1), some (.int 0), none, none] [] h (lm_kV K)) : lm_call (d + 1) 58 [.ref 31, .int x1] h (lm_kV K) := by
  refine ls_enter [some (.ref 31), some (.int x1), none, none, none, none, none, none, none, none, none] ml_58 (Nat.le_of_ble_eq_true rfl) rfl ?_
  refine ls_aload_n f_58_0 rfl ?_
  refine ls_getR f_58_1 p_58_21 hl S_31 F_31_1 ?_
  refine ls_getR f_58_4 p_58_93 hl S_37 F_37_0 ?_
  refine ls_astore_n [some (.ref 31), some (.int x1), some (.ref 38), none, none, none, none, none, none, none, none] f_58_7 (Nat.le_of_ble_eq_true rfl) rfl ?_
  refine ls_aload_n f_58_8 rfl ?_
  refine ls_getR f_58_9 p_58_21 hl S_31 F_31_1 ?_
  refine ls_getR f_58_12 p_58_129 hl S_37 F_37_2 ?_
  refine ls_astore_n [some (.ref 31), some (.int x1), some (.ref 38), some (.ref 40), none, none, none, none, none, none, none] f_58_15 (Nat.le_of_ble_eq_true rfl) rfl ?_
  refine ls_aload_n f_58_16 rfl ?_
  refine ls_getR f_58_17 p_58_12 hl S_31 F_31_0 ?_
  refine ls_getI f_58_20 p_58_76 hl S_32 ?_
  refine ls_istore [some (.ref 31), some (.int x1), some (.ref 38), some (.ref 40), some (.int (lm_i h 32 0)), none, none, none, none, none, none] f_58_23 (Nat.le_of_ble_eq_true rfl) rfl ?_
  refine ls_iconst 0 f_58_25 (by decide) ?_
  refine ls_istore [some (.ref 31), some (.int x1), some (.ref 38), some (.ref 40), some (.int (lm_i h 32 0)), some (.int 0), none, none, none, none, none] f_58_26 (Nat.le_of_ble_eq_true rfl) rfl ?_
  refine ls_ldc f_58_28 k_58_132 ?_
  refine ls_istore [some (.ref 31), some (.int x1), some (.ref 38), some (.ref 40), some (.int (lm_i h 32 0)), some (.int 0), some (.int 1000000), none, none, none, none] f_58_30 (Nat.le_of_ble_eq_true rfl) rfl ?_
  refine ls_iconst 1 f_58_32 (by decide) ?_
  refine ls_istore [some (.ref 31), some (.int x1), some (.ref 38), some (.ref 40), some (.int (lm_i h 32 0)), some (.int 0), some (.int 1000000), some (.int 1), none, none, none] f_58_33 (Nat.le_of_ble_eq_true rfl) rfl ?_
  refine ls_iconst 0 f_58_35 (by decide) ?_
  refine ls_istore [some (.ref 31), some (.int x1), some (.ref 38), some (.ref 40), some (.int (lm_i h 32 0)), some (.int 0), some (.int 1000000), some (.int 1), some (.int 0), none, none] f_58_36 (Nat.le_of_ble_eq_true rfl) rfl ?_
  exact hyp
theorem b_58_38 {d : Nat} {h : lm_H} {K : lm_H → Prop} (x1 : Int32) (x4 : Int32) (x5 : Int32) (x6 : Int32) (x7 : Int32) (x8 : Int32) (hl : lm_Lay h) (hyp : (if x8 < x4 then (lm_in x8 5 False (lm_in (lm_i h 38 x8.toNatClampNeg) 7 False (lm_in ((((x8 * 7) + (lm_i h 38 x8.toNatClampNeg)) * 32) + (lm_i h 40 ((lm_i h 38 x8.toNatClampNeg).toNatClampNeg))) 1120 False (if (lm_i h 43 (((((x8 * 7) + (lm_i h 38 x8.toNatClampNeg)) * 32) + (lm_i h 40 ((lm_i h 38 x8.toNatClampNeg).toNatClampNeg))).toNatClampNeg)) < x6 then (if x7 = 0 then (lm_W (d) 58 38 [some (.ref 31), some (.int x1), some (.ref 38), some (.ref 40), some (.int x4), some (.int (x5 + (lm_i h 43 (((((x8 * 7) + (lm_i h 38 x8.toNatClampNeg)) * 32) + (lm_i h 40 ((lm_i h 38 x8.toNatClampNeg).toNatClampNeg))).toNatClampNeg)))), some (.int (lm_i h 43 (((((x8 * 7) + (lm_i h 38 x8.toNatClampNeg)) * 32) + (lm_i h 40 ((lm_i h 38 x8.toNatClampNeg).toNatClampNeg))).toNatClampNeg))), some (.int x7), some (.int (x8 + 1)), none, none] [] h (lm_kV K)) else (lm_in x8 5 False (if (lm_i h 43 (((((x8 * 7) + (lm_i h 38 x8.toNatClampNeg)) * 32) + (lm_i h 40 ((lm_i h 38 x8.toNatClampNeg).toNatClampNeg))).toNatClampNeg)) < (lm_i h 44 x8.toNatClampNeg) then (lm_call (d) 59 [.ref 31, .int x8, .int (lm_i h 43 (((((x8 * 7) + (lm_i h 38 x8.toNatClampNeg)) * 32) + (lm_i h 40 ((lm_i h 38 x8.toNatClampNeg).toNatClampNeg))).toNatClampNeg))] h (lm_kI fun r2 h1 => lm_W (d) 58 38 [some (.ref 31), some (.int x1), some (.ref 38), some (.ref 40), some (.int x4), some (.int (x5 + (lm_i h 43 (((((x8 * 7) + (lm_i h 38 x8.toNatClampNeg)) * 32) + (lm_i h 40 ((lm_i h 38 x8.toNatClampNeg).toNatClampNeg))).toNatClampNeg)))), some (.int (lm_i h 43 (((((x8 * 7) + (lm_i h 38 x8.toNatClampNeg)) * 32) + (lm_i h 40 ((lm_i h 38 x8.toNatClampNeg).toNatClampNeg))).toNatClampNeg))), some (.int r2), some (.int (x8 + 1)), none, none] [] h1 (lm_kV K))) else (lm_W (d) 58 38 [some (.ref 31), some (.int x1), some (.ref 38), some (.ref 40), some (.int x4), some (.int (x5 + (lm_i h 43 (((((x8 * 7) + (lm_i h 38 x8.toNatClampNeg)) * 32) + (lm_i h 40 ((lm_i h 38 x8.toNatClampNeg).toNatClampNeg))).toNatClampNeg)))), some (.int (lm_i h 43 (((((x8 * 7) + (lm_i h 38 x8.toNatClampNeg)) * 32) + (lm_i h 40 ((lm_i h 38 x8.toNatClampNeg).toNatClampNeg))).toNatClampNeg))), some (.int x7), some (.int (x8 + 1)), none, none] [] h (lm_kV K))))) else (if x7 = 0 then (lm_W (d) 58 38 [some (.ref 31), some (.int x1), some (.ref 38), some (.ref 40), some (.int x4), some (.int (x5 + (lm_i h 43 (((((x8 * 7) + (lm_i h 38 x8.toNatClampNeg)) * 32) + (lm_i h 40 ((lm_i h 38 x8.toNatClampNeg).toNatClampNeg))).toNatClampNeg)))), some (.int x6), some (.int x7), some (.int (x8 + 1)), none, none] [] h (lm_kV K)) else (lm_in x8 5 False (if (lm_i h 43 (((((x8 * 7) + (lm_i h 38 x8.toNatClampNeg)) * 32) + (lm_i h 40 ((lm_i h 38 x8.toNatClampNeg).toNatClampNeg))).toNatClampNeg)) < (lm_i h 44 x8.toNatClampNeg) then (lm_call (d) 59 [.ref 31, .int x8, .int (lm_i h 43 (((((x8 * 7) + (lm_i h 38 x8.toNatClampNeg)) * 32) + (lm_i h 40 ((lm_i h 38 x8.toNatClampNeg).toNatClampNeg))).toNatClampNeg))] h (lm_kI fun r4 h3 => lm_W (d) 58 38 [some (.ref 31), some (.int x1), some (.ref 38), some (.ref 40), some (.int x4), some (.int (x5 + (lm_i h 43 (((((x8 * 7) + (lm_i h 38 x8.toNatClampNeg)) * 32) + (lm_i h 40 ((lm_i h 38 x8.toNatClampNeg).toNatClampNeg))).toNatClampNeg)))), some (.int x6), some (.int r4), some (.int (x8 + 1)), none, none] [] h3 (lm_kV K))) else (lm_W (d) 58 38 [some (.ref 31), some (.int x1), some (.ref 38), some (.ref 40), some (.int x4), some (.int (x5 + (lm_i h 43 (((((x8 * 7) + (lm_i h 38 x8.toNatClampNeg)) * 32) + (lm_i h 40 ((lm_i h 38 x8.toNatClampNeg).toNatClampNeg))).toNatClampNeg)))), some (.int x6), some (.int x7), some (.int (x8 + 1)), none, none] [] h (lm_kV K))))))))) else (if x5 < (lm_i h 31 7) then (if x6 < (lm_i h 31 10) then (if x7 = 0 then (K h) else (lm_call (d) 274 [.ref 31, .int x1, .int x5] h (lm_kV fun h5 => K h5))) else (lm_call (d) 273 [.ref 31, .int x6] h (lm_kV fun h6 => (if x7 = 0 then (K h6) else (lm_call (d) 274 [.ref 31, .int x1, .int x5] h6 (lm_kV fun h7 => K h7)))))) else (lm_call (d) 60 [.ref 31, .int x1, .int x5] h (lm_kV fun h8 => (if x6 < (lm_i h8 31 10) then (if x7 = 0 then (K h8) else (lm_call (d) 274 [.ref 31, .int x1, .int x5] h8 (lm_kV fun h9 => K h9))) else (lm_call (d) 273 [.ref 31, .int x6] h8 (lm_kV fun h10 => (if x7 = 0 then (K h10) else (lm_call (d) 274 [.ref 31, .int x1, .int x5] h10 (lm_kV fun h11 => K h11))))))))))) : lm_W (d) 58 38 [some (.ref 31), some (.int x1), some (.ref 38), some (.ref 40), some (.int x4), some (.int x5), some (.int x6), some (.int x7), some (.int x8), none, none] [] h (lm_kV K) := by
  refine ls_iload f_58_38 rfl ?_
  refine ls_iload f_58_40 rfl ?_
  refine ls_icmp_ge 125 f_58_42 rfl hyp (fun _ hyp => ?_) (fun _ hyp => ?_)
  · refine ls_aload_n f_58_45 rfl ?_
    refine ls_iload f_58_46 rfl ?_
    refine ls_iald f_58_48 hl S_38 hyp (fun hyp => ?_)
    refine ls_istore [some (.ref 31), some (.int x1), some (.ref 38), some (.ref 40), some (.int x4), some (.int x5), some (.int x6), some (.int x7), some (.int x8), some (.int (lm_i h 38 x8.toNatClampNeg)), none] f_58_49 (Nat.le_of_ble_eq_true rfl) rfl ?_
    refine ls_aload_n f_58_51 rfl ?_
    refine ls_getR f_58_52 p_58_33 hl S_31 F_31_4 ?_
    refine ls_iload f_58_55 rfl ?_
    refine ls_bipush 7 f_58_57 (by decide) ?_
    refine ls_imul (x8 * 7) f_58_59 rfl ?_
    refine ls_iload f_58_60 rfl ?_
    refine ls_iadd ((x8 * 7) + (lm_i h 38 x8.toNatClampNeg)) f_58_62 rfl ?_
    refine ls_bipush 32 f_58_63 (by decide) ?_
    refine ls_imul (((x8 * 7) + (lm_i h 38 x8.toNatClampNeg)) * 32) f_58_65 rfl ?_
    refine ls_aload_n f_58_66 rfl ?_
    refine ls_iload f_58_67 rfl ?_
    refine ls_iald f_58_69 hl S_40 hyp (fun hyp => ?_)
    refine ls_iadd ((((x8 * 7) + (lm_i h 38 x8.toNatClampNeg)) * 32) + (lm_i h 40 ((lm_i h 38 x8.toNatClampNeg).toNatClampNeg))) f_58_70 rfl ?_
    refine ls_iald f_58_71 hl S_43 hyp (fun hyp => ?_)
    refine ls_istore [some (.ref 31), some (.int x1), some (.ref 38), some (.ref 40), some (.int x4), some (.int x5), some (.int x6), some (.int x7), some (.int x8), some (.int (lm_i h 38 x8.toNatClampNeg)), some (.int (lm_i h 43 (((((x8 * 7) + (lm_i h 38 x8.toNatClampNeg)) * 32) + (lm_i h 40 ((lm_i h 38 x8.toNatClampNeg).toNatClampNeg))).toNatClampNeg)))] f_58_72 (Nat.le_of_ble_eq_true rfl) rfl ?_
    refine ls_iload f_58_74 rfl ?_
    refine ls_iload f_58_76 rfl ?_
    refine ls_iadd (x5 + (lm_i h 43 (((((x8 * 7) + (lm_i h 38 x8.toNatClampNeg)) * 32) + (lm_i h 40 ((lm_i h 38 x8.toNatClampNeg).toNatClampNeg))).toNatClampNeg))) f_58_78 rfl ?_
    refine ls_istore [some (.ref 31), some (.int x1), some (.ref 38), some (.ref 40), some (.int x4), some (.int (x5 + (lm_i h 43 (((((x8 * 7) + (lm_i h 38 x8.toNatClampNeg)) * 32) + (lm_i h 40 ((lm_i h 38 x8.toNatClampNeg).toNatClampNeg))).toNatClampNeg)))), some (.int x6), some (.int x7), some (.int x8), some (.int (lm_i h 38 x8.toNatClampNeg)), some (.int (lm_i h 43 (((((x8 * 7) + (lm_i h 38 x8.toNatClampNeg)) * 32) + (lm_i h 40 ((lm_i h 38 x8.toNatClampNeg).toNatClampNeg))).toNatClampNeg)))] f_58_79 (Nat.le_of_ble_eq_true rfl) rfl ?_
    refine ls_iload f_58_81 rfl ?_
    refine ls_iload f_58_83 rfl ?_
    refine ls_icmp_ge 92 f_58_85 rfl hyp (fun _ hyp => ?_) (fun _ hyp => ?_)
    · refine ls_iload f_58_88 rfl ?_
      refine ls_istore [some (.ref 31), some (.int x1), some (.ref 38), some (.ref 40), some (.int x4), some (.int (x5 + (lm_i h 43 (((((x8 * 7) + (lm_i h 38 x8.toNatClampNeg)) * 32) + (lm_i h 40 ((lm_i h 38 x8.toNatClampNeg).toNatClampNeg))).toNatClampNeg)))), some (.int (lm_i h 43 (((((x8 * 7) + (lm_i h 38 x8.toNatClampNeg)) * 32) + (lm_i h 40 ((lm_i h 38 x8.toNatClampNeg).toNatClampNeg))).toNatClampNeg))), some (.int x7), some (.int x8), some (.int (lm_i h 38 x8.toNatClampNeg)), some (.int (lm_i h 43 (((((x8 * 7) + (lm_i h 38 x8.toNatClampNeg)) * 32) + (lm_i h 40 ((lm_i h 38 x8.toNatClampNeg).toNatClampNeg))).toNatClampNeg)))] f_58_90 (Nat.le_of_ble_eq_true rfl) rfl ?_
      refine ls_iload f_58_92 rfl ?_
      refine ls_if_eq 119 f_58_94 rfl hyp (fun _ hyp => ?_) (fun _ hyp => ?_)
      · refine ls_iinc (x8 + 1) [some (.ref 31), some (.int x1), some (.ref 38), some (.ref 40), some (.int x4), some (.int (x5 + (lm_i h 43 (((((x8 * 7) + (lm_i h 38 x8.toNatClampNeg)) * 32) + (lm_i h 40 ((lm_i h 38 x8.toNatClampNeg).toNatClampNeg))).toNatClampNeg)))), some (.int (lm_i h 43 (((((x8 * 7) + (lm_i h 38 x8.toNatClampNeg)) * 32) + (lm_i h 40 ((lm_i h 38 x8.toNatClampNeg).toNatClampNeg))).toNatClampNeg))), some (.int x7), some (.int (x8 + 1)), some (.int (lm_i h 38 x8.toNatClampNeg)), some (.int (lm_i h 43 (((((x8 * 7) + (lm_i h 38 x8.toNatClampNeg)) * 32) + (lm_i h 40 ((lm_i h 38 x8.toNatClampNeg).toNatClampNeg))).toNatClampNeg)))] f_58_119 rfl (Nat.le_of_ble_eq_true rfl) rfl rfl ?_
        refine ls_goto 38 f_58_122 rfl ?_
        exact ls_mask [true, true, true, true, true, true, true, true, true, false, false] [some (.ref 31), some (.int x1), some (.ref 38), some (.ref 40), some (.int x4), some (.int (x5 + (lm_i h 43 (((((x8 * 7) + (lm_i h 38 x8.toNatClampNeg)) * 32) + (lm_i h 40 ((lm_i h 38 x8.toNatClampNeg).toNatClampNeg))).toNatClampNeg)))), some (.int (lm_i h 43 (((((x8 * 7) + (lm_i h 38 x8.toNatClampNeg)) * 32) + (lm_i h 40 ((lm_i h 38 x8.toNatClampNeg).toNatClampNeg))).toNatClampNeg))), some (.int x7), some (.int (x8 + 1)), none, none] rfl hyp
      · refine ls_iload f_58_97 rfl ?_
        refine ls_aload_n f_58_99 rfl ?_
        refine ls_getR f_58_100 p_58_36 hl S_31 F_31_5 ?_
        refine ls_iload f_58_103 rfl ?_
        refine ls_iald f_58_105 hl S_44 hyp (fun hyp => ?_)
        refine ls_icmp_ge 119 f_58_106 rfl hyp (fun _ hyp => ?_) (fun _ hyp => ?_)
        · refine ls_aload_n f_58_109 rfl ?_
          refine ls_iload f_58_110 rfl ?_
          refine ls_iload f_58_112 rfl ?_
          refine ls_invV (a := 31) f_58_114 q_58_133 [.int x8, .int (lm_i h 43 (((((x8 * 7) + (lm_i h 38 x8.toNatClampNeg)) * 32) + (lm_i h 40 ((lm_i h 38 x8.toNatClampNeg).toNatClampNeg))).toNatClampNeg))] [] rfl (Nat.le_of_ble_eq_true rfl) hl S_31 ow_59 ?_
          refine ls_call hyp hl (fun _ h1 hl1 hyp => ?_)
          refine ls_retI hyp (fun r2 hyp => ?_)
          refine ls_istore [some (.ref 31), some (.int x1), some (.ref 38), some (.ref 40), some (.int x4), some (.int (x5 + (lm_i h 43 (((((x8 * 7) + (lm_i h 38 x8.toNatClampNeg)) * 32) + (lm_i h 40 ((lm_i h 38 x8.toNatClampNeg).toNatClampNeg))).toNatClampNeg)))), some (.int (lm_i h 43 (((((x8 * 7) + (lm_i h 38 x8.toNatClampNeg)) * 32) + (lm_i h 40 ((lm_i h 38 x8.toNatClampNeg).toNatClampNeg))).toNatClampNeg))), some (.int r2), some (.int x8), some (.int (lm_i h 38 x8.toNatClampNeg)), some (.int (lm_i h 43 (((((x8 * 7) + (lm_i h 38 x8.toNatClampNeg)) * 32) + (lm_i h 40 ((lm_i h 38 x8.toNatClampNeg).toNatClampNeg))).toNatClampNeg)))] f_58_117 (Nat.le_of_ble_eq_true rfl) rfl ?_
          refine ls_iinc (x8 + 1) [some (.ref 31), some (.int x1), some (.ref 38), some (.ref 40), some (.int x4), some (.int (x5 + (lm_i h 43 (((((x8 * 7) + (lm_i h 38 x8.toNatClampNeg)) * 32) + (lm_i h 40 ((lm_i h 38 x8.toNatClampNeg).toNatClampNeg))).toNatClampNeg)))), some (.int (lm_i h 43 (((((x8 * 7) + (lm_i h 38 x8.toNatClampNeg)) * 32) + (lm_i h 40 ((lm_i h 38 x8.toNatClampNeg).toNatClampNeg))).toNatClampNeg))), some (.int r2), some (.int (x8 + 1)), some (.int (lm_i h 38 x8.toNatClampNeg)), some (.int (lm_i h 43 (((((x8 * 7) + (lm_i h 38 x8.toNatClampNeg)) * 32) + (lm_i h 40 ((lm_i h 38 x8.toNatClampNeg).toNatClampNeg))).toNatClampNeg)))] f_58_119 rfl (Nat.le_of_ble_eq_true rfl) rfl rfl ?_
          refine ls_goto 38 f_58_122 rfl ?_
          exact ls_mask [true, true, true, true, true, true, true, true, true, false, false] [some (.ref 31), some (.int x1), some (.ref 38), some (.ref 40), some (.int x4), some (.int (x5 + (lm_i h 43 (((((x8 * 7) + (lm_i h 38 x8.toNatClampNeg)) * 32) + (lm_i h 40 ((lm_i h 38 x8.toNatClampNeg).toNatClampNeg))).toNatClampNeg)))), some (.int (lm_i h 43 (((((x8 * 7) + (lm_i h 38 x8.toNatClampNeg)) * 32) + (lm_i h 40 ((lm_i h 38 x8.toNatClampNeg).toNatClampNeg))).toNatClampNeg))), some (.int r2), some (.int (x8 + 1)), none, none] rfl hyp
        · refine ls_iinc (x8 + 1) [some (.ref 31), some (.int x1), some (.ref 38), some (.ref 40), some (.int x4), some (.int (x5 + (lm_i h 43 (((((x8 * 7) + (lm_i h 38 x8.toNatClampNeg)) * 32) + (lm_i h 40 ((lm_i h 38 x8.toNatClampNeg).toNatClampNeg))).toNatClampNeg)))), some (.int (lm_i h 43 (((((x8 * 7) + (lm_i h 38 x8.toNatClampNeg)) * 32) + (lm_i h 40 ((lm_i h 38 x8.toNatClampNeg).toNatClampNeg))).toNatClampNeg))), some (.int x7), some (.int (x8 + 1)), some (.int (lm_i h 38 x8.toNatClampNeg)), some (.int (lm_i h 43 (((((x8 * 7) + (lm_i h 38 x8.toNatClampNeg)) * 32) + (lm_i h 40 ((lm_i h 38 x8.toNatClampNeg).toNatClampNeg))).toNatClampNeg)))] f_58_119 rfl (Nat.le_of_ble_eq_true rfl) rfl rfl ?_
          refine ls_goto 38 f_58_122 rfl ?_
          exact ls_mask [true, true, true, true, true, true, true, true, true, false, false] [some (.ref 31), some (.int x1), some (.ref 38), some (.ref 40), some (.int x4), some (.int (x5 + (lm_i h 43 (((((x8 * 7) + (lm_i h 38 x8.toNatClampNeg)) * 32) + (lm_i h 40 ((lm_i h 38 x8.toNatClampNeg).toNatClampNeg))).toNatClampNeg)))), some (.int (lm_i h 43 (((((x8 * 7) + (lm_i h 38 x8.toNatClampNeg)) * 32) + (lm_i h 40 ((lm_i h 38 x8.toNatClampNeg).toNatClampNeg))).toNatClampNeg))), some (.int x7), some (.int (x8 + 1)), none, none] rfl hyp
    · refine ls_iload f_58_92 rfl ?_
      refine ls_if_eq 119 f_58_94 rfl hyp (fun _ hyp => ?_) (fun _ hyp => ?_)
      · refine ls_iinc (x8 + 1) [some (.ref 31), some (.int x1), some (.ref 38), some (.ref 40), some (.int x4), some (.int (x5 + (lm_i h 43 (((((x8 * 7) + (lm_i h 38 x8.toNatClampNeg)) * 32) + (lm_i h 40 ((lm_i h 38 x8.toNatClampNeg).toNatClampNeg))).toNatClampNeg)))), some (.int x6), some (.int x7), some (.int (x8 + 1)), some (.int (lm_i h 38 x8.toNatClampNeg)), some (.int (lm_i h 43 (((((x8 * 7) + (lm_i h 38 x8.toNatClampNeg)) * 32) + (lm_i h 40 ((lm_i h 38 x8.toNatClampNeg).toNatClampNeg))).toNatClampNeg)))] f_58_119 rfl (Nat.le_of_ble_eq_true rfl) rfl rfl ?_
        refine ls_goto 38 f_58_122 rfl ?_
        exact ls_mask [true, true, true, true, true, true, true, true, true, false, false] [some (.ref 31), some (.int x1), some (.ref 38), some (.ref 40), some (.int x4), some (.int (x5 + (lm_i h 43 (((((x8 * 7) + (lm_i h 38 x8.toNatClampNeg)) * 32) + (lm_i h 40 ((lm_i h 38 x8.toNatClampNeg).toNatClampNeg))).toNatClampNeg)))), some (.int x6), some (.int x7), some (.int (x8 + 1)), none, none] rfl hyp
      · refine ls_iload f_58_97 rfl ?_
        refine ls_aload_n f_58_99 rfl ?_
        refine ls_getR f_58_100 p_58_36 hl S_31 F_31_5 ?_
        refine ls_iload f_58_103 rfl ?_
        refine ls_iald f_58_105 hl S_44 hyp (fun hyp => ?_)
        refine ls_icmp_ge 119 f_58_106 rfl hyp (fun _ hyp => ?_) (fun _ hyp => ?_)
        · refine ls_aload_n f_58_109 rfl ?_
          refine ls_iload f_58_110 rfl ?_
          refine ls_iload f_58_112 rfl ?_
          refine ls_invV (a := 31) f_58_114 q_58_133 [.int x8, .int (lm_i h 43 (((((x8 * 7) + (lm_i h 38 x8.toNatClampNeg)) * 32) + (lm_i h 40 ((lm_i h 38 x8.toNatClampNeg).toNatClampNeg))).toNatClampNeg))] [] rfl (Nat.le_of_ble_eq_true rfl) hl S_31 ow_59 ?_
          refine ls_call hyp hl (fun _ h3 hl3 hyp => ?_)
          refine ls_retI hyp (fun r4 hyp => ?_)
          refine ls_istore [some (.ref 31), some (.int x1), some (.ref 38), some (.ref 40), some (.int x4), some (.int (x5 + (lm_i h 43 (((((x8 * 7) + (lm_i h 38 x8.toNatClampNeg)) * 32) + (lm_i h 40 ((lm_i h 38 x8.toNatClampNeg).toNatClampNeg))).toNatClampNeg)))), some (.int x6), some (.int r4), some (.int x8), some (.int (lm_i h 38 x8.toNatClampNeg)), some (.int (lm_i h 43 (((((x8 * 7) + (lm_i h 38 x8.toNatClampNeg)) * 32) + (lm_i h 40 ((lm_i h 38 x8.toNatClampNeg).toNatClampNeg))).toNatClampNeg)))] f_58_117 (Nat.le_of_ble_eq_true rfl) rfl ?_
          refine ls_iinc (x8 + 1) [some (.ref 31), some (.int x1), some (.ref 38), some (.ref 40), some (.int x4), some (.int (x5 + (lm_i h 43 (((((x8 * 7) + (lm_i h 38 x8.toNatClampNeg)) * 32) + (lm_i h 40 ((lm_i h 38 x8.toNatClampNeg).toNatClampNeg))).toNatClampNeg)))), some (.int x6), some (.int r4), some (.int (x8 + 1)), some (.int (lm_i h 38 x8.toNatClampNeg)), some (.int (lm_i h 43 (((((x8 * 7) + (lm_i h 38 x8.toNatClampNeg)) * 32) + (lm_i h 40 ((lm_i h 38 x8.toNatClampNeg).toNatClampNeg))).toNatClampNeg)))] f_58_119 rfl (Nat.le_of_ble_eq_true rfl) rfl rfl ?_
          refine ls_goto 38 f_58_122 rfl ?_
          exact ls_mask [true, true, true, true, true, true, true, true, true, false, false] [some (.ref 31), some (.int x1), some (.ref 38), some (.ref 40), some (.int x4), some (.int (x5 + (lm_i h 43 (((((x8 * 7) + (lm_i h 38 x8.toNatClampNeg)) * 32) + (lm_i h 40 ((lm_i h 38 x8.toNatClampNeg).toNatClampNeg))).toNatClampNeg)))), some (.int x6), some (.int r4), some (.int (x8 + 1)), none, none] rfl hyp
        · refine ls_iinc (x8 + 1) [some (.ref 31), some (.int x1), some (.ref 38), some (.ref 40), some (.int x4), some (.int (x5 + (lm_i h 43 (((((x8 * 7) + (lm_i h 38 x8.toNatClampNeg)) * 32) + (lm_i h 40 ((lm_i h 38 x8.toNatClampNeg).toNatClampNeg))).toNatClampNeg)))), some (.int x6), some (.int x7), some (.int (x8 + 1)), some (.int (lm_i h 38 x8.toNatClampNeg)), some (.int (lm_i h 43 (((((x8 * 7) + (lm_i h 38 x8.toNatClampNeg)) * 32) + (lm_i h 40 ((lm_i h 38 x8.toNatClampNeg).toNatClampNeg))).toNatClampNeg)))] f_58_119 rfl (Nat.le_of_ble_eq_true rfl) rfl rfl ?_
          refine ls_goto 38 f_58_122 rfl ?_
          exact ls_mask [true, true, true, true, true, true, true, true, true, false, false] [some (.ref 31), some (.int x1), some (.ref 38), some (.ref 40), some (.int x4), some (.int (x5 + (lm_i h 43 (((((x8 * 7) + (lm_i h 38 x8.toNatClampNeg)) * 32) + (lm_i h 40 ((lm_i h 38 x8.toNatClampNeg).toNatClampNeg))).toNatClampNeg)))), some (.int x6), some (.int x7), some (.int (x8 + 1)), none, none] rfl hyp
  · refine ls_iload f_58_125 rfl ?_
    refine ls_aload_n f_58_127 rfl ?_
    refine ls_getI f_58_128 p_58_43 hl S_31 ?_
    refine ls_icmp_lt 141 f_58_131 rfl hyp (fun _ hyp => ?_) (fun _ hyp => ?_)
    · refine ls_iload f_58_141 rfl ?_
      refine ls_aload_n f_58_143 rfl ?_
      refine ls_getI f_58_144 p_58_53 hl S_31 ?_
      refine ls_icmp_lt 156 f_58_147 rfl hyp (fun _ hyp => ?_) (fun _ hyp => ?_)
      · refine ls_iload f_58_156 rfl ?_
        refine ls_if_eq 168 f_58_158 rfl hyp (fun _ hyp => ?_) (fun _ hyp => ?_)
        · exact ls_return f_58_168 rV_58 hyp
        · refine ls_aload_n f_58_161 rfl ?_
          refine ls_iload_n f_58_162 rfl ?_
          refine ls_iload f_58_163 rfl ?_
          refine ls_invV (a := 31) f_58_165 q_58_144 [.int x1, .int x5] [] rfl (Nat.le_of_ble_eq_true rfl) hl S_31 ow_274 ?_
          refine ls_call hyp hl (fun _ h5 hl5 hyp => ?_)
          refine ls_retV hyp (fun hyp => ?_)
          exact ls_return f_58_168 rV_58 hyp
      · refine ls_aload_n f_58_150 rfl ?_
        refine ls_iload f_58_151 rfl ?_
        refine ls_invV (a := 31) f_58_153 q_58_141 [.int x6] [] rfl (Nat.le_of_ble_eq_true rfl) hl S_31 ow_273 ?_
        refine ls_call hyp hl (fun _ h6 hl6 hyp => ?_)
        refine ls_retV hyp (fun hyp => ?_)
        refine ls_iload f_58_156 rfl ?_
        refine ls_if_eq 168 f_58_158 rfl hyp (fun _ hyp => ?_) (fun _ hyp => ?_)
        · exact ls_return f_58_168 rV_58 hyp
        · refine ls_aload_n f_58_161 rfl ?_
          refine ls_iload_n f_58_162 rfl ?_
          refine ls_iload f_58_163 rfl ?_
          refine ls_invV (a := 31) f_58_165 q_58_144 [.int x1, .int x5] [] rfl (Nat.le_of_ble_eq_true rfl) hl6 S_31 ow_274 ?_
          refine ls_call hyp hl6 (fun _ h7 hl7 hyp => ?_)
          refine ls_retV hyp (fun hyp => ?_)
          exact ls_return f_58_168 rV_58 hyp
    · refine ls_aload_n f_58_134 rfl ?_
      refine ls_iload_n f_58_135 rfl ?_
      refine ls_iload f_58_136 rfl ?_
      refine ls_invV (a := 31) f_58_138 q_58_137 [.int x1, .int x5] [] rfl (Nat.le_of_ble_eq_true rfl) hl S_31 ow_60 ?_
      refine ls_call hyp hl (fun _ h8 hl8 hyp => ?_)
      refine ls_retV hyp (fun hyp => ?_)
      refine ls_iload f_58_141 rfl ?_
      refine ls_aload_n f_58_143 rfl ?_
      refine ls_getI f_58_144 p_58_53 hl8 S_31 ?_
      refine ls_icmp_lt 156 f_58_147 rfl hyp (fun _ hyp => ?_) (fun _ hyp => ?_)
      · refine ls_iload f_58_156 rfl ?_
        refine ls_if_eq 168 f_58_158 rfl hyp (fun _ hyp => ?_) (fun _ hyp => ?_)
        · exact ls_return f_58_168 rV_58 hyp
        · refine ls_aload_n f_58_161 rfl ?_
          refine ls_iload_n f_58_162 rfl ?_
          refine ls_iload f_58_163 rfl ?_
          refine ls_invV (a := 31) f_58_165 q_58_144 [.int x1, .int x5] [] rfl (Nat.le_of_ble_eq_true rfl) hl8 S_31 ow_274 ?_
          refine ls_call hyp hl8 (fun _ h9 hl9 hyp => ?_)
          refine ls_retV hyp (fun hyp => ?_)
          exact ls_return f_58_168 rV_58 hyp
      · refine ls_aload_n f_58_150 rfl ?_
        refine ls_iload f_58_151 rfl ?_
        refine ls_invV (a := 31) f_58_153 q_58_141 [.int x6] [] rfl (Nat.le_of_ble_eq_true rfl) hl8 S_31 ow_273 ?_
        refine ls_call hyp hl8 (fun _ h10 hl10 hyp => ?_)
        refine ls_retV hyp (fun hyp => ?_)
        refine ls_iload f_58_156 rfl ?_
        refine ls_if_eq 168 f_58_158 rfl hyp (fun _ hyp => ?_) (fun _ hyp => ?_)
        · exact ls_return f_58_168 rV_58 hyp
        · refine ls_aload_n f_58_161 rfl ?_
          refine ls_iload_n f_58_162 rfl ?_
          refine ls_iload f_58_163 rfl ?_
          refine ls_invV (a := 31) f_58_165 q_58_144 [.int x1, .int x5] [] rfl (Nat.le_of_ble_eq_true rfl) hl10 S_31 ow_274 ?_
          refine ls_call hyp hl10 (fun _ h11 hl11 hyp => ?_)
          refine ls_retV hyp (fun hyp => ?_)
          exact ls_return f_58_168 rV_58 hyp
theorem e_59 {d : Nat} {h : lm_H} {K : Int32 → lm_H → Prop} (x1 : Int32) (x2 : Int32) (hl : lm_Lay h) (hyp : lm_W (d + 1) 59 9 [some (.ref 31), some (.int x1), some (.int x2), some (.int ((x1 * 7) + 0)), some (.int 0), none] [] h (lm_kI K)) : lm_call (d + 2) 59 [.ref 31, .int x1, .int x2] h (lm_kI K) := by
  refine ls_enter [some (.ref 31), some (.int x1), some (.int x2), none, none, none] ml_59 (Nat.le_of_ble_eq_true rfl) rfl ?_
  refine ls_iload_n f_59_0 rfl ?_
  refine ls_iconst 0 f_59_1 (by decide) ?_
  refine ls_invS f_59_2 q_59_113 [.int x1, .int 0] [] rfl (Nat.le_of_ble_eq_true rfl) ?_
  refine ls_enter [some (.int x1), some (.int 0)] ml_148 (Nat.le_of_ble_eq_true rfl) rfl ?_
  refine ls_iload_n f_148_0 rfl ?_
  refine ls_bipush 7 f_148_1 (by decide) ?_
  refine ls_imul (x1 * 7) f_148_3 rfl ?_
  refine ls_iload_n f_148_4 rfl ?_
  refine ls_iadd ((x1 * 7) + 0) f_148_5 rfl ?_
  refine ls_ireturn f_148_6 rI_148 ?_
  show lm_W _ _ _ _ [.int ((x1 * 7) + 0)] _ _
  refine ls_istore_n [some (.ref 31), some (.int x1), some (.int x2), some (.int ((x1 * 7) + 0)), none, none] f_59_5 (Nat.le_of_ble_eq_true rfl) rfl ?_
  refine ls_iconst 0 f_59_6 (by decide) ?_
  refine ls_istore [some (.ref 31), some (.int x1), some (.int x2), some (.int ((x1 * 7) + 0)), some (.int 0), none] f_59_7 (Nat.le_of_ble_eq_true rfl) rfl ?_
  exact hyp
theorem b_59_9 {d : Nat} {h : lm_H} {K : Int32 → lm_H → Prop} (x1 : Int32) (x2 : Int32) (x3 : Int32) (x4 : Int32) (hl : lm_Lay h) (hyp : lm_in x1 5 False (if x4 < (lm_i h 36 x1.toNatClampNeg) then (lm_in (x3 + x4) 35 False (lm_in (lm_i h 35 ((x3 + x4).toNatClampNeg)) 7 False (lm_in (((x3 + (lm_i h 35 ((x3 + x4).toNatClampNeg))) * 32) + (lm_i h 40 ((lm_i h 35 ((x3 + x4).toNatClampNeg)).toNatClampNeg))) 1120 False (if x2 < (lm_i h 43 ((((x3 + (lm_i h 35 ((x3 + x4).toNatClampNeg))) * 32) + (lm_i h 40 ((lm_i h 35 ((x3 + x4).toNatClampNeg)).toNatClampNeg))).toNatClampNeg)) then (K 0 h) else (lm_W (d + 1) 59 9 [some (.ref 31), some (.int x1), some (.int x2), some (.int x3), some (.int (x4 + 1)), none] [] h (lm_kI K)))))) else (K 1 h))) : lm_W (d + 1) 59 9 [some (.ref 31), some (.int x1), some (.int x2), some (.int x3), some (.int x4), none] [] h (lm_kI K) := by
  refine ls_iload f_59_9 rfl ?_
  refine ls_aload_n f_59_11 rfl ?_
  refine ls_getR f_59_12 p_59_12 hl S_31 F_31_0 ?_
  refine ls_getR f_59_15 p_59_79 hl S_32 F_32_7 ?_
  refine ls_iload_n f_59_18 rfl ?_
  refine ls_iald f_59_19 hl S_36 hyp (fun hyp => ?_)
  refine ls_icmp_ge 72 f_59_20 rfl hyp (fun _ hyp => ?_) (fun _ hyp => ?_)
  · refine ls_aload_n f_59_23 rfl ?_
    refine ls_getR f_59_24 p_59_12 hl S_31 F_31_0 ?_
    refine ls_getR f_59_27 p_59_110 hl S_32 F_32_6 ?_
    refine ls_iload_n f_59_30 rfl ?_
    refine ls_iload f_59_31 rfl ?_
    refine ls_iadd (x3 + x4) f_59_33 rfl ?_
    refine ls_iald f_59_34 hl S_35 hyp (fun hyp => ?_)
    refine ls_istore [some (.ref 31), some (.int x1), some (.int x2), some (.int x3), some (.int x4), some (.int (lm_i h 35 ((x3 + x4).toNatClampNeg)))] f_59_35 (Nat.le_of_ble_eq_true rfl) rfl ?_
    refine ls_aload_n f_59_37 rfl ?_
    refine ls_getR f_59_38 p_59_33 hl S_31 F_31_4 ?_
    refine ls_iload_n f_59_41 rfl ?_
    refine ls_iload f_59_42 rfl ?_
    refine ls_iadd (x3 + (lm_i h 35 ((x3 + x4).toNatClampNeg))) f_59_44 rfl ?_
    refine ls_bipush 32 f_59_45 (by decide) ?_
    refine ls_imul ((x3 + (lm_i h 35 ((x3 + x4).toNatClampNeg))) * 32) f_59_47 rfl ?_
    refine ls_aload_n f_59_48 rfl ?_
    refine ls_getR f_59_49 p_59_21 hl S_31 F_31_1 ?_
    refine ls_getR f_59_52 p_59_129 hl S_37 F_37_2 ?_
    refine ls_iload f_59_55 rfl ?_
    refine ls_iald f_59_57 hl S_40 hyp (fun hyp => ?_)
    refine ls_iadd (((x3 + (lm_i h 35 ((x3 + x4).toNatClampNeg))) * 32) + (lm_i h 40 ((lm_i h 35 ((x3 + x4).toNatClampNeg)).toNatClampNeg))) f_59_58 rfl ?_
    refine ls_iald f_59_59 hl S_43 hyp (fun hyp => ?_)
    refine ls_iload_n f_59_60 rfl ?_
    refine ls_icmp_le 66 f_59_61 rfl hyp (fun _ hyp => ?_) (fun _ hyp => ?_)
    · refine ls_iconst 0 f_59_64 (by decide) ?_
      exact ls_zreturn f_59_65 rZ_59 (by decide) hyp
    · refine ls_iinc (x4 + 1) [some (.ref 31), some (.int x1), some (.int x2), some (.int x3), some (.int (x4 + 1)), some (.int (lm_i h 35 ((x3 + x4).toNatClampNeg)))] f_59_66 rfl (Nat.le_of_ble_eq_true rfl) rfl rfl ?_
      refine ls_goto 9 f_59_69 rfl ?_
      exact ls_mask [true, true, true, true, true, false] [some (.ref 31), some (.int x1), some (.int x2), some (.int x3), some (.int (x4 + 1)), none] rfl hyp
  · refine ls_iconst 1 f_59_72 (by decide) ?_
    exact ls_zreturn f_59_73 rZ_59 (by decide) hyp
theorem e_60 {d : Nat} {h : lm_H} {K : lm_H → Prop} (x1 : Int32) (x2 : Int32) (hl : lm_Lay h) (hyp : (if (lm_i h 31 7) < x2 then (K (lm_si (lm_si (lm_si (lm_si h 31 7 x2) 31 8 x1) 31 9 0) 31 9 1)) else (K (lm_si h 31 9 ((lm_i h 31 9) + 1))))) : lm_call (d + 1) 60 [.ref 31, .int x1, .int x2] h (lm_kV K) := by
  refine ls_enter [some (.ref 31), some (.int x1), some (.int x2)] ml_60 (Nat.le_of_ble_eq_true rfl) rfl ?_
  refine ls_iload_n f_60_0 rfl ?_
  refine ls_aload_n f_60_1 rfl ?_
  refine ls_getI f_60_2 p_60_43 hl S_31 ?_
  refine ls_icmp_le 23 f_60_5 rfl hyp (fun _ hyp => ?_) (fun _ hyp => ?_)
  · refine ls_aload_n f_60_8 rfl ?_
    refine ls_iload_n f_60_9 rfl ?_
    refine ls_putI f_60_10 p_60_43 hl S_31 rfl ?_
    refine ls_aload_n f_60_13 rfl ?_
    refine ls_iload_n f_60_14 rfl ?_
    refine ls_putI f_60_15 p_60_47 (lm_Lay_si hl _ _ _) S_31 rfl ?_
    refine ls_aload_n f_60_18 rfl ?_
    refine ls_iconst 0 f_60_19 (by decide) ?_
    refine ls_putI f_60_20 p_60_50 (lm_Lay_si (lm_Lay_si hl _ _ _) _ _ _) S_31 rfl ?_
    refine ls_aload_n f_60_23 rfl ?_
    refine ls_dup f_60_24 rfl ?_
    refine ls_getI f_60_25 p_60_50 (lm_Lay_si (lm_Lay_si (lm_Lay_si hl _ _ _) _ _ _) _ _ _) S_31 ?_
    refine ls_top 0 rfl ?_
    refine ls_iconst 1 f_60_28 (by decide) ?_
    refine ls_iadd 1 f_60_29 (by decide) ?_
    refine ls_putI f_60_30 p_60_50 (lm_Lay_si (lm_Lay_si (lm_Lay_si hl _ _ _) _ _ _) _ _ _) S_31 rfl ?_
    exact ls_return f_60_33 rV_60 hyp
  · refine ls_aload_n f_60_23 rfl ?_
    refine ls_dup f_60_24 rfl ?_
    refine ls_getI f_60_25 p_60_50 hl S_31 ?_
    refine ls_iconst 1 f_60_28 (by decide) ?_
    refine ls_iadd ((lm_i h 31 9) + 1) f_60_29 rfl ?_
    refine ls_putI f_60_30 p_60_50 hl S_31 rfl ?_
    exact ls_return f_60_33 rV_60 hyp
theorem e_62 {d : Nat} {h : lm_H} {K : lm_H → Prop} (x4 : Int32) (hl : lm_Lay h) (hyp : (if (lm_i h 1 5) = (-1) then (lm_W (d + 1) 62 58 [some (.ref 21), some (.ref 1), some (.ref 18), some (.ref 74), some (.int x4), some (.null), some (.int 0), none, none] [] (lm_si (lm_si (lm_si (lm_si h 21 0 (lm_i h 1 0)) 21 1 (lm_i h 1 1)) 21 2 (lm_i h 1 2)) 21 3 (lm_i h 1 3)) (lm_kV K)) else (lm_in (lm_i h 1 5) 6 False (lm_W (d + 1) 62 58 [some (.ref 21), some (.ref 1), some (.ref 18), some (.ref 74), some (.int x4), some (va_rf (lm_r (lm_si (lm_si (lm_si (lm_si h 21 0 (lm_i h 1 0)) 21 1 (lm_i h 1 1)) 21 2 (lm_i h 1 2)) 21 3 (lm_i h 1 3)) 8 ((lm_i h 1 5).toNatClampNeg))), some (.int 0), none, none] [] (lm_si (lm_si (lm_si (lm_si h 21 0 (lm_i h 1 0)) 21 1 (lm_i h 1 1)) 21 2 (lm_i h 1 2)) 21 3 (lm_i h 1 3)) (lm_kV K))))) : lm_call (d + 2) 62 [.ref 21, .ref 1, .ref 18, .ref 74, .int x4] h (lm_kV K) := by
  refine ls_enter [some (.ref 21), some (.ref 1), some (.ref 18), some (.ref 74), some (.int x4), none, none, none, none] ml_62 (Nat.le_of_ble_eq_true rfl) rfl ?_
  refine ls_aload_n f_62_0 rfl ?_
  refine ls_aload_n f_62_1 rfl ?_
  refine ls_getI f_62_2 p_62_38 hl S_1 ?_
  refine ls_putI f_62_5 p_62_9 hl S_21 rfl ?_
  refine ls_aload_n f_62_8 rfl ?_
  refine ls_aload_n f_62_9 rfl ?_
  refine ls_getI f_62_10 p_62_41 (lm_Lay_si hl _ _ _) S_1 ?_
  refine ls_top (lm_i h 1 1) rfl ?_
  refine ls_putI f_62_13 p_62_15 (lm_Lay_si hl _ _ _) S_21 rfl ?_
  refine ls_aload_n f_62_16 rfl ?_
  refine ls_aload_n f_62_17 rfl ?_
  refine ls_getI f_62_18 p_62_42 (lm_Lay_si (lm_Lay_si hl _ _ _) _ _ _) S_1 ?_
  refine ls_top (lm_i h 1 2) rfl ?_
  refine ls_putI f_62_21 p_62_18 (lm_Lay_si (lm_Lay_si hl _ _ _) _ _ _) S_21 rfl ?_
  refine ls_aload_n f_62_24 rfl ?_
  refine ls_aload_n f_62_25 rfl ?_
  refine ls_getI f_62_26 p_62_43 (lm_Lay_si (lm_Lay_si (lm_Lay_si hl _ _ _) _ _ _) _ _ _) S_1 ?_
  refine ls_top (lm_i h 1 3) rfl ?_
  refine ls_putI f_62_29 p_62_21 (lm_Lay_si (lm_Lay_si (lm_Lay_si hl _ _ _) _ _ _) _ _ _) S_21 rfl ?_
  refine ls_aload_n f_62_32 rfl ?_
  refine ls_getI f_62_33 p_62_44 (lm_Lay_si (lm_Lay_si (lm_Lay_si (lm_Lay_si hl _ _ _) _ _ _) _ _ _) _ _ _) S_1 ?_
  refine ls_top (lm_i h 1 5) rfl ?_
  refine ls_iconst (-1) f_62_36 (by decide) ?_
  refine ls_icmp_ne 44 f_62_37 rfl hyp (fun _ hyp => ?_) (fun _ hyp => ?_)
  · refine ls_null f_62_40 ?_
    refine ls_goto 53 f_62_41 rfl ?_
    refine ls_astoreN [some (.ref 21), some (.ref 1), some (.ref 18), some (.ref 74), some (.int x4), some (.null), none, none, none] f_62_53 (Nat.le_of_ble_eq_true rfl) rfl ?_
    refine ls_iconst 0 f_62_55 (by decide) ?_
    refine ls_istore [some (.ref 21), some (.ref 1), some (.ref 18), some (.ref 74), some (.int x4), some (.null), some (.int 0), none, none] f_62_56 (Nat.le_of_ble_eq_true rfl) rfl ?_
    exact hyp
  · refine ls_aload_n f_62_44 rfl ?_
    refine ls_getR f_62_45 p_62_47 (lm_Lay_si (lm_Lay_si (lm_Lay_si (lm_Lay_si hl _ _ _) _ _ _) _ _ _) _ _ _) S_1 F_1_12 ?_
    refine ls_aload_n f_62_48 rfl ?_
    refine ls_getI f_62_49 p_62_44 (lm_Lay_si (lm_Lay_si (lm_Lay_si (lm_Lay_si hl _ _ _) _ _ _) _ _ _) _ _ _) S_1 ?_
    refine ls_top (lm_i h 1 5) rfl ?_
    refine ls_aald f_62_52 (lm_Lay_si (lm_Lay_si (lm_Lay_si (lm_Lay_si hl _ _ _) _ _ _) _ _ _) _ _ _) S_8 hyp (fun hyp => ?_)
    refine ls_astoreQ [some (.ref 21), some (.ref 1), some (.ref 18), some (.ref 74), some (.int x4), some (va_rf (lm_r (lm_si (lm_si (lm_si (lm_si h 21 0 (lm_i h 1 0)) 21 1 (lm_i h 1 1)) 21 2 (lm_i h 1 2)) 21 3 (lm_i h 1 3)) 8 ((lm_i h 1 5).toNatClampNeg))), none, none, none] f_62_53 (Nat.le_of_ble_eq_true rfl) rfl ?_
    refine ls_iconst 0 f_62_55 (by decide) ?_
    refine ls_istore [some (.ref 21), some (.ref 1), some (.ref 18), some (.ref 74), some (.int x4), some (va_rf (lm_r (lm_si (lm_si (lm_si (lm_si h 21 0 (lm_i h 1 0)) 21 1 (lm_i h 1 1)) 21 2 (lm_i h 1 2)) 21 3 (lm_i h 1 3)) 8 ((lm_i h 1 5).toNatClampNeg))), some (.int 0), none, none] f_62_56 (Nat.le_of_ble_eq_true rfl) (lm_put_rf rfl rfl) ?_
    exact hyp
theorem b_62_58 {d : Nat} {h : lm_H} {K : lm_H → Prop} (x4 : Int32) (o5 : Option Nat) (x6 : Int32) (hl : lm_Lay h) (hyp : (if x6 < (lm_i h 21 0) then (lm_W (d + 1) 62 70 [some (.ref 21), some (.ref 1), some (.ref 18), some (.ref 74), some (.int x4), some (va_rf o5), some (.int x6), some (.int 0), none] [] h (lm_kV K)) else (K h))) : lm_W (d + 1) 62 58 [some (.ref 21), some (.ref 1), some (.ref 18), some (.ref 74), some (.int x4), some (va_rf o5), some (.int x6), none, none] [] h (lm_kV K) := by
  refine ls_iload f_62_58 rfl ?_
  refine ls_aload_n f_62_60 rfl ?_
  refine ls_getI f_62_61 p_62_9 hl S_21 ?_
  refine ls_icmp_ge 284 f_62_64 rfl hyp (fun _ hyp => ?_) (fun _ hyp => ?_)
  · refine ls_iconst 0 f_62_67 (by decide) ?_
    refine ls_istore [some (.ref 21), some (.ref 1), some (.ref 18), some (.ref 74), some (.int x4), some (va_rf o5), some (.int x6), some (.int 0), none] f_62_68 (Nat.le_of_ble_eq_true rfl) rfl ?_
    exact hyp
  · exact ls_return f_62_284 rV_62 hyp
theorem b_62_70 {d : Nat} {h : lm_H} {K : lm_H → Prop} (x4 : Int32) (o5 : Option Nat) (x6 : Int32) (x7 : Int32) (hl : lm_Lay h) (hyp : (if x7 < (lm_i h 21 1) then (lm_in ((x6 * 6) + x7) 30 False (lm_in ((x6 * 7) + x7) 35 False (lm_in ((x6 * 7) + x7) 35 False (lm_o o5 (lm_W (d + 1) 62 70 [some (.ref 21), some (.ref 1), some (.ref 18), some (.ref 74), some (.int x4), some (.null), some (.int x6), some (.int (x7 + 1)), none] [] (lm_si (lm_si h 22 (((x6 * 7) + x7).toNatClampNeg) (lm_i h 4 (((x6 * 6) + x7).toNatClampNeg))) 23 (((x6 * 7) + x7).toNatClampNeg) 0) (lm_kV K)) (fun o1 => lm_in ((x6 * 6) + x7) 30 False (lm_in x7 6 False (lm_in x6 5 False (lm_in ((x6 * 6) + x7) 30 False (lm_call (d + 1) 15 [.ref 18, .ref o1] (lm_si (lm_si (lm_si (lm_si (lm_si (lm_si (lm_si (lm_si (lm_si h 22 (((x6 * 7) + x7).toNatClampNeg) (lm_i h 4 (((x6 * 6) + x7).toNatClampNeg))) 23 (((x6 * 7) + x7).toNatClampNeg) 0) 19 0 x6) 19 1 x7) 19 2 (lm_i h 4 (((x6 * 6) + x7).toNatClampNeg))) 19 3 (lm_i h 3 x7.toNatClampNeg)) 19 4 (lm_i h 2 x6.toNatClampNeg)) 19 5 (lm_i h 74 (((x6 * 6) + x7).toNatClampNeg))) 19 6 x4) (lm_kV fun h2 => lm_in ((x6 * 7) + x7) 35 False (lm_in ((x6 * 7) + x7) 35 False (lm_W (d + 1) 62 70 [some (.ref 21), some (.ref 1), some (.ref 18), some (.ref 74), some (.int x4), some (.ref o1), some (.int x6), some (.int (x7 + 1)), none] [] (lm_si (lm_si h2 22 (((x6 * 7) + x7).toNatClampNeg) (lm_i h2 18 4)) 23 (((x6 * 7) + x7).toNatClampNeg) (vp_nar .boolean (lm_i h2 18 5))) (lm_kV K))))))))))))) else (lm_in ((x6 * 7) + 6) 35 False (lm_in ((x6 * 7) + 6) 35 False (lm_call (d + 1) 63 [.ref 21, .int x6] (lm_si (lm_si h 22 (((x6 * 7) + 6).toNatClampNeg) (lm_i h 21 3)) 23 (((x6 * 7) + 6).toNatClampNeg) 0) (lm_kV fun h3 => lm_W (d + 1) 62 58 [some (.ref 21), some (.ref 1), some (.ref 18), some (.ref 74), some (.int x4), some (va_rf o5), some (.int (x6 + 1)), none, none] [] h3 (lm_kV K))))))) : lm_W (d + 1) 62 70 [some (.ref 21), some (.ref 1), some (.ref 18), some (.ref 74), some (.int x4), some (va_rf o5), some (.int x6), some (.int x7), none] [] h (lm_kV K) := by
  refine ls_iload f_62_70 rfl ?_
  refine ls_aload_n f_62_72 rfl ?_
  refine ls_getI f_62_73 p_62_15 hl S_21 ?_
  refine ls_icmp_ge 243 f_62_76 rfl hyp (fun _ hyp => ?_) (fun _ hyp => ?_)
  · refine ls_iload f_62_79 rfl ?_
    refine ls_iload f_62_81 rfl ?_
    refine ls_invS f_62_83 q_62_51 [.int x6, .int x7] [] rfl (Nat.le_of_ble_eq_true rfl) ?_
    refine ls_enter [some (.int x6), some (.int x7)] ml_147 (Nat.le_of_ble_eq_true rfl) rfl ?_
    refine ls_iload_n f_147_0 rfl ?_
    refine ls_bipush 6 f_147_1 (by decide) ?_
    refine ls_imul (x6 * 6) f_147_3 rfl ?_
    refine ls_iload_n f_147_4 rfl ?_
    refine ls_iadd ((x6 * 6) + x7) f_147_5 rfl ?_
    refine ls_ireturn f_147_6 rI_147 ?_
    show lm_W _ _ _ _ [.int ((x6 * 6) + x7)] _ _
    refine ls_istore [some (.ref 21), some (.ref 1), some (.ref 18), some (.ref 74), some (.int x4), some (va_rf o5), some (.int x6), some (.int x7), some (.int ((x6 * 6) + x7))] f_62_86 (Nat.le_of_ble_eq_true rfl) rfl ?_
    refine ls_aload_n f_62_88 rfl ?_
    refine ls_getR f_62_89 p_62_24 hl S_21 F_21_4 ?_
    refine ls_iload f_62_92 rfl ?_
    refine ls_iload f_62_94 rfl ?_
    refine ls_invS f_62_96 q_62_55 [.int x6, .int x7] [.ref 22] rfl (Nat.le_of_ble_eq_true rfl) ?_
    refine ls_enter [some (.int x6), some (.int x7)] ml_148 (Nat.le_of_ble_eq_true rfl) rfl ?_
    refine ls_iload_n f_148_0 rfl ?_
    refine ls_bipush 7 f_148_1 (by decide) ?_
    refine ls_imul (x6 * 7) f_148_3 rfl ?_
    refine ls_iload_n f_148_4 rfl ?_
    refine ls_iadd ((x6 * 7) + x7) f_148_5 rfl ?_
    refine ls_ireturn f_148_6 rI_148 ?_
    show lm_W _ _ _ _ [.int ((x6 * 7) + x7), .ref 22] _ _
    refine ls_aload_n f_62_99 rfl ?_
    refine ls_getR f_62_100 p_62_58 hl S_1 F_1_8 ?_
    refine ls_iload f_62_103 rfl ?_
    refine ls_iald f_62_105 hl S_4 hyp (fun hyp => ?_)
    refine ls_iast f_62_106 hl S_22 hyp (fun hyp => ?_)
    refine ls_aload_n f_62_107 rfl ?_
    refine ls_getR f_62_108 p_62_28 (lm_Lay_si hl _ _ _) S_21 F_21_5 ?_
    refine ls_iload f_62_111 rfl ?_
    refine ls_iload f_62_113 rfl ?_
    refine ls_invS f_62_115 q_62_55 [.int x6, .int x7] [.ref 23] rfl (Nat.le_of_ble_eq_true rfl) ?_
    refine ls_enter [some (.int x6), some (.int x7)] ml_148 (Nat.le_of_ble_eq_true rfl) rfl ?_
    refine ls_iload_n f_148_0 rfl ?_
    refine ls_bipush 7 f_148_1 (by decide) ?_
    refine ls_imul (x6 * 7) f_148_3 rfl ?_
    refine ls_iload_n f_148_4 rfl ?_
    refine ls_iadd ((x6 * 7) + x7) f_148_5 rfl ?_
    refine ls_ireturn f_148_6 rI_148 ?_
    show lm_W _ _ _ _ [.int ((x6 * 7) + x7), .ref 23] _ _
    refine ls_iconst 0 f_62_118 (by decide) ?_
    refine ls_zast f_62_119 (lm_Lay_si hl _ _ _) S_23 hyp (fun hyp => ?_)
    refine ls_heap (lm_si (lm_si h 22 (((x6 * 7) + x7).toNatClampNeg) (lm_i h 4 (((x6 * 6) + x7).toNatClampNeg))) 23 (((x6 * 7) + x7).toNatClampNeg) 0) rfl ?_
    refine ls_aloadQ f_62_120 rfl ?_
    refine ls_ifnull 237 f_62_122 rfl hyp (fun ho hyp => ?_) (fun o1 ho hyp => ?_)
    · subst ho
      show lm_W _ _ _ [some (.ref 21), some (.ref 1), some (.ref 18), some (.ref 74), some (.int x4), some (.null), some (.int x6), some (.int x7), some (.int ((x6 * 6) + x7))] [] _ _
      refine ls_iinc (x7 + 1) [some (.ref 21), some (.ref 1), some (.ref 18), some (.ref 74), some (.int x4), some (.null), some (.int x6), some (.int (x7 + 1)), some (.int ((x6 * 6) + x7))] f_62_237 rfl (Nat.le_of_ble_eq_true rfl) rfl rfl ?_
      refine ls_goto 70 f_62_240 rfl ?_
      exact ls_mask [true, true, true, true, true, true, true, true, false] [some (.ref 21), some (.ref 1), some (.ref 18), some (.ref 74), some (.int x4), some (.null), some (.int x6), some (.int (x7 + 1)), none] rfl hyp
    · subst ho
      show lm_W _ _ _ [some (.ref 21), some (.ref 1), some (.ref 18), some (.ref 74), some (.int x4), some (.ref o1), some (.int x6), some (.int x7), some (.int ((x6 * 6) + x7))] [] _ _
      refine ls_aload_n f_62_125 rfl ?_
      refine ls_getR f_62_126 p_62_61 (lm_Lay_si (lm_Lay_si hl _ _ _) _ _ _) S_18 F_18_0 ?_
      refine ls_iconst 0 f_62_129 (by decide) ?_
      refine ls_iload f_62_130 rfl ?_
      refine ls_iastC 0 f_62_132 (lm_Lay_si (lm_Lay_si hl _ _ _) _ _ _) S_19 ⟨by decide, by decide, by decide⟩ ?_
      refine ls_aload_n f_62_133 rfl ?_
      refine ls_getR f_62_134 p_62_61 (lm_Lay_si (lm_Lay_si (lm_Lay_si hl _ _ _) _ _ _) _ _ _) S_18 F_18_0 ?_
      refine ls_iconst 1 f_62_137 (by decide) ?_
      refine ls_iload f_62_138 rfl ?_
      refine ls_iastC 1 f_62_140 (lm_Lay_si (lm_Lay_si (lm_Lay_si hl _ _ _) _ _ _) _ _ _) S_19 ⟨by decide, by decide, by decide⟩ ?_
      refine ls_aload_n f_62_141 rfl ?_
      refine ls_getR f_62_142 p_62_61 (lm_Lay_si (lm_Lay_si (lm_Lay_si (lm_Lay_si hl _ _ _) _ _ _) _ _ _) _ _ _) S_18 F_18_0 ?_
      refine ls_iconst 2 f_62_145 (by decide) ?_
      refine ls_aload_n f_62_146 rfl ?_
      refine ls_getR f_62_147 p_62_58 (lm_Lay_si (lm_Lay_si (lm_Lay_si (lm_Lay_si hl _ _ _) _ _ _) _ _ _) _ _ _) S_1 F_1_8 ?_
      refine ls_iload f_62_150 rfl ?_
      refine ls_iald f_62_152 (lm_Lay_si (lm_Lay_si (lm_Lay_si (lm_Lay_si hl _ _ _) _ _ _) _ _ _) _ _ _) S_4 hyp (fun hyp => ?_)
      refine ls_top (lm_i h 4 (((x6 * 6) + x7).toNatClampNeg)) rfl ?_
      refine ls_iastC 2 f_62_153 (lm_Lay_si (lm_Lay_si (lm_Lay_si (lm_Lay_si hl _ _ _) _ _ _) _ _ _) _ _ _) S_19 ⟨by decide, by decide, by decide⟩ ?_
      refine ls_aload_n f_62_154 rfl ?_
      refine ls_getR f_62_155 p_62_61 (lm_Lay_si (lm_Lay_si (lm_Lay_si (lm_Lay_si (lm_Lay_si hl _ _ _) _ _ _) _ _ _) _ _ _) _ _ _) S_18 F_18_0 ?_
      refine ls_iconst 3 f_62_158 (by decide) ?_
      refine ls_aload_n f_62_159 rfl ?_
      refine ls_getR f_62_160 p_62_66 (lm_Lay_si (lm_Lay_si (lm_Lay_si (lm_Lay_si (lm_Lay_si hl _ _ _) _ _ _) _ _ _) _ _ _) _ _ _) S_1 F_1_7 ?_
      refine ls_iload f_62_163 rfl ?_
      refine ls_iald f_62_165 (lm_Lay_si (lm_Lay_si (lm_Lay_si (lm_Lay_si (lm_Lay_si hl _ _ _) _ _ _) _ _ _) _ _ _) _ _ _) S_3 hyp (fun hyp => ?_)
      refine ls_top (lm_i h 3 x7.toNatClampNeg) rfl ?_
      refine ls_iastC 3 f_62_166 (lm_Lay_si (lm_Lay_si (lm_Lay_si (lm_Lay_si (lm_Lay_si hl _ _ _) _ _ _) _ _ _) _ _ _) _ _ _) S_19 ⟨by decide, by decide, by decide⟩ ?_
      refine ls_aload_n f_62_167 rfl ?_
      refine ls_getR f_62_168 p_62_61 (lm_Lay_si (lm_Lay_si (lm_Lay_si (lm_Lay_si (lm_Lay_si (lm_Lay_si hl _ _ _) _ _ _) _ _ _) _ _ _) _ _ _) _ _ _) S_18 F_18_0 ?_
      refine ls_iconst 4 f_62_171 (by decide) ?_
      refine ls_aload_n f_62_172 rfl ?_
      refine ls_getR f_62_173 p_62_69 (lm_Lay_si (lm_Lay_si (lm_Lay_si (lm_Lay_si (lm_Lay_si (lm_Lay_si hl _ _ _) _ _ _) _ _ _) _ _ _) _ _ _) _ _ _) S_1 F_1_6 ?_
      refine ls_iload f_62_176 rfl ?_
      refine ls_iald f_62_178 (lm_Lay_si (lm_Lay_si (lm_Lay_si (lm_Lay_si (lm_Lay_si (lm_Lay_si hl _ _ _) _ _ _) _ _ _) _ _ _) _ _ _) _ _ _) S_2 hyp (fun hyp => ?_)
      refine ls_top (lm_i h 2 x6.toNatClampNeg) rfl ?_
      refine ls_iastC 4 f_62_179 (lm_Lay_si (lm_Lay_si (lm_Lay_si (lm_Lay_si (lm_Lay_si (lm_Lay_si hl _ _ _) _ _ _) _ _ _) _ _ _) _ _ _) _ _ _) S_19 ⟨by decide, by decide, by decide⟩ ?_
      refine ls_aload_n f_62_180 rfl ?_
      refine ls_getR f_62_181 p_62_61 (lm_Lay_si (lm_Lay_si (lm_Lay_si (lm_Lay_si (lm_Lay_si (lm_Lay_si (lm_Lay_si hl _ _ _) _ _ _) _ _ _) _ _ _) _ _ _) _ _ _) _ _ _) S_18 F_18_0 ?_
      refine ls_iconst 5 f_62_184 (by decide) ?_
      refine ls_aload_n f_62_185 rfl ?_
      refine ls_iload f_62_186 rfl ?_
      refine ls_iald f_62_188 (lm_Lay_si (lm_Lay_si (lm_Lay_si (lm_Lay_si (lm_Lay_si (lm_Lay_si (lm_Lay_si hl _ _ _) _ _ _) _ _ _) _ _ _) _ _ _) _ _ _) _ _ _) S_74 hyp (fun hyp => ?_)
      refine ls_top (lm_i h 74 (((x6 * 6) + x7).toNatClampNeg)) rfl ?_
      refine ls_iastC 5 f_62_189 (lm_Lay_si (lm_Lay_si (lm_Lay_si (lm_Lay_si (lm_Lay_si (lm_Lay_si (lm_Lay_si hl _ _ _) _ _ _) _ _ _) _ _ _) _ _ _) _ _ _) _ _ _) S_19 ⟨by decide, by decide, by decide⟩ ?_
      refine ls_aload_n f_62_190 rfl ?_
      refine ls_getR f_62_191 p_62_61 (lm_Lay_si (lm_Lay_si (lm_Lay_si (lm_Lay_si (lm_Lay_si (lm_Lay_si (lm_Lay_si (lm_Lay_si hl _ _ _) _ _ _) _ _ _) _ _ _) _ _ _) _ _ _) _ _ _) _ _ _) S_18 F_18_0 ?_
      refine ls_bipush 6 f_62_194 (by decide) ?_
      refine ls_iload f_62_196 rfl ?_
      refine ls_iastC 6 f_62_198 (lm_Lay_si (lm_Lay_si (lm_Lay_si (lm_Lay_si (lm_Lay_si (lm_Lay_si (lm_Lay_si (lm_Lay_si hl _ _ _) _ _ _) _ _ _) _ _ _) _ _ _) _ _ _) _ _ _) _ _ _) S_19 ⟨by decide, by decide, by decide⟩ ?_
      refine ls_aload_n f_62_199 rfl ?_
      refine ls_aload f_62_200 rfl ?_
      refine ls_invV (a := 18) f_62_202 q_62_72 [.ref o1] [] rfl (Nat.le_of_ble_eq_true rfl) (lm_Lay_si (lm_Lay_si (lm_Lay_si (lm_Lay_si (lm_Lay_si (lm_Lay_si (lm_Lay_si (lm_Lay_si (lm_Lay_si hl _ _ _) _ _ _) _ _ _) _ _ _) _ _ _) _ _ _) _ _ _) _ _ _) _ _ _) S_18 ow_15 ?_
      refine ls_call hyp (lm_Lay_si (lm_Lay_si (lm_Lay_si (lm_Lay_si (lm_Lay_si (lm_Lay_si (lm_Lay_si (lm_Lay_si (lm_Lay_si hl _ _ _) _ _ _) _ _ _) _ _ _) _ _ _) _ _ _) _ _ _) _ _ _) _ _ _) (fun _ h2 hl2 hyp => ?_)
      refine ls_retV hyp (fun hyp => ?_)
      refine ls_aload_n f_62_205 rfl ?_
      refine ls_getR f_62_206 p_62_24 hl2 S_21 F_21_4 ?_
      refine ls_iload f_62_209 rfl ?_
      refine ls_iload f_62_211 rfl ?_
      refine ls_invS f_62_213 q_62_55 [.int x6, .int x7] [.ref 22] rfl (Nat.le_of_ble_eq_true rfl) ?_
      refine ls_enter [some (.int x6), some (.int x7)] ml_148 (Nat.le_of_ble_eq_true rfl) rfl ?_
      refine ls_iload_n f_148_0 rfl ?_
      refine ls_bipush 7 f_148_1 (by decide) ?_
      refine ls_imul (x6 * 7) f_148_3 rfl ?_
      refine ls_iload_n f_148_4 rfl ?_
      refine ls_iadd ((x6 * 7) + x7) f_148_5 rfl ?_
      refine ls_ireturn f_148_6 rI_148 ?_
      show lm_W _ _ _ _ [.int ((x6 * 7) + x7), .ref 22] _ _
      refine ls_aload_n f_62_216 rfl ?_
      refine ls_getI f_62_217 p_62_76 hl2 S_18 ?_
      refine ls_iast f_62_220 hl2 S_22 hyp (fun hyp => ?_)
      refine ls_aload_n f_62_221 rfl ?_
      refine ls_getR f_62_222 p_62_28 (lm_Lay_si hl2 _ _ _) S_21 F_21_5 ?_
      refine ls_iload f_62_225 rfl ?_
      refine ls_iload f_62_227 rfl ?_
      refine ls_invS f_62_229 q_62_55 [.int x6, .int x7] [.ref 23] rfl (Nat.le_of_ble_eq_true rfl) ?_
      refine ls_enter [some (.int x6), some (.int x7)] ml_148 (Nat.le_of_ble_eq_true rfl) rfl ?_
      refine ls_iload_n f_148_0 rfl ?_
      refine ls_bipush 7 f_148_1 (by decide) ?_
      refine ls_imul (x6 * 7) f_148_3 rfl ?_
      refine ls_iload_n f_148_4 rfl ?_
      refine ls_iadd ((x6 * 7) + x7) f_148_5 rfl ?_
      refine ls_ireturn f_148_6 rI_148 ?_
      show lm_W _ _ _ _ [.int ((x6 * 7) + x7), .ref 23] _ _
      refine ls_aload_n f_62_232 rfl ?_
      refine ls_getI f_62_233 p_62_78 (lm_Lay_si hl2 _ _ _) S_18 ?_
      refine ls_top (lm_i h2 18 5) rfl ?_
      refine ls_zast f_62_236 (lm_Lay_si hl2 _ _ _) S_23 hyp (fun hyp => ?_)
      refine ls_iinc (x7 + 1) [some (.ref 21), some (.ref 1), some (.ref 18), some (.ref 74), some (.int x4), some (.ref o1), some (.int x6), some (.int (x7 + 1)), some (.int ((x6 * 6) + x7))] f_62_237 rfl (Nat.le_of_ble_eq_true rfl) rfl rfl ?_
      refine ls_goto 70 f_62_240 rfl ?_
      exact ls_mask [true, true, true, true, true, true, true, true, false] [some (.ref 21), some (.ref 1), some (.ref 18), some (.ref 74), some (.int x4), some (.ref o1), some (.int x6), some (.int (x7 + 1)), none] rfl hyp
  · refine ls_aload_n f_62_243 rfl ?_
    refine ls_getR f_62_244 p_62_24 hl S_21 F_21_4 ?_
    refine ls_iload f_62_247 rfl ?_
    refine ls_bipush 6 f_62_249 (by decide) ?_
    refine ls_invS f_62_251 q_62_55 [.int x6, .int 6] [.ref 22] rfl (Nat.le_of_ble_eq_true rfl) ?_
    refine ls_enter [some (.int x6), some (.int 6)] ml_148 (Nat.le_of_ble_eq_true rfl) rfl ?_
    refine ls_iload_n f_148_0 rfl ?_
    refine ls_bipush 7 f_148_1 (by decide) ?_
    refine ls_imul (x6 * 7) f_148_3 rfl ?_
    refine ls_iload_n f_148_4 rfl ?_
    refine ls_iadd ((x6 * 7) + 6) f_148_5 rfl ?_
    refine ls_ireturn f_148_6 rI_148 ?_
    show lm_W _ _ _ _ [.int ((x6 * 7) + 6), .ref 22] _ _
    refine ls_aload_n f_62_254 rfl ?_
    refine ls_getI f_62_255 p_62_21 hl S_21 ?_
    refine ls_iast f_62_258 hl S_22 hyp (fun hyp => ?_)
    refine ls_aload_n f_62_259 rfl ?_
    refine ls_getR f_62_260 p_62_28 (lm_Lay_si hl _ _ _) S_21 F_21_5 ?_
    refine ls_iload f_62_263 rfl ?_
    refine ls_bipush 6 f_62_265 (by decide) ?_
    refine ls_invS f_62_267 q_62_55 [.int x6, .int 6] [.ref 23] rfl (Nat.le_of_ble_eq_true rfl) ?_
    refine ls_enter [some (.int x6), some (.int 6)] ml_148 (Nat.le_of_ble_eq_true rfl) rfl ?_
    refine ls_iload_n f_148_0 rfl ?_
    refine ls_bipush 7 f_148_1 (by decide) ?_
    refine ls_imul (x6 * 7) f_148_3 rfl ?_
    refine ls_iload_n f_148_4 rfl ?_
    refine ls_iadd ((x6 * 7) + 6) f_148_5 rfl ?_
    refine ls_ireturn f_148_6 rI_148 ?_
    show lm_W _ _ _ _ [.int ((x6 * 7) + 6), .ref 23] _ _
    refine ls_iconst 0 f_62_270 (by decide) ?_
    refine ls_zast f_62_271 (lm_Lay_si hl _ _ _) S_23 hyp (fun hyp => ?_)
    refine ls_heap (lm_si (lm_si h 22 (((x6 * 7) + 6).toNatClampNeg) (lm_i h 21 3)) 23 (((x6 * 7) + 6).toNatClampNeg) 0) rfl ?_
    refine ls_aload_n f_62_272 rfl ?_
    refine ls_iload f_62_273 rfl ?_
    refine ls_invV (a := 21) f_62_275 q_62_81 [.int x6] [] rfl (Nat.le_of_ble_eq_true rfl) (lm_Lay_si (lm_Lay_si hl _ _ _) _ _ _) S_21 ow_63 ?_
    refine ls_call hyp (lm_Lay_si (lm_Lay_si hl _ _ _) _ _ _) (fun _ h3 hl3 hyp => ?_)
    refine ls_retV hyp (fun hyp => ?_)
    refine ls_iinc (x6 + 1) [some (.ref 21), some (.ref 1), some (.ref 18), some (.ref 74), some (.int x4), some (va_rf o5), some (.int (x6 + 1)), some (.int x7), none] f_62_278 rfl (Nat.le_of_ble_eq_true rfl) rfl (lm_put_rf rfl rfl) ?_
    refine ls_goto 58 f_62_281 rfl ?_
    exact ls_mask [true, true, true, true, true, true, true, false, false] [some (.ref 21), some (.ref 1), some (.ref 18), some (.ref 74), some (.int x4), some (va_rf o5), some (.int (x6 + 1)), none, none] rfl hyp
theorem e_62y {d : Nat} {h : lm_H} {K : lm_H → Prop} (x4 : Int32) (hl : lm_Lay h) (hyp : (if (lm_i h 1 5) = (-1) then (lm_W (d + 1) 62 58 [some (.ref 59), some (.ref 1), some (.ref 18), some (.ref 67), some (.int x4), some (.null), some (.int 0), none, none] [] (lm_si (lm_si (lm_si (lm_si h 59 0 (lm_i h 1 0)) 59 1 (lm_i h 1 1)) 59 2 (lm_i h 1 2)) 59 3 (lm_i h 1 3)) (lm_kV K)) else (lm_in (lm_i h 1 5) 6 False (lm_W (d + 1) 62 58 [some (.ref 59), some (.ref 1), some (.ref 18), some (.ref 67), some (.int x4), some (va_rf (lm_r (lm_si (lm_si (lm_si (lm_si h 59 0 (lm_i h 1 0)) 59 1 (lm_i h 1 1)) 59 2 (lm_i h 1 2)) 59 3 (lm_i h 1 3)) 8 ((lm_i h 1 5).toNatClampNeg))), some (.int 0), none, none] [] (lm_si (lm_si (lm_si (lm_si h 59 0 (lm_i h 1 0)) 59 1 (lm_i h 1 1)) 59 2 (lm_i h 1 2)) 59 3 (lm_i h 1 3)) (lm_kV K))))) : lm_call (d + 2) 62 [.ref 59, .ref 1, .ref 18, .ref 67, .int x4] h (lm_kV K) := by
  refine ls_enter [some (.ref 59), some (.ref 1), some (.ref 18), some (.ref 67), some (.int x4), none, none, none, none] ml_62 (Nat.le_of_ble_eq_true rfl) rfl ?_
  refine ls_aload_n f_62_0 rfl ?_
  refine ls_aload_n f_62_1 rfl ?_
  refine ls_getI f_62_2 p_62_38 hl S_1 ?_
  refine ls_putI f_62_5 p_62_9 hl S_59 rfl ?_
  refine ls_aload_n f_62_8 rfl ?_
  refine ls_aload_n f_62_9 rfl ?_
  refine ls_getI f_62_10 p_62_41 (lm_Lay_si hl _ _ _) S_1 ?_
  refine ls_top (lm_i h 1 1) rfl ?_
  refine ls_putI f_62_13 p_62_15 (lm_Lay_si hl _ _ _) S_59 rfl ?_
  refine ls_aload_n f_62_16 rfl ?_
  refine ls_aload_n f_62_17 rfl ?_
  refine ls_getI f_62_18 p_62_42 (lm_Lay_si (lm_Lay_si hl _ _ _) _ _ _) S_1 ?_
  refine ls_top (lm_i h 1 2) rfl ?_
  refine ls_putI f_62_21 p_62_18 (lm_Lay_si (lm_Lay_si hl _ _ _) _ _ _) S_59 rfl ?_
  refine ls_aload_n f_62_24 rfl ?_
  refine ls_aload_n f_62_25 rfl ?_
  refine ls_getI f_62_26 p_62_43 (lm_Lay_si (lm_Lay_si (lm_Lay_si hl _ _ _) _ _ _) _ _ _) S_1 ?_
  refine ls_top (lm_i h 1 3) rfl ?_
  refine ls_putI f_62_29 p_62_21 (lm_Lay_si (lm_Lay_si (lm_Lay_si hl _ _ _) _ _ _) _ _ _) S_59 rfl ?_
  refine ls_aload_n f_62_32 rfl ?_
  refine ls_getI f_62_33 p_62_44 (lm_Lay_si (lm_Lay_si (lm_Lay_si (lm_Lay_si hl _ _ _) _ _ _) _ _ _) _ _ _) S_1 ?_
  refine ls_top (lm_i h 1 5) rfl ?_
  refine ls_iconst (-1) f_62_36 (by decide) ?_
  refine ls_icmp_ne 44 f_62_37 rfl hyp (fun _ hyp => ?_) (fun _ hyp => ?_)
  · refine ls_null f_62_40 ?_
    refine ls_goto 53 f_62_41 rfl ?_
    refine ls_astoreN [some (.ref 59), some (.ref 1), some (.ref 18), some (.ref 67), some (.int x4), some (.null), none, none, none] f_62_53 (Nat.le_of_ble_eq_true rfl) rfl ?_
    refine ls_iconst 0 f_62_55 (by decide) ?_
    refine ls_istore [some (.ref 59), some (.ref 1), some (.ref 18), some (.ref 67), some (.int x4), some (.null), some (.int 0), none, none] f_62_56 (Nat.le_of_ble_eq_true rfl) rfl ?_
    exact hyp
  · refine ls_aload_n f_62_44 rfl ?_
    refine ls_getR f_62_45 p_62_47 (lm_Lay_si (lm_Lay_si (lm_Lay_si (lm_Lay_si hl _ _ _) _ _ _) _ _ _) _ _ _) S_1 F_1_12 ?_
    refine ls_aload_n f_62_48 rfl ?_
    refine ls_getI f_62_49 p_62_44 (lm_Lay_si (lm_Lay_si (lm_Lay_si (lm_Lay_si hl _ _ _) _ _ _) _ _ _) _ _ _) S_1 ?_
    refine ls_top (lm_i h 1 5) rfl ?_
    refine ls_aald f_62_52 (lm_Lay_si (lm_Lay_si (lm_Lay_si (lm_Lay_si hl _ _ _) _ _ _) _ _ _) _ _ _) S_8 hyp (fun hyp => ?_)
    refine ls_astoreQ [some (.ref 59), some (.ref 1), some (.ref 18), some (.ref 67), some (.int x4), some (va_rf (lm_r (lm_si (lm_si (lm_si (lm_si h 59 0 (lm_i h 1 0)) 59 1 (lm_i h 1 1)) 59 2 (lm_i h 1 2)) 59 3 (lm_i h 1 3)) 8 ((lm_i h 1 5).toNatClampNeg))), none, none, none] f_62_53 (Nat.le_of_ble_eq_true rfl) rfl ?_
    refine ls_iconst 0 f_62_55 (by decide) ?_
    refine ls_istore [some (.ref 59), some (.ref 1), some (.ref 18), some (.ref 67), some (.int x4), some (va_rf (lm_r (lm_si (lm_si (lm_si (lm_si h 59 0 (lm_i h 1 0)) 59 1 (lm_i h 1 1)) 59 2 (lm_i h 1 2)) 59 3 (lm_i h 1 3)) 8 ((lm_i h 1 5).toNatClampNeg))), some (.int 0), none, none] f_62_56 (Nat.le_of_ble_eq_true rfl) (lm_put_rf rfl rfl) ?_
    exact hyp
theorem b_62y_58 {d : Nat} {h : lm_H} {K : lm_H → Prop} (x4 : Int32) (o5 : Option Nat) (x6 : Int32) (hl : lm_Lay h) (hyp : (if x6 < (lm_i h 59 0) then (lm_W (d + 1) 62 70 [some (.ref 59), some (.ref 1), some (.ref 18), some (.ref 67), some (.int x4), some (va_rf o5), some (.int x6), some (.int 0), none] [] h (lm_kV K)) else (K h))) : lm_W (d + 1) 62 58 [some (.ref 59), some (.ref 1), some (.ref 18), some (.ref 67), some (.int x4), some (va_rf o5), some (.int x6), none, none] [] h (lm_kV K) := by
  refine ls_iload f_62_58 rfl ?_
  refine ls_aload_n f_62_60 rfl ?_
  refine ls_getI f_62_61 p_62_9 hl S_59 ?_
  refine ls_icmp_ge 284 f_62_64 rfl hyp (fun _ hyp => ?_) (fun _ hyp => ?_)
  · refine ls_iconst 0 f_62_67 (by decide) ?_
    refine ls_istore [some (.ref 59), some (.ref 1), some (.ref 18), some (.ref 67), some (.int x4), some (va_rf o5), some (.int x6), some (.int 0), none] f_62_68 (Nat.le_of_ble_eq_true rfl) rfl ?_
    exact hyp
  · exact ls_return f_62_284 rV_62 hyp
theorem b_62y_70 {d : Nat} {h : lm_H} {K : lm_H → Prop} (x4 : Int32) (o5 : Option Nat) (x6 : Int32) (x7 : Int32) (hl : lm_Lay h) (hyp : (if x7 < (lm_i h 59 1) then (lm_in ((x6 * 6) + x7) 30 False (lm_in ((x6 * 7) + x7) 35 False (lm_in ((x6 * 7) + x7) 35 False (lm_o o5 (lm_W (d + 1) 62 70 [some (.ref 59), some (.ref 1), some (.ref 18), some (.ref 67), some (.int x4), some (.null), some (.int x6), some (.int (x7 + 1)), none] [] (lm_si (lm_si h 60 (((x6 * 7) + x7).toNatClampNeg) (lm_i h 4 (((x6 * 6) + x7).toNatClampNeg))) 61 (((x6 * 7) + x7).toNatClampNeg) 0) (lm_kV K)) (fun o1 => lm_in ((x6 * 6) + x7) 30 False (lm_in x7 6 False (lm_in x6 5 False (lm_in ((x6 * 6) + x7) 30 False (lm_call (d + 1) 15 [.ref 18, .ref o1] (lm_si (lm_si (lm_si (lm_si (lm_si (lm_si (lm_si (lm_si (lm_si h 60 (((x6 * 7) + x7).toNatClampNeg) (lm_i h 4 (((x6 * 6) + x7).toNatClampNeg))) 61 (((x6 * 7) + x7).toNatClampNeg) 0) 19 0 x6) 19 1 x7) 19 2 (lm_i h 4 (((x6 * 6) + x7).toNatClampNeg))) 19 3 (lm_i h 3 x7.toNatClampNeg)) 19 4 (lm_i h 2 x6.toNatClampNeg)) 19 5 (lm_i h 67 (((x6 * 6) + x7).toNatClampNeg))) 19 6 x4) (lm_kV fun h2 => lm_in ((x6 * 7) + x7) 35 False (lm_in ((x6 * 7) + x7) 35 False (lm_W (d + 1) 62 70 [some (.ref 59), some (.ref 1), some (.ref 18), some (.ref 67), some (.int x4), some (.ref o1), some (.int x6), some (.int (x7 + 1)), none] [] (lm_si (lm_si h2 60 (((x6 * 7) + x7).toNatClampNeg) (lm_i h2 18 4)) 61 (((x6 * 7) + x7).toNatClampNeg) (vp_nar .boolean (lm_i h2 18 5))) (lm_kV K))))))))))))) else (lm_in ((x6 * 7) + 6) 35 False (lm_in ((x6 * 7) + 6) 35 False (lm_call (d + 1) 63 [.ref 59, .int x6] (lm_si (lm_si h 60 (((x6 * 7) + 6).toNatClampNeg) (lm_i h 59 3)) 61 (((x6 * 7) + 6).toNatClampNeg) 0) (lm_kV fun h3 => lm_W (d + 1) 62 58 [some (.ref 59), some (.ref 1), some (.ref 18), some (.ref 67), some (.int x4), some (va_rf o5), some (.int (x6 + 1)), none, none] [] h3 (lm_kV K))))))) : lm_W (d + 1) 62 70 [some (.ref 59), some (.ref 1), some (.ref 18), some (.ref 67), some (.int x4), some (va_rf o5), some (.int x6), some (.int x7), none] [] h (lm_kV K) := by
  refine ls_iload f_62_70 rfl ?_
  refine ls_aload_n f_62_72 rfl ?_
  refine ls_getI f_62_73 p_62_15 hl S_59 ?_
  refine ls_icmp_ge 243 f_62_76 rfl hyp (fun _ hyp => ?_) (fun _ hyp => ?_)
  · refine ls_iload f_62_79 rfl ?_
    refine ls_iload f_62_81 rfl ?_
    refine ls_invS f_62_83 q_62_51 [.int x6, .int x7] [] rfl (Nat.le_of_ble_eq_true rfl) ?_
    refine ls_enter [some (.int x6), some (.int x7)] ml_147 (Nat.le_of_ble_eq_true rfl) rfl ?_
    refine ls_iload_n f_147_0 rfl ?_
    refine ls_bipush 6 f_147_1 (by decide) ?_
    refine ls_imul (x6 * 6) f_147_3 rfl ?_
    refine ls_iload_n f_147_4 rfl ?_
    refine ls_iadd ((x6 * 6) + x7) f_147_5 rfl ?_
    refine ls_ireturn f_147_6 rI_147 ?_
    show lm_W _ _ _ _ [.int ((x6 * 6) + x7)] _ _
    refine ls_istore [some (.ref 59), some (.ref 1), some (.ref 18), some (.ref 67), some (.int x4), some (va_rf o5), some (.int x6), some (.int x7), some (.int ((x6 * 6) + x7))] f_62_86 (Nat.le_of_ble_eq_true rfl) rfl ?_
    refine ls_aload_n f_62_88 rfl ?_
    refine ls_getR f_62_89 p_62_24 hl S_59 F_59_4 ?_
    refine ls_iload f_62_92 rfl ?_
    refine ls_iload f_62_94 rfl ?_
    refine ls_invS f_62_96 q_62_55 [.int x6, .int x7] [.ref 60] rfl (Nat.le_of_ble_eq_true rfl) ?_
    refine ls_enter [some (.int x6), some (.int x7)] ml_148 (Nat.le_of_ble_eq_true rfl) rfl ?_
    refine ls_iload_n f_148_0 rfl ?_
    refine ls_bipush 7 f_148_1 (by decide) ?_
    refine ls_imul (x6 * 7) f_148_3 rfl ?_
    refine ls_iload_n f_148_4 rfl ?_
    refine ls_iadd ((x6 * 7) + x7) f_148_5 rfl ?_
    refine ls_ireturn f_148_6 rI_148 ?_
    show lm_W _ _ _ _ [.int ((x6 * 7) + x7), .ref 60] _ _
    refine ls_aload_n f_62_99 rfl ?_
    refine ls_getR f_62_100 p_62_58 hl S_1 F_1_8 ?_
    refine ls_iload f_62_103 rfl ?_
    refine ls_iald f_62_105 hl S_4 hyp (fun hyp => ?_)
    refine ls_iast f_62_106 hl S_60 hyp (fun hyp => ?_)
    refine ls_aload_n f_62_107 rfl ?_
    refine ls_getR f_62_108 p_62_28 (lm_Lay_si hl _ _ _) S_59 F_59_5 ?_
    refine ls_iload f_62_111 rfl ?_
    refine ls_iload f_62_113 rfl ?_
    refine ls_invS f_62_115 q_62_55 [.int x6, .int x7] [.ref 61] rfl (Nat.le_of_ble_eq_true rfl) ?_
    refine ls_enter [some (.int x6), some (.int x7)] ml_148 (Nat.le_of_ble_eq_true rfl) rfl ?_
    refine ls_iload_n f_148_0 rfl ?_
    refine ls_bipush 7 f_148_1 (by decide) ?_
    refine ls_imul (x6 * 7) f_148_3 rfl ?_
    refine ls_iload_n f_148_4 rfl ?_
    refine ls_iadd ((x6 * 7) + x7) f_148_5 rfl ?_
    refine ls_ireturn f_148_6 rI_148 ?_
    show lm_W _ _ _ _ [.int ((x6 * 7) + x7), .ref 61] _ _
    refine ls_iconst 0 f_62_118 (by decide) ?_
    refine ls_zast f_62_119 (lm_Lay_si hl _ _ _) S_61 hyp (fun hyp => ?_)
    refine ls_heap (lm_si (lm_si h 60 (((x6 * 7) + x7).toNatClampNeg) (lm_i h 4 (((x6 * 6) + x7).toNatClampNeg))) 61 (((x6 * 7) + x7).toNatClampNeg) 0) rfl ?_
    refine ls_aloadQ f_62_120 rfl ?_
    refine ls_ifnull 237 f_62_122 rfl hyp (fun ho hyp => ?_) (fun o1 ho hyp => ?_)
    · subst ho
      show lm_W _ _ _ [some (.ref 59), some (.ref 1), some (.ref 18), some (.ref 67), some (.int x4), some (.null), some (.int x6), some (.int x7), some (.int ((x6 * 6) + x7))] [] _ _
      refine ls_iinc (x7 + 1) [some (.ref 59), some (.ref 1), some (.ref 18), some (.ref 67), some (.int x4), some (.null), some (.int x6), some (.int (x7 + 1)), some (.int ((x6 * 6) + x7))] f_62_237 rfl (Nat.le_of_ble_eq_true rfl) rfl rfl ?_
      refine ls_goto 70 f_62_240 rfl ?_
      exact ls_mask [true, true, true, true, true, true, true, true, false] [some (.ref 59), some (.ref 1), some (.ref 18), some (.ref 67), some (.int x4), some (.null), some (.int x6), some (.int (x7 + 1)), none] rfl hyp
    · subst ho
      show lm_W _ _ _ [some (.ref 59), some (.ref 1), some (.ref 18), some (.ref 67), some (.int x4), some (.ref o1), some (.int x6), some (.int x7), some (.int ((x6 * 6) + x7))] [] _ _
      refine ls_aload_n f_62_125 rfl ?_
      refine ls_getR f_62_126 p_62_61 (lm_Lay_si (lm_Lay_si hl _ _ _) _ _ _) S_18 F_18_0 ?_
      refine ls_iconst 0 f_62_129 (by decide) ?_
      refine ls_iload f_62_130 rfl ?_
      refine ls_iastC 0 f_62_132 (lm_Lay_si (lm_Lay_si hl _ _ _) _ _ _) S_19 ⟨by decide, by decide, by decide⟩ ?_
      refine ls_aload_n f_62_133 rfl ?_
      refine ls_getR f_62_134 p_62_61 (lm_Lay_si (lm_Lay_si (lm_Lay_si hl _ _ _) _ _ _) _ _ _) S_18 F_18_0 ?_
      refine ls_iconst 1 f_62_137 (by decide) ?_
      refine ls_iload f_62_138 rfl ?_
      refine ls_iastC 1 f_62_140 (lm_Lay_si (lm_Lay_si (lm_Lay_si hl _ _ _) _ _ _) _ _ _) S_19 ⟨by decide, by decide, by decide⟩ ?_
      refine ls_aload_n f_62_141 rfl ?_
      refine ls_getR f_62_142 p_62_61 (lm_Lay_si (lm_Lay_si (lm_Lay_si (lm_Lay_si hl _ _ _) _ _ _) _ _ _) _ _ _) S_18 F_18_0 ?_
      refine ls_iconst 2 f_62_145 (by decide) ?_
      refine ls_aload_n f_62_146 rfl ?_
      refine ls_getR f_62_147 p_62_58 (lm_Lay_si (lm_Lay_si (lm_Lay_si (lm_Lay_si hl _ _ _) _ _ _) _ _ _) _ _ _) S_1 F_1_8 ?_
      refine ls_iload f_62_150 rfl ?_
      refine ls_iald f_62_152 (lm_Lay_si (lm_Lay_si (lm_Lay_si (lm_Lay_si hl _ _ _) _ _ _) _ _ _) _ _ _) S_4 hyp (fun hyp => ?_)
      refine ls_top (lm_i h 4 (((x6 * 6) + x7).toNatClampNeg)) rfl ?_
      refine ls_iastC 2 f_62_153 (lm_Lay_si (lm_Lay_si (lm_Lay_si (lm_Lay_si hl _ _ _) _ _ _) _ _ _) _ _ _) S_19 ⟨by decide, by decide, by decide⟩ ?_
      refine ls_aload_n f_62_154 rfl ?_
      refine ls_getR f_62_155 p_62_61 (lm_Lay_si (lm_Lay_si (lm_Lay_si (lm_Lay_si (lm_Lay_si hl _ _ _) _ _ _) _ _ _) _ _ _) _ _ _) S_18 F_18_0 ?_
      refine ls_iconst 3 f_62_158 (by decide) ?_
      refine ls_aload_n f_62_159 rfl ?_
      refine ls_getR f_62_160 p_62_66 (lm_Lay_si (lm_Lay_si (lm_Lay_si (lm_Lay_si (lm_Lay_si hl _ _ _) _ _ _) _ _ _) _ _ _) _ _ _) S_1 F_1_7 ?_
      refine ls_iload f_62_163 rfl ?_
      refine ls_iald f_62_165 (lm_Lay_si (lm_Lay_si (lm_Lay_si (lm_Lay_si (lm_Lay_si hl _ _ _) _ _ _) _ _ _) _ _ _) _ _ _) S_3 hyp (fun hyp => ?_)
      refine ls_top (lm_i h 3 x7.toNatClampNeg) rfl ?_
      refine ls_iastC 3 f_62_166 (lm_Lay_si (lm_Lay_si (lm_Lay_si (lm_Lay_si (lm_Lay_si hl _ _ _) _ _ _) _ _ _) _ _ _) _ _ _) S_19 ⟨by decide, by decide, by decide⟩ ?_
      refine ls_aload_n f_62_167 rfl ?_
      refine ls_getR f_62_168 p_62_61 (lm_Lay_si (lm_Lay_si (lm_Lay_si (lm_Lay_si (lm_Lay_si (lm_Lay_si hl _ _ _) _ _ _) _ _ _) _ _ _) _ _ _) _ _ _) S_18 F_18_0 ?_
      refine ls_iconst 4 f_62_171 (by decide) ?_
      refine ls_aload_n f_62_172 rfl ?_
      refine ls_getR f_62_173 p_62_69 (lm_Lay_si (lm_Lay_si (lm_Lay_si (lm_Lay_si (lm_Lay_si (lm_Lay_si hl _ _ _) _ _ _) _ _ _) _ _ _) _ _ _) _ _ _) S_1 F_1_6 ?_
      refine ls_iload f_62_176 rfl ?_
      refine ls_iald f_62_178 (lm_Lay_si (lm_Lay_si (lm_Lay_si (lm_Lay_si (lm_Lay_si (lm_Lay_si hl _ _ _) _ _ _) _ _ _) _ _ _) _ _ _) _ _ _) S_2 hyp (fun hyp => ?_)
      refine ls_top (lm_i h 2 x6.toNatClampNeg) rfl ?_
      refine ls_iastC 4 f_62_179 (lm_Lay_si (lm_Lay_si (lm_Lay_si (lm_Lay_si (lm_Lay_si (lm_Lay_si hl _ _ _) _ _ _) _ _ _) _ _ _) _ _ _) _ _ _) S_19 ⟨by decide, by decide, by decide⟩ ?_
      refine ls_aload_n f_62_180 rfl ?_
      refine ls_getR f_62_181 p_62_61 (lm_Lay_si (lm_Lay_si (lm_Lay_si (lm_Lay_si (lm_Lay_si (lm_Lay_si (lm_Lay_si hl _ _ _) _ _ _) _ _ _) _ _ _) _ _ _) _ _ _) _ _ _) S_18 F_18_0 ?_
      refine ls_iconst 5 f_62_184 (by decide) ?_
      refine ls_aload_n f_62_185 rfl ?_
      refine ls_iload f_62_186 rfl ?_
      refine ls_iald f_62_188 (lm_Lay_si (lm_Lay_si (lm_Lay_si (lm_Lay_si (lm_Lay_si (lm_Lay_si (lm_Lay_si hl _ _ _) _ _ _) _ _ _) _ _ _) _ _ _) _ _ _) _ _ _) S_67 hyp (fun hyp => ?_)
      refine ls_top (lm_i h 67 (((x6 * 6) + x7).toNatClampNeg)) rfl ?_
      refine ls_iastC 5 f_62_189 (lm_Lay_si (lm_Lay_si (lm_Lay_si (lm_Lay_si (lm_Lay_si (lm_Lay_si (lm_Lay_si hl _ _ _) _ _ _) _ _ _) _ _ _) _ _ _) _ _ _) _ _ _) S_19 ⟨by decide, by decide, by decide⟩ ?_
      refine ls_aload_n f_62_190 rfl ?_
      refine ls_getR f_62_191 p_62_61 (lm_Lay_si (lm_Lay_si (lm_Lay_si (lm_Lay_si (lm_Lay_si (lm_Lay_si (lm_Lay_si (lm_Lay_si hl _ _ _) _ _ _) _ _ _) _ _ _) _ _ _) _ _ _) _ _ _) _ _ _) S_18 F_18_0 ?_
      refine ls_bipush 6 f_62_194 (by decide) ?_
      refine ls_iload f_62_196 rfl ?_
      refine ls_iastC 6 f_62_198 (lm_Lay_si (lm_Lay_si (lm_Lay_si (lm_Lay_si (lm_Lay_si (lm_Lay_si (lm_Lay_si (lm_Lay_si hl _ _ _) _ _ _) _ _ _) _ _ _) _ _ _) _ _ _) _ _ _) _ _ _) S_19 ⟨by decide, by decide, by decide⟩ ?_
      refine ls_aload_n f_62_199 rfl ?_
      refine ls_aload f_62_200 rfl ?_
      refine ls_invV (a := 18) f_62_202 q_62_72 [.ref o1] [] rfl (Nat.le_of_ble_eq_true rfl) (lm_Lay_si (lm_Lay_si (lm_Lay_si (lm_Lay_si (lm_Lay_si (lm_Lay_si (lm_Lay_si (lm_Lay_si (lm_Lay_si hl _ _ _) _ _ _) _ _ _) _ _ _) _ _ _) _ _ _) _ _ _) _ _ _) _ _ _) S_18 ow_15 ?_
      refine ls_call hyp (lm_Lay_si (lm_Lay_si (lm_Lay_si (lm_Lay_si (lm_Lay_si (lm_Lay_si (lm_Lay_si (lm_Lay_si (lm_Lay_si hl _ _ _) _ _ _) _ _ _) _ _ _) _ _ _) _ _ _) _ _ _) _ _ _) _ _ _) (fun _ h2 hl2 hyp => ?_)
      refine ls_retV hyp (fun hyp => ?_)
      refine ls_aload_n f_62_205 rfl ?_
      refine ls_getR f_62_206 p_62_24 hl2 S_59 F_59_4 ?_
      refine ls_iload f_62_209 rfl ?_
      refine ls_iload f_62_211 rfl ?_
      refine ls_invS f_62_213 q_62_55 [.int x6, .int x7] [.ref 60] rfl (Nat.le_of_ble_eq_true rfl) ?_
      refine ls_enter [some (.int x6), some (.int x7)] ml_148 (Nat.le_of_ble_eq_true rfl) rfl ?_
      refine ls_iload_n f_148_0 rfl ?_
      refine ls_bipush 7 f_148_1 (by decide) ?_
      refine ls_imul (x6 * 7) f_148_3 rfl ?_
      refine ls_iload_n f_148_4 rfl ?_
      refine ls_iadd ((x6 * 7) + x7) f_148_5 rfl ?_
      refine ls_ireturn f_148_6 rI_148 ?_
      show lm_W _ _ _ _ [.int ((x6 * 7) + x7), .ref 60] _ _
      refine ls_aload_n f_62_216 rfl ?_
      refine ls_getI f_62_217 p_62_76 hl2 S_18 ?_
      refine ls_iast f_62_220 hl2 S_60 hyp (fun hyp => ?_)
      refine ls_aload_n f_62_221 rfl ?_
      refine ls_getR f_62_222 p_62_28 (lm_Lay_si hl2 _ _ _) S_59 F_59_5 ?_
      refine ls_iload f_62_225 rfl ?_
      refine ls_iload f_62_227 rfl ?_
      refine ls_invS f_62_229 q_62_55 [.int x6, .int x7] [.ref 61] rfl (Nat.le_of_ble_eq_true rfl) ?_
      refine ls_enter [some (.int x6), some (.int x7)] ml_148 (Nat.le_of_ble_eq_true rfl) rfl ?_
      refine ls_iload_n f_148_0 rfl ?_
      refine ls_bipush 7 f_148_1 (by decide) ?_
      refine ls_imul (x6 * 7) f_148_3 rfl ?_
      refine ls_iload_n f_148_4 rfl ?_
      refine ls_iadd ((x6 * 7) + x7) f_148_5 rfl ?_
      refine ls_ireturn f_148_6 rI_148 ?_
      show lm_W _ _ _ _ [.int ((x6 * 7) + x7), .ref 61] _ _
      refine ls_aload_n f_62_232 rfl ?_
      refine ls_getI f_62_233 p_62_78 (lm_Lay_si hl2 _ _ _) S_18 ?_
      refine ls_top (lm_i h2 18 5) rfl ?_
      refine ls_zast f_62_236 (lm_Lay_si hl2 _ _ _) S_61 hyp (fun hyp => ?_)
      refine ls_iinc (x7 + 1) [some (.ref 59), some (.ref 1), some (.ref 18), some (.ref 67), some (.int x4), some (.ref o1), some (.int x6), some (.int (x7 + 1)), some (.int ((x6 * 6) + x7))] f_62_237 rfl (Nat.le_of_ble_eq_true rfl) rfl rfl ?_
      refine ls_goto 70 f_62_240 rfl ?_
      exact ls_mask [true, true, true, true, true, true, true, true, false] [some (.ref 59), some (.ref 1), some (.ref 18), some (.ref 67), some (.int x4), some (.ref o1), some (.int x6), some (.int (x7 + 1)), none] rfl hyp
  · refine ls_aload_n f_62_243 rfl ?_
    refine ls_getR f_62_244 p_62_24 hl S_59 F_59_4 ?_
    refine ls_iload f_62_247 rfl ?_
    refine ls_bipush 6 f_62_249 (by decide) ?_
    refine ls_invS f_62_251 q_62_55 [.int x6, .int 6] [.ref 60] rfl (Nat.le_of_ble_eq_true rfl) ?_
    refine ls_enter [some (.int x6), some (.int 6)] ml_148 (Nat.le_of_ble_eq_true rfl) rfl ?_
    refine ls_iload_n f_148_0 rfl ?_
    refine ls_bipush 7 f_148_1 (by decide) ?_
    refine ls_imul (x6 * 7) f_148_3 rfl ?_
    refine ls_iload_n f_148_4 rfl ?_
    refine ls_iadd ((x6 * 7) + 6) f_148_5 rfl ?_
    refine ls_ireturn f_148_6 rI_148 ?_
    show lm_W _ _ _ _ [.int ((x6 * 7) + 6), .ref 60] _ _
    refine ls_aload_n f_62_254 rfl ?_
    refine ls_getI f_62_255 p_62_21 hl S_59 ?_
    refine ls_iast f_62_258 hl S_60 hyp (fun hyp => ?_)
    refine ls_aload_n f_62_259 rfl ?_
    refine ls_getR f_62_260 p_62_28 (lm_Lay_si hl _ _ _) S_59 F_59_5 ?_
    refine ls_iload f_62_263 rfl ?_
    refine ls_bipush 6 f_62_265 (by decide) ?_
    refine ls_invS f_62_267 q_62_55 [.int x6, .int 6] [.ref 61] rfl (Nat.le_of_ble_eq_true rfl) ?_
    refine ls_enter [some (.int x6), some (.int 6)] ml_148 (Nat.le_of_ble_eq_true rfl) rfl ?_
    refine ls_iload_n f_148_0 rfl ?_
    refine ls_bipush 7 f_148_1 (by decide) ?_
    refine ls_imul (x6 * 7) f_148_3 rfl ?_
    refine ls_iload_n f_148_4 rfl ?_
    refine ls_iadd ((x6 * 7) + 6) f_148_5 rfl ?_
    refine ls_ireturn f_148_6 rI_148 ?_
    show lm_W _ _ _ _ [.int ((x6 * 7) + 6), .ref 61] _ _
    refine ls_iconst 0 f_62_270 (by decide) ?_
    refine ls_zast f_62_271 (lm_Lay_si hl _ _ _) S_61 hyp (fun hyp => ?_)
    refine ls_heap (lm_si (lm_si h 60 (((x6 * 7) + 6).toNatClampNeg) (lm_i h 59 3)) 61 (((x6 * 7) + 6).toNatClampNeg) 0) rfl ?_
    refine ls_aload_n f_62_272 rfl ?_
    refine ls_iload f_62_273 rfl ?_
    refine ls_invV (a := 59) f_62_275 q_62_81 [.int x6] [] rfl (Nat.le_of_ble_eq_true rfl) (lm_Lay_si (lm_Lay_si hl _ _ _) _ _ _) S_59 ow_63 ?_
    refine ls_call hyp (lm_Lay_si (lm_Lay_si hl _ _ _) _ _ _) (fun _ h3 hl3 hyp => ?_)
    refine ls_retV hyp (fun hyp => ?_)
    refine ls_iinc (x6 + 1) [some (.ref 59), some (.ref 1), some (.ref 18), some (.ref 67), some (.int x4), some (va_rf o5), some (.int (x6 + 1)), some (.int x7), none] f_62_278 rfl (Nat.le_of_ble_eq_true rfl) rfl (lm_put_rf rfl rfl) ?_
    refine ls_goto 58 f_62_281 rfl ?_
    exact ls_mask [true, true, true, true, true, true, true, false, false] [some (.ref 59), some (.ref 1), some (.ref 18), some (.ref 67), some (.int x4), some (va_rf o5), some (.int (x6 + 1)), none, none] rfl hyp
theorem e_63 {d : Nat} {h : lm_H} {K : lm_H → Prop} (x1 : Int32) (hl : lm_Lay h) (hyp : lm_W (d + 1) 63 4 [some (.ref 21), some (.int x1), some (.int 0), some (.int 0)] [] h (lm_kV K)) : lm_call (d + 2) 63 [.ref 21, .int x1] h (lm_kV K) := by
  refine ls_enter [some (.ref 21), some (.int x1), none, none] ml_63 (Nat.le_of_ble_eq_true rfl) rfl ?_
  refine ls_iconst 0 f_63_0 (by decide) ?_
  refine ls_istore_n [some (.ref 21), some (.int x1), some (.int 0), none] f_63_1 (Nat.le_of_ble_eq_true rfl) rfl ?_
  refine ls_iconst 0 f_63_2 (by decide) ?_
  refine ls_istore_n [some (.ref 21), some (.int x1), some (.int 0), some (.int 0)] f_63_3 (Nat.le_of_ble_eq_true rfl) rfl ?_
  exact hyp
theorem b_63_4 {d : Nat} {h : lm_H} {K : lm_H → Prop} (x1 : Int32) (x2 : Int32) (x3 : Int32) (hl : lm_Lay h) (hyp : (if x3 < (lm_i h 21 1) then (lm_in ((x1 * 7) + x3) 35 False (if (lm_i h 23 (((x1 * 7) + x3).toNatClampNeg)) = 0 then (lm_in ((x1 * 7) + x2) 35 False (lm_W (d + 1) 63 4 [some (.ref 21), some (.int x1), some (.int (x2 + 1)), some (.int (x3 + 1))] [] (lm_si h 24 (((x1 * 7) + x2).toNatClampNeg) x3) (lm_kV K))) else (lm_W (d + 1) 63 4 [some (.ref 21), some (.int x1), some (.int x2), some (.int (x3 + 1))] [] h (lm_kV K)))) else (lm_in ((x1 * 7) + x2) 35 False (lm_in x1 5 False (K (lm_si (lm_si h 24 (((x1 * 7) + x2).toNatClampNeg) 6) 25 x1.toNatClampNeg (x2 + 1))))))) : lm_W (d + 1) 63 4 [some (.ref 21), some (.int x1), some (.int x2), some (.int x3)] [] h (lm_kV K) := by
  refine ls_iload_n f_63_4 rfl ?_
  refine ls_aload_n f_63_5 rfl ?_
  refine ls_getI f_63_6 p_63_15 hl S_21 ?_
  refine ls_icmp_ge 45 f_63_9 rfl hyp (fun _ hyp => ?_) (fun _ hyp => ?_)
  · refine ls_aload_n f_63_12 rfl ?_
    refine ls_getR f_63_13 p_63_28 hl S_21 F_21_5 ?_
    refine ls_iload_n f_63_16 rfl ?_
    refine ls_iload_n f_63_17 rfl ?_
    refine ls_invS f_63_18 q_63_55 [.int x1, .int x3] [.ref 23] rfl (Nat.le_of_ble_eq_true rfl) ?_
    refine ls_enter [some (.int x1), some (.int x3)] ml_148 (Nat.le_of_ble_eq_true rfl) rfl ?_
    refine ls_iload_n f_148_0 rfl ?_
    refine ls_bipush 7 f_148_1 (by decide) ?_
    refine ls_imul (x1 * 7) f_148_3 rfl ?_
    refine ls_iload_n f_148_4 rfl ?_
    refine ls_iadd ((x1 * 7) + x3) f_148_5 rfl ?_
    refine ls_ireturn f_148_6 rI_148 ?_
    show lm_W _ _ _ _ [.int ((x1 * 7) + x3), .ref 23] _ _
    refine ls_zald f_63_21 hl S_23 hyp (fun hyp => ?_)
    refine ls_if_ne 39 f_63_22 rfl hyp (fun _ hyp => ?_) (fun _ hyp => ?_)
    · refine ls_aload_n f_63_25 rfl ?_
      refine ls_getR f_63_26 p_63_32 hl S_21 F_21_6 ?_
      refine ls_iload_n f_63_29 rfl ?_
      refine ls_iload_n f_63_30 rfl ?_
      refine ls_invS f_63_31 q_63_55 [.int x1, .int x2] [.ref 24] rfl (Nat.le_of_ble_eq_true rfl) ?_
      refine ls_enter [some (.int x1), some (.int x2)] ml_148 (Nat.le_of_ble_eq_true rfl) rfl ?_
      refine ls_iload_n f_148_0 rfl ?_
      refine ls_bipush 7 f_148_1 (by decide) ?_
      refine ls_imul (x1 * 7) f_148_3 rfl ?_
      refine ls_iload_n f_148_4 rfl ?_
      refine ls_iadd ((x1 * 7) + x2) f_148_5 rfl ?_
      refine ls_ireturn f_148_6 rI_148 ?_
      show lm_W _ _ _ _ [.int ((x1 * 7) + x2), .ref 24] _ _
      refine ls_iload_n f_63_34 rfl ?_
      refine ls_iast f_63_35 hl S_24 hyp (fun hyp => ?_)
      refine ls_iinc (x2 + 1) [some (.ref 21), some (.int x1), some (.int (x2 + 1)), some (.int x3)] f_63_36 rfl (Nat.le_of_ble_eq_true rfl) rfl rfl ?_
      refine ls_iinc (x3 + 1) [some (.ref 21), some (.int x1), some (.int (x2 + 1)), some (.int (x3 + 1))] f_63_39 rfl (Nat.le_of_ble_eq_true rfl) rfl rfl ?_
      refine ls_goto 4 f_63_42 rfl ?_
      exact hyp
    · refine ls_iinc (x3 + 1) [some (.ref 21), some (.int x1), some (.int x2), some (.int (x3 + 1))] f_63_39 rfl (Nat.le_of_ble_eq_true rfl) rfl rfl ?_
      refine ls_goto 4 f_63_42 rfl ?_
      exact hyp
  · refine ls_aload_n f_63_45 rfl ?_
    refine ls_getR f_63_46 p_63_32 hl S_21 F_21_6 ?_
    refine ls_iload_n f_63_49 rfl ?_
    refine ls_iload_n f_63_50 rfl ?_
    refine ls_invS f_63_51 q_63_55 [.int x1, .int x2] [.ref 24] rfl (Nat.le_of_ble_eq_true rfl) ?_
    refine ls_enter [some (.int x1), some (.int x2)] ml_148 (Nat.le_of_ble_eq_true rfl) rfl ?_
    refine ls_iload_n f_148_0 rfl ?_
    refine ls_bipush 7 f_148_1 (by decide) ?_
    refine ls_imul (x1 * 7) f_148_3 rfl ?_
    refine ls_iload_n f_148_4 rfl ?_
    refine ls_iadd ((x1 * 7) + x2) f_148_5 rfl ?_
    refine ls_ireturn f_148_6 rI_148 ?_
    show lm_W _ _ _ _ [.int ((x1 * 7) + x2), .ref 24] _ _
    refine ls_bipush 6 f_63_54 (by decide) ?_
    refine ls_iast f_63_56 hl S_24 hyp (fun hyp => ?_)
    refine ls_aload_n f_63_57 rfl ?_
    refine ls_getR f_63_58 p_63_35 (lm_Lay_si hl _ _ _) S_21 F_21_7 ?_
    refine ls_iload_n f_63_61 rfl ?_
    refine ls_iload_n f_63_62 rfl ?_
    refine ls_iconst 1 f_63_63 (by decide) ?_
    refine ls_iadd (x2 + 1) f_63_64 rfl ?_
    refine ls_iast f_63_65 (lm_Lay_si hl _ _ _) S_25 hyp (fun hyp => ?_)
    exact ls_return f_63_66 rV_63 hyp
theorem e_63y {d : Nat} {h : lm_H} {K : lm_H → Prop} (x1 : Int32) (hl : lm_Lay h) (hyp : lm_W (d + 1) 63 4 [some (.ref 59), some (.int x1), some (.int 0), some (.int 0)] [] h (lm_kV K)) : lm_call (d + 2) 63 [.ref 59, .int x1] h (lm_kV K) := by
  refine ls_enter [some (.ref 59), some (.int x1), none, none] ml_63 (Nat.le_of_ble_eq_true rfl) rfl ?_
  refine ls_iconst 0 f_63_0 (by decide) ?_
  refine ls_istore_n [some (.ref 59), some (.int x1), some (.int 0), none] f_63_1 (Nat.le_of_ble_eq_true rfl) rfl ?_
  refine ls_iconst 0 f_63_2 (by decide) ?_
  refine ls_istore_n [some (.ref 59), some (.int x1), some (.int 0), some (.int 0)] f_63_3 (Nat.le_of_ble_eq_true rfl) rfl ?_
  exact hyp
theorem b_63y_4 {d : Nat} {h : lm_H} {K : lm_H → Prop} (x1 : Int32) (x2 : Int32) (x3 : Int32) (hl : lm_Lay h) (hyp : (if x3 < (lm_i h 59 1) then (lm_in ((x1 * 7) + x3) 35 False (if (lm_i h 61 (((x1 * 7) + x3).toNatClampNeg)) = 0 then (lm_in ((x1 * 7) + x2) 35 False (lm_W (d + 1) 63 4 [some (.ref 59), some (.int x1), some (.int (x2 + 1)), some (.int (x3 + 1))] [] (lm_si h 62 (((x1 * 7) + x2).toNatClampNeg) x3) (lm_kV K))) else (lm_W (d + 1) 63 4 [some (.ref 59), some (.int x1), some (.int x2), some (.int (x3 + 1))] [] h (lm_kV K)))) else (lm_in ((x1 * 7) + x2) 35 False (lm_in x1 5 False (K (lm_si (lm_si h 62 (((x1 * 7) + x2).toNatClampNeg) 6) 63 x1.toNatClampNeg (x2 + 1))))))) : lm_W (d + 1) 63 4 [some (.ref 59), some (.int x1), some (.int x2), some (.int x3)] [] h (lm_kV K) := by
  refine ls_iload_n f_63_4 rfl ?_
  refine ls_aload_n f_63_5 rfl ?_
  refine ls_getI f_63_6 p_63_15 hl S_59 ?_
  refine ls_icmp_ge 45 f_63_9 rfl hyp (fun _ hyp => ?_) (fun _ hyp => ?_)
  · refine ls_aload_n f_63_12 rfl ?_
    refine ls_getR f_63_13 p_63_28 hl S_59 F_59_5 ?_
    refine ls_iload_n f_63_16 rfl ?_
    refine ls_iload_n f_63_17 rfl ?_
    refine ls_invS f_63_18 q_63_55 [.int x1, .int x3] [.ref 61] rfl (Nat.le_of_ble_eq_true rfl) ?_
    refine ls_enter [some (.int x1), some (.int x3)] ml_148 (Nat.le_of_ble_eq_true rfl) rfl ?_
    refine ls_iload_n f_148_0 rfl ?_
    refine ls_bipush 7 f_148_1 (by decide) ?_
    refine ls_imul (x1 * 7) f_148_3 rfl ?_
    refine ls_iload_n f_148_4 rfl ?_
    refine ls_iadd ((x1 * 7) + x3) f_148_5 rfl ?_
    refine ls_ireturn f_148_6 rI_148 ?_
    show lm_W _ _ _ _ [.int ((x1 * 7) + x3), .ref 61] _ _
    refine ls_zald f_63_21 hl S_61 hyp (fun hyp => ?_)
    refine ls_if_ne 39 f_63_22 rfl hyp (fun _ hyp => ?_) (fun _ hyp => ?_)
    · refine ls_aload_n f_63_25 rfl ?_
      refine ls_getR f_63_26 p_63_32 hl S_59 F_59_6 ?_
      refine ls_iload_n f_63_29 rfl ?_
      refine ls_iload_n f_63_30 rfl ?_
      refine ls_invS f_63_31 q_63_55 [.int x1, .int x2] [.ref 62] rfl (Nat.le_of_ble_eq_true rfl) ?_
      refine ls_enter [some (.int x1), some (.int x2)] ml_148 (Nat.le_of_ble_eq_true rfl) rfl ?_
      refine ls_iload_n f_148_0 rfl ?_
      refine ls_bipush 7 f_148_1 (by decide) ?_
      refine ls_imul (x1 * 7) f_148_3 rfl ?_
      refine ls_iload_n f_148_4 rfl ?_
      refine ls_iadd ((x1 * 7) + x2) f_148_5 rfl ?_
      refine ls_ireturn f_148_6 rI_148 ?_
      show lm_W _ _ _ _ [.int ((x1 * 7) + x2), .ref 62] _ _
      refine ls_iload_n f_63_34 rfl ?_
      refine ls_iast f_63_35 hl S_62 hyp (fun hyp => ?_)
      refine ls_iinc (x2 + 1) [some (.ref 59), some (.int x1), some (.int (x2 + 1)), some (.int x3)] f_63_36 rfl (Nat.le_of_ble_eq_true rfl) rfl rfl ?_
      refine ls_iinc (x3 + 1) [some (.ref 59), some (.int x1), some (.int (x2 + 1)), some (.int (x3 + 1))] f_63_39 rfl (Nat.le_of_ble_eq_true rfl) rfl rfl ?_
      refine ls_goto 4 f_63_42 rfl ?_
      exact hyp
    · refine ls_iinc (x3 + 1) [some (.ref 59), some (.int x1), some (.int x2), some (.int (x3 + 1))] f_63_39 rfl (Nat.le_of_ble_eq_true rfl) rfl rfl ?_
      refine ls_goto 4 f_63_42 rfl ?_
      exact hyp
  · refine ls_aload_n f_63_45 rfl ?_
    refine ls_getR f_63_46 p_63_32 hl S_59 F_59_6 ?_
    refine ls_iload_n f_63_49 rfl ?_
    refine ls_iload_n f_63_50 rfl ?_
    refine ls_invS f_63_51 q_63_55 [.int x1, .int x2] [.ref 62] rfl (Nat.le_of_ble_eq_true rfl) ?_
    refine ls_enter [some (.int x1), some (.int x2)] ml_148 (Nat.le_of_ble_eq_true rfl) rfl ?_
    refine ls_iload_n f_148_0 rfl ?_
    refine ls_bipush 7 f_148_1 (by decide) ?_
    refine ls_imul (x1 * 7) f_148_3 rfl ?_
    refine ls_iload_n f_148_4 rfl ?_
    refine ls_iadd ((x1 * 7) + x2) f_148_5 rfl ?_
    refine ls_ireturn f_148_6 rI_148 ?_
    show lm_W _ _ _ _ [.int ((x1 * 7) + x2), .ref 62] _ _
    refine ls_bipush 6 f_63_54 (by decide) ?_
    refine ls_iast f_63_56 hl S_62 hyp (fun hyp => ?_)
    refine ls_aload_n f_63_57 rfl ?_
    refine ls_getR f_63_58 p_63_35 (lm_Lay_si hl _ _ _) S_59 F_59_7 ?_
    refine ls_iload_n f_63_61 rfl ?_
    refine ls_iload_n f_63_62 rfl ?_
    refine ls_iconst 1 f_63_63 (by decide) ?_
    refine ls_iadd (x2 + 1) f_63_64 rfl ?_
    refine ls_iast f_63_65 (lm_Lay_si hl _ _ _) S_63 hyp (fun hyp => ?_)
    exact ls_return f_63_66 rV_63 hyp
theorem e_64 {d : Nat} {h : lm_H} {K : Int32 → lm_H → Prop} (hl : lm_Lay h) (hyp : (if (lm_i h 32 0) = (lm_i h 21 0) then (if (lm_i h 32 1) = (lm_i h 21 1) then (if (lm_i h 32 2) = (lm_i h 21 2) then (if (lm_i h 32 3) = (lm_i h 21 3) then (lm_W (d + 1) 64 48 [some (.ref 32), some (.ref 21), some (.int 0), none, none] [] h (lm_kI K)) else (K 0 h)) else (K 0 h)) else (K 0 h)) else (K 0 h))) : lm_call (d + 2) 64 [.ref 32, .ref 21] h (lm_kI K) := by
  refine ls_enter [some (.ref 32), some (.ref 21), none, none, none] ml_64 (Nat.le_of_ble_eq_true rfl) rfl ?_
  refine ls_aload_n f_64_0 rfl ?_
  refine ls_getI f_64_1 p_64_9 hl S_32 ?_
  refine ls_aload_n f_64_4 rfl ?_
  refine ls_getI f_64_5 p_64_9 hl S_21 ?_
  refine ls_icmp_ne 44 f_64_8 rfl hyp (fun _ hyp => ?_) (fun _ hyp => ?_)
  · refine ls_aload_n f_64_11 rfl ?_
    refine ls_getI f_64_12 p_64_15 hl S_32 ?_
    refine ls_aload_n f_64_15 rfl ?_
    refine ls_getI f_64_16 p_64_15 hl S_21 ?_
    refine ls_icmp_ne 44 f_64_19 rfl hyp (fun _ hyp => ?_) (fun _ hyp => ?_)
    · refine ls_aload_n f_64_22 rfl ?_
      refine ls_getI f_64_23 p_64_18 hl S_32 ?_
      refine ls_aload_n f_64_26 rfl ?_
      refine ls_getI f_64_27 p_64_18 hl S_21 ?_
      refine ls_icmp_ne 44 f_64_30 rfl hyp (fun _ hyp => ?_) (fun _ hyp => ?_)
      · refine ls_aload_n f_64_33 rfl ?_
        refine ls_getI f_64_34 p_64_21 hl S_32 ?_
        refine ls_aload_n f_64_37 rfl ?_
        refine ls_getI f_64_38 p_64_21 hl S_21 ?_
        refine ls_icmp_eq 46 f_64_41 rfl hyp (fun _ hyp => ?_) (fun _ hyp => ?_)
        · refine ls_iconst 0 f_64_46 (by decide) ?_
          refine ls_istore_n [some (.ref 32), some (.ref 21), some (.int 0), none, none] f_64_47 (Nat.le_of_ble_eq_true rfl) rfl ?_
          exact hyp
        · refine ls_iconst 0 f_64_44 (by decide) ?_
          exact ls_zreturn f_64_45 rZ_64 (by decide) hyp
      · refine ls_iconst 0 f_64_44 (by decide) ?_
        exact ls_zreturn f_64_45 rZ_64 (by decide) hyp
    · refine ls_iconst 0 f_64_44 (by decide) ?_
      exact ls_zreturn f_64_45 rZ_64 (by decide) hyp
  · refine ls_iconst 0 f_64_44 (by decide) ?_
    exact ls_zreturn f_64_45 rZ_64 (by decide) hyp
theorem b_64_48 {d : Nat} {h : lm_H} {K : Int32 → lm_H → Prop} (x2 : Int32) (hl : lm_Lay h) (hyp : (if x2 < (lm_i h 32 0) then (lm_W (d + 1) 64 58 [some (.ref 32), some (.ref 21), some (.int x2), some (.int 0), none] [] h (lm_kI K)) else (K 1 h))) : lm_W (d + 1) 64 48 [some (.ref 32), some (.ref 21), some (.int x2), none, none] [] h (lm_kI K) := by
  refine ls_iload_n f_64_48 rfl ?_
  refine ls_aload_n f_64_49 rfl ?_
  refine ls_getI f_64_50 p_64_9 hl S_32 ?_
  refine ls_icmp_ge 121 f_64_53 rfl hyp (fun _ hyp => ?_) (fun _ hyp => ?_)
  · refine ls_iconst 0 f_64_56 (by decide) ?_
    refine ls_istore_n [some (.ref 32), some (.ref 21), some (.int x2), some (.int 0), none] f_64_57 (Nat.le_of_ble_eq_true rfl) rfl ?_
    exact hyp
  · refine ls_iconst 1 f_64_121 (by decide) ?_
    exact ls_zreturn f_64_122 rZ_64 (by decide) hyp
theorem b_64_58 {d : Nat} {h : lm_H} {K : Int32 → lm_H → Prop} (x2 : Int32) (x3 : Int32) (hl : lm_Lay h) (hyp : (if x3 < (lm_i h 32 1) then (lm_in ((x2 * 7) + x3) 35 False (lm_in ((x2 * 7) + x3) 35 False (if (lm_i h 33 (((x2 * 7) + x3).toNatClampNeg)) = (lm_i h 22 (((x2 * 7) + x3).toNatClampNeg)) then (lm_in ((x2 * 7) + x3) 35 False (lm_in ((x2 * 7) + x3) 35 False (if (lm_i h 34 (((x2 * 7) + x3).toNatClampNeg)) = (lm_i h 23 (((x2 * 7) + x3).toNatClampNeg)) then (lm_W (d + 1) 64 58 [some (.ref 32), some (.ref 21), some (.int x2), some (.int (x3 + 1)), none] [] h (lm_kI K)) else (K 0 h)))) else (K 0 h)))) else (lm_W (d + 1) 64 48 [some (.ref 32), some (.ref 21), some (.int (x2 + 1)), none, none] [] h (lm_kI K)))) : lm_W (d + 1) 64 58 [some (.ref 32), some (.ref 21), some (.int x2), some (.int x3), none] [] h (lm_kI K) := by
  refine ls_iload_n f_64_58 rfl ?_
  refine ls_aload_n f_64_59 rfl ?_
  refine ls_getI f_64_60 p_64_15 hl S_32 ?_
  refine ls_icmp_ge 115 f_64_63 rfl hyp (fun _ hyp => ?_) (fun _ hyp => ?_)
  · refine ls_iload_n f_64_66 rfl ?_
    refine ls_iload_n f_64_67 rfl ?_
    refine ls_invS f_64_68 q_64_55 [.int x2, .int x3] [] rfl (Nat.le_of_ble_eq_true rfl) ?_
    refine ls_enter [some (.int x2), some (.int x3)] ml_148 (Nat.le_of_ble_eq_true rfl) rfl ?_
    refine ls_iload_n f_148_0 rfl ?_
    refine ls_bipush 7 f_148_1 (by decide) ?_
    refine ls_imul (x2 * 7) f_148_3 rfl ?_
    refine ls_iload_n f_148_4 rfl ?_
    refine ls_iadd ((x2 * 7) + x3) f_148_5 rfl ?_
    refine ls_ireturn f_148_6 rI_148 ?_
    show lm_W _ _ _ _ [.int ((x2 * 7) + x3)] _ _
    refine ls_istore [some (.ref 32), some (.ref 21), some (.int x2), some (.int x3), some (.int ((x2 * 7) + x3))] f_64_71 (Nat.le_of_ble_eq_true rfl) rfl ?_
    refine ls_aload_n f_64_73 rfl ?_
    refine ls_getR f_64_74 p_64_24 hl S_32 F_32_4 ?_
    refine ls_iload f_64_77 rfl ?_
    refine ls_iald f_64_79 hl S_33 hyp (fun hyp => ?_)
    refine ls_aload_n f_64_80 rfl ?_
    refine ls_getR f_64_81 p_64_24 hl S_21 F_21_4 ?_
    refine ls_iload f_64_84 rfl ?_
    refine ls_iald f_64_86 hl S_22 hyp (fun hyp => ?_)
    refine ls_icmp_ne 107 f_64_87 rfl hyp (fun _ hyp => ?_) (fun _ hyp => ?_)
    · refine ls_aload_n f_64_90 rfl ?_
      refine ls_getR f_64_91 p_64_28 hl S_32 F_32_5 ?_
      refine ls_iload f_64_94 rfl ?_
      refine ls_zald f_64_96 hl S_34 hyp (fun hyp => ?_)
      refine ls_aload_n f_64_97 rfl ?_
      refine ls_getR f_64_98 p_64_28 hl S_21 F_21_5 ?_
      refine ls_iload f_64_101 rfl ?_
      refine ls_zald f_64_103 hl S_23 hyp (fun hyp => ?_)
      refine ls_icmp_eq 109 f_64_104 rfl hyp (fun _ hyp => ?_) (fun _ hyp => ?_)
      · refine ls_iinc (x3 + 1) [some (.ref 32), some (.ref 21), some (.int x2), some (.int (x3 + 1)), some (.int ((x2 * 7) + x3))] f_64_109 rfl (Nat.le_of_ble_eq_true rfl) rfl rfl ?_
        refine ls_goto 58 f_64_112 rfl ?_
        exact ls_mask [true, true, true, true, false] [some (.ref 32), some (.ref 21), some (.int x2), some (.int (x3 + 1)), none] rfl hyp
      · refine ls_iconst 0 f_64_107 (by decide) ?_
        exact ls_zreturn f_64_108 rZ_64 (by decide) hyp
    · refine ls_iconst 0 f_64_107 (by decide) ?_
      exact ls_zreturn f_64_108 rZ_64 (by decide) hyp
  · refine ls_iinc (x2 + 1) [some (.ref 32), some (.ref 21), some (.int (x2 + 1)), some (.int x3), none] f_64_115 rfl (Nat.le_of_ble_eq_true rfl) rfl rfl ?_
    refine ls_goto 48 f_64_118 rfl ?_
    exact ls_mask [true, true, true, false, false] [some (.ref 32), some (.ref 21), some (.int (x2 + 1)), none, none] rfl hyp
theorem e_65 {d : Nat} {h : lm_H} {K : lm_H → Prop} (hl : lm_Lay h) (hyp : lm_W (d) 65 34 [some (.ref 32), some (.ref 21), some (.int 0)] [] (lm_si (lm_si (lm_si (lm_si h 32 0 (lm_i h 21 0)) 32 1 (lm_i h 21 1)) 32 2 (lm_i h 21 2)) 32 3 (lm_i h 21 3)) (lm_kV K)) : lm_call (d + 1) 65 [.ref 32, .ref 21] h (lm_kV K) := by
  refine ls_enter [some (.ref 32), some (.ref 21), none] ml_65 (Nat.le_of_ble_eq_true rfl) rfl ?_
  refine ls_aload_n f_65_0 rfl ?_
  refine ls_aload_n f_65_1 rfl ?_
  refine ls_getI f_65_2 p_65_9 hl S_21 ?_
  refine ls_putI f_65_5 p_65_9 hl S_32 rfl ?_
  refine ls_aload_n f_65_8 rfl ?_
  refine ls_aload_n f_65_9 rfl ?_
  refine ls_getI f_65_10 p_65_15 (lm_Lay_si hl _ _ _) S_21 ?_
  refine ls_top (lm_i h 21 1) rfl ?_
  refine ls_putI f_65_13 p_65_15 (lm_Lay_si hl _ _ _) S_32 rfl ?_
  refine ls_aload_n f_65_16 rfl ?_
  refine ls_aload_n f_65_17 rfl ?_
  refine ls_getI f_65_18 p_65_18 (lm_Lay_si (lm_Lay_si hl _ _ _) _ _ _) S_21 ?_
  refine ls_top (lm_i h 21 2) rfl ?_
  refine ls_putI f_65_21 p_65_18 (lm_Lay_si (lm_Lay_si hl _ _ _) _ _ _) S_32 rfl ?_
  refine ls_aload_n f_65_24 rfl ?_
  refine ls_aload_n f_65_25 rfl ?_
  refine ls_getI f_65_26 p_65_21 (lm_Lay_si (lm_Lay_si (lm_Lay_si hl _ _ _) _ _ _) _ _ _) S_21 ?_
  refine ls_top (lm_i h 21 3) rfl ?_
  refine ls_putI f_65_29 p_65_21 (lm_Lay_si (lm_Lay_si (lm_Lay_si hl _ _ _) _ _ _) _ _ _) S_32 rfl ?_
  refine ls_iconst 0 f_65_32 (by decide) ?_
  refine ls_istore_n [some (.ref 32), some (.ref 21), some (.int 0)] f_65_33 (Nat.le_of_ble_eq_true rfl) rfl ?_
  exact hyp
theorem b_65_34 {d : Nat} {h : lm_H} {K : lm_H → Prop} (x2 : Int32) (hl : lm_Lay h) (hyp : (if x2 < 35 then (lm_in x2 35 False (lm_in x2 35 False (lm_in x2 35 False (lm_in x2 35 False (lm_in x2 35 False (lm_in x2 35 False (lm_W (d) 65 34 [some (.ref 32), some (.ref 21), some (.int (x2 + 1))] [] (lm_si (lm_si (lm_si h 33 x2.toNatClampNeg (lm_i h 22 x2.toNatClampNeg)) 34 x2.toNatClampNeg (vp_nar .boolean (lm_i h 23 x2.toNatClampNeg))) 35 x2.toNatClampNeg (lm_i h 24 x2.toNatClampNeg)) (lm_kV K)))))))) else (lm_W (d) 65 84 [some (.ref 32), some (.ref 21), some (.int 0)] [] h (lm_kV K)))) : lm_W (d) 65 34 [some (.ref 32), some (.ref 21), some (.int x2)] [] h (lm_kV K) := by
  refine ls_iload_n f_65_34 rfl ?_
  refine ls_bipush 35 f_65_35 (by decide) ?_
  refine ls_icmp_ge 82 f_65_37 rfl hyp (fun _ hyp => ?_) (fun _ hyp => ?_)
  · refine ls_aload_n f_65_40 rfl ?_
    refine ls_getR f_65_41 p_65_24 hl S_32 F_32_4 ?_
    refine ls_iload_n f_65_44 rfl ?_
    refine ls_aload_n f_65_45 rfl ?_
    refine ls_getR f_65_46 p_65_24 hl S_21 F_21_4 ?_
    refine ls_iload_n f_65_49 rfl ?_
    refine ls_iald f_65_50 hl S_22 hyp (fun hyp => ?_)
    refine ls_iast f_65_51 hl S_33 hyp (fun hyp => ?_)
    refine ls_aload_n f_65_52 rfl ?_
    refine ls_getR f_65_53 p_65_28 (lm_Lay_si hl _ _ _) S_32 F_32_5 ?_
    refine ls_iload_n f_65_56 rfl ?_
    refine ls_aload_n f_65_57 rfl ?_
    refine ls_getR f_65_58 p_65_28 (lm_Lay_si hl _ _ _) S_21 F_21_5 ?_
    refine ls_iload_n f_65_61 rfl ?_
    refine ls_zald f_65_62 (lm_Lay_si hl _ _ _) S_23 hyp (fun hyp => ?_)
    refine ls_top (lm_i h 23 x2.toNatClampNeg) rfl ?_
    refine ls_zast f_65_63 (lm_Lay_si hl _ _ _) S_34 hyp (fun hyp => ?_)
    refine ls_aload_n f_65_64 rfl ?_
    refine ls_getR f_65_65 p_65_32 (lm_Lay_si (lm_Lay_si hl _ _ _) _ _ _) S_32 F_32_6 ?_
    refine ls_iload_n f_65_68 rfl ?_
    refine ls_aload_n f_65_69 rfl ?_
    refine ls_getR f_65_70 p_65_32 (lm_Lay_si (lm_Lay_si hl _ _ _) _ _ _) S_21 F_21_6 ?_
    refine ls_iload_n f_65_73 rfl ?_
    refine ls_iald f_65_74 (lm_Lay_si (lm_Lay_si hl _ _ _) _ _ _) S_24 hyp (fun hyp => ?_)
    refine ls_top (lm_i h 24 x2.toNatClampNeg) rfl ?_
    refine ls_iast f_65_75 (lm_Lay_si (lm_Lay_si hl _ _ _) _ _ _) S_35 hyp (fun hyp => ?_)
    refine ls_iinc (x2 + 1) [some (.ref 32), some (.ref 21), some (.int (x2 + 1))] f_65_76 rfl (Nat.le_of_ble_eq_true rfl) rfl rfl ?_
    refine ls_goto 34 f_65_79 rfl ?_
    exact hyp
  · refine ls_iconst 0 f_65_82 (by decide) ?_
    refine ls_istore_n [some (.ref 32), some (.ref 21), some (.int 0)] f_65_83 (Nat.le_of_ble_eq_true rfl) rfl ?_
    exact hyp
theorem b_65_84 {d : Nat} {h : lm_H} {K : lm_H → Prop} (x2 : Int32) (hl : lm_Lay h) (hyp : (if x2 < 5 then (lm_in x2 5 False (lm_in x2 5 False (lm_W (d) 65 84 [some (.ref 32), some (.ref 21), some (.int (x2 + 1))] [] (lm_si h 36 x2.toNatClampNeg (lm_i h 25 x2.toNatClampNeg)) (lm_kV K)))) else (K h))) : lm_W (d) 65 84 [some (.ref 32), some (.ref 21), some (.int x2)] [] h (lm_kV K) := by
  refine ls_iload_n f_65_84 rfl ?_
  refine ls_iconst 5 f_65_85 (by decide) ?_
  refine ls_icmp_ge 107 f_65_86 rfl hyp (fun _ hyp => ?_) (fun _ hyp => ?_)
  · refine ls_aload_n f_65_89 rfl ?_
    refine ls_getR f_65_90 p_65_35 hl S_32 F_32_7 ?_
    refine ls_iload_n f_65_93 rfl ?_
    refine ls_aload_n f_65_94 rfl ?_
    refine ls_getR f_65_95 p_65_35 hl S_21 F_21_7 ?_
    refine ls_iload_n f_65_98 rfl ?_
    refine ls_iald f_65_99 hl S_25 hyp (fun hyp => ?_)
    refine ls_iast f_65_100 hl S_36 hyp (fun hyp => ?_)
    refine ls_iinc (x2 + 1) [some (.ref 32), some (.ref 21), some (.int (x2 + 1))] f_65_101 rfl (Nat.le_of_ble_eq_true rfl) rfl rfl ?_
    refine ls_goto 84 f_65_104 rfl ?_
    exact hyp
  · exact ls_return f_65_107 rV_65 hyp
theorem e_66 {d : Nat} {h : lm_H} {K : Int32 → lm_H → Prop} (x1 : Int32) (x2 : Int32) (hl : lm_Lay h) (hyp : lm_in ((x1 * 7) + x2) 35 False (if (lm_i h 23 (((x1 * 7) + x2).toNatClampNeg)) = 0 then (K x2 h) else (K 6 h))) : lm_call (d + 2) 66 [.ref 21, .int x1, .int x2] h (lm_kI K) := by
  refine ls_enter [some (.ref 21), some (.int x1), some (.int x2)] ml_66 (Nat.le_of_ble_eq_true rfl) rfl ?_
  refine ls_aload_n f_66_0 rfl ?_
  refine ls_getR f_66_1 p_66_28 hl S_21 F_21_5 ?_
  refine ls_iload_n f_66_4 rfl ?_
  refine ls_iload_n f_66_5 rfl ?_
  refine ls_invS f_66_6 q_66_55 [.int x1, .int x2] [.ref 23] rfl (Nat.le_of_ble_eq_true rfl) ?_
  refine ls_enter [some (.int x1), some (.int x2)] ml_148 (Nat.le_of_ble_eq_true rfl) rfl ?_
  refine ls_iload_n f_148_0 rfl ?_
  refine ls_bipush 7 f_148_1 (by decide) ?_
  refine ls_imul (x1 * 7) f_148_3 rfl ?_
  refine ls_iload_n f_148_4 rfl ?_
  refine ls_iadd ((x1 * 7) + x2) f_148_5 rfl ?_
  refine ls_ireturn f_148_6 rI_148 ?_
  show lm_W _ _ _ _ [.int ((x1 * 7) + x2), .ref 23] _ _
  refine ls_zald f_66_9 hl S_23 hyp (fun hyp => ?_)
  refine ls_if_eq 18 f_66_10 rfl hyp (fun _ hyp => ?_) (fun _ hyp => ?_)
  · refine ls_iload_n f_66_18 rfl ?_
    exact ls_ireturn f_66_19 rI_66 hyp
  · refine ls_bipush 6 f_66_13 (by decide) ?_
    refine ls_goto 19 f_66_15 rfl ?_
    exact ls_ireturn f_66_19 rI_66 hyp
theorem e_66y {d : Nat} {h : lm_H} {K : Int32 → lm_H → Prop} (x1 : Int32) (x2 : Int32) (hl : lm_Lay h) (hyp : lm_in ((x1 * 7) + x2) 35 False (if (lm_i h 61 (((x1 * 7) + x2).toNatClampNeg)) = 0 then (K x2 h) else (K 6 h))) : lm_call (d + 2) 66 [.ref 59, .int x1, .int x2] h (lm_kI K) := by
  refine ls_enter [some (.ref 59), some (.int x1), some (.int x2)] ml_66 (Nat.le_of_ble_eq_true rfl) rfl ?_
  refine ls_aload_n f_66_0 rfl ?_
  refine ls_getR f_66_1 p_66_28 hl S_59 F_59_5 ?_
  refine ls_iload_n f_66_4 rfl ?_
  refine ls_iload_n f_66_5 rfl ?_
  refine ls_invS f_66_6 q_66_55 [.int x1, .int x2] [.ref 61] rfl (Nat.le_of_ble_eq_true rfl) ?_
  refine ls_enter [some (.int x1), some (.int x2)] ml_148 (Nat.le_of_ble_eq_true rfl) rfl ?_
  refine ls_iload_n f_148_0 rfl ?_
  refine ls_bipush 7 f_148_1 (by decide) ?_
  refine ls_imul (x1 * 7) f_148_3 rfl ?_
  refine ls_iload_n f_148_4 rfl ?_
  refine ls_iadd ((x1 * 7) + x2) f_148_5 rfl ?_
  refine ls_ireturn f_148_6 rI_148 ?_
  show lm_W _ _ _ _ [.int ((x1 * 7) + x2), .ref 61] _ _
  refine ls_zald f_66_9 hl S_61 hyp (fun hyp => ?_)
  refine ls_if_eq 18 f_66_10 rfl hyp (fun _ hyp => ?_) (fun _ hyp => ?_)
  · refine ls_iload_n f_66_18 rfl ?_
    exact ls_ireturn f_66_19 rI_66 hyp
  · refine ls_bipush 6 f_66_13 (by decide) ?_
    refine ls_goto 19 f_66_15 rfl ?_
    exact ls_ireturn f_66_19 rI_66 hyp
theorem e_67 {d : Nat} {h : lm_H} {K : Int32 → lm_H → Prop} (x2 : Int32) (hl : lm_Lay h) (hyp : lm_W (d) 67 5 [some (.ref 21), some (.ref 73), some (.int x2), some (.int 0), some (.int 0)] [] h (lm_kI K)) : lm_call (d + 1) 67 [.ref 21, .ref 73, .int x2] h (lm_kI K) := by
  refine ls_enter [some (.ref 21), some (.ref 73), some (.int x2), none, none] ml_67 (Nat.le_of_ble_eq_true rfl) rfl ?_
  refine ls_iconst 0 f_67_0 (by decide) ?_
  refine ls_istore_n [some (.ref 21), some (.ref 73), some (.int x2), some (.int 0), none] f_67_1 (Nat.le_of_ble_eq_true rfl) rfl ?_
  refine ls_iconst 0 f_67_2 (by decide) ?_
  refine ls_istore [some (.ref 21), some (.ref 73), some (.int x2), some (.int 0), some (.int 0)] f_67_3 (Nat.le_of_ble_eq_true rfl) rfl ?_
  exact hyp
theorem b_67_5 {d : Nat} {h : lm_H} {K : Int32 → lm_H → Prop} (x2 : Int32) (x3 : Int32) (x4 : Int32) (hl : lm_Lay h) (hyp : (if x4 < (lm_i h 21 0) then (lm_in x4 5 False (if (lm_i h 73 x4.toNatClampNeg) = x2 then (lm_W (d) 67 5 [some (.ref 21), some (.ref 73), some (.int x2), some (.int (x3 ||| ((1 : Int32) <<< (x4 &&& 31)))), some (.int (x4 + 1))] [] h (lm_kI K)) else (lm_W (d) 67 5 [some (.ref 21), some (.ref 73), some (.int x2), some (.int x3), some (.int (x4 + 1))] [] h (lm_kI K)))) else (K x3 h))) : lm_W (d) 67 5 [some (.ref 21), some (.ref 73), some (.int x2), some (.int x3), some (.int x4)] [] h (lm_kI K) := by
  refine ls_iload f_67_5 rfl ?_
  refine ls_aload_n f_67_7 rfl ?_
  refine ls_getI f_67_8 p_67_9 hl S_21 ?_
  refine ls_icmp_ge 35 f_67_11 rfl hyp (fun _ hyp => ?_) (fun _ hyp => ?_)
  · refine ls_aload_n f_67_14 rfl ?_
    refine ls_iload f_67_15 rfl ?_
    refine ls_iald f_67_17 hl S_73 hyp (fun hyp => ?_)
    refine ls_iload_n f_67_18 rfl ?_
    refine ls_icmp_ne 29 f_67_19 rfl hyp (fun _ hyp => ?_) (fun _ hyp => ?_)
    · refine ls_iload_n f_67_22 rfl ?_
      refine ls_iconst 1 f_67_23 (by decide) ?_
      refine ls_iload f_67_24 rfl ?_
      refine ls_ishl ((1 : Int32) <<< (x4 &&& 31)) f_67_26 rfl ?_
      refine ls_ior (x3 ||| ((1 : Int32) <<< (x4 &&& 31))) f_67_27 rfl ?_
      refine ls_istore_n [some (.ref 21), some (.ref 73), some (.int x2), some (.int (x3 ||| ((1 : Int32) <<< (x4 &&& 31)))), some (.int x4)] f_67_28 (Nat.le_of_ble_eq_true rfl) rfl ?_
      refine ls_iinc (x4 + 1) [some (.ref 21), some (.ref 73), some (.int x2), some (.int (x3 ||| ((1 : Int32) <<< (x4 &&& 31)))), some (.int (x4 + 1))] f_67_29 rfl (Nat.le_of_ble_eq_true rfl) rfl rfl ?_
      refine ls_goto 5 f_67_32 rfl ?_
      exact hyp
    · refine ls_iinc (x4 + 1) [some (.ref 21), some (.ref 73), some (.int x2), some (.int x3), some (.int (x4 + 1))] f_67_29 rfl (Nat.le_of_ble_eq_true rfl) rfl rfl ?_
      refine ls_goto 5 f_67_32 rfl ?_
      exact hyp
  · refine ls_iload_n f_67_35 rfl ?_
    exact ls_ireturn f_67_36 rI_67 hyp
theorem e_67t {d : Nat} {h : lm_H} {K : Int32 → lm_H → Prop} (x2 : Int32) (hl : lm_Lay h) (hyp : lm_W (d) 67 5 [some (.ref 21), some (.ref 50), some (.int x2), some (.int 0), some (.int 0)] [] h (lm_kI K)) : lm_call (d + 1) 67 [.ref 21, .ref 50, .int x2] h (lm_kI K) := by
  refine ls_enter [some (.ref 21), some (.ref 50), some (.int x2), none, none] ml_67 (Nat.le_of_ble_eq_true rfl) rfl ?_
  refine ls_iconst 0 f_67_0 (by decide) ?_
  refine ls_istore_n [some (.ref 21), some (.ref 50), some (.int x2), some (.int 0), none] f_67_1 (Nat.le_of_ble_eq_true rfl) rfl ?_
  refine ls_iconst 0 f_67_2 (by decide) ?_
  refine ls_istore [some (.ref 21), some (.ref 50), some (.int x2), some (.int 0), some (.int 0)] f_67_3 (Nat.le_of_ble_eq_true rfl) rfl ?_
  exact hyp
theorem b_67t_5 {d : Nat} {h : lm_H} {K : Int32 → lm_H → Prop} (x2 : Int32) (x3 : Int32) (x4 : Int32) (hl : lm_Lay h) (hyp : (if x4 < (lm_i h 21 0) then (lm_in x4 5 False (if (lm_i h 50 x4.toNatClampNeg) = x2 then (lm_W (d) 67 5 [some (.ref 21), some (.ref 50), some (.int x2), some (.int (x3 ||| ((1 : Int32) <<< (x4 &&& 31)))), some (.int (x4 + 1))] [] h (lm_kI K)) else (lm_W (d) 67 5 [some (.ref 21), some (.ref 50), some (.int x2), some (.int x3), some (.int (x4 + 1))] [] h (lm_kI K)))) else (K x3 h))) : lm_W (d) 67 5 [some (.ref 21), some (.ref 50), some (.int x2), some (.int x3), some (.int x4)] [] h (lm_kI K) := by
  refine ls_iload f_67_5 rfl ?_
  refine ls_aload_n f_67_7 rfl ?_
  refine ls_getI f_67_8 p_67_9 hl S_21 ?_
  refine ls_icmp_ge 35 f_67_11 rfl hyp (fun _ hyp => ?_) (fun _ hyp => ?_)
  · refine ls_aload_n f_67_14 rfl ?_
    refine ls_iload f_67_15 rfl ?_
    refine ls_iald f_67_17 hl S_50 hyp (fun hyp => ?_)
    refine ls_iload_n f_67_18 rfl ?_
    refine ls_icmp_ne 29 f_67_19 rfl hyp (fun _ hyp => ?_) (fun _ hyp => ?_)
    · refine ls_iload_n f_67_22 rfl ?_
      refine ls_iconst 1 f_67_23 (by decide) ?_
      refine ls_iload f_67_24 rfl ?_
      refine ls_ishl ((1 : Int32) <<< (x4 &&& 31)) f_67_26 rfl ?_
      refine ls_ior (x3 ||| ((1 : Int32) <<< (x4 &&& 31))) f_67_27 rfl ?_
      refine ls_istore_n [some (.ref 21), some (.ref 50), some (.int x2), some (.int (x3 ||| ((1 : Int32) <<< (x4 &&& 31)))), some (.int x4)] f_67_28 (Nat.le_of_ble_eq_true rfl) rfl ?_
      refine ls_iinc (x4 + 1) [some (.ref 21), some (.ref 50), some (.int x2), some (.int (x3 ||| ((1 : Int32) <<< (x4 &&& 31)))), some (.int (x4 + 1))] f_67_29 rfl (Nat.le_of_ble_eq_true rfl) rfl rfl ?_
      refine ls_goto 5 f_67_32 rfl ?_
      exact hyp
    · refine ls_iinc (x4 + 1) [some (.ref 21), some (.ref 50), some (.int x2), some (.int x3), some (.int (x4 + 1))] f_67_29 rfl (Nat.le_of_ble_eq_true rfl) rfl rfl ?_
      refine ls_goto 5 f_67_32 rfl ?_
      exact hyp
  · refine ls_iload_n f_67_35 rfl ?_
    exact ls_ireturn f_67_36 rI_67 hyp
theorem e_67y {d : Nat} {h : lm_H} {K : Int32 → lm_H → Prop} (x2 : Int32) (hl : lm_Lay h) (hyp : lm_W (d) 67 5 [some (.ref 59), some (.ref 69), some (.int x2), some (.int 0), some (.int 0)] [] h (lm_kI K)) : lm_call (d + 1) 67 [.ref 59, .ref 69, .int x2] h (lm_kI K) := by
  refine ls_enter [some (.ref 59), some (.ref 69), some (.int x2), none, none] ml_67 (Nat.le_of_ble_eq_true rfl) rfl ?_
  refine ls_iconst 0 f_67_0 (by decide) ?_
  refine ls_istore_n [some (.ref 59), some (.ref 69), some (.int x2), some (.int 0), none] f_67_1 (Nat.le_of_ble_eq_true rfl) rfl ?_
  refine ls_iconst 0 f_67_2 (by decide) ?_
  refine ls_istore [some (.ref 59), some (.ref 69), some (.int x2), some (.int 0), some (.int 0)] f_67_3 (Nat.le_of_ble_eq_true rfl) rfl ?_
  exact hyp
theorem b_67y_5 {d : Nat} {h : lm_H} {K : Int32 → lm_H → Prop} (x2 : Int32) (x3 : Int32) (x4 : Int32) (hl : lm_Lay h) (hyp : (if x4 < (lm_i h 59 0) then (lm_in x4 5 False (if (lm_i h 69 x4.toNatClampNeg) = x2 then (lm_W (d) 67 5 [some (.ref 59), some (.ref 69), some (.int x2), some (.int (x3 ||| ((1 : Int32) <<< (x4 &&& 31)))), some (.int (x4 + 1))] [] h (lm_kI K)) else (lm_W (d) 67 5 [some (.ref 59), some (.ref 69), some (.int x2), some (.int x3), some (.int (x4 + 1))] [] h (lm_kI K)))) else (K x3 h))) : lm_W (d) 67 5 [some (.ref 59), some (.ref 69), some (.int x2), some (.int x3), some (.int x4)] [] h (lm_kI K) := by
  refine ls_iload f_67_5 rfl ?_
  refine ls_aload_n f_67_7 rfl ?_
  refine ls_getI f_67_8 p_67_9 hl S_59 ?_
  refine ls_icmp_ge 35 f_67_11 rfl hyp (fun _ hyp => ?_) (fun _ hyp => ?_)
  · refine ls_aload_n f_67_14 rfl ?_
    refine ls_iload f_67_15 rfl ?_
    refine ls_iald f_67_17 hl S_69 hyp (fun hyp => ?_)
    refine ls_iload_n f_67_18 rfl ?_
    refine ls_icmp_ne 29 f_67_19 rfl hyp (fun _ hyp => ?_) (fun _ hyp => ?_)
    · refine ls_iload_n f_67_22 rfl ?_
      refine ls_iconst 1 f_67_23 (by decide) ?_
      refine ls_iload f_67_24 rfl ?_
      refine ls_ishl ((1 : Int32) <<< (x4 &&& 31)) f_67_26 rfl ?_
      refine ls_ior (x3 ||| ((1 : Int32) <<< (x4 &&& 31))) f_67_27 rfl ?_
      refine ls_istore_n [some (.ref 59), some (.ref 69), some (.int x2), some (.int (x3 ||| ((1 : Int32) <<< (x4 &&& 31)))), some (.int x4)] f_67_28 (Nat.le_of_ble_eq_true rfl) rfl ?_
      refine ls_iinc (x4 + 1) [some (.ref 59), some (.ref 69), some (.int x2), some (.int (x3 ||| ((1 : Int32) <<< (x4 &&& 31)))), some (.int (x4 + 1))] f_67_29 rfl (Nat.le_of_ble_eq_true rfl) rfl rfl ?_
      refine ls_goto 5 f_67_32 rfl ?_
      exact hyp
    · refine ls_iinc (x4 + 1) [some (.ref 59), some (.ref 69), some (.int x2), some (.int x3), some (.int (x4 + 1))] f_67_29 rfl (Nat.le_of_ble_eq_true rfl) rfl rfl ?_
      refine ls_goto 5 f_67_32 rfl ?_
      exact hyp
  · refine ls_iload_n f_67_35 rfl ?_
    exact ls_ireturn f_67_36 rI_67 hyp
theorem e_67b {d : Nat} {h : lm_H} {K : Int32 → lm_H → Prop} (x2 : Int32) (hl : lm_Lay h) (hyp : lm_W (d) 67 5 [some (.ref 59), some (.ref 70), some (.int x2), some (.int 0), some (.int 0)] [] h (lm_kI K)) : lm_call (d + 1) 67 [.ref 59, .ref 70, .int x2] h (lm_kI K) := by
  refine ls_enter [some (.ref 59), some (.ref 70), some (.int x2), none, none] ml_67 (Nat.le_of_ble_eq_true rfl) rfl ?_
  refine ls_iconst 0 f_67_0 (by decide) ?_
  refine ls_istore_n [some (.ref 59), some (.ref 70), some (.int x2), some (.int 0), none] f_67_1 (Nat.le_of_ble_eq_true rfl) rfl ?_
  refine ls_iconst 0 f_67_2 (by decide) ?_
  refine ls_istore [some (.ref 59), some (.ref 70), some (.int x2), some (.int 0), some (.int 0)] f_67_3 (Nat.le_of_ble_eq_true rfl) rfl ?_
  exact hyp
theorem b_67b_5 {d : Nat} {h : lm_H} {K : Int32 → lm_H → Prop} (x2 : Int32) (x3 : Int32) (x4 : Int32) (hl : lm_Lay h) (hyp : (if x4 < (lm_i h 59 0) then (lm_in x4 5 False (if (lm_i h 70 x4.toNatClampNeg) = x2 then (lm_W (d) 67 5 [some (.ref 59), some (.ref 70), some (.int x2), some (.int (x3 ||| ((1 : Int32) <<< (x4 &&& 31)))), some (.int (x4 + 1))] [] h (lm_kI K)) else (lm_W (d) 67 5 [some (.ref 59), some (.ref 70), some (.int x2), some (.int x3), some (.int (x4 + 1))] [] h (lm_kI K)))) else (K x3 h))) : lm_W (d) 67 5 [some (.ref 59), some (.ref 70), some (.int x2), some (.int x3), some (.int x4)] [] h (lm_kI K) := by
  refine ls_iload f_67_5 rfl ?_
  refine ls_aload_n f_67_7 rfl ?_
  refine ls_getI f_67_8 p_67_9 hl S_59 ?_
  refine ls_icmp_ge 35 f_67_11 rfl hyp (fun _ hyp => ?_) (fun _ hyp => ?_)
  · refine ls_aload_n f_67_14 rfl ?_
    refine ls_iload f_67_15 rfl ?_
    refine ls_iald f_67_17 hl S_70 hyp (fun hyp => ?_)
    refine ls_iload_n f_67_18 rfl ?_
    refine ls_icmp_ne 29 f_67_19 rfl hyp (fun _ hyp => ?_) (fun _ hyp => ?_)
    · refine ls_iload_n f_67_22 rfl ?_
      refine ls_iconst 1 f_67_23 (by decide) ?_
      refine ls_iload f_67_24 rfl ?_
      refine ls_ishl ((1 : Int32) <<< (x4 &&& 31)) f_67_26 rfl ?_
      refine ls_ior (x3 ||| ((1 : Int32) <<< (x4 &&& 31))) f_67_27 rfl ?_
      refine ls_istore_n [some (.ref 59), some (.ref 70), some (.int x2), some (.int (x3 ||| ((1 : Int32) <<< (x4 &&& 31)))), some (.int x4)] f_67_28 (Nat.le_of_ble_eq_true rfl) rfl ?_
      refine ls_iinc (x4 + 1) [some (.ref 59), some (.ref 70), some (.int x2), some (.int (x3 ||| ((1 : Int32) <<< (x4 &&& 31)))), some (.int (x4 + 1))] f_67_29 rfl (Nat.le_of_ble_eq_true rfl) rfl rfl ?_
      refine ls_goto 5 f_67_32 rfl ?_
      exact hyp
    · refine ls_iinc (x4 + 1) [some (.ref 59), some (.ref 70), some (.int x2), some (.int x3), some (.int (x4 + 1))] f_67_29 rfl (Nat.le_of_ble_eq_true rfl) rfl rfl ?_
      refine ls_goto 5 f_67_32 rfl ?_
      exact hyp
  · refine ls_iload_n f_67_35 rfl ?_
    exact ls_ireturn f_67_36 rI_67 hyp
theorem e_68 {d : Nat} {h : lm_H} {K : Int32 → lm_H → Prop} (x1 : Int32) (x2 : Int32) (x3 : Int32) (hl : lm_Lay h) (hyp : lm_call (d + 1) 69 [.ref 21, .int x1, .int x3] h (lm_kI fun r2 h1 => lm_in ((x1 * 7) + x2) 35 False (K ((r2 * ((lm_i h1 22 (((x1 * 7) + x2).toNatClampNeg)) - (lm_i h1 21 3))) + (60 * (lm_i h1 21 3))) h1))) : lm_call (d + 2) 68 [.ref 21, .int x1, .int x2, .int x3] h (lm_kI K) := by
  refine ls_enter [some (.ref 21), some (.int x1), some (.int x2), some (.int x3)] ml_68 (Nat.le_of_ble_eq_true rfl) rfl ?_
  refine ls_aload_n f_68_0 rfl ?_
  refine ls_iload_n f_68_1 rfl ?_
  refine ls_iload_n f_68_2 rfl ?_
  refine ls_invV (a := 21) f_68_3 q_68_85 [.int x1, .int x3] [] rfl (Nat.le_of_ble_eq_true rfl) hl S_21 ow_69 ?_
  refine ls_call hyp hl (fun _ h1 hl1 hyp => ?_)
  refine ls_retI hyp (fun r2 hyp => ?_)
  refine ls_aload_n f_68_6 rfl ?_
  refine ls_getR f_68_7 p_68_24 hl1 S_21 F_21_4 ?_
  refine ls_iload_n f_68_10 rfl ?_
  refine ls_iload_n f_68_11 rfl ?_
  refine ls_invS f_68_12 q_68_55 [.int x1, .int x2] [.ref 22, .int r2] rfl (Nat.le_of_ble_eq_true rfl) ?_
  refine ls_enter [some (.int x1), some (.int x2)] ml_148 (Nat.le_of_ble_eq_true rfl) rfl ?_
  refine ls_iload_n f_148_0 rfl ?_
  refine ls_bipush 7 f_148_1 (by decide) ?_
  refine ls_imul (x1 * 7) f_148_3 rfl ?_
  refine ls_iload_n f_148_4 rfl ?_
  refine ls_iadd ((x1 * 7) + x2) f_148_5 rfl ?_
  refine ls_ireturn f_148_6 rI_148 ?_
  show lm_W _ _ _ _ [.int ((x1 * 7) + x2), .ref 22, .int r2] _ _
  refine ls_iald f_68_15 hl1 S_22 hyp (fun hyp => ?_)
  refine ls_aload_n f_68_16 rfl ?_
  refine ls_getI f_68_17 p_68_21 hl1 S_21 ?_
  refine ls_isub ((lm_i h1 22 (((x1 * 7) + x2).toNatClampNeg)) - (lm_i h1 21 3)) f_68_20 rfl ?_
  refine ls_imul (r2 * ((lm_i h1 22 (((x1 * 7) + x2).toNatClampNeg)) - (lm_i h1 21 3))) f_68_21 rfl ?_
  refine ls_bipush 60 f_68_22 (by decide) ?_
  refine ls_aload_n f_68_24 rfl ?_
  refine ls_getI f_68_25 p_68_21 hl1 S_21 ?_
  refine ls_imul (60 * (lm_i h1 21 3)) f_68_28 rfl ?_
  refine ls_iadd ((r2 * ((lm_i h1 22 (((x1 * 7) + x2).toNatClampNeg)) - (lm_i h1 21 3))) + (60 * (lm_i h1 21 3))) f_68_29 rfl ?_
  exact ls_ireturn f_68_30 rI_68 hyp
theorem e_68y {d : Nat} {h : lm_H} {K : Int32 → lm_H → Prop} (x1 : Int32) (x2 : Int32) (x3 : Int32) (hl : lm_Lay h) (hyp : lm_call (d + 1) 69 [.ref 59, .int x1, .int x3] h (lm_kI fun r2 h1 => lm_in ((x1 * 7) + x2) 35 False (K ((r2 * ((lm_i h1 60 (((x1 * 7) + x2).toNatClampNeg)) - (lm_i h1 59 3))) + (60 * (lm_i h1 59 3))) h1))) : lm_call (d + 2) 68 [.ref 59, .int x1, .int x2, .int x3] h (lm_kI K) := by
  refine ls_enter [some (.ref 59), some (.int x1), some (.int x2), some (.int x3)] ml_68 (Nat.le_of_ble_eq_true rfl) rfl ?_
  refine ls_aload_n f_68_0 rfl ?_
  refine ls_iload_n f_68_1 rfl ?_
  refine ls_iload_n f_68_2 rfl ?_
  refine ls_invV (a := 59) f_68_3 q_68_85 [.int x1, .int x3] [] rfl (Nat.le_of_ble_eq_true rfl) hl S_59 ow_69 ?_
  refine ls_call hyp hl (fun _ h1 hl1 hyp => ?_)
  refine ls_retI hyp (fun r2 hyp => ?_)
  refine ls_aload_n f_68_6 rfl ?_
  refine ls_getR f_68_7 p_68_24 hl1 S_59 F_59_4 ?_
  refine ls_iload_n f_68_10 rfl ?_
  refine ls_iload_n f_68_11 rfl ?_
  refine ls_invS f_68_12 q_68_55 [.int x1, .int x2] [.ref 60, .int r2] rfl (Nat.le_of_ble_eq_true rfl) ?_
  refine ls_enter [some (.int x1), some (.int x2)] ml_148 (Nat.le_of_ble_eq_true rfl) rfl ?_
  refine ls_iload_n f_148_0 rfl ?_
  refine ls_bipush 7 f_148_1 (by decide) ?_
  refine ls_imul (x1 * 7) f_148_3 rfl ?_
  refine ls_iload_n f_148_4 rfl ?_
  refine ls_iadd ((x1 * 7) + x2) f_148_5 rfl ?_
  refine ls_ireturn f_148_6 rI_148 ?_
  show lm_W _ _ _ _ [.int ((x1 * 7) + x2), .ref 60, .int r2] _ _
  refine ls_iald f_68_15 hl1 S_60 hyp (fun hyp => ?_)
  refine ls_aload_n f_68_16 rfl ?_
  refine ls_getI f_68_17 p_68_21 hl1 S_59 ?_
  refine ls_isub ((lm_i h1 60 (((x1 * 7) + x2).toNatClampNeg)) - (lm_i h1 59 3)) f_68_20 rfl ?_
  refine ls_imul (r2 * ((lm_i h1 60 (((x1 * 7) + x2).toNatClampNeg)) - (lm_i h1 59 3))) f_68_21 rfl ?_
  refine ls_bipush 60 f_68_22 (by decide) ?_
  refine ls_aload_n f_68_24 rfl ?_
  refine ls_getI f_68_25 p_68_21 hl1 S_59 ?_
  refine ls_imul (60 * (lm_i h1 59 3)) f_68_28 rfl ?_
  refine ls_iadd ((r2 * ((lm_i h1 60 (((x1 * 7) + x2).toNatClampNeg)) - (lm_i h1 59 3))) + (60 * (lm_i h1 59 3))) f_68_29 rfl ?_
  exact ls_ireturn f_68_30 rI_68 hyp
theorem e_68s {d : Nat} {h : lm_H} {K : Int32 → lm_H → Prop} (x1 : Int32) (x2 : Int32) (x3 : Int32) (hl : lm_Lay h) (hyp : lm_call (d + 1) 69 [.ref 32, .int x1, .int x3] h (lm_kI fun r2 h1 => lm_in ((x1 * 7) + x2) 35 False (K ((r2 * ((lm_i h1 33 (((x1 * 7) + x2).toNatClampNeg)) - (lm_i h1 32 3))) + (60 * (lm_i h1 32 3))) h1))) : lm_call (d + 2) 68 [.ref 32, .int x1, .int x2, .int x3] h (lm_kI K) := by
  refine ls_enter [some (.ref 32), some (.int x1), some (.int x2), some (.int x3)] ml_68 (Nat.le_of_ble_eq_true rfl) rfl ?_
  refine ls_aload_n f_68_0 rfl ?_
  refine ls_iload_n f_68_1 rfl ?_
  refine ls_iload_n f_68_2 rfl ?_
  refine ls_invV (a := 32) f_68_3 q_68_85 [.int x1, .int x3] [] rfl (Nat.le_of_ble_eq_true rfl) hl S_32 ow_69 ?_
  refine ls_call hyp hl (fun _ h1 hl1 hyp => ?_)
  refine ls_retI hyp (fun r2 hyp => ?_)
  refine ls_aload_n f_68_6 rfl ?_
  refine ls_getR f_68_7 p_68_24 hl1 S_32 F_32_4 ?_
  refine ls_iload_n f_68_10 rfl ?_
  refine ls_iload_n f_68_11 rfl ?_
  refine ls_invS f_68_12 q_68_55 [.int x1, .int x2] [.ref 33, .int r2] rfl (Nat.le_of_ble_eq_true rfl) ?_
  refine ls_enter [some (.int x1), some (.int x2)] ml_148 (Nat.le_of_ble_eq_true rfl) rfl ?_
  refine ls_iload_n f_148_0 rfl ?_
  refine ls_bipush 7 f_148_1 (by decide) ?_
  refine ls_imul (x1 * 7) f_148_3 rfl ?_
  refine ls_iload_n f_148_4 rfl ?_
  refine ls_iadd ((x1 * 7) + x2) f_148_5 rfl ?_
  refine ls_ireturn f_148_6 rI_148 ?_
  show lm_W _ _ _ _ [.int ((x1 * 7) + x2), .ref 33, .int r2] _ _
  refine ls_iald f_68_15 hl1 S_33 hyp (fun hyp => ?_)
  refine ls_aload_n f_68_16 rfl ?_
  refine ls_getI f_68_17 p_68_21 hl1 S_32 ?_
  refine ls_isub ((lm_i h1 33 (((x1 * 7) + x2).toNatClampNeg)) - (lm_i h1 32 3)) f_68_20 rfl ?_
  refine ls_imul (r2 * ((lm_i h1 33 (((x1 * 7) + x2).toNatClampNeg)) - (lm_i h1 32 3))) f_68_21 rfl ?_
  refine ls_bipush 60 f_68_22 (by decide) ?_
  refine ls_aload_n f_68_24 rfl ?_
  refine ls_getI f_68_25 p_68_21 hl1 S_32 ?_
  refine ls_imul (60 * (lm_i h1 32 3)) f_68_28 rfl ?_
  refine ls_iadd ((r2 * ((lm_i h1 33 (((x1 * 7) + x2).toNatClampNeg)) - (lm_i h1 32 3))) + (60 * (lm_i h1 32 3))) f_68_29 rfl ?_
  exact ls_ireturn f_68_30 rI_68 hyp
theorem e_69 {d : Nat} {h : lm_H} {K : Int32 → lm_H → Prop} (x1 : Int32) (x2 : Int32) (hl : lm_Lay h) (hyp : (if (lm_i h 21 2) = 1 then (lm_call (d) 262 [.int ((x2 &&& (((1 : Int32) <<< (x1 &&& 31)) ^^^ (-1))) &&& (((1 : Int32) <<< (x1 &&& 31)) - 1))] h (lm_kI fun r2 h1 => lm_call (d) 70 [.ref 21, .int r2] h1 (lm_kI fun r4 h3 => K r4 h3))) else (lm_call (d) 262 [.int (x2 &&& (((1 : Int32) <<< (x1 &&& 31)) ^^^ (-1)))] h (lm_kI fun r6 h5 => lm_call (d) 70 [.ref 21, .int r6] h5 (lm_kI fun r8 h7 => K r8 h7))))) : lm_call (d + 1) 69 [.ref 21, .int x1, .int x2] h (lm_kI K) := by
  refine ls_enter [some (.ref 21), some (.int x1), some (.int x2), none, none] ml_69 (Nat.le_of_ble_eq_true rfl) rfl ?_
  refine ls_iload_n f_69_0 rfl ?_
  refine ls_iconst 1 f_69_1 (by decide) ?_
  refine ls_iload_n f_69_2 rfl ?_
  refine ls_ishl ((1 : Int32) <<< (x1 &&& 31)) f_69_3 rfl ?_
  refine ls_iconst (-1) f_69_4 (by decide) ?_
  refine ls_ixor (((1 : Int32) <<< (x1 &&& 31)) ^^^ (-1)) f_69_5 rfl ?_
  refine ls_iand (x2 &&& (((1 : Int32) <<< (x1 &&& 31)) ^^^ (-1))) f_69_6 rfl ?_
  refine ls_istore_n [some (.ref 21), some (.int x1), some (.int x2), some (.int (x2 &&& (((1 : Int32) <<< (x1 &&& 31)) ^^^ (-1)))), none] f_69_7 (Nat.le_of_ble_eq_true rfl) rfl ?_
  refine ls_aload_n f_69_8 rfl ?_
  refine ls_getI f_69_9 p_69_18 hl S_21 ?_
  refine ls_iconst 1 f_69_12 (by decide) ?_
  refine ls_icmp_ne 26 f_69_13 rfl hyp (fun _ hyp => ?_) (fun _ hyp => ?_)
  · refine ls_iload_n f_69_16 rfl ?_
    refine ls_iconst 1 f_69_17 (by decide) ?_
    refine ls_iload_n f_69_18 rfl ?_
    refine ls_ishl ((1 : Int32) <<< (x1 &&& 31)) f_69_19 rfl ?_
    refine ls_iconst 1 f_69_20 (by decide) ?_
    refine ls_isub (((1 : Int32) <<< (x1 &&& 31)) - 1) f_69_21 rfl ?_
    refine ls_iand ((x2 &&& (((1 : Int32) <<< (x1 &&& 31)) ^^^ (-1))) &&& (((1 : Int32) <<< (x1 &&& 31)) - 1)) f_69_22 rfl ?_
    refine ls_goto 27 f_69_23 rfl ?_
    refine ls_istore [some (.ref 21), some (.int x1), some (.int x2), some (.int (x2 &&& (((1 : Int32) <<< (x1 &&& 31)) ^^^ (-1)))), some (.int ((x2 &&& (((1 : Int32) <<< (x1 &&& 31)) ^^^ (-1))) &&& (((1 : Int32) <<< (x1 &&& 31)) - 1)))] f_69_27 (Nat.le_of_ble_eq_true rfl) rfl ?_
    refine ls_aload_n f_69_29 rfl ?_
    refine ls_iload f_69_30 rfl ?_
    refine ls_invS f_69_32 q_69_88 [.int ((x2 &&& (((1 : Int32) <<< (x1 &&& 31)) ^^^ (-1))) &&& (((1 : Int32) <<< (x1 &&& 31)) - 1))] [.ref 21] rfl (Nat.le_of_ble_eq_true rfl) ?_
    refine ls_call hyp hl (fun _ h1 hl1 hyp => ?_)
    refine ls_retI hyp (fun r2 hyp => ?_)
    refine ls_invV (a := 21) f_69_35 q_69_94 [.int r2] [] rfl (Nat.le_of_ble_eq_true rfl) hl1 S_21 ow_70 ?_
    refine ls_call hyp hl1 (fun _ h3 hl3 hyp => ?_)
    refine ls_retI hyp (fun r4 hyp => ?_)
    exact ls_ireturn f_69_38 rI_69 hyp
  · refine ls_iload_n f_69_26 rfl ?_
    refine ls_istore [some (.ref 21), some (.int x1), some (.int x2), some (.int (x2 &&& (((1 : Int32) <<< (x1 &&& 31)) ^^^ (-1)))), some (.int (x2 &&& (((1 : Int32) <<< (x1 &&& 31)) ^^^ (-1))))] f_69_27 (Nat.le_of_ble_eq_true rfl) rfl ?_
    refine ls_aload_n f_69_29 rfl ?_
    refine ls_iload f_69_30 rfl ?_
    refine ls_invS f_69_32 q_69_88 [.int (x2 &&& (((1 : Int32) <<< (x1 &&& 31)) ^^^ (-1)))] [.ref 21] rfl (Nat.le_of_ble_eq_true rfl) ?_
    refine ls_call hyp hl (fun _ h5 hl5 hyp => ?_)
    refine ls_retI hyp (fun r6 hyp => ?_)
    refine ls_invV (a := 21) f_69_35 q_69_94 [.int r6] [] rfl (Nat.le_of_ble_eq_true rfl) hl5 S_21 ow_70 ?_
    refine ls_call hyp hl5 (fun _ h7 hl7 hyp => ?_)
    refine ls_retI hyp (fun r8 hyp => ?_)
    exact ls_ireturn f_69_38 rI_69 hyp
theorem e_69y {d : Nat} {h : lm_H} {K : Int32 → lm_H → Prop} (x1 : Int32) (x2 : Int32) (hl : lm_Lay h) (hyp : (if (lm_i h 59 2) = 1 then (lm_call (d) 262 [.int ((x2 &&& (((1 : Int32) <<< (x1 &&& 31)) ^^^ (-1))) &&& (((1 : Int32) <<< (x1 &&& 31)) - 1))] h (lm_kI fun r2 h1 => lm_call (d) 70 [.ref 59, .int r2] h1 (lm_kI fun r4 h3 => K r4 h3))) else (lm_call (d) 262 [.int (x2 &&& (((1 : Int32) <<< (x1 &&& 31)) ^^^ (-1)))] h (lm_kI fun r6 h5 => lm_call (d) 70 [.ref 59, .int r6] h5 (lm_kI fun r8 h7 => K r8 h7))))) : lm_call (d + 1) 69 [.ref 59, .int x1, .int x2] h (lm_kI K) := by
  refine ls_enter [some (.ref 59), some (.int x1), some (.int x2), none, none] ml_69 (Nat.le_of_ble_eq_true rfl) rfl ?_
  refine ls_iload_n f_69_0 rfl ?_
  refine ls_iconst 1 f_69_1 (by decide) ?_
  refine ls_iload_n f_69_2 rfl ?_
  refine ls_ishl ((1 : Int32) <<< (x1 &&& 31)) f_69_3 rfl ?_
  refine ls_iconst (-1) f_69_4 (by decide) ?_
  refine ls_ixor (((1 : Int32) <<< (x1 &&& 31)) ^^^ (-1)) f_69_5 rfl ?_
  refine ls_iand (x2 &&& (((1 : Int32) <<< (x1 &&& 31)) ^^^ (-1))) f_69_6 rfl ?_
  refine ls_istore_n [some (.ref 59), some (.int x1), some (.int x2), some (.int (x2 &&& (((1 : Int32) <<< (x1 &&& 31)) ^^^ (-1)))), none] f_69_7 (Nat.le_of_ble_eq_true rfl) rfl ?_
  refine ls_aload_n f_69_8 rfl ?_
  refine ls_getI f_69_9 p_69_18 hl S_59 ?_
  refine ls_iconst 1 f_69_12 (by decide) ?_
  refine ls_icmp_ne 26 f_69_13 rfl hyp (fun _ hyp => ?_) (fun _ hyp => ?_)
  · refine ls_iload_n f_69_16 rfl ?_
    refine ls_iconst 1 f_69_17 (by decide) ?_
    refine ls_iload_n f_69_18 rfl ?_
    refine ls_ishl ((1 : Int32) <<< (x1 &&& 31)) f_69_19 rfl ?_
    refine ls_iconst 1 f_69_20 (by decide) ?_
    refine ls_isub (((1 : Int32) <<< (x1 &&& 31)) - 1) f_69_21 rfl ?_
    refine ls_iand ((x2 &&& (((1 : Int32) <<< (x1 &&& 31)) ^^^ (-1))) &&& (((1 : Int32) <<< (x1 &&& 31)) - 1)) f_69_22 rfl ?_
    refine ls_goto 27 f_69_23 rfl ?_
    refine ls_istore [some (.ref 59), some (.int x1), some (.int x2), some (.int (x2 &&& (((1 : Int32) <<< (x1 &&& 31)) ^^^ (-1)))), some (.int ((x2 &&& (((1 : Int32) <<< (x1 &&& 31)) ^^^ (-1))) &&& (((1 : Int32) <<< (x1 &&& 31)) - 1)))] f_69_27 (Nat.le_of_ble_eq_true rfl) rfl ?_
    refine ls_aload_n f_69_29 rfl ?_
    refine ls_iload f_69_30 rfl ?_
    refine ls_invS f_69_32 q_69_88 [.int ((x2 &&& (((1 : Int32) <<< (x1 &&& 31)) ^^^ (-1))) &&& (((1 : Int32) <<< (x1 &&& 31)) - 1))] [.ref 59] rfl (Nat.le_of_ble_eq_true rfl) ?_
    refine ls_call hyp hl (fun _ h1 hl1 hyp => ?_)
    refine ls_retI hyp (fun r2 hyp => ?_)
    refine ls_invV (a := 59) f_69_35 q_69_94 [.int r2] [] rfl (Nat.le_of_ble_eq_true rfl) hl1 S_59 ow_70 ?_
    refine ls_call hyp hl1 (fun _ h3 hl3 hyp => ?_)
    refine ls_retI hyp (fun r4 hyp => ?_)
    exact ls_ireturn f_69_38 rI_69 hyp
  · refine ls_iload_n f_69_26 rfl ?_
    refine ls_istore [some (.ref 59), some (.int x1), some (.int x2), some (.int (x2 &&& (((1 : Int32) <<< (x1 &&& 31)) ^^^ (-1)))), some (.int (x2 &&& (((1 : Int32) <<< (x1 &&& 31)) ^^^ (-1))))] f_69_27 (Nat.le_of_ble_eq_true rfl) rfl ?_
    refine ls_aload_n f_69_29 rfl ?_
    refine ls_iload f_69_30 rfl ?_
    refine ls_invS f_69_32 q_69_88 [.int (x2 &&& (((1 : Int32) <<< (x1 &&& 31)) ^^^ (-1)))] [.ref 59] rfl (Nat.le_of_ble_eq_true rfl) ?_
    refine ls_call hyp hl (fun _ h5 hl5 hyp => ?_)
    refine ls_retI hyp (fun r6 hyp => ?_)
    refine ls_invV (a := 59) f_69_35 q_69_94 [.int r6] [] rfl (Nat.le_of_ble_eq_true rfl) hl5 S_59 ow_70 ?_
    refine ls_call hyp hl5 (fun _ h7 hl7 hyp => ?_)
    refine ls_retI hyp (fun r8 hyp => ?_)
    exact ls_ireturn f_69_38 rI_69 hyp
theorem e_69s {d : Nat} {h : lm_H} {K : Int32 → lm_H → Prop} (x1 : Int32) (x2 : Int32) (hl : lm_Lay h) (hyp : (if (lm_i h 32 2) = 1 then (lm_call (d) 262 [.int ((x2 &&& (((1 : Int32) <<< (x1 &&& 31)) ^^^ (-1))) &&& (((1 : Int32) <<< (x1 &&& 31)) - 1))] h (lm_kI fun r2 h1 => lm_call (d) 70 [.ref 32, .int r2] h1 (lm_kI fun r4 h3 => K r4 h3))) else (lm_call (d) 262 [.int (x2 &&& (((1 : Int32) <<< (x1 &&& 31)) ^^^ (-1)))] h (lm_kI fun r6 h5 => lm_call (d) 70 [.ref 32, .int r6] h5 (lm_kI fun r8 h7 => K r8 h7))))) : lm_call (d + 1) 69 [.ref 32, .int x1, .int x2] h (lm_kI K) := by
  refine ls_enter [some (.ref 32), some (.int x1), some (.int x2), none, none] ml_69 (Nat.le_of_ble_eq_true rfl) rfl ?_
  refine ls_iload_n f_69_0 rfl ?_
  refine ls_iconst 1 f_69_1 (by decide) ?_
  refine ls_iload_n f_69_2 rfl ?_
  refine ls_ishl ((1 : Int32) <<< (x1 &&& 31)) f_69_3 rfl ?_
  refine ls_iconst (-1) f_69_4 (by decide) ?_
  refine ls_ixor (((1 : Int32) <<< (x1 &&& 31)) ^^^ (-1)) f_69_5 rfl ?_
  refine ls_iand (x2 &&& (((1 : Int32) <<< (x1 &&& 31)) ^^^ (-1))) f_69_6 rfl ?_
  refine ls_istore_n [some (.ref 32), some (.int x1), some (.int x2), some (.int (x2 &&& (((1 : Int32) <<< (x1 &&& 31)) ^^^ (-1)))), none] f_69_7 (Nat.le_of_ble_eq_true rfl) rfl ?_
  refine ls_aload_n f_69_8 rfl ?_
  refine ls_getI f_69_9 p_69_18 hl S_32 ?_
  refine ls_iconst 1 f_69_12 (by decide) ?_
  refine ls_icmp_ne 26 f_69_13 rfl hyp (fun _ hyp => ?_) (fun _ hyp => ?_)
  · refine ls_iload_n f_69_16 rfl ?_
    refine ls_iconst 1 f_69_17 (by decide) ?_
    refine ls_iload_n f_69_18 rfl ?_
    refine ls_ishl ((1 : Int32) <<< (x1 &&& 31)) f_69_19 rfl ?_
    refine ls_iconst 1 f_69_20 (by decide) ?_
    refine ls_isub (((1 : Int32) <<< (x1 &&& 31)) - 1) f_69_21 rfl ?_
    refine ls_iand ((x2 &&& (((1 : Int32) <<< (x1 &&& 31)) ^^^ (-1))) &&& (((1 : Int32) <<< (x1 &&& 31)) - 1)) f_69_22 rfl ?_
    refine ls_goto 27 f_69_23 rfl ?_
    refine ls_istore [some (.ref 32), some (.int x1), some (.int x2), some (.int (x2 &&& (((1 : Int32) <<< (x1 &&& 31)) ^^^ (-1)))), some (.int ((x2 &&& (((1 : Int32) <<< (x1 &&& 31)) ^^^ (-1))) &&& (((1 : Int32) <<< (x1 &&& 31)) - 1)))] f_69_27 (Nat.le_of_ble_eq_true rfl) rfl ?_
    refine ls_aload_n f_69_29 rfl ?_
    refine ls_iload f_69_30 rfl ?_
    refine ls_invS f_69_32 q_69_88 [.int ((x2 &&& (((1 : Int32) <<< (x1 &&& 31)) ^^^ (-1))) &&& (((1 : Int32) <<< (x1 &&& 31)) - 1))] [.ref 32] rfl (Nat.le_of_ble_eq_true rfl) ?_
    refine ls_call hyp hl (fun _ h1 hl1 hyp => ?_)
    refine ls_retI hyp (fun r2 hyp => ?_)
    refine ls_invV (a := 32) f_69_35 q_69_94 [.int r2] [] rfl (Nat.le_of_ble_eq_true rfl) hl1 S_32 ow_70 ?_
    refine ls_call hyp hl1 (fun _ h3 hl3 hyp => ?_)
    refine ls_retI hyp (fun r4 hyp => ?_)
    exact ls_ireturn f_69_38 rI_69 hyp
  · refine ls_iload_n f_69_26 rfl ?_
    refine ls_istore [some (.ref 32), some (.int x1), some (.int x2), some (.int (x2 &&& (((1 : Int32) <<< (x1 &&& 31)) ^^^ (-1)))), some (.int (x2 &&& (((1 : Int32) <<< (x1 &&& 31)) ^^^ (-1))))] f_69_27 (Nat.le_of_ble_eq_true rfl) rfl ?_
    refine ls_aload_n f_69_29 rfl ?_
    refine ls_iload f_69_30 rfl ?_
    refine ls_invS f_69_32 q_69_88 [.int (x2 &&& (((1 : Int32) <<< (x1 &&& 31)) ^^^ (-1)))] [.ref 32] rfl (Nat.le_of_ble_eq_true rfl) ?_
    refine ls_call hyp hl (fun _ h5 hl5 hyp => ?_)
    refine ls_retI hyp (fun r6 hyp => ?_)
    refine ls_invV (a := 32) f_69_35 q_69_94 [.int r6] [] rfl (Nat.le_of_ble_eq_true rfl) hl5 S_32 ow_70 ?_
    refine ls_call hyp hl5 (fun _ h7 hl7 hyp => ?_)
    refine ls_retI hyp (fun r8 hyp => ?_)
    exact ls_ireturn f_69_38 rI_69 hyp
theorem e_70 {d : Nat} {h : lm_H} {K : Int32 → lm_H → Prop} (x1 : Int32) (hl : lm_Lay h) (hyp : (if 0 < x1 then (if (lm_i h 21 2) = 2 then ((¬ (x1 + 1) = 0) ∧ (K (60 / (x1 + 1)) h)) else (K 0 h)) else (K 60 h))) : lm_call (d + 1) 70 [.ref 21, .int x1] h (lm_kI K) := by
  refine ls_enter [some (.ref 21), some (.int x1)] ml_70 (Nat.le_of_ble_eq_true rfl) rfl ?_
  refine ls_iload_n f_70_0 rfl ?_
  refine ls_if_gt 7 f_70_1 rfl hyp (fun _ hyp => ?_) (fun _ hyp => ?_)
  · refine ls_aload_n f_70_7 rfl ?_
    refine ls_getI f_70_8 p_70_18 hl S_21 ?_
    refine ls_iconst 2 f_70_11 (by decide) ?_
    refine ls_icmp_ne 24 f_70_12 rfl hyp (fun _ hyp => ?_) (fun _ hyp => ?_)
    · refine ls_bipush 60 f_70_15 (by decide) ?_
      refine ls_iload_n f_70_17 rfl ?_
      refine ls_iconst 1 f_70_18 (by decide) ?_
      refine ls_iadd (x1 + 1) f_70_19 rfl ?_
      refine ls_idiv (60 / (x1 + 1)) f_70_20 hyp.1 rfl ?_
      replace hyp := hyp.2
      refine ls_goto 25 f_70_21 rfl ?_
      exact ls_ireturn f_70_25 rI_70 hyp
    · refine ls_iconst 0 f_70_24 (by decide) ?_
      exact ls_ireturn f_70_25 rI_70 hyp
  · refine ls_bipush 60 f_70_4 (by decide) ?_
    exact ls_ireturn f_70_6 rI_70 hyp
theorem e_70y {d : Nat} {h : lm_H} {K : Int32 → lm_H → Prop} (x1 : Int32) (hl : lm_Lay h) (hyp : (if 0 < x1 then (if (lm_i h 59 2) = 2 then ((¬ (x1 + 1) = 0) ∧ (K (60 / (x1 + 1)) h)) else (K 0 h)) else (K 60 h))) : lm_call (d + 1) 70 [.ref 59, .int x1] h (lm_kI K) := by
  refine ls_enter [some (.ref 59), some (.int x1)] ml_70 (Nat.le_of_ble_eq_true rfl) rfl ?_
  refine ls_iload_n f_70_0 rfl ?_
  refine ls_if_gt 7 f_70_1 rfl hyp (fun _ hyp => ?_) (fun _ hyp => ?_)
  · refine ls_aload_n f_70_7 rfl ?_
    refine ls_getI f_70_8 p_70_18 hl S_59 ?_
    refine ls_iconst 2 f_70_11 (by decide) ?_
    refine ls_icmp_ne 24 f_70_12 rfl hyp (fun _ hyp => ?_) (fun _ hyp => ?_)
    · refine ls_bipush 60 f_70_15 (by decide) ?_
      refine ls_iload_n f_70_17 rfl ?_
      refine ls_iconst 1 f_70_18 (by decide) ?_
      refine ls_iadd (x1 + 1) f_70_19 rfl ?_
      refine ls_idiv (60 / (x1 + 1)) f_70_20 hyp.1 rfl ?_
      replace hyp := hyp.2
      refine ls_goto 25 f_70_21 rfl ?_
      exact ls_ireturn f_70_25 rI_70 hyp
    · refine ls_iconst 0 f_70_24 (by decide) ?_
      exact ls_ireturn f_70_25 rI_70 hyp
  · refine ls_bipush 60 f_70_4 (by decide) ?_
    exact ls_ireturn f_70_6 rI_70 hyp
theorem e_70s {d : Nat} {h : lm_H} {K : Int32 → lm_H → Prop} (x1 : Int32) (hl : lm_Lay h) (hyp : (if 0 < x1 then (if (lm_i h 32 2) = 2 then ((¬ (x1 + 1) = 0) ∧ (K (60 / (x1 + 1)) h)) else (K 0 h)) else (K 60 h))) : lm_call (d + 1) 70 [.ref 32, .int x1] h (lm_kI K) := by
  refine ls_enter [some (.ref 32), some (.int x1)] ml_70 (Nat.le_of_ble_eq_true rfl) rfl ?_
  refine ls_iload_n f_70_0 rfl ?_
  refine ls_if_gt 7 f_70_1 rfl hyp (fun _ hyp => ?_) (fun _ hyp => ?_)
  · refine ls_aload_n f_70_7 rfl ?_
    refine ls_getI f_70_8 p_70_18 hl S_32 ?_
    refine ls_iconst 2 f_70_11 (by decide) ?_
    refine ls_icmp_ne 24 f_70_12 rfl hyp (fun _ hyp => ?_) (fun _ hyp => ?_)
    · refine ls_bipush 60 f_70_15 (by decide) ?_
      refine ls_iload_n f_70_17 rfl ?_
      refine ls_iconst 1 f_70_18 (by decide) ?_
      refine ls_iadd (x1 + 1) f_70_19 rfl ?_
      refine ls_idiv (60 / (x1 + 1)) f_70_20 hyp.1 rfl ?_
      replace hyp := hyp.2
      refine ls_goto 25 f_70_21 rfl ?_
      exact ls_ireturn f_70_25 rI_70 hyp
    · refine ls_iconst 0 f_70_24 (by decide) ?_
      exact ls_ireturn f_70_25 rI_70 hyp
  · refine ls_bipush 60 f_70_4 (by decide) ?_
    exact ls_ireturn f_70_6 rI_70 hyp
theorem e_71 {d : Nat} {h : lm_H} {K : Int32 → lm_H → Prop} (x2 : Int32) (x3 : Int32) (hl : lm_Lay h) (hyp : lm_call (d) 67 [.ref 21, .ref 73, .int x3] h (lm_kI fun r2 h1 => lm_call (d) 68 [.ref 21, .int x2, .int x3, .int r2] h1 (lm_kI fun r4 h3 => K r4 h3))) : lm_call (d + 1) 71 [.ref 21, .ref 73, .int x2, .int x3] h (lm_kI K) := by
  refine ls_enter [some (.ref 21), some (.ref 73), some (.int x2), some (.int x3)] ml_71 (Nat.le_of_ble_eq_true rfl) rfl ?_
  refine ls_aload_n f_71_0 rfl ?_
  refine ls_iload_n f_71_1 rfl ?_
  refine ls_iload_n f_71_2 rfl ?_
  refine ls_aload_n f_71_3 rfl ?_
  refine ls_aload_n f_71_4 rfl ?_
  refine ls_iload_n f_71_5 rfl ?_
  refine ls_invV (a := 21) f_71_6 q_71_97 [.ref 73, .int x3] [.int x3, .int x2, .ref 21] rfl (Nat.le_of_ble_eq_true rfl) hl S_21 ow_67 ?_
  refine ls_call hyp hl (fun _ h1 hl1 hyp => ?_)
  refine ls_retI hyp (fun r2 hyp => ?_)
  refine ls_invV (a := 21) f_71_9 q_71_101 [.int x2, .int x3, .int r2] [] rfl (Nat.le_of_ble_eq_true rfl) hl1 S_21 ow_68 ?_
  refine ls_call hyp hl1 (fun _ h3 hl3 hyp => ?_)
  refine ls_retI hyp (fun r4 hyp => ?_)
  exact ls_ireturn f_71_12 rI_71 hyp
theorem e_71t {d : Nat} {h : lm_H} {K : Int32 → lm_H → Prop} (x2 : Int32) (x3 : Int32) (hl : lm_Lay h) (hyp : lm_call (d) 67 [.ref 21, .ref 50, .int x3] h (lm_kI fun r2 h1 => lm_call (d) 68 [.ref 21, .int x2, .int x3, .int r2] h1 (lm_kI fun r4 h3 => K r4 h3))) : lm_call (d + 1) 71 [.ref 21, .ref 50, .int x2, .int x3] h (lm_kI K) := by
  refine ls_enter [some (.ref 21), some (.ref 50), some (.int x2), some (.int x3)] ml_71 (Nat.le_of_ble_eq_true rfl) rfl ?_
  refine ls_aload_n f_71_0 rfl ?_
  refine ls_iload_n f_71_1 rfl ?_
  refine ls_iload_n f_71_2 rfl ?_
  refine ls_aload_n f_71_3 rfl ?_
  refine ls_aload_n f_71_4 rfl ?_
  refine ls_iload_n f_71_5 rfl ?_
  refine ls_invV (a := 21) f_71_6 q_71_97 [.ref 50, .int x3] [.int x3, .int x2, .ref 21] rfl (Nat.le_of_ble_eq_true rfl) hl S_21 ow_67 ?_
  refine ls_call hyp hl (fun _ h1 hl1 hyp => ?_)
  refine ls_retI hyp (fun r2 hyp => ?_)
  refine ls_invV (a := 21) f_71_9 q_71_101 [.int x2, .int x3, .int r2] [] rfl (Nat.le_of_ble_eq_true rfl) hl1 S_21 ow_68 ?_
  refine ls_call hyp hl1 (fun _ h3 hl3 hyp => ?_)
  refine ls_retI hyp (fun r4 hyp => ?_)
  exact ls_ireturn f_71_12 rI_71 hyp
theorem e_71b {d : Nat} {h : lm_H} {K : Int32 → lm_H → Prop} (x2 : Int32) (x3 : Int32) (hl : lm_Lay h) (hyp : lm_call (d) 67 [.ref 59, .ref 70, .int x3] h (lm_kI fun r2 h1 => lm_call (d) 68 [.ref 59, .int x2, .int x3, .int r2] h1 (lm_kI fun r4 h3 => K r4 h3))) : lm_call (d + 1) 71 [.ref 59, .ref 70, .int x2, .int x3] h (lm_kI K) := by
  refine ls_enter [some (.ref 59), some (.ref 70), some (.int x2), some (.int x3)] ml_71 (Nat.le_of_ble_eq_true rfl) rfl ?_
  refine ls_aload_n f_71_0 rfl ?_
  refine ls_iload_n f_71_1 rfl ?_
  refine ls_iload_n f_71_2 rfl ?_
  refine ls_aload_n f_71_3 rfl ?_
  refine ls_aload_n f_71_4 rfl ?_
  refine ls_iload_n f_71_5 rfl ?_
  refine ls_invV (a := 59) f_71_6 q_71_97 [.ref 70, .int x3] [.int x3, .int x2, .ref 59] rfl (Nat.le_of_ble_eq_true rfl) hl S_59 ow_67 ?_
  refine ls_call hyp hl (fun _ h1 hl1 hyp => ?_)
  refine ls_retI hyp (fun r2 hyp => ?_)
  refine ls_invV (a := 59) f_71_9 q_71_101 [.int x2, .int x3, .int r2] [] rfl (Nat.le_of_ble_eq_true rfl) hl1 S_59 ow_68 ?_
  refine ls_call hyp hl1 (fun _ h3 hl3 hyp => ?_)
  refine ls_retI hyp (fun r4 hyp => ?_)
  exact ls_ireturn f_71_12 rI_71 hyp
theorem e_72 {d : Nat} {h : lm_H} {K : Int32 → lm_H → Prop} (x2 : Int32) (hl : lm_Lay h) (hyp : lm_W (d + 1) 72 8 [some (.ref 21), some (.ref 73), some (.int x2), some (.int 0), some (.int 0), some (.int 0), none, none] [] h (lm_kI K)) : lm_call (d + 2) 72 [.ref 21, .ref 73, .int x2] h (lm_kI K) := by
  refine ls_enter [some (.ref 21), some (.ref 73), some (.int x2), none, none, none, none, none] ml_72 (Nat.le_of_ble_eq_true rfl) rfl ?_
  refine ls_iconst 0 f_72_0 (by decide) ?_
  refine ls_istore_n [some (.ref 21), some (.ref 73), some (.int x2), some (.int 0), none, none, none, none] f_72_1 (Nat.le_of_ble_eq_true rfl) rfl ?_
  refine ls_iconst 0 f_72_2 (by decide) ?_
  refine ls_istore [some (.ref 21), some (.ref 73), some (.int x2), some (.int 0), some (.int 0), none, none, none] f_72_3 (Nat.le_of_ble_eq_true rfl) rfl ?_
  refine ls_iconst 0 f_72_5 (by decide) ?_
  refine ls_istore [some (.ref 21), some (.ref 73), some (.int x2), some (.int 0), some (.int 0), some (.int 0), none, none] f_72_6 (Nat.le_of_ble_eq_true rfl) rfl ?_
  exact hyp
theorem b_72_8 {d : Nat} {h : lm_H} {K : Int32 → lm_H → Prop} (x2 : Int32) (x3 : Int32) (x4 : Int32) (x5 : Int32) (hl : lm_Lay h) (hyp : lm_in x2 5 False (if x5 < (lm_i h 25 x2.toNatClampNeg) then (lm_in ((x2 * 7) + x5) 35 False (lm_call (d + 1) 71 [.ref 21, .ref 73, .int x2, .int (lm_i h 24 (((x2 * 7) + x5).toNatClampNeg))] h (lm_kI fun r2 h1 => (if x3 = 0 then (lm_W (d + 1) 72 8 [some (.ref 21), some (.ref 73), some (.int x2), some (.int ((1 : Int32) <<< ((lm_i h 24 (((x2 * 7) + x5).toNatClampNeg)) &&& 31))), some (.int r2), some (.int (x5 + 1)), none, none] [] h1 (lm_kI K)) else (if x4 < r2 then (lm_W (d + 1) 72 8 [some (.ref 21), some (.ref 73), some (.int x2), some (.int ((1 : Int32) <<< ((lm_i h 24 (((x2 * 7) + x5).toNatClampNeg)) &&& 31))), some (.int r2), some (.int (x5 + 1)), none, none] [] h1 (lm_kI K)) else (if r2 = x4 then (lm_W (d + 1) 72 8 [some (.ref 21), some (.ref 73), some (.int x2), some (.int (x3 ||| ((1 : Int32) <<< ((lm_i h 24 (((x2 * 7) + x5).toNatClampNeg)) &&& 31)))), some (.int x4), some (.int (x5 + 1)), none, none] [] h1 (lm_kI K)) else (lm_W (d + 1) 72 8 [some (.ref 21), some (.ref 73), some (.int x2), some (.int x3), some (.int x4), some (.int (x5 + 1)), none, none] [] h1 (lm_kI K)))))))) else (K x3 h))) : lm_W (d + 1) 72 8 [some (.ref 21), some (.ref 73), some (.int x2), some (.int x3), some (.int x4), some (.int x5), none, none] [] h (lm_kI K) := by
  refine ls_iload f_72_8 rfl ?_
  refine ls_aload_n f_72_10 rfl ?_
  refine ls_getR f_72_11 p_72_35 hl S_21 F_21_7 ?_
  refine ls_iload_n f_72_14 rfl ?_
  refine ls_iald f_72_15 hl S_25 hyp (fun hyp => ?_)
  refine ls_icmp_ge 85 f_72_16 rfl hyp (fun _ hyp => ?_) (fun _ hyp => ?_)
  · refine ls_aload_n f_72_19 rfl ?_
    refine ls_getR f_72_20 p_72_32 hl S_21 F_21_6 ?_
    refine ls_iload_n f_72_23 rfl ?_
    refine ls_iload f_72_24 rfl ?_
    refine ls_invS f_72_26 q_72_55 [.int x2, .int x5] [.ref 24] rfl (Nat.le_of_ble_eq_true rfl) ?_
    refine ls_enter [some (.int x2), some (.int x5)] ml_148 (Nat.le_of_ble_eq_true rfl) rfl ?_
    refine ls_iload_n f_148_0 rfl ?_
    refine ls_bipush 7 f_148_1 (by decide) ?_
    refine ls_imul (x2 * 7) f_148_3 rfl ?_
    refine ls_iload_n f_148_4 rfl ?_
    refine ls_iadd ((x2 * 7) + x5) f_148_5 rfl ?_
    refine ls_ireturn f_148_6 rI_148 ?_
    show lm_W _ _ _ _ [.int ((x2 * 7) + x5), .ref 24] _ _
    refine ls_iald f_72_29 hl S_24 hyp (fun hyp => ?_)
    refine ls_istore [some (.ref 21), some (.ref 73), some (.int x2), some (.int x3), some (.int x4), some (.int x5), some (.int (lm_i h 24 (((x2 * 7) + x5).toNatClampNeg))), none] f_72_30 (Nat.le_of_ble_eq_true rfl) rfl ?_
    refine ls_aload_n f_72_32 rfl ?_
    refine ls_aload_n f_72_33 rfl ?_
    refine ls_iload_n f_72_34 rfl ?_
    refine ls_iload f_72_35 rfl ?_
    refine ls_invV (a := 21) f_72_37 q_72_105 [.ref 73, .int x2, .int (lm_i h 24 (((x2 * 7) + x5).toNatClampNeg))] [] rfl (Nat.le_of_ble_eq_true rfl) hl S_21 ow_71 ?_
    refine ls_call hyp hl (fun _ h1 hl1 hyp => ?_)
    refine ls_retI hyp (fun r2 hyp => ?_)
    refine ls_istore [some (.ref 21), some (.ref 73), some (.int x2), some (.int x3), some (.int x4), some (.int x5), some (.int (lm_i h 24 (((x2 * 7) + x5).toNatClampNeg))), some (.int r2)] f_72_40 (Nat.le_of_ble_eq_true rfl) rfl ?_
    refine ls_iload_n f_72_42 rfl ?_
    refine ls_if_eq 53 f_72_43 rfl hyp (fun _ hyp => ?_) (fun _ hyp => ?_)
    · refine ls_iconst 1 f_72_53 (by decide) ?_
      refine ls_iload f_72_54 rfl ?_
      refine ls_ishl ((1 : Int32) <<< ((lm_i h 24 (((x2 * 7) + x5).toNatClampNeg)) &&& 31)) f_72_56 rfl ?_
      refine ls_istore_n [some (.ref 21), some (.ref 73), some (.int x2), some (.int ((1 : Int32) <<< ((lm_i h 24 (((x2 * 7) + x5).toNatClampNeg)) &&& 31))), some (.int x4), some (.int x5), some (.int (lm_i h 24 (((x2 * 7) + x5).toNatClampNeg))), some (.int r2)] f_72_57 (Nat.le_of_ble_eq_true rfl) rfl ?_
      refine ls_iload f_72_58 rfl ?_
      refine ls_istore [some (.ref 21), some (.ref 73), some (.int x2), some (.int ((1 : Int32) <<< ((lm_i h 24 (((x2 * 7) + x5).toNatClampNeg)) &&& 31))), some (.int r2), some (.int x5), some (.int (lm_i h 24 (((x2 * 7) + x5).toNatClampNeg))), some (.int r2)] f_72_60 (Nat.le_of_ble_eq_true rfl) rfl ?_
      refine ls_goto 79 f_72_62 rfl ?_
      refine ls_iinc (x5 + 1) [some (.ref 21), some (.ref 73), some (.int x2), some (.int ((1 : Int32) <<< ((lm_i h 24 (((x2 * 7) + x5).toNatClampNeg)) &&& 31))), some (.int r2), some (.int (x5 + 1)), some (.int (lm_i h 24 (((x2 * 7) + x5).toNatClampNeg))), some (.int r2)] f_72_79 rfl (Nat.le_of_ble_eq_true rfl) rfl rfl ?_
      refine ls_goto 8 f_72_82 rfl ?_
      exact ls_mask [true, true, true, true, true, true, false, false] [some (.ref 21), some (.ref 73), some (.int x2), some (.int ((1 : Int32) <<< ((lm_i h 24 (((x2 * 7) + x5).toNatClampNeg)) &&& 31))), some (.int r2), some (.int (x5 + 1)), none, none] rfl hyp
    · refine ls_iload f_72_46 rfl ?_
      refine ls_iload f_72_48 rfl ?_
      refine ls_icmp_le 65 f_72_50 rfl hyp (fun _ hyp => ?_) (fun _ hyp => ?_)
      · refine ls_iconst 1 f_72_53 (by decide) ?_
        refine ls_iload f_72_54 rfl ?_
        refine ls_ishl ((1 : Int32) <<< ((lm_i h 24 (((x2 * 7) + x5).toNatClampNeg)) &&& 31)) f_72_56 rfl ?_
        refine ls_istore_n [some (.ref 21), some (.ref 73), some (.int x2), some (.int ((1 : Int32) <<< ((lm_i h 24 (((x2 * 7) + x5).toNatClampNeg)) &&& 31))), some (.int x4), some (.int x5), some (.int (lm_i h 24 (((x2 * 7) + x5).toNatClampNeg))), some (.int r2)] f_72_57 (Nat.le_of_ble_eq_true rfl) rfl ?_
        refine ls_iload f_72_58 rfl ?_
        refine ls_istore [some (.ref 21), some (.ref 73), some (.int x2), some (.int ((1 : Int32) <<< ((lm_i h 24 (((x2 * 7) + x5).toNatClampNeg)) &&& 31))), some (.int r2), some (.int x5), some (.int (lm_i h 24 (((x2 * 7) + x5).toNatClampNeg))), some (.int r2)] f_72_60 (Nat.le_of_ble_eq_true rfl) rfl ?_
        refine ls_goto 79 f_72_62 rfl ?_
        refine ls_iinc (x5 + 1) [some (.ref 21), some (.ref 73), some (.int x2), some (.int ((1 : Int32) <<< ((lm_i h 24 (((x2 * 7) + x5).toNatClampNeg)) &&& 31))), some (.int r2), some (.int (x5 + 1)), some (.int (lm_i h 24 (((x2 * 7) + x5).toNatClampNeg))), some (.int r2)] f_72_79 rfl (Nat.le_of_ble_eq_true rfl) rfl rfl ?_
        refine ls_goto 8 f_72_82 rfl ?_
        exact ls_mask [true, true, true, true, true, true, false, false] [some (.ref 21), some (.ref 73), some (.int x2), some (.int ((1 : Int32) <<< ((lm_i h 24 (((x2 * 7) + x5).toNatClampNeg)) &&& 31))), some (.int r2), some (.int (x5 + 1)), none, none] rfl hyp
      · refine ls_iload f_72_65 rfl ?_
        refine ls_iload f_72_67 rfl ?_
        refine ls_icmp_ne 79 f_72_69 rfl hyp (fun _ hyp => ?_) (fun _ hyp => ?_)
        · refine ls_iload_n f_72_72 rfl ?_
          refine ls_iconst 1 f_72_73 (by decide) ?_
          refine ls_iload f_72_74 rfl ?_
          refine ls_ishl ((1 : Int32) <<< ((lm_i h 24 (((x2 * 7) + x5).toNatClampNeg)) &&& 31)) f_72_76 rfl ?_
          refine ls_ior (x3 ||| ((1 : Int32) <<< ((lm_i h 24 (((x2 * 7) + x5).toNatClampNeg)) &&& 31))) f_72_77 rfl ?_
          refine ls_istore_n [some (.ref 21), some (.ref 73), some (.int x2), some (.int (x3 ||| ((1 : Int32) <<< ((lm_i h 24 (((x2 * 7) + x5).toNatClampNeg)) &&& 31)))), some (.int x4), some (.int x5), some (.int (lm_i h 24 (((x2 * 7) + x5).toNatClampNeg))), some (.int r2)] f_72_78 (Nat.le_of_ble_eq_true rfl) rfl ?_
          refine ls_iinc (x5 + 1) [some (.ref 21), some (.ref 73), some (.int x2), some (.int (x3 ||| ((1 : Int32) <<< ((lm_i h 24 (((x2 * 7) + x5).toNatClampNeg)) &&& 31)))), some (.int x4), some (.int (x5 + 1)), some (.int (lm_i h 24 (((x2 * 7) + x5).toNatClampNeg))), some (.int r2)] f_72_79 rfl (Nat.le_of_ble_eq_true rfl) rfl rfl ?_
          refine ls_goto 8 f_72_82 rfl ?_
          exact ls_mask [true, true, true, true, true, true, false, false] [some (.ref 21), some (.ref 73), some (.int x2), some (.int (x3 ||| ((1 : Int32) <<< ((lm_i h 24 (((x2 * 7) + x5).toNatClampNeg)) &&& 31)))), some (.int x4), some (.int (x5 + 1)), none, none] rfl hyp
        · refine ls_iinc (x5 + 1) [some (.ref 21), some (.ref 73), some (.int x2), some (.int x3), some (.int x4), some (.int (x5 + 1)), some (.int (lm_i h 24 (((x2 * 7) + x5).toNatClampNeg))), some (.int r2)] f_72_79 rfl (Nat.le_of_ble_eq_true rfl) rfl rfl ?_
          refine ls_goto 8 f_72_82 rfl ?_
          exact ls_mask [true, true, true, true, true, true, false, false] [some (.ref 21), some (.ref 73), some (.int x2), some (.int x3), some (.int x4), some (.int (x5 + 1)), none, none] rfl hyp
  · refine ls_iload_n f_72_85 rfl ?_
    exact ls_ireturn f_72_86 rI_72 hyp
theorem e_72t {d : Nat} {h : lm_H} {K : Int32 → lm_H → Prop} (x2 : Int32) (hl : lm_Lay h) (hyp : lm_W (d + 1) 72 8 [some (.ref 21), some (.ref 50), some (.int x2), some (.int 0), some (.int 0), some (.int 0), none, none] [] h (lm_kI K)) : lm_call (d + 2) 72 [.ref 21, .ref 50, .int x2] h (lm_kI K) := by
  refine ls_enter [some (.ref 21), some (.ref 50), some (.int x2), none, none, none, none, none] ml_72 (Nat.le_of_ble_eq_true rfl) rfl ?_
  refine ls_iconst 0 f_72_0 (by decide) ?_
  refine ls_istore_n [some (.ref 21), some (.ref 50), some (.int x2), some (.int 0), none, none, none, none] f_72_1 (Nat.le_of_ble_eq_true rfl) rfl ?_
  refine ls_iconst 0 f_72_2 (by decide) ?_
  refine ls_istore [some (.ref 21), some (.ref 50), some (.int x2), some (.int 0), some (.int 0), none, none, none] f_72_3 (Nat.le_of_ble_eq_true rfl) rfl ?_
  refine ls_iconst 0 f_72_5 (by decide) ?_
  refine ls_istore [some (.ref 21), some (.ref 50), some (.int x2), some (.int 0), some (.int 0), some (.int 0), none, none] f_72_6 (Nat.le_of_ble_eq_true rfl) rfl ?_
  exact hyp
theorem b_72t_8 {d : Nat} {h : lm_H} {K : Int32 → lm_H → Prop} (x2 : Int32) (x3 : Int32) (x4 : Int32) (x5 : Int32) (hl : lm_Lay h) (hyp : lm_in x2 5 False (if x5 < (lm_i h 25 x2.toNatClampNeg) then (lm_in ((x2 * 7) + x5) 35 False (lm_call (d + 1) 71 [.ref 21, .ref 50, .int x2, .int (lm_i h 24 (((x2 * 7) + x5).toNatClampNeg))] h (lm_kI fun r2 h1 => (if x3 = 0 then (lm_W (d + 1) 72 8 [some (.ref 21), some (.ref 50), some (.int x2), some (.int ((1 : Int32) <<< ((lm_i h 24 (((x2 * 7) + x5).toNatClampNeg)) &&& 31))), some (.int r2), some (.int (x5 + 1)), none, none] [] h1 (lm_kI K)) else (if x4 < r2 then (lm_W (d + 1) 72 8 [some (.ref 21), some (.ref 50), some (.int x2), some (.int ((1 : Int32) <<< ((lm_i h 24 (((x2 * 7) + x5).toNatClampNeg)) &&& 31))), some (.int r2), some (.int (x5 + 1)), none, none] [] h1 (lm_kI K)) else (if r2 = x4 then (lm_W (d + 1) 72 8 [some (.ref 21), some (.ref 50), some (.int x2), some (.int (x3 ||| ((1 : Int32) <<< ((lm_i h 24 (((x2 * 7) + x5).toNatClampNeg)) &&& 31)))), some (.int x4), some (.int (x5 + 1)), none, none] [] h1 (lm_kI K)) else (lm_W (d + 1) 72 8 [some (.ref 21), some (.ref 50), some (.int x2), some (.int x3), some (.int x4), some (.int (x5 + 1)), none, none] [] h1 (lm_kI K)))))))) else (K x3 h))) : lm_W (d + 1) 72 8 [some (.ref 21), some (.ref 50), some (.int x2), some (.int x3), some (.int x4), some (.int x5), none, none] [] h (lm_kI K) := by
  refine ls_iload f_72_8 rfl ?_
  refine ls_aload_n f_72_10 rfl ?_
  refine ls_getR f_72_11 p_72_35 hl S_21 F_21_7 ?_
  refine ls_iload_n f_72_14 rfl ?_
  refine ls_iald f_72_15 hl S_25 hyp (fun hyp => ?_)
  refine ls_icmp_ge 85 f_72_16 rfl hyp (fun _ hyp => ?_) (fun _ hyp => ?_)
  · refine ls_aload_n f_72_19 rfl ?_
    refine ls_getR f_72_20 p_72_32 hl S_21 F_21_6 ?_
    refine ls_iload_n f_72_23 rfl ?_
    refine ls_iload f_72_24 rfl ?_
    refine ls_invS f_72_26 q_72_55 [.int x2, .int x5] [.ref 24] rfl (Nat.le_of_ble_eq_true rfl) ?_
    refine ls_enter [some (.int x2), some (.int x5)] ml_148 (Nat.le_of_ble_eq_true rfl) rfl ?_
    refine ls_iload_n f_148_0 rfl ?_
    refine ls_bipush 7 f_148_1 (by decide) ?_
    refine ls_imul (x2 * 7) f_148_3 rfl ?_
    refine ls_iload_n f_148_4 rfl ?_
    refine ls_iadd ((x2 * 7) + x5) f_148_5 rfl ?_
    refine ls_ireturn f_148_6 rI_148 ?_
    show lm_W _ _ _ _ [.int ((x2 * 7) + x5), .ref 24] _ _
    refine ls_iald f_72_29 hl S_24 hyp (fun hyp => ?_)
    refine ls_istore [some (.ref 21), some (.ref 50), some (.int x2), some (.int x3), some (.int x4), some (.int x5), some (.int (lm_i h 24 (((x2 * 7) + x5).toNatClampNeg))), none] f_72_30 (Nat.le_of_ble_eq_true rfl) rfl ?_
    refine ls_aload_n f_72_32 rfl ?_
    refine ls_aload_n f_72_33 rfl ?_
    refine ls_iload_n f_72_34 rfl ?_
    refine ls_iload f_72_35 rfl ?_
    refine ls_invV (a := 21) f_72_37 q_72_105 [.ref 50, .int x2, .int (lm_i h 24 (((x2 * 7) + x5).toNatClampNeg))] [] rfl (Nat.le_of_ble_eq_true rfl) hl S_21 ow_71 ?_
    refine ls_call hyp hl (fun _ h1 hl1 hyp => ?_)
    refine ls_retI hyp (fun r2 hyp => ?_)
    refine ls_istore [some (.ref 21), some (.ref 50), some (.int x2), some (.int x3), some (.int x4), some (.int x5), some (.int (lm_i h 24 (((x2 * 7) + x5).toNatClampNeg))), some (.int r2)] f_72_40 (Nat.le_of_ble_eq_true rfl) rfl ?_
    refine ls_iload_n f_72_42 rfl ?_
    refine ls_if_eq 53 f_72_43 rfl hyp (fun _ hyp => ?_) (fun _ hyp => ?_)
    · refine ls_iconst 1 f_72_53 (by decide) ?_
      refine ls_iload f_72_54 rfl ?_
      refine ls_ishl ((1 : Int32) <<< ((lm_i h 24 (((x2 * 7) + x5).toNatClampNeg)) &&& 31)) f_72_56 rfl ?_
      refine ls_istore_n [some (.ref 21), some (.ref 50), some (.int x2), some (.int ((1 : Int32) <<< ((lm_i h 24 (((x2 * 7) + x5).toNatClampNeg)) &&& 31))), some (.int x4), some (.int x5), some (.int (lm_i h 24 (((x2 * 7) + x5).toNatClampNeg))), some (.int r2)] f_72_57 (Nat.le_of_ble_eq_true rfl) rfl ?_
      refine ls_iload f_72_58 rfl ?_
      refine ls_istore [some (.ref 21), some (.ref 50), some (.int x2), some (.int ((1 : Int32) <<< ((lm_i h 24 (((x2 * 7) + x5).toNatClampNeg)) &&& 31))), some (.int r2), some (.int x5), some (.int (lm_i h 24 (((x2 * 7) + x5).toNatClampNeg))), some (.int r2)] f_72_60 (Nat.le_of_ble_eq_true rfl) rfl ?_
      refine ls_goto 79 f_72_62 rfl ?_
      refine ls_iinc (x5 + 1) [some (.ref 21), some (.ref 50), some (.int x2), some (.int ((1 : Int32) <<< ((lm_i h 24 (((x2 * 7) + x5).toNatClampNeg)) &&& 31))), some (.int r2), some (.int (x5 + 1)), some (.int (lm_i h 24 (((x2 * 7) + x5).toNatClampNeg))), some (.int r2)] f_72_79 rfl (Nat.le_of_ble_eq_true rfl) rfl rfl ?_
      refine ls_goto 8 f_72_82 rfl ?_
      exact ls_mask [true, true, true, true, true, true, false, false] [some (.ref 21), some (.ref 50), some (.int x2), some (.int ((1 : Int32) <<< ((lm_i h 24 (((x2 * 7) + x5).toNatClampNeg)) &&& 31))), some (.int r2), some (.int (x5 + 1)), none, none] rfl hyp
    · refine ls_iload f_72_46 rfl ?_
      refine ls_iload f_72_48 rfl ?_
      refine ls_icmp_le 65 f_72_50 rfl hyp (fun _ hyp => ?_) (fun _ hyp => ?_)
      · refine ls_iconst 1 f_72_53 (by decide) ?_
        refine ls_iload f_72_54 rfl ?_
        refine ls_ishl ((1 : Int32) <<< ((lm_i h 24 (((x2 * 7) + x5).toNatClampNeg)) &&& 31)) f_72_56 rfl ?_
        refine ls_istore_n [some (.ref 21), some (.ref 50), some (.int x2), some (.int ((1 : Int32) <<< ((lm_i h 24 (((x2 * 7) + x5).toNatClampNeg)) &&& 31))), some (.int x4), some (.int x5), some (.int (lm_i h 24 (((x2 * 7) + x5).toNatClampNeg))), some (.int r2)] f_72_57 (Nat.le_of_ble_eq_true rfl) rfl ?_
        refine ls_iload f_72_58 rfl ?_
        refine ls_istore [some (.ref 21), some (.ref 50), some (.int x2), some (.int ((1 : Int32) <<< ((lm_i h 24 (((x2 * 7) + x5).toNatClampNeg)) &&& 31))), some (.int r2), some (.int x5), some (.int (lm_i h 24 (((x2 * 7) + x5).toNatClampNeg))), some (.int r2)] f_72_60 (Nat.le_of_ble_eq_true rfl) rfl ?_
        refine ls_goto 79 f_72_62 rfl ?_
        refine ls_iinc (x5 + 1) [some (.ref 21), some (.ref 50), some (.int x2), some (.int ((1 : Int32) <<< ((lm_i h 24 (((x2 * 7) + x5).toNatClampNeg)) &&& 31))), some (.int r2), some (.int (x5 + 1)), some (.int (lm_i h 24 (((x2 * 7) + x5).toNatClampNeg))), some (.int r2)] f_72_79 rfl (Nat.le_of_ble_eq_true rfl) rfl rfl ?_
        refine ls_goto 8 f_72_82 rfl ?_
        exact ls_mask [true, true, true, true, true, true, false, false] [some (.ref 21), some (.ref 50), some (.int x2), some (.int ((1 : Int32) <<< ((lm_i h 24 (((x2 * 7) + x5).toNatClampNeg)) &&& 31))), some (.int r2), some (.int (x5 + 1)), none, none] rfl hyp
      · refine ls_iload f_72_65 rfl ?_
        refine ls_iload f_72_67 rfl ?_
        refine ls_icmp_ne 79 f_72_69 rfl hyp (fun _ hyp => ?_) (fun _ hyp => ?_)
        · refine ls_iload_n f_72_72 rfl ?_
          refine ls_iconst 1 f_72_73 (by decide) ?_
          refine ls_iload f_72_74 rfl ?_
          refine ls_ishl ((1 : Int32) <<< ((lm_i h 24 (((x2 * 7) + x5).toNatClampNeg)) &&& 31)) f_72_76 rfl ?_
          refine ls_ior (x3 ||| ((1 : Int32) <<< ((lm_i h 24 (((x2 * 7) + x5).toNatClampNeg)) &&& 31))) f_72_77 rfl ?_
          refine ls_istore_n [some (.ref 21), some (.ref 50), some (.int x2), some (.int (x3 ||| ((1 : Int32) <<< ((lm_i h 24 (((x2 * 7) + x5).toNatClampNeg)) &&& 31)))), some (.int x4), some (.int x5), some (.int (lm_i h 24 (((x2 * 7) + x5).toNatClampNeg))), some (.int r2)] f_72_78 (Nat.le_of_ble_eq_true rfl) rfl ?_
          refine ls_iinc (x5 + 1) [some (.ref 21), some (.ref 50), some (.int x2), some (.int (x3 ||| ((1 : Int32) <<< ((lm_i h 24 (((x2 * 7) + x5).toNatClampNeg)) &&& 31)))), some (.int x4), some (.int (x5 + 1)), some (.int (lm_i h 24 (((x2 * 7) + x5).toNatClampNeg))), some (.int r2)] f_72_79 rfl (Nat.le_of_ble_eq_true rfl) rfl rfl ?_
          refine ls_goto 8 f_72_82 rfl ?_
          exact ls_mask [true, true, true, true, true, true, false, false] [some (.ref 21), some (.ref 50), some (.int x2), some (.int (x3 ||| ((1 : Int32) <<< ((lm_i h 24 (((x2 * 7) + x5).toNatClampNeg)) &&& 31)))), some (.int x4), some (.int (x5 + 1)), none, none] rfl hyp
        · refine ls_iinc (x5 + 1) [some (.ref 21), some (.ref 50), some (.int x2), some (.int x3), some (.int x4), some (.int (x5 + 1)), some (.int (lm_i h 24 (((x2 * 7) + x5).toNatClampNeg))), some (.int r2)] f_72_79 rfl (Nat.le_of_ble_eq_true rfl) rfl rfl ?_
          refine ls_goto 8 f_72_82 rfl ?_
          exact ls_mask [true, true, true, true, true, true, false, false] [some (.ref 21), some (.ref 50), some (.int x2), some (.int x3), some (.int x4), some (.int (x5 + 1)), none, none] rfl hyp
  · refine ls_iload_n f_72_85 rfl ?_
    exact ls_ireturn f_72_86 rI_72 hyp
theorem e_72b {d : Nat} {h : lm_H} {K : Int32 → lm_H → Prop} (x2 : Int32) (hl : lm_Lay h) (hyp : lm_W (d + 1) 72 8 [some (.ref 59), some (.ref 70), some (.int x2), some (.int 0), some (.int 0), some (.int 0), none, none] [] h (lm_kI K)) : lm_call (d + 2) 72 [.ref 59, .ref 70, .int x2] h (lm_kI K) := by
  refine ls_enter [some (.ref 59), some (.ref 70), some (.int x2), none, none, none, none, none] ml_72 (Nat.le_of_ble_eq_true rfl) rfl ?_
  refine ls_iconst 0 f_72_0 (by decide) ?_
  refine ls_istore_n [some (.ref 59), some (.ref 70), some (.int x2), some (.int 0), none, none, none, none] f_72_1 (Nat.le_of_ble_eq_true rfl) rfl ?_
  refine ls_iconst 0 f_72_2 (by decide) ?_
  refine ls_istore [some (.ref 59), some (.ref 70), some (.int x2), some (.int 0), some (.int 0), none, none, none] f_72_3 (Nat.le_of_ble_eq_true rfl) rfl ?_
  refine ls_iconst 0 f_72_5 (by decide) ?_
  refine ls_istore [some (.ref 59), some (.ref 70), some (.int x2), some (.int 0), some (.int 0), some (.int 0), none, none] f_72_6 (Nat.le_of_ble_eq_true rfl) rfl ?_
  exact hyp
theorem b_72b_8 {d : Nat} {h : lm_H} {K : Int32 → lm_H → Prop} (x2 : Int32) (x3 : Int32) (x4 : Int32) (x5 : Int32) (hl : lm_Lay h) (hyp : lm_in x2 5 False (if x5 < (lm_i h 63 x2.toNatClampNeg) then (lm_in ((x2 * 7) + x5) 35 False (lm_call (d + 1) 71 [.ref 59, .ref 70, .int x2, .int (lm_i h 62 (((x2 * 7) + x5).toNatClampNeg))] h (lm_kI fun r2 h1 => (if x3 = 0 then (lm_W (d + 1) 72 8 [some (.ref 59), some (.ref 70), some (.int x2), some (.int ((1 : Int32) <<< ((lm_i h 62 (((x2 * 7) + x5).toNatClampNeg)) &&& 31))), some (.int r2), some (.int (x5 + 1)), none, none] [] h1 (lm_kI K)) else (if x4 < r2 then (lm_W (d + 1) 72 8 [some (.ref 59), some (.ref 70), some (.int x2), some (.int ((1 : Int32) <<< ((lm_i h 62 (((x2 * 7) + x5).toNatClampNeg)) &&& 31))), some (.int r2), some (.int (x5 + 1)), none, none] [] h1 (lm_kI K)) else (if r2 = x4 then (lm_W (d + 1) 72 8 [some (.ref 59), some (.ref 70), some (.int x2), some (.int (x3 ||| ((1 : Int32) <<< ((lm_i h 62 (((x2 * 7) + x5).toNatClampNeg)) &&& 31)))), some (.int x4), some (.int (x5 + 1)), none, none] [] h1 (lm_kI K)) else (lm_W (d + 1) 72 8 [some (.ref 59), some (.ref 70), some (.int x2), some (.int x3), some (.int x4), some (.int (x5 + 1)), none, none] [] h1 (lm_kI K)))))))) else (K x3 h))) : lm_W (d + 1) 72 8 [some (.ref 59), some (.ref 70), some (.int x2), some (.int x3), some (.int x4), some (.int x5), none, none] [] h (lm_kI K) := by
  refine ls_iload f_72_8 rfl ?_
  refine ls_aload_n f_72_10 rfl ?_
  refine ls_getR f_72_11 p_72_35 hl S_59 F_59_7 ?_
  refine ls_iload_n f_72_14 rfl ?_
  refine ls_iald f_72_15 hl S_63 hyp (fun hyp => ?_)
  refine ls_icmp_ge 85 f_72_16 rfl hyp (fun _ hyp => ?_) (fun _ hyp => ?_)
  · refine ls_aload_n f_72_19 rfl ?_
    refine ls_getR f_72_20 p_72_32 hl S_59 F_59_6 ?_
    refine ls_iload_n f_72_23 rfl ?_
    refine ls_iload f_72_24 rfl ?_
    refine ls_invS f_72_26 q_72_55 [.int x2, .int x5] [.ref 62] rfl (Nat.le_of_ble_eq_true rfl) ?_
    refine ls_enter [some (.int x2), some (.int x5)] ml_148 (Nat.le_of_ble_eq_true rfl) rfl ?_
    refine ls_iload_n f_148_0 rfl ?_
    refine ls_bipush 7 f_148_1 (by decide) ?_
    refine ls_imul (x2 * 7) f_148_3 rfl ?_
    refine ls_iload_n f_148_4 rfl ?_
    refine ls_iadd ((x2 * 7) + x5) f_148_5 rfl ?_
    refine ls_ireturn f_148_6 rI_148 ?_
    show lm_W _ _ _ _ [.int ((x2 * 7) + x5), .ref 62] _ _
    refine ls_iald f_72_29 hl S_62 hyp (fun hyp => ?_)
    refine ls_istore [some (.ref 59), some (.ref 70), some (.int x2), some (.int x3), some (.int x4), some (.int x5), some (.int (lm_i h 62 (((x2 * 7) + x5).toNatClampNeg))), none] f_72_30 (Nat.le_of_ble_eq_true rfl) rfl ?_
    refine ls_aload_n f_72_32 rfl ?_
    refine ls_aload_n f_72_33 rfl ?_
    refine ls_iload_n f_72_34 rfl ?_
    refine ls_iload f_72_35 rfl ?_
    refine ls_invV (a := 59) f_72_37 q_72_105 [.ref 70, .int x2, .int (lm_i h 62 (((x2 * 7) + x5).toNatClampNeg))] [] rfl (Nat.le_of_ble_eq_true rfl) hl S_59 ow_71 ?_
    refine ls_call hyp hl (fun _ h1 hl1 hyp => ?_)
    refine ls_retI hyp (fun r2 hyp => ?_)
    refine ls_istore [some (.ref 59), some (.ref 70), some (.int x2), some (.int x3), some (.int x4), some (.int x5), some (.int (lm_i h 62 (((x2 * 7) + x5).toNatClampNeg))), some (.int r2)] f_72_40 (Nat.le_of_ble_eq_true rfl) rfl ?_
    refine ls_iload_n f_72_42 rfl ?_
    refine ls_if_eq 53 f_72_43 rfl hyp (fun _ hyp => ?_) (fun _ hyp => ?_)
    · refine ls_iconst 1 f_72_53 (by decide) ?_
      refine ls_iload f_72_54 rfl ?_
      refine ls_ishl ((1 : Int32) <<< ((lm_i h 62 (((x2 * 7) + x5).toNatClampNeg)) &&& 31)) f_72_56 rfl ?_
      refine ls_istore_n [some (.ref 59), some (.ref 70), some (.int x2), some (.int ((1 : Int32) <<< ((lm_i h 62 (((x2 * 7) + x5).toNatClampNeg)) &&& 31))), some (.int x4), some (.int x5), some (.int (lm_i h 62 (((x2 * 7) + x5).toNatClampNeg))), some (.int r2)] f_72_57 (Nat.le_of_ble_eq_true rfl) rfl ?_
      refine ls_iload f_72_58 rfl ?_
      refine ls_istore [some (.ref 59), some (.ref 70), some (.int x2), some (.int ((1 : Int32) <<< ((lm_i h 62 (((x2 * 7) + x5).toNatClampNeg)) &&& 31))), some (.int r2), some (.int x5), some (.int (lm_i h 62 (((x2 * 7) + x5).toNatClampNeg))), some (.int r2)] f_72_60 (Nat.le_of_ble_eq_true rfl) rfl ?_
      refine ls_goto 79 f_72_62 rfl ?_
      refine ls_iinc (x5 + 1) [some (.ref 59), some (.ref 70), some (.int x2), some (.int ((1 : Int32) <<< ((lm_i h 62 (((x2 * 7) + x5).toNatClampNeg)) &&& 31))), some (.int r2), some (.int (x5 + 1)), some (.int (lm_i h 62 (((x2 * 7) + x5).toNatClampNeg))), some (.int r2)] f_72_79 rfl (Nat.le_of_ble_eq_true rfl) rfl rfl ?_
      refine ls_goto 8 f_72_82 rfl ?_
      exact ls_mask [true, true, true, true, true, true, false, false] [some (.ref 59), some (.ref 70), some (.int x2), some (.int ((1 : Int32) <<< ((lm_i h 62 (((x2 * 7) + x5).toNatClampNeg)) &&& 31))), some (.int r2), some (.int (x5 + 1)), none, none] rfl hyp
    · refine ls_iload f_72_46 rfl ?_
      refine ls_iload f_72_48 rfl ?_
      refine ls_icmp_le 65 f_72_50 rfl hyp (fun _ hyp => ?_) (fun _ hyp => ?_)
      · refine ls_iconst 1 f_72_53 (by decide) ?_
        refine ls_iload f_72_54 rfl ?_
        refine ls_ishl ((1 : Int32) <<< ((lm_i h 62 (((x2 * 7) + x5).toNatClampNeg)) &&& 31)) f_72_56 rfl ?_
        refine ls_istore_n [some (.ref 59), some (.ref 70), some (.int x2), some (.int ((1 : Int32) <<< ((lm_i h 62 (((x2 * 7) + x5).toNatClampNeg)) &&& 31))), some (.int x4), some (.int x5), some (.int (lm_i h 62 (((x2 * 7) + x5).toNatClampNeg))), some (.int r2)] f_72_57 (Nat.le_of_ble_eq_true rfl) rfl ?_
        refine ls_iload f_72_58 rfl ?_
        refine ls_istore [some (.ref 59), some (.ref 70), some (.int x2), some (.int ((1 : Int32) <<< ((lm_i h 62 (((x2 * 7) + x5).toNatClampNeg)) &&& 31))), some (.int r2), some (.int x5), some (.int (lm_i h 62 (((x2 * 7) + x5).toNatClampNeg))), some (.int r2)] f_72_60 (Nat.le_of_ble_eq_true rfl) rfl ?_
        refine ls_goto 79 f_72_62 rfl ?_
        refine ls_iinc (x5 + 1) [some (.ref 59), some (.ref 70), some (.int x2), some (.int ((1 : Int32) <<< ((lm_i h 62 (((x2 * 7) + x5).toNatClampNeg)) &&& 31))), some (.int r2), some (.int (x5 + 1)), some (.int (lm_i h 62 (((x2 * 7) + x5).toNatClampNeg))), some (.int r2)] f_72_79 rfl (Nat.le_of_ble_eq_true rfl) rfl rfl ?_
        refine ls_goto 8 f_72_82 rfl ?_
        exact ls_mask [true, true, true, true, true, true, false, false] [some (.ref 59), some (.ref 70), some (.int x2), some (.int ((1 : Int32) <<< ((lm_i h 62 (((x2 * 7) + x5).toNatClampNeg)) &&& 31))), some (.int r2), some (.int (x5 + 1)), none, none] rfl hyp
      · refine ls_iload f_72_65 rfl ?_
        refine ls_iload f_72_67 rfl ?_
        refine ls_icmp_ne 79 f_72_69 rfl hyp (fun _ hyp => ?_) (fun _ hyp => ?_)
        · refine ls_iload_n f_72_72 rfl ?_
          refine ls_iconst 1 f_72_73 (by decide) ?_
          refine ls_iload f_72_74 rfl ?_
          refine ls_ishl ((1 : Int32) <<< ((lm_i h 62 (((x2 * 7) + x5).toNatClampNeg)) &&& 31)) f_72_76 rfl ?_
          refine ls_ior (x3 ||| ((1 : Int32) <<< ((lm_i h 62 (((x2 * 7) + x5).toNatClampNeg)) &&& 31))) f_72_77 rfl ?_
          refine ls_istore_n [some (.ref 59), some (.ref 70), some (.int x2), some (.int (x3 ||| ((1 : Int32) <<< ((lm_i h 62 (((x2 * 7) + x5).toNatClampNeg)) &&& 31)))), some (.int x4), some (.int x5), some (.int (lm_i h 62 (((x2 * 7) + x5).toNatClampNeg))), some (.int r2)] f_72_78 (Nat.le_of_ble_eq_true rfl) rfl ?_
          refine ls_iinc (x5 + 1) [some (.ref 59), some (.ref 70), some (.int x2), some (.int (x3 ||| ((1 : Int32) <<< ((lm_i h 62 (((x2 * 7) + x5).toNatClampNeg)) &&& 31)))), some (.int x4), some (.int (x5 + 1)), some (.int (lm_i h 62 (((x2 * 7) + x5).toNatClampNeg))), some (.int r2)] f_72_79 rfl (Nat.le_of_ble_eq_true rfl) rfl rfl ?_
          refine ls_goto 8 f_72_82 rfl ?_
          exact ls_mask [true, true, true, true, true, true, false, false] [some (.ref 59), some (.ref 70), some (.int x2), some (.int (x3 ||| ((1 : Int32) <<< ((lm_i h 62 (((x2 * 7) + x5).toNatClampNeg)) &&& 31)))), some (.int x4), some (.int (x5 + 1)), none, none] rfl hyp
        · refine ls_iinc (x5 + 1) [some (.ref 59), some (.ref 70), some (.int x2), some (.int x3), some (.int x4), some (.int (x5 + 1)), some (.int (lm_i h 62 (((x2 * 7) + x5).toNatClampNeg))), some (.int r2)] f_72_79 rfl (Nat.le_of_ble_eq_true rfl) rfl rfl ?_
          refine ls_goto 8 f_72_82 rfl ?_
          exact ls_mask [true, true, true, true, true, true, false, false] [some (.ref 59), some (.ref 70), some (.int x2), some (.int x3), some (.int x4), some (.int (x5 + 1)), none, none] rfl hyp
  · refine ls_iload_n f_72_85 rfl ?_
    exact ls_ireturn f_72_86 rI_72 hyp
theorem e_74 {d : Nat} {h : lm_H} {K : lm_H → Prop} (x1 : Int32) (hl : lm_Lay h) (hyp : lm_W (d) 74 3 [some (.ref 11), some (.int x1), some (.int 24)] [] h (lm_kV K)) : lm_call (d + 1) 74 [.ref 11, .int x1] h (lm_kV K) := by
  refine ls_enter [some (.ref 11), some (.int x1), none] ml_74 (Nat.le_of_ble_eq_true rfl) rfl ?_
  refine ls_bipush 24 f_74_0 (by decide) ?_
  refine ls_istore_n [some (.ref 11), some (.int x1), some (.int 24)] f_74_2 (Nat.le_of_ble_eq_true rfl) rfl ?_
  exact hyp
theorem b_74_3 {d : Nat} {h : lm_H} {K : lm_H → Prop} (x1 : Int32) (x2 : Int32) (hl : lm_Lay h) (hyp : (if x2 < 0 then (K h) else (if (lm_i h 11 1) < 400 then (lm_in (lm_i h 11 1) 400 False (lm_W (d) 74 3 [some (.ref 11), some (.int x1), some (.int (x2 - 8))] [] (lm_si (lm_si h 12 ((lm_i h 11 1).toNatClampNeg) (((x1.toUInt32 >>> (x2.toUInt32 &&& Int32.toUInt32 31)).toInt32) &&& 255)) 11 1 ((lm_i h 11 1) + 1)) (lm_kV K))) else (K h)))) : lm_W (d) 74 3 [some (.ref 11), some (.int x1), some (.int x2)] [] h (lm_kV K) := by
  refine ls_iload_n f_74_3 rfl ?_
  refine ls_if_lt 49 f_74_4 rfl hyp (fun _ hyp => ?_) (fun _ hyp => ?_)
  · exact ls_return f_74_49 rV_74 hyp
  · refine ls_aload_n f_74_7 rfl ?_
    refine ls_getI f_74_8 p_74_15 hl S_11 ?_
    refine ls_sipush 400 f_74_11 (by decide) ?_
    refine ls_icmp_ge 49 f_74_14 rfl hyp (fun _ hyp => ?_) (fun _ hyp => ?_)
    · refine ls_aload_n f_74_17 rfl ?_
      refine ls_getR f_74_18 p_74_9 hl S_11 F_11_0 ?_
      refine ls_aload_n f_74_21 rfl ?_
      refine ls_getI f_74_22 p_74_15 hl S_11 ?_
      refine ls_iload_n f_74_25 rfl ?_
      refine ls_iload_n f_74_26 rfl ?_
      refine ls_iushr ((x1.toUInt32 >>> (x2.toUInt32 &&& Int32.toUInt32 31)).toInt32) f_74_27 rfl ?_
      refine ls_sipush 255 f_74_28 (by decide) ?_
      refine ls_iand (((x1.toUInt32 >>> (x2.toUInt32 &&& Int32.toUInt32 31)).toInt32) &&& 255) f_74_31 rfl ?_
      refine ls_iast f_74_32 hl S_12 hyp (fun hyp => ?_)
      refine ls_aload_n f_74_33 rfl ?_
      refine ls_dup f_74_34 rfl ?_
      refine ls_getI f_74_35 p_74_15 (lm_Lay_si hl _ _ _) S_11 ?_
      refine ls_top (lm_i h 11 1) rfl ?_
      refine ls_iconst 1 f_74_38 (by decide) ?_
      refine ls_iadd ((lm_i h 11 1) + 1) f_74_39 rfl ?_
      refine ls_putI f_74_40 p_74_15 (lm_Lay_si hl _ _ _) S_11 rfl ?_
      refine ls_iinc (x2 - 8) [some (.ref 11), some (.int x1), some (.int (x2 - 8))] f_74_43 rfl (Nat.le_of_ble_eq_true rfl) (lm_m8 _) rfl ?_
      refine ls_goto 3 f_74_46 rfl ?_
      exact hyp
    · exact ls_return f_74_49 rV_74 hyp
theorem e_76 {d : Nat} {h : lm_H} {K : lm_H → Prop} (hl : lm_Lay h) (hyp : lm_call (d) 269 [.ref 51, .long 0] (lm_row h 50 (va_cpy (h.2.1 73) (h.2.1 50) 0 0 5)) (lm_kV fun h1 => lm_call (d) 151 [.ref 50, .int (lm_i h1 21 0)] h1 (lm_kI fun r3 h2 => lm_call (d) 78 [.ref 49, .int r3] h2 (lm_kI fun r5 h4 => lm_W (d) 76 45 [some (.ref 49), some (.ref 21), none, some (.int 1), some (.int 1)] [] (lm_si h4 49 3 0) (lm_kV K))))) : lm_call (d + 1) 76 [.ref 49, .ref 21, .ref 73] h (lm_kV K) := by
  refine ls_enter [some (.ref 49), some (.ref 21), some (.ref 73), none, none] ml_76 (Nat.le_of_ble_eq_true rfl) rfl ?_
  refine ls_aload_n f_76_0 rfl ?_
  refine ls_iconst 0 f_76_1 (by decide) ?_
  refine ls_aload_n f_76_2 rfl ?_
  refine ls_getR f_76_3 p_76_9 hl S_49 F_49_0 ?_
  refine ls_iconst 0 f_76_6 (by decide) ?_
  refine ls_iconst 5 f_76_7 (by decide) ?_
  refine ls_cpy f_76_8 q_76_27 hl S_73 S_50 ⟨by decide, Nat.le_of_ble_eq_true rfl⟩ ?_
  refine ls_heap (lm_row h 50 (va_cpy (h.2.1 73) (h.2.1 50) 0 0 5)) rfl ?_
  refine ls_aload_n f_76_11 rfl ?_
  refine ls_getR f_76_12 p_76_15 (lm_Lay_row hl _ _) S_49 F_49_1 ?_
  refine ls_lconst 0 f_76_15 (by decide) ?_
  refine ls_invS f_76_16 q_76_33 [.ref 51, .long 0] [] rfl (Nat.le_of_ble_eq_true rfl) ?_
  refine ls_call hyp (lm_Lay_row hl _ _) (fun _ h1 hl1 hyp => ?_)
  refine ls_retV hyp (fun hyp => ?_)
  refine ls_aload_n f_76_19 rfl ?_
  refine ls_aload_n f_76_20 rfl ?_
  refine ls_getR f_76_21 p_76_9 hl1 S_49 F_49_0 ?_
  refine ls_aload_n f_76_24 rfl ?_
  refine ls_getI f_76_25 p_76_39 hl1 S_21 ?_
  refine ls_invS f_76_28 q_76_44 [.ref 50, .int (lm_i h1 21 0)] [.ref 49] rfl (Nat.le_of_ble_eq_true rfl) ?_
  refine ls_call hyp hl1 (fun _ h2 hl2 hyp => ?_)
  refine ls_retI hyp (fun r3 hyp => ?_)
  refine ls_invV (a := 49) f_76_31 q_76_48 [.int r3] [] rfl (Nat.le_of_ble_eq_true rfl) hl2 S_49 ow_78 ?_
  refine ls_call hyp hl2 (fun _ h4 hl4 hyp => ?_)
  refine ls_retI hyp (fun r5 hyp => ?_)
  refine ls_pop f_76_34 rfl ?_
  refine ls_aload_n f_76_35 rfl ?_
  refine ls_iconst 0 f_76_36 (by decide) ?_
  refine ls_putI f_76_37 p_76_23 hl4 S_49 (by decide) ?_
  refine ls_iconst 1 f_76_40 (by decide) ?_
  refine ls_istore_n [some (.ref 49), some (.ref 21), some (.ref 73), some (.int 1), none] f_76_41 (Nat.le_of_ble_eq_true rfl) rfl ?_
  refine ls_iconst 1 f_76_42 (by decide) ?_
  refine ls_istore [some (.ref 49), some (.ref 21), some (.ref 73), some (.int 1), some (.int 1)] f_76_43 (Nat.le_of_ble_eq_true rfl) rfl ?_
  exact ls_mask [true, true, false, true, true] [some (.ref 49), some (.ref 21), none, some (.int 1), some (.int 1)] rfl hyp
theorem b_76_45 {d : Nat} {h : lm_H} {K : lm_H → Prop} (x3 : Int32) (x4 : Int32) (hl : lm_Lay h) (hyp : (if x3 = 0 then (K h) else (if 16808 < x4 then (K h) else (lm_call (d) 77 [.ref 49, .ref 21] (lm_si h 49 2 x4) (lm_kI fun r2 h1 => (if r2 = 0 then (lm_W (d) 76 45 [some (.ref 49), some (.ref 21), none, some (.int 0), some (.int (x4 + 1))] [] (lm_si h1 49 3 1) (lm_kV K)) else (lm_call (d) 151 [.ref 50, .int (lm_i h1 21 0)] (lm_si h1 49 3 0) (lm_kI fun r4 h3 => lm_call (d) 78 [.ref 49, .int r4] h3 (lm_kI fun r6 h5 => (if r6 = 0 then (lm_W (d) 76 45 [some (.ref 49), some (.ref 21), none, some (.int 0), some (.int (x4 + 1))] [] h5 (lm_kV K)) else (lm_W (d) 76 45 [some (.ref 49), some (.ref 21), none, some (.int 1), some (.int (x4 + 1))] [] h5 (lm_kV K)))))))))))) : lm_W (d) 76 45 [some (.ref 49), some (.ref 21), none, some (.int x3), some (.int x4)] [] h (lm_kV K) := by
  refine ls_iload_n f_76_45 rfl ?_
  refine ls_if_eq 117 f_76_46 rfl hyp (fun _ hyp => ?_) (fun _ hyp => ?_)
  · exact ls_return f_76_117 rV_76 hyp
  · refine ls_iload f_76_49 rfl ?_
    refine ls_sipush 16808 f_76_51 (by decide) ?_
    refine ls_icmp_gt 117 f_76_54 rfl hyp (fun _ hyp => ?_) (fun _ hyp => ?_)
    · exact ls_return f_76_117 rV_76 hyp
    · refine ls_aload_n f_76_57 rfl ?_
      refine ls_iload f_76_58 rfl ?_
      refine ls_putI f_76_60 p_76_19 hl S_49 rfl ?_
      refine ls_aload_n f_76_63 rfl ?_
      refine ls_aload_n f_76_64 rfl ?_
      refine ls_aload_n f_76_65 rfl ?_
      refine ls_invV (a := 49) f_76_66 q_76_52 [.ref 21] [.ref 49] rfl (Nat.le_of_ble_eq_true rfl) (lm_Lay_si hl _ _ _) S_49 ow_77 ?_
      refine ls_call hyp (lm_Lay_si hl _ _ _) (fun _ h1 hl1 hyp => ?_)
      refine ls_retI hyp (fun r2 hyp => ?_)
      refine ls_if_ne 76 f_76_69 rfl hyp (fun _ hyp => ?_) (fun _ hyp => ?_)
      · refine ls_iconst 1 f_76_72 (by decide) ?_
        refine ls_goto 77 f_76_73 rfl ?_
        refine ls_putI f_76_77 p_76_23 hl1 S_49 (by decide) ?_
        refine ls_aload_n f_76_80 rfl ?_
        refine ls_getI f_76_81 p_76_23 (lm_Lay_si hl1 _ _ _) S_49 ?_
        refine ls_top 1 rfl ?_
        refine ls_if_ne_F 109 f_76_84 rfl (by decide) ?_
        refine ls_iconst 0 f_76_109 (by decide) ?_
        refine ls_istore_n [some (.ref 49), some (.ref 21), none, some (.int 0), some (.int x4)] f_76_110 (Nat.le_of_ble_eq_true rfl) rfl ?_
        refine ls_iinc (x4 + 1) [some (.ref 49), some (.ref 21), none, some (.int 0), some (.int (x4 + 1))] f_76_111 rfl (Nat.le_of_ble_eq_true rfl) rfl rfl ?_
        refine ls_goto 45 f_76_114 rfl ?_
        exact hyp
      · refine ls_iconst 0 f_76_76 (by decide) ?_
        refine ls_putI f_76_77 p_76_23 hl1 S_49 (by decide) ?_
        refine ls_aload_n f_76_80 rfl ?_
        refine ls_getI f_76_81 p_76_23 (lm_Lay_si hl1 _ _ _) S_49 ?_
        refine ls_top 0 rfl ?_
        refine ls_if_ne_T 109 f_76_84 rfl (by decide) ?_
        refine ls_aload_n f_76_87 rfl ?_
        refine ls_aload_n f_76_88 rfl ?_
        refine ls_getR f_76_89 p_76_9 (lm_Lay_si hl1 _ _ _) S_49 F_49_0 ?_
        refine ls_aload_n f_76_92 rfl ?_
        refine ls_getI f_76_93 p_76_39 (lm_Lay_si hl1 _ _ _) S_21 ?_
        refine ls_top (lm_i h1 21 0) rfl ?_
        refine ls_invS f_76_96 q_76_44 [.ref 50, .int (lm_i h1 21 0)] [.ref 49] rfl (Nat.le_of_ble_eq_true rfl) ?_
        refine ls_call hyp (lm_Lay_si hl1 _ _ _) (fun _ h3 hl3 hyp => ?_)
        refine ls_retI hyp (fun r4 hyp => ?_)
        refine ls_invV (a := 49) f_76_99 q_76_48 [.int r4] [] rfl (Nat.le_of_ble_eq_true rfl) hl3 S_49 ow_78 ?_
        refine ls_call hyp hl3 (fun _ h5 hl5 hyp => ?_)
        refine ls_retI hyp (fun r6 hyp => ?_)
        refine ls_if_eq 109 f_76_102 rfl hyp (fun _ hyp => ?_) (fun _ hyp => ?_)
        · refine ls_iconst 0 f_76_109 (by decide) ?_
          refine ls_istore_n [some (.ref 49), some (.ref 21), none, some (.int 0), some (.int x4)] f_76_110 (Nat.le_of_ble_eq_true rfl) rfl ?_
          refine ls_iinc (x4 + 1) [some (.ref 49), some (.ref 21), none, some (.int 0), some (.int (x4 + 1))] f_76_111 rfl (Nat.le_of_ble_eq_true rfl) rfl rfl ?_
          refine ls_goto 45 f_76_114 rfl ?_
          exact hyp
        · refine ls_iconst 1 f_76_105 (by decide) ?_
          refine ls_goto 110 f_76_106 rfl ?_
          refine ls_istore_n [some (.ref 49), some (.ref 21), none, some (.int 1), some (.int x4)] f_76_110 (Nat.le_of_ble_eq_true rfl) rfl ?_
          refine ls_iinc (x4 + 1) [some (.ref 49), some (.ref 21), none, some (.int 1), some (.int (x4 + 1))] f_76_111 rfl (Nat.le_of_ble_eq_true rfl) rfl rfl ?_
          refine ls_goto 45 f_76_114 rfl ?_
          exact hyp
theorem e_77 {d : Nat} {h : lm_H} {K : Int32 → lm_H → Prop} (hl : lm_Lay h) (hyp : lm_W (d) 77 4 [some (.ref 49), some (.ref 21), some (.int 0), some (.int 0), none] [] h (lm_kI K)) : lm_call (d + 1) 77 [.ref 49, .ref 21] h (lm_kI K) := by
  refine ls_enter [some (.ref 49), some (.ref 21), none, none, none] ml_77 (Nat.le_of_ble_eq_true rfl) rfl ?_
  refine ls_iconst 0 f_77_0 (by decide) ?_
  refine ls_istore_n [some (.ref 49), some (.ref 21), some (.int 0), none, none] f_77_1 (Nat.le_of_ble_eq_true rfl) rfl ?_
  refine ls_iconst 0 f_77_2 (by decide) ?_
  refine ls_istore_n [some (.ref 49), some (.ref 21), some (.int 0), some (.int 0), none] f_77_3 (Nat.le_of_ble_eq_true rfl) rfl ?_
  exact hyp
theorem b_77_4 {d : Nat} {h : lm_H} {K : Int32 → lm_H → Prop} (x2 : Int32) (x3 : Int32) (hl : lm_Lay h) (hyp : (if x3 < (lm_i h 21 0) then (lm_call (d) 72 [.ref 21, .ref 50, .int x3] h (lm_kI fun r2 h1 => lm_call (d) 150 [.int r2] h1 (lm_kI fun r4 h3 => lm_call (d) 71 [.ref 21, .ref 50, .int x3, .int r4] h3 (lm_kI fun r6 h5 => lm_in x3 5 False (lm_call (d) 71 [.ref 21, .ref 50, .int x3, .int (lm_i h5 50 x3.toNatClampNeg)] h5 (lm_kI fun r8 h7 => (if r8 < r6 then (lm_in x3 5 False (lm_W (d) 77 4 [some (.ref 49), some (.ref 21), some (.int 1), some (.int (x3 + 1)), none] [] (lm_si h7 50 x3.toNatClampNeg r4) (lm_kI K))) else (lm_W (d) 77 4 [some (.ref 49), some (.ref 21), some (.int x2), some (.int (x3 + 1)), none] [] h7 (lm_kI K))))))))) else ((vp_nar .boolean x2 = x2) ∧ K x2 h))) : lm_W (d) 77 4 [some (.ref 49), some (.ref 21), some (.int x2), some (.int x3), none] [] h (lm_kI K) := by
  refine ls_iload_n f_77_4 rfl ?_
  refine ls_aload_n f_77_5 rfl ?_
  refine ls_getI f_77_6 p_77_39 hl S_21 ?_
  refine ls_icmp_ge 71 f_77_9 rfl hyp (fun _ hyp => ?_) (fun _ hyp => ?_)
  · refine ls_aload_n f_77_12 rfl ?_
    refine ls_aload_n f_77_13 rfl ?_
    refine ls_getR f_77_14 p_77_9 hl S_49 F_49_0 ?_
    refine ls_iload_n f_77_17 rfl ?_
    refine ls_invV (a := 21) f_77_18 q_77_56 [.ref 50, .int x3] [] rfl (Nat.le_of_ble_eq_true rfl) hl S_21 ow_72 ?_
    refine ls_call hyp hl (fun _ h1 hl1 hyp => ?_)
    refine ls_retI hyp (fun r2 hyp => ?_)
    refine ls_invS f_77_21 q_77_59 [.int r2] [] rfl (Nat.le_of_ble_eq_true rfl) ?_
    refine ls_call hyp hl1 (fun _ h3 hl3 hyp => ?_)
    refine ls_retI hyp (fun r4 hyp => ?_)
    refine ls_istore [some (.ref 49), some (.ref 21), some (.int x2), some (.int x3), some (.int r4)] f_77_24 (Nat.le_of_ble_eq_true rfl) rfl ?_
    refine ls_aload_n f_77_26 rfl ?_
    refine ls_aload_n f_77_27 rfl ?_
    refine ls_getR f_77_28 p_77_9 hl3 S_49 F_49_0 ?_
    refine ls_iload_n f_77_31 rfl ?_
    refine ls_iload f_77_32 rfl ?_
    refine ls_invV (a := 21) f_77_34 q_77_63 [.ref 50, .int x3, .int r4] [] rfl (Nat.le_of_ble_eq_true rfl) hl3 S_21 ow_71 ?_
    refine ls_call hyp hl3 (fun _ h5 hl5 hyp => ?_)
    refine ls_retI hyp (fun r6 hyp => ?_)
    refine ls_aload_n f_77_37 rfl ?_
    refine ls_aload_n f_77_38 rfl ?_
    refine ls_getR f_77_39 p_77_9 hl5 S_49 F_49_0 ?_
    refine ls_iload_n f_77_42 rfl ?_
    refine ls_aload_n f_77_43 rfl ?_
    refine ls_getR f_77_44 p_77_9 hl5 S_49 F_49_0 ?_
    refine ls_iload_n f_77_47 rfl ?_
    refine ls_iald f_77_48 hl5 S_50 hyp (fun hyp => ?_)
    refine ls_invV (a := 21) f_77_49 q_77_63 [.ref 50, .int x3, .int (lm_i h5 50 x3.toNatClampNeg)] [.int r6] rfl (Nat.le_of_ble_eq_true rfl) hl5 S_21 ow_71 ?_
    refine ls_call hyp hl5 (fun _ h7 hl7 hyp => ?_)
    refine ls_retI hyp (fun r8 hyp => ?_)
    refine ls_icmp_le 65 f_77_52 rfl hyp (fun _ hyp => ?_) (fun _ hyp => ?_)
    · refine ls_aload_n f_77_55 rfl ?_
      refine ls_getR f_77_56 p_77_9 hl7 S_49 F_49_0 ?_
      refine ls_iload_n f_77_59 rfl ?_
      refine ls_iload f_77_60 rfl ?_
      refine ls_iast f_77_62 hl7 S_50 hyp (fun hyp => ?_)
      refine ls_iconst 1 f_77_63 (by decide) ?_
      refine ls_istore_n [some (.ref 49), some (.ref 21), some (.int 1), some (.int x3), some (.int r4)] f_77_64 (Nat.le_of_ble_eq_true rfl) rfl ?_
      refine ls_iinc (x3 + 1) [some (.ref 49), some (.ref 21), some (.int 1), some (.int (x3 + 1)), some (.int r4)] f_77_65 rfl (Nat.le_of_ble_eq_true rfl) rfl rfl ?_
      refine ls_goto 4 f_77_68 rfl ?_
      exact ls_mask [true, true, true, true, false] [some (.ref 49), some (.ref 21), some (.int 1), some (.int (x3 + 1)), none] rfl hyp
    · refine ls_iinc (x3 + 1) [some (.ref 49), some (.ref 21), some (.int x2), some (.int (x3 + 1)), some (.int r4)] f_77_65 rfl (Nat.le_of_ble_eq_true rfl) rfl rfl ?_
      refine ls_goto 4 f_77_68 rfl ?_
      exact ls_mask [true, true, true, true, false] [some (.ref 49), some (.ref 21), some (.int x2), some (.int (x3 + 1)), none] rfl hyp
  · refine ls_iload_n f_77_71 rfl ?_
    exact ls_zreturn f_77_72 rZ_77 hyp.1 hyp.2
theorem e_78 {d : Nat} {h : lm_H} {K : Int32 → lm_H → Prop} (x1 : Int32) (hl : lm_Lay h) (hyp : (if (x1 >>> (6 &&& 31)) < 0 then (K 0 h) else (if (x1 >>> (6 &&& 31)) < 263 then (lm_in (x1 >>> (6 &&& 31)) 263 False (if (lg_cmp ((lm_l h 51 ((x1 >>> (6 &&& 31)).toNatClampNeg)) &&& ((1 : Int64) <<< ((x1 &&& 63).toInt64 &&& 63))) 0) = 0 then (lm_in (x1 >>> (6 &&& 31)) 263 False (lm_in (x1 >>> (6 &&& 31)) 263 False (K 1 (lm_sl h 51 ((x1 >>> (6 &&& 31)).toNatClampNeg) ((lm_l h 51 ((x1 >>> (6 &&& 31)).toNatClampNeg)) ||| ((1 : Int64) <<< ((x1 &&& 63).toInt64 &&& 63))))))) else (lm_in (x1 >>> (6 &&& 31)) 263 False (lm_in (x1 >>> (6 &&& 31)) 263 False (K 0 (lm_sl h 51 ((x1 >>> (6 &&& 31)).toNatClampNeg) ((lm_l h 51 ((x1 >>> (6 &&& 31)).toNatClampNeg)) ||| ((1 : Int64) <<< ((x1 &&& 63).toInt64 &&& 63))))))))) else (K 0 h)))) : lm_call (d + 1) 78 [.ref 49, .int x1] h (lm_kI K) := by
  refine ls_enter [some (.ref 49), some (.int x1), none, none, none, none] ml_78 (Nat.le_of_ble_eq_true rfl) rfl ?_
  refine ls_iload_n f_78_0 rfl ?_
  refine ls_bipush 6 f_78_1 (by decide) ?_
  refine ls_ishr (x1 >>> (6 &&& 31)) f_78_3 rfl ?_
  refine ls_istore_n [some (.ref 49), some (.int x1), some (.int (x1 >>> (6 &&& 31))), none, none, none] f_78_4 (Nat.le_of_ble_eq_true rfl) rfl ?_
  refine ls_iload_n f_78_5 rfl ?_
  refine ls_if_lt 18 f_78_6 rfl hyp (fun _ hyp => ?_) (fun _ hyp => ?_)
  · refine ls_iconst 0 f_78_18 (by decide) ?_
    exact ls_zreturn f_78_19 rZ_78 (by decide) hyp
  · refine ls_iload_n f_78_9 rfl ?_
    refine ls_aload_n f_78_10 rfl ?_
    refine ls_getR f_78_11 p_78_15 hl S_49 F_49_1 ?_
    refine ls_alen f_78_14 hl S_51 rfl ?_
    refine ls_top 263 (by decide) ?_
    refine ls_icmp_lt 20 f_78_15 rfl hyp (fun _ hyp => ?_) (fun _ hyp => ?_)
    · refine ls_lconst 1 f_78_20 (by decide) ?_
      refine ls_iload_n f_78_21 rfl ?_
      refine ls_bipush 63 f_78_22 (by decide) ?_
      refine ls_iand (x1 &&& 63) f_78_24 rfl ?_
      refine ls_lshl ((1 : Int64) <<< ((x1 &&& 63).toInt64 &&& 63)) f_78_25 rfl ?_
      refine ls_lstore_n [some (.ref 49), some (.int x1), some (.int (x1 >>> (6 &&& 31))), some (.long ((1 : Int64) <<< ((x1 &&& 63).toInt64 &&& 63))), none, none] f_78_26 (Nat.le_of_ble_eq_true rfl) rfl ?_
      refine ls_aload_n f_78_27 rfl ?_
      refine ls_getR f_78_28 p_78_15 hl S_49 F_49_1 ?_
      refine ls_iload_n f_78_31 rfl ?_
      refine ls_lald f_78_32 hl S_51 hyp (fun hyp => ?_)
      refine ls_lload_n f_78_33 rfl ?_
      refine ls_land ((lm_l h 51 ((x1 >>> (6 &&& 31)).toNatClampNeg)) &&& ((1 : Int64) <<< ((x1 &&& 63).toInt64 &&& 63))) f_78_34 rfl ?_
      refine ls_lconst 0 f_78_35 (by decide) ?_
      refine ls_lcmp f_78_36 ?_
      refine ls_if_ne 44 f_78_37 rfl hyp (fun _ hyp => ?_) (fun _ hyp => ?_)
      · refine ls_iconst 1 f_78_40 (by decide) ?_
        refine ls_goto 45 f_78_41 rfl ?_
        refine ls_istore [some (.ref 49), some (.int x1), some (.int (x1 >>> (6 &&& 31))), some (.long ((1 : Int64) <<< ((x1 &&& 63).toInt64 &&& 63))), none, some (.int 1)] f_78_45 (Nat.le_of_ble_eq_true rfl) rfl ?_
        refine ls_aload_n f_78_47 rfl ?_
        refine ls_getR f_78_48 p_78_15 hl S_49 F_49_1 ?_
        refine ls_iload_n f_78_51 rfl ?_
        refine ls_dup2 f_78_52 rfl rfl ?_
        refine ls_lald f_78_53 hl S_51 hyp (fun hyp => ?_)
        refine ls_lload_n f_78_54 rfl ?_
        refine ls_lor ((lm_l h 51 ((x1 >>> (6 &&& 31)).toNatClampNeg)) ||| ((1 : Int64) <<< ((x1 &&& 63).toInt64 &&& 63))) f_78_55 rfl ?_
        refine ls_last f_78_56 hl S_51 hyp (fun hyp => ?_)
        refine ls_iload f_78_57 rfl ?_
        exact ls_zreturn f_78_59 rZ_78 (by decide) hyp
      · refine ls_iconst 0 f_78_44 (by decide) ?_
        refine ls_istore [some (.ref 49), some (.int x1), some (.int (x1 >>> (6 &&& 31))), some (.long ((1 : Int64) <<< ((x1 &&& 63).toInt64 &&& 63))), none, some (.int 0)] f_78_45 (Nat.le_of_ble_eq_true rfl) rfl ?_
        refine ls_aload_n f_78_47 rfl ?_
        refine ls_getR f_78_48 p_78_15 hl S_49 F_49_1 ?_
        refine ls_iload_n f_78_51 rfl ?_
        refine ls_dup2 f_78_52 rfl rfl ?_
        refine ls_lald f_78_53 hl S_51 hyp (fun hyp => ?_)
        refine ls_lload_n f_78_54 rfl ?_
        refine ls_lor ((lm_l h 51 ((x1 >>> (6 &&& 31)).toNatClampNeg)) ||| ((1 : Int64) <<< ((x1 &&& 63).toInt64 &&& 63))) f_78_55 rfl ?_
        refine ls_last f_78_56 hl S_51 hyp (fun hyp => ?_)
        refine ls_iload f_78_57 rfl ?_
        exact ls_zreturn f_78_59 rZ_78 (by decide) hyp
    · refine ls_iconst 0 f_78_18 (by decide) ?_
      exact ls_zreturn f_78_19 rZ_78 (by decide) hyp
theorem e_80 {d : Nat} {h : lm_H} {K : Int32 → lm_H → Prop} (x3 : Int32) (hl : lm_Lay h) (hyp : lm_call (d + 1) 270 [.ref 29, .int 0] h (lm_kV fun h1 => lm_W (d + 1) 80 14 [some (.ref 26), some (.ref 21), some (.ref 73), some (.int x3), some (.int 1), some (.int 0)] [] h1 (lm_kI K))) : lm_call (d + 2) 80 [.ref 26, .ref 21, .ref 73, .int x3] h (lm_kI K) := by
  refine ls_enter [some (.ref 26), some (.ref 21), some (.ref 73), some (.int x3), none, none] ml_80 (Nat.le_of_ble_eq_true rfl) rfl ?_
  refine ls_iconst 1 f_80_0 (by decide) ?_
  refine ls_istore [some (.ref 26), some (.ref 21), some (.ref 73), some (.int x3), some (.int 1), none] f_80_1 (Nat.le_of_ble_eq_true rfl) rfl ?_
  refine ls_aload_n f_80_3 rfl ?_
  refine ls_getR f_80_4 p_80_18 hl S_26 F_26_2 ?_
  refine ls_iconst 0 f_80_7 (by decide) ?_
  refine ls_invS f_80_8 q_80_24 [.ref 29, .int 0] [] rfl (Nat.le_of_ble_eq_true rfl) ?_
  refine ls_call hyp hl (fun _ h1 hl1 hyp => ?_)
  refine ls_retV hyp (fun hyp => ?_)
  refine ls_iconst 0 f_80_11 (by decide) ?_
  refine ls_istore [some (.ref 26), some (.ref 21), some (.ref 73), some (.int x3), some (.int 1), some (.int 0)] f_80_12 (Nat.le_of_ble_eq_true rfl) rfl ?_
  exact hyp
theorem b_80_14 {d : Nat} {h : lm_H} {K : Int32 → lm_H → Prop} (x3 : Int32) (x4 : Int32) (x5 : Int32) (hl : lm_Lay h) (hyp : (if x5 < (lm_i h 21 0) then (lm_in x5 5 False (lm_in x5 5 False (lm_in x5 5 False (if ((x3 >>> (x5 &&& 31)) &&& 1) = 1 then (lm_in ((x5 * 7) + 0) 35 False (lm_in x5 5 False (lm_in x5 5 False (lm_in x5 5 False (lm_in (lm_i h 24 (((x5 * 7) + 0).toNatClampNeg)) 7 False (lm_in (lm_i h 24 (((x5 * 7) + 0).toNatClampNeg)) 7 False (lm_W (d + 1) 80 14 [some (.ref 26), some (.ref 21), some (.ref 73), some (.int x3), some (.int (x4 * (lm_i h 25 x5.toNatClampNeg))), some (.int (x5 + 1))] [] (lm_si (lm_si (lm_si (lm_si h 28 x5.toNatClampNeg 0) 27 x5.toNatClampNeg (lm_i h 73 x5.toNatClampNeg)) 27 x5.toNatClampNeg (lm_i h 24 (((x5 * 7) + 0).toNatClampNeg))) 29 ((lm_i h 24 (((x5 * 7) + 0).toNatClampNeg)).toNatClampNeg) ((lm_i h 29 ((lm_i h 24 (((x5 * 7) + 0).toNatClampNeg)).toNatClampNeg)) ||| ((1 : Int32) <<< (x5 &&& 31)))) (lm_kI K)))))))) else (lm_in x5 5 False (lm_in (lm_i h 73 x5.toNatClampNeg) 7 False (lm_in (lm_i h 73 x5.toNatClampNeg) 7 False (lm_W (d + 1) 80 14 [some (.ref 26), some (.ref 21), some (.ref 73), some (.int x3), some (.int x4), some (.int (x5 + 1))] [] (lm_si (lm_si (lm_si h 28 x5.toNatClampNeg 0) 27 x5.toNatClampNeg (lm_i h 73 x5.toNatClampNeg)) 29 ((lm_i h 73 x5.toNatClampNeg).toNatClampNeg) ((lm_i h 29 ((lm_i h 73 x5.toNatClampNeg).toNatClampNeg)) ||| ((1 : Int32) <<< (x5 &&& 31)))) (lm_kI K))))))))) else (K x4 h))) : lm_W (d + 1) 80 14 [some (.ref 26), some (.ref 21), some (.ref 73), some (.int x3), some (.int x4), some (.int x5)] [] h (lm_kI K) := by
  refine ls_iload f_80_14 rfl ?_
  refine ls_aload_n f_80_16 rfl ?_
  refine ls_getI f_80_17 p_80_30 hl S_21 ?_
  refine ls_icmp_ge 107 f_80_20 rfl hyp (fun _ hyp => ?_) (fun _ hyp => ?_)
  · refine ls_aload_n f_80_23 rfl ?_
    refine ls_getR f_80_24 p_80_15 hl S_26 F_26_1 ?_
    refine ls_iload f_80_27 rfl ?_
    refine ls_iconst 0 f_80_29 (by decide) ?_
    refine ls_iast f_80_30 hl S_28 hyp (fun hyp => ?_)
    refine ls_aload_n f_80_31 rfl ?_
    refine ls_getR f_80_32 p_80_9 (lm_Lay_si hl _ _ _) S_26 F_26_0 ?_
    refine ls_iload f_80_35 rfl ?_
    refine ls_aload_n f_80_37 rfl ?_
    refine ls_iload f_80_38 rfl ?_
    refine ls_iald f_80_40 (lm_Lay_si hl _ _ _) S_73 hyp (fun hyp => ?_)
    refine ls_top (lm_i h 73 x5.toNatClampNeg) rfl ?_
    refine ls_iast f_80_41 (lm_Lay_si hl _ _ _) S_27 hyp (fun hyp => ?_)
    refine ls_iload_n f_80_42 rfl ?_
    refine ls_iload f_80_43 rfl ?_
    refine ls_ishr (x3 >>> (x5 &&& 31)) f_80_45 rfl ?_
    refine ls_iconst 1 f_80_46 (by decide) ?_
    refine ls_iand ((x3 >>> (x5 &&& 31)) &&& 1) f_80_47 rfl ?_
    refine ls_iconst 1 f_80_48 (by decide) ?_
    refine ls_icmp_ne 82 f_80_49 rfl hyp (fun _ hyp => ?_) (fun _ hyp => ?_)
    · refine ls_aload_n f_80_52 rfl ?_
      refine ls_getR f_80_53 p_80_9 (lm_Lay_si (lm_Lay_si hl _ _ _) _ _ _) S_26 F_26_0 ?_
      refine ls_iload f_80_56 rfl ?_
      refine ls_aload_n f_80_58 rfl ?_
      refine ls_getR f_80_59 p_80_36 (lm_Lay_si (lm_Lay_si hl _ _ _) _ _ _) S_21 F_21_6 ?_
      refine ls_iload f_80_62 rfl ?_
      refine ls_iconst 0 f_80_64 (by decide) ?_
      refine ls_invS f_80_65 q_80_39 [.int x5, .int 0] [.ref 24, .int x5, .ref 27] rfl (Nat.le_of_ble_eq_true rfl) ?_
      refine ls_enter [some (.int x5), some (.int 0)] ml_148 (Nat.le_of_ble_eq_true rfl) rfl ?_
      refine ls_iload_n f_148_0 rfl ?_
      refine ls_bipush 7 f_148_1 (by decide) ?_
      refine ls_imul (x5 * 7) f_148_3 rfl ?_
      refine ls_iload_n f_148_4 rfl ?_
      refine ls_iadd ((x5 * 7) + 0) f_148_5 rfl ?_
      refine ls_ireturn f_148_6 rI_148 ?_
      show lm_W _ _ _ _ [.int ((x5 * 7) + 0), .ref 24, .int x5, .ref 27] _ _
      refine ls_iald f_80_68 (lm_Lay_si (lm_Lay_si hl _ _ _) _ _ _) S_24 hyp (fun hyp => ?_)
      refine ls_top (lm_i h 24 (((x5 * 7) + 0).toNatClampNeg)) rfl ?_
      refine ls_iast f_80_69 (lm_Lay_si (lm_Lay_si hl _ _ _) _ _ _) S_27 hyp (fun hyp => ?_)
      refine ls_iload f_80_70 rfl ?_
      refine ls_aload_n f_80_72 rfl ?_
      refine ls_getR f_80_73 p_80_43 (lm_Lay_si (lm_Lay_si (lm_Lay_si hl _ _ _) _ _ _) _ _ _) S_21 F_21_7 ?_
      refine ls_iload f_80_76 rfl ?_
      refine ls_iald f_80_78 (lm_Lay_si (lm_Lay_si (lm_Lay_si hl _ _ _) _ _ _) _ _ _) S_25 hyp (fun hyp => ?_)
      refine ls_top (lm_i h 25 x5.toNatClampNeg) rfl ?_
      refine ls_imul (x4 * (lm_i h 25 x5.toNatClampNeg)) f_80_79 rfl ?_
      refine ls_istore [some (.ref 26), some (.ref 21), some (.ref 73), some (.int x3), some (.int (x4 * (lm_i h 25 x5.toNatClampNeg))), some (.int x5)] f_80_80 (Nat.le_of_ble_eq_true rfl) rfl ?_
      refine ls_aload_n f_80_82 rfl ?_
      refine ls_getR f_80_83 p_80_18 (lm_Lay_si (lm_Lay_si (lm_Lay_si hl _ _ _) _ _ _) _ _ _) S_26 F_26_2 ?_
      refine ls_aload_n f_80_86 rfl ?_
      refine ls_getR f_80_87 p_80_9 (lm_Lay_si (lm_Lay_si (lm_Lay_si hl _ _ _) _ _ _) _ _ _) S_26 F_26_0 ?_
      refine ls_iload f_80_90 rfl ?_
      refine ls_iald f_80_92 (lm_Lay_si (lm_Lay_si (lm_Lay_si hl _ _ _) _ _ _) _ _ _) S_27 hyp (fun hyp => ?_)
      refine ls_top (lm_i h 24 (((x5 * 7) + 0).toNatClampNeg)) lm_iE ?_
      refine ls_dup2 f_80_93 rfl rfl ?_
      refine ls_iald f_80_94 (lm_Lay_si (lm_Lay_si (lm_Lay_si hl _ _ _) _ _ _) _ _ _) S_29 hyp (fun hyp => ?_)
      refine ls_top (lm_i h 29 ((lm_i h 24 (((x5 * 7) + 0).toNatClampNeg)).toNatClampNeg)) rfl ?_
      refine ls_iconst 1 f_80_95 (by decide) ?_
      refine ls_iload f_80_96 rfl ?_
      refine ls_ishl ((1 : Int32) <<< (x5 &&& 31)) f_80_98 rfl ?_
      refine ls_ior ((lm_i h 29 ((lm_i h 24 (((x5 * 7) + 0).toNatClampNeg)).toNatClampNeg)) ||| ((1 : Int32) <<< (x5 &&& 31))) f_80_99 rfl ?_
      refine ls_iast f_80_100 (lm_Lay_si (lm_Lay_si (lm_Lay_si hl _ _ _) _ _ _) _ _ _) S_29 hyp (fun hyp => ?_)
      refine ls_iinc (x5 + 1) [some (.ref 26), some (.ref 21), some (.ref 73), some (.int x3), some (.int (x4 * (lm_i h 25 x5.toNatClampNeg))), some (.int (x5 + 1))] f_80_101 rfl (Nat.le_of_ble_eq_true rfl) rfl rfl ?_
      refine ls_goto 14 f_80_104 rfl ?_
      exact hyp
    · refine ls_aload_n f_80_82 rfl ?_
      refine ls_getR f_80_83 p_80_18 (lm_Lay_si (lm_Lay_si hl _ _ _) _ _ _) S_26 F_26_2 ?_
      refine ls_aload_n f_80_86 rfl ?_
      refine ls_getR f_80_87 p_80_9 (lm_Lay_si (lm_Lay_si hl _ _ _) _ _ _) S_26 F_26_0 ?_
      refine ls_iload f_80_90 rfl ?_
      refine ls_iald f_80_92 (lm_Lay_si (lm_Lay_si hl _ _ _) _ _ _) S_27 hyp (fun hyp => ?_)
      refine ls_top (lm_i h 73 x5.toNatClampNeg) lm_iE ?_
      refine ls_dup2 f_80_93 rfl rfl ?_
      refine ls_iald f_80_94 (lm_Lay_si (lm_Lay_si hl _ _ _) _ _ _) S_29 hyp (fun hyp => ?_)
      refine ls_top (lm_i h 29 ((lm_i h 73 x5.toNatClampNeg).toNatClampNeg)) rfl ?_
      refine ls_iconst 1 f_80_95 (by decide) ?_
      refine ls_iload f_80_96 rfl ?_
      refine ls_ishl ((1 : Int32) <<< (x5 &&& 31)) f_80_98 rfl ?_
      refine ls_ior ((lm_i h 29 ((lm_i h 73 x5.toNatClampNeg).toNatClampNeg)) ||| ((1 : Int32) <<< (x5 &&& 31))) f_80_99 rfl ?_
      refine ls_iast f_80_100 (lm_Lay_si (lm_Lay_si hl _ _ _) _ _ _) S_29 hyp (fun hyp => ?_)
      refine ls_iinc (x5 + 1) [some (.ref 26), some (.ref 21), some (.ref 73), some (.int x3), some (.int x4), some (.int (x5 + 1))] f_80_101 rfl (Nat.le_of_ble_eq_true rfl) rfl rfl ?_
      refine ls_goto 14 f_80_104 rfl ?_
      exact hyp
  · refine ls_iload f_80_107 rfl ?_
    exact ls_ireturn f_80_109 rI_80 hyp
theorem e_80s {d : Nat} {h : lm_H} {K : Int32 → lm_H → Prop} (x3 : Int32) (hl : lm_Lay h) (hyp : lm_call (d + 1) 270 [.ref 40, .int 0] h (lm_kV fun h1 => lm_W (d + 1) 80 14 [some (.ref 37), some (.ref 32), some (.ref 38), some (.int x3), some (.int 1), some (.int 0)] [] h1 (lm_kI K))) : lm_call (d + 2) 80 [.ref 37, .ref 32, .ref 38, .int x3] h (lm_kI K) := by
  refine ls_enter [some (.ref 37), some (.ref 32), some (.ref 38), some (.int x3), none, none] ml_80 (Nat.le_of_ble_eq_true rfl) rfl ?_
  refine ls_iconst 1 f_80_0 (by decide) ?_
  refine ls_istore [some (.ref 37), some (.ref 32), some (.ref 38), some (.int x3), some (.int 1), none] f_80_1 (Nat.le_of_ble_eq_true rfl) rfl ?_
  refine ls_aload_n f_80_3 rfl ?_
  refine ls_getR f_80_4 p_80_18 hl S_37 F_37_2 ?_
  refine ls_iconst 0 f_80_7 (by decide) ?_
  refine ls_invS f_80_8 q_80_24 [.ref 40, .int 0] [] rfl (Nat.le_of_ble_eq_true rfl) ?_
  refine ls_call hyp hl (fun _ h1 hl1 hyp => ?_)
  refine ls_retV hyp (fun hyp => ?_)
  refine ls_iconst 0 f_80_11 (by decide) ?_
  refine ls_istore [some (.ref 37), some (.ref 32), some (.ref 38), some (.int x3), some (.int 1), some (.int 0)] f_80_12 (Nat.le_of_ble_eq_true rfl) rfl ?_
  exact hyp
theorem b_80s_14 {d : Nat} {h : lm_H} {K : Int32 → lm_H → Prop} (x3 : Int32) (x4 : Int32) (x5 : Int32) (hl : lm_Lay h) (hyp : (if x5 < (lm_i h 32 0) then (lm_in x5 5 False (lm_in x5 5 False (lm_in x5 5 False (if ((x3 >>> (x5 &&& 31)) &&& 1) = 1 then (lm_in ((x5 * 7) + 0) 35 False (lm_in x5 5 False (lm_in x5 5 False (lm_in x5 5 False (lm_in (lm_i h 35 (((x5 * 7) + 0).toNatClampNeg)) 7 False (lm_in (lm_i h 35 (((x5 * 7) + 0).toNatClampNeg)) 7 False (lm_W (d + 1) 80 14 [some (.ref 37), some (.ref 32), some (.ref 38), some (.int x3), some (.int (x4 * (lm_i h 36 x5.toNatClampNeg))), some (.int (x5 + 1))] [] (lm_si (lm_si (lm_si (lm_si h 39 x5.toNatClampNeg 0) 38 x5.toNatClampNeg (lm_i h 38 x5.toNatClampNeg)) 38 x5.toNatClampNeg (lm_i h 35 (((x5 * 7) + 0).toNatClampNeg))) 40 ((lm_i h 35 (((x5 * 7) + 0).toNatClampNeg)).toNatClampNeg) ((lm_i h 40 ((lm_i h 35 (((x5 * 7) + 0).toNatClampNeg)).toNatClampNeg)) ||| ((1 : Int32) <<< (x5 &&& 31)))) (lm_kI K)))))))) else (lm_in x5 5 False (lm_in (lm_i h 38 x5.toNatClampNeg) 7 False (lm_in (lm_i h 38 x5.toNatClampNeg) 7 False (lm_W (d + 1) 80 14 [some (.ref 37), some (.ref 32), some (.ref 38), some (.int x3), some (.int x4), some (.int (x5 + 1))] [] (lm_si (lm_si (lm_si h 39 x5.toNatClampNeg 0) 38 x5.toNatClampNeg (lm_i h 38 x5.toNatClampNeg)) 40 ((lm_i h 38 x5.toNatClampNeg).toNatClampNeg) ((lm_i h 40 ((lm_i h 38 x5.toNatClampNeg).toNatClampNeg)) ||| ((1 : Int32) <<< (x5 &&& 31)))) (lm_kI K))))))))) else (K x4 h))) : lm_W (d + 1) 80 14 [some (.ref 37), some (.ref 32), some (.ref 38), some (.int x3), some (.int x4), some (.int x5)] [] h (lm_kI K) := by
  refine ls_iload f_80_14 rfl ?_
  refine ls_aload_n f_80_16 rfl ?_
  refine ls_getI f_80_17 p_80_30 hl S_32 ?_
  refine ls_icmp_ge 107 f_80_20 rfl hyp (fun _ hyp => ?_) (fun _ hyp => ?_)
  · refine ls_aload_n f_80_23 rfl ?_
    refine ls_getR f_80_24 p_80_15 hl S_37 F_37_1 ?_
    refine ls_iload f_80_27 rfl ?_
    refine ls_iconst 0 f_80_29 (by decide) ?_
    refine ls_iast f_80_30 hl S_39 hyp (fun hyp => ?_)
    refine ls_aload_n f_80_31 rfl ?_
    refine ls_getR f_80_32 p_80_9 (lm_Lay_si hl _ _ _) S_37 F_37_0 ?_
    refine ls_iload f_80_35 rfl ?_
    refine ls_aload_n f_80_37 rfl ?_
    refine ls_iload f_80_38 rfl ?_
    refine ls_iald f_80_40 (lm_Lay_si hl _ _ _) S_38 hyp (fun hyp => ?_)
    refine ls_top (lm_i h 38 x5.toNatClampNeg) rfl ?_
    refine ls_iast f_80_41 (lm_Lay_si hl _ _ _) S_38 hyp (fun hyp => ?_)
    refine ls_iload_n f_80_42 rfl ?_
    refine ls_iload f_80_43 rfl ?_
    refine ls_ishr (x3 >>> (x5 &&& 31)) f_80_45 rfl ?_
    refine ls_iconst 1 f_80_46 (by decide) ?_
    refine ls_iand ((x3 >>> (x5 &&& 31)) &&& 1) f_80_47 rfl ?_
    refine ls_iconst 1 f_80_48 (by decide) ?_
    refine ls_icmp_ne 82 f_80_49 rfl hyp (fun _ hyp => ?_) (fun _ hyp => ?_)
    · refine ls_aload_n f_80_52 rfl ?_
      refine ls_getR f_80_53 p_80_9 (lm_Lay_si (lm_Lay_si hl _ _ _) _ _ _) S_37 F_37_0 ?_
      refine ls_iload f_80_56 rfl ?_
      refine ls_aload_n f_80_58 rfl ?_
      refine ls_getR f_80_59 p_80_36 (lm_Lay_si (lm_Lay_si hl _ _ _) _ _ _) S_32 F_32_6 ?_
      refine ls_iload f_80_62 rfl ?_
      refine ls_iconst 0 f_80_64 (by decide) ?_
      refine ls_invS f_80_65 q_80_39 [.int x5, .int 0] [.ref 35, .int x5, .ref 38] rfl (Nat.le_of_ble_eq_true rfl) ?_
      refine ls_enter [some (.int x5), some (.int 0)] ml_148 (Nat.le_of_ble_eq_true rfl) rfl ?_
      refine ls_iload_n f_148_0 rfl ?_
      refine ls_bipush 7 f_148_1 (by decide) ?_
      refine ls_imul (x5 * 7) f_148_3 rfl ?_
      refine ls_iload_n f_148_4 rfl ?_
      refine ls_iadd ((x5 * 7) + 0) f_148_5 rfl ?_
      refine ls_ireturn f_148_6 rI_148 ?_
      show lm_W _ _ _ _ [.int ((x5 * 7) + 0), .ref 35, .int x5, .ref 38] _ _
      refine ls_iald f_80_68 (lm_Lay_si (lm_Lay_si hl _ _ _) _ _ _) S_35 hyp (fun hyp => ?_)
      refine ls_top (lm_i h 35 (((x5 * 7) + 0).toNatClampNeg)) rfl ?_
      refine ls_iast f_80_69 (lm_Lay_si (lm_Lay_si hl _ _ _) _ _ _) S_38 hyp (fun hyp => ?_)
      refine ls_iload f_80_70 rfl ?_
      refine ls_aload_n f_80_72 rfl ?_
      refine ls_getR f_80_73 p_80_43 (lm_Lay_si (lm_Lay_si (lm_Lay_si hl _ _ _) _ _ _) _ _ _) S_32 F_32_7 ?_
      refine ls_iload f_80_76 rfl ?_
      refine ls_iald f_80_78 (lm_Lay_si (lm_Lay_si (lm_Lay_si hl _ _ _) _ _ _) _ _ _) S_36 hyp (fun hyp => ?_)
      refine ls_top (lm_i h 36 x5.toNatClampNeg) rfl ?_
      refine ls_imul (x4 * (lm_i h 36 x5.toNatClampNeg)) f_80_79 rfl ?_
      refine ls_istore [some (.ref 37), some (.ref 32), some (.ref 38), some (.int x3), some (.int (x4 * (lm_i h 36 x5.toNatClampNeg))), some (.int x5)] f_80_80 (Nat.le_of_ble_eq_true rfl) rfl ?_
      refine ls_aload_n f_80_82 rfl ?_
      refine ls_getR f_80_83 p_80_18 (lm_Lay_si (lm_Lay_si (lm_Lay_si hl _ _ _) _ _ _) _ _ _) S_37 F_37_2 ?_
      refine ls_aload_n f_80_86 rfl ?_
      refine ls_getR f_80_87 p_80_9 (lm_Lay_si (lm_Lay_si (lm_Lay_si hl _ _ _) _ _ _) _ _ _) S_37 F_37_0 ?_
      refine ls_iload f_80_90 rfl ?_
      refine ls_iald f_80_92 (lm_Lay_si (lm_Lay_si (lm_Lay_si hl _ _ _) _ _ _) _ _ _) S_38 hyp (fun hyp => ?_)
      refine ls_top (lm_i h 35 (((x5 * 7) + 0).toNatClampNeg)) lm_iE ?_
      refine ls_dup2 f_80_93 rfl rfl ?_
      refine ls_iald f_80_94 (lm_Lay_si (lm_Lay_si (lm_Lay_si hl _ _ _) _ _ _) _ _ _) S_40 hyp (fun hyp => ?_)
      refine ls_top (lm_i h 40 ((lm_i h 35 (((x5 * 7) + 0).toNatClampNeg)).toNatClampNeg)) rfl ?_
      refine ls_iconst 1 f_80_95 (by decide) ?_
      refine ls_iload f_80_96 rfl ?_
      refine ls_ishl ((1 : Int32) <<< (x5 &&& 31)) f_80_98 rfl ?_
      refine ls_ior ((lm_i h 40 ((lm_i h 35 (((x5 * 7) + 0).toNatClampNeg)).toNatClampNeg)) ||| ((1 : Int32) <<< (x5 &&& 31))) f_80_99 rfl ?_
      refine ls_iast f_80_100 (lm_Lay_si (lm_Lay_si (lm_Lay_si hl _ _ _) _ _ _) _ _ _) S_40 hyp (fun hyp => ?_)
      refine ls_iinc (x5 + 1) [some (.ref 37), some (.ref 32), some (.ref 38), some (.int x3), some (.int (x4 * (lm_i h 36 x5.toNatClampNeg))), some (.int (x5 + 1))] f_80_101 rfl (Nat.le_of_ble_eq_true rfl) rfl rfl ?_
      refine ls_goto 14 f_80_104 rfl ?_
      exact hyp
    · refine ls_aload_n f_80_82 rfl ?_
      refine ls_getR f_80_83 p_80_18 (lm_Lay_si (lm_Lay_si hl _ _ _) _ _ _) S_37 F_37_2 ?_
      refine ls_aload_n f_80_86 rfl ?_
      refine ls_getR f_80_87 p_80_9 (lm_Lay_si (lm_Lay_si hl _ _ _) _ _ _) S_37 F_37_0 ?_
      refine ls_iload f_80_90 rfl ?_
      refine ls_iald f_80_92 (lm_Lay_si (lm_Lay_si hl _ _ _) _ _ _) S_38 hyp (fun hyp => ?_)
      refine ls_top (lm_i h 38 x5.toNatClampNeg) lm_iE ?_
      refine ls_dup2 f_80_93 rfl rfl ?_
      refine ls_iald f_80_94 (lm_Lay_si (lm_Lay_si hl _ _ _) _ _ _) S_40 hyp (fun hyp => ?_)
      refine ls_top (lm_i h 40 ((lm_i h 38 x5.toNatClampNeg).toNatClampNeg)) rfl ?_
      refine ls_iconst 1 f_80_95 (by decide) ?_
      refine ls_iload f_80_96 rfl ?_
      refine ls_ishl ((1 : Int32) <<< (x5 &&& 31)) f_80_98 rfl ?_
      refine ls_ior ((lm_i h 40 ((lm_i h 38 x5.toNatClampNeg).toNatClampNeg)) ||| ((1 : Int32) <<< (x5 &&& 31))) f_80_99 rfl ?_
      refine ls_iast f_80_100 (lm_Lay_si (lm_Lay_si hl _ _ _) _ _ _) S_40 hyp (fun hyp => ?_)
      refine ls_iinc (x5 + 1) [some (.ref 37), some (.ref 32), some (.ref 38), some (.int x3), some (.int x4), some (.int (x5 + 1))] f_80_101 rfl (Nat.le_of_ble_eq_true rfl) rfl rfl ?_
      refine ls_goto 14 f_80_104 rfl ?_
      exact hyp
  · refine ls_iload f_80_107 rfl ?_
    exact ls_ireturn f_80_109 rI_80 hyp
theorem e_81 {d : Nat} {h : lm_H} {K : lm_H → Prop} (x2 : Int32) (hl : lm_Lay h) (hyp : lm_W (d + 1) 81 7 [some (.ref 26), some (.ref 21), some (.int x2), some (.int ((lm_i h 21 0) - 1)), none] [] h (lm_kV K)) : lm_call (d + 2) 81 [.ref 26, .ref 21, .int x2] h (lm_kV K) := by
  refine ls_enter [some (.ref 26), some (.ref 21), some (.int x2), none, none] ml_81 (Nat.le_of_ble_eq_true rfl) rfl ?_
  refine ls_aload_n f_81_0 rfl ?_
  refine ls_getI f_81_1 p_81_30 hl S_21 ?_
  refine ls_iconst 1 f_81_4 (by decide) ?_
  refine ls_isub ((lm_i h 21 0) - 1) f_81_5 rfl ?_
  refine ls_istore_n [some (.ref 26), some (.ref 21), some (.int x2), some (.int ((lm_i h 21 0) - 1)), none] f_81_6 (Nat.le_of_ble_eq_true rfl) rfl ?_
  exact hyp
theorem b_81_7 {d : Nat} {h : lm_H} {K : lm_H → Prop} (x2 : Int32) (x3 : Int32) (hl : lm_Lay h) (hyp : (if x3 < 0 then (K h) else (if ((x2 >>> (x3 &&& 31)) &&& 1) = 1 then (lm_in x3 5 False (lm_in x3 5 False (if ((lm_i h 28 x3.toNatClampNeg) + 1) < (lm_i h 25 x3.toNatClampNeg) then (lm_in x3 5 False (lm_in x3 5 False (lm_in x3 5 False (lm_in (lm_i h 27 x3.toNatClampNeg) 7 False (lm_in (lm_i h 27 x3.toNatClampNeg) 7 False (lm_in x3 5 False (lm_in ((x3 * 7) + ((lm_i h 28 x3.toNatClampNeg) + 1)) 35 False (lm_in x3 5 False (lm_in x3 5 False (lm_in (lm_i h 24 (((x3 * 7) + ((lm_i h 28 x3.toNatClampNeg) + 1)).toNatClampNeg)) 7 False (lm_in (lm_i h 24 (((x3 * 7) + ((lm_i h 28 x3.toNatClampNeg) + 1)).toNatClampNeg)) 7 False (K (lm_si (lm_si (lm_si (lm_si h 28 x3.toNatClampNeg ((lm_i h 28 x3.toNatClampNeg) + 1)) 29 ((lm_i h 27 x3.toNatClampNeg).toNatClampNeg) ((lm_i h 29 ((lm_i h 27 x3.toNatClampNeg).toNatClampNeg)) &&& (((1 : Int32) <<< (x3 &&& 31)) ^^^ (-1)))) 27 x3.toNatClampNeg (lm_i h 24 (((x3 * 7) + ((lm_i h 28 x3.toNatClampNeg) + 1)).toNatClampNeg))) 29 ((lm_i h 24 (((x3 * 7) + ((lm_i h 28 x3.toNatClampNeg) + 1)).toNatClampNeg)).toNatClampNeg) ((lm_i (lm_si (lm_si h 28 x3.toNatClampNeg ((lm_i h 28 x3.toNatClampNeg) + 1)) 29 ((lm_i h 27 x3.toNatClampNeg).toNatClampNeg) ((lm_i h 29 ((lm_i h 27 x3.toNatClampNeg).toNatClampNeg)) &&& (((1 : Int32) <<< (x3 &&& 31)) ^^^ (-1)))) 29 ((lm_i h 24 (((x3 * 7) + ((lm_i h 28 x3.toNatClampNeg) + 1)).toNatClampNeg)).toNatClampNeg)) ||| ((1 : Int32) <<< (x3 &&& 31)))))))))))))))) else (lm_in x3 5 False (lm_in x3 5 False (lm_in (lm_i h 27 x3.toNatClampNeg) 7 False (lm_in (lm_i h 27 x3.toNatClampNeg) 7 False (lm_in x3 5 False (lm_in ((x3 * 7) + 0) 35 False (lm_in x3 5 False (lm_in x3 5 False (lm_in (lm_i h 24 (((x3 * 7) + 0).toNatClampNeg)) 7 False (lm_in (lm_i h 24 (((x3 * 7) + 0).toNatClampNeg)) 7 False (lm_W (d + 1) 81 7 [some (.ref 26), some (.ref 21), some (.int x2), some (.int (x3 - 1)), none] [] (lm_si (lm_si (lm_si (lm_si h 28 x3.toNatClampNeg 0) 29 ((lm_i h 27 x3.toNatClampNeg).toNatClampNeg) ((lm_i h 29 ((lm_i h 27 x3.toNatClampNeg).toNatClampNeg)) &&& (((1 : Int32) <<< (x3 &&& 31)) ^^^ (-1)))) 27 x3.toNatClampNeg (lm_i h 24 (((x3 * 7) + 0).toNatClampNeg))) 29 ((lm_i h 24 (((x3 * 7) + 0).toNatClampNeg)).toNatClampNeg) ((lm_i (lm_si (lm_si h 28 x3.toNatClampNeg 0) 29 ((lm_i h 27 x3.toNatClampNeg).toNatClampNeg) ((lm_i h 29 ((lm_i h 27 x3.toNatClampNeg).toNatClampNeg)) &&& (((1 : Int32) <<< (x3 &&& 31)) ^^^ (-1)))) 29 ((lm_i h 24 (((x3 * 7) + 0).toNatClampNeg)).toNatClampNeg)) ||| ((1 : Int32) <<< (x3 &&& 31)))) (lm_kV K))))))))))))))) else (lm_W (d + 1) 81 7 [some (.ref 26), some (.ref 21), some (.int x2), some (.int (x3 - 1)), none] [] h (lm_kV K))))) : lm_W (d + 1) 81 7 [some (.ref 26), some (.ref 21), some (.int x2), some (.int x3), none] [] h (lm_kV K) := by
  refine ls_iload_n f_81_7 rfl ?_
  refine ls_if_lt 136 f_81_8 rfl hyp (fun _ hyp => ?_) (fun _ hyp => ?_)
  · exact ls_return f_81_136 rV_81 hyp
  · refine ls_iload_n f_81_11 rfl ?_
    refine ls_iload_n f_81_12 rfl ?_
    refine ls_ishr (x2 >>> (x3 &&& 31)) f_81_13 rfl ?_
    refine ls_iconst 1 f_81_14 (by decide) ?_
    refine ls_iand ((x2 >>> (x3 &&& 31)) &&& 1) f_81_15 rfl ?_
    refine ls_iconst 1 f_81_16 (by decide) ?_
    refine ls_icmp_ne 130 f_81_17 rfl hyp (fun _ hyp => ?_) (fun _ hyp => ?_)
    · refine ls_aload_n f_81_20 rfl ?_
      refine ls_getR f_81_21 p_81_15 hl S_26 F_26_1 ?_
      refine ls_iload_n f_81_24 rfl ?_
      refine ls_iald f_81_25 hl S_28 hyp (fun hyp => ?_)
      refine ls_iconst 1 f_81_26 (by decide) ?_
      refine ls_iadd ((lm_i h 28 x3.toNatClampNeg) + 1) f_81_27 rfl ?_
      refine ls_aload_n f_81_28 rfl ?_
      refine ls_getR f_81_29 p_81_43 hl S_21 F_21_7 ?_
      refine ls_iload_n f_81_32 rfl ?_
      refine ls_iald f_81_33 hl S_25 hyp (fun hyp => ?_)
      refine ls_icmp_lt 41 f_81_34 rfl hyp (fun _ hyp => ?_) (fun _ hyp => ?_)
      · refine ls_iconst 0 f_81_41 (by decide) ?_
        refine ls_istore [some (.ref 26), some (.ref 21), some (.int x2), some (.int x3), some (.int 0)] f_81_42 (Nat.le_of_ble_eq_true rfl) rfl ?_
        refine ls_aload_n f_81_44 rfl ?_
        refine ls_getR f_81_45 p_81_15 hl S_26 F_26_1 ?_
        refine ls_iload_n f_81_48 rfl ?_
        refine ls_iload f_81_49 rfl ?_
        refine ls_if_eq_T 58 f_81_51 rfl (by decide) ?_
        refine ls_aload_n f_81_58 rfl ?_
        refine ls_getR f_81_59 p_81_15 hl S_26 F_26_1 ?_
        refine ls_iload_n f_81_62 rfl ?_
        refine ls_iald f_81_63 hl S_28 hyp (fun hyp => ?_)
        refine ls_iconst 1 f_81_64 (by decide) ?_
        refine ls_iadd ((lm_i h 28 x3.toNatClampNeg) + 1) f_81_65 rfl ?_
        refine ls_iast f_81_66 hl S_28 hyp (fun hyp => ?_)
        refine ls_aload_n f_81_67 rfl ?_
        refine ls_getR f_81_68 p_81_18 (lm_Lay_si hl _ _ _) S_26 F_26_2 ?_
        refine ls_aload_n f_81_71 rfl ?_
        refine ls_getR f_81_72 p_81_9 (lm_Lay_si hl _ _ _) S_26 F_26_0 ?_
        refine ls_iload_n f_81_75 rfl ?_
        refine ls_iald f_81_76 (lm_Lay_si hl _ _ _) S_27 hyp (fun hyp => ?_)
        refine ls_top (lm_i h 27 x3.toNatClampNeg) rfl ?_
        refine ls_dup2 f_81_77 rfl rfl ?_
        refine ls_iald f_81_78 (lm_Lay_si hl _ _ _) S_29 hyp (fun hyp => ?_)
        refine ls_top (lm_i h 29 ((lm_i h 27 x3.toNatClampNeg).toNatClampNeg)) rfl ?_
        refine ls_iconst 1 f_81_79 (by decide) ?_
        refine ls_iload_n f_81_80 rfl ?_
        refine ls_ishl ((1 : Int32) <<< (x3 &&& 31)) f_81_81 rfl ?_
        refine ls_iconst (-1) f_81_82 (by decide) ?_
        refine ls_ixor (((1 : Int32) <<< (x3 &&& 31)) ^^^ (-1)) f_81_83 rfl ?_
        refine ls_iand ((lm_i h 29 ((lm_i h 27 x3.toNatClampNeg).toNatClampNeg)) &&& (((1 : Int32) <<< (x3 &&& 31)) ^^^ (-1))) f_81_84 rfl ?_
        refine ls_iast f_81_85 (lm_Lay_si hl _ _ _) S_29 hyp (fun hyp => ?_)
        refine ls_aload_n f_81_86 rfl ?_
        refine ls_getR f_81_87 p_81_9 (lm_Lay_si (lm_Lay_si hl _ _ _) _ _ _) S_26 F_26_0 ?_
        refine ls_iload_n f_81_90 rfl ?_
        refine ls_aload_n f_81_91 rfl ?_
        refine ls_getR f_81_92 p_81_36 (lm_Lay_si (lm_Lay_si hl _ _ _) _ _ _) S_21 F_21_6 ?_
        refine ls_iload_n f_81_95 rfl ?_
        refine ls_aload_n f_81_96 rfl ?_
        refine ls_getR f_81_97 p_81_15 (lm_Lay_si (lm_Lay_si hl _ _ _) _ _ _) S_26 F_26_1 ?_
        refine ls_iload_n f_81_100 rfl ?_
        refine ls_iald f_81_101 (lm_Lay_si (lm_Lay_si hl _ _ _) _ _ _) S_28 hyp (fun hyp => ?_)
        refine ls_top ((lm_i h 28 x3.toNatClampNeg) + 1) (lm_iN (by decide) lm_iE) ?_
        refine ls_invS f_81_102 q_81_39 [.int x3, .int ((lm_i h 28 x3.toNatClampNeg) + 1)] [.ref 24, .int x3, .ref 27] rfl (Nat.le_of_ble_eq_true rfl) ?_
        refine ls_enter [some (.int x3), some (.int ((lm_i h 28 x3.toNatClampNeg) + 1))] ml_148 (Nat.le_of_ble_eq_true rfl) rfl ?_
        refine ls_iload_n f_148_0 rfl ?_
        refine ls_bipush 7 f_148_1 (by decide) ?_
        refine ls_imul (x3 * 7) f_148_3 rfl ?_
        refine ls_iload_n f_148_4 rfl ?_
        refine ls_iadd ((x3 * 7) + ((lm_i h 28 x3.toNatClampNeg) + 1)) f_148_5 rfl ?_
        refine ls_ireturn f_148_6 rI_148 ?_
        show lm_W _ _ _ _ [.int ((x3 * 7) + ((lm_i h 28 x3.toNatClampNeg) + 1)), .ref 24, .int x3, .ref 27] _ _
        refine ls_iald f_81_105 (lm_Lay_si (lm_Lay_si hl _ _ _) _ _ _) S_24 hyp (fun hyp => ?_)
        refine ls_top (lm_i h 24 (((x3 * 7) + ((lm_i h 28 x3.toNatClampNeg) + 1)).toNatClampNeg)) rfl ?_
        refine ls_iast f_81_106 (lm_Lay_si (lm_Lay_si hl _ _ _) _ _ _) S_27 hyp (fun hyp => ?_)
        refine ls_aload_n f_81_107 rfl ?_
        refine ls_getR f_81_108 p_81_18 (lm_Lay_si (lm_Lay_si (lm_Lay_si hl _ _ _) _ _ _) _ _ _) S_26 F_26_2 ?_
        refine ls_aload_n f_81_111 rfl ?_
        refine ls_getR f_81_112 p_81_9 (lm_Lay_si (lm_Lay_si (lm_Lay_si hl _ _ _) _ _ _) _ _ _) S_26 F_26_0 ?_
        refine ls_iload_n f_81_115 rfl ?_
        refine ls_iald f_81_116 (lm_Lay_si (lm_Lay_si (lm_Lay_si hl _ _ _) _ _ _) _ _ _) S_27 hyp (fun hyp => ?_)
        refine ls_top (lm_i h 24 (((x3 * 7) + ((lm_i h 28 x3.toNatClampNeg) + 1)).toNatClampNeg)) lm_iE ?_
        refine ls_dup2 f_81_117 rfl rfl ?_
        refine ls_iald f_81_118 (lm_Lay_si (lm_Lay_si (lm_Lay_si hl _ _ _) _ _ _) _ _ _) S_29 hyp (fun hyp => ?_)
        refine ls_top (lm_i (lm_si (lm_si h 28 x3.toNatClampNeg ((lm_i h 28 x3.toNatClampNeg) + 1)) 29 ((lm_i h 27 x3.toNatClampNeg).toNatClampNeg) ((lm_i h 29 ((lm_i h 27 x3.toNatClampNeg).toNatClampNeg)) &&& (((1 : Int32) <<< (x3 &&& 31)) ^^^ (-1)))) 29 ((lm_i h 24 (((x3 * 7) + ((lm_i h 28 x3.toNatClampNeg) + 1)).toNatClampNeg)).toNatClampNeg)) (lm_iN (by decide) rfl) ?_
        refine ls_iconst 1 f_81_119 (by decide) ?_
        refine ls_iload_n f_81_120 rfl ?_
        refine ls_ishl ((1 : Int32) <<< (x3 &&& 31)) f_81_121 rfl ?_
        refine ls_ior ((lm_i (lm_si (lm_si h 28 x3.toNatClampNeg ((lm_i h 28 x3.toNatClampNeg) + 1)) 29 ((lm_i h 27 x3.toNatClampNeg).toNatClampNeg) ((lm_i h 29 ((lm_i h 27 x3.toNatClampNeg).toNatClampNeg)) &&& (((1 : Int32) <<< (x3 &&& 31)) ^^^ (-1)))) 29 ((lm_i h 24 (((x3 * 7) + ((lm_i h 28 x3.toNatClampNeg) + 1)).toNatClampNeg)).toNatClampNeg)) ||| ((1 : Int32) <<< (x3 &&& 31))) f_81_122 rfl ?_
        refine ls_iast f_81_123 (lm_Lay_si (lm_Lay_si (lm_Lay_si hl _ _ _) _ _ _) _ _ _) S_29 hyp (fun hyp => ?_)
        refine ls_iload f_81_124 rfl ?_
        refine ls_if_ne_T 130 f_81_126 rfl (by decide) ?_
        exact ls_return f_81_129 rV_81 hyp
      · refine ls_iconst 1 f_81_37 (by decide) ?_
        refine ls_goto 42 f_81_38 rfl ?_
        refine ls_istore [some (.ref 26), some (.ref 21), some (.int x2), some (.int x3), some (.int 1)] f_81_42 (Nat.le_of_ble_eq_true rfl) rfl ?_
        refine ls_aload_n f_81_44 rfl ?_
        refine ls_getR f_81_45 p_81_15 hl S_26 F_26_1 ?_
        refine ls_iload_n f_81_48 rfl ?_
        refine ls_iload f_81_49 rfl ?_
        refine ls_if_eq_F 58 f_81_51 rfl (by decide) ?_
        refine ls_iconst 0 f_81_54 (by decide) ?_
        refine ls_goto 66 f_81_55 rfl ?_
        refine ls_iast f_81_66 hl S_28 hyp (fun hyp => ?_)
        refine ls_aload_n f_81_67 rfl ?_
        refine ls_getR f_81_68 p_81_18 (lm_Lay_si hl _ _ _) S_26 F_26_2 ?_
        refine ls_aload_n f_81_71 rfl ?_
        refine ls_getR f_81_72 p_81_9 (lm_Lay_si hl _ _ _) S_26 F_26_0 ?_
        refine ls_iload_n f_81_75 rfl ?_
        refine ls_iald f_81_76 (lm_Lay_si hl _ _ _) S_27 hyp (fun hyp => ?_)
        refine ls_top (lm_i h 27 x3.toNatClampNeg) rfl ?_
        refine ls_dup2 f_81_77 rfl rfl ?_
        refine ls_iald f_81_78 (lm_Lay_si hl _ _ _) S_29 hyp (fun hyp => ?_)
        refine ls_top (lm_i h 29 ((lm_i h 27 x3.toNatClampNeg).toNatClampNeg)) rfl ?_
        refine ls_iconst 1 f_81_79 (by decide) ?_
        refine ls_iload_n f_81_80 rfl ?_
        refine ls_ishl ((1 : Int32) <<< (x3 &&& 31)) f_81_81 rfl ?_
        refine ls_iconst (-1) f_81_82 (by decide) ?_
        refine ls_ixor (((1 : Int32) <<< (x3 &&& 31)) ^^^ (-1)) f_81_83 rfl ?_
        refine ls_iand ((lm_i h 29 ((lm_i h 27 x3.toNatClampNeg).toNatClampNeg)) &&& (((1 : Int32) <<< (x3 &&& 31)) ^^^ (-1))) f_81_84 rfl ?_
        refine ls_iast f_81_85 (lm_Lay_si hl _ _ _) S_29 hyp (fun hyp => ?_)
        refine ls_aload_n f_81_86 rfl ?_
        refine ls_getR f_81_87 p_81_9 (lm_Lay_si (lm_Lay_si hl _ _ _) _ _ _) S_26 F_26_0 ?_
        refine ls_iload_n f_81_90 rfl ?_
        refine ls_aload_n f_81_91 rfl ?_
        refine ls_getR f_81_92 p_81_36 (lm_Lay_si (lm_Lay_si hl _ _ _) _ _ _) S_21 F_21_6 ?_
        refine ls_iload_n f_81_95 rfl ?_
        refine ls_aload_n f_81_96 rfl ?_
        refine ls_getR f_81_97 p_81_15 (lm_Lay_si (lm_Lay_si hl _ _ _) _ _ _) S_26 F_26_1 ?_
        refine ls_iload_n f_81_100 rfl ?_
        refine ls_iald f_81_101 (lm_Lay_si (lm_Lay_si hl _ _ _) _ _ _) S_28 hyp (fun hyp => ?_)
        refine ls_top 0 (lm_iN (by decide) lm_iE) ?_
        refine ls_invS f_81_102 q_81_39 [.int x3, .int 0] [.ref 24, .int x3, .ref 27] rfl (Nat.le_of_ble_eq_true rfl) ?_
        refine ls_enter [some (.int x3), some (.int 0)] ml_148 (Nat.le_of_ble_eq_true rfl) rfl ?_
        refine ls_iload_n f_148_0 rfl ?_
        refine ls_bipush 7 f_148_1 (by decide) ?_
        refine ls_imul (x3 * 7) f_148_3 rfl ?_
        refine ls_iload_n f_148_4 rfl ?_
        refine ls_iadd ((x3 * 7) + 0) f_148_5 rfl ?_
        refine ls_ireturn f_148_6 rI_148 ?_
        show lm_W _ _ _ _ [.int ((x3 * 7) + 0), .ref 24, .int x3, .ref 27] _ _
        refine ls_iald f_81_105 (lm_Lay_si (lm_Lay_si hl _ _ _) _ _ _) S_24 hyp (fun hyp => ?_)
        refine ls_top (lm_i h 24 (((x3 * 7) + 0).toNatClampNeg)) rfl ?_
        refine ls_iast f_81_106 (lm_Lay_si (lm_Lay_si hl _ _ _) _ _ _) S_27 hyp (fun hyp => ?_)
        refine ls_aload_n f_81_107 rfl ?_
        refine ls_getR f_81_108 p_81_18 (lm_Lay_si (lm_Lay_si (lm_Lay_si hl _ _ _) _ _ _) _ _ _) S_26 F_26_2 ?_
        refine ls_aload_n f_81_111 rfl ?_
        refine ls_getR f_81_112 p_81_9 (lm_Lay_si (lm_Lay_si (lm_Lay_si hl _ _ _) _ _ _) _ _ _) S_26 F_26_0 ?_
        refine ls_iload_n f_81_115 rfl ?_
        refine ls_iald f_81_116 (lm_Lay_si (lm_Lay_si (lm_Lay_si hl _ _ _) _ _ _) _ _ _) S_27 hyp (fun hyp => ?_)
        refine ls_top (lm_i h 24 (((x3 * 7) + 0).toNatClampNeg)) lm_iE ?_
        refine ls_dup2 f_81_117 rfl rfl ?_
        refine ls_iald f_81_118 (lm_Lay_si (lm_Lay_si (lm_Lay_si hl _ _ _) _ _ _) _ _ _) S_29 hyp (fun hyp => ?_)
        refine ls_top (lm_i (lm_si (lm_si h 28 x3.toNatClampNeg 0) 29 ((lm_i h 27 x3.toNatClampNeg).toNatClampNeg) ((lm_i h 29 ((lm_i h 27 x3.toNatClampNeg).toNatClampNeg)) &&& (((1 : Int32) <<< (x3 &&& 31)) ^^^ (-1)))) 29 ((lm_i h 24 (((x3 * 7) + 0).toNatClampNeg)).toNatClampNeg)) (lm_iN (by decide) rfl) ?_
        refine ls_iconst 1 f_81_119 (by decide) ?_
        refine ls_iload_n f_81_120 rfl ?_
        refine ls_ishl ((1 : Int32) <<< (x3 &&& 31)) f_81_121 rfl ?_
        refine ls_ior ((lm_i (lm_si (lm_si h 28 x3.toNatClampNeg 0) 29 ((lm_i h 27 x3.toNatClampNeg).toNatClampNeg) ((lm_i h 29 ((lm_i h 27 x3.toNatClampNeg).toNatClampNeg)) &&& (((1 : Int32) <<< (x3 &&& 31)) ^^^ (-1)))) 29 ((lm_i h 24 (((x3 * 7) + 0).toNatClampNeg)).toNatClampNeg)) ||| ((1 : Int32) <<< (x3 &&& 31))) f_81_122 rfl ?_
        refine ls_iast f_81_123 (lm_Lay_si (lm_Lay_si (lm_Lay_si hl _ _ _) _ _ _) _ _ _) S_29 hyp (fun hyp => ?_)
        refine ls_iload f_81_124 rfl ?_
        refine ls_if_ne_F 130 f_81_126 rfl (by decide) ?_
        refine ls_iinc (x3 - 1) [some (.ref 26), some (.ref 21), some (.int x2), some (.int (x3 - 1)), some (.int 1)] f_81_130 rfl (Nat.le_of_ble_eq_true rfl) (lm_m1 _) rfl ?_
        refine ls_goto 7 f_81_133 rfl ?_
        exact ls_mask [true, true, true, true, false] [some (.ref 26), some (.ref 21), some (.int x2), some (.int (x3 - 1)), none] rfl hyp
    · refine ls_iinc (x3 - 1) [some (.ref 26), some (.ref 21), some (.int x2), some (.int (x3 - 1)), none] f_81_130 rfl (Nat.le_of_ble_eq_true rfl) (lm_m1 _) rfl ?_
      refine ls_goto 7 f_81_133 rfl ?_
      exact hyp
theorem e_81s {d : Nat} {h : lm_H} {K : lm_H → Prop} (x2 : Int32) (hl : lm_Lay h) (hyp : lm_W (d + 1) 81 7 [some (.ref 37), some (.ref 32), some (.int x2), some (.int ((lm_i h 32 0) - 1)), none] [] h (lm_kV K)) : lm_call (d + 2) 81 [.ref 37, .ref 32, .int x2] h (lm_kV K) := by
  refine ls_enter [some (.ref 37), some (.ref 32), some (.int x2), none, none] ml_81 (Nat.le_of_ble_eq_true rfl) rfl ?_
  refine ls_aload_n f_81_0 rfl ?_
  refine ls_getI f_81_1 p_81_30 hl S_32 ?_
  refine ls_iconst 1 f_81_4 (by decide) ?_
  refine ls_isub ((lm_i h 32 0) - 1) f_81_5 rfl ?_
  refine ls_istore_n [some (.ref 37), some (.ref 32), some (.int x2), some (.int ((lm_i h 32 0) - 1)), none] f_81_6 (Nat.le_of_ble_eq_true rfl) rfl ?_
  exact hyp
theorem b_81s_7 {d : Nat} {h : lm_H} {K : lm_H → Prop} (x2 : Int32) (x3 : Int32) (hl : lm_Lay h) (hyp : (if x3 < 0 then (K h) else (if ((x2 >>> (x3 &&& 31)) &&& 1) = 1 then (lm_in x3 5 False (lm_in x3 5 False (if ((lm_i h 39 x3.toNatClampNeg) + 1) < (lm_i h 36 x3.toNatClampNeg) then (lm_in x3 5 False (lm_in x3 5 False (lm_in x3 5 False (lm_in (lm_i h 38 x3.toNatClampNeg) 7 False (lm_in (lm_i h 38 x3.toNatClampNeg) 7 False (lm_in x3 5 False (lm_in ((x3 * 7) + ((lm_i h 39 x3.toNatClampNeg) + 1)) 35 False (lm_in x3 5 False (lm_in x3 5 False (lm_in (lm_i h 35 (((x3 * 7) + ((lm_i h 39 x3.toNatClampNeg) + 1)).toNatClampNeg)) 7 False (lm_in (lm_i h 35 (((x3 * 7) + ((lm_i h 39 x3.toNatClampNeg) + 1)).toNatClampNeg)) 7 False (K (lm_si (lm_si (lm_si (lm_si h 39 x3.toNatClampNeg ((lm_i h 39 x3.toNatClampNeg) + 1)) 40 ((lm_i h 38 x3.toNatClampNeg).toNatClampNeg) ((lm_i h 40 ((lm_i h 38 x3.toNatClampNeg).toNatClampNeg)) &&& (((1 : Int32) <<< (x3 &&& 31)) ^^^ (-1)))) 38 x3.toNatClampNeg (lm_i h 35 (((x3 * 7) + ((lm_i h 39 x3.toNatClampNeg) + 1)).toNatClampNeg))) 40 ((lm_i h 35 (((x3 * 7) + ((lm_i h 39 x3.toNatClampNeg) + 1)).toNatClampNeg)).toNatClampNeg) ((lm_i (lm_si (lm_si h 39 x3.toNatClampNeg ((lm_i h 39 x3.toNatClampNeg) + 1)) 40 ((lm_i h 38 x3.toNatClampNeg).toNatClampNeg) ((lm_i h 40 ((lm_i h 38 x3.toNatClampNeg).toNatClampNeg)) &&& (((1 : Int32) <<< (x3 &&& 31)) ^^^ (-1)))) 40 ((lm_i h 35 (((x3 * 7) + ((lm_i h 39 x3.toNatClampNeg) + 1)).toNatClampNeg)).toNatClampNeg)) ||| ((1 : Int32) <<< (x3 &&& 31)))))))))))))))) else (lm_in x3 5 False (lm_in x3 5 False (lm_in (lm_i h 38 x3.toNatClampNeg) 7 False (lm_in (lm_i h 38 x3.toNatClampNeg) 7 False (lm_in x3 5 False (lm_in ((x3 * 7) + 0) 35 False (lm_in x3 5 False (lm_in x3 5 False (lm_in (lm_i h 35 (((x3 * 7) + 0).toNatClampNeg)) 7 False (lm_in (lm_i h 35 (((x3 * 7) + 0).toNatClampNeg)) 7 False (lm_W (d + 1) 81 7 [some (.ref 37), some (.ref 32), some (.int x2), some (.int (x3 - 1)), none] [] (lm_si (lm_si (lm_si (lm_si h 39 x3.toNatClampNeg 0) 40 ((lm_i h 38 x3.toNatClampNeg).toNatClampNeg) ((lm_i h 40 ((lm_i h 38 x3.toNatClampNeg).toNatClampNeg)) &&& (((1 : Int32) <<< (x3 &&& 31)) ^^^ (-1)))) 38 x3.toNatClampNeg (lm_i h 35 (((x3 * 7) + 0).toNatClampNeg))) 40 ((lm_i h 35 (((x3 * 7) + 0).toNatClampNeg)).toNatClampNeg) ((lm_i (lm_si (lm_si h 39 x3.toNatClampNeg 0) 40 ((lm_i h 38 x3.toNatClampNeg).toNatClampNeg) ((lm_i h 40 ((lm_i h 38 x3.toNatClampNeg).toNatClampNeg)) &&& (((1 : Int32) <<< (x3 &&& 31)) ^^^ (-1)))) 40 ((lm_i h 35 (((x3 * 7) + 0).toNatClampNeg)).toNatClampNeg)) ||| ((1 : Int32) <<< (x3 &&& 31)))) (lm_kV K))))))))))))))) else (lm_W (d + 1) 81 7 [some (.ref 37), some (.ref 32), some (.int x2), some (.int (x3 - 1)), none] [] h (lm_kV K))))) : lm_W (d + 1) 81 7 [some (.ref 37), some (.ref 32), some (.int x2), some (.int x3), none] [] h (lm_kV K) := by
  refine ls_iload_n f_81_7 rfl ?_
  refine ls_if_lt 136 f_81_8 rfl hyp (fun _ hyp => ?_) (fun _ hyp => ?_)
  · exact ls_return f_81_136 rV_81 hyp
  · refine ls_iload_n f_81_11 rfl ?_
    refine ls_iload_n f_81_12 rfl ?_
    refine ls_ishr (x2 >>> (x3 &&& 31)) f_81_13 rfl ?_
    refine ls_iconst 1 f_81_14 (by decide) ?_
    refine ls_iand ((x2 >>> (x3 &&& 31)) &&& 1) f_81_15 rfl ?_
    refine ls_iconst 1 f_81_16 (by decide) ?_
    refine ls_icmp_ne 130 f_81_17 rfl hyp (fun _ hyp => ?_) (fun _ hyp => ?_)
    · refine ls_aload_n f_81_20 rfl ?_
      refine ls_getR f_81_21 p_81_15 hl S_37 F_37_1 ?_
      refine ls_iload_n f_81_24 rfl ?_
      refine ls_iald f_81_25 hl S_39 hyp (fun hyp => ?_)
      refine ls_iconst 1 f_81_26 (by decide) ?_
      refine ls_iadd ((lm_i h 39 x3.toNatClampNeg) + 1) f_81_27 rfl ?_
      refine ls_aload_n f_81_28 rfl ?_
      refine ls_getR f_81_29 p_81_43 hl S_32 F_32_7 ?_
      refine ls_iload_n f_81_32 rfl ?_
      refine ls_iald f_81_33 hl S_36 hyp (fun hyp => ?_)
      refine ls_icmp_lt 41 f_81_34 rfl hyp (fun _ hyp => ?_) (fun _ hyp => ?_)
      · refine ls_iconst 0 f_81_41 (by decide) ?_
        refine ls_istore [some (.ref 37), some (.ref 32), some (.int x2), some (.int x3), some (.int 0)] f_81_42 (Nat.le_of_ble_eq_true rfl) rfl ?_
        refine ls_aload_n f_81_44 rfl ?_
        refine ls_getR f_81_45 p_81_15 hl S_37 F_37_1 ?_
        refine ls_iload_n f_81_48 rfl ?_
        refine ls_iload f_81_49 rfl ?_
        refine ls_if_eq_T 58 f_81_51 rfl (by decide) ?_
        refine ls_aload_n f_81_58 rfl ?_
        refine ls_getR f_81_59 p_81_15 hl S_37 F_37_1 ?_
        refine ls_iload_n f_81_62 rfl ?_
        refine ls_iald f_81_63 hl S_39 hyp (fun hyp => ?_)
        refine ls_iconst 1 f_81_64 (by decide) ?_
        refine ls_iadd ((lm_i h 39 x3.toNatClampNeg) + 1) f_81_65 rfl ?_
        refine ls_iast f_81_66 hl S_39 hyp (fun hyp => ?_)
        refine ls_aload_n f_81_67 rfl ?_
        refine ls_getR f_81_68 p_81_18 (lm_Lay_si hl _ _ _) S_37 F_37_2 ?_
        refine ls_aload_n f_81_71 rfl ?_
        refine ls_getR f_81_72 p_81_9 (lm_Lay_si hl _ _ _) S_37 F_37_0 ?_
        refine ls_iload_n f_81_75 rfl ?_
        refine ls_iald f_81_76 (lm_Lay_si hl _ _ _) S_38 hyp (fun hyp => ?_)
        refine ls_top (lm_i h 38 x3.toNatClampNeg) rfl ?_
        refine ls_dup2 f_81_77 rfl rfl ?_
        refine ls_iald f_81_78 (lm_Lay_si hl _ _ _) S_40 hyp (fun hyp => ?_)
        refine ls_top (lm_i h 40 ((lm_i h 38 x3.toNatClampNeg).toNatClampNeg)) rfl ?_
        refine ls_iconst 1 f_81_79 (by decide) ?_
        refine ls_iload_n f_81_80 rfl ?_
        refine ls_ishl ((1 : Int32) <<< (x3 &&& 31)) f_81_81 rfl ?_
        refine ls_iconst (-1) f_81_82 (by decide) ?_
        refine ls_ixor (((1 : Int32) <<< (x3 &&& 31)) ^^^ (-1)) f_81_83 rfl ?_
        refine ls_iand ((lm_i h 40 ((lm_i h 38 x3.toNatClampNeg).toNatClampNeg)) &&& (((1 : Int32) <<< (x3 &&& 31)) ^^^ (-1))) f_81_84 rfl ?_
        refine ls_iast f_81_85 (lm_Lay_si hl _ _ _) S_40 hyp (fun hyp => ?_)
        refine ls_aload_n f_81_86 rfl ?_
        refine ls_getR f_81_87 p_81_9 (lm_Lay_si (lm_Lay_si hl _ _ _) _ _ _) S_37 F_37_0 ?_
        refine ls_iload_n f_81_90 rfl ?_
        refine ls_aload_n f_81_91 rfl ?_
        refine ls_getR f_81_92 p_81_36 (lm_Lay_si (lm_Lay_si hl _ _ _) _ _ _) S_32 F_32_6 ?_
        refine ls_iload_n f_81_95 rfl ?_
        refine ls_aload_n f_81_96 rfl ?_
        refine ls_getR f_81_97 p_81_15 (lm_Lay_si (lm_Lay_si hl _ _ _) _ _ _) S_37 F_37_1 ?_
        refine ls_iload_n f_81_100 rfl ?_
        refine ls_iald f_81_101 (lm_Lay_si (lm_Lay_si hl _ _ _) _ _ _) S_39 hyp (fun hyp => ?_)
        refine ls_top ((lm_i h 39 x3.toNatClampNeg) + 1) (lm_iN (by decide) lm_iE) ?_
        refine ls_invS f_81_102 q_81_39 [.int x3, .int ((lm_i h 39 x3.toNatClampNeg) + 1)] [.ref 35, .int x3, .ref 38] rfl (Nat.le_of_ble_eq_true rfl) ?_
        refine ls_enter [some (.int x3), some (.int ((lm_i h 39 x3.toNatClampNeg) + 1))] ml_148 (Nat.le_of_ble_eq_true rfl) rfl ?_
        refine ls_iload_n f_148_0 rfl ?_
        refine ls_bipush 7 f_148_1 (by decide) ?_
        refine ls_imul (x3 * 7) f_148_3 rfl ?_
        refine ls_iload_n f_148_4 rfl ?_
        refine ls_iadd ((x3 * 7) + ((lm_i h 39 x3.toNatClampNeg) + 1)) f_148_5 rfl ?_
        refine ls_ireturn f_148_6 rI_148 ?_
        show lm_W _ _ _ _ [.int ((x3 * 7) + ((lm_i h 39 x3.toNatClampNeg) + 1)), .ref 35, .int x3, .ref 38] _ _
        refine ls_iald f_81_105 (lm_Lay_si (lm_Lay_si hl _ _ _) _ _ _) S_35 hyp (fun hyp => ?_)
        refine ls_top (lm_i h 35 (((x3 * 7) + ((lm_i h 39 x3.toNatClampNeg) + 1)).toNatClampNeg)) rfl ?_
        refine ls_iast f_81_106 (lm_Lay_si (lm_Lay_si hl _ _ _) _ _ _) S_38 hyp (fun hyp => ?_)
        refine ls_aload_n f_81_107 rfl ?_
        refine ls_getR f_81_108 p_81_18 (lm_Lay_si (lm_Lay_si (lm_Lay_si hl _ _ _) _ _ _) _ _ _) S_37 F_37_2 ?_
        refine ls_aload_n f_81_111 rfl ?_
        refine ls_getR f_81_112 p_81_9 (lm_Lay_si (lm_Lay_si (lm_Lay_si hl _ _ _) _ _ _) _ _ _) S_37 F_37_0 ?_
        refine ls_iload_n f_81_115 rfl ?_
        refine ls_iald f_81_116 (lm_Lay_si (lm_Lay_si (lm_Lay_si hl _ _ _) _ _ _) _ _ _) S_38 hyp (fun hyp => ?_)
        refine ls_top (lm_i h 35 (((x3 * 7) + ((lm_i h 39 x3.toNatClampNeg) + 1)).toNatClampNeg)) lm_iE ?_
        refine ls_dup2 f_81_117 rfl rfl ?_
        refine ls_iald f_81_118 (lm_Lay_si (lm_Lay_si (lm_Lay_si hl _ _ _) _ _ _) _ _ _) S_40 hyp (fun hyp => ?_)
        refine ls_top (lm_i (lm_si (lm_si h 39 x3.toNatClampNeg ((lm_i h 39 x3.toNatClampNeg) + 1)) 40 ((lm_i h 38 x3.toNatClampNeg).toNatClampNeg) ((lm_i h 40 ((lm_i h 38 x3.toNatClampNeg).toNatClampNeg)) &&& (((1 : Int32) <<< (x3 &&& 31)) ^^^ (-1)))) 40 ((lm_i h 35 (((x3 * 7) + ((lm_i h 39 x3.toNatClampNeg) + 1)).toNatClampNeg)).toNatClampNeg)) (lm_iN (by decide) rfl) ?_
        refine ls_iconst 1 f_81_119 (by decide) ?_
        refine ls_iload_n f_81_120 rfl ?_
        refine ls_ishl ((1 : Int32) <<< (x3 &&& 31)) f_81_121 rfl ?_
        refine ls_ior ((lm_i (lm_si (lm_si h 39 x3.toNatClampNeg ((lm_i h 39 x3.toNatClampNeg) + 1)) 40 ((lm_i h 38 x3.toNatClampNeg).toNatClampNeg) ((lm_i h 40 ((lm_i h 38 x3.toNatClampNeg).toNatClampNeg)) &&& (((1 : Int32) <<< (x3 &&& 31)) ^^^ (-1)))) 40 ((lm_i h 35 (((x3 * 7) + ((lm_i h 39 x3.toNatClampNeg) + 1)).toNatClampNeg)).toNatClampNeg)) ||| ((1 : Int32) <<< (x3 &&& 31))) f_81_122 rfl ?_
        refine ls_iast f_81_123 (lm_Lay_si (lm_Lay_si (lm_Lay_si hl _ _ _) _ _ _) _ _ _) S_40 hyp (fun hyp => ?_)
        refine ls_iload f_81_124 rfl ?_
        refine ls_if_ne_T 130 f_81_126 rfl (by decide) ?_
        exact ls_return f_81_129 rV_81 hyp
      · refine ls_iconst 1 f_81_37 (by decide) ?_
        refine ls_goto 42 f_81_38 rfl ?_
        refine ls_istore [some (.ref 37), some (.ref 32), some (.int x2), some (.int x3), some (.int 1)] f_81_42 (Nat.le_of_ble_eq_true rfl) rfl ?_
        refine ls_aload_n f_81_44 rfl ?_
        refine ls_getR f_81_45 p_81_15 hl S_37 F_37_1 ?_
        refine ls_iload_n f_81_48 rfl ?_
        refine ls_iload f_81_49 rfl ?_
        refine ls_if_eq_F 58 f_81_51 rfl (by decide) ?_
        refine ls_iconst 0 f_81_54 (by decide) ?_
        refine ls_goto 66 f_81_55 rfl ?_
        refine ls_iast f_81_66 hl S_39 hyp (fun hyp => ?_)
        refine ls_aload_n f_81_67 rfl ?_
        refine ls_getR f_81_68 p_81_18 (lm_Lay_si hl _ _ _) S_37 F_37_2 ?_
        refine ls_aload_n f_81_71 rfl ?_
        refine ls_getR f_81_72 p_81_9 (lm_Lay_si hl _ _ _) S_37 F_37_0 ?_
        refine ls_iload_n f_81_75 rfl ?_
        refine ls_iald f_81_76 (lm_Lay_si hl _ _ _) S_38 hyp (fun hyp => ?_)
        refine ls_top (lm_i h 38 x3.toNatClampNeg) rfl ?_
        refine ls_dup2 f_81_77 rfl rfl ?_
        refine ls_iald f_81_78 (lm_Lay_si hl _ _ _) S_40 hyp (fun hyp => ?_)
        refine ls_top (lm_i h 40 ((lm_i h 38 x3.toNatClampNeg).toNatClampNeg)) rfl ?_
        refine ls_iconst 1 f_81_79 (by decide) ?_
        refine ls_iload_n f_81_80 rfl ?_
        refine ls_ishl ((1 : Int32) <<< (x3 &&& 31)) f_81_81 rfl ?_
        refine ls_iconst (-1) f_81_82 (by decide) ?_
        refine ls_ixor (((1 : Int32) <<< (x3 &&& 31)) ^^^ (-1)) f_81_83 rfl ?_
        refine ls_iand ((lm_i h 40 ((lm_i h 38 x3.toNatClampNeg).toNatClampNeg)) &&& (((1 : Int32) <<< (x3 &&& 31)) ^^^ (-1))) f_81_84 rfl ?_
        refine ls_iast f_81_85 (lm_Lay_si hl _ _ _) S_40 hyp (fun hyp => ?_)
        refine ls_aload_n f_81_86 rfl ?_
        refine ls_getR f_81_87 p_81_9 (lm_Lay_si (lm_Lay_si hl _ _ _) _ _ _) S_37 F_37_0 ?_
        refine ls_iload_n f_81_90 rfl ?_
        refine ls_aload_n f_81_91 rfl ?_
        refine ls_getR f_81_92 p_81_36 (lm_Lay_si (lm_Lay_si hl _ _ _) _ _ _) S_32 F_32_6 ?_
        refine ls_iload_n f_81_95 rfl ?_
        refine ls_aload_n f_81_96 rfl ?_
        refine ls_getR f_81_97 p_81_15 (lm_Lay_si (lm_Lay_si hl _ _ _) _ _ _) S_37 F_37_1 ?_
        refine ls_iload_n f_81_100 rfl ?_
        refine ls_iald f_81_101 (lm_Lay_si (lm_Lay_si hl _ _ _) _ _ _) S_39 hyp (fun hyp => ?_)
        refine ls_top 0 (lm_iN (by decide) lm_iE) ?_
        refine ls_invS f_81_102 q_81_39 [.int x3, .int 0] [.ref 35, .int x3, .ref 38] rfl (Nat.le_of_ble_eq_true rfl) ?_
        refine ls_enter [some (.int x3), some (.int 0)] ml_148 (Nat.le_of_ble_eq_true rfl) rfl ?_
        refine ls_iload_n f_148_0 rfl ?_
        refine ls_bipush 7 f_148_1 (by decide) ?_
        refine ls_imul (x3 * 7) f_148_3 rfl ?_
        refine ls_iload_n f_148_4 rfl ?_
        refine ls_iadd ((x3 * 7) + 0) f_148_5 rfl ?_
        refine ls_ireturn f_148_6 rI_148 ?_
        show lm_W _ _ _ _ [.int ((x3 * 7) + 0), .ref 35, .int x3, .ref 38] _ _
        refine ls_iald f_81_105 (lm_Lay_si (lm_Lay_si hl _ _ _) _ _ _) S_35 hyp (fun hyp => ?_)
        refine ls_top (lm_i h 35 (((x3 * 7) + 0).toNatClampNeg)) rfl ?_
        refine ls_iast f_81_106 (lm_Lay_si (lm_Lay_si hl _ _ _) _ _ _) S_38 hyp (fun hyp => ?_)
        refine ls_aload_n f_81_107 rfl ?_
        refine ls_getR f_81_108 p_81_18 (lm_Lay_si (lm_Lay_si (lm_Lay_si hl _ _ _) _ _ _) _ _ _) S_37 F_37_2 ?_
        refine ls_aload_n f_81_111 rfl ?_
        refine ls_getR f_81_112 p_81_9 (lm_Lay_si (lm_Lay_si (lm_Lay_si hl _ _ _) _ _ _) _ _ _) S_37 F_37_0 ?_
        refine ls_iload_n f_81_115 rfl ?_
        refine ls_iald f_81_116 (lm_Lay_si (lm_Lay_si (lm_Lay_si hl _ _ _) _ _ _) _ _ _) S_38 hyp (fun hyp => ?_)
        refine ls_top (lm_i h 35 (((x3 * 7) + 0).toNatClampNeg)) lm_iE ?_
        refine ls_dup2 f_81_117 rfl rfl ?_
        refine ls_iald f_81_118 (lm_Lay_si (lm_Lay_si (lm_Lay_si hl _ _ _) _ _ _) _ _ _) S_40 hyp (fun hyp => ?_)
        refine ls_top (lm_i (lm_si (lm_si h 39 x3.toNatClampNeg 0) 40 ((lm_i h 38 x3.toNatClampNeg).toNatClampNeg) ((lm_i h 40 ((lm_i h 38 x3.toNatClampNeg).toNatClampNeg)) &&& (((1 : Int32) <<< (x3 &&& 31)) ^^^ (-1)))) 40 ((lm_i h 35 (((x3 * 7) + 0).toNatClampNeg)).toNatClampNeg)) (lm_iN (by decide) rfl) ?_
        refine ls_iconst 1 f_81_119 (by decide) ?_
        refine ls_iload_n f_81_120 rfl ?_
        refine ls_ishl ((1 : Int32) <<< (x3 &&& 31)) f_81_121 rfl ?_
        refine ls_ior ((lm_i (lm_si (lm_si h 39 x3.toNatClampNeg 0) 40 ((lm_i h 38 x3.toNatClampNeg).toNatClampNeg) ((lm_i h 40 ((lm_i h 38 x3.toNatClampNeg).toNatClampNeg)) &&& (((1 : Int32) <<< (x3 &&& 31)) ^^^ (-1)))) 40 ((lm_i h 35 (((x3 * 7) + 0).toNatClampNeg)).toNatClampNeg)) ||| ((1 : Int32) <<< (x3 &&& 31))) f_81_122 rfl ?_
        refine ls_iast f_81_123 (lm_Lay_si (lm_Lay_si (lm_Lay_si hl _ _ _) _ _ _) _ _ _) S_40 hyp (fun hyp => ?_)
        refine ls_iload f_81_124 rfl ?_
        refine ls_if_ne_F 130 f_81_126 rfl (by decide) ?_
        refine ls_iinc (x3 - 1) [some (.ref 37), some (.ref 32), some (.int x2), some (.int (x3 - 1)), some (.int 1)] f_81_130 rfl (Nat.le_of_ble_eq_true rfl) (lm_m1 _) rfl ?_
        refine ls_goto 7 f_81_133 rfl ?_
        exact ls_mask [true, true, true, true, false] [some (.ref 37), some (.ref 32), some (.int x2), some (.int (x3 - 1)), none] rfl hyp
    · refine ls_iinc (x3 - 1) [some (.ref 37), some (.ref 32), some (.int x2), some (.int (x3 - 1)), none] f_81_130 rfl (Nat.le_of_ble_eq_true rfl) (lm_m1 _) rfl ?_
      refine ls_goto 7 f_81_133 rfl ?_
      exact hyp
theorem e_82 {d : Nat} {h : lm_H} {K : Int32 → lm_H → Prop} (x2 : Int32) (hl : lm_Lay h) (hyp : lm_in x2 5 False (lm_in x2 5 False (lm_in (lm_i h 27 x2.toNatClampNeg) 7 False (lm_call (d) 68 [.ref 21, .int x2, .int (lm_i h 27 x2.toNatClampNeg), .int (lm_i h 29 ((lm_i h 27 x2.toNatClampNeg).toNatClampNeg))] h (lm_kI fun r2 h1 => K r2 h1))))) : lm_call (d + 1) 82 [.ref 26, .ref 21, .int x2] h (lm_kI K) := by
  refine ls_enter [some (.ref 26), some (.ref 21), some (.int x2)] ml_82 (Nat.le_of_ble_eq_true rfl) rfl ?_
  refine ls_aload_n f_82_0 rfl ?_
  refine ls_iload_n f_82_1 rfl ?_
  refine ls_aload_n f_82_2 rfl ?_
  refine ls_getR f_82_3 p_82_9 hl S_26 F_26_0 ?_
  refine ls_iload_n f_82_6 rfl ?_
  refine ls_iald f_82_7 hl S_27 hyp (fun hyp => ?_)
  refine ls_aload_n f_82_8 rfl ?_
  refine ls_getR f_82_9 p_82_18 hl S_26 F_26_2 ?_
  refine ls_aload_n f_82_12 rfl ?_
  refine ls_getR f_82_13 p_82_9 hl S_26 F_26_0 ?_
  refine ls_iload_n f_82_16 rfl ?_
  refine ls_iald f_82_17 hl S_27 hyp (fun hyp => ?_)
  refine ls_iald f_82_18 hl S_29 hyp (fun hyp => ?_)
  refine ls_invV (a := 21) f_82_19 q_82_46 [.int x2, .int (lm_i h 27 x2.toNatClampNeg), .int (lm_i h 29 ((lm_i h 27 x2.toNatClampNeg).toNatClampNeg))] [] rfl (Nat.le_of_ble_eq_true rfl) hl S_21 ow_68 ?_
  refine ls_call hyp hl (fun _ h1 hl1 hyp => ?_)
  refine ls_retI hyp (fun r2 hyp => ?_)
  exact ls_ireturn f_82_22 rI_82 hyp
theorem e_83 {d : Nat} {h : lm_H} {K : Int32 → lm_H → Prop} (x3 : Int32) (hl : lm_Lay h) (hyp : lm_W (d) 83 3 [some (.ref 26), some (.ref 21), some (.ref 73), some (.int x3), some (.int 0), none] [] h (lm_kI K)) : lm_call (d + 1) 83 [.ref 26, .ref 21, .ref 73, .int x3] h (lm_kI K) := by
  refine ls_enter [some (.ref 26), some (.ref 21), some (.ref 73), some (.int x3), none, none] ml_83 (Nat.le_of_ble_eq_true rfl) rfl ?_
  refine ls_iconst 0 f_83_0 (by decide) ?_
  refine ls_istore [some (.ref 26), some (.ref 21), some (.ref 73), some (.int x3), some (.int 0), none] f_83_1 (Nat.le_of_ble_eq_true rfl) rfl ?_
  exact hyp
theorem b_83_3 {d : Nat} {h : lm_H} {K : Int32 → lm_H → Prop} (x3 : Int32) (x4 : Int32) (hl : lm_Lay h) (hyp : (if x4 < (lm_i h 21 0) then (lm_in x4 5 False (lm_call (d) 71 [.ref 21, .ref 73, .int x4, .int (lm_i h 73 x4.toNatClampNeg)] h (lm_kI fun r2 h1 => lm_in x4 5 False (lm_W (d) 83 3 [some (.ref 26), some (.ref 21), some (.ref 73), some (.int x3), some (.int (x4 + 1)), none] [] (lm_si h1 30 x4.toNatClampNeg r2) (lm_kI K))))) else (lm_call (d) 80 [.ref 26, .ref 21, .ref 73, .int x3] h (lm_kI fun r4 h3 => lm_W (d) 83 48 [some (.ref 26), some (.ref 21), none, some (.int x3), some (.int r4), some (.int 0)] [] h3 (lm_kI K))))) : lm_W (d) 83 3 [some (.ref 26), some (.ref 21), some (.ref 73), some (.int x3), some (.int x4), none] [] h (lm_kI K) := by
  refine ls_iload f_83_3 rfl ?_
  refine ls_aload_n f_83_5 rfl ?_
  refine ls_getI f_83_6 p_83_30 hl S_21 ?_
  refine ls_icmp_ge 36 f_83_9 rfl hyp (fun _ hyp => ?_) (fun _ hyp => ?_)
  · refine ls_aload_n f_83_12 rfl ?_
    refine ls_getR f_83_13 p_83_21 hl S_26 F_26_3 ?_
    refine ls_iload f_83_16 rfl ?_
    refine ls_aload_n f_83_18 rfl ?_
    refine ls_aload_n f_83_19 rfl ?_
    refine ls_iload f_83_20 rfl ?_
    refine ls_aload_n f_83_22 rfl ?_
    refine ls_iload f_83_23 rfl ?_
    refine ls_iald f_83_25 hl S_73 hyp (fun hyp => ?_)
    refine ls_invV (a := 21) f_83_26 q_83_50 [.ref 73, .int x4, .int (lm_i h 73 x4.toNatClampNeg)] [.int x4, .ref 30] rfl (Nat.le_of_ble_eq_true rfl) hl S_21 ow_71 ?_
    refine ls_call hyp hl (fun _ h1 hl1 hyp => ?_)
    refine ls_retI hyp (fun r2 hyp => ?_)
    refine ls_iast f_83_29 hl1 S_30 hyp (fun hyp => ?_)
    refine ls_iinc (x4 + 1) [some (.ref 26), some (.ref 21), some (.ref 73), some (.int x3), some (.int (x4 + 1)), none] f_83_30 rfl (Nat.le_of_ble_eq_true rfl) rfl rfl ?_
    refine ls_goto 3 f_83_33 rfl ?_
    exact hyp
  · refine ls_aload_n f_83_36 rfl ?_
    refine ls_aload_n f_83_37 rfl ?_
    refine ls_aload_n f_83_38 rfl ?_
    refine ls_iload_n f_83_39 rfl ?_
    refine ls_invV (a := 26) f_83_40 q_83_54 [.ref 21, .ref 73, .int x3] [] rfl (Nat.le_of_ble_eq_true rfl) hl S_26 ow_80 ?_
    refine ls_call hyp hl (fun _ h3 hl3 hyp => ?_)
    refine ls_retI hyp (fun r4 hyp => ?_)
    refine ls_istore [some (.ref 26), some (.ref 21), some (.ref 73), some (.int x3), some (.int r4), none] f_83_43 (Nat.le_of_ble_eq_true rfl) rfl ?_
    refine ls_iconst 0 f_83_45 (by decide) ?_
    refine ls_istore [some (.ref 26), some (.ref 21), some (.ref 73), some (.int x3), some (.int r4), some (.int 0)] f_83_46 (Nat.le_of_ble_eq_true rfl) rfl ?_
    exact ls_mask [true, true, false, true, true, true] [some (.ref 26), some (.ref 21), none, some (.int x3), some (.int r4), some (.int 0)] rfl hyp
theorem b_83_48 {d : Nat} {h : lm_H} {K : Int32 → lm_H → Prop} (x3 : Int32) (x4 : Int32) (x5 : Int32) (hl : lm_Lay h) (hyp : (if x5 < x4 then (lm_call (d) 84 [.ref 26, .ref 21, .int x3] h (lm_kI fun r2 h1 => (if r2 = 0 then (lm_call (d) 81 [.ref 26, .ref 21, .int x3] h1 (lm_kV fun h3 => lm_W (d) 83 48 [some (.ref 26), some (.ref 21), none, some (.int x3), some (.int x4), some (.int (x5 + 1))] [] h3 (lm_kI K))) else (K 1 h1)))) else (K 0 h))) : lm_W (d) 83 48 [some (.ref 26), some (.ref 21), none, some (.int x3), some (.int x4), some (.int x5)] [] h (lm_kI K) := by
  refine ls_iload f_83_48 rfl ?_
  refine ls_iload f_83_50 rfl ?_
  refine ls_icmp_ge 78 f_83_52 rfl hyp (fun _ hyp => ?_) (fun _ hyp => ?_)
  · refine ls_aload_n f_83_55 rfl ?_
    refine ls_aload_n f_83_56 rfl ?_
    refine ls_iload_n f_83_57 rfl ?_
    refine ls_invV (a := 26) f_83_58 q_83_58 [.ref 21, .int x3] [] rfl (Nat.le_of_ble_eq_true rfl) hl S_26 ow_84 ?_
    refine ls_call hyp hl (fun _ h1 hl1 hyp => ?_)
    refine ls_retI hyp (fun r2 hyp => ?_)
    refine ls_if_eq 66 f_83_61 rfl hyp (fun _ hyp => ?_) (fun _ hyp => ?_)
    · refine ls_aload_n f_83_66 rfl ?_
      refine ls_aload_n f_83_67 rfl ?_
      refine ls_iload_n f_83_68 rfl ?_
      refine ls_invV (a := 26) f_83_69 q_83_62 [.ref 21, .int x3] [] rfl (Nat.le_of_ble_eq_true rfl) hl1 S_26 ow_81 ?_
      refine ls_call hyp hl1 (fun _ h3 hl3 hyp => ?_)
      refine ls_retV hyp (fun hyp => ?_)
      refine ls_iinc (x5 + 1) [some (.ref 26), some (.ref 21), none, some (.int x3), some (.int x4), some (.int (x5 + 1))] f_83_72 rfl (Nat.le_of_ble_eq_true rfl) rfl rfl ?_
      refine ls_goto 48 f_83_75 rfl ?_
      exact hyp
    · refine ls_iconst 1 f_83_64 (by decide) ?_
      exact ls_zreturn f_83_65 rZ_83 (by decide) hyp
  · refine ls_iconst 0 f_83_78 (by decide) ?_
    exact ls_zreturn f_83_79 rZ_83 (by decide) hyp
theorem e_84 {d : Nat} {h : lm_H} {K : Int32 → lm_H → Prop} (x2 : Int32) (hl : lm_Lay h) (hyp : lm_W (d) 84 2 [some (.ref 26), some (.ref 21), some (.int x2), some (.int 0)] [] h (lm_kI K)) : lm_call (d + 1) 84 [.ref 26, .ref 21, .int x2] h (lm_kI K) := by
  refine ls_enter [some (.ref 26), some (.ref 21), some (.int x2), none] ml_84 (Nat.le_of_ble_eq_true rfl) rfl ?_
  refine ls_iconst 0 f_84_0 (by decide) ?_
  refine ls_istore_n [some (.ref 26), some (.ref 21), some (.int x2), some (.int 0)] f_84_1 (Nat.le_of_ble_eq_true rfl) rfl ?_
  exact hyp
theorem b_84_2 {d : Nat} {h : lm_H} {K : Int32 → lm_H → Prop} (x2 : Int32) (x3 : Int32) (hl : lm_Lay h) (hyp : (if x3 < (lm_i h 21 0) then (if ((x2 >>> (x3 &&& 31)) &&& 1) = 1 then (lm_call (d) 82 [.ref 26, .ref 21, .int x3] h (lm_kI fun r2 h1 => lm_in x3 5 False (if (lm_i h1 30 x3.toNatClampNeg) < r2 then (lm_W (d) 84 2 [some (.ref 26), some (.ref 21), some (.int x2), some (.int (x3 + 1))] [] h1 (lm_kI K)) else (K 0 h1)))) else (lm_W (d) 84 2 [some (.ref 26), some (.ref 21), some (.int x2), some (.int (x3 + 1))] [] h (lm_kI K))) else (K 1 h))) : lm_W (d) 84 2 [some (.ref 26), some (.ref 21), some (.int x2), some (.int x3)] [] h (lm_kI K) := by
  refine ls_iload_n f_84_2 rfl ?_
  refine ls_aload_n f_84_3 rfl ?_
  refine ls_getI f_84_4 p_84_30 hl S_21 ?_
  refine ls_icmp_ge 42 f_84_7 rfl hyp (fun _ hyp => ?_) (fun _ hyp => ?_)
  · refine ls_iload_n f_84_10 rfl ?_
    refine ls_iload_n f_84_11 rfl ?_
    refine ls_ishr (x2 >>> (x3 &&& 31)) f_84_12 rfl ?_
    refine ls_iconst 1 f_84_13 (by decide) ?_
    refine ls_iand ((x2 >>> (x3 &&& 31)) &&& 1) f_84_14 rfl ?_
    refine ls_iconst 1 f_84_15 (by decide) ?_
    refine ls_icmp_ne 36 f_84_16 rfl hyp (fun _ hyp => ?_) (fun _ hyp => ?_)
    · refine ls_aload_n f_84_19 rfl ?_
      refine ls_aload_n f_84_20 rfl ?_
      refine ls_iload_n f_84_21 rfl ?_
      refine ls_invV (a := 26) f_84_22 q_84_66 [.ref 21, .int x3] [] rfl (Nat.le_of_ble_eq_true rfl) hl S_26 ow_82 ?_
      refine ls_call hyp hl (fun _ h1 hl1 hyp => ?_)
      refine ls_retI hyp (fun r2 hyp => ?_)
      refine ls_aload_n f_84_25 rfl ?_
      refine ls_getR f_84_26 p_84_21 hl1 S_26 F_26_3 ?_
      refine ls_iload_n f_84_29 rfl ?_
      refine ls_iald f_84_30 hl1 S_30 hyp (fun hyp => ?_)
      refine ls_icmp_gt 36 f_84_31 rfl hyp (fun _ hyp => ?_) (fun _ hyp => ?_)
      · refine ls_iinc (x3 + 1) [some (.ref 26), some (.ref 21), some (.int x2), some (.int (x3 + 1))] f_84_36 rfl (Nat.le_of_ble_eq_true rfl) rfl rfl ?_
        refine ls_goto 2 f_84_39 rfl ?_
        exact hyp
      · refine ls_iconst 0 f_84_34 (by decide) ?_
        exact ls_zreturn f_84_35 rZ_84 (by decide) hyp
    · refine ls_iinc (x3 + 1) [some (.ref 26), some (.ref 21), some (.int x2), some (.int (x3 + 1))] f_84_36 rfl (Nat.le_of_ble_eq_true rfl) rfl rfl ?_
      refine ls_goto 2 f_84_39 rfl ?_
      exact hyp
  · refine ls_iconst 1 f_84_42 (by decide) ?_
    exact ls_zreturn f_84_43 rZ_84 (by decide) hyp
theorem e_86 {d : Nat} {h : lm_H} {K : Int32 → lm_H → Prop} (x3 : Int32) (x4 : Int32) (hl : lm_Lay h) (hyp : lm_call (d) 270 [.ref 66, .int 0] (lm_si (lm_si (lm_si h 58 5 (lm_i h 1 0)) 58 4 x4) 58 6 x3) (lm_kV fun h1 => lm_call (d) 270 [.ref 67, .int 0] h1 (lm_kV fun h2 => lm_call (d) 270 [.ref 68, .int 0] h2 (lm_kV fun h3 => lm_W (d) 86 49 [some (.ref 58), some (.ref 1), some (.ref 18), none, some (.int x4), some (.int 0), some (.int 0), none] [] h3 (lm_kI K))))) : lm_call (d + 1) 86 [.ref 58, .ref 1, .ref 18, .int x3, .int x4] h (lm_kI K) := by
  refine ls_enter [some (.ref 58), some (.ref 1), some (.ref 18), some (.int x3), some (.int x4), none, none, none] ml_86 (Nat.le_of_ble_eq_true rfl) rfl ?_
  refine ls_aload_n f_86_0 rfl ?_
  refine ls_aload_n f_86_1 rfl ?_
  refine ls_getI f_86_2 p_86_56 hl S_1 ?_
  refine ls_putI f_86_5 p_86_32 hl S_58 rfl ?_
  refine ls_aload_n f_86_8 rfl ?_
  refine ls_iload f_86_9 rfl ?_
  refine ls_putI f_86_11 p_86_28 (lm_Lay_si hl _ _ _) S_58 rfl ?_
  refine ls_aload_n f_86_14 rfl ?_
  refine ls_iload_n f_86_15 rfl ?_
  refine ls_putI f_86_16 p_86_35 (lm_Lay_si (lm_Lay_si hl _ _ _) _ _ _) S_58 rfl ?_
  refine ls_aload_n f_86_19 rfl ?_
  refine ls_getR f_86_20 p_86_25 (lm_Lay_si (lm_Lay_si (lm_Lay_si hl _ _ _) _ _ _) _ _ _) S_58 F_58_3 ?_
  refine ls_iconst 0 f_86_23 (by decide) ?_
  refine ls_invS f_86_24 q_86_59 [.ref 66, .int 0] [] rfl (Nat.le_of_ble_eq_true rfl) ?_
  refine ls_call hyp (lm_Lay_si (lm_Lay_si (lm_Lay_si hl _ _ _) _ _ _) _ _ _) (fun _ h1 hl1 hyp => ?_)
  refine ls_retV hyp (fun hyp => ?_)
  refine ls_aload_n f_86_27 rfl ?_
  refine ls_getR f_86_28 p_86_38 hl1 S_58 F_58_7 ?_
  refine ls_iconst 0 f_86_31 (by decide) ?_
  refine ls_invS f_86_32 q_86_59 [.ref 67, .int 0] [] rfl (Nat.le_of_ble_eq_true rfl) ?_
  refine ls_call hyp hl1 (fun _ h2 hl2 hyp => ?_)
  refine ls_retV hyp (fun hyp => ?_)
  refine ls_aload_n f_86_35 rfl ?_
  refine ls_getR f_86_36 p_86_41 hl2 S_58 F_58_8 ?_
  refine ls_iconst 0 f_86_39 (by decide) ?_
  refine ls_invS f_86_40 q_86_59 [.ref 68, .int 0] [] rfl (Nat.le_of_ble_eq_true rfl) ?_
  refine ls_call hyp hl2 (fun _ h3 hl3 hyp => ?_)
  refine ls_retV hyp (fun hyp => ?_)
  refine ls_iconst 0 f_86_43 (by decide) ?_
  refine ls_istore [some (.ref 58), some (.ref 1), some (.ref 18), some (.int x3), some (.int x4), some (.int 0), none, none] f_86_44 (Nat.le_of_ble_eq_true rfl) rfl ?_
  refine ls_iconst 0 f_86_46 (by decide) ?_
  refine ls_istore [some (.ref 58), some (.ref 1), some (.ref 18), some (.int x3), some (.int x4), some (.int 0), some (.int 0), none] f_86_47 (Nat.le_of_ble_eq_true rfl) rfl ?_
  exact ls_mask [true, true, true, false, true, true, true, false] [some (.ref 58), some (.ref 1), some (.ref 18), none, some (.int x4), some (.int 0), some (.int 0), none] rfl hyp
theorem b_86_49 {d : Nat} {h : lm_H} {K : Int32 → lm_H → Prop} (x4 : Int32) (x5 : Int32) (x6 : Int32) (hl : lm_Lay h) (hyp : (if x6 < x4 then (lm_call (d) 62 [.ref 59, .ref 1, .ref 18, .ref 67, .int x6] h (lm_kV fun h1 => lm_W (d) 86 74 [some (.ref 58), some (.ref 1), some (.ref 18), none, some (.int x4), some (.int x5), some (.int x6), some (.int 0)] [] h1 (lm_kI K))) else (K x5 h))) : lm_W (d) 86 49 [some (.ref 58), some (.ref 1), some (.ref 18), none, some (.int x4), some (.int x5), some (.int x6), none] [] h (lm_kI K) := by
  refine ls_iload f_86_49 rfl ?_
  refine ls_iload f_86_51 rfl ?_
  refine ls_icmp_ge 136 f_86_53 rfl hyp (fun _ hyp => ?_) (fun _ hyp => ?_)
  · refine ls_aload_n f_86_56 rfl ?_
    refine ls_getR f_86_57 p_86_12 hl S_58 F_58_0 ?_
    refine ls_aload_n f_86_60 rfl ?_
    refine ls_aload_n f_86_61 rfl ?_
    refine ls_aload_n f_86_62 rfl ?_
    refine ls_getR f_86_63 p_86_38 hl S_58 F_58_7 ?_
    refine ls_iload f_86_66 rfl ?_
    refine ls_invV (a := 59) f_86_68 q_86_65 [.ref 1, .ref 18, .ref 67, .int x6] [] rfl (Nat.le_of_ble_eq_true rfl) hl S_59 ow_62 ?_
    refine ls_call hyp hl (fun _ h1 hl1 hyp => ?_)
    refine ls_retV hyp (fun hyp => ?_)
    refine ls_iconst 0 f_86_71 (by decide) ?_
    refine ls_istore [some (.ref 58), some (.ref 1), some (.ref 18), none, some (.int x4), some (.int x5), some (.int x6), some (.int 0)] f_86_72 (Nat.le_of_ble_eq_true rfl) rfl ?_
    exact hyp
  · refine ls_iload f_86_136 rfl ?_
    exact ls_ireturn f_86_138 rI_86 hyp
theorem b_86_74 {d : Nat} {h : lm_H} {K : Int32 → lm_H → Prop} (x4 : Int32) (x5 : Int32) (x6 : Int32) (x7 : Int32) (hl : lm_Lay h) (hyp : (if x7 < (lm_i h 58 5) then (lm_call (d) 88 [.ref 58, .ref 1, .int x7, .int x6] h (lm_kI fun r2 h1 => lm_call (d) 66 [.ref 59, .int x7, .int r2] h1 (lm_kI fun r4 h3 => lm_in x7 5 False (lm_W (d) 86 74 [some (.ref 58), some (.ref 1), some (.ref 18), none, some (.int x4), some (.int x5), some (.int x6), some (.int (x7 + 1))] [] (lm_si h3 69 x7.toNatClampNeg r4) (lm_kI K))))) else (lm_call (d) 93 [.ref 58] h (lm_kV fun h5 => lm_call (d) 95 [.ref 58, .int x6] h5 (lm_kI fun r7 h6 => (if r7 = 0 then (lm_W (d) 86 49 [some (.ref 58), some (.ref 1), some (.ref 18), none, some (.int x4), some (.int x5), some (.int (x6 + 1)), none] [] h6 (lm_kI K)) else (lm_W (d) 86 49 [some (.ref 58), some (.ref 1), some (.ref 18), none, some (.int x4), some (.int (x5 + 1)), some (.int (x6 + 1)), none] [] h6 (lm_kI K)))))))) : lm_W (d) 86 74 [some (.ref 58), some (.ref 1), some (.ref 18), none, some (.int x4), some (.int x5), some (.int x6), some (.int x7)] [] h (lm_kI K) := by
  refine ls_iload f_86_74 rfl ?_
  refine ls_aload_n f_86_76 rfl ?_
  refine ls_getI f_86_77 p_86_32 hl S_58 ?_
  refine ls_icmp_ge 114 f_86_80 rfl hyp (fun _ hyp => ?_) (fun _ hyp => ?_)
  · refine ls_aload_n f_86_83 rfl ?_
    refine ls_getR f_86_84 p_86_44 hl S_58 F_58_9 ?_
    refine ls_iload f_86_87 rfl ?_
    refine ls_aload_n f_86_89 rfl ?_
    refine ls_getR f_86_90 p_86_12 hl S_58 F_58_0 ?_
    refine ls_iload f_86_93 rfl ?_
    refine ls_aload_n f_86_95 rfl ?_
    refine ls_aload_n f_86_96 rfl ?_
    refine ls_iload f_86_97 rfl ?_
    refine ls_iload f_86_99 rfl ?_
    refine ls_invV (a := 58) f_86_101 q_86_68 [.ref 1, .int x7, .int x6] [.int x7, .ref 59, .int x7, .ref 69] rfl (Nat.le_of_ble_eq_true rfl) hl S_58 ow_88 ?_
    refine ls_call hyp hl (fun _ h1 hl1 hyp => ?_)
    refine ls_retI hyp (fun r2 hyp => ?_)
    refine ls_invV (a := 59) f_86_104 q_86_72 [.int x7, .int r2] [.int x7, .ref 69] rfl (Nat.le_of_ble_eq_true rfl) hl1 S_59 ow_66 ?_
    refine ls_call hyp hl1 (fun _ h3 hl3 hyp => ?_)
    refine ls_retI hyp (fun r4 hyp => ?_)
    refine ls_iast f_86_107 hl3 S_69 hyp (fun hyp => ?_)
    refine ls_iinc (x7 + 1) [some (.ref 58), some (.ref 1), some (.ref 18), none, some (.int x4), some (.int x5), some (.int x6), some (.int (x7 + 1))] f_86_108 rfl (Nat.le_of_ble_eq_true rfl) rfl rfl ?_
    refine ls_goto 74 f_86_111 rfl ?_
    exact hyp
  · refine ls_aload_n f_86_114 rfl ?_
    refine ls_invV (a := 58) f_86_115 q_86_76 [] [] rfl (Nat.le_of_ble_eq_true rfl) hl S_58 ow_93 ?_
    refine ls_call hyp hl (fun _ h5 hl5 hyp => ?_)
    refine ls_retV hyp (fun hyp => ?_)
    refine ls_aload_n f_86_118 rfl ?_
    refine ls_iload f_86_119 rfl ?_
    refine ls_invV (a := 58) f_86_121 q_86_79 [.int x6] [] rfl (Nat.le_of_ble_eq_true rfl) hl5 S_58 ow_95 ?_
    refine ls_call hyp hl5 (fun _ h6 hl6 hyp => ?_)
    refine ls_retI hyp (fun r7 hyp => ?_)
    refine ls_if_eq 130 f_86_124 rfl hyp (fun _ hyp => ?_) (fun _ hyp => ?_)
    · refine ls_iinc (x6 + 1) [some (.ref 58), some (.ref 1), some (.ref 18), none, some (.int x4), some (.int x5), some (.int (x6 + 1)), some (.int x7)] f_86_130 rfl (Nat.le_of_ble_eq_true rfl) rfl rfl ?_
      refine ls_goto 49 f_86_133 rfl ?_
      exact ls_mask [true, true, true, false, true, true, true, false] [some (.ref 58), some (.ref 1), some (.ref 18), none, some (.int x4), some (.int x5), some (.int (x6 + 1)), none] rfl hyp
    · refine ls_iinc (x5 + 1) [some (.ref 58), some (.ref 1), some (.ref 18), none, some (.int x4), some (.int (x5 + 1)), some (.int x6), some (.int x7)] f_86_127 rfl (Nat.le_of_ble_eq_true rfl) rfl rfl ?_
      refine ls_iinc (x6 + 1) [some (.ref 58), some (.ref 1), some (.ref 18), none, some (.int x4), some (.int (x5 + 1)), some (.int (x6 + 1)), some (.int x7)] f_86_130 rfl (Nat.le_of_ble_eq_true rfl) rfl rfl ?_
      refine ls_goto 49 f_86_133 rfl ?_
      exact ls_mask [true, true, true, false, true, true, true, false] [some (.ref 58), some (.ref 1), some (.ref 18), none, some (.int x4), some (.int (x5 + 1)), some (.int (x6 + 1)), none] rfl hyp
theorem e_87 {d : Nat} {h : lm_H} {K : Int32 → lm_H → Prop} (x1 : Int32) (hl : lm_Lay h) (hyp : (if 0 < x1 then ((¬ x1 = 0) ∧ (K (((((lm_i h 58 6) * 1103) + 12345) - (((lm_i h 58 6) * 1103) + 12345) / 1000003 * 1000003) - ((((lm_i h 58 6) * 1103) + 12345) - (((lm_i h 58 6) * 1103) + 12345) / 1000003 * 1000003) / x1 * x1) (lm_si h 58 6 ((((lm_i h 58 6) * 1103) + 12345) - (((lm_i h 58 6) * 1103) + 12345) / 1000003 * 1000003)))) else (K 0 (lm_si h 58 6 ((((lm_i h 58 6) * 1103) + 12345) - (((lm_i h 58 6) * 1103) + 12345) / 1000003 * 1000003))))) : lm_call (d + 1) 87 [.ref 58, .int x1] h (lm_kI K) := by
  refine ls_enter [some (.ref 58), some (.int x1)] ml_87 (Nat.le_of_ble_eq_true rfl) rfl ?_
  refine ls_aload_n f_87_0 rfl ?_
  refine ls_aload_n f_87_1 rfl ?_
  refine ls_getI f_87_2 p_87_35 hl S_58 ?_
  refine ls_sipush 1103 f_87_5 (by decide) ?_
  refine ls_imul ((lm_i h 58 6) * 1103) f_87_8 rfl ?_
  refine ls_sipush 12345 f_87_9 (by decide) ?_
  refine ls_iadd (((lm_i h 58 6) * 1103) + 12345) f_87_12 rfl ?_
  refine ls_ldc f_87_13 k_87_83 ?_
  refine ls_irem ((((lm_i h 58 6) * 1103) + 12345) - (((lm_i h 58 6) * 1103) + 12345) / 1000003 * 1000003) f_87_15 (by decide) rfl ?_
  refine ls_putI f_87_16 p_87_35 hl S_58 rfl ?_
  refine ls_iload_n f_87_19 rfl ?_
  refine ls_if_le 32 f_87_20 rfl hyp (fun _ hyp => ?_) (fun _ hyp => ?_)
  · refine ls_aload_n f_87_23 rfl ?_
    refine ls_getI f_87_24 p_87_35 (lm_Lay_si hl _ _ _) S_58 ?_
    refine ls_top ((((lm_i h 58 6) * 1103) + 12345) - (((lm_i h 58 6) * 1103) + 12345) / 1000003 * 1000003) rfl ?_
    refine ls_iload_n f_87_27 rfl ?_
    refine ls_irem (((((lm_i h 58 6) * 1103) + 12345) - (((lm_i h 58 6) * 1103) + 12345) / 1000003 * 1000003) - ((((lm_i h 58 6) * 1103) + 12345) - (((lm_i h 58 6) * 1103) + 12345) / 1000003 * 1000003) / x1 * x1) f_87_28 hyp.1 rfl ?_
    replace hyp := hyp.2
    refine ls_goto 33 f_87_29 rfl ?_
    exact ls_ireturn f_87_33 rI_87 hyp
  · refine ls_iconst 0 f_87_32 (by decide) ?_
    exact ls_ireturn f_87_33 rI_87 hyp
theorem e_88 {d : Nat} {h : lm_H} {K : Int32 → lm_H → Prop} (x2 : Int32) (x3 : Int32) (hl : lm_Lay h) (hyp : lm_in x2 5 False (if (lm_i h 7 x2.toNatClampNeg) = 3 then (lm_call (d) 89 [.ref 58, .ref 1, .int x2] h (lm_kI fun r2 h1 => K r2 h1)) else (if x3 = 0 then (lm_in x2 5 False (K (lm_i h 5 x2.toNatClampNeg) h)) else (if (lm_i h 7 x2.toNatClampNeg) = 1 then (lm_call (d) 72 [.ref 59, .ref 70, .int x2] h (lm_kI fun r4 h3 => lm_call (d) 150 [.int r4] h3 (lm_kI fun r6 h5 => K r6 h5))) else (if (lm_i h 7 x2.toNatClampNeg) = 2 then (lm_call (d) 90 [.ref 58, .int x2] h (lm_kI fun r8 h7 => K r8 h7)) else (if (lm_i h 7 x2.toNatClampNeg) = 3 then (lm_in x2 5 False (K (lm_i h 5 x2.toNatClampNeg) h)) else (if (lm_i h 7 x2.toNatClampNeg) = 4 then (lm_call (d) 91 [.ref 58, .ref 1, .int x2] h (lm_kI fun r10 h9 => K r10 h9)) else (if (lm_i h 7 x2.toNatClampNeg) = 5 then (lm_call (d) 92 [.ref 58, .ref 1, .int x2] h (lm_kI fun r12 h11 => K r12 h11)) else (lm_in x2 5 False (K (lm_i h 5 x2.toNatClampNeg) h)))))))))) : lm_call (d + 1) 88 [.ref 58, .ref 1, .int x2, .int x3] h (lm_kI K) := by
  refine ls_enter [some (.ref 58), some (.ref 1), some (.int x2), some (.int x3), none] ml_88 (Nat.le_of_ble_eq_true rfl) rfl ?_
  refine ls_aload_n f_88_0 rfl ?_
  refine ls_getR f_88_1 p_88_84 hl S_1 F_1_11 ?_
  refine ls_iload_n f_88_4 rfl ?_
  refine ls_iald f_88_5 hl S_7 hyp (fun hyp => ?_)
  refine ls_istore [some (.ref 58), some (.ref 1), some (.int x2), some (.int x3), some (.int (lm_i h 7 x2.toNatClampNeg))] f_88_6 (Nat.le_of_ble_eq_true rfl) rfl ?_
  refine ls_iload f_88_8 rfl ?_
  refine ls_iconst 3 f_88_10 (by decide) ?_
  refine ls_icmp_ne 21 f_88_11 rfl hyp (fun _ hyp => ?_) (fun _ hyp => ?_)
  · refine ls_aload_n f_88_14 rfl ?_
    refine ls_aload_n f_88_15 rfl ?_
    refine ls_iload_n f_88_16 rfl ?_
    refine ls_invV (a := 58) f_88_17 q_88_87 [.ref 1, .int x2] [] rfl (Nat.le_of_ble_eq_true rfl) hl S_58 ow_89 ?_
    refine ls_call hyp hl (fun _ h1 hl1 hyp => ?_)
    refine ls_retI hyp (fun r2 hyp => ?_)
    exact ls_ireturn f_88_20 rI_88 hyp
  · refine ls_iload_n f_88_21 rfl ?_
    refine ls_if_ne 32 f_88_22 rfl hyp (fun _ hyp => ?_) (fun _ hyp => ?_)
    · refine ls_aload_n f_88_25 rfl ?_
      refine ls_getR f_88_26 p_88_91 hl S_1 F_1_9 ?_
      refine ls_iload_n f_88_29 rfl ?_
      refine ls_iald f_88_30 hl S_5 hyp (fun hyp => ?_)
      exact ls_ireturn f_88_31 rI_88 hyp
    · refine ls_iload f_88_32 rfl ?_
      refine ls_table f_88_34 (by decide) ?_
      refine ls_swC (v := 1) (by decide) hyp (fun _ hyp => lm_tg_of (t := 68) rfl ?_) (fun _ hyp => ?_)
      · refine ls_aload_n f_88_68 rfl ?_
        refine ls_getR f_88_69 p_88_12 hl S_58 F_58_0 ?_
        refine ls_aload_n f_88_72 rfl ?_
        refine ls_getR f_88_73 p_88_47 hl S_58 F_58_10 ?_
        refine ls_iload_n f_88_76 rfl ?_
        refine ls_invV (a := 59) f_88_77 q_88_94 [.ref 70, .int x2] [] rfl (Nat.le_of_ble_eq_true rfl) hl S_59 ow_72 ?_
        refine ls_call hyp hl (fun _ h3 hl3 hyp => ?_)
        refine ls_retI hyp (fun r4 hyp => ?_)
        refine ls_invS f_88_80 q_88_98 [.int r4] [] rfl (Nat.le_of_ble_eq_true rfl) ?_
        refine ls_call hyp hl3 (fun _ h5 hl5 hyp => ?_)
        refine ls_retI hyp (fun r6 hyp => ?_)
        exact ls_ireturn f_88_83 rI_88 hyp
      refine ls_swC (v := 2) (by decide) hyp (fun _ hyp => lm_tg_of (t := 84) rfl ?_) (fun _ hyp => ?_)
      · refine ls_aload_n f_88_84 rfl ?_
        refine ls_iload_n f_88_85 rfl ?_
        refine ls_invV (a := 58) f_88_86 q_88_102 [.int x2] [] rfl (Nat.le_of_ble_eq_true rfl) hl S_58 ow_90 ?_
        refine ls_call hyp hl (fun _ h7 hl7 hyp => ?_)
        refine ls_retI hyp (fun r8 hyp => ?_)
        exact ls_ireturn f_88_89 rI_88 hyp
      refine ls_swC (v := 3) (by decide) hyp (fun _ hyp => lm_tg_of (t := 104) rfl ?_) (fun _ hyp => ?_)
      · refine ls_aload_n f_88_104 rfl ?_
        refine ls_getR f_88_105 p_88_91 hl S_1 F_1_9 ?_
        refine ls_iload_n f_88_108 rfl ?_
        refine ls_iald f_88_109 hl S_5 hyp (fun hyp => ?_)
        exact ls_ireturn f_88_110 rI_88 hyp
      refine ls_swC (v := 4) (by decide) hyp (fun _ hyp => lm_tg_of (t := 90) rfl ?_) (fun _ hyp => ?_)
      · refine ls_aload_n f_88_90 rfl ?_
        refine ls_aload_n f_88_91 rfl ?_
        refine ls_iload_n f_88_92 rfl ?_
        refine ls_invV (a := 58) f_88_93 q_88_105 [.ref 1, .int x2] [] rfl (Nat.le_of_ble_eq_true rfl) hl S_58 ow_91 ?_
        refine ls_call hyp hl (fun _ h9 hl9 hyp => ?_)
        refine ls_retI hyp (fun r10 hyp => ?_)
        exact ls_ireturn f_88_96 rI_88 hyp
      refine ls_swC (v := 5) (by decide) hyp (fun _ hyp => lm_tg_of (t := 97) rfl ?_) (fun _ hyp => ?_)
      · refine ls_aload_n f_88_97 rfl ?_
        refine ls_aload_n f_88_98 rfl ?_
        refine ls_iload_n f_88_99 rfl ?_
        refine ls_invV (a := 58) f_88_100 q_88_108 [.ref 1, .int x2] [] rfl (Nat.le_of_ble_eq_true rfl) hl S_58 ow_92 ?_
        refine ls_call hyp hl (fun _ h11 hl11 hyp => ?_)
        refine ls_retI hyp (fun r12 hyp => ?_)
        exact ls_ireturn f_88_103 rI_88 hyp
      refine ls_swD ?_
      refine lm_tg_of (t := 104) rfl ?_
      refine ls_aload_n f_88_104 rfl ?_
      refine ls_getR f_88_105 p_88_91 hl S_1 F_1_9 ?_
      refine ls_iload_n f_88_108 rfl ?_
      refine ls_iald f_88_109 hl S_5 hyp (fun hyp => ?_)
      exact ls_ireturn f_88_110 rI_88 hyp
theorem e_89 {d : Nat} {h : lm_H} {K : Int32 → lm_H → Prop} (x2 : Int32) (hl : lm_Lay h) (hyp : lm_call (d + 1) 87 [.ref 58, .int 10] h (lm_kI fun r2 h1 => lm_W (d + 1) 89 13 [some (.ref 58), some (.ref 1), some (.int x2), some (.int r2), some (.int 0), some (.int 0)] [] h1 (lm_kI K))) : lm_call (d + 2) 89 [.ref 58, .ref 1, .int x2] h (lm_kI K) := by
  refine ls_enter [some (.ref 58), some (.ref 1), some (.int x2), none, none, none] ml_89 (Nat.le_of_ble_eq_true rfl) rfl ?_
  refine ls_aload_n f_89_0 rfl ?_
  refine ls_bipush 10 f_89_1 (by decide) ?_
  refine ls_invV (a := 58) f_89_3 q_89_111 [.int 10] [] rfl (Nat.le_of_ble_eq_true rfl) hl S_58 ow_87 ?_
  refine ls_call hyp hl (fun _ h1 hl1 hyp => ?_)
  refine ls_retI hyp (fun r2 hyp => ?_)
  refine ls_istore_n [some (.ref 58), some (.ref 1), some (.int x2), some (.int r2), none, none] f_89_6 (Nat.le_of_ble_eq_true rfl) rfl ?_
  refine ls_iconst 0 f_89_7 (by decide) ?_
  refine ls_istore [some (.ref 58), some (.ref 1), some (.int x2), some (.int r2), some (.int 0), none] f_89_8 (Nat.le_of_ble_eq_true rfl) rfl ?_
  refine ls_iconst 0 f_89_10 (by decide) ?_
  refine ls_istore [some (.ref 58), some (.ref 1), some (.int x2), some (.int r2), some (.int 0), some (.int 0)] f_89_11 (Nat.le_of_ble_eq_true rfl) rfl ?_
  exact hyp
theorem b_89_13 {d : Nat} {h : lm_H} {K : Int32 → lm_H → Prop} (x2 : Int32) (x3 : Int32) (x4 : Int32) (x5 : Int32) (hl : lm_Lay h) (hyp : (if x5 < (lm_i h 59 1) then (lm_in ((x2 * 6) + x5) 30 False (if x3 < (x4 + (lm_i h 6 (((x2 * 6) + x5).toNatClampNeg))) then (K x5 h) else (lm_W (d + 1) 89 13 [some (.ref 58), some (.ref 1), some (.int x2), some (.int x3), some (.int (x4 + (lm_i h 6 (((x2 * 6) + x5).toNatClampNeg)))), some (.int (x5 + 1))] [] h (lm_kI K)))) else (K 6 h))) : lm_W (d + 1) 89 13 [some (.ref 58), some (.ref 1), some (.int x2), some (.int x3), some (.int x4), some (.int x5)] [] h (lm_kI K) := by
  refine ls_iload f_89_13 rfl ?_
  refine ls_aload_n f_89_15 rfl ?_
  refine ls_getR f_89_16 p_89_12 hl S_58 F_58_0 ?_
  refine ls_getI f_89_19 p_89_114 hl S_59 ?_
  refine ls_icmp_ge 56 f_89_22 rfl hyp (fun _ hyp => ?_) (fun _ hyp => ?_)
  · refine ls_iload f_89_25 rfl ?_
    refine ls_aload_n f_89_27 rfl ?_
    refine ls_getR f_89_28 p_89_117 hl S_1 F_1_10 ?_
    refine ls_iload_n f_89_31 rfl ?_
    refine ls_iload f_89_32 rfl ?_
    refine ls_invS f_89_34 q_89_120 [.int x2, .int x5] [.ref 6, .int x4] rfl (Nat.le_of_ble_eq_true rfl) ?_
    refine ls_enter [some (.int x2), some (.int x5)] ml_147 (Nat.le_of_ble_eq_true rfl) rfl ?_
    refine ls_iload_n f_147_0 rfl ?_
    refine ls_bipush 6 f_147_1 (by decide) ?_
    refine ls_imul (x2 * 6) f_147_3 rfl ?_
    refine ls_iload_n f_147_4 rfl ?_
    refine ls_iadd ((x2 * 6) + x5) f_147_5 rfl ?_
    refine ls_ireturn f_147_6 rI_147 ?_
    show lm_W _ _ _ _ [.int ((x2 * 6) + x5), .ref 6, .int x4] _ _
    refine ls_iald f_89_37 hl S_6 hyp (fun hyp => ?_)
    refine ls_iadd (x4 + (lm_i h 6 (((x2 * 6) + x5).toNatClampNeg))) f_89_38 rfl ?_
    refine ls_istore [some (.ref 58), some (.ref 1), some (.int x2), some (.int x3), some (.int (x4 + (lm_i h 6 (((x2 * 6) + x5).toNatClampNeg)))), some (.int x5)] f_89_39 (Nat.le_of_ble_eq_true rfl) rfl ?_
    refine ls_iload_n f_89_41 rfl ?_
    refine ls_iload f_89_42 rfl ?_
    refine ls_icmp_ge 50 f_89_44 rfl hyp (fun _ hyp => ?_) (fun _ hyp => ?_)
    · refine ls_iload f_89_47 rfl ?_
      exact ls_ireturn f_89_49 rI_89 hyp
    · refine ls_iinc (x5 + 1) [some (.ref 58), some (.ref 1), some (.int x2), some (.int x3), some (.int (x4 + (lm_i h 6 (((x2 * 6) + x5).toNatClampNeg)))), some (.int (x5 + 1))] f_89_50 rfl (Nat.le_of_ble_eq_true rfl) rfl rfl ?_
      refine ls_goto 13 f_89_53 rfl ?_
      exact hyp
  · refine ls_bipush 6 f_89_56 (by decide) ?_
    exact ls_ireturn f_89_58 rI_89 hyp
theorem e_90 {d : Nat} {h : lm_H} {K : Int32 → lm_H → Prop} (x1 : Int32) (hl : lm_Lay h) (hyp : lm_W (d + 1) 90 8 [some (.ref 58), some (.int x1), some (.int 0), some (.int 6), some (.int 0), none] [] h (lm_kI K)) : lm_call (d + 2) 90 [.ref 58, .int x1] h (lm_kI K) := by
  refine ls_enter [some (.ref 58), some (.int x1), none, none, none, none] ml_90 (Nat.le_of_ble_eq_true rfl) rfl ?_
  refine ls_iconst 0 f_90_0 (by decide) ?_
  refine ls_istore_n [some (.ref 58), some (.int x1), some (.int 0), none, none, none] f_90_1 (Nat.le_of_ble_eq_true rfl) rfl ?_
  refine ls_bipush 6 f_90_2 (by decide) ?_
  refine ls_istore_n [some (.ref 58), some (.int x1), some (.int 0), some (.int 6), none, none] f_90_4 (Nat.le_of_ble_eq_true rfl) rfl ?_
  refine ls_iconst 0 f_90_5 (by decide) ?_
  refine ls_istore [some (.ref 58), some (.int x1), some (.int 0), some (.int 6), some (.int 0), none] f_90_6 (Nat.le_of_ble_eq_true rfl) rfl ?_
  exact hyp
theorem b_90_8 {d : Nat} {h : lm_H} {K : Int32 → lm_H → Prop} (x1 : Int32) (x2 : Int32) (x3 : Int32) (x4 : Int32) (hl : lm_Lay h) (hyp : (if x4 < (lm_i h 59 1) then (lm_in ((x1 * 7) + x4) 35 False (lm_in ((x1 * 6) + x4) 30 False (if x2 < (((lm_i h 60 (((x1 * 7) + x4).toNatClampNeg)) - (lm_i h 59 3)) * (lm_i h 68 (((x1 * 6) + x4).toNatClampNeg))) then (lm_W (d + 1) 90 8 [some (.ref 58), some (.int x1), some (.int (((lm_i h 60 (((x1 * 7) + x4).toNatClampNeg)) - (lm_i h 59 3)) * (lm_i h 68 (((x1 * 6) + x4).toNatClampNeg)))), some (.int x4), some (.int (x4 + 1)), none] [] h (lm_kI K)) else (lm_W (d + 1) 90 8 [some (.ref 58), some (.int x1), some (.int x2), some (.int x3), some (.int (x4 + 1)), none] [] h (lm_kI K))))) else (K x3 h))) : lm_W (d + 1) 90 8 [some (.ref 58), some (.int x1), some (.int x2), some (.int x3), some (.int x4), none] [] h (lm_kI K) := by
  refine ls_iload f_90_8 rfl ?_
  refine ls_aload_n f_90_10 rfl ?_
  refine ls_getR f_90_11 p_90_12 hl S_58 F_58_0 ?_
  refine ls_getI f_90_14 p_90_114 hl S_59 ?_
  refine ls_icmp_ge 74 f_90_17 rfl hyp (fun _ hyp => ?_) (fun _ hyp => ?_)
  · refine ls_aload_n f_90_20 rfl ?_
    refine ls_getR f_90_21 p_90_12 hl S_58 F_58_0 ?_
    refine ls_getR f_90_24 p_90_123 hl S_59 F_59_4 ?_
    refine ls_iload_n f_90_27 rfl ?_
    refine ls_iload f_90_28 rfl ?_
    refine ls_invS f_90_30 q_90_126 [.int x1, .int x4] [.ref 60] rfl (Nat.le_of_ble_eq_true rfl) ?_
    refine ls_enter [some (.int x1), some (.int x4)] ml_148 (Nat.le_of_ble_eq_true rfl) rfl ?_
    refine ls_iload_n f_148_0 rfl ?_
    refine ls_bipush 7 f_148_1 (by decide) ?_
    refine ls_imul (x1 * 7) f_148_3 rfl ?_
    refine ls_iload_n f_148_4 rfl ?_
    refine ls_iadd ((x1 * 7) + x4) f_148_5 rfl ?_
    refine ls_ireturn f_148_6 rI_148 ?_
    show lm_W _ _ _ _ [.int ((x1 * 7) + x4), .ref 60] _ _
    refine ls_iald f_90_33 hl S_60 hyp (fun hyp => ?_)
    refine ls_aload_n f_90_34 rfl ?_
    refine ls_getR f_90_35 p_90_12 hl S_58 F_58_0 ?_
    refine ls_getI f_90_38 p_90_129 hl S_59 ?_
    refine ls_isub ((lm_i h 60 (((x1 * 7) + x4).toNatClampNeg)) - (lm_i h 59 3)) f_90_41 rfl ?_
    refine ls_aload_n f_90_42 rfl ?_
    refine ls_getR f_90_43 p_90_41 hl S_58 F_58_8 ?_
    refine ls_iload_n f_90_46 rfl ?_
    refine ls_iload f_90_47 rfl ?_
    refine ls_invS f_90_49 q_90_120 [.int x1, .int x4] [.ref 68, .int ((lm_i h 60 (((x1 * 7) + x4).toNatClampNeg)) - (lm_i h 59 3))] rfl (Nat.le_of_ble_eq_true rfl) ?_
    refine ls_enter [some (.int x1), some (.int x4)] ml_147 (Nat.le_of_ble_eq_true rfl) rfl ?_
    refine ls_iload_n f_147_0 rfl ?_
    refine ls_bipush 6 f_147_1 (by decide) ?_
    refine ls_imul (x1 * 6) f_147_3 rfl ?_
    refine ls_iload_n f_147_4 rfl ?_
    refine ls_iadd ((x1 * 6) + x4) f_147_5 rfl ?_
    refine ls_ireturn f_147_6 rI_147 ?_
    show lm_W _ _ _ _ [.int ((x1 * 6) + x4), .ref 68, .int ((lm_i h 60 (((x1 * 7) + x4).toNatClampNeg)) - (lm_i h 59 3))] _ _
    refine ls_iald f_90_52 hl S_68 hyp (fun hyp => ?_)
    refine ls_imul (((lm_i h 60 (((x1 * 7) + x4).toNatClampNeg)) - (lm_i h 59 3)) * (lm_i h 68 (((x1 * 6) + x4).toNatClampNeg))) f_90_53 rfl ?_
    refine ls_istore [some (.ref 58), some (.int x1), some (.int x2), some (.int x3), some (.int x4), some (.int (((lm_i h 60 (((x1 * 7) + x4).toNatClampNeg)) - (lm_i h 59 3)) * (lm_i h 68 (((x1 * 6) + x4).toNatClampNeg))))] f_90_54 (Nat.le_of_ble_eq_true rfl) rfl ?_
    refine ls_iload f_90_56 rfl ?_
    refine ls_iload_n f_90_58 rfl ?_
    refine ls_icmp_le 68 f_90_59 rfl hyp (fun _ hyp => ?_) (fun _ hyp => ?_)
    · refine ls_iload f_90_62 rfl ?_
      refine ls_istore_n [some (.ref 58), some (.int x1), some (.int (((lm_i h 60 (((x1 * 7) + x4).toNatClampNeg)) - (lm_i h 59 3)) * (lm_i h 68 (((x1 * 6) + x4).toNatClampNeg)))), some (.int x3), some (.int x4), some (.int (((lm_i h 60 (((x1 * 7) + x4).toNatClampNeg)) - (lm_i h 59 3)) * (lm_i h 68 (((x1 * 6) + x4).toNatClampNeg))))] f_90_64 (Nat.le_of_ble_eq_true rfl) rfl ?_
      refine ls_iload f_90_65 rfl ?_
      refine ls_istore_n [some (.ref 58), some (.int x1), some (.int (((lm_i h 60 (((x1 * 7) + x4).toNatClampNeg)) - (lm_i h 59 3)) * (lm_i h 68 (((x1 * 6) + x4).toNatClampNeg)))), some (.int x4), some (.int x4), some (.int (((lm_i h 60 (((x1 * 7) + x4).toNatClampNeg)) - (lm_i h 59 3)) * (lm_i h 68 (((x1 * 6) + x4).toNatClampNeg))))] f_90_67 (Nat.le_of_ble_eq_true rfl) rfl ?_
      refine ls_iinc (x4 + 1) [some (.ref 58), some (.int x1), some (.int (((lm_i h 60 (((x1 * 7) + x4).toNatClampNeg)) - (lm_i h 59 3)) * (lm_i h 68 (((x1 * 6) + x4).toNatClampNeg)))), some (.int x4), some (.int (x4 + 1)), some (.int (((lm_i h 60 (((x1 * 7) + x4).toNatClampNeg)) - (lm_i h 59 3)) * (lm_i h 68 (((x1 * 6) + x4).toNatClampNeg))))] f_90_68 rfl (Nat.le_of_ble_eq_true rfl) rfl rfl ?_
      refine ls_goto 8 f_90_71 rfl ?_
      exact ls_mask [true, true, true, true, true, false] [some (.ref 58), some (.int x1), some (.int (((lm_i h 60 (((x1 * 7) + x4).toNatClampNeg)) - (lm_i h 59 3)) * (lm_i h 68 (((x1 * 6) + x4).toNatClampNeg)))), some (.int x4), some (.int (x4 + 1)), none] rfl hyp
    · refine ls_iinc (x4 + 1) [some (.ref 58), some (.int x1), some (.int x2), some (.int x3), some (.int (x4 + 1)), some (.int (((lm_i h 60 (((x1 * 7) + x4).toNatClampNeg)) - (lm_i h 59 3)) * (lm_i h 68 (((x1 * 6) + x4).toNatClampNeg))))] f_90_68 rfl (Nat.le_of_ble_eq_true rfl) rfl rfl ?_
      refine ls_goto 8 f_90_71 rfl ?_
      exact ls_mask [true, true, true, true, true, false] [some (.ref 58), some (.int x1), some (.int x2), some (.int x3), some (.int (x4 + 1)), none] rfl hyp
  · refine ls_iload_n f_90_74 rfl ?_
    exact ls_ireturn f_90_75 rI_90 hyp
theorem e_91 {d : Nat} {h : lm_H} {K : Int32 → lm_H → Prop} (x2 : Int32) (hl : lm_Lay h) (hyp : lm_W (d) 91 5 [some (.ref 58), some (.ref 1), some (.int x2), some (.int (-1)), some (.int 0)] [] h (lm_kI K)) : lm_call (d + 1) 91 [.ref 58, .ref 1, .int x2] h (lm_kI K) := by
  refine ls_enter [some (.ref 58), some (.ref 1), some (.int x2), none, none] ml_91 (Nat.le_of_ble_eq_true rfl) rfl ?_
  refine ls_iconst (-1) f_91_0 (by decide) ?_
  refine ls_istore_n [some (.ref 58), some (.ref 1), some (.int x2), some (.int (-1)), none] f_91_1 (Nat.le_of_ble_eq_true rfl) rfl ?_
  refine ls_iconst 0 f_91_2 (by decide) ?_
  refine ls_istore [some (.ref 58), some (.ref 1), some (.int x2), some (.int (-1)), some (.int 0)] f_91_3 (Nat.le_of_ble_eq_true rfl) rfl ?_
  exact hyp
theorem b_91_5 {d : Nat} {h : lm_H} {K : Int32 → lm_H → Prop} (x2 : Int32) (x3 : Int32) (x4 : Int32) (hl : lm_Lay h) (hyp : (if x4 < (lm_i h 58 5) then (if x4 = x2 then (lm_W (d) 91 5 [some (.ref 58), some (.ref 1), some (.int x2), some (.int x3), some (.int (x4 + 1))] [] h (lm_kI K)) else (if x3 = (-1) then (lm_W (d) 91 5 [some (.ref 58), some (.ref 1), some (.int x2), some (.int x4), some (.int (x4 + 1))] [] h (lm_kI K)) else (lm_in x4 5 False (lm_in x3 5 False (if (lm_i h 72 x3.toNatClampNeg) < (lm_i h 72 x4.toNatClampNeg) then (lm_W (d) 91 5 [some (.ref 58), some (.ref 1), some (.int x2), some (.int x4), some (.int (x4 + 1))] [] h (lm_kI K)) else (lm_W (d) 91 5 [some (.ref 58), some (.ref 1), some (.int x2), some (.int x3), some (.int (x4 + 1))] [] h (lm_kI K))))))) else (if x3 = (-1) then (lm_in x2 5 False (K (lm_i h 5 x2.toNatClampNeg) h)) else (lm_in x3 5 False (if (lm_i h 71 x3.toNatClampNeg) = 6 then (lm_in x2 5 False (K (lm_i h 5 x2.toNatClampNeg) h)) else (lm_in x3 5 False (K (lm_i h 71 x3.toNatClampNeg) h))))))) : lm_W (d) 91 5 [some (.ref 58), some (.ref 1), some (.int x2), some (.int x3), some (.int x4)] [] h (lm_kI K) := by
  refine ls_iload f_91_5 rfl ?_
  refine ls_aload_n f_91_7 rfl ?_
  refine ls_getI f_91_8 p_91_32 hl S_58 ?_
  refine ls_icmp_ge 50 f_91_11 rfl hyp (fun _ hyp => ?_) (fun _ hyp => ?_)
  · refine ls_iload f_91_14 rfl ?_
    refine ls_iload_n f_91_16 rfl ?_
    refine ls_icmp_eq 44 f_91_17 rfl hyp (fun _ hyp => ?_) (fun _ hyp => ?_)
    · refine ls_iinc (x4 + 1) [some (.ref 58), some (.ref 1), some (.int x2), some (.int x3), some (.int (x4 + 1))] f_91_44 rfl (Nat.le_of_ble_eq_true rfl) rfl rfl ?_
      refine ls_goto 5 f_91_47 rfl ?_
      exact hyp
    · refine ls_iload_n f_91_20 rfl ?_
      refine ls_iconst (-1) f_91_21 (by decide) ?_
      refine ls_icmp_eq 41 f_91_22 rfl hyp (fun _ hyp => ?_) (fun _ hyp => ?_)
      · refine ls_iload f_91_41 rfl ?_
        refine ls_istore_n [some (.ref 58), some (.ref 1), some (.int x2), some (.int x4), some (.int x4)] f_91_43 (Nat.le_of_ble_eq_true rfl) rfl ?_
        refine ls_iinc (x4 + 1) [some (.ref 58), some (.ref 1), some (.int x2), some (.int x4), some (.int (x4 + 1))] f_91_44 rfl (Nat.le_of_ble_eq_true rfl) rfl rfl ?_
        refine ls_goto 5 f_91_47 rfl ?_
        exact hyp
      · refine ls_aload_n f_91_25 rfl ?_
        refine ls_getR f_91_26 p_91_53 hl S_58 F_58_12 ?_
        refine ls_iload f_91_29 rfl ?_
        refine ls_iald f_91_31 hl S_72 hyp (fun hyp => ?_)
        refine ls_aload_n f_91_32 rfl ?_
        refine ls_getR f_91_33 p_91_53 hl S_58 F_58_12 ?_
        refine ls_iload_n f_91_36 rfl ?_
        refine ls_iald f_91_37 hl S_72 hyp (fun hyp => ?_)
        refine ls_icmp_le 44 f_91_38 rfl hyp (fun _ hyp => ?_) (fun _ hyp => ?_)
        · refine ls_iload f_91_41 rfl ?_
          refine ls_istore_n [some (.ref 58), some (.ref 1), some (.int x2), some (.int x4), some (.int x4)] f_91_43 (Nat.le_of_ble_eq_true rfl) rfl ?_
          refine ls_iinc (x4 + 1) [some (.ref 58), some (.ref 1), some (.int x2), some (.int x4), some (.int (x4 + 1))] f_91_44 rfl (Nat.le_of_ble_eq_true rfl) rfl rfl ?_
          refine ls_goto 5 f_91_47 rfl ?_
          exact hyp
        · refine ls_iinc (x4 + 1) [some (.ref 58), some (.ref 1), some (.int x2), some (.int x3), some (.int (x4 + 1))] f_91_44 rfl (Nat.le_of_ble_eq_true rfl) rfl rfl ?_
          refine ls_goto 5 f_91_47 rfl ?_
          exact hyp
  · refine ls_iload_n f_91_50 rfl ?_
    refine ls_iconst (-1) f_91_51 (by decide) ?_
    refine ls_icmp_eq 75 f_91_52 rfl hyp (fun _ hyp => ?_) (fun _ hyp => ?_)
    · refine ls_aload_n f_91_75 rfl ?_
      refine ls_getR f_91_76 p_91_91 hl S_1 F_1_9 ?_
      refine ls_iload_n f_91_79 rfl ?_
      refine ls_iald f_91_80 hl S_5 hyp (fun hyp => ?_)
      exact ls_ireturn f_91_81 rI_91 hyp
    · refine ls_aload_n f_91_55 rfl ?_
      refine ls_getR f_91_56 p_91_50 hl S_58 F_58_11 ?_
      refine ls_iload_n f_91_59 rfl ?_
      refine ls_iald f_91_60 hl S_71 hyp (fun hyp => ?_)
      refine ls_bipush 6 f_91_61 (by decide) ?_
      refine ls_icmp_eq 75 f_91_63 rfl hyp (fun _ hyp => ?_) (fun _ hyp => ?_)
      · refine ls_aload_n f_91_75 rfl ?_
        refine ls_getR f_91_76 p_91_91 hl S_1 F_1_9 ?_
        refine ls_iload_n f_91_79 rfl ?_
        refine ls_iald f_91_80 hl S_5 hyp (fun hyp => ?_)
        exact ls_ireturn f_91_81 rI_91 hyp
      · refine ls_aload_n f_91_66 rfl ?_
        refine ls_getR f_91_67 p_91_50 hl S_58 F_58_11 ?_
        refine ls_iload_n f_91_70 rfl ?_
        refine ls_iald f_91_71 hl S_71 hyp (fun hyp => ?_)
        refine ls_goto 81 f_91_72 rfl ?_
        exact ls_ireturn f_91_81 rI_91 hyp
theorem e_92 {d : Nat} {h : lm_H} {K : Int32 → lm_H → Prop} (x2 : Int32) (hl : lm_Lay h) (hyp : lm_in x2 5 False (if (lm_i h 71 x2.toNatClampNeg) = 6 then (lm_W (d + 1) 92 20 [some (.ref 58), some (.ref 1), some (.int x2), some (.int 0)] [] h (lm_kI K)) else (lm_in x2 5 False (K (lm_i h 71 x2.toNatClampNeg) h)))) : lm_call (d + 2) 92 [.ref 58, .ref 1, .int x2] h (lm_kI K) := by
  refine ls_enter [some (.ref 58), some (.ref 1), some (.int x2), none] ml_92 (Nat.le_of_ble_eq_true rfl) rfl ?_
  refine ls_aload_n f_92_0 rfl ?_
  refine ls_getR f_92_1 p_92_50 hl S_58 F_58_11 ?_
  refine ls_iload_n f_92_4 rfl ?_
  refine ls_iald f_92_5 hl S_71 hyp (fun hyp => ?_)
  refine ls_bipush 6 f_92_6 (by decide) ?_
  refine ls_icmp_eq 18 f_92_8 rfl hyp (fun _ hyp => ?_) (fun _ hyp => ?_)
  · refine ls_iconst 0 f_92_18 (by decide) ?_
    refine ls_istore_n [some (.ref 58), some (.ref 1), some (.int x2), some (.int 0)] f_92_19 (Nat.le_of_ble_eq_true rfl) rfl ?_
    exact hyp
  · refine ls_aload_n f_92_11 rfl ?_
    refine ls_getR f_92_12 p_92_50 hl S_58 F_58_11 ?_
    refine ls_iload_n f_92_15 rfl ?_
    refine ls_iald f_92_16 hl S_71 hyp (fun hyp => ?_)
    exact ls_ireturn f_92_17 rI_92 hyp
