theorem e_273 {d : Nat} {h : lm_H} {K : lm_H → Prop} (x1 : Int32) (hl : lm_Lay h) (hyp : (if (lm_i h 31 10) < x1 then (K (lm_si (lm_si (lm_si h 31 10 x1) 31 11 0) 31 11 1)) else (K (lm_si h 31 11 ((lm_i h 31 11) + 1))))) : lm_call (d + 1) 273 [.ref 31, .int x1] h (lm_kV K) := by
  refine ls_enter [some (.ref 31), some (.int x1)] ml_273 (Nat.le_of_ble_eq_true rfl) rfl ?_
  refine ls_iload_n f_273_0 rfl ?_
  refine ls_aload_n f_273_1 rfl ?_
  refine ls_getI f_273_2 p_273_53 hl S_31 ?_
  refine ls_icmp_le 18 f_273_5 rfl hyp (fun _ hyp => ?_) (fun _ hyp => ?_)
  · refine ls_aload_n f_273_8 rfl ?_
    refine ls_iload_n f_273_9 rfl ?_
    refine ls_putI f_273_10 p_273_53 hl S_31 rfl ?_
    refine ls_aload_n f_273_13 rfl ?_
    refine ls_iconst 0 f_273_14 (by decide) ?_
    refine ls_putI f_273_15 p_273_56 (lm_Lay_si hl _ _ _) S_31 rfl ?_
    refine ls_aload_n f_273_18 rfl ?_
    refine ls_dup f_273_19 rfl ?_
    refine ls_getI f_273_20 p_273_56 (lm_Lay_si (lm_Lay_si hl _ _ _) _ _ _) S_31 ?_
    refine ls_top 0 rfl ?_
    refine ls_iconst 1 f_273_23 (by decide) ?_
    refine ls_iadd 1 f_273_24 (by decide) ?_
    refine ls_putI f_273_25 p_273_56 (lm_Lay_si (lm_Lay_si hl _ _ _) _ _ _) S_31 rfl ?_
    exact ls_return f_273_28 rV_273 hyp
  · refine ls_aload_n f_273_18 rfl ?_
    refine ls_dup f_273_19 rfl ?_
    refine ls_getI f_273_20 p_273_56 hl S_31 ?_
    refine ls_iconst 1 f_273_23 (by decide) ?_
    refine ls_iadd ((lm_i h 31 11) + 1) f_273_24 rfl ?_
    refine ls_putI f_273_25 p_273_56 hl S_31 rfl ?_
    exact ls_return f_273_28 rV_273 hyp
theorem e_274 {d : Nat} {h : lm_H} {K : lm_H → Prop} (x1 : Int32) (x2 : Int32) (hl : lm_Lay h) (hyp : (if (lm_i h 31 12) = 0 then (if (lm_i h 31 12) = 0 then (if (x1 >>> (6 &&& 31)) < 263 then (lm_in (x1 >>> (6 &&& 31)) 263 False (lm_in (x1 >>> (6 &&& 31)) 263 False (K (lm_sl (lm_si (lm_si (lm_si h 31 13 x2) 31 14 x2) 31 12 ((lm_i h 31 12) + 1)) 45 ((x1 >>> (6 &&& 31)).toNatClampNeg) ((lm_l h 45 ((x1 >>> (6 &&& 31)).toNatClampNeg)) ||| ((1 : Int64) <<< ((x1 &&& 63).toInt64 &&& 63))))))) else (K (lm_si (lm_si (lm_si h 31 13 x2) 31 14 x2) 31 12 ((lm_i h 31 12) + 1)))) else (if (x1 >>> (6 &&& 31)) < 263 then (lm_in (x1 >>> (6 &&& 31)) 263 False (lm_in (x1 >>> (6 &&& 31)) 263 False (K (lm_sl (lm_si (lm_si (lm_si h 31 13 x2) 31 14 (if x2 < (lm_i h 31 14) then x2 else (lm_i h 31 14))) 31 12 ((lm_i h 31 12) + 1)) 45 ((x1 >>> (6 &&& 31)).toNatClampNeg) ((lm_l h 45 ((x1 >>> (6 &&& 31)).toNatClampNeg)) ||| ((1 : Int64) <<< ((x1 &&& 63).toInt64 &&& 63))))))) else (K (lm_si (lm_si (lm_si h 31 13 x2) 31 14 (if x2 < (lm_i h 31 14) then x2 else (lm_i h 31 14))) 31 12 ((lm_i h 31 12) + 1))))) else (if (lm_i h 31 12) = 0 then (if (x1 >>> (6 &&& 31)) < 263 then (lm_in (x1 >>> (6 &&& 31)) 263 False (lm_in (x1 >>> (6 &&& 31)) 263 False (K (lm_sl (lm_si (lm_si (lm_si h 31 13 (if (lm_i h 31 13) < x2 then x2 else (lm_i h 31 13))) 31 14 x2) 31 12 ((lm_i h 31 12) + 1)) 45 ((x1 >>> (6 &&& 31)).toNatClampNeg) ((lm_l h 45 ((x1 >>> (6 &&& 31)).toNatClampNeg)) ||| ((1 : Int64) <<< ((x1 &&& 63).toInt64 &&& 63))))))) else (K (lm_si (lm_si (lm_si h 31 13 (if (lm_i h 31 13) < x2 then x2 else (lm_i h 31 13))) 31 14 x2) 31 12 ((lm_i h 31 12) + 1)))) else (if (x1 >>> (6 &&& 31)) < 263 then (lm_in (x1 >>> (6 &&& 31)) 263 False (lm_in (x1 >>> (6 &&& 31)) 263 False (K (lm_sl (lm_si (lm_si (lm_si h 31 13 (if (lm_i h 31 13) < x2 then x2 else (lm_i h 31 13))) 31 14 (if x2 < (lm_i h 31 14) then x2 else (lm_i h 31 14))) 31 12 ((lm_i h 31 12) + 1)) 45 ((x1 >>> (6 &&& 31)).toNatClampNeg) ((lm_l h 45 ((x1 >>> (6 &&& 31)).toNatClampNeg)) ||| ((1 : Int64) <<< ((x1 &&& 63).toInt64 &&& 63))))))) else (K (lm_si (lm_si (lm_si h 31 13 (if (lm_i h 31 13) < x2 then x2 else (lm_i h 31 13))) 31 14 (if x2 < (lm_i h 31 14) then x2 else (lm_i h 31 14))) 31 12 ((lm_i h 31 12) + 1))))))) : lm_call (d + 1) 274 [.ref 31, .int x1, .int x2] h (lm_kV K) := by
  refine ls_enter [some (.ref 31), some (.int x1), some (.int x2)] ml_274 (Nat.le_of_ble_eq_true rfl) rfl ?_
  refine ls_aload_n f_274_0 rfl ?_
  refine ls_aload_n f_274_1 rfl ?_
  refine ls_getI f_274_2 p_274_59 hl S_31 ?_
  refine ls_if_ne 12 f_274_5 rfl hyp (fun _ hyp => ?_) (fun _ hyp => ?_)
  · refine ls_iload_n f_274_8 rfl ?_
    refine ls_goto 20 f_274_9 rfl ?_
    refine ls_putI f_274_20 p_274_62 hl S_31 rfl ?_
    refine ls_aload_n f_274_23 rfl ?_
    refine ls_aload_n f_274_24 rfl ?_
    refine ls_getI f_274_25 p_274_59 (lm_Lay_si hl _ _ _) S_31 ?_
    refine ls_top (lm_i h 31 12) rfl ?_
    refine ls_if_ne 35 f_274_28 rfl hyp (fun _ hyp => ?_) (fun _ hyp => ?_)
    · refine ls_iload_n f_274_31 rfl ?_
      refine ls_goto 43 f_274_32 rfl ?_
      refine ls_putI f_274_43 p_274_65 (lm_Lay_si hl _ _ _) S_31 rfl ?_
      refine ls_aload_n f_274_46 rfl ?_
      refine ls_dup f_274_47 rfl ?_
      refine ls_getI f_274_48 p_274_59 (lm_Lay_si (lm_Lay_si hl _ _ _) _ _ _) S_31 ?_
      refine ls_top (lm_i h 31 12) rfl ?_
      refine ls_iconst 1 f_274_51 (by decide) ?_
      refine ls_iadd ((lm_i h 31 12) + 1) f_274_52 rfl ?_
      refine ls_putI f_274_53 p_274_59 (lm_Lay_si (lm_Lay_si hl _ _ _) _ _ _) S_31 rfl ?_
      refine ls_iload_n f_274_56 rfl ?_
      refine ls_bipush 6 f_274_57 (by decide) ?_
      refine ls_ishr (x1 >>> (6 &&& 31)) f_274_59 rfl ?_
      refine ls_aload_n f_274_60 rfl ?_
      refine ls_getR f_274_61 p_274_39 (lm_Lay_si (lm_Lay_si (lm_Lay_si hl _ _ _) _ _ _) _ _ _) S_31 F_31_6 ?_
      refine ls_alen f_274_64 (lm_Lay_si (lm_Lay_si (lm_Lay_si hl _ _ _) _ _ _) _ _ _) S_45 rfl ?_
      refine ls_top 263 (by decide) ?_
      refine ls_icmp_ge 86 f_274_65 rfl hyp (fun _ hyp => ?_) (fun _ hyp => ?_)
      · refine ls_aload_n f_274_68 rfl ?_
        refine ls_getR f_274_69 p_274_39 (lm_Lay_si (lm_Lay_si (lm_Lay_si hl _ _ _) _ _ _) _ _ _) S_31 F_31_6 ?_
        refine ls_iload_n f_274_72 rfl ?_
        refine ls_bipush 6 f_274_73 (by decide) ?_
        refine ls_ishr (x1 >>> (6 &&& 31)) f_274_75 rfl ?_
        refine ls_dup2 f_274_76 rfl rfl ?_
        refine ls_lald f_274_77 (lm_Lay_si (lm_Lay_si (lm_Lay_si hl _ _ _) _ _ _) _ _ _) S_45 hyp (fun hyp => ?_)
        refine ls_topl (lm_l h 45 ((x1 >>> (6 &&& 31)).toNatClampNeg)) rfl ?_
        refine ls_lconst 1 f_274_78 (by decide) ?_
        refine ls_iload_n f_274_79 rfl ?_
        refine ls_bipush 63 f_274_80 (by decide) ?_
        refine ls_iand (x1 &&& 63) f_274_82 rfl ?_
        refine ls_lshl ((1 : Int64) <<< ((x1 &&& 63).toInt64 &&& 63)) f_274_83 rfl ?_
        refine ls_lor ((lm_l h 45 ((x1 >>> (6 &&& 31)).toNatClampNeg)) ||| ((1 : Int64) <<< ((x1 &&& 63).toInt64 &&& 63))) f_274_84 rfl ?_
        refine ls_last f_274_85 (lm_Lay_si (lm_Lay_si (lm_Lay_si hl _ _ _) _ _ _) _ _ _) S_45 hyp (fun hyp => ?_)
        exact ls_return f_274_86 rV_274 hyp
      · exact ls_return f_274_86 rV_274 hyp
    · refine ls_aload_n f_274_35 rfl ?_
      refine ls_getI f_274_36 p_274_65 (lm_Lay_si hl _ _ _) S_31 ?_
      refine ls_top (lm_i h 31 14) rfl ?_
      refine ls_iload_n f_274_39 rfl ?_
      refine ls_mathI (v := if x2 < (lm_i h 31 14) then x2 else (lm_i h 31 14)) 1003 f_274_40 q_274_147 (Or.inr ⟨rfl, rfl⟩) (Nat.le_of_ble_eq_true rfl) ?_
      refine ls_putI f_274_43 p_274_65 (lm_Lay_si hl _ _ _) S_31 rfl ?_
      refine ls_aload_n f_274_46 rfl ?_
      refine ls_dup f_274_47 rfl ?_
      refine ls_getI f_274_48 p_274_59 (lm_Lay_si (lm_Lay_si hl _ _ _) _ _ _) S_31 ?_
      refine ls_top (lm_i h 31 12) rfl ?_
      refine ls_iconst 1 f_274_51 (by decide) ?_
      refine ls_iadd ((lm_i h 31 12) + 1) f_274_52 rfl ?_
      refine ls_putI f_274_53 p_274_59 (lm_Lay_si (lm_Lay_si hl _ _ _) _ _ _) S_31 rfl ?_
      refine ls_iload_n f_274_56 rfl ?_
      refine ls_bipush 6 f_274_57 (by decide) ?_
      refine ls_ishr (x1 >>> (6 &&& 31)) f_274_59 rfl ?_
      refine ls_aload_n f_274_60 rfl ?_
      refine ls_getR f_274_61 p_274_39 (lm_Lay_si (lm_Lay_si (lm_Lay_si hl _ _ _) _ _ _) _ _ _) S_31 F_31_6 ?_
      refine ls_alen f_274_64 (lm_Lay_si (lm_Lay_si (lm_Lay_si hl _ _ _) _ _ _) _ _ _) S_45 rfl ?_
      refine ls_top 263 (by decide) ?_
      refine ls_icmp_ge 86 f_274_65 rfl hyp (fun _ hyp => ?_) (fun _ hyp => ?_)
      · refine ls_aload_n f_274_68 rfl ?_
        refine ls_getR f_274_69 p_274_39 (lm_Lay_si (lm_Lay_si (lm_Lay_si hl _ _ _) _ _ _) _ _ _) S_31 F_31_6 ?_
        refine ls_iload_n f_274_72 rfl ?_
        refine ls_bipush 6 f_274_73 (by decide) ?_
        refine ls_ishr (x1 >>> (6 &&& 31)) f_274_75 rfl ?_
        refine ls_dup2 f_274_76 rfl rfl ?_
        refine ls_lald f_274_77 (lm_Lay_si (lm_Lay_si (lm_Lay_si hl _ _ _) _ _ _) _ _ _) S_45 hyp (fun hyp => ?_)
        refine ls_topl (lm_l h 45 ((x1 >>> (6 &&& 31)).toNatClampNeg)) rfl ?_
        refine ls_lconst 1 f_274_78 (by decide) ?_
        refine ls_iload_n f_274_79 rfl ?_
        refine ls_bipush 63 f_274_80 (by decide) ?_
        refine ls_iand (x1 &&& 63) f_274_82 rfl ?_
        refine ls_lshl ((1 : Int64) <<< ((x1 &&& 63).toInt64 &&& 63)) f_274_83 rfl ?_
        refine ls_lor ((lm_l h 45 ((x1 >>> (6 &&& 31)).toNatClampNeg)) ||| ((1 : Int64) <<< ((x1 &&& 63).toInt64 &&& 63))) f_274_84 rfl ?_
        refine ls_last f_274_85 (lm_Lay_si (lm_Lay_si (lm_Lay_si hl _ _ _) _ _ _) _ _ _) S_45 hyp (fun hyp => ?_)
        exact ls_return f_274_86 rV_274 hyp
      · exact ls_return f_274_86 rV_274 hyp
  · refine ls_aload_n f_274_12 rfl ?_
    refine ls_getI f_274_13 p_274_62 hl S_31 ?_
    refine ls_iload_n f_274_16 rfl ?_
    refine ls_mathI (v := if (lm_i h 31 13) < x2 then x2 else (lm_i h 31 13)) 1002 f_274_17 q_274_120 (Or.inl ⟨rfl, rfl⟩) (Nat.le_of_ble_eq_true rfl) ?_
    refine ls_putI f_274_20 p_274_62 hl S_31 rfl ?_
    refine ls_aload_n f_274_23 rfl ?_
    refine ls_aload_n f_274_24 rfl ?_
    refine ls_getI f_274_25 p_274_59 (lm_Lay_si hl _ _ _) S_31 ?_
    refine ls_top (lm_i h 31 12) rfl ?_
    refine ls_if_ne 35 f_274_28 rfl hyp (fun _ hyp => ?_) (fun _ hyp => ?_)
    · refine ls_iload_n f_274_31 rfl ?_
      refine ls_goto 43 f_274_32 rfl ?_
      refine ls_putI f_274_43 p_274_65 (lm_Lay_si hl _ _ _) S_31 rfl ?_
      refine ls_aload_n f_274_46 rfl ?_
      refine ls_dup f_274_47 rfl ?_
      refine ls_getI f_274_48 p_274_59 (lm_Lay_si (lm_Lay_si hl _ _ _) _ _ _) S_31 ?_
      refine ls_top (lm_i h 31 12) rfl ?_
      refine ls_iconst 1 f_274_51 (by decide) ?_
      refine ls_iadd ((lm_i h 31 12) + 1) f_274_52 rfl ?_
      refine ls_putI f_274_53 p_274_59 (lm_Lay_si (lm_Lay_si hl _ _ _) _ _ _) S_31 rfl ?_
      refine ls_iload_n f_274_56 rfl ?_
      refine ls_bipush 6 f_274_57 (by decide) ?_
      refine ls_ishr (x1 >>> (6 &&& 31)) f_274_59 rfl ?_
      refine ls_aload_n f_274_60 rfl ?_
      refine ls_getR f_274_61 p_274_39 (lm_Lay_si (lm_Lay_si (lm_Lay_si hl _ _ _) _ _ _) _ _ _) S_31 F_31_6 ?_
      refine ls_alen f_274_64 (lm_Lay_si (lm_Lay_si (lm_Lay_si hl _ _ _) _ _ _) _ _ _) S_45 rfl ?_
      refine ls_top 263 (by decide) ?_
      refine ls_icmp_ge 86 f_274_65 rfl hyp (fun _ hyp => ?_) (fun _ hyp => ?_)
      · refine ls_aload_n f_274_68 rfl ?_
        refine ls_getR f_274_69 p_274_39 (lm_Lay_si (lm_Lay_si (lm_Lay_si hl _ _ _) _ _ _) _ _ _) S_31 F_31_6 ?_
        refine ls_iload_n f_274_72 rfl ?_
        refine ls_bipush 6 f_274_73 (by decide) ?_
        refine ls_ishr (x1 >>> (6 &&& 31)) f_274_75 rfl ?_
        refine ls_dup2 f_274_76 rfl rfl ?_
        refine ls_lald f_274_77 (lm_Lay_si (lm_Lay_si (lm_Lay_si hl _ _ _) _ _ _) _ _ _) S_45 hyp (fun hyp => ?_)
        refine ls_topl (lm_l h 45 ((x1 >>> (6 &&& 31)).toNatClampNeg)) rfl ?_
        refine ls_lconst 1 f_274_78 (by decide) ?_
        refine ls_iload_n f_274_79 rfl ?_
        refine ls_bipush 63 f_274_80 (by decide) ?_
        refine ls_iand (x1 &&& 63) f_274_82 rfl ?_
        refine ls_lshl ((1 : Int64) <<< ((x1 &&& 63).toInt64 &&& 63)) f_274_83 rfl ?_
        refine ls_lor ((lm_l h 45 ((x1 >>> (6 &&& 31)).toNatClampNeg)) ||| ((1 : Int64) <<< ((x1 &&& 63).toInt64 &&& 63))) f_274_84 rfl ?_
        refine ls_last f_274_85 (lm_Lay_si (lm_Lay_si (lm_Lay_si hl _ _ _) _ _ _) _ _ _) S_45 hyp (fun hyp => ?_)
        exact ls_return f_274_86 rV_274 hyp
      · exact ls_return f_274_86 rV_274 hyp
    · refine ls_aload_n f_274_35 rfl ?_
      refine ls_getI f_274_36 p_274_65 (lm_Lay_si hl _ _ _) S_31 ?_
      refine ls_top (lm_i h 31 14) rfl ?_
      refine ls_iload_n f_274_39 rfl ?_
      refine ls_mathI (v := if x2 < (lm_i h 31 14) then x2 else (lm_i h 31 14)) 1003 f_274_40 q_274_147 (Or.inr ⟨rfl, rfl⟩) (Nat.le_of_ble_eq_true rfl) ?_
      refine ls_putI f_274_43 p_274_65 (lm_Lay_si hl _ _ _) S_31 rfl ?_
      refine ls_aload_n f_274_46 rfl ?_
      refine ls_dup f_274_47 rfl ?_
      refine ls_getI f_274_48 p_274_59 (lm_Lay_si (lm_Lay_si hl _ _ _) _ _ _) S_31 ?_
      refine ls_top (lm_i h 31 12) rfl ?_
      refine ls_iconst 1 f_274_51 (by decide) ?_
      refine ls_iadd ((lm_i h 31 12) + 1) f_274_52 rfl ?_
      refine ls_putI f_274_53 p_274_59 (lm_Lay_si (lm_Lay_si hl _ _ _) _ _ _) S_31 rfl ?_
      refine ls_iload_n f_274_56 rfl ?_
      refine ls_bipush 6 f_274_57 (by decide) ?_
      refine ls_ishr (x1 >>> (6 &&& 31)) f_274_59 rfl ?_
      refine ls_aload_n f_274_60 rfl ?_
      refine ls_getR f_274_61 p_274_39 (lm_Lay_si (lm_Lay_si (lm_Lay_si hl _ _ _) _ _ _) _ _ _) S_31 F_31_6 ?_
      refine ls_alen f_274_64 (lm_Lay_si (lm_Lay_si (lm_Lay_si hl _ _ _) _ _ _) _ _ _) S_45 rfl ?_
      refine ls_top 263 (by decide) ?_
      refine ls_icmp_ge 86 f_274_65 rfl hyp (fun _ hyp => ?_) (fun _ hyp => ?_)
      · refine ls_aload_n f_274_68 rfl ?_
        refine ls_getR f_274_69 p_274_39 (lm_Lay_si (lm_Lay_si (lm_Lay_si hl _ _ _) _ _ _) _ _ _) S_31 F_31_6 ?_
        refine ls_iload_n f_274_72 rfl ?_
        refine ls_bipush 6 f_274_73 (by decide) ?_
        refine ls_ishr (x1 >>> (6 &&& 31)) f_274_75 rfl ?_
        refine ls_dup2 f_274_76 rfl rfl ?_
        refine ls_lald f_274_77 (lm_Lay_si (lm_Lay_si (lm_Lay_si hl _ _ _) _ _ _) _ _ _) S_45 hyp (fun hyp => ?_)
        refine ls_topl (lm_l h 45 ((x1 >>> (6 &&& 31)).toNatClampNeg)) rfl ?_
        refine ls_lconst 1 f_274_78 (by decide) ?_
        refine ls_iload_n f_274_79 rfl ?_
        refine ls_bipush 63 f_274_80 (by decide) ?_
        refine ls_iand (x1 &&& 63) f_274_82 rfl ?_
        refine ls_lshl ((1 : Int64) <<< ((x1 &&& 63).toInt64 &&& 63)) f_274_83 rfl ?_
        refine ls_lor ((lm_l h 45 ((x1 >>> (6 &&& 31)).toNatClampNeg)) ||| ((1 : Int64) <<< ((x1 &&& 63).toInt64 &&& 63))) f_274_84 rfl ?_
        refine ls_last f_274_85 (lm_Lay_si (lm_Lay_si (lm_Lay_si hl _ _ _) _ _ _) _ _ _) S_45 hyp (fun hyp => ?_)
        exact ls_return f_274_86 rV_274 hyp
      · exact ls_return f_274_86 rV_274 hyp
theorem e_275 {d : Nat} {h : lm_H} {K : Int32 → lm_H → Prop} (x1 : Int32) (hl : lm_Lay h) (hyp : lm_W (d) 275 4 [some (.ref 31), some (.int x1), some (.int 0), some (.int 0), none] [] h (lm_kI K)) : lm_call (d + 1) 275 [.ref 31, .int x1] h (lm_kI K) := by
  refine ls_enter [some (.ref 31), some (.int x1), none, none, none] ml_275 (Nat.le_of_ble_eq_true rfl) rfl ?_
  refine ls_iconst 0 f_275_0 (by decide) ?_
  refine ls_istore_n [some (.ref 31), some (.int x1), some (.int 0), none, none] f_275_1 (Nat.le_of_ble_eq_true rfl) rfl ?_
  refine ls_iconst 0 f_275_2 (by decide) ?_
  refine ls_istore_n [some (.ref 31), some (.int x1), some (.int 0), some (.int 0), none] f_275_3 (Nat.le_of_ble_eq_true rfl) rfl ?_
  exact hyp
theorem b_275_4 {d : Nat} {h : lm_H} {K : Int32 → lm_H → Prop} (x1 : Int32) (x2 : Int32) (x3 : Int32) (hl : lm_Lay h) (hyp : (if x3 < 263 then (lm_in x3 263 False (lm_call (d) 277 [.long (lm_l h 45 x3.toNatClampNeg)] h (lm_kI fun r2 h1 => (if x1 < (x2 + r2) then (lm_in x3 263 False (lm_call (d) 276 [.long (lm_l h1 45 x3.toNatClampNeg), .int (x1 - x2)] h1 (lm_kI fun r4 h3 => K ((x3 * 64) + r4) h3))) else (lm_W (d) 275 4 [some (.ref 31), some (.int x1), some (.int (x2 + r2)), some (.int (x3 + 1)), none] [] h1 (lm_kI K)))))) else (K (-1) h))) : lm_W (d) 275 4 [some (.ref 31), some (.int x1), some (.int x2), some (.int x3), none] [] h (lm_kI K) := by
  refine ls_iload_n f_275_4 rfl ?_
  refine ls_aload_n f_275_5 rfl ?_
  refine ls_getR f_275_6 p_275_39 hl S_31 F_31_6 ?_
  refine ls_alen f_275_9 hl S_45 rfl ?_
  refine ls_top 263 (by decide) ?_
  refine ls_icmp_ge 61 f_275_10 rfl hyp (fun _ hyp => ?_) (fun _ hyp => ?_)
  · refine ls_aload_n f_275_13 rfl ?_
    refine ls_getR f_275_14 p_275_39 hl S_31 F_31_6 ?_
    refine ls_iload_n f_275_17 rfl ?_
    refine ls_lald f_275_18 hl S_45 hyp (fun hyp => ?_)
    refine ls_invS f_275_19 q_275_150 [.long (lm_l h 45 x3.toNatClampNeg)] [] rfl (Nat.le_of_ble_eq_true rfl) ?_
    refine ls_call hyp hl (fun _ h1 hl1 hyp => ?_)
    refine ls_retI hyp (fun r2 hyp => ?_)
    refine ls_istore [some (.ref 31), some (.int x1), some (.int x2), some (.int x3), some (.int r2)] f_275_22 (Nat.le_of_ble_eq_true rfl) rfl ?_
    refine ls_iload_n f_275_24 rfl ?_
    refine ls_iload f_275_25 rfl ?_
    refine ls_iadd (x2 + r2) f_275_27 rfl ?_
    refine ls_iload_n f_275_28 rfl ?_
    refine ls_icmp_le 50 f_275_29 rfl hyp (fun _ hyp => ?_) (fun _ hyp => ?_)
    · refine ls_iload_n f_275_32 rfl ?_
      refine ls_bipush 64 f_275_33 (by decide) ?_
      refine ls_imul (x3 * 64) f_275_35 rfl ?_
      refine ls_aload_n f_275_36 rfl ?_
      refine ls_getR f_275_37 p_275_39 hl1 S_31 F_31_6 ?_
      refine ls_iload_n f_275_40 rfl ?_
      refine ls_lald f_275_41 hl1 S_45 hyp (fun hyp => ?_)
      refine ls_iload_n f_275_42 rfl ?_
      refine ls_iload_n f_275_43 rfl ?_
      refine ls_isub (x1 - x2) f_275_44 rfl ?_
      refine ls_invS f_275_45 q_275_156 [.long (lm_l h1 45 x3.toNatClampNeg), .int (x1 - x2)] [.int (x3 * 64)] rfl (Nat.le_of_ble_eq_true rfl) ?_
      refine ls_call hyp hl1 (fun _ h3 hl3 hyp => ?_)
      refine ls_retI hyp (fun r4 hyp => ?_)
      refine ls_iadd ((x3 * 64) + r4) f_275_48 rfl ?_
      exact ls_ireturn f_275_49 rI_275 hyp
    · refine ls_iload_n f_275_50 rfl ?_
      refine ls_iload f_275_51 rfl ?_
      refine ls_iadd (x2 + r2) f_275_53 rfl ?_
      refine ls_istore_n [some (.ref 31), some (.int x1), some (.int (x2 + r2)), some (.int x3), some (.int r2)] f_275_54 (Nat.le_of_ble_eq_true rfl) rfl ?_
      refine ls_iinc (x3 + 1) [some (.ref 31), some (.int x1), some (.int (x2 + r2)), some (.int (x3 + 1)), some (.int r2)] f_275_55 rfl (Nat.le_of_ble_eq_true rfl) rfl rfl ?_
      refine ls_goto 4 f_275_58 rfl ?_
      exact ls_mask [true, true, true, true, false] [some (.ref 31), some (.int x1), some (.int (x2 + r2)), some (.int (x3 + 1)), none] rfl hyp
  · refine ls_iconst (-1) f_275_61 (by decide) ?_
    exact ls_ireturn f_275_62 rI_275 hyp
theorem e_276 {d : Nat} {h : lm_H} {K : Int32 → lm_H → Prop} (x0 : Int64) (x2 : Int32) (hl : lm_Lay h) (hyp : lm_W (d) 276 5 [some (.long x0), none, some (.int x2), some (.int 0), some (.int 0)] [] h (lm_kI K)) : lm_call (d + 1) 276 [.long x0, .int x2] h (lm_kI K) := by
  refine ls_enter [some (.long x0), none, some (.int x2), none, none] ml_276 (Nat.le_of_ble_eq_true rfl) rfl ?_
  refine ls_iconst 0 f_276_0 (by decide) ?_
  refine ls_istore_n [some (.long x0), none, some (.int x2), some (.int 0), none] f_276_1 (Nat.le_of_ble_eq_true rfl) rfl ?_
  refine ls_iconst 0 f_276_2 (by decide) ?_
  refine ls_istore [some (.long x0), none, some (.int x2), some (.int 0), some (.int 0)] f_276_3 (Nat.le_of_ble_eq_true rfl) rfl ?_
  exact hyp
theorem b_276_5 {d : Nat} {h : lm_H} {K : Int32 → lm_H → Prop} (x0 : Int64) (x2 : Int32) (x3 : Int32) (x4 : Int32) (hl : lm_Lay h) (hyp : (if x4 < 64 then (if (lg_cmp ((x0 >>> (x4.toInt64 &&& 63)) &&& 1) 1) = 0 then (if x3 = x2 then (K x4 h) else (lm_W (d) 276 5 [some (.long x0), none, some (.int x2), some (.int (x3 + 1)), some (.int (x4 + 1))] [] h (lm_kI K))) else (lm_W (d) 276 5 [some (.long x0), none, some (.int x2), some (.int x3), some (.int (x4 + 1))] [] h (lm_kI K))) else (K 0 h))) : lm_W (d) 276 5 [some (.long x0), none, some (.int x2), some (.int x3), some (.int x4)] [] h (lm_kI K) := by
  refine ls_iload f_276_5 rfl ?_
  refine ls_bipush 64 f_276_7 (by decide) ?_
  refine ls_icmp_ge 40 f_276_9 rfl hyp (fun _ hyp => ?_) (fun _ hyp => ?_)
  · refine ls_lload_n f_276_12 rfl ?_
    refine ls_iload f_276_13 rfl ?_
    refine ls_lshr (x0 >>> (x4.toInt64 &&& 63)) f_276_15 rfl ?_
    refine ls_lconst 1 f_276_16 (by decide) ?_
    refine ls_land ((x0 >>> (x4.toInt64 &&& 63)) &&& 1) f_276_17 rfl ?_
    refine ls_lconst 1 f_276_18 (by decide) ?_
    refine ls_lcmp f_276_19 ?_
    refine ls_if_ne 34 f_276_20 rfl hyp (fun _ hyp => ?_) (fun _ hyp => ?_)
    · refine ls_iload_n f_276_23 rfl ?_
      refine ls_iload_n f_276_24 rfl ?_
      refine ls_icmp_ne 31 f_276_25 rfl hyp (fun _ hyp => ?_) (fun _ hyp => ?_)
      · refine ls_iload f_276_28 rfl ?_
        exact ls_ireturn f_276_30 rI_276 hyp
      · refine ls_iinc (x3 + 1) [some (.long x0), none, some (.int x2), some (.int (x3 + 1)), some (.int x4)] f_276_31 rfl (Nat.le_of_ble_eq_true rfl) rfl rfl ?_
        refine ls_iinc (x4 + 1) [some (.long x0), none, some (.int x2), some (.int (x3 + 1)), some (.int (x4 + 1))] f_276_34 rfl (Nat.le_of_ble_eq_true rfl) rfl rfl ?_
        refine ls_goto 5 f_276_37 rfl ?_
        exact hyp
    · refine ls_iinc (x4 + 1) [some (.long x0), none, some (.int x2), some (.int x3), some (.int (x4 + 1))] f_276_34 rfl (Nat.le_of_ble_eq_true rfl) rfl rfl ?_
      refine ls_goto 5 f_276_37 rfl ?_
      exact hyp
  · refine ls_iconst 0 f_276_40 (by decide) ?_
    exact ls_ireturn f_276_41 rI_276 hyp
theorem e_262 {d : Nat} {h : lm_H} {K : Int32 → lm_H → Prop} (x0 : Int32) (hl : lm_Lay h) (hyp : K ((((((((x0 - (((x0.toUInt32 >>> ((1 : Int32).toUInt32 &&& Int32.toUInt32 31)).toInt32) &&& 1431655765)) &&& 858993459) + ((((x0 - (((x0.toUInt32 >>> ((1 : Int32).toUInt32 &&& Int32.toUInt32 31)).toInt32) &&& 1431655765)).toUInt32 >>> ((2 : Int32).toUInt32 &&& Int32.toUInt32 31)).toInt32) &&& 858993459)) + (((((x0 - (((x0.toUInt32 >>> ((1 : Int32).toUInt32 &&& Int32.toUInt32 31)).toInt32) &&& 1431655765)) &&& 858993459) + ((((x0 - (((x0.toUInt32 >>> ((1 : Int32).toUInt32 &&& Int32.toUInt32 31)).toInt32) &&& 1431655765)).toUInt32 >>> ((2 : Int32).toUInt32 &&& Int32.toUInt32 31)).toInt32) &&& 858993459)).toUInt32 >>> ((4 : Int32).toUInt32 &&& Int32.toUInt32 31)).toInt32)) &&& 252645135) + (((((((x0 - (((x0.toUInt32 >>> ((1 : Int32).toUInt32 &&& Int32.toUInt32 31)).toInt32) &&& 1431655765)) &&& 858993459) + ((((x0 - (((x0.toUInt32 >>> ((1 : Int32).toUInt32 &&& Int32.toUInt32 31)).toInt32) &&& 1431655765)).toUInt32 >>> ((2 : Int32).toUInt32 &&& Int32.toUInt32 31)).toInt32) &&& 858993459)) + (((((x0 - (((x0.toUInt32 >>> ((1 : Int32).toUInt32 &&& Int32.toUInt32 31)).toInt32) &&& 1431655765)) &&& 858993459) + ((((x0 - (((x0.toUInt32 >>> ((1 : Int32).toUInt32 &&& Int32.toUInt32 31)).toInt32) &&& 1431655765)).toUInt32 >>> ((2 : Int32).toUInt32 &&& Int32.toUInt32 31)).toInt32) &&& 858993459)).toUInt32 >>> ((4 : Int32).toUInt32 &&& Int32.toUInt32 31)).toInt32)) &&& 252645135).toUInt32 >>> ((8 : Int32).toUInt32 &&& Int32.toUInt32 31)).toInt32)) + ((((((((x0 - (((x0.toUInt32 >>> ((1 : Int32).toUInt32 &&& Int32.toUInt32 31)).toInt32) &&& 1431655765)) &&& 858993459) + ((((x0 - (((x0.toUInt32 >>> ((1 : Int32).toUInt32 &&& Int32.toUInt32 31)).toInt32) &&& 1431655765)).toUInt32 >>> ((2 : Int32).toUInt32 &&& Int32.toUInt32 31)).toInt32) &&& 858993459)) + (((((x0 - (((x0.toUInt32 >>> ((1 : Int32).toUInt32 &&& Int32.toUInt32 31)).toInt32) &&& 1431655765)) &&& 858993459) + ((((x0 - (((x0.toUInt32 >>> ((1 : Int32).toUInt32 &&& Int32.toUInt32 31)).toInt32) &&& 1431655765)).toUInt32 >>> ((2 : Int32).toUInt32 &&& Int32.toUInt32 31)).toInt32) &&& 858993459)).toUInt32 >>> ((4 : Int32).toUInt32 &&& Int32.toUInt32 31)).toInt32)) &&& 252645135) + (((((((x0 - (((x0.toUInt32 >>> ((1 : Int32).toUInt32 &&& Int32.toUInt32 31)).toInt32) &&& 1431655765)) &&& 858993459) + ((((x0 - (((x0.toUInt32 >>> ((1 : Int32).toUInt32 &&& Int32.toUInt32 31)).toInt32) &&& 1431655765)).toUInt32 >>> ((2 : Int32).toUInt32 &&& Int32.toUInt32 31)).toInt32) &&& 858993459)) + (((((x0 - (((x0.toUInt32 >>> ((1 : Int32).toUInt32 &&& Int32.toUInt32 31)).toInt32) &&& 1431655765)) &&& 858993459) + ((((x0 - (((x0.toUInt32 >>> ((1 : Int32).toUInt32 &&& Int32.toUInt32 31)).toInt32) &&& 1431655765)).toUInt32 >>> ((2 : Int32).toUInt32 &&& Int32.toUInt32 31)).toInt32) &&& 858993459)).toUInt32 >>> ((4 : Int32).toUInt32 &&& Int32.toUInt32 31)).toInt32)) &&& 252645135).toUInt32 >>> ((8 : Int32).toUInt32 &&& Int32.toUInt32 31)).toInt32)).toUInt32 >>> ((16 : Int32).toUInt32 &&& Int32.toUInt32 31)).toInt32)) &&& 63) h) : lm_call (d + 1) 262 [.int x0] h (lm_kI K) := by
  refine ls_enter [some (.int x0)] ml_262 (Nat.le_of_ble_eq_true rfl) rfl ?_
  refine ls_iload_n f_262_0 rfl ?_
  refine ls_iload_n f_262_1 rfl ?_
  refine ls_iconst 1 f_262_2 (by decide) ?_
  refine ls_iushr ((x0.toUInt32 >>> ((1 : Int32).toUInt32 &&& Int32.toUInt32 31)).toInt32) f_262_3 rfl ?_
  refine ls_ldcw f_262_4 k_262_265 ?_
  refine ls_iand (((x0.toUInt32 >>> ((1 : Int32).toUInt32 &&& Int32.toUInt32 31)).toInt32) &&& 1431655765) f_262_7 rfl ?_
  refine ls_isub (x0 - (((x0.toUInt32 >>> ((1 : Int32).toUInt32 &&& Int32.toUInt32 31)).toInt32) &&& 1431655765)) f_262_8 rfl ?_
  refine ls_istore_n [some (.int (x0 - (((x0.toUInt32 >>> ((1 : Int32).toUInt32 &&& Int32.toUInt32 31)).toInt32) &&& 1431655765)))] f_262_9 (Nat.le_of_ble_eq_true rfl) rfl ?_
  refine ls_iload_n f_262_10 rfl ?_
  refine ls_ldcw f_262_11 k_262_266 ?_
  refine ls_iand ((x0 - (((x0.toUInt32 >>> ((1 : Int32).toUInt32 &&& Int32.toUInt32 31)).toInt32) &&& 1431655765)) &&& 858993459) f_262_14 rfl ?_
  refine ls_iload_n f_262_15 rfl ?_
  refine ls_iconst 2 f_262_16 (by decide) ?_
  refine ls_iushr (((x0 - (((x0.toUInt32 >>> ((1 : Int32).toUInt32 &&& Int32.toUInt32 31)).toInt32) &&& 1431655765)).toUInt32 >>> ((2 : Int32).toUInt32 &&& Int32.toUInt32 31)).toInt32) f_262_17 rfl ?_
  refine ls_ldcw f_262_18 k_262_266 ?_
  refine ls_iand ((((x0 - (((x0.toUInt32 >>> ((1 : Int32).toUInt32 &&& Int32.toUInt32 31)).toInt32) &&& 1431655765)).toUInt32 >>> ((2 : Int32).toUInt32 &&& Int32.toUInt32 31)).toInt32) &&& 858993459) f_262_21 rfl ?_
  refine ls_iadd (((x0 - (((x0.toUInt32 >>> ((1 : Int32).toUInt32 &&& Int32.toUInt32 31)).toInt32) &&& 1431655765)) &&& 858993459) + ((((x0 - (((x0.toUInt32 >>> ((1 : Int32).toUInt32 &&& Int32.toUInt32 31)).toInt32) &&& 1431655765)).toUInt32 >>> ((2 : Int32).toUInt32 &&& Int32.toUInt32 31)).toInt32) &&& 858993459)) f_262_22 rfl ?_
  refine ls_istore_n [some (.int (((x0 - (((x0.toUInt32 >>> ((1 : Int32).toUInt32 &&& Int32.toUInt32 31)).toInt32) &&& 1431655765)) &&& 858993459) + ((((x0 - (((x0.toUInt32 >>> ((1 : Int32).toUInt32 &&& Int32.toUInt32 31)).toInt32) &&& 1431655765)).toUInt32 >>> ((2 : Int32).toUInt32 &&& Int32.toUInt32 31)).toInt32) &&& 858993459)))] f_262_23 (Nat.le_of_ble_eq_true rfl) rfl ?_
  refine ls_iload_n f_262_24 rfl ?_
  refine ls_iload_n f_262_25 rfl ?_
  refine ls_iconst 4 f_262_26 (by decide) ?_
  refine ls_iushr (((((x0 - (((x0.toUInt32 >>> ((1 : Int32).toUInt32 &&& Int32.toUInt32 31)).toInt32) &&& 1431655765)) &&& 858993459) + ((((x0 - (((x0.toUInt32 >>> ((1 : Int32).toUInt32 &&& Int32.toUInt32 31)).toInt32) &&& 1431655765)).toUInt32 >>> ((2 : Int32).toUInt32 &&& Int32.toUInt32 31)).toInt32) &&& 858993459)).toUInt32 >>> ((4 : Int32).toUInt32 &&& Int32.toUInt32 31)).toInt32) f_262_27 rfl ?_
  refine ls_iadd ((((x0 - (((x0.toUInt32 >>> ((1 : Int32).toUInt32 &&& Int32.toUInt32 31)).toInt32) &&& 1431655765)) &&& 858993459) + ((((x0 - (((x0.toUInt32 >>> ((1 : Int32).toUInt32 &&& Int32.toUInt32 31)).toInt32) &&& 1431655765)).toUInt32 >>> ((2 : Int32).toUInt32 &&& Int32.toUInt32 31)).toInt32) &&& 858993459)) + (((((x0 - (((x0.toUInt32 >>> ((1 : Int32).toUInt32 &&& Int32.toUInt32 31)).toInt32) &&& 1431655765)) &&& 858993459) + ((((x0 - (((x0.toUInt32 >>> ((1 : Int32).toUInt32 &&& Int32.toUInt32 31)).toInt32) &&& 1431655765)).toUInt32 >>> ((2 : Int32).toUInt32 &&& Int32.toUInt32 31)).toInt32) &&& 858993459)).toUInt32 >>> ((4 : Int32).toUInt32 &&& Int32.toUInt32 31)).toInt32)) f_262_28 rfl ?_
  refine ls_ldcw f_262_29 k_262_267 ?_
  refine ls_iand (((((x0 - (((x0.toUInt32 >>> ((1 : Int32).toUInt32 &&& Int32.toUInt32 31)).toInt32) &&& 1431655765)) &&& 858993459) + ((((x0 - (((x0.toUInt32 >>> ((1 : Int32).toUInt32 &&& Int32.toUInt32 31)).toInt32) &&& 1431655765)).toUInt32 >>> ((2 : Int32).toUInt32 &&& Int32.toUInt32 31)).toInt32) &&& 858993459)) + (((((x0 - (((x0.toUInt32 >>> ((1 : Int32).toUInt32 &&& Int32.toUInt32 31)).toInt32) &&& 1431655765)) &&& 858993459) + ((((x0 - (((x0.toUInt32 >>> ((1 : Int32).toUInt32 &&& Int32.toUInt32 31)).toInt32) &&& 1431655765)).toUInt32 >>> ((2 : Int32).toUInt32 &&& Int32.toUInt32 31)).toInt32) &&& 858993459)).toUInt32 >>> ((4 : Int32).toUInt32 &&& Int32.toUInt32 31)).toInt32)) &&& 252645135) f_262_32 rfl ?_
  refine ls_istore_n [some (.int (((((x0 - (((x0.toUInt32 >>> ((1 : Int32).toUInt32 &&& Int32.toUInt32 31)).toInt32) &&& 1431655765)) &&& 858993459) + ((((x0 - (((x0.toUInt32 >>> ((1 : Int32).toUInt32 &&& Int32.toUInt32 31)).toInt32) &&& 1431655765)).toUInt32 >>> ((2 : Int32).toUInt32 &&& Int32.toUInt32 31)).toInt32) &&& 858993459)) + (((((x0 - (((x0.toUInt32 >>> ((1 : Int32).toUInt32 &&& Int32.toUInt32 31)).toInt32) &&& 1431655765)) &&& 858993459) + ((((x0 - (((x0.toUInt32 >>> ((1 : Int32).toUInt32 &&& Int32.toUInt32 31)).toInt32) &&& 1431655765)).toUInt32 >>> ((2 : Int32).toUInt32 &&& Int32.toUInt32 31)).toInt32) &&& 858993459)).toUInt32 >>> ((4 : Int32).toUInt32 &&& Int32.toUInt32 31)).toInt32)) &&& 252645135))] f_262_33 (Nat.le_of_ble_eq_true rfl) rfl ?_
  refine ls_iload_n f_262_34 rfl ?_
  refine ls_iload_n f_262_35 rfl ?_
  refine ls_bipush 8 f_262_36 (by decide) ?_
  refine ls_iushr (((((((x0 - (((x0.toUInt32 >>> ((1 : Int32).toUInt32 &&& Int32.toUInt32 31)).toInt32) &&& 1431655765)) &&& 858993459) + ((((x0 - (((x0.toUInt32 >>> ((1 : Int32).toUInt32 &&& Int32.toUInt32 31)).toInt32) &&& 1431655765)).toUInt32 >>> ((2 : Int32).toUInt32 &&& Int32.toUInt32 31)).toInt32) &&& 858993459)) + (((((x0 - (((x0.toUInt32 >>> ((1 : Int32).toUInt32 &&& Int32.toUInt32 31)).toInt32) &&& 1431655765)) &&& 858993459) + ((((x0 - (((x0.toUInt32 >>> ((1 : Int32).toUInt32 &&& Int32.toUInt32 31)).toInt32) &&& 1431655765)).toUInt32 >>> ((2 : Int32).toUInt32 &&& Int32.toUInt32 31)).toInt32) &&& 858993459)).toUInt32 >>> ((4 : Int32).toUInt32 &&& Int32.toUInt32 31)).toInt32)) &&& 252645135).toUInt32 >>> ((8 : Int32).toUInt32 &&& Int32.toUInt32 31)).toInt32) f_262_38 rfl ?_
  refine ls_iadd ((((((x0 - (((x0.toUInt32 >>> ((1 : Int32).toUInt32 &&& Int32.toUInt32 31)).toInt32) &&& 1431655765)) &&& 858993459) + ((((x0 - (((x0.toUInt32 >>> ((1 : Int32).toUInt32 &&& Int32.toUInt32 31)).toInt32) &&& 1431655765)).toUInt32 >>> ((2 : Int32).toUInt32 &&& Int32.toUInt32 31)).toInt32) &&& 858993459)) + (((((x0 - (((x0.toUInt32 >>> ((1 : Int32).toUInt32 &&& Int32.toUInt32 31)).toInt32) &&& 1431655765)) &&& 858993459) + ((((x0 - (((x0.toUInt32 >>> ((1 : Int32).toUInt32 &&& Int32.toUInt32 31)).toInt32) &&& 1431655765)).toUInt32 >>> ((2 : Int32).toUInt32 &&& Int32.toUInt32 31)).toInt32) &&& 858993459)).toUInt32 >>> ((4 : Int32).toUInt32 &&& Int32.toUInt32 31)).toInt32)) &&& 252645135) + (((((((x0 - (((x0.toUInt32 >>> ((1 : Int32).toUInt32 &&& Int32.toUInt32 31)).toInt32) &&& 1431655765)) &&& 858993459) + ((((x0 - (((x0.toUInt32 >>> ((1 : Int32).toUInt32 &&& Int32.toUInt32 31)).toInt32) &&& 1431655765)).toUInt32 >>> ((2 : Int32).toUInt32 &&& Int32.toUInt32 31)).toInt32) &&& 858993459)) + (((((x0 - (((x0.toUInt32 >>> ((1 : Int32).toUInt32 &&& Int32.toUInt32 31)).toInt32) &&& 1431655765)) &&& 858993459) + ((((x0 - (((x0.toUInt32 >>> ((1 : Int32).toUInt32 &&& Int32.toUInt32 31)).toInt32) &&& 1431655765)).toUInt32 >>> ((2 : Int32).toUInt32 &&& Int32.toUInt32 31)).toInt32) &&& 858993459)).toUInt32 >>> ((4 : Int32).toUInt32 &&& Int32.toUInt32 31)).toInt32)) &&& 252645135).toUInt32 >>> ((8 : Int32).toUInt32 &&& Int32.toUInt32 31)).toInt32)) f_262_39 rfl ?_
  refine ls_istore_n [some (.int ((((((x0 - (((x0.toUInt32 >>> ((1 : Int32).toUInt32 &&& Int32.toUInt32 31)).toInt32) &&& 1431655765)) &&& 858993459) + ((((x0 - (((x0.toUInt32 >>> ((1 : Int32).toUInt32 &&& Int32.toUInt32 31)).toInt32) &&& 1431655765)).toUInt32 >>> ((2 : Int32).toUInt32 &&& Int32.toUInt32 31)).toInt32) &&& 858993459)) + (((((x0 - (((x0.toUInt32 >>> ((1 : Int32).toUInt32 &&& Int32.toUInt32 31)).toInt32) &&& 1431655765)) &&& 858993459) + ((((x0 - (((x0.toUInt32 >>> ((1 : Int32).toUInt32 &&& Int32.toUInt32 31)).toInt32) &&& 1431655765)).toUInt32 >>> ((2 : Int32).toUInt32 &&& Int32.toUInt32 31)).toInt32) &&& 858993459)).toUInt32 >>> ((4 : Int32).toUInt32 &&& Int32.toUInt32 31)).toInt32)) &&& 252645135) + (((((((x0 - (((x0.toUInt32 >>> ((1 : Int32).toUInt32 &&& Int32.toUInt32 31)).toInt32) &&& 1431655765)) &&& 858993459) + ((((x0 - (((x0.toUInt32 >>> ((1 : Int32).toUInt32 &&& Int32.toUInt32 31)).toInt32) &&& 1431655765)).toUInt32 >>> ((2 : Int32).toUInt32 &&& Int32.toUInt32 31)).toInt32) &&& 858993459)) + (((((x0 - (((x0.toUInt32 >>> ((1 : Int32).toUInt32 &&& Int32.toUInt32 31)).toInt32) &&& 1431655765)) &&& 858993459) + ((((x0 - (((x0.toUInt32 >>> ((1 : Int32).toUInt32 &&& Int32.toUInt32 31)).toInt32) &&& 1431655765)).toUInt32 >>> ((2 : Int32).toUInt32 &&& Int32.toUInt32 31)).toInt32) &&& 858993459)).toUInt32 >>> ((4 : Int32).toUInt32 &&& Int32.toUInt32 31)).toInt32)) &&& 252645135).toUInt32 >>> ((8 : Int32).toUInt32 &&& Int32.toUInt32 31)).toInt32)))] f_262_40 (Nat.le_of_ble_eq_true rfl) rfl ?_
  refine ls_iload_n f_262_41 rfl ?_
  refine ls_iload_n f_262_42 rfl ?_
  refine ls_bipush 16 f_262_43 (by decide) ?_
  refine ls_iushr ((((((((x0 - (((x0.toUInt32 >>> ((1 : Int32).toUInt32 &&& Int32.toUInt32 31)).toInt32) &&& 1431655765)) &&& 858993459) + ((((x0 - (((x0.toUInt32 >>> ((1 : Int32).toUInt32 &&& Int32.toUInt32 31)).toInt32) &&& 1431655765)).toUInt32 >>> ((2 : Int32).toUInt32 &&& Int32.toUInt32 31)).toInt32) &&& 858993459)) + (((((x0 - (((x0.toUInt32 >>> ((1 : Int32).toUInt32 &&& Int32.toUInt32 31)).toInt32) &&& 1431655765)) &&& 858993459) + ((((x0 - (((x0.toUInt32 >>> ((1 : Int32).toUInt32 &&& Int32.toUInt32 31)).toInt32) &&& 1431655765)).toUInt32 >>> ((2 : Int32).toUInt32 &&& Int32.toUInt32 31)).toInt32) &&& 858993459)).toUInt32 >>> ((4 : Int32).toUInt32 &&& Int32.toUInt32 31)).toInt32)) &&& 252645135) + (((((((x0 - (((x0.toUInt32 >>> ((1 : Int32).toUInt32 &&& Int32.toUInt32 31)).toInt32) &&& 1431655765)) &&& 858993459) + ((((x0 - (((x0.toUInt32 >>> ((1 : Int32).toUInt32 &&& Int32.toUInt32 31)).toInt32) &&& 1431655765)).toUInt32 >>> ((2 : Int32).toUInt32 &&& Int32.toUInt32 31)).toInt32) &&& 858993459)) + (((((x0 - (((x0.toUInt32 >>> ((1 : Int32).toUInt32 &&& Int32.toUInt32 31)).toInt32) &&& 1431655765)) &&& 858993459) + ((((x0 - (((x0.toUInt32 >>> ((1 : Int32).toUInt32 &&& Int32.toUInt32 31)).toInt32) &&& 1431655765)).toUInt32 >>> ((2 : Int32).toUInt32 &&& Int32.toUInt32 31)).toInt32) &&& 858993459)).toUInt32 >>> ((4 : Int32).toUInt32 &&& Int32.toUInt32 31)).toInt32)) &&& 252645135).toUInt32 >>> ((8 : Int32).toUInt32 &&& Int32.toUInt32 31)).toInt32)).toUInt32 >>> ((16 : Int32).toUInt32 &&& Int32.toUInt32 31)).toInt32) f_262_45 rfl ?_
  refine ls_iadd (((((((x0 - (((x0.toUInt32 >>> ((1 : Int32).toUInt32 &&& Int32.toUInt32 31)).toInt32) &&& 1431655765)) &&& 858993459) + ((((x0 - (((x0.toUInt32 >>> ((1 : Int32).toUInt32 &&& Int32.toUInt32 31)).toInt32) &&& 1431655765)).toUInt32 >>> ((2 : Int32).toUInt32 &&& Int32.toUInt32 31)).toInt32) &&& 858993459)) + (((((x0 - (((x0.toUInt32 >>> ((1 : Int32).toUInt32 &&& Int32.toUInt32 31)).toInt32) &&& 1431655765)) &&& 858993459) + ((((x0 - (((x0.toUInt32 >>> ((1 : Int32).toUInt32 &&& Int32.toUInt32 31)).toInt32) &&& 1431655765)).toUInt32 >>> ((2 : Int32).toUInt32 &&& Int32.toUInt32 31)).toInt32) &&& 858993459)).toUInt32 >>> ((4 : Int32).toUInt32 &&& Int32.toUInt32 31)).toInt32)) &&& 252645135) + (((((((x0 - (((x0.toUInt32 >>> ((1 : Int32).toUInt32 &&& Int32.toUInt32 31)).toInt32) &&& 1431655765)) &&& 858993459) + ((((x0 - (((x0.toUInt32 >>> ((1 : Int32).toUInt32 &&& Int32.toUInt32 31)).toInt32) &&& 1431655765)).toUInt32 >>> ((2 : Int32).toUInt32 &&& Int32.toUInt32 31)).toInt32) &&& 858993459)) + (((((x0 - (((x0.toUInt32 >>> ((1 : Int32).toUInt32 &&& Int32.toUInt32 31)).toInt32) &&& 1431655765)) &&& 858993459) + ((((x0 - (((x0.toUInt32 >>> ((1 : Int32).toUInt32 &&& Int32.toUInt32 31)).toInt32) &&& 1431655765)).toUInt32 >>> ((2 : Int32).toUInt32 &&& Int32.toUInt32 31)).toInt32) &&& 858993459)).toUInt32 >>> ((4 : Int32).toUInt32 &&& Int32.toUInt32 31)).toInt32)) &&& 252645135).toUInt32 >>> ((8 : Int32).toUInt32 &&& Int32.toUInt32 31)).toInt32)) + ((((((((x0 - (((x0.toUInt32 >>> ((1 : Int32).toUInt32 &&& Int32.toUInt32 31)).toInt32) &&& 1431655765)) &&& 858993459) + ((((x0 - (((x0.toUInt32 >>> ((1 : Int32).toUInt32 &&& Int32.toUInt32 31)).toInt32) &&& 1431655765)).toUInt32 >>> ((2 : Int32).toUInt32 &&& Int32.toUInt32 31)).toInt32) &&& 858993459)) + (((((x0 - (((x0.toUInt32 >>> ((1 : Int32).toUInt32 &&& Int32.toUInt32 31)).toInt32) &&& 1431655765)) &&& 858993459) + ((((x0 - (((x0.toUInt32 >>> ((1 : Int32).toUInt32 &&& Int32.toUInt32 31)).toInt32) &&& 1431655765)).toUInt32 >>> ((2 : Int32).toUInt32 &&& Int32.toUInt32 31)).toInt32) &&& 858993459)).toUInt32 >>> ((4 : Int32).toUInt32 &&& Int32.toUInt32 31)).toInt32)) &&& 252645135) + (((((((x0 - (((x0.toUInt32 >>> ((1 : Int32).toUInt32 &&& Int32.toUInt32 31)).toInt32) &&& 1431655765)) &&& 858993459) + ((((x0 - (((x0.toUInt32 >>> ((1 : Int32).toUInt32 &&& Int32.toUInt32 31)).toInt32) &&& 1431655765)).toUInt32 >>> ((2 : Int32).toUInt32 &&& Int32.toUInt32 31)).toInt32) &&& 858993459)) + (((((x0 - (((x0.toUInt32 >>> ((1 : Int32).toUInt32 &&& Int32.toUInt32 31)).toInt32) &&& 1431655765)) &&& 858993459) + ((((x0 - (((x0.toUInt32 >>> ((1 : Int32).toUInt32 &&& Int32.toUInt32 31)).toInt32) &&& 1431655765)).toUInt32 >>> ((2 : Int32).toUInt32 &&& Int32.toUInt32 31)).toInt32) &&& 858993459)).toUInt32 >>> ((4 : Int32).toUInt32 &&& Int32.toUInt32 31)).toInt32)) &&& 252645135).toUInt32 >>> ((8 : Int32).toUInt32 &&& Int32.toUInt32 31)).toInt32)).toUInt32 >>> ((16 : Int32).toUInt32 &&& Int32.toUInt32 31)).toInt32)) f_262_46 rfl ?_
  refine ls_istore_n [some (.int (((((((x0 - (((x0.toUInt32 >>> ((1 : Int32).toUInt32 &&& Int32.toUInt32 31)).toInt32) &&& 1431655765)) &&& 858993459) + ((((x0 - (((x0.toUInt32 >>> ((1 : Int32).toUInt32 &&& Int32.toUInt32 31)).toInt32) &&& 1431655765)).toUInt32 >>> ((2 : Int32).toUInt32 &&& Int32.toUInt32 31)).toInt32) &&& 858993459)) + (((((x0 - (((x0.toUInt32 >>> ((1 : Int32).toUInt32 &&& Int32.toUInt32 31)).toInt32) &&& 1431655765)) &&& 858993459) + ((((x0 - (((x0.toUInt32 >>> ((1 : Int32).toUInt32 &&& Int32.toUInt32 31)).toInt32) &&& 1431655765)).toUInt32 >>> ((2 : Int32).toUInt32 &&& Int32.toUInt32 31)).toInt32) &&& 858993459)).toUInt32 >>> ((4 : Int32).toUInt32 &&& Int32.toUInt32 31)).toInt32)) &&& 252645135) + (((((((x0 - (((x0.toUInt32 >>> ((1 : Int32).toUInt32 &&& Int32.toUInt32 31)).toInt32) &&& 1431655765)) &&& 858993459) + ((((x0 - (((x0.toUInt32 >>> ((1 : Int32).toUInt32 &&& Int32.toUInt32 31)).toInt32) &&& 1431655765)).toUInt32 >>> ((2 : Int32).toUInt32 &&& Int32.toUInt32 31)).toInt32) &&& 858993459)) + (((((x0 - (((x0.toUInt32 >>> ((1 : Int32).toUInt32 &&& Int32.toUInt32 31)).toInt32) &&& 1431655765)) &&& 858993459) + ((((x0 - (((x0.toUInt32 >>> ((1 : Int32).toUInt32 &&& Int32.toUInt32 31)).toInt32) &&& 1431655765)).toUInt32 >>> ((2 : Int32).toUInt32 &&& Int32.toUInt32 31)).toInt32) &&& 858993459)).toUInt32 >>> ((4 : Int32).toUInt32 &&& Int32.toUInt32 31)).toInt32)) &&& 252645135).toUInt32 >>> ((8 : Int32).toUInt32 &&& Int32.toUInt32 31)).toInt32)) + ((((((((x0 - (((x0.toUInt32 >>> ((1 : Int32).toUInt32 &&& Int32.toUInt32 31)).toInt32) &&& 1431655765)) &&& 858993459) + ((((x0 - (((x0.toUInt32 >>> ((1 : Int32).toUInt32 &&& Int32.toUInt32 31)).toInt32) &&& 1431655765)).toUInt32 >>> ((2 : Int32).toUInt32 &&& Int32.toUInt32 31)).toInt32) &&& 858993459)) + (((((x0 - (((x0.toUInt32 >>> ((1 : Int32).toUInt32 &&& Int32.toUInt32 31)).toInt32) &&& 1431655765)) &&& 858993459) + ((((x0 - (((x0.toUInt32 >>> ((1 : Int32).toUInt32 &&& Int32.toUInt32 31)).toInt32) &&& 1431655765)).toUInt32 >>> ((2 : Int32).toUInt32 &&& Int32.toUInt32 31)).toInt32) &&& 858993459)).toUInt32 >>> ((4 : Int32).toUInt32 &&& Int32.toUInt32 31)).toInt32)) &&& 252645135) + (((((((x0 - (((x0.toUInt32 >>> ((1 : Int32).toUInt32 &&& Int32.toUInt32 31)).toInt32) &&& 1431655765)) &&& 858993459) + ((((x0 - (((x0.toUInt32 >>> ((1 : Int32).toUInt32 &&& Int32.toUInt32 31)).toInt32) &&& 1431655765)).toUInt32 >>> ((2 : Int32).toUInt32 &&& Int32.toUInt32 31)).toInt32) &&& 858993459)) + (((((x0 - (((x0.toUInt32 >>> ((1 : Int32).toUInt32 &&& Int32.toUInt32 31)).toInt32) &&& 1431655765)) &&& 858993459) + ((((x0 - (((x0.toUInt32 >>> ((1 : Int32).toUInt32 &&& Int32.toUInt32 31)).toInt32) &&& 1431655765)).toUInt32 >>> ((2 : Int32).toUInt32 &&& Int32.toUInt32 31)).toInt32) &&& 858993459)).toUInt32 >>> ((4 : Int32).toUInt32 &&& Int32.toUInt32 31)).toInt32)) &&& 252645135).toUInt32 >>> ((8 : Int32).toUInt32 &&& Int32.toUInt32 31)).toInt32)).toUInt32 >>> ((16 : Int32).toUInt32 &&& Int32.toUInt32 31)).toInt32)))] f_262_47 (Nat.le_of_ble_eq_true rfl) rfl ?_
  refine ls_iload_n f_262_48 rfl ?_
  refine ls_bipush 63 f_262_49 (by decide) ?_
  refine ls_iand ((((((((x0 - (((x0.toUInt32 >>> ((1 : Int32).toUInt32 &&& Int32.toUInt32 31)).toInt32) &&& 1431655765)) &&& 858993459) + ((((x0 - (((x0.toUInt32 >>> ((1 : Int32).toUInt32 &&& Int32.toUInt32 31)).toInt32) &&& 1431655765)).toUInt32 >>> ((2 : Int32).toUInt32 &&& Int32.toUInt32 31)).toInt32) &&& 858993459)) + (((((x0 - (((x0.toUInt32 >>> ((1 : Int32).toUInt32 &&& Int32.toUInt32 31)).toInt32) &&& 1431655765)) &&& 858993459) + ((((x0 - (((x0.toUInt32 >>> ((1 : Int32).toUInt32 &&& Int32.toUInt32 31)).toInt32) &&& 1431655765)).toUInt32 >>> ((2 : Int32).toUInt32 &&& Int32.toUInt32 31)).toInt32) &&& 858993459)).toUInt32 >>> ((4 : Int32).toUInt32 &&& Int32.toUInt32 31)).toInt32)) &&& 252645135) + (((((((x0 - (((x0.toUInt32 >>> ((1 : Int32).toUInt32 &&& Int32.toUInt32 31)).toInt32) &&& 1431655765)) &&& 858993459) + ((((x0 - (((x0.toUInt32 >>> ((1 : Int32).toUInt32 &&& Int32.toUInt32 31)).toInt32) &&& 1431655765)).toUInt32 >>> ((2 : Int32).toUInt32 &&& Int32.toUInt32 31)).toInt32) &&& 858993459)) + (((((x0 - (((x0.toUInt32 >>> ((1 : Int32).toUInt32 &&& Int32.toUInt32 31)).toInt32) &&& 1431655765)) &&& 858993459) + ((((x0 - (((x0.toUInt32 >>> ((1 : Int32).toUInt32 &&& Int32.toUInt32 31)).toInt32) &&& 1431655765)).toUInt32 >>> ((2 : Int32).toUInt32 &&& Int32.toUInt32 31)).toInt32) &&& 858993459)).toUInt32 >>> ((4 : Int32).toUInt32 &&& Int32.toUInt32 31)).toInt32)) &&& 252645135).toUInt32 >>> ((8 : Int32).toUInt32 &&& Int32.toUInt32 31)).toInt32)) + ((((((((x0 - (((x0.toUInt32 >>> ((1 : Int32).toUInt32 &&& Int32.toUInt32 31)).toInt32) &&& 1431655765)) &&& 858993459) + ((((x0 - (((x0.toUInt32 >>> ((1 : Int32).toUInt32 &&& Int32.toUInt32 31)).toInt32) &&& 1431655765)).toUInt32 >>> ((2 : Int32).toUInt32 &&& Int32.toUInt32 31)).toInt32) &&& 858993459)) + (((((x0 - (((x0.toUInt32 >>> ((1 : Int32).toUInt32 &&& Int32.toUInt32 31)).toInt32) &&& 1431655765)) &&& 858993459) + ((((x0 - (((x0.toUInt32 >>> ((1 : Int32).toUInt32 &&& Int32.toUInt32 31)).toInt32) &&& 1431655765)).toUInt32 >>> ((2 : Int32).toUInt32 &&& Int32.toUInt32 31)).toInt32) &&& 858993459)).toUInt32 >>> ((4 : Int32).toUInt32 &&& Int32.toUInt32 31)).toInt32)) &&& 252645135) + (((((((x0 - (((x0.toUInt32 >>> ((1 : Int32).toUInt32 &&& Int32.toUInt32 31)).toInt32) &&& 1431655765)) &&& 858993459) + ((((x0 - (((x0.toUInt32 >>> ((1 : Int32).toUInt32 &&& Int32.toUInt32 31)).toInt32) &&& 1431655765)).toUInt32 >>> ((2 : Int32).toUInt32 &&& Int32.toUInt32 31)).toInt32) &&& 858993459)) + (((((x0 - (((x0.toUInt32 >>> ((1 : Int32).toUInt32 &&& Int32.toUInt32 31)).toInt32) &&& 1431655765)) &&& 858993459) + ((((x0 - (((x0.toUInt32 >>> ((1 : Int32).toUInt32 &&& Int32.toUInt32 31)).toInt32) &&& 1431655765)).toUInt32 >>> ((2 : Int32).toUInt32 &&& Int32.toUInt32 31)).toInt32) &&& 858993459)).toUInt32 >>> ((4 : Int32).toUInt32 &&& Int32.toUInt32 31)).toInt32)) &&& 252645135).toUInt32 >>> ((8 : Int32).toUInt32 &&& Int32.toUInt32 31)).toInt32)).toUInt32 >>> ((16 : Int32).toUInt32 &&& Int32.toUInt32 31)).toInt32)) &&& 63) f_262_51 rfl ?_
  exact ls_ireturn f_262_52 rI_262 hyp
theorem e_277 {d : Nat} {h : lm_H} {K : Int32 → lm_H → Prop} (x0 : Int64) (hl : lm_Lay h) (hyp : lm_W (d) 277 10 [some (.long (x0 - (((x0.toUInt64 >>> ((1 : Int32).toInt64.toUInt64 &&& Int64.toUInt64 63)).toInt64) &&& 6148914691236517205))), none] [] h (lm_kI K)) : lm_call (d + 1) 277 [.long x0] h (lm_kI K) := by
  refine ls_enter [some (.long x0), none] ml_277 (Nat.le_of_ble_eq_true rfl) rfl ?_
  refine ls_lload_n f_277_0 rfl ?_
  refine ls_lload_n f_277_1 rfl ?_
  refine ls_iconst 1 f_277_2 (by decide) ?_
  refine ls_lushr ((x0.toUInt64 >>> ((1 : Int32).toInt64.toUInt64 &&& Int64.toUInt64 63)).toInt64) f_277_3 rfl ?_
  refine ls_ldc2 f_277_4 k_277_314 ?_
  refine ls_land (((x0.toUInt64 >>> ((1 : Int32).toInt64.toUInt64 &&& Int64.toUInt64 63)).toInt64) &&& 6148914691236517205) f_277_7 rfl ?_
  refine ls_lsub (x0 - (((x0.toUInt64 >>> ((1 : Int32).toInt64.toUInt64 &&& Int64.toUInt64 63)).toInt64) &&& 6148914691236517205)) f_277_8 rfl ?_
  refine ls_lstore_n [some (.long (x0 - (((x0.toUInt64 >>> ((1 : Int32).toInt64.toUInt64 &&& Int64.toUInt64 63)).toInt64) &&& 6148914691236517205))), none] f_277_9 (Nat.le_of_ble_eq_true rfl) rfl ?_
  exact hyp
theorem b_277_10 {d : Nat} {h : lm_H} {K : Int32 → lm_H → Prop} (x0 : Int64) (hl : lm_Lay h) (hyp : lm_W (d) 277 24 [some (.long ((x0 &&& 3689348814741910323) + (((x0.toUInt64 >>> ((2 : Int32).toInt64.toUInt64 &&& Int64.toUInt64 63)).toInt64) &&& 3689348814741910323))), none] [] h (lm_kI K)) : lm_W (d) 277 10 [some (.long x0), none] [] h (lm_kI K) := by
  refine ls_lload_n f_277_10 rfl ?_
  refine ls_ldc2 f_277_11 k_277_316 ?_
  refine ls_land (x0 &&& 3689348814741910323) f_277_14 rfl ?_
  refine ls_lload_n f_277_15 rfl ?_
  refine ls_iconst 2 f_277_16 (by decide) ?_
  refine ls_lushr ((x0.toUInt64 >>> ((2 : Int32).toInt64.toUInt64 &&& Int64.toUInt64 63)).toInt64) f_277_17 rfl ?_
  refine ls_ldc2 f_277_18 k_277_316 ?_
  refine ls_land (((x0.toUInt64 >>> ((2 : Int32).toInt64.toUInt64 &&& Int64.toUInt64 63)).toInt64) &&& 3689348814741910323) f_277_21 rfl ?_
  refine ls_ladd ((x0 &&& 3689348814741910323) + (((x0.toUInt64 >>> ((2 : Int32).toInt64.toUInt64 &&& Int64.toUInt64 63)).toInt64) &&& 3689348814741910323)) f_277_22 rfl ?_
  refine ls_lstore_n [some (.long ((x0 &&& 3689348814741910323) + (((x0.toUInt64 >>> ((2 : Int32).toInt64.toUInt64 &&& Int64.toUInt64 63)).toInt64) &&& 3689348814741910323))), none] f_277_23 (Nat.le_of_ble_eq_true rfl) rfl ?_
  exact hyp
theorem b_277_24 {d : Nat} {h : lm_H} {K : Int32 → lm_H → Prop} (x0 : Int64) (hl : lm_Lay h) (hyp : lm_W (d) 277 34 [some (.long ((x0 + ((x0.toUInt64 >>> ((4 : Int32).toInt64.toUInt64 &&& Int64.toUInt64 63)).toInt64)) &&& 1085102592571150095)), none] [] h (lm_kI K)) : lm_W (d) 277 24 [some (.long x0), none] [] h (lm_kI K) := by
  refine ls_lload_n f_277_24 rfl ?_
  refine ls_lload_n f_277_25 rfl ?_
  refine ls_iconst 4 f_277_26 (by decide) ?_
  refine ls_lushr ((x0.toUInt64 >>> ((4 : Int32).toInt64.toUInt64 &&& Int64.toUInt64 63)).toInt64) f_277_27 rfl ?_
  refine ls_ladd (x0 + ((x0.toUInt64 >>> ((4 : Int32).toInt64.toUInt64 &&& Int64.toUInt64 63)).toInt64)) f_277_28 rfl ?_
  refine ls_ldc2 f_277_29 k_277_318 ?_
  refine ls_land ((x0 + ((x0.toUInt64 >>> ((4 : Int32).toInt64.toUInt64 &&& Int64.toUInt64 63)).toInt64)) &&& 1085102592571150095) f_277_32 rfl ?_
  refine ls_lstore_n [some (.long ((x0 + ((x0.toUInt64 >>> ((4 : Int32).toInt64.toUInt64 &&& Int64.toUInt64 63)).toInt64)) &&& 1085102592571150095)), none] f_277_33 (Nat.le_of_ble_eq_true rfl) rfl ?_
  exact hyp
theorem b_277_34 {d : Nat} {h : lm_H} {K : Int32 → lm_H → Prop} (x0 : Int64) (hl : lm_Lay h) (hyp : lm_W (d) 277 41 [some (.long (x0 + ((x0.toUInt64 >>> ((8 : Int32).toInt64.toUInt64 &&& Int64.toUInt64 63)).toInt64))), none] [] h (lm_kI K)) : lm_W (d) 277 34 [some (.long x0), none] [] h (lm_kI K) := by
  refine ls_lload_n f_277_34 rfl ?_
  refine ls_lload_n f_277_35 rfl ?_
  refine ls_bipush 8 f_277_36 (by decide) ?_
  refine ls_lushr ((x0.toUInt64 >>> ((8 : Int32).toInt64.toUInt64 &&& Int64.toUInt64 63)).toInt64) f_277_38 rfl ?_
  refine ls_ladd (x0 + ((x0.toUInt64 >>> ((8 : Int32).toInt64.toUInt64 &&& Int64.toUInt64 63)).toInt64)) f_277_39 rfl ?_
  refine ls_lstore_n [some (.long (x0 + ((x0.toUInt64 >>> ((8 : Int32).toInt64.toUInt64 &&& Int64.toUInt64 63)).toInt64))), none] f_277_40 (Nat.le_of_ble_eq_true rfl) rfl ?_
  exact hyp
theorem b_277_41 {d : Nat} {h : lm_H} {K : Int32 → lm_H → Prop} (x0 : Int64) (hl : lm_Lay h) (hyp : lm_W (d) 277 48 [some (.long (x0 + ((x0.toUInt64 >>> ((16 : Int32).toInt64.toUInt64 &&& Int64.toUInt64 63)).toInt64))), none] [] h (lm_kI K)) : lm_W (d) 277 41 [some (.long x0), none] [] h (lm_kI K) := by
  refine ls_lload_n f_277_41 rfl ?_
  refine ls_lload_n f_277_42 rfl ?_
  refine ls_bipush 16 f_277_43 (by decide) ?_
  refine ls_lushr ((x0.toUInt64 >>> ((16 : Int32).toInt64.toUInt64 &&& Int64.toUInt64 63)).toInt64) f_277_45 rfl ?_
  refine ls_ladd (x0 + ((x0.toUInt64 >>> ((16 : Int32).toInt64.toUInt64 &&& Int64.toUInt64 63)).toInt64)) f_277_46 rfl ?_
  refine ls_lstore_n [some (.long (x0 + ((x0.toUInt64 >>> ((16 : Int32).toInt64.toUInt64 &&& Int64.toUInt64 63)).toInt64))), none] f_277_47 (Nat.le_of_ble_eq_true rfl) rfl ?_
  exact hyp
theorem b_277_48 {d : Nat} {h : lm_H} {K : Int32 → lm_H → Prop} (x0 : Int64) (hl : lm_Lay h) (hyp : lm_W (d) 277 55 [some (.long (x0 + ((x0.toUInt64 >>> ((32 : Int32).toInt64.toUInt64 &&& Int64.toUInt64 63)).toInt64))), none] [] h (lm_kI K)) : lm_W (d) 277 48 [some (.long x0), none] [] h (lm_kI K) := by
  refine ls_lload_n f_277_48 rfl ?_
  refine ls_lload_n f_277_49 rfl ?_
  refine ls_bipush 32 f_277_50 (by decide) ?_
  refine ls_lushr ((x0.toUInt64 >>> ((32 : Int32).toInt64.toUInt64 &&& Int64.toUInt64 63)).toInt64) f_277_52 rfl ?_
  refine ls_ladd (x0 + ((x0.toUInt64 >>> ((32 : Int32).toInt64.toUInt64 &&& Int64.toUInt64 63)).toInt64)) f_277_53 rfl ?_
  refine ls_lstore_n [some (.long (x0 + ((x0.toUInt64 >>> ((32 : Int32).toInt64.toUInt64 &&& Int64.toUInt64 63)).toInt64))), none] f_277_54 (Nat.le_of_ble_eq_true rfl) rfl ?_
  exact hyp
theorem b_277_55 {d : Nat} {h : lm_H} {K : Int32 → lm_H → Prop} (x0 : Int64) (hl : lm_Lay h) (hyp : K (x0.toInt32 &&& 127) h) : lm_W (d) 277 55 [some (.long x0), none] [] h (lm_kI K) := by
  refine ls_lload_n f_277_55 rfl ?_
  refine ls_l2i x0.toInt32 f_277_56 rfl ?_
  refine ls_bipush 127 f_277_57 (by decide) ?_
  refine ls_iand (x0.toInt32 &&& 127) f_277_59 rfl ?_
  exact ls_ireturn f_277_60 rI_277 hyp
