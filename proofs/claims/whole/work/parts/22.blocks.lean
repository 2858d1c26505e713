theorem e_270c29 {d : Nat} {h : lm_H} {K : lm_H → Prop} (x1 : Int32) (hl : lm_Lay h) (hyp : lm_W (d) 270 5 [some (.ref 29), some (.int x1), some (.int 0), some (.int 7)] [] h (lm_kV K)) : lm_call (d + 1) 270 [.ref 29, .int x1] h (lm_kV K) := by
  refine ls_enter [some (.ref 29), some (.int x1), none, none] ml_270 (Nat.le_of_ble_eq_true rfl) rfl ?_
  refine ls_iconst 0 f_270_0 (by decide) ?_
  refine ls_istore_n [some (.ref 29), some (.int x1), some (.int 0), none] f_270_1 (Nat.le_of_ble_eq_true rfl) rfl ?_
  refine ls_aload_n f_270_2 rfl ?_
  refine ls_alen f_270_3 hl S_29 rfl ?_
  refine ls_top 7 (by decide) ?_
  refine ls_istore_n [some (.ref 29), some (.int x1), some (.int 0), some (.int 7)] f_270_4 (Nat.le_of_ble_eq_true rfl) rfl ?_
  exact hyp
theorem b_270c29_5 {d : Nat} {h : lm_H} {K : lm_H → Prop} (x1 : Int32) (x2 : Int32) (x3 : Int32) (hl : lm_Lay h) (hyp : (if x2 < x3 then (lm_in x2 7 False (lm_W (d) 270 5 [some (.ref 29), some (.int x1), some (.int (x2 + 1)), some (.int x3)] [] (lm_si h 29 x2.toNatClampNeg x1) (lm_kV K))) else (K h))) : lm_W (d) 270 5 [some (.ref 29), some (.int x1), some (.int x2), some (.int x3)] [] h (lm_kV K) := by
  refine ls_iload_n f_270_5 rfl ?_
  refine ls_iload_n f_270_6 rfl ?_
  refine ls_icmp_ge 20 f_270_7 rfl hyp (fun _ hyp => ?_) (fun _ hyp => ?_)
  · refine ls_aload_n f_270_10 rfl ?_
    refine ls_iload_n f_270_11 rfl ?_
    refine ls_iload_n f_270_12 rfl ?_
    refine ls_iast f_270_13 hl S_29 hyp (fun hyp => ?_)
    refine ls_iinc (x2 + 1) [some (.ref 29), some (.int x1), some (.int (x2 + 1)), some (.int x3)] f_270_14 rfl (Nat.le_of_ble_eq_true rfl) rfl rfl ?_
    refine ls_goto 5 f_270_17 rfl ?_
    exact hyp
  · exact ls_return f_270_20 rV_270 hyp
theorem e_270c40 {d : Nat} {h : lm_H} {K : lm_H → Prop} (x1 : Int32) (hl : lm_Lay h) (hyp : lm_W (d) 270 5 [some (.ref 40), some (.int x1), some (.int 0), some (.int 7)] [] h (lm_kV K)) : lm_call (d + 1) 270 [.ref 40, .int x1] h (lm_kV K) := by
  refine ls_enter [some (.ref 40), some (.int x1), none, none] ml_270 (Nat.le_of_ble_eq_true rfl) rfl ?_
  refine ls_iconst 0 f_270_0 (by decide) ?_
  refine ls_istore_n [some (.ref 40), some (.int x1), some (.int 0), none] f_270_1 (Nat.le_of_ble_eq_true rfl) rfl ?_
  refine ls_aload_n f_270_2 rfl ?_
  refine ls_alen f_270_3 hl S_40 rfl ?_
  refine ls_top 7 (by decide) ?_
  refine ls_istore_n [some (.ref 40), some (.int x1), some (.int 0), some (.int 7)] f_270_4 (Nat.le_of_ble_eq_true rfl) rfl ?_
  exact hyp
theorem b_270c40_5 {d : Nat} {h : lm_H} {K : lm_H → Prop} (x1 : Int32) (x2 : Int32) (x3 : Int32) (hl : lm_Lay h) (hyp : (if x2 < x3 then (lm_in x2 7 False (lm_W (d) 270 5 [some (.ref 40), some (.int x1), some (.int (x2 + 1)), some (.int x3)] [] (lm_si h 40 x2.toNatClampNeg x1) (lm_kV K))) else (K h))) : lm_W (d) 270 5 [some (.ref 40), some (.int x1), some (.int x2), some (.int x3)] [] h (lm_kV K) := by
  refine ls_iload_n f_270_5 rfl ?_
  refine ls_iload_n f_270_6 rfl ?_
  refine ls_icmp_ge 20 f_270_7 rfl hyp (fun _ hyp => ?_) (fun _ hyp => ?_)
  · refine ls_aload_n f_270_10 rfl ?_
    refine ls_iload_n f_270_11 rfl ?_
    refine ls_iload_n f_270_12 rfl ?_
    refine ls_iast f_270_13 hl S_40 hyp (fun hyp => ?_)
    refine ls_iinc (x2 + 1) [some (.ref 40), some (.int x1), some (.int (x2 + 1)), some (.int x3)] f_270_14 rfl (Nat.le_of_ble_eq_true rfl) rfl rfl ?_
    refine ls_goto 5 f_270_17 rfl ?_
    exact hyp
  · exact ls_return f_270_20 rV_270 hyp
theorem e_270c66 {d : Nat} {h : lm_H} {K : lm_H → Prop} (x1 : Int32) (hl : lm_Lay h) (hyp : lm_W (d) 270 5 [some (.ref 66), some (.int x1), some (.int 0), some (.int 5)] [] h (lm_kV K)) : lm_call (d + 1) 270 [.ref 66, .int x1] h (lm_kV K) := by
  refine ls_enter [some (.ref 66), some (.int x1), none, none] ml_270 (Nat.le_of_ble_eq_true rfl) rfl ?_
  refine ls_iconst 0 f_270_0 (by decide) ?_
  refine ls_istore_n [some (.ref 66), some (.int x1), some (.int 0), none] f_270_1 (Nat.le_of_ble_eq_true rfl) rfl ?_
  refine ls_aload_n f_270_2 rfl ?_
  refine ls_alen f_270_3 hl S_66 rfl ?_
  refine ls_top 5 (by decide) ?_
  refine ls_istore_n [some (.ref 66), some (.int x1), some (.int 0), some (.int 5)] f_270_4 (Nat.le_of_ble_eq_true rfl) rfl ?_
  exact hyp
theorem b_270c66_5 {d : Nat} {h : lm_H} {K : lm_H → Prop} (x1 : Int32) (x2 : Int32) (x3 : Int32) (hl : lm_Lay h) (hyp : (if x2 < x3 then (lm_in x2 5 False (lm_W (d) 270 5 [some (.ref 66), some (.int x1), some (.int (x2 + 1)), some (.int x3)] [] (lm_si h 66 x2.toNatClampNeg x1) (lm_kV K))) else (K h))) : lm_W (d) 270 5 [some (.ref 66), some (.int x1), some (.int x2), some (.int x3)] [] h (lm_kV K) := by
  refine ls_iload_n f_270_5 rfl ?_
  refine ls_iload_n f_270_6 rfl ?_
  refine ls_icmp_ge 20 f_270_7 rfl hyp (fun _ hyp => ?_) (fun _ hyp => ?_)
  · refine ls_aload_n f_270_10 rfl ?_
    refine ls_iload_n f_270_11 rfl ?_
    refine ls_iload_n f_270_12 rfl ?_
    refine ls_iast f_270_13 hl S_66 hyp (fun hyp => ?_)
    refine ls_iinc (x2 + 1) [some (.ref 66), some (.int x1), some (.int (x2 + 1)), some (.int x3)] f_270_14 rfl (Nat.le_of_ble_eq_true rfl) rfl rfl ?_
    refine ls_goto 5 f_270_17 rfl ?_
    exact hyp
  · exact ls_return f_270_20 rV_270 hyp
theorem e_270c67 {d : Nat} {h : lm_H} {K : lm_H → Prop} (x1 : Int32) (hl : lm_Lay h) (hyp : lm_W (d) 270 5 [some (.ref 67), some (.int x1), some (.int 0), some (.int 30)] [] h (lm_kV K)) : lm_call (d + 1) 270 [.ref 67, .int x1] h (lm_kV K) := by
  refine ls_enter [some (.ref 67), some (.int x1), none, none] ml_270 (Nat.le_of_ble_eq_true rfl) rfl ?_
  refine ls_iconst 0 f_270_0 (by decide) ?_
  refine ls_istore_n [some (.ref 67), some (.int x1), some (.int 0), none] f_270_1 (Nat.le_of_ble_eq_true rfl) rfl ?_
  refine ls_aload_n f_270_2 rfl ?_
  refine ls_alen f_270_3 hl S_67 rfl ?_
  refine ls_top 30 (by decide) ?_
  refine ls_istore_n [some (.ref 67), some (.int x1), some (.int 0), some (.int 30)] f_270_4 (Nat.le_of_ble_eq_true rfl) rfl ?_
  exact hyp
theorem b_270c67_5 {d : Nat} {h : lm_H} {K : lm_H → Prop} (x1 : Int32) (x2 : Int32) (x3 : Int32) (hl : lm_Lay h) (hyp : (if x2 < x3 then (lm_in x2 30 False (lm_W (d) 270 5 [some (.ref 67), some (.int x1), some (.int (x2 + 1)), some (.int x3)] [] (lm_si h 67 x2.toNatClampNeg x1) (lm_kV K))) else (K h))) : lm_W (d) 270 5 [some (.ref 67), some (.int x1), some (.int x2), some (.int x3)] [] h (lm_kV K) := by
  refine ls_iload_n f_270_5 rfl ?_
  refine ls_iload_n f_270_6 rfl ?_
  refine ls_icmp_ge 20 f_270_7 rfl hyp (fun _ hyp => ?_) (fun _ hyp => ?_)
  · refine ls_aload_n f_270_10 rfl ?_
    refine ls_iload_n f_270_11 rfl ?_
    refine ls_iload_n f_270_12 rfl ?_
    refine ls_iast f_270_13 hl S_67 hyp (fun hyp => ?_)
    refine ls_iinc (x2 + 1) [some (.ref 67), some (.int x1), some (.int (x2 + 1)), some (.int x3)] f_270_14 rfl (Nat.le_of_ble_eq_true rfl) rfl rfl ?_
    refine ls_goto 5 f_270_17 rfl ?_
    exact hyp
  · exact ls_return f_270_20 rV_270 hyp
theorem e_270c68 {d : Nat} {h : lm_H} {K : lm_H → Prop} (x1 : Int32) (hl : lm_Lay h) (hyp : lm_W (d) 270 5 [some (.ref 68), some (.int x1), some (.int 0), some (.int 30)] [] h (lm_kV K)) : lm_call (d + 1) 270 [.ref 68, .int x1] h (lm_kV K) := by
  refine ls_enter [some (.ref 68), some (.int x1), none, none] ml_270 (Nat.le_of_ble_eq_true rfl) rfl ?_
  refine ls_iconst 0 f_270_0 (by decide) ?_
  refine ls_istore_n [some (.ref 68), some (.int x1), some (.int 0), none] f_270_1 (Nat.le_of_ble_eq_true rfl) rfl ?_
  refine ls_aload_n f_270_2 rfl ?_
  refine ls_alen f_270_3 hl S_68 rfl ?_
  refine ls_top 30 (by decide) ?_
  refine ls_istore_n [some (.ref 68), some (.int x1), some (.int 0), some (.int 30)] f_270_4 (Nat.le_of_ble_eq_true rfl) rfl ?_
  exact hyp
theorem b_270c68_5 {d : Nat} {h : lm_H} {K : lm_H → Prop} (x1 : Int32) (x2 : Int32) (x3 : Int32) (hl : lm_Lay h) (hyp : (if x2 < x3 then (lm_in x2 30 False (lm_W (d) 270 5 [some (.ref 68), some (.int x1), some (.int (x2 + 1)), some (.int x3)] [] (lm_si h 68 x2.toNatClampNeg x1) (lm_kV K))) else (K h))) : lm_W (d) 270 5 [some (.ref 68), some (.int x1), some (.int x2), some (.int x3)] [] h (lm_kV K) := by
  refine ls_iload_n f_270_5 rfl ?_
  refine ls_iload_n f_270_6 rfl ?_
  refine ls_icmp_ge 20 f_270_7 rfl hyp (fun _ hyp => ?_) (fun _ hyp => ?_)
  · refine ls_aload_n f_270_10 rfl ?_
    refine ls_iload_n f_270_11 rfl ?_
    refine ls_iload_n f_270_12 rfl ?_
    refine ls_iast f_270_13 hl S_68 hyp (fun hyp => ?_)
    refine ls_iinc (x2 + 1) [some (.ref 68), some (.int x1), some (.int (x2 + 1)), some (.int x3)] f_270_14 rfl (Nat.le_of_ble_eq_true rfl) rfl rfl ?_
    refine ls_goto 5 f_270_17 rfl ?_
    exact hyp
  · exact ls_return f_270_20 rV_270 hyp
theorem e_270c71 {d : Nat} {h : lm_H} {K : lm_H → Prop} (x1 : Int32) (hl : lm_Lay h) (hyp : lm_W (d) 270 5 [some (.ref 71), some (.int x1), some (.int 0), some (.int 5)] [] h (lm_kV K)) : lm_call (d + 1) 270 [.ref 71, .int x1] h (lm_kV K) := by
  refine ls_enter [some (.ref 71), some (.int x1), none, none] ml_270 (Nat.le_of_ble_eq_true rfl) rfl ?_
  refine ls_iconst 0 f_270_0 (by decide) ?_
  refine ls_istore_n [some (.ref 71), some (.int x1), some (.int 0), none] f_270_1 (Nat.le_of_ble_eq_true rfl) rfl ?_
  refine ls_aload_n f_270_2 rfl ?_
  refine ls_alen f_270_3 hl S_71 rfl ?_
  refine ls_top 5 (by decide) ?_
  refine ls_istore_n [some (.ref 71), some (.int x1), some (.int 0), some (.int 5)] f_270_4 (Nat.le_of_ble_eq_true rfl) rfl ?_
  exact hyp
theorem b_270c71_5 {d : Nat} {h : lm_H} {K : lm_H → Prop} (x1 : Int32) (x2 : Int32) (x3 : Int32) (hl : lm_Lay h) (hyp : (if x2 < x3 then (lm_in x2 5 False (lm_W (d) 270 5 [some (.ref 71), some (.int x1), some (.int (x2 + 1)), some (.int x3)] [] (lm_si h 71 x2.toNatClampNeg x1) (lm_kV K))) else (K h))) : lm_W (d) 270 5 [some (.ref 71), some (.int x1), some (.int x2), some (.int x3)] [] h (lm_kV K) := by
  refine ls_iload_n f_270_5 rfl ?_
  refine ls_iload_n f_270_6 rfl ?_
  refine ls_icmp_ge 20 f_270_7 rfl hyp (fun _ hyp => ?_) (fun _ hyp => ?_)
  · refine ls_aload_n f_270_10 rfl ?_
    refine ls_iload_n f_270_11 rfl ?_
    refine ls_iload_n f_270_12 rfl ?_
    refine ls_iast f_270_13 hl S_71 hyp (fun hyp => ?_)
    refine ls_iinc (x2 + 1) [some (.ref 71), some (.int x1), some (.int (x2 + 1)), some (.int x3)] f_270_14 rfl (Nat.le_of_ble_eq_true rfl) rfl rfl ?_
    refine ls_goto 5 f_270_17 rfl ?_
    exact hyp
  · exact ls_return f_270_20 rV_270 hyp
theorem e_269c51 {d : Nat} {h : lm_H} {K : lm_H → Prop} (x1 : Int64) (hl : lm_Lay h) (hyp : lm_W (d) 269 6 [some (.ref 51), some (.long x1), none, some (.int 0), some (.int 263)] [] h (lm_kV K)) : lm_call (d + 1) 269 [.ref 51, .long x1] h (lm_kV K) := by
  refine ls_enter [some (.ref 51), some (.long x1), none, none, none] ml_269 (Nat.le_of_ble_eq_true rfl) rfl ?_
  refine ls_iconst 0 f_269_0 (by decide) ?_
  refine ls_istore_n [some (.ref 51), some (.long x1), none, some (.int 0), none] f_269_1 (Nat.le_of_ble_eq_true rfl) rfl ?_
  refine ls_aload_n f_269_2 rfl ?_
  refine ls_alen f_269_3 hl S_51 rfl ?_
  refine ls_top 263 (by decide) ?_
  refine ls_istore [some (.ref 51), some (.long x1), none, some (.int 0), some (.int 263)] f_269_4 (Nat.le_of_ble_eq_true rfl) rfl ?_
  exact hyp
theorem b_269c51_6 {d : Nat} {h : lm_H} {K : lm_H → Prop} (x1 : Int64) (x3 : Int32) (x4 : Int32) (hl : lm_Lay h) (hyp : (if x3 < x4 then (lm_in x3 263 False (lm_W (d) 269 6 [some (.ref 51), some (.long x1), none, some (.int (x3 + 1)), some (.int x4)] [] (lm_sl h 51 x3.toNatClampNeg x1) (lm_kV K))) else (K h))) : lm_W (d) 269 6 [some (.ref 51), some (.long x1), none, some (.int x3), some (.int x4)] [] h (lm_kV K) := by
  refine ls_iload_n f_269_6 rfl ?_
  refine ls_iload f_269_7 rfl ?_
  refine ls_icmp_ge 22 f_269_9 rfl hyp (fun _ hyp => ?_) (fun _ hyp => ?_)
  · refine ls_aload_n f_269_12 rfl ?_
    refine ls_iload_n f_269_13 rfl ?_
    refine ls_lload_n f_269_14 rfl ?_
    refine ls_last f_269_15 hl S_51 hyp (fun hyp => ?_)
    refine ls_iinc (x3 + 1) [some (.ref 51), some (.long x1), none, some (.int (x3 + 1)), some (.int x4)] f_269_16 rfl (Nat.le_of_ble_eq_true rfl) rfl rfl ?_
    refine ls_goto 6 f_269_19 rfl ?_
    exact hyp
  · exact ls_return f_269_22 rV_269 hyp
theorem e_269c54 {d : Nat} {h : lm_H} {K : lm_H → Prop} (x1 : Int64) (hl : lm_Lay h) (hyp : lm_W (d) 269 6 [some (.ref 54), some (.long x1), none, some (.int 0), some (.int 5)] [] h (lm_kV K)) : lm_call (d + 1) 269 [.ref 54, .long x1] h (lm_kV K) := by
  refine ls_enter [some (.ref 54), some (.long x1), none, none, none] ml_269 (Nat.le_of_ble_eq_true rfl) rfl ?_
  refine ls_iconst 0 f_269_0 (by decide) ?_
  refine ls_istore_n [some (.ref 54), some (.long x1), none, some (.int 0), none] f_269_1 (Nat.le_of_ble_eq_true rfl) rfl ?_
  refine ls_aload_n f_269_2 rfl ?_
  refine ls_alen f_269_3 hl S_54 rfl ?_
  refine ls_top 5 (by decide) ?_
  refine ls_istore [some (.ref 54), some (.long x1), none, some (.int 0), some (.int 5)] f_269_4 (Nat.le_of_ble_eq_true rfl) rfl ?_
  exact hyp
theorem b_269c54_6 {d : Nat} {h : lm_H} {K : lm_H → Prop} (x1 : Int64) (x3 : Int32) (x4 : Int32) (hl : lm_Lay h) (hyp : (if x3 < x4 then (lm_in x3 5 False (lm_W (d) 269 6 [some (.ref 54), some (.long x1), none, some (.int (x3 + 1)), some (.int x4)] [] (lm_sl h 54 x3.toNatClampNeg x1) (lm_kV K))) else (K h))) : lm_W (d) 269 6 [some (.ref 54), some (.long x1), none, some (.int x3), some (.int x4)] [] h (lm_kV K) := by
  refine ls_iload_n f_269_6 rfl ?_
  refine ls_iload f_269_7 rfl ?_
  refine ls_icmp_ge 22 f_269_9 rfl hyp (fun _ hyp => ?_) (fun _ hyp => ?_)
  · refine ls_aload_n f_269_12 rfl ?_
    refine ls_iload_n f_269_13 rfl ?_
    refine ls_lload_n f_269_14 rfl ?_
    refine ls_last f_269_15 hl S_54 hyp (fun hyp => ?_)
    refine ls_iinc (x3 + 1) [some (.ref 54), some (.long x1), none, some (.int (x3 + 1)), some (.int x4)] f_269_16 rfl (Nat.le_of_ble_eq_true rfl) rfl rfl ?_
    refine ls_goto 6 f_269_19 rfl ?_
    exact hyp
  · exact ls_return f_269_22 rV_269 hyp
theorem e_269c45 {d : Nat} {h : lm_H} {K : lm_H → Prop} (x1 : Int64) (hl : lm_Lay h) (hyp : lm_W (d) 269 6 [some (.ref 45), some (.long x1), none, some (.int 0), some (.int 263)] [] h (lm_kV K)) : lm_call (d + 1) 269 [.ref 45, .long x1] h (lm_kV K) := by
  refine ls_enter [some (.ref 45), some (.long x1), none, none, none] ml_269 (Nat.le_of_ble_eq_true rfl) rfl ?_
  refine ls_iconst 0 f_269_0 (by decide) ?_
  refine ls_istore_n [some (.ref 45), some (.long x1), none, some (.int 0), none] f_269_1 (Nat.le_of_ble_eq_true rfl) rfl ?_
  refine ls_aload_n f_269_2 rfl ?_
  refine ls_alen f_269_3 hl S_45 rfl ?_
  refine ls_top 263 (by decide) ?_
  refine ls_istore [some (.ref 45), some (.long x1), none, some (.int 0), some (.int 263)] f_269_4 (Nat.le_of_ble_eq_true rfl) rfl ?_
  exact hyp
theorem b_269c45_6 {d : Nat} {h : lm_H} {K : lm_H → Prop} (x1 : Int64) (x3 : Int32) (x4 : Int32) (hl : lm_Lay h) (hyp : (if x3 < x4 then (lm_in x3 263 False (lm_W (d) 269 6 [some (.ref 45), some (.long x1), none, some (.int (x3 + 1)), some (.int x4)] [] (lm_sl h 45 x3.toNatClampNeg x1) (lm_kV K))) else (K h))) : lm_W (d) 269 6 [some (.ref 45), some (.long x1), none, some (.int x3), some (.int x4)] [] h (lm_kV K) := by
  refine ls_iload_n f_269_6 rfl ?_
  refine ls_iload f_269_7 rfl ?_
  refine ls_icmp_ge 22 f_269_9 rfl hyp (fun _ hyp => ?_) (fun _ hyp => ?_)
  · refine ls_aload_n f_269_12 rfl ?_
    refine ls_iload_n f_269_13 rfl ?_
    refine ls_lload_n f_269_14 rfl ?_
    refine ls_last f_269_15 hl S_45 hyp (fun hyp => ?_)
    refine ls_iinc (x3 + 1) [some (.ref 45), some (.long x1), none, some (.int (x3 + 1)), some (.int x4)] f_269_16 rfl (Nat.le_of_ble_eq_true rfl) rfl rfl ?_
    refine ls_goto 6 f_269_19 rfl ?_
    exact hyp
  · exact ls_return f_269_22 rV_269 hyp
