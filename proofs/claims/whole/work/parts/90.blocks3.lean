/-! Strings: rows of their own, and blocks. -/
theorem sh_str {h : lm_H} {s : Nat} (hs : s < 13) : lm_sh h (1000001 + s) = some (8, s) := by
  unfold lm_sh lm_pre
  rw [if_neg (by omega), if_neg (by omega), if_pos (by omega), Nat.add_sub_cancel_left]
theorem sh_byt {h : lm_H} {s : Nat} (hs : s < 13) : lm_sh h (1000020 + s) = some (9, s) := by
  unfold lm_sh lm_pre
  rw [if_neg (by omega), if_neg (by omega), if_neg (by omega), if_pos (by omega), Nat.add_sub_cancel_left]
section LmStr
variable {d M pc : Nat} {L : lm_L} {st : List Value} {h : lm_H} {Q : Option Value → lm_H → Prop}
theorem ls_strV {j s : Nat} {e : Nat × Nat} (hf : lm_at M pc (.getfield j) 3) (hc : lm_lk lm_pSs (lm_own.getD M 0) j = some e) (h0 : e.1 = 0) (hs : s < 13) (k : lm_W d M (pc + 3) L (.ref (1000020 + s) :: st) h Q) : lm_W d M pc L (.ref (1000001 + s) :: st) h Q := ls_of hf (by
  show lm_o (lm_sh h (1000001 + s)) _ _
  rw [sh_str hs]
  simp only [lm_o, if_true]
  show lm_o (lm_lk lm_pSs _ j) _ _
  rw [hc]
  show if e.1 = 0 then _ else _
  rw [if_pos h0, show 1000001 + s + 19 = 1000020 + s by omega]
  exact k)
theorem ls_strC {j s : Nat} {e : Nat × Nat} (hf : lm_at M pc (.getfield j) 3) (hc : lm_lk lm_pSs (lm_own.getD M 0) j = some e) (h0 : ¬ e.1 = 0) (hs : s < 13) (k : lm_W d M (pc + 3) L (.int 0 :: st) h Q) : lm_W d M pc L (.ref (1000001 + s) :: st) h Q := ls_of hf (by
  show lm_o (lm_sh h (1000001 + s)) _ _
  rw [sh_str hs]
  simp only [lm_o, if_true]
  show lm_o (lm_lk lm_pSs _ j) _ _
  rw [hc]
  show if e.1 = 0 then _ else _
  rw [if_neg h0]
  exact k)
theorem ls_alenS {s : Nat} (hf : lm_at M pc .arraylength 1) (hs : s < 13) (k : lm_W d M (pc + 1) L (.int (Int32.ofNat (lm_sb.getD s []).length) :: st) h Q) : lm_W d M pc L (.ref (1000020 + s) :: st) h Q := ls_of hf (by
  show lm_o (lm_sh h (1000020 + s)) _ _
  rw [sh_byt hs]
  exact k)
theorem ls_baldS {s : Nat} {i : Int32} {A : Prop} (hf : lm_at M pc .baload 1) (hs : s < 13) (hyp : lm_in i (lm_sb.getD s []).length False A) (k : A → lm_W d M (pc + 1) L (.int ((lm_sb.getD s []).getD i.toNatClampNeg 0) :: st) h Q) : lm_W d M pc L (.int i :: .ref (1000020 + s) :: st) h Q := ls_of hf (by
  obtain ⟨hi, hA⟩ := lm_in_F hyp
  show lm_o (lm_sh h (1000020 + s)) _ _
  rw [sh_byt hs]
  simp only [lm_o, if_true]
  exact lm_in_of hi (k hA))
theorem ls_invStr {j m n s : Nat} (hf : lm_at M pc (.invokevirtual j) 3) (hp : lm_mp M j m n 0) (As rest : List Value) (hst : lm_pop (n + 1) st = some (.ref (1000001 + s) :: As, rest)) (hc : (rest.map Value.category).sum ≤ 8) (hs : s < 13) (ho : lm_own.getD m 0 = 16) (k : lm_call d m (.ref (1000001 + s) :: As) h (fun v h' => lm_W d M (pc + 3) L (v.toList ++ rest) h' Q)) : lm_W d M pc L st h Q := ls_of hf (by
  obtain ⟨e, y, h1, rfl, h0, h2, rfl, h4⟩ := hp
  show lm_o (lm_lk lm_pms _ j) _ _
  rw [h1]
  show lm_o (lm_as[e.1]?) _ _
  rw [h2]
  show lm_o (lm_pop (y.1 + 1) st) _ _
  rw [hst]
  show lm_o (lm_sh h (1000001 + s)) _ _
  rw [sh_str hs]
  show if y.2.1 = 0 ∧ _ ∧ _ then _ else _
  rw [if_pos ⟨h4, hc, Or.inr ⟨rfl, ho⟩⟩]
  exact k)
end LmStr
theorem e_272n {d : Nat} {h : lm_H} {K : Int32 → lm_H → Prop} (x0 : Int32) (x1 : Int32) (hl : lm_Lay h) (hyp : (if x0 < 0 then False else (if x0 < x1 then (K x0 h) else False))) : lm_call (d + 1) 272 [.int x0, .int x1, .null] h (lm_kI K) := by
  refine ls_enter [some (.int x0), some (.int x1), some (.null)] ml_272 (Nat.le_of_ble_eq_true rfl) rfl ?_
  refine ls_iload_n f_272_0 rfl ?_
  refine ls_if_lt 9 f_272_1 rfl hyp (fun _ hyp => ?_) (fun _ hyp => ?_)
  · refine ls_aloadN_n f_272_9 rfl ?_
    refine ls_iload_n f_272_10 rfl ?_
    refine ls_iload_n f_272_11 rfl ?_
    exact hyp.elim
  · refine ls_iload_n f_272_4 rfl ?_
    refine ls_iload_n f_272_5 rfl ?_
    refine ls_icmp_lt 16 f_272_6 rfl hyp (fun _ hyp => ?_) (fun _ hyp => ?_)
    · refine ls_iload_n f_272_16 rfl ?_
      exact ls_ireturn f_272_17 rI_272 hyp
    · refine ls_aloadN_n f_272_9 rfl ?_
      refine ls_iload_n f_272_10 rfl ?_
      refine ls_iload_n f_272_11 rfl ?_
      exact hyp.elim
theorem e_272r {d : Nat} {h : lm_H} {K : Int32 → lm_H → Prop} (x0 : Int32) (x1 : Int32) (w : Nat) (hl : lm_Lay h) (hyp : (if x0 < 0 then False else (if x0 < x1 then (K x0 h) else False))) : lm_call (d + 1) 272 [.int x0, .int x1, .ref w] h (lm_kI K) := by
  refine ls_enter [some (.int x0), some (.int x1), some (.ref w)] ml_272 (Nat.le_of_ble_eq_true rfl) rfl ?_
  refine ls_iload_n f_272_0 rfl ?_
  refine ls_if_lt 9 f_272_1 rfl hyp (fun _ hyp => ?_) (fun _ hyp => ?_)
  · refine ls_aload_n f_272_9 rfl ?_
    refine ls_iload_n f_272_10 rfl ?_
    refine ls_iload_n f_272_11 rfl ?_
    exact hyp.elim
  · refine ls_iload_n f_272_4 rfl ?_
    refine ls_iload_n f_272_5 rfl ?_
    refine ls_icmp_lt 16 f_272_6 rfl hyp (fun _ hyp => ?_) (fun _ hyp => ?_)
    · refine ls_iload_n f_272_16 rfl ?_
      exact ls_ireturn f_272_17 rI_272 hyp
    · refine ls_aload_n f_272_9 rfl ?_
      refine ls_iload_n f_272_10 rfl ?_
      refine ls_iload_n f_272_11 rfl ?_
      exact hyp.elim
theorem e_267 {d : Nat} {h : lm_H} {K : lm_H → Prop} (x0 : Int32) (x1 : Int32) (hl : lm_Lay h) (hyp : lm_call (d) 272 [.int x0, .int x1, va_rf (lm_r h 1000001 0)] h (lm_kI fun r2 h1 => K h1)) : lm_call (d + 1) 267 [.int x0, .int x1] h (lm_kV K) := by
  refine ls_enter [some (.int x0), some (.int x1)] ml_267 (Nat.le_of_ble_eq_true rfl) rfl ?_
  refine ls_iload_n f_267_0 rfl ?_
  refine ls_iload_n f_267_1 rfl ?_
  refine ls_getstR (e := (1, 12193)) (r := (lm_r h 1000001 0)) f_267_2 (by decide +kernel) (by decide) rfl ?_
  refine ls_invS f_267_5 q_267_1059 [.int x0, .int x1, va_rf (lm_r h 1000001 0)] [] rfl (Nat.le_of_ble_eq_true rfl) ?_
  refine ls_call hyp hl (fun _ h1 hl1 hyp => ?_)
  refine ls_retI hyp (fun r2 hyp => ?_)
  refine ls_pop f_267_8 rfl ?_
  exact ls_return f_267_9 rV_267 hyp
theorem e_268 {d : Nat} {h : lm_H} {K : Int32 → lm_H → Prop} (s : Nat) (x1 : Int32) (hs : s < 13) (hl : lm_Lay h) (hyp : lm_call (d) 267 [.int x1, .int (Int32.ofNat (lm_sb.getD s []).length)] h (lm_kV fun h1 => lm_in x1 (lm_sb.getD s []).length False ((vp_nar .char (((((lm_sb.getD s []).getD x1.toNatClampNeg 0) &&& 255).toUInt32 % 65536).toInt32) = (((((lm_sb.getD s []).getD x1.toNatClampNeg 0) &&& 255).toUInt32 % 65536).toInt32)) ∧ K (((((lm_sb.getD s []).getD x1.toNatClampNeg 0) &&& 255).toUInt32 % 65536).toInt32) h1))) : lm_call (d + 1) 268 [.ref (1000020 + s), .int x1] h (lm_kI K) := by
  refine ls_enter [some (.ref (1000020 + s)), some (.int x1)] ml_268 (Nat.le_of_ble_eq_true rfl) rfl ?_
  refine ls_iload_n f_268_0 rfl ?_
  refine ls_aload_n f_268_1 rfl ?_
  refine ls_alenS f_268_2 hs ?_
  refine ls_invS f_268_3 q_268_9 [.int x1, .int (Int32.ofNat (lm_sb.getD s []).length)] [] rfl (Nat.le_of_ble_eq_true rfl) ?_
  refine ls_call hyp hl (fun _ h1 hl1 hyp => ?_)
  refine ls_retV hyp (fun hyp => ?_)
  refine ls_aload_n f_268_6 rfl ?_
  refine ls_iload_n f_268_7 rfl ?_
  refine ls_baldS f_268_8 hs hyp (fun hyp => ?_)
  refine ls_sipush 255 f_268_9 (by decide) ?_
  refine ls_iand (((lm_sb.getD s []).getD x1.toNatClampNeg 0) &&& 255) f_268_12 rfl ?_
  refine ls_i2c (((((lm_sb.getD s []).getD x1.toNatClampNeg 0) &&& 255).toUInt32 % 65536).toInt32) f_268_13 rfl ?_
  exact ls_zreturn f_268_14 rZ_268 hyp.1 hyp.2
theorem e_265 {d : Nat} {h : lm_H} {K : Int32 → lm_H → Prop} (s : Nat) (hs : s < 13) (hl : lm_Lay h) (hyp : K 0 h) : lm_call (d + 1) 265 [.ref (1000001 + s)] h (lm_kI K) := by
  refine ls_enter [some (.ref (1000001 + s))] ml_265 (Nat.le_of_ble_eq_true rfl) rfl ?_
  refine ls_getst (e := (0, 12177)) f_265_0 (by decide +kernel) rfl ?_
  refine ls_if_eq_F 13 f_265_3 rfl (by decide) ?_
  refine ls_aload_n f_265_6 rfl ?_
  refine ls_strC (e := (1, 17143)) f_265_7 (by decide +kernel) (by decide) hs ?_
  refine ls_goto 14 f_265_10 rfl ?_
  exact ls_zreturn f_265_14 rZ_265 (by decide) hyp
theorem e_266 {d : Nat} {h : lm_H} {K : Int32 → lm_H → Prop} (s : Nat) (hs : s < 13) (hl : lm_Lay h) (hyp : K 1 h) : lm_call (d + 1) 266 [.ref (1000001 + s)] h (lm_kI K) := by
  refine ls_enter [some (.ref (1000001 + s))] ml_266 (Nat.le_of_ble_eq_true rfl) rfl ?_
  refine ls_getst (e := (0, 12177)) f_266_0 (by decide +kernel) rfl ?_
  refine ls_if_eq_F 17 f_266_3 rfl (by decide) ?_
  refine ls_aload_n f_266_6 rfl ?_
  refine ls_strC (e := (1, 17143)) f_266_7 (by decide +kernel) (by decide) hs ?_
  refine ls_if_ne_T 17 f_266_10 rfl (by decide) ?_
  refine ls_iconst 1 f_266_13 (by decide) ?_
  refine ls_goto 18 f_266_14 rfl ?_
  exact ls_zreturn f_266_18 rZ_266 (by decide) hyp
theorem e_263 {d : Nat} {h : lm_H} {K : Int32 → lm_H → Prop} (s : Nat) (hs : s < 13) (hl : lm_Lay h) (hyp : lm_call (d) 265 [.ref (1000001 + s)] h (lm_kI fun r2 h1 => K ((Int32.ofNat (lm_sb.getD s []).length) >>> (r2 &&& 31)) h1)) : lm_call (d + 1) 263 [.ref (1000001 + s)] h (lm_kI K) := by
  refine ls_enter [some (.ref (1000001 + s))] ml_263 (Nat.le_of_ble_eq_true rfl) rfl ?_
  refine ls_aload_n f_263_0 rfl ?_
  refine ls_strV (e := (0, 17142)) f_263_1 (by decide +kernel) rfl hs ?_
  refine ls_alenS f_263_4 hs ?_
  refine ls_aload_n f_263_5 rfl ?_
  refine ls_invStr (s := s) f_263_6 q_263_335 [] [.int (Int32.ofNat (lm_sb.getD s []).length)] rfl (Nat.le_of_ble_eq_true rfl) hs ow_265 ?_
  refine ls_call hyp hl (fun _ h1 hl1 hyp => ?_)
  refine ls_retI hyp (fun r2 hyp => ?_)
  refine ls_ishr ((Int32.ofNat (lm_sb.getD s []).length) >>> (r2 &&& 31)) f_263_9 rfl ?_
  exact ls_ireturn f_263_10 rI_263 hyp
theorem e_264 {d : Nat} {h : lm_H} {K : Int32 → lm_H → Prop} (s : Nat) (x1 : Int32) (hs : s < 13) (hl : lm_Lay h) (hyp : lm_call (d) 266 [.ref (1000001 + s)] h (lm_kI fun r2 h1 => (if r2 = 0 then False else (lm_call (d) 268 [.ref (1000020 + s), .int x1] h1 (lm_kI fun r4 h3 => (vp_nar .char r4 = r4) ∧ K r4 h3))))) : lm_call (d + 1) 264 [.ref (1000001 + s), .int x1] h (lm_kI K) := by
  refine ls_enter [some (.ref (1000001 + s)), some (.int x1)] ml_264 (Nat.le_of_ble_eq_true rfl) rfl ?_
  refine ls_aload_n f_264_0 rfl ?_
  refine ls_invStr (s := s) f_264_1 q_264_492 [] [] rfl (Nat.le_of_ble_eq_true rfl) hs ow_266 ?_
  refine ls_call hyp hl (fun _ h1 hl1 hyp => ?_)
  refine ls_retI hyp (fun r2 hyp => ?_)
  refine ls_if_eq 16 f_264_4 rfl hyp (fun _ hyp => ?_) (fun _ hyp => ?_)
  · refine ls_aload_n f_264_16 rfl ?_
    refine ls_strV (e := (0, 17142)) f_264_17 (by decide +kernel) rfl hs ?_
    refine ls_iload_n f_264_20 rfl ?_
    exact hyp.elim
  · refine ls_aload_n f_264_7 rfl ?_
    refine ls_strV (e := (0, 17142)) f_264_8 (by decide +kernel) rfl hs ?_
    refine ls_iload_n f_264_11 rfl ?_
    refine ls_invS f_264_12 q_264_495 [.ref (1000020 + s), .int x1] [] rfl (Nat.le_of_ble_eq_true rfl) ?_
    refine ls_call hyp hl1 (fun _ h3 hl3 hyp => ?_)
    refine ls_retI hyp (fun r4 hyp => ?_)
    exact ls_zreturn f_264_15 rZ_264 hyp.1 hyp.2
theorem e_31 {d : Nat} {h : lm_H} {K : Option Nat → lm_H → Prop} (x0 : Int32) (hl : lm_Lay h) (hyp : (if x0 = 259 then (K (some (1000001 + 0)) h) else (if x0 = 260 then (K (some (1000001 + 1)) h) else (if x0 = 261 then (K (some (1000001 + 2)) h) else (if x0 = 262 then (K (some (1000001 + 3)) h) else (if x0 = 263 then (K (some (1000001 + 4)) h) else (if x0 = 264 then (K (some (1000001 + 5)) h) else (if x0 = 265 then (K (some (1000001 + 6)) h) else (if x0 = 266 then (K (some (1000001 + 7)) h) else (if x0 = 267 then (K (some (1000001 + 8)) h) else (if x0 = 268 then (K (some (1000001 + 9)) h) else (if x0 = 269 then (K (some (1000001 + 10)) h) else (if x0 = 270 then (K (some (1000001 + 11)) h) else (K (some (1000001 + 12)) h)))))))))))))) : lm_call (d + 1) 31 [.int x0] h (lm_kR K) := by
  refine ls_enter [some (.int x0)] ml_31 (Nat.le_of_ble_eq_true rfl) rfl ?_
  refine ls_iload_n f_31_0 rfl ?_
  refine ls_table f_31_1 (by decide) ?_
  refine ls_swC (v := 259) (by decide) hyp (fun _ hyp => lm_tg_of (t := 64) rfl ?_) (fun _ hyp => ?_)
  · refine ls_ldcS (e := (0, 12153)) f_31_64 (by decide +kernel) (by decide +kernel) ?_
    exact ls_areturn (x := (some (1000001 + 0))) f_31_66 rZ_31 rfl hyp
  refine ls_swC (v := 260) (by decide) hyp (fun _ hyp => lm_tg_of (t := 67) rfl ?_) (fun _ hyp => ?_)
  · refine ls_ldcS (e := (1, 12154)) f_31_67 (by decide +kernel) (by decide +kernel) ?_
    exact ls_areturn (x := (some (1000001 + 1))) f_31_69 rZ_31 rfl hyp
  refine ls_swC (v := 261) (by decide) hyp (fun _ hyp => lm_tg_of (t := 70) rfl ?_) (fun _ hyp => ?_)
  · refine ls_ldcS (e := (2, 12155)) f_31_70 (by decide +kernel) (by decide +kernel) ?_
    exact ls_areturn (x := (some (1000001 + 2))) f_31_72 rZ_31 rfl hyp
  refine ls_swC (v := 262) (by decide) hyp (fun _ hyp => lm_tg_of (t := 73) rfl ?_) (fun _ hyp => ?_)
  · refine ls_ldcS (e := (3, 12156)) f_31_73 (by decide +kernel) (by decide +kernel) ?_
    exact ls_areturn (x := (some (1000001 + 3))) f_31_75 rZ_31 rfl hyp
  refine ls_swC (v := 263) (by decide) hyp (fun _ hyp => lm_tg_of (t := 76) rfl ?_) (fun _ hyp => ?_)
  · refine ls_ldcS (e := (4, 12157)) f_31_76 (by decide +kernel) (by decide +kernel) ?_
    exact ls_areturn (x := (some (1000001 + 4))) f_31_78 rZ_31 rfl hyp
  refine ls_swC (v := 264) (by decide) hyp (fun _ hyp => lm_tg_of (t := 79) rfl ?_) (fun _ hyp => ?_)
  · refine ls_ldcS (e := (5, 12158)) f_31_79 (by decide +kernel) (by decide +kernel) ?_
    exact ls_areturn (x := (some (1000001 + 5))) f_31_81 rZ_31 rfl hyp
  refine ls_swC (v := 265) (by decide) hyp (fun _ hyp => lm_tg_of (t := 82) rfl ?_) (fun _ hyp => ?_)
  · refine ls_ldcS (e := (6, 12159)) f_31_82 (by decide +kernel) (by decide +kernel) ?_
    exact ls_areturn (x := (some (1000001 + 6))) f_31_84 rZ_31 rfl hyp
  refine ls_swC (v := 266) (by decide) hyp (fun _ hyp => lm_tg_of (t := 85) rfl ?_) (fun _ hyp => ?_)
  · refine ls_ldcS (e := (7, 12160)) f_31_85 (by decide +kernel) (by decide +kernel) ?_
    exact ls_areturn (x := (some (1000001 + 7))) f_31_87 rZ_31 rfl hyp
  refine ls_swC (v := 267) (by decide) hyp (fun _ hyp => lm_tg_of (t := 88) rfl ?_) (fun _ hyp => ?_)
  · refine ls_ldcS (e := (8, 12161)) f_31_88 (by decide +kernel) (by decide +kernel) ?_
    exact ls_areturn (x := (some (1000001 + 8))) f_31_90 rZ_31 rfl hyp
  refine ls_swC (v := 268) (by decide) hyp (fun _ hyp => lm_tg_of (t := 91) rfl ?_) (fun _ hyp => ?_)
  · refine ls_ldcS (e := (9, 12162)) f_31_91 (by decide +kernel) (by decide +kernel) ?_
    exact ls_areturn (x := (some (1000001 + 9))) f_31_93 rZ_31 rfl hyp
  refine ls_swC (v := 269) (by decide) hyp (fun _ hyp => lm_tg_of (t := 94) rfl ?_) (fun _ hyp => ?_)
  · refine ls_ldcS (e := (10, 12163)) f_31_94 (by decide +kernel) (by decide +kernel) ?_
    exact ls_areturn (x := (some (1000001 + 10))) f_31_96 rZ_31 rfl hyp
  refine ls_swC (v := 270) (by decide) hyp (fun _ hyp => lm_tg_of (t := 97) rfl ?_) (fun _ hyp => ?_)
  · refine ls_ldcS (e := (11, 12164)) f_31_97 (by decide +kernel) (by decide +kernel) ?_
    exact ls_areturn (x := (some (1000001 + 11))) f_31_99 rZ_31 rfl hyp
  refine ls_swD ?_
  refine lm_tg_of (t := 100) rfl ?_
  refine ls_ldcS (e := (12, 12165)) f_31_100 (by decide +kernel) (by decide +kernel) ?_
  exact ls_areturn (x := (some (1000001 + 12))) f_31_102 rZ_31 rfl hyp
theorem e_32 {d : Nat} {h : lm_H} {K : Int32 → lm_H → Prop} (x1 : Int32) (x2 : Int32) (s : Nat) (hs : s < 13) (hl : lm_Lay h) (hyp : lm_call (d) 263 [.ref (1000001 + s)] h (lm_kI fun r2 h1 => (if (x2 - x1) = r2 then (lm_W (d) 32 15 [some (.ref 12), some (.int x1), some (.int x2), some (.ref (1000001 + s)), some (.int x1)] [] h1 (lm_kI K)) else (K 0 h1)))) : lm_call (d + 1) 32 [.ref 12, .int x1, .int x2, .ref (1000001 + s)] h (lm_kI K) := by
  refine ls_enter [some (.ref 12), some (.int x1), some (.int x2), some (.ref (1000001 + s)), none] ml_32 (Nat.le_of_ble_eq_true rfl) rfl ?_
  refine ls_iload_n f_32_0 rfl ?_
  refine ls_iload_n f_32_1 rfl ?_
  refine ls_isub (x2 - x1) f_32_2 rfl ?_
  refine ls_aload_n f_32_3 rfl ?_
  refine ls_invStr (s := s) f_32_4 q_32_117 [] [.int (x2 - x1)] rfl (Nat.le_of_ble_eq_true rfl) hs ow_263 ?_
  refine ls_call hyp hl (fun _ h1 hl1 hyp => ?_)
  refine ls_retI hyp (fun r2 hyp => ?_)
  refine ls_icmp_eq 12 f_32_7 rfl hyp (fun _ hyp => ?_) (fun _ hyp => ?_)
  · refine ls_iload_n f_32_12 rfl ?_
    refine ls_istore [some (.ref 12), some (.int x1), some (.int x2), some (.ref (1000001 + s)), some (.int x1)] f_32_13 (Nat.le_of_ble_eq_true rfl) rfl ?_
    exact hyp
  · refine ls_iconst 0 f_32_10 (by decide) ?_
    exact ls_zreturn f_32_11 rZ_32 (by decide) hyp
theorem b_32_15 {d : Nat} {h : lm_H} {K : Int32 → lm_H → Prop} (x1 : Int32) (x2 : Int32) (s : Nat) (x4 : Int32) (hs : s < 13) (hl : lm_Lay h) (hyp : (if x4 < x2 then (lm_in x4 400 False (lm_call (d) 264 [.ref (1000001 + s), .int (x4 - x1)] h (lm_kI fun r2 h1 => (if (lm_i h 12 x4.toNatClampNeg) = r2 then (lm_W (d) 32 15 [some (.ref 12), some (.int x1), some (.int x2), some (.ref (1000001 + s)), some (.int (x4 + 1))] [] h1 (lm_kI K)) else (K 0 h1))))) else (K 1 h))) : lm_W (d) 32 15 [some (.ref 12), some (.int x1), some (.int x2), some (.ref (1000001 + s)), some (.int x4)] [] h (lm_kI K) := by
  refine ls_iload f_32_15 rfl ?_
  refine ls_iload_n f_32_17 rfl ?_
  refine ls_icmp_ge 44 f_32_18 rfl hyp (fun _ hyp => ?_) (fun _ hyp => ?_)
  · refine ls_aload_n f_32_21 rfl ?_
    refine ls_iload f_32_22 rfl ?_
    refine ls_iald f_32_24 hl S_12 hyp (fun hyp => ?_)
    refine ls_aload_n f_32_25 rfl ?_
    refine ls_iload f_32_26 rfl ?_
    refine ls_iload_n f_32_28 rfl ?_
    refine ls_isub (x4 - x1) f_32_29 rfl ?_
    refine ls_invStr (s := s) f_32_30 q_32_122 [.int (x4 - x1)] [.int (lm_i h 12 x4.toNatClampNeg)] rfl (Nat.le_of_ble_eq_true rfl) hs ow_264 ?_
    refine ls_call hyp hl (fun _ h1 hl1 hyp => ?_)
    refine ls_retI hyp (fun r2 hyp => ?_)
    refine ls_icmp_eq 38 f_32_33 rfl hyp (fun _ hyp => ?_) (fun _ hyp => ?_)
    · refine ls_iinc (x4 + 1) [some (.ref 12), some (.int x1), some (.int x2), some (.ref (1000001 + s)), some (.int (x4 + 1))] f_32_38 rfl (Nat.le_of_ble_eq_true rfl) rfl rfl ?_
      refine ls_goto 15 f_32_41 rfl ?_
      exact hyp
    · refine ls_iconst 0 f_32_36 (by decide) ?_
      exact ls_zreturn f_32_37 rZ_32 (by decide) hyp
  · refine ls_iconst 1 f_32_44 (by decide) ?_
    exact ls_zreturn f_32_45 rZ_32 (by decide) hyp
