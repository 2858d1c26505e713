theorem lm_obj : Cond.instanceMethod objectInit ∈ lw_tbl ∧ Cond.code objectInit ⟨#[0xb1]⟩ 1 none ∈ lw_tbl := ⟨lm_wd_in (n := 10028) (by decide +kernel), lm_wd_in (n := 10029) (by decide +kernel)⟩
theorem lm_acp : Cond.native arraycopyName ∈ lw_tbl ∧ Cond.static arraycopyName ∈ lw_tbl ∧ Cond.initialized "java/lang/System" ∈ lw_tbl := ⟨lm_wd_in (n := 13067) (by decide +kernel), lm_wd_in (n := 13066) (by decide +kernel), lm_wd_in (n := 10020) (by decide +kernel)⟩
theorem lm_ac : Cond.arrayClass .int ∈ lw_tbl ∧ Cond.arrayClass .boolean ∈ lw_tbl ∧ Cond.arrayClass .byte ∈ lw_tbl ∧ Cond.arrayClass .long ∈ lw_tbl := ⟨lm_wd_in (n := 10105) (by decide +kernel), lm_wd_in (n := 10122) (by decide +kernel), lm_wd_in (n := 13077) (by decide +kernel), lm_wd_in (n := 10183) (by decide +kernel)⟩
theorem lm_ao : Cond.arrayOver (.object RX2) ∈ lw_tbl ∧ Cond.arrayOver (.object RX4) ∈ lw_tbl := ⟨lm_wd_in (n := 10037) (by decide +kernel), lm_wd_in (n := 10106) (by decide +kernel)⟩
def lm_bk (w : Cond) : Bool := match w with
  | .fieldLinkNest _ _ _ _ _ _ => true
  | .methodLinkNest _ _ _ _ => true
  | _ => goodWord w
theorem lm_bkp_1 : (k2_sels lw_privs_1).all lm_bk = true := by decide +kernel
theorem lm_bkp_2 : (k2_sels lw_privs_2).all lm_bk = true := by decide +kernel
theorem lm_bkp_3 : (k2_sels lw_privs_3).all lm_bk = true := by decide +kernel
theorem lm_bkp_4 : (k2_sels lw_privs_4).all lm_bk = true := by decide +kernel
theorem lm_bkp_5 : (k2_sels lw_privs_5).all lm_bk = true := by decide +kernel
theorem lm_bkp_6 : (k2_sels lw_privs_6).all lm_bk = true := by decide +kernel
theorem lm_bkp_7 : (k2_sels lw_privs_7).all lm_bk = true := by decide +kernel
theorem lm_bkp_8 : (k2_sels lw_privs_8).all lm_bk = true := by decide +kernel
theorem lm_bkp_9 : (k2_sels lw_privs_9).all lm_bk = true := by decide +kernel
theorem lm_bkp_10 : (k2_sels lw_privs_10).all lm_bk = true := by decide +kernel
theorem lm_bkt_1 : tables_1_1.all lm_bk = true := by decide +kernel
theorem lm_bkt_2 : tables_1_2.all lm_bk = true := by decide +kernel
theorem lm_bkt_3 : tables_1_3.all lm_bk = true := by decide +kernel
theorem lm_bkt_4 : tables_1_4.all lm_bk = true := by decide +kernel
theorem lm_bkt_5 : tables_1_5.all lm_bk = true := by decide +kernel
theorem lm_bkt_6 : tables_1_6.all lm_bk = true := by decide +kernel
theorem lm_bkt_7 : tables_1_7.all lm_bk = true := by decide +kernel
theorem lm_bkt_8 : tables_1_8.all lm_bk = true := by decide +kernel
theorem lm_bk_all : ∀ w ∈ lw_tbl, lm_bk w = true := by
  intro w hw
  rcases List.mem_append.mp hw with hw | hw
  · obtain ⟨y, hy, rfl⟩ := List.mem_map.mp hw
    unfold lw_privs at hy
    simp only [List.mem_append] at hy
    rcases hy with hy | hy | hy | hy | hy | hy | hy | hy | hy | hy
    · exact List.all_eq_true.mp lm_bkp_1 _ (List.mem_map.mpr ⟨y, hy, rfl⟩)
    · exact List.all_eq_true.mp lm_bkp_2 _ (List.mem_map.mpr ⟨y, hy, rfl⟩)
    · exact List.all_eq_true.mp lm_bkp_3 _ (List.mem_map.mpr ⟨y, hy, rfl⟩)
    · exact List.all_eq_true.mp lm_bkp_4 _ (List.mem_map.mpr ⟨y, hy, rfl⟩)
    · exact List.all_eq_true.mp lm_bkp_5 _ (List.mem_map.mpr ⟨y, hy, rfl⟩)
    · exact List.all_eq_true.mp lm_bkp_6 _ (List.mem_map.mpr ⟨y, hy, rfl⟩)
    · exact List.all_eq_true.mp lm_bkp_7 _ (List.mem_map.mpr ⟨y, hy, rfl⟩)
    · exact List.all_eq_true.mp lm_bkp_8 _ (List.mem_map.mpr ⟨y, hy, rfl⟩)
    · exact List.all_eq_true.mp lm_bkp_9 _ (List.mem_map.mpr ⟨y, hy, rfl⟩)
    · exact List.all_eq_true.mp lm_bkp_10 _ (List.mem_map.mpr ⟨y, hy, rfl⟩)
  · unfold tables_1 at hw
    simp only [List.mem_append] at hw
    rcases hw with hw | hw | hw | hw | hw | hw | hw | hw
    · exact List.all_eq_true.mp lm_bkt_1 _ hw
    · exact List.all_eq_true.mp lm_bkt_2 _ hw
    · exact List.all_eq_true.mp lm_bkt_3 _ hw
    · exact List.all_eq_true.mp lm_bkt_4 _ hw
    · exact List.all_eq_true.mp lm_bkt_5 _ hw
    · exact List.all_eq_true.mp lm_bkt_6 _ hw
    · exact List.all_eq_true.mp lm_bkt_7 _ hw
    · exact List.all_eq_true.mp lm_bkt_8 _ hw
