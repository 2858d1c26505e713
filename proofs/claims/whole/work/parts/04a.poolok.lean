def lm_okF (o k : Nat) (e : Nat × Nat × Bool × Nat) : Bool := match vwCl[e.1]? with
  | none => false
  | some q => decide (e.2.1 < q.2.2) && (decide ((q.2.1 e.2.1).1 = q.1) && (decide (parseFieldDescriptor (q.2.1 e.2.1).2.2.1 = some (lm_tys.getD e.1 (fun _ => .int) e.2.1)) && decide (lw_tbl[e.2.2.2]? = some (if e.2.2.1 = true then .fieldLinkNest (lm_Rs.getD o "") k q.1 (q.2.1 e.2.1).2.1 (q.2.1 e.2.1).2.2.1 "SoleGuest" else .fieldLink (lm_Rs.getD o "") k q.1 (q.2.1 e.2.1).2.1 (q.2.1 e.2.1).2.2.1))))
def lm_yM (j : Nat) : MethodName := if j = 1000 then objectInit else if j = 1001 then arraycopyName else lm_ys.getD j ⟨"", "", ""⟩
def lm_okM (o k : Nat) (e : Nat × Bool × Nat) : Bool := decide (lw_tbl[e.2.2]? = some (if e.2.1 = true then .methodLinkNest (lm_Rs.getD o "") k (lm_yM e.1) "SoleGuest" else .methodLink (lm_Rs.getD o "") k (lm_yM e.1)))
def lm_okN (o k : Nat) (e : Nat × Nat) : Bool := match vwCl[e.1]? with
  | none => false
  | some q => decide (lw_tbl[e.2]? = some (.classLink (lm_Rs.getD o "") k q.1))
def lm_aC (g : Nat) : String := if g = 5 then RX2 else RX4
def lm_okA (o k : Nat) (e : Nat × Nat) : Bool := decide (e.1 = 5 ∨ e.1 = 6) && decide (lw_tbl[e.2]? = some (.classLink (lm_Rs.getD o "") k (lm_aC e.1)))
def lm_okI (o k : Nat) (e : Int32 × Nat) : Bool := decide (lw_tbl[e.2]? = some (.constant (lm_Rs.getD o "") k e.1))
def lm_okJ (o k : Nat) (e : Int64 × Nat) : Bool := decide (lw_tbl[e.2]? = some (.constantLong (lm_Rs.getD o "") k e.1))
def lm_tx : List String := ["if", "or", "and", "not", "worth", "bars", "host", "guest", "base", "wit", "street", "met", "evening"]
def lm_okS (o k : Nat) (e : Nat × Nat) : Bool := decide (o = 3 ∧ e.1 < 13) && decide (lw_tbl[e.2]? = some (.stringRef (lm_Rs.getD o "") k (lm_tx.getD e.1 "")))
def lm_okG (o k : Nat) (e : Nat × Nat) : Bool := decide (lw_tbl[e.2]? = some (if e.1 = 0 then .fieldLink (lm_Rs.getD o "") k "java/lang/String" "COMPACT_STRINGS" "Z" else .fieldLink (lm_Rs.getD o "") k "jdk/internal/util/Preconditions" "SIOOBE_FORMATTER" "Ljava/util/function/BiFunction;"))
def lm_okV (o k : Nat) (e : Nat × Nat) : Bool := decide (lw_tbl[e.2]? = some (if e.1 = 0 then .fieldLink (lm_Rs.getD o "") k "java/lang/String" "value" "[B" else .fieldLink (lm_Rs.getD o "") k "java/lang/String" "coder" "B"))
theorem lm_lk_mem {β : Type} {t : List (Nat × β)} {k : Nat} {e : β} (he : t.lookup k = some e) : (k, e) ∈ t := by
  induction t with
  | nil => simp at he
  | cons x t ih =>
    obtain ⟨a, b⟩ := x
    by_cases h : k = a
    · subst h
      simp at he
      subst he
      exact List.mem_cons_self
    · have h2 : (k == a) = false := by simpa using h
      rw [List.lookup_cons, h2] at he
      exact List.mem_cons_of_mem _ (ih he)
theorem lm_lk_all {β : Type} {t : List (List (Nat × β))} {q : Nat → Nat → β → Bool} (hl : t.length ≤ 21) (h : ∀ o, o < 21 → (t.getD o []).all (fun e => q o e.1 e.2) = true) {o k : Nat} {e : β} (he : (t.getD o []).lookup k = some e) : q o k e = true := by
  by_cases ho : o < 21
  · exact List.all_eq_true.mp (h o ho) (k, e) (lm_lk_mem he)
  · rw [List.getD_eq_getElem?_getD, List.getElem?_eq_none (by omega)] at he
    simp at he
theorem lm_pfs_0 : (lm_pfs.getD 0 []).all (fun e => lm_okF 0 e.1 e.2) = true := by decide +kernel
theorem lm_pfs_1 : (lm_pfs.getD 1 []).all (fun e => lm_okF 1 e.1 e.2) = true := by decide +kernel
theorem lm_pfs_2 : (lm_pfs.getD 2 []).all (fun e => lm_okF 2 e.1 e.2) = true := by decide +kernel
theorem lm_pfs_3 : (lm_pfs.getD 3 []).all (fun e => lm_okF 3 e.1 e.2) = true := by decide +kernel
theorem lm_pfs_4 : (lm_pfs.getD 4 []).all (fun e => lm_okF 4 e.1 e.2) = true := by decide +kernel
theorem lm_pfs_5 : (lm_pfs.getD 5 []).all (fun e => lm_okF 5 e.1 e.2) = true := by decide +kernel
theorem lm_pfs_6 : (lm_pfs.getD 6 []).all (fun e => lm_okF 6 e.1 e.2) = true := by decide +kernel
theorem lm_pfs_7 : (lm_pfs.getD 7 []).all (fun e => lm_okF 7 e.1 e.2) = true := by decide +kernel
theorem lm_pfs_8 : (lm_pfs.getD 8 []).all (fun e => lm_okF 8 e.1 e.2) = true := by decide +kernel
theorem lm_pfs_9 : (lm_pfs.getD 9 []).all (fun e => lm_okF 9 e.1 e.2) = true := by decide +kernel
theorem lm_pfs_10 : (lm_pfs.getD 10 []).all (fun e => lm_okF 10 e.1 e.2) = true := by decide +kernel
theorem lm_pfs_11 : (lm_pfs.getD 11 []).all (fun e => lm_okF 11 e.1 e.2) = true := by decide +kernel
theorem lm_pfs_12 : (lm_pfs.getD 12 []).all (fun e => lm_okF 12 e.1 e.2) = true := by decide +kernel
theorem lm_pfs_13 : (lm_pfs.getD 13 []).all (fun e => lm_okF 13 e.1 e.2) = true := by decide +kernel
theorem lm_pfs_14 : (lm_pfs.getD 14 []).all (fun e => lm_okF 14 e.1 e.2) = true := by decide +kernel
theorem lm_pfs_15 : (lm_pfs.getD 15 []).all (fun e => lm_okF 15 e.1 e.2) = true := by decide +kernel
theorem lm_pfs_16 : (lm_pfs.getD 16 []).all (fun e => lm_okF 16 e.1 e.2) = true := by decide +kernel
theorem lm_pfs_17 : (lm_pfs.getD 17 []).all (fun e => lm_okF 17 e.1 e.2) = true := by decide +kernel
theorem lm_pfs_18 : (lm_pfs.getD 18 []).all (fun e => lm_okF 18 e.1 e.2) = true := by decide +kernel
theorem lm_pfs_19 : (lm_pfs.getD 19 []).all (fun e => lm_okF 19 e.1 e.2) = true := by decide +kernel
theorem lm_pfs_20 : (lm_pfs.getD 20 []).all (fun e => lm_okF 20 e.1 e.2) = true := by decide +kernel
theorem lm_pfs_ok {o k : Nat} {e} (he : (lm_pfs.getD o []).lookup k = some e) : lm_okF o k e = true := lm_lk_all (t := lm_pfs) (q := lm_okF) (by decide) (lm_nS (lm_nS (lm_nS (lm_nS (lm_nS (lm_nS (lm_nS (lm_nS (lm_nS (lm_nS (lm_nS (lm_nS (lm_nS (lm_nS (lm_nS (lm_nS (lm_nS (lm_nS (lm_nS (lm_nS (lm_n1 lm_pfs_0) lm_pfs_1) lm_pfs_2) lm_pfs_3) lm_pfs_4) lm_pfs_5) lm_pfs_6) lm_pfs_7) lm_pfs_8) lm_pfs_9) lm_pfs_10) lm_pfs_11) lm_pfs_12) lm_pfs_13) lm_pfs_14) lm_pfs_15) lm_pfs_16) lm_pfs_17) lm_pfs_18) lm_pfs_19) lm_pfs_20) he
theorem lm_pms_0 : (lm_pms.getD 0 []).all (fun e => lm_okM 0 e.1 e.2) = true := by decide +kernel
theorem lm_pms_1 : (lm_pms.getD 1 []).all (fun e => lm_okM 1 e.1 e.2) = true := by decide +kernel
theorem lm_pms_2 : (lm_pms.getD 2 []).all (fun e => lm_okM 2 e.1 e.2) = true := by decide +kernel
theorem lm_pms_3 : (lm_pms.getD 3 []).all (fun e => lm_okM 3 e.1 e.2) = true := by decide +kernel
theorem lm_pms_4 : (lm_pms.getD 4 []).all (fun e => lm_okM 4 e.1 e.2) = true := by decide +kernel
theorem lm_pms_5 : (lm_pms.getD 5 []).all (fun e => lm_okM 5 e.1 e.2) = true := by decide +kernel
theorem lm_pms_6 : (lm_pms.getD 6 []).all (fun e => lm_okM 6 e.1 e.2) = true := by decide +kernel
theorem lm_pms_7 : (lm_pms.getD 7 []).all (fun e => lm_okM 7 e.1 e.2) = true := by decide +kernel
theorem lm_pms_8 : (lm_pms.getD 8 []).all (fun e => lm_okM 8 e.1 e.2) = true := by decide +kernel
theorem lm_pms_9 : (lm_pms.getD 9 []).all (fun e => lm_okM 9 e.1 e.2) = true := by decide +kernel
theorem lm_pms_10 : (lm_pms.getD 10 []).all (fun e => lm_okM 10 e.1 e.2) = true := by decide +kernel
theorem lm_pms_11 : (lm_pms.getD 11 []).all (fun e => lm_okM 11 e.1 e.2) = true := by decide +kernel
theorem lm_pms_12 : (lm_pms.getD 12 []).all (fun e => lm_okM 12 e.1 e.2) = true := by decide +kernel
theorem lm_pms_13 : (lm_pms.getD 13 []).all (fun e => lm_okM 13 e.1 e.2) = true := by decide +kernel
theorem lm_pms_14 : (lm_pms.getD 14 []).all (fun e => lm_okM 14 e.1 e.2) = true := by decide +kernel
theorem lm_pms_15 : (lm_pms.getD 15 []).all (fun e => lm_okM 15 e.1 e.2) = true := by decide +kernel
theorem lm_pms_16 : (lm_pms.getD 16 []).all (fun e => lm_okM 16 e.1 e.2) = true := by decide +kernel
theorem lm_pms_17 : (lm_pms.getD 17 []).all (fun e => lm_okM 17 e.1 e.2) = true := by decide +kernel
theorem lm_pms_18 : (lm_pms.getD 18 []).all (fun e => lm_okM 18 e.1 e.2) = true := by decide +kernel
theorem lm_pms_19 : (lm_pms.getD 19 []).all (fun e => lm_okM 19 e.1 e.2) = true := by decide +kernel
theorem lm_pms_20 : (lm_pms.getD 20 []).all (fun e => lm_okM 20 e.1 e.2) = true := by decide +kernel
theorem lm_pms_ok {o k : Nat} {e} (he : (lm_pms.getD o []).lookup k = some e) : lm_okM o k e = true := lm_lk_all (t := lm_pms) (q := lm_okM) (by decide) (lm_nS (lm_nS (lm_nS (lm_nS (lm_nS (lm_nS (lm_nS (lm_nS (lm_nS (lm_nS (lm_nS (lm_nS (lm_nS (lm_nS (lm_nS (lm_nS (lm_nS (lm_nS (lm_nS (lm_nS (lm_n1 lm_pms_0) lm_pms_1) lm_pms_2) lm_pms_3) lm_pms_4) lm_pms_5) lm_pms_6) lm_pms_7) lm_pms_8) lm_pms_9) lm_pms_10) lm_pms_11) lm_pms_12) lm_pms_13) lm_pms_14) lm_pms_15) lm_pms_16) lm_pms_17) lm_pms_18) lm_pms_19) lm_pms_20) he
theorem lm_pns_0 : (lm_pns.getD 0 []).all (fun e => lm_okN 0 e.1 e.2) = true := by decide +kernel
theorem lm_pns_1 : (lm_pns.getD 1 []).all (fun e => lm_okN 1 e.1 e.2) = true := by decide +kernel
theorem lm_pns_2 : (lm_pns.getD 2 []).all (fun e => lm_okN 2 e.1 e.2) = true := by decide +kernel
theorem lm_pns_3 : (lm_pns.getD 3 []).all (fun e => lm_okN 3 e.1 e.2) = true := by decide +kernel
theorem lm_pns_4 : (lm_pns.getD 4 []).all (fun e => lm_okN 4 e.1 e.2) = true := by decide +kernel
theorem lm_pns_5 : (lm_pns.getD 5 []).all (fun e => lm_okN 5 e.1 e.2) = true := by decide +kernel
theorem lm_pns_6 : (lm_pns.getD 6 []).all (fun e => lm_okN 6 e.1 e.2) = true := by decide +kernel
theorem lm_pns_7 : (lm_pns.getD 7 []).all (fun e => lm_okN 7 e.1 e.2) = true := by decide +kernel
theorem lm_pns_8 : (lm_pns.getD 8 []).all (fun e => lm_okN 8 e.1 e.2) = true := by decide +kernel
theorem lm_pns_9 : (lm_pns.getD 9 []).all (fun e => lm_okN 9 e.1 e.2) = true := by decide +kernel
theorem lm_pns_10 : (lm_pns.getD 10 []).all (fun e => lm_okN 10 e.1 e.2) = true := by decide +kernel
theorem lm_pns_11 : (lm_pns.getD 11 []).all (fun e => lm_okN 11 e.1 e.2) = true := by decide +kernel
theorem lm_pns_12 : (lm_pns.getD 12 []).all (fun e => lm_okN 12 e.1 e.2) = true := by decide +kernel
theorem lm_pns_13 : (lm_pns.getD 13 []).all (fun e => lm_okN 13 e.1 e.2) = true := by decide +kernel
theorem lm_pns_14 : (lm_pns.getD 14 []).all (fun e => lm_okN 14 e.1 e.2) = true := by decide +kernel
theorem lm_pns_15 : (lm_pns.getD 15 []).all (fun e => lm_okN 15 e.1 e.2) = true := by decide +kernel
theorem lm_pns_16 : (lm_pns.getD 16 []).all (fun e => lm_okN 16 e.1 e.2) = true := by decide +kernel
theorem lm_pns_17 : (lm_pns.getD 17 []).all (fun e => lm_okN 17 e.1 e.2) = true := by decide +kernel
theorem lm_pns_18 : (lm_pns.getD 18 []).all (fun e => lm_okN 18 e.1 e.2) = true := by decide +kernel
theorem lm_pns_19 : (lm_pns.getD 19 []).all (fun e => lm_okN 19 e.1 e.2) = true := by decide +kernel
theorem lm_pns_20 : (lm_pns.getD 20 []).all (fun e => lm_okN 20 e.1 e.2) = true := by decide +kernel
theorem lm_pns_ok {o k : Nat} {e} (he : (lm_pns.getD o []).lookup k = some e) : lm_okN o k e = true := lm_lk_all (t := lm_pns) (q := lm_okN) (by decide) (lm_nS (lm_nS (lm_nS (lm_nS (lm_nS (lm_nS (lm_nS (lm_nS (lm_nS (lm_nS (lm_nS (lm_nS (lm_nS (lm_nS (lm_nS (lm_nS (lm_nS (lm_nS (lm_nS (lm_nS (lm_n1 lm_pns_0) lm_pns_1) lm_pns_2) lm_pns_3) lm_pns_4) lm_pns_5) lm_pns_6) lm_pns_7) lm_pns_8) lm_pns_9) lm_pns_10) lm_pns_11) lm_pns_12) lm_pns_13) lm_pns_14) lm_pns_15) lm_pns_16) lm_pns_17) lm_pns_18) lm_pns_19) lm_pns_20) he
theorem lm_pas_0 : (lm_pas.getD 0 []).all (fun e => lm_okA 0 e.1 e.2) = true := by decide +kernel
theorem lm_pas_1 : (lm_pas.getD 1 []).all (fun e => lm_okA 1 e.1 e.2) = true := by decide +kernel
theorem lm_pas_2 : (lm_pas.getD 2 []).all (fun e => lm_okA 2 e.1 e.2) = true := by decide +kernel
theorem lm_pas_3 : (lm_pas.getD 3 []).all (fun e => lm_okA 3 e.1 e.2) = true := by decide +kernel
theorem lm_pas_4 : (lm_pas.getD 4 []).all (fun e => lm_okA 4 e.1 e.2) = true := by decide +kernel
theorem lm_pas_5 : (lm_pas.getD 5 []).all (fun e => lm_okA 5 e.1 e.2) = true := by decide +kernel
theorem lm_pas_6 : (lm_pas.getD 6 []).all (fun e => lm_okA 6 e.1 e.2) = true := by decide +kernel
theorem lm_pas_7 : (lm_pas.getD 7 []).all (fun e => lm_okA 7 e.1 e.2) = true := by decide +kernel
theorem lm_pas_8 : (lm_pas.getD 8 []).all (fun e => lm_okA 8 e.1 e.2) = true := by decide +kernel
theorem lm_pas_9 : (lm_pas.getD 9 []).all (fun e => lm_okA 9 e.1 e.2) = true := by decide +kernel
theorem lm_pas_10 : (lm_pas.getD 10 []).all (fun e => lm_okA 10 e.1 e.2) = true := by decide +kernel
theorem lm_pas_11 : (lm_pas.getD 11 []).all (fun e => lm_okA 11 e.1 e.2) = true := by decide +kernel
theorem lm_pas_12 : (lm_pas.getD 12 []).all (fun e => lm_okA 12 e.1 e.2) = true := by decide +kernel
theorem lm_pas_13 : (lm_pas.getD 13 []).all (fun e => lm_okA 13 e.1 e.2) = true := by decide +kernel
theorem lm_pas_14 : (lm_pas.getD 14 []).all (fun e => lm_okA 14 e.1 e.2) = true := by decide +kernel
theorem lm_pas_15 : (lm_pas.getD 15 []).all (fun e => lm_okA 15 e.1 e.2) = true := by decide +kernel
theorem lm_pas_16 : (lm_pas.getD 16 []).all (fun e => lm_okA 16 e.1 e.2) = true := by decide +kernel
theorem lm_pas_17 : (lm_pas.getD 17 []).all (fun e => lm_okA 17 e.1 e.2) = true := by decide +kernel
theorem lm_pas_18 : (lm_pas.getD 18 []).all (fun e => lm_okA 18 e.1 e.2) = true := by decide +kernel
theorem lm_pas_19 : (lm_pas.getD 19 []).all (fun e => lm_okA 19 e.1 e.2) = true := by decide +kernel
theorem lm_pas_20 : (lm_pas.getD 20 []).all (fun e => lm_okA 20 e.1 e.2) = true := by decide +kernel
theorem lm_pas_ok {o k : Nat} {e} (he : (lm_pas.getD o []).lookup k = some e) : lm_okA o k e = true := lm_lk_all (t := lm_pas) (q := lm_okA) (by decide) (lm_nS (lm_nS (lm_nS (lm_nS (lm_nS (lm_nS (lm_nS (lm_nS (lm_nS (lm_nS (lm_nS (lm_nS (lm_nS (lm_nS (lm_nS (lm_nS (lm_nS (lm_nS (lm_nS (lm_nS (lm_n1 lm_pas_0) lm_pas_1) lm_pas_2) lm_pas_3) lm_pas_4) lm_pas_5) lm_pas_6) lm_pas_7) lm_pas_8) lm_pas_9) lm_pas_10) lm_pas_11) lm_pas_12) lm_pas_13) lm_pas_14) lm_pas_15) lm_pas_16) lm_pas_17) lm_pas_18) lm_pas_19) lm_pas_20) he
theorem lm_pcs_0 : (lm_pcs.getD 0 []).all (fun e => lm_okI 0 e.1 e.2) = true := by decide +kernel
theorem lm_pcs_1 : (lm_pcs.getD 1 []).all (fun e => lm_okI 1 e.1 e.2) = true := by decide +kernel
theorem lm_pcs_2 : (lm_pcs.getD 2 []).all (fun e => lm_okI 2 e.1 e.2) = true := by decide +kernel
theorem lm_pcs_3 : (lm_pcs.getD 3 []).all (fun e => lm_okI 3 e.1 e.2) = true := by decide +kernel
theorem lm_pcs_4 : (lm_pcs.getD 4 []).all (fun e => lm_okI 4 e.1 e.2) = true := by decide +kernel
theorem lm_pcs_5 : (lm_pcs.getD 5 []).all (fun e => lm_okI 5 e.1 e.2) = true := by decide +kernel
theorem lm_pcs_6 : (lm_pcs.getD 6 []).all (fun e => lm_okI 6 e.1 e.2) = true := by decide +kernel
theorem lm_pcs_7 : (lm_pcs.getD 7 []).all (fun e => lm_okI 7 e.1 e.2) = true := by decide +kernel
theorem lm_pcs_8 : (lm_pcs.getD 8 []).all (fun e => lm_okI 8 e.1 e.2) = true := by decide +kernel
theorem lm_pcs_9 : (lm_pcs.getD 9 []).all (fun e => lm_okI 9 e.1 e.2) = true := by decide +kernel
theorem lm_pcs_10 : (lm_pcs.getD 10 []).all (fun e => lm_okI 10 e.1 e.2) = true := by decide +kernel
theorem lm_pcs_11 : (lm_pcs.getD 11 []).all (fun e => lm_okI 11 e.1 e.2) = true := by decide +kernel
theorem lm_pcs_12 : (lm_pcs.getD 12 []).all (fun e => lm_okI 12 e.1 e.2) = true := by decide +kernel
theorem lm_pcs_13 : (lm_pcs.getD 13 []).all (fun e => lm_okI 13 e.1 e.2) = true := by decide +kernel
theorem lm_pcs_14 : (lm_pcs.getD 14 []).all (fun e => lm_okI 14 e.1 e.2) = true := by decide +kernel
theorem lm_pcs_15 : (lm_pcs.getD 15 []).all (fun e => lm_okI 15 e.1 e.2) = true := by decide +kernel
theorem lm_pcs_16 : (lm_pcs.getD 16 []).all (fun e => lm_okI 16 e.1 e.2) = true := by decide +kernel
theorem lm_pcs_17 : (lm_pcs.getD 17 []).all (fun e => lm_okI 17 e.1 e.2) = true := by decide +kernel
theorem lm_pcs_18 : (lm_pcs.getD 18 []).all (fun e => lm_okI 18 e.1 e.2) = true := by decide +kernel
theorem lm_pcs_19 : (lm_pcs.getD 19 []).all (fun e => lm_okI 19 e.1 e.2) = true := by decide +kernel
theorem lm_pcs_20 : (lm_pcs.getD 20 []).all (fun e => lm_okI 20 e.1 e.2) = true := by decide +kernel
theorem lm_pcs_ok {o k : Nat} {e} (he : (lm_pcs.getD o []).lookup k = some e) : lm_okI o k e = true := lm_lk_all (t := lm_pcs) (q := lm_okI) (by decide) (lm_nS (lm_nS (lm_nS (lm_nS (lm_nS (lm_nS (lm_nS (lm_nS (lm_nS (lm_nS (lm_nS (lm_nS (lm_nS (lm_nS (lm_nS (lm_nS (lm_nS (lm_nS (lm_nS (lm_nS (lm_n1 lm_pcs_0) lm_pcs_1) lm_pcs_2) lm_pcs_3) lm_pcs_4) lm_pcs_5) lm_pcs_6) lm_pcs_7) lm_pcs_8) lm_pcs_9) lm_pcs_10) lm_pcs_11) lm_pcs_12) lm_pcs_13) lm_pcs_14) lm_pcs_15) lm_pcs_16) lm_pcs_17) lm_pcs_18) lm_pcs_19) lm_pcs_20) he
theorem lm_pls_0 : (lm_pls.getD 0 []).all (fun e => lm_okJ 0 e.1 e.2) = true := by decide +kernel
theorem lm_pls_1 : (lm_pls.getD 1 []).all (fun e => lm_okJ 1 e.1 e.2) = true := by decide +kernel
theorem lm_pls_2 : (lm_pls.getD 2 []).all (fun e => lm_okJ 2 e.1 e.2) = true := by decide +kernel
theorem lm_pls_3 : (lm_pls.getD 3 []).all (fun e => lm_okJ 3 e.1 e.2) = true := by decide +kernel
theorem lm_pls_4 : (lm_pls.getD 4 []).all (fun e => lm_okJ 4 e.1 e.2) = true := by decide +kernel
theorem lm_pls_5 : (lm_pls.getD 5 []).all (fun e => lm_okJ 5 e.1 e.2) = true := by decide +kernel
theorem lm_pls_6 : (lm_pls.getD 6 []).all (fun e => lm_okJ 6 e.1 e.2) = true := by decide +kernel
theorem lm_pls_7 : (lm_pls.getD 7 []).all (fun e => lm_okJ 7 e.1 e.2) = true := by decide +kernel
theorem lm_pls_8 : (lm_pls.getD 8 []).all (fun e => lm_okJ 8 e.1 e.2) = true := by decide +kernel
theorem lm_pls_9 : (lm_pls.getD 9 []).all (fun e => lm_okJ 9 e.1 e.2) = true := by decide +kernel
theorem lm_pls_10 : (lm_pls.getD 10 []).all (fun e => lm_okJ 10 e.1 e.2) = true := by decide +kernel
theorem lm_pls_11 : (lm_pls.getD 11 []).all (fun e => lm_okJ 11 e.1 e.2) = true := by decide +kernel
theorem lm_pls_12 : (lm_pls.getD 12 []).all (fun e => lm_okJ 12 e.1 e.2) = true := by decide +kernel
theorem lm_pls_13 : (lm_pls.getD 13 []).all (fun e => lm_okJ 13 e.1 e.2) = true := by decide +kernel
theorem lm_pls_14 : (lm_pls.getD 14 []).all (fun e => lm_okJ 14 e.1 e.2) = true := by decide +kernel
theorem lm_pls_15 : (lm_pls.getD 15 []).all (fun e => lm_okJ 15 e.1 e.2) = true := by decide +kernel
theorem lm_pls_16 : (lm_pls.getD 16 []).all (fun e => lm_okJ 16 e.1 e.2) = true := by decide +kernel
theorem lm_pls_17 : (lm_pls.getD 17 []).all (fun e => lm_okJ 17 e.1 e.2) = true := by decide +kernel
theorem lm_pls_18 : (lm_pls.getD 18 []).all (fun e => lm_okJ 18 e.1 e.2) = true := by decide +kernel
theorem lm_pls_19 : (lm_pls.getD 19 []).all (fun e => lm_okJ 19 e.1 e.2) = true := by decide +kernel
theorem lm_pls_20 : (lm_pls.getD 20 []).all (fun e => lm_okJ 20 e.1 e.2) = true := by decide +kernel
theorem lm_pls_ok {o k : Nat} {e} (he : (lm_pls.getD o []).lookup k = some e) : lm_okJ o k e = true := lm_lk_all (t := lm_pls) (q := lm_okJ) (by decide) (lm_nS (lm_nS (lm_nS (lm_nS (lm_nS (lm_nS (lm_nS (lm_nS (lm_nS (lm_nS (lm_nS (lm_nS (lm_nS (lm_nS (lm_nS (lm_nS (lm_nS (lm_nS (lm_nS (lm_nS (lm_n1 lm_pls_0) lm_pls_1) lm_pls_2) lm_pls_3) lm_pls_4) lm_pls_5) lm_pls_6) lm_pls_7) lm_pls_8) lm_pls_9) lm_pls_10) lm_pls_11) lm_pls_12) lm_pls_13) lm_pls_14) lm_pls_15) lm_pls_16) lm_pls_17) lm_pls_18) lm_pls_19) lm_pls_20) he
theorem lm_pss_0 : (lm_pss.getD 0 []).all (fun e => lm_okS 0 e.1 e.2) = true := by decide +kernel
theorem lm_pss_1 : (lm_pss.getD 1 []).all (fun e => lm_okS 1 e.1 e.2) = true := by decide +kernel
theorem lm_pss_2 : (lm_pss.getD 2 []).all (fun e => lm_okS 2 e.1 e.2) = true := by decide +kernel
theorem lm_pss_3 : (lm_pss.getD 3 []).all (fun e => lm_okS 3 e.1 e.2) = true := by decide +kernel
theorem lm_pss_4 : (lm_pss.getD 4 []).all (fun e => lm_okS 4 e.1 e.2) = true := by decide +kernel
theorem lm_pss_5 : (lm_pss.getD 5 []).all (fun e => lm_okS 5 e.1 e.2) = true := by decide +kernel
theorem lm_pss_6 : (lm_pss.getD 6 []).all (fun e => lm_okS 6 e.1 e.2) = true := by decide +kernel
theorem lm_pss_7 : (lm_pss.getD 7 []).all (fun e => lm_okS 7 e.1 e.2) = true := by decide +kernel
theorem lm_pss_8 : (lm_pss.getD 8 []).all (fun e => lm_okS 8 e.1 e.2) = true := by decide +kernel
theorem lm_pss_9 : (lm_pss.getD 9 []).all (fun e => lm_okS 9 e.1 e.2) = true := by decide +kernel
theorem lm_pss_10 : (lm_pss.getD 10 []).all (fun e => lm_okS 10 e.1 e.2) = true := by decide +kernel
theorem lm_pss_11 : (lm_pss.getD 11 []).all (fun e => lm_okS 11 e.1 e.2) = true := by decide +kernel
theorem lm_pss_12 : (lm_pss.getD 12 []).all (fun e => lm_okS 12 e.1 e.2) = true := by decide +kernel
theorem lm_pss_13 : (lm_pss.getD 13 []).all (fun e => lm_okS 13 e.1 e.2) = true := by decide +kernel
theorem lm_pss_14 : (lm_pss.getD 14 []).all (fun e => lm_okS 14 e.1 e.2) = true := by decide +kernel
theorem lm_pss_15 : (lm_pss.getD 15 []).all (fun e => lm_okS 15 e.1 e.2) = true := by decide +kernel
theorem lm_pss_16 : (lm_pss.getD 16 []).all (fun e => lm_okS 16 e.1 e.2) = true := by decide +kernel
theorem lm_pss_17 : (lm_pss.getD 17 []).all (fun e => lm_okS 17 e.1 e.2) = true := by decide +kernel
theorem lm_pss_18 : (lm_pss.getD 18 []).all (fun e => lm_okS 18 e.1 e.2) = true := by decide +kernel
theorem lm_pss_19 : (lm_pss.getD 19 []).all (fun e => lm_okS 19 e.1 e.2) = true := by decide +kernel
theorem lm_pss_20 : (lm_pss.getD 20 []).all (fun e => lm_okS 20 e.1 e.2) = true := by decide +kernel
theorem lm_pss_ok {o k : Nat} {e} (he : (lm_pss.getD o []).lookup k = some e) : lm_okS o k e = true := lm_lk_all (t := lm_pss) (q := lm_okS) (by decide) (lm_nS (lm_nS (lm_nS (lm_nS (lm_nS (lm_nS (lm_nS (lm_nS (lm_nS (lm_nS (lm_nS (lm_nS (lm_nS (lm_nS (lm_nS (lm_nS (lm_nS (lm_nS (lm_nS (lm_nS (lm_n1 lm_pss_0) lm_pss_1) lm_pss_2) lm_pss_3) lm_pss_4) lm_pss_5) lm_pss_6) lm_pss_7) lm_pss_8) lm_pss_9) lm_pss_10) lm_pss_11) lm_pss_12) lm_pss_13) lm_pss_14) lm_pss_15) lm_pss_16) lm_pss_17) lm_pss_18) lm_pss_19) lm_pss_20) he
theorem lm_pgs_0 : (lm_pgs.getD 0 []).all (fun e => lm_okG 0 e.1 e.2) = true := by decide +kernel
theorem lm_pgs_1 : (lm_pgs.getD 1 []).all (fun e => lm_okG 1 e.1 e.2) = true := by decide +kernel
theorem lm_pgs_2 : (lm_pgs.getD 2 []).all (fun e => lm_okG 2 e.1 e.2) = true := by decide +kernel
theorem lm_pgs_3 : (lm_pgs.getD 3 []).all (fun e => lm_okG 3 e.1 e.2) = true := by decide +kernel
theorem lm_pgs_4 : (lm_pgs.getD 4 []).all (fun e => lm_okG 4 e.1 e.2) = true := by decide +kernel
theorem lm_pgs_5 : (lm_pgs.getD 5 []).all (fun e => lm_okG 5 e.1 e.2) = true := by decide +kernel
theorem lm_pgs_6 : (lm_pgs.getD 6 []).all (fun e => lm_okG 6 e.1 e.2) = true := by decide +kernel
theorem lm_pgs_7 : (lm_pgs.getD 7 []).all (fun e => lm_okG 7 e.1 e.2) = true := by decide +kernel
theorem lm_pgs_8 : (lm_pgs.getD 8 []).all (fun e => lm_okG 8 e.1 e.2) = true := by decide +kernel
theorem lm_pgs_9 : (lm_pgs.getD 9 []).all (fun e => lm_okG 9 e.1 e.2) = true := by decide +kernel
theorem lm_pgs_10 : (lm_pgs.getD 10 []).all (fun e => lm_okG 10 e.1 e.2) = true := by decide +kernel
theorem lm_pgs_11 : (lm_pgs.getD 11 []).all (fun e => lm_okG 11 e.1 e.2) = true := by decide +kernel
theorem lm_pgs_12 : (lm_pgs.getD 12 []).all (fun e => lm_okG 12 e.1 e.2) = true := by decide +kernel
theorem lm_pgs_13 : (lm_pgs.getD 13 []).all (fun e => lm_okG 13 e.1 e.2) = true := by decide +kernel
theorem lm_pgs_14 : (lm_pgs.getD 14 []).all (fun e => lm_okG 14 e.1 e.2) = true := by decide +kernel
theorem lm_pgs_15 : (lm_pgs.getD 15 []).all (fun e => lm_okG 15 e.1 e.2) = true := by decide +kernel
theorem lm_pgs_16 : (lm_pgs.getD 16 []).all (fun e => lm_okG 16 e.1 e.2) = true := by decide +kernel
theorem lm_pgs_17 : (lm_pgs.getD 17 []).all (fun e => lm_okG 17 e.1 e.2) = true := by decide +kernel
theorem lm_pgs_18 : (lm_pgs.getD 18 []).all (fun e => lm_okG 18 e.1 e.2) = true := by decide +kernel
theorem lm_pgs_19 : (lm_pgs.getD 19 []).all (fun e => lm_okG 19 e.1 e.2) = true := by decide +kernel
theorem lm_pgs_20 : (lm_pgs.getD 20 []).all (fun e => lm_okG 20 e.1 e.2) = true := by decide +kernel
theorem lm_pgs_ok {o k : Nat} {e} (he : (lm_pgs.getD o []).lookup k = some e) : lm_okG o k e = true := lm_lk_all (t := lm_pgs) (q := lm_okG) (by decide) (lm_nS (lm_nS (lm_nS (lm_nS (lm_nS (lm_nS (lm_nS (lm_nS (lm_nS (lm_nS (lm_nS (lm_nS (lm_nS (lm_nS (lm_nS (lm_nS (lm_nS (lm_nS (lm_nS (lm_nS (lm_n1 lm_pgs_0) lm_pgs_1) lm_pgs_2) lm_pgs_3) lm_pgs_4) lm_pgs_5) lm_pgs_6) lm_pgs_7) lm_pgs_8) lm_pgs_9) lm_pgs_10) lm_pgs_11) lm_pgs_12) lm_pgs_13) lm_pgs_14) lm_pgs_15) lm_pgs_16) lm_pgs_17) lm_pgs_18) lm_pgs_19) lm_pgs_20) he
theorem lm_pSs_0 : (lm_pSs.getD 0 []).all (fun e => lm_okV 0 e.1 e.2) = true := by decide +kernel
theorem lm_pSs_1 : (lm_pSs.getD 1 []).all (fun e => lm_okV 1 e.1 e.2) = true := by decide +kernel
theorem lm_pSs_2 : (lm_pSs.getD 2 []).all (fun e => lm_okV 2 e.1 e.2) = true := by decide +kernel
theorem lm_pSs_3 : (lm_pSs.getD 3 []).all (fun e => lm_okV 3 e.1 e.2) = true := by decide +kernel
theorem lm_pSs_4 : (lm_pSs.getD 4 []).all (fun e => lm_okV 4 e.1 e.2) = true := by decide +kernel
theorem lm_pSs_5 : (lm_pSs.getD 5 []).all (fun e => lm_okV 5 e.1 e.2) = true := by decide +kernel
theorem lm_pSs_6 : (lm_pSs.getD 6 []).all (fun e => lm_okV 6 e.1 e.2) = true := by decide +kernel
theorem lm_pSs_7 : (lm_pSs.getD 7 []).all (fun e => lm_okV 7 e.1 e.2) = true := by decide +kernel
theorem lm_pSs_8 : (lm_pSs.getD 8 []).all (fun e => lm_okV 8 e.1 e.2) = true := by decide +kernel
theorem lm_pSs_9 : (lm_pSs.getD 9 []).all (fun e => lm_okV 9 e.1 e.2) = true := by decide +kernel
theorem lm_pSs_10 : (lm_pSs.getD 10 []).all (fun e => lm_okV 10 e.1 e.2) = true := by decide +kernel
theorem lm_pSs_11 : (lm_pSs.getD 11 []).all (fun e => lm_okV 11 e.1 e.2) = true := by decide +kernel
theorem lm_pSs_12 : (lm_pSs.getD 12 []).all (fun e => lm_okV 12 e.1 e.2) = true := by decide +kernel
theorem lm_pSs_13 : (lm_pSs.getD 13 []).all (fun e => lm_okV 13 e.1 e.2) = true := by decide +kernel
theorem lm_pSs_14 : (lm_pSs.getD 14 []).all (fun e => lm_okV 14 e.1 e.2) = true := by decide +kernel
theorem lm_pSs_15 : (lm_pSs.getD 15 []).all (fun e => lm_okV 15 e.1 e.2) = true := by decide +kernel
theorem lm_pSs_16 : (lm_pSs.getD 16 []).all (fun e => lm_okV 16 e.1 e.2) = true := by decide +kernel
theorem lm_pSs_17 : (lm_pSs.getD 17 []).all (fun e => lm_okV 17 e.1 e.2) = true := by decide +kernel
theorem lm_pSs_18 : (lm_pSs.getD 18 []).all (fun e => lm_okV 18 e.1 e.2) = true := by decide +kernel
theorem lm_pSs_19 : (lm_pSs.getD 19 []).all (fun e => lm_okV 19 e.1 e.2) = true := by decide +kernel
theorem lm_pSs_20 : (lm_pSs.getD 20 []).all (fun e => lm_okV 20 e.1 e.2) = true := by decide +kernel
theorem lm_pSs_ok {o k : Nat} {e} (he : (lm_pSs.getD o []).lookup k = some e) : lm_okV o k e = true := lm_lk_all (t := lm_pSs) (q := lm_okV) (by decide) (lm_nS (lm_nS (lm_nS (lm_nS (lm_nS (lm_nS (lm_nS (lm_nS (lm_nS (lm_nS (lm_nS (lm_nS (lm_nS (lm_nS (lm_nS (lm_nS (lm_nS (lm_nS (lm_nS (lm_nS (lm_n1 lm_pSs_0) lm_pSs_1) lm_pSs_2) lm_pSs_3) lm_pSs_4) lm_pSs_5) lm_pSs_6) lm_pSs_7) lm_pSs_8) lm_pSs_9) lm_pSs_10) lm_pSs_11) lm_pSs_12) lm_pSs_13) lm_pSs_14) lm_pSs_15) lm_pSs_16) lm_pSs_17) lm_pSs_18) lm_pSs_19) lm_pSs_20) he
def lm_okY (j : Nat) (e : Nat × Nat × Nat × Nat × Nat × Nat) : Bool :=
  decide (lw_tbl[e.2.2.1]? = some (.code (lm_ys.getD j ⟨"", "", ""⟩) (lm_cs.getD j ⟨#[]⟩) (lm_ml.getD j 0) (lm_rs.getD j none))) &&
  (decide (lw_tbl[e.2.2.2.1]? = some (if e.2.1 = 1 then .static (lm_ys.getD j ⟨"", "", ""⟩) else .instanceMethod (lm_ys.getD j ⟨"", "", ""⟩))) &&
  (decide (e.2.1 = 0 → lw_tbl[e.2.2.2.2.1]? = some (.selects (lm_ys.getD j ⟨"", "", ""⟩).cls (lm_ys.getD j ⟨"", "", ""⟩) (lm_ys.getD j ⟨"", "", ""⟩))) &&
  (decide (lw_tbl[e.2.2.2.2.2]? = some (.initialized (lm_ys.getD j ⟨"", "", ""⟩).cls)) &&
  (decide ((parseMethodDescriptor (lm_ys.getD j ⟨"", "", ""⟩).desc).map (fun d => d.parameters.length) = some e.1) &&
  (decide ((lm_ys.getD j ⟨"", "", ""⟩).cls ≠ "java/lang/invoke/MethodHandle" ∧ (lm_ys.getD j ⟨"", "", ""⟩).cls ≠ "java/lang/invoke/VarHandle") &&
  (decide ((lm_ys.getD j ⟨"", "", ""⟩).cls = lm_Rs.getD (lm_own.getD j 0) "") && (decide (plainName (lm_ys.getD j ⟨"", "", ""⟩).cls = true) && (decide (e.2.1 = 2 ↔ (lm_ys.getD j ⟨"", "", ""⟩).name = "<init>") && decide (e.2.1 = 2 → lm_rs.getD j none = none)))))))))
def lm_okY2 (j : Nat) : Bool := match lm_as[j]? with | none => false | some e => lm_okY j e
theorem lm_asc_0 : (List.range 24).all (fun j => decide (0 + j = 277) || lm_okY2 (0 + j)) = true := by decide +kernel
theorem lm_asc_1 : (List.range 24).all (fun j => decide (24 + j = 277) || lm_okY2 (24 + j)) = true := by decide +kernel
theorem lm_asc_2 : (List.range 24).all (fun j => decide (48 + j = 277) || lm_okY2 (48 + j)) = true := by decide +kernel
theorem lm_asc_3 : (List.range 24).all (fun j => decide (72 + j = 277) || lm_okY2 (72 + j)) = true := by decide +kernel
theorem lm_asc_4 : (List.range 24).all (fun j => decide (96 + j = 277) || lm_okY2 (96 + j)) = true := by decide +kernel
theorem lm_asc_5 : (List.range 24).all (fun j => decide (120 + j = 277) || lm_okY2 (120 + j)) = true := by decide +kernel
theorem lm_asc_6 : (List.range 24).all (fun j => decide (144 + j = 277) || lm_okY2 (144 + j)) = true := by decide +kernel
theorem lm_asc_7 : (List.range 24).all (fun j => decide (168 + j = 277) || lm_okY2 (168 + j)) = true := by decide +kernel
theorem lm_asc_8 : (List.range 24).all (fun j => decide (192 + j = 277) || lm_okY2 (192 + j)) = true := by decide +kernel
theorem lm_asc_9 : (List.range 24).all (fun j => decide (216 + j = 277) || lm_okY2 (216 + j)) = true := by decide +kernel
theorem lm_asc_10 : (List.range 24).all (fun j => decide (240 + j = 277) || lm_okY2 (240 + j)) = true := by decide +kernel
theorem lm_asc_11 : (List.range 14).all (fun j => decide (264 + j = 277) || lm_okY2 (264 + j)) = true := by decide +kernel
theorem lm_as_ok {j : Nat} {e} (he : lm_as[j]? = some e) (hj : j ≠ 277) : lm_okY j e = true := by
  have hl : j < lm_as.length := (List.getElem?_eq_some_iff.mp he).1
  have hl : j < 278 := hl
  have h2 : lm_okY2 j = true := by
    by_cases h0 : j < 24
    · have h := List.all_eq_true.mp lm_asc_0 (j - 0) (List.mem_range.mpr (by omega))
      rw [show 0 + (j - 0) = j by omega] at h
      simpa [hj] using h
    by_cases h1 : j < 48
    · have h := List.all_eq_true.mp lm_asc_1 (j - 24) (List.mem_range.mpr (by omega))
      rw [show 24 + (j - 24) = j by omega] at h
      simpa [hj] using h
    by_cases h2 : j < 72
    · have h := List.all_eq_true.mp lm_asc_2 (j - 48) (List.mem_range.mpr (by omega))
      rw [show 48 + (j - 48) = j by omega] at h
      simpa [hj] using h
    by_cases h3 : j < 96
    · have h := List.all_eq_true.mp lm_asc_3 (j - 72) (List.mem_range.mpr (by omega))
      rw [show 72 + (j - 72) = j by omega] at h
      simpa [hj] using h
    by_cases h4 : j < 120
    · have h := List.all_eq_true.mp lm_asc_4 (j - 96) (List.mem_range.mpr (by omega))
      rw [show 96 + (j - 96) = j by omega] at h
      simpa [hj] using h
    by_cases h5 : j < 144
    · have h := List.all_eq_true.mp lm_asc_5 (j - 120) (List.mem_range.mpr (by omega))
      rw [show 120 + (j - 120) = j by omega] at h
      simpa [hj] using h
    by_cases h6 : j < 168
    · have h := List.all_eq_true.mp lm_asc_6 (j - 144) (List.mem_range.mpr (by omega))
      rw [show 144 + (j - 144) = j by omega] at h
      simpa [hj] using h
    by_cases h7 : j < 192
    · have h := List.all_eq_true.mp lm_asc_7 (j - 168) (List.mem_range.mpr (by omega))
      rw [show 168 + (j - 168) = j by omega] at h
      simpa [hj] using h
    by_cases h8 : j < 216
    · have h := List.all_eq_true.mp lm_asc_8 (j - 192) (List.mem_range.mpr (by omega))
      rw [show 192 + (j - 192) = j by omega] at h
      simpa [hj] using h
    by_cases h9 : j < 240
    · have h := List.all_eq_true.mp lm_asc_9 (j - 216) (List.mem_range.mpr (by omega))
      rw [show 216 + (j - 216) = j by omega] at h
      simpa [hj] using h
    by_cases h10 : j < 264
    · have h := List.all_eq_true.mp lm_asc_10 (j - 240) (List.mem_range.mpr (by omega))
      rw [show 240 + (j - 240) = j by omega] at h
      simpa [hj] using h
    by_cases h11 : j < 278
    · have h := List.all_eq_true.mp lm_asc_11 (j - 264) (List.mem_range.mpr (by omega))
      rw [show 264 + (j - 264) = j by omega] at h
      simpa [hj] using h
    omega
  unfold lm_okY2 at h2
  rw [he] at h2
  exact h2
theorem lm_good : GoodIn lw_tbl lw_tbl := goodIn_sub (fun w h => h) (by decide +kernel)
theorem lm_lay_0 : ∀ w ∈ u_ws RX0 TX0 5, w ∈ lw_tbl := fun w h => (goodIn_r (big := lw_tbl) (u_ws RX0 TX0 5) [512, 514, 516, 518, 520] (by decide +kernel) (by decide +kernel) w h).1
theorem lm_lay_1 : ∀ w ∈ u_ws RX1 TX1 6, w ∈ lw_tbl := fun w h => (goodIn_r (big := lw_tbl) (u_ws RX1 TX1 6) [315, 317, 319, 321, 323, 325] (by decide +kernel) (by decide +kernel) w h).1
theorem lm_lay_2 : ∀ w ∈ u_ws RX2 TX2 1, w ∈ lw_tbl := fun w h => (goodIn_r (big := lw_tbl) (u_ws RX2 TX2 1) [939] (by decide +kernel) (by decide +kernel) w h).1
theorem lm_lay_3 : ∀ w ∈ u_ws RX3 TX3 8, w ∈ lw_tbl := fun w h => (goodIn_r (big := lw_tbl) (u_ws RX3 TX3 8) [283, 285, 287, 289, 291, 293, 295, 297] (by decide +kernel) (by decide +kernel) w h).1
theorem lm_lay_4 : ∀ w ∈ u_ws RX4 TX4 13, w ∈ lw_tbl := fun w h => (goodIn_r (big := lw_tbl) (u_ws RX4 TX4 13) [223, 225, 227, 229, 231, 233, 235, 237, 239, 241, 243, 245, 247] (by decide +kernel) (by decide +kernel) w h).1
theorem lm_lay_5 : ∀ w ∈ u_ws RX5 TX5 18, w ∈ lw_tbl := fun w h => (goodIn_r (big := lw_tbl) (u_ws RX5 TX5 18) [442, 444, 446, 448, 450, 452, 454, 456, 458, 460, 462, 464, 466, 468, 470, 472, 474, 476] (by decide +kernel) (by decide +kernel) w h).1
theorem lm_lay_6 : ∀ w ∈ u_ws RX6 TX6 8, w ∈ lw_tbl := fun w h => (goodIn_r (big := lw_tbl) (u_ws RX6 TX6 8) [366, 368, 370, 372, 374, 376, 378, 380] (by decide +kernel) (by decide +kernel) w h).1
theorem lm_lay_7 : ∀ w ∈ u_ws RX7 TX7 2, w ∈ lw_tbl := fun w h => (goodIn_r (big := lw_tbl) (u_ws RX7 TX7 2) [262, 264] (by decide +kernel) (by decide +kernel) w h).1
theorem lm_lay_8 : ∀ w ∈ u_ws RX8 TX8 4, w ∈ lw_tbl := fun w h => (goodIn_r (big := lw_tbl) (u_ws RX8 TX8 4) [492, 494, 496, 498] (by decide +kernel) (by decide +kernel) w h).1
theorem lm_lay_9 : ∀ w ∈ u_ws RX9 TX9 4, w ∈ lw_tbl := fun w h => (goodIn_r (big := lw_tbl) (u_ws RX9 TX9 4) [396, 398, 400, 402] (by decide +kernel) (by decide +kernel) w h).1
theorem lm_lay_10 : ∀ w ∈ u_ws RX10 TX10 13, w ∈ lw_tbl := fun w h => (goodIn_r (big := lw_tbl) (u_ws RX10 TX10 13) [549, 551, 553, 555, 557, 559, 561, 563, 565, 567, 569, 571, 573] (by decide +kernel) (by decide +kernel) w h).1
theorem lm_lay_11 : ∀ w ∈ u_ws RX11 TX11 18, w ∈ lw_tbl := fun w h => (goodIn_r (big := lw_tbl) (u_ws RX11 TX11 18) [594, 596, 598, 600, 602, 604, 606, 608, 610, 612, 614, 616, 618, 620, 622, 624, 626, 628] (by decide +kernel) (by decide +kernel) w h).1
theorem lm_lay_12 : ∀ w ∈ u_ws RX12 TX12 58, w ∈ lw_tbl := fun w h => (goodIn_r (big := lw_tbl) (u_ws RX12 TX12 58) [1397, 1399, 1401, 1403, 1405, 1407, 1409, 1411, 1413, 1415, 1417, 1419, 1421, 1423, 1425, 1427, 1429, 1431, 1433, 1435, 1437, 1439, 1441, 1443, 1445, 1447, 1449, 1451, 1453, 1455, 1457, 1459, 1461, 1463, 1465, 1467, 1469, 1471, 1473, 1475, 1477, 1479, 1481, 1483, 1485, 1487, 1489, 1491, 1493, 1495, 1497, 1499, 1501, 1503, 1505, 1507, 1509, 1511] (by decide +kernel) (by decide +kernel) w h).1
theorem lm_lay {ci : Nat} {q : vw_C} (h : vwCl[ci]? = some q) : ∀ w ∈ u_ws q.1 q.2.1 q.2.2, w ∈ lw_tbl := by
  match ci, h with
  | 0, h => cases h; exact lm_lay_0
  | 1, h => cases h; exact lm_lay_1
  | 2, h => cases h; exact lm_lay_2
  | 3, h => cases h; exact lm_lay_3
  | 4, h => cases h; exact lm_lay_4
  | 5, h => cases h; exact lm_lay_5
  | 6, h => cases h; exact lm_lay_6
  | 7, h => cases h; exact lm_lay_7
  | 8, h => cases h; exact lm_lay_8
  | 9, h => cases h; exact lm_lay_9
  | 10, h => cases h; exact lm_lay_10
  | 11, h => cases h; exact lm_lay_11
  | 12, h => cases h; exact lm_lay_12
  | n + 13, h => simp [vwCl] at h
theorem lm_tyok {ci : Nat} {q : vw_C} (h : vwCl[ci]? = some q) : ∀ k, k < q.2.2 → parseFieldDescriptor (q.2.1 k).2.2.1 = some (lm_tys.getD ci (fun _ => .int) k) := by
  match ci, h with
  | 0, h => cases h; exact tyX0_ok
  | 1, h => cases h; exact tyX1_ok
  | 2, h => cases h; exact tyX2_ok
  | 3, h => cases h; exact tyX3_ok
  | 4, h => cases h; exact tyX4_ok
  | 5, h => cases h; exact tyX5_ok
  | 6, h => cases h; exact tyX6_ok
  | 7, h => cases h; exact tyX7_ok
  | 8, h => cases h; exact tyX8_ok
  | 9, h => cases h; exact tyX9_ok
  | 10, h => cases h; exact tyX10_ok
  | 11, h => cases h; exact tyX11_ok
  | 12, h => cases h; exact tyX12_ok
  | n + 13, h => simp [vwCl] at h
theorem lm_nmok {ci : Nat} {q : vw_C} (h : vwCl[ci]? = some q) : ∀ a, a < q.2.2 → ∀ b, b < q.2.2 → a ≠ b → (q.2.1 a).2.1 ≠ (q.2.1 b).2.1 := by
  match ci, h with
  | 0, h => cases h; exact nmX0
  | 1, h => cases h; exact nmX1
  | 2, h => cases h; exact nmX2
  | 3, h => cases h; exact nmX3
  | 4, h => cases h; exact nmX4
  | 5, h => cases h; exact nmX5
  | 6, h => cases h; exact nmX6
  | 7, h => cases h; exact nmX7
  | 8, h => cases h; exact nmX8
  | 9, h => cases h; exact nmX9
  | 10, h => cases h; exact nmX10
  | 11, h => cases h; exact nmX11
  | 12, h => cases h; exact nmX12
  | n + 13, h => simp [vwCl] at h
theorem lm_fin {ci : Nat} {q : vw_C} (h : vwCl[ci]? = some q) : ∀ k, k < q.2.2 → ((q.2.1 k).2.2.2 = true ↔ (match lm_tys.getD ci (fun _ => .int) k with | .object _ => True | .array _ => True | _ => False)) := by
  match ci, h with
  | 0, h => cases h; exact (show ∀ k, k < 5 → ((TX0 k).2.2.2 = true ↔ (match tyX0 k with | .object _ => True | .array _ => True | _ => False)) from by intro k hk; revert k; decide +kernel)
  | 1, h => cases h; exact (show ∀ k, k < 6 → ((TX1 k).2.2.2 = true ↔ (match tyX1 k with | .object _ => True | .array _ => True | _ => False)) from by intro k hk; revert k; decide +kernel)
  | 2, h => cases h; exact (show ∀ k, k < 1 → ((TX2 k).2.2.2 = true ↔ (match tyX2 k with | .object _ => True | .array _ => True | _ => False)) from by intro k hk; revert k; decide +kernel)
  | 3, h => cases h; exact (show ∀ k, k < 8 → ((TX3 k).2.2.2 = true ↔ (match tyX3 k with | .object _ => True | .array _ => True | _ => False)) from by intro k hk; revert k; decide +kernel)
  | 4, h => cases h; exact (show ∀ k, k < 13 → ((TX4 k).2.2.2 = true ↔ (match tyX4 k with | .object _ => True | .array _ => True | _ => False)) from by intro k hk; revert k; decide +kernel)
  | 5, h => cases h; exact (show ∀ k, k < 18 → ((TX5 k).2.2.2 = true ↔ (match tyX5 k with | .object _ => True | .array _ => True | _ => False)) from by intro k hk; revert k; decide +kernel)
  | 6, h => cases h; exact (show ∀ k, k < 8 → ((TX6 k).2.2.2 = true ↔ (match tyX6 k with | .object _ => True | .array _ => True | _ => False)) from by intro k hk; revert k; decide +kernel)
  | 7, h => cases h; exact (show ∀ k, k < 2 → ((TX7 k).2.2.2 = true ↔ (match tyX7 k with | .object _ => True | .array _ => True | _ => False)) from by intro k hk; revert k; decide +kernel)
  | 8, h => cases h; exact (show ∀ k, k < 4 → ((TX8 k).2.2.2 = true ↔ (match tyX8 k with | .object _ => True | .array _ => True | _ => False)) from by intro k hk; revert k; decide +kernel)
  | 9, h => cases h; exact (show ∀ k, k < 4 → ((TX9 k).2.2.2 = true ↔ (match tyX9 k with | .object _ => True | .array _ => True | _ => False)) from by intro k hk; revert k; decide +kernel)
  | 10, h => cases h; exact (show ∀ k, k < 13 → ((TX10 k).2.2.2 = true ↔ (match tyX10 k with | .object _ => True | .array _ => True | _ => False)) from by intro k hk; revert k; decide +kernel)
  | 11, h => cases h; exact (show ∀ k, k < 18 → ((TX11 k).2.2.2 = true ↔ (match tyX11 k with | .object _ => True | .array _ => True | _ => False)) from by intro k hk; revert k; decide +kernel)
  | 12, h => cases h; exact (show ∀ k, k < 58 → ((TX12 k).2.2.2 = true ↔ (match tyX12 k with | .object _ => True | .array _ => True | _ => False)) from by intro k hk; revert k; decide +kernel)
  | n + 13, h => simp [vwCl] at h
theorem lm_inst {ci : Nat} {q : vw_C} (h : vwCl[ci]? = some q) : Cond.instantiable q.1 q.2.2 ∈ lw_tbl ∧ Cond.initialized q.1 ∈ lw_tbl := by
  match ci, h with
  | 0, h => cases h; exact ⟨List.mem_of_getElem? (i := 502) (by decide +kernel), List.mem_of_getElem? (i := 155) (by decide +kernel)⟩
  | 1, h => cases h; exact ⟨List.mem_of_getElem? (i := 301) (by decide +kernel), List.mem_of_getElem? (i := 150) (by decide +kernel)⟩
  | 2, h => cases h; exact ⟨List.mem_of_getElem? (i := 918) (by decide +kernel), List.mem_of_getElem? (i := 163) (by decide +kernel)⟩
  | 3, h => cases h; exact ⟨List.mem_of_getElem? (i := 269) (by decide +kernel), List.mem_of_getElem? (i := 149) (by decide +kernel)⟩
  | 4, h => cases h; exact ⟨List.mem_of_getElem? (i := 176) (by decide +kernel), List.mem_of_getElem? (i := 147) (by decide +kernel)⟩
  | 5, h => cases h; exact ⟨List.mem_of_getElem? (i := 406) (by decide +kernel), List.mem_of_getElem? (i := 153) (by decide +kernel)⟩
  | 6, h => cases h; exact ⟨List.mem_of_getElem? (i := 330) (by decide +kernel), List.mem_of_getElem? (i := 151) (by decide +kernel)⟩
  | 7, h => cases h; exact ⟨List.mem_of_getElem? (i := 253) (by decide +kernel), List.mem_of_getElem? (i := 148) (by decide +kernel)⟩
  | 8, h => cases h; exact ⟨List.mem_of_getElem? (i := 480) (by decide +kernel), List.mem_of_getElem? (i := 154) (by decide +kernel)⟩
  | 9, h => cases h; exact ⟨List.mem_of_getElem? (i := 384) (by decide +kernel), List.mem_of_getElem? (i := 152) (by decide +kernel)⟩
  | 10, h => cases h; exact ⟨List.mem_of_getElem? (i := 524) (by decide +kernel), List.mem_of_getElem? (i := 156) (by decide +kernel)⟩
  | 11, h => cases h; exact ⟨List.mem_of_getElem? (i := 168) (by decide +kernel), List.mem_of_getElem? (i := 146) (by decide +kernel)⟩
  | 12, h => cases h; exact ⟨List.mem_of_getElem? (i := 1334) (by decide +kernel), List.mem_of_getElem? (i := 157) (by decide +kernel)⟩
  | n + 13, h => simp [vwCl] at h
