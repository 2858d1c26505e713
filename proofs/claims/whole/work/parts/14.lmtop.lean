/-! FROM THE LIGHT MACHINE TO THE CLAIM -/
def lm_h0 (L : Nat) (xs : Nat → Int32) (fm : Option Nat) : lm_H := ([], fun a j => if a = 1000000 then xs j else 0, fun _ _ => 0, fun a _ => if a = 1000000 then some L else if a = 1000001 then fm else none)
def lm_ix : List Nat := [91, 93, 95, 97, 99, 101, 103, 105, 107, 109, 111, 113, 115]
abbrev lm_tm (i : Nat) : Term := .string "SoleGuest$LawReader" (lm_ix.getD i 0)
def lm_FC : List Cond := flatC (Jvm.Cond.and given_1 narrow_1)

def lm_hasx (i : Nat) : Bool := decide (Cond.exactly (lm_tm i) "java/lang/String" ∈ lm_FC) && (decide (Cond.eq (.field (lm_tm i) "java/lang/String" "coder" "B") (.int 0) ∈ lm_FC) && (decide (Cond.arrayOf (.field (lm_tm i) "java/lang/String" "value" "[B") .byte ∈ lm_FC) && (decide (Cond.eq (.length (.field (lm_tm i) "java/lang/String" "value" "[B")) (.int (Int32.ofNat ((lm_sb.map List.length).getD i 0))) ∈ lm_FC) && (List.range ((lm_sb.map List.length).getD i 0)).all (fun j => decide (Cond.eq (.elem (.field (lm_tm i) "java/lang/String" "value" "[B") (.int (Int32.ofNat j))) (.int ((lm_sb.getD i []).getD j 0)) ∈ lm_FC)))))
theorem lm_hasx_0 : lm_hasx 0 = true := by decide +kernel
theorem lm_hasx_1 : lm_hasx 1 = true := by decide +kernel
theorem lm_hasx_2 : lm_hasx 2 = true := by decide +kernel
theorem lm_hasx_3 : lm_hasx 3 = true := by decide +kernel
theorem lm_hasx_4 : lm_hasx 4 = true := by decide +kernel
theorem lm_hasx_5 : lm_hasx 5 = true := by decide +kernel
theorem lm_hasx_6 : lm_hasx 6 = true := by decide +kernel
theorem lm_hasx_7 : lm_hasx 7 = true := by decide +kernel
theorem lm_hasx_8 : lm_hasx 8 = true := by decide +kernel
theorem lm_hasx_9 : lm_hasx 9 = true := by decide +kernel
theorem lm_hasx_10 : lm_hasx 10 = true := by decide +kernel
theorem lm_hasx_11 : lm_hasx 11 = true := by decide +kernel
theorem lm_hasx_12 : lm_hasx 12 = true := by decide +kernel
theorem lm_hasx_all : ∀ i, i < 13 → lm_hasx i = true := (lm_nS (P := fun i => lm_hasx i = true) (lm_nS (P := fun i => lm_hasx i = true) (lm_nS (P := fun i => lm_hasx i = true) (lm_nS (P := fun i => lm_hasx i = true) (lm_nS (P := fun i => lm_hasx i = true) (lm_nS (P := fun i => lm_hasx i = true) (lm_nS (P := fun i => lm_hasx i = true) (lm_nS (P := fun i => lm_hasx i = true) (lm_nS (P := fun i => lm_hasx i = true) (lm_nS (P := fun i => lm_hasx i = true) (lm_nS (P := fun i => lm_hasx i = true) (lm_nS (P := fun i => lm_hasx i = true) (lm_n1 (P := fun i => lm_hasx i = true) lm_hasx_0) lm_hasx_1) lm_hasx_2) lm_hasx_3) lm_hasx_4) lm_hasx_5) lm_hasx_6) lm_hasx_7) lm_hasx_8) lm_hasx_9) lm_hasx_10) lm_hasx_11) lm_hasx_12)
def lm_hasn (i j : Nat) : Bool := decide (i = j) || (decide (Cond.not (Cond.eq (lm_tm i) (lm_tm j)) ∈ lm_FC) || decide (Cond.not (Cond.eq (lm_tm j) (lm_tm i)) ∈ lm_FC))
theorem lm_hasn_0 : (List.range 13).all (lm_hasn 0) = true := by decide +kernel
theorem lm_hasn_1 : (List.range 13).all (lm_hasn 1) = true := by decide +kernel
theorem lm_hasn_2 : (List.range 13).all (lm_hasn 2) = true := by decide +kernel
theorem lm_hasn_3 : (List.range 13).all (lm_hasn 3) = true := by decide +kernel
theorem lm_hasn_4 : (List.range 13).all (lm_hasn 4) = true := by decide +kernel
theorem lm_hasn_5 : (List.range 13).all (lm_hasn 5) = true := by decide +kernel
theorem lm_hasn_6 : (List.range 13).all (lm_hasn 6) = true := by decide +kernel
theorem lm_hasn_7 : (List.range 13).all (lm_hasn 7) = true := by decide +kernel
theorem lm_hasn_8 : (List.range 13).all (lm_hasn 8) = true := by decide +kernel
theorem lm_hasn_9 : (List.range 13).all (lm_hasn 9) = true := by decide +kernel
theorem lm_hasn_10 : (List.range 13).all (lm_hasn 10) = true := by decide +kernel
theorem lm_hasn_11 : (List.range 13).all (lm_hasn 11) = true := by decide +kernel
theorem lm_hasn_12 : (List.range 13).all (lm_hasn 12) = true := by decide +kernel
theorem lm_hasn_all : ∀ i, i < 13 → (List.range 13).all (lm_hasn i) = true := (lm_nS (P := fun i => (List.range 13).all (lm_hasn i) = true) (lm_nS (P := fun i => (List.range 13).all (lm_hasn i) = true) (lm_nS (P := fun i => (List.range 13).all (lm_hasn i) = true) (lm_nS (P := fun i => (List.range 13).all (lm_hasn i) = true) (lm_nS (P := fun i => (List.range 13).all (lm_hasn i) = true) (lm_nS (P := fun i => (List.range 13).all (lm_hasn i) = true) (lm_nS (P := fun i => (List.range 13).all (lm_hasn i) = true) (lm_nS (P := fun i => (List.range 13).all (lm_hasn i) = true) (lm_nS (P := fun i => (List.range 13).all (lm_hasn i) = true) (lm_nS (P := fun i => (List.range 13).all (lm_hasn i) = true) (lm_nS (P := fun i => (List.range 13).all (lm_hasn i) = true) (lm_nS (P := fun i => (List.range 13).all (lm_hasn i) = true) (lm_n1 (P := fun i => (List.range 13).all (lm_hasn i) = true) lm_hasn_0) lm_hasn_1) lm_hasn_2) lm_hasn_3) lm_hasn_4) lm_hasn_5) lm_hasn_6) lm_hasn_7) lm_hasn_8) lm_hasn_9) lm_hasn_10) lm_hasn_11) lm_hasn_12)
theorem lm_has_st : Cond.eq (.static "java/lang/String" "COMPACT_STRINGS" "Z") (.int 1) ∈ lm_FC ∧ Cond.isRef (.static "jdk/internal/util/Preconditions" "SIOOBE_FORMATTER" "Ljava/util/function/BiFunction;") ∈ lm_FC := by decide +kernel
theorem lm_has_lay : Cond.laysStatic "java/lang/String" "COMPACT_STRINGS" "Z" ∈ lw_tbl ∧ Cond.laysStatic "jdk/internal/util/Preconditions" "SIOOBE_FORMATTER" "Ljava/util/function/BiFunction;" ∈ lw_tbl ∧ Cond.initialized "java/lang/String" ∈ lw_tbl ∧ Cond.initialized "jdk/internal/util/Preconditions" ∈ lw_tbl := ⟨lm_wd_in (n := 12178) (by decide +kernel), lm_wd_in (n := 12194) (by decide +kernel), lm_wd_in (n := 10014) (by decide +kernel), lm_wd_in (n := 10016) (by decide +kernel)⟩
def lm_okIx (k : Nat) (e : Nat × Nat) : Bool := decide (e.1 < 13) && decide (lm_ix.getD e.1 0 = k)
theorem lm_okIx_all : (lm_pss.getD 3 []).all (fun e => lm_okIx e.1 e.2) = true := by decide +kernel
theorem lm_T_sub {w : Cond} (h : w ∈ lm_T) : w ∈ lw_tbl := (List.mem_filter.mp h).1
theorem lm_env0 {s : State} {b L : Nat} {xs : Nat → Int32} (hts : ∀ w ∈ lw_tbl, w.before #[Value.ref b] s = true) (hX : va_X b L xs s s.heap) (hbl : b < s.heap.size) (hgv : (Jvm.Cond.and given_1 narrow_1).before #[Value.ref b] s = true) :
    ∃ (D : va_G) (pre : Nat → Nat) (cs : Nat → ClassId), pre 0 = b ∧ lm_Env D s.heap.size pre cs L xs s := by
  have hfl := flat_of_before _ hgv
  have hcl : ∀ k : Nat, ∃ q : ClassId × (Nat → Nat), ∀ r : vw_C, vwCl[k]? = some r → u_Kn s r.1 r.2.1 r.2.2 q.1 q.2 := by
    intro k
    cases hk : vwCl[k]? with
    | none => exact ⟨(0, fun _ => 0), fun r h => by cases h⟩
    | some r =>
      obtain ⟨cC, iS, h⟩ := u_known hts (fun w hw => lm_T_sub (lm_lay hk w hw)) (hts _ (lm_T_sub (lm_inst hk).1))
      exact ⟨(cC, iS), fun r' h' => by cases h'; exact h⟩
  obtain ⟨DD, hDD⟩ := Classical.axiomOfChoice hcl
  have har : ∀ g, ∃ cA : ClassId, 1 ≤ g → g ≤ 6 → ArrOfT s cA (lm_aty g) ∧ va_RA s cA (lm_aty g) := by
    intro g
    have prim : ∀ ty : FieldType, Cond.arrayClass ty ∈ lm_T → ∃ cA : ClassId, ArrOfT s cA ty ∧ s.vm.findClass ("[" ++ ty.toString) = some cA := by
      intro ty hty
      obtain ⟨cA, kA, comp, f1, f2, f3⟩ := Cond.arrayClass_spec (hts _ (lm_T_sub hty))
      exact ⟨cA, fun N z => ⟨(fun k h => by cases h), kA, f2, comp, f3⟩, f1⟩
    have refs : ∀ C : String, Cond.arrayOver (.object C) ∈ lm_T → ∃ cA : ClassId, ArrOfT s cA (.object C) ∧ va_RA s cA (.object C) := by
      intro C hC
      obtain ⟨comp, cA, kA, f1, -, f3, f4, f5⟩ := Cond.arrayOver_spec (hts _ (lm_T_sub hC))
      exact ⟨cA, fun N z => ⟨(fun k h => by cases h), kA, f3, comp, f4⟩, kA, comp, f3, f4, f1, f5⟩
    by_cases h1 : 1 ≤ g ∧ g ≤ 6
    · have : g = 1 ∨ g = 2 ∨ g = 3 ∨ g = 4 ∨ g = 5 ∨ g = 6 := by omega
      rcases this with rfl | rfl | rfl | rfl | rfl | rfl
      · obtain ⟨cA, f1, f2⟩ := prim .int lm_ac.1
        exact ⟨cA, fun _ _ => ⟨f1, f2⟩⟩
      · obtain ⟨cA, f1, f2⟩ := prim .boolean lm_ac.2.1
        exact ⟨cA, fun _ _ => ⟨f1, f2⟩⟩
      · obtain ⟨cA, f1, f2⟩ := prim .byte lm_ac.2.2.1
        exact ⟨cA, fun _ _ => ⟨f1, f2⟩⟩
      · obtain ⟨cA, f1, f2⟩ := prim .long lm_ac.2.2.2
        exact ⟨cA, fun _ _ => ⟨f1, f2⟩⟩
      · obtain ⟨cA, f1, f2⟩ := refs RX2 lm_ao.1
        exact ⟨cA, fun _ _ => ⟨f1, f2⟩⟩
      · obtain ⟨cA, f1, f2⟩ := refs RX4 lm_ao.2
        exact ⟨cA, fun _ _ => ⟨f1, f2⟩⟩
    · exact ⟨0, fun a b => absurd ⟨a, b⟩ h1⟩
  obtain ⟨cs, hcs⟩ := Classical.axiomOfChoice har
  have hA : ∀ a : Nat, a < s.heap.size → ¬ lm_A s.heap.size a := fun a h => Nat.not_le.mpr h
  have hxs : ∀ i, i < 13 → _ := fun i hi => by
    have h := lm_hasx_all i hi
    unfold lm_hasx at h
    simp only [Bool.and_eq_true, decide_eq_true_eq, List.all_eq_true, List.mem_range] at h
    exact h
  obtain ⟨adK, adV, hvS, htm⟩ := vk_Sof (args := #[Value.ref b]) (s := s) (N := 13) (tm := lm_tm) (len := lm_sb.map List.length) (byt := lm_sb) (A := lm_A s.heap.size)
    (by decide) (fun i hi => hfl _ (hxs i hi).1) (fun i hi => hfl _ (hxs i hi).2.1) (fun i hi => hfl _ (hxs i hi).2.2.1) (fun i hi => hfl _ (hxs i hi).2.2.2.1) (fun i hi j hj => hfl _ ((hxs i hi).2.2.2.2 j hj))
    (fun i j hi hj hij => by
      have h := List.all_eq_true.mp (lm_hasn_all i hi) j (List.mem_range.mpr hj)
      unfold lm_hasn at h
      simp only [Bool.or_eq_true, decide_eq_true_eq] at h
      rcases h with h | h | h
      · exact absurd h hij
      · exact Or.inl (hfl _ h)
      · exact Or.inr (hfl _ h)) hA
  have hZ1 : va_Z "java/lang/String" "COMPACT_STRINGS" "Z" (.int 1) (lm_A s.heap.size) s s.heap := va_Zof (hts _ lm_has_lay.1) (hts _ lm_has_lay.2.2.1) (va_eqt (hfl _ lm_has_st.1)) hA
  have hZ2 := va_Zqof (A := lm_A s.heap.size) (hts _ lm_has_lay.2.1) (hts _ lm_has_lay.2.2.2) (hfl _ lm_has_st.2) hA
  have main : ∀ (t f : Nat), va_Z "jdk/internal/util/Preconditions" "SIOOBE_FORMATTER" "Ljava/util/function/BiFunction;" (if f = 0 then .null else .ref t) (lm_A s.heap.size) s s.heap → ∃ (D : va_G) (pre : Nat → Nat) (cs : Nat → ClassId), pre 0 = b ∧ lm_Env D s.heap.size pre cs L xs s := by
    intro t f hZ
    refine ⟨(fun k => (DD k).1, fun k => (DD k).2), fun k => if k = 0 then b else if k < 20 then adK (k - 1) else if k < 40 then adV (k - 20) else if k = 40 then t else f, cs, rfl, ⟨fun c q hq => hDD c q hq, ?_⟩, Nat.le_refl _, ⟨hX, hbl⟩, ?_, ?_, hZ1, hZ⟩
    · intro k q hq
      have hkl : k < 6 := (List.getElem?_eq_some_iff.mp hq).1
      have h2 := lm_tyl_get cs (g := k + 1) (by omega) (by omega)
      rw [Nat.add_sub_cancel, hq] at h2
      cases h2
      exact hcs (k + 1) (by omega) (by omega)
    · refine ⟨fun i hi => ?_, fun i j hi hj e => ?_⟩
      · have h := hvS.1 i hi
        have e1 : (if 1 + i = 0 then b else if 1 + i < 20 then adK (1 + i - 1) else if 1 + i < 40 then adV (1 + i - 20) else if 1 + i = 40 then t else f) = adK i := by
          rw [if_neg (by omega), if_pos (by omega), Nat.add_sub_cancel_left]
        have e2 : (if 20 + i = 0 then b else if 20 + i < 20 then adK (20 + i - 1) else if 20 + i < 40 then adV (20 + i - 20) else if 20 + i = 40 then t else f) = adV i := by
          rw [if_neg (by omega), if_neg (by omega), if_pos (by omega), Nat.add_sub_cancel_left]
        rw [← e1, ← e2] at h
        exact h
      · refine hvS.2 i j hi hj ?_
        have e1 : ∀ i, i < 13 → (if 1 + i = 0 then b else if 1 + i < 20 then adK (1 + i - 1) else if 1 + i < 40 then adV (1 + i - 20) else if 1 + i = 40 then t else f) = adK i := fun i hi => by
          rw [if_neg (by omega), if_pos (by omega), Nat.add_sub_cancel_left]
        rw [← e1 i hi, ← e1 j hj]
        exact e
    · intro k e he
      have h := List.all_eq_true.mp lm_okIx_all (k, e) (lm_lk_mem he)
      unfold lm_okIx at h
      simp only [Bool.and_eq_true, decide_eq_true_eq] at h
      have hk := lm_pss_ok he
      unfold lm_okS at hk
      simp only [Bool.and_eq_true, decide_eq_true_eq] at hk
      have hq := htm e.1 h.1
      have e1 : (if 1 + e.1 = 0 then b else if 1 + e.1 < 20 then adK (1 + e.1 - 1) else if 1 + e.1 < 40 then adV (1 + e.1 - 20) else if 1 + e.1 = 40 then t else f) = adK e.1 := by
        rw [if_neg (by omega), if_pos (by omega), Nat.add_sub_cancel_left]
      show vk_R RX3 k (lm_tx.getD e.1 "") (if 1 + e.1 = 0 then b else if 1 + e.1 < 20 then adK (1 + e.1 - 1) else if 1 + e.1 < 40 then adV (1 + e.1 - 20) else if 1 + e.1 = 40 then t else f) s
      rw [e1]
      unfold lm_tm at hq
      rw [h.2] at hq
      exact vk_R.of (hts _ (lm_wd_in hk.2)) hq
  rcases hZ2 with h | ⟨t, h⟩
  · exact main 0 0 h
  · exact main t 1 h
theorem lm_start (hl : ∀ (L : Nat) (xs : Nat → Int32) (fm : Option Nat), L ≤ 3072 → (fm = none ∨ fm = some 1000040) → ∃ (n : Nat) (h' : lm_H), lm_run n 1300 278 0 (lm_entry 4 [.ref 1000000]) [] (lm_h0 L xs fm) = some (some (.int 1), h') ∧ h'.1.length ≤ 600000 ∧ lm_sz h' ≤ 7302250)
    {p : Program} {e : Env} {s : State} {m : MethodId} {below : List Frame} {meth : Method} {c : Code} (l : Launch) {b L : Nat} {xs : Nat → Int32} (hL : L ≤ 3072) (C0 : lw_At p s m meth c b L xs) : W p l e room_1 s m #[Value.ref b] below meth c s.heap [] 0 0 (lw_Z below #[Value.ref b] s) (entryFrame m ([Value.ref b] : List Value).toArray 4) := by
  obtain ⟨hx, hb, hr, hml, hown, hts, hX, hbl, hlocks, hgv⟩ := C0
  obtain ⟨D, pre, cs, hp0, hE⟩ := lm_env0 hts hX hbl hgv
  obtain ⟨n, h', hrun, hc, hz⟩ := hl L xs (if pre 41 = 0 then none else some 1000040) hL (by split <;> simp)
  have hF : lm_F p room_1 s m #[Value.ref b] meth c D s.heap.size pre cs L xs 278 1300 (lm_h0 L xs (if pre 41 = 0 then none else some 1000040)) :=
    ⟨hx, hb, hml, hown, fun w hw => hts w (lm_T_sub hw), hE, rfl, fun h9 => absurd h9 (by decide +kernel), by decide, by decide⟩
  have hG := lm_sim l D s.heap.size pre cs L xs n 1300 278 0 _ [] _ _ h' hrun p e room_1 s m #[Value.ref b] below meth c (lm_h0 L xs (if pre 41 = 0 then none else some 1000040)) (lw_Z below #[Value.ref b] s) hF ⟨by show h'.1.length - 0 ≤ 600000; omega, by show lm_sz h' - 0 ≤ 7302250; omega⟩ ?_
  · have hen : (lm_ent [.ref 1000000]).length ≤ 4 := by decide
    have hR : lm_R D s.heap.size pre cs L xs (lm_h0 L xs (if pre 41 = 0 then none else some 1000040)) s.heap := ⟨fun k q h9 => absurd h9 (by intro h8; cases h8), Nat.zero_le _, fun a x h9 => absurd h9 (by intro h8; cases h8), rfl, fun j => rfl, rfl⟩
    have hq := hG (lm_entry_len (by decide)) (Nat.le_refl _) (Nat.le_refl _) s.heap [] _ hR va_S.rf (lm_entry_has (n := 4) hen)
    rw [Nat.sub_self, Nat.sub_self] at hq
    have e0 : ([.ref 1000000] : List Value).map (lm_v s.heap.size pre) = [.ref b] := by
      show [lm_v s.heap.size pre (.ref (1000000 + 0))] = _
      rw [lm_vr_pre, hp0]
    rw [e0] at hq
    rw [lg_entry_eq]
    exact hq
  · intro pcR H locs ls hR hS hret
    have hdc : decode code pcR = .ok (.ireturn, 1) := by
      rcases hret with ⟨h1, -⟩ | ⟨x, ty, h1, h2, h3, h4⟩ | ⟨x, h1, -⟩ | ⟨x, ty, h1, -⟩
      · cases h1
      · exact h4
      · cases h1
      · cases x <;> cases h1
    refine va_forget (fun q hq => hS.2.2 q hq) ?_
    refine W.widen (k := 600000) (n := 7302250) (by show h'.1.length - 0 ≤ 600000; omega) (by show lm_sz h' - 0 ≤ 7302250; omega) ?_
    exact lw_ret hx hb hr hlocks hdc
