theorem lm_layof {C : String} {T : u_T} {N : Nat} {ps : List Nat} (h : ps.map lm_wd = (u_ws C T N).map some) : ∀ w ∈ u_ws C T N, w ∈ lm_T := by
  intro w hw
  have h1 : some w ∈ ps.map lm_wd := by rw [h]; exact List.mem_map.mpr ⟨w, hw, rfl⟩
  obtain ⟨n, -, hn⟩ := List.mem_map.mp h1
  refine lm_wT hn ?_
  obtain ⟨k, -, rfl⟩ := List.mem_map.mp hw
  unfold u_lay
  split <;> rfl
theorem lm_lay_0 : ∀ w ∈ u_ws RX0 TX0 5, w ∈ lm_T := lm_layof (ps := [11117, 11119, 11121, 11123, 11125]) (by decide +kernel)
theorem lm_lay_1 : ∀ w ∈ u_ws RX1 TX1 6, w ∈ lm_T := lm_layof (ps := [10171, 10173, 10175, 10177, 10179, 10181]) (by decide +kernel)
theorem lm_lay_2 : ∀ w ∈ u_ws RX2 TX2 1, w ∈ lm_T := lm_layof (ps := [13064]) (by decide +kernel)
theorem lm_lay_3 : ∀ w ∈ u_ws RX3 TX3 8, w ∈ lm_T := lm_layof (ps := [10139, 10141, 10143, 10145, 10147, 10149, 10151, 10153]) (by decide +kernel)
theorem lm_lay_4 : ∀ w ∈ u_ws RX4 TX4 13, w ∈ lm_T := lm_layof (ps := [10079, 10081, 10083, 10085, 10087, 10089, 10091, 10093, 10095, 10097, 10099, 10101, 10103]) (by decide +kernel)
theorem lm_lay_5 : ∀ w ∈ u_ws RX5 TX5 15, w ∈ lm_T := lm_layof (ps := [11053, 11055, 11057, 11059, 11061, 11063, 11065, 11067, 11069, 11071, 11073, 11075, 11077, 11079, 11081]) (by decide +kernel)
theorem lm_lay_6 : ∀ w ∈ u_ws RX6 TX6 8, w ∈ lm_T := lm_layof (ps := [10222, 10224, 10226, 10228, 10230, 10232, 10234, 10236]) (by decide +kernel)
theorem lm_lay_7 : ∀ w ∈ u_ws RX7 TX7 2, w ∈ lm_T := lm_layof (ps := [10118, 10120]) (by decide +kernel)
theorem lm_lay_8 : ∀ w ∈ u_ws RX8 TX8 4, w ∈ lm_T := lm_layof (ps := [11097, 11099, 11101, 11103]) (by decide +kernel)
theorem lm_lay_9 : ∀ w ∈ u_ws RX9 TX9 4, w ∈ lm_T := lm_layof (ps := [11011, 11013, 11015, 11017]) (by decide +kernel)
theorem lm_lay_10 : ∀ w ∈ u_ws RX10 TX10 13, w ∈ lm_T := lm_layof (ps := [11154, 11156, 11158, 11160, 11162, 11164, 11166, 11168, 11170, 11172, 11174, 11176, 11178]) (by decide +kernel)
theorem lm_lay_11 : ∀ w ∈ u_ws RX11 TX11 18, w ∈ lm_T := lm_layof (ps := [11199, 11201, 11203, 11205, 11207, 11209, 11211, 11213, 11215, 11217, 11219, 11221, 11223, 11225, 11227, 11229, 11231, 11233]) (by decide +kernel)
theorem lm_lay_12 : ∀ w ∈ u_ws RX12 TX12 58, w ∈ lm_T := lm_layof (ps := [15065, 15067, 15069, 15071, 15073, 15075, 15077, 15079, 15081, 15083, 15085, 15087, 15089, 15091, 15093, 15095, 15097, 15099, 15101, 15103, 15105, 15107, 15109, 15111, 15113, 15115, 15117, 15119, 15121, 15123, 15125, 15127, 15129, 15131, 15133, 15135, 15137, 15139, 15141, 15143, 15145, 15147, 15149, 15151, 15153, 15155, 15157, 15159, 15161, 15163, 15165, 15167, 15169, 15171, 15173, 15175, 15177, 15179]) (by decide +kernel)
theorem lm_lay {ci : Nat} {q : vw_C} (h : vwCl[ci]? = some q) : ∀ w ∈ u_ws q.1 q.2.1 q.2.2, w ∈ lm_T := by
  match ci, h with
  | 0, h => cases h; exact lm_lay_0
  | 1, h => cases h; exact lm_lay_1
  | 2, h => cases h; exact lm_lay_2
  | 3, h => cases h; exact lm_lay_3
  | 4, h => cases h; exact lm_lay_4
  | 5, h => cases h; exact lm_lay_5
  | 6, h => cases h; exact lm_lay_6
  | 7, h => cases h; exact lm_lay_7
  | 8, h => cases h; exact lm_lay_8
  | 9, h => cases h; exact lm_lay_9
  | 10, h => cases h; exact lm_lay_10
  | 11, h => cases h; exact lm_lay_11
  | 12, h => cases h; exact lm_lay_12
  | n + 13, h => simp [vwCl] at h
theorem lm_tyok {ci : Nat} {q : vw_C} (h : vwCl[ci]? = some q) : ∀ k, k < q.2.2 → parseFieldDescriptor (q.2.1 k).2.2.1 = some (lm_tys.getD ci (fun _ => .int) k) := by
  match ci, h with
  | 0, h => cases h; exact tyX0_ok
  | 1, h => cases h; exact tyX1_ok
  | 2, h => cases h; exact tyX2_ok
  | 3, h => cases h; exact tyX3_ok
  | 4, h => cases h; exact tyX4_ok
  | 5, h => cases h; exact tyX5_ok
  | 6, h => cases h; exact tyX6_ok
  | 7, h => cases h; exact tyX7_ok
  | 8, h => cases h; exact tyX8_ok
  | 9, h => cases h; exact tyX9_ok
  | 10, h => cases h; exact tyX10_ok
  | 11, h => cases h; exact tyX11_ok
  | 12, h => cases h; exact tyX12_ok
  | n + 13, h => simp [vwCl] at h
theorem lm_nmok {ci : Nat} {q : vw_C} (h : vwCl[ci]? = some q) : ∀ a, a < q.2.2 → ∀ b, b < q.2.2 → a ≠ b → (q.2.1 a).2.1 ≠ (q.2.1 b).2.1 := by
  match ci, h with
  | 0, h => cases h; exact nmX0
  | 1, h => cases h; exact nmX1
  | 2, h => cases h; exact nmX2
  | 3, h => cases h; exact nmX3
  | 4, h => cases h; exact nmX4
  | 5, h => cases h; exact nmX5
  | 6, h => cases h; exact nmX6
  | 7, h => cases h; exact nmX7
  | 8, h => cases h; exact nmX8
  | 9, h => cases h; exact nmX9
  | 10, h => cases h; exact nmX10
  | 11, h => cases h; exact nmX11
  | 12, h => cases h; exact nmX12
  | n + 13, h => simp [vwCl] at h
def lm_isR (ty : FieldType) : Bool := match ty with
  | .object _ => true
  | .array _ => true
  | _ => false
theorem lm_fin {ci : Nat} {q : vw_C} (h : vwCl[ci]? = some q) : ∀ k, k < q.2.2 → (q.2.1 k).2.2.2 = lm_isR (lm_tys.getD ci (fun _ => .int) k) := by
  match ci, h with
  | 0, h => cases h; exact (show ∀ k, k < 5 → (TX0 k).2.2.2 = lm_isR (tyX0 k) from by decide +kernel)
  | 1, h => cases h; exact (show ∀ k, k < 6 → (TX1 k).2.2.2 = lm_isR (tyX1 k) from by decide +kernel)
  | 2, h => cases h; exact (show ∀ k, k < 1 → (TX2 k).2.2.2 = lm_isR (tyX2 k) from by decide +kernel)
  | 3, h => cases h; exact (show ∀ k, k < 8 → (TX3 k).2.2.2 = lm_isR (tyX3 k) from by decide +kernel)
  | 4, h => cases h; exact (show ∀ k, k < 13 → (TX4 k).2.2.2 = lm_isR (tyX4 k) from by decide +kernel)
  | 5, h => cases h; exact (show ∀ k, k < 15 → (TX5 k).2.2.2 = lm_isR (tyX5 k) from by decide +kernel)
  | 6, h => cases h; exact (show ∀ k, k < 8 → (TX6 k).2.2.2 = lm_isR (tyX6 k) from by decide +kernel)
  | 7, h => cases h; exact (show ∀ k, k < 2 → (TX7 k).2.2.2 = lm_isR (tyX7 k) from by decide +kernel)
  | 8, h => cases h; exact (show ∀ k, k < 4 → (TX8 k).2.2.2 = lm_isR (tyX8 k) from by decide +kernel)
  | 9, h => cases h; exact (show ∀ k, k < 4 → (TX9 k).2.2.2 = lm_isR (tyX9 k) from by decide +kernel)
  | 10, h => cases h; exact (show ∀ k, k < 13 → (TX10 k).2.2.2 = lm_isR (tyX10 k) from by decide +kernel)
  | 11, h => cases h; exact (show ∀ k, k < 18 → (TX11 k).2.2.2 = lm_isR (tyX11 k) from by decide +kernel)
  | 12, h => cases h; exact (show ∀ k, k < 58 → (TX12 k).2.2.2 = lm_isR (tyX12 k) from by decide +kernel)
  | n + 13, h => simp [vwCl] at h
def lm_tyb (ty : FieldType) : Bool := match ty with
  | .int => true
  | .boolean => true
  | .long => true
  | .object _ => true
  | .array _ => true
  | _ => false
theorem lm_tyk {ci : Nat} {q : vw_C} (h : vwCl[ci]? = some q) : ∀ k, k < q.2.2 → lm_tyb (lm_tys.getD ci (fun _ => .int) k) = true := by
  match ci, h with
  | 0, h => cases h; exact (show ∀ k, k < 5 → lm_tyb (tyX0 k) = true from by decide +kernel)
  | 1, h => cases h; exact (show ∀ k, k < 6 → lm_tyb (tyX1 k) = true from by decide +kernel)
  | 2, h => cases h; exact (show ∀ k, k < 1 → lm_tyb (tyX2 k) = true from by decide +kernel)
  | 3, h => cases h; exact (show ∀ k, k < 8 → lm_tyb (tyX3 k) = true from by decide +kernel)
  | 4, h => cases h; exact (show ∀ k, k < 13 → lm_tyb (tyX4 k) = true from by decide +kernel)
  | 5, h => cases h; exact (show ∀ k, k < 15 → lm_tyb (tyX5 k) = true from by decide +kernel)
  | 6, h => cases h; exact (show ∀ k, k < 8 → lm_tyb (tyX6 k) = true from by decide +kernel)
  | 7, h => cases h; exact (show ∀ k, k < 2 → lm_tyb (tyX7 k) = true from by decide +kernel)
  | 8, h => cases h; exact (show ∀ k, k < 4 → lm_tyb (tyX8 k) = true from by decide +kernel)
  | 9, h => cases h; exact (show ∀ k, k < 4 → lm_tyb (tyX9 k) = true from by decide +kernel)
  | 10, h => cases h; exact (show ∀ k, k < 13 → lm_tyb (tyX10 k) = true from by decide +kernel)
  | 11, h => cases h; exact (show ∀ k, k < 18 → lm_tyb (tyX11 k) = true from by decide +kernel)
  | 12, h => cases h; exact (show ∀ k, k < 58 → lm_tyb (tyX12 k) = true from by decide +kernel)
  | n + 13, h => simp [vwCl] at h
theorem lm_Rq {ci : Nat} {q : vw_C} (h : vwCl[ci]? = some q) : lm_Rs.getD ci "" = q.1 := by
  match ci, h with
  | 0, h => cases h; rfl
  | 1, h => cases h; rfl
  | 2, h => cases h; rfl
  | 3, h => cases h; rfl
  | 4, h => cases h; rfl
  | 5, h => cases h; rfl
  | 6, h => cases h; rfl
  | 7, h => cases h; rfl
  | 8, h => cases h; rfl
  | 9, h => cases h; rfl
  | 10, h => cases h; rfl
  | 11, h => cases h; rfl
  | 12, h => cases h; rfl
  | n + 13, h => simp [vwCl] at h
theorem lm_inst {ci : Nat} {q : vw_C} (h : vwCl[ci]? = some q) : Cond.instantiable q.1 q.2.2 ∈ lm_T ∧ Cond.initialized q.1 ∈ lm_T := by
  match ci, h with
  | 0, h => cases h; exact ⟨lm_wT (n := 11107) (by decide +kernel) rfl, lm_wT (n := 10010) (by decide +kernel) rfl⟩
  | 1, h => cases h; exact ⟨lm_wT (n := 10157) (by decide +kernel) rfl, lm_wT (n := 10005) (by decide +kernel) rfl⟩
  | 2, h => cases h; exact ⟨lm_wT (n := 13043) (by decide +kernel) rfl, lm_wT (n := 10018) (by decide +kernel) rfl⟩
  | 3, h => cases h; exact ⟨lm_wT (n := 10125) (by decide +kernel) rfl, lm_wT (n := 10004) (by decide +kernel) rfl⟩
  | 4, h => cases h; exact ⟨lm_wT (n := 10032) (by decide +kernel) rfl, lm_wT (n := 10002) (by decide +kernel) rfl⟩
  | 5, h => cases h; exact ⟨lm_wT (n := 11021) (by decide +kernel) rfl, lm_wT (n := 10008) (by decide +kernel) rfl⟩
  | 6, h => cases h; exact ⟨lm_wT (n := 10186) (by decide +kernel) rfl, lm_wT (n := 10006) (by decide +kernel) rfl⟩
  | 7, h => cases h; exact ⟨lm_wT (n := 10109) (by decide +kernel) rfl, lm_wT (n := 10003) (by decide +kernel) rfl⟩
  | 8, h => cases h; exact ⟨lm_wT (n := 11085) (by decide +kernel) rfl, lm_wT (n := 10009) (by decide +kernel) rfl⟩
  | 9, h => cases h; exact ⟨lm_wT (n := 11000) (by decide +kernel) rfl, lm_wT (n := 10007) (by decide +kernel) rfl⟩
  | 10, h => cases h; exact ⟨lm_wT (n := 11129) (by decide +kernel) rfl, lm_wT (n := 10011) (by decide +kernel) rfl⟩
  | 11, h => cases h; exact ⟨lm_wT (n := 10024) (by decide +kernel) rfl, lm_wT (n := 10001) (by decide +kernel) rfl⟩
  | 12, h => cases h; exact ⟨lm_wT (n := 15002) (by decide +kernel) rfl, lm_wT (n := 10012) (by decide +kernel) rfl⟩
  | n + 13, h => simp [vwCl] at h
