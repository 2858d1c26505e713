theorem lm_layof {C : String} {T : u_T} {N : Nat} {ps : List Nat} (h : ps.map lm_wd = (u_ws C T N).map some) : ∀ w ∈ u_ws C T N, w ∈ lm_T := by
  intro w hw
  have h1 : some w ∈ ps.map lm_wd := by rw [h]; exact List.mem_map.mpr ⟨w, hw, rfl⟩
  obtain ⟨n, -, hn⟩ := List.mem_map.mp h1
  refine lm_wT hn ?_
  obtain ⟨k, -, rfl⟩ := List.mem_map.mp hw
  unfold u_lay
  split <;> rfl
theorem lm_lay_0 : ∀ w ∈ u_ws RX0 TX0 5, w ∈ lm_T := lm_layof (ps := [11127, 11129, 11131, 11133, 11135]) (by decide +kernel)
theorem lm_lay_1 : ∀ w ∈ u_ws RX1 TX1 6, w ∈ lm_T := lm_layof (ps := [10170, 10172, 10174, 10176, 10178, 10180]) (by decide +kernel)
theorem lm_lay_2 : ∀ w ∈ u_ws RX2 TX2 1, w ∈ lm_T := lm_layof (ps := [13074]) (by decide +kernel)
theorem lm_lay_3 : ∀ w ∈ u_ws RX3 TX3 8, w ∈ lm_T := lm_layof (ps := [10138, 10140, 10142, 10144, 10146, 10148, 10150, 10152]) (by decide +kernel)
theorem lm_lay_4 : ∀ w ∈ u_ws RX4 TX4 13, w ∈ lm_T := lm_layof (ps := [10078, 10080, 10082, 10084, 10086, 10088, 10090, 10092, 10094, 10096, 10098, 10100, 10102]) (by decide +kernel)
theorem lm_lay_5 : ∀ w ∈ u_ws RX5 TX5 18, w ∈ lm_T := lm_layof (ps := [11057, 11059, 11061, 11063, 11065, 11067, 11069, 11071, 11073, 11075, 11077, 11079, 11081, 11083, 11085, 11087, 11089, 11091]) (by decide +kernel)
theorem lm_lay_6 : ∀ w ∈ u_ws RX6 TX6 8, w ∈ lm_T := lm_layof (ps := [10221, 10223, 10225, 10227, 10229, 10231, 10233, 10235]) (by decide +kernel)
theorem lm_lay_7 : ∀ w ∈ u_ws RX7 TX7 2, w ∈ lm_T := lm_layof (ps := [10117, 10119]) (by decide +kernel)
theorem lm_lay_8 : ∀ w ∈ u_ws RX8 TX8 4, w ∈ lm_T := lm_layof (ps := [11107, 11109, 11111, 11113]) (by decide +kernel)
theorem lm_lay_9 : ∀ w ∈ u_ws RX9 TX9 4, w ∈ lm_T := lm_layof (ps := [11011, 11013, 11015, 11017]) (by decide +kernel)
theorem lm_lay_10 : ∀ w ∈ u_ws RX10 TX10 13, w ∈ lm_T := lm_layof (ps := [11164, 11166, 11168, 11170, 11172, 11174, 11176, 11178, 11180, 11182, 11184, 11186, 11188]) (by decide +kernel)
theorem lm_lay_11 : ∀ w ∈ u_ws RX11 TX11 18, w ∈ lm_T := lm_layof (ps := [11209, 11211, 11213, 11215, 11217, 11219, 11221, 11223, 11225, 11227, 11229, 11231, 11233, 11235, 11237, 11239, 12001, 12003]) (by decide +kernel)
theorem lm_lay_12 : ∀ w ∈ u_ws RX12 TX12 58, w ∈ lm_T := lm_layof (ps := [15052, 15054, 15056, 15058, 15060, 15062, 15064, 15066, 15068, 15070, 15072, 15074, 15076, 15078, 15080, 15082, 15084, 15086, 15088, 15090, 15092, 15094, 15096, 15098, 15100, 15102, 15104, 15106, 15108, 15110, 15112, 15114, 15116, 15118, 15120, 15122, 15124, 15126, 15128, 15130, 15132, 15134, 15136, 15138, 15140, 15142, 15144, 15146, 15148, 15150, 15152, 15154, 15156, 15158, 15160, 15162, 15164, 15166]) (by decide +kernel)
theorem lm_lay {ci : Nat} {q : vw_C} (h : vwCl[ci]? = some q) : ∀ w ∈ u_ws q.1 q.2.1 q.2.2, w ∈ lm_T := by
  match ci, h with
  | 0, h => cases h; exact lm_lay_0
  | 1, h => cases h; exact lm_lay_1
  | 2, h => cases h; exact lm_lay_2
  | 3, h => cases h; exact lm_lay_3
  | 4, h => cases h; exact lm_lay_4
  | 5, h => cases h; exact lm_lay_5
  | 6, h => cases h; exact lm_lay_6
  | 7, h => cases h; exact lm_lay_7
  | 8, h => cases h; exact lm_lay_8
  | 9, h => cases h; exact lm_lay_9
  | 10, h => cases h; exact lm_lay_10
  | 11, h => cases h; exact lm_lay_11
  | 12, h => cases h; exact lm_lay_12
  | n + 13, h => simp [vwCl] at h
theorem lm_tyok {ci : Nat} {q : vw_C} (h : vwCl[ci]? = some q) : ∀ k, k < q.2.2 → parseFieldDescriptor (q.2.1 k).2.2.1 = some (lm_tys.getD ci (fun _ => .int) k) := by
  match ci, h with
  | 0, h => cases h; exact tyX0_ok
  | 1, h => cases h; exact tyX1_ok
  | 2, h => cases h; exact tyX2_ok
  | 3, h => cases h; exact tyX3_ok
  | 4, h => cases h; exact tyX4_ok
  | 5, h => cases h; exact tyX5_ok
  | 6, h => cases h; exact tyX6_ok
  | 7, h => cases h; exact tyX7_ok
  | 8, h => cases h; exact tyX8_ok
  | 9, h => cases h; exact tyX9_ok
  | 10, h => cases h; exact tyX10_ok
  | 11, h => cases h; exact tyX11_ok
  | 12, h => cases h; exact tyX12_ok
  | n + 13, h => simp [vwCl] at h
theorem lm_nmok {ci : Nat} {q : vw_C} (h : vwCl[ci]? = some q) : ∀ a, a < q.2.2 → ∀ b, b < q.2.2 → a ≠ b → (q.2.1 a).2.1 ≠ (q.2.1 b).2.1 := by
  match ci, h with
  | 0, h => cases h; exact nmX0
  | 1, h => cases h; exact nmX1
  | 2, h => cases h; exact nmX2
  | 3, h => cases h; exact nmX3
  | 4, h => cases h; exact nmX4
  | 5, h => cases h; exact nmX5
  | 6, h => cases h; exact nmX6
  | 7, h => cases h; exact nmX7
  | 8, h => cases h; exact nmX8
  | 9, h => cases h; exact nmX9
  | 10, h => cases h; exact nmX10
  | 11, h => cases h; exact nmX11
  | 12, h => cases h; exact nmX12
  | n + 13, h => simp [vwCl] at h
def lm_isR (ty : FieldType) : Bool := match ty with
  | .object _ => true
  | .array _ => true
  | _ => false
theorem lm_fin {ci : Nat} {q : vw_C} (h : vwCl[ci]? = some q) : ∀ k, k < q.2.2 → (q.2.1 k).2.2.2 = lm_isR (lm_tys.getD ci (fun _ => .int) k) := by
  match ci, h with
  | 0, h => cases h; exact (show ∀ k, k < 5 → (TX0 k).2.2.2 = lm_isR (tyX0 k) from by decide +kernel)
  | 1, h => cases h; exact (show ∀ k, k < 6 → (TX1 k).2.2.2 = lm_isR (tyX1 k) from by decide +kernel)
  | 2, h => cases h; exact (show ∀ k, k < 1 → (TX2 k).2.2.2 = lm_isR (tyX2 k) from by decide +kernel)
  | 3, h => cases h; exact (show ∀ k, k < 8 → (TX3 k).2.2.2 = lm_isR (tyX3 k) from by decide +kernel)
  | 4, h => cases h; exact (show ∀ k, k < 13 → (TX4 k).2.2.2 = lm_isR (tyX4 k) from by decide +kernel)
  | 5, h => cases h; exact (show ∀ k, k < 18 → (TX5 k).2.2.2 = lm_isR (tyX5 k) from by decide +kernel)
  | 6, h => cases h; exact (show ∀ k, k < 8 → (TX6 k).2.2.2 = lm_isR (tyX6 k) from by decide +kernel)
  | 7, h => cases h; exact (show ∀ k, k < 2 → (TX7 k).2.2.2 = lm_isR (tyX7 k) from by decide +kernel)
  | 8, h => cases h; exact (show ∀ k, k < 4 → (TX8 k).2.2.2 = lm_isR (tyX8 k) from by decide +kernel)
  | 9, h => cases h; exact (show ∀ k, k < 4 → (TX9 k).2.2.2 = lm_isR (tyX9 k) from by decide +kernel)
  | 10, h => cases h; exact (show ∀ k, k < 13 → (TX10 k).2.2.2 = lm_isR (tyX10 k) from by decide +kernel)
  | 11, h => cases h; exact (show ∀ k, k < 18 → (TX11 k).2.2.2 = lm_isR (tyX11 k) from by decide +kernel)
  | 12, h => cases h; exact (show ∀ k, k < 58 → (TX12 k).2.2.2 = lm_isR (tyX12 k) from by decide +kernel)
  | n + 13, h => simp [vwCl] at h
def lm_tyb (ty : FieldType) : Bool := match ty with
  | .int => true
  | .boolean => true
  | .long => true
  | .object _ => true
  | .array _ => true
  | _ => false
theorem lm_tyk {ci : Nat} {q : vw_C} (h : vwCl[ci]? = some q) : ∀ k, k < q.2.2 → lm_tyb (lm_tys.getD ci (fun _ => .int) k) = true := by
  match ci, h with
  | 0, h => cases h; exact (show ∀ k, k < 5 → lm_tyb (tyX0 k) = true from by decide +kernel)
  | 1, h => cases h; exact (show ∀ k, k < 6 → lm_tyb (tyX1 k) = true from by decide +kernel)
  | 2, h => cases h; exact (show ∀ k, k < 1 → lm_tyb (tyX2 k) = true from by decide +kernel)
  | 3, h => cases h; exact (show ∀ k, k < 8 → lm_tyb (tyX3 k) = true from by decide +kernel)
  | 4, h => cases h; exact (show ∀ k, k < 13 → lm_tyb (tyX4 k) = true from by decide +kernel)
  | 5, h => cases h; exact (show ∀ k, k < 18 → lm_tyb (tyX5 k) = true from by decide +kernel)
  | 6, h => cases h; exact (show ∀ k, k < 8 → lm_tyb (tyX6 k) = true from by decide +kernel)
  | 7, h => cases h; exact (show ∀ k, k < 2 → lm_tyb (tyX7 k) = true from by decide +kernel)
  | 8, h => cases h; exact (show ∀ k, k < 4 → lm_tyb (tyX8 k) = true from by decide +kernel)
  | 9, h => cases h; exact (show ∀ k, k < 4 → lm_tyb (tyX9 k) = true from by decide +kernel)
  | 10, h => cases h; exact (show ∀ k, k < 13 → lm_tyb (tyX10 k) = true from by decide +kernel)
  | 11, h => cases h; exact (show ∀ k, k < 18 → lm_tyb (tyX11 k) = true from by decide +kernel)
  | 12, h => cases h; exact (show ∀ k, k < 58 → lm_tyb (tyX12 k) = true from by decide +kernel)
  | n + 13, h => simp [vwCl] at h
theorem lm_Rq {ci : Nat} {q : vw_C} (h : vwCl[ci]? = some q) : lm_Rs.getD ci "" = q.1 := by
  match ci, h with
  | 0, h => cases h; rfl
  | 1, h => cases h; rfl
  | 2, h => cases h; rfl
  | 3, h => cases h; rfl
  | 4, h => cases h; rfl
  | 5, h => cases h; rfl
  | 6, h => cases h; rfl
  | 7, h => cases h; rfl
  | 8, h => cases h; rfl
  | 9, h => cases h; rfl
  | 10, h => cases h; rfl
  | 11, h => cases h; rfl
  | 12, h => cases h; rfl
  | n + 13, h => simp [vwCl] at h
theorem lm_inst {ci : Nat} {q : vw_C} (h : vwCl[ci]? = some q) : Cond.instantiable q.1 q.2.2 ∈ lm_T ∧ Cond.initialized q.1 ∈ lm_T := by
  match ci, h with
  | 0, h => cases h; exact ⟨lm_wT (n := 11117) (by decide +kernel) rfl, lm_wT (n := 10010) (by decide +kernel) rfl⟩
  | 1, h => cases h; exact ⟨lm_wT (n := 10156) (by decide +kernel) rfl, lm_wT (n := 10005) (by decide +kernel) rfl⟩
  | 2, h => cases h; exact ⟨lm_wT (n := 13053) (by decide +kernel) rfl, lm_wT (n := 10018) (by decide +kernel) rfl⟩
  | 3, h => cases h; exact ⟨lm_wT (n := 10124) (by decide +kernel) rfl, lm_wT (n := 10004) (by decide +kernel) rfl⟩
  | 4, h => cases h; exact ⟨lm_wT (n := 10031) (by decide +kernel) rfl, lm_wT (n := 10002) (by decide +kernel) rfl⟩
  | 5, h => cases h; exact ⟨lm_wT (n := 11021) (by decide +kernel) rfl, lm_wT (n := 10008) (by decide +kernel) rfl⟩
  | 6, h => cases h; exact ⟨lm_wT (n := 10185) (by decide +kernel) rfl, lm_wT (n := 10006) (by decide +kernel) rfl⟩
  | 7, h => cases h; exact ⟨lm_wT (n := 10108) (by decide +kernel) rfl, lm_wT (n := 10003) (by decide +kernel) rfl⟩
  | 8, h => cases h; exact ⟨lm_wT (n := 11095) (by decide +kernel) rfl, lm_wT (n := 10009) (by decide +kernel) rfl⟩
  | 9, h => cases h; exact ⟨lm_wT (n := 10239) (by decide +kernel) rfl, lm_wT (n := 10007) (by decide +kernel) rfl⟩
  | 10, h => cases h; exact ⟨lm_wT (n := 11139) (by decide +kernel) rfl, lm_wT (n := 10011) (by decide +kernel) rfl⟩
  | 11, h => cases h; exact ⟨lm_wT (n := 10023) (by decide +kernel) rfl, lm_wT (n := 10001) (by decide +kernel) rfl⟩
  | 12, h => cases h; exact ⟨lm_wT (n := 14229) (by decide +kernel) rfl, lm_wT (n := 10012) (by decide +kernel) rfl⟩
  | n + 13, h => simp [vwCl] at h
