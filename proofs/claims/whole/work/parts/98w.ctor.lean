/-! The two constructors, run by the kernel on a closed heap; what they leave. -/
def kc_h0 : lm_H := ([], fun _ _ => 0, fun _ _ => 0, fun _ _ => none)
def kc_R1 : Option (Option Value × lm_H) := lm_runR 6000 1299 97 0 [some (.ref 0), none] [] (lm_new kc_h0 (0, 11))
def kc_R2 (h : lm_H) : Option (Option Value × lm_H) := lm_runR 6000 1299 157 0 [some (.ref 89)] [] (lm_new h (0, 12))
def kc_z (h : lm_H) (e : Nat × Nat × Int32) : Bool := (List.range e.2.1).all (fun j => decide (lm_i h e.1 j = e.2.2))
def kc_p (h : lm_H) (e : Nat × Nat × Int32) : Bool := decide (lm_i h e.1 e.2.1 = e.2.2)
def kc_Zl : List (Nat × Nat × Int32) := [(2, 5, 0), (3, 6, 0), (4, 30, 0), (5, 5, 6), (6, 30, 0), (7, 5, 0), (94, 86, 0), (10, 2, 0), (96, 2, 0), (12, 400, 0), (98, 400, 0), (74, 30, 0), (38, 5, 0), (75, 5, 0), (93, 7, 0)]
def kc_Pl : List (Nat × Nat × Int32) := [(1, 0, 0), (1, 1, 0), (1, 2, 0), (1, 3, 0), (1, 4, 0), (1, 5, -1), (94, 86, -1), (0, 15, 0), (0, 16, -1), (0, 17, 0), (11, 1, 0), (92, 0, 0), (92, 11, -1), (92, 6, 0), (92, 10, 0), (58, 4, 0), (58, 5, 0), (92, 55, 0), (92, 56, 0), (31, 2, 0), (92, 1, 0), (92, 28, -1), (92, 39, -1), (92, 50, -1)]
def kc_S (h : lm_H) : Bool := decide (h.1 = lm_S)
def kc_F (h : lm_H) : Bool := (List.range 119).all (fun a => (lm_Fl.getD a []).all (fun e => decide (lm_r h a e.1 = some e.2)))
def kc_W (h : lm_H) : Bool := (List.range 64).all (fun j => decide (lm_i h 97 j = wR.getD j 0))
def kc_L (h : lm_H) : Bool := (List.range 6).all (fun j => decide (lm_r h 8 j = none))
def kc_Ck (h : lm_H) : Bool := kc_S h && (kc_F h && (kc_W h && (kc_L h && (kc_Pl.all (kc_p h) && kc_Zl.all (kc_z h)))))
def kc_N (h : lm_H) : Bool := decide (46 ≤ h.1.length) && h.1.all (fun x => decide (¬ x.1 = 8))
def kc_P : Bool := match kc_R1 with
  | some (none, h1) => decide (h1.1.length = 89) && (match kc_R2 h1 with
    | some (none, h2) => kc_N h2 && kc_Ck (pd h2)
    | _ => false)
  | _ => false
set_option maxRecDepth 1000000 in
theorem kc_P_ok : kc_P = true := by decide +kernel
