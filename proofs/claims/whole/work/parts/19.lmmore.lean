theorem ls_swT {x : Int32} {c o : Int} {cs : List (Int × Int)} {dd : Int} {k : Int → Prop} (hv : x = Int32.ofInt c) (ka : k o) : lm_sw x ((c, o) :: cs) dd k := by
  show if x = Int32.ofInt c then _ else _
  rw [if_pos hv]
  exact ka
theorem ls_swF {x : Int32} {c o : Int} {cs : List (Int × Int)} {dd : Int} {k : Int → Prop} (hv : ¬ x = Int32.ofInt c) (kb : lm_sw x cs dd k) : lm_sw x ((c, o) :: cs) dd k := by
  show if x = Int32.ofInt c then _ else _
  rw [if_neg hv]
  exact kb
theorem ls_swD {x : Int32} {dd : Int} {k : Int → Prop} (h : k dd) : lm_sw x [] dd k := h
