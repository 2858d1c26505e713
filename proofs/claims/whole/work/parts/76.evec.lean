/-! The year whole: evenings of the class (86). -/
abbrev yT : Type := Nat × (Nat → Int32) × (Nat → Int32) × (Nat → Nat) × (Nat → Nat) × (Nat → Int32)
def al (B : Nat → Int32) (k w : Nat) : Nat := if w = 6 then 6 else if B (6 * k + w) = 0 then w else 6
theorem al_g {B : Nat → Int32} {k w m : Nat} (h : w < m ∨ w = 6) : al B k w < m ∨ al B k w = 6 := by
  unfold al
  split
  · exact Or.inr rfl
  · split
    · omega
    · exact Or.inr rfl
def yA (f : Nat → Nat → Nat × Nat) (B : Nat → Int32) (s : Nat) : Nat → (Nat → Nat) × Nat
  | 0 => (fun _ => 6, s)
  | k + 1 => (fun j => if j = k then al B k (f k (yA f B s k).2).1 else (yA f B s k).1 j, (f k (yA f B s k).2).2)
theorem yA_p {f : Nat → Nat → Nat × Nat} {B : Nat → Int32} {s n m : Nat} (hf : ∀ k s, k < n → s < 1000003 → ((f k s).1 < m ∨ (f k s).1 = 6) ∧ (f k s).2 < 1000003) (hs : s < 1000003) : ∀ k, k ≤ n → (yA f B s k).2 < 1000003 ∧ ∀ j, (yA f B s k).1 j < m ∨ (yA f B s k).1 j = 6 := by
  intro k
  induction k with
  | zero => intro _; exact ⟨hs, fun j => Or.inr rfl⟩
  | succ k ih =>
    intro hk
    obtain ⟨i1, i2⟩ := ih (by omega)
    obtain ⟨f1, f2⟩ := hf k _ (by omega) i1
    rw [yA]
    refine ⟨f2, fun j => ?_⟩
    show (if j = k then al B k (f k (yA f B s k).2).1 else (yA f B s k).1 j) < m ∨ (if j = k then al B k (f k (yA f B s k).2).1 else (yA f B s k).1 j) = 6
    split
    · exact al_g f1
    · exact i2 j
section YearP
variable (mn E T : Nat → Nat) (n m : Nat) (cu lo : Int32) (WB : (Nat → Int32) → Nat → (Nat → Int32) × (Nat → Int32))
def yF (e : Nat) (t : yT) (k s : Nat) : Nat × Nat := wi mn E n m cu lo (WB t.2.1 e).1 (WB t.2.1 e).2 t.2.2.1 t.2.2.2.1 t.2.2.2.2.1 T t.2.2.2.2.2 e k s
def yB (e : Nat) (t : yT) : (Nat → Nat) × Nat := yA (yF mn E T n m cu lo WB e t) (WB t.2.1 e).2 t.1 n
def yD (e : Nat) (t : yT) : (Nat → Nat) × Nat := sC n cu (yB mn E T n m cu lo WB e t).1 (yB mn E T n m cu lo WB e t).2 m
def yN (e : Nat) (t : yT) : yT := ((yD mn E T n m cu lo WB e t).2, fun j => t.2.1 j + (if (yD mn E T n m cu lo WB e t).1 (j / 6) = j % 6 then 1 else 0), fun j => t.2.2.1 j + (if uQ (yB mn E T n m cu lo WB e t).1 n (j / 6) (j % 6) = 0 then 1 else 0), (yB mn E T n m cu lo WB e t).1, (yD mn E T n m cu lo WB e t).1, gV lo (WB t.2.1 e).1 (yD mn E T n m cu lo WB e t).1)
def yS (s : Nat) : Nat → yT
  | 0 => (s, fun _ => 0, fun _ => 0, fun _ => 6, fun _ => 6, fun _ => 0)
  | e + 1 => yN mn E T n m cu lo WB e (yS s e)
/-- evenings in which a host dined alone -/
def yL (s : Nat) : Nat → Nat
  | 0 => 0
  | e + 1 => yL s e + (if q_cn (fun j => decide ((yS mn E T n m cu lo WB s (e + 1)).2.2.2.2.1 j = 6)) n = 0 then 0 else 1)
def yG (s j : Nat) : Nat → Int32
  | 0 => 0
  | e + 1 => yG s j e + (yS mn E T n m cu lo WB s (e + 1)).2.2.2.2.2 j
end YearP
theorem wi_s {mn E : Nat → Nat} {n m : Nat} {cu lo : Int32} {W B u : Nat → Int32} {A C T : Nat → Nat} {G : Nat → Int32} {e k s : Nat} (hs : s < 1000003) : (wi mn E n m cu lo W B u A C T G e k s).2 < 1000003 := by
  unfold wi
  split
  · exact dr_lt _
  split
  · exact hs
  split
  · exact hs
  split
  · exact hs
  split
  · exact hs
  · exact hs
def yk (n m : Nat) (t : yT) : Prop := t.1 < 1000003 ∧ (∀ j, t.2.2.2.1 j < m ∨ t.2.2.2.1 j = 6) ∧ ∀ j, t.2.2.2.2.1 j < m ∨ t.2.2.2.2.1 j = 6
theorem yB_p {mn E T : Nat → Nat} {n m : Nat} {cu lo : Int32} {WB : (Nat → Int32) → Nat → (Nat → Int32) × (Nat → Int32)} {e : Nat} {t : yT} (h5 : n ≤ 5) (h6 : m ≤ 6) (hw : ∀ M e, wd n m cu lo (WB M e).1) (hT : gA n m T) (ht : yk n m t) : (yB mn E T n m cu lo WB e t).2 < 1000003 ∧ ∀ j, (yB mn E T n m cu lo WB e t).1 j < m ∨ (yB mn E T n m cu lo WB e t).1 j = 6 :=
  yA_p (fun k s hk hs => ⟨wi_g (hw _ _) h5 h6 hk hT (fun _ j _ => ht.2.2 j), wi_s hs⟩) ht.1 n (Nat.le_refl _)
theorem yN_k {mn E T : Nat → Nat} {n m : Nat} {cu lo : Int32} {WB : (Nat → Int32) → Nat → (Nat → Int32) × (Nat → Int32)} {e : Nat} {t : yT} (h5 : n ≤ 5) (h6 : m ≤ 6) (hw : ∀ M e, wd n m cu lo (WB M e).1) (hT : gA n m T) (ht : yk n m t) : yk n m (yN mn E T n m cu lo WB e t) := by
  obtain ⟨b1, b2⟩ := yB_p (E := E) (mn := mn) (e := e) h5 h6 hw hT ht
  have hs := sC_p (n := n) (cu := cu) (A := (yB mn E T n m cu lo WB e t).1) b1 m
  exact ⟨hs.1, b2, hs.2⟩
theorem yS_k {mn E T : Nat → Nat} {n m : Nat} {cu lo : Int32} {WB : (Nat → Int32) → Nat → (Nat → Int32) × (Nat → Int32)} {s : Nat} (h5 : n ≤ 5) (h6 : m ≤ 6) (hw : ∀ M e, wd n m cu lo (WB M e).1) (hT : gA n m T) (hs : s < 1000003) : ∀ e, yk n m (yS mn E T n m cu lo WB s e) := by
  intro e
  induction e with
  | zero => exact ⟨hs, fun _ => Or.inr rfl, fun _ => Or.inr rfl⟩
  | succ e ih => rw [yS]; exact yN_k h5 h6 hw hT ih
abbrev YR : List Nat := [18, 19, 20, 58, 59, 60, 61, 62, 63, 64, 65, 66, 67, 68, 69, 70, 71, 72]
theorem ix6 {k g : Nat} (hg : g < 6) : (6 * k + g) / 6 = k ∧ (6 * k + g) % 6 = g := by omega
theorem cl_86 {D N s : Nat} {h : lm_H} {K : Int32 → lm_H → Prop} {mn E T : Nat → Nat} {n m : Nat} {cu lo : Int32} {WB : (Nat → Int32) → Nat → (Nat → Int32) × (Nat → Int32)} (hD : 10 ≤ D) (hl : lm_Lay h) (h5 : n ≤ 5) (h6 : m ≤ 6) (hN : N ≤ 40) (hs : s < 1000003) (h10 : lm_i h 1 0 = Int32.ofNat n) (hw : ∀ M e, wd n m cu lo (WB M e).1)
    (hmn : ∀ k, k < n → mn k ≤ 5 ∧ lm_i h 7 k = Int32.ofNat (mn k)) (hT : gA n m T) (hT2 : ∀ k, k < n → lm_i h 5 k = Int32.ofNat (T k)) (hE : ∀ k, k < n → ∀ g, g < m → E (6 * k + g) ≤ 10 ∧ lm_i h 6 (k * 6 + g) = Int32.ofNat (E (6 * k + g)))
    (hF : ∀ (z : lm_H) (K2 : lm_H → Prop) (D2 : Nat) (M : Nat → Int32) (e : Nat), e < 40 → D - 1 ≤ D2 → fr YR [] h z → (∀ k, k < n → ∀ g, g < m → lm_i z 67 (k * 6 + g) = M (6 * k + g)) → (∀ z', fr [18, 19, 20, 59, 60, 61, 62, 63] [] z z' → ct z' 59 n m cu lo (WB M e).1 (WB M e).2 → K2 z') → lm_call D2 62 [.ref 59, .ref 1, .ref 18, .ref 67, .int (Int32.ofNat e)] z (lm_kV K2))
    (hK : ∀ h', fr YR [] h h' → lm_i h' 58 4 = Int32.ofNat N → lm_i h' 58 5 = Int32.ofNat n → (∀ i, i < N → ∀ j, j < n → lm_i h' 64 (i * 5 + j) = Int32.ofNat ((yS mn E T n m cu lo WB s (i + 1)).2.2.2.1 j) ∧ lm_i h' 65 (i * 5 + j) = Int32.ofNat ((yS mn E T n m cu lo WB s (i + 1)).2.2.2.2.1 j)) → (∀ j, j < n → lm_i h' 66 j = yG mn E T n m cu lo WB s j N) → K (Int32.ofNat (yL mn E T n m cu lo WB s N)) h') : lm_call D 86 [.ref 58, .ref 1, .ref 18, .int (Int32.ofNat s), .int (Int32.ofNat N)] h (lm_kI K) := by
  obtain ⟨d, rfl⟩ := q_dp hD
  refine e_86 _ _ hl ?_
  have yLb : ∀ e, yL mn E T n m cu lo WB s e ≤ e := by
    intro e
    induction e with
    | zero => exact Nat.le_refl _
    | succ e ih => rw [yL]; split <;> omega
  have lp : ∀ r e : Nat, r + e = N → ∀ z, fr YR [] h z → lm_i z 58 4 = Int32.ofNat N → lm_i z 58 5 = Int32.ofNat n → lm_i z 58 6 = Int32.ofNat (yS mn E T n m cu lo WB s e).1 → (∀ k, k < n → ∀ g, g < m → lm_i z 67 (k * 6 + g) = (yS mn E T n m cu lo WB s e).2.1 (6 * k + g) ∧ lm_i z 68 (k * 6 + g) = (yS mn E T n m cu lo WB s e).2.2.1 (6 * k + g)) → (0 < e → ∀ j, j < n → lm_i z 70 j = Int32.ofNat ((yS mn E T n m cu lo WB s e).2.2.2.1 j) ∧ lm_i z 71 j = Int32.ofNat ((yS mn E T n m cu lo WB s e).2.2.2.2.1 j) ∧ lm_i z 72 j = (yS mn E T n m cu lo WB s e).2.2.2.2.2 j) → (∀ i, i < e → ∀ j, j < n → lm_i z 64 (i * 5 + j) = Int32.ofNat ((yS mn E T n m cu lo WB s (i + 1)).2.2.2.1 j) ∧ lm_i z 65 (i * 5 + j) = Int32.ofNat ((yS mn E T n m cu lo WB s (i + 1)).2.2.2.2.1 j)) → (∀ j, j < n → lm_i z 66 j = yG mn E T n m cu lo WB s j e) → (lm_W ((d + 9)) 86 49 [some (.ref 58), some (.ref 1), some (.ref 18), none, some (.int (Int32.ofNat N)), some (.int (Int32.ofNat (yL mn E T n m cu lo WB s e))), some (.int (Int32.ofNat e)), none] [] z (lm_kI K)) := by
    intro r
    induction r with
    | zero =>
      intro e he z hf a4 a5 a6 a7 a8 a9 a10
      have ee : e = N := by omega
      rw [ee] at a9 a10 ⊢
      refine b_86_49 _ _ _ (fr_Lay hf hl) ?_
      rw [if_neg (by rw [q_lt (by omega) (by omega)]; omega)]
      exact hK z hf a4 a5 a9 a10
    | succ r ih =>
      intro e he z hf a4 a5 a6 a7 a8 a9 a10
      have hk0 := yS_k (E := E) (mn := mn) h5 h6 hw hT hs e
      have hb := yB_p (E := E) (mn := mn) (e := e) h5 h6 hw hT hk0
      have hi := ih (e + 1) (by omega)
      have eG : ∀ j, yG mn E T n m cu lo WB s j (e + 1) = yG mn E T n m cu lo WB s j e + (yS mn E T n m cu lo WB s (e + 1)).2.2.2.2.2 j := fun j => by rw [yG]
      have eL : yL mn E T n m cu lo WB s (e + 1) = yL mn E T n m cu lo WB s e + (if q_cn (fun j => decide ((yS mn E T n m cu lo WB s (e + 1)).2.2.2.2.1 j = 6)) n = 0 then 0 else 1) := by rw [yL]
      have eS1 : yS mn E T n m cu lo WB s (e + 1) = yN mn E T n m cu lo WB e (yS mn E T n m cu lo WB s e) := by rw [yS]
      have hlb := yLb e
      generalize yS mn E T n m cu lo WB s (e + 1) = t' at hi eG eL eS1
      generalize et : yS mn E T n m cu lo WB s e = t at a6 a7 a8 hk0 hb eS1
      have es : yS mn E T n m cu lo WB s (e + 1) = yN mn E T n m cu lo WB e t := by rw [yS, et]
      refine b_86_49 _ _ _ (fr_Lay hf hl) ?_
      rw [if_pos (by rw [q_lt (by omega) (by omega)]; omega)]
      refine hF z _ _ t.2.1 e (by omega) (by omega) hf (fun k hk g hg => (a7 k hk g hg).1) (fun z0 f0 H0 => ?_)
      have hW := hw t.2.1 e
      have g4 : lm_i z0 58 4 = Int32.ofNat N := by rw [fr_i f0 (by decide) (by decide)]; exact a4
      have g5 : lm_i z0 58 5 = Int32.ofNat n := by rw [fr_i f0 (by decide) (by decide)]; exact a5
      have g6 : lm_i z0 58 6 = Int32.ofNat t.1 := by rw [fr_i f0 (by decide) (by decide)]; exact a6
      have la : ∀ q k : Nat, q + k = n → ∀ z1, fr [58, 69] [] z0 z1 → lm_i z1 58 4 = Int32.ofNat N → lm_i z1 58 5 = Int32.ofNat n → lm_i z1 58 6 = Int32.ofNat (yA (yF mn E T n m cu lo WB e t) (WB t.2.1 e).2 t.1 k).2 → (∀ j, j < k → lm_i z1 69 j = Int32.ofNat ((yA (yF mn E T n m cu lo WB e t) (WB t.2.1 e).2 t.1 k).1 j)) → (lm_W ((d + 9)) 86 74 [some (.ref 58), some (.ref 1), some (.ref 18), none, some (.int (Int32.ofNat N)), some (.int (Int32.ofNat (yL mn E T n m cu lo WB s e))), some (.int (Int32.ofNat e)), some (.int (Int32.ofNat k))] [] z1 (lm_kI K)) := by
        intro q
        induction q with
        | zero =>
          intro k hk z1 f1 b4 b5 b6 b7
          have ek : k = n := by omega
          rw [ek] at b6 b7 ⊢
          have H1 := ct_fr f1 H0 (by decide)
          refine b_86_74 _ _ _ _ H1.1 ?_
          rw [b5, if_neg (by rw [q_lt (by omega) (by omega)]; omega)]
          refine cl_93 (A := (yB mn E T n m cu lo WB e t).1) (by omega) H1 hW.1 hb.1 b6 b5 b7 (fun j _ => by have := hb.2 j; omega) (fun z2 f2 c6 c5 c4 c7 => ?_)
          have H2 := ct_fr f2 H1 (by decide)
          have hd2 := sC_p (n := n) (cu := cu) (A := (yB mn E T n m cu lo WB e t).1) hb.1 m
          refine cl_95 (A := (yB mn E T n m cu lo WB e t).1) (C := (yD mn E T n m cu lo WB e t).1) (by omega) H2 (by rw [c5]; exact b5) (by omega) (fun j hj => by rw [fr_i f2 (by decide) (by decide)]; exact b7 j hj) (fun j _ => by have := hb.2 j; omega) (fun j hj => ⟨hd2.2 j, c7 j hj⟩) (fun z3 f3 y1 y2 => ?_)
          obtain ⟨w1, w2, w3, w4⟩ := y1
          have e3 : ∀ c, [64, 65, 66, 67, 68, 70, 72].contains c = false → [58, 71].contains c = false → [58, 69].contains c = false → [18, 19, 20, 59, 60, 61, 62, 63].contains c = false → ¬ c = 92 → lm_i z3 c = lm_i z c := by
            intro c q1 q2 q3 q4 q5
            rw [fr_i f3 q1 q5, fr_i f2 q2 q5, fr_i f1 q3 q5, fr_i f0 q4 q5]
          have e2 : ∀ c, [58, 71].contains c = false → [58, 69].contains c = false → [18, 19, 20, 59, 60, 61, 62, 63].contains c = false → ¬ c = 92 → lm_i z2 c = lm_i z c := by
            intro c q2 q3 q4 q5
            rw [fr_i f2 q2 q5, fr_i f1 q3 q5, fr_i f0 q4 q5]
          have fz : fr YR [] h z3 := fr_trans hf (fr_trans (fr_sub f0 (by decide) (by decide)) (fr_trans (fr_sub f1 (by decide) (by decide)) (fr_trans (fr_sub f2 (by decide) (by decide)) (fr_sub f3 (by decide) (by decide)))))
          have hA' : t'.2.2.2.1 = (yB mn E T n m cu lo WB e t).1 := by rw [eS1]; rfl
          have hC' : t'.2.2.2.2.1 = (yD mn E T n m cu lo WB e t).1 := by rw [eS1]; rfl
          have hG' : t'.2.2.2.2.2 = gV lo (WB t.2.1 e).1 (yD mn E T n m cu lo WB e t).1 := by rw [eS1]; rfl
          have h1' : t'.1 = (yD mn E T n m cu lo WB e t).2 := by rw [eS1]; rfl
          have nxt : (lm_W ((d + 9)) 86 49 [some (.ref 58), some (.ref 1), some (.ref 18), none, some (.int (Int32.ofNat N)), some (.int (Int32.ofNat (yL mn E T n m cu lo WB s (e + 1)))), some (.int (Int32.ofNat (e + 1))), none] [] z3 (lm_kI K)) := by
            refine hi z3 fz ?_ ?_ ?_ (fun k hk g hg => ?_) (fun _ j hj => ?_) (fun i hi2 j hj => ?_) (fun j hj => ?_)
            · rw [fr_i f3 (by decide) (by decide), c4]; exact b4
            · rw [fr_i f3 (by decide) (by decide), c5]; exact b5
            · rw [fr_i f3 (by decide) (by decide), h1']; exact c6
            · obtain ⟨i1, i2⟩ := ix6 (k := k) (g := g) (by omega)
              constructor
              · rw [w4 k hk g hg, e2 67 (by decide) (by decide) (by decide) (by decide), (a7 k hk g hg).1, eS1]
                show _ = t.2.1 (6 * k + g) + (if (yD mn E T n m cu lo WB e t).1 ((6 * k + g) / 6) = (6 * k + g) % 6 then 1 else 0)
                rw [i1, i2]
                simp only [hk, true_and]
              · rw [y2 k hk g hg, e2 68 (by decide) (by decide) (by decide) (by decide), (a7 k hk g hg).2, eS1]
                show _ = t.2.2.1 (6 * k + g) + (if uQ (yB mn E T n m cu lo WB e t).1 n ((6 * k + g) / 6) ((6 * k + g) % 6) = 0 then 1 else 0)
                rw [i1, i2]
                simp only [hk, true_or, true_and]
            · rw [hA', hC', hG', fr_i f3 (c := 71) (by decide) (by decide)]
              exact ⟨(w1 j hj).2.2.1, c7 j hj, (w1 j hj).2.2.2⟩
            · by_cases ei : i = e
              · rw [ei, es]
                exact ⟨(w1 j hj).1, (w1 j hj).2.1⟩
              · have := w3 (i * 5 + j) (by omega)
                rw [this.1, this.2, e2 64 (by decide) (by decide) (by decide) (by decide), e2 65 (by decide) (by decide) (by decide) (by decide)]
                exact a9 i (by omega) j hj
            · rw [w2 j hj, if_pos hj, e2 66 (by decide) (by decide) (by decide) (by decide), a10 j hj, eG j, hG']
          rw [eL, hC'] at nxt
          show if ln (yD mn E T n m cu lo WB e t).1 n = 0 then _ else _
          unfold ln
          by_cases cl : q_cn (fun j => decide ((yD mn E T n m cu lo WB e t).1 j = 6)) n = 0
          · rw [if_pos cl] at nxt ⊢
            rw [if_pos rfl, q_a1]
            exact nxt
          · rw [if_neg cl] at nxt ⊢
            rw [if_neg (by decide), q_a1, q_a1]
            exact nxt
        | succ q ihq =>
          intro k hk z1 f1 b4 b5 b6 b7
          have H1 := ct_fr f1 H0 (by decide)
          have hyk := yA_p (f := yF mn E T n m cu lo WB e t) (B := (WB t.2.1 e).2) (s := t.1) (n := n) (m := m) (fun k s hk hs => ⟨wi_g (hw _ _) h5 h6 hk hT (fun _ j _ => hk0.2.2 j), wi_s hs⟩) hk0.1 k (by omega)
          have e1 : ∀ c, YR.contains c = false → ¬ c = 92 → lm_i z1 c = lm_i h c := by
            intro c q1 q5
            exact fr_i (fr_trans hf (fr_trans (fr_sub f0 (by decide) (by decide)) (fr_sub f1 (by decide) (by decide)))) q1 q5
          have e2 : ∀ c, [58, 69].contains c = false → [18, 19, 20, 59, 60, 61, 62, 63].contains c = false → ¬ c = 92 → lm_i z1 c = lm_i z c := by
            intro c q3 q4 q5
            rw [fr_i f1 q3 q5, fr_i f0 q4 q5]
          refine b_86_74 _ _ _ _ H1.1 ?_
          rw [b5, if_pos (by rw [q_lt (by omega) (by omega)]; omega)]
          refine cl_88 (mn := mn) (E := E) (T := T) (A := t.2.2.2.1) (C := t.2.2.2.2.1) (G := t.2.2.2.2.2) (u := t.2.2.1) (by omega) H1 hW (by omega) (by omega) hyk.1 b6 b5 ⟨(hmn k (by omega)).1, by rw [e1 7 (by decide) (by decide)]; exact (hmn k (by omega)).2⟩ (by rw [e1 5 (by decide) (by decide)]; exact hT2 k (by omega)) (fun g hg => ⟨(hE k (by omega) g hg).1, by rw [e1 6 (by decide) (by decide)]; exact (hE k (by omega) g hg).2⟩) (fun g hg => by rw [e2 68 (by decide) (by decide) (by decide)]; exact (a7 k (by omega) g hg).2) (fun h0 => ⟨fun j hj => ?_, fun j _ => hk0.2.1 j⟩) (fun z2 f2 c6 c5 c4 => ?_)
          · have q1 := hk0.2.1 j
            have q2 := hk0.2.2 j
            rw [e2 70 (by decide) (by decide) (by decide), e2 71 (by decide) (by decide) (by decide), e2 72 (by decide) (by decide) (by decide)]
            exact ⟨by omega, by omega, a8 h0 j hj⟩
          · have H2 := ct_fr f2 H1 (by decide)
            refine cl_66y (by omega) H2 (by omega) (wi_g hW h5 h6 (by omega) hT (fun _ j _ => hk0.2.2 j)) ?_
            rw [q_in (by omega) (by omega), q_nat (by omega), q_a1]
            refine ihq (k + 1) (by omega) _ (fr_si (fr_trans f1 (fr_sub f2 (by decide) (by decide))) (by decide) (by decide) _ _) ?_ ?_ ?_ (fun j hj => ?_)
            · rw [pi_si, if_neg (by decide), c4]; exact b4
            · rw [pi_si, if_neg (by decide), c5]; exact b5
            · rw [pi_si, if_neg (by decide), c6, yA]; rfl
            · rw [pi_si, if_pos rfl, yA]
              show _ = Int32.ofNat (if j = k then _ else _)
              by_cases ej : j = k
              · rw [if_pos ej, if_pos ej]; rfl
              · rw [if_neg ej, if_neg ej, fr_i f2 (by decide) (by decide)]
                exact b7 j (by omega)
      exact la n 0 (by omega) z0 (fr_refl _ _ _) g4 g5 g6 (fun j hj => by omega)
  have k0 : fr YR [] h (lm_si (lm_si (lm_si h 58 5 (lm_i h 1 0)) 58 4 (Int32.ofNat N)) 58 6 (Int32.ofNat s)) := fr_si (fr_si (fr_si (fr_refl _ _ _) (by decide) (by decide) _ _) (by decide) (by decide) _ _) (by decide) (by decide) _ _
  refine cl_270c66 (by omega) (fr_Lay k0 hl) _ ?_
  have k1 := fr_row k0 (c := 66) (by decide) (by decide) (fun j => if j < 5 then 0 else lm_i (lm_si (lm_si (lm_si h 58 5 (lm_i h 1 0)) 58 4 (Int32.ofNat N)) 58 6 (Int32.ofNat s)) 66 j)
  refine cl_270c67 (by omega) (fr_Lay k1 hl) _ ?_
  have k2 := fr_row k1 (c := 67) (by decide) (by decide) (fun j => if j < 30 then 0 else lm_i (lm_row (lm_si (lm_si (lm_si h 58 5 (lm_i h 1 0)) 58 4 (Int32.ofNat N)) 58 6 (Int32.ofNat s)) 66 (fun j => if j < 5 then 0 else lm_i (lm_si (lm_si (lm_si h 58 5 (lm_i h 1 0)) 58 4 (Int32.ofNat N)) 58 6 (Int32.ofNat s)) 66 j)) 67 j)
  refine cl_270c68 (by omega) (fr_Lay k2 hl) _ ?_
  refine lp N 0 (by omega) _ (fr_row k2 (c := 68) (by decide) (by decide) _) ?_ ?_ ?_ (fun k hk g hg => ⟨?_, ?_⟩) (fun q => by omega) (fun i hi => by omega) (fun j hj => ?_)
  · simp only [pi_row, pi_si, Nat.reduceEqDiff, if_true, if_false]
  · simp only [pi_row, pi_si, Nat.reduceEqDiff, if_true, if_false]
    exact h10
  · simp only [pi_row, pi_si, Nat.reduceEqDiff, if_true, if_false]
    rfl
  · simp only [pi_row, Nat.reduceEqDiff, if_true, if_false]
    rw [if_pos (by omega)]
    rfl
  · simp only [pi_row, Nat.reduceEqDiff, if_true, if_false]
    rw [if_pos (by omega)]
    rfl
  · simp only [pi_row, Nat.reduceEqDiff, if_true, if_false]
    rw [if_pos (by omega)]
    rfl
