/-! SIM: a new road: the search in the class -/
def sm_qn (n : Nat) (T : Nat → sm_tw) (R : sm_rd) (S : sm_fs) (F : sm_lf) (m0 m : gk_M) : Prop := sm_X n T R S F m ∧ (∀ k j, k ≠ 3 → k ≠ 19 → k ≠ 20 → k ≠ 23 → k ≠ 24 → m.1 k j = m0.1 k j) ∧ m.2 = m0.2
def sm_pn (n : Nat) (T : Nat → sm_tw) (R : sm_rd) (S : sm_fs) (F : sm_lf) (m0 m : gk_M) : Prop := sm_M n T R S F m ∧ (∀ k j, k ≠ 13 → ¬ (k = 0 ∧ 19 ≤ j ∧ j ≤ 23) → k ≠ 15 → k ≠ 16 → k ≠ 17 → m.1 k j = m0.1 k j) ∧ (∀ k j, ¬ (k = 0 ∧ (j = 25 ∨ j = 26)) → m.2 k j = m0.2 k j)
section NEW
variable {n : Nat} {T : Nat → sm_tw} {R : sm_rd} {S : sm_fs} {F : sm_lf} {m0 m : gk_M}
theorem sm_qn_q {m1 : gk_M} (h : sm_qn n T R S F m0 m) (h1 : sm_q n T R S F m m1) : sm_qn n T R S F m0 m1 :=
  ⟨h1.1, fun k j a b c d e => (h1.2.1 k j a b c).trans (h.2.1 k j a b c d e), h1.2.2.trans h.2.2⟩
theorem sm_qn_w {c j : Nat} {v : Int32} (hc : c = 23 ∨ c = 24) (h : sm_qn n T R S F m0 m) : sm_qn n T R S F m0 (gk_mi m c j v) :=
  ⟨sm_X_fr (by intro k j h; unfold sm_fX at h; rw [sm_mi0 (by omega)]) h.1, fun k j a b c d e => by rw [sm_mi0 (by omega)]; exact h.2.1 k j a b c d e, h.2.2⟩
theorem x_65s (hd : sm_dis n T) {b h w fu : Nat} (hw : w < 4) (k46 : Int32 → Int32 → Int32 → gk_M → Option (Int32 × gk_M)) {B : sm_B} (hB : sm_bI B) (hh : h < B.2.2) (hH : sm_bH 23 24 B m) (hq : sm_qn n T R S F m0 m) : ∃ m', sm_qn n T R S F m0 m' ∧ sm_bH 23 24 (sm_jn (sm_clr n T S F) h w B) m' ∧ f_Planner_stepsBetween_65 k46 (fu + 1) (sm_n b) (sm_n B.2.2) (sm_n h) (sm_n w) m = f_Planner_stepsBetween_65 k46 fu (sm_n b) (sm_n (sm_jn (sm_clr n T S F) h w B).2.2) (sm_n h) (sm_n (w + 1)) m' := by
  have hle := sm_bI_le hB
  obtain ⟨hQ, hD0⟩ := hB.2.2 h hh
  have hD := hB.2.1
  rw [f_Planner_stepsBetween_65]
  rw [if_neg (show ¬ 4 ≤ sm_n w by simp (disch := omega) only [sm_lit, sm_nlt, sm_nle, sm_neq, sm_n_add, sm_n_mul, sm_n_div, sm_n_rem, sm_bi, sm_bl, sm_bv, sm_let, sm_zz0, sm_zz1, sm_ai, sm_si, sm_al, sm_sl, sm_ar, sm_mi1, sm_mi0, sm_ml1, sm_ml0, sm_mil, sm_mli]; omega), sm_ai (by omega) (by omega), hH.2 h hh, x_neighbour hQ hw, sm_bi, show sm_n w + 1 = sm_n (w + 1) from sm_n_add w 1]
  rcases e : sm_nb (B.2.1 h) w with _ | p
  · rw [sm_jn_none e, if_pos (show sm_o2 none < 0 by decide)]
    exact ⟨m, hq, hH, rfl⟩
  · have hp := sm_nb_lt hQ e
    rw [sm_jn_some e, if_neg (show ¬ sm_o2 (some p) < 0 from sm_nn (by omega)), show sm_o2 (some p) = sm_n p from rfl]
    by_cases h9 : B.2.2 < 900
    · rw [if_neg (show ¬ 900 ≤ sm_n B.2.2 by rw [show (900 : Int32) = sm_n 900 from rfl, sm_nle (by omega) (by omega)]; omega), sm_ai hp (by omega), hH.1 p hp]
      by_cases h0 : B.1 p = 0
      · rw [if_neg (show ¬ ¬ sm_st (B.1 p) = -1 by rw [h0]; exact fun z => z rfl)]
        obtain ⟨m1, e1, q1⟩ := x_isClear hd hp (sm_q0 hq.1)
        have hq1 := sm_qn_q hq q1
        have hH1 : sm_bH 23 24 B m1 := ⟨fun j hj => (q1.2.1 23 j (by decide) (by decide) (by decide)).trans (hH.1 j hj), fun i hi => (q1.2.1 24 i (by decide) (by decide) (by decide)).trans (hH.2 i hi)⟩
        rw [e1, sm_bi]
        cases hc : sm_clr n T S F p with
        | false =>
          rw [if_pos (show sm_b2 false = 0 from rfl), sm_j1_no (fun z => by rw [hc] at z; exact Bool.false_ne_true z.2)]
          exact ⟨m1, hq1, hH1, rfl⟩
        | true =>
          have hlt := sm_bI_lt hB hp h0
          rw [if_neg (show ¬ sm_b2 true = 0 by decide), sm_ai (by omega) (by omega), hH1.2 h hh, sm_ai hQ (by omega), hH1.1 _ hQ, sm_st_add hD0, sm_si hp (by omega), sm_si (show B.2.2 < 900 from hlt) (by omega), sm_j1_q ⟨h0, hc⟩, show sm_n B.2.2 + 1 = sm_n (B.2.2 + 1) from sm_n_add B.2.2 1]
          exact ⟨_, sm_qn_w (Or.inr rfl) (sm_qn_w (Or.inl rfl) hq1), sm_bH_j1 (by decide) hH1 h0 hc, rfl⟩
      · rw [if_pos (sm_st_m1 (by have := hD p; omega) h0), sm_j1_no (fun z => h0 z.1)]
        exact ⟨m, hq, hH, rfl⟩
    · have h0 : B.1 p ≠ 0 := fun z => h9 (sm_bI_lt hB hp z)
      rw [if_pos (show 900 ≤ sm_n B.2.2 by rw [show (900 : Int32) = sm_n 900 from rfl, sm_nle (by omega) (by omega)]; omega), sm_j1_no (fun z => h0 z.1)]
      exact ⟨m, hq, hH, rfl⟩
theorem x_65 (hd : sm_dis n T) {b h : Nat} (k46 : Int32 → Int32 → Int32 → gk_M → Option (Int32 × gk_M)) : ∀ l w fu B m, w + l = 4 → l < fu → sm_bI B → h < B.2.2 → sm_bH 23 24 B m → sm_qn n T R S F m0 m → ∃ m', sm_qn n T R S F m0 m' ∧ sm_bH 23 24 (sm_wy (sm_clr n T S F) h l w B) m' ∧ f_Planner_stepsBetween_65 k46 fu (sm_n b) (sm_n B.2.2) (sm_n h) (sm_n w) m = k46 (sm_n b) (sm_n (sm_wy (sm_clr n T S F) h l w B).2.2) (sm_n (h + 1)) m'
  | l, w, 0, B, m => fun _ h3 => absurd h3 (Nat.not_lt_zero _)
  | 0, w, fu + 1, B, m => by
    intro h1 h3 hB hh hH hq
    refine ⟨m, hq, hH, ?_⟩
    rw [f_Planner_stepsBetween_65]
    rw [if_pos (show 4 ≤ sm_n w by simp (disch := omega) only [sm_lit, sm_nlt, sm_nle, sm_neq, sm_n_add, sm_n_mul, sm_n_div, sm_n_rem, sm_bi, sm_bl, sm_bv, sm_let, sm_zz0, sm_zz1, sm_ai, sm_si, sm_al, sm_sl, sm_ar, sm_mi1, sm_mi0, sm_ml1, sm_ml0, sm_mil, sm_mli]; omega), show sm_n h + 1 = sm_n (h + 1) from sm_n_add h 1]
    rfl
  | l + 1, w, fu + 1, B, m => by
    intro h1 h3 hB hh hH hq
    obtain ⟨m1, q1, H1, e1⟩ := x_65s (b := b) (fu := fu) hd (show w < 4 by omega) k46 hB hh hH hq
    obtain ⟨a1, a2, a3, a4⟩ := sm_bI_jn (c := sm_clr n T S F) (w := w) hB hh
    obtain ⟨m2, q2, H2, e2⟩ := x_65 (b := b) (h := h) hd k46 l (w + 1) fu (sm_jn (sm_clr n T S F) h w B) m1 (by omega) (by omega) a1 (by omega) H1 q1
    exact ⟨m2, q2, H2, e1.trans e2⟩
theorem x_154 {b : Nat} (hb : b < 900) {B : sm_B} (hB : sm_bI B) (hH : sm_bH 23 24 B m) : f_Planner_stepsBetween_161 (sm_n b) m = some (sm_ans (B.1 b), m) := by
  have hle := sm_bI_le hB
  have hD := hB.2.1 b
  unfold f_Planner_stepsBetween_161
  rw [sm_ai hb (by omega), sm_ai hb (by omega), hH.1 b hb]
  by_cases h0 : B.1 b = 0
  · rw [h0, if_neg (show ¬ ¬ sm_st 0 = -1 from fun z => z rfl)]; rfl
  · rw [if_pos (sm_st_m1 (by omega) h0), sm_st_ans h0]
theorem x_46 (hd : sm_dis n T) {b : Nat} (hb : b < 900) : ∀ l h fu B m, h + l = 900 → l < fu → sm_bI B → sm_bH 23 24 B m → sm_qn n T R S F m0 m → ∃ m', sm_qn n T R S F m0 m' ∧ f_Planner_stepsBetween_46 fu (sm_n b) (sm_n B.2.2) (sm_n h) m = some (sm_ans ((sm_fin (sm_clr n T S F) l h B).1 b), m')
  | l, h, 0, B, m => fun _ h3 => absurd h3 (Nat.not_lt_zero _)
  | 0, h, fu + 1, B, m => by
    intro h1 h3 hB hH hq
    have hle := sm_bI_le hB
    refine ⟨m, hq, ?_⟩
    unfold f_Planner_stepsBetween_46
    rw [if_pos (show sm_n B.2.2 ≤ sm_n h by simp (disch := omega) only [sm_lit, sm_nlt, sm_nle, sm_neq, sm_n_add, sm_n_mul, sm_n_div, sm_n_rem, sm_bi, sm_bl, sm_bv, sm_let, sm_zz0, sm_zz1, sm_ai, sm_si, sm_al, sm_sl, sm_ar, sm_mi1, sm_mi0, sm_ml1, sm_ml0, sm_mil, sm_mli]; omega), x_154 hb hB hH]
    rfl
  | l + 1, h, fu + 1, B, m => by
    intro h1 h3 hB hH hq
    have hle := sm_bI_le hB
    unfold f_Planner_stepsBetween_46
    by_cases e : h < B.2.2
    · rw [if_neg (show ¬ sm_n B.2.2 ≤ sm_n h by simp (disch := omega) only [sm_lit, sm_nlt, sm_nle, sm_neq, sm_n_add, sm_n_mul, sm_n_div, sm_n_rem, sm_bi, sm_bl, sm_bv, sm_let, sm_zz0, sm_zz1, sm_ai, sm_si, sm_al, sm_sl, sm_ar, sm_mi1, sm_mi0, sm_ml1, sm_ml0, sm_mil, sm_mli]; omega), sm_ai hb (by omega), hH.1 b hb]
      by_cases h0 : B.1 b = 0
      · rw [if_neg (show ¬ ¬ sm_st (B.1 b) = -1 by rw [h0]; exact fun z => z rfl)]
        obtain ⟨m1, q1, H1, e1⟩ := x_65 (b := b) (h := h) hd (f_Planner_stepsBetween_46 fu) 4 0 gk_fv B m (by omega) (by rw [gk_fv_eq]; omega) hB e hH hq
        obtain ⟨b1, b2, b3⟩ := sm_bI_wy (c := sm_clr n T S F) (h := h) 4 0 B hB e
        obtain ⟨m2, q2, e2⟩ := x_46 hd hb l (h + 1) fu _ m1 (by omega) (by omega) b1 H1 q1
        refine ⟨m2, q2, ?_⟩
        rw [show f_Planner_stepsBetween_65 (f_Planner_stepsBetween_46 fu) gk_fv (sm_n b) (sm_n B.2.2) (sm_n h) 0 m = _ from e1, e2]
        show _ = some (sm_ans ((if h < B.2.2 then sm_fin (sm_clr n T S F) l (h + 1) (sm_wy (sm_clr n T S F) h 4 0 B) else B).1 b), m2)
        rw [if_pos e]
      · rw [if_pos (sm_st_m1 (by have := hB.2.1 b; omega) h0), x_154 hb hB hH, sm_fin_mono (l + 1) h B b hB h0]
        exact ⟨m, hq, rfl⟩
    · rw [if_pos (show sm_n B.2.2 ≤ sm_n h by simp (disch := omega) only [sm_lit, sm_nlt, sm_nle, sm_neq, sm_n_add, sm_n_mul, sm_n_div, sm_n_rem, sm_bi, sm_bl, sm_bv, sm_let, sm_zz0, sm_zz1, sm_ai, sm_si, sm_al, sm_sl, sm_ar, sm_mi1, sm_mi0, sm_ml1, sm_ml0, sm_mil, sm_mli]; omega), x_154 hb hB hH]
      unfold sm_fin
      rw [if_neg e]
      exact ⟨m, hq, rfl⟩
def sm_B0 (a : Nat) : sm_B := (sm_up (fun _ => 0) a 1, fun _ => a, 1)
theorem sm_bI_0 {a : Nat} (ha : a < 900) : sm_bI (sm_B0 a) := by
  refine ⟨?_, ?_, ?_⟩
  · show sm_sum 900 0 (fun j => if sm_up (fun _ => 0) a 1 j = 0 then 0 else 1) = 1
    refine (sm_sum_up1 (f := fun _ => 0) (p := a) rfl ?_ ?_ 900 0 (by omega) (by omega)).trans (by rw [sm_sum_zero])
    · show (if sm_up (fun _ => 0) a 1 a = 0 then 0 else 1) = 1
      rw [sm_up1]; rfl
    · intro j hj
      show (if sm_up (fun _ => 0) a 1 j = 0 then 0 else 1) = 0
      rw [sm_up0 hj]; rfl
  · intro p
    show sm_up (fun _ => 0) a 1 p ≤ 1
    by_cases e : p = a
    · rw [e, sm_up1]; omega
    · rw [sm_up0 e]; omega
  · intro i _
    show a < 900 ∧ sm_up (fun _ => 0) a 1 a ≠ 0
    rw [sm_up1]
    exact ⟨ha, by omega⟩
theorem x_newly {a b : Nat} (hd : sm_dis n T) (ha : a < 900) (hb : b < 900) (hX : sm_X n T R S F m) : ∃ m', sm_qn n T R S F m m' ∧ f_Planner_stepsBetween (sm_n a) (sm_n b) m = some (if sm_clr n T S F a = true ∧ sm_clr n T S F b = true then sm_ans ((sm_fin (sm_clr n T S F) 900 0 (sm_B0 a)).1 b) else -2, m') := by
  unfold f_Planner_stepsBetween
  obtain ⟨m1, e1, q1⟩ := x_isClear hd ha (sm_q0 hX)
  have k0 : sm_qn n T R S F m m := ⟨hX, fun _ _ _ _ _ _ _ => rfl, rfl⟩
  have k1 := sm_qn_q k0 q1
  rw [e1, sm_bi]
  cases hca : sm_clr n T S F a with
  | false =>
    rw [if_pos (show sm_b2 false = 0 from rfl), if_neg (fun z => Bool.false_ne_true z.1)]
    exact ⟨m1, k1, rfl⟩
  | true =>
    rw [if_neg (show ¬ sm_b2 true = 0 by decide)]
    obtain ⟨m2, e2, q2⟩ := x_isClear hd hb (sm_q0 q1.1)
    have k2 := sm_qn_q k1 q2
    rw [e2, sm_bi]
    cases hcb : sm_clr n T S F b with
    | false =>
      rw [if_neg (show ¬ ¬ sm_b2 false = 0 from fun z => z rfl), if_neg (fun z => Bool.false_ne_true z.2)]
      exact ⟨m2, k2, rfl⟩
    | true =>
      rw [if_pos (show ¬ sm_b2 true = 0 by decide), x_fillI 23 900 (by omega) (-1) m2, sm_bv, sm_si ha (by omega), show (0 : Int32) = sm_n 0 from rfl, sm_si (show 0 < 900 by omega) (by omega), if_pos ⟨rfl, rfl⟩]
      have k3 : sm_qn n T R S F m (sm_fill m2 23 (-1) 0 900) := ⟨sm_X_fr (by intro k j h; unfold sm_fX at h; rw [sm_fill0 (by omega)]) k2.1, fun k j a b c d e => by rw [sm_fill0 (by omega)]; exact k2.2.1 k j a b c d e, k2.2.2⟩
      have k4 := sm_qn_w (c := 24) (j := 0) (v := sm_n a) (Or.inr rfl) (sm_qn_w (c := 23) (j := a) (v := sm_n 0) (Or.inl rfl) k3)
      have H : sm_bH 23 24 (sm_B0 a) (gk_mi (gk_mi (sm_fill m2 23 (-1) 0 900) 23 a (sm_n 0)) 24 0 (sm_n a)) := by
        constructor
        · intro p hp
          show _ = sm_st (sm_up (fun _ => 0) a 1 p)
          rw [sm_mi0 (fun z => absurd z.1 (by decide))]
          by_cases e : p = a
          · rw [e, sm_mi1, sm_up1]; rfl
          · rw [sm_mi0 (fun z => e z.2), sm_up0 e, sm_fill1 ⟨rfl, by omega, hp⟩]; rfl
        · intro i hi
          have hi : i < 1 := hi
          rw [show i = 0 by omega, sm_mi1]; rfl
      obtain ⟨m5, q5, e5⟩ := x_46 hd hb 900 0 gk_fv (sm_B0 a) _ (by omega) (by rw [gk_fv_eq]; omega) (sm_bI_0 ha) H k4
      exact ⟨m5, q5, e5⟩
/-! the search in the reference -/
def sm_may (c : Nat → Bool) (m : gk_M) : Prop := ∀ p, p < 900 → m.1 15 p = sm_b2 (c p)
theorem sm_pn_w {c j : Nat} {v : Int32} (hc : c = 15 ∨ c = 16 ∨ c = 17) (h : sm_pn n T R S F m0 m) : sm_pn n T R S F m0 (gk_mi m c j v) :=
  ⟨sm_M_fr (by intro k j h; unfold sm_fM at h; rw [sm_mi0 (by omega)]) h.1, fun k j a b c d e => by rw [sm_mi0 (by omega)]; exact h.2.1 k j a b c d e, h.2.2⟩
/-- where the reference's search stands: at the point f, the h-th of the row -/
def sm_mS1 (n : Nat) (T : Nat → sm_tw) (R : sm_rd) (S : sm_fs) (F : sm_lf) (m0 : gk_M) (c : Nat → Bool) (h f : Nat) (B : sm_B) (m : gk_M) : Prop := sm_pn n T R S F m0 m ∧ sm_may c m ∧ sm_bH 16 17 B m ∧ sm_bI B ∧ h < B.2.2 ∧ B.2.1 h = f
theorem m_joins {c : Nat → Bool} {h f p : Nat} {B : sm_B} (hp : p < 900) (hs : sm_mS1 n T R S F m0 c h f B m) : ∃ m', sm_mS1 n T R S F m0 c h f (sm_j1 c (B.1 (B.2.1 h)) p B) m' ∧ f_M_joins (sm_n p) (sm_n f) (sm_n B.2.2) m = some (sm_n (sm_j1 c (B.1 (B.2.1 h)) p B).2.2, m') := by
  obtain ⟨s1, s2, s3, s4, s5, s6⟩ := id hs
  have hle := sm_bI_le s4
  obtain ⟨hQ, hD0⟩ := s4.2.2 h s5
  have hD := s4.2.1
  obtain ⟨a1, a2, a3, a4⟩ := sm_bI_j1 (c := c) (p := p) s4 (hD (B.2.1 h)) hp
  unfold f_M_joins
  rw [sm_ai hp (by omega), s2 p hp]
  cases hc : c p with
  | false =>
    rw [if_pos (show sm_b2 false = 0 from rfl), sm_j1_no (fun z => by rw [hc] at z; exact Bool.false_ne_true z.2)]
    exact ⟨m, hs, rfl⟩
  | true =>
    rw [if_neg (show ¬ sm_b2 true = 0 by decide), sm_ai hp (by omega), s3.1 p hp]
    by_cases h0 : B.1 p = 0
    · have hlt := sm_bI_lt s4 hp h0
      rw [if_pos (show sm_st (B.1 p) < 0 by rw [h0]; decide), ← s6, sm_ai hQ (by omega), s3.1 _ hQ, sm_st_add hD0, sm_si hp (by omega), sm_si (show B.2.2 < 900 from hlt) (by omega), show sm_n B.2.2 + 1 = sm_n (B.2.2 + 1) from sm_n_add B.2.2 1]
      refine ⟨_, ⟨sm_pn_w (Or.inr (Or.inr rfl)) (sm_pn_w (Or.inr (Or.inl rfl)) s1), ?_, sm_bH_j1 (by decide) s3 h0 hc, a1, Nat.lt_of_lt_of_le s5 a2, (a3 h s5)⟩, ?_⟩
      · intro j hj
        rw [sm_mi0 (fun z => absurd z.1 (by decide)), sm_mi0 (fun z => absurd z.1 (by decide))]
        exact s2 j hj
      · rw [sm_j1_q ⟨h0, hc⟩]
    · rw [if_neg (sm_st_nn (by have := hD p; omega) h0), sm_j1_no (fun z => h0 z.1)]
      exact ⟨m, hs, rfl⟩
theorem m_w0 {c : Nat → Bool} {h f : Nat} {B : sm_B} (hs : sm_mS1 n T R S F m0 c h f B m) (K : Int32 → gk_M → Option (Int32 × gk_M)) : ∃ m', sm_mS1 n T R S F m0 c h f (sm_jn c h 0 B) m' ∧ (if gk_rem (sm_n f) 30 ≤ 0 then K (sm_n B.2.2) m else gk_bi (f_M_joins (sm_n f - 1) (sm_n f) (sm_n B.2.2) m) fun v m' => K v m') = K (sm_n (sm_jn c h 0 B).2.2) m' := by
  obtain ⟨s1, s2, s3, s4, s5, s6⟩ := id hs
  obtain ⟨hQ, hD0⟩ := s4.2.2 h s5
  rw [s6] at hQ
  rw [show gk_rem (sm_n f) 30 = sm_n (f % 30) from sm_n_rem (b := 30) (by omega) (by omega)]
  have en : sm_nb (B.2.1 h) 0 = if f % 30 = 0 then none else some (f - 1) := by rw [s6]; rfl
  by_cases e : f % 30 = 0
  · rw [if_pos (show sm_n (f % 30) ≤ 0 by simp (disch := omega) only [sm_lit, sm_nlt, sm_nle, sm_neq, sm_n_add, sm_n_mul, sm_n_div, sm_n_rem, sm_bi, sm_bl, sm_bv, sm_let, sm_zz0, sm_zz1, sm_ai, sm_si, sm_al, sm_sl, sm_ar, sm_mi1, sm_mi0, sm_ml1, sm_ml0, sm_mil, sm_mli]; omega), sm_jn_none (by rw [en, if_pos e])]
    exact ⟨m, hs, rfl⟩
  · obtain ⟨m1, t1, e1⟩ := m_joins (p := f - 1) (by omega) hs
    rw [if_neg (show ¬ sm_n (f % 30) ≤ 0 by simp (disch := omega) only [sm_lit, sm_nlt, sm_nle, sm_neq, sm_n_add, sm_n_mul, sm_n_div, sm_n_rem, sm_bi, sm_bl, sm_bv, sm_let, sm_zz0, sm_zz1, sm_ai, sm_si, sm_al, sm_sl, sm_ar, sm_mi1, sm_mi0, sm_ml1, sm_ml0, sm_mil, sm_mli]; omega), show sm_n f - 1 = sm_n (f - 1) from sm_n_sub (b := 1) (by omega), e1, sm_bi, sm_jn_some (by rw [en, if_neg e])]
    exact ⟨m1, t1, rfl⟩
theorem m_w1 {c : Nat → Bool} {h f : Nat} {B : sm_B} (hs : sm_mS1 n T R S F m0 c h f B m) (K : Int32 → gk_M → Option (Int32 × gk_M)) : ∃ m', sm_mS1 n T R S F m0 c h f (sm_jn c h 1 B) m' ∧ (if 29 ≤ gk_rem (sm_n f) 30 then K (sm_n B.2.2) m else gk_bi (f_M_joins (sm_n f + 1) (sm_n f) (sm_n B.2.2) m) fun v m' => K v m') = K (sm_n (sm_jn c h 1 B).2.2) m' := by
  obtain ⟨s1, s2, s3, s4, s5, s6⟩ := id hs
  obtain ⟨hQ, hD0⟩ := s4.2.2 h s5
  rw [s6] at hQ
  rw [show gk_rem (sm_n f) 30 = sm_n (f % 30) from sm_n_rem (b := 30) (by omega) (by omega)]
  have en : sm_nb (B.2.1 h) 1 = if 29 ≤ f % 30 then none else some (f + 1) := by rw [s6]; rfl
  by_cases e : 29 ≤ f % 30
  · rw [if_pos (show 29 ≤ sm_n (f % 30) by simp (disch := omega) only [sm_lit, sm_nlt, sm_nle, sm_neq, sm_n_add, sm_n_mul, sm_n_div, sm_n_rem, sm_bi, sm_bl, sm_bv, sm_let, sm_zz0, sm_zz1, sm_ai, sm_si, sm_al, sm_sl, sm_ar, sm_mi1, sm_mi0, sm_ml1, sm_ml0, sm_mil, sm_mli]; omega), sm_jn_none (by rw [en, if_pos e])]
    exact ⟨m, hs, rfl⟩
  · obtain ⟨m1, t1, e1⟩ := m_joins (p := f + 1) (by omega) hs
    rw [if_neg (show ¬ 29 ≤ sm_n (f % 30) by simp (disch := omega) only [sm_lit, sm_nlt, sm_nle, sm_neq, sm_n_add, sm_n_mul, sm_n_div, sm_n_rem, sm_bi, sm_bl, sm_bv, sm_let, sm_zz0, sm_zz1, sm_ai, sm_si, sm_al, sm_sl, sm_ar, sm_mi1, sm_mi0, sm_ml1, sm_ml0, sm_mil, sm_mli]; omega), show sm_n f + 1 = sm_n (f + 1) from sm_n_add f 1, e1, sm_bi, sm_jn_some (by rw [en, if_neg e])]
    exact ⟨m1, t1, rfl⟩
theorem m_w2 {c : Nat → Bool} {h f : Nat} {B : sm_B} (hs : sm_mS1 n T R S F m0 c h f B m) (K : Int32 → gk_M → Option (Int32 × gk_M)) : ∃ m', sm_mS1 n T R S F m0 c h f (sm_jn c h 2 B) m' ∧ (if sm_n f < 30 then K (sm_n B.2.2) m else gk_bi (f_M_joins (sm_n f - 30) (sm_n f) (sm_n B.2.2) m) fun v m' => K v m') = K (sm_n (sm_jn c h 2 B).2.2) m' := by
  obtain ⟨s1, s2, s3, s4, s5, s6⟩ := id hs
  obtain ⟨hQ, hD0⟩ := s4.2.2 h s5
  rw [s6] at hQ
  have en : sm_nb (B.2.1 h) 2 = if f < 30 then none else some (f - 30) := by rw [s6]; rfl
  by_cases e : f < 30
  · rw [if_pos (show sm_n f < 30 by simp (disch := omega) only [sm_lit, sm_nlt, sm_nle, sm_neq, sm_n_add, sm_n_mul, sm_n_div, sm_n_rem, sm_bi, sm_bl, sm_bv, sm_let, sm_zz0, sm_zz1, sm_ai, sm_si, sm_al, sm_sl, sm_ar, sm_mi1, sm_mi0, sm_ml1, sm_ml0, sm_mil, sm_mli]; omega), sm_jn_none (by rw [en, if_pos e])]
    exact ⟨m, hs, rfl⟩
  · obtain ⟨m1, t1, e1⟩ := m_joins (p := f - 30) (by omega) hs
    rw [if_neg (show ¬ sm_n f < 30 by simp (disch := omega) only [sm_lit, sm_nlt, sm_nle, sm_neq, sm_n_add, sm_n_mul, sm_n_div, sm_n_rem, sm_bi, sm_bl, sm_bv, sm_let, sm_zz0, sm_zz1, sm_ai, sm_si, sm_al, sm_sl, sm_ar, sm_mi1, sm_mi0, sm_ml1, sm_ml0, sm_mil, sm_mli]; omega), show sm_n f - 30 = sm_n (f - 30) from sm_n_sub (b := 30) (by omega), e1, sm_bi, sm_jn_some (by rw [en, if_neg e])]
    exact ⟨m1, t1, rfl⟩
theorem m_w3 {c : Nat → Bool} {h f : Nat} {B : sm_B} (hs : sm_mS1 n T R S F m0 c h f B m) (K : Int32 → gk_M → Option (Int32 × gk_M)) : ∃ m', sm_mS1 n T R S F m0 c h f (sm_jn c h 3 B) m' ∧ (if 870 ≤ sm_n f then K (sm_n B.2.2) m else gk_bi (f_M_joins (sm_n f + 30) (sm_n f) (sm_n B.2.2) m) fun v m' => K v m') = K (sm_n (sm_jn c h 3 B).2.2) m' := by
  obtain ⟨s1, s2, s3, s4, s5, s6⟩ := id hs
  obtain ⟨hQ, hD0⟩ := s4.2.2 h s5
  rw [s6] at hQ
  have en : sm_nb (B.2.1 h) 3 = if 870 ≤ f then none else some (f + 30) := by rw [s6]; rfl
  by_cases e : 870 ≤ f
  · rw [if_pos (show 870 ≤ sm_n f by simp (disch := omega) only [sm_lit, sm_nlt, sm_nle, sm_neq, sm_n_add, sm_n_mul, sm_n_div, sm_n_rem, sm_bi, sm_bl, sm_bv, sm_let, sm_zz0, sm_zz1, sm_ai, sm_si, sm_al, sm_sl, sm_ar, sm_mi1, sm_mi0, sm_ml1, sm_ml0, sm_mil, sm_mli]; omega), sm_jn_none (by rw [en, if_pos e])]
    exact ⟨m, hs, rfl⟩
  · obtain ⟨m1, t1, e1⟩ := m_joins (p := f + 30) (by omega) hs
    rw [if_neg (show ¬ 870 ≤ sm_n f by simp (disch := omega) only [sm_lit, sm_nlt, sm_nle, sm_neq, sm_n_add, sm_n_mul, sm_n_div, sm_n_rem, sm_bi, sm_bl, sm_bv, sm_let, sm_zz0, sm_zz1, sm_ai, sm_si, sm_al, sm_sl, sm_ar, sm_mi1, sm_mi0, sm_ml1, sm_ml0, sm_mil, sm_mli]; omega), show sm_n f + 30 = sm_n (f + 30) from sm_n_add f 30, e1, sm_bi, sm_jn_some (by rw [en, if_neg e])]
    exact ⟨m1, t1, rfl⟩
theorem m_end {b : Nat} (hb : b < 900) {B : sm_B} (hB : sm_bI B) (hH : sm_bH 16 17 B m) : (gk_ai m 16 900 (sm_n b) fun v1 => if 0 ≤ v1 then gk_ai m 16 900 (sm_n b) fun v2 => some (v2, m) else some ((-2), m)) = some (sm_ans (B.1 b), m) := by
  have hle := sm_bI_le hB
  have hD := hB.2.1 b
  rw [sm_ai hb (by omega), sm_ai hb (by omega), hH.1 b hb]
  by_cases h0 : B.1 b = 0
  · rw [h0, if_neg (show ¬ 0 ≤ sm_st 0 by decide)]; rfl
  · rw [if_pos (show 0 ≤ sm_st (B.1 b) by unfold sm_st; rw [if_neg h0]; exact sm_nn' (by omega)), sm_st_ans h0]
theorem m_89 {c : Nat → Bool} {b : Nat} (hb : b < 900) : ∀ l h fu B m, h + l = 900 → l < fu → sm_bI B → sm_bH 16 17 B m → sm_may c m → sm_pn n T R S F m0 m → ∃ m', sm_pn n T R S F m0 m' ∧ f_M_newly_89 fu (sm_n b) (sm_n B.2.2) (sm_n h) m = some (sm_ans ((sm_fin c l h B).1 b), m')
  | l, h, 0, B, m => fun _ h3 => absurd h3 (Nat.not_lt_zero _)
  | 0, h, fu + 1, B, m => by
    intro h1 h3 hB hH hc hq
    have hle := sm_bI_le hB
    refine ⟨m, hq, ?_⟩
    unfold f_M_newly_89
    rw [if_pos (show sm_n B.2.2 ≤ sm_n h by simp (disch := omega) only [sm_lit, sm_nlt, sm_nle, sm_neq, sm_n_add, sm_n_mul, sm_n_div, sm_n_rem, sm_bi, sm_bl, sm_bv, sm_let, sm_zz0, sm_zz1, sm_ai, sm_si, sm_al, sm_sl, sm_ar, sm_mi1, sm_mi0, sm_ml1, sm_ml0, sm_mil, sm_mli]; omega), m_end hb hB hH]
    rfl
  | l + 1, h, fu + 1, B, m => by
    intro h1 h3 hB hH hc hq
    have hle := sm_bI_le hB
    unfold f_M_newly_89
    by_cases e : h < B.2.2
    · obtain ⟨f, hf⟩ : ∃ f, f = B.2.1 h := ⟨_, rfl⟩
      have s0 : sm_mS1 n T R S F m0 c h f B m := ⟨hq, hc, hH, hB, e, hf.symm⟩
      rw [if_neg (show ¬ sm_n B.2.2 ≤ sm_n h by simp (disch := omega) only [sm_lit, sm_nlt, sm_nle, sm_neq, sm_n_add, sm_n_mul, sm_n_div, sm_n_rem, sm_bi, sm_bl, sm_bv, sm_let, sm_zz0, sm_zz1, sm_ai, sm_si, sm_al, sm_sl, sm_ar, sm_mi1, sm_mi0, sm_ml1, sm_ml0, sm_mil, sm_mli]; omega), sm_ai (by omega) (by omega), hH.2 h e, ← hf]
      obtain ⟨m1, s1, e1⟩ := m_w0 s0 (fun v m => f_M_newly_127 (f_M_newly_89 fu) (sm_n b) (sm_n h) (sm_n f) v m)
      obtain ⟨m2, s2, e2⟩ := m_w1 s1 (fun v m => f_M_newly_153 (f_M_newly_89 fu) (sm_n b) (sm_n h) (sm_n f) v m)
      obtain ⟨m3, s3, e3⟩ := m_w2 s2 (fun v m => f_M_newly_177 (f_M_newly_89 fu) (sm_n b) (sm_n h) (sm_n f) v m)
      obtain ⟨m4, s4, e4⟩ := m_w3 s3 (fun v m => f_M_newly_202 (f_M_newly_89 fu) (sm_n b) (sm_n h) v m)
      obtain ⟨t1, t2, t3, t4, t5, t6⟩ := s4
      obtain ⟨m5, q5, e5⟩ := m_89 hb l (h + 1) fu _ m4 (by omega) (by omega) t4 t3 t2 t1
      refine ⟨m5, q5, ?_⟩
      refine e1.trans (e2.trans (e3.trans (e4.trans ?_)))
      show f_M_newly_89 fu (sm_n b) _ (sm_n h + 1) m4 = _
      rw [show sm_n h + 1 = sm_n (h + 1) from sm_n_add h 1, e5]
      show _ = some (sm_ans ((if h < B.2.2 then sm_fin c l (h + 1) (sm_wy c h 4 0 B) else B).1 b), m5)
      rw [if_pos e]
      rfl
    · rw [if_pos (show sm_n B.2.2 ≤ sm_n h by simp (disch := omega) only [sm_lit, sm_nlt, sm_nle, sm_neq, sm_n_add, sm_n_mul, sm_n_div, sm_n_rem, sm_bi, sm_bl, sm_bv, sm_let, sm_zz0, sm_zz1, sm_ai, sm_si, sm_al, sm_sl, sm_ar, sm_mi1, sm_mi0, sm_ml1, sm_ml0, sm_mil, sm_mli]; omega), m_end hb hB hH]
      unfold sm_fin
      rw [if_neg e]
      exact ⟨m, hq, rfl⟩
theorem m_18 {a b : Nat} (ha : a < 900) (hb : b < 900) : ∀ l p fu m, p + l = 900 → l < fu → sm_pn n T R S F m0 m → (∀ j, j < p → m.1 15 j = sm_b2 (sm_clr n T S F j) ∧ m.1 16 j = -1) → ∃ m', sm_pn n T R S F m0 m' ∧ f_M_newly_18 fu (sm_n a) (sm_n b) (sm_n p) m = some (if sm_clr n T S F a = true ∧ sm_clr n T S F b = true then sm_ans ((sm_fin (sm_clr n T S F) 900 0 (sm_B0 a)).1 b) else -2, m')
  | 0, p, fu + 1, m, h1, h3, hq, hj => by
    have hp : p = 900 := by omega
    subst hp
    unfold f_M_newly_18
    rw [if_pos (show 900 ≤ sm_n 900 by decide), sm_ai ha (by omega), (hj a ha).1, sm_ai hb (by omega), (hj b hb).1]
    cases hca : sm_clr n T S F a with
    | false =>
      rw [if_pos (show sm_b2 false = 0 from rfl), if_neg (fun z => Bool.false_ne_true z.1)]
      exact ⟨m, hq, rfl⟩
    | true =>
      rw [if_neg (show ¬ sm_b2 true = 0 by decide)]
      cases hcb : sm_clr n T S F b with
      | false =>
        rw [if_neg (show ¬ ¬ sm_b2 false = 0 from fun z => z rfl), if_neg (fun z => Bool.false_ne_true z.2)]
        exact ⟨m, hq, rfl⟩
      | true =>
        rw [if_pos (show ¬ sm_b2 true = 0 by decide), sm_si ha (by omega), show (0 : Int32) = sm_n 0 from rfl, sm_si (show 0 < 900 by omega) (by omega), if_pos ⟨rfl, rfl⟩]
        have k4 := sm_pn_w (c := 17) (j := 0) (v := sm_n a) (Or.inr (Or.inr rfl)) (sm_pn_w (c := 16) (j := a) (v := sm_n 0) (Or.inr (Or.inl rfl)) hq)
        have H : sm_bH 16 17 (sm_B0 a) (gk_mi (gk_mi m 16 a (sm_n 0)) 17 0 (sm_n a)) := by
          constructor
          · intro p hp
            show _ = sm_st (sm_up (fun _ => 0) a 1 p)
            rw [sm_mi0 (fun z => absurd z.1 (by decide))]
            by_cases e : p = a
            · rw [e, sm_mi1, sm_up1]; rfl
            · rw [sm_mi0 (fun z => e z.2), sm_up0 e, (hj p hp).2]; rfl
          · intro i hi
            have hi : i < 1 := hi
            rw [show i = 0 by omega, sm_mi1]; rfl
        have M : sm_may (sm_clr n T S F) (gk_mi (gk_mi m 16 a (sm_n 0)) 17 0 (sm_n a)) := by
          intro p hp
          rw [sm_mi0 (fun z => absurd z.1 (by decide)), sm_mi0 (fun z => absurd z.1 (by decide))]
          exact (hj p hp).1
        obtain ⟨m5, q5, e5⟩ := m_89 hb 900 0 gk_fv (sm_B0 a) _ (by omega) (by rw [gk_fv_eq]; omega) (sm_bI_0 ha) H M k4
        exact ⟨m5, q5, e5⟩
  | l + 1, p, fu + 1, m, h1, h3, hq, hj => by
    obtain ⟨m1, e1, q1⟩ := m_seesNone (show p < 900 by omega) (sm_p0 hq.1)
    have hq1 : sm_pn n T R S F m0 m1 := ⟨q1.1, fun k j a b c d e => (q1.2.1 k j a b).trans (hq.2.1 k j a b c d e), fun k j a => (q1.2.2 k j a).trans (hq.2.2 k j a)⟩
    have hz : ∀ {β : Type} (x : Bool) (c : Option β), gk_zz (sm_b2 x) c = c := by
      intro β x c
      cases x
      · exact sm_zz0 c
      · exact sm_zz1 c
    unfold f_M_newly_18
    rw [if_neg (show ¬ 900 ≤ sm_n p by simp (disch := omega) only [sm_lit, sm_nlt, sm_nle, sm_neq, sm_n_add, sm_n_mul, sm_n_div, sm_n_rem, sm_bi, sm_bl, sm_bv, sm_let, sm_zz0, sm_zz1, sm_ai, sm_si, sm_al, sm_sl, sm_ar, sm_mi1, sm_mi0, sm_ml1, sm_ml0, sm_mil, sm_mli]; omega), e1, sm_bi, hz, sm_si (by omega) (by omega), sm_si (by omega) (by omega), show sm_n p + 1 = sm_n (p + 1) from sm_n_add p 1]
    refine m_18 ha hb l (p + 1) fu _ (by omega) (by omega) (sm_pn_w (Or.inr (Or.inl rfl)) (sm_pn_w (Or.inl rfl) hq1)) ?_
    intro j hj2
    by_cases e : j = p
    · subst e
      rw [sm_mi1, sm_mi0 (fun z => absurd z.1 (by decide)), sm_mi1]
      exact ⟨rfl, rfl⟩
    · obtain ⟨a1, a2⟩ := hj j (by omega)
      rw [sm_mi0 (fun z => e z.2), sm_mi0 (fun z => e z.2), sm_mi0 (fun z => e z.2), sm_mi0 (fun z => e z.2), q1.2.1 15 j (by decide) (by omega), q1.2.1 16 j (by decide) (by omega)]
      exact ⟨a1, a2⟩
end NEW
theorem c_newly {mx mm : gk_M} (h : rl_ mx mm) (a b : Int32) : sm_al2 mx mm (f_X_newly a b mx) (f_M_newly a b mm) := by
  obtain ⟨n, TX, TM, R, S, F, nb, hX, hM, hT, hP, hK, hS, hH, hB, hR, hD⟩ := id h
  unfold f_X_newly f_M_newly
  rw [x_isPoint, sm_bi, m_isPoint, sm_bi]
  rcases sm_u_cases a 900 (by omega) with ⟨e0, _⟩ | ⟨p, hp, rfl, e3⟩
  · rw [if_pos e0, if_pos e0]; exact sm_al_id h
  rw [e3, if_neg (show ¬ (1 : Int32) = 0 by decide), if_neg (show ¬ (1 : Int32) = 0 by decide), x_isPoint, sm_bi, m_isPoint, sm_bi]
  rcases sm_u_cases b 900 (by omega) with ⟨e0, _⟩ | ⟨r, hr, rfl, e4⟩
  · rw [if_neg (fun z => z e0), if_neg (fun z => z e0)]; exact sm_al_id h
  rw [e4, if_pos (show ¬ (1 : Int32) = 0 by decide), if_pos (show ¬ (1 : Int32) = 0 by decide)]
  obtain ⟨m1, q1, e1⟩ := x_newly (rl_dis hT) hp hr hX
  obtain ⟨m2, q2, e2⟩ := m_18 (n := n) (T := TM) (R := R) (S := S) (F := F) (m0 := mm) hp hr 900 0 gk_fv mm (by omega) (by rw [gk_fv_eq]; omega) ⟨hM, fun _ _ _ _ _ _ _ => rfl, fun _ _ _ => rfl⟩ (fun j hj => absurd hj (Nat.not_lt_zero j))
  rw [e1, sm_bi, show f_M_newly_18 gk_fv (sm_n p) (sm_n r) 0 mm = _ from e2, sm_clr_cg hT]
  refine ⟨_, _, _, rfl, rfl, ?_⟩
  refine rl_q2 q1.1 ?_ ?_ ?_ ?_ q1.2.2 q2.1 ?_ ?_ ?_ ?_ ?_ hT hP hK hS hH hB hR hD
  · intro j; exact q1.2.1 4 j (by decide) (by decide) (by decide) (by decide) (by decide)
  · intro j; exact q1.2.1 6 j (by decide) (by decide) (by decide) (by decide) (by decide)
  · intro j _; exact q1.2.1 11 j (by decide) (by decide) (by decide) (by decide) (by decide)
  · intro k j hk _; exact q1.2.1 k j (by omega) (by omega) (by omega) (by omega) (by omega)
  · intro j hj
    refine q2.2.1 0 j (by decide) ?_ (by decide) (by decide) (by decide)
    simp only [List.mem_cons, List.not_mem_nil, or_false] at hj
    omega
  · intro k j h1 h2; exact q2.2.1 k j (by omega) (by omega) (by omega) (by omega) (by omega)
  · intro j; exact q2.2.1 11 j (by decide) (by omega) (by decide) (by decide) (by decide)
  · intro k j hk; exact q2.2.1 k j (by omega) (by omega) (by omega) (by omega) (by omega)
  · intro j; exact q2.2.2 25 j (by omega)
