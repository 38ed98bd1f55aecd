/-! SIM: the reference looks along lines -/
theorem sm_l0 {a : Int} (h1 : -9223372036854775808 ≤ a) (h2 : a < 9223372036854775808) : (sm_l a < 0 ↔ a < 0) ∧ (0 < sm_l a ↔ 0 < a) ∧ (sm_l a ≤ 0 ↔ a ≤ 0) ∧ (0 ≤ sm_l a ↔ 0 ≤ a) ∧ (sm_l a = 0 ↔ a = 0) :=
  ⟨sm_llt (b := 0) h1 h2 (by omega) (by omega), sm_llt (a := 0) (by omega) (by omega) h1 h2, sm_lle (b := 0) h1 h2 (by omega) (by omega), sm_lle (a := 0) (by omega) (by omega) h1 h2, sm_leq (b := 0) h1 h2 (by omega) (by omega)⟩
theorem m_side (ax ay bx by_ cx cy : Int) (m : gk_M) : f_M_side (sm_l ax) (sm_l ay) (sm_l bx) (sm_l by_) (sm_l cx) (sm_l cy) m = some (sm_l (g_side ax ay bx by_ cx cy), m) := by
  unfold f_M_side g_side
  simp only [sm_l_add, sm_l_sub, sm_l_mul]
def sm_big (a : Int) : Prop := -4000000000000 ≤ a ∧ a ≤ 4000000000000
theorem m_btw {a v b : Int} (ha : sm_big a) (hv : sm_big v) (hb : sm_big b) (m : gk_M) : f_M_isBetween (sm_l a) (sm_l v) (sm_l b) m = some (sm_b2 (g_btw a v b), m) := by
  unfold sm_big at ha hv hb
  unfold f_M_isBetween g_btw
  simp only [sm_lle (a := b) (b := a) (by omega) (by omega) (by omega) (by omega), sm_llt (a := v) (b := b) (by omega) (by omega) (by omega) (by omega), sm_llt (a := a) (b := v) (by omega) (by omega) (by omega) (by omega), sm_llt (a := v) (b := a) (by omega) (by omega) (by omega) (by omega), sm_llt (a := b) (b := v) (by omega) (by omega) (by omega) (by omega)]
  by_cases h1 : b ≤ a
  · rw [if_pos h1]
    by_cases h2 : v < b
    · rw [if_pos h2, decide_eq_false (by omega)]; rfl
    · rw [if_neg h2]
      by_cases h3 : a < v
      · rw [if_pos h3, decide_eq_false (by omega)]; rfl
      · rw [if_neg h3, decide_eq_true (by omega)]; rfl
  · rw [if_neg h1]
    by_cases h2 : v < a
    · rw [if_pos h2, decide_eq_false (by omega)]; rfl
    · rw [if_neg h2]
      by_cases h3 : b < v
      · rw [if_pos h3, decide_eq_false (by omega)]; rfl
      · rw [if_neg h3, decide_eq_true (by omega)]; rfl
theorem m_unl {a b : Int} (ha : sm_big a) (hb : sm_big b) (m : gk_M) : f_M_areUnlike (sm_l a) (sm_l b) m = some (sm_b2 (g_unl a b), m) := by
  unfold sm_big at ha hb
  obtain ⟨a1, a2, a3, a4, a5⟩ := sm_l0 (a := a) (by omega) (by omega)
  obtain ⟨b1, b2, b3, b4, b5⟩ := sm_l0 (a := b) (by omega) (by omega)
  unfold f_M_areUnlike f_M_areUnlike_12 g_unl
  simp only [a3, a4, b2, b4]
  by_cases h1 : 0 ≤ a
  · rw [if_pos h1]
    by_cases h2 : a ≤ 0
    · rw [if_pos h2, decide_eq_false (by omega)]; rfl
    · rw [if_neg h2]
      by_cases h3 : 0 ≤ b
      · rw [if_pos h3, decide_eq_false (by omega)]; rfl
      · rw [if_neg h3, decide_eq_true (by omega)]; rfl
  · rw [if_neg h1]
    by_cases h2 : 0 < b
    · rw [if_pos h2, decide_eq_true (by omega)]; rfl
    · rw [if_neg h2, if_pos (by omega), decide_eq_false (by omega)]; rfl
theorem m_on0 {px py tx ty x y : Int} (h1 : sm_big px) (h2 : sm_big py) (h3 : sm_big tx) (h4 : sm_big ty) (h5 : sm_big x) (h6 : sm_big y) (hs : sm_big (g_side px py tx ty x y)) (m : gk_M) : f_M_liesOn_35 (sm_l px) (sm_l py) (sm_l tx) (sm_l ty) (sm_l x) (sm_l y) 0 m = some (sm_b2 (decide (g_side px py tx ty x y = 0) && g_btw px x tx && g_btw py y ty), m) := by
  unfold f_M_liesOn_35
  rw [if_neg (fun z => z rfl), m_side, sm_bl, m_btw h1 h5 h3, sm_bi, m_btw h2 h6 h4, sm_bi]
  unfold sm_big at hs
  have z := (sm_l0 (a := g_side px py tx ty x y) (by omega) (by omega)).2.2.2.2
  by_cases h : g_side px py tx ty x y = 0
  · rw [if_neg (fun y => y (z.mpr h)), decide_eq_true h, Bool.true_and]
    cases g_btw px x tx with
    | false => rfl
    | true =>
      rw [if_neg (show ¬ sm_b2 true = 0 by decide), Bool.true_and]
      cases g_btw py y ty <;> rfl
  · rw [if_pos (fun y => h (z.mp y)), decide_eq_false h]; rfl
theorem m_on {px py tx ty x y : Int} (h1 : sm_big px) (h2 : sm_big py) (h3 : sm_big tx) (h4 : sm_big ty) (h5 : sm_big x) (h6 : sm_big y) (hs : sm_big (g_side px py tx ty x y)) (m : gk_M) : f_M_liesOn (sm_l px) (sm_l py) (sm_l tx) (sm_l ty) (sm_l x) (sm_l y) m = some (sm_b2 (g_on px py tx ty x y), m) := by
  have e0 := m_on0 h1 h2 h3 h4 h5 h6 hs m
  have e1 : f_M_liesOn_35 (sm_l px) (sm_l py) (sm_l tx) (sm_l ty) (sm_l x) (sm_l y) 1 m = some (0, m) := by
    unfold f_M_liesOn_35
    rw [if_pos (by decide)]
  unfold sm_big at h1 h2 h3 h4 h5 h6
  have c1 := sm_leq (a := x) (b := px) (by omega) (by omega) (by omega) (by omega)
  have c2 := sm_leq (a := y) (b := py) (by omega) (by omega) (by omega) (by omega)
  have c3 := sm_leq (a := x) (b := tx) (by omega) (by omega) (by omega) (by omega)
  have c4 := sm_leq (a := y) (b := ty) (by omega) (by omega) (by omega) (by omega)
  unfold f_M_liesOn f_M_liesOn_14 f_M_liesOn_30 f_M_liesOn_34 g_on
  rw [e0, e1]
  have yes : ¬ (x = px ∧ y = py ∨ x = tx ∧ y = ty) → decide (¬ (x = px ∧ y = py ∨ x = tx ∧ y = ty) ∧ g_side px py tx ty x y = 0) = decide (g_side px py tx ty x y = 0) := by
    intro h
    by_cases z : g_side px py tx ty x y = 0
    · rw [decide_eq_true ⟨h, z⟩, decide_eq_true z]
    · rw [decide_eq_false (fun w => z w.2), decide_eq_false z]
  have no : (x = px ∧ y = py ∨ x = tx ∧ y = ty) → decide (¬ (x = px ∧ y = py ∨ x = tx ∧ y = ty) ∧ g_side px py tx ty x y = 0) = false := fun h => decide_eq_false (fun w => w.1 h)
  by_cases d1 : x = px
  · rw [if_neg (fun z => z (c1.mpr d1))]
    by_cases d2 : y = py
    · rw [if_pos (c2.mpr d2), no (Or.inl ⟨d1, d2⟩)]; rfl
    · rw [if_neg (fun z => d2 (c2.mp z))]
      by_cases d3 : x = tx
      · rw [if_neg (fun z => z (c3.mpr d3))]
        by_cases d4 : y = ty
        · rw [if_neg (fun z => z (c4.mpr d4)), no (Or.inr ⟨d3, d4⟩)]; rfl
        · rw [if_pos (fun z => d4 (c4.mp z)), yes (by omega)]
      · rw [if_pos (fun z => d3 (c3.mp z)), yes (by omega)]
  · rw [if_pos (fun z => d1 (c1.mp z))]
    by_cases d3 : x = tx
    · rw [if_neg (fun z => z (c3.mpr d3))]
      by_cases d4 : y = ty
      · rw [if_neg (fun z => z (c4.mpr d4)), no (Or.inr ⟨d3, d4⟩)]; rfl
      · rw [if_pos (fun z => d4 (c4.mp z)), yes (by omega)]
    · rw [if_pos (fun z => d3 (c3.mp z)), yes (by omega)]
theorem sm_lx (p : Nat) : (sm_n (p % 30)).toInt64 = sm_l (sm_cx p) := sm_wn (by omega)
theorem sm_ly {p : Nat} (h : p < 900) : (sm_n (p / 30)).toInt64 = sm_l (sm_cy p) := sm_wn (by omega)
/-- a side, of numbers that are small -/
theorem sm_sb {ax ay bx by_ cx cy : Int} (h1 : -600000 ≤ ax ∧ ax ≤ 600000) (h2 : -600000 ≤ ay ∧ ay ≤ 600000) (h3 : -600000 ≤ bx ∧ bx ≤ 600000) (h4 : -600000 ≤ by_ ∧ by_ ≤ 600000) (h5 : -600000 ≤ cx ∧ cx ≤ 600000) (h6 : -600000 ≤ cy ∧ cy ≤ 600000) : sm_big (g_side ax ay bx by_ cx cy) := by
  have m1 := sm_mb (A := 1200000) (B := 1200000) (a := bx - ax) (b := cy - ay) (by omega) (by omega)
  have m2 := sm_mb (A := 1200000) (B := 1200000) (a := by_ - ay) (b := cx - ax) (by omega) (by omega)
  unfold sm_big g_side
  omega
theorem sm_bg {a : Int} (h : -600000 ≤ a ∧ a ≤ 600000) : sm_big a := by unfold sm_big; omega
theorem m_stops {m : gk_M} {S : sm_fs} {f : Nat} {px py tx ty q : Int} (hS : sm_mS S m) (hf : f < S.1) (hr : sm_rg px py q) (hx : -600000 ≤ tx ∧ tx ≤ 600000) (hy : -600000 ≤ ty ∧ ty ≤ 600000) : f_M_stops (sm_n f) (sm_l px) (sm_l py) (sm_l tx) (sm_l ty) (sm_l q) m = some (sm_b2 (g_stop px py tx ty (sm_cx (S.2.1 f) * q) (sm_cy (S.2.1 f) * q) (sm_cx (S.2.2 f) * q) (sm_cy (S.2.2 f) * q)), m) := by
  obtain ⟨_, s2, s3⟩ := hS
  obtain ⟨f1, f2, f3, f4⟩ := s3 f hf
  obtain ⟨r1, r2, r3, r4, r5, r6⟩ := hr
  have kax := sm_cxb (S.2.1 f)
  have kay := sm_cyb f1
  have kbx := sm_cxb (S.2.2 f)
  have kby := sm_cyb f2
  have q1 := sm_mb (A := 29) (B := 4000) (a := sm_cx (S.2.1 f)) (b := q) (by omega) (by omega)
  have q2 := sm_mb (A := 29) (B := 4000) (a := sm_cy (S.2.1 f)) (b := q) (by omega) (by omega)
  have q3 := sm_mb (A := 29) (B := 4000) (a := sm_cx (S.2.2 f)) (b := q) (by omega) (by omega)
  have q4 := sm_mb (A := 29) (B := 4000) (a := sm_cy (S.2.2 f)) (b := q) (by omega) (by omega)
  unfold f_M_stops f_M_stops_207
  rw [show (2 : Int32) = sm_n 2 from rfl, show (1 : Int32) = sm_n 1 from rfl, sm_n_mul, sm_n_add, sm_ai (by omega) (by omega), sm_let, sm_ai (by omega) (by omega), sm_let, sm_ai (by omega) (by omega), sm_let, sm_ai (by omega) (by omega), sm_let, f3, f4, show (30 : Int32) = sm_n 30 from rfl, sm_n_rem (by omega) (by omega), sm_n_div (by omega) (by omega), sm_n_rem (by omega) (by omega), sm_n_div (by omega) (by omega), sm_lx, sm_ly f1, sm_lx, sm_ly f2, sm_l_mul, sm_l_mul, sm_l_mul, sm_l_mul]
  obtain ⟨ax, hax⟩ : ∃ v, v = sm_cx (S.2.1 f) * q := ⟨_, rfl⟩
  obtain ⟨ay, hay⟩ : ∃ v, v = sm_cy (S.2.1 f) * q := ⟨_, rfl⟩
  obtain ⟨bx, hbx⟩ : ∃ v, v = sm_cx (S.2.2 f) * q := ⟨_, rfl⟩
  obtain ⟨by_, hby⟩ : ∃ v, v = sm_cy (S.2.2 f) * q := ⟨_, rfl⟩
  rw [← hax, ← hay, ← hbx, ← hby]
  have p1 : -600000 ≤ px ∧ px ≤ 600000 := by omega
  have p2 : -600000 ≤ py ∧ py ≤ 600000 := by omega
  have a1 : -600000 ≤ ax ∧ ax ≤ 600000 := by omega
  have a2 : -600000 ≤ ay ∧ ay ≤ 600000 := by omega
  have b1 : -600000 ≤ bx ∧ bx ≤ 600000 := by omega
  have b2 : -600000 ≤ by_ ∧ by_ ≤ 600000 := by omega
  have sA := sm_sb p1 p2 hx hy a1 a2
  have sB := sm_sb p1 p2 hx hy b1 b2
  have sP := sm_sb a1 a2 b1 b2 p1 p2
  have sT := sm_sb a1 a2 b1 b2 hx hy
  clear q1 q2 q3 q4 hax hay hbx hby
  rw [m_on (sm_bg p1) (sm_bg p2) (sm_bg hx) (sm_bg hy) (sm_bg a1) (sm_bg a2) sA, sm_bi, m_on (sm_bg p1) (sm_bg p2) (sm_bg hx) (sm_bg hy) (sm_bg b1) (sm_bg b2) sB, sm_bi, m_side, sm_bl, m_side, sm_bl, m_unl sA sB, sm_bi, m_side, sm_bl, m_side, sm_bl, m_unl sP sT, sm_bi, m_btw (sm_bg a1) (sm_bg p1) (sm_bg b1), sm_bi, m_btw (sm_bg a2) (sm_bg p2) (sm_bg b2), sm_bi, m_btw (sm_bg a1) (sm_bg hx) (sm_bg b1), sm_bi, m_btw (sm_bg a2) (sm_bg hy) (sm_bg b2), sm_bi]
  unfold g_stop
  unfold sm_big at sA sB
  have zA := (sm_l0 (a := g_side px py tx ty ax ay) (by omega) (by omega)).2.2.2.2
  have zB := (sm_l0 (a := g_side px py tx ty bx by_) (by omega) (by omega)).2.2.2.2
  cases g_on px py tx ty ax ay with
  | true => rfl
  | false =>
    rw [if_neg (show ¬ ¬ sm_b2 false = 0 from fun z => z rfl), Bool.false_or]
    cases g_on px py tx ty bx by_ with
    | true => rfl
    | false =>
      rw [if_pos (show sm_b2 false = 0 from rfl), Bool.false_or]
      have un : (if sm_b2 (g_unl (g_side px py tx ty ax ay) (g_side px py tx ty bx by_)) = 0 then some ((0 : Int32), m) else if sm_b2 (g_unl (g_side ax ay bx by_ px py) (g_side ax ay bx by_ tx ty)) = 0 then some (0, m) else some (sm_n 1, m)) = some (sm_b2 (g_unl (g_side px py tx ty ax ay) (g_side px py tx ty bx by_) && g_unl (g_side ax ay bx by_ px py) (g_side ax ay bx by_ tx ty)), m) := by
        cases g_unl (g_side px py tx ty ax ay) (g_side px py tx ty bx by_) <;> cases g_unl (g_side ax ay bx by_ px py) (g_side ax ay bx by_ tx ty) <;> rfl
      rw [un]
      by_cases hA : g_side px py tx ty ax ay = 0
      · rw [if_neg (show ¬ ¬ sm_l (g_side px py tx ty ax ay) = 0 from fun z => z (zA.mpr hA))]
        by_cases hB : g_side px py tx ty bx by_ = 0
        · rw [if_neg (show ¬ ¬ sm_l (g_side px py tx ty bx by_) = 0 from fun z => z (zB.mpr hB)), if_pos (show g_side px py tx ty ax ay = 0 ∧ g_side px py tx ty bx by_ = 0 from ⟨hA, hB⟩)]
          cases g_btw ax px bx <;> cases g_btw ay py by_ <;> cases g_btw ax tx bx <;> cases g_btw ay ty by_ <;> rfl
        · rw [if_pos (show ¬ sm_l (g_side px py tx ty bx by_) = 0 from fun z => hB (zB.mp z)), if_neg (show ¬ (g_side px py tx ty ax ay = 0 ∧ g_side px py tx ty bx by_ = 0) from fun z => hB z.2)]
      · rw [if_pos (show ¬ sm_l (g_side px py tx ty ax ay) = 0 from fun z => hA (zA.mp z)), if_neg (show ¬ (g_side px py tx ty ax ay = 0 ∧ g_side px py tx ty bx by_ = 0) from fun z => hA z.1)]
theorem sm_cq {p : Nat} {q : Int} (hp : p < 900) (h1 : 0 < q) (h2 : q ≤ 4000) : (-600000 ≤ sm_cx p * q ∧ sm_cx p * q ≤ 600000) ∧ (-600000 ≤ sm_cy p * q ∧ sm_cy p * q ≤ 600000) := by
  have k1 := sm_cxb p
  have k2 := sm_cyb hp
  have q1 := sm_mb (A := 29) (B := 4000) (a := sm_cx p) (b := q) (by omega) (by omega)
  have q2 := sm_mb (A := 29) (B := 4000) (a := sm_cy p) (b := q) (by omega) (by omega)
  omega
theorem m_isStopped_3 {m : gk_M} {S : sm_fs} {t p : Nat} {px py q : Int} (hS : sm_mS S m) (ht : t < 20) (h5 : m.1 5 t = sm_n p) (hp : p < 900) (hr : sm_rg px py q) : ∀ l i fu, i + l = S.1 → l < fu → f_M_isStopped_3 fu (sm_l px) (sm_l py) (sm_l q) (sm_n t) (sm_n i) m = some (sm_b2 (sm_any l i (fun f => g_stop px py (sm_cx p * q) (sm_cy p * q) (sm_cx (S.2.1 f) * q) (sm_cy (S.2.1 f) * q) (sm_cx (S.2.2 f) * q) (sm_cy (S.2.2 f) * q))), m)
  | 0, i, fu + 1, hi, _ => by
    have := hS.2.1
    unfold f_M_isStopped_3
    rw [hS.1, if_pos (by simp (disch := omega) only [sm_lit, sm_nlt, sm_nle, sm_neq, sm_n_add, sm_n_mul, sm_n_div, sm_n_rem, sm_bi, sm_bl, sm_bv, sm_let, sm_zz0, sm_zz1, sm_ai, sm_si, sm_al, sm_sl, sm_ar, sm_mi1, sm_mi0, sm_ml1, sm_ml0, sm_mil, sm_mli]; omega)]
    rfl
  | l + 1, i, fu + 1, hi, hf => by
    have := hS.2.1
    obtain ⟨c1, c2⟩ := sm_cq hp hr.2.2.2.2.1 hr.2.2.2.2.2
    unfold f_M_isStopped_3
    rw [hS.1, if_neg (by simp (disch := omega) only [sm_lit, sm_nlt, sm_nle, sm_neq, sm_n_add, sm_n_mul, sm_n_div, sm_n_rem, sm_bi, sm_bl, sm_bv, sm_let, sm_zz0, sm_zz1, sm_ai, sm_si, sm_al, sm_sl, sm_ar, sm_mi1, sm_mi0, sm_ml1, sm_ml0, sm_mil, sm_mli]; omega), sm_ai ht (by omega), sm_ai ht (by omega), h5, show (30 : Int32) = sm_n 30 from rfl, sm_n_rem (by omega) (by omega), sm_n_div (by omega) (by omega), sm_lx, sm_ly hp, sm_l_mul, sm_l_mul, m_stops hS (by omega) hr c1 c2, sm_bi, show sm_n i + 1 = sm_n (i + 1) from sm_n_add i 1]
    cases hc : g_stop px py (sm_cx p * q) (sm_cy p * q) (sm_cx (S.2.1 i) * q) (sm_cy (S.2.1 i) * q) (sm_cx (S.2.2 i) * q) (sm_cy (S.2.2 i) * q) with
    | false =>
      rw [if_pos (show sm_b2 false = 0 from rfl), m_isStopped_3 hS ht h5 hp hr l (i + 1) fu (by omega) (by omega)]
      simp only [sm_any, hc, Bool.false_or]
    | true =>
      rw [if_neg (by decide)]
      simp only [sm_any, hc, Bool.true_or]
      rfl
theorem m_isStopped {m : gk_M} {S : sm_fs} {t p : Nat} {px py q : Int} (hS : sm_mS S m) (ht : t < 20) (h5 : m.1 5 t = sm_n p) (hp : p < 900) (hr : sm_rg px py q) : f_M_isStopped (sm_l px) (sm_l py) (sm_l q) (sm_n t) m = some (sm_b2 (sm_gst S px py q p), m) := by
  have := hS.2.1
  exact m_isStopped_3 hS ht h5 hp hr S.1 0 gk_fv (by omega) (by rw [gk_fv_eq]; omega)
theorem m_isBehind {m : gk_M} {t u p r : Nat} {px py q : Int} (ht : t < 20) (hu : u < 20) (h5 : m.1 5 t = sm_n p) (h6 : m.1 5 u = sm_n r) (hp : p < 900) (hr' : r < 900) (hr : sm_rg px py q) : f_M_isBehind (sm_l px) (sm_l py) (sm_l q) (sm_n t) (sm_n u) m = some (sm_b2 (sm_bh px py q p r), m) := by
  obtain ⟨c1, c2⟩ := sm_cq hp hr.2.2.2.2.1 hr.2.2.2.2.2
  obtain ⟨c3, c4⟩ := sm_cq hr' hr.2.2.2.2.1 hr.2.2.2.2.2
  obtain ⟨r1, r2, r3, r4, r5, r6⟩ := hr
  unfold f_M_isBehind sm_bh g_beh
  rw [sm_ai ht (by omega), sm_let, sm_ai ht (by omega), sm_let, sm_ai hu (by omega), sm_let, sm_ai hu (by omega), sm_let, h5, h6, show (30 : Int32) = sm_n 30 from rfl, sm_n_rem (by omega) (by omega), sm_n_div (by omega) (by omega), sm_n_rem (by omega) (by omega), sm_n_div (by omega) (by omega), sm_lx, sm_ly hp, sm_lx, sm_ly hr']
  simp only [sm_l_mul, sm_l_sub, sm_l_add]
  have m1 := sm_mb (A := 800000) (B := 800000) (a := sm_cx p * q - px) (b := sm_cy r * q - py) (by omega) (by omega)
  have m2 := sm_mb (A := 800000) (B := 800000) (a := sm_cy p * q - py) (b := sm_cx r * q - px) (by omega) (by omega)
  have m3 := sm_mb (A := 800000) (B := 800000) (a := sm_cx p * q - px) (b := sm_cx r * q - px) (by omega) (by omega)
  have m4 := sm_mb (A := 800000) (B := 800000) (a := sm_cy p * q - py) (b := sm_cy r * q - py) (by omega) (by omega)
  have z1 := (sm_l0 (a := (sm_cx p * q - px) * (sm_cy r * q - py) - (sm_cy p * q - py) * (sm_cx r * q - px)) (by omega) (by omega)).2.2.2.2
  have z2 := (sm_l0 (a := (sm_cx p * q - px) * (sm_cx r * q - px) + (sm_cy p * q - py) * (sm_cy r * q - py)) (by omega) (by omega)).2.2.1
  by_cases h1 : (sm_cx p * q - px) * (sm_cy r * q - py) - (sm_cy p * q - py) * (sm_cx r * q - px) = 0
  · rw [if_neg (fun y => y (z1.mpr h1))]
    by_cases h2 : (sm_cx p * q - px) * (sm_cx r * q - px) + (sm_cy p * q - py) * (sm_cy r * q - py) ≤ 0
    · rw [if_pos (z2.mpr h2), decide_eq_false (by omega)]; rfl
    · rw [if_neg (fun y => h2 (z2.mp y)), decide_eq_true (by omega)]; rfl
  · rw [if_pos (fun y => h1 (z1.mp y)), decide_eq_false (fun w => h1 w.1)]; rfl
theorem m_farOf {m : gk_M} {t p : Nat} {px py q : Int} (ht : t < 20) (h5 : m.1 5 t = sm_n p) (hp : p < 900) : f_M_farOf (sm_l px) (sm_l py) (sm_l q) (sm_n t) m = some (sm_l (sm_fr px py q p), m) := by
  unfold f_M_farOf sm_fr g_far
  rw [sm_ai ht (by omega), sm_let, sm_ai ht (by omega), sm_let, h5, show (30 : Int32) = sm_n 30 from rfl, sm_n_rem (by omega) (by omega), sm_n_div (by omega) (by omega), sm_lx, sm_ly hp]
  simp only [sm_l_mul, sm_l_sub, sm_l_add]
theorem sm_frb {p : Nat} {px py q : Int} (hp : p < 900) (hr : sm_rg px py q) : 0 ≤ sm_fr px py q p ∧ sm_fr px py q p ≤ 4000000000000 := by
  obtain ⟨c1, c2⟩ := sm_cq hp hr.2.2.2.2.1 hr.2.2.2.2.2
  obtain ⟨r1, r2, r3, r4, r5, r6⟩ := hr
  have m1 := sm_mb (A := 800000) (B := 800000) (a := sm_cx p * q - px) (b := sm_cx p * q - px) (by omega) (by omega)
  have m2 := sm_mb (A := 800000) (B := 800000) (a := sm_cy p * q - py) (b := sm_cy p * q - py) (by omega) (by omega)
  have p1 : ∀ a : Int, 0 ≤ a * a := by
    intro a
    rcases Int.lt_trichotomy a 0 with h | h | h
    · exact Int.le_of_lt (g_sq (by omega))
    · rw [h]; decide
    · exact Int.le_of_lt (g_sq (by omega))
  have n1 := p1 (sm_cx p * q - px)
  have n2 := p1 (sm_cy p * q - py)
  unfold sm_fr g_far
  omega
/-- the memory after questions -/
def sm_p (n : Nat) (T : Nat → sm_tw) (R : sm_rd) (S : sm_fs) (F : sm_lf) (m0 m : gk_M) : Prop := sm_M n T R S F m ∧ (∀ k j, k ≠ 13 → ¬ (k = 0 ∧ 19 ≤ j ∧ j ≤ 23) → m.1 k j = m0.1 k j) ∧ (∀ k j, ¬ (k = 0 ∧ (j = 25 ∨ j = 26)) → m.2 k j = m0.2 k j)
theorem sm_p0 {n : Nat} {T : Nat → sm_tw} {R : sm_rd} {S : sm_fs} {F : sm_lf} {m : gk_M} (h : sm_M n T R S F m) : sm_p n T R S F m m := ⟨h, fun _ _ _ _ => rfl, fun _ _ _ => rfl⟩
section MQ_
variable {n : Nat} {T : Nat → sm_tw} {R : sm_rd} {S : sm_fs} {F : sm_lf} {m0 m : gk_M}
theorem m_heightOf (hm : sm_M n T R S F m) {t : Nat} (ht : t < 20) : f_M_heightOf (sm_n t) m = some ((T t).2.1, m) := by
  obtain ⟨y1, y2, y3, _⟩ := hm
  obtain ⟨_, _, c, _⟩ := y3 t ht
  unfold f_M_heightOf
  rw [y1]
  by_cases h : n ≤ t
  · rw [if_pos (by simp (disch := omega) only [sm_lit, sm_nlt, sm_nle, sm_neq, sm_n_add, sm_n_mul, sm_n_div, sm_n_rem, sm_bi, sm_bl, sm_bv, sm_let, sm_zz0, sm_zz1, sm_ai, sm_si, sm_al, sm_sl, sm_ar, sm_mi1, sm_mi0, sm_ml1, sm_ml0, sm_mil, sm_mli]; exact h), sm_ai ht (by omega), ← c, if_neg (by omega)]
  · rw [if_neg (by simp (disch := omega) only [sm_lit, sm_nlt, sm_nle, sm_neq, sm_n_add, sm_n_mul, sm_n_div, sm_n_rem, sm_bi, sm_bl, sm_bv, sm_let, sm_zz0, sm_zz1, sm_ai, sm_si, sm_al, sm_sl, sm_ar, sm_mi1, sm_mi0, sm_ml1, sm_ml0, sm_mil, sm_mli]; exact h), sm_ai (by omega) (by omega), ← c, if_pos (by omega)]
theorem m_oldOf (hm : sm_M n T R S F m) {t : Nat} (ht : t < 20) : f_M_oldOf (sm_n t) m = some ((T t).2.2.1, m) := by
  obtain ⟨y1, y2, y3, _⟩ := hm
  obtain ⟨_, _, _, c, _⟩ := y3 t ht
  unfold f_M_oldOf
  rw [y1]
  by_cases h : n ≤ t
  · rw [if_pos (by simp (disch := omega) only [sm_lit, sm_nlt, sm_nle, sm_neq, sm_n_add, sm_n_mul, sm_n_div, sm_n_rem, sm_bi, sm_bl, sm_bv, sm_let, sm_zz0, sm_zz1, sm_ai, sm_si, sm_al, sm_sl, sm_ar, sm_mi1, sm_mi0, sm_ml1, sm_ml0, sm_mil, sm_mli]; exact h), ← c, if_neg (by omega)]
  · rw [if_neg (by simp (disch := omega) only [sm_lit, sm_nlt, sm_nle, sm_neq, sm_n_add, sm_n_mul, sm_n_div, sm_n_rem, sm_bi, sm_bl, sm_bv, sm_let, sm_zz0, sm_zz1, sm_ai, sm_si, sm_al, sm_sl, sm_ar, sm_mi1, sm_mi0, sm_ml1, sm_ml0, sm_mil, sm_mli]; exact h), show (20 : Int32) = sm_n 20 from rfl, sm_n_add, sm_ai (by omega) (by omega), ← c, if_pos (by omega)]
/-- names do not matter to what is known -/
theorem sm_M13 (h : sm_p n T R S F m0 m) (j : Nat) (v : Int32) : sm_p n T R S F m0 (gk_mi m 13 j v) := by
  obtain ⟨h1, h2, h3⟩ := h
  refine ⟨sm_M_fr (by intro k j h; unfold sm_fM at h; simp (disch := omega) only [sm_mi0, sm_mil, sm_mli]) h1, ?_, h3⟩
  intro k i hk hi
  rw [sm_mi0 (by omega)]
  exact h2 k i hk hi
theorem m_counts (hp : sm_p n T R S F m0 m) {k s t : Nat} (hk : k < 5) (hs : s < 20) (ht : t < 20) : sm_ok (f_M_counts (sm_n s) (sm_n t) (sm_n k) m) (sm_b2 (sm_cnt F (T s) (T t) k)) (fun m' => sm_p n T R S F m0 m' ∧ m'.2 = m.2) := by
  obtain ⟨⟨y1, y2, y3, y4, y5, y6⟩, hf, hl⟩ := id hp
  unfold f_M_counts f_M_counts_109 f_M_counts_145
  rcases y6 with ⟨a, b⟩ | ⟨L, a, b, c⟩
  · rw [a, if_neg (by decide), m_heightOf hp.1 ht, sm_bi, m_heightOf hp.1 hs, sm_bi]
    have e : sm_cnt F (T s) (T t) k = decide (¬ ((T s).2.1 + 3 < (T t).2.1)) := by
      unfold sm_cnt
      rw [b]
      rfl
    rw [e]
    by_cases h : (T s).2.1 + 3 < (T t).2.1
    · rw [if_pos h, decide_eq_false (fun z => z h)]; exact sm_okr ⟨hp, rfl⟩
    · rw [if_neg h, decide_eq_true h]; exact sm_okr ⟨hp, rfl⟩
  · have M1 := sm_M13 hp 0 (T s).2.1
    have M2 := sm_M13 M1 1 (T t).2.1
    have M3 := sm_M13 M2 2 ((T s).2.2.1 + (T t).2.2.1)
    have M4 := sm_M13 M3 3 (sm_n k)
    have S6 := (y3 s hs).2.2.2.2
    have T6 := (y3 t ht).2.2.2.2
    rw [b, if_pos (sm_nn' (by omega)), m_heightOf hp.1 hs, sm_bi, show (0 : Int32) = sm_n 0 from rfl, sm_si (by omega) (by omega), m_heightOf M1.1 ht, sm_bi, show (1 : Int32) = sm_n 1 from rfl, sm_si (by omega) (by omega), m_oldOf M2.1 hs, sm_bi, m_oldOf M2.1 ht, sm_bi, show (2 : Int32) = sm_n 2 from rfl, sm_si (by omega) (by omega), show (3 : Int32) = sm_n 3 from rfl, sm_si (by omega) (by omega), sm_ai (by omega) (by omega), sm_ai (by omega) (by omega)]
    obtain ⟨M, hM⟩ : ∃ M, M = gk_mi (gk_mi (gk_mi (gk_mi m 13 0 (T s).2.1) 13 1 (T t).2.1) 13 2 ((T s).2.2.1 + (T t).2.2.1)) 13 3 (sm_n k) := ⟨_, rfl⟩
    rw [← hM] at M4 ⊢
    have ns : M.1 6 s = sm_n (T s).2.2.2 := by rw [hM]; simp (disch := omega) only [sm_mi1, sm_mi0, sm_ml1, sm_ml0, sm_mil, sm_mli]; exact S6.1
    have nt : M.1 6 t = sm_n (T t).2.2.2 := by rw [hM]; simp (disch := omega) only [sm_mi1, sm_mi0, sm_ml1, sm_ml0, sm_mil, sm_mli]; exact T6.1
    have e0 : M.1 13 0 = (T s).2.1 := by rw [hM]; simp (disch := omega) only [sm_mi1, sm_mi0, sm_ml1, sm_ml0, sm_mil, sm_mli]
    have e1 : M.1 13 1 = (T t).2.1 := by rw [hM]; simp (disch := omega) only [sm_mi1, sm_mi0, sm_ml1, sm_ml0, sm_mil, sm_mli]
    have e2 : M.1 13 2 = (T s).2.2.1 + (T t).2.2.1 := by rw [hM]; simp (disch := omega) only [sm_mi1, sm_mi0, sm_ml1, sm_ml0, sm_mil, sm_mli]
    have e3 : M.1 13 3 = sm_n k := by rw [hM]; simp (disch := omega) only [sm_mi1, sm_mi0, sm_ml1, sm_ml0, sm_mil, sm_mli]
    have e18 : M.1 0 18 = sm_n L := by rw [hM]; simp (disch := omega) only [sm_mi1, sm_mi0, sm_ml1, sm_ml0, sm_mil, sm_mli]; exact b
    have e12 : ∀ j, M.1 12 j = m.1 12 j := by intro j; rw [hM]; simp (disch := omega) only [sm_mi1, sm_mi0, sm_ml1, sm_ml0, sm_mil, sm_mli]
    have b6 := S6.2
    have b7 := T6.2
    have run : ∀ (w4 w5 : Nat), w4 = min (T s).2.2.2 (T t).2.2.2 → w5 = max (T s).2.2.2 (T t).2.2.2 → sm_ok (gk_bi (f_M_workOut 0 (sm_n L) (gk_mi (gk_mi M 13 4 (sm_n w4)) 13 5 (sm_n w5))) fun v3 m2 => if v3 = 0 then some ((0 : Int32), m2) else some (1, m2)) (sm_b2 (sm_cnt F (T s) (T t) k)) (fun m' => sm_p n T R S F m0 m' ∧ m'.2 = m.2) := by
      intro w4 w5 h4 h5
      have M6 := sm_M13 (sm_M13 M4 4 (sm_n w4)) 5 (sm_n w5)
      obtain ⟨v, m2, g1, g2, g3, g4, g5⟩ := c (gk_mi (gk_mi M 13 4 (sm_n w4)) 13 5 (sm_n w5)) (funext fun j => by rw [sm_mi0 (by omega), sm_mi0 (by omega)]; exact e12 j)
      have g2 : v = 0 ↔ sm_cnt F (T s) (T t) k = false := by
        unfold sm_cnt
        rw [g2, ← h4, ← h5]
        rw [show (gk_mi (gk_mi M 13 4 (sm_n w4)) 13 5 (sm_n w5)).1 13 0 = (T s).2.1 by simp (disch := omega) only [sm_mi1, sm_mi0, sm_ml1, sm_ml0, sm_mil, sm_mli]; exact e0, show (gk_mi (gk_mi M 13 4 (sm_n w4)) 13 5 (sm_n w5)).1 13 1 = (T t).2.1 by simp (disch := omega) only [sm_mi1, sm_mi0, sm_ml1, sm_ml0, sm_mil, sm_mli]; exact e1, show (gk_mi (gk_mi M 13 4 (sm_n w4)) 13 5 (sm_n w5)).1 13 2 = (T s).2.2.1 + (T t).2.2.1 by simp (disch := omega) only [sm_mi1, sm_mi0, sm_ml1, sm_ml0, sm_mil, sm_mli]; exact e2, show (gk_mi (gk_mi M 13 4 (sm_n w4)) 13 5 (sm_n w5)).1 13 3 = sm_n k by simp (disch := omega) only [sm_mi1, sm_mi0, sm_ml1, sm_ml0, sm_mil, sm_mli]; exact e3, show (gk_mi (gk_mi M 13 4 (sm_n w4)) 13 5 (sm_n w5)).1 13 4 = sm_n w4 by simp (disch := omega) only [sm_mi1, sm_mi0, sm_ml1, sm_ml0, sm_mil, sm_mli], show (gk_mi (gk_mi M 13 4 (sm_n w4)) 13 5 (sm_n w5)).1 13 5 = sm_n w5 by simp (disch := omega) only [sm_mi1, sm_mi0, sm_ml1, sm_ml0, sm_mil, sm_mli]]
      have M7 : sm_p n T R S F m0 m2 ∧ m2.2 = m.2 := by
        refine ⟨⟨sm_M_fr ?_ M6.1, ?_, ?_⟩, by rw [g5, sm_mil, sm_mil, hM]; rfl⟩
        · intro a b hab
          unfold sm_fM at hab
          by_cases z : a = 0
          · subst z; exact g4 b (by omega)
          · rw [g3 a z]
        · intro a b h1 h2
          rw [← M6.2.1 a b h1 h2]
          by_cases z : a = 0
          · subst z; exact g4 b (by omega)
          · rw [g3 a z]
        · rw [g5]; exact M6.2.2
      rw [g1, sm_bi]
      by_cases hv : v = 0
      · rw [if_pos hv, g2.mp hv]; exact sm_okr M7
      · rw [if_neg hv]
        cases hc : sm_cnt F (T s) (T t) k with
        | true => exact sm_okr M7
        | false => exact absurd (g2.mpr hc) hv
    rw [ns, nt]
    by_cases h : (T t).2.2.2 ≤ (T s).2.2.2
    · rw [if_pos (by simp (disch := omega) only [sm_lit, sm_nlt, sm_nle, sm_neq, sm_n_add, sm_n_mul, sm_n_div, sm_n_rem, sm_bi, sm_bl, sm_bv, sm_let, sm_zz0, sm_zz1, sm_ai, sm_si, sm_al, sm_sl, sm_ar, sm_mi1, sm_mi0, sm_ml1, sm_ml0, sm_mil, sm_mli]; exact h), sm_ai (by omega) (by omega), nt, show (4 : Int32) = sm_n 4 from rfl, sm_si (by omega) (by omega), sm_ai (by omega) (by omega), sm_ai (by omega) (by omega), sm_mi0 (by omega), sm_mi0 (by omega), ns, nt, if_pos (by simp (disch := omega) only [sm_lit, sm_nlt, sm_nle, sm_neq, sm_n_add, sm_n_mul, sm_n_div, sm_n_rem, sm_bi, sm_bl, sm_bv, sm_let, sm_zz0, sm_zz1, sm_ai, sm_si, sm_al, sm_sl, sm_ar, sm_mi1, sm_mi0, sm_ml1, sm_ml0, sm_mil, sm_mli]; exact h), sm_ai (by omega) (by omega), sm_mi0 (by omega), ns, show (5 : Int32) = sm_n 5 from rfl, sm_si (by omega) (by omega)]
      rw [show (gk_mi (gk_mi M 13 4 (sm_n (T t).2.2.2)) 13 5 (sm_n (T s).2.2.2)).1 0 18 = sm_n L by simp (disch := omega) only [sm_mi1, sm_mi0, sm_ml1, sm_ml0, sm_mil, sm_mli]; exact e18]
      exact run _ _ (by omega) (by omega)
    · rw [if_neg (by simp (disch := omega) only [sm_lit, sm_nlt, sm_nle, sm_neq, sm_n_add, sm_n_mul, sm_n_div, sm_n_rem, sm_bi, sm_bl, sm_bv, sm_let, sm_zz0, sm_zz1, sm_ai, sm_si, sm_al, sm_sl, sm_ar, sm_mi1, sm_mi0, sm_ml1, sm_ml0, sm_mil, sm_mli]; exact h), sm_ai (by omega) (by omega), ns, show (4 : Int32) = sm_n 4 from rfl, sm_si (by omega) (by omega), sm_ai (by omega) (by omega), sm_ai (by omega) (by omega), sm_mi0 (by omega), sm_mi0 (by omega), ns, nt, if_neg (by simp (disch := omega) only [sm_lit, sm_nlt, sm_nle, sm_neq, sm_n_add, sm_n_mul, sm_n_div, sm_n_rem, sm_bi, sm_bl, sm_bv, sm_let, sm_zz0, sm_zz1, sm_ai, sm_si, sm_al, sm_sl, sm_ar, sm_mi1, sm_mi0, sm_ml1, sm_ml0, sm_mil, sm_mli]; exact h), sm_ai (by omega) (by omega), sm_mi0 (by omega), nt, show (5 : Int32) = sm_n 5 from rfl, sm_si (by omega) (by omega)]
      rw [show (gk_mi (gk_mi M 13 4 (sm_n (T s).2.2.2)) 13 5 (sm_n (T t).2.2.2)).1 0 18 = sm_n L by simp (disch := omega) only [sm_mi1, sm_mi0, sm_ml1, sm_ml0, sm_mil, sm_mli]; exact e18]
      exact run _ _ (by omega) (by omega)
theorem m_inLine (hp : sm_p n T R S F m0 m) {k t u : Nat} (hk : k < 5) (ht : t < 20) (hu : u < 20) {px py q : Int} (hr : sm_rg px py q) : sm_ok (f_M_inLine (sm_l px) (sm_l py) (sm_l q) (sm_n t) (sm_n u) (sm_n k) m) (sm_b2 (sm_inl S F (T t) (T u) k px py q)) (fun m' => sm_p n T R S F m0 m' ∧ m'.2 = m.2) := by
  have X := hp.1.2.2.1 t ht
  have Y := hp.1.2.2.1 u hu
  have hS := hp.1.2.2.2.2.1
  unfold f_M_inLine sm_inl
  rw [m_isBehind ht hu X.2.1 Y.2.1 X.1 Y.1 hr, sm_bi, m_isStopped hS ht X.2.1 X.1 hr, sm_bi, m_isStopped hS hu Y.2.1 Y.1 hr, sm_bi, m_farOf ht X.2.1 X.1, sm_bl, m_farOf hu Y.2.1 Y.1, sm_bl]
  cases sm_bh px py q (T t).1 (T u).1 with
  | false => rw [if_pos (show sm_b2 false = 0 from rfl), Bool.false_and]; exact sm_okr ⟨hp, rfl⟩
  | true =>
    rw [if_neg (show ¬ sm_b2 true = 0 by decide)]
    cases sm_gst S px py q (T t).1 with
    | true => rw [if_pos (show ¬ sm_b2 true = 0 by decide)]; exact sm_okr ⟨hp, rfl⟩
    | false =>
      rw [if_neg (show ¬ ¬ sm_b2 false = 0 from fun z => z rfl)]
      cases sm_gst S px py q (T u).1 with
      | true => rw [if_neg (show ¬ sm_b2 true = 0 by decide)]; exact sm_okr ⟨hp, rfl⟩
      | false =>
        rw [if_pos (show sm_b2 false = 0 from rfl)]
        simp only [Bool.not_false, Bool.and_true, Bool.true_and]
        have f1 := sm_frb (p := (T t).1) X.1 hr
        have f2 := sm_frb (p := (T u).1) Y.1 hr
        unfold f_M_inLine_72 f_M_inLine_87 f_M_inLine_99
        by_cases h : sm_fr px py q (T t).1 < sm_fr px py q (T u).1
        · rw [if_neg (by rw [sm_lle (by omega) (by omega) (by omega) (by omega)]; omega), if_neg (by decide), if_neg (by decide), if_pos h]
          exact sm_okb (m_counts hp hk ht hu) (fun m1 h1 => by rw [sm_zzb]; exact sm_okr h1)
        · rw [if_pos (by rw [sm_lle (by omega) (by omega) (by omega) (by omega)]; omega), if_pos rfl, if_pos rfl, if_neg h]
          exact sm_okb (m_counts hp hk hu ht) (fun m1 h1 => by rw [sm_zzb]; exact sm_okr h1)
theorem m_inLineAt (hp : sm_p n T R S F m0 m) {k t u p : Nat} (hk : k < 5) (ht : t < 20) (hu : u < 20) (hpp : p < 900) : sm_ok (f_M_inLineAt (sm_n p) (sm_n t) (sm_n u) (sm_n k) m) (sm_b2 (sm_at_ S F (T t) (T u) k p)) (fun m' => sm_p n T R S F m0 m' ∧ m'.2 = m.2) := by
  have k5 := sm_cxb p
  have k6 := sm_cyb hpp
  unfold f_M_inLineAt
  rw [show (30 : Int32) = sm_n 30 from rfl, sm_n_rem (by omega) (by omega), sm_n_div (by omega) (by omega), sm_lx, sm_ly hpp, show (1 : Int64) = sm_l 1 from rfl]
  exact sm_okb (m_inLine hp hk ht hu (by unfold sm_rg; omega)) (fun m1 h1 => by rw [sm_zzb]; exact sm_okr h1)
end MQ_
