/-! SIM: the law's text walked by the reference -/
def sl_MS (t : Nat → Nat) (L : Nat) (m : gk_M) : Prop := ((m.1 0 19 = -1 ∧ ∀ i, i < L → m.1 11 i = sm_n (t i)) ∨ (m.1 0 19 = 0 ∧ ∀ i, i < L → m.1 12 i = sm_n (t i))) ∧ m.1 0 21 = sm_n L ∧ L ≤ 120 ∧ ∀ i, i < L → t i < 256
def sl_mn (c : Nat) : Int32 := if sl_nm c < 6 then sm_n (sl_nm c) else -1
theorem m_nmv {c : Nat} (h8 : c < 256) (m : gk_M) : f_M_nameOf (sm_n c) m = some (sl_mn c, m) := by
  have h : sl_va (sm_n c) c := ⟨h8, Or.inl rfl⟩
  unfold f_M_nameOf
  have e97 : sm_n c = 97 ↔ c = 97 := sl_va_eq (s := 97) h (by decide) (by decide)
  have e98 : sm_n c = 98 ↔ c = 98 := sl_va_eq (s := 98) h (by decide) (by decide)
  have e99 : sm_n c = 99 ↔ c = 99 := sl_va_eq (s := 99) h (by decide) (by decide)
  have e100 : sm_n c = 100 ↔ c = 100 := sl_va_eq (s := 100) h (by decide) (by decide)
  have e101 : sm_n c = 101 ↔ c = 101 := sl_va_eq (s := 101) h (by decide) (by decide)
  have e102 : sm_n c = 102 ↔ c = 102 := sl_va_eq (s := 102) h (by decide) (by decide)
  have e103 : sm_n c = 103 ↔ c = 103 := sl_va_eq (s := 103) h (by decide) (by decide)
  have e104 : sm_n c = 104 ↔ c = 104 := sl_va_eq (s := 104) h (by decide) (by decide)
  have e105 : sm_n c = 105 ↔ c = 105 := sl_va_eq (s := 105) h (by decide) (by decide)
  have e106 : sm_n c = 106 ↔ c = 106 := sl_va_eq (s := 106) h (by decide) (by decide)
  have e107 : sm_n c = 107 ↔ c = 107 := sl_va_eq (s := 107) h (by decide) (by decide)
  have e108 : sm_n c = 108 ↔ c = 108 := sl_va_eq (s := 108) h (by decide) (by decide)
  have e109 : sm_n c = 109 ↔ c = 109 := sl_va_eq (s := 109) h (by decide) (by decide)
  have e110 : sm_n c = 110 ↔ c = 110 := sl_va_eq (s := 110) h (by decide) (by decide)
  have e111 : sm_n c = 111 ↔ c = 111 := sl_va_eq (s := 111) h (by decide) (by decide)
  simp only [e97, e98, e99, e100, e101, e102, e103, e104, e105, e106, e107, e108, e109, e110, e111]
  by_cases h97 : c = 97
  · rw [if_pos h97, h97]; rfl
  by_cases h98 : c = 98
  · rw [if_neg h97, if_pos h98, h98]; rfl
  by_cases h99 : c = 99
  · rw [if_neg h97, if_neg h98, if_pos h99, h99]; rfl
  by_cases h100 : c = 100
  · rw [if_neg h97, if_neg h98, if_neg h99, if_pos h100, h100]; rfl
  by_cases h101 : c = 101
  · rw [if_neg h97, if_neg h98, if_neg h99, if_neg h100, if_pos h101, h101]; rfl
  by_cases h102 : c = 102
  · rw [if_neg h97, if_neg h98, if_neg h99, if_neg h100, if_neg h101, if_pos h102, h102]; rfl
  by_cases h103 : c = 103
  · rw [if_neg h97, if_neg h98, if_neg h99, if_neg h100, if_neg h101, if_neg h102, if_pos h103, h103]; rfl
  by_cases h104 : c = 104
  · rw [if_neg h97, if_neg h98, if_neg h99, if_neg h100, if_neg h101, if_neg h102, if_neg h103, if_pos h104, h104]; rfl
  by_cases h105 : c = 105
  · rw [if_neg h97, if_neg h98, if_neg h99, if_neg h100, if_neg h101, if_neg h102, if_neg h103, if_neg h104, if_pos h105, h105]; rfl
  by_cases h106 : c = 106
  · rw [if_neg h97, if_neg h98, if_neg h99, if_neg h100, if_neg h101, if_neg h102, if_neg h103, if_neg h104, if_neg h105, if_pos h106, h106]; rfl
  by_cases h107 : c = 107
  · rw [if_neg h97, if_neg h98, if_neg h99, if_neg h100, if_neg h101, if_neg h102, if_neg h103, if_neg h104, if_neg h105, if_neg h106, if_pos h107, h107]; rfl
  by_cases h108 : c = 108
  · rw [if_neg h97, if_neg h98, if_neg h99, if_neg h100, if_neg h101, if_neg h102, if_neg h103, if_neg h104, if_neg h105, if_neg h106, if_neg h107, if_pos h108, h108]; rfl
  by_cases h109 : c = 109
  · rw [if_neg h97, if_neg h98, if_neg h99, if_neg h100, if_neg h101, if_neg h102, if_neg h103, if_neg h104, if_neg h105, if_neg h106, if_neg h107, if_neg h108, if_pos h109, h109]; rfl
  by_cases h110 : c = 110
  · rw [if_neg h97, if_neg h98, if_neg h99, if_neg h100, if_neg h101, if_neg h102, if_neg h103, if_neg h104, if_neg h105, if_neg h106, if_neg h107, if_neg h108, if_neg h109, if_pos h110, h110]; rfl
  by_cases h111 : c = 111
  · rw [if_neg h97, if_neg h98, if_neg h99, if_neg h100, if_neg h101, if_neg h102, if_neg h103, if_neg h104, if_neg h105, if_neg h106, if_neg h107, if_neg h108, if_neg h109, if_neg h110, if_pos h111, h111]; rfl
  rw [if_neg h97, if_neg h98, if_neg h99, if_neg h100, if_neg h101, if_neg h102, if_neg h103, if_neg h104, if_neg h105, if_neg h106, if_neg h107, if_neg h108, if_neg h109, if_neg h110, if_neg h111]
  unfold sl_mn
  rw [if_neg (fun z => by have := sl_nm_s z; omega)]
def sl_mfr (m0 m : gk_M) : Prop := (∀ k j, ¬ (k = 0 ∧ (j = 20 ∨ j = 22 ∨ j = 23)) → m.1 k j = m0.1 k j) ∧ m.2 = m0.2
theorem sl_mfr_tr {m1 m2 m3 : gk_M} (h : sl_mfr m1 m2) (h2 : sl_mfr m2 m3) : sl_mfr m1 m3 :=
  ⟨fun k j a => (h2.1 k j a).trans (h.1 k j a), h2.2.trans h.2⟩
theorem sl_mfr_w {m0 m : gk_M} {j : Nat} {v : Int32} (h : sl_mfr m0 m) (hj : j = 20 ∨ j = 22 ∨ j = 23) : sl_mfr m0 (gk_mi m 0 j v) :=
  ⟨fun x y a => by rw [sm_mi0 (by omega)]; exact h.1 x y a, h.2⟩
theorem sl_mfr0 {m : gk_M} : sl_mfr m m := ⟨fun _ _ _ => rfl, rfl⟩
theorem sl_MS_fr {t : Nat → Nat} {L : Nat} {m0 m : gk_M} (h : sl_mfr m0 m) (hS : sl_MS t L m0) : sl_MS t L m := by
  obtain ⟨h1, h2, h3⟩ := hS
  refine ⟨?_, (h.1 0 21 (by omega)).trans h2, h3⟩
  rcases h1 with ⟨a, b⟩ | ⟨a, b⟩
  · exact Or.inl ⟨(h.1 0 19 (by omega)).trans a, fun i hi => (h.1 11 i (by omega)).trans (b i hi)⟩
  · exact Or.inr ⟨(h.1 0 19 (by omega)).trans a, fun i hi => (h.1 12 i (by omega)).trans (b i hi)⟩
theorem sl_m13 {m0 m : gk_M} (h : sl_mfr m0 m) : m.1 13 = m0.1 13 := funext fun j => h.1 13 j (by omega)
def sl_MP (m0 : gk_M) (o : Nat) (r : sl_R) (v : Int32) (m : gk_M) : Prop := sl_mfr m0 m ∧ m.1 0 20 = sm_n r.2.1 ∧ (r.1 = true → m.1 0 22 = -1 ∧ m.1 0 23 = sm_n o ∧ v = r.2.2.2 (sl_cut (m0.1 13))) ∧ (r.1 = false → m.1 0 22 = sm_n r.2.1)
def sl_mr (t : Nat → Nat) (L o : Nat) (q : gk_M → Option (Int32 × gk_M)) (sub : Nat → sl_R) : Prop := ∀ a m, sl_MS t L m → m.1 0 20 = sm_n a → a ≤ L → m.1 0 22 = -1 → m.1 0 23 = sm_n o → ∃ v m', q m = some (v, m') ∧ sl_MP m o (sub a) v m'
section MR
variable {t : Nat → Nat} {L : Nat} {m m0 : gk_M}
theorem sl_b8 (hS : sl_MS t L m) (a : Nat) : sl_b t L a < 256 := by
  unfold sl_b
  split
  · next h => exact hS.2.2.2 a h
  · omega
theorem m_byteAt {a : Nat} (hS : sl_MS t L m) (h4 : m.1 0 20 = sm_n a) (ha : a ≤ 120) : f_M_byteAt m = some (sm_n (sl_b t L a), m) := by
  obtain ⟨h1, h2, h3, h5⟩ := hS
  unfold f_M_byteAt sl_b
  rw [h2, h4]
  by_cases e : a < L
  · rw [if_neg (show ¬ sm_n L ≤ sm_n a by rw [sm_nle (by omega) (by omega)]; omega), if_pos e]
    rcases h1 with ⟨b1, b2⟩ | ⟨b1, b2⟩
    · rw [b1, if_neg (show ¬ (0 : Int32) ≤ -1 by decide), sm_ai (by omega) (by omega), b2 a e]
    · rw [b1, if_pos (show (0 : Int32) ≤ 0 by decide), show (0 : Int32) + sm_n a = sm_n a from (sm_n_add 0 a).trans (by rw [Nat.zero_add]), sm_ai (by omega) (by omega), b2 a e]
  · rw [if_pos (show sm_n L ≤ sm_n a by rw [sm_nle (by omega) (by omega)]; omega), if_neg e]
    rfl
theorem m_takes {a s : Nat} (hS : sl_MS t L m) (h4 : m.1 0 20 = sm_n a) (ha : a ≤ 120) (hf : m.1 0 22 = -1) (hs : s < 256) : f_M_takes (sm_n s) m = if sl_b t L a = s then some (1, gk_mi m 0 20 (sm_n (a + 1))) else some (0, m) := by
  have h8 := sl_b8 hS a
  unfold f_M_takes
  rw [hf, if_neg (show ¬ (0 : Int32) ≤ -1 by decide), m_byteAt hS h4 ha, sm_bi]
  by_cases e : sl_b t L a = s
  · rw [if_pos (show sm_n (sl_b t L a) = sm_n s by rw [e]), if_pos e, sm_let, h4, show sm_n a + 1 = sm_n (a + 1) from sm_n_add _ 1]
  · rw [if_neg (show ¬ sm_n (sl_b t L a) = sm_n s by rw [sm_neq (by omega) (by omega)]; exact e), if_neg e]
theorem m_takesf {f : Nat} {s : Int32} (hf : m.1 0 22 = sm_n f) (h : f ≤ 120) : f_M_takes s m = some (0, m) := by
  unfold f_M_takes
  rw [hf, if_pos (sl_fneg h)]
/-- a sign, and what follows it -/
theorem m_cb {o lev a0 : Nat} (hlev : lev < 5) {q : gk_M → Option (Int32 × gk_M)} {sub : Nat → sl_R} (hq : sl_mr t L o q sub) (hS0 : sl_MS t L m0) {r : sl_R} {v : Int32} (hok : r.1 = true) (hc : sl_lv (sl_b t L r.2.1) = lev) (hP : sl_MP m0 o r v m) : ∃ w m2, q (gk_mi m 0 20 (sm_n (r.2.1 + 1))) = some (w, m2) ∧ sl_MP m0 o (sl_cb (sl_b t L r.2.1) r (sub (r.2.1 + 1))) (sl_wk (sl_b t L r.2.1) v w) m2 := by
  obtain ⟨p1, p2, p3, p4⟩ := hP
  obtain ⟨a1, a2, a3⟩ := p3 hok
  have hl := sl_bl (t := t) (L := L) (a := r.2.1) (sl_lv0 hlev hc)
  have f1 : sl_mfr m0 (gk_mi m 0 20 (sm_n (r.2.1 + 1))) := sl_mfr_w p1 (Or.inl rfl)
  obtain ⟨w, m2, e2, b1, b2, b3, b4⟩ := hq (r.2.1 + 1) (gk_mi m 0 20 (sm_n (r.2.1 + 1))) (sl_MS_fr f1 hS0) (sm_mi1 _ _ _ _) hl (by rw [sm_mi0 (by omega)]; exact a1) (by rw [sm_mi0 (by omega)]; exact a2)
  refine ⟨w, m2, e2, sl_mfr_tr f1 b1, b2, fun z => ?_, b4⟩
  obtain ⟨c1, c2, c3⟩ := b3 z
  refine ⟨c1, c2, ?_⟩
  rw [c3, a3, sl_m13 f1]
  rfl
theorem sl_lp_no {b : Nat → Nat} {lev n : Nat} {sub : Nat → sl_R} {r : sl_R} (h : ¬ (r.1 = true ∧ sl_lv (b r.2.1) = lev)) : sl_lp b lev sub n r = r := by
  cases n with
  | zero => rfl
  | succ n => unfold sl_lp; rw [if_neg h]
theorem sl_lp_go {b : Nat → Nat} {lev n : Nat} {sub : Nat → sl_R} {r : sl_R} (h : r.1 = true ∧ sl_lv (b r.2.1) = lev) (h2 : lev ≠ 2) : sl_lp b lev sub (n + 1) r = sl_lp b lev sub n (sl_cb (b r.2.1) r (sub (r.2.1 + 1))) := by
  show (if r.1 = true ∧ sl_lv (b r.2.1) = lev then (if lev = 2 then sl_cb (b r.2.1) r (sub (r.2.1 + 1)) else sl_lp b lev sub n (sl_cb (b r.2.1) r (sub (r.2.1 + 1)))) else r) = _
  rw [if_pos h, if_neg h2]
theorem sl_far {a : Nat} (h : 120 ≤ a) (hL : L ≤ 120) : sl_b t L a = 0 := by
  unfold sl_b; rw [if_neg (by omega)]
theorem m_lp0 {q0 q1 q2 q3 q4 q5 : gk_M → Option (Int32 × gk_M)} {o : Nat} {sub : Nat → sl_R} (hsub : ∀ a, sl_G L a (sub a)) (hq : sl_mr t L o q4 sub) {a0 : Nat} (hS0 : sl_MS t L m0) (ha0 : a0 ≤ L) : ∀ n fu r v m, n < fu → 120 ≤ r.2.1 + n → sl_G L a0 r → sl_MP m0 o r v m → ∃ w m', f_M_either_5 q0 q1 q2 q3 q4 q5 fu v m = some (w, m') ∧ sl_MP m0 o (sl_lp (sl_b t L) 0 sub n r) w m'
  | n, fu + 1, r, v, m, h3, hn, hG, hP => by
    have hL := hS0.2.2.1
    obtain ⟨p1, p2, p3, p4⟩ := id hP
    have hS := sl_MS_fr p1 hS0
    obtain ⟨g1, g2, g3⟩ := id hG
    have g2 := g2 ha0
    unfold f_M_either_5
    cases hr : r.1 with
    | false =>
      rw [m_takesf (p4 hr) (by omega), sm_bi, if_pos rfl, sl_lp_no (fun z => by rw [hr] at z; exact Bool.false_ne_true z.1)]
      exact ⟨v, m, rfl, hP⟩
    | true =>
      obtain ⟨a1, a2, a3⟩ := p3 hr
      rw [show f_M_takes 124 m = _ from m_takes (s := 124) hS p2 (by omega) a1 (by decide)]
      by_cases e : sl_b t L r.2.1 = 124
      · have hc : sl_lv (sl_b t L r.2.1) = 0 := by rw [e]; rfl
        have hl := sl_bl (t := t) (L := L) (a := r.2.1) (by omega)
        obtain ⟨w, m2, e2, P2⟩ := m_cb (lev := 0) (a0 := a0) (by decide) hq hS0 hr hc hP
        have G2 := sl_G_cb (c := sl_b t L r.2.1) (by omega) hG hr hl (hsub (r.2.1 + 1))
        have ga := (hsub (r.2.1 + 1)).1
        have ew : sl_wk (sl_b t L r.2.1) v w = (if ¬ v = 0 then 1 else if w = 0 then 0 else 1) := by rw [e]; rfl
        rw [ew] at P2
        rw [if_pos e, sm_bi, if_neg (show ¬ (1 : Int32) = 0 by decide), e2, sm_bi]
        cases n with
        | zero => exact absurd (sl_far (t := t) (L := L) (a := r.2.1) (by omega) hL) (by omega)
        | succ n =>
          rw [sl_lp_go ⟨hr, hc⟩ (by decide)]
          have go : ∀ x, x = (if ¬ v = 0 then 1 else if w = 0 then 0 else 1) → ∃ w' m', f_M_either_5 q0 q1 q2 q3 q4 q5 fu x m2 = some (w', m') ∧ sl_MP m0 o (sl_lp (sl_b t L) 0 sub n (sl_cb (sl_b t L r.2.1) r (sub (r.2.1 + 1)))) w' m' := by
            intro x hx
            exact m_lp0 hsub hq hS0 ha0 n fu _ x m2 (by omega) (by show 120 ≤ (sub (r.2.1 + 1)).2.1 + n; omega) G2 (by rw [hx]; exact P2)
          unfold f_M_either_27 f_M_either_32
          by_cases z1 : v = 0
          · rw [if_neg (show ¬ ¬ v = 0 from fun y => y z1)]
            by_cases z2 : w = 0
            · rw [if_pos z2]
              exact go 0 (by rw [if_neg (show ¬ ¬ v = 0 from fun y => y z1), if_pos z2])
            · rw [if_neg z2]
              exact go 1 (by rw [if_neg (show ¬ ¬ v = 0 from fun y => y z1), if_neg z2])
          · rw [if_pos (show ¬ v = 0 from z1)]
            exact go 1 (by rw [if_pos (show ¬ v = 0 from z1)])
      · rw [if_neg e, sm_bi, if_pos rfl, sl_lp_no (fun z => e (by
          have := sl_lv_s (c := sl_b t L r.2.1) (by omega)
          have h2 := z.2
          rcases this with y | y | y | y | y | y | y | y | y | y <;> first | exact y | (rw [y] at h2; exact absurd h2 (by decide))))]
        exact ⟨v, m, rfl, hP⟩
theorem m_lp1 {q0 q1 q2 q3 q4 q5 : gk_M → Option (Int32 × gk_M)} {o : Nat} {sub : Nat → sl_R} (hsub : ∀ a, sl_G L a (sub a)) (hq : sl_mr t L o q3 sub) {a0 : Nat} (hS0 : sl_MS t L m0) (ha0 : a0 ≤ L) : ∀ n fu r v m, n < fu → 120 ≤ r.2.1 + n → sl_G L a0 r → sl_MP m0 o r v m → ∃ w m', f_M_both_5 q0 q1 q2 q3 q4 q5 fu v m = some (w, m') ∧ sl_MP m0 o (sl_lp (sl_b t L) 1 sub n r) w m'
  | n, fu + 1, r, v, m, h3, hn, hG, hP => by
    have hL := hS0.2.2.1
    obtain ⟨p1, p2, p3, p4⟩ := id hP
    have hS := sl_MS_fr p1 hS0
    obtain ⟨g1, g2, g3⟩ := id hG
    have g2 := g2 ha0
    unfold f_M_both_5
    cases hr : r.1 with
    | false =>
      rw [m_takesf (p4 hr) (by omega), sm_bi, if_pos rfl, sl_lp_no (fun z => by rw [hr] at z; exact Bool.false_ne_true z.1)]
      exact ⟨v, m, rfl, hP⟩
    | true =>
      obtain ⟨a1, a2, a3⟩ := p3 hr
      rw [show f_M_takes 38 m = _ from m_takes (s := 38) hS p2 (by omega) a1 (by decide)]
      by_cases e : sl_b t L r.2.1 = 38
      · have hc : sl_lv (sl_b t L r.2.1) = 1 := by rw [e]; rfl
        have hl := sl_bl (t := t) (L := L) (a := r.2.1) (by omega)
        obtain ⟨w, m2, e2, P2⟩ := m_cb (lev := 1) (a0 := a0) (by decide) hq hS0 hr hc hP
        have G2 := sl_G_cb (c := sl_b t L r.2.1) (by omega) hG hr hl (hsub (r.2.1 + 1))
        have ga := (hsub (r.2.1 + 1)).1
        have ew : sl_wk (sl_b t L r.2.1) v w = (if v = 0 then 0 else if w = 0 then 0 else 1) := by rw [e]; rfl
        rw [ew] at P2
        rw [if_pos e, sm_bi, if_neg (show ¬ (1 : Int32) = 0 by decide), e2, sm_bi]
        cases n with
        | zero => exact absurd (sl_far (t := t) (L := L) (a := r.2.1) (by omega) hL) (by omega)
        | succ n =>
          rw [sl_lp_go ⟨hr, hc⟩ (by decide)]
          have go : ∀ x, x = (if v = 0 then 0 else if w = 0 then 0 else 1) → ∃ w' m', f_M_both_5 q0 q1 q2 q3 q4 q5 fu x m2 = some (w', m') ∧ sl_MP m0 o (sl_lp (sl_b t L) 1 sub n (sl_cb (sl_b t L r.2.1) r (sub (r.2.1 + 1)))) w' m' := by
            intro x hx
            exact m_lp1 hsub hq hS0 ha0 n fu _ x m2 (by omega) (by show 120 ≤ (sub (r.2.1 + 1)).2.1 + n; omega) G2 (by rw [hx]; exact P2)
          unfold f_M_both_31 f_M_both_32
          by_cases z1 : v = 0
          · rw [if_pos z1]
            exact go 0 (by rw [if_pos z1])
          · rw [if_neg z1]
            by_cases z2 : w = 0
            · rw [if_pos z2]
              exact go 0 (by rw [if_neg z1, if_pos z2])
            · rw [if_neg z2]
              exact go 1 (by rw [if_neg z1, if_neg z2])
      · rw [if_neg e, sm_bi, if_pos rfl, sl_lp_no (fun z => e (by
          have := sl_lv_s (c := sl_b t L r.2.1) (by omega)
          have h2 := z.2
          rcases this with y | y | y | y | y | y | y | y | y | y <;> first | exact y | (rw [y] at h2; exact absurd h2 (by decide))))]
        exact ⟨v, m, rfl, hP⟩
theorem m_lp3 {q0 q1 q2 q3 q4 q5 : gk_M → Option (Int32 × gk_M)} {o : Nat} {sub : Nat → sl_R} (hsub : ∀ a, sl_G L a (sub a)) (hq : sl_mr t L o q1 sub) {a0 : Nat} (hS0 : sl_MS t L m0) (ha0 : a0 ≤ L) : ∀ n fu r v m, n < fu → 120 ≤ r.2.1 + n → sl_G L a0 r → sl_MP m0 o r v m → ∃ w m', f_M_sums_5 q0 q1 q2 q3 q4 q5 fu v m = some (w, m') ∧ sl_MP m0 o (sl_lp (sl_b t L) 3 sub n r) w m'
  | n, fu + 1, r, v, m, h3, hn, hG, hP => by
    have hL := hS0.2.2.1
    obtain ⟨p1, p2, p3, p4⟩ := id hP
    have hS := sl_MS_fr p1 hS0
    obtain ⟨g1, g2, g3⟩ := id hG
    have g2 := g2 ha0
    have h8 := sl_b8 hS r.2.1
    unfold f_M_sums_5 f_M_sums_30 f_M_sums_44 f_M_sums_73
    cases hr : r.1 with
    | false =>
      rw [p4 hr, if_pos (sl_fneg (by omega)), sl_lp_no (fun z => by rw [hr] at z; exact Bool.false_ne_true z.1)]
      exact ⟨v, m, rfl, hP⟩
    | true =>
      obtain ⟨a1, a2, a3⟩ := p3 hr
      have eb := m_byteAt hS p2 (show r.2.1 ≤ 120 by omega)
      rw [a1, if_neg (show ¬ (0 : Int32) ≤ -1 by decide)]
      simp only [eb, sm_bi, sm_let, p2, show sm_n r.2.1 + 1 = sm_n (r.2.1 + 1) from sm_n_add _ 1]
      have e43 : (sm_n (sl_b t L r.2.1) = 43) ↔ sl_b t L r.2.1 = 43 := sl_va_eq (s := 43) ⟨h8, Or.inl rfl⟩ (by decide) (by decide)
      have e45 : (sm_n (sl_b t L r.2.1) = 45) ↔ sl_b t L r.2.1 = 45 := sl_va_eq (s := 45) ⟨h8, Or.inl rfl⟩ (by decide) (by decide)
      have go : sl_lv (sl_b t L r.2.1) = 3 → ∃ w m2, q1 (gk_mi m 0 20 (sm_n (r.2.1 + 1))) = some (w, m2) ∧ ∀ x, x = sl_wk (sl_b t L r.2.1) v w → ∃ w' m', f_M_sums_5 q0 q1 q2 q3 q4 q5 fu x m2 = some (w', m') ∧ sl_MP m0 o (sl_lp (sl_b t L) 3 sub n r) w' m' := by
        intro hc
        have hl := sl_bl (t := t) (L := L) (a := r.2.1) (sl_lv0 (lev := 3) (by decide) hc)
        obtain ⟨w, m2, e2, P2⟩ := m_cb (lev := 3) (a0 := a0) (by decide) hq hS0 hr hc hP
        have G2 := sl_G_cb (c := sl_b t L r.2.1) (by omega) hG hr hl (hsub (r.2.1 + 1))
        have ga := (hsub (r.2.1 + 1)).1
        refine ⟨w, m2, e2, fun x hx => ?_⟩
        cases n with
        | zero => exact absurd hl (by omega)
        | succ n =>
          rw [sl_lp_go ⟨hr, hc⟩ (by decide)]
          exact m_lp3 hsub hq hS0 ha0 n fu _ x m2 (by omega) (by show 120 ≤ (sub (r.2.1 + 1)).2.1 + n; omega) G2 (by rw [hx]; exact P2)
      by_cases c1 : sl_b t L r.2.1 = 43
      · obtain ⟨w, m2, e2, hgo⟩ := go (by rw [c1]; rfl)
        rw [if_pos (e43.mpr c1), if_neg (show ¬ ¬ sm_n (sl_b t L r.2.1) = 43 from fun y => y (e43.mpr c1)), e2, sm_bi, if_neg (show ¬ (1 : Int32) = 0 by decide)]
        exact hgo _ (by rw [c1]; rfl)
      · rw [if_neg (fun y => c1 (e43.mp y))]
        by_cases c2 : sl_b t L r.2.1 = 45
        · obtain ⟨w, m2, e2, hgo⟩ := go (by rw [c2]; rfl)
          rw [if_neg (show ¬ ¬ sm_n (sl_b t L r.2.1) = 45 from fun y => y (e45.mpr c2)), if_pos (show ¬ sm_n (sl_b t L r.2.1) = 43 from fun y => c1 (e43.mp y)), e2, sm_bi, if_pos trivial]
          exact hgo _ (by rw [c2]; rfl)
        · rw [if_pos (show ¬ sm_n (sl_b t L r.2.1) = 45 from fun y => c2 (e45.mp y)), sl_lp_no (fun z => by
            have := sl_lv_s (c := sl_b t L r.2.1) (by omega)
            have h2 := z.2
            rcases this with y | y | y | y | y | y | y | y | y | y <;> first | exact c1 y | exact c2 y | (rw [y] at h2; exact absurd h2 (by decide)))]
          exact ⟨v, m, rfl, hP⟩
theorem m_lp4 {q0 q1 q2 q3 q4 q5 : gk_M → Option (Int32 × gk_M)} {o : Nat} {sub : Nat → sl_R} (hsub : ∀ a, sl_G L a (sub a)) (hq : sl_mr t L o q0 sub) {a0 : Nat} (hS0 : sl_MS t L m0) (ha0 : a0 ≤ L) : ∀ n fu r v m, n < fu → 120 ≤ r.2.1 + n → sl_G L a0 r → sl_MP m0 o r v m → ∃ w m', f_M_product_10 q0 q1 q2 q3 q4 q5 fu v (sm_n (sl_b t L r.2.1)) m = some (w, m') ∧ sl_MP m0 o (sl_lp (sl_b t L) 4 sub n r) w m'
  | n, fu + 1, r, v, m, h3, hn, hG, hP => by
    have hL := hS0.2.2.1
    obtain ⟨p1, p2, p3, p4⟩ := id hP
    have hS := sl_MS_fr p1 hS0
    obtain ⟨g1, g2, g3⟩ := id hG
    have g2 := g2 ha0
    have h8 := sl_b8 hS r.2.1
    unfold f_M_product_10 f_M_product_35 f_M_product_85
    cases hr : r.1 with
    | false =>
      rw [p4 hr, if_pos (sl_fneg (by omega)), sl_lp_no (fun z => by rw [hr] at z; exact Bool.false_ne_true z.1)]
      exact ⟨v, m, rfl, hP⟩
    | true =>
      obtain ⟨a1, a2, a3⟩ := p3 hr
      rw [a1, if_neg (show ¬ (0 : Int32) ≤ -1 by decide)]
      simp only [sm_let, p2, show sm_n r.2.1 + 1 = sm_n (r.2.1 + 1) from sm_n_add _ 1]
      have e42 : (sm_n (sl_b t L r.2.1) = 42) ↔ sl_b t L r.2.1 = 42 := sl_va_eq (s := 42) ⟨h8, Or.inl rfl⟩ (by decide) (by decide)
      have e47 : (sm_n (sl_b t L r.2.1) = 47) ↔ sl_b t L r.2.1 = 47 := sl_va_eq (s := 47) ⟨h8, Or.inl rfl⟩ (by decide) (by decide)
      have e37 : (sm_n (sl_b t L r.2.1) = 37) ↔ sl_b t L r.2.1 = 37 := sl_va_eq (s := 37) ⟨h8, Or.inl rfl⟩ (by decide) (by decide)
      have go : sl_lv (sl_b t L r.2.1) = 4 → ∃ w m2, q0 (gk_mi m 0 20 (sm_n (r.2.1 + 1))) = some (w, m2) ∧ ∀ x, x = sl_wk (sl_b t L r.2.1) v w → ∃ w' m', (gk_bi (f_M_byteAt m2) fun v2 m1 => f_M_product_10 q0 q1 q2 q3 q4 q5 fu x v2 m1) = some (w', m') ∧ sl_MP m0 o (sl_lp (sl_b t L) 4 sub n r) w' m' := by
        intro hc
        have hl := sl_bl (t := t) (L := L) (a := r.2.1) (sl_lv0 (lev := 4) (by decide) hc)
        obtain ⟨w, m2, e2, P2⟩ := m_cb (lev := 4) (a0 := a0) (by decide) hq hS0 hr hc hP
        have G2 := sl_G_cb (c := sl_b t L r.2.1) (by omega) hG hr hl (hsub (r.2.1 + 1))
        have ga := (hsub (r.2.1 + 1)).1
        have gb := (hsub (r.2.1 + 1)).2.1 hl
        refine ⟨w, m2, e2, fun x hx => ?_⟩
        rw [m_byteAt (a := (sub (r.2.1 + 1)).2.1) (sl_MS_fr P2.1 hS0) P2.2.1 (by omega), sm_bi]
        cases n with
        | zero => exact absurd hl (by omega)
        | succ n =>
          rw [sl_lp_go ⟨hr, hc⟩ (by decide)]
          exact m_lp4 hsub hq hS0 ha0 n fu _ x m2 (by omega) (by show 120 ≤ (sub (r.2.1 + 1)).2.1 + n; omega) G2 (by rw [hx]; exact P2)
      by_cases c1 : sl_b t L r.2.1 = 42
      · obtain ⟨w, m2, e2, hgo⟩ := go (by rw [c1]; rfl)
        rw [if_pos (e42.mpr c1), e2, sm_bi, if_neg (show ¬ ¬ sm_n (sl_b t L r.2.1) = 42 from fun y => y (e42.mpr c1))]
        exact hgo _ (by rw [c1]; rfl)
      rw [if_neg (fun y => c1 (e42.mp y))]
      by_cases c2 : sl_b t L r.2.1 = 47
      · obtain ⟨w, m2, e2, hgo⟩ := go (by rw [c2]; rfl)
        rw [if_pos (e47.mpr c2), e2, sm_bi, if_pos (show ¬ sm_n (sl_b t L r.2.1) = 42 from fun y => c1 (e42.mp y))]
        by_cases z : w = 0
        · rw [if_neg (show ¬ ¬ w = 0 from fun y => y z)]
          refine hgo _ ?_
          rw [c2]
          show 0 = (if ¬ w = 0 then v / w else 0)
          rw [if_neg (show ¬ ¬ w = 0 from fun y => y z)]
        · rw [if_pos (show ¬ w = 0 from z), if_neg (show ¬ ¬ sm_n (sl_b t L r.2.1) = 47 from fun y => y (e47.mpr c2))]
          unfold gk_di
          rw [if_neg z]
          refine hgo _ ?_
          rw [c2]
          show v / w = (if ¬ w = 0 then v / w else 0)
          rw [if_pos (show ¬ w = 0 from z)]
      rw [if_neg (fun y => c2 (e47.mp y))]
      by_cases c3 : sl_b t L r.2.1 = 37
      · obtain ⟨w, m2, e2, hgo⟩ := go (by rw [c3]; rfl)
        rw [if_neg (show ¬ ¬ sm_n (sl_b t L r.2.1) = 37 from fun y => y (e37.mpr c3)), e2, sm_bi, if_pos (show ¬ sm_n (sl_b t L r.2.1) = 42 from fun y => c1 (e42.mp y))]
        by_cases z : w = 0
        · rw [if_neg (show ¬ ¬ w = 0 from fun y => y z)]
          refine hgo _ ?_
          rw [c3]
          show 0 = (if ¬ w = 0 then v - v / w * w else 0)
          rw [if_neg (show ¬ ¬ w = 0 from fun y => y z)]
        · rw [if_pos (show ¬ w = 0 from z), if_pos (show ¬ sm_n (sl_b t L r.2.1) = 47 from fun y => c2 (e47.mp y))]
          unfold gk_re
          rw [if_neg z]
          refine hgo _ ?_
          rw [c3]
          show v - v / w * w = (if ¬ w = 0 then v - v / w * w else 0)
          rw [if_pos (show ¬ w = 0 from z)]
      · rw [if_pos (show ¬ sm_n (sl_b t L r.2.1) = 37 from fun y => c3 (e37.mp y)), sl_lp_no (fun z => by
          have := sl_lv_s (c := sl_b t L r.2.1) (by omega)
          have h2 := z.2
          rcases this with y | y | y | y | y | y | y | y | y | y <;> first | exact c1 y | exact c2 y | exact c3 y | (rw [y] at h2; exact absurd h2 (by decide)))]
        exact ⟨v, m, rfl, hP⟩
theorem m_l2 {q0 q1 q2 q3 q4 q5 : gk_M → Option (Int32 × gk_M)} {o : Nat} {sub : Nat → sl_R} (hsub : ∀ a, sl_G L a (sub a)) (hq : sl_mr t L o q2 sub) : sl_mr t L o (fun m => f_M_compared_0 q0 q1 q2 q3 q4 q5 m) (sl_L (sl_b t L) 2 sub) := by
  intro a m hS h4 ha hf h23
  have hL := hS.2.2.1
  obtain ⟨v, m1, e1, P1⟩ := hq a m hS h4 ha hf h23
  obtain ⟨p1, p2, p3, p4⟩ := id P1
  have hS1 := sl_MS_fr p1 hS
  obtain ⟨g1, g2, g3⟩ := hsub a
  have g2 := g2 ha
  have h8 := sl_b8 hS (sub a).2.1
  have eb := m_byteAt hS1 p2 (show (sub a).2.1 ≤ 120 by omega)
  have eL : sl_L (sl_b t L) 2 sub a = if (sub a).1 = true ∧ sl_lv (sl_b t L (sub a).2.1) = 2 then sl_cb (sl_b t L (sub a).2.1) (sub a) (sub ((sub a).2.1 + 1)) else sub a := rfl
  rw [eL]
  show ∃ w m', f_M_compared_0 q0 q1 q2 q3 q4 q5 m = some (w, m') ∧ _
  unfold f_M_compared_0 f_M_compared_37
  rw [e1, sm_bi, eb, sm_bi]
  cases hr : (sub a).1 with
  | false =>
    rw [p4 hr, if_pos (sl_fneg (by omega)), if_neg (show ¬ (false = true ∧ sl_lv (sl_b t L (sub a).2.1) = 2) from fun z => Bool.false_ne_true z.1)]
    exact ⟨v, m1, rfl, P1⟩
  | true =>
    obtain ⟨a1, a2, a3⟩ := p3 hr
    rw [a1, if_neg (show ¬ (0 : Int32) ≤ -1 by decide)]
    simp only [sm_let, p2, show sm_n (sub a).2.1 + 1 = sm_n ((sub a).2.1 + 1) from sm_n_add _ 1]
    have e60 : (sm_n (sl_b t L (sub a).2.1) = 60) ↔ sl_b t L (sub a).2.1 = 60 := sl_va_eq (s := 60) ⟨h8, Or.inl rfl⟩ (by decide) (by decide)
    have e61 : (sm_n (sl_b t L (sub a).2.1) = 61) ↔ sl_b t L (sub a).2.1 = 61 := sl_va_eq (s := 61) ⟨h8, Or.inl rfl⟩ (by decide) (by decide)
    have e62 : (sm_n (sl_b t L (sub a).2.1) = 62) ↔ sl_b t L (sub a).2.1 = 62 := sl_va_eq (s := 62) ⟨h8, Or.inl rfl⟩ (by decide) (by decide)
    have go := fun hc => m_cb (lev := 2) (a0 := a) (by decide) hq hS hr hc P1
    by_cases c1 : sl_b t L (sub a).2.1 = 60
    · have hc : sl_lv (sl_b t L (sub a).2.1) = 2 := by rw [c1]; rfl
      obtain ⟨w, m2, e2, P2⟩ := go hc
      have ew : sl_wk (sl_b t L (sub a).2.1) v w = if w ≤ v then 0 else 1 := by rw [c1]; rfl
      rw [ew] at P2
      rw [if_pos (e60.mpr c1), e2, sm_bi, if_neg (show ¬ ¬ sm_n (sl_b t L (sub a).2.1) = 60 from fun y => y (e60.mpr c1)), if_pos (show True ∧ sl_lv (sl_b t L (sub a).2.1) = 2 from ⟨trivial, hc⟩)]
      by_cases z : w ≤ v
      · rw [if_pos z] at P2 ⊢; exact ⟨_, _, rfl, P2⟩
      · rw [if_neg z] at P2 ⊢; exact ⟨_, _, rfl, P2⟩
    rw [if_neg (fun y => c1 (e60.mp y))]
    by_cases c2 : sl_b t L (sub a).2.1 = 61
    · have hc : sl_lv (sl_b t L (sub a).2.1) = 2 := by rw [c2]; rfl
      obtain ⟨w, m2, e2, P2⟩ := go hc
      have ew : sl_wk (sl_b t L (sub a).2.1) v w = if ¬ v = w then 0 else 1 := by rw [c2]; rfl
      rw [ew] at P2
      rw [if_pos (e61.mpr c2), e2, sm_bi, if_pos (show ¬ sm_n (sl_b t L (sub a).2.1) = 60 from fun y => c1 (e60.mp y)), if_neg (show ¬ ¬ sm_n (sl_b t L (sub a).2.1) = 61 from fun y => y (e61.mpr c2)), if_pos (show True ∧ sl_lv (sl_b t L (sub a).2.1) = 2 from ⟨trivial, hc⟩)]
      by_cases z : v = w
      · rw [if_neg (show ¬ ¬ v = w from fun y => y z)] at P2 ⊢; exact ⟨_, _, rfl, P2⟩
      · rw [if_pos (show ¬ v = w from z)] at P2 ⊢; exact ⟨_, _, rfl, P2⟩
    rw [if_neg (fun y => c2 (e61.mp y))]
    by_cases c3 : sl_b t L (sub a).2.1 = 62
    · have hc : sl_lv (sl_b t L (sub a).2.1) = 2 := by rw [c3]; rfl
      obtain ⟨w, m2, e2, P2⟩ := go hc
      have ew : sl_wk (sl_b t L (sub a).2.1) v w = if v ≤ w then 0 else 1 := by rw [c3]; rfl
      rw [ew] at P2
      rw [if_pos (e62.mpr c3), e2, sm_bi, if_pos (show ¬ sm_n (sl_b t L (sub a).2.1) = 60 from fun y => c1 (e60.mp y)), if_pos (show ¬ sm_n (sl_b t L (sub a).2.1) = 61 from fun y => c2 (e61.mp y)), if_pos (show True ∧ sl_lv (sl_b t L (sub a).2.1) = 2 from ⟨trivial, hc⟩)]
      by_cases z : v ≤ w
      · rw [if_pos z] at P2 ⊢; exact ⟨_, _, rfl, P2⟩
      · rw [if_neg z] at P2 ⊢; exact ⟨_, _, rfl, P2⟩
    · rw [if_neg (fun y => c3 (e62.mp y)), if_neg (show ¬ (True ∧ sl_lv (sl_b t L (sub a).2.1) = 2) from fun z => by
        have := sl_lv_s (c := sl_b t L (sub a).2.1) (by omega)
        have h2 := z.2
        rcases this with y | y | y | y | y | y | y | y | y | y <;> first | exact c1 y | exact c2 y | exact c3 y | (rw [y] at h2; exact absurd h2 (by decide)))]
      exact ⟨v, m1, rfl, P1⟩
theorem m_l0 {q0 q1 q2 q3 q4 q5 : gk_M → Option (Int32 × gk_M)} {o : Nat} {sub : Nat → sl_R} (hsub : ∀ a, sl_G L a (sub a)) (hq : sl_mr t L o q4 sub) : sl_mr t L o (fun m => f_M_either_0 q0 q1 q2 q3 q4 q5 m) (sl_L (sl_b t L) 0 sub) := by
  intro a m hS h4 ha hf h23
  obtain ⟨v, m1, e1, P1⟩ := hq a m hS h4 ha hf h23
  obtain ⟨w, m2, e2, P2⟩ := m_lp0 (q0 := q0) (q1 := q1) (q2 := q2) (q3 := q3) (q5 := q5) hsub hq hS ha 120 gk_fv (sub a) v m1 (by rw [gk_fv_eq]; omega) (by omega) (hsub a) P1
  refine ⟨w, m2, ?_, P2⟩
  show f_M_either_0 q0 q1 q2 q3 q4 q5 m = _
  unfold f_M_either_0
  rw [e1, sm_bi, e2]
theorem m_l1 {q0 q1 q2 q3 q4 q5 : gk_M → Option (Int32 × gk_M)} {o : Nat} {sub : Nat → sl_R} (hsub : ∀ a, sl_G L a (sub a)) (hq : sl_mr t L o q3 sub) : sl_mr t L o (fun m => f_M_both_0 q0 q1 q2 q3 q4 q5 m) (sl_L (sl_b t L) 1 sub) := by
  intro a m hS h4 ha hf h23
  obtain ⟨v, m1, e1, P1⟩ := hq a m hS h4 ha hf h23
  obtain ⟨w, m2, e2, P2⟩ := m_lp1 (q0 := q0) (q1 := q1) (q2 := q2) (q4 := q4) (q5 := q5) hsub hq hS ha 120 gk_fv (sub a) v m1 (by rw [gk_fv_eq]; omega) (by omega) (hsub a) P1
  refine ⟨w, m2, ?_, P2⟩
  show f_M_both_0 q0 q1 q2 q3 q4 q5 m = _
  unfold f_M_both_0
  rw [e1, sm_bi, e2]
theorem m_l3 {q0 q1 q2 q3 q4 q5 : gk_M → Option (Int32 × gk_M)} {o : Nat} {sub : Nat → sl_R} (hsub : ∀ a, sl_G L a (sub a)) (hq : sl_mr t L o q1 sub) : sl_mr t L o (fun m => f_M_sums_0 q0 q1 q2 q3 q4 q5 m) (sl_L (sl_b t L) 3 sub) := by
  intro a m hS h4 ha hf h23
  obtain ⟨v, m1, e1, P1⟩ := hq a m hS h4 ha hf h23
  obtain ⟨w, m2, e2, P2⟩ := m_lp3 (q0 := q0) (q2 := q2) (q3 := q3) (q4 := q4) (q5 := q5) hsub hq hS ha 120 gk_fv (sub a) v m1 (by rw [gk_fv_eq]; omega) (by omega) (hsub a) P1
  refine ⟨w, m2, ?_, P2⟩
  show f_M_sums_0 q0 q1 q2 q3 q4 q5 m = _
  unfold f_M_sums_0
  rw [e1, sm_bi, e2]
theorem m_l4 {q0 q1 q2 q3 q4 q5 : gk_M → Option (Int32 × gk_M)} {o : Nat} {sub : Nat → sl_R} (hsub : ∀ a, sl_G L a (sub a)) (hq : sl_mr t L o q0 sub) : sl_mr t L o (fun m => f_M_product_0 q0 q1 q2 q3 q4 q5 m) (sl_L (sl_b t L) 4 sub) := by
  intro a m hS h4 ha hf h23
  have hL := hS.2.2.1
  obtain ⟨v, m1, e1, P1⟩ := hq a m hS h4 ha hf h23
  have g2 := (hsub a).2.1 ha
  obtain ⟨w, m2, e2, P2⟩ := m_lp4 (q1 := q1) (q2 := q2) (q3 := q3) (q4 := q4) (q5 := q5) hsub hq hS ha 120 gk_fv (sub a) v m1 (by rw [gk_fv_eq]; omega) (by omega) (hsub a) P1
  refine ⟨w, m2, ?_, P2⟩
  show f_M_product_0 q0 q1 q2 q3 q4 q5 m = _
  unfold f_M_product_0
  rw [e1, sm_bi, m_byteAt (sl_MS_fr P1.1 hS) P1.2.1 (by omega), sm_bi, e2]
/-! the operand -/
theorem m_wrong {a : Nat} (hf : m.1 0 22 = -1) (h4 : m.1 0 20 = sm_n a) : f_M_wrong m = some (0, gk_mi m 0 22 (sm_n a)) := by
  unfold f_M_wrong f_M_wrong_19
  rw [hf, if_neg (show ¬ (0 : Int32) ≤ -1 by decide), h4, sm_let]
theorem m_wrongf {f : Nat} (hf : m.1 0 22 = sm_n f) (h : f ≤ 120) : f_M_wrong m = some (0, m) := by
  unfold f_M_wrong f_M_wrong_19
  rw [hf, if_pos (sl_fneg h), sm_let, sv_mi_id hf]
theorem sl_MP_flt {o a : Nat} {v : Int32} (hf : sl_mfr m0 m) (h4 : m.1 0 20 = sm_n a) : sl_MP m0 o (sl_fl a) v (gk_mi m 0 22 (sm_n a)) :=
  ⟨sl_mfr_w hf (Or.inr (Or.inl rfl)), (sm_mi0 (by omega)).trans h4, fun z => absurd z Bool.false_ne_true, fun _ => sm_mi1 _ _ _ _⟩
theorem m_num {q0 q1 q2 q3 q4 q5 : gk_M → Option (Int32 × gk_M)} (hS0 : sl_MS t L m0) : ∀ n i fu v a m, i + n = 4 → n < fu → a ≤ L → sl_mfr m0 m → m.1 0 20 = sm_n a → ∃ i', (i' = 0 ↔ i = 0 ∧ (n = 0 ∨ ¬ (48 ≤ sl_b t L a ∧ sl_b t L a ≤ 57))) ∧ i' ≤ 4 ∧ f_M_one_176 q0 q1 q2 q3 q4 q5 fu (sm_n v) (sm_n i) m = f_M_one_229 q0 q1 q2 q3 q4 q5 (sm_n (sl_dg (sl_b t L) n v a).1) (sm_n i') (gk_mi m 0 20 (sm_n (sl_dg (sl_b t L) n v a).2))
  | 0, i, fu + 1, v, a, m, h1, h3, ha, hf, h4 => by
    refine ⟨i, by omega, by omega, ?_⟩
    unfold f_M_one_176
    rw [if_pos (show 4 ≤ sm_n i by simp (disch := omega) only [sm_lit, sm_nlt, sm_nle, sm_neq, sm_n_add, sm_n_mul, sm_n_div, sm_n_rem, sm_bi, sm_bl, sm_bv, sm_let, sm_zz0, sm_zz1, sm_ai, sm_si, sm_al, sm_sl, sm_ar, sm_mi1, sm_mi0, sm_ml1, sm_ml0, sm_mil, sm_mli]; omega)]
    show _ = f_M_one_229 q0 q1 q2 q3 q4 q5 (sm_n v) (sm_n i) (gk_mi m 0 20 (sm_n a))
    rw [sv_mi_id h4]
  | n + 1, i, fu + 1, v, a, m, h1, h3, ha, hf, h4 => by
    have hL := hS0.2.2.1
    have hS := sl_MS_fr hf hS0
    have h8 := sl_b8 hS a
    have eb := m_byteAt hS h4 (show a ≤ 120 by omega)
    have stop : ¬ (48 ≤ sl_b t L a ∧ sl_b t L a ≤ 57) → f_M_one_229 q0 q1 q2 q3 q4 q5 (sm_n v) (sm_n i) m = f_M_one_229 q0 q1 q2 q3 q4 q5 (sm_n (sl_dg (sl_b t L) (n + 1) v a).1) (sm_n i) (gk_mi m 0 20 (sm_n (sl_dg (sl_b t L) (n + 1) v a).2)) := by
      intro e
      have ed : sl_dg (sl_b t L) (n + 1) v a = (v, a) := by unfold sl_dg; rw [if_neg e]
      rw [ed]
      show _ = f_M_one_229 q0 q1 q2 q3 q4 q5 (sm_n v) (sm_n i) (gk_mi m 0 20 (sm_n a))
      rw [sv_mi_id h4]
    unfold f_M_one_176
    rw [if_neg (show ¬ 4 ≤ sm_n i by simp (disch := omega) only [sm_lit, sm_nlt, sm_nle, sm_neq, sm_n_add, sm_n_mul, sm_n_div, sm_n_rem, sm_bi, sm_bl, sm_bv, sm_let, sm_zz0, sm_zz1, sm_ai, sm_si, sm_al, sm_sl, sm_ar, sm_mi1, sm_mi0, sm_ml1, sm_ml0, sm_mil, sm_mli]; omega), eb, sm_bi]
    by_cases e1 : sl_b t L a < 48
    · rw [if_pos (show sm_n (sl_b t L a) < 48 by simp (disch := omega) only [sm_lit, sm_nlt, sm_nle, sm_neq, sm_n_add, sm_n_mul, sm_n_div, sm_n_rem, sm_bi, sm_bl, sm_bv, sm_let, sm_zz0, sm_zz1, sm_ai, sm_si, sm_al, sm_sl, sm_ar, sm_mi1, sm_mi0, sm_ml1, sm_ml0, sm_mil, sm_mli]; exact e1)]
      exact ⟨i, by omega, by omega, stop (by omega)⟩
    · rw [if_neg (show ¬ sm_n (sl_b t L a) < 48 by simp (disch := omega) only [sm_lit, sm_nlt, sm_nle, sm_neq, sm_n_add, sm_n_mul, sm_n_div, sm_n_rem, sm_bi, sm_bl, sm_bv, sm_let, sm_zz0, sm_zz1, sm_ai, sm_si, sm_al, sm_sl, sm_ar, sm_mi1, sm_mi0, sm_ml1, sm_ml0, sm_mil, sm_mli]; exact e1), eb, sm_bi]
      by_cases e2 : 57 < sl_b t L a
      · rw [if_pos (show 57 < sm_n (sl_b t L a) by simp (disch := omega) only [sm_lit, sm_nlt, sm_nle, sm_neq, sm_n_add, sm_n_mul, sm_n_div, sm_n_rem, sm_bi, sm_bl, sm_bv, sm_let, sm_zz0, sm_zz1, sm_ai, sm_si, sm_al, sm_sl, sm_ar, sm_mi1, sm_mi0, sm_ml1, sm_ml0, sm_mil, sm_mli]; exact e2)]
        exact ⟨i, by omega, by omega, stop (by omega)⟩
      · have hl := sl_bl (t := t) (L := L) (a := a) (by omega)
        have ed : sl_dg (sl_b t L) (n + 1) v a = sl_dg (sl_b t L) n (10 * v + sl_b t L a - 48) (a + 1) := by
          show (if 48 ≤ sl_b t L a ∧ sl_b t L a ≤ 57 then sl_dg (sl_b t L) n (10 * v + sl_b t L a - 48) (a + 1) else (v, a)) = _
          rw [if_pos (by omega)]
        obtain ⟨i', j1, j2, j3⟩ := m_num (q0 := q0) (q1 := q1) (q2 := q2) (q3 := q3) (q4 := q4) (q5 := q5) hS0 n (i + 1) fu (10 * v + sl_b t L a - 48) (a + 1) (gk_mi m 0 20 (sm_n (a + 1))) (by omega) (by omega) hl (sl_mfr_w hf (Or.inl rfl)) (sm_mi1 _ _ _ _)
        refine ⟨i', by omega, j2, ?_⟩
        rw [if_neg (show ¬ 57 < sm_n (sl_b t L a) by simp (disch := omega) only [sm_lit, sm_nlt, sm_nle, sm_neq, sm_n_add, sm_n_mul, sm_n_div, sm_n_rem, sm_bi, sm_bl, sm_bv, sm_let, sm_zz0, sm_zz1, sm_ai, sm_si, sm_al, sm_sl, sm_ar, sm_mi1, sm_mi0, sm_ml1, sm_ml0, sm_mil, sm_mli]; exact e2), eb, sm_bi, sm_let, sm_let, h4, show sm_n a + 1 = sm_n (a + 1) from sm_n_add _ 1, show 10 * sm_n v + sm_n (sl_b t L a) - 48 = sm_n (10 * v + sl_b t L a - 48) by rw [show (10 : Int32) = sm_n 10 from rfl, sm_n_mul, sm_n_add, show (48 : Int32) = sm_n 48 from rfl, sm_n_sub (by omega)], show sm_n i + 1 = sm_n (i + 1) from sm_n_add _ 1, j3, sv_mi2, ed]
theorem m_op0 {q0 q1 q2 q3 q4 q5 : gk_M → Option (Int32 × gk_M)} {o : Nat} {z : Bool} {O E : Nat → sl_R} (hop : o ≤ 6) (hz : z = decide (o = 6)) (hO : z = false → sl_mr t L (o + 1) q0 O) (hE : z = false → sl_mr t L (o + 1) q5 E) (hGO : z = false → ∀ a, sl_G L a (O a)) (hGE : z = false → ∀ a, sl_G L a (E a)) : sl_mr t L o (fun m => f_M_one_0 q0 q1 q2 q3 q4 q5 m) (sl_os (sl_b t L) z O E) := by
  intro a m hS h4 ha hf h23
  have hL := hS.2.2.1
  have h8 := sl_b8 hS a
  have va : sl_va (sm_n (sl_b t L a)) (sl_b t L a) := ⟨h8, Or.inl rfl⟩
  have e33 : (sm_n (sl_b t L a) = 33) ↔ sl_b t L a = 33 := sl_va_eq (s := 33) va (by decide) (by decide)
  have e45 : (sm_n (sl_b t L a) = 45) ↔ sl_b t L a = 45 := sl_va_eq (s := 45) va (by decide) (by decide)
  have e40 : (sm_n (sl_b t L a) = 40) ↔ sl_b t L a = 40 := sl_va_eq (s := 40) va (by decide) (by decide)
  have n33 : sl_nm 33 = 9 := rfl
  have n45 : sl_nm 45 = 9 := rfl
  have n40 : sl_nm 40 = 9 := rfl
  show ∃ v m', f_M_one_0 q0 q1 q2 q3 q4 q5 m = some (v, m') ∧ sl_MP m o (sl_os (sl_b t L) z O E a) v m'
  unfold f_M_one_0 sl_os
  rw [hf, if_pos (show (-1 : Int32) < 0 by decide), m_byteAt hS h4 (by omega), sm_bi]
  by_cases d1 : sl_b t L a = 33 ∨ sl_b t L a = 45 ∨ sl_b t L a = 40
  · have hl := sl_bl (t := t) (L := L) (a := a) (by omega)
    have nd : ¬ (48 ≤ sl_b t L a ∧ sl_b t L a ≤ 57) := by omega
    have nn : ¬ sl_nm (sl_b t L a) < 6 := by rcases d1 with y | y | y <;> rw [y] <;> omega
    have e32 : (if sm_n (sl_b t L a) = 33 then f_M_one_32 q0 q1 q2 q3 q4 q5 (sm_n (sl_b t L a)) m else if sm_n (sl_b t L a) = 45 then f_M_one_32 q0 q1 q2 q3 q4 q5 (sm_n (sl_b t L a)) m else if ¬ sm_n (sl_b t L a) = 40 then (gk_bi (f_M_nameOf (sm_n (sl_b t L a)) m) fun v4 m3 => if v4 < 0 then f_M_one_176 q0 q1 q2 q3 q4 q5 gk_fv 0 0 m3 else gk_let (gk_mi m3 0 20 ((m3.1 0 20) + 1)) fun m5 => gk_ai m5 13 6 v4 fun v6 => some (v6, m5)) else f_M_one_32 q0 q1 q2 q3 q4 q5 (sm_n (sl_b t L a)) m) = f_M_one_32 q0 q1 q2 q3 q4 q5 (sm_n (sl_b t L a)) m := by
      by_cases y1 : sl_b t L a = 33
      · rw [if_pos (e33.mpr y1)]
      · rw [if_neg (fun y => y1 (e33.mp y))]
        by_cases y2 : sl_b t L a = 45
        · rw [if_pos (e45.mpr y2)]
        · rw [if_neg (fun y => y2 (e45.mp y)), if_neg (show ¬ ¬ sm_n (sl_b t L a) = 40 from fun y => y (e40.mpr (by omega)))]
    rw [e32, if_neg nd, if_neg nn]
    unfold f_M_one_32
    rw [h23]
    by_cases c3 : o = 6
    · have hz1 : z = true := by rw [hz, decide_eq_true c3]
      rw [if_neg (show ¬ ¬ sm_n o = 6 by rw [c3]; exact fun y => y rfl), m_wrong hf h4, sm_bi, if_pos hz1]
      exact ⟨_, _, rfl, sl_MP_flt sl_mfr0 h4⟩
    have hz0 : z = false := by rw [hz, decide_eq_false c3]
    have f1 : sl_mfr m (gk_mi (gk_mi m 0 23 (sm_n (o + 1))) 0 20 (sm_n (a + 1))) := sl_mfr_w (sl_mfr_w sl_mfr0 (Or.inr (Or.inr rfl))) (Or.inl rfl)
    rw [if_pos (show ¬ sm_n o = 6 by rw [show (6 : Int32) = sm_n 6 from rfl, sm_neq (by omega) (by omega)]; exact c3), if_neg (show ¬ z = true by rw [hz0]; exact Bool.false_ne_true), sm_let, sm_let, show sm_n o + 1 = sm_n (o + 1) from sm_n_add _ 1, sm_mi0 (by omega), h4, show sm_n a + 1 = sm_n (a + 1) from sm_n_add _ 1]
    have M20 : (gk_mi (gk_mi m 0 23 (sm_n (o + 1))) 0 20 (sm_n (a + 1))).1 0 20 = sm_n (a + 1) := sm_mi1 _ _ _ _
    have M22 : (gk_mi (gk_mi m 0 23 (sm_n (o + 1))) 0 20 (sm_n (a + 1))).1 0 22 = -1 := by rw [sm_mi0 (by omega), sm_mi0 (by omega)]; exact hf
    have M23 : (gk_mi (gk_mi m 0 23 (sm_n (o + 1))) 0 20 (sm_n (a + 1))).1 0 23 = sm_n (o + 1) := by rw [sm_mi0 (by omega), sm_mi1]
    by_cases y3 : sl_b t L a = 40
    · obtain ⟨v, m2, e2, b1, b2, b3, b4⟩ := hE hz0 (a + 1) _ (sl_MS_fr f1 hS) M20 hl M22 M23
      obtain ⟨g1, g2, g3⟩ := hGE hz0 (a + 1)
      have g2 := g2 hl
      have f2 := sl_mfr_tr f1 b1
      rw [if_neg (show ¬ ¬ sm_n (sl_b t L a) = 40 from fun y => y (e40.mpr y3)), e2, sm_bi, if_neg (show ¬ sl_b t L a = 33 by omega), if_neg (show ¬ sl_b t L a = 45 by omega), if_pos y3]
      unfold f_M_one_83
      rw [if_neg (show ¬ ¬ sm_n (sl_b t L a) = 40 from fun y => y (e40.mpr y3))]
      cases hE1 : (E (a + 1)).1 with
      | false =>
        have n1 := b4 hE1
        rw [m_takesf n1 (by omega), sm_bi, if_neg (show ¬ ¬ (0 : Int32) = 0 from fun y => y rfl), m_wrongf n1 (by omega), sm_bi, if_neg (show ¬ (false = true ∧ sl_b t L (E (a + 1)).2.1 = 41) from fun y => Bool.false_ne_true y.1)]
        exact ⟨_, _, rfl, f2, b2, fun y => absurd y Bool.false_ne_true, fun _ => n1⟩
      | true =>
        obtain ⟨n1, n2, n3⟩ := b3 hE1
        rw [show f_M_takes 41 m2 = _ from m_takes (s := 41) (sl_MS_fr f2 hS) b2 (by omega) n1 (by decide)]
        by_cases c7 : sl_b t L (E (a + 1)).2.1 = 41
        · rw [if_pos c7, sm_bi, if_pos (show ¬ (1 : Int32) = 0 by decide), if_pos (show true = true ∧ sl_b t L (E (a + 1)).2.1 = 41 from ⟨rfl, c7⟩)]
          unfold f_M_one_104
          rw [sm_let, sm_mi0 (by omega), n2, sl_s1 (b := o) (by omega) (by omega), if_neg (show ¬ ¬ sm_n (sl_b t L a) = 40 from fun y => y (e40.mpr y3))]
          refine ⟨_, _, rfl, sl_mfr_w (sl_mfr_w f2 (Or.inl rfl)) (Or.inr (Or.inr rfl)), ?_, fun _ => ⟨?_, sm_mi1 _ _ _ _, ?_⟩, fun y => absurd y.symm Bool.false_ne_true⟩
          · rw [sm_mi0 (by omega), sm_mi1]
          · rw [sm_mi0 (by omega), sm_mi0 (by omega)]; exact n1
          · rw [n3, sl_m13 f1]
        · rw [if_neg c7, sm_bi, if_neg (show ¬ ¬ (0 : Int32) = 0 from fun y => y rfl), m_wrong n1 b2, sm_bi, if_neg (show ¬ (true = true ∧ sl_b t L (E (a + 1)).2.1 = 41) from fun y => c7 y.2)]
          exact ⟨_, _, rfl, sl_MP_flt f2 b2⟩
    · obtain ⟨v, m2, e2, b1, b2, b3, b4⟩ := hO hz0 (a + 1) _ (sl_MS_fr f1 hS) M20 hl M22 M23
      obtain ⟨g1, g2, g3⟩ := hGO hz0 (a + 1)
      have g2 := g2 hl
      have f2 := sl_mfr_tr f1 b1
      rw [if_pos (show ¬ sm_n (sl_b t L a) = 40 from fun y => y3 (e40.mp y)), e2, sm_bi]
      unfold f_M_one_83 f_M_one_104
      rw [if_pos (show ¬ sm_n (sl_b t L a) = 40 from fun y => y3 (e40.mp y)), sm_let]
      have fin : ∀ (q : sl_R) (w : Int32), q.1 = (O (a + 1)).1 → q.2.1 = (O (a + 1)).2.1 → ((O (a + 1)).1 = true → w = q.2.2.2 (sl_cut (m.1 13))) → sl_MP m o q w (gk_mi m2 0 23 ((m2.1 0 23) - 1)) := by
        intro q w h1 h2 h3
        refine ⟨sl_mfr_w f2 (Or.inr (Or.inr rfl)), by rw [sm_mi0 (by omega), h2]; exact b2, fun y => ?_, fun y => by rw [sm_mi0 (by omega), h2]; exact b4 (h1.symm.trans y)⟩
        obtain ⟨n1, n2, n3⟩ := b3 (h1.symm.trans y)
        exact ⟨by rw [sm_mi0 (by omega)]; exact n1, by rw [sm_mi1, n2, sl_s1 (b := o) (by omega) (by omega)], h3 (h1.symm.trans y)⟩
      by_cases y1 : sl_b t L a = 33
      · rw [if_pos (show ¬ sm_n (sl_b t L a) = 40 from fun y => y3 (e40.mp y)), if_pos (show ¬ sm_n (sl_b t L a) = 45 from fun y => by have := e45.mp y; omega), if_pos y1]
        by_cases z1 : v = 0
        · rw [if_neg (show ¬ ¬ v = 0 from fun y => y z1)]
          refine ⟨_, _, rfl, fin _ _ rfl rfl (fun y => ?_)⟩
          have n3 := (b3 y).2.2
          rw [sl_m13 f1] at n3
          show 1 = (if ¬ (O (a + 1)).2.2.2 (sl_cut (m.1 13)) = 0 then 0 else 1)
          rw [← n3, if_neg (show ¬ ¬ v = 0 from fun y => y z1)]
        · rw [if_pos (show ¬ v = 0 from z1)]
          refine ⟨_, _, rfl, fin _ _ rfl rfl (fun y => ?_)⟩
          have n3 := (b3 y).2.2
          rw [sl_m13 f1] at n3
          show 0 = (if ¬ (O (a + 1)).2.2.2 (sl_cut (m.1 13)) = 0 then 0 else 1)
          rw [← n3, if_pos (show ¬ v = 0 from z1)]
      · have y2 : sl_b t L a = 45 := by omega
        rw [if_pos (show ¬ sm_n (sl_b t L a) = 40 from fun y => y3 (e40.mp y)), if_neg (show ¬ ¬ sm_n (sl_b t L a) = 45 from fun y => y (e45.mpr y2)), if_neg y1, if_pos y2]
        refine ⟨_, _, rfl, fin _ _ rfl rfl (fun y => ?_)⟩
        have n3 := (b3 y).2.2
        rw [sl_m13 f1] at n3
        show - v = - (O (a + 1)).2.2.2 (sl_cut (m.1 13))
        rw [← n3]
  · rw [if_neg (fun y => d1 (Or.inl (e33.mp y))), if_neg (fun y => d1 (Or.inr (Or.inl (e45.mp y)))), if_pos (show ¬ sm_n (sl_b t L a) = 40 from fun y => d1 (Or.inr (Or.inr (e40.mp y)))), m_nmv h8, sm_bi]
    by_cases c2 : sl_nm (sl_b t L a) < 6
    · have hl := sl_bl (t := t) (L := L) (a := a) (by have := sl_nm_s c2; omega)
      have nd : ¬ (48 ≤ sl_b t L a ∧ sl_b t L a ≤ 57) := by have := sl_nm_s c2; omega
      rw [if_neg nd, if_pos c2, show sl_mn (sl_b t L a) = sm_n (sl_nm (sl_b t L a)) from if_pos c2, if_neg (sm_nn (by omega)), sm_let, h4, show sm_n a + 1 = sm_n (a + 1) from sm_n_add _ 1, sm_ai (by omega) (by omega), sm_mi0 (by omega)]
      refine ⟨_, _, rfl, sl_mfr_w sl_mfr0 (Or.inl rfl), sm_mi1 _ _ _ _, fun _ => ⟨by rw [sm_mi0 (by omega)]; exact hf, by rw [sm_mi0 (by omega)]; exact h23, (sl_cut6 c2).symm⟩, fun y => absurd y.symm Bool.false_ne_true⟩
    · obtain ⟨i', j1, j2, j3⟩ := m_num (q0 := q0) (q1 := q1) (q2 := q2) (q3 := q3) (q4 := q4) (q5 := q5) hS 4 0 gk_fv 0 a m (by omega) (by rw [gk_fv_eq]; omega) ha sl_mfr0 h4
      rw [show sl_mn (sl_b t L a) = -1 from if_neg c2, if_pos (show (-1 : Int32) < 0 by decide), show f_M_one_176 q0 q1 q2 q3 q4 q5 gk_fv 0 0 m = _ from j3]
      unfold f_M_one_229
      by_cases c1 : 48 ≤ sl_b t L a ∧ sl_b t L a ≤ 57
      · rw [if_pos c1, if_pos (show ¬ sm_n i' = 0 by rw [show (0 : Int32) = sm_n 0 from rfl, sm_neq (by omega) (by omega)]; omega)]
        exact ⟨_, _, rfl, sl_mfr_w sl_mfr0 (Or.inl rfl), sm_mi1 _ _ _ _, fun _ => ⟨by rw [sm_mi0 (by omega)]; exact hf, by rw [sm_mi0 (by omega)]; exact h23, rfl⟩, fun y => absurd y.symm Bool.false_ne_true⟩
      · have ed : sl_dg (sl_b t L) 4 0 a = (0, a) := by
          show (if 48 ≤ sl_b t L a ∧ sl_b t L a ≤ 57 then sl_dg (sl_b t L) 3 (10 * 0 + sl_b t L a - 48) (a + 1) else (0, a)) = _
          rw [if_neg c1]
        have i0 : i' = 0 := j1.mpr ⟨rfl, Or.inr c1⟩
        rw [if_neg c1, if_neg c2, i0, if_neg (show ¬ ¬ sm_n 0 = 0 from fun y => y rfl), ed]
        show ∃ v m', (gk_bi (f_M_wrong (gk_mi m 0 20 (sm_n a))) fun v2 m1 => some (v2, m1)) = some (v, m') ∧ _
        rw [sv_mi_id h4, m_wrong hf h4, sm_bi]
        have ez : (if z = true then sl_fl a else if sl_b t L a = 33 then ((O (a + 1)).1, (O (a + 1)).2.1, (O (a + 1)).2.2.1 ++ [-133], fun ns => if ¬ (O (a + 1)).2.2.2 ns = 0 then 0 else 1) else if sl_b t L a = 45 then ((O (a + 1)).1, (O (a + 1)).2.1, (O (a + 1)).2.2.1 ++ [-400], fun ns => - (O (a + 1)).2.2.2 ns) else if sl_b t L a = 40 then (if (E (a + 1)).1 = true ∧ sl_b t L (E (a + 1)).2.1 = 41 then (true, (E (a + 1)).2.1 + 1, (E (a + 1)).2.2.1, (E (a + 1)).2.2.2) else sl_fl (E (a + 1)).2.1) else sl_fl a) = sl_fl a := by
          rw [if_neg (show ¬ sl_b t L a = 33 from fun y => d1 (Or.inl y)), if_neg (show ¬ sl_b t L a = 45 from fun y => d1 (Or.inr (Or.inl y))), if_neg (show ¬ sl_b t L a = 40 from fun y => d1 (Or.inr (Or.inr y))), ite_self]
        rw [ez]
        exact ⟨_, _, rfl, sl_MP_flt sl_mfr0 h4⟩
theorem m_V {o D0 : Nat} {sub : Nat → sl_R} (hsub : ∀ a, sl_G L a (sub a)) (hq : ∀ D, D0 ≤ D → sl_mr t L o (fun m => r_M_one D 0 m) sub) : ∀ j, j ≤ 5 → ∀ D, D0 + j ≤ D → sl_mr t L o (fun m => r_M_one D j m) (sl_V (sl_b t L) sub j)
  | 0, _, D, hD => hq D (by omega)
  | 1, _, D + 1, hD => by
    have ih := m_V hsub hq 0 (by omega) D (by omega)
    have h := m_l4 (q1 := fun m => r_M_one D 1 m) (q2 := fun m => r_M_one D 2 m) (q3 := fun m => r_M_one D 3 m) (q4 := fun m => r_M_one D 4 m) (q5 := fun m => r_M_one D 5 m) (sl_G_V hsub 0) ih
    intro a m hS h4 ha hf h23
    obtain ⟨v, m', e, P⟩ := h a m hS h4 ha hf h23
    refine ⟨v, m', ?_, P⟩
    show r_M_one (D + 1) 1 m = _
    rw [r_M_one_e1]; exact e
  | 2, _, D + 1, hD => by
    have ih := m_V hsub hq 1 (by omega) D (by omega)
    have h := m_l3 (q0 := fun m => r_M_one D 0 m) (q2 := fun m => r_M_one D 2 m) (q3 := fun m => r_M_one D 3 m) (q4 := fun m => r_M_one D 4 m) (q5 := fun m => r_M_one D 5 m) (sl_G_V hsub 1) ih
    intro a m hS h4 ha hf h23
    obtain ⟨v, m', e, P⟩ := h a m hS h4 ha hf h23
    refine ⟨v, m', ?_, P⟩
    show r_M_one (D + 1) 2 m = _
    rw [r_M_one_e2]; exact e
  | 3, _, D + 1, hD => by
    have ih := m_V hsub hq 2 (by omega) D (by omega)
    have h := m_l2 (q0 := fun m => r_M_one D 0 m) (q1 := fun m => r_M_one D 1 m) (q3 := fun m => r_M_one D 3 m) (q4 := fun m => r_M_one D 4 m) (q5 := fun m => r_M_one D 5 m) (sl_G_V hsub 2) ih
    intro a m hS h4 ha hf h23
    obtain ⟨v, m', e, P⟩ := h a m hS h4 ha hf h23
    refine ⟨v, m', ?_, P⟩
    show r_M_one (D + 1) 3 m = _
    rw [r_M_one_e3]; exact e
  | 4, _, D + 1, hD => by
    have ih := m_V hsub hq 3 (by omega) D (by omega)
    have h := m_l1 (q0 := fun m => r_M_one D 0 m) (q1 := fun m => r_M_one D 1 m) (q2 := fun m => r_M_one D 2 m) (q4 := fun m => r_M_one D 4 m) (q5 := fun m => r_M_one D 5 m) (sl_G_V hsub 3) ih
    intro a m hS h4 ha hf h23
    obtain ⟨v, m', e, P⟩ := h a m hS h4 ha hf h23
    refine ⟨v, m', ?_, P⟩
    show r_M_one (D + 1) 4 m = _
    rw [r_M_one_e4]; exact e
  | 5, _, D + 1, hD => by
    have ih := m_V hsub hq 4 (by omega) D (by omega)
    have h := m_l0 (q0 := fun m => r_M_one D 0 m) (q1 := fun m => r_M_one D 1 m) (q2 := fun m => r_M_one D 2 m) (q3 := fun m => r_M_one D 3 m) (q5 := fun m => r_M_one D 5 m) (sl_G_V hsub 4) ih
    intro a m hS h4 ha hf h23
    obtain ⟨v, m', e, P⟩ := h a m hS h4 ha hf h23
    refine ⟨v, m', ?_, P⟩
    show r_M_one (D + 1) 5 m = _
    rw [r_M_one_e5]; exact e
theorem m_O : ∀ k o, o + k = 6 → ∀ D, 7 * k + 1 ≤ D → sl_mr t L o (fun m => r_M_one D 0 m) (sl_O (sl_b t L) k)
  | 0, o, ho, D + 1, hD => by
    have h := m_op0 (t := t) (L := L) (q0 := fun m => r_M_one D 0 m) (q1 := fun m => r_M_one D 1 m) (q2 := fun m => r_M_one D 2 m) (q3 := fun m => r_M_one D 3 m) (q4 := fun m => r_M_one D 4 m) (q5 := fun m => r_M_one D 5 m) (o := o) (z := true) (O := sl_fl) (E := sl_fl) (by omega) (by rw [decide_eq_true (show o = 6 by omega)]) (fun z => absurd z.symm Bool.false_ne_true) (fun z => absurd z.symm Bool.false_ne_true) (fun z => absurd z.symm Bool.false_ne_true) (fun z => absurd z.symm Bool.false_ne_true)
    intro a m hS h4 ha hf h23
    obtain ⟨v, m', e, P⟩ := h a m hS h4 ha hf h23
    refine ⟨v, m', ?_, P⟩
    show r_M_one (D + 1) 0 m = _
    rw [r_M_one_e0]; exact e
  | k + 1, o, ho, D + 1, hD => by
    have ih := m_O k (o + 1) (by omega)
    have h := m_op0 (t := t) (L := L) (q0 := fun m => r_M_one D 0 m) (q1 := fun m => r_M_one D 1 m) (q2 := fun m => r_M_one D 2 m) (q3 := fun m => r_M_one D 3 m) (q4 := fun m => r_M_one D 4 m) (q5 := fun m => r_M_one D 5 m) (o := o) (z := false) (O := sl_O (sl_b t L) k) (E := sl_V (sl_b t L) (sl_O (sl_b t L) k) 5) (by omega) (by rw [decide_eq_false (show ¬ o = 6 by omega)]) (fun _ => ih D (by omega)) (fun _ => m_V (sl_G_O k) ih 5 (Nat.le_refl 5) D (by omega)) (fun _ => sl_G_O k) (fun _ => sl_G_V (sl_G_O k) 5)
    intro a m hS h4 ha hf h23
    obtain ⟨v, m', e, P⟩ := h a m hS h4 ha hf h23
    refine ⟨v, m', ?_, P⟩
    show r_M_one (D + 1) 0 m = _
    rw [r_M_one_e0]; exact e
theorem m_E0 : sl_mr t L 0 (fun m => f_M_either m) (sl_E0 t L) :=
  m_V (sl_G_O 6) (m_O 6 0 (by omega)) 5 (Nat.le_refl 5) 60 (by omega)
end MR
