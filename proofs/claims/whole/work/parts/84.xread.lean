/-! SIM: the law's text read by the class -/
def sl_XS (t : Nat → Nat) (L : Nat) (m : gk_M) : Prop := m.1 4 2 = sm_n L ∧ L ≤ 120 ∧ ∀ i, i < L → t i < 256 ∧ m.1 6 i = sm_n (t i)
def sl_nx (t : Nat → Nat) (L a : Nat) : Int32 := if a < L then sm_n (t a) else -1
/-- the byte read: a number, or none; alike for all that is asked of it -/
def sl_va (v : Int32) (c : Nat) : Prop := c < 256 ∧ (v = sm_n c ∨ (v = -1 ∧ c = 0))
theorem sl_nxv {t : Nat → Nat} {L a : Nat} (h : ∀ i, i < L → t i < 256) : sl_va (sl_nx t L a) (sl_b t L a) := by
  unfold sl_va sl_nx sl_b
  by_cases e : a < L
  · rw [if_pos e, if_pos e]; exact ⟨h a e, Or.inl rfl⟩
  · rw [if_neg e, if_neg e]; exact ⟨by omega, Or.inr ⟨rfl, rfl⟩⟩
theorem sl_va_eq {v : Int32} {c s : Nat} (h : sl_va v c) (h0 : s ≠ 0) (hs : s < 256) : v = sm_n s ↔ c = s := by
  obtain ⟨hc, rfl | ⟨rfl, rfl⟩⟩ := h
  · exact sm_neq (by omega) (by omega)
  · constructor
    · intro z
      rw [eq_comm, sm_nm1 (by omega)] at z
      exact z.elim
    · intro z; omega
theorem sl_va_lt {v : Int32} {c s : Nat} (h : sl_va v c) (h0 : s ≠ 0) (hs : s < 256) : v < sm_n s ↔ c < s := by
  obtain ⟨hc, rfl | ⟨rfl, rfl⟩⟩ := h
  · exact sm_nlt (by omega) (by omega)
  · rw [sm_lt, sm_n_int (by omega), show (-1 : Int32).toInt = -1 from rfl]
    omega
theorem sl_va_gt {v : Int32} {c s : Nat} (h : sl_va v c) (h0 : s ≠ 0) (hs : s < 256) : sm_n s < v ↔ s < c := by
  obtain ⟨hc, rfl | ⟨rfl, rfl⟩⟩ := h
  · exact sm_nlt (by omega) (by omega)
  · rw [sm_lt, sm_n_int (by omega), show (-1 : Int32).toInt = -1 from rfl]
    omega
theorem sl_va_n {v : Int32} {c : Nat} (h : sl_va v c) (h0 : c ≠ 0) : v = sm_n c := by
  rcases h.2 with h | ⟨_, h⟩
  · exact h
  · exact absurd h h0
def sl_xn (c : Nat) : Int32 := if sl_nm c < 6 then sm_i (-1 - (sl_nm c : Int)) else 0
def sl_xl (c : Nat) : Int32 := if sl_lv c < 5 then sm_n (sl_lv c) else -1
theorem x_nmv {v : Int32} {c : Nat} (h : sl_va v c) (m : gk_M) : f_Reader_nameOf v m = some (sl_xn c, m) := by
  unfold f_Reader_nameOf
  have e97 : v = 97 ↔ c = 97 := sl_va_eq (s := 97) h (by decide) (by decide)
  have e98 : v = 98 ↔ c = 98 := sl_va_eq (s := 98) h (by decide) (by decide)
  have e99 : v = 99 ↔ c = 99 := sl_va_eq (s := 99) h (by decide) (by decide)
  have e100 : v = 100 ↔ c = 100 := sl_va_eq (s := 100) h (by decide) (by decide)
  have e101 : v = 101 ↔ c = 101 := sl_va_eq (s := 101) h (by decide) (by decide)
  have e102 : v = 102 ↔ c = 102 := sl_va_eq (s := 102) h (by decide) (by decide)
  have e103 : v = 103 ↔ c = 103 := sl_va_eq (s := 103) h (by decide) (by decide)
  have e104 : v = 104 ↔ c = 104 := sl_va_eq (s := 104) h (by decide) (by decide)
  have e105 : v = 105 ↔ c = 105 := sl_va_eq (s := 105) h (by decide) (by decide)
  have e106 : v = 106 ↔ c = 106 := sl_va_eq (s := 106) h (by decide) (by decide)
  have e107 : v = 107 ↔ c = 107 := sl_va_eq (s := 107) h (by decide) (by decide)
  have e108 : v = 108 ↔ c = 108 := sl_va_eq (s := 108) h (by decide) (by decide)
  have e109 : v = 109 ↔ c = 109 := sl_va_eq (s := 109) h (by decide) (by decide)
  have e110 : v = 110 ↔ c = 110 := sl_va_eq (s := 110) h (by decide) (by decide)
  have e111 : v = 111 ↔ c = 111 := sl_va_eq (s := 111) h (by decide) (by decide)
  simp only [e97, e98, e99, e100, e101, e102, e103, e104, e105, e106, e107, e108, e109, e110, e111]
  by_cases h97 : c = 97
  · rw [if_pos h97, h97]; rfl
  by_cases h98 : c = 98
  · rw [if_neg h97, if_pos h98, h98]; rfl
  by_cases h99 : c = 99
  · rw [if_neg h97, if_neg h98, if_pos h99, h99]; rfl
  by_cases h100 : c = 100
  · rw [if_neg h97, if_neg h98, if_neg h99, if_pos h100, h100]; rfl
  by_cases h101 : c = 101
  · rw [if_neg h97, if_neg h98, if_neg h99, if_neg h100, if_pos h101, h101]; rfl
  by_cases h102 : c = 102
  · rw [if_neg h97, if_neg h98, if_neg h99, if_neg h100, if_neg h101, if_pos h102, h102]; rfl
  by_cases h103 : c = 103
  · rw [if_neg h97, if_neg h98, if_neg h99, if_neg h100, if_neg h101, if_neg h102, if_pos h103, h103]; rfl
  by_cases h104 : c = 104
  · rw [if_neg h97, if_neg h98, if_neg h99, if_neg h100, if_neg h101, if_neg h102, if_neg h103, if_pos h104, h104]; rfl
  by_cases h105 : c = 105
  · rw [if_neg h97, if_neg h98, if_neg h99, if_neg h100, if_neg h101, if_neg h102, if_neg h103, if_neg h104, if_pos h105, h105]; rfl
  by_cases h106 : c = 106
  · rw [if_neg h97, if_neg h98, if_neg h99, if_neg h100, if_neg h101, if_neg h102, if_neg h103, if_neg h104, if_neg h105, if_pos h106, h106]; rfl
  by_cases h107 : c = 107
  · rw [if_neg h97, if_neg h98, if_neg h99, if_neg h100, if_neg h101, if_neg h102, if_neg h103, if_neg h104, if_neg h105, if_neg h106, if_pos h107, h107]; rfl
  by_cases h108 : c = 108
  · rw [if_neg h97, if_neg h98, if_neg h99, if_neg h100, if_neg h101, if_neg h102, if_neg h103, if_neg h104, if_neg h105, if_neg h106, if_neg h107, if_pos h108, h108]; rfl
  by_cases h109 : c = 109
  · rw [if_neg h97, if_neg h98, if_neg h99, if_neg h100, if_neg h101, if_neg h102, if_neg h103, if_neg h104, if_neg h105, if_neg h106, if_neg h107, if_neg h108, if_pos h109, h109]; rfl
  by_cases h110 : c = 110
  · rw [if_neg h97, if_neg h98, if_neg h99, if_neg h100, if_neg h101, if_neg h102, if_neg h103, if_neg h104, if_neg h105, if_neg h106, if_neg h107, if_neg h108, if_neg h109, if_pos h110, h110]; rfl
  by_cases h111 : c = 111
  · rw [if_neg h97, if_neg h98, if_neg h99, if_neg h100, if_neg h101, if_neg h102, if_neg h103, if_neg h104, if_neg h105, if_neg h106, if_neg h107, if_neg h108, if_neg h109, if_neg h110, if_pos h111, h111]; rfl
  rw [if_neg h97, if_neg h98, if_neg h99, if_neg h100, if_neg h101, if_neg h102, if_neg h103, if_neg h104, if_neg h105, if_neg h106, if_neg h107, if_neg h108, if_neg h109, if_neg h110, if_neg h111]
  unfold sl_xn
  rw [if_neg (fun z => by have := sl_nm_s z; omega)]
theorem x_lvv {v : Int32} {c : Nat} (h : sl_va v c) (m : gk_M) : f_Reader_levelOf v m = some (sl_xl c, m) := by
  unfold f_Reader_levelOf
  have e37 : v = 37 ↔ c = 37 := sl_va_eq (s := 37) h (by decide) (by decide)
  have e38 : v = 38 ↔ c = 38 := sl_va_eq (s := 38) h (by decide) (by decide)
  have e42 : v = 42 ↔ c = 42 := sl_va_eq (s := 42) h (by decide) (by decide)
  have e43 : v = 43 ↔ c = 43 := sl_va_eq (s := 43) h (by decide) (by decide)
  have e45 : v = 45 ↔ c = 45 := sl_va_eq (s := 45) h (by decide) (by decide)
  have e47 : v = 47 ↔ c = 47 := sl_va_eq (s := 47) h (by decide) (by decide)
  have e60 : v = 60 ↔ c = 60 := sl_va_eq (s := 60) h (by decide) (by decide)
  have e61 : v = 61 ↔ c = 61 := sl_va_eq (s := 61) h (by decide) (by decide)
  have e62 : v = 62 ↔ c = 62 := sl_va_eq (s := 62) h (by decide) (by decide)
  have e124 : v = 124 ↔ c = 124 := sl_va_eq (s := 124) h (by decide) (by decide)
  simp only [e37, e38, e42, e43, e45, e47, e60, e61, e62, e124]
  by_cases h37 : c = 37
  · rw [if_pos h37, h37]; rfl
  by_cases h38 : c = 38
  · rw [if_neg h37, if_pos h38, h38]; rfl
  by_cases h42 : c = 42
  · rw [if_neg h37, if_neg h38, if_pos h42, h42]; rfl
  by_cases h43 : c = 43
  · rw [if_neg h37, if_neg h38, if_neg h42, if_pos h43, h43]; rfl
  by_cases h45 : c = 45
  · rw [if_neg h37, if_neg h38, if_neg h42, if_neg h43, if_pos h45, h45]; rfl
  by_cases h47 : c = 47
  · rw [if_neg h37, if_neg h38, if_neg h42, if_neg h43, if_neg h45, if_pos h47, h47]; rfl
  by_cases h60 : c = 60
  · rw [if_neg h37, if_neg h38, if_neg h42, if_neg h43, if_neg h45, if_neg h47, if_pos h60, h60]; rfl
  by_cases h61 : c = 61
  · rw [if_neg h37, if_neg h38, if_neg h42, if_neg h43, if_neg h45, if_neg h47, if_neg h60, if_pos h61, h61]; rfl
  by_cases h62 : c = 62
  · rw [if_neg h37, if_neg h38, if_neg h42, if_neg h43, if_neg h45, if_neg h47, if_neg h60, if_neg h61, if_pos h62, h62]; rfl
  by_cases h124 : c = 124
  · rw [if_neg h37, if_neg h38, if_neg h42, if_neg h43, if_neg h45, if_neg h47, if_neg h60, if_neg h61, if_neg h62, if_pos h124, h124]; rfl
  rw [if_neg h37, if_neg h38, if_neg h42, if_neg h43, if_neg h45, if_neg h47, if_neg h60, if_neg h61, if_neg h62, if_neg h124]
  unfold sl_xl
  rw [if_neg (fun z => by have := sl_lv_s z; omega)]
theorem sl_xl_eq {c lev : Nat} (hlev : lev < 5) : sl_xl c = sm_n lev ↔ sl_lv c = lev := by
  unfold sl_xl
  by_cases e : sl_lv c < 5
  · rw [if_pos e]; exact sm_neq (by omega) (by omega)
  · rw [if_neg e]
    constructor
    · intro z
      rw [eq_comm, sm_nm1 (by omega)] at z
      exact z.elim
    · intro z; omega
section XR
variable {t : Nat → Nat} {L : Nat} {m m0 : gk_M}
theorem x_next {a : Nat} (hS : sl_XS t L m) (h4 : m.1 4 4 = sm_n a) (ha : a ≤ 120) : f_Reader_next m = some (sl_nx t L a, m) := by
  obtain ⟨h1, h2, h3⟩ := hS
  unfold f_Reader_next sl_nx
  rw [h1, h4]
  by_cases e : a < L
  · rw [if_neg (show ¬ sm_n L ≤ sm_n a by rw [sm_nle (by omega) (by omega)]; omega), if_pos e, sm_ai (by omega) (by omega), (h3 a e).2]
  · rw [if_pos (show sm_n L ≤ sm_n a by rw [sm_nle (by omega) (by omega)]; omega), if_neg e]
theorem sl_XS_va (hS : sl_XS t L m) (a : Nat) : sl_va (sl_nx t L a) (sl_b t L a) := sl_nxv (fun i hi => (hS.2.2 i hi).1)
/-- what a piece of reading leaves -/
def sl_fr (m0 m : gk_M) : Prop := (∀ k j, k ≠ 5 → ¬ (k = 4 ∧ (j = 1 ∨ j = 4 ∨ j = 5)) → m.1 k j = m0.1 k j) ∧ m.2 = m0.2
theorem sl_fr_tr {m1 m2 m3 : gk_M} (h : sl_fr m1 m2) (h2 : sl_fr m2 m3) : sl_fr m1 m3 :=
  ⟨fun k j a b => (h2.1 k j a b).trans (h.1 k j a b), h2.2.trans h.2⟩
theorem sl_fr_w {k j : Nat} {v : Int32} (h : sl_fr m0 m) (hk : k = 5 ∨ (k = 4 ∧ (j = 1 ∨ j = 4 ∨ j = 5))) : sl_fr m0 (gk_mi m k j v) :=
  ⟨fun x y a b => by rw [sm_mi0 (by omega)]; exact h.1 x y a b, h.2⟩
theorem sl_fr0 : sl_fr m m := ⟨fun _ _ _ _ => rfl, rfl⟩
theorem sl_XS_fr (h : sl_fr m0 m) (hS : sl_XS t L m0) : sl_XS t L m :=
  ⟨(h.1 4 2 (by decide) (by omega)).trans hS.1, hS.2.1, fun i hi => ⟨(hS.2.2 i hi).1, (h.1 6 i (by decide) (by omega)).trans (hS.2.2 i hi).2⟩⟩
def sl_XP (m0 : gk_M) (d0 : Nat) (r : sl_R) (m : gk_M) : Prop := sl_fr m0 m ∧ m.1 4 4 = sm_n r.2.1 ∧ (r.1 = true → m.1 4 5 = -1 ∧ m.1 4 1 = sm_n (d0 + r.2.2.1.length) ∧ sl_at 5 m d0 r.2.2.1 ∧ ∀ j, j < d0 → m.1 5 j = m0.1 5 j) ∧ (r.1 = false → m.1 4 5 = sm_n r.2.1 ∧ ∃ d, d ≤ 256 ∧ m.1 4 1 = sm_n d)
def sl_xr (t : Nat → Nat) (L : Nat) (q : gk_M → Option (Unit × gk_M)) (sub : Nat → sl_R) : Prop := ∀ a d m, sl_XS t L m → m.1 4 4 = sm_n a → a ≤ L → m.1 4 5 = -1 → m.1 4 1 = sm_n d → d + (L - a) ≤ 200 → ∃ m', q m = some ((), m') ∧ sl_XP m d (sub a) m'
theorem x_draw {d : Nat} {c : Int32} (h : m.1 4 1 = sm_n d) (hd : d < 256) : f_Reader_draw c m = some ((), gk_mi (gk_mi m 5 d c) 4 1 (sm_n (d + 1))) := by
  unfold f_Reader_draw
  rw [h, if_neg (show ¬ 256 ≤ sm_n d by rw [show (256 : Int32) = sm_n 256 from rfl, sm_nle (by omega) (by omega)]; omega), sm_si hd (by omega), sm_let, sm_mi0 (by omega), h, show sm_n d + 1 = sm_n (d + 1) from sm_n_add d 1]
/-- a code more -/
theorem sl_XP_draw {d0 : Nat} {c : Int32} {r q : sl_R} (h : sl_XP m0 d0 r m) (hq1 : q.1 = r.1) (hq2 : q.2.1 = r.2.1) (hq3 : q.2.2.1 = r.2.2.1 ++ [c]) (hd : r.1 = true → d0 + r.2.2.1.length < 256) : ∃ m', f_Reader_draw c m = some ((), m') ∧ sl_XP m0 d0 q m' := by
  obtain ⟨h1, h2, h3, h4⟩ := h
  cases hr : r.1 with
  | true =>
    obtain ⟨a1, a2, a3, a4⟩ := h3 hr
    have hd := hd hr
    refine ⟨_, x_draw a2 hd, sl_fr_w (sl_fr_w h1 (Or.inl rfl)) (Or.inr ⟨rfl, Or.inl rfl⟩), ?_, fun _ => ⟨?_, ?_, ?_, ?_⟩, fun z => ?_⟩
    · rw [sm_mi0 (by omega), sm_mi0 (by omega), hq2]; exact h2
    · rw [sm_mi0 (by omega), sm_mi0 (by omega)]; exact a1
    · rw [sm_mi1, hq3, List.length_append]; rfl
    · rw [hq3, sl_at_app]
      refine ⟨sl_at_cg _ _ (fun j j1 j2 => by rw [sm_mi0 (by omega), sm_mi0 (by omega)]) a3, ?_, trivial⟩
      rw [sm_mi0 (by omega), sm_mi1]
    · intro j hj
      rw [sm_mi0 (by omega), sm_mi0 (by omega)]; exact a4 j hj
    · rw [hq1, hr] at z; exact absurd z.symm Bool.false_ne_true
  | false =>
    obtain ⟨a1, d, a2, a3⟩ := h4 hr
    have hqf : q.1 = true → False := fun z => by rw [hq1, hr] at z; exact Bool.false_ne_true z
    by_cases e : d < 256
    · refine ⟨_, x_draw a3 e, sl_fr_w (sl_fr_w h1 (Or.inl rfl)) (Or.inr ⟨rfl, Or.inl rfl⟩), ?_, fun z => (hqf z).elim, fun _ => ⟨?_, d + 1, by omega, sm_mi1 _ _ _ _⟩⟩
      · rw [sm_mi0 (by omega), sm_mi0 (by omega), hq2]; exact h2
      · rw [sm_mi0 (by omega), sm_mi0 (by omega), hq2]; exact a1
    · refine ⟨m, ?_, h1, by rw [hq2]; exact h2, fun z => (hqf z).elim, fun _ => ⟨by rw [hq2]; exact a1, d, a2, a3⟩⟩
      unfold f_Reader_draw
      rw [a3, if_pos (show 256 ≤ sm_n d by rw [show (256 : Int32) = sm_n 256 from rfl, sm_nle (by omega) (by omega)]; omega)]
theorem sl_fneg {a : Nat} (h : a ≤ 120) : 0 ≤ sm_n a := sm_nn' (by omega)
theorem x_lev21 {q0 : Int32 → gk_M → Option (Unit × gk_M)} {q1 : Int32 → Int32 → gk_M → Option (Unit × gk_M)} {lev op : Nat} (hlev : lev < 5) {sub : Nat → sl_R} (hsub : ∀ a, sl_G L a (sub a)) (hq : sl_xr t L (fun m => q1 (sm_n (lev + 1)) (sm_n op) m) sub) {a0 d0 : Nat} (hS0 : sl_XS t L m0) (ha0 : a0 ≤ L) (hd0 : d0 + (L - a0) ≤ 200) : ∀ n i fu r m, i + n = 120 → n < fu → sl_G L a0 r → sl_XP m0 d0 r m → ∃ m', f_Reader_readLevel_21 q0 q1 fu (sm_n lev) (sm_n op) (sm_n i) m = some ((), m') ∧ sl_XP m0 d0 (sl_lp (sl_b t L) lev sub n r) m'
  | 0, i, fu + 1, r, m, h1, h3, hG, hP => by
    refine ⟨m, ?_, hP⟩
    rw [f_Reader_readLevel_21]
    rw [if_pos (show 120 ≤ sm_n i by simp (disch := omega) only [sm_lit, sm_nlt, sm_nle, sm_neq, sm_n_add, sm_n_mul, sm_n_div, sm_n_rem, sm_bi, sm_bl, sm_bv, sm_let, sm_zz0, sm_zz1, sm_ai, sm_si, sm_al, sm_sl, sm_ar, sm_mi1, sm_mi0, sm_ml1, sm_ml0, sm_mil, sm_mli]; omega)]
  | n + 1, i, fu + 1, r, m, h1, h3, hG, hP => by
    have hL := hS0.2.1
    obtain ⟨p1, p2, p3, p4⟩ := id hP
    have hS := sl_XS_fr p1 hS0
    obtain ⟨g1, g2, g3⟩ := hG
    have g2 := g2 ha0
    rw [f_Reader_readLevel_21]
    rw [if_neg (show ¬ 120 ≤ sm_n i by simp (disch := omega) only [sm_lit, sm_nlt, sm_nle, sm_neq, sm_n_add, sm_n_mul, sm_n_div, sm_n_rem, sm_bi, sm_bl, sm_bv, sm_let, sm_zz0, sm_zz1, sm_ai, sm_si, sm_al, sm_sl, sm_ar, sm_mi1, sm_mi0, sm_ml1, sm_ml0, sm_mil, sm_mli]; omega)]
    unfold sl_lp
    cases hr : r.1 with
    | false =>
      rw [(p4 hr).1, if_pos (sl_fneg (by omega)), if_neg (show ¬ (false = true ∧ sl_lv (sl_b t L r.2.1) = lev) from fun z => Bool.false_ne_true z.1)]
      exact ⟨m, rfl, hP⟩
    | true =>
      obtain ⟨a1, a2, a3, a4⟩ := p3 hr
      obtain ⟨g4, g5, g6, g7⟩ := g3 hr
      rw [a1, if_neg (show ¬ (0 : Int32) ≤ -1 by decide), x_next hS p2 (by omega), sm_bi, x_lvv (sl_XS_va hS _), sm_bi]
      by_cases e : sl_lv (sl_b t L r.2.1) = lev
      · have hc0 := sl_lv0 hlev e
        have hl := sl_bl (t := t) (L := L) (a := r.2.1) hc0
        have hva := sl_va_n (sl_XS_va hS r.2.1) hc0
        have hc8 : sl_b t L r.2.1 < 128 := by have := sl_lv_s (c := sl_b t L r.2.1) (by omega); omega
        obtain ⟨m2, q2, P2⟩ := hq (r.2.1 + 1) (d0 + r.2.2.1.length) (gk_mi m 4 4 (sm_n (r.2.1 + 1))) (sl_XS_fr (sl_fr_w sl_fr0 (Or.inr ⟨rfl, Or.inr (Or.inl rfl)⟩)) hS) (sm_mi1 _ _ _ _) hl (by rw [sm_mi0 (by omega)]; exact a1) (by rw [sm_mi0 (by omega)]; exact a2) (by omega)
        have P3 : sl_XP m0 d0 ((sub (r.2.1 + 1)).1, (sub (r.2.1 + 1)).2.1, r.2.2.1 ++ (sub (r.2.1 + 1)).2.2.1, fun _ => 0) m2 := by
          obtain ⟨b1, b2, b3, b4⟩ := P2
          refine ⟨sl_fr_tr (sl_fr_w p1 (Or.inr ⟨rfl, Or.inr (Or.inl rfl)⟩)) b1, b2, fun z => ?_, b4⟩
          obtain ⟨c1, c2, c3, c4⟩ := b3 z
          refine ⟨c1, ?_, ?_, fun j hj => ?_⟩
          · rw [c2, List.length_append]; congr 1; omega
          · rw [sl_at_app]
            exact ⟨sl_at_cg _ _ (fun j j1 j2 => by rw [c4 j (by omega), sm_mi0 (by omega)]) a3, c3⟩
          · rw [c4 j (by omega), sm_mi0 (by omega)]; exact a4 j hj
        obtain ⟨s1, s2, s3⟩ := hsub (r.2.1 + 1)
        have s2 := s2 hl
        obtain ⟨m3, e3, P4⟩ := sl_XP_draw (c := sm_i (-100 - (sl_b t L r.2.1 : Int))) (q := sl_cb (sl_b t L r.2.1) r (sub (r.2.1 + 1))) P3 rfl rfl (by
          show r.2.2.1 ++ ((sub (r.2.1 + 1)).2.2.1 ++ [sm_i (-100 - (sl_b t L r.2.1 : Int))]) = r.2.2.1 ++ (sub (r.2.1 + 1)).2.2.1 ++ [sm_i (-100 - (sl_b t L r.2.1 : Int))]
          rw [List.append_assoc]) (fun z => by
          have := s3 z
          show d0 + (r.2.2.1 ++ (sub (r.2.1 + 1)).2.2.1).length < 256
          rw [List.length_append]
          omega)
        have G2 := sl_G_cb (c := sl_b t L r.2.1) (by omega) ⟨g1, fun _ => g2, g3⟩ hr hl (hsub (r.2.1 + 1))
        rw [if_neg (show ¬ ¬ sl_xl (sl_b t L r.2.1) = sm_n lev from fun z => z ((sl_xl_eq hlev).mpr e)), x_next hS p2 (by omega), sm_bi, sm_let, p2, show sm_n r.2.1 + 1 = sm_n (r.2.1 + 1) from sm_n_add _ 1, show sm_n lev + 1 = sm_n (lev + 1) from sm_n_add _ 1, show q1 (sm_n (lev + 1)) (sm_n op) (gk_mi m 4 4 (sm_n (r.2.1 + 1))) = _ from q2, sm_bv, hva, show (-100 : Int32) - sm_n (sl_b t L r.2.1) = sm_i (-100 - (sl_b t L r.2.1 : Int)) by rw [sm_ni, show (-100 : Int32) = sm_i (-100) from rfl, sm_i_sub], e3, sm_bv, if_pos (show true = true ∧ sl_lv (sl_b t L r.2.1) = lev from ⟨rfl, e⟩), show sm_n i + 1 = sm_n (i + 1) from sm_n_add i 1]
        by_cases e2 : lev = 2
        · rw [if_neg (show ¬ ¬ sm_n lev = 2 by rw [e2]; exact fun z => z rfl), if_pos e2]
          exact ⟨m3, rfl, P4⟩
        · rw [if_pos (show ¬ sm_n lev = 2 by rw [show (2 : Int32) = sm_n 2 from rfl, sm_neq (by omega) (by omega)]; exact e2), if_neg e2]
          exact x_lev21 hlev hsub hq hS0 ha0 hd0 n (i + 1) fu _ m3 (by omega) (by omega) G2 P4
      · rw [if_pos (show ¬ sl_xl (sl_b t L r.2.1) = sm_n lev from fun z => e ((sl_xl_eq hlev).mp z)), if_neg (fun z => e z.2)]
        exact ⟨m, rfl, hP⟩
theorem x_lev0 {q0 : Int32 → gk_M → Option (Unit × gk_M)} {q1 : Int32 → Int32 → gk_M → Option (Unit × gk_M)} {lev op : Nat} (hlev : lev < 5) {sub : Nat → sl_R} (hsub : ∀ a, sl_G L a (sub a)) (hq : sl_xr t L (fun m => q1 (sm_n (lev + 1)) (sm_n op) m) sub) : sl_xr t L (fun m => f_Reader_readLevel_0 q0 q1 (sm_n lev) (sm_n op) m) (sl_L (sl_b t L) lev sub) := by
  intro a d m hS h4 ha h5 h1 hd
  obtain ⟨m1, e1, P1⟩ := hq a d m hS h4 ha h5 h1 hd
  obtain ⟨m2, e2, P2⟩ := x_lev21 (q0 := q0) hlev hsub hq hS ha hd 120 0 gk_fv _ m1 (by omega) (by rw [gk_fv_eq]; omega) (hsub a) P1
  refine ⟨m2, ?_, P2⟩
  show f_Reader_readLevel_0 q0 q1 (sm_n lev) (sm_n op) m = _
  unfold f_Reader_readLevel_0
  rw [if_pos (show sm_n lev < 5 by simp (disch := omega) only [sm_lit, sm_nlt, sm_nle, sm_neq, sm_n_add, sm_n_mul, sm_n_div, sm_n_rem, sm_bi, sm_bl, sm_bv, sm_let, sm_zz0, sm_zz1, sm_ai, sm_si, sm_al, sm_sl, sm_ar, sm_mi1, sm_mi0, sm_ml1, sm_ml0, sm_mil, sm_mli]; omega), show sm_n lev + 1 = sm_n (lev + 1) from sm_n_add _ 1, show q1 (sm_n (lev + 1)) (sm_n op) m = _ from e1, sm_bv]
  exact e2
theorem x_num4 (hS0 : sl_XS t L m0) : ∀ n i fu v a m, i + n = 4 → n < fu → a ≤ L → sl_fr m0 m → m.1 4 4 = sm_n a → f_Reader_readNumber_4 fu (sm_n v) (sm_n i) m = f_Reader_readNumber_56 (sm_n (sl_dg (sl_b t L) n v a).1) (gk_mi m 4 4 (sm_n (sl_dg (sl_b t L) n v a).2))
  | 0, i, fu + 1, v, a, m, h1, h3, ha, hf, h4 => by
    unfold f_Reader_readNumber_4
    rw [if_pos (show 4 ≤ sm_n i by simp (disch := omega) only [sm_lit, sm_nlt, sm_nle, sm_neq, sm_n_add, sm_n_mul, sm_n_div, sm_n_rem, sm_bi, sm_bl, sm_bv, sm_let, sm_zz0, sm_zz1, sm_ai, sm_si, sm_al, sm_sl, sm_ar, sm_mi1, sm_mi0, sm_ml1, sm_ml0, sm_mil, sm_mli]; omega)]
    show _ = f_Reader_readNumber_56 (sm_n v) (gk_mi m 4 4 (sm_n a))
    rw [sv_mi_id h4]
  | n + 1, i, fu + 1, v, a, m, h1, h3, ha, hf, h4 => by
    have hL := hS0.2.1
    have hS := sl_XS_fr hf hS0
    have hva := sl_XS_va hS a
    have stop : ¬ (48 ≤ sl_b t L a ∧ sl_b t L a ≤ 57) → f_Reader_readNumber_56 (sm_n v) m = f_Reader_readNumber_56 (sm_n (sl_dg (sl_b t L) (n + 1) v a).1) (gk_mi m 4 4 (sm_n (sl_dg (sl_b t L) (n + 1) v a).2)) := by
      intro e
      have ed : sl_dg (sl_b t L) (n + 1) v a = (v, a) := by unfold sl_dg; rw [if_neg e]
      rw [ed]
      show _ = f_Reader_readNumber_56 (sm_n v) (gk_mi m 4 4 (sm_n a))
      rw [sv_mi_id h4]
    unfold f_Reader_readNumber_4
    rw [if_neg (show ¬ 4 ≤ sm_n i by simp (disch := omega) only [sm_lit, sm_nlt, sm_nle, sm_neq, sm_n_add, sm_n_mul, sm_n_div, sm_n_rem, sm_bi, sm_bl, sm_bv, sm_let, sm_zz0, sm_zz1, sm_ai, sm_si, sm_al, sm_sl, sm_ar, sm_mi1, sm_mi0, sm_ml1, sm_ml0, sm_mil, sm_mli]; omega), x_next hS h4 (by omega), sm_bi]
    by_cases e1 : sl_b t L a < 48
    · rw [if_pos (show sl_nx t L a < 48 from (sl_va_lt (s := 48) hva (by decide) (by decide)).mpr e1)]
      exact stop (by omega)
    · rw [if_neg (show ¬ sl_nx t L a < 48 from fun z => e1 ((sl_va_lt (s := 48) hva (by decide) (by decide)).mp z)), x_next hS h4 (by omega), sm_bi]
      by_cases e2 : 57 < sl_b t L a
      · rw [if_pos (show 57 < sl_nx t L a from (sl_va_gt (s := 57) hva (by decide) (by decide)).mpr e2)]
        exact stop (by omega)
      · have hl := sl_bl (t := t) (L := L) (a := a) (by omega)
        have ed : sl_dg (sl_b t L) (n + 1) v a = sl_dg (sl_b t L) n (10 * v + sl_b t L a - 48) (a + 1) := by
          show (if 48 ≤ sl_b t L a ∧ sl_b t L a ≤ 57 then sl_dg (sl_b t L) n (10 * v + sl_b t L a - 48) (a + 1) else (v, a)) = _
          rw [if_pos (by omega)]
        rw [if_neg (show ¬ 57 < sl_nx t L a from fun z => e2 ((sl_va_gt (s := 57) hva (by decide) (by decide)).mp z)), x_next hS h4 (by omega), sm_bi, sm_let, sm_let, h4, show sm_n a + 1 = sm_n (a + 1) from sm_n_add _ 1, sl_va_n hva (by omega), show sm_n v * 10 + sm_n (sl_b t L a) - 48 = sm_n (10 * v + sl_b t L a - 48) by rw [show (10 : Int32) = sm_n 10 from rfl, sm_n_mul, sm_n_add, show (48 : Int32) = sm_n 48 from rfl, sm_n_sub (by omega), Nat.mul_comm], show sm_n i + 1 = sm_n (i + 1) from sm_n_add _ 1, x_num4 hS0 n (i + 1) fu _ (a + 1) _ (by omega) (by omega) hl (sl_fr_w hf (Or.inr ⟨rfl, Or.inr (Or.inl rfl)⟩)) (sm_mi1 _ _ _ _), sv_mi2, ed]
theorem sl_nmb {c : Nat} (h : sl_nm c < 6) : ¬ sl_xn c = 0 := by
  unfold sl_xn
  rw [if_pos h]
  exact (by decide : ∀ i : Fin 6, ¬ sm_i (-1 - (i.1 : Int)) = 0) ⟨_, h⟩
/-- one code is read -/
theorem sl_XP_one {d a' : Nat} {c : Int32} {v : (Nat → Int32) → Int32} (hS : sl_XS t L m) (h5 : m.1 4 5 = -1) (h1 : m.1 4 1 = sm_n d) (hd : d < 256) : f_Reader_draw c (gk_mi m 4 4 (sm_n a')) = some ((), gk_mi (gk_mi (gk_mi m 4 4 (sm_n a')) 5 d c) 4 1 (sm_n (d + 1))) ∧ sl_XP m d (true, a', [c], v) (gk_mi (gk_mi (gk_mi m 4 4 (sm_n a')) 5 d c) 4 1 (sm_n (d + 1))) := by
  refine ⟨x_draw (by rw [sm_mi0 (by omega)]; exact h1) hd, sl_fr_w (sl_fr_w (sl_fr_w sl_fr0 (Or.inr ⟨rfl, Or.inr (Or.inl rfl)⟩)) (Or.inl rfl)) (Or.inr ⟨rfl, Or.inl rfl⟩), ?_, fun _ => ⟨?_, ?_, ⟨?_, trivial⟩, fun j hj => ?_⟩, fun z => absurd z.symm Bool.false_ne_true⟩
  · rw [sm_mi0 (by omega), sm_mi0 (by omega), sm_mi1]
  · rw [sm_mi0 (by omega), sm_mi0 (by omega), sm_mi0 (by omega)]; exact h5
  · rw [sm_mi1]; rfl
  · rw [sm_mi0 (by omega), sm_mi1]
  · rw [sm_mi0 (by omega), sm_mi0 (by omega), sm_mi0 (by omega)]
theorem sl_XP_flt {d d' a : Nat} (hf : sl_fr m0 m) (h4 : m.1 4 4 = sm_n a) (h1 : m.1 4 1 = sm_n d') (hd : d' ≤ 256) : sl_XP m0 d (sl_fl a) (gk_mi m 4 5 (sm_n a)) :=
  ⟨sl_fr_w hf (Or.inr ⟨rfl, Or.inr (Or.inr rfl)⟩), (sm_mi0 (by omega)).trans h4, fun z => absurd z Bool.false_ne_true, fun _ => ⟨sm_mi1 _ _ _ _, d', hd, (sm_mi0 (by omega)).trans h1⟩⟩
theorem x_op0 {q0 : Int32 → gk_M → Option (Unit × gk_M)} {q1 : Int32 → Int32 → gk_M → Option (Unit × gk_M)} {op : Nat} {z : Bool} {O E : Nat → sl_R} (hop : op ≤ 6) (hz : z = decide (op = 6)) (hO : z = false → sl_xr t L (fun m => q0 (sm_n (op + 1)) m) O) (hE : z = false → sl_xr t L (fun m => q1 0 (sm_n (op + 1)) m) E) (hGO : z = false → ∀ a, sl_G L a (O a)) (hGE : z = false → ∀ a, sl_G L a (E a)) : sl_xr t L (fun m => f_Reader_readOperand_0 q0 q1 (sm_n op) m) (sl_os (sl_b t L) z O E) := by
  intro a d m hS h4 ha h5 h1 hd
  have hL := hS.2.1
  have hva := sl_XS_va hS a
  have hS4 : ∀ x, sl_XS t L (gk_mi m 4 4 x) := fun x => sl_XS_fr (sl_fr_w sl_fr0 (Or.inr ⟨rfl, Or.inr (Or.inl rfl)⟩)) hS
  show ∃ m', f_Reader_readOperand_0 q0 q1 (sm_n op) m = some ((), m') ∧ sl_XP m d (sl_os (sl_b t L) z O E a) m'
  unfold sl_os
  have e24 : ¬ (48 ≤ sl_b t L a ∧ sl_b t L a ≤ 57) → f_Reader_readOperand_0 q0 q1 (sm_n op) m = f_Reader_readOperand_24 q0 q1 (sm_n op) (sl_nx t L a) m := by
    intro e
    unfold f_Reader_readOperand_0
    rw [x_next hS h4 (by omega), sm_bi]
    by_cases e1 : sl_b t L a < 48
    · rw [if_pos (show sl_nx t L a < 48 from (sl_va_lt (s := 48) hva (by decide) (by decide)).mpr e1)]
    · rw [if_neg (show ¬ sl_nx t L a < 48 from fun z => e1 ((sl_va_lt (s := 48) hva (by decide) (by decide)).mp z)), if_pos (show 57 < sl_nx t L a from (sl_va_gt (s := 57) hva (by decide) (by decide)).mpr (by omega))]
  by_cases c1 : 48 ≤ sl_b t L a ∧ sl_b t L a ≤ 57
  · have hl := sl_bl (t := t) (L := L) (a := a) (by omega)
    rw [if_pos c1]
    obtain ⟨q2, P2⟩ := sl_XP_one (a' := (sl_dg (sl_b t L) 4 0 a).2) (c := sm_n (sl_dg (sl_b t L) 4 0 a).1) (v := fun _ => sm_n (sl_dg (sl_b t L) 4 0 a).1) hS h5 h1 (show d < 256 by omega)
    refine ⟨_, ?_, P2⟩
    unfold f_Reader_readOperand_0 f_Reader_readNumber
    have en := x_num4 hS 4 0 gk_fv 0 a m (by omega) (by rw [gk_fv_eq]; omega) ha sl_fr0 h4
    rw [x_next hS h4 (by omega), sm_bi, if_neg (show ¬ sl_nx t L a < 48 from fun z => by have := (sl_va_lt (s := 48) hva (by decide) (by decide)).mp z; omega), if_neg (show ¬ 57 < sl_nx t L a from fun z => by have := (sl_va_gt (s := 57) hva (by decide) (by decide)).mp z; omega), show f_Reader_readNumber_4 gk_fv 0 0 m = _ from en]
    unfold f_Reader_readNumber_56
    rw [q2, sm_bv, sm_bv]
  rw [if_neg c1, e24 c1]
  unfold f_Reader_readOperand_24
  rw [x_nmv hva, sm_bi]
  by_cases c2 : sl_nm (sl_b t L a) < 6
  · rw [if_pos c2, if_neg (sl_nmb c2), sm_let, h4, show sm_n a + 1 = sm_n (a + 1) from sm_n_add _ 1, x_nmv hva, sm_bi]
    obtain ⟨q2, P2⟩ := sl_XP_one (a' := a + 1) (c := sl_xn (sl_b t L a)) (v := fun ns => ns (sl_nm (sl_b t L a))) hS h5 h1 (show d < 256 by omega)
    rw [q2, sm_bv]
    refine ⟨_, rfl, ?_⟩
    have : sl_xn (sl_b t L a) = sm_i (-1 - (sl_nm (sl_b t L a) : Int)) := if_pos c2
    rw [this] at P2 ⊢
    exact P2
  rw [if_neg c2, if_pos (show sl_xn (sl_b t L a) = 0 from if_neg c2)]
  have flt : ∃ m', some ((), gk_mi m 4 5 (sm_n a)) = some ((), m') ∧ sl_XP m d (sl_fl a) m' := ⟨_, rfl, sl_XP_flt sl_fr0 h4 h1 (by omega)⟩
  by_cases c3 : op = 6
  · have hz1 : z = true := by rw [hz, decide_eq_true c3]
    rw [if_pos hz1, if_neg (show ¬ sm_n op < 6 by simp (disch := omega) only [sm_lit, sm_nlt, sm_nle, sm_neq, sm_n_add, sm_n_mul, sm_n_div, sm_n_rem, sm_bi, sm_bl, sm_bv, sm_let, sm_zz0, sm_zz1, sm_ai, sm_si, sm_al, sm_sl, sm_ar, sm_mi1, sm_mi0, sm_ml1, sm_ml0, sm_mil, sm_mli]; omega), sm_let, h4]
    exact flt
  have hz0 : z = false := by rw [hz, decide_eq_false c3]
  rw [if_neg (show ¬ z = true from fun y => by rw [hz0] at y; exact Bool.false_ne_true y), if_pos (show sm_n op < 6 by simp (disch := omega) only [sm_lit, sm_nlt, sm_nle, sm_neq, sm_n_add, sm_n_mul, sm_n_div, sm_n_rem, sm_bi, sm_bl, sm_bv, sm_let, sm_zz0, sm_zz1, sm_ai, sm_si, sm_al, sm_sl, sm_ar, sm_mi1, sm_mi0, sm_ml1, sm_ml0, sm_mil, sm_mli]; omega)]
  have i33 : (sl_nx t L a = 33) ↔ sl_b t L a = 33 := sl_va_eq (s := 33) hva (by decide) (by decide)
  have i45 : (sl_nx t L a = 45) ↔ sl_b t L a = 45 := sl_va_eq (s := 45) hva (by decide) (by decide)
  have i40 : (sl_nx t L a = 40) ↔ sl_b t L a = 40 := sl_va_eq (s := 40) hva (by decide) (by decide)
  have unary : ∀ c q, a < L → (q.1 = (O (a + 1)).1 ∧ q.2.1 = (O (a + 1)).2.1 ∧ q.2.2.1 = (O (a + 1)).2.2.1 ++ [c]) → ∃ m', (gk_let (gk_mi m 4 4 (sm_n (a + 1))) fun m1 => gk_bv (q0 (sm_n (op + 1)) m1) fun m2 => gk_bv (f_Reader_draw c m2) fun m1 => some ((), m1)) = some ((), m') ∧ sl_XP m d q m' := by
    intro c q hl hq
    obtain ⟨m2, e2, P2⟩ := hO hz0 (a + 1) d (gk_mi m 4 4 (sm_n (a + 1))) (hS4 _) (sm_mi1 _ _ _ _) hl (by rw [sm_mi0 (by omega)]; exact h5) (by rw [sm_mi0 (by omega)]; exact h1) (by omega)
    obtain ⟨g1, g2, g3⟩ := hGO hz0 (a + 1)
    have g2 := g2 hl
    have P3 : sl_XP m d (O (a + 1)) m2 := by
      obtain ⟨b1, b2, b3, b4⟩ := P2
      refine ⟨sl_fr_tr (sl_fr_w sl_fr0 (Or.inr ⟨rfl, Or.inr (Or.inl rfl)⟩)) b1, b2, fun y => ?_, b4⟩
      obtain ⟨c1, c2, c3, c4⟩ := b3 y
      exact ⟨c1, c2, c3, fun j hj => by rw [c4 j hj, sm_mi0 (by omega)]⟩
    obtain ⟨m3, e3, P4⟩ := sl_XP_draw (c := c) (q := q) P3 hq.1 hq.2.1 hq.2.2 (fun y => by have := g3 y; omega)
    refine ⟨m3, ?_, P4⟩
    rw [sm_let, show q0 (sm_n (op + 1)) (gk_mi m 4 4 (sm_n (a + 1))) = _ from e2, sm_bv, e3, sm_bv]
  unfold f_Reader_readOperand_81 f_Reader_readOperand_115
  rw [show sm_n op + 1 = sm_n (op + 1) from sm_n_add _ 1, h4, show sm_n a + 1 = sm_n (a + 1) from sm_n_add _ 1]
  by_cases c4 : sl_b t L a = 33
  · rw [if_pos c4, if_pos (i33.mpr c4)]
    have hl := sl_bl (t := t) (L := L) (a := a) (by omega)
    have e5 : ¬ sl_nx t L a = 45 := fun y => by have := i45.mp y; omega
    have e6 : (-100 : Int32) - sl_nx t L a = -133 := by rw [i33.mpr c4]; rfl
    rw [e6]
    simp only [if_pos (show ¬ sl_nx t L a = 45 from e5)]
    exact unary (-133) _ hl ⟨rfl, rfl, rfl⟩
  rw [if_neg c4, if_neg (fun y => c4 (i33.mp y))]
  by_cases c5 : sl_b t L a = 45
  · rw [if_pos c5, if_neg (show ¬ ¬ sl_nx t L a = 45 from fun y => y (i45.mpr c5))]
    have hl := sl_bl (t := t) (L := L) (a := a) (by omega)
    simp only [if_neg (show ¬ ¬ sl_nx t L a = 45 from fun y => y (i45.mpr c5))]
    exact unary (-400) _ hl ⟨rfl, rfl, rfl⟩
  rw [if_neg c5, if_pos (show ¬ sl_nx t L a = 45 from fun y => c5 (i45.mp y))]
  by_cases c6 : sl_b t L a = 40
  · have hl := sl_bl (t := t) (L := L) (a := a) (by omega)
    obtain ⟨m2, e2, P2⟩ := hE hz0 (a + 1) d (gk_mi m 4 4 (sm_n (a + 1))) (hS4 _) (sm_mi1 _ _ _ _) hl (by rw [sm_mi0 (by omega)]; exact h5) (by rw [sm_mi0 (by omega)]; exact h1) (by omega)
    obtain ⟨g1, g2, g3⟩ := hGE hz0 (a + 1)
    have g2 := g2 hl
    obtain ⟨b1, b2, b3, b4⟩ := P2
    have f2 : sl_fr m m2 := sl_fr_tr (sl_fr_w sl_fr0 (Or.inr ⟨rfl, Or.inr (Or.inl rfl)⟩)) b1
    have S2 := sl_XS_fr f2 hS
    have va2 := sl_XS_va S2 (E (a + 1)).2.1
    have i41 : (sl_nx t L (E (a + 1)).2.1 = 41) ↔ sl_b t L (E (a + 1)).2.1 = 41 := sl_va_eq (s := 41) va2 (by decide) (by decide)
    rw [if_pos c6, if_neg (show ¬ ¬ sl_nx t L a = 40 from fun y => y (i40.mpr c6)), sm_let, show q1 0 (sm_n (op + 1)) (gk_mi m 4 4 (sm_n (a + 1))) = _ from e2, sm_bv]
    unfold f_Reader_close
    cases hE1 : (E (a + 1)).1 with
    | false =>
      obtain ⟨n1, d', n2, n3⟩ := b4 hE1
      rw [if_neg (show ¬ (false = true ∧ sl_b t L (E (a + 1)).2.1 = 41) from fun y => Bool.false_ne_true y.1), n1, if_neg (show ¬ sm_n (E (a + 1)).2.1 < 0 from sm_nn (by omega)), sm_bv]
      exact ⟨m2, rfl, f2, b2, fun y => absurd y Bool.false_ne_true, fun _ => ⟨n1, d', n2, n3⟩⟩
    | true =>
      obtain ⟨n1, n2, n3, n4⟩ := b3 hE1
      have g4 := g3 hE1
      rw [n1, if_pos (show (-1 : Int32) < 0 by decide), x_next S2 b2 (by omega), sm_bi]
      by_cases c7 : sl_b t L (E (a + 1)).2.1 = 41
      · rw [if_pos (show true = true ∧ sl_b t L (E (a + 1)).2.1 = 41 from ⟨rfl, c7⟩), if_neg (show ¬ ¬ sl_nx t L (E (a + 1)).2.1 = 41 from fun y => y (i41.mpr c7)), sm_let, sm_bv, b2, show sm_n (E (a + 1)).2.1 + 1 = sm_n ((E (a + 1)).2.1 + 1) from sm_n_add _ 1]
        refine ⟨_, rfl, sl_fr_w f2 (Or.inr ⟨rfl, Or.inr (Or.inl rfl)⟩), sm_mi1 _ _ _ _, fun _ => ⟨?_, ?_, ?_, fun j hj => ?_⟩, fun y => absurd y.symm Bool.false_ne_true⟩
        · rw [sm_mi0 (by omega)]; exact n1
        · rw [sm_mi0 (by omega)]; exact n2
        · exact sl_at_cg _ _ (fun j _ _ => by rw [sm_mi0 (by omega)]) n3
        · rw [sm_mi0 (by omega), n4 j hj, sm_mi0 (by omega)]
      · rw [if_neg (show ¬ (true = true ∧ sl_b t L (E (a + 1)).2.1 = 41) from fun y => c7 y.2), if_pos (show ¬ sl_nx t L (E (a + 1)).2.1 = 41 from fun y => c7 (i41.mp y)), sm_let, sm_bv, b2]
        exact ⟨_, rfl, sl_XP_flt f2 b2 n2 (by omega)⟩
  · rw [if_neg c6, if_pos (show ¬ sl_nx t L a = 40 from fun y => c6 (i40.mp y)), sm_let]
    exact flt
theorem x_V {op D0 : Nat} {sub : Nat → sl_R} (hsub : ∀ a, sl_G L a (sub a)) (hq : ∀ D, D0 ≤ D → sl_xr t L (fun m => r_Reader_readOperand D 0 (sm_n op) 0 m) sub) : ∀ j, j ≤ 5 → ∀ D, D0 + j + 1 ≤ D → sl_xr t L (fun m => r_Reader_readOperand D 1 (sm_n (5 - j)) (sm_n op) m) (sl_V (sl_b t L) sub j)
  | 0, _, D + 1, hD => by
    intro a d m hS h4 ha h5 h1 hd
    obtain ⟨m', e, P⟩ := hq D (by omega) a d m hS h4 ha h5 h1 hd
    refine ⟨m', ?_, P⟩
    show r_Reader_readOperand (D + 1) 1 (sm_n 5) (sm_n op) m = _
    rw [r_Reader_readOperand_e1]
    unfold f_Reader_readLevel_0
    rw [if_neg (show ¬ sm_n 5 < 5 by decide), show (fun b0 m => r_Reader_readOperand D 0 b0 0 m) (sm_n op) m = _ from e, sm_bv]
  | j + 1, hj, D + 1, hD => by
    have ih := x_V hsub hq j (by omega) D (by omega)
    have e1 : 5 - (j + 1) + 1 = 5 - j := by omega
    have h := x_lev0 (t := t) (L := L) (q0 := fun b0 m => r_Reader_readOperand D 0 b0 0 m) (q1 := fun b0 b1 m => r_Reader_readOperand D 1 b0 b1 m) (lev := 5 - (j + 1)) (op := op) (by omega) (sl_G_V hsub j) (by rw [e1]; exact ih)
    intro a d m hS h4 ha h5 h1 hd
    obtain ⟨m', e, P⟩ := h a d m hS h4 ha h5 h1 hd
    have e2 : 5 - (j + 1) = 4 - j := by omega
    rw [e2] at P
    refine ⟨m', ?_, P⟩
    show r_Reader_readOperand (D + 1) 1 (sm_n (5 - (j + 1))) (sm_n op) m = _
    rw [r_Reader_readOperand_e1]
    exact e
theorem x_O : ∀ k op, op + k = 6 → ∀ D, 7 * k + 1 ≤ D → sl_xr t L (fun m => r_Reader_readOperand D 0 (sm_n op) 0 m) (sl_O (sl_b t L) k)
  | 0, op, ho, D + 1, hD => by
    have h := x_op0 (t := t) (L := L) (q0 := fun b0 m => r_Reader_readOperand D 0 b0 0 m) (q1 := fun b0 b1 m => r_Reader_readOperand D 1 b0 b1 m) (op := op) (z := true) (O := sl_fl) (E := sl_fl) (by omega) (by rw [decide_eq_true (show op = 6 by omega)]) (fun z => absurd z.symm Bool.false_ne_true) (fun z => absurd z.symm Bool.false_ne_true) (fun z => absurd z.symm Bool.false_ne_true) (fun z => absurd z.symm Bool.false_ne_true)
    intro a d m hS h4 ha h5 h1 hd
    obtain ⟨m', e, P⟩ := h a d m hS h4 ha h5 h1 hd
    refine ⟨m', ?_, P⟩
    show r_Reader_readOperand (D + 1) 0 (sm_n op) 0 m = _
    rw [r_Reader_readOperand_e0]
    exact e
  | k + 1, op, ho, D + 1, hD => by
    have ih := x_O k (op + 1) (by omega)
    have h := x_op0 (t := t) (L := L) (q0 := fun b0 m => r_Reader_readOperand D 0 b0 0 m) (q1 := fun b0 b1 m => r_Reader_readOperand D 1 b0 b1 m) (op := op) (z := false) (O := sl_O (sl_b t L) k) (E := sl_V (sl_b t L) (sl_O (sl_b t L) k) 5) (by omega) (by rw [decide_eq_false (show ¬ op = 6 by omega)]) (fun _ => ih D (by omega)) (fun _ => x_V (sl_G_O k) ih 5 (Nat.le_refl 5) D (by omega)) (fun _ => sl_G_O k) (fun _ => sl_G_V (sl_G_O k) 5)
    intro a d m hS h4 ha h5 h1 hd
    obtain ⟨m', e, P⟩ := h a d m hS h4 ha h5 h1 hd
    refine ⟨m', ?_, P⟩
    show r_Reader_readOperand (D + 1) 0 (sm_n op) 0 m = _
    rw [r_Reader_readOperand_e0]
    exact e
/-- what stands between the signs of a line -/
def sl_E0 (t : Nat → Nat) (L : Nat) : Nat → sl_R := sl_V (sl_b t L) (sl_O (sl_b t L) 6) 5
theorem sl_G_E0 (a : Nat) : sl_G L a (sl_E0 t L a) := sl_G_V (sl_G_O 6) 5 a
theorem x_E0 : sl_xr t L (fun m => f_Reader_readLevel 0 0 m) (sl_E0 t L) :=
  x_V (sl_G_O 6) (x_O 6 0 (by omega)) 5 (Nat.le_refl 5) 60 (by omega)
end XR
