/-! SIM: a new road: which points may be trodden -/
def sm_clr (n : Nat) (T : Nat → sm_tw) (S : sm_fs) (F : sm_lf) (p : Nat) : Bool := !sm_has n T p && !sm_any n 0 (fun s => sm_any (n - (s + 1)) (s + 1) (fun t => sm_at_ S F (T s) (T t) 4 p))
theorem sm_clr_cg {n : Nat} {TX TM : Nat → sm_tw} (hT : rl_T n TX TM) (S : sm_fs) (F : sm_lf) : sm_clr n TX S F = sm_clr n TM S F := by
  funext p
  unfold sm_clr
  rw [sm_has_cg hT]
  congr 1
  congr 1
  exact sm_any_cg (fun s _ h1 => sm_any_cg (fun t _ h2 => by rw [hT.1 s (by omega), hT.1 t (by omega)]))
section CLR
variable {n : Nat} {T : Nat → sm_tw} {R : sm_rd} {S : sm_fs} {F : sm_lf} {m0 m : gk_M}
theorem x_ic30 (hd : sm_dis n T) {p s : Nat} (hp : p < 900) (hs : s < n) (k15 : Int32 → Int32 → gk_M → Option (Int32 × gk_M)) (g : Nat → Bool) (hg : ∀ t, g t = sm_at_ S F (T s) (T t) 4 p) : ∀ l t fu m, t + l = n → s < t → l < fu → sm_q n T R S F m0 m → ∃ m', sm_q n T R S F m0 m' ∧ f_Planner_isClear_30 k15 fu (sm_n p) (sm_n s) (sm_n t) m = if sm_any l t g = true then some (0, m') else k15 (sm_n p) (sm_n (s + 1)) m'
  | 0, t, fu + 1, m, h1, h2, h3, hq => by
    have hn := hq.1.2.1
    refine ⟨m, hq, ?_⟩
    unfold f_Planner_isClear_30
    rw [hq.1.1, if_pos (by simp (disch := omega) only [sm_lit, sm_nlt, sm_nle, sm_neq, sm_n_add, sm_n_mul, sm_n_div, sm_n_rem, sm_bi, sm_bl, sm_bv, sm_let, sm_zz0, sm_zz1, sm_ai, sm_si, sm_al, sm_sl, sm_ar, sm_mi1, sm_mi0, sm_ml1, sm_ml0, sm_mil, sm_mli]; omega), show sm_n s + 1 = sm_n (s + 1) from sm_n_add s 1, if_neg (show ¬ sm_any 0 t g = true from Bool.false_ne_true)]
  | l + 1, t, fu + 1, m, h1, h2, h3, hq => by
    have hn := hq.1.2.1
    obtain ⟨m1, e1, hq1⟩ := x_areInLine hq (k := 4) (by omega) (show s < 12 by omega) (show t < 12 by omega) hp (hd s t hs (by omega) (by omega))
    unfold f_Planner_isClear_30
    rw [hq.1.1, if_neg (by simp (disch := omega) only [sm_lit, sm_nlt, sm_nle, sm_neq, sm_n_add, sm_n_mul, sm_n_div, sm_n_rem, sm_bi, sm_bl, sm_bv, sm_let, sm_zz0, sm_zz1, sm_ai, sm_si, sm_al, sm_sl, sm_ar, sm_mi1, sm_mi0, sm_ml1, sm_ml0, sm_mil, sm_mli]; omega), show f_Plain_areInLine (sm_n p) 4 (sm_n s) (sm_n t) m = _ from e1, sm_bi, show sm_n t + 1 = sm_n (t + 1) from sm_n_add t 1]
    cases hc : sm_at_ S F (T s) (T t) 4 p with
    | false =>
      rw [if_pos (show sm_b2 false = 0 from rfl), sm_anyf ((hg t).trans hc)]
      exact x_ic30 hd hp hs k15 g hg l (t + 1) fu m1 (by omega) (by omega) (by omega) hq1
    | true =>
      rw [if_neg (show ¬ sm_b2 true = 0 by decide), sm_anyt ((hg t).trans hc)]
      exact ⟨m1, hq1, rfl⟩
theorem x_ic15 (hd : sm_dis n T) {p : Nat} (hp : p < 900) (G : Nat → Bool) (hG : ∀ s, G s = sm_any (n - (s + 1)) (s + 1) (fun t => sm_at_ S F (T s) (T t) 4 p)) : ∀ l s fu m, s + l = n → l < fu → sm_q n T R S F m0 m → sm_ok (f_Planner_isClear_15 fu (sm_n p) (sm_n s) m) (sm_b2 (!sm_any l s G)) (sm_q n T R S F m0)
  | 0, s, fu + 1, m, h1, h3, hq => by
    have hn := hq.1.2.1
    unfold f_Planner_isClear_15
    rw [hq.1.1, if_pos (by simp (disch := omega) only [sm_lit, sm_nlt, sm_nle, sm_neq, sm_n_add, sm_n_mul, sm_n_div, sm_n_rem, sm_bi, sm_bl, sm_bv, sm_let, sm_zz0, sm_zz1, sm_ai, sm_si, sm_al, sm_sl, sm_ar, sm_mi1, sm_mi0, sm_ml1, sm_ml0, sm_mil, sm_mli]; omega)]
    exact sm_okr hq
  | l + 1, s, fu + 1, m, h1, h3, hq => by
    have hn := hq.1.2.1
    obtain ⟨m1, hq1, e1⟩ := x_ic30 hd hp (show s < n by omega) (f_Planner_isClear_15 fu) _ (fun _ => rfl) (n - (s + 1)) (s + 1) gk_fv m (by omega) (by omega) (by rw [gk_fv_eq]; omega) hq
    unfold f_Planner_isClear_15
    rw [hq.1.1, if_neg (by simp (disch := omega) only [sm_lit, sm_nlt, sm_nle, sm_neq, sm_n_add, sm_n_mul, sm_n_div, sm_n_rem, sm_bi, sm_bl, sm_bv, sm_let, sm_zz0, sm_zz1, sm_ai, sm_si, sm_al, sm_sl, sm_ar, sm_mi1, sm_mi0, sm_ml1, sm_ml0, sm_mil, sm_mli]; omega), sm_let, show sm_n s + 1 = sm_n (s + 1) from sm_n_add s 1, e1]
    cases hc : sm_any (n - (s + 1)) (s + 1) (fun t => sm_at_ S F (T s) (T t) 4 p) with
    | true =>
      rw [sm_anyt ((hG s).trans hc), if_pos rfl]
      exact sm_okr hq1
    | false =>
      rw [sm_anyf ((hG s).trans hc), if_neg Bool.false_ne_true]
      exact x_ic15 hd hp G hG l (s + 1) fu m1 (by omega) (by omega) hq1
theorem x_isClear (hd : sm_dis n T) {p : Nat} (hp : p < 900) (hq : sm_q n T R S F m0 m) : sm_ok (f_Planner_isClear (sm_n p) m) (sm_b2 (sm_clr n T S F p)) (sm_q n T R S F m0) := by
  have hn := hq.1.2.1
  unfold f_Planner_isClear sm_clr
  rw [x_hasTower hq.1.1 (by omega) hq.1.2.2.1 hp, sm_bi]
  cases hh : sm_has n T p with
  | true =>
    rw [if_pos rfl, if_neg (show ¬ (1 : Int32) = 0 by decide)]
    exact sm_okr hq
  | false =>
    rw [if_neg Bool.false_ne_true, if_pos rfl]
    exact x_ic15 hd hp _ (fun _ => rfl) n 0 gk_fv m (by omega) (by rw [gk_fv_eq]; omega) hq
theorem m_sn28 {p s : Nat} (hp : p < 900) (hs : s < n) (k16 : Int32 → Int32 → gk_M → Option (Int32 × gk_M)) (g : Nat → Bool) (hg : ∀ t, g t = sm_at_ S F (T s) (T t) 4 p) : ∀ l t fu m, t + l = n → l < fu → sm_p n T R S F m0 m → ∃ m', sm_p n T R S F m0 m' ∧ f_M_seesNone_28 k16 fu (sm_n p) (sm_n s) (sm_n t) m = if sm_any l t g = true then some (0, m') else k16 (sm_n p) (sm_n (s + 1)) m'
  | 0, t, fu + 1, m, h1, h3, hq => by
    have hn := hq.1.2.1
    refine ⟨m, hq, ?_⟩
    unfold f_M_seesNone_28
    rw [hq.1.1, if_pos (by simp (disch := omega) only [sm_lit, sm_nlt, sm_nle, sm_neq, sm_n_add, sm_n_mul, sm_n_div, sm_n_rem, sm_bi, sm_bl, sm_bv, sm_let, sm_zz0, sm_zz1, sm_ai, sm_si, sm_al, sm_sl, sm_ar, sm_mi1, sm_mi0, sm_ml1, sm_ml0, sm_mil, sm_mli]; omega), show sm_n s + 1 = sm_n (s + 1) from sm_n_add s 1, if_neg (show ¬ sm_any 0 t g = true from Bool.false_ne_true)]
  | l + 1, t, fu + 1, m, h1, h3, hq => by
    have hn := hq.1.2.1
    obtain ⟨m1, e1, hq1, _⟩ := m_inLineAt hq (k := 4) (by omega) (show s < 20 by omega) (show t < 20 by omega) hp
    unfold f_M_seesNone_28
    rw [hq.1.1, if_neg (by simp (disch := omega) only [sm_lit, sm_nlt, sm_nle, sm_neq, sm_n_add, sm_n_mul, sm_n_div, sm_n_rem, sm_bi, sm_bl, sm_bv, sm_let, sm_zz0, sm_zz1, sm_ai, sm_si, sm_al, sm_sl, sm_ar, sm_mi1, sm_mi0, sm_ml1, sm_ml0, sm_mil, sm_mli]; omega), show f_M_inLineAt (sm_n p) (sm_n s) (sm_n t) 4 m = _ from e1, sm_bi, show sm_n t + 1 = sm_n (t + 1) from sm_n_add t 1]
    cases hc : sm_at_ S F (T s) (T t) 4 p with
    | false =>
      rw [if_pos (show sm_b2 false = 0 from rfl), sm_anyf ((hg t).trans hc)]
      exact m_sn28 hp hs k16 g hg l (t + 1) fu m1 (by omega) (by omega) hq1
    | true =>
      rw [if_neg (show ¬ sm_b2 true = 0 by decide), sm_anyt ((hg t).trans hc)]
      exact ⟨m1, hq1, rfl⟩
theorem m_sn16 {p : Nat} (hp : p < 900) (G : Nat → Bool) (hG : ∀ s, G s = sm_any (n - (s + 1)) (s + 1) (fun t => sm_at_ S F (T s) (T t) 4 p)) : ∀ l s fu m, s + l = n → l < fu → sm_p n T R S F m0 m → sm_ok (f_M_seesNone_16 fu (sm_n p) (sm_n s) m) (sm_b2 (!sm_any l s G)) (sm_p n T R S F m0)
  | 0, s, fu + 1, m, h1, h3, hq => by
    have hn := hq.1.2.1
    unfold f_M_seesNone_16
    rw [hq.1.1, if_pos (by simp (disch := omega) only [sm_lit, sm_nlt, sm_nle, sm_neq, sm_n_add, sm_n_mul, sm_n_div, sm_n_rem, sm_bi, sm_bl, sm_bv, sm_let, sm_zz0, sm_zz1, sm_ai, sm_si, sm_al, sm_sl, sm_ar, sm_mi1, sm_mi0, sm_ml1, sm_ml0, sm_mil, sm_mli]; omega)]
    exact sm_okr hq
  | l + 1, s, fu + 1, m, h1, h3, hq => by
    have hn := hq.1.2.1
    obtain ⟨m1, hq1, e1⟩ := m_sn28 hp (show s < n by omega) (f_M_seesNone_16 fu) _ (fun _ => rfl) (n - (s + 1)) (s + 1) gk_fv m (by omega) (by rw [gk_fv_eq]; omega) hq
    unfold f_M_seesNone_16
    rw [hq.1.1, if_neg (by simp (disch := omega) only [sm_lit, sm_nlt, sm_nle, sm_neq, sm_n_add, sm_n_mul, sm_n_div, sm_n_rem, sm_bi, sm_bl, sm_bv, sm_let, sm_zz0, sm_zz1, sm_ai, sm_si, sm_al, sm_sl, sm_ar, sm_mi1, sm_mi0, sm_ml1, sm_ml0, sm_mil, sm_mli]; omega), sm_let, show sm_n s + 1 = sm_n (s + 1) from sm_n_add s 1, e1]
    cases hc : sm_any (n - (s + 1)) (s + 1) (fun t => sm_at_ S F (T s) (T t) 4 p) with
    | true =>
      rw [sm_anyt ((hG s).trans hc), if_pos rfl]
      exact sm_okr hq1
    | false =>
      rw [sm_anyf ((hG s).trans hc), if_neg Bool.false_ne_true]
      exact m_sn16 hp G hG l (s + 1) fu m1 (by omega) (by omega) hq1
theorem m_seesNone {p : Nat} (hp : p < 900) (hq : sm_p n T R S F m0 m) : sm_ok (f_M_seesNone (sm_n p) m) (sm_b2 (sm_clr n T S F p)) (sm_p n T R S F m0) := by
  have hn := hq.1.2.1
  have hw := hq.1.2.2.1
  unfold f_M_seesNone sm_clr
  rw [hq.1.1, m_isFreeOf (k := n) (T := T) (by omega) (fun t ht => ⟨(hw t (by omega)).2.1, (hw t (by omega)).1⟩) hp, sm_bi]
  cases hh : sm_has n T p with
  | true =>
    rw [if_pos rfl, if_neg (fun z => z rfl)]
    exact sm_okr hq
  | false =>
    rw [if_neg Bool.false_ne_true, if_pos (show ¬ (1 : Int32) = 0 by decide)]
    exact m_sn16 hp _ (fun _ => rfl) n 0 gk_fv m (by omega) (by rw [gk_fv_eq]; omega) hq
end CLR
/-! SIM: the search by steps, on numbers -/
def sm_nb (p w : Nat) : Option Nat := if w = 0 then (if p % 30 = 0 then none else some (p - 1)) else if w = 1 then (if 29 ≤ p % 30 then none else some (p + 1)) else if w = 2 then (if p < 30 then none else some (p - 30)) else (if 870 ≤ p then none else some (p + 30))
theorem sm_nb_lt {p w q : Nat} (hp : p < 900) (h : sm_nb p w = some q) : q < 900 := by
  unfold sm_nb at h
  repeat' split at h
  all_goals first | (cases h; done) | (cases h; omega)
abbrev sm_B : Type := (Nat → Nat) × (Nat → Nat) × Nat
def sm_st (d : Nat) : Int32 := if d = 0 then -1 else sm_n (d - 1)
def sm_ans (d : Nat) : Int32 := if d = 0 then -2 else sm_n (d - 1)
def sm_bH (c1 c2 : Nat) (B : sm_B) (m : gk_M) : Prop := (∀ p, p < 900 → m.1 c1 p = sm_st (B.1 p)) ∧ ∀ i, i < B.2.2 → m.1 c2 i = sm_n (B.2.1 i)
def sm_bI (B : sm_B) : Prop := sm_sum 900 0 (fun p => if B.1 p = 0 then 0 else 1) = B.2.2 ∧ (∀ p, B.1 p ≤ B.2.2) ∧ ∀ i, i < B.2.2 → B.2.1 i < 900 ∧ B.1 (B.2.1 i) ≠ 0
def sm_j1 (c : Nat → Bool) (d p : Nat) (B : sm_B) : sm_B := if B.1 p = 0 ∧ c p = true then (sm_up B.1 p (d + 1), sm_up B.2.1 B.2.2 p, B.2.2 + 1) else B
def sm_jn (c : Nat → Bool) (h w : Nat) (B : sm_B) : sm_B := match sm_nb (B.2.1 h) w with
  | none => B
  | some p => sm_j1 c (B.1 (B.2.1 h)) p B
def sm_wy (c : Nat → Bool) (h : Nat) : Nat → Nat → sm_B → sm_B
  | 0, _, B => B
  | l + 1, w, B => sm_wy c h l (w + 1) (sm_jn c h w B)
def sm_fin (c : Nat → Bool) : Nat → Nat → sm_B → sm_B
  | 0, _, B => B
  | l + 1, h, B => if h < B.2.2 then sm_fin c l (h + 1) (sm_wy c h 4 0 B) else B
theorem sm_sum_up1 {f g : Nat → Nat} {p : Nat} (hp : f p = 0) (hg : g p = 1) (h : ∀ j, j ≠ p → g j = f j) : ∀ l i, i ≤ p → p < i + l → sm_sum l i g = sm_sum l i f + 1
  | 0, i, h1, h2 => by omega
  | l + 1, i, h1, h2 => by
    show g i + sm_sum l (i + 1) g = f i + sm_sum l (i + 1) f + 1
    by_cases e : i = p
    · subst e
      rw [hg, hp, sm_sum_cg (g := f) (fun j h1 _ => h j (by omega))]; omega
    · rw [h i e, sm_sum_up1 hp hg h l (i + 1) (by omega) (by omega)]; omega
theorem sm_bI_le {B : sm_B} (h : sm_bI B) : B.2.2 ≤ 900 := by
  have := sm_sum_le (f := fun p => if B.1 p = 0 then 0 else 1) (b := 1) (l := 900) (i := 0) (fun j _ _ => by
    show (if B.1 j = 0 then 0 else 1) ≤ 1
    split <;> omega)
  have h1 := h.1
  omega
theorem sm_bI_j1 {c : Nat → Bool} {d p : Nat} {B : sm_B} (h : sm_bI B) (hd : d ≤ B.2.2) (hp : p < 900) : sm_bI (sm_j1 c d p B) ∧ B.2.2 ≤ (sm_j1 c d p B).2.2 ∧ (∀ i, i < B.2.2 → (sm_j1 c d p B).2.1 i = B.2.1 i) ∧ ∀ j, B.1 j ≠ 0 → (sm_j1 c d p B).1 j = B.1 j := by
  obtain ⟨h1, h2, h3⟩ := id h
  unfold sm_j1
  by_cases e : B.1 p = 0 ∧ c p = true
  · rw [if_pos e]
    refine ⟨⟨?_, ?_, ?_⟩, Nat.le_succ _, ?_, ?_⟩
    · show sm_sum 900 0 (fun j => if sm_up B.1 p (d + 1) j = 0 then 0 else 1) = B.2.2 + 1
      rw [← h1]
      refine sm_sum_up1 (p := p) ?_ ?_ ?_ 900 0 (by omega) (by omega)
      · exact if_pos e.1
      · show (if sm_up B.1 p (d + 1) p = 0 then 0 else 1) = 1
        rw [sm_up1]; exact if_neg (by omega)
      · intro j hj
        show (if sm_up B.1 p (d + 1) j = 0 then 0 else 1) = if B.1 j = 0 then 0 else 1
        rw [sm_up0 hj]
    · intro j
      show sm_up B.1 p (d + 1) j ≤ B.2.2 + 1
      by_cases z : j = p
      · subst z; rw [sm_up1]; omega
      · rw [sm_up0 z]; have := h2 j; omega
    · intro i hi
      have hi : i < B.2.2 + 1 := hi
      show sm_up B.2.1 B.2.2 p i < 900 ∧ sm_up B.1 p (d + 1) (sm_up B.2.1 B.2.2 p i) ≠ 0
      by_cases z : i = B.2.2
      · rw [z, sm_up1, sm_up1]; exact ⟨hp, by omega⟩
      · rw [sm_up0 z]
        obtain ⟨a, b⟩ := h3 i (by omega)
        refine ⟨a, ?_⟩
        rw [sm_up0 (fun y => b (by rw [y]; exact e.1))]; exact b
    · intro i hi
      exact sm_up0 (by omega)
    · intro j hj
      exact sm_up0 (fun y => hj (by rw [y]; exact e.1))
  · rw [if_neg e]
    exact ⟨h, Nat.le_refl _, fun _ _ => rfl, fun _ _ => rfl⟩
theorem sm_jn_none {c : Nat → Bool} {h w : Nat} {B : sm_B} (e : sm_nb (B.2.1 h) w = none) : sm_jn c h w B = B := by
  unfold sm_jn; rw [e]
theorem sm_jn_some {c : Nat → Bool} {h w p : Nat} {B : sm_B} (e : sm_nb (B.2.1 h) w = some p) : sm_jn c h w B = sm_j1 c (B.1 (B.2.1 h)) p B := by
  unfold sm_jn; rw [e]
theorem sm_bI_jn {c : Nat → Bool} {h w : Nat} {B : sm_B} (hB : sm_bI B) (hh : h < B.2.2) : sm_bI (sm_jn c h w B) ∧ B.2.2 ≤ (sm_jn c h w B).2.2 ∧ (∀ i, i < B.2.2 → (sm_jn c h w B).2.1 i = B.2.1 i) ∧ ∀ j, B.1 j ≠ 0 → (sm_jn c h w B).1 j = B.1 j := by
  rcases e : sm_nb (B.2.1 h) w with _ | p
  · rw [sm_jn_none e]; exact ⟨hB, Nat.le_refl _, fun _ _ => rfl, fun _ _ => rfl⟩
  · rw [sm_jn_some e]; exact sm_bI_j1 hB (hB.2.1 _) (sm_nb_lt (hB.2.2 h hh).1 e)
theorem sm_bI_wy {c : Nat → Bool} {h : Nat} : ∀ l w B, sm_bI B → h < B.2.2 → sm_bI (sm_wy c h l w B) ∧ B.2.2 ≤ (sm_wy c h l w B).2.2 ∧ ∀ j, B.1 j ≠ 0 → (sm_wy c h l w B).1 j = B.1 j
  | 0, w, B => by
    intro hB hh
    rw [show sm_wy c h 0 w B = B from rfl]
    exact ⟨hB, Nat.le_refl _, fun _ _ => rfl⟩
  | l + 1, w, B => by
    intro hB hh
    obtain ⟨a1, a2, a3, a4⟩ := sm_bI_jn (c := c) (w := w) hB hh
    obtain ⟨b1, b2, b3⟩ := sm_bI_wy (c := c) (h := h) l (w + 1) (sm_jn c h w B) a1 (by omega)
    refine ⟨b1, Nat.le_trans a2 b2, fun j hj => ?_⟩
    have e := a4 j hj
    exact (b3 j (by rw [e]; exact hj)).trans e
theorem sm_fin_mono {c : Nat → Bool} : ∀ l h B j, sm_bI B → B.1 j ≠ 0 → (sm_fin c l h B).1 j = B.1 j
  | 0, h, B, j => by
    intro hB hj
    rw [show sm_fin c 0 h B = B from rfl]
  | l + 1, h, B, j => by
    intro hB hj
    unfold sm_fin
    by_cases e : h < B.2.2
    · rw [if_pos e]
      obtain ⟨b1, b2, b3⟩ := sm_bI_wy (c := c) (h := h) 4 0 B hB e
      have z := b3 j hj
      exact (sm_fin_mono l (h + 1) _ j b1 (by rw [z]; exact hj)).trans z
    · rw [if_neg e]
theorem sm_st_m1 {d : Nat} (h : d ≤ 900) (h0 : d ≠ 0) : ¬ sm_st d = -1 := by
  unfold sm_st
  rw [if_neg h0, sm_eq, sm_n_int (by omega), show (-1 : Int32).toInt = -1 from rfl]
  omega
theorem sm_st_nn {d : Nat} (h : d ≤ 900) (h0 : d ≠ 0) : ¬ sm_st d < 0 := by
  unfold sm_st
  rw [if_neg h0]
  exact sm_nn (by omega)
theorem sm_st_add {d : Nat} (h0 : d ≠ 0) : sm_st d + 1 = sm_st (d + 1) := by
  unfold sm_st
  rw [if_neg h0, if_neg (by omega), show sm_n (d - 1) + 1 = sm_n (d - 1 + 1) from sm_n_add (d - 1) 1]
  congr 1
  omega
theorem sm_st_ans {d : Nat} (h0 : d ≠ 0) : sm_st d = sm_ans d := by
  unfold sm_st sm_ans
  rw [if_neg h0, if_neg h0]
theorem sm_bH_j1 {c1 c2 d p : Nat} {c : Nat → Bool} {B : sm_B} {m : gk_M} (hc : c1 ≠ c2) (h : sm_bH c1 c2 B m) (hp0 : B.1 p = 0) (hcp : c p = true) : sm_bH c1 c2 (sm_j1 c d p B) (gk_mi (gk_mi m c1 p (sm_st (d + 1))) c2 B.2.2 (sm_n p)) := by
  unfold sm_j1
  rw [if_pos ⟨hp0, hcp⟩]
  constructor
  · intro j hj
    show _ = sm_st (sm_up B.1 p (d + 1) j)
    rw [sm_mi0 (fun z => hc z.1)]
    by_cases e : j = p
    · subst e; rw [sm_mi1, sm_up1]
    · rw [sm_mi0 (fun z => e z.2), sm_up0 e]; exact h.1 j hj
  · intro i hi
    have hi : i < B.2.2 + 1 := hi
    show _ = sm_n (sm_up B.2.1 B.2.2 p i)
    by_cases e : i = B.2.2
    · rw [e, sm_mi1, sm_up1]
    · rw [sm_mi0 (fun z => e z.2), sm_mi0 (fun z => hc z.1.symm), sm_up0 e]; exact h.2 i (by omega)
theorem sm_j1_no {c : Nat → Bool} {d p : Nat} {B : sm_B} (h : ¬ (B.1 p = 0 ∧ c p = true)) : sm_j1 c d p B = B := if_neg h
theorem sm_j1_q {c : Nat → Bool} {d p : Nat} {B : sm_B} (h : B.1 p = 0 ∧ c p = true) : (sm_j1 c d p B).2.2 = B.2.2 + 1 := by
  unfold sm_j1; rw [if_pos h]
theorem sm_bI_lt {B : sm_B} (h : sm_bI B) {p : Nat} (hp : p < 900) (h0 : B.1 p = 0) : B.2.2 < 900 := by
  have a := (sm_bI_j1 (c := fun _ => true) (d := 0) h (by omega) hp).1
  have b := sm_bI_le a
  rw [sm_j1_q ⟨h0, rfl⟩] at b
  omega
def sm_o2 (o : Option Nat) : Int32 := match o with
  | none => -2
  | some q => sm_n q
theorem x_neighbour {p w : Nat} (hp : p < 900) (hw : w < 4) (m : gk_M) : f_Planner_neighbour (sm_n p) (sm_n w) m = some (sm_o2 (sm_nb p w), m) := by
  unfold f_Planner_neighbour
  rw [show gk_rem (sm_n p) 30 = sm_n (p % 30) from sm_n_rem (b := 30) (by omega) (by omega)]
  rcases (show w = 0 ∨ w = 1 ∨ w = 2 ∨ w = 3 by omega) with rfl | rfl | rfl | rfl
  · rw [if_pos (show sm_n 0 = 0 from rfl), show sm_nb p 0 = if p % 30 = 0 then none else some (p - 1) from rfl]
    by_cases e : p % 30 = 0
    · rw [if_pos e, if_pos (by simp (disch := omega) only [sm_lit, sm_nlt, sm_nle, sm_neq, sm_n_add, sm_n_mul, sm_n_div, sm_n_rem, sm_bi, sm_bl, sm_bv, sm_let, sm_zz0, sm_zz1, sm_ai, sm_si, sm_al, sm_sl, sm_ar, sm_mi1, sm_mi0, sm_ml1, sm_ml0, sm_mil, sm_mli]; omega)]; rfl
    · rw [if_neg e, if_neg (by simp (disch := omega) only [sm_lit, sm_nlt, sm_nle, sm_neq, sm_n_add, sm_n_mul, sm_n_div, sm_n_rem, sm_bi, sm_bl, sm_bv, sm_let, sm_zz0, sm_zz1, sm_ai, sm_si, sm_al, sm_sl, sm_ar, sm_mi1, sm_mi0, sm_ml1, sm_ml0, sm_mil, sm_mli]; omega), show sm_n p - 1 = sm_n (p - 1) from sm_n_sub (b := 1) (by omega)]; rfl
  · rw [if_neg (show ¬ sm_n 1 = 0 by decide), if_pos (show sm_n 1 = 1 from rfl), show sm_nb p 1 = if 29 ≤ p % 30 then none else some (p + 1) from rfl]
    by_cases e : 29 ≤ p % 30
    · rw [if_pos e, if_pos (by simp (disch := omega) only [sm_lit, sm_nlt, sm_nle, sm_neq, sm_n_add, sm_n_mul, sm_n_div, sm_n_rem, sm_bi, sm_bl, sm_bv, sm_let, sm_zz0, sm_zz1, sm_ai, sm_si, sm_al, sm_sl, sm_ar, sm_mi1, sm_mi0, sm_ml1, sm_ml0, sm_mil, sm_mli]; omega)]; rfl
    · rw [if_neg e, if_neg (by simp (disch := omega) only [sm_lit, sm_nlt, sm_nle, sm_neq, sm_n_add, sm_n_mul, sm_n_div, sm_n_rem, sm_bi, sm_bl, sm_bv, sm_let, sm_zz0, sm_zz1, sm_ai, sm_si, sm_al, sm_sl, sm_ar, sm_mi1, sm_mi0, sm_ml1, sm_ml0, sm_mil, sm_mli]; omega), show sm_n p + 1 = sm_n (p + 1) from sm_n_add p 1]; rfl
  · rw [if_neg (show ¬ sm_n 2 = 0 by decide), if_neg (show ¬ sm_n 2 = 1 by decide), if_pos (show sm_n 2 = 2 from rfl), show sm_nb p 2 = if p < 30 then none else some (p - 30) from rfl]
    by_cases e : p < 30
    · rw [if_pos e, if_pos (by simp (disch := omega) only [sm_lit, sm_nlt, sm_nle, sm_neq, sm_n_add, sm_n_mul, sm_n_div, sm_n_rem, sm_bi, sm_bl, sm_bv, sm_let, sm_zz0, sm_zz1, sm_ai, sm_si, sm_al, sm_sl, sm_ar, sm_mi1, sm_mi0, sm_ml1, sm_ml0, sm_mil, sm_mli]; omega)]; rfl
    · rw [if_neg e, if_neg (by simp (disch := omega) only [sm_lit, sm_nlt, sm_nle, sm_neq, sm_n_add, sm_n_mul, sm_n_div, sm_n_rem, sm_bi, sm_bl, sm_bv, sm_let, sm_zz0, sm_zz1, sm_ai, sm_si, sm_al, sm_sl, sm_ar, sm_mi1, sm_mi0, sm_ml1, sm_ml0, sm_mil, sm_mli]; omega), show sm_n p - 30 = sm_n (p - 30) from sm_n_sub (b := 30) (by omega)]; rfl
  · rw [if_neg (show ¬ sm_n 3 = 0 by decide), if_neg (show ¬ sm_n 3 = 1 by decide), if_neg (show ¬ sm_n 3 = 2 by decide), show sm_nb p 3 = if 870 ≤ p then none else some (p + 30) from rfl]
    by_cases e : 870 ≤ p
    · rw [if_pos e, if_pos (by simp (disch := omega) only [sm_lit, sm_nlt, sm_nle, sm_neq, sm_n_add, sm_n_mul, sm_n_div, sm_n_rem, sm_bi, sm_bl, sm_bv, sm_let, sm_zz0, sm_zz1, sm_ai, sm_si, sm_al, sm_sl, sm_ar, sm_mi1, sm_mi0, sm_ml1, sm_ml0, sm_mil, sm_mli]; omega)]; rfl
    · rw [if_neg e, if_neg (by simp (disch := omega) only [sm_lit, sm_nlt, sm_nle, sm_neq, sm_n_add, sm_n_mul, sm_n_div, sm_n_rem, sm_bi, sm_bl, sm_bv, sm_let, sm_zz0, sm_zz1, sm_ai, sm_si, sm_al, sm_sl, sm_ar, sm_mi1, sm_mi0, sm_ml1, sm_ml0, sm_mil, sm_mli]; omega), show sm_n p + 30 = sm_n (p + 30) from sm_n_add p 30]; rfl
