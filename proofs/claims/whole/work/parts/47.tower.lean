/-! SIM: towers come -/
def sm_has (k : Nat) (T : Nat → sm_tw) (p : Nat) : Bool := sm_any k 0 (fun t => (T t).1 == p)
theorem sm_has_iff {k : Nat} {T : Nat → sm_tw} {p : Nat} : sm_has k T p = true ↔ ∃ t, t < k ∧ (T t).1 = p := by
  unfold sm_has
  rw [sm_any_iff]
  constructor
  · rintro ⟨j, _, h2, h3⟩
    exact ⟨j, by omega, by simpa using h3⟩
  · rintro ⟨j, h2, h3⟩
    exact ⟨j, by omega, by omega, by simpa using h3⟩
theorem x_hasTower_2 {n : Nat} {T : Nat → sm_tw} {m : gk_M} (h5 : m.1 7 5 = sm_n n) (hn : n ≤ 12) (hT : ∀ t, t < 12 → sm_xw m t (T t)) (p : Nat) (hp : p < 900) : ∀ l i fu, i + l = n → l < fu → f_Plain_hasTower_2 fu (sm_n p) (sm_n i) m = some (if sm_any l i (fun t => (T t).1 == p) then 1 else 0, m)
  | 0, i, fu + 1, hi, _ => by
    unfold f_Plain_hasTower_2
    rw [h5, if_pos (by simp (disch := omega) only [sm_lit, sm_nlt, sm_nle, sm_neq, sm_n_add, sm_n_mul, sm_n_div, sm_n_rem, sm_bi, sm_bl, sm_bv, sm_let, sm_zz0, sm_zz1, sm_ai, sm_si, sm_al, sm_sl, sm_ar, sm_mi1, sm_mi0, sm_ml1, sm_ml0, sm_mil, sm_mli]; omega)]
    rfl
  | l + 1, i, fu + 1, hi, hf => by
    have hx := hT i (by omega)
    have h9 := hx.1
    unfold f_Plain_hasTower_2 sm_any
    rw [h5, if_neg (by simp (disch := omega) only [sm_lit, sm_nlt, sm_nle, sm_neq, sm_n_add, sm_n_mul, sm_n_div, sm_n_rem, sm_bi, sm_bl, sm_bv, sm_let, sm_zz0, sm_zz1, sm_ai, sm_si, sm_al, sm_sl, sm_ar, sm_mi1, sm_mi0, sm_ml1, sm_ml0, sm_mil, sm_mli]; omega), x_pointOf (by omega) hx, sm_bi, show sm_n i + 1 = sm_n (i + 1) from sm_n_add i 1]
    by_cases e : (T i).1 = p
    · rw [if_neg (by simp (disch := omega) only [sm_lit, sm_nlt, sm_nle, sm_neq, sm_n_add, sm_n_mul, sm_n_div, sm_n_rem, sm_bi, sm_bl, sm_bv, sm_let, sm_zz0, sm_zz1, sm_ai, sm_si, sm_al, sm_sl, sm_ar, sm_mi1, sm_mi0, sm_ml1, sm_ml0, sm_mil, sm_mli]; exact fun z => z e)]
      simp [e]
    · rw [if_pos (by simp (disch := omega) only [sm_lit, sm_nlt, sm_nle, sm_neq, sm_n_add, sm_n_mul, sm_n_div, sm_n_rem, sm_bi, sm_bl, sm_bv, sm_let, sm_zz0, sm_zz1, sm_ai, sm_si, sm_al, sm_sl, sm_ar, sm_mi1, sm_mi0, sm_ml1, sm_ml0, sm_mil, sm_mli]; exact e), x_hasTower_2 h5 hn hT p hp l (i + 1) fu (by omega) (by omega)]
      have : ((T i).1 == p) = false := by simpa using e
      rw [show (fun t => (T t).1 == p) i = false from this, Bool.false_or]
theorem x_hasTower {n : Nat} {T : Nat → sm_tw} {m : gk_M} (h5 : m.1 7 5 = sm_n n) (hn : n ≤ 12) (hT : ∀ t, t < 12 → sm_xw m t (T t)) {p : Nat} (hp : p < 900) : f_Plain_hasTower (sm_n p) m = some (if sm_has n T p then 1 else 0, m) :=
  x_hasTower_2 h5 hn hT p hp n 0 gk_fv (by omega) (by rw [gk_fv_eq]; omega)
theorem m_isFreeOf_2 {k : Nat} {T : Nat → sm_tw} {m : gk_M} (hk : k ≤ 20) (hT : ∀ t, t < k → m.1 5 t = sm_n (T t).1 ∧ (T t).1 < 900) (p : Nat) (hp : p < 900) : ∀ l i fu, i + l = k → l < fu → f_M_isFreeOf_2 fu (sm_n p) (sm_n k) (sm_n i) m = some (if sm_any l i (fun t => (T t).1 == p) then 0 else 1, m)
  | 0, i, fu + 1, hi, _ => by
    unfold f_M_isFreeOf_2
    rw [if_pos (by simp (disch := omega) only [sm_lit, sm_nlt, sm_nle, sm_neq, sm_n_add, sm_n_mul, sm_n_div, sm_n_rem, sm_bi, sm_bl, sm_bv, sm_let, sm_zz0, sm_zz1, sm_ai, sm_si, sm_al, sm_sl, sm_ar, sm_mi1, sm_mi0, sm_ml1, sm_ml0, sm_mil, sm_mli]; omega)]
    rfl
  | l + 1, i, fu + 1, hi, hf => by
    obtain ⟨hx, h9⟩ := hT i (by omega)
    unfold f_M_isFreeOf_2 sm_any
    rw [if_neg (by simp (disch := omega) only [sm_lit, sm_nlt, sm_nle, sm_neq, sm_n_add, sm_n_mul, sm_n_div, sm_n_rem, sm_bi, sm_bl, sm_bv, sm_let, sm_zz0, sm_zz1, sm_ai, sm_si, sm_al, sm_sl, sm_ar, sm_mi1, sm_mi0, sm_ml1, sm_ml0, sm_mil, sm_mli]; omega), sm_ai (by omega) (by omega), hx, show sm_n i + 1 = sm_n (i + 1) from sm_n_add i 1]
    by_cases e : (T i).1 = p
    · rw [if_neg (by simp (disch := omega) only [sm_lit, sm_nlt, sm_nle, sm_neq, sm_n_add, sm_n_mul, sm_n_div, sm_n_rem, sm_bi, sm_bl, sm_bv, sm_let, sm_zz0, sm_zz1, sm_ai, sm_si, sm_al, sm_sl, sm_ar, sm_mi1, sm_mi0, sm_ml1, sm_ml0, sm_mil, sm_mli]; exact fun z => z e)]
      simp [e]
    · rw [if_pos (by simp (disch := omega) only [sm_lit, sm_nlt, sm_nle, sm_neq, sm_n_add, sm_n_mul, sm_n_div, sm_n_rem, sm_bi, sm_bl, sm_bv, sm_let, sm_zz0, sm_zz1, sm_ai, sm_si, sm_al, sm_sl, sm_ar, sm_mi1, sm_mi0, sm_ml1, sm_ml0, sm_mil, sm_mli]; exact e), m_isFreeOf_2 hk hT p hp l (i + 1) fu (by omega) (by omega)]
      have : ((T i).1 == p) = false := by simpa using e
      rw [show (fun t => (T t).1 == p) i = false from this, Bool.false_or]
theorem m_isFreeOf {k : Nat} {T : Nat → sm_tw} {m : gk_M} (hk : k ≤ 20) (hT : ∀ t, t < k → m.1 5 t = sm_n (T t).1 ∧ (T t).1 < 900) {p : Nat} (hp : p < 900) : f_M_isFreeOf (sm_n p) (sm_n k) m = some (if sm_has k T p then 0 else 1, m) :=
  m_isFreeOf_2 hk hT p hp k 0 gk_fv (by omega) (by rw [gk_fv_eq]; omega)
theorem x_place {t p : Nat} (ht : t < 12) (hp : p < 900) (m : gk_M) : f_Plain_place (sm_n t) (sm_n p) m = some ((), gk_mi (gk_mi m 8 t (sm_n (p % 30))) 9 t (sm_n (p / 30))) := by
  unfold f_Plain_place
  simp (disch := omega) only [sm_lit, sm_nlt, sm_nle, sm_neq, sm_n_add, sm_n_mul, sm_n_div, sm_n_rem, sm_bi, sm_bl, sm_bv, sm_let, sm_zz0, sm_zz1, sm_ai, sm_si, sm_al, sm_sl, sm_ar, sm_mi1, sm_mi0, sm_ml1, sm_ml0, sm_mil, sm_mli]
theorem x_think {t : Nat} (ht : t < 12) (h : Int32) (m : gk_M) : f_Plain_think (sm_n t) h m = some ((), sm_fill (gk_mi (gk_mi (gk_mi m 10 t h) 11 t 0) 12 t 0) 20 0 0 720) := by
  unfold f_Plain_think
  rw [sm_si ht (by omega), sm_si ht (by omega), sm_si ht (by omega), x_forget, sm_bv]
def sm_XB (m : gk_M) (n p : Nat) (h : Int32) (c : Nat) (o : Int32) : gk_M := gk_mi (gk_mi (gk_mi (sm_fill (gk_mi (gk_mi (gk_mi (gk_mi (gk_mi m 8 n (sm_n (p % 30))) 9 n (sm_n (p / 30))) 10 n h) 11 n 0) 12 n 0) 20 0 0 720) 11 n (sm_n c)) 12 n o) 7 5 (sm_n (n + 1))
def sm_MB (m : gk_M) (n p : Nat) (h : Int32) (c : Nat) (o : Int32) : gk_M := gk_mi (gk_mi (gk_mi (gk_mi (gk_mi (gk_mi m 5 n (sm_n p)) 6 n (sm_n n)) 1 n h) 1 (10 + n) (sm_n c)) 1 (20 + n) o) 0 6 (sm_n (n + 1))
theorem build_rl {mx mm : gk_M} {n p c nb : Nat} {h o : Int32} {TX TM : Nat → sm_tw} {R : sm_rd} {S : sm_fs} {F : sm_lf} (hX : sm_X n TX R S F mx) (hM : sm_M n TM R S F mm) (hT : rl_T n TX TM) (hP : rl_pr n mx mm) (hK : rl_tape mx mm) (hS : rl_sight mx mm) (hH : rl_hist n mx mm) (hB : rl_body nb mx mm) (hR : rl_tr mx mm) (hD : rl_sh nb mx mm) (hn : n < 10) (hp : p < 900) (hc : c < 100) (hf : ¬ sm_has n TX p = true) : rl_ (sm_XB mx n p h c o) (sm_MB mm n p h c o) := by
  obtain ⟨x1, x2, x3, x4, x5, x6, x7⟩ := hX
  obtain ⟨y1, y2, y3, y4, y5, y6⟩ := hM
  have fx : ∀ k j, ¬ (k = 8 ∨ k = 9 ∨ k = 10 ∨ k = 11 ∨ k = 12 ∨ k = 20 ∨ (k = 7 ∧ j = 5)) → (sm_XB mx n p h c o).1 k j = mx.1 k j := by
    intro k j hk
    unfold sm_XB
    rw [sm_mi0 (by omega), sm_mi0 (by omega), sm_mi0 (by omega), sm_fill0 (by omega), sm_mi0 (by omega), sm_mi0 (by omega), sm_mi0 (by omega), sm_mi0 (by omega), sm_mi0 (by omega)]
  have fm : ∀ k j, ¬ (k = 1 ∨ k = 5 ∨ k = 6 ∨ (k = 0 ∧ j = 6)) → (sm_MB mm n p h c o).1 k j = mm.1 k j := by
    intro k j hk
    unfold sm_MB
    rw [sm_mi0 (by omega), sm_mi0 (by omega), sm_mi0 (by omega), sm_mi0 (by omega), sm_mi0 (by omega), sm_mi0 (by omega)]
  refine ⟨n + 1, sm_up TX n (p, h, o, n), sm_up TM n (p, h, o, n), R, S, F, nb, ⟨?_, by omega, ?_, sm_xR_fr (fun k j h => fx k j (by omega)) x4, sm_xS_fr (fun k j h => fx k j (by omega)) x5, sm_xF_fr (fun k j h => fx k j (by omega)) x6, sm_xC_0 ?_⟩, ⟨?_, by omega, ?_, sm_mR_fr (fun k j h => fm k j (by omega)) y4, sm_mS_fr (fun k j h => fm k j (by omega)) y5, sm_mF_fr (fun k j h => fm k j (by omega)) y6⟩, ⟨?_, ?_⟩, ?_, rl_tape_fr (fun k j h => fx k j (by omega)) (fun k j h => fm k j (by omega)) hK, rl_sight_fr (fun k j h => fx k j (by omega)) (fun k j h => fm k j (by omega)) hS, rl_hist_fr (fun k j h => fx k j (by omega)) (fun k j h => fm k j (by omega)) (by omega) hH, rl_body_fr (fun k j h => fx k j (by omega)) (fun k j h => fm k j (by omega)) hB, rl_tr_fr (fun k j h => fx k j (by omega)) (fun k j h => fm k j (by omega)) hR, rl_sh_fr (Nat.le_refl nb) (fun k j h => fx k j (by omega)) (fun k j h => fm k j (by omega)) (by intros; rfl) (by intros; rfl) hD⟩
  · unfold sm_XB; rw [sm_mi1]
  · intro t ht
    unfold sm_XB
    by_cases e : t = n
    · subst e
      rw [sm_up1]
      refine ⟨hp, ?_, ?_, ?_, ?_, ?_⟩
      · rw [sm_mi0 (by omega), sm_mi0 (by omega), sm_mi0 (by omega), sm_fill0 (by omega)]; simp (disch := omega) only [sm_mi1, sm_mi0, sm_ml1, sm_ml0, sm_mil, sm_mli]
      · rw [sm_mi0 (by omega), sm_mi0 (by omega), sm_mi0 (by omega), sm_fill0 (by omega)]; simp (disch := omega) only [sm_mi1, sm_mi0, sm_ml1, sm_ml0, sm_mil, sm_mli]
      · rw [sm_mi0 (by omega), sm_mi0 (by omega), sm_mi0 (by omega), sm_fill0 (by omega)]; simp (disch := omega) only [sm_mi1, sm_mi0, sm_ml1, sm_ml0, sm_mil, sm_mli]
      · rw [sm_mi0 (by omega), sm_mi1]
      · show t = min t 10; omega
    · rw [sm_up0 e]
      obtain ⟨a, b, c, d, e, f⟩ := x3 t ht
      refine ⟨a, ?_, ?_, ?_, ?_, f⟩
      · rw [sm_mi0 (by omega), sm_mi0 (by omega), sm_mi0 (by omega), sm_fill0 (by omega)]; simp (disch := omega) only [sm_mi1, sm_mi0, sm_ml1, sm_ml0, sm_mil, sm_mli]; exact b
      · rw [sm_mi0 (by omega), sm_mi0 (by omega), sm_mi0 (by omega), sm_fill0 (by omega)]; simp (disch := omega) only [sm_mi1, sm_mi0, sm_ml1, sm_ml0, sm_mil, sm_mli]; exact c
      · rw [sm_mi0 (by omega), sm_mi0 (by omega), sm_mi0 (by omega), sm_fill0 (by omega)]; simp (disch := omega) only [sm_mi1, sm_mi0, sm_ml1, sm_ml0, sm_mil, sm_mli]; exact d
      · rw [sm_mi0 (by omega), sm_mi0 (by omega), sm_mi0 (by omega), sm_fill0 (by omega)]; simp (disch := omega) only [sm_mi1, sm_mi0, sm_ml1, sm_ml0, sm_mil, sm_mli]; exact e
  · intro j hj
    unfold sm_XB
    rw [sm_mi0 (by omega), sm_mi0 (by omega), sm_mi0 (by omega), sm_fill1 (by omega)]
  · unfold sm_MB; rw [sm_mi1]
  · intro t ht
    unfold sm_MB sm_mw
    by_cases e : t = n
    · subst e
      rw [sm_up1, if_pos (by omega), if_pos (by omega)]
      exact ⟨hp, by simp (disch := omega) only [sm_mi1, sm_mi0, sm_ml1, sm_ml0, sm_mil, sm_mli], by simp (disch := omega) only [sm_mi1, sm_mi0, sm_ml1, sm_ml0, sm_mil, sm_mli], by simp (disch := omega) only [sm_mi1, sm_mi0, sm_ml1, sm_ml0, sm_mil, sm_mli], by simp (disch := omega) only [sm_mi1, sm_mi0, sm_ml1, sm_ml0, sm_mil, sm_mli], by show t ≤ 10; omega⟩
    · rw [sm_up0 e]
      obtain ⟨a, b, c, d, e, f⟩ := y3 t ht
      by_cases tn : t < n
      · rw [if_pos tn] at c d
        rw [if_pos (by omega), if_pos (by omega)]
        exact ⟨a, by simp (disch := omega) only [sm_mi1, sm_mi0, sm_ml1, sm_ml0, sm_mil, sm_mli]; exact b, by simp (disch := omega) only [sm_mi1, sm_mi0, sm_ml1, sm_ml0, sm_mil, sm_mli]; exact c, by simp (disch := omega) only [sm_mi1, sm_mi0, sm_ml1, sm_ml0, sm_mil, sm_mli]; exact d, by simp (disch := omega) only [sm_mi1, sm_mi0, sm_ml1, sm_ml0, sm_mil, sm_mli]; exact e, f⟩
      · rw [if_neg tn] at c d
        rw [if_neg (by omega), if_neg (by omega)]
        exact ⟨a, by simp (disch := omega) only [sm_mi1, sm_mi0, sm_ml1, sm_ml0, sm_mil, sm_mli]; exact b, by simp (disch := omega) only [sm_mi1, sm_mi0, sm_ml1, sm_ml0, sm_mil, sm_mli]; exact c, d, by simp (disch := omega) only [sm_mi1, sm_mi0, sm_ml1, sm_ml0, sm_mil, sm_mli]; exact e, f⟩
  · intro t ht
    by_cases e : t = n
    · subst e; rw [sm_up1, sm_up1]
    · rw [sm_up0 e, sm_up0 e]; exact hT.1 t (by omega)
  · intro s t hs ht
    by_cases e : t = n
    · subst e
      rw [sm_up1, sm_up0 (by omega)]
      intro z
      exact hf (sm_has_iff.mpr ⟨s, hs, z⟩)
    · rw [sm_up0 e, sm_up0 (by omega)]
      exact hT.2 s t hs (by omega)
  · intro t ht
    unfold sm_XB sm_MB
    by_cases e : t = n
    · subst e
      exact ⟨c, by omega, by simp (disch := omega) only [sm_mi1, sm_mi0, sm_ml1, sm_ml0, sm_mil, sm_mli], by simp (disch := omega) only [sm_mi1, sm_mi0, sm_ml1, sm_ml0, sm_mil, sm_mli]⟩
    · obtain ⟨q, q1, q2, q3⟩ := hP t (by omega)
      refine ⟨q, q1, ?_, by simp (disch := omega) only [sm_mi1, sm_mi0, sm_ml1, sm_ml0, sm_mil, sm_mli]; exact q3⟩
      rw [sm_mi0 (by omega), sm_mi0 (by omega), sm_mi0 (by omega), sm_fill0 (by omega)]; simp (disch := omega) only [sm_mi1, sm_mi0, sm_ml1, sm_ml0, sm_mil, sm_mli]; exact q2
theorem sm_u_ne {a : Int32} {h : Nat} : ¬ sm_u a h = 0 → sm_u a h = 1 := fun e => (sm_u01 a h).resolve_left e
theorem x_build {mx : gk_M} {n : Nat} {TX : Nat → sm_tw} {R : sm_rd} {S : sm_fs} {F : sm_lf} (hX : sm_X n TX R S F mx) (a1 a2 a3 a4 : Int32) :
    (f_Plain_build a1 a2 a3 a4 mx = some (-1, mx) ∧ (sm_u a1 900 = 0 ∨ sm_u a2 10 = 0 ∨ sm_u a3 100 = 0 ∨ sm_u a4 2 = 0)) ∨
    ∃ p c, p < 900 ∧ c < 100 ∧ a1 = sm_n p ∧ a3 = sm_n c ∧ sm_u a2 10 = 1 ∧ sm_u a4 2 = 1 ∧ f_Plain_build a1 a2 a3 a4 mx = if sm_has n TX p = true then some (-1, mx) else if n = 10 then some (-3, mx) else some (sm_n n, sm_XB mx n p a2 c a4) := by
  obtain ⟨x1, x2, x3, x4, x5, x6, x7⟩ := hX
  have e3 : ∀ (p q : Option (Int32 × gk_M)), (if a3 < 0 then p else if sm_n 99 < a3 then p else q) = if sm_u a3 100 = 0 then p else q := fun p q => sm_in' a3 99 (by omega) rfl p q
  have e4 : ∀ (p q : Option (Int32 × gk_M)), (if a4 < 0 then p else if a4 ≤ 1 then q else p) = if sm_u a4 2 = 0 then p else q := fun p q => sm_in a4 1 (by omega) rfl p q
  unfold f_Plain_build
  rw [x_isPoint, sm_bi, x_isHeight, sm_bi, show (1 : Int32) = sm_n 1 from rfl, x_most (by omega), sm_bi, show sm_mx 1 - 1 = 99 from rfl, show sm_n 1 = (1 : Int32) from rfl, e3, e4]
  rcases sm_u_cases a1 900 (by omega) with ⟨e0, e1⟩ | ⟨p, hp, rfl, e1⟩
  · rw [if_pos e0]; exact Or.inl ⟨rfl, Or.inl e0⟩
  rw [if_neg (show ¬ sm_u (sm_n p) 900 = 0 by rw [e1]; decide)]
  by_cases e2 : sm_u a2 10 = 0
  · rw [if_pos e2]; exact Or.inl ⟨rfl, Or.inr (Or.inl e2)⟩
  rw [if_neg e2]
  rcases sm_u_cases a3 100 (by omega) with ⟨e0, e5⟩ | ⟨c, hc, rfl, e5⟩
  · rw [if_pos e0]; exact Or.inl ⟨rfl, Or.inr (Or.inr (Or.inl e0))⟩
  rw [if_neg (show ¬ sm_u (sm_n c) 100 = 0 by rw [e5]; decide)]
  by_cases e6 : sm_u a4 2 = 0
  · rw [if_pos e6]; exact Or.inl ⟨rfl, Or.inr (Or.inr (Or.inr e6))⟩
  rw [if_neg e6]
  refine Or.inr ⟨p, c, hp, hc, rfl, rfl, sm_u_ne e2, sm_u_ne e6, ?_⟩
  rw [x_hasTower x1 (by omega) x3 hp, sm_bi]
  by_cases hh : sm_has n TX p = true
  · rw [if_pos hh, if_neg (show ¬ (1 : Int32) = 0 by decide), if_pos hh]
  · rw [if_neg hh, if_pos rfl, if_neg hh, x1]
    by_cases h10 : n = 10
    · rw [if_neg (by simp (disch := omega) only [sm_lit, sm_nlt, sm_nle, sm_neq, sm_n_add, sm_n_mul, sm_n_div, sm_n_rem, sm_bi, sm_bl, sm_bv, sm_let, sm_zz0, sm_zz1, sm_ai, sm_si, sm_al, sm_sl, sm_ar, sm_mi1, sm_mi0, sm_ml1, sm_ml0, sm_mil, sm_mli]; omega), if_pos h10]
    · rw [if_pos (by simp (disch := omega) only [sm_lit, sm_nlt, sm_nle, sm_neq, sm_n_add, sm_n_mul, sm_n_div, sm_n_rem, sm_bi, sm_bl, sm_bv, sm_let, sm_zz0, sm_zz1, sm_ai, sm_si, sm_al, sm_sl, sm_ar, sm_mi1, sm_mi0, sm_ml1, sm_ml0, sm_mil, sm_mli]; omega), if_neg h10, x_place (by omega) hp, sm_bv, sm_mi0 (by omega), sm_mi0 (by omega), x1, x_think (by omega), sm_bv]
      obtain ⟨M, hM⟩ : ∃ M, M = sm_fill (gk_mi (gk_mi (gk_mi (gk_mi (gk_mi mx 8 n (sm_n (p % 30))) 9 n (sm_n (p / 30))) 10 n a2) 11 n 0) 12 n 0) 20 0 0 720 := ⟨_, rfl⟩
      have e7 : M.1 7 5 = sm_n n := by rw [hM, sm_fill0 (by omega)]; simp (disch := omega) only [sm_mi1, sm_mi0, sm_ml1, sm_ml0, sm_mil, sm_mli]; exact x1
      unfold sm_XB
      rw [← hM, e7, sm_si (by omega) (by omega), sm_mi0 (by omega), e7, sm_si (by omega) (by omega), sm_mi0 (by omega), sm_mi0 (by omega), e7, sm_let, sm_mi1, show sm_n n + 1 = sm_n (n + 1) from sm_n_add n 1, show sm_n (n + 1) - 1 = sm_n n from sm_n_sub (a := n + 1) (b := 1) (by omega)]
theorem m_mayStand {mm : gk_M} {n : Nat} {TM : Nat → sm_tw} {R : sm_rd} {S : sm_fs} {F : sm_lf} (hM : sm_M n TM R S F mm) (a1 a2 a3 : Int32) :
    (f_M_mayStand a1.toInt64 a2.toInt64 a3.toInt64 mm = some (0, mm) ∧ (sm_u a1 900 = 0 ∨ sm_u a2 10 = 0 ∨ sm_u a3 100 = 0)) ∨
    ∃ p c, p < 900 ∧ c < 100 ∧ a1 = sm_n p ∧ a3 = sm_n c ∧ sm_u a2 10 = 1 ∧ f_M_mayStand a1.toInt64 a2.toInt64 a3.toInt64 mm = some (if sm_has n TM p = true then 0 else 1, mm) := by
  obtain ⟨x1, x2, x3, x4, x5, x6⟩ := hM
  unfold f_M_mayStand
  rw [m_within (h := 900) (hi := 899) (by omega) rfl, sm_bi, m_within (h := 10) (hi := 9) (by omega) rfl, sm_bi, m_within (h := 100) (hi := 99) (by omega) rfl, sm_bi]
  rcases sm_u_cases a1 900 (by omega) with ⟨e0, e1⟩ | ⟨p, hp, rfl, e1⟩
  · rw [if_pos e0]; exact Or.inl ⟨rfl, Or.inl e0⟩
  rw [if_neg (show ¬ sm_u (sm_n p) 900 = 0 by rw [e1]; decide)]
  by_cases e2 : sm_u a2 10 = 0
  · rw [if_pos e2]; exact Or.inl ⟨rfl, Or.inr (Or.inl e2)⟩
  rw [if_neg e2]
  rcases sm_u_cases a3 100 (by omega) with ⟨e0, e5⟩ | ⟨c, hc, rfl, e5⟩
  · rw [if_pos e0]; exact Or.inl ⟨rfl, Or.inr (Or.inr e0)⟩
  rw [if_neg (show ¬ sm_u (sm_n c) 100 = 0 by rw [e5]; decide)]
  refine Or.inr ⟨p, c, hp, hc, rfl, rfl, sm_u_ne e2, ?_⟩
  rw [sm_wn (by omega), sm_nar, ← sm_ni, x1, m_isFreeOf (T := TM) (by omega) (fun t ht => ⟨(x3 t (by omega)).2.1, (x3 t (by omega)).1⟩) hp, sm_bi]
  by_cases hh : sm_has n TM p = true
  · rw [if_pos hh, if_pos rfl]
  · rw [if_neg hh, if_neg (show ¬ (1 : Int32) = 0 by decide)]
theorem m_adds {mm : gk_M} {n : Nat} (h6 : mm.1 0 6 = sm_n n) (hn : n < 10) (p c : Nat) (h o : Int32) : f_M_adds (sm_n p) h (sm_n c) o mm = some ((), sm_MB mm n p h c o) := by
  unfold f_M_adds sm_MB
  simp only [h6]
  simp (disch := omega) only [sm_lit, sm_nlt, sm_nle, sm_neq, sm_n_add, sm_n_mul, sm_n_div, sm_n_rem, sm_bi, sm_bl, sm_bv, sm_let, sm_zz0, sm_zz1, sm_ai, sm_si, sm_al, sm_sl, sm_ar, sm_mi1, sm_mi0, sm_ml1, sm_ml0, sm_mil, sm_mli, h6]
theorem sm_has_cg {n : Nat} {TX TM : Nat → sm_tw} (h : rl_T n TX TM) (p : Nat) : sm_has n TX p = sm_has n TM p :=
  sm_any_cg (fun j _ h2 => by rw [h.1 j (by omega)])
theorem c_tower {mx mm : gk_M} (h : rl_ mx mm) (a b : Int32) : sm_al2 mx mm (f_X_tower a b mx) (f_M_tower a b mm) := by
  obtain ⟨n, TX, TM, R, S, F, nb, hX, hM, hT, hP, hK, hS, hH, hB, hR, hD⟩ := id h
  have hn := hX.2.1
  unfold f_X_tower f_M_tower
  by_cases h0 : b < 0
  · rw [if_neg (by rw [sm_le]; rw [sm_lt] at h0; omega), if_pos h0]; exact sm_al_id h
  rw [if_pos (by rw [sm_le]; rw [sm_lt] at h0; omega), if_neg h0]
  obtain ⟨q, hq, rfl⟩ := sm_get h0
  rw [show (1000 : Int32) = sm_n 1000 from rfl, show (10 : Int32) = sm_n 10 from rfl, show (100 : Int32) = sm_n 100 from rfl, sm_n_div hq (by omega), sm_n_div hq (by omega), sm_n_rem (by omega) (by omega), sm_n_rem (by omega) (by omega)]
  rcases m_mayStand hM a (sm_n (q / 1000)) (sm_n (q / 10 % 100)) with ⟨e1, e2⟩ | ⟨p, c, hp, hc, rfl, ec, e3, e1⟩
  · rw [e1, sm_bi, if_pos rfl]
    rcases x_build hX a (sm_n (q / 1000)) (sm_n (q / 10 % 100)) (sm_n (q % 10)) with ⟨f1, f2⟩ | ⟨p, c, hp, hc, rfl, ec, f3, f4, f1⟩
    · rw [f1, sm_bi]; exact sm_al_id h
    · exfalso
      rw [ec, f3, sm_u1 hp (by omega), sm_u1 hc (by omega)] at e2
      revert e2; decide
  · rw [e1, sm_bi]
    rcases x_build hX (sm_n p) (sm_n (q / 1000)) (sm_n (q / 10 % 100)) (sm_n (q % 10)) with ⟨f1, f2⟩ | ⟨p', c', hp', hc', ep, ec', f3, f4, f1⟩
    · rw [ec, e3, sm_u1 hp (by omega), sm_u1 hc (by omega)] at f2
      have f2 : sm_u (sm_n (q % 10)) 2 = 0 := by
        rcases f2 with z | z | z | z
        · exact absurd z (by decide)
        · exact absurd z (by decide)
        · exact absurd z (by decide)
        · exact z
      have f3 : ¬ sm_n (q % 10) ≤ 1 := by
        simp (disch := omega) only [sm_lit, sm_nlt, sm_nle, sm_neq, sm_n_add, sm_n_mul, sm_n_div, sm_n_rem, sm_bi, sm_bl, sm_bv, sm_let, sm_zz0, sm_zz1, sm_ai, sm_si, sm_al, sm_sl, sm_ar, sm_mi1, sm_mi0, sm_ml1, sm_ml0, sm_mil, sm_mli]
        intro z
        rw [sm_u1 (by omega) (by omega)] at f2
        revert f2; decide
      rw [f1, sm_bi, if_neg f3]
      split <;> exact sm_al_id h
    · rw [sm_neq (by omega) (by omega)] at ep
      subst ep
      rw [f1, sm_has_cg hT]
      have f3 : sm_n (q % 10) ≤ 1 := by
        simp (disch := omega) only [sm_lit, sm_nlt, sm_nle, sm_neq, sm_n_add, sm_n_mul, sm_n_div, sm_n_rem, sm_bi, sm_bl, sm_bv, sm_let, sm_zz0, sm_zz1, sm_ai, sm_si, sm_al, sm_sl, sm_ar, sm_mi1, sm_mi0, sm_ml1, sm_ml0, sm_mil, sm_mli]
        rcases sm_u_cases (sm_n (q % 10)) 2 (by omega) with ⟨z, _⟩ | ⟨o, ho, eo, _⟩
        · rw [z] at f4; exact absurd f4 (by decide)
        · rw [sm_neq (by omega) (by omega)] at eo; omega
      by_cases hh : sm_has n TM p = true
      · rw [if_pos hh, if_pos hh, sm_bi, if_pos rfl]; exact sm_al_id h
      · rw [if_neg hh, if_neg hh, if_neg (show ¬ (1 : Int32) = 0 by decide), if_pos f3, hM.1]
        by_cases h10 : n = 10
        · rw [if_pos h10, if_neg (by simp (disch := omega) only [sm_lit, sm_nlt, sm_nle, sm_neq, sm_n_add, sm_n_mul, sm_n_div, sm_n_rem, sm_bi, sm_bl, sm_bv, sm_let, sm_zz0, sm_zz1, sm_ai, sm_si, sm_al, sm_sl, sm_ar, sm_mi1, sm_mi0, sm_ml1, sm_ml0, sm_mil, sm_mli]; omega), sm_bi]; exact sm_al_id h
        · rw [if_neg h10, if_pos (by simp (disch := omega) only [sm_lit, sm_nlt, sm_nle, sm_neq, sm_n_add, sm_n_mul, sm_n_div, sm_n_rem, sm_bi, sm_bl, sm_bv, sm_let, sm_zz0, sm_zz1, sm_ai, sm_si, sm_al, sm_sl, sm_ar, sm_mi1, sm_mi0, sm_ml1, sm_ml0, sm_mil, sm_mli]; exact h10), sm_bi, m_adds hM.1 (by omega), sm_bv]
          rw [sm_neq (by omega) (by omega)] at ec'
          rw [ec', show (sm_MB mm n p (sm_n (q / 1000)) c' (sm_n (q % 10))).1 0 6 = sm_n (n + 1) from sm_mi1 _ _ _ _, show sm_n (n + 1) - 1 = sm_n n from sm_n_sub (a := n + 1) (b := 1) (by omega)]
          exact ⟨_, _, _, rfl, rfl, build_rl hX hM hT hP hK hS hH hB hR hD (by omega) hp hc' (by rw [sm_has_cg hT]; exact hh)⟩
/-- a row of shorts on a shelf, for both -/
def sm_row (d sz : Nat) (mx mm : gk_M) : Prop := mx.1 (41 + d) 3 = sm_n sz ∧ mm.1 24 d = sm_n sz ∧ ∀ i, i < sz → mx.2 (47 + d) i = mm.2 25 (60 * d + i) ∧ ∃ z : Int, -32768 ≤ z ∧ z ≤ 32767 ∧ mx.2 (47 + d) i = sm_l z
theorem c_towers_l {d sz i0 want : Nat} (hd : d < 6) (hsz : sz ≤ 60) (hi : i0 < 2147483648) (hw : want ≤ 10) : ∀ l k fu fu' mx mm, k + l = want → l < fu → l + 1 < fu' → (k = 0 ∨ i0 + 3 * k ≤ sz) → rl_ mx mm → sm_row d sz mx mm → sm_al2 mx mm (f_X_towers_56 fu (sm_n want) d (sm_n k) (sm_n (i0 + 3 * k)) mx) (f_M_towers_69 fu' (sm_n d) (sm_n i0) (sm_n want) (sm_n k) 1 mm)
  | 0, k, fu + 1, fu' + 1, mx, mm, hk, _, _, hk2, h, hr => by
    unfold f_X_towers_56 f_M_towers_69
    rw [if_pos (by simp (disch := omega) only [sm_lit, sm_nlt, sm_nle, sm_neq, sm_n_add, sm_n_mul, sm_n_div, sm_n_rem, sm_bi, sm_bl, sm_bv, sm_let, sm_zz0, sm_zz1, sm_ai, sm_si, sm_al, sm_sl, sm_ar, sm_mi1, sm_mi0, sm_ml1, sm_ml0, sm_mil, sm_mli]; omega), if_neg (by decide), if_pos (by simp (disch := omega) only [sm_lit, sm_nlt, sm_nle, sm_neq, sm_n_add, sm_n_mul, sm_n_div, sm_n_rem, sm_bi, sm_bl, sm_bv, sm_let, sm_zz0, sm_zz1, sm_ai, sm_si, sm_al, sm_sl, sm_ar, sm_mi1, sm_mi0, sm_ml1, sm_ml0, sm_mil, sm_mli]; omega)]
    exact sm_al_id h
  | l + 1, k, fu + 1, fu' + 2, mx, mm, hk, hf, hf', hk2, h, hr => by
    have hstop : ∀ v m, f_M_towers_69 (fu' + 1) (sm_n d) (sm_n i0) (sm_n want) v 0 m = some (v, m) := by
      intro v m
      unfold f_M_towers_69
      rw [if_pos rfl]
    obtain ⟨n, TX, TM, R, S, F, nb, hX, hM, hT, hP, hK, hS, hH, hB, hR, hD⟩ := id h
    obtain ⟨r1, r2, r3⟩ := id hr
    have hn := hX.2.1
    unfold f_X_towers_56 f_M_towers_69
    rw [if_neg (by simp (disch := omega) only [sm_lit, sm_nlt, sm_nle, sm_neq, sm_n_add, sm_n_mul, sm_n_div, sm_n_rem, sm_bi, sm_bl, sm_bv, sm_let, sm_zz0, sm_zz1, sm_ai, sm_si, sm_al, sm_sl, sm_ar, sm_mi1, sm_mi0, sm_ml1, sm_ml0, sm_mil, sm_mli]; omega), if_neg (by decide), if_neg (by simp (disch := omega) only [sm_lit, sm_nlt, sm_nle, sm_neq, sm_n_add, sm_n_mul, sm_n_div, sm_n_rem, sm_bi, sm_bl, sm_bv, sm_let, sm_zz0, sm_zz1, sm_ai, sm_si, sm_al, sm_sl, sm_ar, sm_mi1, sm_mi0, sm_ml1, sm_ml0, sm_mil, sm_mli]; omega), sm_ai hd (by omega), r2]
    by_cases hsp : i0 + 3 * k + 3 ≤ sz
    · have e1 : ¬ (sm_n sz - 3 - 3 * sm_n k < sm_n i0) := by
        rw [show (3 : Int32) = sm_i 3 from rfl, sm_ni, sm_ni, sm_ni, sm_i_sub, sm_i_mul, sm_i_sub, sm_ilt (by omega) (by omega) (by omega) (by omega)]
        omega
      rw [show (3 : Int32) = sm_n 3 from rfl, x_spansN (by omega) (by omega) hsz r1, if_pos hsp, sm_bi, if_neg (show ¬ (1 : Int32) = 0 by decide), show sm_n 3 = (3 : Int32) from rfl, if_neg e1, hM.1]
      obtain ⟨q0, z0, u0, u0', w0⟩ := r3 (i0 + 3 * k) (by omega)
      obtain ⟨q1, z1, u1, u1', w1⟩ := r3 (i0 + 3 * k + 1) (by omega)
      obtain ⟨q2, z2, u2, u2', w2⟩ := r3 (i0 + 3 * k + 2) (by omega)
      rw [sm_al (by omega) (by omega), show sm_n (i0 + 3 * k) + 1 = sm_n (i0 + 3 * k + 1) from sm_n_add _ 1, sm_al (by omega) (by omega), show sm_n (i0 + 3 * k) + 2 = sm_n (i0 + 3 * k + 2) from sm_n_add _ 2, sm_al (by omega) (by omega), w0, w1, w2, sm_nar, sm_nar, sm_nar]
      rw [w0] at q0
      rw [w1] at q1
      rw [w2] at q2
      have s0 : sm_l z0 = (sm_i z0).toInt64 := (sm_wide (by omega) (by omega)).symm
      have s1 : sm_l z1 = (sm_i z1).toInt64 := (sm_wide (by omega) (by omega)).symm
      have s2 : sm_l z2 = (sm_i z2).toInt64 := (sm_wide (by omega) (by omega)).symm
      have eM : f_M_towers_111 (f_M_towers_69 (fu' + 1)) (sm_n d) (sm_n i0) (sm_n want) (sm_n k) 1 mm = gk_bi (f_M_mayStand (sm_i z0).toInt64 (sm_i z1).toInt64 (sm_i z2).toInt64 mm) fun v6 m5 => if v6 = 0 then some (sm_n k, m5) else gk_bv (f_M_adds (sm_i z0) (sm_i z1) (sm_i z2) 0 m5) fun m4 => f_M_towers_69 (fu' + 1) (sm_n d) (sm_n i0) (sm_n want) (sm_n k + 1) 1 m4 := by
        unfold f_M_towers_111 f_M_towers_167 f_M_towers_168
        rw [sm_let, if_neg (show ¬ (1 : Int32) = 0 by decide)]
        rw [show (60 : Int32) * sm_n d + sm_n i0 + 3 * sm_n k = sm_n (60 * d + (i0 + 3 * k)) by rw [show (60 : Int32) = sm_n 60 from rfl, show (3 : Int32) = sm_n 3 from rfl, sm_n_mul, sm_n_mul, sm_n_add, sm_n_add]; congr 1; omega]
        rw [sm_al (by omega) (by omega), show sm_n (60 * d + (i0 + 3 * k)) + 1 = sm_n (60 * d + (i0 + 3 * k + 1)) from sm_n_add _ 1, sm_al (by omega) (by omega), show sm_n (60 * d + (i0 + 3 * k)) + 2 = sm_n (60 * d + (i0 + 3 * k + 2)) from sm_n_add _ 2, sm_al (by omega) (by omega), ← q0, ← q1, ← q2, s0, s1, s2]
        obtain ⟨M, eM, hc⟩ : ∃ v, f_M_mayStand (sm_i z0).toInt64 (sm_i z1).toInt64 (sm_i z2).toInt64 mm = some (v, mm) ∧ True := by
          rcases m_mayStand hM (sm_i z0) (sm_i z1) (sm_i z2) with ⟨e1, _⟩ | ⟨p, c, hp, hc, _, _, _, e1⟩
          · exact ⟨_, e1, trivial⟩
          · exact ⟨_, e1, trivial⟩
        rw [eM, sm_bi, sm_bi]
        by_cases hz : M = 0
        · rw [if_pos hz, if_pos hz, if_pos rfl, hstop]
        · rw [if_neg hz, if_neg hz, if_neg (show ¬ (1 : Int32) = 0 by decide), sm_al (by omega) (by omega), sm_al (by omega) (by omega), sm_al (by omega) (by omega), ← q0, ← q1, ← q2, sm_nar, sm_nar, sm_nar]
      have eM0 : f_M_towers_110 (f_M_towers_69 (fu' + 1)) (sm_n d) (sm_n i0) (sm_n want) (sm_n k) mm = some (sm_n k, mm) := by
        unfold f_M_towers_110 f_M_towers_111 f_M_towers_167 f_M_towers_168
        rw [sm_let, if_pos rfl, if_pos rfl, hstop]
      rcases x_build hX (sm_i z0) (sm_i z1) (sm_i z2) 0 with ⟨f1, f2⟩ | ⟨p, c, hp, hc, ep, ec, f3, f4, f1⟩
      · have f2 : sm_u (sm_i z0) 900 = 0 ∨ sm_u (sm_i z1) 10 = 0 ∨ sm_u (sm_i z2) 100 = 0 := by
          rcases f2 with z | z | z | z
          · exact Or.inl z
          · exact Or.inr (Or.inl z)
          · exact Or.inr (Or.inr z)
          · exact absurd z (by decide)
        rw [f1, sm_bi, if_neg (by decide)]
        split
        · rw [eM0]; exact sm_al_id h
        · rw [eM]
          rcases m_mayStand hM (sm_i z0) (sm_i z1) (sm_i z2) with ⟨e1, _⟩ | ⟨p, c, hp, hc, ep, ec, e3, e1⟩
          · rw [e1, sm_bi, if_pos rfl]; exact sm_al_id h
          · exfalso
            rw [ep, ec, e3, sm_u1 hp (by omega), sm_u1 hc (by omega)] at f2
            exact absurd f2 (by decide)
      · rw [f1]
        by_cases h10 : n = 10
        · rw [if_pos (show 10 ≤ sm_n n by simp (disch := omega) only [sm_lit, sm_nlt, sm_nle, sm_neq, sm_n_add, sm_n_mul, sm_n_div, sm_n_rem, sm_bi, sm_bl, sm_bv, sm_let, sm_zz0, sm_zz1, sm_ai, sm_si, sm_al, sm_sl, sm_ar, sm_mi1, sm_mi0, sm_ml1, sm_ml0, sm_mil, sm_mli]; omega), eM0, if_pos h10]
          split
          · rw [sm_bi, if_neg (by decide)]; exact sm_al_id h
          · rw [sm_bi, if_neg (by decide)]; exact sm_al_id h
        · rw [if_neg (show ¬ 10 ≤ sm_n n by simp (disch := omega) only [sm_lit, sm_nlt, sm_nle, sm_neq, sm_n_add, sm_n_mul, sm_n_div, sm_n_rem, sm_bi, sm_bl, sm_bv, sm_let, sm_zz0, sm_zz1, sm_ai, sm_si, sm_al, sm_sl, sm_ar, sm_mi1, sm_mi0, sm_ml1, sm_ml0, sm_mil, sm_mli]; omega), eM, if_neg h10]
          rcases m_mayStand hM (sm_i z0) (sm_i z1) (sm_i z2) with ⟨e1, e2⟩ | ⟨p', c', hp', hc', ep', ec', e3, e1⟩
          · exfalso
            rw [ep, ec, f3, sm_u1 hp (by omega), sm_u1 hc (by omega)] at e2
            exact absurd e2 (by decide)
          · rw [ep, sm_neq (by omega) (by omega)] at ep'
            subst ep'
            rw [e1, sm_bi, sm_has_cg hT]
            by_cases hh : sm_has n TM p = true
            · rw [if_pos hh, if_pos hh, if_pos rfl, sm_bi, if_neg (by decide)]; exact sm_al_id h
            · rw [if_neg hh, if_neg hh, if_neg (show ¬ (1 : Int32) = 0 by decide), sm_bi, if_pos (sm_nn' (by omega)), ep, ec, m_adds hM.1 (by omega), sm_bv, show sm_n k + 1 = sm_n (k + 1) from sm_n_add k 1, show sm_n (i0 + 3 * k) + 3 = sm_n (i0 + 3 * (k + 1)) from (sm_n_add _ 3).trans (by congr 1)]
              have H := build_rl (p := p) (c := c) (h := sm_i z1) (o := 0) hX hM hT hP hK hS hH hB hR hD (by omega) hp hc (by rw [sm_has_cg hT]; exact hh)
              obtain ⟨v, mx', mm', g1, g2, g3⟩ := c_towers_l hd hsz hi hw l (k + 1) fu (fu' + 1) _ _ (by omega) (by omega) (by omega) (by omega) H ⟨by
                unfold sm_XB
                rw [sm_mi0 (by omega), sm_mi0 (by omega), sm_mi0 (by omega), sm_fill0 (by omega)]; simp (disch := omega) only [sm_mi1, sm_mi0, sm_ml1, sm_ml0, sm_mil, sm_mli]; exact r1, by
                unfold sm_MB
                simp (disch := omega) only [sm_mi1, sm_mi0, sm_ml1, sm_ml0, sm_mil, sm_mli]; exact r2, r3⟩
              exact ⟨v, mx', mm', g1, g2, g3⟩
    · have e1 : sm_n sz - 3 - 3 * sm_n k < sm_n i0 := by
        rw [show (3 : Int32) = sm_i 3 from rfl, sm_ni, sm_ni, sm_ni, sm_i_sub, sm_i_mul, sm_i_sub, sm_ilt (by omega) (by omega) (by omega) (by omega)]
        omega
      rw [show (3 : Int32) = sm_n 3 from rfl, x_spansN (by omega) (by omega) hsz r1, if_neg hsp, sm_bi, if_pos rfl, show sm_n 3 = (3 : Int32) from rfl, if_pos e1]
      unfold f_M_towers_110 f_M_towers_111 f_M_towers_167 f_M_towers_168
      rw [sm_let, if_pos rfl, if_pos rfl, hstop]
      exact sm_al_id h
theorem c_towers {mx mm : gk_M} (h : rl_ mx mm) (a b c : Int32) : sm_al2 mx mm (f_X_towers a b c mx) (f_M_towers a b c mm) := by
  obtain ⟨n, TX, TM, R, S, F, nb, hX, hM, hT, hP, hK, hS, hH, hB, hR, hD⟩ := id h
  have hb50 := hB.1
  have stop : ∀ (a3 : Int32), f_M_towers_66 a b a3 0 mm = some (0, mm) := by
    intro a3
    unfold f_M_towers_66 f_M_towers_67
    rw [show gk_fv = 99999 + 1 from gk_fv_eq]
    unfold f_M_towers_69
    rw [if_pos rfl]
  unfold f_X_towers f_M_towers
  rw [x_isShelf, sm_bi, m_isShelf, sm_bi]
  rcases sm_u_cases a 6 (by omega) with ⟨e0, e1⟩ | ⟨d, hd, rfl, e1⟩
  · rw [if_pos e0, if_pos e0]; exact sm_al_id h
  rw [if_neg (show ¬ sm_u (sm_n d) 6 = 0 by rw [e1]; decide), if_neg (show ¬ sm_u (sm_n d) 6 = 0 by rw [e1]; decide), show (10 : Int64) = (10 : Int32).toInt64 from rfl, m_within2 (b := 1) (c := 10) (lo := 1) rfl, sm_bi]
  by_cases c1 : c < 1
  · rw [if_pos c1, if_pos c1, if_neg (fun z => z rfl)]; exact sm_al_id h
  rw [if_neg c1, if_neg c1]
  by_cases c2 : c ≤ 10
  · have c2' : ¬ 10 < c := by rw [sm_le] at c2; rw [sm_lt]; omega
    rw [if_pos c2, if_neg c2', if_pos (by decide), sm_ar hd (by omega), sm_ai hd (by omega)]
    obtain ⟨want, hwant, rfl⟩ := sm_get (x := c) (by rw [sm_lt] at c1 ⊢; have : (0 : Int32).toInt ≤ (1 : Int32).toInt := by decide
                                                     omega)
    have hw10 : want ≤ 10 := by
      rw [show (10 : Int32) = sm_n 10 from rfl, sm_nle (by omega) (by omega)] at c2; exact c2
    unfold f_Shelf_isEmpty f_Shelf_isRowOf f_Shelf_isRow
    rcases hD d hd with ⟨h1, h2, h3⟩ | ⟨b', h0, h1, h2, h3⟩ | ⟨s, sz, h0, h1, h2, h3, h4, h5, h6, h7⟩
    · rw [if_neg (show ¬ ¬ mx.1 (41 + d) 1 = -1 by rw [h1]; decide), if_neg (show ¬ ¬ mx.1 (41 + d) 2 = -1 by rw [h2]; decide), sm_bi, if_neg (by decide), h3, if_pos (by decide)]
      unfold f_M_towers_44
      rw [sm_ai hd (by omega), h3, if_pos (by decide), stop]
      exact sm_al_id h
    · rw [if_pos (show ¬ mx.1 (41 + d) 1 = -1 by rw [h1, sm_nm1 (by omega)]; exact id), sm_bi, if_pos rfl, if_pos h2, sm_bi, if_pos rfl, sm_bi, if_neg (by decide), h3, if_neg (sm_nn (by omega)), sm_ai hd (by omega), h3, if_neg (by simp (disch := omega) only [sm_lit, sm_nlt, sm_nle, sm_neq, sm_n_add, sm_n_mul, sm_n_div, sm_n_rem, sm_bi, sm_bl, sm_bv, sm_let, sm_zz0, sm_zz1, sm_ai, sm_si, sm_al, sm_sl, sm_ar, sm_mi1, sm_mi0, sm_ml1, sm_ml0, sm_mil, sm_mli]; omega)]
      exact sm_al_id h
    · rw [if_neg (show ¬ ¬ mx.1 (41 + d) 1 = -1 by rw [h2]; decide), if_pos (show ¬ mx.1 (41 + d) 2 = -1 by rw [h3, sm_nm1 (by omega)]; exact id), sm_bi, if_pos rfl, if_neg (show ¬ mx.1 (41 + d) 2 = -1 by rw [h3, sm_nm1 (by omega)]; exact id), sm_bi, if_neg (by decide), h5, if_neg (sm_nn (by omega)), sm_ai hd (by omega), h5, h3]
      by_cases s1 : s = 1
      · subst s1
        rw [if_neg (show ¬ ¬ sm_n 1 = 1 from fun z => z rfl), sm_bi, if_pos (by decide), if_pos (by decide)]
        unfold f_M_towers_44
        rw [sm_ai hd (by omega), h5, if_neg (show ¬ ¬ sm_n (50 + 1) = 51 from fun z => z rfl)]
        by_cases b0 : b < 0
        · rw [if_pos b0, stop]
          rw [show gk_fv = 99999 + 1 from gk_fv_eq]
          unfold f_X_towers_56
          rw [if_neg (by simp (disch := omega) only [sm_lit, sm_nlt, sm_nle, sm_neq, sm_n_add, sm_n_mul, sm_n_div, sm_n_rem, sm_bi, sm_bl, sm_bv, sm_let, sm_zz0, sm_zz1, sm_ai, sm_si, sm_al, sm_sl, sm_ar, sm_mi1, sm_mi0, sm_ml1, sm_ml0, sm_mil, sm_mli]; rw [show (1 : Int32) = sm_n 1 from rfl, sm_nlt hwant (by omega)] at c1; omega), x_spans0 (Or.inl b0), sm_bi, if_pos rfl]
          exact sm_al_id h
        · rw [if_neg b0]
          obtain ⟨i0, hi0, rfl⟩ := sm_get b0
          unfold f_M_towers_67
          exact c_towers_l hd h1 hi0 hw10 want 0 gk_fv gk_fv mx mm (by omega) (by rw [gk_fv_eq]; omega) (by rw [gk_fv_eq]; omega) (Or.inl rfl) h ⟨h4, h6, fun i hi => ⟨(h7 i hi).1, (h7 i hi).2 rfl⟩⟩
      · rw [if_pos (by simp (disch := omega) only [sm_lit, sm_nlt, sm_nle, sm_neq, sm_n_add, sm_n_mul, sm_n_div, sm_n_rem, sm_bi, sm_bl, sm_bv, sm_let, sm_zz0, sm_zz1, sm_ai, sm_si, sm_al, sm_sl, sm_ar, sm_mi1, sm_mi0, sm_ml1, sm_ml0, sm_mil, sm_mli]; exact s1), sm_bi, if_neg (by decide), if_neg (by simp (disch := omega) only [sm_lit, sm_nlt, sm_nle, sm_neq, sm_n_add, sm_n_mul, sm_n_div, sm_n_rem, sm_bi, sm_bl, sm_bv, sm_let, sm_zz0, sm_zz1, sm_ai, sm_si, sm_al, sm_sl, sm_ar, sm_mi1, sm_mi0, sm_ml1, sm_ml0, sm_mil, sm_mli]; omega)]
        exact sm_al_id h
  · have c2' : 10 < c := by rw [sm_le] at c2; rw [sm_lt]; omega
    rw [if_neg c2, if_pos c2', if_neg (fun z => z rfl)]; exact sm_al_id h
