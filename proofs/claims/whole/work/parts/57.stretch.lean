/-! SIM: stretches; the call guilty -/
theorem sm_l_div {a b : Nat} (ha : a < 2147483648) (hb : b < 2147483648) : sm_l (a : Int) / sm_l (b : Int) = sm_l ((a / b : Nat) : Int) := by
  show Int64.ofInt _ / Int64.ofInt _ = Int64.ofInt _
  rw [← Int64.ofInt_tdiv]
  · congr 1
  · show -9223372036854775808 ≤ _; omega
  · show _ ≤ (9223372036854775807 : Int); omega
  · show -9223372036854775808 ≤ _; omega
  · show _ ≤ (9223372036854775807 : Int); omega
theorem sm_l_rem {a b : Nat} (ha : a < 2147483648) (hb : b < 2147483648) : sm_l (a : Int) - sm_l (a : Int) / sm_l (b : Int) * sm_l (b : Int) = sm_l ((a % b : Nat) : Int) := by
  rw [sm_l_div ha hb, sm_l_mul, sm_l_sub]
  congr 1
  have := Nat.div_add_mod a b
  have e : ((a / b : Nat) : Int) * (b : Int) = ((b * (a / b) : Nat) : Int) := by
    rw [Int.natCast_mul]; exact Int.mul_comm _ _
  rw [e]
  omega
theorem x_gcd : ∀ j r d s fu (m : gk_M), r < 2 ^ j → r < 2147483648 → d < 2147483648 → s + 2 * j ≤ 62 → 2 * j + 1 ≤ fu → f_X_greatestDivisor_7 fu (sm_n r) (sm_n d) (sm_n s) m = some (sm_n (max (Nat.gcd r d) 1), m) := by
  have z : ∀ d s fu (m : gk_M), d < 2147483648 → f_X_greatestDivisor_7 (fu + 1) (sm_n 0) (sm_n d) (sm_n s) m = some (sm_n (max (Nat.gcd 0 d) 1), m) := by
    intro d s fu m hd
    unfold f_X_greatestDivisor_7 f_X_greatestDivisor_34
    rw [if_pos (show sm_n 0 = 0 from rfl), show (1 : Int32) = sm_n 1 from rfl, (x_min d 1 hd (by omega)).2, Nat.gcd_zero_left]
  intro j
  induction j with
  | zero =>
    intro r d s fu m h1 h2 h3 h4 h5
    have e : r = 0 := by omega
    subst e
    obtain ⟨f, rfl⟩ : ∃ f, fu = f + 1 := ⟨fu - 1, by omega⟩
    exact z d s f m h3
  | succ j ih =>
    intro r d s fu m h1 h2 h3 h4 h5
    obtain ⟨f, rfl⟩ : ∃ f, fu = f + 2 := ⟨fu - 2, by omega⟩
    by_cases hr : r = 0
    · subst hr; exact z d s (f + 1) m h3
    · have step : ∀ r d s f, ¬ r = 0 → r < 2147483648 → d < 2147483648 → s < 64 → f_X_greatestDivisor_7 (f + 1) (sm_n r) (sm_n d) (sm_n s) m = f_X_greatestDivisor_7 f (sm_n (d % r)) (sm_n r) (sm_n (s + 1)) m := by
        intro r d s f hr h2 h3 hs
        conv => lhs; unfold f_X_greatestDivisor_7
        rw [if_neg (by rw [show (0 : Int32) = sm_n 0 from rfl, sm_neq h2 (by omega)]; exact hr), if_neg (by simp (disch := omega) only [sm_lit, sm_nlt, sm_nle, sm_neq, sm_n_add, sm_n_mul, sm_n_div, sm_n_rem, sm_bi, sm_bl, sm_bv, sm_let, sm_zz0, sm_zz1, sm_ai, sm_si, sm_al, sm_sl, sm_ar, sm_mi1, sm_mi0, sm_ml1, sm_ml0, sm_mil, sm_mli]; omega)]
        unfold gk_re
        rw [if_neg (by rw [show (0 : Int32) = sm_n 0 from rfl, sm_neq h2 (by omega)]; exact hr), show sm_n d - sm_n d / sm_n r * sm_n r = sm_n (d % r) from sm_n_rem h3 h2, show sm_n s + 1 = sm_n (s + 1) from sm_n_add s 1]
      have hm : d % r < r := Nat.mod_lt _ (by omega)
      rw [step r d s (f + 1) hr h2 h3 (by omega), Nat.gcd_rec]
      by_cases hr1 : d % r = 0
      · rw [hr1]
        exact z r (s + 1) f m h2
      · rw [step (d % r) r (s + 1) f hr1 (by omega) h2 (by omega), Nat.gcd_rec]
        have hm2 : r % (d % r) < d % r := Nat.mod_lt _ (by omega)
        have hm3 := Nat.div_add_mod r (d % r)
        have hq : 1 ≤ r / (d % r) := Nat.div_pos (by omega) (by omega)
        have hm4 : d % r ≤ (d % r) * (r / (d % r)) := Nat.le_mul_of_pos_right _ hq
        have hp : 2 ^ (j + 1) = 2 * 2 ^ j := by rw [Nat.pow_succ]; omega
        exact ih _ _ (s + 1 + 1) f m (by omega) (by omega) (by omega) (by omega) (by omega)
theorem m_common (m : gk_M) : ∀ fu x y, y < fu → x < 2147483648 → y < 2147483648 → f_M_common_6 fu (sm_l ((x : Nat) : Int)) (sm_l ((y : Nat) : Int)) m = some (sm_l ((Nat.gcd x y : Nat) : Int), m)
  | fu + 1, x, y, hf, hx, hy => by
    unfold f_M_common_6
    have z := (sm_l0 (a := (y : Int)) (by omega) (by omega)).2.2.2.2
    by_cases h : y = 0
    · subst h
      rw [if_pos (z.mpr rfl), Nat.gcd_zero_right]
    · have hz : ¬ sm_l (y : Int) = 0 := fun w => h (by have := z.mp w; omega)
      rw [if_neg hz]
      unfold gk_rl
      rw [if_neg hz, sm_l_rem hx hy]
      have hm : x % y < y := Nat.mod_lt _ (by omega)
      show f_M_common_6 fu (sm_l ((y : Nat) : Int)) (sm_l ((x % y : Nat) : Int)) m = _
      rw [m_common m fu y (x % y) (by omega) (by omega) (by omega), Nat.gcd_comm x y, Nat.gcd_rec y x, Nat.gcd_comm y]
section CR
variable {R : sm_rd} {m : gk_M}
theorem x_cornerAt (hR : sm_xR R m) {r i : Nat} (hr : r < R.1) (hi : i < R.2.1 r) : f_Plain_cornerAt (sm_n r) (sm_n i) m = some (sm_n (R.2.2 r i), m) := by
  obtain ⟨r1, r2, r3⟩ := hR
  obtain ⟨a, b, c, d⟩ := r3 r hr
  unfold f_Plain_cornerAt
  rw [show (6 : Int32) = sm_n 6 from rfl, sm_n_mul, sm_n_add, sm_ai (by omega) (by omega), (d i hi).1]
theorem m_cornerOf (hR : sm_mR R m) {r i : Nat} (hr : r < R.1) (hi : i < R.2.1 r) : f_M_cornerOf (sm_n r) (sm_n i) m = some (sm_n (R.2.2 r i), m) := by
  obtain ⟨r1, r2, r3⟩ := hR
  obtain ⟨a, b, c, d⟩ := r3 r hr
  unfold f_M_cornerOf
  rw [show (7 : Int32) = sm_n 7 from rfl, sm_n_mul, sm_n_add, sm_ai (by omega) (by omega), (d i hi).1]
theorem x_isStretch (hR : sm_xR R m) (a : Int32) : (f_X_isStretch a m = some (0, m) ∧ ∀ r i, r < R.1 → i + 1 < R.2.1 r → a ≠ sm_n (10 * r + i)) ∨ ∃ r i, r < R.1 ∧ i + 1 < R.2.1 r ∧ a = sm_n (10 * r + i) ∧ f_X_isStretch a m = some (1, m) ∧ a / 10 = sm_n r ∧ gk_rem a 10 = sm_n i := by
  obtain ⟨r1, r2, r3⟩ := hR
  unfold f_X_isStretch
  by_cases h0 : a < 0
  · rw [if_pos h0]
    refine Or.inl ⟨rfl, ?_⟩
    rintro r i hr hi rfl
    have := (r3 r hr).2.2.1
    exact sm_nn (by omega) h0
  obtain ⟨c, hc, rfl⟩ := sm_get h0
  rw [if_neg h0, show (10 : Int32) = sm_n 10 from rfl, sm_n_div hc (by omega), sm_n_rem hc (by omega), x_isRoad _ r1, sm_bi]
  rcases sm_u_cases (sm_n (c / 10)) R.1 (by omega) with ⟨e0, e1⟩ | ⟨r, hr, es, e1⟩
  · rw [if_pos e0]
    refine Or.inl ⟨rfl, ?_⟩
    intro r i hr hi e
    have := (r3 r hr).2.2.1
    rw [sm_neq hc (by omega)] at e
    refine e1 r hr ?_
    congr 1; omega
  · rw [if_neg (show ¬ sm_u (sm_n (c / 10)) R.1 = 0 by rw [e1]; decide)]
    rw [sm_neq (by omega) (by omega)] at es
    obtain ⟨a1, a2, a3, a4⟩ := r3 r hr
    rw [es, sm_ai (by omega) (by omega), a1, show sm_n (c % 10) + 1 = sm_n (c % 10 + 1) from sm_n_add _ 1]
    by_cases h1 : R.2.1 r ≤ c % 10 + 1
    · rw [if_pos (by simp (disch := omega) only [sm_lit, sm_nlt, sm_nle, sm_neq, sm_n_add, sm_n_mul, sm_n_div, sm_n_rem, sm_bi, sm_bl, sm_bv, sm_let, sm_zz0, sm_zz1, sm_ai, sm_si, sm_al, sm_sl, sm_ar, sm_mi1, sm_mi0, sm_ml1, sm_ml0, sm_mil, sm_mli]; exact h1)]
      refine Or.inl ⟨rfl, ?_⟩
      intro r' i hr' hi e
      have := (r3 r' hr').2.2.1
      rw [sm_neq hc (by omega)] at e
      have : r' = r := by omega
      subst this
      omega
    · rw [if_neg (by simp (disch := omega) only [sm_lit, sm_nlt, sm_nle, sm_neq, sm_n_add, sm_n_mul, sm_n_div, sm_n_rem, sm_bi, sm_bl, sm_bv, sm_let, sm_zz0, sm_zz1, sm_ai, sm_si, sm_al, sm_sl, sm_ar, sm_mi1, sm_mi0, sm_ml1, sm_ml0, sm_mil, sm_mli]; exact h1)]
      exact Or.inr ⟨r, c % 10, hr, by omega, by congr 1; omega, rfl, rfl, rfl⟩
theorem m_isStretch (hR : sm_mR R m) (a : Int32) : (f_M_isStretch a m = some (0, m) ∧ ∀ r i, r < R.1 → i + 1 < R.2.1 r → a ≠ sm_n (10 * r + i)) ∨ ∃ r i, r < R.1 ∧ i + 1 < R.2.1 r ∧ a = sm_n (10 * r + i) ∧ f_M_isStretch a m = some (1, m) := by
  obtain ⟨r1, r2, r3⟩ := hR
  unfold f_M_isStretch
  by_cases h0 : a < 0
  · rw [if_pos h0]
    refine Or.inl ⟨rfl, ?_⟩
    rintro r i hr hi rfl
    have := (r3 r hr).2.2.1
    exact sm_nn (by omega) h0
  obtain ⟨c, hc, rfl⟩ := sm_get h0
  rw [if_neg h0, show (10 : Int32) = sm_n 10 from rfl, sm_n_div hc (by omega), sm_n_rem hc (by omega), m_isRoad _ (by omega) r1, sm_bi]
  rcases sm_u_cases (sm_n (c / 10)) R.1 (by omega) with ⟨e0, e1⟩ | ⟨r, hr, es, e1⟩
  · rw [if_pos e0]
    refine Or.inl ⟨rfl, ?_⟩
    intro r i hr hi e
    have := (r3 r hr).2.2.1
    rw [sm_neq hc (by omega)] at e
    refine e1 r hr ?_
    congr 1; omega
  · rw [if_neg (show ¬ sm_u (sm_n (c / 10)) R.1 = 0 by rw [e1]; decide)]
    rw [sm_neq (by omega) (by omega)] at es
    obtain ⟨a1, a2, a3, a4⟩ := r3 r hr
    rw [es, sm_ai (by omega) (by omega), a1, show sm_n (R.2.1 r) - 1 = sm_n (R.2.1 r - 1) from sm_n_sub (a := R.2.1 r) (b := 1) (by omega)]
    by_cases h1 : R.2.1 r - 1 ≤ c % 10
    · rw [if_pos (by simp (disch := omega) only [sm_lit, sm_nlt, sm_nle, sm_neq, sm_n_add, sm_n_mul, sm_n_div, sm_n_rem, sm_bi, sm_bl, sm_bv, sm_let, sm_zz0, sm_zz1, sm_ai, sm_si, sm_al, sm_sl, sm_ar, sm_mi1, sm_mi0, sm_ml1, sm_ml0, sm_mil, sm_mli]; exact h1)]
      refine Or.inl ⟨rfl, ?_⟩
      intro r' i hr' hi e
      have := (r3 r' hr').2.2.1
      rw [sm_neq hc (by omega)] at e
      have : r' = r := by omega
      subst this
      omega
    · rw [if_neg (by simp (disch := omega) only [sm_lit, sm_nlt, sm_nle, sm_neq, sm_n_add, sm_n_mul, sm_n_div, sm_n_rem, sm_bi, sm_bl, sm_bv, sm_let, sm_zz0, sm_zz1, sm_ai, sm_si, sm_al, sm_sl, sm_ar, sm_mi1, sm_mi0, sm_ml1, sm_ml0, sm_mil, sm_mli]; exact h1)]
      exact Or.inr ⟨r, c % 10, hr, by omega, by congr 1; omega, rfl⟩
end CR
/-- guilty on a stretch -/
def sm_gs (T : Nat → sm_tw) (R : sm_rd) (S : sm_fs) (F : sm_lf) (r i s t : Nat) : Bool := sm_gl S F (T s) (T t) r (R.2.2 r i) (R.2.2 r (i + 1))
section MG2
variable {n : Nat} {T : Nat → sm_tw} {R : sm_rd} {S : sm_fs} {F : sm_lf} {m0 m : gk_M}
theorem m_isGuiltyOn (hp : sm_p n T R S F m0 m) {r i t u : Nat} (hr : r < R.1) (hi : i + 1 < R.2.1 r) (ht : t < 20) (hu : u < 20) : sm_ok (f_M_isGuiltyOn (sm_n r) (sm_n i) (sm_n t) (sm_n u) m) (sm_b2 (sm_gs T R S F r i t u)) (fun m' => sm_p n T R S F m0 m' ∧ (sm_gs T R S F r i t u = true → m'.2 0 25 = sm_l (sm_ga S F (T t) (T u) r (R.2.2 r i) (R.2.2 r (i + 1))) ∧ m'.2 0 26 = sm_l (sm_gb (T t) (T u) (R.2.2 r i) (R.2.2 r (i + 1))))) := by
  have hR := hp.1.2.2.2.1
  have h4 := hR.2.1
  have hc := (hR.2.2 r hr).2.2.2
  unfold f_M_isGuiltyOn
  rw [m_cornerOf hR hr (by omega), sm_bi, show sm_n i + 1 = sm_n (i + 1) from sm_n_add i 1, m_cornerOf hR hr hi, sm_bi]
  exact sm_okb (m_isGuilty hp (by omega) ht hu (hc i (by omega)).2 (hc (i + 1) hi).2) (fun m1 h1 => by rw [sm_zzb]; exact sm_okr h1)
end MG2
theorem sm_gl_cg {S : sm_fs} {F : sm_lf} {A B A' B' : sm_tw} (h1 : A = A') (h2 : B = B') (k a b : Nat) : sm_gl S F A B k a b = sm_gl S F A' B' k a b := by rw [h1, h2]
theorem sm_gab {S : sm_fs} {F : sm_lf} {A B : sm_tw} {k a b : Nat} (hA : A.1 < 900) (hB : B.1 < 900) (ha : a < 900) (hb : b < 900) : ∃ u v : Nat, u ≤ 1682 ∧ 1 ≤ v ∧ v ≤ 3364 ∧ sm_ga S F A B k a b = (u : Int) ∧ sm_gb A B a b = (v : Int) := by
  by_cases h0 : sm_sd A B a = 0 ∧ sm_sd A B b = 0
  · unfold sm_ga sm_gb
    rw [if_pos h0, if_pos h0]
    by_cases h : sm_at_ S F A B k a = true
    · exact ⟨0, 1, by omega, by omega, by omega, by rw [if_pos h]; rfl, rfl⟩
    · exact ⟨1, 1, by omega, by omega, by omega, by rw [if_neg h]; rfl, rfl⟩
  · have s1 := g_absb (sm_sdb hA hB ha)
    obtain ⟨rg, q4⟩ := sm_prg hA hB ha hb h0
    have q0 := rg.2.2.2.2.1
    unfold sm_ga sm_gb
    rw [if_neg h0, if_neg h0]
    exact ⟨(g_abs (sm_sd A B a)).toNat, (sm_pq A B a b).toNat, by omega, by omega, by omega, by omega, by omega⟩
theorem c_guilty {mx mm : gk_M} (h : rl_ mx mm) (a b c : Int32) : sm_al2 mx mm (f_X_guilty a b c mx) (f_M_guilty a b c mm) := by
  obtain ⟨n, TX, TM, R, S, F, nb, hX, hM, hT, hP, hK, hS, hH, hB, hR, hD⟩ := id h
  have hn := hX.2.1
  have xR := hX.2.2.2.1
  have mR := hM.2.2.2.1
  have h4 := xR.2.1
  unfold f_X_guilty f_M_guilty
  rcases x_isStretch xR a with ⟨e, e'⟩ | ⟨r, i, hr, hi, rfl, e, e1, e2⟩
  · rcases m_isStretch mR a with ⟨g, g'⟩ | ⟨r, i, hr, hi, ea, g⟩
    · rw [e, g, sm_bi, sm_bi, if_pos rfl, if_pos rfl]; exact sm_al_id h
    · exact absurd ea (e' r i hr hi)
  rcases m_isStretch mR (sm_n (10 * r + i)) with ⟨g, g'⟩ | ⟨r', i', hr', hi', ea, g⟩
  · exact absurd rfl (g' r i hr hi)
  rw [e, g, sm_bi, sm_bi, if_neg (show ¬ (1 : Int32) = 0 by decide), if_neg (show ¬ (1 : Int32) = 0 by decide)]
  rcases x_isPair hn hX.1 b with ⟨f, f'⟩ | ⟨s, t, hs, ht, hne, rfl, f, f1, f2⟩
  · rcases m_areTwo hn hM.1 b with ⟨g, g'⟩ | ⟨s, t, hs, ht, hne, ea, g⟩
    · rw [f, g, sm_bi, sm_bi, if_pos rfl, if_pos rfl]; exact sm_al_id h
    · exact absurd ea (f' s t hs ht hne)
  rcases m_areTwo hn hM.1 (sm_n (10 * s + t)) with ⟨g, g'⟩ | ⟨s', t', hs', ht', hne', ea, g⟩
  · exact absurd rfl (g' s t hs ht hne)
  rw [f, g, sm_bi, sm_bi, if_neg (show ¬ (1 : Int32) = 0 by decide), if_neg (show ¬ (1 : Int32) = 0 by decide), show (1 : Int32) = sm_n 1 from rfl, x_isChoice c (by omega), sm_bi, m_within (h := 2) (hi := 1) (by omega) rfl, sm_bi]
  rcases sm_u_cases c 2 (by omega) with ⟨e0, e3⟩ | ⟨w, hw, rfl, e3⟩
  · rw [if_neg (fun z => z e0), if_neg (fun z => z e0)]; exact sm_al_id h
  rw [if_pos (show ¬ sm_u (sm_n w) 2 = 0 by rw [e3]; decide), if_pos (show ¬ sm_u (sm_n w) (1 + 1) = 0 by rw [e3]; decide), e1, e2, f1, f2, sm_let, sm_let]
  have hc := (xR.2.2 r hr).2.2.2
  rw [x_cornerAt xR hr (by omega), sm_bi, sm_n_add, x_cornerAt xR hr hi, sm_bi]
  obtain ⟨mx', x1, x2⟩ := x_guiltBetween (sm_q0 hX) (show r < 5 by omega) (show s < 12 by omega) (show t < 12 by omega) (hc i (by omega)).2 (hc (i + 1) hi).2 (rl_ne hT hs ht hne)
  obtain ⟨mm', y1, y2, y3⟩ := m_isGuiltyOn (sm_p0 hM) hr hi (show s < 20 by omega) (show t < 20 by omega)
  have d1 : (10 * r + i) / 10 = r := by have := (xR.2.2 r hr).2.2.1; omega
  have d2 : (10 * r + i) % 10 = i := by have := (xR.2.2 r hr).2.2.1; omega
  have d3 : (10 * s + t) / 10 = s := by omega
  have d4 : (10 * s + t) % 10 = t := by omega
  rw [x1, y1, sm_bi, sm_bi]
  have H := rl_q x2 y2 hT hP hK hS hH hB hR hD
  have E : sm_gs TM R S F r i s t = sm_gl S F (TX s) (TX t) r (R.2.2 r i) (R.2.2 r (i + 1)) := sm_gl_cg (hT.1 s hs).symm (hT.1 t ht).symm _ _ _
  obtain ⟨u, v, hu, hv1, hv2, eu, ev⟩ := sm_gab (S := S) (F := F) (k := r) (hX.2.2.1 s (by omega)).1 (hX.2.2.1 t (by omega)).1 (hc i (by omega)).2 (hc (i + 1) hi).2
  unfold sm_gv
  rw [E] at y3 ⊢
  rw [← hT.1 s hs, ← hT.1 t ht, eu, ev] at y3
  rw [eu, ev]
  cases hg : sm_gl S F (TX s) (TX t) r (R.2.2 r i) (R.2.2 r (i + 1)) with
  | false =>
    rw [if_neg Bool.false_ne_true, if_neg (show ¬ ¬ sm_i (-1) = -sm_n 1 by decide), if_neg (show ¬ ¬ sm_b2 false = 0 by decide)]
    exact ⟨_, _, _, rfl, rfl, H⟩
  | true =>
    obtain ⟨y4, y5⟩ := y3 hg
    rw [if_pos rfl, if_pos (show ¬ sm_b2 true = 0 by decide), y4, y5]
    unfold f_M_common
    rw [m_common mm' gk_fv u v (by rw [gk_fv_eq]; omega) (by omega) (by omega), sm_bl]
    have eg : sm_i ((u : Int) * 4096 + (v : Int)) = sm_n (u * 4096 + v) := by rw [sm_ni]; congr 1
    rw [eg, if_pos (by rw [show (-sm_n 1 : Int32) = sm_i (-1) from rfl, sm_ni, sm_ieq (by omega) (by omega) (by omega) (by omega)]; omega), show (4096 : Int32) = sm_n 4096 from rfl, sm_n_div (by omega) (by omega), sm_n_rem (by omega) (by omega), sm_let, sm_let, show (u * 4096 + v) / 4096 = u by omega, show (u * 4096 + v) % 4096 = v by omega]
    have hgp : 0 < Nat.gcd u v := Nat.gcd_pos_of_pos_right _ (by omega)
    have hgle : Nat.gcd u v ≤ v := Nat.gcd_le_right _ (by omega)
    have hmax : max (Nat.gcd u v) 1 = Nat.gcd u v := Nat.max_eq_left hgp
    have gx : f_X_greatestDivisor (sm_n u) (sm_n v) mx' = some (sm_n (Nat.gcd u v), mx') := by
      have := x_gcd 12 u v 0 gk_fv mx' (by omega) (by omega) (by omega) (by omega) (by rw [gk_fv_eq]; omega)
      rw [hmax] at this
      exact this
    unfold f_X_guilty_117 f_M_guilty_88 gk_di gk_dl
    have zl : ¬ sm_l ((Nat.gcd u v : Nat) : Int) = 0 := fun z => by
      have := (sm_l0 (a := ((Nat.gcd u v : Nat) : Int)) (by omega) (by omega)).2.2.2.2.mp z
      omega
    have zn : ¬ sm_n (Nat.gcd u v) = 0 := fun z => by
      rw [show (0 : Int32) = sm_n 0 from rfl, sm_neq (by omega) (by omega)] at z
      omega
    simp only [gx, sm_bi, if_neg zl, if_neg zn, y4, y5]
    by_cases hw0 : w = 0
    · subst hw0
      rw [if_neg (show ¬ ¬ sm_n 0 = 0 from fun z => z rfl), if_neg (show ¬ ¬ sm_n 0 = 0 from fun z => z rfl), sm_n_div (by omega) (by omega), sm_l_div (by omega) (by omega), sm_nar, ← sm_ni]
      exact ⟨_, _, _, rfl, rfl, H⟩
    · have hw1 : ¬ sm_n w = 0 := by
        rw [show (0 : Int32) = sm_n 0 from rfl, sm_neq (by omega) (by omega)]; exact hw0
      rw [if_pos hw1, if_pos hw1, sm_n_div (by omega) (by omega), sm_l_div (by omega) (by omega), sm_nar, ← sm_ni]
      exact ⟨_, _, _, rfl, rfl, H⟩
