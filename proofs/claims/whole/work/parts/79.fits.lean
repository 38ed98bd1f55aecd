/-! SIM: fits -/
theorem sv_mi2 (m : gk_M) (k j : Nat) (a b : Int32) : gk_mi (gk_mi m k j a) k j b = gk_mi m k j b := by
  refine Prod.ext ?_ rfl
  funext x y
  by_cases e : x = k ∧ y = j
  · obtain ⟨rfl, rfl⟩ := e
    rw [sm_mi1, sm_mi1]
  · rw [sm_mi0 e, sm_mi0 e, sm_mi0 e]
theorem sv_mi_id {m : gk_M} {k j : Nat} {v : Int32} (h : m.1 k j = v) : gk_mi m k j v = m := by
  refine Prod.ext ?_ rfl
  funext x y
  by_cases e : x = k ∧ y = j
  · obtain ⟨rfl, rfl⟩ := e
    rw [sm_mi1, h]
  · rw [sm_mi0 e]
theorem sv_xpl2 (m : gk_M) (t p q : Nat) : sm_xpl (sm_xpl m t p) t q = sm_xpl m t q := by
  refine Prod.ext ?_ rfl
  funext x y
  unfold sm_xpl
  by_cases e : x = 9 ∧ y = t
  · obtain ⟨rfl, rfl⟩ := e
    rw [sm_mi1, sm_mi1]
  · rw [sm_mi0 e, sm_mi0 e]
    by_cases e2 : x = 8 ∧ y = t
    · obtain ⟨rfl, rfl⟩ := e2
      rw [sm_mi1, sm_mi1]
    · rw [sm_mi0 e2, sm_mi0 e2, sm_mi0 e, sm_mi0 e2]
theorem sv_xpl_id {m : gk_M} {t : Nat} {w : sm_tw} (h : sm_xw m t w) : sm_xpl m t w.1 = m := by
  unfold sm_xpl
  rw [sv_mi_id h.2.1, sv_mi_id h.2.2.1]
theorem sv_nb : ∀ t j : Fin 10, ((((1 : Int32) <<< (sm_n t.1 &&& 31)) ^^^ (-1)) >>> (sm_n j.1 &&& 31)) &&& 1 = sm_b2 (!(j.1 == t.1)) := by decide
/-- what is seen, as bits -/
def sv_sn (n : Nat) (T : Nat → sm_tw) (S : sm_fs) (W p : Nat) : Nat := sm_qs (fun u => sv_ow n W u && sm_vs n T S (sv_ow n W) p u) n 0 0
section FITS
variable {n : Nat} {T : Nat → sm_tw} {S : sm_fs} {m : gk_M}
theorem sv_sn_sw (hn : n ≤ 10) (W p : Nat) : sm_sw n T S W p (sv_sn n T S W p) := by
  refine ⟨sm_qs_lt _ _ _ _ (by omega) (by omega), fun u => ?_⟩
  unfold sv_sn
  rw [sm_qs_bit, Nat.zero_testBit, Bool.false_or, show decide (0 ≤ u ∧ u < 0 + n) = decide (u < n) from decide_eq_decide.mpr (by omega), Bool.and_assoc]
theorem sv_vs_O {O O2 : Nat → Bool} {p t : Nat} (h : ∀ u, u < n → O u = O2 u) : sm_vs n T S O p t = sm_vs n T S O2 p t := by
  have e : sm_any n 0 (fun u => O u && !(u == t) && sm_hdn T p t u) = sm_any n 0 (fun u => O2 u && !(u == t) && sm_hdn T p t u) := by
    refine sm_any_cg (fun u _ hu => ?_)
    show (O u && !(u == t) && sm_hdn T p t u) = (O2 u && !(u == t) && sm_hdn T p t u)
    rw [h u (by omega)]
  unfold sm_vs
  rw [e]
theorem m_seenFrom2 {R : sm_rd} {F : sm_lf} {p : Nat} (hM : sm_M n T R S F m) (hp : p < 900) : f_M_seenFrom (sm_n p) m = some (sm_n (sv_sn n T S 99 p), m) := by
  obtain ⟨r, r1, r2⟩ := m_seenFrom hM hp
  rw [r2, sm_sw_eq r1 (sv_sn_sw hM.2.1 99 p)]
/-- what was told comes true -/
def sv_ag (n : Nat) (T : Nat → sm_tw) (S : sm_fs) (k : Nat) (P : Nat → Nat) (V : Nat → Int32) : Bool := !sm_any k 0 (fun i => !decide (sm_n (sv_sn n T S 99 (P i)) = V i))
theorem m_allS2 {R : sm_rd} {F : sm_lf} {k : Nat} {P : Nat → Nat} {V : Nat → Int32} (hM : sm_M n T R S F m) (hk : k ≤ 10) (h36 : m.1 0 36 = sm_n k) (hP : ∀ i, i < k → m.1 20 i = V i ∧ P i < 900 ∧ m.1 19 i = sm_n (P i)) (g : Nat → Bool) (hg : ∀ i, g i = !decide (sm_n (sv_sn n T S 99 (P i)) = V i)) : ∀ l i fu, i + l = k → l < fu → f_M_allSights_2 fu (sm_n i) m = some (sm_b2 (!sm_any l i g), m)
  | 0, i, fu + 1, h1, h3 => by
    unfold f_M_allSights_2
    rw [h36, if_pos (by simp (disch := omega) only [sm_lit, sm_nlt, sm_nle, sm_neq, sm_n_add, sm_n_mul, sm_n_div, sm_n_rem, sm_bi, sm_bl, sm_bv, sm_let, sm_zz0, sm_zz1, sm_ai, sm_si, sm_al, sm_sl, sm_ar, sm_mi1, sm_mi0, sm_ml1, sm_ml0, sm_mil, sm_mli]; omega)]
    rfl
  | l + 1, i, fu + 1, h1, h3 => by
    obtain ⟨p1, p2, p3⟩ := hP i (by omega)
    unfold f_M_allSights_2
    rw [h36, if_neg (by simp (disch := omega) only [sm_lit, sm_nlt, sm_nle, sm_neq, sm_n_add, sm_n_mul, sm_n_div, sm_n_rem, sm_bi, sm_bl, sm_bv, sm_let, sm_zz0, sm_zz1, sm_ai, sm_si, sm_al, sm_sl, sm_ar, sm_mi1, sm_mi0, sm_ml1, sm_ml0, sm_mil, sm_mli]; omega), sm_ai (by omega) (by omega), p3, m_seenFrom2 hM p2, sm_bi, sm_ai (by omega) (by omega), p1, show sm_n i + 1 = sm_n (i + 1) from sm_n_add i 1]
    by_cases e : sm_n (sv_sn n T S 99 (P i)) = V i
    · rw [if_pos e, sm_anyf (show g i = false by rw [hg, decide_eq_true e]; rfl)]
      exact m_allS2 hM hk h36 hP g hg l (i + 1) fu (by omega) (by omega)
    · rw [if_neg e, sm_anyt (show g i = true by rw [hg, decide_eq_false e]; rfl)]
      rfl
theorem m_allS {R : sm_rd} {F : sm_lf} {k : Nat} {P : Nat → Nat} {V : Nat → Int32} (hM : sm_M n T R S F m) (hk : k ≤ 10) (h36 : m.1 0 36 = sm_n k) (hP : ∀ i, i < k → m.1 20 i = V i ∧ P i < 900 ∧ m.1 19 i = sm_n (P i)) : f_M_allSights m = some (sm_b2 (sv_ag n T S k P V), m) :=
  m_allS2 hM hk h36 hP _ (fun _ => rfl) k 0 gk_fv (by omega) (by rw [gk_fv_eq]; omega)
/-- the class: T is where the towers stand now, T0 where they stood -/
theorem x_agr8 {T0 : Nat → sm_tw} {R : sm_rd} {F : sm_lf} {k t : Nat} {P : Nat → Nat} {V : Nat → Int32} (hX : sm_X n T R S F m) (hd : sm_dis n T) (ht : t < n) (hT0 : ∀ s, s < n → s ≠ t → T0 s = T s) (hk : k ≤ 10) (h28 : m.1 28 0 = sm_n k) (hP : ∀ i, i < k → m.1 30 i = V i ∧ P i < 900 ∧ m.1 29 i = sm_n (P i)) (h31 : ∀ i, i < k → m.1 31 i = sm_n (sv_sn n T0 S t (P i))) (g : Nat → Bool) (hg : ∀ i, g i = !decide (sm_n (sv_sn n T S 99 (P i)) = V i)) : ∀ l i fu, i + l = k → l < fu → f_Walker_agrees_8 fu (sm_n t) ((1 <<< (sm_n t &&& 31)) ^^^ (-1)) (sm_n i) m = some (sm_b2 (!sm_any l i g), m)
  | 0, i, fu + 1, h1, h3 => by
    unfold f_Walker_agrees_8
    rw [h28, if_pos (by simp (disch := omega) only [sm_lit, sm_nlt, sm_nle, sm_neq, sm_n_add, sm_n_mul, sm_n_div, sm_n_rem, sm_bi, sm_bl, sm_bv, sm_let, sm_zz0, sm_zz1, sm_ai, sm_si, sm_al, sm_sl, sm_ar, sm_mi1, sm_mi0, sm_ml1, sm_ml0, sm_mil, sm_mli]; omega)]
    rfl
  | l + 1, i, fu + 1, h1, h3 => by
    have hn := hX.2.1
    obtain ⟨p1, p2, p3⟩ := hP i (by omega)
    have s0 := sm_sw_cg hT0 (sv_sn_sw (T := T0) (S := S) hn t (P i))
    have ow : ∀ j, j < n → sv_ow n t j = !(j == t) := by
      intro j hj
      unfold sv_ow
      rw [decide_eq_true hj]; rfl
    obtain ⟨r, r1, r2, r3⟩ := x_joinSeen (T := T) (O := sv_ow n t) (O' := fun u => sv_ow n t u || u == t) (o := (1 <<< (sm_n t &&& 31)) ^^^ (-1)) (t := t) (b := sv_sn n T0 S t (P i)) hn hX.2.2.2.2.1 (fun j hj => (sv_nb ⟨t, by omega⟩ ⟨j, by omega⟩).trans (by rw [ow j hj])) ht (by rw [ow t ht]; simp) (fun j hj hoj => by
      rw [ow j hj, Bool.not_eq_true', beq_eq_false_iff_ne] at hoj
      exact hd j t hj ht hoj) hX.1 hX.2.2.1 p2 s0.1 s0.2 (fun _ => rfl)
    have er : r = sv_sn n T S 99 (P i) := by
      refine sm_sw_eq (W := 99) (T := T) (S := S) (n := n) (p := P i) ⟨r1, fun u => ?_⟩ (sv_sn_sw hn 99 (P i))
      have eO : ∀ u, u < n → (sv_ow n t u || u == t) = sv_ow n 99 u := by
        intro u hu
        rw [ow u hu]
        unfold sv_ow
        rw [decide_eq_true hu, beq_eq_false_iff_ne.mpr (show u ≠ 99 by omega)]
        cases u == t <;> rfl
      rw [r2]
      by_cases hu : u < n
      · rw [sv_vs_O (O := fun u => sv_ow n t u || u == t) (O2 := sv_ow n 99) eO, ← eO u hu]
      · rw [decide_eq_false hu, Bool.false_and, Bool.false_and, Bool.false_and, Bool.false_and]
    unfold f_Walker_agrees_8
    rw [h28, if_neg (by simp (disch := omega) only [sm_lit, sm_nlt, sm_nle, sm_neq, sm_n_add, sm_n_mul, sm_n_div, sm_n_rem, sm_bi, sm_bl, sm_bv, sm_let, sm_zz0, sm_zz1, sm_ai, sm_si, sm_al, sm_sl, sm_ar, sm_mi1, sm_mi0, sm_ml1, sm_ml0, sm_mil, sm_mli]; omega), sm_ai (by omega) (by omega), p3, sm_ai (by omega) (by omega), h31 i (by omega), r3, sm_bi, sm_ai (by omega) (by omega), p1, er, show sm_n i + 1 = sm_n (i + 1) from sm_n_add i 1]
    by_cases e : sm_n (sv_sn n T S 99 (P i)) = V i
    · rw [if_pos e, sm_anyf (show g i = false by rw [hg, decide_eq_true e]; rfl)]
      exact x_agr8 hX hd ht hT0 hk h28 hP h31 g hg l (i + 1) fu (by omega) (by omega)
    · rw [if_neg e, sm_anyt (show g i = true by rw [hg, decide_eq_false e]; rfl)]
      rfl
theorem x_agrees {T0 : Nat → sm_tw} {R : sm_rd} {F : sm_lf} {k t : Nat} {P : Nat → Nat} {V : Nat → Int32} (hX : sm_X n T R S F m) (hd : sm_dis n T) (ht : t < n) (hT0 : ∀ s, s < n → s ≠ t → T0 s = T s) (hk : k ≤ 10) (h28 : m.1 28 0 = sm_n k) (hP : ∀ i, i < k → m.1 30 i = V i ∧ P i < 900 ∧ m.1 29 i = sm_n (P i)) (h31 : ∀ i, i < k → m.1 31 i = sm_n (sv_sn n T0 S t (P i))) : f_Walker_agrees (sm_n t) m = some (sm_b2 (sv_ag n T S k P V), m) := by
  unfold f_Walker_agrees
  rw [sm_let]
  exact x_agr8 hX hd ht hT0 hk h28 hP h31 _ (fun _ => rfl) k 0 gk_fv (by omega) (by rw [gk_fv_eq]; omega)
/-! which points do -/
def sv_f1 (ok : Nat → Bool) : Nat → Nat → Int32
  | 0, _ => -2
  | l + 1, p => if ok p = true then sm_n p else sv_f1 ok l (p + 1)
def sv_c (ok : Nat → Bool) (p : Nat) : Nat := if ok p = true then 1 else 0
def sv_ok (n : Nat) (T : Nat → sm_tw) (S : sm_fs) (t k : Nat) (P : Nat → Nat) (V : Nat → Int32) (p : Nat) : Bool := (p == (T t).1 || !sm_has n T p) && sv_ag n (sm_tp T t p) S k P V
theorem sv_cl (ok : Nat → Bool) (l p : Nat) : sm_sum l p (sv_c ok) ≤ l := by
  have := sm_sum_le (f := sv_c ok) (b := 1) (l := l) (i := p) (fun j _ _ => by unfold sv_c; split <;> omega)
  omega
theorem sv_dis {t p : Nat} (hd : sm_dis n T) (ht : t < n) (h : p = (T t).1 ∨ sm_has n T p = false) : sm_dis n (sm_tp T t p) := by
  refine sm_dis_pl hd ?_
  intro s hs hst e
  rcases h with h | h
  · exact hd s t hs ht hst (e.trans h)
  · exact Bool.false_ne_true (h.symm.trans (sm_has_iff.mpr ⟨s, hs, e⟩))
theorem x_pf55 {R : sm_rd} {F : sm_lf} {k t w : Nat} {P : Nat → Nat} {V : Nat → Int32} (hX : sm_X n T R S F m) (hd : sm_dis n T) (ht : t < n) (hw : w < 2) (hk : k ≤ 10) (h28 : m.1 28 0 = sm_n k) (hP : ∀ i, i < k → m.1 30 i = V i ∧ P i < 900 ∧ m.1 29 i = sm_n (P i)) (h31 : ∀ i, i < k → m.1 31 i = sm_n (sv_sn n T S t (P i))) (ok : Nat → Bool) (hok : ∀ p, ok p = sv_ok n T S t k P V p) : ∀ l p fu c f m1, p + l = 900 → l < fu → c ≤ p → (∀ q, sm_xpl m1 t q = sm_xpl m t q) → f_Walker_placesFor_55 fu (sm_n t) (sm_n w) (sm_n (T t).1) (sm_n c) f (sm_n p) m1 = some (if w = 0 then sm_n (c + sm_sum l p (sv_c ok)) else if c = 0 ∧ f = -2 then sv_f1 ok l p else f, m) ∨ (c = 0 ∧ f ≠ -2)
  | 0, p, fu + 1, c, f, m1, h1, h3, hc, hm => by
    have hn := hX.2.1
    have Xt := hX.2.2.1 t (by omega)
    left
    unfold f_Walker_placesFor_55
    rw [if_pos (by simp (disch := omega) only [sm_lit, sm_nlt, sm_nle, sm_neq, sm_n_add, sm_n_mul, sm_n_div, sm_n_rem, sm_bi, sm_bl, sm_bv, sm_let, sm_zz0, sm_zz1, sm_ai, sm_si, sm_al, sm_sl, sm_ar, sm_mi1, sm_mi0, sm_ml1, sm_ml0, sm_mil, sm_mli]; omega), x_place (by omega) Xt.1, sm_bv, show gk_mi (gk_mi m1 8 t (sm_n ((T t).1 % 30))) 9 t (sm_n ((T t).1 / 30)) = m from (hm (T t).1).trans (sv_xpl_id Xt)]
    by_cases hw0 : w = 0
    · rw [if_pos (show sm_n w = 0 by rw [hw0]; rfl), if_pos hw0]
      rfl
    · rw [if_neg (sm_w0 hw hw0), if_neg hw0]
      by_cases z : c = 0 ∧ f = -2
      · rw [if_pos z, z.2]; rfl
      · rw [if_neg z]
  | l + 1, p, fu + 1, c, f, m1, h1, h3, hc, hm => by
    have hn := hX.2.1
    have Xt := hX.2.2.1 t (by omega)
    have Xt9 := Xt.1
    by_cases hcf : c = 0 ∧ f ≠ -2
    · exact Or.inr hcf
    left
    have em : gk_mi (gk_mi m1 8 t (sm_n ((T t).1 % 30))) 9 t (sm_n ((T t).1 / 30)) = m := (hm (T t).1).trans (sv_xpl_id Xt)
    have es : sm_sum (l + 1) p (sv_c ok) = sv_c ok p + sm_sum l (p + 1) (sv_c ok) := rfl
    have ef : sv_f1 ok (l + 1) p = if ok p = true then sm_n p else sv_f1 ok l (p + 1) := rfl
    have ih : ∀ c' f' m', c' ≤ p + 1 → (∀ q, sm_xpl m' t q = sm_xpl m t q) → ¬ (c' = 0 ∧ f' ≠ -2) → f_Walker_placesFor_55 fu (sm_n t) (sm_n w) (sm_n (T t).1) (sm_n c') f' (sm_n (p + 1)) m' = some (if w = 0 then sm_n (c' + sm_sum l (p + 1) (sv_c ok)) else if c' = 0 ∧ f' = -2 then sv_f1 ok l (p + 1) else f', m) := by
      intro c' f' m' hc' hm' hcf'
      rcases x_pf55 hX hd ht hw hk h28 hP h31 ok hok l (p + 1) fu c' f' m' (by omega) (by omega) hc' hm' with h | h
      · exact h
      · exact absurd h hcf'
    have no : ok p = false → ∀ m', (∀ q, sm_xpl m' t q = sm_xpl m t q) → f_Walker_placesFor_55 fu (sm_n t) (sm_n w) (sm_n (T t).1) (sm_n c) f (sm_n (p + 1)) m' = some (if w = 0 then sm_n (c + sm_sum (l + 1) p (sv_c ok)) else if c = 0 ∧ f = -2 then sv_f1 ok (l + 1) p else f, m) := by
      intro ho m' hm'
      have ho2 : ¬ ok p = true := by rw [ho]; exact Bool.false_ne_true
      rw [ih c f m' (by omega) hm' hcf, es, ef, if_neg ho2, show sv_c ok p = 0 from if_neg ho2, Nat.zero_add]
    -- the point is tried
    have try_ : ∀ m2, m2 = m → (p = (T t).1 ∨ sm_has n T p = false) → f_Walker_placesFor_93 (f_Walker_placesFor_55 fu) (sm_n t) (sm_n w) (sm_n (T t).1) (sm_n c) f (sm_n p) m2 = some (if w = 0 then sm_n (c + sm_sum (l + 1) p (sv_c ok)) else if c = 0 ∧ f = -2 then sv_f1 ok (l + 1) p else f, m) := by
      intro m2 hm2 hor
      subst hm2
      have hX' := sm_X_pl hX (t := t) (p := p) (by omega) (by omega)
      have hd' := sv_dis hd ht hor
      have fr : ∀ a b, a ≠ 8 → a ≠ 9 → (sm_xpl m2 t p).1 a b = m2.1 a b := by
        intro a b h8 h9
        unfold sm_xpl
        rw [sm_mi0 (fun z => h9 z.1), sm_mi0 (fun z => h8 z.1)]
      have ea := x_agrees (T0 := T) (V := V) hX' hd' ht (fun s _ hs => (sm_tp_lt hs).symm) hk ((fr 28 0 (by decide) (by decide)).trans h28) (fun i hi => by
        rw [fr 30 i (by decide) (by decide), fr 29 i (by decide) (by decide)]
        exact hP i hi) (fun i hi => by
        rw [fr 31 i (by decide) (by decide)]
        exact h31 i hi)
      have eok : ok p = sv_ag n (sm_tp T t p) S k P V := by
        rw [hok]
        unfold sv_ok
        rcases hor with h | h
        · rw [← h]; simp
        · rw [h]; simp
      unfold f_Walker_placesFor_93 f_Walker_placesFor_123
      rw [x_place (by omega) (by omega), sm_bv, show gk_mi (gk_mi m2 8 t (sm_n (p % 30))) 9 t (sm_n (p / 30)) = sm_xpl m2 t p from rfl, ea, sm_bi, show sm_n p + 1 = sm_n (p + 1) from sm_n_add p 1]
      have hm' : ∀ q, sm_xpl (sm_xpl m2 t p) t q = sm_xpl m2 t q := fun q => sv_xpl2 m2 t p q
      cases hA : sv_ag n (sm_tp T t p) S k P V with
      | false =>
        rw [if_pos (show sm_b2 false = 0 from rfl)]
        exact no (eok.trans hA) _ hm'
      | true =>
        have ho : ok p = true := eok.trans hA
        rw [if_neg (show ¬ sm_b2 true = 0 by decide), show sm_n c + 1 = sm_n (c + 1) from sm_n_add c 1, es, ef, if_pos ho, show sv_c ok p = 1 from if_pos ho]
        by_cases c0 : c = 0
        · have hf : f = -2 := by
            by_cases z : f = -2
            · exact z
            · exact absurd ⟨c0, z⟩ hcf
          rw [if_neg (show ¬ ¬ sm_n c = 0 by rw [c0]; exact fun z => z rfl), ih (c + 1) (sm_n p) _ (by omega) hm' (by omega), if_neg (show ¬ (c + 1 = 0 ∧ sm_n p = -2) by omega), if_pos (show c = 0 ∧ f = -2 from ⟨c0, hf⟩), show c + 1 + sm_sum l (p + 1) (sv_c ok) = c + (1 + sm_sum l (p + 1) (sv_c ok)) by omega]
        · rw [if_pos (show ¬ sm_n c = 0 by rw [show (0 : Int32) = sm_n 0 from rfl, sm_neq (by omega) (by omega)]; exact c0), ih (c + 1) f _ (by omega) hm' (by omega), if_neg (show ¬ (c + 1 = 0 ∧ f = -2) by omega), if_neg (show ¬ (c = 0 ∧ f = -2) by omega), show c + 1 + sm_sum l (p + 1) (sv_c ok) = c + (1 + sm_sum l (p + 1) (sv_c ok)) by omega]
    unfold f_Walker_placesFor_55
    rw [if_neg (by simp (disch := omega) only [sm_lit, sm_nlt, sm_nle, sm_neq, sm_n_add, sm_n_mul, sm_n_div, sm_n_rem, sm_bi, sm_bl, sm_bv, sm_let, sm_zz0, sm_zz1, sm_ai, sm_si, sm_al, sm_sl, sm_ar, sm_mi1, sm_mi0, sm_ml1, sm_ml0, sm_mil, sm_mli]; omega), x_place (by omega) Xt.1, sm_bv, em]
    by_cases e : p = (T t).1
    · rw [if_pos (show sm_n p = sm_n (T t).1 by rw [e])]
      exact try_ m rfl (Or.inl e)
    · rw [if_neg (show ¬ sm_n p = sm_n (T t).1 by rw [sm_neq (by omega) (by omega)]; exact e), x_hasTower hX.1 (by omega) hX.2.2.1 (show p < 900 by omega), sm_bi]
      cases hh : sm_has n T p with
      | false =>
        rw [if_neg Bool.false_ne_true, if_pos rfl]
        exact try_ m rfl (Or.inr hh)
      | true =>
        rw [if_pos rfl, if_neg (show ¬ (1 : Int32) = 0 by decide), show sm_n p + 1 = sm_n (p + 1) from sm_n_add p 1]
        refine no ?_ m (fun _ => rfl)
        rw [hok]
        unfold sv_ok
        rw [hh, beq_eq_false_iff_ne.mpr e]
        rfl
theorem x_pf2 {R : sm_rd} {F : sm_lf} {k t w : Nat} {P : Nat → Nat} {V : Nat → Int32} {m0 : gk_M} (hX : sm_X n T R S F m0) (hd : sm_dis n T) (ht : t < n) (hw : w < 2) (hk : k ≤ 10) (h28 : m0.1 28 0 = sm_n k) (hP : ∀ i, i < k → m0.1 30 i = V i ∧ P i < 900 ∧ m0.1 29 i = sm_n (P i)) : ∀ l i fu m, i + l = k → l < fu → (∀ a b, a ≠ 31 → m.1 a b = m0.1 a b) → m.2 = m0.2 → (∀ j, j < i → m.1 31 j = sm_n (sv_sn n T S t (P j))) → ∃ m', (∀ a b, a ≠ 31 → m'.1 a b = m0.1 a b) ∧ m'.2 = m0.2 ∧ f_Walker_placesFor_2 fu (sm_n t) (sm_n w) (sm_n i) m = some (if w = 0 then sm_n (sm_sum 900 0 (sv_c (sv_ok n T S t k P V))) else sv_f1 (sv_ok n T S t k P V) 900 0, m')
  | 0, i, fu + 1, m, h1, h3, hf, hl, hj => by
    have e : i = k := by omega
    subst e
    have hn := hX.2.1
    have hX' : sm_X n T R S F m := sm_X_fr (by intro a b h; unfold sm_fX at h; exact hf a b (by omega)) hX
    have Xt := hX'.2.2.1 t (by omega)
    refine ⟨m, hf, hl, ?_⟩
    unfold f_Walker_placesFor_2
    rw [hf 28 0 (by decide), h28, if_pos (by simp (disch := omega) only [sm_lit, sm_nlt, sm_nle, sm_neq, sm_n_add, sm_n_mul, sm_n_div, sm_n_rem, sm_bi, sm_bl, sm_bv, sm_let, sm_zz0, sm_zz1, sm_ai, sm_si, sm_al, sm_sl, sm_ar, sm_mi1, sm_mi0, sm_ml1, sm_ml0, sm_mil, sm_mli]; omega), x_pointOf (by omega) Xt, sm_bi]
    rcases x_pf55 (V := V) hX' hd ht hw hk ((hf 28 0 (by decide)).trans h28) (fun i hi => by rw [hf 30 i (by decide), hf 29 i (by decide)]; exact hP i hi) hj _ (fun _ => rfl) 900 0 gk_fv 0 (-2) m (by omega) (by rw [gk_fv_eq]; omega) (by omega) (fun _ => rfl) with h | h
    · rw [Nat.zero_add, if_pos (show (0 : Nat) = 0 ∧ (-2 : Int32) = -2 from ⟨rfl, rfl⟩)] at h
      exact h
    · exact absurd rfl h.2
  | l + 1, i, fu + 1, m, h1, h3, hf, hl, hj => by
    have hn := hX.2.1
    have hX' : sm_X n T R S F m := sm_X_fr (by intro a b h; unfold sm_fX at h; exact hf a b (by omega)) hX
    obtain ⟨p1, p2, p3⟩ := hP i (by omega)
    obtain ⟨r, r1, r2⟩ := x_seenFrom (a2 := sm_n t) (W := t) hn hX'.2.2.2.2.1 (fun s u hs hu hne _ _ => hd s u hs hu hne) hX'.1 hX'.2.2.1 p2 (fun j hj => sm_neq (by omega) (by omega))
    unfold f_Walker_placesFor_2
    rw [hf 28 0 (by decide), h28, if_neg (by simp (disch := omega) only [sm_lit, sm_nlt, sm_nle, sm_neq, sm_n_add, sm_n_mul, sm_n_div, sm_n_rem, sm_bi, sm_bl, sm_bv, sm_let, sm_zz0, sm_zz1, sm_ai, sm_si, sm_al, sm_sl, sm_ar, sm_mi1, sm_mi0, sm_ml1, sm_ml0, sm_mil, sm_mli]; omega), sm_ai (by omega) (by omega), hf 29 i (by decide), p3, r2, sm_bi, sm_si (by omega) (by omega), show sm_n i + 1 = sm_n (i + 1) from sm_n_add i 1]
    refine x_pf2 hX hd ht hw hk h28 hP l (i + 1) fu _ (by omega) (by omega) (fun a b ha => by rw [sm_mi0 (fun z => ha z.1)]; exact hf a b ha) hl ?_
    intro j hji
    by_cases e : j = i
    · rw [e, sm_mi1, sm_sw_eq r1 (sv_sn_sw hn t (P i))]
    · rw [sm_mi0 (fun z => e z.2)]; exact hj j (by omega)
/-! the reference, from above down -/
theorem sv_dn (p : Nat) : sm_n p + (-1) = sm_i ((p : Int) - 1) := by
  rw [sm_ni, show (-1 : Int32) = sm_i (-1) from rfl, sm_i_add]
  rfl
theorem m_fits39 {R : sm_rd} {F : sm_lf} {k t w : Nat} {P : Nat → Nat} {V : Nat → Int32} (hM : sm_M n T R S F m) (ht : t < n) (hw : w < 2) (hk : k ≤ 10) (h36 : m.1 0 36 = sm_n k) (hP : ∀ i, i < k → m.1 20 i = V i ∧ P i < 900 ∧ m.1 19 i = sm_n (P i)) (ok : Nat → Bool) (hok : ∀ p, ok p = sv_ok n T S t k P V p) : ∀ p l fu c f m1, p + l = 900 → p < fu → c = sm_sum l p (sv_c ok) → f = sv_f1 ok l p → (∀ v, gk_mi m1 5 t v = gk_mi m 5 t v) → f_M_fits_39 fu (sm_n t) (sm_n w) (sm_n (T t).1) (sm_n c) f (sm_i ((p : Int) - 1)) m1 = some (if w = 0 then sm_n (sm_sum 900 0 (sv_c ok)) else sv_f1 ok 900 0, m)
  | 0, l, fu + 1, c, f, m1, h1, h3, hc, hf, hm => by
    have hn := hM.2.1
    have Y := hM.2.2.1 t (by omega)
    have e : l = 900 := by omega
    subst e
    unfold f_M_fits_39
    rw [if_pos (show sm_i (((0 : Nat) : Int) - 1) < 0 by decide), sm_si (by omega) (by omega), hm, sv_mi_id Y.2.1]
    by_cases hw0 : w = 0
    · rw [if_neg (show ¬ ¬ sm_n w = 0 by rw [hw0]; exact fun z => z rfl), if_pos hw0, hc]
    · rw [if_pos (sm_w0 hw hw0), if_neg hw0, hf]
  | p + 1, l, fu + 1, c, f, m1, h1, h3, hc, hf, hm => by
    have hn := hM.2.1
    have Y := hM.2.2.1 t (by omega)
    have Y9 := Y.1
    have hcl := sv_cl ok l (p + 1)
    have es : sm_sum (l + 1) p (sv_c ok) = sv_c ok p + sm_sum l (p + 1) (sv_c ok) := rfl
    have ef : sv_f1 ok (l + 1) p = if ok p = true then sm_n p else sv_f1 ok l (p + 1) := rfl
    have ih := fun c' f' m' h1' h2' h3' => m_fits39 hM ht hw hk h36 hP ok hok p (l + 1) fu c' f' m' (by omega) (by omega) h1' h2' h3'
    have no : ok p = false → ∀ m', (∀ v, gk_mi m' 5 t v = gk_mi m 5 t v) → f_M_fits_39 fu (sm_n t) (sm_n w) (sm_n (T t).1) (sm_n c) f (sm_i ((p : Int) - 1)) m' = some (if w = 0 then sm_n (sm_sum 900 0 (sv_c ok)) else sv_f1 ok 900 0, m) := by
      intro ho m' hm'
      have ho2 : ¬ ok p = true := by rw [ho]; exact Bool.false_ne_true
      refine ih c f m' ?_ ?_ hm'
      · rw [es, show sv_c ok p = 0 from if_neg ho2, Nat.zero_add]; exact hc
      · rw [ef, if_neg ho2]; exact hf
    have e1 : sm_i (((p + 1 : Nat) : Int) - 1) = sm_n p := by rw [sm_ni]; congr 1; omega
    have try_ : ∀ m2, m2 = m → (p = (T t).1 ∨ sm_has n T p = false) → f_M_fits_73 (f_M_fits_39 fu) (sm_n t) (sm_n w) (sm_n (T t).1) (sm_n c) f (sm_n p) m2 = some (if w = 0 then sm_n (sm_sum 900 0 (sv_c ok)) else sv_f1 ok 900 0, m) := by
      intro m2 hm2 hor
      subst hm2
      have hM' := sm_M_pl hM (t := t) (p := p) (by omega)
      have ea := m_allS (V := V) hM' hk ((sm_mi0 (by omega)).trans h36) (fun i hi => by
        rw [sm_mi0 (by omega), sm_mi0 (by omega)]
        exact hP i hi)
      have eok : ok p = sv_ag n (sm_tp T t p) S k P V := by
        rw [hok]
        unfold sv_ok
        rcases hor with h | h
        · rw [← h]; simp
        · rw [h]; simp
      unfold f_M_fits_73
      rw [sm_si (by omega) (by omega), ea, sm_bi, sv_dn, show sm_n c + 1 = sm_n (c + 1) from sm_n_add c 1]
      have hm' : ∀ v, gk_mi (gk_mi m2 5 t (sm_n p)) 5 t v = gk_mi m2 5 t v := fun v => sv_mi2 m2 5 t (sm_n p) v
      cases hA : sv_ag n (sm_tp T t p) S k P V with
      | false =>
        rw [if_pos (show sm_b2 false = 0 from rfl)]
        exact no (eok.trans hA) _ hm'
      | true =>
        have ho : ok p = true := eok.trans hA
        rw [if_neg (show ¬ sm_b2 true = 0 by decide)]
        refine ih (c + 1) (sm_n p) _ ?_ ?_ hm'
        · rw [es, show sv_c ok p = 1 from if_pos ho, ← hc]; omega
        · rw [ef, if_pos ho]
    unfold f_M_fits_39
    rw [e1, if_neg (sm_nn (by omega)), sm_si (by omega) (by omega), hm, sv_mi_id Y.2.1]
    by_cases e : p = (T t).1
    · rw [if_pos (show sm_n p = sm_n (T t).1 by rw [e])]
      exact try_ m rfl (Or.inl e)
    · rw [if_neg (show ¬ sm_n p = sm_n (T t).1 by rw [sm_neq (by omega) (by omega)]; exact e), hM.1, m_isFreeOf (k := n) (T := T) (by omega) (fun s hs => ⟨(hM.2.2.1 s (by omega)).2.1, (hM.2.2.1 s (by omega)).1⟩) (show p < 900 by omega), sm_bi]
      cases hh : sm_has n T p with
      | false =>
        rw [if_neg Bool.false_ne_true, if_pos (show ¬ (1 : Int32) = 0 by decide)]
        exact try_ m rfl (Or.inr hh)
      | true =>
        rw [if_pos rfl, if_neg (show ¬ ¬ (0 : Int32) = 0 from fun z => z rfl), sv_dn]
        refine no ?_ m (fun _ => rfl)
        rw [hok]
        unfold sv_ok
        rw [hh, beq_eq_false_iff_ne.mpr e]
        rfl
end FITS
theorem rl_sgf {mx mm : gk_M} (H : rl_sight mx mm) : ∃ (k : Nat) (P : Nat → Nat), k ≤ 10 ∧ mx.1 28 0 = sm_n k ∧ mm.1 0 36 = sm_n k ∧ ∀ i, i < k → mx.1 30 i = mm.1 20 i ∧ P i < 900 ∧ mx.1 29 i = sm_n (P i) ∧ mm.1 19 i = sm_n (P i) := by
  obtain ⟨k, h1, h2, h3, h4⟩ := H
  refine ⟨k, fun i => if hi : i < k then (h4 i hi).2.choose else 0, h1, h2, h3, fun i hi => ?_⟩
  have e := (h4 i hi).2.choose_spec
  simp only [dif_pos hi]
  exact ⟨(h4 i hi).1, e⟩
theorem sv_ok_cg {n t k : Nat} {TX TM : Nat → sm_tw} {S : sm_fs} {P : Nat → Nat} {V : Nat → Int32} (hn : n ≤ 10) (hT : rl_T n TX TM) (ht : t < n) : sv_ok n TX S t k P V = sv_ok n TM S t k P V := by
  funext p
  unfold sv_ok
  have e : ∀ q, sv_sn n (sm_tp TX t p) S 99 q = sv_sn n (sm_tp TM t p) S 99 q := by
    intro q
    refine sm_sw_eq (sm_sw_cg ?_ (sv_sn_sw (T := sm_tp TX t p) (S := S) hn 99 q)) (sv_sn_sw hn 99 q)
    intro s hs _
    unfold sm_tp
    by_cases z : s = t
    · rw [z, sm_up1, sm_up1, hT.1 t ht]
    · rw [sm_up0 z, sm_up0 z, hT.1 s hs]
  have e2 : sv_ag n (sm_tp TX t p) S k P V = sv_ag n (sm_tp TM t p) S k P V := by
    unfold sv_ag
    rw [sm_any_cg (g := fun i => !decide (sm_n (sv_sn n (sm_tp TM t p) S 99 (P i)) = V i))]
    intro i _ _
    rw [e]
  rw [sm_has_cg hT, hT.1 t ht, e2]
theorem c_fits {mx mm : gk_M} (h : rl_ mx mm) (a b : Int32) : sm_al2 mx mm (f_X_fits a b mx) (f_M_fits a b mm) := by
  obtain ⟨n, TX, TM, R, S, F, nb, hX, hM, hT, hP, hK, hS, hH, hB, hR, hD⟩ := id h
  have hn := hX.2.1
  unfold f_X_fits f_M_fits f_X_fits_36
  rw [x_isTower a hX.1, sm_bi, m_isTower a (show n < 2147483648 by omega) hM.1, sm_bi]
  rcases sm_u_cases a n (by omega) with ⟨e0, e1⟩ | ⟨t, ht, rfl, e1⟩
  · rw [if_pos e0, if_pos e0]; exact sm_al_id h
  rw [if_neg (show ¬ sm_u (sm_n t) n = 0 by rw [e1]; decide), if_neg (show ¬ sm_u (sm_n t) n = 0 by rw [e1]; decide), show f_X_isChoice b 1 mx = _ from x_isChoice (l := 1) b (by omega) mx, sm_bi, m_within (h := 2) (hi := 1) (by omega) rfl, sm_bi]
  rcases sm_u_cases b 2 (by omega) with ⟨e0, _⟩ | ⟨w, hw, rfl, e3⟩
  · rw [if_neg (fun z => z e0), if_neg (fun z => z e0)]; exact sm_al_id h
  rw [if_pos (show ¬ sm_u (sm_n w) (1 + 1) = 0 by rw [e3]; decide), if_pos (show ¬ sm_u (sm_n w) 2 = 0 by rw [e3]; decide)]
  obtain ⟨k, P, k1, k2, k3, k4⟩ := rl_sgf hS
  have Y := hM.2.2.1 t (by omega)
  obtain ⟨m1, f1, f2, g1⟩ := x_pf2 (w := w) (t := t) (V := fun i => mm.1 20 i) hX (rl_dis hT) ht hw k1 k2 (fun i hi => ⟨(k4 i hi).1, (k4 i hi).2.1, (k4 i hi).2.2.1⟩) k 0 gk_fv mx (by omega) (by rw [gk_fv_eq]; omega) (fun _ _ _ => rfl) rfl (fun j hj => absurd hj (Nat.not_lt_zero j))
  have g2 := m_fits39 (w := w) (V := fun i => mm.1 20 i) hM ht hw k1 k3 (fun i hi => ⟨rfl, (k4 i hi).2.1, (k4 i hi).2.2.2⟩) (sv_ok n TM S t k P (fun i => mm.1 20 i)) (fun _ => rfl) 900 0 gk_fv 0 (-2) mm (by omega) (by rw [gk_fv_eq]; omega) rfl rfl (fun _ => rfl)
  rw [sv_ok_cg hn hT ht] at g1
  have ex : (if ¬ sm_n w = 1 then gk_bi (f_Walker_placesFor (sm_n t) 0 mx) fun v2 m1 => some (v2, m1) else gk_bi (f_Walker_placesFor (sm_n t) 1 mx) fun v2 m1 => some (v2, m1)) = gk_bi (f_Walker_placesFor (sm_n t) (sm_n w) mx) fun v2 m1 => some (v2, m1) := by
    by_cases hw0 : w = 0
    · rw [hw0, if_pos (show ¬ sm_n 0 = 1 by decide)]; rfl
    · rw [show w = 1 by omega, if_neg (show ¬ ¬ sm_n 1 = 1 from fun z => z rfl)]; rfl
  rw [ex]
  unfold f_Walker_placesFor
  rw [show f_Walker_placesFor_2 gk_fv (sm_n t) (sm_n w) 0 mx = _ from g1, sm_bi, sm_ai (by omega) (by omega), Y.2.1, show f_M_fits_39 gk_fv (sm_n t) (sm_n w) (sm_n (TM t).1) 0 (-2) 899 mm = _ from g2]
  refine ⟨_, _, _, rfl, rfl, ?_⟩
  refine rl_q2 (sm_X_fr (by intro a b h; unfold sm_fX at h; exact f1 a b (by omega)) hX) ?_ ?_ ?_ ?_ f2 hM ?_ ?_ ?_ ?_ ?_ hT hP hK hS hH hB hR hD
  · intro j; exact f1 4 j (by decide)
  · intro j; exact f1 6 j (by decide)
  · intro j _; exact f1 11 j (by decide)
  · intro k j hk hk2; exact f1 k j hk2
  · intros; rfl
  · intros; rfl
  · intros; rfl
  · intros; rfl
  · intros; rfl
