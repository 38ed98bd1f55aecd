/-! SIM: seen -/
theorem sm_any_or (f g : Nat → Bool) : ∀ l i, sm_any l i (fun v => f v || g v) = (sm_any l i f || sm_any l i g)
  | 0, _ => rfl
  | l + 1, i => by
    show ((f i || g i) || sm_any l (i + 1) (fun v => f v || g v)) = ((f i || sm_any l (i + 1) f) || (g i || sm_any l (i + 1) g))
    rw [sm_any_or f g l (i + 1)]
    cases f i <;> cases g i <;> cases sm_any l (i + 1) f <;> cases sm_any l (i + 1) g <;> rfl
theorem sm_any_one {n t : Nat} (ht : t < n) (G : Bool) : sm_any n 0 (fun v => v == t && G) = G := by
  rw [Bool.eq_iff_iff, sm_any_iff]
  constructor
  · rintro ⟨j, _, _, h⟩
    have h : (j == t && G) = true := h
    rw [Bool.and_eq_true] at h
    exact h.2
  · intro h
    refine ⟨t, Nat.zero_le t, by omega, ?_⟩
    show (t == t && G) = true
    rw [h]; simp
section SEEN
variable {n : Nat} {T : Nat → sm_tw} {S : sm_fs} {m : gk_M}
theorem sm_vs_a {O O' : Nat → Bool} {p t u : Nat} (htn : t < n) (hOt : O t = false) (hO' : ∀ u, O' u = (O u || u == t)) (hu : u ≠ t) : sm_vs n T S O' p u = (sm_vs n T S O p u && !(sm_hdn T p u t)) := by
  unfold sm_vs
  have e : sm_any n 0 (fun v => O' v && !(v == u) && sm_hdn T p u v) = (sm_any n 0 (fun v => O v && !(v == u) && sm_hdn T p u v) || sm_hdn T p u t) := by
    rw [← sm_any_one htn (sm_hdn T p u t), ← sm_any_or]
    refine sm_any_cg (fun v _ _ => ?_)
    show (O' v && !(v == u) && sm_hdn T p u v) = (O v && !(v == u) && sm_hdn T p u v || (v == t && sm_hdn T p u t))
    rw [hO']
    by_cases z : v = t
    · subst z
      have z2 : (v == u) = false := beq_eq_false_iff_ne.mpr (fun y => hu y.symm)
      rw [hOt, z2]; simp
    · rw [beq_eq_false_iff_ne.mpr z]; simp
  rw [e, Bool.not_or, ← Bool.and_assoc]
theorem sm_vs_t {O O' : Nat → Bool} {p t : Nat} (hOt : O t = false) (hO' : ∀ u, O' u = (O u || u == t)) : sm_vs n T S O' p t = (!((T t).1 == p) && !sm_gst S (sm_cx p) (sm_cy p) 1 (T t).1 && !sm_any n 0 (fun v => O v && sm_hdn T p t v)) := by
  unfold sm_vs
  congr 2
  refine sm_any_cg (fun v _ _ => ?_)
  show (O' v && !(v == t) && sm_hdn T p t v) = (O v && sm_hdn T p t v)
  rw [hO']
  by_cases z : v = t
  · subst z
    rw [hOt]; simp
  · rw [beq_eq_false_iff_ne.mpr z]; simp
theorem x_joinSeen {o : Int32} {O O' : Nat → Bool} {p t b : Nat} (hn : n ≤ 10) (hS : sm_xS S m) (hO : ∀ j, j < n → ((o >>> (sm_n j &&& 31)) &&& 1) = sm_b2 (O j)) (htn : t < n) (hOt : O t = false) (hne : ∀ j, j < n → O j = true → (T j).1 ≠ (T t).1) (h5 : m.1 7 5 = sm_n n) (hT : ∀ t, t < 12 → sm_xw m t (T t)) (hp : p < 900) (hb : b < 1024) (hbb : ∀ u, b.testBit u = (decide (u < n) && O u && sm_vs n T S O p u)) (hO' : ∀ u, O' u = (O u || u == t)) : ∃ r, r < 1024 ∧ (∀ u, r.testBit u = (decide (u < n) && O' u && sm_vs n T S O' p u)) ∧ f_Plain_joinSeen (sm_n p) o (sm_n b) (sm_n t) m = some (sm_n r, m) := by
  have Xt := hT t (by omega)
  have c1 := sm_cxb (T t).1
  have c2 := sm_cyb Xt.1
  have c3 := sm_cxb p
  have c4 := sm_cyb hp
  unfold f_Plain_joinSeen f_Plain_joinSeen_48 f_Plain_joinSeen_74
  rw [sm_let, sm_let, show gk_rem (sm_n p) 30 = sm_n (p % 30) from sm_n_rem (b := 30) (by omega) (by omega), show sm_n p / 30 = sm_n (p / 30) from sm_n_div (b := 30) (by omega) (by omega), sm_ai (by omega) (by omega), sm_let, sm_ai (by omega) (by omega), sm_let, Xt.2.1, Xt.2.2.1, sm_cxn, sm_cyn, sm_cxn, sm_cyn, sm_i_sub, sm_i_sub]
  have zx := (sm_i0lt (a := sm_cx (T t).1 - sm_cx p) (by omega) (by omega)).2.2.2.2
  have zy := (sm_i0lt (a := sm_cy (T t).1 - sm_cy p) (by omega) (by omega)).2.2.2.2
  -- the answer, once it is known of each tower
  have fin : ∀ r : Nat, (∀ u, u ≠ t → r.testBit u = (b.testBit u && !(O u && sm_hdn T p u t))) → r.testBit t = (!((T t).1 == p) && !sm_gst S (sm_cx p) (sm_cy p) 1 (T t).1 && !sm_any n 0 (fun v => O v && sm_hdn T p t v)) → ∀ u, r.testBit u = (decide (u < n) && O' u && sm_vs n T S O' p u) := by
    intro r h1 h2 u
    by_cases e : u = t
    · rw [e, h2, sm_vs_t hOt hO', hO', decide_eq_true htn]
      simp
    · rw [h1 u e, hbb, hO', beq_eq_false_iff_ne.mpr e, sm_vs_a htn hOt hO' e, Bool.or_false]
      cases decide (u < n) <;> cases O u <;> simp
  by_cases hz : (T t).1 = p
  · rw [if_neg (show ¬ ¬ sm_i (sm_cx (T t).1 - sm_cx p) = 0 by rw [hz, Int.sub_self]; exact fun z => z rfl), if_neg (show ¬ ¬ sm_i (sm_cy (T t).1 - sm_cy p) = 0 by rw [hz, Int.sub_self]; exact fun z => z rfl)]
    refine ⟨b, hb, fin b ?_ ?_, rfl⟩
    · intro u _
      have : sm_hdn T p u t = false := by unfold sm_hdn; rw [hz, sm_bh_0]; rfl
      rw [this]; simp
    · rw [hbb, hOt, hz]; simp
  · have hd : ¬ (sm_cx (T t).1 - sm_cx p = 0 ∧ sm_cy (T t).1 - sm_cy p = 0) := sm_dne (fun z => hz z.symm)
    have est : sm_gst S (sm_cx p) (sm_cy p) 1 (T t).1 = sm_xst S (sm_cx p) (sm_cy p) 1 (T t).1 (sm_cx (T t).1 - sm_cx p) (sm_cy (T t).1 - sm_cy p) := sm_any_cg (fun j _ _ => g_cut_i (by omega) hd (by rw [Int.mul_one, Int.mul_one]; exact Int.mul_comm _ _) (by omega))
    obtain ⟨r, r1, r2, r3⟩ := x_js79 (p := p) (t := t) (T := T) (o := o) (O := O) (m := m) hn hO htn h5 hT c3 c4 rfl rfl (fun j => O j && sm_bh (sm_cx p) (sm_cy p) 1 (T t).1 (T j).1 && decide (sm_fr (sm_cx p) (sm_cy p) 1 (T j).1 < sm_fr (sm_cx p) (sm_cy p) 1 (T t).1) && !decide ((T j).2.1 < (T t).2.1)) (fun j => O j && sm_bh (sm_cx p) (sm_cy p) 1 (T t).1 (T j).1 && !decide (sm_fr (sm_cx p) (sm_cy p) 1 (T j).1 < sm_fr (sm_cx p) (sm_cy p) 1 (T t).1) && !decide ((T t).2.1 < (T j).2.1)) (fun _ => rfl) (fun _ => rfl) n 0 gk_fv b (!sm_xst S (sm_cx p) (sm_cy p) 1 (T t).1 (sm_cx (T t).1 - sm_cx p) (sm_cy (T t).1 - sm_cy p)) (by omega) (by rw [gk_fv_eq]; omega) hb
    refine ⟨r, r1, fin r ?_ ?_, ?_⟩
    · intro u hu
      rw [r2, decide_eq_false hu, Bool.false_and, Bool.or_false]
      by_cases hun : u < n
      · rw [decide_eq_true (show 0 ≤ u ∧ u < n by omega), Bool.true_and]
        congr 2
        show (O u && sm_bh (sm_cx p) (sm_cy p) 1 (T t).1 (T u).1 && !decide (sm_fr (sm_cx p) (sm_cy p) 1 (T u).1 < sm_fr (sm_cx p) (sm_cy p) 1 (T t).1) && !decide ((T t).2.1 < (T u).2.1)) = (O u && sm_hdn T p u t)
        unfold sm_hdn
        cases hOu : O u with
        | false => rfl
        | true =>
          rw [sm_bh_sym (sm_cx p) (sm_cy p) 1 (T t).1 (T u).1]
          cases hbh : sm_bh (sm_cx p) (sm_cy p) 1 (T u).1 (T t).1 with
          | false => rfl
          | true =>
            have hf := sm_far_ne (by omega) (hne u hun hOu) hbh
            rw [show (!decide (sm_fr (sm_cx p) (sm_cy p) 1 (T u).1 < sm_fr (sm_cx p) (sm_cy p) 1 (T t).1)) = decide (sm_fr (sm_cx p) (sm_cy p) 1 (T t).1 < sm_fr (sm_cx p) (sm_cy p) 1 (T u).1) by rw [← decide_not]; exact decide_eq_decide.mpr (by omega)]
            rfl
      · rw [hbb, decide_eq_false hun]; rfl
    · rw [r2, hbb, hOt, decide_eq_true (show t = t from rfl), est, beq_eq_false_iff_ne.mpr hz]
      have ea : sm_any n 0 (fun j => O j && sm_bh (sm_cx p) (sm_cy p) 1 (T t).1 (T j).1 && decide (sm_fr (sm_cx p) (sm_cy p) 1 (T j).1 < sm_fr (sm_cx p) (sm_cy p) 1 (T t).1) && !decide ((T j).2.1 < (T t).2.1)) = sm_any n 0 (fun v => O v && sm_hdn T p t v) := by
        refine sm_any_cg (fun v _ _ => ?_)
        show (O v && sm_bh (sm_cx p) (sm_cy p) 1 (T t).1 (T v).1 && decide (sm_fr (sm_cx p) (sm_cy p) 1 (T v).1 < sm_fr (sm_cx p) (sm_cy p) 1 (T t).1) && !decide ((T v).2.1 < (T t).2.1)) = (O v && sm_hdn T p t v)
        unfold sm_hdn
        rw [Bool.and_assoc, Bool.and_assoc, Bool.and_assoc]
      rw [ea]
      simp
    · have e48 : ∀ {α : Type} (A : α) (B : α), (if ¬ sm_i (sm_cx (T t).1 - sm_cx p) = 0 then A else if ¬ sm_i (sm_cy (T t).1 - sm_cy p) = 0 then A else B) = A := by
        intro α A B
        by_cases q1 : sm_cx (T t).1 - sm_cx p = 0
        · rw [if_neg (fun z => z (zx.mpr q1)), if_pos (fun z => hd ⟨q1, zy.mp z⟩)]
        · rw [if_pos (fun z => q1 (zx.mp z))]
      have cc := x_isStopped (q := 1) hS (show t < 12 by omega) Xt (px := sm_cx p) (py := sm_cy p) (dx := sm_cx (T t).1 - sm_cx p) (dy := sm_cy (T t).1 - sm_cy p) (by unfold sm_rg; omega) (by omega) (by omega)
      rw [e48, show f_Plain_isStopped (sm_i (sm_cx p)) (sm_i (sm_cy p)) 1 (sm_n t) (sm_i (sm_cx (T t).1 - sm_cx p)) (sm_i (sm_cy (T t).1 - sm_cy p)) m = _ from cc, sm_bi]
      cases hst : sm_xst S (sm_cx p) (sm_cy p) 1 (T t).1 (sm_cx (T t).1 - sm_cx p) (sm_cy (T t).1 - sm_cy p) with
      | true =>
        rw [hst] at r3
        rw [if_pos (show ¬ sm_b2 true = 0 by decide)]
        exact r3
      | false =>
        rw [hst] at r3
        rw [if_neg (show ¬ ¬ sm_b2 false = 0 from fun z => z rfl)]
        exact r3
theorem sm_bit2 {a t : Nat} (ha : a < 2147483648) (ht : t < 31) : (sm_n a >>> (sm_n t &&& 31)) &&& 1 = sm_b2 (a.testBit t) := by
  rw [sm_bit ha ht]
  cases a.testBit t <;> rfl
/-- what is seen with all towers but one number -/
def sv_ow (n W : Nat) (v : Nat) : Bool := decide (v < n) && !(v == W)
def sm_sw (n : Nat) (T : Nat → sm_tw) (S : sm_fs) (W p r : Nat) : Prop := r < 1024 ∧ ∀ u, r.testBit u = (decide (u < n) && sv_ow n W u && sm_vs n T S (sv_ow n W) p u)
theorem x_sf8 {p W : Nat} {a2 : Int32} (hn : n ≤ 10) (hS : sm_xS S m) (hne : ∀ s t, s < n → t < n → s ≠ t → s ≠ W → t ≠ W → (T s).1 ≠ (T t).1) (h5 : m.1 7 5 = sm_n n) (hT : ∀ t, t < 12 → sm_xw m t (T t)) (hp : p < 900) (ha : ∀ j, j < n → (sm_n j = a2 ↔ j = W)) : ∀ l t fu o b, t + l = n → l < fu → o < 1024 → (∀ u, o.testBit u = (decide (u < t) && !(u == W))) → b < 1024 → (∀ u, b.testBit u = (decide (u < n) && o.testBit u && sm_vs n T S (fun v => o.testBit v) p u)) → ∃ r, sm_sw n T S W p r ∧ f_Plain_seenFrom_8 fu (sm_n p) a2 (sm_n b) (sm_n o) (sm_n t) m = some (sm_n r, m)
  | 0, t, fu + 1, o, b, h1, h3, ho, hob, hb, hbb => by
    have e : t = n := by omega
    subst e
    have eO : (fun v => o.testBit v) = sv_ow t W := funext hob
    unfold f_Plain_seenFrom_8
    rw [h5, if_pos (by simp (disch := omega) only [sm_lit, sm_nlt, sm_nle, sm_neq, sm_n_add, sm_n_mul, sm_n_div, sm_n_rem, sm_bi, sm_bl, sm_bv, sm_let, sm_zz0, sm_zz1, sm_ai, sm_si, sm_al, sm_sl, sm_ar, sm_mi1, sm_mi0, sm_ml1, sm_ml0, sm_mil, sm_mli]; omega)]
    refine ⟨b, ⟨hb, fun u => ?_⟩, rfl⟩
    rw [hbb, eO]
    congr 2
    exact hob u
  | l + 1, t, fu + 1, o, b, h1, h3, ho, hob, hb, hbb => by
    unfold f_Plain_seenFrom_8
    rw [h5, if_neg (by simp (disch := omega) only [sm_lit, sm_nlt, sm_nle, sm_neq, sm_n_add, sm_n_mul, sm_n_div, sm_n_rem, sm_bi, sm_bl, sm_bv, sm_let, sm_zz0, sm_zz1, sm_ai, sm_si, sm_al, sm_sl, sm_ar, sm_mi1, sm_mi0, sm_ml1, sm_ml0, sm_mil, sm_mli]; omega), show sm_n t + 1 = sm_n (t + 1) from sm_n_add t 1]
    by_cases e : t = W
    · rw [if_pos ((ha t (by omega)).mpr e)]
      refine x_sf8 hn hS hne h5 hT hp ha l (t + 1) fu o b (by omega) (by omega) ho ?_ hb hbb
      intro u
      rw [hob]
      by_cases z : u = W
      · rw [z]; simp
      · rw [show decide (u < t + 1) = decide (u < t) from decide_eq_decide.mpr (by omega)]
    · rw [if_neg (fun z => e ((ha t (by omega)).mp z))]
      obtain ⟨r, r1, r2, r3⟩ := x_joinSeen (O := fun v => o.testBit v) (O' := fun v => (o ||| 2 ^ t).testBit v) (o := sm_n o) (t := t) (b := b) hn hS (fun j hj => sm_bit2 (by omega) (by omega)) (by omega) (show o.testBit t = false by rw [hob, decide_eq_false (Nat.lt_irrefl t)]; rfl) (by
        intro j hj hoj
        have hoj : o.testBit j = true := hoj
        rw [hob, Bool.and_eq_true, decide_eq_true_iff, Bool.not_eq_true', beq_eq_false_iff_ne] at hoj
        exact hne j t hj (by omega) (by omega) hoj.2 e) h5 hT hp hb hbb (fun u => by
        show (o ||| 2 ^ t).testBit u = (o.testBit u || u == t)
        rw [sm_or_bit]; congr 1)
      rw [r3, sm_bi, sm_let, sm_shl (by omega), sm_bor]
      refine x_sf8 hn hS hne h5 hT hp ha l (t + 1) fu _ r (by omega) (by omega) (sm_or_lt ho (by omega)) ?_ r1 r2
      intro u
      rw [sm_or_bit, hob]
      by_cases z : u = t
      · rw [z, beq_eq_false_iff_ne.mpr e]; simp
      · rw [show decide (u < t + 1) = decide (u < t) from decide_eq_decide.mpr (by omega), decide_eq_false z, Bool.or_false]
theorem x_seenFrom {p W : Nat} {a2 : Int32} (hn : n ≤ 10) (hS : sm_xS S m) (hne : ∀ s t, s < n → t < n → s ≠ t → s ≠ W → t ≠ W → (T s).1 ≠ (T t).1) (h5 : m.1 7 5 = sm_n n) (hT : ∀ t, t < 12 → sm_xw m t (T t)) (hp : p < 900) (ha : ∀ j, j < n → (sm_n j = a2 ↔ j = W)) : ∃ r, sm_sw n T S W p r ∧ f_Plain_seenFrom (sm_n p) a2 m = some (sm_n r, m) :=
  x_sf8 hn hS hne h5 hT hp ha n 0 gk_fv 0 0 (by omega) (by rw [gk_fv_eq]; omega) (by omega) (fun u => by rw [Nat.zero_testBit, decide_eq_false (Nat.not_lt_zero u)]; rfl) (by omega) (fun u => by rw [Nat.zero_testBit]; simp)
/-! the reference -/
theorem m_hid17 {R : sm_rd} {F : sm_lf} {p t : Nat} (hM : sm_M n T R S F m) (hp : p < 900) (ht : t < n) (h : Nat → Bool) (hh : ∀ u, h u = (!(u == t) && sm_hdn T p t u)) : ∀ l u fu, u + l = n → l < fu → f_M_isHidden_17 fu (sm_n t) (sm_n n) (sm_l (sm_cx p)) (sm_l (sm_cy p)) (sm_n u) m = some (sm_b2 (sm_any l u h), m)
  | 0, u, fu + 1, h1, h3 => by
    have hn := hM.2.1
    unfold f_M_isHidden_17
    rw [if_pos (by simp (disch := omega) only [sm_lit, sm_nlt, sm_nle, sm_neq, sm_n_add, sm_n_mul, sm_n_div, sm_n_rem, sm_bi, sm_bl, sm_bv, sm_let, sm_zz0, sm_zz1, sm_ai, sm_si, sm_al, sm_sl, sm_ar, sm_mi1, sm_mi0, sm_ml1, sm_ml0, sm_mil, sm_mli]; omega)]
    rfl
  | l + 1, u, fu + 1, h1, h3 => by
    have hn := hM.2.1
    have c3 := sm_cxb p
    have c4 := sm_cyb hp
    have Wt := hM.2.2.1 t (by omega)
    have Wu := hM.2.2.1 u (by omega)
    have hr : sm_rg (sm_cx p) (sm_cy p) 1 := by unfold sm_rg; omega
    have ih := m_hid17 hM hp ht h hh l (u + 1) fu (by omega) (by omega)
    unfold f_M_isHidden_17
    rw [if_neg (by simp (disch := omega) only [sm_lit, sm_nlt, sm_nle, sm_neq, sm_n_add, sm_n_mul, sm_n_div, sm_n_rem, sm_bi, sm_bl, sm_bv, sm_let, sm_zz0, sm_zz1, sm_ai, sm_si, sm_al, sm_sl, sm_ar, sm_mi1, sm_mi0, sm_ml1, sm_ml0, sm_mil, sm_mli]; omega), show sm_n u + 1 = sm_n (u + 1) from sm_n_add u 1]
    by_cases e : u = t
    · rw [if_pos (show sm_n u = sm_n t by rw [e]), sm_anyf (show h u = false by rw [hh, e]; simp)]
      exact ih
    · have e1 : h u = sm_hdn T p t u := by rw [hh, beq_eq_false_iff_ne.mpr e]; rfl
      rw [if_neg (show ¬ sm_n u = sm_n t by rw [sm_neq (by omega) (by omega)]; exact e), show f_M_isBehind (sm_l (sm_cx p)) (sm_l (sm_cy p)) 1 (sm_n t) (sm_n u) m = _ from m_isBehind (q := 1) (by omega) (by omega) Wt.2.1 Wu.2.1 Wt.1 Wu.1 hr, sm_bi]
      unfold sm_hdn at e1
      cases hb : sm_bh (sm_cx p) (sm_cy p) 1 (T t).1 (T u).1 with
      | false =>
        rw [hb] at e1
        rw [if_pos (show sm_b2 false = 0 from rfl), sm_anyf e1]
        exact ih
      | true =>
        rw [hb] at e1
        have ft := sm_frb (p := (T t).1) Wt.1 hr
        have fu' := sm_frb (p := (T u).1) Wu.1 hr
        rw [if_neg (show ¬ sm_b2 true = 0 by decide), show f_M_farOf (sm_l (sm_cx p)) (sm_l (sm_cy p)) 1 (sm_n u) m = _ from m_farOf (q := 1) (by omega) Wu.2.1 Wu.1, sm_bl, show f_M_farOf (sm_l (sm_cx p)) (sm_l (sm_cy p)) 1 (sm_n t) m = _ from m_farOf (q := 1) (by omega) Wt.2.1 Wt.1, sm_bl]
        by_cases hf : sm_fr (sm_cx p) (sm_cy p) 1 (T u).1 < sm_fr (sm_cx p) (sm_cy p) 1 (T t).1
        · rw [decide_eq_true hf] at e1
          rw [if_neg (show ¬ sm_l (sm_fr (sm_cx p) (sm_cy p) 1 (T t).1) ≤ sm_l (sm_fr (sm_cx p) (sm_cy p) 1 (T u).1) by rw [sm_lle (by omega) (by omega) (by omega) (by omega)]; omega), m_heightOf hM (by omega), sm_bi, m_heightOf hM (by omega), sm_bi]
          by_cases hl : (T u).2.1 < (T t).2.1
          · rw [decide_eq_true hl] at e1
            rw [if_pos hl, sm_anyf e1]
            exact ih
          · rw [decide_eq_false hl] at e1
            rw [if_neg hl, sm_anyt e1]
            rfl
        · rw [decide_eq_false hf] at e1
          rw [if_pos (show sm_l (sm_fr (sm_cx p) (sm_cy p) 1 (T t).1) ≤ sm_l (sm_fr (sm_cx p) (sm_cy p) 1 (T u).1) by rw [sm_lle (by omega) (by omega) (by omega) (by omega)]; omega), sm_anyf e1]
          exact ih
theorem m_isHidden {R : sm_rd} {F : sm_lf} {p t : Nat} (hM : sm_M n T R S F m) (hp : p < 900) (ht : t < n) : f_M_isHidden (sm_n p) (sm_n t) (sm_n n) m = some (sm_b2 (sm_any n 0 (fun u => !(u == t) && sm_hdn T p t u)), m) := by
  have hn := hM.2.1
  unfold f_M_isHidden
  rw [sm_let, sm_let, show gk_rem (sm_n p) 30 = sm_n (p % 30) from sm_n_rem (b := 30) (by omega) (by omega), show sm_n p / 30 = sm_n (p / 30) from sm_n_div (b := 30) (by omega) (by omega), sm_lx, sm_ly hp]
  exact m_hid17 hM hp ht _ (fun _ => rfl) n 0 gk_fv (by omega) (by rw [gk_fv_eq]; omega)
theorem m_sf4 {R : sm_rd} {F : sm_lf} {p : Nat} (hM : sm_M n T R S F m) (hp : p < 900) (g : Nat → Bool) (hg : ∀ t, t < n → g t = sm_vs n T S (sv_ow n 99) p t) : ∀ l t fu b, t + l = n → l < fu → f_M_seenFrom_4 fu (sm_n p) (sm_n b) (sm_n t) m = some (sm_n (sm_qs g l t b), m)
  | 0, t, fu + 1, b, h1, h3 => by
    have hn := hM.2.1
    unfold f_M_seenFrom_4
    rw [hM.1, if_pos (by simp (disch := omega) only [sm_lit, sm_nlt, sm_nle, sm_neq, sm_n_add, sm_n_mul, sm_n_div, sm_n_rem, sm_bi, sm_bl, sm_bv, sm_let, sm_zz0, sm_zz1, sm_ai, sm_si, sm_al, sm_sl, sm_ar, sm_mi1, sm_mi0, sm_ml1, sm_ml0, sm_mil, sm_mli]; omega)]
    rfl
  | l + 1, t, fu + 1, b, h1, h3 => by
    have hn := hM.2.1
    have c3 := sm_cxb p
    have c4 := sm_cyb hp
    have Wt := hM.2.2.1 t (by omega)
    have hr : sm_rg (sm_cx p) (sm_cy p) 1 := by unfold sm_rg; omega
    have ih := fun b => m_sf4 hM hp g hg l (t + 1) fu b (by omega) (by omega)
    have e0 := hg t (by omega)
    unfold sm_vs at e0
    have eA : sm_any n 0 (fun u => sv_ow n 99 u && !(u == t) && sm_hdn T p t u) = sm_any n 0 (fun u => !(u == t) && sm_hdn T p t u) := by
      refine sm_any_cg (fun u _ hu => ?_)
      show (sv_ow n 99 u && !(u == t) && sm_hdn T p t u) = (!(u == t) && sm_hdn T p t u)
      unfold sv_ow
      rw [decide_eq_true (show u < n by omega), beq_eq_false_iff_ne.mpr (show u ≠ 99 by omega)]
      rfl
    rw [eA] at e0
    have no : g t = false → f_M_seenFrom_4 fu (sm_n p) (sm_n b ||| 0) (sm_n t + 1) m = some (sm_n (sm_qs g (l + 1) t b), m) := by
      intro e
      rw [show sm_n t + 1 = sm_n (t + 1) from sm_n_add t 1, show sm_n b ||| (0 : Int32) = sm_n b from (sm_bor b 0).trans (by rw [Nat.or_zero]), ih b]
      show _ = some (sm_n (sm_qs g l (t + 1) (if g t = true then b ||| 2 ^ t else b)), m)
      rw [e, if_neg Bool.false_ne_true]
    unfold f_M_seenFrom_4 f_M_seenFrom_58 f_M_seenFrom_59 f_M_seenFrom_74
    rw [hM.1, if_neg (by simp (disch := omega) only [sm_lit, sm_nlt, sm_nle, sm_neq, sm_n_add, sm_n_mul, sm_n_div, sm_n_rem, sm_bi, sm_bl, sm_bv, sm_let, sm_zz0, sm_zz1, sm_ai, sm_si, sm_al, sm_sl, sm_ar, sm_mi1, sm_mi0, sm_ml1, sm_ml0, sm_mil, sm_mli]; omega), sm_ai (by omega) (by omega), Wt.2.1]
    by_cases e : (T t).1 = p
    · rw [if_pos (show sm_n (T t).1 = sm_n p by rw [e]), if_pos (show (0 : Int32) = 0 from rfl), sm_let]
      exact no (by rw [e0, e]; simp)
    · rw [beq_eq_false_iff_ne.mpr e] at e0
      rw [if_neg (show ¬ sm_n (T t).1 = sm_n p by rw [sm_neq (by have := Wt.1; omega) (by omega)]; exact e), show gk_rem (sm_n p) 30 = sm_n (p % 30) from sm_n_rem (b := 30) (by omega) (by omega), show sm_n p / 30 = sm_n (p / 30) from sm_n_div (b := 30) (by omega) (by omega), sm_lx, sm_ly hp, show f_M_isStopped (sm_l (sm_cx p)) (sm_l (sm_cy p)) 1 (sm_n t) m = _ from m_isStopped (q := 1) hM.2.2.2.2.1 (by omega) Wt.2.1 Wt.1 hr, sm_bi]
      cases hst : sm_gst S (sm_cx p) (sm_cy p) 1 (T t).1 with
      | true =>
        rw [hst] at e0
        rw [if_pos (show ¬ sm_b2 true = 0 by decide), if_pos (show (0 : Int32) = 0 from rfl), sm_let]
        exact no e0
      | false =>
        rw [hst] at e0
        rw [if_neg (show ¬ ¬ sm_b2 false = 0 from fun z => z rfl), hM.1, m_isHidden hM hp (by omega), sm_bi]
        cases hhd : sm_any n 0 (fun u => !(u == t) && sm_hdn T p t u) with
        | true =>
          rw [hhd] at e0
          rw [if_pos (show ¬ sm_b2 true = 0 by decide), if_pos (show (0 : Int32) = 0 from rfl), sm_let]
          exact no e0
        | false =>
          rw [hhd] at e0
          have e0 : g t = true := e0
          rw [if_neg (show ¬ ¬ sm_b2 false = 0 from fun z => z rfl), if_neg (show ¬ (1 : Int32) = 0 by decide), sm_let, sm_shl (by omega), sm_bor, show sm_n t + 1 = sm_n (t + 1) from sm_n_add t 1, ih]
          show _ = some (sm_n (sm_qs g l (t + 1) (if g t = true then b ||| 2 ^ t else b)), m)
          rw [e0, if_pos rfl]
theorem m_seenFrom {R : sm_rd} {F : sm_lf} {p : Nat} (hM : sm_M n T R S F m) (hp : p < 900) : ∃ r, sm_sw n T S 99 p r ∧ f_M_seenFrom (sm_n p) m = some (sm_n r, m) := by
  have hn := hM.2.1
  refine ⟨sm_qs (fun t => sm_vs n T S (sv_ow n 99) p t) n 0 0, ⟨sm_qs_lt _ _ _ _ (by omega) (by omega), fun u => ?_⟩, ?_⟩
  · rw [sm_qs_bit, Nat.zero_testBit, Bool.false_or]
    by_cases e : u < n
    · rw [decide_eq_true (show 0 ≤ u ∧ u < 0 + n by omega), decide_eq_true e]
      unfold sv_ow
      rw [decide_eq_true e, beq_eq_false_iff_ne.mpr (show u ≠ 99 by omega)]
      rfl
    · rw [decide_eq_false (show ¬ (0 ≤ u ∧ u < 0 + n) by omega), decide_eq_false e]
      rfl
  · exact m_sf4 hM hp _ (fun _ _ => rfl) n 0 gk_fv 0 (by omega) (by rw [gk_fv_eq]; omega)
theorem sm_sw_eq {W p r s : Nat} (h1 : sm_sw n T S W p r) (h2 : sm_sw n T S W p s) : r = s :=
  Nat.eq_of_testBit_eq (fun u => (h1.2 u).trans (h2.2 u).symm)
theorem sv_hdn_cg {TX TM : Nat → sm_tw} {p t u : Nat} (h1 : TX t = TM t) (h2 : TX u = TM u) : sm_hdn TX p t u = sm_hdn TM p t u := by
  unfold sm_hdn
  rw [h1, h2]
theorem sv_any_cg {TX TM : Nat → sm_tw} {O : Nat → Bool} {p t : Nat} (hT : ∀ t, t < n → O t = true → TX t = TM t) (ht : t < n) (hO : O t = true) : sm_any n 0 (fun u => O u && !(u == t) && sm_hdn TX p t u) = sm_any n 0 (fun u => O u && !(u == t) && sm_hdn TM p t u) := by
  refine sm_any_cg (fun u _ hu => ?_)
  show (O u && !(u == t) && sm_hdn TX p t u) = (O u && !(u == t) && sm_hdn TM p t u)
  cases h : O u with
  | false => rw [Bool.false_and, Bool.false_and, Bool.false_and]
  | true => rw [sv_hdn_cg (hT t ht hO) (hT u (by omega) h)]
theorem sm_vs_cg {TX TM : Nat → sm_tw} {O : Nat → Bool} {p t : Nat} (hT : ∀ t, t < n → O t = true → TX t = TM t) (ht : t < n) (hO : O t = true) : sm_vs n TX S O p t = sm_vs n TM S O p t := by
  unfold sm_vs
  rw [sv_any_cg hT ht hO, hT t ht hO]
theorem sm_sw_cg {TX TM : Nat → sm_tw} {W p r : Nat} (hT : ∀ t, t < n → t ≠ W → TX t = TM t) (h : sm_sw n TX S W p r) : sm_sw n TM S W p r := by
  have hO : ∀ t, sv_ow n W t = true → t ≠ W := by
    intro t ht
    unfold sv_ow at ht
    rw [Bool.and_eq_true, Bool.not_eq_true', beq_eq_false_iff_ne] at ht
    exact ht.2
  have key : ∀ u, (decide (u < n) && sv_ow n W u && sm_vs n TX S (sv_ow n W) p u) = (decide (u < n) && sv_ow n W u && sm_vs n TM S (sv_ow n W) p u) := by
    intro u
    by_cases e : u < n
    · cases hu : sv_ow n W u with
      | false => rw [Bool.and_false, Bool.false_and, Bool.false_and]
      | true => rw [sm_vs_cg (fun t ht hOt => hT t ht (hO t hOt)) e hu]
    · rw [decide_eq_false e, Bool.false_and, Bool.false_and, Bool.false_and]
  exact ⟨h.1, fun u => (h.2 u).trans (key u)⟩
end SEEN
theorem c_seen {mx mm : gk_M} (h : rl_ mx mm) (a : Int32) : sm_al2 mx mm (f_X_seen a mx) (f_M_seen a mm) := by
  obtain ⟨n, TX, TM, R, S, F, nb, hX, hM, hT, hP, hK, hS, hH, hB, hR, hD⟩ := id h
  have hn := hX.2.1
  unfold f_X_seen f_M_seen
  rw [x_isPoint, sm_bi, m_isPoint, sm_bi]
  rcases sm_u_cases a 900 (by omega) with ⟨e0, _⟩ | ⟨p, hp, rfl, e3⟩
  · rw [if_pos e0, if_pos e0]; exact sm_al_id h
  rw [e3, if_neg (show ¬ (1 : Int32) = 0 by decide), if_neg (show ¬ (1 : Int32) = 0 by decide)]
  obtain ⟨r, r1, r2⟩ := x_seenFrom (a2 := -1) (W := 99) hn hX.2.2.2.2.1 (fun s t hs ht hne _ _ => rl_dis hT s t hs ht hne) hX.1 hX.2.2.1 hp (fun j hj => ⟨fun z => absurd z (fun y => by rw [sm_nm1 (by omega)] at y; exact y), fun z => by omega⟩)
  obtain ⟨s, s1, s2⟩ := m_seenFrom hM hp
  rw [r2, s2, sm_bi, sm_bi, sm_sw_eq (sm_sw_cg (fun t ht _ => hT.1 t ht) r1) s1]
  exact sm_al_id h
