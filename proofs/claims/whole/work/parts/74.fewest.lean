/-! SIM: the least set, in the reference; fewest, cheapest -/
def sm_lb (o : Option (Nat × Nat)) : Int32 := match o with
  | none => -1
  | some q => sm_n q.1
theorem m_priceOf {m : gk_M} {n g w : Nat} {p W : Nat → Nat} (h5 : m.1 0 6 = sm_n n) (hn : n ≤ 10) (hg : g < 1024) (hw : w < 2) (hp : ∀ t, t < n → m.1 1 (10 + t) = sm_n (p t)) (hW : ∀ g, W g = sm_sum n 0 (sm_pr p w g)) : f_M_priceOf (sm_n g) (sm_n (1 - w)) m = some (sm_n (W g), m) := by
  have e := m_priceOf5 h5 hn hg hw hp n 0 gk_fv 0 (by omega) (by rw [gk_fv_eq]; omega)
  rw [Nat.zero_add] at e
  rw [hW g]
  exact e
theorem m_ls {m : gk_M} {n w N : Nat} {P p : Nat → Nat} (h5 : m.1 0 6 = sm_n n) (hn : n ≤ 10) (hN : N = 2 ^ n) (hN2 : N ≤ 1024) (hw : w < 2) (hP : sm_rw 14 P m) (hp : ∀ t, t < n → m.1 1 (10 + t) = sm_n (p t)) (W : Nat → Nat) (hW : ∀ g, W g = sm_sum n 0 (sm_pr p w g)) (hb : ∀ g, W g ≤ 1000) : ∀ l g fu o, g + l = N → l < fu → (∀ q, o = some q → q.1 < N ∧ q.2 = W q.1) → f_M_leastSet_8 fu (sm_n (1 - w)) (sm_lb o) (sm_n g) m = some (sm_lb (sm_bb (sm_pe n P) W l g o), m)
  | 0, g, fu + 1, o, h1, h3, ho => by
    unfold f_M_leastSet_8
    rw [h5, sm_shl (by omega), ← hN, if_pos (show sm_n N ≤ sm_n g by rw [sm_nle (by omega) (by omega)]; omega)]
    rfl
  | l + 1, g, fu + 1, o, h1, h3, ho => by
    have hbg := hb g
    have ih := fun o' h' => m_ls h5 hn hN hN2 hw hP hp W hW hb l (g + 1) fu o' (by omega) (by omega) h'
    unfold f_M_leastSet_8 f_M_leastSet_45
    unfold sm_bb
    rw [h5, sm_shl (by omega), ← hN, if_neg (show ¬ sm_n N ≤ sm_n g by rw [sm_nle (by omega) (by omega)]; omega), m_isLawfulWithout h5 hn (by omega) hP, sm_bi, show sm_n g + 1 = sm_n (g + 1) from sm_n_add g 1]
    cases hc : sm_pe n P g with
    | false =>
      rw [if_pos (show sm_b2 false = 0 from rfl), sm_bs_no hc]
      exact ih o ho
    | true =>
      rw [if_neg (show ¬ sm_b2 true = 0 by decide)]
      cases o with
      | none =>
        rw [if_pos (show sm_lb none < 0 by decide), sm_bs_none hc]
        exact ih (some (g, W g)) (fun q hq => by cases hq; exact ⟨by omega, rfl⟩)
      | some q =>
        obtain ⟨hq1, hq2⟩ := ho q rfl
        have hbq := hb q.1
        rw [if_neg (show ¬ sm_lb (some q) < 0 from sm_nn (by omega)), m_priceOf h5 hn (show g < 1024 by omega) hw hp hW, sm_bi, show sm_lb (some q) = sm_n q.1 from rfl, m_priceOf h5 hn (show q.1 < 1024 by omega) hw hp hW, sm_bi]
        by_cases hlt : W g < q.2
        · rw [if_neg (show ¬ sm_n (W q.1) ≤ sm_n (W g) by rw [sm_nle (by omega) (by omega)]; omega), sm_bs_lt hc hlt]
          exact ih (some (g, W g)) (fun r hr => by cases hr; exact ⟨by omega, rfl⟩)
        · rw [if_pos (show sm_n (W q.1) ≤ sm_n (W g) by rw [sm_nle (by omega) (by omega)]; omega), sm_bs_ge hlt]
          exact ih (some q) ho
theorem sm_bb_in (ok : Nat → Bool) (W : Nat → Nat) (N : Nat) : ∀ l p o q, p + l ≤ N → (∀ r, o = some r → r.1 < N) → sm_bb ok W l p o = some q → q.1 < N
  | 0, p, o, q, _, ho, h => ho q h
  | l + 1, p, o, q, hl, ho, h => by
    unfold sm_bb at h
    refine sm_bb_in ok W N l (p + 1) _ q (by omega) ?_ h
    intro r hr
    cases o with
    | none =>
      by_cases hk : ok p = true
      · rw [sm_bs_none hk] at hr; cases hr; show p < N; omega
      · rw [sm_bs_no (by simpa using hk)] at hr; cases hr
    | some s =>
      by_cases hw : W p < s.2
      · by_cases hk : ok p = true
        · rw [sm_bs_lt hk hw] at hr; cases hr; show p < N; omega
        · rw [sm_bs_no (by simpa using hk)] at hr; exact ho r hr
      · rw [sm_bs_ge hw] at hr; exact ho r hr
theorem rl_prf {n : Nat} {mx mm : gk_M} (H : rl_pr n mx mm) : ∃ p : Nat → Nat, ∀ t, t < n → p t ≤ 99 ∧ mx.1 11 t = sm_n (p t) ∧ mm.1 1 (10 + t) = sm_n (p t) := by
  refine ⟨fun t => if ht : t < n then (H t ht).choose else 0, fun t ht => ?_⟩
  have e := (H t ht).choose_spec
  simp only [dif_pos ht]
  exact e
theorem sm_ag_cg {n : Nat} {TX TM : Nat → sm_tw} {s t : Nat} (hT : ∀ t, t < n → TX t = TM t) (R : sm_rd) (S : sm_fs) (F : sm_lf) (hs : s < n) (ht : t < n) : sm_ag TX R S F s t = sm_ag TM R S F s t := by
  unfold sm_ag sm_gs
  rw [hT s hs, hT t ht]
/-- what both sides find: the least set -/
theorem c_least {mx mm : gk_M} {n nb w : Nat} {TX TM : Nat → sm_tw} {R : sm_rd} {S : sm_fs} {F : sm_lf} (hw : w < 2) (hX : sm_X n TX R S F mx) (hM : sm_M n TM R S F mm) (hT : rl_T n TX TM) (hP : rl_pr n mx mm) (hK : rl_tape mx mm) (hS : rl_sight mx mm) (hH : rl_hist n mx mm) (hB : rl_body nb mx mm) (hR : rl_tr mx mm) (hD : rl_sh nb mx mm) : ∃ q mx' mm' m1, q < 1024 ∧ f_Planner_findQuarrels mx = some ((), m1) ∧ f_Planner_leastToGo (sm_n w) m1 = some (sm_n q, mx') ∧ f_M_leastSet (sm_n (1 - w)) mm = some (sm_n q, mm') ∧ rl_ mx' mm' ∧ (∃ W : Nat → Nat, ∃ v, f_Planner_priceOf (sm_n q) mx' = some (v, mx') ∧ f_M_priceOf (sm_n q) 0 mm' = some (v, mm')) := by
  have hn := hX.2.1
  have hd := rl_dis hT
  obtain ⟨p, hp⟩ := rl_prf hP
  obtain ⟨m1, e1, q1, P1⟩ := x_findQuarrels hd hX
  obtain ⟨m2, A, e2, q2, P2, hA⟩ := m_findAgainst hM
  have x5 := q1.1.1
  have m5 := q2.1.1
  have px : ∀ t, t < n → m1.1 11 t = sm_n (p t) := fun t ht => (q1.2.1 11 t (by decide) (by decide) (by decide) (by decide)).trans (hp t ht).2.1
  have pm : ∀ t, t < n → m2.1 1 (10 + t) = sm_n (p t) := fun t ht => (q2.2.1 1 (10 + t) (by decide) (by omega) (by decide)).trans (hp t ht).2.2
  have hN2 : 2 ^ n ≤ 1024 := Nat.pow_le_pow_right (n := 2) (i := n) (j := 10) (by decide) hn
  have hWb : ∀ w g, sm_sum n 0 (sm_pr p w g) ≤ 1000 := by
    intro w g
    have := sm_sum_le (f := sm_pr p w g) (b := 99) (l := n) (i := 0) (fun j _ hj => by
      have := (hp j (by omega)).1
      unfold sm_pr
      split
      · split
        · omega
        · omega
      · omega)
    omega
  have hA2 : ∀ t, t < n → A t = sm_qs (sm_ga' TX R S F t) n 0 0 := by
    intro t ht
    rw [hA t ht]
    apply Nat.eq_of_testBit_eq
    intro u
    rw [Bool.eq_iff_iff, sm_A_bit, sm_A_bit]
    constructor
    · rintro ⟨a, b, c⟩; exact ⟨a, b, by rw [sm_ag_cg hT.1 R S F ht b]; exact c⟩
    · rintro ⟨a, b, c⟩; exact ⟨a, b, by rw [← sm_ag_cg hT.1 R S F ht b]; exact c⟩
  have hpe : sm_pe n (sm_Qr n TX R S F) = sm_pe n A := funext fun g => sm_pe_eq hn hd hA2
  have ls := x_ls x5 hn rfl hN2 hw P1 px (fun g => sm_sum n 0 (sm_pr p w g)) (fun _ => rfl) (hWb w) (2 ^ n) 0 gk_fv none (by omega) (by rw [gk_fv_eq]; omega) (fun q hq => by cases hq)
  have lm := m_ls m5 hn rfl hN2 hw P2 pm (fun g => sm_sum n 0 (sm_pr p w g)) (fun _ => rfl) (hWb w) (2 ^ n) 0 gk_fv none (by omega) (by rw [gk_fv_eq]; omega) (fun q hq => by cases hq)
  rw [hpe] at ls
  obtain ⟨o, ho⟩ : ∃ o, o = sm_bb (sm_pe n A) (fun g => sm_sum n 0 (sm_pr p w g)) (2 ^ n) 0 none := ⟨_, rfl⟩
  rw [← ho] at ls lm
  have hpos : 0 < 2 ^ n := Nat.two_pow_pos n
  have hex : o ≠ none := by
    rw [ho]
    refine sm_bb_some _ _ _ _ _ (Or.inr ⟨2 ^ n - 1, Nat.zero_le _, by omega, ?_⟩)
    rw [← hpe, sm_pe_iff (fun t _ => sm_Qr_lt hn TX R S F t)]
    intro t ht hh
    exact absurd (by rw [Nat.testBit_two_pow_sub_one]; exact decide_eq_true ht) hh
  have hlt : ∀ q, o = some q → q.1 < 2 ^ n := fun q hq => sm_bb_in _ _ _ (2 ^ n) 0 none q (by omega) (fun r hr => by cases hr) (by rw [← ho]; exact hq)
  cases o with
  | none => exact absurd rfl hex
  | some q =>
    have hq := hlt q rfl
    refine ⟨q.1, m1, m2, m1, by omega, e1, ls, ?_, ?_, ?_⟩
    · unfold f_M_leastSet
      rw [e2, sm_bv]
      exact lm
    · refine rl_q2 q1.1 ?_ ?_ ?_ ?_ q1.2.2 q2.1 ?_ ?_ ?_ ?_ ?_ hT hP hK hS hH hB hR hD
      · intro j; exact q1.2.1 4 j (by decide) (by decide) (by decide) (by decide)
      · intro j; exact q1.2.1 6 j (by decide) (by decide) (by decide) (by decide)
      · intro j _; exact q1.2.1 11 j (by decide) (by decide) (by decide) (by decide)
      · intro k j hk _; exact q1.2.1 k j (by omega) (by omega) (by omega) (by omega)
      · intro j hj
        refine q2.2.1 0 j (by decide) ?_ (by decide)
        simp only [List.mem_cons, List.not_mem_nil, or_false] at hj
        omega
      · intro k j h1 h2; exact q2.2.1 k j (by omega) (by omega) (by omega)
      · intro j; exact q2.2.1 11 j (by decide) (by omega) (by decide)
      · intro k j hk; exact q2.2.1 k j (by omega) (by omega) (by omega)
      · intro j; exact q2.2.2 25 j (by omega)
    · have ex := x_priceOf4 x5 hn (show q.1 < 1024 by omega) px n 0 gk_fv 0 (by omega) (by rw [gk_fv_eq]; omega)
      have em := m_priceOf (w := 1) m5 hn (show q.1 < 1024 by omega) (by omega) pm (fun _ => rfl)
      rw [Nat.zero_add] at ex
      exact ⟨fun _ => 0, _, ex, em⟩
theorem c_fewest {mx mm : gk_M} (h : rl_ mx mm) : sm_al2 mx mm (f_X_fewest mx) (f_M_fewest mm) := by
  obtain ⟨n, TX, TM, R, S, F, nb, hX, hM, hT, hP, hK, hS, hH, hB, hR, hD⟩ := id h
  obtain ⟨q, mx', mm', m1, hq, e1, e2, e3, h', -⟩ := c_least (w := 0) (by omega) hX hM hT hP hK hS hH hB hR hD
  unfold f_X_fewest f_M_fewest
  rw [e1, sm_bv, show (0 : Int32) = sm_n 0 from rfl, e2, sm_bi, show (1 : Int32) = sm_n (1 - 0) from rfl, e3, sm_bi]
  exact ⟨_, _, _, rfl, rfl, h'⟩
theorem c_cheapest {mx mm : gk_M} (h : rl_ mx mm) (a : Int32) : sm_al2 mx mm (f_X_cheapest a mx) (f_M_cheapest a mm) := by
  obtain ⟨n, TX, TM, R, S, F, nb, hX, hM, hT, hP, hK, hS, hH, hB, hR, hD⟩ := id h
  obtain ⟨q, mx', mm', m1, hq, e1, e2, e3, h', -, v, e4, e5⟩ := c_least (w := 1) (by omega) hX hM hT hP hK hS hH hB hR hD
  unfold f_X_cheapest f_M_cheapest
  rw [show f_X_isChoice a 1 mx = _ from x_isChoice (l := 1) a (by omega) mx, sm_bi, m_within (h := 2) (hi := 1) (by omega) rfl, sm_bi]
  rcases sm_u_cases a 2 (by omega) with ⟨e0, _⟩ | ⟨w, hw, rfl, e3'⟩
  · rw [if_neg (fun z => z e0), if_neg (fun z => z e0)]; exact sm_al_id h
  rw [if_pos (show ¬ sm_u (sm_n w) (1 + 1) = 0 by rw [e3']; decide), if_pos (show ¬ sm_u (sm_n w) 2 = 0 by rw [e3']; decide), e1, sm_bv, show f_Planner_leastToGo 1 m1 = _ from e2, sm_bi, show f_M_leastSet 0 mm = _ from e3, sm_bi]
  by_cases hw0 : w = 0
  · subst hw0
    rw [if_neg (show ¬ ¬ sm_n 0 = 0 from fun z => z rfl), if_neg (show ¬ ¬ sm_n 0 = 0 from fun z => z rfl)]
    exact ⟨_, _, _, rfl, rfl, h'⟩
  · rw [if_pos (sm_w0 hw hw0), if_pos (sm_w0 hw hw0), e4, sm_bi, e5, sm_bi]
    exact ⟨_, _, _, rfl, rfl, h'⟩
