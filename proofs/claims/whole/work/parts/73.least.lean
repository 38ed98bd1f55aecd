/-! SIM: the least set, in the class -/
def sm_xb (o : Option (Nat × Nat)) : Int32 := match o with
  | none => 0
  | some q => sm_n q.1
theorem x_ls {m : gk_M} {n w N : Nat} {P p : Nat → Nat} (h5 : m.1 7 5 = sm_n n) (hn : n ≤ 10) (hN : N = 2 ^ n) (hN2 : N ≤ 1024) (hw : w < 2) (hP : sm_rw 22 P m) (hp : ∀ t, t < n → m.1 11 t = sm_n (p t)) (W : Nat → Nat) (hW : ∀ g, W g = sm_sum n 0 (sm_pr p w g)) (hb : ∀ g, W g ≤ 1000) : ∀ l g fu o, g + l = N → l < fu → (∀ q, o = some q → q.2 ≤ 1000) → f_Planner_leastToGo_8 fu (sm_n w) (sm_xb o) (sm_n (sm_b2o o)) (sm_n g) m = some (sm_xb (sm_bb (sm_pe n P) W l g o), m)
  | 0, g, fu + 1, o, h1, h3, ho => by
    unfold f_Planner_leastToGo_8
    rw [h5, sm_shl (by omega), ← hN, if_pos (show sm_n N ≤ sm_n g by rw [sm_nle (by omega) (by omega)]; omega)]
    rfl
  | l + 1, g, fu + 1, o, h1, h3, ho => by
    have hbg := hb g
    have ih := fun o' h' => x_ls h5 hn hN hN2 hw hP hp W hW hb l (g + 1) fu o' (by omega) (by omega) h'
    have ho2 : sm_b2o o < 2147483648 := by
      cases o with
      | none => show 1000000 < 2147483648; omega
      | some q => have := ho q rfl; show q.2 < 2147483648; omega
    have e40 : f_Planner_leastToGo_40 (f_Planner_leastToGo_8 fu) (sm_n w) (sm_xb o) (sm_n (sm_b2o o)) (sm_n g) (sm_n (W g)) m = some (sm_xb (sm_bb (sm_pe n P) W l (g + 1) (sm_bs (sm_pe n P) W g o)), m) := by
      unfold f_Planner_leastToGo_40
      rw [x_leavesPeace h5 hn (by omega) hP, sm_bi, show sm_n g + 1 = sm_n (g + 1) from sm_n_add g 1]
      by_cases hlt : W g < sm_b2o o
      · rw [if_neg (show ¬ sm_n (sm_b2o o) ≤ sm_n (W g) by rw [sm_nle (by omega) (by omega)]; omega)]
        cases hc : sm_pe n P g with
        | false =>
          rw [if_pos (show sm_b2 false = 0 from rfl), sm_bs_no hc]
          exact ih o ho
        | true =>
          have eo : sm_bs (sm_pe n P) W g o = some (g, W g) := by
            cases o with
            | none => exact sm_bs_none hc
            | some q => exact sm_bs_lt hc hlt
          rw [if_neg (show ¬ sm_b2 true = 0 by decide), eo]
          exact ih (some (g, W g)) (fun q hq => by cases hq; exact hbg)
      · rw [if_pos (show sm_n (sm_b2o o) ≤ sm_n (W g) by rw [sm_nle (by omega) (by omega)]; omega)]
        have eo : sm_bs (sm_pe n P) W g o = o := by
          cases o with
          | none => exact absurd (Nat.lt_of_le_of_lt hbg (by decide : 1000 < 1000000)) hlt
          | some q => exact sm_bs_ge hlt
        rw [eo]
        exact ih o ho
    unfold f_Planner_leastToGo_8
    unfold sm_bb
    rw [h5, sm_shl (by omega), ← hN, if_neg (show ¬ sm_n N ≤ sm_n g by rw [sm_nle (by omega) (by omega)]; omega)]
    by_cases hw0 : w = 0
    · rw [if_pos (show sm_n w = 0 by rw [hw0]; rfl), x_bitCount hn (show g < 2 ^ n by omega) p m, sm_bi, ← e40, hW g, hw0]
    · have hw1 : w = 1 := by omega
      have e := x_priceOf4 h5 hn (show g < 1024 by omega) hp n 0 gk_fv 0 (by omega) (by rw [gk_fv_eq]; omega)
      unfold f_Planner_priceOf
      rw [if_neg (sm_w0 hw hw0), show f_Planner_priceOf_4 gk_fv (sm_n g) 0 0 m = _ from e, sm_bi, ← e40, hW g, hw1, Nat.zero_add]
