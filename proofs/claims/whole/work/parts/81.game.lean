/-! SIM: the game: who wins, the class -/
theorem sg_kz {cs c g : Nat} {C : Nat → Nat → Bool} {P : Nat} (hc : c < cs) (hP : ∀ u, P.testBit u = (decide (u < cs) && (u == c || C u c))) : P &&& g = 0 ↔ (!g.testBit c && !sm_any cs 0 (fun i => g.testBit i && !(i == c) && C i c)) = true := by
  constructor
  · intro hz
    have hb : ∀ u, (P.testBit u && g.testBit u) = false := by
      intro u
      rw [← Nat.testBit_and, hz, Nat.zero_testBit]
    rw [Bool.and_eq_true, Bool.not_eq_true', Bool.not_eq_true']
    constructor
    · have := hb c
      rw [hP, decide_eq_true hc] at this
      simpa using this
    · rw [Bool.eq_false_iff, ne_eq, sm_any_iff]
      rintro ⟨i, _, hi, h⟩
      have h : (g.testBit i && !(i == c) && C i c) = true := h
      rw [Bool.and_eq_true, Bool.and_eq_true] at h
      have := hb i
      rw [hP, decide_eq_true (show i < cs by omega), h.2, h.1.1] at this
      simp at this
  · intro h
    rw [Bool.and_eq_true, Bool.not_eq_true', Bool.not_eq_true'] at h
    apply Nat.eq_of_testBit_eq
    intro u
    rw [Nat.testBit_and, Nat.zero_testBit, hP]
    by_cases hu : u < cs
    · by_cases e : u = c
      · rw [e, h.1, Bool.and_false]
      · cases hC : C u c with
        | false => rw [beq_eq_false_iff_ne.mpr e]; simp
        | true =>
          cases hg : g.testBit u with
          | false => rw [Bool.and_false]
          | true =>
            refine absurd ?_ (Bool.eq_false_iff.mp h.2)
            rw [sm_any_iff]
            refine ⟨u, Nat.zero_le u, by omega, ?_⟩
            show (g.testBit u && !(u == c) && C u c) = true
            rw [hg, hC, beq_eq_false_iff_ne.mpr e]; rfl
    · rw [decide_eq_false hu, Bool.false_and, Bool.false_and]
def sg_o (p s : Nat) (o : Option Nat) : Int32 := match o with
  | none => -2
  | some c => sm_n (sg_g p s c)
def sg_w (b : Bool) : Int32 := if b = true then 1 else 2
theorem sg_N {p s : Nat} (h : sg_sq p s) : 2 ^ (s * s) ≤ 512 ∧ 16 ≤ 2 ^ (s * s) := by
  rcases h.2.1 with rfl | rfl <;> decide
theorem sg_orlt {cs g c : Nat} (hg : g < 2 ^ cs) (hc : c < cs) : g ||| 2 ^ c < 2 ^ cs := Nat.or_lt_two_pow hg (Nat.pow_lt_pow_right (by decide) hc)
section GW
variable {n : Nat} {T : Nat → sm_tw} {R : sm_rd} {S : sm_fs} {F : sm_lf} {h : Int32} {p s : Nat} {m0 m : gk_M}
theorem x_wc22 {o g : Nat} (hsq : sg_sq p s) (h4 : m.1 25 4 = sm_n s) (h5 : m.1 25 5 = sm_n o) (ho : o < 512) (hob : ∀ u, o.testBit u = (decide (u < s * s) && sg_op n T R S F h (sg_g p s u))) (hK : sg_KK (s * s) (sg_C R S F h p s) m) (hg : g < 2 ^ (s * s)) (tab : Nat → Bool) (htab : ∀ x, g < x → x < 2 ^ (s * s) → m.1 27 x = sm_b2 (tab x)) (ok : Nat → Bool) (hok : ∀ c, ok c = sg_ok (sg_may n T R S F h p s) tab g c) : ∀ l c fu, c + l = s * s → l < fu → f_Game_winningCell_22 fu (sm_n g) (sm_n c) m = some (sm_on (-2) (sm_f1 l c (sm_fi ok)), m)
  | 0, c, fu + 1, h1, h3 => by
    have h9 := sg_9 hsq
    unfold f_Game_winningCell_22
    rw [if_pos ((sg_ss hsq h4 (by omega)).mpr (by omega))]
    rfl
  | l + 1, c, fu + 1, h1, h3 => by
    have h9 := sg_9 hsq
    have hN := sg_N hsq
    have ih := x_wc22 hsq h4 h5 ho hob hK hg tab htab ok hok l (c + 1) fu (by omega) (by omega)
    have no : ok c = false → f_Game_winningCell_22 fu (sm_n g) (sm_n (c + 1)) m = some (sm_on (-2) (sm_f1 (l + 1) c (sm_fi ok)), m) := by
      intro e
      rw [sm_f1n (sm_fi0 e)]; exact ih
    obtain ⟨P, hP⟩ := hK
    obtain ⟨p1, p2, p3⟩ := hP c (by omega)
    have ok0 := hok c
    unfold sg_ok sg_may at ok0
    unfold f_Game_winningCell_22 f_Game_winningCell_61 f_Game_winningCell_62
    rw [if_neg (fun z => by have := (sg_ss hsq h4 (by omega)).mp z; omega), h5, sm_bit2 (by omega) (by omega), hob c, decide_eq_true (show c < s * s by omega), Bool.true_and, show sm_n c + 1 = sm_n (c + 1) from sm_n_add c 1]
    cases hop : sg_op n T R S F h (sg_g p s c) with
    | false =>
      rw [hop] at ok0
      rw [if_pos (show sm_b2 false = 0 from rfl), if_pos (show (0 : Int32) = 0 from rfl)]
      exact no (by rw [ok0]; simp)
    | true =>
      rw [hop] at ok0
      rw [if_neg (show ¬ sm_b2 true = 0 by decide), sm_ai (by omega) (by omega), p1, sm_band]
      have hle : P c &&& g ≤ P c := Nat.and_le_left
      by_cases hz : P c &&& g = 0
      · have hz2 := (sg_kz (C := sg_C R S F h p s) (show c < s * s by omega) p3).mp hz
        have hgc : g.testBit c = false := by
          rw [Bool.and_eq_true, Bool.not_eq_true'] at hz2
          exact hz2.1
        obtain ⟨q1, q2⟩ := sg_or ⟨g, by omega⟩ ⟨c, by omega⟩ hgc
        have hlt := sg_orlt hg (show c < s * s by omega)
        have q1 : g ||| 2 ^ c = g + 2 ^ c := q1
        have hpos : 0 < 2 ^ c := Nat.two_pow_pos c
        rw [if_neg (show ¬ ¬ sm_n (P c &&& g) = 0 by rw [hz]; exact fun z => z rfl), if_neg (show ¬ (1 : Int32) = 0 by decide), sm_shl (by omega), sm_bor, sm_ai (by omega) (by omega), htab _ (by omega) hlt]
        have ok1 : ok c = !tab (g ||| 2 ^ c) := by
          rw [ok0, Bool.true_and, hz2, Bool.true_and]
        cases ht : tab (g ||| 2 ^ c) with
        | true =>
          rw [if_pos (show ¬ sm_b2 true = 0 by decide)]
          exact no (by rw [ok1, ht]; rfl)
        | false =>
          rw [if_neg (show ¬ ¬ sm_b2 false = 0 from fun z => z rfl), sm_f1s (sm_fi1 (show ok c = true by rw [ok1, ht]; rfl))]
          rfl
      · have hz2 : (!g.testBit c && !sm_any (s * s) 0 (fun i => g.testBit i && !(i == c) && sg_C R S F h p s i c)) = false := by
          rw [Bool.eq_false_iff]
          exact fun z => hz ((sg_kz (C := sg_C R S F h p s) (show c < s * s by omega) p3).mpr z)
        rw [if_pos (show ¬ sm_n (P c &&& g) = 0 by rw [show (0 : Int32) = sm_n 0 from rfl, sm_neq (by omega) (by omega)]; exact hz), if_pos (show (0 : Int32) = 0 from rfl)]
        exact no (by rw [ok0, Bool.true_and, hz2, Bool.false_and])
theorem x_wc {o g : Nat} (hsq : sg_sq p s) (h75 : m.1 7 5 = sm_n n) (hn : n ≤ 10) (h4 : m.1 25 4 = sm_n s) (h5 : m.1 25 5 = sm_n o) (ho : o < 512) (hob : ∀ u, o.testBit u = (decide (u < s * s) && sg_op n T R S F h (sg_g p s u))) (hK : sg_KK (s * s) (sg_C R S F h p s) m) (hg : g < 2 ^ (s * s)) (tab : Nat → Bool) (htab : ∀ x, g < x → x < 2 ^ (s * s) → m.1 27 x = sm_b2 (tab x)) : f_Game_winningCell (sm_n g) m = some (sm_on (-2) (sg_1 (sg_may n T R S F h p s) n (s * s) tab g), m) := by
  have h9 := sg_9 hsq
  have hN := sg_N hsq
  have hb := sg_bc10 ⟨g, by omega⟩
  have hb : sg_bc g ≤ 9 := hb
  unfold f_Game_winningCell sg_1
  rw [show f_Integer_bitCount (sm_n g) m = some (sm_n (sg_bc g), m) from x_bitCount (n := 10) (Nat.le_refl 10) (show g < 2 ^ 10 by omega) (fun _ => 0) m, sm_bi, h75, sm_n_add]
  by_cases e : n + sg_bc g < 10
  · rw [if_pos (show sm_n (n + sg_bc g) < 10 by simp (disch := omega) only [sm_lit, sm_nlt, sm_nle, sm_neq, sm_n_add, sm_n_mul, sm_n_div, sm_n_rem, sm_bi, sm_bl, sm_bv, sm_let, sm_zz0, sm_zz1, sm_ai, sm_si, sm_al, sm_sl, sm_ar, sm_mi1, sm_mi0, sm_ml1, sm_ml0, sm_mil, sm_mli]; omega), if_pos e]
    exact x_wc22 hsq h4 h5 ho hob hK hg tab htab _ (fun _ => rfl) (s * s) 0 gk_fv (by omega) (by rw [gk_fv_eq]; omega)
  · rw [if_neg (show ¬ sm_n (n + sg_bc g) < 10 by simp (disch := omega) only [sm_lit, sm_nlt, sm_nle, sm_neq, sm_n_add, sm_n_mul, sm_n_div, sm_n_rem, sm_bi, sm_bl, sm_bv, sm_let, sm_zz0, sm_zz1, sm_ai, sm_si, sm_al, sm_sl, sm_ar, sm_mi1, sm_mi0, sm_ml1, sm_ml0, sm_mil, sm_mli]; omega), if_neg e]
    rfl
theorem sg_1_lt {may : Nat → Nat → Bool} {cs g c : Nat} {tab : Nat → Bool} (e : sg_1 may n cs tab g = some c) : c < cs := by
  unfold sg_1 at e
  split at e
  · have := (sg_f1_lt _ _ _ e).2.1
    omega
  · cases e
theorem x_fw16 {o : Nat} (hn : n ≤ 10) (hsq : sg_sq p s) (ho : o < 512) (hob : ∀ u, o.testBit u = (decide (u < s * s) && sg_op n T R S F h (sg_g p s u))) (tab : Nat → Nat → Bool) (ht : tab = sg_tab (sg_may n T R S F h p s) n (s * s) (2 ^ (s * s))) : ∀ (g l fu : Nat) (T' : Nat → sm_tw) (m : gk_M), g + l + 1 = 2 ^ (s * s) → g < fu → sg_SX n T R S F h p s m0 T' m → m.1 25 5 = sm_n o → sg_KK (s * s) (sg_C R S F h p s) m → (∀ x, g < x → x < 2 ^ (s * s) → m.1 27 x = sm_b2 (tab l x)) → ∃ T2 m', sg_SX n T R S F h p s m0 T2 m' ∧ f_Game_firstWinner_16 fu (sm_n g) m = some (sg_o p s (sg_1 (sg_may n T R S F h p s) n (s * s) (tab (2 ^ (s * s) - 1)) 0), m')
  | 0, l, fu + 1, T', m, h1, h3, hS, h5, hK, hw => by
    have hN := sg_N hsq
    have hl : l = 2 ^ (s * s) - 1 := by omega
    refine ⟨T', m, hS, ?_⟩
    unfold f_Game_firstWinner_16
    rw [if_pos (show sm_n 0 ≤ 0 by decide), show f_Game_winningCell 0 m = _ from x_wc (g := 0) hsq hS.1.1 hn hS.2.2.2.2.2.2 h5 ho hob hK (by omega) (tab l) hw, sm_bi, hl]
    rcases e : sg_1 (sg_may n T R S F h p s) n (s * s) (tab (2 ^ (s * s) - 1)) 0 with _ | c
    · rw [if_neg (show ¬ 0 ≤ sm_on (-2) none by decide)]
      rfl
    · have hc := sg_1_lt e
      have h9 := sg_9 hsq
      rw [if_pos (show 0 ≤ sm_on (-2) (some c) from sm_nn' (by omega)), show sm_on (-2) (some c) = sm_n c from rfl, sg_pt hsq hc hS.2.2.2.2.2.1 hS.2.2.2.2.2.2, sm_bi]
      rfl
  | g + 1, l, fu + 1, T', m, h1, h3, hS, h5, hK, hw => by
    have hN := sg_N hsq
    have e1 : sm_n (g + 1) + (-1) = sm_n g := by rw [sv_dn, sm_ni]; congr 1; omega
    have hat := sg_tab_at (sg_may n T R S F h p s) n (s * s) (2 ^ (s * s)) l
    rw [← ht, show 2 ^ (s * s) - 1 - l = g + 1 by omega] at hat
    unfold f_Game_firstWinner_16 f_Game_firstWinner_38
    rw [if_neg (show ¬ sm_n (g + 1) ≤ 0 by simp (disch := omega) only [sm_lit, sm_nlt, sm_nle, sm_neq, sm_n_add, sm_n_mul, sm_n_div, sm_n_rem, sm_bi, sm_bl, sm_bv, sm_let, sm_zz0, sm_zz1, sm_ai, sm_si, sm_al, sm_sl, sm_ar, sm_mi1, sm_mi0, sm_ml1, sm_ml0, sm_mil, sm_mli]; omega), x_wc (g := g + 1) hsq hS.1.1 hn hS.2.2.2.2.2.2 h5 ho hob hK (by omega) (tab l) hw, sm_bi, e1, sm_zz0, sm_zz1, sm_si (by omega) (by omega), sm_si (by omega) (by omega)]
    have go : ∀ v, v = sm_b2 (tab (l + 1) (g + 1)) → ∃ T2 m', sg_SX n T R S F h p s m0 T2 m' ∧ f_Game_firstWinner_16 fu (sm_n g) (gk_mi m 27 (g + 1) v) = some (sg_o p s (sg_1 (sg_may n T R S F h p s) n (s * s) (tab (2 ^ (s * s) - 1)) 0), m') := by
      intro v hv
      refine x_fw16 hn hsq ho hob tab ht g (l + 1) fu T' _ (by omega) (by omega) (sg_SX_w hS (Or.inr (Or.inr rfl))) ((sm_mi0 (by omega)).trans h5) ?_ ?_
      · obtain ⟨P, hP⟩ := hK
        exact ⟨P, fun j hj => by rw [sm_mi0 (by omega)]; exact hP j hj⟩
      · intro x hx1 hx2
        by_cases z : x = g + 1
        · rw [z, sm_mi1, hv]
        · have := sg_tab_ne (sg_may n T R S F h p s) n (s * s) (2 ^ (s * s)) l (g := x) (by omega)
          rw [← ht] at this
          rw [sm_mi0 (fun y => z y.2), this]
          exact hw x (by omega) hx2
    rcases e : sg_1 (sg_may n T R S F h p s) n (s * s) (tab l) (g + 1) with _ | c
    · rw [if_pos (show sm_on (-2) none < 0 by decide)]
      refine go 0 ?_
      rw [hat, e]; rfl
    · have hc := sg_1_lt e
      have h9 := sg_9 hsq
      rw [if_neg (show ¬ sm_on (-2) (some c) < 0 from sm_nn (by omega))]
      refine go 1 ?_
      rw [hat, e]; rfl
/-- the class's game -/
theorem x_play (hX : sm_X n T R S F m) (hsq : sg_sq p s) : ∃ m1 m2 m3 T3, f_Game_layOut (sm_n p) (sm_n s) h m = some ((), m1) ∧ f_Game_findClashes m1 = some ((), m2) ∧ f_Game_firstWinner m2 = some (sg_o p s (sg_1 (sg_may n T R S F h p s) n (s * s) (sg_tab (sg_may n T R S F h p s) n (s * s) (2 ^ (s * s)) (2 ^ (s * s) - 1)) 0), m3) ∧ sg_SX n T R S F h p s m T3 m3 := by
  have hn := hX.2.1
  have h9 := sg_9 hsq
  have hN := sg_N hsq
  obtain ⟨T1, m1, o, s1, ho, hob, h5, e1⟩ := x_layOut (h := h) hX hsq
  obtain ⟨T2, m2, s2, h5', hK, e2⟩ := x_findClashes hn hsq s1 h5
  obtain ⟨T3, m3, s3, e3⟩ := x_fw16 hn hsq ho hob _ rfl (2 ^ (s * s) - 1) 0 gk_fv T2 m2 (by omega) (by rw [gk_fv_eq]; omega) s2 h5' hK (fun x hx1 hx2 => by omega)
  refine ⟨m1, m2, m3, T3, e1, e2, ?_, s3⟩
  unfold f_Game_firstWinner
  rw [sm_let, sm_let, s2.2.2.2.2.2.2, sm_n_mul, sm_shl (by omega), show sm_n (2 ^ (s * s)) - 1 = sm_n (2 ^ (s * s) - 1) from sm_n_sub (b := 1) (by omega)]
  exact e3
end GW
