/-! SIM: the game: the square, on numbers -/
def sg_bc (g : Nat) : Nat := sm_sum 10 0 (sm_pr (fun _ => 0) 0 g)
theorem sg_or : ∀ g : Fin 512, ∀ j : Fin 9, g.1.testBit j.1 = false → g.1 ||| 2 ^ j.1 = g.1 + 2 ^ j.1 ∧ sg_bc (g.1 ||| 2 ^ j.1) = sg_bc g.1 + 1 := by decide +kernel
theorem sg_low : ∀ g : Fin 512, g.1 ≠ 0 → sm_n g.1 &&& (sm_n g.1 - 1) = sm_n (g.1 &&& (g.1 - 1)) ∧ g.1 &&& (g.1 - 1) < g.1 ∧ sg_bc (g.1 &&& (g.1 - 1)) + 1 = sg_bc g.1 := by decide +kernel
theorem sg_bc0 : sg_bc 0 = 0 := by decide
theorem sg_bc10 : ∀ g : Fin 512, sg_bc g.1 ≤ 9 := by decide +kernel
def sg_g (p s c : Nat) : Nat := p + 30 * (c / s) + c % s
def sg_sq (p s : Nat) : Prop := p < 900 ∧ (s = 2 ∨ s = 3) ∧ p % 30 + s ≤ 30 ∧ p / 30 + s ≤ 30
theorem sg_glt {p s c : Nat} (h : sg_sq p s) (hc : c < s * s) : sg_g p s c < 900 := by
  obtain ⟨h1, h2, h3, h4⟩ := h
  unfold sg_g
  rcases h2 with rfl | rfl <;> omega
theorem sg_inj {p s c d : Nat} (h : sg_sq p s) (hc : c < s * s) (hd : d < s * s) (hne : c ≠ d) : sg_g p s c ≠ sg_g p s d := by
  obtain ⟨h1, h2, h3, h4⟩ := h
  unfold sg_g
  rcases h2 with rfl | rfl <;> omega
theorem sg_9 {p s : Nat} (h : sg_sq p s) : s * s ≤ 9 ∧ 4 ≤ s * s := by
  rcases h.2.1 with rfl | rfl <;> omega
/-- a tower of the game -/
def sg_A (h : Int32) (q : Nat) : sm_tw := (q, h, 0, 10)
def sg_ag (R : sm_rd) (f : Nat → Nat → Bool) : Bool := sm_any R.1 0 (fun r => sm_any (R.2.1 r - 1) 0 (fun i => f r i))
def sg_gg (R : sm_rd) (S : sm_fs) (F : sm_lf) (A B : sm_tw) : Bool := sg_ag R (fun r i => sm_gl S F A B r (R.2.2 r i) (R.2.2 r (i + 1)))
theorem sg_ag_iff {R : sm_rd} {f : Nat → Nat → Bool} : sg_ag R f = true ↔ ∃ r i, r < R.1 ∧ i < R.2.1 r - 1 ∧ f r i = true := by
  unfold sg_ag
  rw [sm_any_iff]
  constructor
  · rintro ⟨r, _, h1, h2⟩
    obtain ⟨i, _, h3, h4⟩ := sm_any_iff.mp h2
    exact ⟨r, i, by omega, by omega, h4⟩
  · rintro ⟨r, i, h1, h2, h3⟩
    exact ⟨r, Nat.zero_le r, by omega, sm_any_iff.mpr ⟨i, Nat.zero_le i, by omega, h3⟩⟩
/-- open to the game's towers -/
def sg_op (n : Nat) (T : Nat → sm_tw) (R : sm_rd) (S : sm_fs) (F : sm_lf) (h : Int32) (q : Nat) : Bool := !sm_has n T q && (!sm_hc R q && !sm_any n 0 (fun t => sg_gg R S F (T t) (sg_A h q)))
def sg_C (R : sm_rd) (S : sm_fs) (F : sm_lf) (h : Int32) (p s i j : Nat) : Bool := sg_gg R S F (sg_A h (sg_g p s i)) (sg_A h (sg_g p s j))
theorem sg_gg_sym {R : sm_rd} {S : sm_fs} {F : sm_lf} {A B : sm_tw} (hne : A.1 ≠ B.1) : sg_gg R S F A B = sg_gg R S F B A := by
  unfold sg_gg sg_ag
  exact sm_any_cg (fun r _ _ => sm_any_cg (fun i _ _ => sm_gl_sym hne))
theorem sg_C_sym {R : sm_rd} {S : sm_fs} {F : sm_lf} {h : Int32} {p s i j : Nat} (hq : sg_sq p s) (hi : i < s * s) (hj : j < s * s) (hne : i ≠ j) : sg_C R S F h p s i j = sg_C R S F h p s j i :=
  sg_gg_sym (sg_inj hq hi hj hne)
theorem sg_ng_any {n : Nat} {T : Nat → sm_tw} {R : sm_rd} {S : sm_fs} {F : sm_lf} {s : Nat} : sm_ng n T R S F s = sm_any n 0 (fun t => sg_gg R S F (T t) (T s)) := by
  rw [Bool.eq_iff_iff]
  unfold sm_ng
  rw [sm_any_iff, sm_any_iff]
  constructor
  · rintro ⟨r, r1, r2, h⟩
    obtain ⟨i, i1, i2, h⟩ := sm_any_iff.mp h
    obtain ⟨t, t1, t2, h⟩ := sm_any_iff.mp h
    exact ⟨t, t1, t2, sg_ag_iff.mpr ⟨r, i, by omega, by omega, h⟩⟩
  · rintro ⟨t, t1, t2, h⟩
    obtain ⟨r, i, r2, i2, h⟩ := sg_ag_iff.mp h
    exact ⟨r, Nat.zero_le r, by omega, sm_any_iff.mpr ⟨i, Nat.zero_le i, by omega, sm_any_iff.mpr ⟨t, t1, t2, h⟩⟩⟩
theorem sg_op_x {n : Nat} {T T' : Nat → sm_tw} {R : sm_rd} {S : sm_fs} {F : sm_lf} {h : Int32} {q s : Nat} (hT : ∀ t, t < n → T' t = T t) (hs : (T' s).2 = (h, 0, 10)) (hns : n ≤ s) : sm_free n T' R S F s q = sg_op n T R S F h q := by
  unfold sm_free sg_op
  have e1 : sm_has n T' q = sm_has n T q := by
    unfold sm_has
    exact sm_any_cg (fun t _ ht => by rw [hT t (by omega)])
  have e2 : sm_ng n (sm_tp T' s q) R S F s = sm_any n 0 (fun t => sg_gg R S F (T t) (sg_A h q)) := by
    rw [sg_ng_any]
    refine sm_any_cg (fun t _ ht => ?_)
    rw [sm_tp_lt (show t ≠ s by omega), sm_tp_at, hT t (by omega), hs]
    rfl
  rw [e1, e2]
/-! who wins -/
def sg_may (n : Nat) (T : Nat → sm_tw) (R : sm_rd) (S : sm_fs) (F : sm_lf) (h : Int32) (p s g j : Nat) : Bool := sg_op n T R S F h (sg_g p s j) && !g.testBit j && !sm_any (s * s) 0 (fun i => g.testBit i && !(i == j) && sg_C R S F h p s i j)
def sg_ok (may : Nat → Nat → Bool) (tab : Nat → Bool) (g c : Nat) : Bool := may g c && !tab (g ||| 2 ^ c)
def sg_1 (may : Nat → Nat → Bool) (n cs : Nat) (tab : Nat → Bool) (g : Nat) : Option Nat := if n + sg_bc g < 10 then sm_f1 cs 0 (sm_fi (sg_ok may tab g)) else none
def sg_tab (may : Nat → Nat → Bool) (n cs N : Nat) : Nat → (Nat → Bool)
  | 0 => fun _ => false
  | l + 1 => fun g => if g = N - 1 - l then (sg_1 may n cs (sg_tab may n cs N l) g).isSome else sg_tab may n cs N l g
theorem sg_tab_at (may : Nat → Nat → Bool) (n cs N l : Nat) : sg_tab may n cs N (l + 1) (N - 1 - l) = (sg_1 may n cs (sg_tab may n cs N l) (N - 1 - l)).isSome := if_pos rfl
theorem sg_tab_ne (may : Nat → Nat → Bool) (n cs N l : Nat) {g : Nat} (h : g ≠ N - 1 - l) : sg_tab may n cs N (l + 1) g = sg_tab may n cs N l g := if_neg h
theorem sg_f1_lt {f : Nat → Bool} : ∀ l i q, sm_f1 l i (sm_fi f) = some q → i ≤ q ∧ q < i + l ∧ f q = true
  | 0, i, q, h => by cases h
  | l + 1, i, q, h => by
    cases hc : f i with
    | true =>
      rw [sm_f1s (sm_fi1 hc)] at h
      cases h
      exact ⟨Nat.le_refl _, by omega, hc⟩
    | false =>
      rw [sm_f1n (sm_fi0 hc)] at h
      obtain ⟨a, b, c⟩ := sg_f1_lt l (i + 1) q h
      exact ⟨by omega, by omega, c⟩
/-! SIM: the game in the class -/
def sg_fx (n : Nat) (m0 m : gk_M) : Prop := (∀ j, m.1 4 j = m0.1 4 j) ∧ (∀ j, m.1 6 j = m0.1 6 j) ∧ (∀ j, j < n → m.1 11 j = m0.1 11 j) ∧ (∀ k j, 28 ≤ k → k ≠ 31 → m.1 k j = m0.1 k j) ∧ m.2 = m0.2
theorem sg_fx_tr {n : Nat} {m0 m m' : gk_M} (h : sg_fx n m0 m) (h1 : ∀ k j, k ≠ 3 → k ≠ 8 → k ≠ 9 → k ≠ 19 → k ≠ 20 → k ≠ 25 → k ≠ 26 → k ≠ 27 → m'.1 k j = m.1 k j) (h2 : m'.2 = m.2) : sg_fx n m0 m' :=
  ⟨fun j => (h1 4 j (by decide) (by decide) (by decide) (by decide) (by decide) (by decide) (by decide) (by decide)).trans (h.1 j), fun j => (h1 6 j (by decide) (by decide) (by decide) (by decide) (by decide) (by decide) (by decide) (by decide)).trans (h.2.1 j), fun j hj => (h1 11 j (by decide) (by decide) (by decide) (by decide) (by decide) (by decide) (by decide) (by decide)).trans (h.2.2.1 j hj), fun k j hk hk2 => (h1 k j (by omega) (by omega) (by omega) (by omega) (by omega) (by omega) (by omega) (by omega)).trans (h.2.2.2.1 k j hk hk2), h2.trans h.2.2.2.2⟩
/-- the class's memory in a game -/
def sg_SX (n : Nat) (T : Nat → sm_tw) (R : sm_rd) (S : sm_fs) (F : sm_lf) (h : Int32) (p s : Nat) (m0 : gk_M) (T' : Nat → sm_tw) (m : gk_M) : Prop := sm_X n T' R S F m ∧ (∀ t, t < n → T' t = T t) ∧ (T' 10).2 = (h, 0, 10) ∧ (T' 11).2 = (h, 0, 10) ∧ sg_fx n m0 m ∧ m.1 25 3 = sm_n p ∧ m.1 25 4 = sm_n s
section GX
variable {n : Nat} {T : Nat → sm_tw} {R : sm_rd} {S : sm_fs} {F : sm_lf} {h : Int32} {p s : Nat} {m0 m : gk_M}
theorem sg_pt {c : Nat} (hq : sg_sq p s) (hc : c < s * s) (h3 : m.1 25 3 = sm_n p) (h4 : m.1 25 4 = sm_n s) : f_Game_pointOf (sm_n c) m = some (sm_n (sg_g p s c), m) := by
  obtain ⟨h1, h2, _, _⟩ := hq
  have hs : s < 4 := by omega
  have hc9 : c < 9 := by rcases h2 with rfl | rfl <;> omega
  have hs0 : ¬ sm_n s = 0 := by
    rw [show (0 : Int32) = sm_n 0 from rfl, sm_neq (by omega) (by omega)]; omega
  unfold f_Game_pointOf gk_di gk_re
  rw [h3, h4, if_neg hs0]
  show (if sm_n s = 0 then none else some (sm_n p + 30 * (sm_n c / sm_n s) + (sm_n c - sm_n c / sm_n s * sm_n s), m)) = _
  rw [if_neg hs0, show sm_n c - sm_n c / sm_n s * sm_n s = sm_n (c % s) from sm_n_rem (by omega) (by omega), sm_n_div (by omega) (by omega), show (30 : Int32) = sm_n 30 from rfl, sm_n_mul, sm_n_add, sm_n_add]
  rfl
theorem sg_ss {c : Nat} (hq : sg_sq p s) (h4 : m.1 25 4 = sm_n s) (hc : c ≤ 9) : (m.1 25 4 * m.1 25 4 ≤ sm_n c) ↔ s * s ≤ c := by
  have := sg_9 hq
  rw [h4, sm_n_mul, sm_nle (by omega) (by omega)]
theorem sg_SX_q {T' : Nat → sm_tw} {m' : gk_M} (hs : sg_SX n T R S F h p s m0 T' m) (hq : sm_q n T' R S F m m') : sg_SX n T R S F h p s m0 T' m' := by
  obtain ⟨a, b, c, d, e, f, g⟩ := hs
  exact ⟨hq.1, b, c, d, sg_fx_tr e (fun k j k3 _ _ k19 k20 _ _ _ => hq.2.1 k j k3 k19 k20) hq.2.2, (hq.2.1 25 3 (by decide) (by decide) (by decide)).trans f, (hq.2.1 25 4 (by decide) (by decide) (by decide)).trans g⟩
theorem sg_SX_pl {T' : Nat → sm_tw} {t q : Nat} (hs : sg_SX n T R S F h p s m0 T' m) (ht : t = 10 ∨ t = 11) (hq : q < 900) (hn : n ≤ 10) : sg_SX n T R S F h p s m0 (sm_tp T' t q) (sm_xpl m t q) := by
  obtain ⟨a, b, c, d, e, f, g⟩ := hs
  refine ⟨sm_X_pl a (by omega) hq, fun u hu => by rw [sm_tp_lt (by omega)]; exact b u hu, by rw [sm_tp2]; exact c, by rw [sm_tp2]; exact d, sg_fx_tr e ?_ rfl, ?_, ?_⟩
  · intro k j _ k8 k9 _ _ _ _ _
    unfold sm_xpl
    rw [sm_mi0 (by omega), sm_mi0 (by omega)]
  · unfold sm_xpl
    rw [sm_mi0 (by omega), sm_mi0 (by omega)]; exact f
  · unfold sm_xpl
    rw [sm_mi0 (by omega), sm_mi0 (by omega)]; exact g
theorem sg_SX_w {T' : Nat → sm_tw} {k j : Nat} {v : Int32} (hs : sg_SX n T R S F h p s m0 T' m) (hk : (k = 25 ∧ j = 5) ∨ k = 26 ∨ k = 27) : sg_SX n T R S F h p s m0 T' (gk_mi m k j v) := by
  obtain ⟨a, b, c, d, e, f, g⟩ := hs
  refine ⟨sm_X_fr (by intro x y hx; unfold sm_fX at hx; rw [sm_mi0 (by omega)]) a, b, c, d, sg_fx_tr e ?_ rfl, ?_, ?_⟩
  · intro x y _ _ _ _ _ k25 k26 k27
    rw [sm_mi0 (by omega)]
  · rw [sm_mi0 (by omega)]; exact f
  · rw [sm_mi0 (by omega)]; exact g
/-- bits below a number -/
theorem x_lo46 (hn : n ≤ 10) (hsq : sg_sq p s) : ∀ l c fu o T' m, c + l = s * s → l < fu → o < 512 → (∀ u, o.testBit u = (decide (u < c) && sg_op n T R S F h (sg_g p s u))) → sg_SX n T R S F h p s m0 T' m → m.1 25 5 = sm_n o → ∃ T2 m' o', sg_SX n T R S F h p s m0 T2 m' ∧ o' < 512 ∧ (∀ u, o'.testBit u = (decide (u < s * s) && sg_op n T R S F h (sg_g p s u))) ∧ m'.1 25 5 = sm_n o' ∧ f_Game_layOut_46 fu (sm_n c) m = some ((), m')
  | 0, c, fu + 1, o, T', m, h1, h3, ho, hob, hS, h5 => by
    have h9 := sg_9 hsq
    have hc : c = s * s := by omega
    refine ⟨T', m, o, hS, ho, by rw [← hc]; exact hob, h5, ?_⟩
    unfold f_Game_layOut_46
    rw [if_pos ((sg_ss hsq hS.2.2.2.2.2.2 (by omega)).mpr (by omega))]
  | l + 1, c, fu + 1, o, T', m, h1, h3, ho, hob, hS, h5 => by
    have h9 := sg_9 hsq
    have hg := sg_glt hsq (show c < s * s by omega)
    obtain ⟨m1, e1, ⟨q, hq, q1, q2, q3⟩, _⟩ := x_isFreeFor (s := 10) (p := sg_g p s c) (sm_qf0 hS.1 (by omega)) (by omega) hn hg
    rw [sg_op_x hS.2.1 hS.2.2.1 hn] at e1
    have hS1 : sg_SX n T R S F h p s m0 (sm_tp T' 10 q) m1 := by
      obtain ⟨a, b, c, d, e, f, g⟩ := hS
      refine ⟨q1, fun u hu => by rw [sm_tp_lt (by omega)]; exact b u hu, by rw [sm_tp2]; exact c, by rw [sm_tp2]; exact d, sg_fx_tr e ?_ q3, ?_, ?_⟩
      · intro k j k3 k8 k9 k19 k20 _ _ _
        exact q2 k j k3 k19 k20 (by omega) (by omega)
      · exact (q2 25 3 (by decide) (by decide) (by decide) (by omega) (by omega)).trans f
      · exact (q2 25 4 (by decide) (by decide) (by decide) (by omega) (by omega)).trans g
    have h5' : m1.1 25 5 = sm_n o := (q2 25 5 (by decide) (by decide) (by decide) (by omega) (by omega)).trans h5
    unfold f_Game_layOut_46
    rw [if_neg (fun z => by have := (sg_ss hsq hS.2.2.2.2.2.2 (by omega)).mp z; omega), sg_pt hsq (by omega) hS.2.2.2.2.2.1 hS.2.2.2.2.2.2, sm_bi, show f_Plain_isFreeFor 10 (sm_n (sg_g p s c)) m = _ from e1, sm_bi, show sm_n c + 1 = sm_n (c + 1) from sm_n_add c 1]
    cases hc : sg_op n T R S F h (sg_g p s c) with
    | false =>
      rw [if_pos (show sm_b2 false = 0 from rfl)]
      refine x_lo46 hn hsq l (c + 1) fu o _ m1 (by omega) (by omega) ho ?_ hS1 h5'
      intro u
      rw [hob]
      by_cases e : u = c
      · rw [e, hc, Bool.and_false, Bool.and_false]
      · rw [show decide (u < c + 1) = decide (u < c) from decide_eq_decide.mpr (by omega)]
    | true =>
      rw [if_neg (show ¬ sm_b2 true = 0 by decide), sm_let, h5', sm_shl (by omega), sm_bor]
      refine x_lo46 hn hsq l (c + 1) fu (o ||| 2 ^ c) _ _ (by omega) (by omega) (Nat.or_lt_two_pow (n := 9) ho (Nat.pow_lt_pow_right (by decide) (by omega))) ?_ (sg_SX_w hS1 (Or.inl ⟨rfl, rfl⟩)) (sm_mi1 _ _ _ _)
      intro u
      rw [sm_or_bit, hob]
      by_cases e : u = c
      · rw [e, hc]; simp
      · rw [show decide (u < c + 1) = decide (u < c) from decide_eq_decide.mpr (by omega), decide_eq_false e, Bool.or_false]
theorem x_layOut (hX : sm_X n T R S F m) (hsq : sg_sq p s) : ∃ T2 m' o', sg_SX n T R S F h p s m T2 m' ∧ o' < 512 ∧ (∀ u, o'.testBit u = (decide (u < s * s) && sg_op n T R S F h (sg_g p s u))) ∧ m'.1 25 5 = sm_n o' ∧ f_Game_layOut (sm_n p) (sm_n s) h m = some ((), m') := by
  have hn := hX.2.1
  have h9 := sg_9 hsq
  have hs4 : s < 4 := by have := hsq.2.1; omega
  have hs2 : 2 ≤ s := by have := hsq.2.1; omega
  have es : gk_max 1 (gk_min (sm_n s) 3) = sm_n s := by
    rw [show (3 : Int32) = sm_n 3 from rfl, (x_min s 3 (by omega) (by omega)).1, show (1 : Int32) = sm_n 1 from rfl, (x_min 1 _ (by omega) (by omega)).2]
    congr 1
    omega
  have hX1 : sm_X n T R S F (gk_mi (gk_mi m 25 3 (sm_n p)) 25 4 (sm_n s)) := sm_X_fr (by intro k j h; unfold sm_fX at h; simp (disch := omega) only [sm_mi0, sm_mil, sm_mli]) hX
  have hX2 := sm_X_th (sm_X_th hX1 (s := 10) (by omega) h) (s := 11) (by omega) h
  unfold f_Game_layOut
  rw [sm_let, sm_let, es, show f_Plain_think 10 h (gk_mi (gk_mi m 25 3 (sm_n p)) 25 4 (sm_n s)) = some ((), sm_xth (gk_mi (gk_mi m 25 3 (sm_n p)) 25 4 (sm_n s)) 10 h) from x_think (t := 10) (by omega) h _, sm_bv, show f_Plain_think 11 h (sm_xth (gk_mi (gk_mi m 25 3 (sm_n p)) 25 4 (sm_n s)) 10 h) = some ((), sm_xth (sm_xth (gk_mi (gk_mi m 25 3 (sm_n p)) 25 4 (sm_n s)) 10 h) 11 h) from x_think (t := 11) (by omega) h _, sm_bv, sm_let]
  obtain ⟨M, hM⟩ : ∃ M, M = sm_xth (sm_xth (gk_mi (gk_mi m 25 3 (sm_n p)) 25 4 (sm_n s)) 10 h) 11 h := ⟨_, rfl⟩
  rw [← hM] at hX2 ⊢
  have fr : ∀ k j, k ≠ 10 → ¬ (k = 11 ∧ 10 ≤ j) → k ≠ 12 → k ≠ 20 → M.1 k j = (gk_mi (gk_mi m 25 3 (sm_n p)) 25 4 (sm_n s)).1 k j := by
    intro k j k10 k11 k12 k20
    rw [hM]
    unfold sm_xth
    rw [sm_fill0 (fun z => k20 z.1), sm_mi0 (fun z => k12 z.1), sm_mi0 (by omega), sm_mi0 (fun z => k10 z.1), sm_fill0 (fun z => k20 z.1), sm_mi0 (fun z => k12 z.1), sm_mi0 (by omega), sm_mi0 (fun z => k10 z.1)]
  have hS : sg_SX n T R S F h p s m (sm_thT (sm_thT T 10 h) 11 h) M := by
    refine ⟨hX2, ?_, ?_, ?_, ⟨?_, ?_, ?_, ?_, ?_⟩, ?_, ?_⟩
    · intro t ht
      unfold sm_thT
      rw [sm_up0 (by omega), sm_up0 (by omega)]
    · unfold sm_thT
      rw [sm_up0 (by decide), sm_up1]
      rfl
    · unfold sm_thT
      rw [sm_up1]
      rfl
    · intro j; rw [fr 4 j (by decide) (by omega) (by decide) (by decide), sm_mi0 (by omega), sm_mi0 (by omega)]
    · intro j; rw [fr 6 j (by decide) (by omega) (by decide) (by decide), sm_mi0 (by omega), sm_mi0 (by omega)]
    · intro j hj; rw [fr 11 j (by decide) (by omega) (by decide) (by decide), sm_mi0 (by omega), sm_mi0 (by omega)]
    · intro k j hk _; rw [fr k j (by omega) (by omega) (by omega) (by omega), sm_mi0 (by omega), sm_mi0 (by omega)]
    · rw [hM]; rfl
    · rw [fr 25 3 (by decide) (by omega) (by decide) (by decide), sm_mi0 (by omega), sm_mi1]
    · rw [fr 25 4 (by decide) (by omega) (by decide) (by decide), sm_mi1]
  exact x_lo46 hn hsq (s * s) 0 gk_fv 0 _ _ (by omega) (by rw [gk_fv_eq]; omega) (by omega) (fun u => by rw [Nat.zero_testBit, decide_eq_false (Nat.not_lt_zero u)]; rfl) (sg_SX_w hS (Or.inl ⟨rfl, rfl⟩)) (sm_mi1 _ _ _ _)
/-! who clashes with whom -/
def sg_K (cs : Nat) (C : Nat → Nat → Bool) (c d : Nat) (P : Nat → Nat) (m : gk_M) : Prop := (∀ j, j < cs → j ≤ c → (d = 0 → j < c) → m.1 26 j = sm_n (P j) ∧ P j < 512) ∧ (∀ j u, j < c → (P j).testBit u = ((decide (u < c) && (u == j || C u j)) || (u == c && decide (j < d - 1) && C u j))) ∧ (0 < d → ∀ u, (P c).testBit u = (u == c || (decide (u < d - 1) && C u c)))
theorem x_fc40 (hn : n ≤ 10) (hsq : sg_sq p s) {c : Nat} (hc : c < s * s) (k2 : Int32 → gk_M → Option (Unit × gk_M)) {o : Int32} : ∀ l d fu T' m P, d + l = c → l < fu → sg_SX n T R S F h p s m0 T' m → (T' 10).1 = sg_g p s c → m.1 25 5 = o → sg_K (s * s) (sg_C R S F h p s) c (d + 1) P m → ∃ T2 m' P', sg_SX n T R S F h p s m0 T2 m' ∧ m'.1 25 5 = o ∧ sg_K (s * s) (sg_C R S F h p s) c (c + 1) P' m' ∧ f_Game_findClashes_40 k2 fu (sm_n c) (sm_n d) m = k2 (sm_n (c + 1)) m'
  | 0, d, fu + 1, T', m, P, h1, h3, hS, h10, h5, hK => by
    have h9 := sg_9 hsq
    have e : d = c := by omega
    subst e
    refine ⟨T', m, P, hS, h5, hK, ?_⟩
    unfold f_Game_findClashes_40
    rw [if_pos (by simp (disch := omega) only [sm_lit, sm_nlt, sm_nle, sm_neq, sm_n_add, sm_n_mul, sm_n_div, sm_n_rem, sm_bi, sm_bl, sm_bv, sm_let, sm_zz0, sm_zz1, sm_ai, sm_si, sm_al, sm_sl, sm_ar, sm_mi1, sm_mi0, sm_ml1, sm_ml0, sm_mil, sm_mli]; omega), show sm_n d + 1 = sm_n (d + 1) from sm_n_add d 1]
  | l + 1, d, fu + 1, T', m, P, h1, h3, hS, h10, h5, hK => by
    have h9 := sg_9 hsq
    have gd := sg_glt hsq (show d < s * s by omega)
    have gc := sg_glt hsq hc
    have hne := sg_inj hsq hc (show d < s * s by omega) (by omega)
    have hS1 := sg_SX_pl (t := 11) (q := sg_g p s d) hS (Or.inr rfl) gd hn
    have e10 : sm_tp T' 11 (sg_g p s d) 10 = sg_A h (sg_g p s c) := by
      rw [sm_tp_lt (by decide)]
      exact Prod.ext h10 hS.2.2.1
    have e11 : sm_tp T' 11 (sg_g p s d) 11 = sg_A h (sg_g p s d) := by
      rw [sm_tp_at, hS.2.2.2.1]; rfl
    obtain ⟨m1, e1, q1⟩ := x_gop (s := 10) (t := 11) (by rw [e10, e11]; exact hne) (by omega) (by omega) (sm_q0 hS1.1)
    have hS2 := sg_SX_q hS1 q1
    have fr : ∀ k j, k = 25 ∨ k = 26 → m1.1 k j = m.1 k j := by
      intro k j hk
      rw [q1.2.1 k j (by omega) (by omega) (by omega)]
      unfold sm_xpl
      rw [sm_mi0 (by omega), sm_mi0 (by omega)]
    have h5' : m1.1 25 5 = o := (fr 25 5 (Or.inl rfl)).trans h5
    have hag : 0 < sm_gop (sm_tp T' 11 (sg_g p s d)) R S F 10 11 ↔ sg_C R S F h p s c d = true := by
      rw [sm_gop_ag]
      unfold sm_ag sm_gs sg_C sg_gg sg_ag
      rw [e10, e11]
    unfold f_Game_findClashes_40
    rw [if_neg (by simp (disch := omega) only [sm_lit, sm_nlt, sm_nle, sm_neq, sm_n_add, sm_n_mul, sm_n_div, sm_n_rem, sm_bi, sm_bl, sm_bv, sm_let, sm_zz0, sm_zz1, sm_ai, sm_si, sm_al, sm_sl, sm_ar, sm_mi1, sm_mi0, sm_ml1, sm_ml0, sm_mil, sm_mli]; omega), sg_pt hsq (by omega) hS.2.2.2.2.2.1 hS.2.2.2.2.2.2, sm_bi, show f_Plain_place 11 (sm_n (sg_g p s d)) m = some ((), sm_xpl m 11 (sg_g p s d)) from x_place (t := 11) (by omega) gd m, sm_bv, show f_Plain_guiltsOfPair 10 11 (sm_xpl m 11 (sg_g p s d)) = _ from e1, sm_bi, show sm_n d + 1 = sm_n (d + 1) from sm_n_add d 1]
    have hgb : sm_gop (sm_tp T' 11 (sg_g p s d)) R S F 10 11 < 2147483648 := by
      have hR := hS.1.2.2.2.1
      have b1 := sm_sum_le (f := fun r => sm_sum (R.2.1 r - 1) 0 (fun i => sm_c1 (sm_gs (sm_tp T' 11 (sg_g p s d)) R S F r i 10 11))) (b := 6) (l := R.1) (i := 0) (fun j _ hj => by
        have b2 := sm_sum_le (f := fun i => sm_c1 (sm_gs (sm_tp T' 11 (sg_g p s d)) R S F j i 10 11)) (b := 1) (l := R.2.1 j - 1) (i := 0) (fun i _ _ => sm_c1l _)
        have b3 := (hR.2.2 j (by omega)).2.2.1
        omega)
      have b4 := hR.2.1
      unfold sm_gop
      omega
    have hC := sg_C_sym (R := R) (S := S) (F := F) (h := h) hsq hc (show d < s * s by omega) (by omega)
    by_cases hz : sg_C R S F h p s c d = true
    · have hpos := hag.mpr hz
      obtain ⟨k1, k2', k3⟩ := hK
      obtain ⟨kc1, kc2⟩ := k1 c hc (Nat.le_refl c) (by omega)
      obtain ⟨kd1, kd2⟩ := k1 d (by omega) (by omega) (by omega)
      rw [if_neg (show ¬ sm_n (sm_gop (sm_tp T' 11 (sg_g p s d)) R S F 10 11) ≤ 0 by rw [show (0 : Int32) = sm_n 0 from rfl, sm_nle hgb (by omega)]; omega), sm_ai (by omega) (by omega), fr 26 c (Or.inr rfl), kc1, sm_shl (by omega), sm_bor, sm_si (by omega) (by omega), sm_ai (by omega) (by omega), sm_mi0 (by omega), fr 26 d (Or.inr rfl), kd1, sm_shl (by omega), sm_bor, sm_si (by omega) (by omega)]
      refine x_fc40 hn hsq hc k2 l (d + 1) fu _ _ (sm_up (sm_up P c (P c ||| 2 ^ d)) d (P d ||| 2 ^ c)) (by omega) (by omega) (sg_SX_w (sg_SX_w hS2 (Or.inr (Or.inl rfl))) (Or.inr (Or.inl rfl))) ?_ ?_ ⟨?_, ?_, ?_⟩
      · rw [sm_tp_lt (by decide)]; exact h10
      · rw [sm_mi0 (by omega), sm_mi0 (by omega)]; exact h5'
      · intro j hj1 hj2 _
        by_cases z : j = d
        · rw [z, sm_mi1, sm_up1]
          exact ⟨rfl, Nat.or_lt_two_pow (n := 9) kd2 (Nat.pow_lt_pow_right (by decide) (by omega))⟩
        · rw [sm_mi0 (by omega), sm_up0 z]
          by_cases z2 : j = c
          · rw [z2, sm_mi1, sm_up1]
            exact ⟨rfl, Nat.or_lt_two_pow (n := 9) kc2 (Nat.pow_lt_pow_right (by decide) (by omega))⟩
          · rw [sm_mi0 (by omega), sm_up0 z2, fr 26 j (Or.inr rfl)]
            exact k1 j hj1 hj2 (by omega)
      · intro j u hj
        by_cases z : j = d
        · rw [z, sm_up1, sm_or_bit, k2' d u (by omega), decide_eq_false (show ¬ d < d + 1 - 1 by omega), decide_eq_true (show d < d + 1 + 1 - 1 by omega)]
          by_cases zu : u = c
          · rw [zu, hz]; simp
          · rw [beq_eq_false_iff_ne.mpr zu, decide_eq_false zu]; simp
        · rw [sm_up0 z, sm_up0 (show ¬ j = c by omega), k2' j u hj, show decide (j < d + 1 + 1 - 1) = decide (j < d + 1 - 1) from decide_eq_decide.mpr (by omega)]
      · intro _ u
        rw [sm_up0 (show ¬ c = d by omega), sm_up1, sm_or_bit, k3 (by omega)]
        by_cases zu : u = d
        · rw [zu, decide_eq_true (show d < d + 1 + 1 - 1 by omega), decide_eq_false (show ¬ d < d + 1 - 1 by omega), ← hC, hz]; simp
        · rw [show decide (u < d + 1 + 1 - 1) = decide (u < d + 1 - 1) from decide_eq_decide.mpr (by omega), decide_eq_false zu, Bool.or_false]
    · have hz2 : ¬ 0 < sm_gop (sm_tp T' 11 (sg_g p s d)) R S F 10 11 := fun z => hz (hag.mp z)
      have hzf : sg_C R S F h p s c d = false := by simpa using hz
      rw [if_pos (show sm_n (sm_gop (sm_tp T' 11 (sg_g p s d)) R S F 10 11) ≤ 0 by rw [show (0 : Int32) = sm_n 0 from rfl, sm_nle hgb (by omega)]; omega)]
      obtain ⟨k1, k2', k3⟩ := hK
      refine x_fc40 hn hsq hc k2 l (d + 1) fu _ m1 P (by omega) (by omega) hS2 ?_ h5' ⟨?_, ?_, ?_⟩
      · rw [sm_tp_lt (by decide)]; exact h10
      · intro j hj1 hj2 _
        rw [fr 26 j (Or.inr rfl)]
        exact k1 j hj1 hj2 (by omega)
      · intro j u hj
        rw [k2' j u hj]
        by_cases z : j = d
        · rw [z, decide_eq_false (show ¬ d < d + 1 - 1 by omega), decide_eq_true (show d < d + 1 + 1 - 1 by omega)]
          by_cases zu : u = c
          · rw [zu, hzf]; simp
          · rw [beq_eq_false_iff_ne.mpr zu]; simp
        · rw [show decide (j < d + 1 + 1 - 1) = decide (j < d + 1 - 1) from decide_eq_decide.mpr (by omega)]
      · intro _ u
        rw [k3 (by omega)]
        by_cases zu : u = d
        · rw [zu, decide_eq_true (show d < d + 1 + 1 - 1 by omega), decide_eq_false (show ¬ d < d + 1 - 1 by omega), ← hC, hzf]; simp
        · rw [show decide (u < d + 1 + 1 - 1) = decide (u < d + 1 - 1) from decide_eq_decide.mpr (by omega)]
def sg_KK (cs : Nat) (C : Nat → Nat → Bool) (m : gk_M) : Prop := ∃ P : Nat → Nat, ∀ j, j < cs → m.1 26 j = sm_n (P j) ∧ P j < 512 ∧ ∀ u, (P j).testBit u = (decide (u < cs) && (u == j || C u j))
theorem x_fc2 (hn : n ≤ 10) (hsq : sg_sq p s) {o : Int32} : ∀ (l c fu : Nat) (T' : Nat → sm_tw) (m : gk_M) (P : Nat → Nat), c + l = s * s → l < fu → sg_SX n T R S F h p s m0 T' m → m.1 25 5 = o → (∀ j, j < c → m.1 26 j = sm_n (P j) ∧ P j < 512 ∧ ∀ u, (P j).testBit u = (decide (u < c) && (u == j || sg_C R S F h p s u j))) → ∃ T2 m', sg_SX n T R S F h p s m0 T2 m' ∧ m'.1 25 5 = o ∧ sg_KK (s * s) (sg_C R S F h p s) m' ∧ f_Game_findClashes_2 fu (sm_n c) m = some ((), m')
  | 0, c, fu + 1, T', m, P, h1, h3, hS, h5, hP => by
    have h9 := sg_9 hsq
    have e : c = s * s := by omega
    refine ⟨T', m, hS, h5, ⟨P, by rw [← e]; exact hP⟩, ?_⟩
    unfold f_Game_findClashes_2
    rw [if_pos ((sg_ss hsq hS.2.2.2.2.2.2 (by omega)).mpr (by omega))]
  | l + 1, c, fu + 1, T', m, P, h1, h3, hS, h5, hP => by
    have h9 := sg_9 hsq
    have gc := sg_glt hsq (show c < s * s by omega)
    have hS1 := sg_SX_w (k := 26) (j := c) (v := sm_n (2 ^ c)) hS (Or.inr (Or.inl rfl))
    have hS2 := sg_SX_pl (t := 10) (q := sg_g p s c) hS1 (Or.inl rfl) gc hn
    have fr : ∀ k j, k = 25 ∨ k = 26 → (sm_xpl (gk_mi m 26 c (sm_n (2 ^ c))) 10 (sg_g p s c)).1 k j = (gk_mi m 26 c (sm_n (2 ^ c))).1 k j := by
      intro k j hk
      unfold sm_xpl
      rw [sm_mi0 (by omega), sm_mi0 (by omega)]
    have hp2 : 2 ^ c < 512 := Nat.pow_lt_pow_right (n := 9) (by decide) (by omega)
    obtain ⟨T2, m2, P2, s2, o2, ⟨k1, k2, k3⟩, e2⟩ := x_fc40 (o := o) hn hsq (show c < s * s by omega) (f_Game_findClashes_2 fu) c 0 gk_fv _ _ (sm_up P c (2 ^ c)) (by omega) (by rw [gk_fv_eq]; omega) hS2 (by rw [sm_tp_at]) (by rw [fr 25 5 (Or.inl rfl), sm_mi0 (by omega)]; exact h5) ⟨by
      intro j hj1 hj2 _
      rw [fr 26 j (Or.inr rfl)]
      by_cases z : j = c
      · rw [z, sm_mi1, sm_up1]; exact ⟨rfl, hp2⟩
      · rw [sm_mi0 (by omega), sm_up0 z]
        exact ⟨(hP j (by omega)).1, (hP j (by omega)).2.1⟩, by
      intro j u hj
      rw [sm_up0 (show ¬ j = c by omega), (hP j hj).2.2, decide_eq_false (show ¬ j < 0 + 1 - 1 by omega)]
      simp, by
      intro _ u
      rw [sm_up1, Nat.testBit_two_pow, decide_eq_false (show ¬ u < 0 + 1 - 1 by omega)]
      by_cases zu : u = c
      · rw [zu]; simp
      · rw [beq_eq_false_iff_ne.mpr zu, decide_eq_false (fun z => zu z.symm)]; rfl⟩
    unfold f_Game_findClashes_2
    rw [if_neg (fun z => by have := (sg_ss hsq hS.2.2.2.2.2.2 (by omega)).mp z; omega), sm_shl (by omega), sm_si (by omega) (by omega), sg_pt hsq (by omega) hS1.2.2.2.2.2.1 hS1.2.2.2.2.2.2, sm_bi, show f_Plain_place 10 (sm_n (sg_g p s c)) (gk_mi m 26 c (sm_n (2 ^ c))) = some ((), sm_xpl (gk_mi m 26 c (sm_n (2 ^ c))) 10 (sg_g p s c)) from x_place (t := 10) (by omega) gc _, sm_bv, show f_Game_findClashes_40 (f_Game_findClashes_2 fu) gk_fv (sm_n c) 0 (sm_xpl (gk_mi m 26 c (sm_n (2 ^ c))) 10 (sg_g p s c)) = _ from e2]
    refine x_fc2 hn hsq l (c + 1) fu T2 m2 P2 (by omega) (by omega) s2 o2 ?_
    intro j hj
    refine ⟨(k1 j (by omega) (by omega) (by omega)).1, (k1 j (by omega) (by omega) (by omega)).2, fun u => ?_⟩
    by_cases z : j = c
    · rw [z, k3 (by omega), show decide (u < c + 1 - 1) = decide (u < c) from decide_eq_decide.mpr (by omega)]
      by_cases zu : u = c
      · rw [zu, decide_eq_true (show c < c + 1 by omega)]; simp
      · rw [beq_eq_false_iff_ne.mpr zu, show decide (u < c + 1) = decide (u < c) from decide_eq_decide.mpr (by omega)]; simp
    · rw [k2 j u (by omega), decide_eq_true (show j < c + 1 - 1 by omega)]
      by_cases zu : u = c
      · rw [zu, decide_eq_true (show c < c + 1 by omega), decide_eq_false (Nat.lt_irrefl c), beq_eq_false_iff_ne.mpr (fun z2 => z z2.symm)]; simp
      · rw [beq_eq_false_iff_ne.mpr zu, show decide (u < c + 1) = decide (u < c) from decide_eq_decide.mpr (by omega)]; simp
theorem x_findClashes {T' : Nat → sm_tw} {o : Int32} (hn : n ≤ 10) (hsq : sg_sq p s) (hS : sg_SX n T R S F h p s m0 T' m) (h5 : m.1 25 5 = o) : ∃ T2 m', sg_SX n T R S F h p s m0 T2 m' ∧ m'.1 25 5 = o ∧ sg_KK (s * s) (sg_C R S F h p s) m' ∧ f_Game_findClashes m = some ((), m') :=
  x_fc2 hn hsq (s * s) 0 gk_fv T' m (fun _ => 0) (by omega) (by have := sg_9 hsq; rw [gk_fv_eq]; omega) hS h5 (fun j hj => absurd hj (Nat.not_lt_zero j))
end GX
