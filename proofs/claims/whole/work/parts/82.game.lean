/-! SIM: the game in the reference -/
def sg_fm (m0 m : gk_M) : Prop := (∀ j, j ∈ [4, 5, 16, 36, 39, 42] → m.1 0 j = m0.1 0 j) ∧ (∀ k j, 1 ≤ k → k ≤ 4 → m.1 k j = m0.1 k j) ∧ (∀ j, m.1 11 j = m0.1 11 j) ∧ (∀ k j, 19 ≤ k → m.1 k j = m0.1 k j) ∧ ∀ j, m.2 25 j = m0.2 25 j
theorem sg_mem {j : Nat} (h : j ∈ [4, 5, 16, 36, 39, 42]) : ¬ (19 ≤ j ∧ j ≤ 23) ∧ ¬ (32 ≤ j ∧ j ≤ 35) := by
  simp only [List.mem_cons, List.not_mem_nil, or_false] at h
  omega
theorem sg_fm_tr {m0 m m' : gk_M} (h : sg_fm m0 m) (h1 : ∀ k j, k ≠ 5 → k ≠ 6 → k ≠ 7 → k ≠ 13 → k ≠ 18 → (k = 0 → ¬ (19 ≤ j ∧ j ≤ 23) ∧ ¬ (32 ≤ j ∧ j ≤ 35)) → m'.1 k j = m.1 k j) (h2 : ∀ j, m'.2 25 j = m.2 25 j) : sg_fm m0 m' :=
  ⟨fun j hj => (h1 0 j (by decide) (by decide) (by decide) (by decide) (by decide) (fun _ => sg_mem hj)).trans (h.1 j hj), fun k j k1 k2 => (h1 k j (by omega) (by omega) (by omega) (by omega) (by omega) (fun z => by omega)).trans (h.2.1 k j k1 k2), fun j => (h1 11 j (by decide) (by decide) (by decide) (by decide) (by decide) (fun z => by omega)).trans (h.2.2.1 j), fun k j hk => (h1 k j (by omega) (by omega) (by omega) (by omega) (by omega) (fun z => by omega)).trans (h.2.2.2.1 k j hk), fun j => (h2 j).trans (h.2.2.2.2 j)⟩
def sg_SM (n : Nat) (T : Nat → sm_tw) (R : sm_rd) (S : sm_fs) (F : sm_lf) (h : Int32) (p s : Nat) (m0 : gk_M) (T' : Nat → sm_tw) (m : gk_M) : Prop := sm_M n T' R S F m ∧ (∀ t, t < n → T' t = T t) ∧ sg_fm m0 m ∧ m.1 0 32 = sm_n p ∧ m.1 0 33 = sm_n s ∧ m.1 0 34 = h
/-- the towers laid out behind the standing ones -/
def sg_lay (n : Nat) (T : Nat → sm_tw) (h : Int32) (p s g c : Nat) (many : Nat) (T' : Nat → sm_tw) : Prop := ∀ G : sm_tw → Bool, sm_any many 0 (fun t => G (T' t)) = (sm_any n 0 (fun t => G (T t)) || sm_any c 0 (fun i => g.testBit i && G (sg_A h (sg_g p s i))))
theorem sg_any_last (f : Nat → Bool) (l : Nat) : sm_any (l + 1) 0 f = (sm_any l 0 f || f l) := by
  rw [Bool.eq_iff_iff, Bool.or_eq_true, sm_any_iff, sm_any_iff]
  constructor
  · rintro ⟨j, _, h1, h2⟩
    by_cases e : j = l
    · exact Or.inr (e ▸ h2)
    · exact Or.inl ⟨j, Nat.zero_le j, by omega, h2⟩
  · rintro (⟨j, _, h1, h2⟩ | h2)
    · exact ⟨j, Nat.zero_le j, by omega, h2⟩
    · exact ⟨l, Nat.zero_le l, by omega, h2⟩
def sg_pr (g : Nat) : Nat → Nat := sm_pr (fun _ => 0) 0 g
theorem sg_pr1 {g t : Nat} (h : g.testBit t = true) : sg_pr g t = 1 := by
  unfold sg_pr sm_pr; rw [if_pos h, if_pos rfl]
theorem sg_pr0 {g t : Nat} (h : g.testBit t = false) : sg_pr g t = 0 := by
  unfold sg_pr sm_pr; rw [h, if_neg Bool.false_ne_true]
theorem sg_sum1 (f : Nat → Nat) (c : Nat) : sm_sum (c + 1) 0 f = sm_sum c 0 f + f c := by
  rw [sm_sum_app f 1 c 0, Nat.zero_add]
  rfl
theorem sg_bcs {g cs : Nat} (hg : g < 2 ^ cs) (hc : cs ≤ 10) : sm_sum cs 0 (sg_pr g) = sg_bc g := by
  have e2 := sm_sum_app (sg_pr g) (10 - cs) cs 0
  rw [show cs + (10 - cs) = 10 by omega] at e2
  have e5 : sm_sum (10 - cs) (0 + cs) (sg_pr g) = 0 := by
    refine (sm_sum_cg (g := fun _ => 0) ?_).trans (sm_sum_zero _ _)
    intro j hj _
    exact sg_pr0 (Nat.testBit_lt_two_pow (Nat.lt_of_lt_of_le hg (Nat.pow_le_pow_right (by decide) (by omega))))
  rw [e5, Nat.add_zero] at e2
  exact e2.symm
theorem sg_bcle {g c : Nat} (hc : c ≤ 10) : sm_sum c 0 (sg_pr g) ≤ sg_bc g := by
  have e2 := sm_sum_app (sg_pr g) (10 - c) c 0
  rw [show c + (10 - c) = 10 by omega] at e2
  have : sg_bc g = sm_sum 10 0 (sg_pr g) := rfl
  omega
theorem m_bits {m : gk_M} : ∀ fu g acc, g < 512 → g < fu → f_M_bitsOf_4 fu (sm_n acc) (sm_n g) m = some (sm_n (acc + sg_bc g), m)
  | 0, _, _, _, h => absurd h (Nat.not_lt_zero _)
  | fu + 1, g, acc, h5, h => by
    unfold f_M_bitsOf_4
    by_cases e : g = 0
    · rw [e, if_pos (show sm_n 0 = 0 from rfl), sg_bc0, Nat.add_zero]
    · obtain ⟨q1, q2, q3⟩ := sg_low ⟨g, h5⟩ e
      have q1 : sm_n g &&& (sm_n g - 1) = sm_n (g &&& (g - 1)) := q1
      have q2 : g &&& (g - 1) < g := q2
      have q3 : sg_bc (g &&& (g - 1)) + 1 = sg_bc g := q3
      rw [if_neg (show ¬ sm_n g = 0 by rw [show (0 : Int32) = sm_n 0 from rfl, sm_neq (by omega) (by omega)]; exact e), sm_let, q1, show sm_n acc + 1 = sm_n (acc + 1) from sm_n_add acc 1, m_bits fu _ _ (by omega) (by omega), show acc + 1 + sg_bc (g &&& (g - 1)) = acc + sg_bc g by omega]
section GM
variable {n : Nat} {T : Nat → sm_tw} {R : sm_rd} {S : sm_fs} {F : sm_lf} {h : Int32} {p s : Nat} {m0 m : gk_M}
theorem m_pt {c : Nat} (hq : sg_sq p s) (hc : c < s * s) (h3 : m.1 0 32 = sm_n p) (h4 : m.1 0 33 = sm_n s) : f_M_gamePoint (sm_n c) m = some (sm_n (sg_g p s c), m) := by
  obtain ⟨h1, h2, _, _⟩ := hq
  have hs : s < 4 := by omega
  have hc9 : c < 9 := by rcases h2 with rfl | rfl <;> omega
  have hs0 : ¬ sm_n s = 0 := by
    rw [show (0 : Int32) = sm_n 0 from rfl, sm_neq (by omega) (by omega)]; omega
  unfold f_M_gamePoint gk_di gk_re
  rw [h3, h4, if_neg hs0]
  show (if sm_n s = 0 then none else some (sm_n p + 30 * (sm_n c / sm_n s) + (sm_n c - sm_n c / sm_n s * sm_n s), m)) = _
  rw [if_neg hs0, show sm_n c - sm_n c / sm_n s * sm_n s = sm_n (c % s) from sm_n_rem (by omega) (by omega), sm_n_div (by omega) (by omega), show (30 : Int32) = sm_n 30 from rfl, sm_n_mul, sm_n_add, sm_n_add]
  rfl
theorem m_ss {c : Nat} (hq : sg_sq p s) (h4 : m.1 0 33 = sm_n s) (hc : c ≤ 9) : (m.1 0 33 * m.1 0 33 ≤ sm_n c) ↔ s * s ≤ c := by
  have := sg_9 hq
  rw [h4, sm_n_mul, sm_nle (by omega) (by omega)]
theorem sg_SM_w {T' : Nat → sm_tw} {k j : Nat} {v : Int32} (hs : sg_SM n T R S F h p s m0 T' m) (hk : k = 18 ∨ (k = 0 ∧ j = 35)) : sg_SM n T R S F h p s m0 T' (gk_mi m k j v) := by
  obtain ⟨a, b, c, d, e, f⟩ := hs
  refine ⟨sm_M_fr (by intro x y hx; unfold sm_fM at hx; rw [sm_mi0 (by omega)]) a, b, sg_fm_tr c ?_ (fun _ => rfl), ?_, ?_, ?_⟩
  · intro x y _ _ _ _ k18 k0
    rw [sm_mi0 (by omega)]
  · rw [sm_mi0 (by omega)]; exact d
  · rw [sm_mi0 (by omega)]; exact e
  · rw [sm_mi0 (by omega)]; exact f
theorem sg_SM_th {T' : Nat → sm_tw} {q t : Nat} (hs : sg_SM n T R S F h p s m0 T' m) (hnt : n ≤ t) (hq : q < 900) : sg_SM n T R S F h p s m0 (sm_up T' t (sg_A h q)) (sm_mth m t q h 10) := by
  obtain ⟨a, b, c, d, e, f⟩ := hs
  have fr : ∀ k j, k ≠ 5 → k ≠ 6 → k ≠ 7 → (sm_mth m t q h 10).1 k j = m.1 k j := by
    intro k j k5 k6 k7
    unfold sm_mth
    rw [sm_mi0 (by omega), sm_mi0 (by omega), sm_mi0 (by omega)]
  refine ⟨sm_M_th a hnt hq (by omega), fun u hu => by rw [sm_up0 (by omega)]; exact b u hu, sg_fm_tr c (fun k j k5 k6 k7 _ _ _ => fr k j k5 k6 k7) (fun _ => rfl), ?_, ?_, ?_⟩
  · exact (fr 0 32 (by decide) (by decide) (by decide)).trans d
  · exact (fr 0 33 (by decide) (by decide) (by decide)).trans e
  · exact (fr 0 34 (by decide) (by decide) (by decide)).trans f
theorem m_lay7 {g : Nat} (hsq : sg_sq p s) (hg : g < 2 ^ (s * s)) (hb : n + sg_bc g ≤ 10) : ∀ (l c fu many : Nat) (T' : Nat → sm_tw) (m : gk_M), c + l = s * s → l < fu → sg_SM n T R S F h p s m0 T' m → many = n + sm_sum c 0 (sg_pr g) → sg_lay n T h p s g c many T' → ∃ T2 m', sg_SM n T R S F h p s m0 T2 m' ∧ sg_lay n T h p s g (s * s) (n + sg_bc g) T2 ∧ (∀ x, m'.1 18 x = m.1 18 x) ∧ m'.1 0 35 = m.1 0 35 ∧ f_M_laysOut_7 fu (sm_n g) (sm_n many) (sm_n c) m = some (sm_n (n + sg_bc g), m')
  | 0, c, fu + 1, many, T', m, h1, h3, hS, hm, hL => by
    have h9 := sg_9 hsq
    have e : c = s * s := by omega
    subst e
    rw [sg_bcs hg (by omega)] at hm
    subst hm
    refine ⟨T', m, hS, hL, fun _ => rfl, rfl, ?_⟩
    unfold f_M_laysOut_7
    rw [if_pos ((m_ss hsq hS.2.2.2.2.1 (by omega)).mpr (by omega))]
  | l + 1, c, fu + 1, many, T', m, h1, h3, hS, hm, hL => by
    have h9 := sg_9 hsq
    have hN := sg_N hsq
    have hcl := sg_glt hsq (show c < s * s by omega)
    have es := sg_sum1 (sg_pr g) c
    have hle := sg_bcle (g := g) (c := c + 1) (by omega)
    unfold f_M_laysOut_7
    rw [if_neg (fun z => by have := (m_ss hsq hS.2.2.2.2.1 (by omega)).mp z; omega), sm_bit2 (by omega) (by omega), show sm_n c + 1 = sm_n (c + 1) from sm_n_add c 1]
    cases ht : g.testBit c with
    | false =>
      rw [sg_pr0 ht] at es
      rw [if_pos (show ¬ sm_b2 false = 1 by decide)]
      refine m_lay7 hsq hg hb l (c + 1) fu many T' m (by omega) (by omega) hS (by omega) ?_
      intro G
      rw [hL G, sg_any_last, ht, Bool.false_and, Bool.or_false]
    | true =>
      rw [sg_pr1 ht] at es
      rw [if_neg (show ¬ ¬ sm_b2 true = 1 from fun z => z rfl), m_pt hsq (by omega) hS.2.2.2.1 hS.2.2.2.2.1, sm_bi, sm_si (by omega) (by omega), show (10 : Int32) = sm_n 10 from rfl, sm_si (by omega) (by omega), sm_mi0 (by omega), sm_mi0 (by omega), hS.2.2.2.2.2, sm_si (by omega) (by omega), show sm_n many + 1 = sm_n (many + 1) from sm_n_add many 1]
      have hS1 := sg_SM_th (t := many) (q := sg_g p s c) hS (by omega) hcl
      obtain ⟨T2, m2, s2, l2, f2, f3, e2⟩ := m_lay7 hsq hg hb l (c + 1) fu (many + 1) _ _ (by omega) (by omega) hS1 (by omega) (by
        intro G
        rw [sg_any_last, sm_up1, sg_any_last, ht, Bool.true_and, ← Bool.or_assoc, ← hL G]
        congr 1
        exact sm_any_cg (fun t _ ht => by rw [sm_up0 (by omega)]))
      refine ⟨T2, m2, s2, l2, fun x => ?_, ?_, e2⟩
      · rw [f2 x]
        unfold sm_mth
        rw [sm_mi0 (by omega), sm_mi0 (by omega), sm_mi0 (by omega)]
      · rw [f3]
        unfold sm_mth
        rw [sm_mi0 (by omega), sm_mi0 (by omega), sm_mi0 (by omega)]
theorem sg_mf_may {g j : Nat} {T' : Nat → sm_tw} (hsq : sg_sq p s) (hj : j < s * s) (hL : sg_lay n T h p s g (s * s) (n + sg_bc g) T') (ht : g.testBit j = false) : sm_mfree T' R S F (n + sg_bc g) h 10 (sg_g p s j) = sg_may n T R S F h p s g j := by
  obtain ⟨q, hq⟩ : ∃ q, q = sg_g p s j := ⟨_, rfl⟩
  have e1 : sm_has (n + sg_bc g) T' (sg_g p s j) = sm_has n T (sg_g p s j) := by
    have := hL (fun B => B.1 == sg_g p s j)
    unfold sm_has
    rw [this]
    have e0 : sm_any (s * s) 0 (fun i => g.testBit i && (sg_A h (sg_g p s i)).1 == sg_g p s j) = false := by
      rw [Bool.eq_false_iff, ne_eq, sm_any_iff]
      rintro ⟨i, _, hi, hh⟩
      have hh : (g.testBit i && (sg_g p s i) == sg_g p s j) = true := hh
      rw [Bool.and_eq_true, beq_iff_eq] at hh
      by_cases e : i = j
      · rw [e, ht] at hh; exact Bool.false_ne_true hh.1
      · exact sg_inj hsq (show i < s * s by omega) hj e hh.2
    rw [e0, Bool.or_false]
  have e2 : sm_ng (n + sg_bc g) (sm_up T' (n + sg_bc g) (sg_g p s j, h, 0, 10)) R S F (n + sg_bc g) = (sm_any n 0 (fun t => sg_gg R S F (T t) (sg_A h (sg_g p s j))) || sm_any (s * s) 0 (fun i => g.testBit i && !(i == j) && sg_C R S F h p s i j)) := by
    rw [sg_ng_any]
    have a := hL (fun B => sg_gg R S F B (sg_A h (sg_g p s j)))
    have b : sm_any (n + sg_bc g) 0 (fun t => sg_gg R S F (sm_up T' (n + sg_bc g) (sg_g p s j, h, 0, 10) t) (sm_up T' (n + sg_bc g) (sg_g p s j, h, 0, 10) (n + sg_bc g))) = sm_any (n + sg_bc g) 0 (fun t => sg_gg R S F (T' t) (sg_A h (sg_g p s j))) := by
      refine sm_any_cg (fun t _ ht => ?_)
      rw [sm_up1, sm_up0 (by omega)]
      rfl
    rw [b, a]
    congr 1
    refine sm_any_cg (fun i _ hi => ?_)
    show (g.testBit i && sg_C R S F h p s i j) = (g.testBit i && !(i == j) && sg_C R S F h p s i j)
    by_cases e : i = j
    · rw [e, ht]; simp
    · rw [beq_eq_false_iff_ne.mpr e]; simp
  unfold sm_mfree sg_may sg_op
  rw [e1, e2, ht]
  cases sm_has n T (sg_g p s j) <;> cases sm_hc R (sg_g p s j) <;> cases sm_any n 0 (fun t => sg_gg R S F (T t) (sg_A h (sg_g p s j))) <;> simp
def sg_i1 (b : Bool) : Int32 := if b = true then 1 else 0
theorem m_look31 {g : Nat} (hsq : sg_sq p s) (hg : g < 2 ^ (s * s)) (hb : n + sg_bc g < 10) (tab : Nat → Bool) (ok : Nat → Bool) (hok : ∀ c, ok c = sg_ok (sg_may n T R S F h p s) tab g c) : ∀ (j l fu : Nat) (T' : Nat → sm_tw) (m : gk_M), j + l = s * s → j < fu → sg_SM n T R S F h p s m0 T' m → sg_lay n T h p s g (s * s) (n + sg_bc g) T' → (∀ x, g < x → x < 2 ^ (s * s) → n + sg_bc x ≤ 10 → m.1 18 x = sg_w (tab x)) → m.1 18 g = (if (sm_f1 l j (sm_fi ok)).isSome = true then 1 else 2) → m.1 0 35 = sg_o p s (sm_f1 l j (sm_fi ok)) → ∃ T2 m', sg_SM n T R S F h p s m0 T2 m' ∧ (∀ x, x ≠ g → m'.1 18 x = m.1 18 x) ∧ m'.1 18 g = (if (sm_f1 (s * s) 0 (sm_fi ok)).isSome = true then 1 else 2) ∧ m'.1 0 35 = sg_o p s (sm_f1 (s * s) 0 (sm_fi ok)) ∧ f_M_looksAt_31 fu (sm_n g) (sm_n (n + sg_bc g)) (sm_i ((j : Int) - 1)) m = some ((), m')
  | 0, l, fu + 1, T', m, h1, h3, hS, hL, hw, h18, h35 => by
    have e : l = s * s := by omega
    subst e
    refine ⟨T', m, hS, fun _ _ => rfl, h18, h35, ?_⟩
    unfold f_M_looksAt_31
    rw [if_pos (show sm_i (((0 : Nat) : Int) - 1) < 0 by decide)]
  | j + 1, l, fu + 1, T', m, h1, h3, hS, hL, hw, h18, h35 => by
    have h9 := sg_9 hsq
    have hN := sg_N hsq
    have hpl := sg_glt hsq (show j < s * s by omega)
    have e1 : sm_i (((j + 1 : Nat) : Int) - 1) = sm_n j := by rw [sm_ni]; congr 1; omega
    have no : ok j = false → ∀ (T2 : Nat → sm_tw) (m2 : gk_M), sg_SM n T R S F h p s m0 T2 m2 → sg_lay n T h p s g (s * s) (n + sg_bc g) T2 → (∀ x, m2.1 18 x = m.1 18 x) → m2.1 0 35 = m.1 0 35 → ∃ T3 m', sg_SM n T R S F h p s m0 T3 m' ∧ (∀ x, x ≠ g → m'.1 18 x = m.1 18 x) ∧ m'.1 18 g = (if (sm_f1 (s * s) 0 (sm_fi ok)).isSome = true then 1 else 2) ∧ m'.1 0 35 = sg_o p s (sm_f1 (s * s) 0 (sm_fi ok)) ∧ f_M_looksAt_31 fu (sm_n g) (sm_n (n + sg_bc g)) (sm_n j + (-1)) m2 = some ((), m') := by
      intro ho T2 m2 s2 l2 w2 f2
      rw [sv_dn]
      obtain ⟨T3, m3, a, b, c, d, e⟩ := m_look31 hsq hg hb tab ok hok j (l + 1) fu T2 m2 (by omega) (by omega) s2 l2 (fun x x1 x2 x3 => (w2 x).trans (hw x x1 x2 x3)) (by rw [w2, sm_f1n (sm_fi0 ho)]; exact h18) (by rw [f2, sm_f1n (sm_fi0 ho)]; exact h35)
      exact ⟨T3, m3, a, fun x hx => (b x hx).trans (w2 x), c, d, e⟩
    unfold f_M_looksAt_31 f_M_looksAt_72 f_M_looksAt_73
    rw [e1, if_neg (sm_nn (by omega)), if_neg (show ¬ 10 ≤ sm_n (n + sg_bc g) by simp (disch := omega) only [sm_lit, sm_nlt, sm_nle, sm_neq, sm_n_add, sm_n_mul, sm_n_div, sm_n_rem, sm_bi, sm_bl, sm_bv, sm_let, sm_zz0, sm_zz1, sm_ai, sm_si, sm_al, sm_sl, sm_ar, sm_mi1, sm_mi0, sm_ml1, sm_ml0, sm_mil, sm_mli]; omega), sm_bit2 (by omega) (by omega)]
    cases ht : g.testBit j with
    | true =>
      rw [if_pos (show ¬ sm_b2 true = 0 by decide), if_pos (show (0 : Int32) = 0 from rfl)]
      refine no ?_ T' m hS hL (fun _ => rfl) rfl
      rw [hok]
      unfold sg_ok sg_may
      rw [ht]; simp
    | false =>
      rw [if_neg (show ¬ ¬ sm_b2 false = 0 from fun z => z rfl), m_pt hsq (by omega) hS.2.2.2.1 hS.2.2.2.2.1, sm_bi, hS.2.2.2.2.2]
      obtain ⟨m1, q1, ⟨V, v1, v2, v3⟩, _⟩ := m_isFree (s := n + sg_bc g) (p := sg_g p s j) (w := 10) (h := h) (sm_mf0 (n + sg_bc g) hS.1) (by omega) (by omega) hpl (by omega)
      rw [sg_mf_may hsq (by omega) hL ht] at q1
      rw [show f_M_isFree (sm_n (sg_g p s j)) (sm_n (n + sg_bc g)) h 10 m = _ from q1, sm_bi]
      have fr : ∀ k y, k ≠ 13 → k ≠ 5 → k ≠ 6 → k ≠ 7 → (k = 0 → ¬ (19 ≤ y ∧ y ≤ 23)) → m1.1 k y = m.1 k y := fun k y k13 k5 k6 k7 k0 => v2 k y k13 (fun z => k0 z.1 z.2) (fun z => k5 z.1) (fun z => k6 z.1) (fun z => k7 z.1)
      have hS1 : sg_SM n T R S F h p s m0 (sm_up T' (n + sg_bc g) V) m1 := by
        obtain ⟨a, b, c, d, e, f⟩ := hS
        refine ⟨v1, fun u hu => by rw [sm_up0 (by omega)]; exact b u hu, sg_fm_tr c (fun k y k5 k6 k7 k13 _ k0 => fr k y k13 k5 k6 k7 (fun z => (k0 z).1)) (fun y => v3 25 y (by omega)), ?_, ?_, ?_⟩
        · exact (fr 0 32 (by decide) (by decide) (by decide) (by decide) (fun _ => by omega)).trans d
        · exact (fr 0 33 (by decide) (by decide) (by decide) (by decide) (fun _ => by omega)).trans e
        · exact (fr 0 34 (by decide) (by decide) (by decide) (by decide) (fun _ => by omega)).trans f
      have hL1 : sg_lay n T h p s g (s * s) (n + sg_bc g) (sm_up T' (n + sg_bc g) V) := by
        intro G
        rw [← hL G]
        exact sm_any_cg (fun t _ ht => by rw [sm_up0 (by omega)])
      have w1 : ∀ x, m1.1 18 x = m.1 18 x := fun x => fr 18 x (by decide) (by decide) (by decide) (by decide) (fun z => by omega)
      have f1 : m1.1 0 35 = m.1 0 35 := fr 0 35 (by decide) (by decide) (by decide) (by decide) (fun _ => by omega)
      have ok0 := hok j
      unfold sg_ok at ok0
      cases hm : sg_may n T R S F h p s g j with
      | false =>
        rw [hm, Bool.false_and] at ok0
        rw [if_pos (show sm_b2 false = 0 from rfl), if_pos (show (0 : Int32) = 0 from rfl)]
        exact no ok0 _ m1 hS1 hL1 w1 f1
      | true =>
        rw [hm, Bool.true_and] at ok0
        obtain ⟨r1, r2⟩ := sg_or ⟨g, by omega⟩ ⟨j, by omega⟩ ht
        have r1 : g ||| 2 ^ j = g + 2 ^ j := r1
        have r2 : sg_bc (g ||| 2 ^ j) = sg_bc g + 1 := r2
        have hpos : 0 < 2 ^ j := Nat.two_pow_pos j
        have hlt := sg_orlt hg (show j < s * s by omega)
        rw [if_neg (show ¬ sm_b2 true = 0 by decide), if_neg (show ¬ (1 : Int32) = 0 by decide), sm_shl (by omega), sm_bor, sm_ai (by omega) (by omega), w1, hw _ (by omega) hlt (by omega)]
        cases htb : tab (g ||| 2 ^ j) with
        | true =>
          rw [htb] at ok0
          rw [if_pos (show ¬ sg_w true = 2 by decide)]
          exact no ok0 _ m1 hS1 hL1 w1 f1
        | false =>
          rw [htb] at ok0
          have ok1 : ok j = true := ok0
          rw [if_neg (show ¬ ¬ sg_w false = 2 from fun z => z rfl), sm_si (by omega) (by omega), m_pt hsq (by omega) ((sm_mi0 (by omega)).trans hS1.2.2.2.1) ((sm_mi0 (by omega)).trans hS1.2.2.2.2.1), sm_bi, sm_let, sv_dn]
          obtain ⟨T3, m3, a, b, c, d, e⟩ := m_look31 hsq hg hb tab ok hok j (l + 1) fu _ (gk_mi (gk_mi m1 18 g 1) 0 35 (sm_n (sg_g p s j))) (by omega) (by omega) (sg_SM_w (sg_SM_w hS1 (Or.inl rfl)) (Or.inr ⟨rfl, rfl⟩)) hL1 (fun x x1 x2 x3 => by rw [sm_mi0 (by omega), sm_mi0 (by omega), w1]; exact hw x x1 x2 x3) (by rw [sm_f1s (sm_fi1 ok1), sm_mi0 (by omega), sm_mi1]; rfl) (by rw [sm_f1s (sm_fi1 ok1), sm_mi1]; rfl)
          refine ⟨T3, m3, a, fun x hx => ?_, c, d, e⟩
          rw [b x hx, sm_mi0 (by omega), sm_mi0 (by omega), w1]
theorem m_looksAt {g : Nat} {T' : Nat → sm_tw} (hsq : sg_sq p s) (hg : g < 2 ^ (s * s)) (hb : n + sg_bc g ≤ 10) (tab : Nat → Bool) (hS : sg_SM n T R S F h p s m0 T' m) (hw : ∀ x, g < x → x < 2 ^ (s * s) → n + sg_bc x ≤ 10 → m.1 18 x = sg_w (tab x)) : ∃ T2 m', sg_SM n T R S F h p s m0 T2 m' ∧ (∀ x, x ≠ g → m'.1 18 x = m.1 18 x) ∧ m'.1 18 g = sg_w (sg_1 (sg_may n T R S F h p s) n (s * s) tab g).isSome ∧ m'.1 0 35 = sg_o p s (sg_1 (sg_may n T R S F h p s) n (s * s) tab g) ∧ f_M_looksAt (sm_n g) m = some ((), m') := by
  have h9 := sg_9 hsq
  have hN := sg_N hsq
  have hs2 : 2 ≤ s ∧ s ≤ 3 := by have := hsq.2.1; omega
  have hS1 := sg_SM_w (k := 0) (j := 35) (v := -2) (sg_SM_w (k := 18) (j := g) (v := 2) hS (Or.inl rfl)) (Or.inr ⟨rfl, rfl⟩)
  obtain ⟨T2, m2, s2, l2, w2, f2, e2⟩ := m_lay7 hsq hg hb (s * s) 0 gk_fv n T' _ (by omega) (by rw [gk_fv_eq]; omega) hS1 (by rfl) (by
    intro G
    show sm_any n 0 (fun t => G (T' t)) = (sm_any n 0 (fun t => G (T t)) || false)
    rw [Bool.or_false]
    exact sm_any_cg (fun t _ ht => by rw [hS.2.1 t (by omega)]))
  have hw2 : ∀ x, x ≠ g → m2.1 18 x = m.1 18 x := by
    intro x hx
    rw [w2, sm_mi0 (by omega), sm_mi0 (by omega)]
  have hg2 : m2.1 18 g = 2 := by rw [w2, sm_mi0 (by omega), sm_mi1]
  have h35 : m2.1 0 35 = -2 := by rw [f2, sm_mi1]
  unfold f_M_looksAt f_M_laysOut
  rw [sm_si (by omega) (by omega), sm_let, sm_let, hS1.1.1, show f_M_laysOut_7 gk_fv (sm_n g) (sm_n n) 0 (gk_mi (gk_mi m 18 g 2) 0 35 (-2)) = _ from e2, sm_bi, sm_let, s2.2.2.2.2.1, sm_n_mul, show sm_n (s * s) - 1 = sm_i (((s * s : Nat) : Int) - 1) by rw [sm_ni, show (1 : Int32) = sm_i 1 from rfl, sm_i_sub]]
  by_cases hlt : n + sg_bc g < 10
  · obtain ⟨T3, m3, a, b, c, d, e⟩ := m_look31 hsq hg hlt tab _ (fun _ => rfl) (s * s) 0 gk_fv T2 m2 (by omega) (by rw [gk_fv_eq]; omega) s2 l2 (fun x x1 x2 x3 => (hw2 x (by omega)).trans (hw x x1 x2 x3)) hg2 h35
    refine ⟨T3, m3, a, fun x hx => (b x hx).trans (hw2 x hx), ?_, ?_, e⟩
    · rw [c]
      unfold sg_1 sg_w
      rw [if_pos hlt]
    · rw [d]
      unfold sg_1
      rw [if_pos hlt]
  · have e1 : sg_1 (sg_may n T R S F h p s) n (s * s) tab g = none := if_neg hlt
    refine ⟨T2, m2, s2, hw2, ?_, ?_, ?_⟩
    · rw [hg2, e1]; rfl
    · rw [h35, e1]; rfl
    · rw [gk_fv_eq]
      rw [f_M_looksAt_31]
      rw [show sm_i (((s * s : Nat) : Int) - 1) = sm_n (s * s - 1) by rw [sm_ni]; congr 1; omega, if_neg (sm_nn (by omega)), if_pos (show 10 ≤ sm_n (n + sg_bc g) by simp (disch := omega) only [sm_lit, sm_nlt, sm_nle, sm_neq, sm_n_add, sm_n_mul, sm_n_div, sm_n_rem, sm_bi, sm_bl, sm_bv, sm_let, sm_zz0, sm_zz1, sm_ai, sm_si, sm_al, sm_sl, sm_ar, sm_mi1, sm_mi0, sm_ml1, sm_ml0, sm_mil, sm_mli]; omega)]
theorem m_97 {w : Nat} (hsq : sg_sq p s) (hn : n ≤ 10) (hw2 : w < 2) (tab : Nat → Nat → Bool) (ht : tab = sg_tab (sg_may n T R S F h p s) n (s * s) (2 ^ (s * s))) (o : Option Nat) (ho : o = sg_1 (sg_may n T R S F h p s) n (s * s) (tab (2 ^ (s * s) - 1)) 0) : ∀ (g l fu : Nat) (T' : Nat → sm_tw) (m : gk_M), g + l = 2 ^ (s * s) → g < fu → sg_SM n T R S F h p s m0 T' m → (∀ x, g ≤ x → x < 2 ^ (s * s) → n + sg_bc x ≤ 10 → m.1 18 x = sg_w (tab l x)) → (g = 0 → m.1 18 0 = sg_w o.isSome ∧ m.1 0 35 = sg_o p s o) → ∃ T2 m', sg_SM n T R S F h p s m0 T2 m' ∧ f_M_game_97 fu (sm_n w) (sm_i ((g : Int) - 1)) m = some (if w = 0 then sg_i1 o.isSome else sg_o p s o, m')
  | 0, l, fu + 1, T', m, h1, h3, hS, hx, h0 => by
    obtain ⟨a, b⟩ := h0 rfl
    refine ⟨T', m, hS, ?_⟩
    unfold f_M_game_97
    rw [if_pos (show sm_i (((0 : Nat) : Int) - 1) < 0 by decide), b]
    by_cases hw0 : w = 0
    · rw [if_neg (show ¬ ¬ sm_n w = 0 by rw [hw0]; exact fun z => z rfl), if_pos hw0, show (0 : Int32) = sm_n 0 from rfl, sm_ai (by omega) (by omega), a]
      cases o.isSome with
      | true => rw [if_neg (show ¬ ¬ sg_w true = 1 from fun z => z rfl)]; rfl
      | false => rw [if_pos (show ¬ sg_w false = 1 by decide)]; rfl
    · rw [if_pos (sm_w0 hw2 hw0), if_neg hw0]
  | g + 1, l, fu + 1, T', m, h1, h3, hS, hx, h0 => by
    have hN := sg_N hsq
    have hb9 := sg_bc10 ⟨g, by omega⟩
    have hb9 : sg_bc g ≤ 9 := hb9
    have e1 : sm_i (((g + 1 : Nat) : Int) - 1) = sm_n g := by rw [sm_ni]; congr 1; omega
    have hat := sg_tab_at (sg_may n T R S F h p s) n (s * s) (2 ^ (s * s)) l
    rw [← ht, show 2 ^ (s * s) - 1 - l = g by omega] at hat
    have hne : ∀ x, x ≠ g → tab (l + 1) x = tab l x := by
      intro x hxg
      have := sg_tab_ne (sg_may n T R S F h p s) n (s * s) (2 ^ (s * s)) l (g := x) (by omega)
      rw [← ht] at this
      exact this
    have eb := m_bits (m := m) gk_fv g 0 (by omega) (by rw [gk_fv_eq]; omega)
    rw [Nat.zero_add] at eb
    unfold f_M_game_97
    rw [e1, if_neg (sm_nn (by omega)), show f_M_bitsOf (sm_n g) m = some (sm_n (sg_bc g), m) from eb, sm_bi, hS.1.1, sm_n_add, sv_dn]
    by_cases hc : 10 < n + sg_bc g
    · have hg0 : g ≠ 0 := by
        intro z
        rw [z, sg_bc0] at hc
        omega
      rw [if_pos (show (10 : Int32) < sm_n (n + sg_bc g) by simp (disch := omega) only [sm_lit, sm_nlt, sm_nle, sm_neq, sm_n_add, sm_n_mul, sm_n_div, sm_n_rem, sm_bi, sm_bl, sm_bv, sm_let, sm_zz0, sm_zz1, sm_ai, sm_si, sm_al, sm_sl, sm_ar, sm_mi1, sm_mi0, sm_ml1, sm_ml0, sm_mil, sm_mli]; omega)]
      refine m_97 hsq hn hw2 tab ht o ho g (l + 1) fu T' m (by omega) (by omega) hS ?_ (fun z => absurd z hg0)
      intro x x1 x2 x3
      have hxg : x ≠ g := by intro z; rw [z] at x3; omega
      rw [hne x hxg]
      exact hx x (by omega) x2 x3
    · obtain ⟨T2, m2, s2, w2, a2, b2, e2⟩ := m_looksAt hsq (show g < 2 ^ (s * s) by omega) (by omega) (tab l) hS (fun x x1 x2 x3 => hx x (by omega) x2 x3)
      rw [if_neg (show ¬ (10 : Int32) < sm_n (n + sg_bc g) by simp (disch := omega) only [sm_lit, sm_nlt, sm_nle, sm_neq, sm_n_add, sm_n_mul, sm_n_div, sm_n_rem, sm_bi, sm_bl, sm_bv, sm_let, sm_zz0, sm_zz1, sm_ai, sm_si, sm_al, sm_sl, sm_ar, sm_mi1, sm_mi0, sm_ml1, sm_ml0, sm_mil, sm_mli]; omega), e2, sm_bv]
      refine m_97 hsq hn hw2 tab ht o ho g (l + 1) fu T2 m2 (by omega) (by omega) s2 ?_ ?_
      · intro x x1 x2 x3
        by_cases z : x = g
        · rw [z, a2, hat]
        · rw [hne x z, w2 x z]
          exact hx x (by omega) x2 x3
      · intro z
        subst z
        have hl : l = 2 ^ (s * s) - 1 := by omega
        rw [hl] at a2 b2
        rw [ho]
        exact ⟨a2, b2⟩
end GM
theorem sg_may_cg {n : Nat} {TX TM : Nat → sm_tw} (hT : rl_T n TX TM) (R : sm_rd) (S : sm_fs) (F : sm_lf) (h : Int32) (p s : Nat) : sg_may n TX R S F h p s = sg_may n TM R S F h p s := by
  funext g j
  have e : sg_op n TX R S F h (sg_g p s j) = sg_op n TM R S F h (sg_g p s j) := by
    unfold sg_op
    rw [sm_has_cg hT, sm_any_cg (f := fun t => sg_gg R S F (TX t) (sg_A h (sg_g p s j))) (g := fun t => sg_gg R S F (TM t) (sg_A h (sg_g p s j))) (fun t _ ht => by rw [hT.1 t (by omega)])]
  unfold sg_may
  rw [e]
theorem c_game {mx mm : gk_M} (hh : rl_ mx mm) (a b c : Int32) : sm_al2 mx mm (f_X_game a b c mx) (f_M_game a b c mm) := by
  obtain ⟨n, TX, TM, R, S, F, nb, hX, hM, hT, hP, hK, hS, hH, hB, hR, hD⟩ := id hh
  have hn := hX.2.1
  unfold f_X_game f_M_game
  rw [x_isPoint, sm_bi, m_isPoint, sm_bi]
  rcases sm_u_cases a 900 (by omega) with ⟨e0, _⟩ | ⟨p, hp, rfl, e3⟩
  · rw [if_pos e0, if_pos e0]; exact sm_al_id hh
  rw [e3, if_neg (show ¬ (1 : Int32) = 0 by decide), if_neg (show ¬ (1 : Int32) = 0 by decide), show f_M_within b.toInt64 20 39 mm = _ from m_within2 (a := b) (b := 20) (c := 39) rfl mm, sm_bi]
  by_cases b1 : b < 20
  · rw [if_pos b1, if_pos b1, if_pos rfl]; exact sm_al_id hh
  rw [if_neg b1, if_neg b1]
  by_cases b2 : 39 < b
  · rw [if_pos b2, if_pos b2, if_pos rfl]; exact sm_al_id hh
  rw [if_neg b2, if_neg b2, if_neg (show ¬ (1 : Int32) = 0 by decide), show f_X_isChoice c 1 mx = _ from x_isChoice (l := 1) c (by omega) mx, sm_bi, m_within (h := 2) (hi := 1) (by omega) rfl, sm_bi]
  rcases sm_u_cases c 2 (by omega) with ⟨e0, _⟩ | ⟨w, hw, rfl, e4⟩
  · rw [if_neg (fun z => z e0), if_pos e0]; exact sm_al_id hh
  have b0 : ¬ b < 0 := by
    rw [sm_lt] at b1 ⊢
    rw [show (0 : Int32).toInt = 0 from rfl]
    rw [show (20 : Int32).toInt = 20 from rfl] at b1
    omega
  obtain ⟨sh, hsh, rfl⟩ := sm_get b0
  rw [show (20 : Int32) = sm_n 20 from rfl, sm_nlt hsh (by omega)] at b1
  rw [show (39 : Int32) = sm_n 39 from rfl, sm_nlt (by omega) hsh] at b2
  rw [if_pos (show ¬ sm_u (sm_n w) (1 + 1) = 0 by rw [e4]; decide), if_neg (show ¬ sm_u (sm_n w) 2 = 0 by rw [e4]; decide), sm_let, show sm_n sh / 10 = sm_n (sh / 10) from sm_n_div (b := 10) (by omega) (by omega), show gk_rem (sm_n sh) 10 = sm_n (sh % 10) from sm_n_rem (b := 10) (by omega) (by omega), show gk_rem (sm_n p) 30 = sm_n (p % 30) from sm_n_rem (b := 30) (by omega) (by omega), show sm_n p / 30 = sm_n (p / 30) from sm_n_div (b := 30) (by omega) (by omega), sm_n_add, sm_n_add]
  by_cases c1 : 30 < p % 30 + sh / 10
  · rw [if_pos (show (30 : Int32) < sm_n (p % 30 + sh / 10) by simp (disch := omega) only [sm_lit, sm_nlt, sm_nle, sm_neq, sm_n_add, sm_n_mul, sm_n_div, sm_n_rem, sm_bi, sm_bl, sm_bv, sm_let, sm_zz0, sm_zz1, sm_ai, sm_si, sm_al, sm_sl, sm_ar, sm_mi1, sm_mi0, sm_ml1, sm_ml0, sm_mil, sm_mli]; omega), if_pos (show (30 : Int32) < sm_n (p % 30 + sh / 10) by simp (disch := omega) only [sm_lit, sm_nlt, sm_nle, sm_neq, sm_n_add, sm_n_mul, sm_n_div, sm_n_rem, sm_bi, sm_bl, sm_bv, sm_let, sm_zz0, sm_zz1, sm_ai, sm_si, sm_al, sm_sl, sm_ar, sm_mi1, sm_mi0, sm_ml1, sm_ml0, sm_mil, sm_mli]; omega)]; exact sm_al_id hh
  rw [if_neg (show ¬ (30 : Int32) < sm_n (p % 30 + sh / 10) by simp (disch := omega) only [sm_lit, sm_nlt, sm_nle, sm_neq, sm_n_add, sm_n_mul, sm_n_div, sm_n_rem, sm_bi, sm_bl, sm_bv, sm_let, sm_zz0, sm_zz1, sm_ai, sm_si, sm_al, sm_sl, sm_ar, sm_mi1, sm_mi0, sm_ml1, sm_ml0, sm_mil, sm_mli]; omega), if_neg (show ¬ (30 : Int32) < sm_n (p % 30 + sh / 10) by simp (disch := omega) only [sm_lit, sm_nlt, sm_nle, sm_neq, sm_n_add, sm_n_mul, sm_n_div, sm_n_rem, sm_bi, sm_bl, sm_bv, sm_let, sm_zz0, sm_zz1, sm_ai, sm_si, sm_al, sm_sl, sm_ar, sm_mi1, sm_mi0, sm_ml1, sm_ml0, sm_mil, sm_mli]; omega)]
  by_cases c2 : p / 30 + sh / 10 ≤ 30
  · rw [if_pos (show sm_n (p / 30 + sh / 10) ≤ (30 : Int32) by simp (disch := omega) only [sm_lit, sm_nlt, sm_nle, sm_neq, sm_n_add, sm_n_mul, sm_n_div, sm_n_rem, sm_bi, sm_bl, sm_bv, sm_let, sm_zz0, sm_zz1, sm_ai, sm_si, sm_al, sm_sl, sm_ar, sm_mi1, sm_mi0, sm_ml1, sm_ml0, sm_mil, sm_mli]; omega), if_pos (show sm_n (p / 30 + sh / 10) ≤ (30 : Int32) by simp (disch := omega) only [sm_lit, sm_nlt, sm_nle, sm_neq, sm_n_add, sm_n_mul, sm_n_div, sm_n_rem, sm_bi, sm_bl, sm_bv, sm_let, sm_zz0, sm_zz1, sm_ai, sm_si, sm_al, sm_sl, sm_ar, sm_mi1, sm_mi0, sm_ml1, sm_ml0, sm_mil, sm_mli]; omega)]
    obtain ⟨s, hs⟩ : ∃ s, s = sh / 10 := ⟨_, rfl⟩
    obtain ⟨hi, hhi⟩ : ∃ x, x = sm_n (sh % 10) := ⟨_, rfl⟩
    rw [← hs] at c1 c2
    rw [← hs, ← hhi]
    have hsq : sg_sq p s := ⟨hp, by omega, by omega, by omega⟩
    have h9 := sg_9 hsq
    have hN := sg_N hsq
    obtain ⟨m1, m2, m3, T3, e1, e2, e3, s3⟩ := x_play (h := hi) hX hsq
    have hM1 : sm_M n TM R S F (gk_mi (gk_mi (gk_mi mm 0 32 (sm_n p)) 0 33 (sm_n s)) 0 34 hi) := sm_M_fr (by intro k j h; unfold sm_fM at h; simp (disch := omega) only [sm_mi0, sm_mil, sm_mli]) hM
    have SM0 : sg_SM n TM R S F hi p s mm TM (gk_mi (gk_mi (gk_mi mm 0 32 (sm_n p)) 0 33 (sm_n s)) 0 34 hi) := by
      refine ⟨hM1, fun _ _ => rfl, sg_fm_tr (m := mm) ⟨fun _ _ => rfl, fun _ _ _ _ => rfl, fun _ => rfl, fun _ _ _ => rfl, fun _ => rfl⟩ ?_ (fun _ => rfl), ?_, ?_, ?_⟩
      · intro k j _ _ _ _ _ k0
        rw [sm_mi0 (by omega), sm_mi0 (by omega), sm_mi0 (by omega)]
      · rw [sm_mi0 (by omega), sm_mi0 (by omega), sm_mi1]
      · rw [sm_mi0 (by omega), sm_mi1]
      · rw [sm_mi1]
    obtain ⟨T4, m4, s4, e4'⟩ := m_97 (w := w) hsq hn hw _ rfl _ rfl (2 ^ (s * s)) 0 gk_fv TM _ (by omega) (by rw [gk_fv_eq]; omega) SM0 (fun x x1 x2 => by omega) (fun z => by omega)
    rw [e1, sm_bv, e2, sm_bv, e3, sm_bi, sm_let, sm_let, sm_let, sm_let, SM0.2.2.2.2.1, sm_n_mul, sm_shl (by omega), show sm_n (2 ^ (s * s)) - 1 = sm_i (((2 ^ (s * s) : Nat) : Int) - 1) by rw [sm_ni, show (1 : Int32) = sm_i 1 from rfl, sm_i_sub], e4', sg_may_cg hT]
    obtain ⟨o, ho⟩ : ∃ o, o = sg_1 (sg_may n TM R S F hi p s) n (s * s) (sg_tab (sg_may n TM R S F hi p s) n (s * s) (2 ^ (s * s)) (2 ^ (s * s) - 1)) 0 := ⟨_, rfl⟩
    rw [← ho]
    have fin : rl_ m3 m4 := by
      obtain ⟨x1, x2, x3, x4, ⟨f1, f2, f3, f4, f5⟩, _, _⟩ := s3
      obtain ⟨y1, y2, ⟨g1, g2, g3, g4, g5⟩, _, _⟩ := s4
      refine rl_q2 (TX := T3) (TM := T4) x1 f1 f2 f3 f4 f5 y1 g1 g2 g3 g4 g5 ?_ hP hK hS hH hB hR hD
      refine ⟨fun t ht => by rw [x2 t ht, y2 t ht, hT.1 t ht], fun s t h1 h2 => ?_⟩
      rw [x2 s (by omega), x2 t (by omega)]
      exact hT.2 s t h1 h2
    have hoc : ∀ q, o = some q → q < s * s := fun q hq => sg_1_lt (ho.symm.trans hq)
    by_cases hw0 : w = 0
    · rw [if_neg (show ¬ ¬ sm_n w = 0 by rw [hw0]; exact fun z => z rfl), if_pos hw0]
      rcases o with _ | q
      · rw [if_pos (show sg_o p s none < 0 from (by decide : (-2 : Int32) < 0))]
        exact ⟨_, _, _, rfl, rfl, fin⟩
      · have := sg_glt hsq (hoc q rfl)
        rw [if_neg (show ¬ sg_o p s (some q) < 0 from sm_nn (by omega))]
        exact ⟨_, _, _, rfl, rfl, fin⟩
    · rw [if_pos (sm_w0 hw hw0), if_neg hw0]
      rcases o with _ | q
      · rw [if_pos (show sg_o p s none < 0 from (by decide : (-2 : Int32) < 0))]
        exact ⟨_, _, _, rfl, rfl, fin⟩
      · have := sg_glt hsq (hoc q rfl)
        rw [if_neg (show ¬ sg_o p s (some q) < 0 from sm_nn (by omega))]
        exact ⟨_, _, _, rfl, rfl, fin⟩
  · rw [if_neg (show ¬ sm_n (p / 30 + sh / 10) ≤ (30 : Int32) by simp (disch := omega) only [sm_lit, sm_nlt, sm_nle, sm_neq, sm_n_add, sm_n_mul, sm_n_div, sm_n_rem, sm_bi, sm_bl, sm_bv, sm_let, sm_zz0, sm_zz1, sm_ai, sm_si, sm_al, sm_sl, sm_ar, sm_mi1, sm_mi0, sm_ml1, sm_ml0, sm_mil, sm_mli]; omega), if_neg (show ¬ sm_n (p / 30 + sh / 10) ≤ (30 : Int32) by simp (disch := omega) only [sm_lit, sm_nlt, sm_nle, sm_neq, sm_n_add, sm_n_mul, sm_n_div, sm_n_rem, sm_bi, sm_bl, sm_bv, sm_let, sm_zz0, sm_zz1, sm_ai, sm_si, sm_al, sm_sl, sm_ar, sm_mi1, sm_mi0, sm_ml1, sm_ml0, sm_mil, sm_mli]; omega)]; exact sm_al_id hh
