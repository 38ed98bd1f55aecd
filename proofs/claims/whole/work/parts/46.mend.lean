/-! SIM: changes of towers -/
theorem x_forget (m : gk_M) : f_Plain_forgetVerdicts m = some ((), sm_fill m 20 0 0 720) := by
  unfold f_Plain_forgetVerdicts
  rw [x_fillI 20 720 (by omega), sm_bv]
def sm_trc (w : Nat) : Nat := if w = 0 then 10 else if w = 1 then 11 else 12
theorem x_setTrait {m : gk_M} {t w : Nat} (ht : t < 12) (hw : w < 3) (v : Int32) : f_Plain_setTrait (sm_n t) (sm_n w) v m = some ((), sm_fill (gk_mi m (sm_trc w) t v) 20 0 0 720) := by
  unfold f_Plain_setTrait f_Plain_setTrait_36
  simp only [x_forget, sm_bv]
  rcases (by omega : w = 0 ∨ w = 1 ∨ w = 2) with rfl | rfl | rfl
  · rw [if_neg (by decide), sm_si ht (by omega)]; rfl
  · rw [if_pos (by decide), if_neg (by decide), sm_si ht (by omega)]; rfl
  · rw [if_pos (by decide), if_pos (by decide), sm_si ht (by omega)]; rfl
theorem x_trait {m : gk_M} {t w : Nat} (ht : t < 12) (hw : w < 3) : f_Plain_trait (sm_n t) (sm_n w) m = some (m.1 (sm_trc w) t, m) := by
  unfold f_Plain_trait
  rcases (by omega : w = 0 ∨ w = 1 ∨ w = 2) with rfl | rfl | rfl
  · rw [if_neg (by decide), sm_ai ht (by omega)]; rfl
  · rw [if_pos (by decide), if_neg (by decide), sm_ai ht (by omega)]; rfl
  · rw [if_pos (by decide), if_pos (by decide), sm_ai ht (by omega)]; rfl
def sm_tset (w : Nat) (v : Int32) (x : sm_tw) : sm_tw := if w = 0 then (x.1, v, x.2.2.1, x.2.2.2) else if w = 2 then (x.1, x.2.1, v, x.2.2.2) else x
theorem sm_tset1 (w : Nat) (v : Int32) (x : sm_tw) : (sm_tset w v x).1 = x.1 := by
  unfold sm_tset; split
  · rfl
  · split <;> rfl
theorem sm_set {n t w : Nat} {TX TM : Nat → sm_tw} {R : sm_rd} {S : sm_fs} {F : sm_lf} {mx mm : gk_M} {v : Int32} (hX : sm_X n TX R S F mx) (hM : sm_M n TM R S F mm) (hT : rl_T n TX TM) (hP : rl_pr n mx mm) (ht : t < n) (hw : w < 3) (hv : w = 1 → ∃ p, p ≤ 99 ∧ v = sm_n p) :
    ∃ TX' TM', sm_X n TX' R S F (sm_fill (gk_mi mx (sm_trc w) t v) 20 0 0 720) ∧ sm_M n TM' R S F (gk_mi mm 1 (10 * w + t) v) ∧ rl_T n TX' TM' ∧ rl_pr n (sm_fill (gk_mi mx (sm_trc w) t v) 20 0 0 720) (gk_mi mm 1 (10 * w + t) v) := by
  obtain ⟨x1, x2, x3, x4, x5, x6, x7⟩ := hX
  obtain ⟨y1, y2, y3, y4, y5, y6⟩ := hM
  have hc : sm_trc w = 10 ∨ sm_trc w = 11 ∨ sm_trc w = 12 := by
    unfold sm_trc
    rcases (by omega : w = 0 ∨ w = 1 ∨ w = 2) with rfl | rfl | rfl <;> simp
  have fr : ∀ k j, ¬ k = 10 → ¬ k = 11 → ¬ k = 12 → ¬ k = 20 → (sm_fill (gk_mi mx (sm_trc w) t v) 20 0 0 720).1 k j = mx.1 k j := by
    intro k j h1 h2 h3 h4
    rw [sm_fill0 (by omega), sm_mi0 (by omega)]
  refine ⟨sm_up TX t (sm_tset w v (TX t)), sm_up TM t (sm_tset w v (TM t)), ⟨?_, x2, ?_, ?_, ?_, ?_, ?_⟩, ⟨?_, y2, ?_, ?_, ?_, ?_⟩, ⟨?_, ?_⟩, ?_⟩
  · rw [fr _ _ (by omega) (by omega) (by omega) (by omega)]; exact x1
  · intro s hs
    obtain ⟨a, b, c, d, e, f⟩ := x3 s hs
    by_cases est : s = t
    · subst est
      rw [sm_up1]
      unfold sm_xw
      rw [fr 8 _ (by omega) (by omega) (by omega) (by omega), fr 9 _ (by omega) (by omega) (by omega) (by omega), sm_fill0 (by omega), sm_fill0 (by omega), sm_tset1]
      refine ⟨a, b, c, ?_⟩
      rcases (by omega : w = 0 ∨ w = 1 ∨ w = 2) with rfl | rfl | rfl
      · exact ⟨sm_mi1 mx 10 s v, (sm_mi0 (k := 10) (by omega)).trans e, f⟩
      · exact ⟨(sm_mi0 (k := 11) (by omega)).trans d, (sm_mi0 (k := 11) (by omega)).trans e, f⟩
      · exact ⟨(sm_mi0 (k := 12) (by omega)).trans d, sm_mi1 mx 12 s v, f⟩
    · rw [sm_up0 est]
      unfold sm_xw
      rw [fr 8 _ (by omega) (by omega) (by omega) (by omega), fr 9 _ (by omega) (by omega) (by omega) (by omega), sm_fill0 (by omega), sm_fill0 (by omega), sm_mi0 (by omega), sm_mi0 (by omega)]
      exact ⟨a, b, c, d, e, f⟩
  · exact sm_xR_fr (fun k j h => fr k j (by omega) (by omega) (by omega) (by omega)) x4
  · exact sm_xS_fr (fun k j h => fr k j (by omega) (by omega) (by omega) (by omega)) x5
  · exact sm_xF_fr (fun k j h => fr k j (by omega) (by omega) (by omega) (by omega)) x6
  · exact sm_xC_0 (fun j hj => sm_fill1 (by omega))
  · simp (disch := omega) only [sm_mi1, sm_mi0, sm_ml1, sm_ml0, sm_mil, sm_mli]; exact y1
  · intro s hs
    obtain ⟨a, b, c, d, e, f⟩ := y3 s hs
    by_cases est : s = t
    · subst est
      rw [sm_up1]
      unfold sm_mw
      rw [if_pos ht] at c d ⊢
      rw [if_pos ht, sm_tset1]
      unfold sm_tset
      rcases (by omega : w = 0 ∨ w = 1 ∨ w = 2) with rfl | rfl | rfl
      · refine ⟨a, by simp (disch := omega) only [sm_mi1, sm_mi0, sm_ml1, sm_ml0, sm_mil, sm_mli]; exact b, ?_, by simp (disch := omega) only [sm_mi1, sm_mi0, sm_ml1, sm_ml0, sm_mil, sm_mli]; exact d, by simp (disch := omega) only [sm_mi1, sm_mi0, sm_ml1, sm_ml0, sm_mil, sm_mli]; exact e, f⟩
        rw [show 10 * 0 + s = s by omega]; simp (disch := omega) only [sm_mi1, sm_mi0, sm_ml1, sm_ml0, sm_mil, sm_mli]; rfl
      · exact ⟨a, by simp (disch := omega) only [sm_mi1, sm_mi0, sm_ml1, sm_ml0, sm_mil, sm_mli]; exact b, by simp (disch := omega) only [sm_mi1, sm_mi0, sm_ml1, sm_ml0, sm_mil, sm_mli]; exact c, by simp (disch := omega) only [sm_mi1, sm_mi0, sm_ml1, sm_ml0, sm_mil, sm_mli]; exact d, by simp (disch := omega) only [sm_mi1, sm_mi0, sm_ml1, sm_ml0, sm_mil, sm_mli]; exact e, f⟩
      · refine ⟨a, by simp (disch := omega) only [sm_mi1, sm_mi0, sm_ml1, sm_ml0, sm_mil, sm_mli]; exact b, by simp (disch := omega) only [sm_mi1, sm_mi0, sm_ml1, sm_ml0, sm_mil, sm_mli]; exact c, ?_, by simp (disch := omega) only [sm_mi1, sm_mi0, sm_ml1, sm_ml0, sm_mil, sm_mli]; exact e, f⟩
        rw [show 10 * 2 + s = 20 + s by omega]; simp (disch := omega) only [sm_mi1, sm_mi0, sm_ml1, sm_ml0, sm_mil, sm_mli]; rfl
    · rw [sm_up0 est]
      unfold sm_mw
      by_cases sn : s < n
      · rw [if_pos sn] at c d ⊢
        rw [if_pos sn]
        exact ⟨a, by simp (disch := omega) only [sm_mi1, sm_mi0, sm_ml1, sm_ml0, sm_mil, sm_mli]; exact b, by simp (disch := omega) only [sm_mi1, sm_mi0, sm_ml1, sm_ml0, sm_mil, sm_mli]; exact c, by simp (disch := omega) only [sm_mi1, sm_mi0, sm_ml1, sm_ml0, sm_mil, sm_mli]; exact d, by simp (disch := omega) only [sm_mi1, sm_mi0, sm_ml1, sm_ml0, sm_mil, sm_mli]; exact e, f⟩
      · rw [if_neg sn] at c d ⊢
        rw [if_neg sn]
        exact ⟨a, by simp (disch := omega) only [sm_mi1, sm_mi0, sm_ml1, sm_ml0, sm_mil, sm_mli]; exact b, by simp (disch := omega) only [sm_mi1, sm_mi0, sm_ml1, sm_ml0, sm_mil, sm_mli]; exact c, d, by simp (disch := omega) only [sm_mi1, sm_mi0, sm_ml1, sm_ml0, sm_mil, sm_mli]; exact e, f⟩
  · exact sm_mR_fr (by intro k j h; simp (disch := omega) only [sm_mi0, sm_mil, sm_mli]) y4
  · exact sm_mS_fr (by intro k j h; simp (disch := omega) only [sm_mi0, sm_mil, sm_mli]) y5
  · exact sm_mF_fr (by intro k j h; simp (disch := omega) only [sm_mi0, sm_mil, sm_mli]) y6
  · intro s hs
    by_cases est : s = t
    · subst est
      rw [sm_up1, sm_up1, hT.1 s hs]
    · rw [sm_up0 est, sm_up0 est, hT.1 s hs]
  · have e : ∀ s, (sm_up TX t (sm_tset w v (TX t)) s).1 = (TX s).1 := by
      intro s
      by_cases est : s = t
      · subst est; rw [sm_up1, sm_tset1]
      · rw [sm_up0 est]
    intro s u h1 h2
    rw [e, e]
    exact hT.2 s u h1 h2
  · intro s hs
    obtain ⟨p, p1, p2, p3⟩ := hP s hs
    rw [sm_fill0 (by omega)]
    by_cases hw1 : w = 1
    · subst hw1
      by_cases est : s = t
      · subst est
        obtain ⟨q, q1, rfl⟩ := hv rfl
        exact ⟨q, q1, sm_mi1 _ _ _ _, by rw [show 10 * 1 + s = 10 + s by omega]; exact sm_mi1 _ _ _ _⟩
      · exact ⟨p, p1, by simp (disch := omega) only [sm_mi1, sm_mi0, sm_ml1, sm_ml0, sm_mil, sm_mli]; exact p2, by simp (disch := omega) only [sm_mi1, sm_mi0, sm_ml1, sm_ml0, sm_mil, sm_mli]; exact p3⟩
    · have : ¬ sm_trc w = 11 := by
        unfold sm_trc
        rcases (by omega : w = 0 ∨ w = 2) with rfl | rfl <;> simp
      refine ⟨p, p1, by simp (disch := omega) only [sm_mi1, sm_mi0, sm_ml1, sm_ml0, sm_mil, sm_mli]; exact p2, ?_⟩
      rw [sm_mi0 (by omega)]; exact p3
def sm_cpy (m : gk_M) (k k2 s d n : Nat) : gk_M := (fun a => if a = k2 then va_cpy (m.1 k) (m.1 k2) s d n else m.1 a, m.2)
theorem sm_cpy0 {m : gk_M} {k k2 s d n a b : Nat} (h : ¬ a = k2) : (sm_cpy m k k2 s d n).1 a b = m.1 a b := by
  show (if a = k2 then va_cpy (m.1 k) (m.1 k2) s d n else m.1 a) b = _
  rw [if_neg h]
theorem sm_cpy1 (m : gk_M) (k k2 s d n b : Nat) : (sm_cpy m k k2 s d n).1 k2 b = if d ≤ b ∧ b < d + n then m.1 k (s + (b - d)) else m.1 k2 b := by
  show (if k2 = k2 then va_cpy (m.1 k) (m.1 k2) s d n else m.1 k2) b = _
  rw [if_pos rfl]; rfl
theorem sm_ci {β : Type} {mem : gk_M} {k L s k2 L2 d n : Nat} {c : gk_M → Option β} (h1 : s + n ≤ L) (h2 : d + n ≤ L2) (hL : L < 2147483648) (hL2 : L2 < 2147483648) : gk_ci mem k L (sm_n s) k2 L2 (sm_n d) (sm_n n) c = c (sm_cpy mem k k2 s d n) := by
  unfold gk_ci
  rw [sm_ix (by omega), sm_ix (by omega), sm_ix (by omega), if_neg]
  · rfl
  · rintro (z | z | z | z | z)
    · exact sm_nn (by omega) z
    · exact sm_nn (by omega) z
    · exact sm_nn (by omega) z
    · omega
    · omega
def sm_shf (m : gk_M) (i : Nat) : gk_M := (fun a b => if (a = 2 ∨ a = 3 ∨ a = 4) ∧ i ≤ b + 1 ∧ b < 39 then m.1 a (b + 1) else m.1 a b, m.2)
theorem sm_shf1 {m : gk_M} {i a b : Nat} (h : (a = 2 ∨ a = 3 ∨ a = 4) ∧ i ≤ b + 1 ∧ b < 39) : (sm_shf m i).1 a b = m.1 a (b + 1) := if_pos h
theorem sm_shf0 {m : gk_M} {i a b : Nat} (h : ¬ ((a = 2 ∨ a = 3 ∨ a = 4) ∧ i ≤ b + 1 ∧ b < 39)) : (sm_shf m i).1 a b = m.1 a b := if_neg h
theorem m_becomes_26 (a1 a2 a3 : Int32) : ∀ l i fu m, i + l = 40 → 1 ≤ i → l < fu → f_M_becomes_26 fu a1 a2 a3 (sm_n i) m = f_M_becomes_97 a1 a2 a3 (gk_mi (sm_shf m i) 0 5 (m.1 0 5 - 1))
  | 0, i, fu + 1, m, hi, _, _ => by
    unfold f_M_becomes_26
    rw [if_pos (by simp (disch := omega) only [sm_lit, sm_nlt, sm_nle, sm_neq, sm_n_add, sm_n_mul, sm_n_div, sm_n_rem, sm_bi, sm_bl, sm_bv, sm_let, sm_zz0, sm_zz1, sm_ai, sm_si, sm_al, sm_sl, sm_ar, sm_mi1, sm_mi0, sm_ml1, sm_ml0, sm_mil, sm_mli]; omega), sm_let]
    congr 1
    refine Prod.ext (funext fun x => funext fun y => ?_) rfl
    simp only [gk_mi, sm_shf]
    split
    · rfl
    · rw [if_neg (by omega)]
  | l + 1, i, fu + 1, m, hi, h1, hf => by
    unfold f_M_becomes_26
    rw [if_neg (by simp (disch := omega) only [sm_lit, sm_nlt, sm_nle, sm_neq, sm_n_add, sm_n_mul, sm_n_div, sm_n_rem, sm_bi, sm_bl, sm_bv, sm_let, sm_zz0, sm_zz1, sm_ai, sm_si, sm_al, sm_sl, sm_ar, sm_mi1, sm_mi0, sm_ml1, sm_ml0, sm_mil, sm_mli]; omega), sm_ai (by omega) (by omega), show sm_n i - 1 = sm_n (i - 1) from sm_n_sub h1, sm_si (by omega) (by omega), sm_ai (by omega) (by omega), sm_si (by omega) (by omega), sm_ai (by omega) (by omega), sm_si (by omega) (by omega), show sm_n i + 1 = sm_n (i + 1) from sm_n_add i 1, m_becomes_26 a1 a2 a3 l (i + 1) fu _ (by omega) (by omega) (by omega)]
    congr 1
    refine Prod.ext (funext fun x => funext fun y => ?_) rfl
    simp only [gk_mi, sm_shf]
    by_cases c0 : x = 0 ∧ y = 5
    · rw [if_pos c0, if_pos c0, if_neg (by omega), if_neg (by omega), if_neg (by omega)]
    · rw [if_neg c0, if_neg c0]
      by_cases c1 : (x = 2 ∨ x = 3 ∨ x = 4) ∧ i ≤ y + 1 ∧ y < 39
      · rw [if_pos c1]
        by_cases c2 : i + 1 ≤ y + 1
        · rw [if_pos ⟨c1.1, c2, c1.2.2⟩, if_neg (by omega), if_neg (by omega), if_neg (by omega)]
        · rw [if_neg (by omega)]
          have e : y = i - 1 := by omega
          subst e
          rw [show i - 1 + 1 = i by omega]
          rcases c1.1 with rfl | rfl | rfl
          · rw [if_neg (by omega), if_neg (by omega), if_pos (by omega)]
          · rw [if_neg (by omega), if_pos (by omega), if_neg (by omega)]
          · rw [if_pos (by omega), if_neg (by omega), if_neg (by omega)]
      · rw [if_neg c1, if_neg (by omega), if_neg (by omega), if_neg (by omega), if_neg (by omega)]
theorem hist_push {n t w : Nat} {mx mm : gk_M} {was v : Int32} (hH : rl_hist n mx mm) (ht : t < n) (hn : n ≤ 10) (hw : w < 3) (hp : w = 1 → ∃ p q, p ≤ 99 ∧ q ≤ 99 ∧ was = sm_n p ∧ v = sm_n q) (hwas : mm.1 1 (10 * w + t) = was) (hne : ¬ was = v) :
    ∃ mx1 mm1, f_History_note (sm_n t) (sm_n w) was v mx = some ((), mx1) ∧ f_M_becomes (sm_n (10 * w + t)) v mm = some (was, gk_mi mm1 1 (10 * w + t) v) ∧ rl_hist n mx1 mm1 ∧ (∀ k j, ¬ (32 ≤ k ∧ k ≤ 36) → mx1.1 k j = mx.1 k j) ∧ mx1.2 = mx.2 ∧ (∀ k j, ¬ ((k = 0 ∧ (j = 4 ∨ j = 5)) ∨ k = 2 ∨ k = 3 ∨ k = 4) → mm1.1 k j = mm.1 k j) ∧ mm1.2 = mm.2 := by
  obtain ⟨d, k, h1, h2, h3, h4, h5, h6, h7⟩ := hH
  unfold f_History_note f_M_becomes
  rw [sm_ai (by omega) (by omega), hwas, if_pos hne, h3, h5]
  by_cases hd : d = 40
  · subst hd
    rw [if_neg (by decide), if_neg (by decide)]
    unfold f_History_dropOldest
    rw [sm_let, sm_mi1, show (39 : Int32) = sm_n 39 from rfl, show (1 : Int32) = sm_n 1 from rfl, show (0 : Int32) = sm_n 0 from rfl]
    rw [sm_ci (by omega) (by omega) (by omega) (by omega)]
    rw [show (sm_cpy (gk_mi mx 32 0 (sm_n 39)) 33 33 1 0 39).1 32 0 = sm_n 39 by rw [sm_cpy0 (by omega), sm_mi1]]
    rw [sm_ci (by omega) (by omega) (by omega) (by omega)]
    rw [show (sm_cpy (sm_cpy (gk_mi mx 32 0 (sm_n 39)) 33 33 1 0 39) 34 34 1 0 39).1 32 0 = sm_n 39 by rw [sm_cpy0 (by omega), sm_cpy0 (by omega), sm_mi1]]
    rw [sm_ci (by omega) (by omega) (by omega) (by omega)]
    rw [show (sm_cpy (sm_cpy (sm_cpy (gk_mi mx 32 0 (sm_n 39)) 33 33 1 0 39) 34 34 1 0 39) 35 35 1 0 39).1 32 0 = sm_n 39 by rw [sm_cpy0 (by omega), sm_cpy0 (by omega), sm_cpy0 (by omega), sm_mi1]]
    rw [sm_ci (by omega) (by omega) (by omega) (by omega), sm_bv]
    obtain ⟨M, hM⟩ : ∃ M, M = sm_cpy (sm_cpy (sm_cpy (sm_cpy (gk_mi mx 32 0 (sm_n 39)) 33 33 1 0 39) 34 34 1 0 39) 35 35 1 0 39) 36 36 1 0 39 := ⟨_, rfl⟩
    rw [← hM]
    have e32 : M.1 32 0 = sm_n 39 := by rw [hM, sm_cpy0 (by omega), sm_cpy0 (by omega), sm_cpy0 (by omega), sm_cpy0 (by omega), sm_mi1]
    have e33 : ∀ b, b < 39 → M.1 33 b = mx.1 33 (b + 1) := by
      intro b hb
      rw [hM, sm_cpy0 (by omega), sm_cpy0 (by omega), sm_cpy0 (by omega), sm_cpy1, if_pos (by omega), sm_mi0 (by omega)]
      rw [show 1 + (b - 0) = b + 1 by omega]
    have e34 : ∀ b, b < 39 → M.1 34 b = mx.1 34 (b + 1) := by
      intro b hb
      rw [hM, sm_cpy0 (by omega), sm_cpy0 (by omega), sm_cpy1, if_pos (by omega), sm_cpy0 (by omega), sm_mi0 (by omega)]
      rw [show 1 + (b - 0) = b + 1 by omega]
    have e35 : ∀ b, b < 39 → M.1 35 b = mx.1 35 (b + 1) := by
      intro b hb
      rw [hM, sm_cpy0 (by omega), sm_cpy1, if_pos (by omega), sm_cpy0 (by omega), sm_cpy0 (by omega), sm_mi0 (by omega)]
      rw [show 1 + (b - 0) = b + 1 by omega]
    have e36 : ∀ b, b < 39 → M.1 36 b = mx.1 36 (b + 1) := by
      intro b hb
      rw [hM, sm_cpy1, if_pos (by omega), sm_cpy0 (by omega), sm_cpy0 (by omega), sm_cpy0 (by omega), sm_mi0 (by omega)]
      rw [show 1 + (b - 0) = b + 1 by omega]
    have eO : ∀ k j, ¬ (32 ≤ k ∧ k ≤ 36) → M.1 k j = mx.1 k j := by
      intro k j hk
      rw [hM, sm_cpy0 (by omega), sm_cpy0 (by omega), sm_cpy0 (by omega), sm_cpy0 (by omega), sm_mi0 (by omega)]
    have eL : M.2 = mx.2 := by rw [hM]; rfl
    unfold f_History_note_13
    rw [m_becomes_26 _ _ _ 39 1 gk_fv mm (by omega) (by omega) (by rw [gk_fv_eq]; omega), h5, show sm_n 40 - 1 = sm_n 39 from rfl]
    unfold f_M_becomes_97
    simp only [e32]
    simp (disch := omega) only [sm_lit, sm_nlt, sm_nle, sm_neq, sm_n_add, sm_n_mul, sm_n_div, sm_n_rem, sm_bi, sm_bl, sm_bv, sm_let, sm_zz0, sm_zz1, sm_ai, sm_si, sm_al, sm_sl, sm_ar, sm_mi1, sm_mi0, sm_ml1, sm_ml0, sm_mil, sm_mli, e32]
    refine ⟨_, _, rfl, rfl, ?_, ?_, ?_, ?_, ?_⟩
    · refine ⟨40, 40, by omega, by omega, by simp (disch := omega) only [sm_mi1, sm_mi0, sm_ml1, sm_ml0, sm_mil, sm_mli], by simp (disch := omega) only [sm_mi1, sm_mi0, sm_ml1, sm_ml0, sm_mil, sm_mli], by simp (disch := omega) only [sm_mi1, sm_mi0, sm_ml1, sm_ml0, sm_mil, sm_mli], by simp (disch := omega) only [sm_mi1, sm_mi0, sm_ml1, sm_ml0, sm_mil, sm_mli], fun i hi => ?_⟩
      by_cases ei : i = 39
      · subst ei
        simp (disch := omega) only [sm_mi1, sm_mi0, sm_ml1, sm_ml0, sm_mil, sm_mli]
        refine ⟨trivial, trivial, t, w, ht, hw, rfl, rfl, rfl, ?_⟩
        intro hw1
        obtain ⟨p, q, a, b, c, e⟩ := hp hw1
        exact ⟨p, q, a, b, c, e⟩
      · simp (disch := omega) only [sm_mi1, sm_mi0, sm_ml1, sm_ml0, sm_mil, sm_mli]
        rw [e33 i (by omega), e34 i (by omega), e35 i (by omega), e36 i (by omega)]
        rw [sm_shf1 (by omega), sm_shf1 (by omega), sm_shf1 (by omega)]
        exact h7 (i + 1) (by omega)
    · intro k j hk
      simp (disch := omega) only [sm_mi1, sm_mi0, sm_ml1, sm_ml0, sm_mil, sm_mli]
      exact eO k j hk
    · exact eL
    · intro k j hk
      simp (disch := omega) only [sm_mi1, sm_mi0, sm_ml1, sm_ml0, sm_mil, sm_mli]
      rw [sm_shf0 (by omega)]
    · rfl
  · rw [if_pos (by simp (disch := omega) only [sm_lit, sm_nlt, sm_nle, sm_neq, sm_n_add, sm_n_mul, sm_n_div, sm_n_rem, sm_bi, sm_bl, sm_bv, sm_let, sm_zz0, sm_zz1, sm_ai, sm_si, sm_al, sm_sl, sm_ar, sm_mi1, sm_mi0, sm_ml1, sm_ml0, sm_mil, sm_mli]; omega), if_pos (by simp (disch := omega) only [sm_lit, sm_nlt, sm_nle, sm_neq, sm_n_add, sm_n_mul, sm_n_div, sm_n_rem, sm_bi, sm_bl, sm_bv, sm_let, sm_zz0, sm_zz1, sm_ai, sm_si, sm_al, sm_sl, sm_ar, sm_mi1, sm_mi0, sm_ml1, sm_ml0, sm_mil, sm_mli]; exact hd)]
    unfold f_History_note_13 f_M_becomes_97
    simp only [h3, h5]
    simp (disch := omega) only [sm_lit, sm_nlt, sm_nle, sm_neq, sm_n_add, sm_n_mul, sm_n_div, sm_n_rem, sm_bi, sm_bl, sm_bv, sm_let, sm_zz0, sm_zz1, sm_ai, sm_si, sm_al, sm_sl, sm_ar, sm_mi1, sm_mi0, sm_ml1, sm_ml0, sm_mil, sm_mli, h3, h5]
    refine ⟨_, _, rfl, rfl, ?_, ?_, ?_, ?_, ?_⟩
    · refine ⟨d + 1, d + 1, by omega, by omega, by simp (disch := omega) only [sm_mi1, sm_mi0, sm_ml1, sm_ml0, sm_mil, sm_mli], by rw [Nat.sub_self]; simp (disch := omega) only [sm_mi1, sm_mi0, sm_ml1, sm_ml0, sm_mil, sm_mli], by simp (disch := omega) only [sm_mi1, sm_mi0, sm_ml1, sm_ml0, sm_mil, sm_mli], by simp (disch := omega) only [sm_mi1, sm_mi0, sm_ml1, sm_ml0, sm_mil, sm_mli], fun i hi => ?_⟩
      by_cases ei : i = d
      · subst ei
        simp (disch := omega) only [sm_mi1, sm_mi0, sm_ml1, sm_ml0, sm_mil, sm_mli]
        refine ⟨trivial, trivial, t, w, ht, hw, rfl, rfl, rfl, ?_⟩
        intro hw1
        obtain ⟨p, q, a, b, c, e⟩ := hp hw1
        exact ⟨p, q, a, b, c, e⟩
      · simp (disch := omega) only [sm_mi1, sm_mi0, sm_ml1, sm_ml0, sm_mil, sm_mli]
        exact h7 i (by omega)
    · intro k j hk
      simp (disch := omega) only [sm_mi1, sm_mi0, sm_ml1, sm_ml0, sm_mil, sm_mli]
    · rfl
    · intro k j hk
      simp (disch := omega) only [sm_mi1, sm_mi0, sm_ml1, sm_ml0, sm_mil, sm_mli]
    · rfl
theorem m_mend_45 {mm : gk_M} (a1 a2 a3 : Int32) (h : Nat) (hh : h < 2147483648) {hi : Int64} (e : hi = sm_l ((h : Int) - 1)) : f_M_mend_45 a1 a2 a3 a3.toInt64 0 hi mm = if sm_u a3 h = 0 then some (-1, mm) else gk_bi (f_M_becomes (10 * a2 + a1) a3 mm) fun v4 m3 => some (v4, m3) := by
  unfold f_M_mend_45
  rw [m_within hh e, sm_bi]
  by_cases h0 : sm_u a3 h = 0
  · rw [if_pos h0, if_neg (fun z => z h0)]
  · rw [if_neg h0, if_pos h0]
def sm_mx (w : Nat) : Nat := if w = 0 then 10 else if w = 1 then 100 else 2
theorem x_most {m : gk_M} {w : Nat} (hw : w < 3) : f_Plain_most (sm_n w) m = some (sm_n (sm_mx w - 1), m) := by
  rcases (by omega : w = 0 ∨ w = 1 ∨ w = 2) with rfl | rfl | rfl <;> rfl
def sm_prn (w : Nat) (v : Int32) : Prop := w = 1 → ∃ p, p ≤ 99 ∧ v = sm_n p
theorem sm_set_rl {n t w nb : Nat} {TX TM : Nat → sm_tw} {R : sm_rd} {S : sm_fs} {F : sm_lf} {mx mm : gk_M} {v : Int32} (hX : sm_X n TX R S F mx) (hM : sm_M n TM R S F mm) (hT : rl_T n TX TM) (hP : rl_pr n mx mm) (hK : rl_tape mx mm) (hS : rl_sight mx mm) (hH : rl_hist n mx mm) (hB : rl_body nb mx mm) (hR : rl_tr mx mm) (hD : rl_sh nb mx mm) (ht : t < n) (hw : w < 3) (hv : w = 1 → ∃ p, p ≤ 99 ∧ v = sm_n p) :
    rl_ (sm_fill (gk_mi mx (sm_trc w) t v) 20 0 0 720) (gk_mi mm 1 (10 * w + t) v) := by
  have hc : sm_trc w = 10 ∨ sm_trc w = 11 ∨ sm_trc w = 12 := by
    unfold sm_trc
    rcases (by omega : w = 0 ∨ w = 1 ∨ w = 2) with rfl | rfl | rfl <;> simp
  obtain ⟨TX', TM', h1, h2, h3, h4⟩ := sm_set hX hM hT hP ht hw hv
  refine ⟨n, TX', TM', R, S, F, nb, h1, h2, h3, h4, rl_tape_fr ?_ ?_ hK, rl_sight_fr ?_ ?_ hS, rl_hist_fr ?_ ?_ (Nat.le_refl n) hH, rl_body_fr ?_ ?_ hB, rl_tr_fr ?_ ?_ hR, rl_sh_fr (Nat.le_refl nb) ?_ ?_ (by intros; rfl) (by intros; rfl) hD⟩
  all_goals (intro k j h; (try rw [sm_fill0 (by omega)]); simp (disch := omega) only [sm_mi1, sm_mi0, sm_ml1, sm_ml0, sm_mil, sm_mli])
theorem c_mend {mx mm : gk_M} (h : rl_ mx mm) (a b c : Int32) : sm_al2 mx mm (f_X_mend a b c mx) (f_M_mend a b c mm) := by
  obtain ⟨n, TX, TM, R, S, F, nb, hX, hM, hT, hP, hK, hS, hH, hB, hR, hD⟩ := id h
  have hn := hX.2.1
  unfold f_X_mend f_M_mend
  rw [x_isTower a hX.1, sm_bi, m_isTower a (show n < 2147483648 by omega) hM.1, sm_bi]
  rcases sm_u_cases a n (by omega) with ⟨e0, e1⟩ | ⟨t, ht, rfl, e1⟩
  · rw [if_pos e0, if_pos e0]; exact sm_al_id h
  rw [if_neg (show ¬ sm_u (sm_n t) n = 0 by rw [e1]; decide), if_neg (show ¬ sm_u (sm_n t) n = 0 by rw [e1]; decide), sm_in' b (c := 2) 2 (by omega) rfl, m_within (h := 3) (hi := 2) (by omega) rfl, sm_bi]
  rcases sm_u_cases b 3 (by omega) with ⟨e0, e2⟩ | ⟨w, hw, rfl, e2⟩
  · rw [if_pos e0, if_pos e0]; exact sm_al_id h
  rw [if_neg (show ¬ sm_u (sm_n w) 3 = 0 by rw [e2]; decide), if_neg (show ¬ sm_u (sm_n w) 3 = 0 by rw [e2]; decide), x_most hw]
  have hmx : 1 ≤ sm_mx w ∧ sm_mx w ≤ 100 ∧ (w = 1 → sm_mx w = 100) := by
    rcases (by omega : w = 0 ∨ w = 1 ∨ w = 2) with rfl | rfl | rfl <;> decide
  have eM : (if ¬ sm_n w = 0 then if ¬ sm_n w = 1 then f_M_mend_45 (sm_n t) (sm_n w) c c.toInt64 0 1 mm else f_M_mend_45 (sm_n t) (sm_n w) c c.toInt64 0 99 mm else f_M_mend_45 (sm_n t) (sm_n w) c c.toInt64 0 9 mm) = if sm_u c (sm_mx w) = 0 then some (-1, mm) else gk_bi (f_M_becomes (10 * sm_n w + sm_n t) c mm) fun v4 m3 => some (v4, m3) := by
    rcases (by omega : w = 0 ∨ w = 1 ∨ w = 2) with rfl | rfl | rfl
    · rw [if_neg (by decide)]; exact m_mend_45 _ _ _ 10 (by omega) rfl
    · rw [if_pos (by decide), if_neg (by decide)]; exact m_mend_45 _ _ _ 100 (by omega) rfl
    · rw [if_pos (by decide), if_pos (by decide)]; exact m_mend_45 _ _ _ 2 (by omega) rfl
  rw [eM]
  have eX : ∀ (p q : Option (Int32 × gk_M)), (if c < 0 then p else gk_bi (some (sm_n (sm_mx w - 1), mx)) fun v4 m3 => if c ≤ v4 then q else p) = if sm_u c (sm_mx w) = 0 then p else q := by
    intro p q
    rw [sm_bi, sm_in c (sm_mx w - 1) (by omega) rfl, show sm_mx w - 1 + 1 = sm_mx w by omega]
  have ht12 : t < 12 := by omega
  simp only [sm_bi] at eX ⊢
  rw [eX]
  rcases sm_u_cases c (sm_mx w) (by omega) with ⟨e0, e3⟩ | ⟨p, hp, rfl, e3⟩
  · rw [if_pos e0, if_pos e0]; exact sm_al_id h
  rw [if_neg (show ¬ sm_u (sm_n p) (sm_mx w) = 0 by rw [e3]; decide), if_neg (show ¬ sm_u (sm_n p) (sm_mx w) = 0 by rw [e3]; decide), x_trait ht12 hw, sm_bi, show (10 : Int32) = sm_n 10 from rfl, sm_n_mul, sm_n_add]
  have X := hX.2.2.1 t ht12
  have Y := hM.2.2.1 t (by omega)
  have E := hT.1 t ht
  obtain ⟨pp, pp1, pp2, pp3⟩ := hP t ht
  have hwas : mm.1 1 (10 * w + t) = mx.1 (sm_trc w) t := by
    obtain ⟨_, _, _, x1, x2, _⟩ := X
    obtain ⟨_, _, y1, y2, _⟩ := Y
    rw [if_pos ht] at y1 y2
    rcases (by omega : w = 0 ∨ w = 1 ∨ w = 2) with rfl | rfl | rfl
    · rw [show 10 * 0 + t = t by omega, y1]
      show _ = mx.1 10 t
      rw [x1, E]
    · rw [show 10 * 1 + t = 10 + t by omega, pp3]
      show _ = mx.1 11 t
      rw [pp2]
    · rw [show 10 * 2 + t = 20 + t by omega, y2]
      show _ = mx.1 12 t
      rw [x2, E]
  by_cases hne : mx.1 (sm_trc w) t = sm_n p
  · rw [if_pos hne]
    unfold f_M_becomes
    rw [sm_ai (by omega) (by omega), hwas, if_neg (fun z => z hne), sm_bi]
    exact sm_al_id h
  · rw [if_neg hne]
    obtain ⟨mx1, mm1, g1, g2, g3, g4, g5, g6, g7⟩ := hist_push (w := w) (v := sm_n p) hH ht hn hw (by
      rintro rfl
      refine ⟨pp, p, pp1, ?_, pp2, rfl⟩
      have := hmx.2.2 rfl
      omega) hwas hne
    rw [g1, sm_bv, g2, sm_bi, x_setTrait ht12 hw, sm_bv]
    refine ⟨_, _, _, rfl, rfl, ?_⟩
    refine sm_set_rl (nb := nb) (sm_X_fr ?_ hX) (sm_M_fr ?_ hM) hT (rl_pr_fr ?_ ?_ hP) (rl_tape_fr ?_ ?_ hK) (rl_sight_fr ?_ ?_ hS) g3 (rl_body_fr ?_ ?_ hB) (rl_tr_fr ?_ ?_ hR) (rl_sh_fr (Nat.le_refl nb) ?_ ?_ ?_ ?_ hD) ht hw ?_
    rotate_right
    · rintro rfl
      refine ⟨p, ?_, rfl⟩
      have := hmx.2.2 rfl
      omega
    all_goals first
      | (intro k j h; (try unfold sm_fX at h); exact g4 k j (by omega))
      | (intro k j h; (try unfold sm_fM at h); exact g6 k j (by omega))
      | (intros; rw [g5])
      | (intros; rw [g7])
theorem c_undo {mx mm : gk_M} (h : rl_ mx mm) : sm_al2 mx mm (f_X_undo mx) (f_M_undo mm) := by
  obtain ⟨n, TX, TM, R, S, F, nb, hX, hM, hT, hP, hK, hS, ⟨d, k, h1, h2, h3, h4, h5, h6, h7⟩, hB, hR, hD⟩ := id h
  have hn := hX.2.1
  unfold f_X_undo f_M_undo f_History_back
  rw [h3, h5]
  by_cases hd : d = 0
  · subst hd
    rw [if_neg (by decide), if_neg (by decide), sm_bi]
    exact sm_al_id h
  · obtain ⟨a1, a2, t, w, ht, hw, b1, b2, b3, b4⟩ := h7 (d - 1) (by omega)
    have key : sm_prn w (mx.1 35 (d - 1)) := fun hw1 => by
      obtain ⟨p, q, c1, c2, c3, c4⟩ := b4 hw1
      exact ⟨p, c1, c3⟩
    clear b4
    rw [if_pos (by simp (disch := omega) only [sm_lit, sm_nlt, sm_nle, sm_neq, sm_n_add, sm_n_mul, sm_n_div, sm_n_rem, sm_bi, sm_bl, sm_bv, sm_let, sm_zz0, sm_zz1, sm_ai, sm_si, sm_al, sm_sl, sm_ar, sm_mi1, sm_mi0, sm_ml1, sm_ml0, sm_mil, sm_mli]; omega), if_pos (by simp (disch := omega) only [sm_lit, sm_nlt, sm_nle, sm_neq, sm_n_add, sm_n_mul, sm_n_div, sm_n_rem, sm_bi, sm_bl, sm_bv, sm_let, sm_zz0, sm_zz1, sm_ai, sm_si, sm_al, sm_sl, sm_ar, sm_mi1, sm_mi0, sm_ml1, sm_ml0, sm_mil, sm_mli]; exact hd), show sm_n d - 1 = sm_n (d - 1) from sm_n_sub (a := d) (b := 1) (by omega), sm_let, sm_let, sm_let, sm_mi0 (by omega), h4, show sm_n (k - d) + 1 = sm_n (k - d + 1) from sm_n_add _ 1]
    rw [show (gk_mi (gk_mi mx 32 0 (sm_n (d - 1))) 32 1 (sm_n (k - d + 1))).1 32 0 = sm_n (d - 1) by simp (disch := omega) only [sm_mi1, sm_mi0, sm_ml1, sm_ml0, sm_mil, sm_mli], sm_ai (by omega) (by omega), sm_ai (by omega) (by omega), sm_ai (by omega) (by omega), sm_mi1, sm_ai (by omega) (by omega), sm_ai (by omega) (by omega)]
    simp (disch := omega) only [sm_mi0, b1, b2, b3]
    rw [x_setTrait (by omega) hw, sm_bv, sm_si (by omega) (by omega), sm_bi]
    have hc : sm_trc w = 10 ∨ sm_trc w = 11 ∨ sm_trc w = 12 := by
      unfold sm_trc
      rcases (by omega : w = 0 ∨ w = 1 ∨ w = 2) with rfl | rfl | rfl <;> simp
    have e1 : ∀ v, (sm_fill (gk_mi (gk_mi (gk_mi mx 32 0 (sm_n (d - 1))) 32 1 (sm_n (k - d + 1))) (sm_trc w) t v) 20 0 0 720).1 32 0 = sm_n (d - 1) := by
      intro v
      rw [sm_fill0 (by omega), sm_mi0 (by omega), sm_mi0 (by omega), sm_mi1]
    have e2 : ∀ v, (gk_mi (gk_mi mm 0 5 (sm_n (d - 1))) 1 (10 * w + t) v).1 0 5 = sm_n (d - 1) := by
      intro v
      rw [sm_mi0 (by omega), sm_mi1]
    rw [e1, e2]
    refine ⟨_, _, _, rfl, rfl, ?_⟩
    · rw [← a1]
      refine sm_set_rl (nb := nb) (sm_X_fr (by intro k j h; unfold sm_fX at h; simp (disch := omega) only [sm_mi0, sm_mil, sm_mli]) hX) (sm_M_fr (by intro k j h; unfold sm_fM at h; simp (disch := omega) only [sm_mi0, sm_mil, sm_mli]) hM) hT (rl_pr_fr (by intro k j h; simp (disch := omega) only [sm_mi0, sm_mil, sm_mli]) (by intro k j h; simp (disch := omega) only [sm_mi0, sm_mil, sm_mli]) hP) (rl_tape_fr (by intro k j h; simp (disch := omega) only [sm_mi0, sm_mil, sm_mli]) (by intro k j h; simp (disch := omega) only [sm_mi0, sm_mil, sm_mli]) hK) (rl_sight_fr (by intro k j h; simp (disch := omega) only [sm_mi0, sm_mil, sm_mli]) (by intro k j h; simp (disch := omega) only [sm_mi0, sm_mil, sm_mli]) hS) ?_ (rl_body_fr (by intro k j h; simp (disch := omega) only [sm_mi0, sm_mil, sm_mli]) (by intro k j h; simp (disch := omega) only [sm_mi0, sm_mil, sm_mli]) hB) (rl_tr_fr (by intro k j h; simp (disch := omega) only [sm_mi0, sm_mil, sm_mli]) (by intro k j h; simp (disch := omega) only [sm_mi0, sm_mil, sm_mli]) hR) (rl_sh_fr (Nat.le_refl nb) (by intro k j h; simp (disch := omega) only [sm_mi0, sm_mil, sm_mli]) (by intro k j h; simp (disch := omega) only [sm_mi0, sm_mil, sm_mli]) (by intros; rfl) (by intros; rfl) hD) ht hw ?_
      · refine ⟨d - 1, k, by omega, h2, by simp (disch := omega) only [sm_mi1, sm_mi0, sm_ml1, sm_ml0, sm_mil, sm_mli], ?_, by simp (disch := omega) only [sm_mi1, sm_mi0, sm_ml1, sm_ml0, sm_mil, sm_mli], by simp (disch := omega) only [sm_mi1, sm_mi0, sm_ml1, sm_ml0, sm_mil, sm_mli]; exact h6, fun i hi => ?_⟩
        · simp (disch := omega) only [sm_mi1, sm_mi0, sm_ml1, sm_ml0, sm_mil, sm_mli]
          congr 1; omega
        · simp (disch := omega) only [sm_mi1, sm_mi0, sm_ml1, sm_ml0, sm_mil, sm_mli]
          exact h7 i hi
      · exact key
theorem c_redo {mx mm : gk_M} (h : rl_ mx mm) : sm_al2 mx mm (f_X_redo mx) (f_M_redo mm) := by
  obtain ⟨n, TX, TM, R, S, F, nb, hX, hM, hT, hP, hK, hS, ⟨d, k, h1, h2, h3, h4, h5, h6, h7⟩, hB, hR, hD⟩ := id h
  have hn := hX.2.1
  unfold f_X_redo f_M_redo f_History_forth
  rw [h3, h4, h5, h6]
  by_cases hd : d = k
  · subst hd
    rw [if_pos (by rw [Nat.sub_self]; decide), if_neg (fun z => z rfl), sm_bi]
    exact sm_al_id h
  · obtain ⟨a1, a2, t, w, ht, hw, b1, b2, b3, b4⟩ := h7 d (by omega)
    have key : sm_prn w (mx.1 36 d) := fun hw1 => by
      obtain ⟨p, q, c1, c2, c3, c4⟩ := b4 hw1
      exact ⟨q, c2, c4⟩
    clear b4
    rw [if_neg (by simp (disch := omega) only [sm_lit, sm_nlt, sm_nle, sm_neq, sm_n_add, sm_n_mul, sm_n_div, sm_n_rem, sm_bi, sm_bl, sm_bv, sm_let, sm_zz0, sm_zz1, sm_ai, sm_si, sm_al, sm_sl, sm_ar, sm_mi1, sm_mi0, sm_ml1, sm_ml0, sm_mil, sm_mli]; omega), if_pos (by simp (disch := omega) only [sm_lit, sm_nlt, sm_nle, sm_neq, sm_n_add, sm_n_mul, sm_n_div, sm_n_rem, sm_bi, sm_bl, sm_bv, sm_let, sm_zz0, sm_zz1, sm_ai, sm_si, sm_al, sm_sl, sm_ar, sm_mi1, sm_mi0, sm_ml1, sm_ml0, sm_mil, sm_mli]; omega), if_pos (by simp (disch := omega) only [sm_lit, sm_nlt, sm_nle, sm_neq, sm_n_add, sm_n_mul, sm_n_div, sm_n_rem, sm_bi, sm_bl, sm_bv, sm_let, sm_zz0, sm_zz1, sm_ai, sm_si, sm_al, sm_sl, sm_ar, sm_mi1, sm_mi0, sm_ml1, sm_ml0, sm_mil, sm_mli]; exact hd), sm_ai (by omega) (by omega), sm_ai (by omega) (by omega), sm_ai (by omega) (by omega), sm_ai (by omega) (by omega), sm_ai (by omega) (by omega), b1, b2, b3, x_setTrait (by omega) hw, sm_bv, sm_si (by omega) (by omega)]
    have hc : sm_trc w = 10 ∨ sm_trc w = 11 ∨ sm_trc w = 12 := by
      unfold sm_trc
      rcases (by omega : w = 0 ∨ w = 1 ∨ w = 2) with rfl | rfl | rfl <;> simp
    obtain ⟨Mx, eMx⟩ : ∃ Mx, Mx = sm_fill (gk_mi mx (sm_trc w) t (mx.1 36 d)) 20 0 0 720 := ⟨_, rfl⟩
    obtain ⟨Mm, eMm⟩ : ∃ Mm, Mm = gk_mi mm 1 (10 * w + t) (mm.1 4 d) := ⟨_, rfl⟩
    have e1 : Mx.1 32 0 = sm_n d := by rw [eMx, sm_fill0 (by omega), sm_mi0 (by omega), h3]
    have e2 : Mx.1 32 1 = sm_n (k - d) := by rw [eMx, sm_fill0 (by omega), sm_mi0 (by omega), h4]
    have e3 : Mm.1 0 5 = sm_n d := by rw [eMm, sm_mi0 (by omega), h5]
    have e4 : Mm.1 0 4 = sm_n k := by rw [eMm, sm_mi0 (by omega), h6]
    rw [← eMx, ← eMm]
    simp (disch := omega) only [sm_let, e1, e2, e3, e4, sm_lit, sm_n_add, sm_n_sub, sm_mi1, sm_mi0, sm_bi]
    have H := sm_set_rl (nb := nb) (v := mx.1 36 d) hX hM hT hP hK hS ⟨d, k, h1, h2, h3, h4, h5, h6, h7⟩ hB hR hD ht hw key
    rw [← eMx, a2, ← eMm] at H
    rw [show k - d - 1 = k - (d + 1) by omega]
    refine ⟨_, _, _, rfl, rfl, ?_⟩
    obtain ⟨n', TX', TM', R', S', F', nb', hX, hM, hT, hP, hK, hS, ⟨d', k', g1, g2, g3, g4, g5, g6, g7⟩, hB, hR, hD⟩ := H
    rw [e1, sm_neq (by omega) (by omega)] at g3
    rw [e4, sm_neq (by omega) (by omega)] at g6
    subst g3
    subst g6
    refine ⟨n', TX', TM', R', S', F', nb', sm_X_fr (by intro k j h; unfold sm_fX at h; simp (disch := omega) only [sm_mi0, sm_mil, sm_mli]) hX, sm_M_fr (by intro k j h; unfold sm_fM at h; simp (disch := omega) only [sm_mi0, sm_mil, sm_mli]) hM, hT, rl_pr_fr (by intro k j h; simp (disch := omega) only [sm_mi0, sm_mil, sm_mli]) (by intro k j h; simp (disch := omega) only [sm_mi0, sm_mil, sm_mli]) hP, rl_tape_fr (by intro k j h; simp (disch := omega) only [sm_mi0, sm_mil, sm_mli]) (by intro k j h; simp (disch := omega) only [sm_mi0, sm_mil, sm_mli]) hK, rl_sight_fr (by intro k j h; simp (disch := omega) only [sm_mi0, sm_mil, sm_mli]) (by intro k j h; simp (disch := omega) only [sm_mi0, sm_mil, sm_mli]) hS, ?_, rl_body_fr (by intro k j h; simp (disch := omega) only [sm_mi0, sm_mil, sm_mli]) (by intro k j h; simp (disch := omega) only [sm_mi0, sm_mil, sm_mli]) hB, rl_tr_fr (by intro k j h; simp (disch := omega) only [sm_mi0, sm_mil, sm_mli]) (by intro k j h; simp (disch := omega) only [sm_mi0, sm_mil, sm_mli]) hR, rl_sh_fr (Nat.le_refl nb') (by intro k j h; simp (disch := omega) only [sm_mi0, sm_mil, sm_mli]) (by intro k j h; simp (disch := omega) only [sm_mi0, sm_mil, sm_mli]) (by intros; rfl) (by intros; rfl) hD⟩
    refine ⟨d + 1, k, by omega, by omega, by simp (disch := omega) only [sm_mi1, sm_mi0, sm_ml1, sm_ml0, sm_mil, sm_mli], ?_, by simp (disch := omega) only [sm_mi1, sm_mi0, sm_ml1, sm_ml0, sm_mil, sm_mli], by simp (disch := omega) only [sm_mi1, sm_mi0, sm_ml1, sm_ml0, sm_mil, sm_mli]; exact e4, fun i hi => ?_⟩
    · simp (disch := omega) only [sm_mi1, sm_mi0, sm_ml1, sm_ml0, sm_mil, sm_mli]
    · simp (disch := omega) only [sm_mi1, sm_mi0, sm_ml1, sm_ml0, sm_mil, sm_mli]
      exact g7 i hi
