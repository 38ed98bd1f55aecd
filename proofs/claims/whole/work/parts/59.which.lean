/-! SIM: which, led -/
def sm_f1 : Nat → Nat → (Nat → Option Nat) → Option Nat
  | 0, _, _ => none
  | l + 1, i, f => match f i with
    | some v => some v
    | none => sm_f1 l (i + 1) f
theorem sm_f1_cg {f g : Nat → Option Nat} : ∀ {l i : Nat}, (∀ j, i ≤ j → j < i + l → f j = g j) → sm_f1 l i f = sm_f1 l i g
  | 0, _, _ => rfl
  | l + 1, i, h => by
    unfold sm_f1
    rw [h i (Nat.le_refl i) (by omega), sm_f1_cg (fun j h1 h2 => h j (by omega) (by omega))]
theorem sm_f1_lt {f : Nat → Option Nat} {b : Nat} : ∀ {l i : Nat}, (∀ j v, i ≤ j → j < i + l → f j = some v → v < b) → ∀ v, sm_f1 l i f = some v → v < b
  | 0, _, _, v, h => by cases h
  | l + 1, i, h, v, hv => by
    unfold sm_f1 at hv
    cases hf : f i with
    | some w => rw [hf] at hv; cases hv; exact h i v (Nat.le_refl i) (by omega) hf
    | none => rw [hf] at hv; exact sm_f1_lt (fun j w h1 h2 => h j w (by omega) (by omega)) v hv
def sm_pf (n : Nat) (T : Nat → sm_tw) (R : sm_rd) (S : sm_fs) (F : sm_lf) (r i : Nat) : Option Nat := sm_f1 n 0 (fun s => sm_f1 (n - (s + 1)) (s + 1) (fun t => if sm_gs T R S F r i s t = true then some (10 * s + t) else none))
theorem sm_pf_lt {n : Nat} (hn : n ≤ 10) {T : Nat → sm_tw} {R : sm_rd} {S : sm_fs} {F : sm_lf} {r i v : Nat} (h : sm_pf n T R S F r i = some v) : v < 100 := by
  refine sm_f1_lt (fun s w _ hs hw => sm_f1_lt (fun t x _ ht hx => ?_) w hw) v h
  by_cases hg : sm_gs T R S F r i s t = true
  · rw [if_pos hg] at hx
    cases hx
    omega
  · rw [if_neg hg] at hx; cases hx
def sm_wv (w r i p : Nat) : Nat := if w = 0 then r else if w = 1 then i else if w = 2 then p / 10 else p % 10
def sm_wh (n : Nat) (T : Nat → sm_tw) (R : sm_rd) (S : sm_fs) (F : sm_lf) (w : Nat) : Option Nat := sm_f1 R.1 0 (fun r => sm_f1 (R.2.1 r - 1) 0 (fun i => (sm_pf n T R S F r i).map (sm_wv w r i)))
def sm_on (d : Int32) (o : Option Nat) : Int32 := match o with
  | some v => sm_n v
  | none => d
section XW
variable {n : Nat} {T : Nat → sm_tw} {R : sm_rd} {S : sm_fs} {F : sm_lf} {m0 m : gk_M}
theorem x_fp15 (hd : sm_dis n T) {r i s : Nat} (hr : r < R.1) (hi : i + 1 < R.2.1 r) (hs : s < n) (kk : Int32 → Int32 → Int32 → gk_M → Option (Int32 × gk_M)) (g : Nat → Option Nat) (hg : ∀ t, g t = if sm_gs T R S F r i s t = true then some (10 * s + t) else none) : ∀ l t fu m, t + l = n → s < t → l < fu → sm_q n T R S F m0 m → ∃ m', sm_q n T R S F m0 m' ∧ f_Plain_firstGuiltyPair_15 kk fu (sm_n r) (sm_n i) (sm_n s) (sm_n t) m = match sm_f1 l t g with
    | some v => some (sm_n v, m')
    | none => kk (sm_n r) (sm_n i) (sm_n (s + 1)) m'
  | 0, t, fu + 1, m, h1, h2, h3, hq => by
    have hn := hq.1.2.1
    refine ⟨m, hq, ?_⟩
    unfold f_Plain_firstGuiltyPair_15
    rw [hq.1.1, if_pos (by simp (disch := omega) only [sm_lit, sm_nlt, sm_nle, sm_neq, sm_n_add, sm_n_mul, sm_n_div, sm_n_rem, sm_bi, sm_bl, sm_bv, sm_let, sm_zz0, sm_zz1, sm_ai, sm_si, sm_al, sm_sl, sm_ar, sm_mi1, sm_mi0, sm_ml1, sm_ml0, sm_mil, sm_mli]; omega), show sm_n s + 1 = sm_n (s + 1) from sm_n_add s 1]
    rfl
  | l + 1, t, fu + 1, m, h1, h2, h3, hq => by
    have hn := hq.1.2.1
    have xR := hq.1.2.2.2.1
    have h5 := xR.2.1
    obtain ⟨a, b, c, d⟩ := xR.2.2 r hr
    unfold f_Plain_firstGuiltyPair_15
    rw [hq.1.1, if_neg (by simp (disch := omega) only [sm_lit, sm_nlt, sm_nle, sm_neq, sm_n_add, sm_n_mul, sm_n_div, sm_n_rem, sm_bi, sm_bl, sm_bv, sm_let, sm_zz0, sm_zz1, sm_ai, sm_si, sm_al, sm_sl, sm_ar, sm_mi1, sm_mi0, sm_ml1, sm_ml0, sm_mil, sm_mli]; omega), x_cornerAt xR hr (by omega), sm_bi, show sm_n i + 1 = sm_n (i + 1) from sm_n_add i 1, x_cornerAt xR hr hi, sm_bi]
    obtain ⟨m1, e1, hq1⟩ := x_guiltBetween hq (show r < 5 by omega) (show s < 12 by omega) (show t < 12 by omega) (d i (by omega)).2 (d (i + 1) hi).2 (hd s t hs (by omega) (by omega))
    have gv := sm_gvm (S := S) (F := F) (k := r) (hq.1.2.2.1 s (by omega)).1 (hq.1.2.2.1 t (by omega)).1 (d i (by omega)).2 (d (i + 1) hi).2
    rw [e1, sm_bi, show sm_n t + 1 = sm_n (t + 1) from sm_n_add t 1]
    have hgt := hg t
    unfold sm_f1
    cases hc : sm_gl S F (T s) (T t) r (R.2.2 r i) (R.2.2 r (i + 1)) with
    | false =>
      rw [show sm_gs T R S F r i s t = false from hc, if_neg Bool.false_ne_true] at hgt
      rw [if_pos (gv.mpr hc), hgt]
      exact x_fp15 hd hr hi hs kk g hg l (t + 1) fu m1 (by omega) (by omega) (by omega) hq1
    | true =>
      rw [show sm_gs T R S F r i s t = true from hc, if_pos rfl] at hgt
      rw [if_neg (fun z => by rw [gv.mp z] at hc; exact Bool.false_ne_true hc), hgt]
      refine ⟨m1, hq1, ?_⟩
      rw [show (10 : Int32) = sm_n 10 from rfl, sm_n_mul, sm_n_add]
theorem x_fp2 (hd : sm_dis n T) {r i : Nat} (hr : r < R.1) (hi : i + 1 < R.2.1 r) (G : Nat → Option Nat) (hG : ∀ s, G s = sm_f1 (n - (s + 1)) (s + 1) (fun t => if sm_gs T R S F r i s t = true then some (10 * s + t) else none)) : ∀ l s fu m, s + l = n → l < fu → sm_q n T R S F m0 m → sm_ok (f_Plain_firstGuiltyPair_2 fu (sm_n r) (sm_n i) (sm_n s) m) (sm_on (-1) (sm_f1 l s G)) (sm_q n T R S F m0)
  | 0, s, fu + 1, m, h1, h3, hq => by
    have hn := hq.1.2.1
    unfold f_Plain_firstGuiltyPair_2
    rw [hq.1.1, if_pos (by simp (disch := omega) only [sm_lit, sm_nlt, sm_nle, sm_neq, sm_n_add, sm_n_mul, sm_n_div, sm_n_rem, sm_bi, sm_bl, sm_bv, sm_let, sm_zz0, sm_zz1, sm_ai, sm_si, sm_al, sm_sl, sm_ar, sm_mi1, sm_mi0, sm_ml1, sm_ml0, sm_mil, sm_mli]; omega)]
    exact sm_okr hq
  | l + 1, s, fu + 1, m, h1, h3, hq => by
    have hn := hq.1.2.1
    unfold f_Plain_firstGuiltyPair_2
    rw [hq.1.1, if_neg (by simp (disch := omega) only [sm_lit, sm_nlt, sm_nle, sm_neq, sm_n_add, sm_n_mul, sm_n_div, sm_n_rem, sm_bi, sm_bl, sm_bv, sm_let, sm_zz0, sm_zz1, sm_ai, sm_si, sm_al, sm_sl, sm_ar, sm_mi1, sm_mi0, sm_ml1, sm_ml0, sm_mil, sm_mli]; omega), sm_let, show sm_n s + 1 = sm_n (s + 1) from sm_n_add s 1]
    obtain ⟨m1, hq1, e1⟩ := x_fp15 hd hr hi (show s < n by omega) (f_Plain_firstGuiltyPair_2 fu) _ (fun _ => rfl) (n - (s + 1)) (s + 1) gk_fv m (by omega) (by omega) (by rw [gk_fv_eq]; omega) hq
    rw [e1, ← hG s]
    unfold sm_f1
    cases G s with
    | some v => exact ⟨m1, rfl, hq1⟩
    | none => exact x_fp2 hd hr hi G hG l (s + 1) fu m1 (by omega) (by omega) hq1
theorem x_fp (hd : sm_dis n T) {r i : Nat} (hr : r < R.1) (hi : i + 1 < R.2.1 r) (hq : sm_q n T R S F m0 m) : sm_ok (f_Plain_firstGuiltyPair (sm_n r) (sm_n i) m) (sm_on (-1) (sm_pf n T R S F r i)) (sm_q n T R S F m0) := by
  have hn := hq.1.2.1
  exact x_fp2 hd hr hi _ (fun _ => rfl) n 0 gk_fv m (by omega) (by rw [gk_fv_eq]; omega) hq
theorem x_partOf {w r i p : Nat} (hw : w < 4) (hp : p < 100) (m : gk_M) : f_X_partOf (sm_n w) (sm_n r) (sm_n i) (sm_n p) m = some (sm_n (sm_wv w r i p), m) := by
  unfold f_X_partOf
  rw [show (10 : Int32) = sm_n 10 from rfl, sm_n_div (by omega) (by omega), sm_n_rem (by omega) (by omega)]
  rcases (by omega : w = 0 ∨ w = 1 ∨ w = 2 ∨ w = 3) with rfl | rfl | rfl | rfl <;> rfl
theorem x_wh25 (hd : sm_dis n T) {r w : Nat} (hr : r < R.1) (hw : w < 4) (kk : Int32 → Int32 → gk_M → Option (Int32 × gk_M)) (g : Nat → Option Nat) (hg : ∀ i, g i = (sm_pf n T R S F r i).map (sm_wv w r i)) : ∀ l i fu m, i + l + 1 = R.2.1 r → l < fu → sm_q n T R S F m0 m → ∃ m', sm_q n T R S F m0 m' ∧ f_X_which_25 kk fu (sm_n w) (sm_n r) (sm_n i) m = match sm_f1 l i g with
    | some v => some (sm_n v, m')
    | none => kk (sm_n w) (sm_n (r + 1)) m'
  | 0, i, fu + 1, m, h1, h3, hq => by
    have xR := hq.1.2.2.2.1
    have h5 := xR.2.1
    obtain ⟨a, b, c, d⟩ := xR.2.2 r hr
    refine ⟨m, hq, ?_⟩
    unfold f_X_which_25
    rw [sm_ai (by omega) (by omega), a, show sm_n i + 1 = sm_n (i + 1) from sm_n_add i 1, if_pos (by simp (disch := omega) only [sm_lit, sm_nlt, sm_nle, sm_neq, sm_n_add, sm_n_mul, sm_n_div, sm_n_rem, sm_bi, sm_bl, sm_bv, sm_let, sm_zz0, sm_zz1, sm_ai, sm_si, sm_al, sm_sl, sm_ar, sm_mi1, sm_mi0, sm_ml1, sm_ml0, sm_mil, sm_mli]; omega), show sm_n r + 1 = sm_n (r + 1) from sm_n_add r 1]
    rfl
  | l + 1, i, fu + 1, m, h1, h3, hq => by
    have hn := hq.1.2.1
    have xR := hq.1.2.2.2.1
    have h5 := xR.2.1
    obtain ⟨a, b, c, d⟩ := xR.2.2 r hr
    unfold f_X_which_25
    rw [sm_ai (by omega) (by omega), a, show sm_n i + 1 = sm_n (i + 1) from sm_n_add i 1, if_neg (by simp (disch := omega) only [sm_lit, sm_nlt, sm_nle, sm_neq, sm_n_add, sm_n_mul, sm_n_div, sm_n_rem, sm_bi, sm_bl, sm_bv, sm_let, sm_zz0, sm_zz1, sm_ai, sm_si, sm_al, sm_sl, sm_ar, sm_mi1, sm_mi0, sm_ml1, sm_ml0, sm_mil, sm_mli]; omega)]
    obtain ⟨m1, e1, hq1⟩ := x_fp hd hr (show i + 1 < R.2.1 r by omega) hq
    rw [e1, sm_bi]
    have hgt := hg i
    unfold sm_f1
    cases hc : sm_pf n T R S F r i with
    | none =>
      rw [hc] at hgt
      rw [hgt, if_pos (show sm_on (-1) none < 0 by decide)]
      exact x_wh25 hd hr hw kk g hg l (i + 1) fu m1 (by omega) (by omega) hq1
    | some v =>
      have hv := sm_pf_lt hn hc
      rw [hc] at hgt
      rw [hgt, show sm_on (-1) (some v) = sm_n v from rfl, if_neg (sm_nn (by omega)), x_partOf hw hv, sm_bi]
      exact ⟨m1, hq1, rfl⟩
theorem x_wh12 (hd : sm_dis n T) {w : Nat} (hw : w < 4) (G : Nat → Option Nat) (hG : ∀ r, G r = sm_f1 (R.2.1 r - 1) 0 (fun i => (sm_pf n T R S F r i).map (sm_wv w r i))) : ∀ l r fu m, r + l = R.1 → l < fu → sm_q n T R S F m0 m → sm_ok (f_X_which_12 fu (sm_n w) (sm_n r) m) (sm_on (-2) (sm_f1 l r G)) (sm_q n T R S F m0)
  | 0, r, fu + 1, m, h1, h3, hq => by
    have xR := hq.1.2.2.2.1
    have h5 := xR.2.1
    unfold f_X_which_12
    rw [xR.1, if_pos (by simp (disch := omega) only [sm_lit, sm_nlt, sm_nle, sm_neq, sm_n_add, sm_n_mul, sm_n_div, sm_n_rem, sm_bi, sm_bl, sm_bv, sm_let, sm_zz0, sm_zz1, sm_ai, sm_si, sm_al, sm_sl, sm_ar, sm_mi1, sm_mi0, sm_ml1, sm_ml0, sm_mil, sm_mli]; omega)]
    exact sm_okr hq
  | l + 1, r, fu + 1, m, h1, h3, hq => by
    have xR := hq.1.2.2.2.1
    have h5 := xR.2.1
    obtain ⟨a, b, c, d⟩ := xR.2.2 r (by omega)
    unfold f_X_which_12
    rw [xR.1, if_neg (by simp (disch := omega) only [sm_lit, sm_nlt, sm_nle, sm_neq, sm_n_add, sm_n_mul, sm_n_div, sm_n_rem, sm_bi, sm_bl, sm_bv, sm_let, sm_zz0, sm_zz1, sm_ai, sm_si, sm_al, sm_sl, sm_ar, sm_mi1, sm_mi0, sm_ml1, sm_ml0, sm_mil, sm_mli]; omega), show (0 : Int32) = sm_n 0 from rfl]
    obtain ⟨m1, hq1, e1⟩ := x_wh25 hd (show r < R.1 by omega) hw (f_X_which_12 fu) _ (fun _ => rfl) (R.2.1 r - 1) 0 gk_fv m (by omega) (by rw [gk_fv_eq]; omega) hq
    rw [e1, ← hG r]
    unfold sm_f1
    cases G r with
    | some v => exact ⟨m1, rfl, hq1⟩
    | none => exact x_wh12 hd hw G hG l (r + 1) fu m1 (by omega) (by omega) hq1
theorem m_fo15 {r i s : Nat} (hr : r < R.1) (hi : i + 1 < R.2.1 r) (hs : s < n) (kk : Int32 → Int32 → Int32 → gk_M → Option (Int32 × gk_M)) (g : Nat → Option Nat) (hg : ∀ t, g t = if sm_gs T R S F r i s t = true then some (10 * s + t) else none) : ∀ l t fu m, t + l = n → l < fu → sm_p n T R S F m0 m → ∃ m', sm_p n T R S F m0 m' ∧ f_M_firstOn_15 kk fu (sm_n r) (sm_n i) (sm_n s) (sm_n t) m = match sm_f1 l t g with
    | some v => some (sm_n v, m')
    | none => kk (sm_n r) (sm_n i) (sm_n (s + 1)) m'
  | 0, t, fu + 1, m, h1, h3, hq => by
    have hn := hq.1.2.1
    refine ⟨m, hq, ?_⟩
    unfold f_M_firstOn_15
    rw [hq.1.1, if_pos (by simp (disch := omega) only [sm_lit, sm_nlt, sm_nle, sm_neq, sm_n_add, sm_n_mul, sm_n_div, sm_n_rem, sm_bi, sm_bl, sm_bv, sm_let, sm_zz0, sm_zz1, sm_ai, sm_si, sm_al, sm_sl, sm_ar, sm_mi1, sm_mi0, sm_ml1, sm_ml0, sm_mil, sm_mli]; omega), show sm_n s + 1 = sm_n (s + 1) from sm_n_add s 1]
    rfl
  | l + 1, t, fu + 1, m, h1, h3, hq => by
    have hn := hq.1.2.1
    unfold f_M_firstOn_15
    obtain ⟨m1, e1, hq1, _⟩ := m_isGuiltyOn hq hr hi (show s < 20 by omega) (show t < 20 by omega)
    rw [hq.1.1, if_neg (by simp (disch := omega) only [sm_lit, sm_nlt, sm_nle, sm_neq, sm_n_add, sm_n_mul, sm_n_div, sm_n_rem, sm_bi, sm_bl, sm_bv, sm_let, sm_zz0, sm_zz1, sm_ai, sm_si, sm_al, sm_sl, sm_ar, sm_mi1, sm_mi0, sm_ml1, sm_ml0, sm_mil, sm_mli]; omega), e1, sm_bi, show sm_n t + 1 = sm_n (t + 1) from sm_n_add t 1]
    have hgt := hg t
    unfold sm_f1
    cases hc : sm_gs T R S F r i s t with
    | false =>
      rw [hc, if_neg Bool.false_ne_true] at hgt
      rw [if_pos (show sm_b2 false = 0 from rfl), hgt]
      exact m_fo15 hr hi hs kk g hg l (t + 1) fu m1 (by omega) (by omega) hq1
    | true =>
      rw [hc, if_pos rfl] at hgt
      rw [if_neg (show ¬ sm_b2 true = 0 by decide), hgt]
      refine ⟨m1, hq1, ?_⟩
      rw [show (10 : Int32) = sm_n 10 from rfl, sm_n_mul, sm_n_add]
theorem m_fo2 {r i : Nat} (hr : r < R.1) (hi : i + 1 < R.2.1 r) (G : Nat → Option Nat) (hG : ∀ s, G s = sm_f1 (n - (s + 1)) (s + 1) (fun t => if sm_gs T R S F r i s t = true then some (10 * s + t) else none)) : ∀ l s fu m, s + l = n → l < fu → sm_p n T R S F m0 m → sm_ok (f_M_firstOn_2 fu (sm_n r) (sm_n i) (sm_n s) m) (sm_on (-2) (sm_f1 l s G)) (sm_p n T R S F m0)
  | 0, s, fu + 1, m, h1, h3, hq => by
    have hn := hq.1.2.1
    unfold f_M_firstOn_2
    rw [hq.1.1, if_pos (by simp (disch := omega) only [sm_lit, sm_nlt, sm_nle, sm_neq, sm_n_add, sm_n_mul, sm_n_div, sm_n_rem, sm_bi, sm_bl, sm_bv, sm_let, sm_zz0, sm_zz1, sm_ai, sm_si, sm_al, sm_sl, sm_ar, sm_mi1, sm_mi0, sm_ml1, sm_ml0, sm_mil, sm_mli]; omega)]
    exact sm_okr hq
  | l + 1, s, fu + 1, m, h1, h3, hq => by
    have hn := hq.1.2.1
    unfold f_M_firstOn_2
    rw [hq.1.1, if_neg (by simp (disch := omega) only [sm_lit, sm_nlt, sm_nle, sm_neq, sm_n_add, sm_n_mul, sm_n_div, sm_n_rem, sm_bi, sm_bl, sm_bv, sm_let, sm_zz0, sm_zz1, sm_ai, sm_si, sm_al, sm_sl, sm_ar, sm_mi1, sm_mi0, sm_ml1, sm_ml0, sm_mil, sm_mli]; omega), sm_let, show sm_n s + 1 = sm_n (s + 1) from sm_n_add s 1]
    obtain ⟨m1, hq1, e1⟩ := m_fo15 hr hi (show s < n by omega) (f_M_firstOn_2 fu) _ (fun _ => rfl) (n - (s + 1)) (s + 1) gk_fv m (by omega) (by rw [gk_fv_eq]; omega) hq
    rw [e1, ← hG s]
    unfold sm_f1
    cases G s with
    | some v => exact ⟨m1, rfl, hq1⟩
    | none => exact m_fo2 hr hi G hG l (s + 1) fu m1 (by omega) (by omega) hq1
theorem m_fo {r i : Nat} (hr : r < R.1) (hi : i + 1 < R.2.1 r) (hq : sm_p n T R S F m0 m) : sm_ok (f_M_firstOn (sm_n r) (sm_n i) m) (sm_on (-2) (sm_pf n T R S F r i)) (sm_p n T R S F m0) := by
  have hn := hq.1.2.1
  exact m_fo2 hr hi _ (fun _ => rfl) n 0 gk_fv m (by omega) (by rw [gk_fv_eq]; omega) hq
theorem m_wh26 {r w : Nat} (hr : r < R.1) (hw : w < 4) (kk : Int32 → Int32 → gk_M → Option (Int32 × gk_M)) (g : Nat → Option Nat) (hg : ∀ i, g i = (sm_pf n T R S F r i).map (sm_wv w r i)) : ∀ l i fu m, i + l + 1 = R.2.1 r → l < fu → sm_p n T R S F m0 m → ∃ m', sm_p n T R S F m0 m' ∧ f_M_which_26 kk fu (sm_n w) (sm_n r) (sm_n i) m = match sm_f1 l i g with
    | some v => some (sm_n v, m')
    | none => kk (sm_n w) (sm_n (r + 1)) m'
  | 0, i, fu + 1, m, h1, h3, hq => by
    have xR := hq.1.2.2.2.1
    have h5 := xR.2.1
    obtain ⟨a, b, c, d⟩ := xR.2.2 r hr
    refine ⟨m, hq, ?_⟩
    unfold f_M_which_26
    rw [sm_ai (by omega) (by omega), a, show sm_n i + 1 = sm_n (i + 1) from sm_n_add i 1, if_pos (by simp (disch := omega) only [sm_lit, sm_nlt, sm_nle, sm_neq, sm_n_add, sm_n_mul, sm_n_div, sm_n_rem, sm_bi, sm_bl, sm_bv, sm_let, sm_zz0, sm_zz1, sm_ai, sm_si, sm_al, sm_sl, sm_ar, sm_mi1, sm_mi0, sm_ml1, sm_ml0, sm_mil, sm_mli]; omega), show sm_n r + 1 = sm_n (r + 1) from sm_n_add r 1]
    rfl
  | l + 1, i, fu + 1, m, h1, h3, hq => by
    have hn := hq.1.2.1
    have xR := hq.1.2.2.2.1
    have h5 := xR.2.1
    obtain ⟨a, b, c, d⟩ := xR.2.2 r hr
    unfold f_M_which_26
    rw [sm_ai (by omega) (by omega), a, show sm_n i + 1 = sm_n (i + 1) from sm_n_add i 1, if_neg (by simp (disch := omega) only [sm_lit, sm_nlt, sm_nle, sm_neq, sm_n_add, sm_n_mul, sm_n_div, sm_n_rem, sm_bi, sm_bl, sm_bv, sm_let, sm_zz0, sm_zz1, sm_ai, sm_si, sm_al, sm_sl, sm_ar, sm_mi1, sm_mi0, sm_ml1, sm_ml0, sm_mil, sm_mli]; omega)]
    obtain ⟨m1, e1, hq1⟩ := m_fo hr (show i + 1 < R.2.1 r by omega) hq
    rw [e1, sm_bi]
    have hgt := hg i
    unfold sm_f1
    cases hc : sm_pf n T R S F r i with
    | none =>
      rw [hc] at hgt
      rw [hgt, if_pos (show sm_on (-2) none < 0 by decide)]
      exact m_wh26 hr hw kk g hg l (i + 1) fu m1 (by omega) (by omega) hq1
    | some v =>
      have hv := sm_pf_lt hn hc
      rw [hc] at hgt
      rw [hgt, show sm_on (-2) (some v) = sm_n v from rfl, if_neg (sm_nn (by omega)), show (10 : Int32) = sm_n 10 from rfl, sm_n_div (by omega) (by omega), sm_n_rem (by omega) (by omega)]
      refine ⟨m1, hq1, ?_⟩
      rcases (by omega : w = 0 ∨ w = 1 ∨ w = 2 ∨ w = 3) with rfl | rfl | rfl | rfl <;> rfl
theorem m_wh16 {w : Nat} (hw : w < 4) (G : Nat → Option Nat) (hG : ∀ r, G r = sm_f1 (R.2.1 r - 1) 0 (fun i => (sm_pf n T R S F r i).map (sm_wv w r i))) : ∀ l r fu m, r + l = R.1 → l < fu → sm_p n T R S F m0 m → sm_ok (f_M_which_16 fu (sm_n w) (sm_n r) m) (sm_on (-2) (sm_f1 l r G)) (sm_p n T R S F m0)
  | 0, r, fu + 1, m, h1, h3, hq => by
    have xR := hq.1.2.2.2.1
    have h5 := xR.2.1
    unfold f_M_which_16
    rw [xR.1, if_pos (by simp (disch := omega) only [sm_lit, sm_nlt, sm_nle, sm_neq, sm_n_add, sm_n_mul, sm_n_div, sm_n_rem, sm_bi, sm_bl, sm_bv, sm_let, sm_zz0, sm_zz1, sm_ai, sm_si, sm_al, sm_sl, sm_ar, sm_mi1, sm_mi0, sm_ml1, sm_ml0, sm_mil, sm_mli]; omega)]
    exact sm_okr hq
  | l + 1, r, fu + 1, m, h1, h3, hq => by
    have xR := hq.1.2.2.2.1
    have h5 := xR.2.1
    obtain ⟨a, b, c, d⟩ := xR.2.2 r (by omega)
    unfold f_M_which_16
    rw [xR.1, if_neg (by simp (disch := omega) only [sm_lit, sm_nlt, sm_nle, sm_neq, sm_n_add, sm_n_mul, sm_n_div, sm_n_rem, sm_bi, sm_bl, sm_bv, sm_let, sm_zz0, sm_zz1, sm_ai, sm_si, sm_al, sm_sl, sm_ar, sm_mi1, sm_mi0, sm_ml1, sm_ml0, sm_mil, sm_mli]; omega), show (0 : Int32) = sm_n 0 from rfl]
    obtain ⟨m1, hq1, e1⟩ := m_wh26 (show r < R.1 by omega) hw (f_M_which_16 fu) _ (fun _ => rfl) (R.2.1 r - 1) 0 gk_fv m (by omega) (by rw [gk_fv_eq]; omega) hq
    rw [e1, ← hG r]
    unfold sm_f1
    cases G r with
    | some v => exact ⟨m1, rfl, hq1⟩
    | none => exact m_wh16 hw G hG l (r + 1) fu m1 (by omega) (by omega) hq1
end XW
theorem sm_gs_cg {n : Nat} {TX TM : Nat → sm_tw} (h : ∀ t, t < n → TX t = TM t) (R : sm_rd) (S : sm_fs) (F : sm_lf) (r i : Nat) {s t : Nat} (hs : s < n) (ht : t < n) : sm_gs TX R S F r i s t = sm_gs TM R S F r i s t := by
  unfold sm_gs
  rw [h s hs, h t ht]
theorem sm_wh_cg {n : Nat} {TX TM : Nat → sm_tw} (h : ∀ t, t < n → TX t = TM t) (R : sm_rd) (S : sm_fs) (F : sm_lf) (w : Nat) : sm_wh n TX R S F w = sm_wh n TM R S F w := by
  refine sm_f1_cg (fun r _ _ => sm_f1_cg (fun i _ _ => ?_))
  have e : sm_pf n TX R S F r i = sm_pf n TM R S F r i := by
    refine sm_f1_cg (fun s _ hs => sm_f1_cg (fun t _ ht => ?_))
    rw [sm_gs_cg h R S F r i (show s < n by omega) (show t < n by omega)]
  rw [e]
theorem c_which {mx mm : gk_M} (h : rl_ mx mm) (a : Int32) : sm_al2 mx mm (f_X_which a mx) (f_M_which a mm) := by
  obtain ⟨n, TX, TM, R, S, F, nb, hX, hM, hT, hP, hK, hS, hH, hB, hR, hD⟩ := id h
  have h4 := hX.2.2.2.1.2.1
  unfold f_X_which f_M_which
  rw [show (3 : Int32) = sm_n 3 from rfl, x_isChoice a (by omega), sm_bi, m_within (h := 4) (hi := 3) (by omega) rfl, sm_bi]
  rcases sm_u_cases a 4 (by omega) with ⟨e0, e1⟩ | ⟨w, hw, rfl, e1⟩
  · rw [if_neg (fun z => z e0), if_neg (fun z => z e0)]; exact sm_al_id h
  rw [if_pos (show ¬ sm_u (sm_n w) (3 + 1) = 0 by rw [e1]; decide), if_pos (show ¬ sm_u (sm_n w) 4 = 0 by rw [e1]; decide)]
  obtain ⟨mx', x1, x2⟩ := x_wh12 (rl_dis hT) hw _ (fun _ => rfl) R.1 0 gk_fv mx (by omega) (by rw [gk_fv_eq]; omega) (sm_q0 hX)
  obtain ⟨mm', y1, y2⟩ := m_wh16 hw _ (fun _ => rfl) R.1 0 gk_fv mm (by omega) (by rw [gk_fv_eq]; omega) (sm_p0 hM)
  have E : sm_wh n TX R S F w = sm_wh n TM R S F w := sm_wh_cg hT.1 R S F w
  unfold sm_wh at E
  rw [E] at x1
  exact ⟨_, _, _, x1, y1, rl_q x2 y2 hT hP hK hS hH hB hR hD⟩
/-! sums the other way round; both ways about -/
theorem sm_sum_add (f g : Nat → Nat) : ∀ l i, sm_sum l i (fun j => f j + g j) = sm_sum l i f + sm_sum l i g
  | 0, _ => rfl
  | l + 1, i => by
    show f i + g i + sm_sum l (i + 1) (fun j => f j + g j) = (f i + sm_sum l (i + 1) f) + (g i + sm_sum l (i + 1) g)
    rw [sm_sum_add f g l (i + 1)]; omega
theorem sm_sum_zero : ∀ l i, sm_sum l i (fun _ => 0) = 0
  | 0, _ => rfl
  | l + 1, i => by
    show 0 + sm_sum l (i + 1) (fun _ => 0) = 0
    rw [sm_sum_zero l (i + 1)]
theorem sm_sum_com (f : Nat → Nat → Nat) : ∀ l i l' i', sm_sum l i (fun a => sm_sum l' i' (fun b => f a b)) = sm_sum l' i' (fun b => sm_sum l i (fun a => f a b))
  | 0, _, l', i' => (sm_sum_zero l' i').symm
  | l + 1, i, l', i' => by
    show sm_sum l' i' (fun b => f i b) + sm_sum l (i + 1) (fun a => sm_sum l' i' (fun b => f a b)) = sm_sum l' i' (fun b => f i b + sm_sum l (i + 1) (fun a => f a b))
    rw [sm_sum_com f l (i + 1) l' i', sm_sum_add]
theorem sm_sd_neg (A B : sm_tw) (p : Nat) : sm_sd B A p = - sm_sd A B p := by unfold sm_sd; grind
theorem g_abs_neg (a : Int) : g_abs (-a) = g_abs a := by unfold g_abs; split <;> split <;> omega
theorem sm_far_ne {p r : Nat} {px py q : Int} (hq : 0 < q) (hne : p ≠ r) (hb : sm_bh px py q p r = true) : sm_fr px py q p ≠ sm_fr px py q r := by
  unfold sm_bh g_beh at hb
  rw [decide_eq_true_iff] at hb
  obtain ⟨h1, h2⟩ := hb
  intro e
  unfold sm_fr g_far at e
  obtain ⟨u1, e1⟩ : ∃ v, v = sm_cx p * q - px := ⟨_, rfl⟩
  obtain ⟨u2, e2⟩ : ∃ v, v = sm_cy p * q - py := ⟨_, rfl⟩
  obtain ⟨v1, e3⟩ : ∃ v, v = sm_cx r * q - px := ⟨_, rfl⟩
  obtain ⟨v2, e4⟩ : ∃ v, v = sm_cy r * q - py := ⟨_, rfl⟩
  rw [← e1, ← e2, ← e3, ← e4] at h1 h2 e
  obtain ⟨d, hd⟩ : ∃ d, d = u1 * v1 + u2 * v2 := ⟨_, rfl⟩
  obtain ⟨s, hs⟩ : ∃ s, s = u1 * u1 + u2 * u2 := ⟨_, rfl⟩
  rw [← hd] at h2
  rw [← hs] at e
  have l1 : (d - s) * (d + s) = 0 := by
    have k1 : d * d + (u1 * v2 - u2 * v1) * (u1 * v2 - u2 * v1) = s * (v1 * v1 + v2 * v2) := by rw [hd, hs]; grind
    rw [h1, ← e] at k1
    grind
  have p1 : ∀ a : Int, 0 ≤ a * a := by
    intro a
    rcases Int.lt_trichotomy a 0 with h | h | h
    · exact Int.le_of_lt (g_sq (by omega))
    · rw [h]; decide
    · exact Int.le_of_lt (g_sq (by omega))
  have s0 : 0 ≤ s := by have := p1 u1; have := p1 u2; omega
  have ds : d = s := by
    rcases Int.mul_eq_zero.mp l1 with z | z <;> omega
  have w : (u1 - v1) * (u1 - v1) + (u2 - v2) * (u2 - v2) = 0 := by
    have k2 : (u1 - v1) * (u1 - v1) + (u2 - v2) * (u2 - v2) = (u1 * u1 + u2 * u2) + (v1 * v1 + v2 * v2) - 2 * (u1 * v1 + u2 * v2) := by grind
    rw [k2, ← hs, ← hd, ← e, ds]; omega
  have w1 := p1 (u1 - v1)
  have w2 := p1 (u2 - v2)
  have z1 : u1 - v1 = 0 := by
    rcases Int.mul_eq_zero.mp (show (u1 - v1) * (u1 - v1) = 0 by omega) with z | z <;> exact z
  have z2 : u2 - v2 = 0 := by
    rcases Int.mul_eq_zero.mp (show (u2 - v2) * (u2 - v2) = 0 by omega) with z | z <;> exact z
  refine hne (sm_cxy ?_ ?_)
  · rcases Int.lt_trichotomy (sm_cx p - sm_cx r) 0 with h | h | h
    · exact absurd (show sm_cx p * q = sm_cx r * q by omega) (sm_mq hq (by omega))
    · omega
    · exact absurd (show sm_cx p * q = sm_cx r * q by omega) (sm_mq hq (by omega))
  · rcases Int.lt_trichotomy (sm_cy p - sm_cy r) 0 with h | h | h
    · exact absurd (show sm_cy p * q = sm_cy r * q by omega) (sm_mq hq (by omega))
    · omega
    · exact absurd (show sm_cy p * q = sm_cy r * q by omega) (sm_mq hq (by omega))
theorem sm_bh_sym (px py q : Int) (p r : Nat) : sm_bh px py q p r = sm_bh px py q r p := by
  unfold sm_bh g_beh
  rw [decide_eq_decide]
  constructor
  · rintro ⟨h1, h2⟩; exact ⟨by grind, by grind⟩
  · rintro ⟨h1, h2⟩; exact ⟨by grind, by grind⟩
theorem sm_inl_sym {S : sm_fs} {F : sm_lf} {A B : sm_tw} {k : Nat} {px py q : Int} (hq : 0 < q) (hne : A.1 ≠ B.1) : sm_inl S F A B k px py q = sm_inl S F B A k px py q := by
  unfold sm_inl
  rw [sm_bh_sym px py q B.1 A.1]
  cases hb : sm_bh px py q A.1 B.1 with
  | false => rfl
  | true =>
    have hf := sm_far_ne hq hne hb
    rw [Bool.true_and, Bool.true_and, Bool.and_comm (!sm_gst S px py q A.1)]
    by_cases h : sm_fr px py q A.1 < sm_fr px py q B.1
    · rw [if_pos h, if_neg (by omega)]
    · rw [if_neg h, if_pos (by omega)]
theorem sm_gl_sym {S : sm_fs} {F : sm_lf} {A B : sm_tw} {k a b : Nat} (hne : A.1 ≠ B.1) : sm_gl S F A B k a b = sm_gl S F B A k a b := by
  unfold sm_gl
  have n1 := sm_sd_neg A B a
  have n2 := sm_sd_neg A B b
  have e1 : sm_pq B A a b = sm_pq A B a b := by unfold sm_pq; rw [n1, n2, g_abs_neg, g_abs_neg]
  have e2 : sm_px B A a b = sm_px A B a b := by unfold sm_px; rw [e1, n1, g_abs_neg]
  have e3 : sm_py B A a b = sm_py A B a b := by unfold sm_py; rw [e1, n1, g_abs_neg]
  have e4 : ∀ p, sm_at_ S F B A k p = sm_at_ S F A B k p := fun p => (sm_inl_sym (by decide) hne).symm
  have e5 : g_two (sm_sd B A a) (sm_sd B A b) = g_two (sm_sd A B a) (sm_sd A B b) := by
    rw [n1, n2]
    unfold g_two
    rw [decide_eq_decide]
    omega
  rw [e1, e2, e3, e4, e4, e5]
  by_cases h0 : sm_sd A B a = 0 ∧ sm_sd A B b = 0
  · rw [if_pos h0, if_pos (by omega)]
  · rw [if_neg h0, if_neg (show ¬ (sm_sd B A a = 0 ∧ sm_sd B A b = 0) by omega)]
    by_cases h1 : g_two (sm_sd A B a) (sm_sd A B b) = true
    · rw [if_pos h1, if_pos h1]
    · rw [if_neg h1, if_neg h1]
      refine sm_inl_sym ?_ hne
      have g1 := g_absb (a := sm_sd A B a) (c := g_abs (sm_sd A B a)) (by unfold g_abs; split <;> omega)
      have g2 := g_absb (a := sm_sd A B b) (c := g_abs (sm_sd A B b)) (by unfold g_abs; split <;> omega)
      unfold sm_pq
      omega
