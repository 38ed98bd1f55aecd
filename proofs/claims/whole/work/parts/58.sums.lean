/-! SIM: how many guilts -/
def sm_c1 (b : Bool) : Nat := if b = true then 1 else 0
def sm_pr2 (n : Nat) (g : Nat → Nat → Bool) : Nat := sm_sum n 0 (fun s => sm_sum (n - (s + 1)) (s + 1) (fun t => sm_c1 (g s t)))
def sm_tot (n : Nat) (T : Nat → sm_tw) (S : sm_fs) (F : sm_lf) (k a b : Nat) : Nat := sm_pr2 n (fun s t => sm_gl S F (T s) (T t) k a b)
def sm_rgl (n : Nat) (T : Nat → sm_tw) (R : sm_rd) (S : sm_fs) (F : sm_lf) (r : Nat) : Nat := sm_sum (R.2.1 r - 1) 0 (fun i => sm_tot n T S F r (R.2.2 r i) (R.2.2 r (i + 1)))
def sm_all (n : Nat) (T : Nat → sm_tw) (R : sm_rd) (S : sm_fs) (F : sm_lf) : Nat := sm_sum R.1 0 (fun r => sm_rgl n T R S F r)
theorem sm_c1l (b : Bool) : sm_c1 b ≤ 1 := by cases b <;> decide
theorem sm_totl {n : Nat} (hn : n ≤ 10) (T : Nat → sm_tw) (S : sm_fs) (F : sm_lf) (k a b : Nat) : sm_tot n T S F k a b ≤ 100 := by
  have h := sm_sum_le (f := fun s => sm_sum (n - (s + 1)) (s + 1) (fun t => sm_c1 (sm_gl S F (T s) (T t) k a b))) (b := 10) (l := n) (i := 0) (by
    intro s _ _
    have h2 := sm_sum_le (f := fun t => sm_c1 (sm_gl S F (T s) (T t) k a b)) (b := 1) (l := n - (s + 1)) (i := s + 1) (fun _ _ _ => sm_c1l _)
    omega)
  show sm_sum n 0 (fun s => sm_sum (n - (s + 1)) (s + 1) (fun t => sm_c1 (sm_gl S F (T s) (T t) k a b))) ≤ 100
  omega
theorem sm_rgll {n : Nat} (hn : n ≤ 10) (T : Nat → sm_tw) {R : sm_rd} (S : sm_fs) (F : sm_lf) {r : Nat} (hc : R.2.1 r ≤ 6) : sm_rgl n T R S F r ≤ 500 := by
  have h := sm_sum_le (f := fun i => sm_tot n T S F r (R.2.2 r i) (R.2.2 r (i + 1))) (b := 100) (l := R.2.1 r - 1) (i := 0) (fun _ _ _ => sm_totl hn _ _ _ _ _ _)
  unfold sm_rgl
  omega
section XS_
variable {n : Nat} {T : Nat → sm_tw} {R : sm_rd} {S : sm_fs} {F : sm_lf} {m0 m : gk_M}
theorem sm_gvm {S : sm_fs} {F : sm_lf} {A B : sm_tw} {k a b : Nat} (hA : A.1 < 900) (hB : B.1 < 900) (ha : a < 900) (hb : b < 900) : sm_i (sm_gv S F A B k a b) = -1 ↔ sm_gl S F A B k a b = false := by
  obtain ⟨u, v, hu, hv1, hv2, eu, ev⟩ := sm_gab (S := S) (F := F) (k := k) hA hB ha hb
  unfold sm_gv
  rw [eu, ev]
  cases sm_gl S F A B k a b with
  | true =>
    rw [if_pos rfl, show (-1 : Int32) = sm_i (-1) from rfl, sm_ieq (by omega) (by omega) (by omega) (by omega)]
    constructor
    · intro z; omega
    · intro z; exact absurd z.symm Bool.false_ne_true
  | false => exact ⟨fun _ => rfl, fun _ => rfl⟩
/-- towers apart -/
def sm_dis (n : Nat) (T : Nat → sm_tw) : Prop := ∀ s t, s < n → t < n → s ≠ t → (T s).1 ≠ (T t).1
theorem x_gb21 (hd : sm_dis n T) {k a b L s : Nat} (hk : k < 5) (ha : a < 900) (hb : b < 900) (hL : L < 2147483648) (hs : s < n) (kk : Int32 → Int32 → Int32 → Int32 → Int32 → Int32 → gk_M → Option (Int32 × gk_M)) (g : Nat → Nat) (hg : ∀ t, g t = sm_c1 (sm_gl S F (T s) (T t) k a b)) : ∀ l t fu acc m, t + l = n → s < t → l < fu → acc ≤ L → sm_q n T R S F m0 m → ∃ m', sm_q n T R S F m0 m' ∧ f_Plain_guiltsBetween_21 kk fu (sm_n a) (sm_n b) (sm_n k) (sm_n L) (sm_n acc) (sm_n s) (sm_n t) m = kk (sm_n a) (sm_n b) (sm_n k) (sm_n L) (sm_n (min (acc + sm_sum l t g) L)) (sm_n (s + 1)) m'
  | 0, t, fu + 1, acc, m, h1, h2, h3, h4, hq => by
    have hn := hq.1.2.1
    refine ⟨m, hq, ?_⟩
    unfold f_Plain_guiltsBetween_21
    rw [hq.1.1, if_pos (by simp (disch := omega) only [sm_lit, sm_nlt, sm_nle, sm_neq, sm_n_add, sm_n_mul, sm_n_div, sm_n_rem, sm_bi, sm_bl, sm_bv, sm_let, sm_zz0, sm_zz1, sm_ai, sm_si, sm_al, sm_sl, sm_ar, sm_mi1, sm_mi0, sm_ml1, sm_ml0, sm_mil, sm_mli]; omega), show sm_n s + 1 = sm_n (s + 1) from sm_n_add s 1, show min (acc + sm_sum 0 t g) L = acc by rw [show sm_sum 0 t g = 0 from rfl]; omega]
  | l + 1, t, fu + 1, acc, m, h1, h2, h3, h4, hq => by
    have hn := hq.1.2.1
    unfold f_Plain_guiltsBetween_21
    rw [hq.1.1, if_neg (by simp (disch := omega) only [sm_lit, sm_nlt, sm_nle, sm_neq, sm_n_add, sm_n_mul, sm_n_div, sm_n_rem, sm_bi, sm_bl, sm_bv, sm_let, sm_zz0, sm_zz1, sm_ai, sm_si, sm_al, sm_sl, sm_ar, sm_mi1, sm_mi0, sm_ml1, sm_ml0, sm_mil, sm_mli]; omega)]
    by_cases hLa : L ≤ acc
    · rw [if_pos (by simp (disch := omega) only [sm_lit, sm_nlt, sm_nle, sm_neq, sm_n_add, sm_n_mul, sm_n_div, sm_n_rem, sm_bi, sm_bl, sm_bv, sm_let, sm_zz0, sm_zz1, sm_ai, sm_si, sm_al, sm_sl, sm_ar, sm_mi1, sm_mi0, sm_ml1, sm_ml0, sm_mil, sm_mli]; exact hLa), show sm_n s + 1 = sm_n (s + 1) from sm_n_add s 1]
      refine ⟨m, hq, ?_⟩
      rw [show min (acc + sm_sum (l + 1) t g) L = acc by omega]
    · rw [if_neg (by simp (disch := omega) only [sm_lit, sm_nlt, sm_nle, sm_neq, sm_n_add, sm_n_mul, sm_n_div, sm_n_rem, sm_bi, sm_bl, sm_bv, sm_let, sm_zz0, sm_zz1, sm_ai, sm_si, sm_al, sm_sl, sm_ar, sm_mi1, sm_mi0, sm_ml1, sm_ml0, sm_mil, sm_mli]; exact hLa)]
      obtain ⟨m1, e1, hq1⟩ := x_guiltBetween hq hk (show s < 12 by omega) (show t < 12 by omega) ha hb (hd s t hs (by omega) (by omega))
      rw [e1, sm_bi, show sm_n t + 1 = sm_n (t + 1) from sm_n_add t 1]
      have gv := sm_gvm (S := S) (F := F) (k := k) (hq.1.2.2.1 s (by omega)).1 (hq.1.2.2.1 t (by omega)).1 ha hb
      have hgt := hg t
      rw [show sm_sum (l + 1) t g = g t + sm_sum l (t + 1) g from rfl]
      cases hc : sm_gl S F (T s) (T t) k a b with
      | false =>
        rw [hc, show sm_c1 false = 0 from rfl] at hgt
        rw [if_pos (gv.mpr hc), hgt, Nat.zero_add]
        exact x_gb21 hd hk ha hb hL hs kk g hg l (t + 1) fu acc m1 (by omega) (by omega) (by omega) h4 hq1
      | true =>
        rw [hc, show sm_c1 true = 1 from rfl] at hgt
        rw [if_neg (fun z => by rw [gv.mp z] at hc; exact Bool.false_ne_true hc), show sm_n acc + 1 = sm_n (acc + 1) from sm_n_add acc 1, hgt, ← Nat.add_assoc]
        exact x_gb21 hd hk ha hb hL hs kk g hg l (t + 1) fu (acc + 1) m1 (by omega) (by omega) (by omega) (by omega) hq1
theorem x_gb6 (hd : sm_dis n T) {k a b L : Nat} (hk : k < 5) (ha : a < 900) (hb : b < 900) (hL : L < 2147483648) (G : Nat → Nat) (hG : ∀ s, G s = sm_sum (n - (s + 1)) (s + 1) (fun t => sm_c1 (sm_gl S F (T s) (T t) k a b))) : ∀ l s fu acc m, s + l = n → l < fu → acc ≤ L → sm_q n T R S F m0 m → sm_ok (f_Plain_guiltsBetween_6 fu (sm_n a) (sm_n b) (sm_n k) (sm_n L) (sm_n acc) (sm_n s) m) (sm_n (min (acc + sm_sum l s G) L)) (sm_q n T R S F m0)
  | 0, s, fu + 1, acc, m, h1, h3, h4, hq => by
    have hn := hq.1.2.1
    unfold f_Plain_guiltsBetween_6
    rw [hq.1.1, if_pos (by simp (disch := omega) only [sm_lit, sm_nlt, sm_nle, sm_neq, sm_n_add, sm_n_mul, sm_n_div, sm_n_rem, sm_bi, sm_bl, sm_bv, sm_let, sm_zz0, sm_zz1, sm_ai, sm_si, sm_al, sm_sl, sm_ar, sm_mi1, sm_mi0, sm_ml1, sm_ml0, sm_mil, sm_mli]; omega), show sm_sum 0 s G = 0 from rfl, Nat.add_zero, Nat.min_eq_left h4]
    exact sm_okr hq
  | l + 1, s, fu + 1, acc, m, h1, h3, h4, hq => by
    have hn := hq.1.2.1
    unfold f_Plain_guiltsBetween_6
    rw [hq.1.1, if_neg (by simp (disch := omega) only [sm_lit, sm_nlt, sm_nle, sm_neq, sm_n_add, sm_n_mul, sm_n_div, sm_n_rem, sm_bi, sm_bl, sm_bv, sm_let, sm_zz0, sm_zz1, sm_ai, sm_si, sm_al, sm_sl, sm_ar, sm_mi1, sm_mi0, sm_ml1, sm_ml0, sm_mil, sm_mli]; omega), sm_let, show sm_n s + 1 = sm_n (s + 1) from sm_n_add s 1]
    obtain ⟨m1, hq1, e1⟩ := x_gb21 hd hk ha hb hL (show s < n by omega) (f_Plain_guiltsBetween_6 fu) (fun t => sm_c1 (sm_gl S F (T s) (T t) k a b)) (fun _ => rfl) (n - (s + 1)) (s + 1) gk_fv acc m (by omega) (by omega) (by rw [gk_fv_eq]; omega) h4 hq
    rw [e1, ← hG s, show min (acc + sm_sum (l + 1) s G) L = min (min (acc + G s) L + sm_sum l (s + 1) G) L by rw [show sm_sum (l + 1) s G = G s + sm_sum l (s + 1) G from rfl]; omega]
    exact x_gb6 hd hk ha hb hL G hG l (s + 1) fu _ m1 (by omega) (by omega) (Nat.min_le_right _ _) hq1
theorem x_guiltsBetween (hd : sm_dis n T) {k a b L : Nat} (hk : k < 5) (ha : a < 900) (hb : b < 900) (hL : L < 2147483648) (hq : sm_q n T R S F m0 m) : sm_ok (f_Plain_guiltsBetween (sm_n a) (sm_n b) (sm_n k) (sm_n L) m) (sm_n (min (sm_tot n T S F k a b) L)) (sm_q n T R S F m0) := by
  have hn := hq.1.2.1
  have h := x_gb6 hd hk ha hb hL (fun s => sm_sum (n - (s + 1)) (s + 1) (fun t => sm_c1 (sm_gl S F (T s) (T t) k a b))) (fun _ => rfl) n 0 gk_fv 0 m (by omega) (by rw [gk_fv_eq]; omega) (by omega) hq
  rw [Nat.zero_add] at h
  exact h
/-- the guilts of a stretch, whole -/
theorem x_stretch (hd : sm_dis n T) {r i : Nat} (hr : r < R.1) (hi : i + 1 < R.2.1 r) (hq : sm_q n T R S F m0 m) : sm_ok (gk_bi (f_Plain_cornerAt (sm_n r) (sm_n i) m) fun v3 m2 => gk_bi (f_Plain_cornerAt (sm_n r) (sm_n i + 1) m2) fun v5 m4 => f_Plain_guiltsBetween v3 v5 (sm_n r) 1000000 m4) (sm_n (sm_tot n T S F r (R.2.2 r i) (R.2.2 r (i + 1)))) (sm_q n T R S F m0) := by
  have hn := hq.1.2.1
  have xR := hq.1.2.2.2.1
  have h5 := xR.2.1
  obtain ⟨a, b, c, d⟩ := xR.2.2 r hr
  rw [x_cornerAt xR hr (by omega), sm_bi, show sm_n i + 1 = sm_n (i + 1) from sm_n_add i 1, x_cornerAt xR hr hi, sm_bi, show (1000000 : Int32) = sm_n 1000000 from rfl]
  have ht := sm_totl hn T S F r (R.2.2 r i) (R.2.2 r (i + 1))
  have h := x_guiltsBetween hd (show r < 5 by omega) (d i (by omega)).2 (d (i + 1) (by omega)).2 (show 1000000 < 2147483648 by omega) hq
  rw [Nat.min_eq_left (by omega)] at h
  exact h
theorem sm_b3 {α : Type} {f : Option (Int32 × gk_M)} {g : Int32 → gk_M → Option (Int32 × gk_M)} {h : Int32 → Int32 → gk_M → Option (Int32 × gk_M)} {k : Int32 → gk_M → Option α} : (gk_bi f fun v m => gk_bi (g v m) fun w m' => gk_bi (h v w m') k) = gk_bi (gk_bi f fun v m => gk_bi (g v m) fun w m' => h v w m') k := by
  cases f with
  | none => rfl
  | some q =>
    obtain ⟨v, m⟩ := q
    rw [sm_bi, sm_bi]
    cases g v m <;> rfl
theorem x_roadGuilts_4 (hd : sm_dis n T) {r : Nat} (hr : r < R.1) (G : Nat → Nat) (hG : ∀ i, G i = sm_tot n T S F r (R.2.2 r i) (R.2.2 r (i + 1))) : ∀ l i fu acc m, i + l + 1 = R.2.1 r → l < fu → sm_q n T R S F m0 m → sm_ok (f_Plain_roadGuilts_4 fu (sm_n r) (sm_n acc) (sm_n i) m) (sm_n (acc + sm_sum l i G)) (sm_q n T R S F m0)
  | 0, i, fu + 1, acc, m, h1, h3, hq => by
    have xR := hq.1.2.2.2.1
    have h5 := xR.2.1
    obtain ⟨a, b, c, d⟩ := xR.2.2 r hr
    unfold f_Plain_roadGuilts_4
    rw [sm_ai (by omega) (by omega), a, show sm_n i + 1 = sm_n (i + 1) from sm_n_add i 1, if_pos (by simp (disch := omega) only [sm_lit, sm_nlt, sm_nle, sm_neq, sm_n_add, sm_n_mul, sm_n_div, sm_n_rem, sm_bi, sm_bl, sm_bv, sm_let, sm_zz0, sm_zz1, sm_ai, sm_si, sm_al, sm_sl, sm_ar, sm_mi1, sm_mi0, sm_ml1, sm_ml0, sm_mil, sm_mli]; omega)]
    exact sm_okr hq
  | l + 1, i, fu + 1, acc, m, h1, h3, hq => by
    have xR := hq.1.2.2.2.1
    have h5 := xR.2.1
    obtain ⟨a, b, c, d⟩ := xR.2.2 r hr
    unfold f_Plain_roadGuilts_4
    rw [sm_ai (by omega) (by omega), a, if_neg (by rw [show sm_n i + 1 = sm_n (i + 1) from sm_n_add i 1]; simp (disch := omega) only [sm_lit, sm_nlt, sm_nle, sm_neq, sm_n_add, sm_n_mul, sm_n_div, sm_n_rem, sm_bi, sm_bl, sm_bv, sm_let, sm_zz0, sm_zz1, sm_ai, sm_si, sm_al, sm_sl, sm_ar, sm_mi1, sm_mi0, sm_ml1, sm_ml0, sm_mil, sm_mli]; omega), sm_b3]
    refine sm_okb (x_stretch hd hr (by omega) hq) (fun m1 hq1 => ?_)
    rw [sm_let, sm_n_add, show sm_n i + 1 = sm_n (i + 1) from sm_n_add i 1, ← hG i, show acc + sm_sum (l + 1) i G = acc + G i + sm_sum l (i + 1) G by rw [Nat.add_assoc]; rfl]
    exact x_roadGuilts_4 hd hr G hG l (i + 1) fu _ m1 (by omega) (by omega) hq1
theorem x_roadGuilts (hd : sm_dis n T) {r : Nat} (hr : r < R.1) (hq : sm_q n T R S F m0 m) : sm_ok (f_Plain_roadGuilts (sm_n r) m) (sm_n (sm_rgl n T R S F r)) (sm_q n T R S F m0) := by
  have xR := hq.1.2.2.2.1
  obtain ⟨a, b, c, d⟩ := xR.2.2 r hr
  have h := x_roadGuilts_4 hd hr _ (fun _ => rfl) (R.2.1 r - 1) 0 gk_fv 0 m (by omega) (by rw [gk_fv_eq]; omega) hq
  rw [Nat.zero_add] at h
  exact h
theorem x_allGuilts_14 (hd : sm_dis n T) {r : Nat} (hr : r < R.1) (kk : Int32 → Int32 → gk_M → Option (Int32 × gk_M)) (G : Nat → Nat) (hG : ∀ i, G i = sm_tot n T S F r (R.2.2 r i) (R.2.2 r (i + 1))) : ∀ l i fu acc m, i + l + 1 = R.2.1 r → l < fu → sm_q n T R S F m0 m → ∃ m', sm_q n T R S F m0 m' ∧ f_Plain_allGuilts_14 kk fu (sm_n acc) (sm_n r) (sm_n i) m = kk (sm_n (acc + sm_sum l i G)) (sm_n (r + 1)) m'
  | 0, i, fu + 1, acc, m, h1, h3, hq => by
    have xR := hq.1.2.2.2.1
    have h5 := xR.2.1
    obtain ⟨a, b, c, d⟩ := xR.2.2 r hr
    unfold f_Plain_allGuilts_14
    rw [sm_ai (by omega) (by omega), a, show sm_n i + 1 = sm_n (i + 1) from sm_n_add i 1, if_pos (by simp (disch := omega) only [sm_lit, sm_nlt, sm_nle, sm_neq, sm_n_add, sm_n_mul, sm_n_div, sm_n_rem, sm_bi, sm_bl, sm_bv, sm_let, sm_zz0, sm_zz1, sm_ai, sm_si, sm_al, sm_sl, sm_ar, sm_mi1, sm_mi0, sm_ml1, sm_ml0, sm_mil, sm_mli]; omega), show sm_n r + 1 = sm_n (r + 1) from sm_n_add r 1]
    exact ⟨m, hq, rfl⟩
  | l + 1, i, fu + 1, acc, m, h1, h3, hq => by
    have xR := hq.1.2.2.2.1
    have h5 := xR.2.1
    obtain ⟨a, b, c, d⟩ := xR.2.2 r hr
    unfold f_Plain_allGuilts_14
    rw [sm_ai (by omega) (by omega), a, if_neg (by rw [show sm_n i + 1 = sm_n (i + 1) from sm_n_add i 1]; simp (disch := omega) only [sm_lit, sm_nlt, sm_nle, sm_neq, sm_n_add, sm_n_mul, sm_n_div, sm_n_rem, sm_bi, sm_bl, sm_bv, sm_let, sm_zz0, sm_zz1, sm_ai, sm_si, sm_al, sm_sl, sm_ar, sm_mi1, sm_mi0, sm_ml1, sm_ml0, sm_mil, sm_mli]; omega), sm_b3]
    obtain ⟨m1, e1, hq1⟩ := x_stretch hd hr (show i + 1 < R.2.1 r by omega) hq
    rw [e1, sm_bi, sm_let, sm_n_add, show sm_n i + 1 = sm_n (i + 1) from sm_n_add i 1, ← hG i, show acc + sm_sum (l + 1) i G = acc + G i + sm_sum l (i + 1) G by rw [Nat.add_assoc]; rfl]
    exact x_allGuilts_14 hd hr kk G hG l (i + 1) fu _ m1 (by omega) (by omega) hq1
theorem x_allGuilts_4 (hd : sm_dis n T) (G : Nat → Nat) (hG : ∀ r, G r = sm_rgl n T R S F r) : ∀ l r fu acc m, r + l = R.1 → l < fu → sm_q n T R S F m0 m → sm_ok (f_Plain_allGuilts_4 fu (sm_n acc) (sm_n r) m) (sm_n (acc + sm_sum l r G)) (sm_q n T R S F m0)
  | 0, r, fu + 1, acc, m, h1, h3, hq => by
    have xR := hq.1.2.2.2.1
    have h5 := xR.2.1
    unfold f_Plain_allGuilts_4
    rw [xR.1, if_pos (by simp (disch := omega) only [sm_lit, sm_nlt, sm_nle, sm_neq, sm_n_add, sm_n_mul, sm_n_div, sm_n_rem, sm_bi, sm_bl, sm_bv, sm_let, sm_zz0, sm_zz1, sm_ai, sm_si, sm_al, sm_sl, sm_ar, sm_mi1, sm_mi0, sm_ml1, sm_ml0, sm_mil, sm_mli]; omega)]
    exact sm_okr hq
  | l + 1, r, fu + 1, acc, m, h1, h3, hq => by
    have xR := hq.1.2.2.2.1
    have h5 := xR.2.1
    obtain ⟨a, b, c, d⟩ := xR.2.2 r (by omega)
    unfold f_Plain_allGuilts_4
    rw [xR.1, if_neg (by simp (disch := omega) only [sm_lit, sm_nlt, sm_nle, sm_neq, sm_n_add, sm_n_mul, sm_n_div, sm_n_rem, sm_bi, sm_bl, sm_bv, sm_let, sm_zz0, sm_zz1, sm_ai, sm_si, sm_al, sm_sl, sm_ar, sm_mi1, sm_mi0, sm_ml1, sm_ml0, sm_mil, sm_mli]; omega)]
    obtain ⟨m1, hq1, e1⟩ := x_allGuilts_14 hd (show r < R.1 by omega) (f_Plain_allGuilts_4 fu) _ (fun _ => rfl) (R.2.1 r - 1) 0 gk_fv acc m (by omega) (by rw [gk_fv_eq]; omega) hq
    rw [show (0 : Int32) = sm_n 0 from rfl, e1, show sm_sum (R.2.1 r - 1) 0 (fun i => sm_tot n T S F r (R.2.2 r i) (R.2.2 r (i + 1))) = G r from (hG r).symm, show acc + sm_sum (l + 1) r G = acc + G r + sm_sum l (r + 1) G by rw [Nat.add_assoc]; rfl]
    exact x_allGuilts_4 hd G hG l (r + 1) fu _ m1 (by omega) (by omega) hq1
theorem x_allGuilts (hd : sm_dis n T) (hq : sm_q n T R S F m0 m) : sm_ok (f_Plain_allGuilts m) (sm_n (sm_all n T R S F)) (sm_q n T R S F m0) := by
  have xR := hq.1.2.2.2.1
  have h5 := xR.2.1
  have h := x_allGuilts_4 hd _ (fun _ => rfl) R.1 0 gk_fv 0 m (by omega) (by rw [gk_fv_eq]; omega) hq
  rw [Nat.zero_add] at h
  exact h
end XS_
section MS_
variable {n : Nat} {T : Nat → sm_tw} {R : sm_rd} {S : sm_fs} {F : sm_lf} {m0 m : gk_M}
theorem m_go20 {r i t : Nat} (hr : r < R.1) (hi : i + 1 < R.2.1 r) (ht : t < n) (kk : Int32 → Int32 → Int32 → Int32 → gk_M → Option (Int32 × gk_M)) (g : Nat → Nat) (hg : ∀ u, g u = sm_c1 (sm_gs T R S F r i t u)) : ∀ l u fu acc m, u + l = n → l < fu → sm_p n T R S F m0 m → ∃ m', sm_p n T R S F m0 m' ∧ f_M_guiltsOn_20 kk fu (sm_n r) (sm_n i) (sm_n acc) (sm_n t) (sm_n u) m = kk (sm_n r) (sm_n i) (sm_n (acc + sm_sum l u g)) (sm_n (t + 1)) m'
  | 0, u, fu + 1, acc, m, h1, h3, hq => by
    have hn := hq.1.2.1
    refine ⟨m, hq, ?_⟩
    unfold f_M_guiltsOn_20
    rw [hq.1.1, if_pos (by simp (disch := omega) only [sm_lit, sm_nlt, sm_nle, sm_neq, sm_n_add, sm_n_mul, sm_n_div, sm_n_rem, sm_bi, sm_bl, sm_bv, sm_let, sm_zz0, sm_zz1, sm_ai, sm_si, sm_al, sm_sl, sm_ar, sm_mi1, sm_mi0, sm_ml1, sm_ml0, sm_mil, sm_mli]; omega), show sm_n t + 1 = sm_n (t + 1) from sm_n_add t 1]
    rfl
  | l + 1, u, fu + 1, acc, m, h1, h3, hq => by
    have hn := hq.1.2.1
    unfold f_M_guiltsOn_20 f_M_guiltsOn_48
    rw [hq.1.1, if_neg (by simp (disch := omega) only [sm_lit, sm_nlt, sm_nle, sm_neq, sm_n_add, sm_n_mul, sm_n_div, sm_n_rem, sm_bi, sm_bl, sm_bv, sm_let, sm_zz0, sm_zz1, sm_ai, sm_si, sm_al, sm_sl, sm_ar, sm_mi1, sm_mi0, sm_ml1, sm_ml0, sm_mil, sm_mli]; omega)]
    obtain ⟨m1, e1, hq1, _⟩ := m_isGuiltyOn hq hr hi (show t < 20 by omega) (show u < 20 by omega)
    rw [e1, sm_bi, show sm_n u + 1 = sm_n (u + 1) from sm_n_add u 1, show acc + sm_sum (l + 1) u g = acc + g u + sm_sum l (u + 1) g by rw [Nat.add_assoc]; rfl, hg u, show (0 : Int32) = sm_n 0 from rfl, show (1 : Int32) = sm_n 1 from rfl, sm_let, sm_let, sm_n_add, sm_n_add]
    cases sm_gs T R S F r i t u with
    | false => rw [if_pos (show sm_b2 false = sm_n 0 from rfl)]; exact m_go20 hr hi ht kk g hg l (u + 1) fu _ m1 (by omega) (by omega) hq1
    | true => rw [if_neg (show ¬ sm_b2 true = sm_n 0 by decide)]; exact m_go20 hr hi ht kk g hg l (u + 1) fu _ m1 (by omega) (by omega) hq1
theorem m_go5 {r i : Nat} (hr : r < R.1) (hi : i + 1 < R.2.1 r) (G : Nat → Nat) (hG : ∀ t, G t = sm_sum (n - (t + 1)) (t + 1) (fun u => sm_c1 (sm_gs T R S F r i t u))) : ∀ l t fu acc m, t + l = n → l < fu → sm_p n T R S F m0 m → sm_ok (f_M_guiltsOn_5 fu (sm_n r) (sm_n i) (sm_n acc) (sm_n t) m) (sm_n (acc + sm_sum l t G)) (sm_p n T R S F m0)
  | 0, t, fu + 1, acc, m, h1, h3, hq => by
    have hn := hq.1.2.1
    unfold f_M_guiltsOn_5
    rw [hq.1.1, if_pos (by simp (disch := omega) only [sm_lit, sm_nlt, sm_nle, sm_neq, sm_n_add, sm_n_mul, sm_n_div, sm_n_rem, sm_bi, sm_bl, sm_bv, sm_let, sm_zz0, sm_zz1, sm_ai, sm_si, sm_al, sm_sl, sm_ar, sm_mi1, sm_mi0, sm_ml1, sm_ml0, sm_mil, sm_mli]; omega)]
    exact sm_okr hq
  | l + 1, t, fu + 1, acc, m, h1, h3, hq => by
    have hn := hq.1.2.1
    unfold f_M_guiltsOn_5
    rw [hq.1.1, if_neg (by simp (disch := omega) only [sm_lit, sm_nlt, sm_nle, sm_neq, sm_n_add, sm_n_mul, sm_n_div, sm_n_rem, sm_bi, sm_bl, sm_bv, sm_let, sm_zz0, sm_zz1, sm_ai, sm_si, sm_al, sm_sl, sm_ar, sm_mi1, sm_mi0, sm_ml1, sm_ml0, sm_mil, sm_mli]; omega), sm_let, show sm_n t + 1 = sm_n (t + 1) from sm_n_add t 1]
    obtain ⟨m1, hq1, e1⟩ := m_go20 hr hi (show t < n by omega) (f_M_guiltsOn_5 fu) _ (fun _ => rfl) (n - (t + 1)) (t + 1) gk_fv acc m (by omega) (by rw [gk_fv_eq]; omega) hq
    rw [e1, ← hG t, show acc + sm_sum (l + 1) t G = acc + G t + sm_sum l (t + 1) G by rw [Nat.add_assoc]; rfl]
    exact m_go5 hr hi G hG l (t + 1) fu _ m1 (by omega) (by omega) hq1
theorem m_guiltsOn {r i : Nat} (hr : r < R.1) (hi : i + 1 < R.2.1 r) (hq : sm_p n T R S F m0 m) : sm_ok (f_M_guiltsOn (sm_n r) (sm_n i) m) (sm_n (sm_tot n T S F r (R.2.2 r i) (R.2.2 r (i + 1)))) (sm_p n T R S F m0) := by
  have hn := hq.1.2.1
  have h := m_go5 hr hi _ (fun _ => rfl) n 0 gk_fv 0 m (by omega) (by rw [gk_fv_eq]; omega) hq
  rw [Nat.zero_add] at h
  exact h
theorem m_guiltsOf_4 {r : Nat} (hr : r < R.1) (G : Nat → Nat) (hG : ∀ i, G i = sm_tot n T S F r (R.2.2 r i) (R.2.2 r (i + 1))) : ∀ l i fu acc m, i + l + 1 = R.2.1 r → l < fu → sm_p n T R S F m0 m → sm_ok (f_M_guiltsOf_4 fu (sm_n r) (sm_n acc) (sm_n i) m) (sm_n (acc + sm_sum l i G)) (sm_p n T R S F m0)
  | 0, i, fu + 1, acc, m, h1, h3, hq => by
    have xR := hq.1.2.2.2.1
    have h5 := xR.2.1
    obtain ⟨a, b, c, d⟩ := xR.2.2 r hr
    unfold f_M_guiltsOf_4
    rw [sm_ai (by omega) (by omega), a, show sm_n i + 1 = sm_n (i + 1) from sm_n_add i 1, if_pos (by simp (disch := omega) only [sm_lit, sm_nlt, sm_nle, sm_neq, sm_n_add, sm_n_mul, sm_n_div, sm_n_rem, sm_bi, sm_bl, sm_bv, sm_let, sm_zz0, sm_zz1, sm_ai, sm_si, sm_al, sm_sl, sm_ar, sm_mi1, sm_mi0, sm_ml1, sm_ml0, sm_mil, sm_mli]; omega)]
    exact sm_okr hq
  | l + 1, i, fu + 1, acc, m, h1, h3, hq => by
    have xR := hq.1.2.2.2.1
    have h5 := xR.2.1
    obtain ⟨a, b, c, d⟩ := xR.2.2 r hr
    unfold f_M_guiltsOf_4
    rw [sm_ai (by omega) (by omega), a, show sm_n i + 1 = sm_n (i + 1) from sm_n_add i 1, if_neg (by simp (disch := omega) only [sm_lit, sm_nlt, sm_nle, sm_neq, sm_n_add, sm_n_mul, sm_n_div, sm_n_rem, sm_bi, sm_bl, sm_bv, sm_let, sm_zz0, sm_zz1, sm_ai, sm_si, sm_al, sm_sl, sm_ar, sm_mi1, sm_mi0, sm_ml1, sm_ml0, sm_mil, sm_mli]; omega)]
    refine sm_okb (m_guiltsOn hr (by omega) hq) (fun m1 hq1 => ?_)
    rw [sm_let, sm_n_add, ← hG i, show acc + sm_sum (l + 1) i G = acc + G i + sm_sum l (i + 1) G by rw [Nat.add_assoc]; rfl]
    exact m_guiltsOf_4 hr G hG l (i + 1) fu _ m1 (by omega) (by omega) hq1
theorem m_guiltsOf {r : Nat} (hr : r < R.1) (hq : sm_p n T R S F m0 m) : sm_ok (f_M_guiltsOf (sm_n r) m) (sm_n (sm_rgl n T R S F r)) (sm_p n T R S F m0) := by
  have xR := hq.1.2.2.2.1
  obtain ⟨a, b, c, d⟩ := xR.2.2 r hr
  have h := m_guiltsOf_4 hr _ (fun _ => rfl) (R.2.1 r - 1) 0 gk_fv 0 m (by omega) (by rw [gk_fv_eq]; omega) hq
  rw [Nat.zero_add] at h
  exact h
theorem m_allGuilts_4 (G : Nat → Nat) (hG : ∀ r, G r = sm_rgl n T R S F r) : ∀ l r fu acc m, r + l = R.1 → l < fu → sm_p n T R S F m0 m → sm_ok (f_M_allGuilts_4 fu (sm_n acc) (sm_n r) m) (sm_n (acc + sm_sum l r G)) (sm_p n T R S F m0)
  | 0, r, fu + 1, acc, m, h1, h3, hq => by
    have xR := hq.1.2.2.2.1
    have h5 := xR.2.1
    unfold f_M_allGuilts_4
    rw [xR.1, if_pos (by simp (disch := omega) only [sm_lit, sm_nlt, sm_nle, sm_neq, sm_n_add, sm_n_mul, sm_n_div, sm_n_rem, sm_bi, sm_bl, sm_bv, sm_let, sm_zz0, sm_zz1, sm_ai, sm_si, sm_al, sm_sl, sm_ar, sm_mi1, sm_mi0, sm_ml1, sm_ml0, sm_mil, sm_mli]; omega)]
    exact sm_okr hq
  | l + 1, r, fu + 1, acc, m, h1, h3, hq => by
    have xR := hq.1.2.2.2.1
    have h5 := xR.2.1
    unfold f_M_allGuilts_4
    rw [xR.1, if_neg (by simp (disch := omega) only [sm_lit, sm_nlt, sm_nle, sm_neq, sm_n_add, sm_n_mul, sm_n_div, sm_n_rem, sm_bi, sm_bl, sm_bv, sm_let, sm_zz0, sm_zz1, sm_ai, sm_si, sm_al, sm_sl, sm_ar, sm_mi1, sm_mi0, sm_ml1, sm_ml0, sm_mil, sm_mli]; omega)]
    refine sm_okb (m_guiltsOf (show r < R.1 by omega) hq) (fun m1 hq1 => ?_)
    rw [sm_let, sm_n_add, show sm_n r + 1 = sm_n (r + 1) from sm_n_add r 1, ← hG r, show acc + sm_sum (l + 1) r G = acc + G r + sm_sum l (r + 1) G by rw [Nat.add_assoc]; rfl]
    exact m_allGuilts_4 G hG l (r + 1) fu _ m1 (by omega) (by omega) hq1
theorem m_allGuilts (hq : sm_p n T R S F m0 m) : sm_ok (f_M_allGuilts m) (sm_n (sm_all n T R S F)) (sm_p n T R S F m0) := by
  have xR := hq.1.2.2.2.1
  have h5 := xR.2.1
  have h := m_allGuilts_4 _ (fun _ => rfl) R.1 0 gk_fv 0 m (by omega) (by rw [gk_fv_eq]; omega) hq
  rw [Nat.zero_add] at h
  exact h
end MS_
theorem rl_dis {n : Nat} {TX TM : Nat → sm_tw} (hT : rl_T n TX TM) : sm_dis n TX := fun _ _ hs ht hne => rl_ne hT hs ht hne
theorem sm_tot_cg {n : Nat} {TX TM : Nat → sm_tw} (h : ∀ t, t < n → TX t = TM t) (S : sm_fs) (F : sm_lf) (k a b : Nat) : sm_tot n TX S F k a b = sm_tot n TM S F k a b := by
  unfold sm_tot sm_pr2
  refine sm_sum_cg (fun s _ hs => sm_sum_cg (fun t _ ht => ?_))
  show sm_c1 (sm_gl S F (TX s) (TX t) k a b) = sm_c1 (sm_gl S F (TM s) (TM t) k a b)
  rw [h s (by omega), h t (by omega)]
theorem sm_rgl_cg {n : Nat} {TX TM : Nat → sm_tw} (h : ∀ t, t < n → TX t = TM t) (R : sm_rd) (S : sm_fs) (F : sm_lf) (r : Nat) : sm_rgl n TX R S F r = sm_rgl n TM R S F r :=
  sm_sum_cg (fun _ _ _ => sm_tot_cg h S F _ _ _)
theorem sm_all_cg {n : Nat} {TX TM : Nat → sm_tw} (h : ∀ t, t < n → TX t = TM t) (R : sm_rd) (S : sm_fs) (F : sm_lf) : sm_all n TX R S F = sm_all n TM R S F :=
  sm_sum_cg (fun _ _ _ => sm_rgl_cg h R S F _)
theorem c_guilts {mx mm : gk_M} (h : rl_ mx mm) (a : Int32) : sm_al2 mx mm (f_X_guilts a mx) (f_M_guilts a mm) := by
  obtain ⟨n, TX, TM, R, S, F, nb, hX, hM, hT, hP, hK, hS, hH, hB, hR, hD⟩ := id h
  have h4 := hX.2.2.2.1.2.1
  unfold f_X_guilts f_M_guilts
  by_cases h1 : a = -1
  · rw [if_neg (fun z => z h1), if_neg (fun z => z h1)]
    obtain ⟨mx', x1, x2⟩ := x_allGuilts (rl_dis hT) (sm_q0 hX)
    obtain ⟨mm', y1, y2⟩ := m_allGuilts (sm_p0 hM)
    rw [x1, y1, sm_bi, sm_bi, sm_all_cg hT.1]
    exact ⟨_, _, _, rfl, rfl, rl_q x2 y2 hT hP hK hS hH hB hR hD⟩
  · rw [if_pos h1, if_pos h1, x_isRoad a hX.2.2.2.1.1, sm_bi, m_isRoad a (show R.1 < 2147483648 by omega) hM.2.2.2.1.1, sm_bi]
    rcases sm_u_cases a R.1 (by omega) with ⟨e0, e1⟩ | ⟨r, hr, rfl, e1⟩
    · rw [if_pos e0, if_pos e0]; exact sm_al_id h
    rw [if_neg (show ¬ sm_u (sm_n r) R.1 = 0 by rw [e1]; decide), if_neg (show ¬ sm_u (sm_n r) R.1 = 0 by rw [e1]; decide)]
    obtain ⟨mx', x1, x2⟩ := x_roadGuilts (rl_dis hT) hr (sm_q0 hX)
    obtain ⟨mm', y1, y2⟩ := m_guiltsOf hr (sm_p0 hM)
    rw [x1, y1, sm_bi, sm_bi, sm_rgl_cg hT.1]
    exact ⟨_, _, _, rfl, rfl, rl_q x2 y2 hT hP hK hS hH hB hR hD⟩
