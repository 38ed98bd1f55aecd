/-! SIM: acts -/
def sm_ow : List Nat := [1, 10, 11, 2, 20, 0, 0, 0, 0, 30, 0, 0, 0, 41, 40, 0, 0, 0, 50, 0, 0, 0, 0, 60, 70, 0, 0, 0, 0, 80, 0, 81]
def sm_fk : Nat → Nat → Nat → Nat
  | 0, _, k => k
  | f + 1, a, k => if k = 0 then 0 else if sm_ow.getD (4 * k + a) 0 = 0 then sm_fk f a (sm_abv k) else k
def sm_fb (k a : Nat) : Nat := sm_ow.getD (4 * sm_fk 4 a k + a) 0
theorem sm_ow1 (i : Nat) (h : i < 32) : tb_1.getD i 0 = sm_n (sm_ow.getD i 0) := by
  have : ∀ j : Fin 32, tb_1.getD j.1 0 = sm_n (sm_ow.getD j.1 0) := by decide
  exact this ⟨i, h⟩
theorem sm_owlt (i : Nat) : sm_ow.getD i 0 < 100 := by
  by_cases h : i < 32
  · have : ∀ j : Fin 32, sm_ow.getD j.1 0 < 100 := by decide
    exact this ⟨i, h⟩
  · rw [List.getD_eq_getElem?_getD, List.getElem?_eq_none (show sm_ow.length ≤ i by show 32 ≤ i; omega)]
    decide
theorem sm_abv_e (k : Nat) (hk : k < 8) (h0 : ¬ k = 0) : tb_0.getD k 0 = sm_n (sm_abv k) ∧ sm_abv k < 8 ∧ (k = 1 ∨ k = 2 ∨ k = 6 → sm_abv k = 0) ∧ (k = 3 → sm_abv k = 2) ∧ (k = 4 → sm_abv k = 1) ∧ (k = 5 → sm_abv k = 3) ∧ (k = 7 → sm_abv k = 4) := by
  rcases (by omega : k = 1 ∨ k = 2 ∨ k = 3 ∨ k = 4 ∨ k = 5 ∨ k = 6 ∨ k = 7) with rfl | rfl | rfl | rfl | rfl | rfl | rfl <;> decide
theorem x_from_6 (q1 : Int32 → Int32 → Int32 → gk_M → Option (Int32 × gk_M)) (q2 : Int32 → Int32 → Int32 → Int32 → gk_M → Option (Int32 × gk_M)) (q3 : Int32 → Int32 → Int32 → gk_M → Option (Int32 × gk_M)) (a : Nat) (ha : a < 4) (x dep : Int32) (m : gk_M) : ∀ f fu k u, k < 8 → f < fu → u + f ≤ 7 → (k = 1 ∨ k = 2 ∨ k = 6 → 1 ≤ f) → (k = 3 ∨ k = 4 → 2 ≤ f) → (k = 5 ∨ k = 7 → 3 ≤ f) → f_Ways_from_6 q1 q2 q3 fu (sm_n a) x dep (sm_n k) (sm_n u) m = f_Ways_from_45 q1 q2 q3 (sm_n a) x dep (sm_n (sm_fk (f + 1) a k)) m
  | f, 0, k, u, _, hf, _, _, _, _ => absurd hf (Nat.not_lt_zero f)
  | f, fu + 1, k, u, hk, hf, hu, h2, h3, h4 => by
    unfold f_Ways_from_6 sm_fk
    rw [if_neg (by simp (disch := omega) only [sm_lit, sm_nlt, sm_nle, sm_neq, sm_n_add, sm_n_mul, sm_n_div, sm_n_rem, sm_bi, sm_bl, sm_bv, sm_let, sm_zz0, sm_zz1, sm_ai, sm_si, sm_al, sm_sl, sm_ar, sm_mi1, sm_mi0, sm_ml1, sm_ml0, sm_mil, sm_mli]; omega)]
    by_cases k0 : k = 0
    · subst k0
      rw [if_pos (by decide), if_pos rfl]
    · rw [if_neg (by simp (disch := omega) only [sm_lit, sm_nlt, sm_nle, sm_neq, sm_n_add, sm_n_mul, sm_n_div, sm_n_rem, sm_bi, sm_bl, sm_bv, sm_let, sm_zz0, sm_zz1, sm_ai, sm_si, sm_al, sm_sl, sm_ar, sm_mi1, sm_mi0, sm_ml1, sm_ml0, sm_mil, sm_mli]; omega), if_neg k0, show sm_n k * 4 + sm_n a = sm_n (4 * k + a) by rw [show (4 : Int32) = sm_n 4 from rfl, sm_n_mul, sm_n_add]; congr 1; omega, sm_at (by show 4 * k + a < 32; omega) (by decide), sm_ow1 _ (by omega)]
      have := sm_owlt (4 * k + a)
      by_cases z : sm_ow.getD (4 * k + a) 0 = 0
      · rw [if_neg (by rw [z]; exact fun e => e rfl), if_pos z, sm_at (by show k < 8; exact hk) (by decide)]
        obtain ⟨e1, e2, e3, e4, e5, e6, e7⟩ := sm_abv_e k hk k0
        match f, hf, hu, h2, h3, h4 with
        | 0, _, _, h2, h3, h4 => omega
        | f + 1, hf, hu, h2, h3, h4 =>
          rw [e1, show sm_n u + 1 = sm_n (u + 1) from sm_n_add u 1]
          exact x_from_6 q1 q2 q3 a ha x dep m f fu (sm_abv k) (u + 1) e2 (by omega) (by omega) (by omega) (by omega) (by omega)
      · rw [if_pos (by simp (disch := omega) only [sm_lit, sm_nlt, sm_nle, sm_neq, sm_n_add, sm_n_mul, sm_n_div, sm_n_rem, sm_bi, sm_bl, sm_bv, sm_let, sm_zz0, sm_zz1, sm_ai, sm_si, sm_al, sm_sl, sm_ar, sm_mi1, sm_mi0, sm_ml1, sm_ml0, sm_mil, sm_mli]; exact z), if_neg z]
theorem sm_fk8 (a : Nat) (ha : a < 4) (k : Nat) (hk : k < 8) : sm_fk 4 a k < 8 := by
  have : ∀ a : Fin 4, ∀ k : Fin 8, sm_fk 4 a.1 k.1 < 8 := by decide
  exact this ⟨a, ha⟩ ⟨k, hk⟩
def sm_xbg (r body : Nat) (m : gk_M) : gk_M := gk_mi (if 24 ≤ r then m else gk_mi m 39 r (sm_n body)) 37 1 (sm_n (r + 1))
def sm_mbg (r body : Nat) (m : gk_M) : gk_M := gk_mi (if 24 ≤ r then m else gk_mi m 22 r (sm_n body)) 0 42 (sm_n (r + 1))
theorem sm_bid (r : Option (Int32 × gk_M)) : (gk_bi r fun v m => some (v, m)) = r := by cases r <;> rfl
theorem x_fr {m : gk_M} {r : Nat} (hr : m.1 37 1 = sm_n r) (hr2 : r < 1000) (d : Nat) {k a dep : Nat} (hk : k < 8) (ha : a < 4) (hd : dep < 40) (x : Int32) : r_Ways_run (d + 1) 1 (sm_n k) (sm_n a) x (sm_n dep) m = r_Ways_run d 0 (sm_n (sm_fb k a)) x (sm_n (dep + 1)) 0 (sm_xbg r (sm_fb k a) m) := by
  have hfk := sm_fk8 a ha k hk
  rw [r_Ways_run_e1]
  unfold f_Ways_from_0
  rw [show (0 : Int32) = sm_n 0 from rfl, x_from_6 _ _ _ a ha x _ m 3 gk_fv k 0 hk (by rw [gk_fv_eq]; omega) (by omega) (by omega) (by omega) (by omega), show 3 + 1 = 4 from rfl]
  unfold f_Ways_from_45 f_Ways_from_91
  rw [if_neg (sm_nn (by omega)), if_pos (show sm_n dep < 40 by simp (disch := omega) only [sm_lit, sm_nlt, sm_nle, sm_neq, sm_n_add, sm_n_mul, sm_n_div, sm_n_rem, sm_bi, sm_bl, sm_bv, sm_let, sm_zz0, sm_zz1, sm_ai, sm_si, sm_al, sm_sl, sm_ar, sm_mi1, sm_mi0, sm_ml1, sm_ml0, sm_mil, sm_mli]; exact hd), show sm_n (sm_fk 4 a k) * 4 + sm_n a = sm_n (4 * sm_fk 4 a k + a) by rw [show (4 : Int32) = sm_n 4 from rfl, sm_n_mul, sm_n_add]; congr 1; omega, sm_at (by show 4 * sm_fk 4 a k + a < 32; omega) (by decide), sm_ow1 _ (by omega), hr, show sm_n dep + 1 = sm_n (dep + 1) from sm_n_add dep 1]
  unfold sm_xbg sm_fb
  by_cases h24 : 24 ≤ r
  · rw [if_pos (show (24 : Int32) ≤ sm_n r by simp (disch := omega) only [sm_lit, sm_nlt, sm_nle, sm_neq, sm_n_add, sm_n_mul, sm_n_div, sm_n_rem, sm_bi, sm_bl, sm_bv, sm_let, sm_zz0, sm_zz1, sm_ai, sm_si, sm_al, sm_sl, sm_ar, sm_mi1, sm_mi0, sm_ml1, sm_ml0, sm_mil, sm_mli]; exact h24), sm_let, sm_bid, if_pos h24, show sm_n r + 1 = sm_n (r + 1) from sm_n_add r 1]
  · rw [if_neg (show ¬ (24 : Int32) ≤ sm_n r by simp (disch := omega) only [sm_lit, sm_nlt, sm_nle, sm_neq, sm_n_add, sm_n_mul, sm_n_div, sm_n_rem, sm_bi, sm_bl, sm_bv, sm_let, sm_zz0, sm_zz1, sm_ai, sm_si, sm_al, sm_sl, sm_ar, sm_mi1, sm_mi0, sm_ml1, sm_ml0, sm_mil, sm_mli]; exact h24), sm_si (by omega) (by omega), sm_let, sm_bid, sm_mi0 (by omega), hr, if_neg h24, show sm_n r + 1 = sm_n (r + 1) from sm_n_add r 1]
theorem m_begins {m : gk_M} {r : Nat} (hr : m.1 0 42 = sm_n r) (hr2 : r < 1000) (body : Nat) : f_M_begins (sm_n body) m = some ((), sm_mbg r body m) := by
  unfold f_M_begins f_M_begins_19 sm_mbg
  rw [hr]
  by_cases h24 : 24 ≤ r
  · rw [if_pos (show (24 : Int32) ≤ sm_n r by simp (disch := omega) only [sm_lit, sm_nlt, sm_nle, sm_neq, sm_n_add, sm_n_mul, sm_n_div, sm_n_rem, sm_bi, sm_bl, sm_bv, sm_let, sm_zz0, sm_zz1, sm_ai, sm_si, sm_al, sm_sl, sm_ar, sm_mi1, sm_mi0, sm_ml1, sm_ml0, sm_mil, sm_mli]; exact h24), sm_let, if_pos h24, show sm_n r + 1 = sm_n (r + 1) from sm_n_add r 1]
  · rw [if_neg (show ¬ (24 : Int32) ≤ sm_n r by simp (disch := omega) only [sm_lit, sm_nlt, sm_nle, sm_neq, sm_n_add, sm_n_mul, sm_n_div, sm_n_rem, sm_bi, sm_bl, sm_bv, sm_let, sm_zz0, sm_zz1, sm_ai, sm_si, sm_al, sm_sl, sm_ar, sm_mi1, sm_mi0, sm_ml1, sm_ml0, sm_mil, sm_mli]; exact h24), sm_si (by omega) (by omega), sm_let, sm_mi0 (by omega), hr, if_neg h24, show sm_n r + 1 = sm_n (r + 1) from sm_n_add r 1]
def sm_Q (b K : Nat) (mx0 mm0 : gk_M) (r : Nat) (mx mm : gk_M) : Prop := mx.1 37 1 = sm_n r ∧ mm.1 0 42 = sm_n r ∧ (∀ i, i < r → i < 24 → mx.1 39 i = mm.1 22 i) ∧ mx.1 37 4 = sm_n b ∧ mx.1 38 b = sm_n K ∧ mm.1 0 43 = sm_n K ∧ mm.1 0 44 = sm_n b ∧ (∀ k j, ¬ (k = 39 ∨ (k = 37 ∧ j = 1)) → mx.1 k j = mx0.1 k j) ∧ mx.2 = mx0.2 ∧ (∀ k j, ¬ (k = 22 ∨ (k = 0 ∧ j = 42)) → mm.1 k j = mm0.1 k j) ∧ mm.2 = mm0.2
theorem sm_Qb {b K : Nat} {mx0 mm0 : gk_M} {r : Nat} {mx mm : gk_M} (h : sm_Q b K mx0 mm0 r mx mm) (body : Nat) : sm_Q b K mx0 mm0 (r + 1) (sm_xbg r body mx) (sm_mbg r body mm) := by
  obtain ⟨h1, h2, h3, h4, h5, h6, h7, h8, h9, h10, h11⟩ := h
  unfold sm_xbg sm_mbg
  by_cases h24 : 24 ≤ r
  · rw [if_pos h24, if_pos h24]
    refine ⟨sm_mi1 _ _ _ _, sm_mi1 _ _ _ _, ?_, ?_, ?_, ?_, ?_, ?_, h9, ?_, h11⟩
    · intro i hi h24
      simp (disch := omega) only [sm_mi1, sm_mi0, sm_ml1, sm_ml0, sm_mil, sm_mli]; exact h3 i (by omega) h24
    · simp (disch := omega) only [sm_mi1, sm_mi0, sm_ml1, sm_ml0, sm_mil, sm_mli]; exact h4
    · simp (disch := omega) only [sm_mi1, sm_mi0, sm_ml1, sm_ml0, sm_mil, sm_mli]; exact h5
    · simp (disch := omega) only [sm_mi1, sm_mi0, sm_ml1, sm_ml0, sm_mil, sm_mli]; exact h6
    · simp (disch := omega) only [sm_mi1, sm_mi0, sm_ml1, sm_ml0, sm_mil, sm_mli]; exact h7
    · intro k j hk; simp (disch := omega) only [sm_mi1, sm_mi0, sm_ml1, sm_ml0, sm_mil, sm_mli]; exact h8 k j hk
    · intro k j hk; simp (disch := omega) only [sm_mi1, sm_mi0, sm_ml1, sm_ml0, sm_mil, sm_mli]; exact h10 k j hk
  · rw [if_neg h24, if_neg h24]
    refine ⟨sm_mi1 _ _ _ _, sm_mi1 _ _ _ _, ?_, ?_, ?_, ?_, ?_, ?_, h9, ?_, h11⟩
    · intro i hi h24
      by_cases e : i = r
      · subst e
        simp (disch := omega) only [sm_mi1, sm_mi0, sm_ml1, sm_ml0, sm_mil, sm_mli]
      · simp (disch := omega) only [sm_mi1, sm_mi0, sm_ml1, sm_ml0, sm_mil, sm_mli]; exact h3 i (by omega) h24
    · simp (disch := omega) only [sm_mi1, sm_mi0, sm_ml1, sm_ml0, sm_mil, sm_mli]; exact h4
    · simp (disch := omega) only [sm_mi1, sm_mi0, sm_ml1, sm_ml0, sm_mil, sm_mli]; exact h5
    · simp (disch := omega) only [sm_mi1, sm_mi0, sm_ml1, sm_ml0, sm_mil, sm_mli]; exact h6
    · simp (disch := omega) only [sm_mi1, sm_mi0, sm_ml1, sm_ml0, sm_mil, sm_mli]; exact h7
    · intro k j hk; simp (disch := omega) only [sm_mi1, sm_mi0, sm_ml1, sm_ml0, sm_mil, sm_mli]; exact h8 k j hk
    · intro k j hk; simp (disch := omega) only [sm_mi1, sm_mi0, sm_ml1, sm_ml0, sm_mil, sm_mli]; exact h10 k j hk
theorem x_own {m : gk_M} {b K : Nat} (h4 : m.1 37 4 = sm_n b) (hb : b < 50) (h5 : m.1 38 b = sm_n K) (d : Nat) (a x dep : Int32) : r_Ways_run (d + 1) 2 a x dep 0 m = r_Ways_run d 1 (sm_n K) a x dep m := by
  rw [r_Ways_run_e2]
  unfold f_Ways_own_0
  rw [h4, sm_ai hb (by omega), h5]
  exact sm_bid _
section RUN
variable (d : Nat) (x y : Int32) (m : gk_M)
theorem x_run1 : r_Ways_run (d + 1) 0 (sm_n 1) x y 0 m = some (x + m.1 37 4, m) := by
  rw [r_Ways_run_e0]
  unfold f_Ways_run_0
  dsimp only
  rw [if_pos (by decide)]
theorem x_run2 : r_Ways_run (d + 1) 0 (sm_n 2) x y 0 m = gk_bi (r_Ways_run d 2 1 x y 0 m) fun v4 m3 => gk_bi (r_Ways_run d 2 2 1 y 0 m3) fun v6 m5 => some (v4 - v6, m5) := by
  rw [r_Ways_run_e0]
  unfold f_Ways_run_0
  dsimp only
  rw [if_neg (by decide), if_pos (by decide)]
theorem x_run10 : r_Ways_run (d + 1) 0 (sm_n 10) x y 0 m = gk_bi (r_Ways_run d 2 0 x y 0 m) fun v9 m8 => some (v9 * 2, m8) := by
  rw [r_Ways_run_e0]
  unfold f_Ways_run_0
  dsimp only
  rw [if_neg (by decide), if_neg (by decide), if_pos (by decide)]
theorem x_run11 : r_Ways_run (d + 1) 0 (sm_n 11) x y 0 m = some (x ^^^ m.1 37 4, m) := by
  rw [r_Ways_run_e0]
  unfold f_Ways_run_0
  dsimp only
  rw [if_neg (by decide), if_neg (by decide), if_neg (by decide), if_pos (by decide)]
theorem x_run20 : r_Ways_run (d + 1) 0 (sm_n 20) x y 0 m = gk_bi (r_Ways_run d 1 0 0 x y m) fun v m => some (v + 3, m) := by
  rw [r_Ways_run_e0]
  unfold f_Ways_run_0
  dsimp only
  rw [if_neg (by decide), if_neg (by decide), if_neg (by decide), if_neg (by decide), if_pos (by decide)]
theorem x_run30 : r_Ways_run (d + 1) 0 (sm_n 30) x y 0 m = gk_bi (r_Ways_run d 1 0 1 x y m) fun v m => some (-v, m) := by
  rw [r_Ways_run_e0]
  unfold f_Ways_run_0
  dsimp only
  rw [if_neg (by decide), if_neg (by decide), if_neg (by decide), if_neg (by decide), if_neg (by decide), if_pos (by decide)]
theorem x_run40 : r_Ways_run (d + 1) 0 (sm_n 40) x y 0 m = gk_bi (r_Ways_run d 1 2 2 x y m) fun v m => some (v * 3, m) := by
  rw [r_Ways_run_e0]
  unfold f_Ways_run_0
  dsimp only
  rw [if_neg (by decide), if_neg (by decide), if_neg (by decide), if_neg (by decide), if_neg (by decide), if_neg (by decide), if_pos (by decide)]
theorem x_run41 : r_Ways_run (d + 1) 0 (sm_n 41) x y 0 m = gk_bi (r_Ways_run d 1 2 1 (x + 1) y m) fun v m => some (v, m) := by
  rw [r_Ways_run_e0]
  unfold f_Ways_run_0
  dsimp only
  rw [if_neg (by decide), if_neg (by decide), if_neg (by decide), if_neg (by decide), if_neg (by decide), if_neg (by decide), if_neg (by decide), if_pos (by decide)]
theorem x_run50 : r_Ways_run (d + 1) 0 (sm_n 50) x y 0 m = gk_bi (r_Ways_run d 1 1 2 x y m) fun v25 m24 => gk_bi (r_Ways_run d 2 0 2 y 0 m24) fun v27 m26 => some (v25 - v27, m26) := by
  rw [r_Ways_run_e0]
  unfold f_Ways_run_0
  dsimp only
  rw [if_neg (by decide), if_neg (by decide), if_neg (by decide), if_neg (by decide), if_neg (by decide), if_neg (by decide), if_neg (by decide), if_neg (by decide), if_pos (by decide)]
theorem x_run60 : r_Ways_run (d + 1) 0 (sm_n 60) x y 0 m = gk_bi (r_Ways_run d 1 3 3 x y m) fun v m => some (v ^^^ 5, m) := by
  rw [r_Ways_run_e0]
  unfold f_Ways_run_0
  dsimp only
  rw [if_neg (by decide), if_neg (by decide), if_neg (by decide), if_neg (by decide), if_neg (by decide), if_neg (by decide), if_neg (by decide), if_neg (by decide), if_neg (by decide), if_pos (by decide)]
theorem x_run70 : r_Ways_run (d + 1) 0 (sm_n 70) x y 0 m = gk_bi (r_Ways_run d 1 0 0 x y m) fun v m => some (v * 2, m) := by
  rw [r_Ways_run_e0]
  unfold f_Ways_run_0
  dsimp only
  rw [if_neg (by decide), if_neg (by decide), if_neg (by decide), if_neg (by decide), if_neg (by decide), if_neg (by decide), if_neg (by decide), if_neg (by decide), if_neg (by decide), if_neg (by decide), if_pos (by decide)]
theorem x_run80 : r_Ways_run (d + 1) 0 (sm_n 80) x y 0 m = gk_bi (r_Ways_run d 1 4 1 x y m) fun v36 m35 => gk_bi (r_Ways_run d 2 2 2 y 0 m35) fun v38 m37 => some (v36 + v38, m37) := by
  rw [r_Ways_run_e0]
  unfold f_Ways_run_0
  dsimp only
  rw [if_neg (by decide), if_neg (by decide), if_neg (by decide), if_neg (by decide), if_neg (by decide), if_neg (by decide), if_neg (by decide), if_neg (by decide), if_neg (by decide), if_neg (by decide), if_neg (by decide), if_pos (by decide)]
theorem x_run81 : r_Ways_run (d + 1) 0 (sm_n 81) x y 0 m = gk_bi (r_Ways_run d 1 4 3 x y m) fun v m => some (v - 1, m) := by
  rw [r_Ways_run_e0]
  unfold f_Ways_run_0
  dsimp only
  rw [if_neg (by decide), if_neg (by decide), if_neg (by decide), if_neg (by decide), if_neg (by decide), if_neg (by decide), if_neg (by decide), if_neg (by decide), if_neg (by decide), if_neg (by decide), if_neg (by decide), if_neg (by decide)]
end RUN
section JJ
variable {b K : Nat} {mx0 mm0 : gk_M}
/-- both answer alike, and the trace is the same -/
def sm_J (b K : Nat) (mx0 mm0 : gk_M) (c r : Nat) (fx fm : Option (Int32 × gk_M)) : Prop := ∃ v r' mx' mm', fx = some (v, mx') ∧ fm = some (v, mm') ∧ sm_Q b K mx0 mm0 r' mx' mm' ∧ r' ≤ r + c
theorem J_hides {c : Nat} {r : Nat} {mx mm : gk_M} (h : sm_Q b K mx0 mm0 r mx mm) (hr : r < 900) {k dep : Nat} (hk : k < 8) (hd : dep < 30) (d e : Nat) (x : Int32) (hc : 2 ≤ c) : sm_J b K mx0 mm0 c r (r_Ways_run (d + 4) 1 (sm_n k) 0 x (sm_n dep) mx) (r_M_hidesAs (e + 2) 0 (sm_n k) x mm) := by
  rw [show (0 : Int32) = sm_n 0 from rfl, x_fr h.1 (by omega) _ hk (by omega) (by omega), r_M_hidesAs_e0]
  unfold f_M_hidesAs_0 f_M_hidesAs_16
  dsimp only
  have base : ∀ (y : Int32) (k : Nat) (hk : k = 0 ∨ k = 2 ∨ k = 3 ∨ k = 5) (d : Nat) (dep : Nat) {r : Nat} {mx mm : gk_M} (h : sm_Q b K mx0 mm0 r mx mm) (hr : r < 990), r_Ways_run (d + 1) 0 (sm_n (sm_fb k 0)) y (sm_n dep) 0 (sm_xbg r (sm_fb k 0) mx) = some (y + sm_n b, sm_xbg r 1 mx) ∧ (gk_bv (f_M_begins 1 mm) fun m1 => some (y + m1.1 0 44, m1)) = some (y + sm_n b, sm_mbg r 1 mm) := by
    intro y k hk d dep r mx mm h hr
    have e : sm_fb k 0 = 1 := by rcases hk with rfl | rfl | rfl | rfl <;> rfl
    rw [e, x_run1, (sm_Qb h 1).2.2.2.1, show (1 : Int32) = sm_n 1 from rfl, m_begins h.2.1 (by omega), sm_bv, (sm_Qb h 1).2.2.2.2.2.2.1]
    exact ⟨rfl, rfl⟩
  by_cases h1 : k = 0 ∨ k = 2 ∨ k = 3 ∨ k = 5
  · obtain ⟨e1, e2⟩ := base x k h1 (d + 2) (dep + 1) h (by omega)
    rw [e1, if_neg (by simp (disch := omega) only [sm_lit, sm_nlt, sm_nle, sm_neq, sm_n_add, sm_n_mul, sm_n_div, sm_n_rem, sm_bi, sm_bl, sm_bv, sm_let, sm_zz0, sm_zz1, sm_ai, sm_si, sm_al, sm_sl, sm_ar, sm_mi1, sm_mi0, sm_ml1, sm_ml0, sm_mil, sm_mli]; omega), if_neg (by simp (disch := omega) only [sm_lit, sm_nlt, sm_nle, sm_neq, sm_n_add, sm_n_mul, sm_n_div, sm_n_rem, sm_bi, sm_bl, sm_bv, sm_let, sm_zz0, sm_zz1, sm_ai, sm_si, sm_al, sm_sl, sm_ar, sm_mi1, sm_mi0, sm_ml1, sm_ml0, sm_mil, sm_mli]; omega), if_pos (by simp (disch := omega) only [sm_lit, sm_nlt, sm_nle, sm_neq, sm_n_add, sm_n_mul, sm_n_div, sm_n_rem, sm_bi, sm_bl, sm_bv, sm_let, sm_zz0, sm_zz1, sm_ai, sm_si, sm_al, sm_sl, sm_ar, sm_mi1, sm_mi0, sm_ml1, sm_ml0, sm_mil, sm_mli]; omega), if_pos (by simp (disch := omega) only [sm_lit, sm_nlt, sm_nle, sm_neq, sm_n_add, sm_n_mul, sm_n_div, sm_n_rem, sm_bi, sm_bl, sm_bv, sm_let, sm_zz0, sm_zz1, sm_ai, sm_si, sm_al, sm_sl, sm_ar, sm_mi1, sm_mi0, sm_ml1, sm_ml0, sm_mil, sm_mli]; omega), e2]
    exact ⟨_, _, _, _, rfl, rfl, sm_Qb h 1, by omega⟩
  · by_cases h6 : k = 6
    · subst h6
      rw [if_neg (by decide), if_neg (by decide), if_pos (by decide), if_neg (by decide), show sm_fb 6 0 = 70 from rfl, x_run70, show (70 : Int32) = sm_n 70 from rfl, m_begins h.2.1 (by omega), sm_bv]
      have h' := sm_Qb h 70
      obtain ⟨e1, e2⟩ := base x 0 (Or.inl rfl) d (dep + 1 + 1) h' (by omega)
      rw [show (0 : Int32) = sm_n 0 from rfl, x_fr h'.1 (by omega) _ (by omega) (by omega) (by omega), e1, sm_bi, r_M_hidesAs_e0]
      unfold f_M_hidesAs_0
      dsimp only
      rw [if_neg (by decide), if_neg (by decide), if_pos (by decide), if_pos (by decide), e2, sm_bi]
      exact ⟨_, _, _, _, rfl, rfl, sm_Qb h' 1, by omega⟩
    · have e0 : sm_fb k 0 = 20 := by rcases (by omega : k = 1 ∨ k = 4 ∨ k = 7) with rfl | rfl | rfl <;> rfl
      have eM : ∀ (p q s : Option (Int32 × gk_M)), (if sm_n k = 1 then p else if sm_n k = 4 then p else if ¬ sm_n k = 7 then if ¬ sm_n k = 6 then q else s else p) = p := by
        intro p q s
        rcases (by omega : k = 1 ∨ k = 4 ∨ k = 7) with rfl | rfl | rfl
        · rw [if_pos (by decide)]
        · rw [if_neg (by decide), if_pos (by decide)]
        · rw [if_neg (by decide), if_neg (by decide), if_neg (by decide)]
      rw [eM, e0, x_run20, show (20 : Int32) = sm_n 20 from rfl, m_begins h.2.1 (by omega), sm_bv]
      have h' := sm_Qb h 20
      obtain ⟨e1, e2⟩ := base x 0 (Or.inl rfl) d (dep + 1 + 1) h' (by omega)
      rw [show (0 : Int32) = sm_n 0 from rfl, x_fr h'.1 (by omega) _ (by omega) (by omega) (by omega), e1, sm_bi, r_M_hidesAs_e0]
      unfold f_M_hidesAs_0
      dsimp only
      rw [if_neg (by decide), if_neg (by decide), if_pos (by decide), if_pos (by decide), e2, sm_bi]
      exact ⟨_, _, _, _, rfl, rfl, sm_Qb h' 1, by omega⟩
/-- hides of its own kind -/
theorem J_ohides {c : Nat} {r : Nat} {mx mm : gk_M} (h : sm_Q b K mx0 mm0 r mx mm) (hb : b < 50) (hK : K < 8) (hr : r < 900) {dep : Nat} (hd : dep < 30) (d : Nat) (x : Int32) (hc : 2 ≤ c) : sm_J b K mx0 mm0 c r (r_Ways_run (d + 5) 2 0 x (sm_n dep) 0 mx) (f_M_hidesAs (mm.1 0 43) x mm) := by
  rw [x_own h.2.2.2.1 hb h.2.2.2.2.1, h.2.2.2.2.2.1]
  exact J_hides h hr hK hd d 58 x hc
theorem J_lines {r : Nat} {mx mm : gk_M} (h : sm_Q b K mx0 mm0 r mx mm) (hb : b < 50) (hK : K < 8) (hr : r < 800) {k dep : Nat} (hk : k < 8) (hd : dep < 20) (d e : Nat) (x : Int32) : sm_J b K mx0 mm0 5 r (r_Ways_run (d + 7) 1 (sm_n k) 2 x (sm_n dep) mx) (r_M_linesAs (e + 2) 0 (sm_n k) x mm) := by
  rw [show (2 : Int32) = sm_n 2 from rfl, x_fr h.1 (by omega) _ hk (by omega) (by omega), r_M_linesAs_e0]
  unfold f_M_linesAs_0 f_M_linesAs_10 f_M_linesAs_36
  dsimp only
  have base : ∀ (y : Int32) (k : Nat) (hk : k = 0 ∨ k = 1 ∨ k = 2 ∨ k = 6) (d : Nat) (dep : Nat) {r : Nat} {mx mm : gk_M} (h : sm_Q b K mx0 mm0 r mx mm) (hr : r < 990), r_Ways_run (d + 1) 0 (sm_n (sm_fb k 2)) y (sm_n dep) 0 (sm_xbg r (sm_fb k 2) mx) = some (y ^^^ sm_n b, sm_xbg r 11 mx) ∧ (gk_bv (f_M_begins 11 mm) fun m1 => some (y ^^^ m1.1 0 44, m1)) = some (y ^^^ sm_n b, sm_mbg r 11 mm) := by
    intro y k hk d dep r mx mm h hr
    have e : sm_fb k 2 = 11 := by rcases hk with rfl | rfl | rfl | rfl <;> rfl
    rw [e, x_run11, (sm_Qb h 11).2.2.2.1, show (11 : Int32) = sm_n 11 from rfl, m_begins h.2.1 (by omega), sm_bv, (sm_Qb h 11).2.2.2.2.2.2.1]
    exact ⟨rfl, rfl⟩
  by_cases h1 : k = 0 ∨ k = 1 ∨ k = 2 ∨ k = 6
  · obtain ⟨e1, e2⟩ := base x k h1 (d + 5) (dep + 1) h (by omega)
    rw [e1, if_neg (by simp (disch := omega) only [sm_lit, sm_nlt, sm_nle, sm_neq, sm_n_add, sm_n_mul, sm_n_div, sm_n_rem, sm_bi, sm_bl, sm_bv, sm_let, sm_zz0, sm_zz1, sm_ai, sm_si, sm_al, sm_sl, sm_ar, sm_mi1, sm_mi0, sm_ml1, sm_ml0, sm_mil, sm_mli]; omega), if_pos (by simp (disch := omega) only [sm_lit, sm_nlt, sm_nle, sm_neq, sm_n_add, sm_n_mul, sm_n_div, sm_n_rem, sm_bi, sm_bl, sm_bv, sm_let, sm_zz0, sm_zz1, sm_ai, sm_si, sm_al, sm_sl, sm_ar, sm_mi1, sm_mi0, sm_ml1, sm_ml0, sm_mil, sm_mli]; omega), if_neg (by simp (disch := omega) only [sm_lit, sm_nlt, sm_nle, sm_neq, sm_n_add, sm_n_mul, sm_n_div, sm_n_rem, sm_bi, sm_bl, sm_bv, sm_let, sm_zz0, sm_zz1, sm_ai, sm_si, sm_al, sm_sl, sm_ar, sm_mi1, sm_mi0, sm_ml1, sm_ml0, sm_mil, sm_mli]; omega), if_pos (by simp (disch := omega) only [sm_lit, sm_nlt, sm_nle, sm_neq, sm_n_add, sm_n_mul, sm_n_div, sm_n_rem, sm_bi, sm_bl, sm_bv, sm_let, sm_zz0, sm_zz1, sm_ai, sm_si, sm_al, sm_sl, sm_ar, sm_mi1, sm_mi0, sm_ml1, sm_ml0, sm_mil, sm_mli]; omega), e2]
    exact ⟨_, _, _, _, rfl, rfl, sm_Qb h 11, by omega⟩
  · by_cases h6 : k = 3 ∨ k = 5
    · have e0 : sm_fb k 2 = 40 := by rcases h6 with rfl | rfl <;> rfl
      have eM : ∀ (p q s : Option (Int32 × gk_M)), (if sm_n k = 3 then p else if ¬ sm_n k = 5 then (if sm_n k = 4 then q else if ¬ sm_n k = 7 then s else q) else p) = p := by
        intro p q s
        rcases h6 with rfl | rfl
        · rw [if_pos (by decide)]
        · rw [if_neg (by decide), if_neg (by decide)]
      rw [eM, e0, x_run40, show (40 : Int32) = sm_n 40 from rfl, m_begins h.2.1 (by omega), sm_bv]
      have h' := sm_Qb h 40
      obtain ⟨e1, e2⟩ := base x 2 (by omega) (d + 3) (dep + 1 + 1) h' (by omega)
      rw [show (2 : Int32) = sm_n 2 from rfl, x_fr h'.1 (by omega) _ (by omega) (by omega) (by omega), e1, sm_bi, r_M_linesAs_e0]
      unfold f_M_linesAs_0
      rw [if_neg (by decide), if_pos (by decide), if_neg (by decide), if_pos (by decide), e2, sm_bi]
      exact ⟨_, _, _, _, rfl, rfl, sm_Qb h' 11, by omega⟩
    · have e0 : sm_fb k 2 = 50 := by rcases (by omega : k = 4 ∨ k = 7) with rfl | rfl <;> rfl
      have eM : ∀ (p q s : Option (Int32 × gk_M)), (if sm_n k = 3 then p else if ¬ sm_n k = 5 then (if sm_n k = 4 then q else if ¬ sm_n k = 7 then s else q) else p) = q := by
        intro p q s
        rcases (by omega : k = 4 ∨ k = 7) with rfl | rfl
        · rw [if_neg (by decide), if_pos (by decide), if_pos (by decide)]
        · rw [if_neg (by decide), if_pos (by decide), if_neg (by decide), if_neg (by decide)]
      rw [eM, e0, x_run50, show (50 : Int32) = sm_n 50 from rfl, m_begins h.2.1 (by omega), sm_bv]
      have h' := sm_Qb h 50
      obtain ⟨e1, e2⟩ := base x 1 (by omega) (d + 3) (dep + 1 + 1) h' (by omega)
      rw [show r_Ways_run (d + 5) 1 1 2 x (sm_n (dep + 1)) (sm_xbg r 50 mx) = r_Ways_run (d + 5) 1 (sm_n 1) (sm_n 2) x (sm_n (dep + 1)) (sm_xbg r 50 mx) from rfl, x_fr h'.1 (by omega) _ (by omega) (by omega) (by omega), e1, sm_bi, r_M_linesAs_e0]
      unfold f_M_linesAs_0
      rw [if_neg (by decide), if_pos (by decide), if_neg (by decide), if_pos (by decide), e2, sm_bi]
      obtain ⟨v, r', mx', mm', g1, g2, g3, g4⟩ := J_ohides (c := 2) (sm_Qb h' 11) hb hK (by omega) (dep := dep + 1) (by omega) d 2 (by omega)
      rw [show r_Ways_run (d + 5) 2 0 2 (sm_n (dep + 1)) 0 _ = _ from g1, g2, sm_bi, sm_bi]
      exact ⟨_, _, _, _, rfl, rfl, g3, by omega⟩
theorem J_olines {r : Nat} {mx mm : gk_M} (h : sm_Q b K mx0 mm0 r mx mm) (hb : b < 50) (hK : K < 8) (hr : r < 800) {dep : Nat} (hd : dep < 20) (d : Nat) (x : Int32) : sm_J b K mx0 mm0 5 r (r_Ways_run (d + 8) 2 2 x (sm_n dep) 0 mx) (f_M_linesAs (mm.1 0 43) x mm) := by
  rw [x_own h.2.2.2.1 hb h.2.2.2.2.1, h.2.2.2.2.2.1]
  exact J_lines h hb hK hr hK hd d 58 x
/-- stands of a tower: TOWER's own body -/
theorem J_st10 {r : Nat} {mx mm : gk_M} (h : sm_Q b K mx0 mm0 r mx mm) (hb : b < 50) (hK : K < 8) (hr : r < 700) {dep : Nat} (hd : dep < 20) (d : Nat) (x : Int32) : sm_J b K mx0 mm0 3 r (r_Ways_run (d + 6) 0 (sm_n 10) x (sm_n dep) 0 (sm_xbg r 10 mx)) (gk_bv (f_M_begins 10 mm) fun m1 => gk_bi (f_M_hidesAs (m1.1 0 43) x m1) fun v3 m2 => some (v3 * 2, m2)) := by
  have h' := sm_Qb h 10
  rw [x_run10, show (10 : Int32) = sm_n 10 from rfl, m_begins h.2.1 (by omega), sm_bv]
  obtain ⟨v, r', mx', mm', g1, g2, g3, g4⟩ := J_ohides (c := 2) h' hb hK (by omega) (dep := dep) (by omega) d x (by omega)
  rw [g1, g2, sm_bi, sm_bi]
  exact ⟨_, _, _, _, rfl, rfl, g3, by omega⟩
theorem J_stands {r : Nat} {mx mm : gk_M} (h : sm_Q b K mx0 mm0 r mx mm) (hb : b < 50) (hK : K < 8) (hr : r < 600) {k dep : Nat} (hk : k < 8) (hd : dep < 15) (d e : Nat) (x : Int32) : sm_J b K mx0 mm0 20 r (r_Ways_run (d + 12) 1 (sm_n k) 1 x (sm_n dep) mx) (r_M_standsAs (e + 3) 0 (sm_n k) x mm) := by
  have s0 : ∀ {r : Nat} {mx mm : gk_M} (h : sm_Q b K mx0 mm0 r mx mm) (hr : r < 650) {k dep : Nat} (hk : k = 0 ∨ k = 1 ∨ k = 4 ∨ k = 6) (hd : dep < 18) (d e : Nat) (x : Int32), sm_J b K mx0 mm0 3 r (r_Ways_run (d + 7) 1 (sm_n k) 1 x (sm_n dep) mx) (r_M_standsAs (e + 1) 0 (sm_n k) x mm) := by
    intro r mx mm h hr k dep hk hd d e x
    have e0 : sm_fb k 1 = 10 := by rcases hk with rfl | rfl | rfl | rfl <;> rfl
    rw [show (1 : Int32) = sm_n 1 from rfl, x_fr h.1 (by omega) _ (by omega) (by omega) (by omega), e0, r_M_standsAs_e0]
    unfold f_M_standsAs_0
    dsimp only
    rw [if_neg (by simp (disch := omega) only [sm_lit, sm_nlt, sm_nle, sm_neq, sm_n_add, sm_n_mul, sm_n_div, sm_n_rem, sm_bi, sm_bl, sm_bv, sm_let, sm_zz0, sm_zz1, sm_ai, sm_si, sm_al, sm_sl, sm_ar, sm_mi1, sm_mi0, sm_ml1, sm_ml0, sm_mil, sm_mli]; omega), if_pos (by simp (disch := omega) only [sm_lit, sm_nlt, sm_nle, sm_neq, sm_n_add, sm_n_mul, sm_n_div, sm_n_rem, sm_bi, sm_bl, sm_bv, sm_let, sm_zz0, sm_zz1, sm_ai, sm_si, sm_al, sm_sl, sm_ar, sm_mi1, sm_mi0, sm_ml1, sm_ml0, sm_mil, sm_mli]; omega), if_pos (by simp (disch := omega) only [sm_lit, sm_nlt, sm_nle, sm_neq, sm_n_add, sm_n_mul, sm_n_div, sm_n_rem, sm_bi, sm_bl, sm_bv, sm_let, sm_zz0, sm_zz1, sm_ai, sm_si, sm_al, sm_sl, sm_ar, sm_mi1, sm_mi0, sm_ml1, sm_ml0, sm_mil, sm_mli]; omega), if_pos (by simp (disch := omega) only [sm_lit, sm_nlt, sm_nle, sm_neq, sm_n_add, sm_n_mul, sm_n_div, sm_n_rem, sm_bi, sm_bl, sm_bv, sm_let, sm_zz0, sm_zz1, sm_ai, sm_si, sm_al, sm_sl, sm_ar, sm_mi1, sm_mi0, sm_ml1, sm_ml0, sm_mil, sm_mli]; omega)]
    exact J_st10 h hb hK (by omega) (by omega) d x
  have s2 : ∀ {r : Nat} {mx mm : gk_M} (h : sm_Q b K mx0 mm0 r mx mm) (hr : r < 640) {dep : Nat} (hd : dep < 17) (d e : Nat) (x : Int32), sm_J b K mx0 mm0 4 r (r_Ways_run (d + 9) 1 (sm_n 2) 1 x (sm_n dep) mx) (r_M_standsAs (e + 2) 0 (sm_n 2) x mm) := by
    intro r mx mm h hr dep hd d e x
    rw [show (1 : Int32) = sm_n 1 from rfl, x_fr h.1 (by omega) _ (by omega) (by omega) (by omega), show sm_fb 2 1 = 30 from rfl, x_run30, r_M_standsAs_e0]
    unfold f_M_standsAs_0
    dsimp only
    rw [if_neg (by decide), if_pos (by decide), if_neg (by decide), show (30 : Int32) = sm_n 30 from rfl, m_begins h.2.1 (by omega), sm_bv]
    obtain ⟨v, r', mx', mm', g1, g2, g3, g4⟩ := s0 (sm_Qb h 30) (by omega) (k := 0) (dep := dep + 1) (by omega) (by omega) d e x
    rw [show r_Ways_run (d + 7) 1 0 1 x (sm_n (dep + 1)) (sm_xbg r 30 mx) = _ from g1, show r_M_standsAs (e + 1) 0 0 x (sm_mbg r 30 mm) = _ from g2, sm_bi, sm_bi]
    exact ⟨_, _, _, _, rfl, rfl, g3, by omega⟩
  by_cases h1 : k = 0 ∨ k = 1 ∨ k = 4 ∨ k = 6
  · obtain ⟨v, r', mx', mm', g1, g2, g3, g4⟩ := s0 h (by omega) h1 (dep := dep) (by omega) (d + 5) (e + 2) x
    exact ⟨v, r', mx', mm', g1, g2, g3, by omega⟩
  by_cases h2 : k = 2
  · subst h2
    obtain ⟨v, r', mx', mm', g1, g2, g3, g4⟩ := s2 h (by omega) (dep := dep) (by omega) (d + 3) (e + 1) x
    exact ⟨v, r', mx', mm', g1, g2, g3, by omega⟩
  by_cases h3 : k = 7
  · subst h3
    rw [show (1 : Int32) = sm_n 1 from rfl, x_fr h.1 (by omega) _ (by omega) (by omega) (by omega), show sm_fb 7 1 = 80 from rfl, x_run80, r_M_standsAs_e0]
    unfold f_M_standsAs_0
    dsimp only
    rw [if_neg (by decide), if_pos (by decide), if_pos (by decide), if_neg (by decide), show (80 : Int32) = sm_n 80 from rfl, m_begins h.2.1 (by omega), sm_bv]
    obtain ⟨v, r', mx', mm', g1, g2, g3, g4⟩ := s0 (sm_Qb h 80) (by omega) (k := 4) (dep := dep + 1) (by omega) (by omega) (d + 3) (e + 1) x
    rw [show r_Ways_run (d + 10) 1 4 1 x (sm_n (dep + 1)) (sm_xbg r 80 mx) = _ from g1, show r_M_standsAs (e + 2) 0 4 x (sm_mbg r 80 mm) = _ from g2, sm_bi, sm_bi]
    obtain ⟨v', r'', mx'', mm'', f1, f2, f3, f4⟩ := J_olines g3 hb hK (by omega) (dep := dep + 1) (by omega) (d + 2) 2
    rw [f1, f2, sm_bi, sm_bi]
    exact ⟨_, _, _, _, rfl, rfl, f3, by omega⟩
  · have e0 : sm_fb k 1 = 41 := by rcases (by omega : k = 3 ∨ k = 5) with rfl | rfl <;> rfl
    have eM : ∀ (p q : Option (Int32 × gk_M)), (if sm_n k = 3 then p else if ¬ sm_n k = 5 then q else p) = p := by
      intro p q
      rcases (by omega : k = 3 ∨ k = 5) with rfl | rfl
      · rw [if_pos (by decide)]
      · rw [if_neg (by decide), if_neg (by decide)]
    rw [show r_Ways_run (d + 12) 1 (sm_n k) 1 x (sm_n dep) mx = r_Ways_run (d + 12) 1 (sm_n k) (sm_n 1) x (sm_n dep) mx from rfl, x_fr h.1 (by omega) _ hk (by omega) (by omega), e0, x_run41, r_M_standsAs_e0]
    unfold f_M_standsAs_0 f_M_standsAs_10
    dsimp only
    rw [eM, show (41 : Int32) = sm_n 41 from rfl, m_begins h.2.1 (by omega), sm_bv, sm_bid, sm_bid]
    obtain ⟨v, r', mx', mm', g1, g2, g3, g4⟩ := s2 (sm_Qb h 41) (by omega) (dep := dep + 1) (by omega) (d + 1) e (x + 1)
    exact ⟨v, r', mx', mm', g1, g2, g3, by omega⟩
theorem J_ostands {r : Nat} {mx mm : gk_M} (h : sm_Q b K mx0 mm0 r mx mm) (hb : b < 50) (hK : K < 8) (hr : r < 600) {dep : Nat} (hd : dep < 15) (d : Nat) (x : Int32) : sm_J b K mx0 mm0 20 r (r_Ways_run (d + 13) 2 1 x (sm_n dep) 0 mx) (f_M_standsAs (mm.1 0 43) x mm) := by
  rw [x_own h.2.2.2.1 hb h.2.2.2.2.1, h.2.2.2.2.2.1]
  exact J_stands h hb hK hr hK hd d 57 x
theorem J_tells {r : Nat} {mx mm : gk_M} (h : sm_Q b K mx0 mm0 r mx mm) (hb : b < 50) (hK : K < 8) (hr : r < 500) {k dep : Nat} (hk : k < 8) (hd : dep < 10) (d e : Nat) (x : Int32) : sm_J b K mx0 mm0 30 r (r_Ways_run (d + 17) 1 (sm_n k) 3 x (sm_n dep) mx) (r_M_tellsAs (e + 2) 0 (sm_n k) x mm) := by
  have t0 : ∀ {r : Nat} {mx mm : gk_M} (h : sm_Q b K mx0 mm0 r mx mm) (hr : r < 550) {k dep : Nat} (hk : k = 0 ∨ k = 1 ∨ k = 2 ∨ k = 3 ∨ k = 4 ∨ k = 6) (hd : dep < 12) (d e : Nat) (x : Int32), sm_J b K mx0 mm0 26 r (r_Ways_run (d + 15) 1 (sm_n k) 3 x (sm_n dep) mx) (r_M_tellsAs (e + 1) 0 (sm_n k) x mm) := by
    intro r mx mm h hr k dep hk hd d e x
    have e0 : sm_fb k 3 = 2 := by rcases hk with rfl | rfl | rfl | rfl | rfl | rfl <;> rfl
    rw [show (3 : Int32) = sm_n 3 from rfl, x_fr h.1 (by omega) _ (by omega) (by omega) (by omega), e0, x_run2, r_M_tellsAs_e0]
    unfold f_M_tellsAs_0
    dsimp only
    rw [if_pos (by simp (disch := omega) only [sm_lit, sm_nlt, sm_nle, sm_neq, sm_n_add, sm_n_mul, sm_n_div, sm_n_rem, sm_bi, sm_bl, sm_bv, sm_let, sm_zz0, sm_zz1, sm_ai, sm_si, sm_al, sm_sl, sm_ar, sm_mi1, sm_mi0, sm_ml1, sm_ml0, sm_mil, sm_mli]; omega), if_pos (by simp (disch := omega) only [sm_lit, sm_nlt, sm_nle, sm_neq, sm_n_add, sm_n_mul, sm_n_div, sm_n_rem, sm_bi, sm_bl, sm_bv, sm_let, sm_zz0, sm_zz1, sm_ai, sm_si, sm_al, sm_sl, sm_ar, sm_mi1, sm_mi0, sm_ml1, sm_ml0, sm_mil, sm_mli]; omega), show f_M_begins 2 mm = _ from m_begins h.2.1 (by omega) 2, sm_bv]
    obtain ⟨v, r', mx', mm', g1, g2, g3, g4⟩ := J_ostands (sm_Qb h 2) hb hK (by omega) (dep := dep + 1) (by omega) d x
    rw [g1, g2, sm_bi, sm_bi]
    obtain ⟨v', r'', mx'', mm'', f1, f2, f3, f4⟩ := J_olines g3 hb hK (by omega) (dep := dep + 1) (by omega) (d + 5) 1
    rw [f1, f2, sm_bi, sm_bi]
    exact ⟨_, _, _, _, rfl, rfl, f3, by omega⟩
  by_cases h1 : k = 0 ∨ k = 1 ∨ k = 2 ∨ k = 3 ∨ k = 4 ∨ k = 6
  · obtain ⟨v, r', mx', mm', g1, g2, g3, g4⟩ := t0 h (by omega) h1 (dep := dep) (by omega) (d + 2) (e + 1) x
    exact ⟨v, r', mx', mm', g1, g2, g3, by omega⟩
  by_cases h2 : k = 5
  · subst h2
    rw [show (3 : Int32) = sm_n 3 from rfl, x_fr h.1 (by omega) _ (by omega) (by omega) (by omega), show sm_fb 5 3 = 60 from rfl, x_run60, r_M_tellsAs_e0]
    unfold f_M_tellsAs_0
    dsimp only
    rw [if_neg (by decide), show (60 : Int32) = sm_n 60 from rfl, m_begins h.2.1 (by omega), sm_bv]
    obtain ⟨v, r', mx', mm', g1, g2, g3, g4⟩ := t0 (sm_Qb h 60) (by omega) (k := 3) (dep := dep + 1) (by omega) (by omega) d e x
    rw [show r_Ways_run (d + 15) 1 3 3 x (sm_n (dep + 1)) (sm_xbg r 60 mx) = _ from g1, show r_M_tellsAs (e + 1) 0 3 x (sm_mbg r 60 mm) = _ from g2, sm_bi, sm_bi]
    exact ⟨_, _, _, _, rfl, rfl, g3, by omega⟩
  · have h3 : k = 7 := by omega
    subst h3
    rw [show (3 : Int32) = sm_n 3 from rfl, x_fr h.1 (by omega) _ (by omega) (by omega) (by omega), show sm_fb 7 3 = 81 from rfl, x_run81, r_M_tellsAs_e0]
    unfold f_M_tellsAs_0
    dsimp only
    rw [if_pos (by decide), if_neg (by decide), show (81 : Int32) = sm_n 81 from rfl, m_begins h.2.1 (by omega), sm_bv]
    obtain ⟨v, r', mx', mm', g1, g2, g3, g4⟩ := t0 (sm_Qb h 81) (by omega) (k := 4) (dep := dep + 1) (by omega) (by omega) d e x
    rw [show r_Ways_run (d + 15) 1 4 3 x (sm_n (dep + 1)) (sm_xbg r 81 mx) = _ from g1, show r_M_tellsAs (e + 1) 0 4 x (sm_mbg r 81 mm) = _ from g2, sm_bi, sm_bi]
    exact ⟨_, _, _, _, rfl, rfl, g3, by omega⟩
end JJ
theorem c_act {mx mm : gk_M} (h : rl_ mx mm) (a t x : Int32) : sm_al2 mx mm (f_X_act a t x mx) (f_M_act a t x mm) := by
  obtain ⟨n, TX, TM, R, S, F, nb, hX, hM, hT, hP, hK, hS, hH, hB, hR, hD⟩ := id h
  have hb50 := hB.1
  have h0 : rl_ (gk_mi mx 37 1 0) (gk_mi mm 0 42 0) := by
    refine ⟨n, TX, TM, R, S, F, nb, sm_X_fr (by intro k j h; unfold sm_fX at h; simp (disch := omega) only [sm_mi0, sm_mil, sm_mli]) hX, sm_M_fr (by intro k j h; unfold sm_fM at h; simp (disch := omega) only [sm_mi0, sm_mil, sm_mli]) hM, hT, rl_pr_fr (by intro k j h; simp (disch := omega) only [sm_mi0, sm_mil, sm_mli]) (by intro k j h; simp (disch := omega) only [sm_mi0, sm_mil, sm_mli]) hP, rl_tape_fr (by intro k j h; simp (disch := omega) only [sm_mi0, sm_mil, sm_mli]) (by intro k j h; simp (disch := omega) only [sm_mi0, sm_mil, sm_mli]) hK, rl_sight_fr (by intro k j h; simp (disch := omega) only [sm_mi0, sm_mil, sm_mli]) (by intro k j h; simp (disch := omega) only [sm_mi0, sm_mil, sm_mli]) hS, rl_hist_fr (by intro k j h; simp (disch := omega) only [sm_mi0, sm_mil, sm_mli]) (by intro k j h; simp (disch := omega) only [sm_mi0, sm_mil, sm_mli]) (Nat.le_refl n) hH, rl_body_fr (by intro k j h; simp (disch := omega) only [sm_mi0, sm_mil, sm_mli]) (by intro k j h; simp (disch := omega) only [sm_mi0, sm_mil, sm_mli]) hB, ⟨0, by omega, sm_mi1 _ _ _ _, sm_mi1 _ _ _ _, fun i hi => absurd hi (Nat.not_lt_zero i)⟩, rl_sh_fr (Nat.le_refl nb) (by intro k j h; simp (disch := omega) only [sm_mi0, sm_mil, sm_mli]) (by intro k j h; simp (disch := omega) only [sm_mi0, sm_mil, sm_mli]) (by intros; rfl) (by intros; rfl) hD⟩
  have hB' : (gk_mi mx 37 1 0).1 37 0 = sm_n nb := by simp (disch := omega) only [sm_mi1, sm_mi0, sm_ml1, sm_ml0, sm_mil, sm_mli]; exact hB.2.1
  have hBm' : (gk_mi mm 0 42 0).1 0 39 = sm_n nb := by simp (disch := omega) only [sm_mi1, sm_mi0, sm_ml1, sm_ml0, sm_mil, sm_mli]; exact hB.2.2.1
  unfold f_X_act f_M_act f_Ways_perform
  rw [sm_let, sm_let, x_isBody _ hB', sm_bi, m_isBody _ (show nb < 2147483648 by omega) hBm', sm_bi, sm_bid]
  rcases sm_u_cases a nb (by omega) with ⟨e0, e1⟩ | ⟨b, hb, rfl, e1⟩
  · rw [if_pos e0, if_neg (fun z => z e0)]; exact ⟨_, _, _, rfl, rfl, h0⟩
  obtain ⟨K, hk8, k1, k2⟩ := hB.2.2.2 b hb
  rw [if_neg (show ¬ sm_u (sm_n b) nb = 0 by rw [e1]; decide), if_pos (show ¬ sm_u (sm_n b) nb = 0 by rw [e1]; decide), sm_ai (by omega) (by omega), sm_mi0 (by omega), k2, sm_let, sm_let, sm_let]
  have hM0 : (gk_mi (gk_mi (gk_mi mm 0 42 0) 0 43 (sm_n K)) 0 44 (sm_n b)).1 0 43 = sm_n K := by simp (disch := omega) only [sm_mi1, sm_mi0, sm_ml1, sm_ml0, sm_mil, sm_mli]
  have hJ0 : rl_ (gk_mi mx 37 1 0) (gk_mi (gk_mi (gk_mi mm 0 42 0) 0 43 (sm_n K)) 0 44 (sm_n b)) := by
    refine ⟨n, TX, TM, R, S, F, nb, sm_X_fr (by intro k j h; unfold sm_fX at h; simp (disch := omega) only [sm_mi0, sm_mil, sm_mli]) hX, sm_M_fr (by intro k j h; unfold sm_fM at h; simp (disch := omega) only [sm_mi0, sm_mil, sm_mli]) hM, hT, rl_pr_fr (by intro k j h; simp (disch := omega) only [sm_mi0, sm_mil, sm_mli]) (by intro k j h; simp (disch := omega) only [sm_mi0, sm_mil, sm_mli]) hP, rl_tape_fr (by intro k j h; simp (disch := omega) only [sm_mi0, sm_mil, sm_mli]) (by intro k j h; simp (disch := omega) only [sm_mi0, sm_mil, sm_mli]) hK, rl_sight_fr (by intro k j h; simp (disch := omega) only [sm_mi0, sm_mil, sm_mli]) (by intro k j h; simp (disch := omega) only [sm_mi0, sm_mil, sm_mli]) hS, rl_hist_fr (by intro k j h; simp (disch := omega) only [sm_mi0, sm_mil, sm_mli]) (by intro k j h; simp (disch := omega) only [sm_mi0, sm_mil, sm_mli]) (Nat.le_refl n) hH, rl_body_fr (by intro k j h; simp (disch := omega) only [sm_mi0, sm_mil, sm_mli]) (by intro k j h; simp (disch := omega) only [sm_mi0, sm_mil, sm_mli]) hB, ⟨0, by omega, by simp (disch := omega) only [sm_mi1, sm_mi0, sm_ml1, sm_ml0, sm_mil, sm_mli]; rfl, by simp (disch := omega) only [sm_mi1, sm_mi0, sm_ml1, sm_ml0, sm_mil, sm_mli]; rfl, fun i hi => absurd hi (Nat.not_lt_zero i)⟩, rl_sh_fr (Nat.le_refl nb) (by intro k j h; simp (disch := omega) only [sm_mi0, sm_mil, sm_mli]) (by intro k j h; simp (disch := omega) only [sm_mi0, sm_mil, sm_mli]) (by intros; rfl) (by intros; rfl) hD⟩
  have hQ : sm_Q b K mx mm 0 (gk_mi (gk_mi mx 37 1 0) 37 4 (sm_n b)) (gk_mi (gk_mi (gk_mi mm 0 42 0) 0 43 (sm_n K)) 0 44 (sm_n b)) ∨ True := Or.inr trivial
  have hQ : sm_Q b K (gk_mi mx 37 4 (sm_n b)) (gk_mi (gk_mi mm 0 43 (sm_n K)) 0 44 (sm_n b)) 0 (gk_mi (gk_mi mx 37 1 0) 37 4 (sm_n b)) (gk_mi (gk_mi (gk_mi mm 0 42 0) 0 43 (sm_n K)) 0 44 (sm_n b)) := by
    refine ⟨by simp (disch := omega) only [sm_mi1, sm_mi0, sm_ml1, sm_ml0, sm_mil, sm_mli]; rfl, by simp (disch := omega) only [sm_mi1, sm_mi0, sm_ml1, sm_ml0, sm_mil, sm_mli]; rfl, fun i hi => absurd hi (Nat.not_lt_zero i), by simp (disch := omega) only [sm_mi1, sm_mi0, sm_ml1, sm_ml0, sm_mil, sm_mli], by simp (disch := omega) only [sm_mi1, sm_mi0, sm_ml1, sm_ml0, sm_mil, sm_mli]; exact k1, by simp (disch := omega) only [sm_mi1, sm_mi0, sm_ml1, sm_ml0, sm_mil, sm_mli], by simp (disch := omega) only [sm_mi1, sm_mi0, sm_ml1, sm_ml0, sm_mil, sm_mli], ?_, rfl, ?_, rfl⟩
    · intro k j hk
      rw [sm_mi, sm_mi, sm_mi]
      by_cases z : k = 37 ∧ j = 4
      · rw [if_pos z, if_pos z]
      · rw [if_neg z, if_neg z, if_neg (by omega)]
    · intro k j hk
      rw [sm_mi, sm_mi, sm_mi, sm_mi, sm_mi]
      by_cases z : k = 0 ∧ j = 44
      · rw [if_pos z, if_pos z]
      · rw [if_neg z, if_neg z]
        by_cases z : k = 0 ∧ j = 43
        · rw [if_pos z, if_pos z]
        · rw [if_neg z, if_neg z, if_neg (by omega)]
  have fin : ∀ {fx fm : Option (Int32 × gk_M)}, sm_J b K (gk_mi mx 37 4 (sm_n b)) (gk_mi (gk_mi mm 0 43 (sm_n K)) 0 44 (sm_n b)) 30 0 fx fm → sm_al2 mx mm (gk_bi fx fun v6 m5 => some (v6, m5)) (gk_bi fm fun v m => some (v, m)) := by
    rintro fx fm ⟨v, r', mx', mm', g1, g2, ⟨q1, q2, q3, q4, q5, q6, q7, q8, q9, q10, q11⟩, g4⟩
    rw [g1, g2, sm_bi, sm_bi]
    have q8' : ∀ k j, ¬ (k = 39 ∨ (k = 37 ∧ (j = 1 ∨ j = 4))) → mx'.1 k j = mx.1 k j := by
      intro k j hk
      rw [q8 k j (by omega), sm_mi0 (by omega)]
    have q10' : ∀ k j, ¬ (k = 22 ∨ (k = 0 ∧ (j = 42 ∨ j = 43 ∨ j = 44))) → mm'.1 k j = mm.1 k j := by
      intro k j hk
      rw [q10 k j (by omega), sm_mi0 (by omega), sm_mi0 (by omega)]
    refine ⟨_, _, _, rfl, rfl, n, TX, TM, R, S, F, nb, sm_X_fr ?_ hX, sm_M_fr ?_ hM, hT, rl_pr_fr ?_ ?_ hP, rl_tape_fr ?_ ?_ hK, rl_sight_fr ?_ ?_ hS, rl_hist_fr ?_ ?_ (Nat.le_refl n) hH, rl_body_fr ?_ ?_ hB, ⟨r', by omega, q1, q2, q3⟩, rl_sh_fr (Nat.le_refl nb) ?_ ?_ (by intros; rw [q9]; rfl) (by intros; rw [q11]; rfl) hD⟩
    all_goals first
      | (intro k j h; (try unfold sm_fX at h); exact q8' k j (by omega))
      | (intro k j h; (try unfold sm_fM at h); exact q10' k j (by omega))
  by_cases t0 : t < 0
  · rw [if_pos t0, if_neg (by intro z; subst z; revert t0; decide), if_neg (by intro z; subst z; revert t0; decide), if_neg (by intro z; subst z; revert t0; decide), if_neg (by intro z; subst z; revert t0; decide)]
    exact ⟨_, _, _, rfl, rfl, hJ0⟩
  rw [if_neg t0]
  obtain ⟨t, ht, rfl⟩ := sm_get t0
  by_cases t4 : t < 4
  · rw [if_pos (show sm_n t < 4 by simp (disch := omega) only [sm_lit, sm_nlt, sm_nle, sm_neq, sm_n_add, sm_n_mul, sm_n_div, sm_n_rem, sm_bi, sm_bl, sm_bv, sm_let, sm_zz0, sm_zz1, sm_ai, sm_si, sm_al, sm_sl, sm_ar, sm_mi1, sm_mi0, sm_ml1, sm_ml0, sm_mil, sm_mli]; exact t4)]
    have own : ∀ fx fm : Option (Int32 × gk_M), sm_J b K (gk_mi mx 37 4 (sm_n b)) (gk_mi (gk_mi mm 0 43 (sm_n K)) 0 44 (sm_n b)) 30 0 fx fm → sm_al2 mx mm (gk_bi fx fun v6 m5 => some (v6, m5)) (gk_bi fm fun v m => some (v, m)) := fun _ _ => fin
    have mono : ∀ {c : Nat} {fx fm : Option (Int32 × gk_M)}, c ≤ 30 → sm_J b K (gk_mi mx 37 4 (sm_n b)) (gk_mi (gk_mi mm 0 43 (sm_n K)) 0 44 (sm_n b)) c 0 fx fm → sm_J b K (gk_mi mx 37 4 (sm_n b)) (gk_mi (gk_mi mm 0 43 (sm_n K)) 0 44 (sm_n b)) 30 0 fx fm := by
      rintro c fx fm hc ⟨v, r', mx', mm', g1, g2, g3, g4⟩
      exact ⟨v, r', mx', mm', g1, g2, g3, by omega⟩
    rw [show f_Ways_own (sm_n t) x 0 (gk_mi (gk_mi mx 37 1 0) 37 4 (sm_n b)) = r_Ways_run 60 2 (sm_n t) x 0 0 (gk_mi (gk_mi mx 37 1 0) 37 4 (sm_n b)) from rfl]
    rcases (by omega : t = 0 ∨ t = 1 ∨ t = 2 ∨ t = 3) with rfl | rfl | rfl | rfl
    · rw [if_pos (by decide)]
      exact fin (mono (c := 2) (by omega) (J_ohides (dep := 0) hQ (by omega) hk8 (by omega) (by omega) 55 x (by omega)))
    · rw [if_neg (by decide), if_pos (by decide)]
      exact fin (mono (c := 20) (by omega) (J_ostands (dep := 0) hQ (by omega) hk8 (by omega) (by omega) 47 x))
    · rw [if_neg (by decide), if_neg (by decide), if_pos (by decide)]
      exact fin (mono (c := 5) (by omega) (J_olines (dep := 0) hQ (by omega) hk8 (by omega) (by omega) 52 x))
    · rw [if_neg (by decide), if_neg (by decide), if_neg (by decide), if_pos (by decide)]
      have J := J_tells (dep := 0) hQ (by omega) hk8 (by omega) hk8 (by omega) 42 58 x
      refine fin ?_
      rw [show r_Ways_run 60 2 (sm_n 3) x 0 0 (gk_mi (gk_mi mx 37 1 0) 37 4 (sm_n b)) = r_Ways_run 59 1 (sm_n K) (sm_n 3) x 0 (gk_mi (gk_mi mx 37 1 0) 37 4 (sm_n b)) from x_own hQ.2.2.2.1 (by omega) hQ.2.2.2.2.1 59 _ _ _, hM0]
      exact J
  · rw [if_neg (show ¬ sm_n t < 4 by simp (disch := omega) only [sm_lit, sm_nlt, sm_nle, sm_neq, sm_n_add, sm_n_mul, sm_n_div, sm_n_rem, sm_bi, sm_bl, sm_bv, sm_let, sm_zz0, sm_zz1, sm_ai, sm_si, sm_al, sm_sl, sm_ar, sm_mi1, sm_mi0, sm_ml1, sm_ml0, sm_mil, sm_mli]; exact t4), if_neg (by simp (disch := omega) only [sm_lit, sm_nlt, sm_nle, sm_neq, sm_n_add, sm_n_mul, sm_n_div, sm_n_rem, sm_bi, sm_bl, sm_bv, sm_let, sm_zz0, sm_zz1, sm_ai, sm_si, sm_al, sm_sl, sm_ar, sm_mi1, sm_mi0, sm_ml1, sm_ml0, sm_mil, sm_mli]; omega), if_neg (by simp (disch := omega) only [sm_lit, sm_nlt, sm_nle, sm_neq, sm_n_add, sm_n_mul, sm_n_div, sm_n_rem, sm_bi, sm_bl, sm_bv, sm_let, sm_zz0, sm_zz1, sm_ai, sm_si, sm_al, sm_sl, sm_ar, sm_mi1, sm_mi0, sm_ml1, sm_ml0, sm_mil, sm_mli]; omega), if_neg (by simp (disch := omega) only [sm_lit, sm_nlt, sm_nle, sm_neq, sm_n_add, sm_n_mul, sm_n_div, sm_n_rem, sm_bi, sm_bl, sm_bv, sm_let, sm_zz0, sm_zz1, sm_ai, sm_si, sm_al, sm_sl, sm_ar, sm_mi1, sm_mi0, sm_ml1, sm_ml0, sm_mil, sm_mli]; omega), if_neg (by simp (disch := omega) only [sm_lit, sm_nlt, sm_nle, sm_neq, sm_n_add, sm_n_mul, sm_n_div, sm_n_rem, sm_bi, sm_bl, sm_bv, sm_let, sm_zz0, sm_zz1, sm_ai, sm_si, sm_al, sm_sl, sm_ar, sm_mi1, sm_mi0, sm_ml1, sm_ml0, sm_mil, sm_mli]; omega)]
    exact ⟨_, _, _, rfl, rfl, hJ0⟩
