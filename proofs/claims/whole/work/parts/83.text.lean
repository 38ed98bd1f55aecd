/-! SIM: the law's text: what it says, on numbers -/
def sl_b (t : Nat → Nat) (L i : Nat) : Nat := if i < L then t i else 0
abbrev sl_R : Type := Bool × Nat × List Int32 × ((Nat → Int32) → Int32)
def sl_six (a b o k n m : Int32) (i : Nat) : Int32 := if i = 0 then a else if i = 1 then b else if i = 2 then o else if i = 3 then k else if i = 4 then n else m
def sl_cut (f : Nat → Int32) : Nat → Int32 := sl_six (f 0) (f 1) (f 2) (f 3) (f 4) (f 5)
theorem sl_cut6 {f : Nat → Int32} {i : Nat} (h : i < 6) : sl_cut f i = f i := by
  rcases (show i = 0 ∨ i = 1 ∨ i = 2 ∨ i = 3 ∨ i = 4 ∨ i = 5 by omega) with rfl | rfl | rfl | rfl | rfl | rfl <;> rfl
def sl_lv (c : Nat) : Nat := if c = 124 then 0 else if c = 38 then 1 else if c = 60 then 2 else if c = 61 then 2 else if c = 62 then 2 else if c = 43 then 3 else if c = 45 then 3 else if c = 42 then 4 else if c = 47 then 4 else if c = 37 then 4 else 9
def sl_wk (c : Nat) (l r : Int32) : Int32 := if c = 124 then (if ¬ l = 0 then 1 else if r = 0 then 0 else 1) else if c = 38 then (if l = 0 then 0 else if r = 0 then 0 else 1) else if c = 60 then (if r ≤ l then 0 else 1) else if c = 61 then (if ¬ l = r then 0 else 1) else if c = 62 then (if l ≤ r then 0 else 1) else if c = 43 then l + r else if c = 45 then l - r else if c = 42 then l * r else if c = 47 then (if ¬ r = 0 then l / r else 0) else (if ¬ r = 0 then l - l / r * r else 0)
def sl_nm (c : Nat) : Nat := if c = 97 then 0 else if c = 98 then 1 else if c = 111 then 2 else if c = 107 then 3 else if c = 110 then 4 else if c = 109 then 5 else 9
theorem sl_lv_s {c : Nat} (h : sl_lv c < 5) : c = 124 ∨ c = 38 ∨ c = 60 ∨ c = 61 ∨ c = 62 ∨ c = 43 ∨ c = 45 ∨ c = 42 ∨ c = 47 ∨ c = 37 := by
  unfold sl_lv at h
  repeat' split at h
  all_goals first | omega | (simp_all; done)
theorem sl_nm_s {c : Nat} (h : sl_nm c < 6) : c = 97 ∨ c = 98 ∨ c = 111 ∨ c = 107 ∨ c = 110 ∨ c = 109 := by
  unfold sl_nm at h
  repeat' split at h
  all_goals first | omega | (simp_all; done)
def sl_dg (b : Nat → Nat) : Nat → Nat → Nat → Nat × Nat
  | 0, v, a => (v, a)
  | n + 1, v, a => if 48 ≤ b a ∧ b a ≤ 57 then sl_dg b n (10 * v + b a - 48) (a + 1) else (v, a)
def sl_fl (a : Nat) : sl_R := (false, a, [], fun _ => 0)
def sl_os (b : Nat → Nat) (z : Bool) (O E : Nat → sl_R) (a : Nat) : sl_R :=
  if 48 ≤ b a ∧ b a ≤ 57 then (true, (sl_dg b 4 0 a).2, [sm_n (sl_dg b 4 0 a).1], fun _ => sm_n (sl_dg b 4 0 a).1)
  else if sl_nm (b a) < 6 then (true, a + 1, [sm_i (-1 - (sl_nm (b a) : Int))], fun ns => ns (sl_nm (b a)))
  else if z = true then sl_fl a
  else if b a = 33 then ((O (a + 1)).1, (O (a + 1)).2.1, (O (a + 1)).2.2.1 ++ [-133], fun ns => if ¬ (O (a + 1)).2.2.2 ns = 0 then 0 else 1)
  else if b a = 45 then ((O (a + 1)).1, (O (a + 1)).2.1, (O (a + 1)).2.2.1 ++ [-400], fun ns => - (O (a + 1)).2.2.2 ns)
  else if b a = 40 then (if (E (a + 1)).1 = true ∧ b (E (a + 1)).2.1 = 41 then (true, (E (a + 1)).2.1 + 1, (E (a + 1)).2.2.1, (E (a + 1)).2.2.2) else sl_fl (E (a + 1)).2.1)
  else sl_fl a
def sl_cb (c : Nat) (r s : sl_R) : sl_R := (s.1, s.2.1, r.2.2.1 ++ (s.2.2.1 ++ [sm_i (-100 - (c : Int))]), fun ns => sl_wk c (r.2.2.2 ns) (s.2.2.2 ns))
def sl_lp (b : Nat → Nat) (lev : Nat) (sub : Nat → sl_R) : Nat → sl_R → sl_R
  | 0, r => r
  | n + 1, r => if r.1 = true ∧ sl_lv (b r.2.1) = lev then (if lev = 2 then sl_cb (b r.2.1) r (sub (r.2.1 + 1)) else sl_lp b lev sub n (sl_cb (b r.2.1) r (sub (r.2.1 + 1)))) else r
def sl_L (b : Nat → Nat) (lev : Nat) (sub : Nat → sl_R) (a : Nat) : sl_R := sl_lp b lev sub 120 (sub a)
def sl_V (b : Nat → Nat) (sub : Nat → sl_R) : Nat → (Nat → sl_R)
  | 0 => sub
  | j + 1 => sl_L b (4 - j) (sl_V b sub j)
def sl_O (b : Nat → Nat) : Nat → Nat → sl_R
  | 0 => sl_os b true sl_fl sl_fl
  | k + 1 => sl_os b false (sl_O b k) (sl_V b (sl_O b k) 5)
/-! a row of codes in a cell -/
def sl_at (k : Nat) (m : gk_M) : Nat → List Int32 → Prop
  | _, [] => True
  | p, c :: cs => m.1 k p = c ∧ sl_at k m (p + 1) cs
theorem sl_at_app {k : Nat} {m : gk_M} : ∀ (x y : List Int32) (p : Nat), sl_at k m p (x ++ y) ↔ sl_at k m p x ∧ sl_at k m (p + x.length) y
  | [], y, p => by
    show sl_at k m p y ↔ True ∧ sl_at k m (p + 0) y
    rw [true_and]; rfl
  | c :: x, y, p => by
    show (m.1 k p = c ∧ sl_at k m (p + 1) (x ++ y)) ↔ (m.1 k p = c ∧ sl_at k m (p + 1) x) ∧ sl_at k m (p + (x.length + 1)) y
    rw [sl_at_app x y (p + 1), and_assoc, show p + 1 + x.length = p + (x.length + 1) by omega]
theorem sl_at_cg {k k' : Nat} {m m' : gk_M} : ∀ (x : List Int32) (p : Nat), (∀ j, p ≤ j → j < p + x.length → m'.1 k' j = m.1 k j) → sl_at k m p x → sl_at k' m' p x
  | [], _, _, _ => trivial
  | c :: x, p, h, hx => by
    have hl : (c :: x).length = x.length + 1 := rfl
    exact ⟨(h p (Nat.le_refl p) (by omega)).trans hx.1, sl_at_cg x (p + 1) (fun j h1 h2 => h j (by omega) (by omega)) hx.2⟩
/-! the stack machine -/
def sl_ex (code : List Int32) (v : (Nat → Int32) → Int32) : Prop := 1 ≤ code.length ∧ ∀ (m : gk_M) (top p fu N : Nat), m.1 1 2 = sm_n N → N ≤ 256 → p + code.length ≤ N → top + code.length ≤ 256 → sl_at 2 m p code → ∃ m', f_Law_verdict_31 (fu + code.length) (sm_n top) 0 (sm_n p) m = f_Law_verdict_31 fu (sm_n (top + 1)) 0 (sm_n (p + code.length)) m' ∧ m'.1 3 top = v (sl_cut (m.1 19)) ∧ (∀ j, j < top → m'.1 3 j = m.1 3 j) ∧ (∀ k, k ≠ 3 → m'.1 k = m.1 k) ∧ m'.2 = m.2
theorem sl_m1 {a b : Nat} (h : 1 ≤ a) (e : b = a - 1) : sm_n a + (-1) = sm_n b := by
  rw [sv_dn, sm_ni, e]; congr 1; omega
theorem sl_s1 {a b : Nat} (h : 1 ≤ a) (e : b = a - 1) : sm_n a - 1 = sm_n b := by
  rw [e]; exact sm_n_sub (b := 1) h
theorem sl_ex_num {n : Nat} (hn : n < 10000) : sl_ex [sm_n n] (fun _ => sm_n n) := by
  refine ⟨Nat.le_refl 1, ?_⟩
  intro m top p fu N hN hN2 hp ht hat
  have hp : p + 1 ≤ N := hp
  have ht : top + 1 ≤ 256 := ht
  have h1 : m.1 2 p = sm_n n := hat.1
  refine ⟨gk_mi m 3 top (sm_n n), ?_, sm_mi1 _ _ _ _, fun j hj => sm_mi0 (by omega), fun k hk => sm_mik hk, rfl⟩
  show f_Law_verdict_31 (fu + 1) (sm_n top) 0 (sm_n p) m = _
  rw [f_Law_verdict_31]
  rw [hN, if_neg (show ¬ sm_n N ≤ sm_n p by rw [sm_nle (by omega) (by omega)]; omega), sm_ai (by omega) (by omega), h1, if_pos (show (0 : Int32) = 0 from rfl), if_neg (show ¬ sm_n n < -6 by rw [sm_lt, sm_n_int (by omega), show (-6 : Int32).toInt = -6 from rfl]; omega), if_neg (show ¬ 256 ≤ sm_n top by rw [show (256 : Int32) = sm_n 256 from rfl, sm_nle (by omega) (by omega)]; omega), if_neg (sm_nn (by omega))]
  unfold f_Law_verdict_105
  rw [sm_si (by omega) (by omega), show sm_n top + 1 = sm_n (top + 1) from sm_n_add top 1, show sm_n p + 1 = sm_n (p + 1) from sm_n_add p 1]
  rfl
theorem sl_nmc : ∀ i : Fin 6, ¬ sm_i (-1 - (i.1 : Int)) < -6 ∧ sm_i (-1 - (i.1 : Int)) < 0 ∧ (-1) - sm_i (-1 - (i.1 : Int)) = sm_n i.1 ∧ sm_i (-1 - (i.1 : Int)) ≠ -159 := by decide
theorem sl_ex_nam {i : Nat} (hi : i < 6) : sl_ex [sm_i (-1 - (i : Int))] (fun ns => ns i) := by
  refine ⟨Nat.le_refl 1, ?_⟩
  intro m top p fu N hN hN2 hp ht hat
  have hp : p + 1 ≤ N := hp
  have ht : top + 1 ≤ 256 := ht
  have h1 : m.1 2 p = sm_i (-1 - (i : Int)) := hat.1
  obtain ⟨n1, n2, n3, n4⟩ := sl_nmc ⟨i, hi⟩
  refine ⟨gk_mi m 3 top (m.1 19 i), ?_, (sm_mi1 _ _ _ _).trans (sl_cut6 hi).symm, fun j hj => sm_mi0 (by omega), fun k hk => sm_mik hk, rfl⟩
  show f_Law_verdict_31 (fu + 1) (sm_n top) 0 (sm_n p) m = _
  rw [f_Law_verdict_31]
  rw [hN, if_neg (show ¬ sm_n N ≤ sm_n p by rw [sm_nle (by omega) (by omega)]; omega), sm_ai (by omega) (by omega), h1, if_pos (show (0 : Int32) = 0 from rfl), if_neg n1, if_neg (show ¬ 256 ≤ sm_n top by rw [show (256 : Int32) = sm_n 256 from rfl, sm_nle (by omega) (by omega)]; omega), if_pos n2, show (-1) - sm_i (-1 - (i : Int)) = sm_n i from n3, sm_ai (by omega) (by omega)]
  unfold f_Law_verdict_105
  rw [sm_si (by omega) (by omega), show sm_n top + 1 = sm_n (top + 1) from sm_n_add top 1, show sm_n p + 1 = sm_n (p + 1) from sm_n_add p 1]
  rfl
theorem sl_ex_not {x : List Int32} {v : (Nat → Int32) → Int32} (hx : sl_ex x v) : sl_ex (x ++ [-133]) (fun ns => if ¬ v ns = 0 then 0 else 1) := by
  refine ⟨by rw [List.length_append]; exact Nat.le_add_left 1 _, ?_⟩
  intro m top p fu N hN hN2 hp ht hat
  rw [List.length_append] at hp ht
  have e1 : ([-133] : List Int32).length = 1 := rfl
  rw [e1] at hp ht
  obtain ⟨a1, a2⟩ := (sl_at_app _ _ _).mp hat
  obtain ⟨m1, q1, q2, q3, q4, q5⟩ := hx.2 m top p (fu + 1) N hN hN2 (by omega) (by omega) a1
  have h2 : m1.1 2 (p + x.length) = -133 := by rw [q4 2 (by decide)]; exact a2.1
  refine ⟨gk_mi m1 3 top (if ¬ v (sl_cut (m.1 19)) = 0 then 0 else 1), ?_, sm_mi1 _ _ _ _, fun j hj => (sm_mi0 (by omega)).trans (q3 j hj), fun k hk => (sm_mik hk).trans (q4 k hk), q5⟩
  rw [List.length_append, e1, show fu + (x.length + 1) = fu + 1 + x.length by omega, q1, f_Law_verdict_31]
  rw [show m1.1 1 2 = sm_n N by rw [q4 1 (by decide)]; exact hN, if_neg (show ¬ sm_n N ≤ sm_n (p + x.length) by rw [sm_nle (by omega) (by omega)]; omega), sm_ai (by omega) (by omega), h2, if_pos (show (0 : Int32) = 0 from rfl), if_pos (show (-133 : Int32) < -6 by decide)]
  unfold f_Law_verdict_112 f_Law_verdict_188 f_Law_verdict_224
  rw [if_pos (show ¬ (-133 : Int32) = -159 by decide), if_pos (show ¬ (-133 : Int32) = -163 by decide), if_pos (show ¬ (-133 : Int32) = -400 by decide), if_neg (show ¬ ¬ (-133 : Int32) = -133 from fun z => z rfl), if_neg (show ¬ sm_n (top + 1) < 1 by rw [show (1 : Int32) = sm_n 1 from rfl, sm_nlt (by omega) (by omega)]; omega), sl_s1 (b := top) (by omega) (by omega), sm_ai (by omega) (by omega), q2, sm_si (by omega) (by omega), sm_si (by omega) (by omega), show sm_n (p + x.length) + 1 = sm_n (p + (x.length + 1)) from sm_n_add _ 1]
  by_cases z : v (sl_cut (m.1 19)) = 0
  · rw [if_neg (fun y => y z), if_neg (fun y => y z)]
  · rw [if_pos z, if_pos z]
theorem sl_ex_neg {x : List Int32} {v : (Nat → Int32) → Int32} (hx : sl_ex x v) : sl_ex (x ++ [-400]) (fun ns => - v ns) := by
  refine ⟨by rw [List.length_append]; exact Nat.le_add_left 1 _, ?_⟩
  intro m top p fu N hN hN2 hp ht hat
  rw [List.length_append] at hp ht
  have e1 : ([-400] : List Int32).length = 1 := rfl
  rw [e1] at hp ht
  obtain ⟨a1, a2⟩ := (sl_at_app _ _ _).mp hat
  obtain ⟨m1, q1, q2, q3, q4, q5⟩ := hx.2 m top p (fu + 1) N hN hN2 (by omega) (by omega) a1
  have h2 : m1.1 2 (p + x.length) = -400 := by rw [q4 2 (by decide)]; exact a2.1
  refine ⟨gk_mi m1 3 top (- v (sl_cut (m.1 19))), ?_, sm_mi1 _ _ _ _, fun j hj => (sm_mi0 (by omega)).trans (q3 j hj), fun k hk => (sm_mik hk).trans (q4 k hk), q5⟩
  rw [List.length_append, e1, show fu + (x.length + 1) = fu + 1 + x.length by omega, q1, f_Law_verdict_31]
  rw [show m1.1 1 2 = sm_n N by rw [q4 1 (by decide)]; exact hN, if_neg (show ¬ sm_n N ≤ sm_n (p + x.length) by rw [sm_nle (by omega) (by omega)]; omega), sm_ai (by omega) (by omega), h2, if_pos (show (0 : Int32) = 0 from rfl), if_pos (show (-400 : Int32) < -6 by decide)]
  unfold f_Law_verdict_112
  rw [if_pos (show ¬ (-400 : Int32) = -159 by decide), if_pos (show ¬ (-400 : Int32) = -163 by decide), if_neg (show ¬ ¬ (-400 : Int32) = -400 from fun z => z rfl), if_neg (show ¬ sm_n (top + 1) < 1 by rw [show (1 : Int32) = sm_n 1 from rfl, sm_nlt (by omega) (by omega)]; omega), sl_s1 (b := top) (by omega) (by omega), sm_ai (by omega) (by omega), q2, sm_si (by omega) (by omega), show sm_n (p + x.length) + 1 = sm_n (p + (x.length + 1)) from sm_n_add _ 1]
theorem x_worked {c : Nat} (h : sl_lv c < 5) (l r : Int32) (m : gk_M) : f_Law_worked (sm_n c) l r m = some (sl_wk c l r, m) := by
  unfold f_Law_worked
  rcases sl_lv_s h with rfl | rfl | rfl | rfl | rfl | rfl | rfl | rfl | rfl | rfl
  · rw [if_neg (show ¬ sm_n 124 = 38 by decide), if_neg (show ¬ sm_n 124 = 42 by decide), if_neg (show ¬ sm_n 124 = 43 by decide), if_neg (show ¬ sm_n 124 = 45 by decide), if_neg (show ¬ sm_n 124 = 47 by decide), if_neg (show ¬ sm_n 124 = 60 by decide), if_neg (show ¬ sm_n 124 = 61 by decide), if_neg (show ¬ sm_n 124 = 62 by decide), if_pos (show sm_n 124 = 124 from rfl)]
    show _ = some ((if ¬ l = 0 then 1 else if r = 0 then 0 else 1), m)
    by_cases h1 : l = 0
    · rw [if_neg (show ¬ ¬ l = 0 from fun z => z h1), if_neg (show ¬ ¬ l = 0 from fun z => z h1)]
      by_cases h2 : r = 0
      · rw [if_pos h2, if_pos h2]
      · rw [if_neg h2, if_neg h2]
    · rw [if_pos (show ¬ l = 0 from h1), if_pos (show ¬ l = 0 from h1)]
  · rw [if_pos (show sm_n 38 = 38 from rfl)]
    show _ = some ((if l = 0 then 0 else if r = 0 then 0 else 1), m)
    by_cases h1 : l = 0
    · rw [if_pos h1, if_pos h1]
    · rw [if_neg h1, if_neg h1]
      by_cases h2 : r = 0
      · rw [if_pos h2, if_pos h2]
      · rw [if_neg h2, if_neg h2]
  · rw [if_neg (show ¬ sm_n 60 = 38 by decide), if_neg (show ¬ sm_n 60 = 42 by decide), if_neg (show ¬ sm_n 60 = 43 by decide), if_neg (show ¬ sm_n 60 = 45 by decide), if_neg (show ¬ sm_n 60 = 47 by decide), if_pos (show sm_n 60 = 60 from rfl)]
    show _ = some ((if r ≤ l then 0 else 1), m)
    by_cases h1 : r ≤ l
    · rw [if_pos h1, if_pos h1]
    · rw [if_neg h1, if_neg h1]
  · rw [if_neg (show ¬ sm_n 61 = 38 by decide), if_neg (show ¬ sm_n 61 = 42 by decide), if_neg (show ¬ sm_n 61 = 43 by decide), if_neg (show ¬ sm_n 61 = 45 by decide), if_neg (show ¬ sm_n 61 = 47 by decide), if_neg (show ¬ sm_n 61 = 60 by decide), if_pos (show sm_n 61 = 61 from rfl)]
    show _ = some ((if ¬ l = r then 0 else 1), m)
    by_cases h1 : l = r
    · rw [if_neg (fun z => z h1), if_neg (fun z => z h1)]
    · rw [if_pos h1, if_pos h1]
  · rw [if_neg (show ¬ sm_n 62 = 38 by decide), if_neg (show ¬ sm_n 62 = 42 by decide), if_neg (show ¬ sm_n 62 = 43 by decide), if_neg (show ¬ sm_n 62 = 45 by decide), if_neg (show ¬ sm_n 62 = 47 by decide), if_neg (show ¬ sm_n 62 = 60 by decide), if_neg (show ¬ sm_n 62 = 61 by decide), if_pos (show sm_n 62 = 62 from rfl)]
    show _ = some ((if l ≤ r then 0 else 1), m)
    by_cases h1 : l ≤ r
    · rw [if_pos h1, if_pos h1]
    · rw [if_neg h1, if_neg h1]
  · rw [if_neg (show ¬ sm_n 43 = 38 by decide), if_neg (show ¬ sm_n 43 = 42 by decide), if_pos (show sm_n 43 = 43 from rfl)]
    rfl
  · rw [if_neg (show ¬ sm_n 45 = 38 by decide), if_neg (show ¬ sm_n 45 = 42 by decide), if_neg (show ¬ sm_n 45 = 43 by decide), if_pos (show sm_n 45 = 45 from rfl)]
    rfl
  · rw [if_neg (show ¬ sm_n 42 = 38 by decide), if_pos (show sm_n 42 = 42 from rfl)]
    rfl
  · rw [if_neg (show ¬ sm_n 47 = 38 by decide), if_neg (show ¬ sm_n 47 = 42 by decide), if_neg (show ¬ sm_n 47 = 43 by decide), if_neg (show ¬ sm_n 47 = 45 by decide), if_pos (show sm_n 47 = 47 from rfl)]
    show _ = some ((if ¬ r = 0 then l / r else 0), m)
    by_cases h1 : r = 0
    · rw [if_neg (fun z => z h1), if_neg (fun z => z h1)]
    · rw [if_pos h1, if_pos h1]
      unfold gk_di
      rw [if_neg h1]
  · rw [if_neg (show ¬ sm_n 37 = 38 by decide), if_neg (show ¬ sm_n 37 = 42 by decide), if_neg (show ¬ sm_n 37 = 43 by decide), if_neg (show ¬ sm_n 37 = 45 by decide), if_neg (show ¬ sm_n 37 = 47 by decide), if_neg (show ¬ sm_n 37 = 60 by decide), if_neg (show ¬ sm_n 37 = 61 by decide), if_neg (show ¬ sm_n 37 = 62 by decide), if_neg (show ¬ sm_n 37 = 124 by decide)]
    show _ = some ((if ¬ r = 0 then l - l / r * r else 0), m)
    by_cases h1 : r = 0
    · rw [if_neg (fun z => z h1), if_neg (fun z => z h1)]
    · rw [if_pos h1, if_pos h1]
      unfold gk_re
      rw [if_neg h1]
theorem sl_sg : ∀ c : Fin 128, sl_lv c.1 < 5 → sm_i (-100 - (c.1 : Int)) < -6 ∧ ¬ sm_i (-100 - (c.1 : Int)) = -159 ∧ ¬ sm_i (-100 - (c.1 : Int)) = -163 ∧ ¬ sm_i (-100 - (c.1 : Int)) = -400 ∧ ¬ sm_i (-100 - (c.1 : Int)) = -133 ∧ (-100) - sm_i (-100 - (c.1 : Int)) = sm_n c.1 := by decide
theorem sl_ex_two {x y : List Int32} {v w : (Nat → Int32) → Int32} {c : Nat} (hc : sl_lv c < 5) (hx : sl_ex x v) (hy : sl_ex y w) : sl_ex (x ++ (y ++ [sm_i (-100 - (c : Int))])) (fun ns => sl_wk c (v ns) (w ns)) := by
  have hc8 : c < 128 := by have := sl_lv_s hc; omega
  obtain ⟨s1, s2, s3, s4, s5, s6⟩ := sl_sg ⟨c, hc8⟩ hc
  have hx1 := hx.1
  have hy1 := hy.1
  refine ⟨by rw [List.length_append]; omega, ?_⟩
  intro m top p fu N hN hN2 hp ht hat
  have e1 : ([sm_i (-100 - (c : Int))] : List Int32).length = 1 := rfl
  rw [List.length_append, List.length_append, e1] at hp ht
  obtain ⟨a1, a2⟩ := (sl_at_app _ _ _).mp hat
  obtain ⟨a2, a3⟩ := (sl_at_app _ _ _).mp a2
  obtain ⟨m1, q1, q2, q3, q4, q5⟩ := hx.2 m top p (fu + 1 + y.length) N hN hN2 (by omega) (by omega) a1
  obtain ⟨m2, r1, r2, r3, r4, r5⟩ := hy.2 m1 (top + 1) (p + x.length) (fu + 1) N (by rw [q4 1 (by decide)]; exact hN) hN2 (by omega) (by omega) (sl_at_cg _ _ (fun j _ _ => by rw [q4 2 (by decide)]) a2)
  have h2 : m2.1 2 (p + x.length + y.length) = sm_i (-100 - (c : Int)) := by rw [r4 2 (by decide), q4 2 (by decide)]; exact a3.1
  have hv : m2.1 3 top = v (sl_cut (m.1 19)) := (r3 top (by omega)).trans q2
  have hw : m2.1 3 (top + 1) = w (sl_cut (m.1 19)) := by rw [r2, q4 19 (by decide)]
  refine ⟨gk_mi m2 3 top (sl_wk c (v (sl_cut (m.1 19))) (w (sl_cut (m.1 19)))), ?_, sm_mi1 _ _ _ _, fun j hj => (sm_mi0 (by omega)).trans ((r3 j (by omega)).trans (q3 j hj)), fun k hk => (sm_mik hk).trans ((r4 k hk).trans (q4 k hk)), r5.trans q5⟩
  rw [List.length_append, List.length_append, e1, show fu + (x.length + (y.length + 1)) = fu + 1 + y.length + x.length by omega, q1, r1, f_Law_verdict_31]
  rw [show m2.1 1 2 = sm_n N by rw [r4 1 (by decide), q4 1 (by decide)]; exact hN, if_neg (show ¬ sm_n N ≤ sm_n (p + x.length + y.length) by rw [sm_nle (by omega) (by omega)]; omega), sm_ai (by omega) (by omega), h2, if_pos (show (0 : Int32) = 0 from rfl), if_pos s1]
  unfold f_Law_verdict_112 f_Law_verdict_188 f_Law_verdict_228
  rw [if_pos s2, if_pos s3, if_pos s4, if_pos s5, if_neg (show ¬ sm_n (top + 1 + 1) < 2 by rw [show (2 : Int32) = sm_n 2 from rfl, sm_nlt (by omega) (by omega)]; omega), sl_m1 (b := top + 1) (by omega) (by omega), sl_s1 (b := top) (by omega) (by omega), sm_ai (by omega) (by omega), sm_ai (by omega) (by omega), hv, hw, s6, x_worked hc, sm_bi, sm_si (by omega) (by omega), show sm_n (p + x.length + y.length) + 1 = sm_n (p + (x.length + (y.length + 1))) by rw [show p + (x.length + (y.length + 1)) = p + x.length + y.length + 1 by omega]; exact sm_n_add _ 1]
/-! what is read is good -/
def sl_G (L a : Nat) (r : sl_R) : Prop := a ≤ r.2.1 ∧ (a ≤ L → r.2.1 ≤ L) ∧ (r.1 = true → a + 1 ≤ r.2.1 ∧ r.2.2.1.length + a ≤ r.2.1 ∧ sl_ex r.2.2.1 r.2.2.2 ∧ ∀ c, c ∈ r.2.2.1 → c ≠ -159)
section SG
variable {t : Nat → Nat} {L : Nat}
theorem sl_bl {a : Nat} (h : sl_b t L a ≠ 0) : a < L := by
  unfold sl_b at h
  by_cases e : a < L
  · exact e
  · rw [if_neg e] at h; exact absurd rfl h
theorem sl_G_fl {a a' : Nat} (h : a ≤ a') (h2 : a ≤ L → a' ≤ L) : sl_G L a (sl_fl a') := ⟨h, h2, fun z => absurd z Bool.false_ne_true⟩
theorem sl_p10 : ∀ n, 0 < 10 ^ n
  | 0 => by decide
  | n + 1 => by
    rw [Nat.pow_succ]
    have := sl_p10 n
    omega
theorem sl_dg_le : ∀ n v a, a ≤ (sl_dg (sl_b t L) n v a).2 ∧ (a ≤ L → (sl_dg (sl_b t L) n v a).2 ≤ L) ∧ (sl_dg (sl_b t L) n v a).1 < (v + 1) * 10 ^ n
  | 0, v, a => ⟨Nat.le_refl _, id, by show v < (v + 1) * 1; omega⟩
  | n + 1, v, a => by
    unfold sl_dg
    by_cases h : 48 ≤ sl_b t L a ∧ sl_b t L a ≤ 57
    · rw [if_pos h]
      have hl := sl_bl (t := t) (L := L) (a := a) (by omega)
      obtain ⟨i1, i2, i3⟩ := sl_dg_le n (10 * v + sl_b t L a - 48) (a + 1)
      refine ⟨by omega, fun _ => i2 (by omega), Nat.lt_of_lt_of_le i3 ?_⟩
      rw [Nat.pow_succ, Nat.mul_comm (10 ^ n) 10, ← Nat.mul_assoc]
      exact Nat.mul_le_mul_right _ (by omega)
    · rw [if_neg h]
      refine ⟨Nat.le_refl _, id, ?_⟩
      have := sl_p10 (n + 1)
      have h2 := Nat.mul_le_mul_left (v + 1) this
      show v < (v + 1) * 10 ^ (n + 1)
      omega
theorem sl_dg_lt {a : Nat} (h : 48 ≤ sl_b t L a ∧ sl_b t L a ≤ 57) : a + 1 ≤ (sl_dg (sl_b t L) 4 0 a).2 := by
  show a + 1 ≤ (if 48 ≤ sl_b t L a ∧ sl_b t L a ≤ 57 then sl_dg (sl_b t L) 3 (10 * 0 + sl_b t L a - 48) (a + 1) else (0, a)).2
  rw [if_pos h]
  exact (sl_dg_le 3 _ (a + 1)).1
theorem sl_G_cb {a c : Nat} {r s : sl_R} (hc : sl_lv c < 5) (hr : sl_G L a r) (hok : r.1 = true) (hrl : r.2.1 < L) (hs : sl_G L (r.2.1 + 1) s) : sl_G L a (sl_cb c r s) := by
  obtain ⟨r1, r2, r3⟩ := hr
  obtain ⟨s1, s2, s3⟩ := hs
  obtain ⟨r4, r5, r6, r7⟩ := r3 hok
  have hc8 : c < 128 := by have := sl_lv_s hc; omega
  refine ⟨?_, fun _ => s2 (by omega), fun z => ?_⟩
  · show a ≤ s.2.1
    omega
  · obtain ⟨s4, s5, s6, s7⟩ := s3 z
    refine ⟨?_, ?_, sl_ex_two hc r6 s6, ?_⟩
    · show a + 1 ≤ s.2.1
      omega
    · show (r.2.2.1 ++ (s.2.2.1 ++ [sm_i (-100 - (c : Int))])).length + a ≤ s.2.1
      rw [List.length_append, List.length_append, show ([sm_i (-100 - (c : Int))] : List Int32).length = 1 from rfl]
      omega
    · intro x hx
      have hx : x ∈ r.2.2.1 ++ (s.2.2.1 ++ [sm_i (-100 - (c : Int))]) := hx
      rw [List.mem_append, List.mem_append, List.mem_singleton] at hx
      rcases hx with h | h | h
      · exact r7 x h
      · exact s7 x h
      · rw [h]; exact (sl_sg ⟨c, hc8⟩ hc).2.1
theorem sl_lv0 {c lev : Nat} (hlev : lev < 5) (h : sl_lv c = lev) : c ≠ 0 := by
  intro z
  subst z
  have : sl_lv 0 = 9 := rfl
  omega
theorem sl_G_lp {lev : Nat} (hlev : lev < 5) {sub : Nat → sl_R} (hsub : ∀ a, sl_G L a (sub a)) : ∀ n r a, sl_G L a r → sl_G L a (sl_lp (sl_b t L) lev sub n r)
  | 0, _, _, h => h
  | n + 1, r, a, h => by
    unfold sl_lp
    by_cases e : r.1 = true ∧ sl_lv (sl_b t L r.2.1) = lev
    · rw [if_pos e]
      have hl := sl_bl (t := t) (L := L) (a := r.2.1) (sl_lv0 hlev e.2)
      have g := sl_G_cb (c := sl_b t L r.2.1) (by omega) h e.1 hl (hsub (r.2.1 + 1))
      by_cases e2 : lev = 2
      · rw [if_pos e2]; exact g
      · rw [if_neg e2]; exact sl_G_lp hlev hsub n _ a g
    · rw [if_neg e]; exact h
theorem sl_G_V {sub : Nat → sl_R} (hsub : ∀ a, sl_G L a (sub a)) : ∀ j a, sl_G L a (sl_V (sl_b t L) sub j a)
  | 0, a => hsub a
  | j + 1, a => sl_G_lp (by omega) (sl_G_V hsub j) 120 _ a (sl_G_V hsub j a)
theorem sl_G_os {z : Bool} {O E : Nat → sl_R} (hO : z = false → ∀ a, sl_G L a (O a)) (hE : z = false → ∀ a, sl_G L a (E a)) (a : Nat) : sl_G L a (sl_os (sl_b t L) z O E a) := by
  unfold sl_os
  by_cases h1 : 48 ≤ sl_b t L a ∧ sl_b t L a ≤ 57
  · rw [if_pos h1]
    obtain ⟨d1, d2, d3⟩ := sl_dg_le (t := t) (L := L) 4 0 a
    have d4 := sl_dg_lt h1
    have d3 : (sl_dg (sl_b t L) 4 0 a).1 < 10000 := d3
    refine ⟨d1, d2, fun _ => ⟨d4, ?_, sl_ex_num d3, ?_⟩⟩
    · show 1 + a ≤ (sl_dg (sl_b t L) 4 0 a).2
      omega
    · intro c hc
      rw [List.mem_singleton] at hc
      rw [hc, ne_eq, sm_eq, sm_n_int (by omega), show (-159 : Int32).toInt = -159 from rfl]
      omega
  rw [if_neg h1]
  by_cases h2 : sl_nm (sl_b t L a) < 6
  · rw [if_pos h2]
    have hl := sl_bl (t := t) (L := L) (a := a) (by have := sl_nm_s h2; omega)
    refine ⟨Nat.le_succ a, fun _ => hl, fun _ => ⟨Nat.le_refl _, ?_, sl_ex_nam h2, ?_⟩⟩
    · show 1 + a ≤ a + 1
      omega
    · intro c hc
      rw [List.mem_singleton] at hc
      rw [hc]; exact (sl_nmc ⟨_, h2⟩).2.2.2
  rw [if_neg h2]
  cases z with
  | true => rw [if_pos rfl]; exact sl_G_fl (Nat.le_refl _) id
  | false =>
    rw [if_neg Bool.false_ne_true]
    by_cases h3 : sl_b t L a = 33
    · rw [if_pos h3]
      have hl := sl_bl (t := t) (L := L) (a := a) (by omega)
      obtain ⟨o1, o2, o3⟩ := hO rfl (a + 1)
      refine ⟨Nat.le_trans (Nat.le_succ a) o1, fun _ => o2 hl, fun z => ?_⟩
      obtain ⟨o4, o5, o6, o7⟩ := o3 z
      refine ⟨Nat.le_of_succ_le o4, ?_, sl_ex_not o6, ?_⟩
      · show ((O (a + 1)).2.2.1 ++ [-133]).length + a ≤ (O (a + 1)).2.1
        rw [List.length_append, show ([-133] : List Int32).length = 1 from rfl]
        omega
      · intro c hc
        have hc : c ∈ (O (a + 1)).2.2.1 ++ [-133] := hc
        rw [List.mem_append, List.mem_singleton] at hc
        rcases hc with h | h
        · exact o7 c h
        · rw [h]; decide
    rw [if_neg h3]
    by_cases h4 : sl_b t L a = 45
    · rw [if_pos h4]
      have hl := sl_bl (t := t) (L := L) (a := a) (by omega)
      obtain ⟨o1, o2, o3⟩ := hO rfl (a + 1)
      refine ⟨Nat.le_trans (Nat.le_succ a) o1, fun _ => o2 hl, fun z => ?_⟩
      obtain ⟨o4, o5, o6, o7⟩ := o3 z
      refine ⟨Nat.le_of_succ_le o4, ?_, sl_ex_neg o6, ?_⟩
      · show ((O (a + 1)).2.2.1 ++ [-400]).length + a ≤ (O (a + 1)).2.1
        rw [List.length_append, show ([-400] : List Int32).length = 1 from rfl]
        omega
      · intro c hc
        have hc : c ∈ (O (a + 1)).2.2.1 ++ [-400] := hc
        rw [List.mem_append, List.mem_singleton] at hc
        rcases hc with h | h
        · exact o7 c h
        · rw [h]; decide
    rw [if_neg h4]
    by_cases h5 : sl_b t L a = 40
    · rw [if_pos h5]
      have hl := sl_bl (t := t) (L := L) (a := a) (by omega)
      obtain ⟨o1, o2, o3⟩ := hE rfl (a + 1)
      by_cases h6 : (E (a + 1)).1 = true ∧ sl_b t L (E (a + 1)).2.1 = 41
      · rw [if_pos h6]
        have hl2 := sl_bl (t := t) (L := L) (a := (E (a + 1)).2.1) (by omega)
        obtain ⟨o4, o5, o6, o7⟩ := o3 h6.1
        refine ⟨?_, fun _ => hl2, fun _ => ⟨?_, ?_, o6, o7⟩⟩
        · show a ≤ (E (a + 1)).2.1 + 1
          omega
        · show a + 1 ≤ (E (a + 1)).2.1 + 1
          omega
        · show (E (a + 1)).2.2.1.length + a ≤ (E (a + 1)).2.1 + 1
          omega
      · rw [if_neg h6]
        exact sl_G_fl (by omega) (fun _ => o2 hl)
    · rw [if_neg h5]
      exact sl_G_fl (Nat.le_refl _) id
theorem sl_G_O : ∀ k a, sl_G L a (sl_O (sl_b t L) k a)
  | 0, a => sl_G_os (fun z => absurd z.symm Bool.false_ne_true) (fun z => absurd z.symm Bool.false_ne_true) a
  | k + 1, a => sl_G_os (fun _ => sl_G_O k) (fun _ => sl_G_V (sl_G_O k) 5) a
end SG
