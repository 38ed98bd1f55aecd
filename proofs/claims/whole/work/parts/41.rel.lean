/-! SIM: what is searched and summed up along a row -/
def sm_any : Nat → Nat → (Nat → Bool) → Bool
  | 0, _, _ => false
  | l + 1, i, f => f i || sm_any l (i + 1) f
def sm_sum : Nat → Nat → (Nat → Nat) → Nat
  | 0, _, _ => 0
  | l + 1, i, f => f i + sm_sum l (i + 1) f
theorem sm_any_iff {f : Nat → Bool} : ∀ {l i : Nat}, sm_any l i f = true ↔ ∃ j, i ≤ j ∧ j < i + l ∧ f j = true
  | 0, i => by
    constructor
    · intro h; exact absurd h (by simp [sm_any])
    · rintro ⟨j, h1, h2, _⟩; omega
  | l + 1, i => by
    have ih := sm_any_iff (f := f) (l := l) (i := i + 1)
    unfold sm_any
    rw [Bool.or_eq_true, ih]
    constructor
    · rintro (h | ⟨j, h1, h2, h3⟩)
      · exact ⟨i, Nat.le_refl i, by omega, h⟩
      · exact ⟨j, by omega, by omega, h3⟩
    · rintro ⟨j, h1, h2, h3⟩
      by_cases hj : j = i
      · subst hj; exact Or.inl h3
      · exact Or.inr ⟨j, by omega, by omega, h3⟩
theorem sm_any_cg {f g : Nat → Bool} : ∀ {l i : Nat}, (∀ j, i ≤ j → j < i + l → f j = g j) → sm_any l i f = sm_any l i g
  | 0, _, _ => rfl
  | l + 1, i, h => by
    unfold sm_any
    rw [h i (Nat.le_refl i) (by omega), sm_any_cg (fun j h1 h2 => h j (by omega) (by omega))]
theorem sm_sum_cg {f g : Nat → Nat} : ∀ {l i : Nat}, (∀ j, i ≤ j → j < i + l → f j = g j) → sm_sum l i f = sm_sum l i g
  | 0, _, _ => rfl
  | l + 1, i, h => by
    unfold sm_sum
    rw [h i (Nat.le_refl i) (by omega), sm_sum_cg (fun j h1 h2 => h j (by omega) (by omega))]
theorem sm_sum_le {f : Nat → Nat} {b : Nat} : ∀ {l i : Nat}, (∀ j, i ≤ j → j < i + l → f j ≤ b) → sm_sum l i f ≤ l * b
  | 0, _, _ => by unfold sm_sum; omega
  | l + 1, i, h => by
    unfold sm_sum
    have h1 := h i (Nat.le_refl i) (by omega)
    have h2 := sm_sum_le (f := f) (b := b) (l := l) (i := i + 1) (fun j h1 h2 => h j (by omega) (by omega))
    rw [Nat.succ_mul]; omega
/-! whether an int is one of 0 .. h - 1: 1, 0 -/
def sm_u (a : Int32) (h : Nat) : Int32 := if a < 0 then 0 else if sm_n h ≤ a then 0 else 1
theorem sm_u_cases (a : Int32) (h : Nat) (hh : h < 2147483648) : (sm_u a h = 0 ∧ ∀ n, n < h → a ≠ sm_n n) ∨ ∃ n, n < h ∧ a = sm_n n ∧ sm_u a h = 1 := by
  unfold sm_u
  by_cases h0 : a < 0
  · refine Or.inl ⟨if_pos h0, ?_⟩
    rintro n hn rfl
    exact sm_nn (by omega) h0
  · obtain ⟨n, hn, rfl⟩ := sm_get h0
    simp only [if_neg h0, sm_nle hh hn]
    by_cases h1 : h ≤ n
    · refine Or.inl ⟨if_pos h1, ?_⟩
      intro k hk e
      rw [sm_neq hn (by omega)] at e
      omega
    · exact Or.inr ⟨n, by omega, rfl, if_neg h1⟩
theorem sm_u1 {n h : Nat} (hn : n < h) (hh : h < 2147483648) : sm_u (sm_n n) h = 1 := by
  unfold sm_u
  rw [if_neg (sm_nn (by omega)), if_neg]
  rw [sm_nle hh (by omega)]; omega
theorem sm_u0 {n h : Nat} (hn : h ≤ n) (hh : n < 2147483648) : sm_u (sm_n n) h = 0 := by
  unfold sm_u
  rw [if_neg (sm_nn (by omega)), if_pos]
  rw [sm_nle (by omega) hh]; omega
/-! THE ENVIRONMENT: towers (point, height, old, number), roads, forests, the law -/
abbrev sm_tw : Type := Nat × Int32 × Int32 × Nat
abbrev sm_lf : Type := Int32 → Int32 → Int32 → Int32 → Int32 → Int32 → Bool
abbrev sm_rd : Type := Nat × (Nat → Nat) × (Nat → Nat → Nat)
abbrev sm_fs : Type := Nat × (Nat → Nat) × (Nat → Nat)
def sm_dF : sm_lf := fun a b _ _ _ _ => decide (¬ (a + 3 < b))
def sm_cnt (F : sm_lf) (A B : sm_tw) (k : Nat) : Bool := F A.2.1 B.2.1 (A.2.2.1 + B.2.2.1) (sm_n k) (sm_n (min A.2.2.2 B.2.2.2)) (sm_n (max A.2.2.2 B.2.2.2))
def sm_xw (m : gk_M) (t : Nat) (w : sm_tw) : Prop := w.1 < 900 ∧ m.1 8 t = sm_n (w.1 % 30) ∧ m.1 9 t = sm_n (w.1 / 30) ∧ m.1 10 t = w.2.1 ∧ m.1 12 t = w.2.2.1 ∧ w.2.2.2 = min t 10
def sm_mw (n : Nat) (m : gk_M) (t : Nat) (w : sm_tw) : Prop := w.1 < 900 ∧ m.1 5 t = sm_n w.1 ∧ (if t < n then m.1 1 t else m.1 7 t) = w.2.1 ∧ (if t < n then m.1 1 (20 + t) else 0) = w.2.2.1 ∧ m.1 6 t = sm_n w.2.2.2 ∧ w.2.2.2 ≤ 10
def sm_xR (R : sm_rd) (m : gk_M) : Prop := m.1 7 7 = sm_n R.1 ∧ R.1 ≤ 4 ∧ ∀ r, r < R.1 → m.1 13 r = sm_n (R.2.1 r) ∧ 2 ≤ R.2.1 r ∧ R.2.1 r ≤ 6 ∧ ∀ i, i < R.2.1 r → m.1 14 (r * 6 + i) = sm_n (R.2.2 r i) ∧ R.2.2 r i < 900
def sm_mR (R : sm_rd) (m : gk_M) : Prop := m.1 0 10 = sm_n R.1 ∧ R.1 ≤ 4 ∧ ∀ r, r < R.1 → m.1 8 r = sm_n (R.2.1 r) ∧ 2 ≤ R.2.1 r ∧ R.2.1 r ≤ 6 ∧ ∀ i, i < R.2.1 r → m.1 9 (7 * r + i) = sm_n (R.2.2 r i) ∧ R.2.2 r i < 900
def sm_xS (S : sm_fs) (m : gk_M) : Prop := m.1 7 8 = sm_n S.1 ∧ S.1 ≤ 8 ∧ ∀ f, f < S.1 → S.2.1 f < 900 ∧ S.2.2 f < 900 ∧ m.1 15 f = sm_n (S.2.1 f % 30) ∧ m.1 16 f = sm_n (S.2.1 f / 30) ∧ m.1 17 f = sm_n (S.2.2 f % 30) ∧ m.1 18 f = sm_n (S.2.2 f / 30)
def sm_mS (S : sm_fs) (m : gk_M) : Prop := m.1 0 13 = sm_n S.1 ∧ S.1 ≤ 8 ∧ ∀ f, f < S.1 → S.2.1 f < 900 ∧ S.2.2 f < 900 ∧ m.1 10 (2 * f) = sm_n (S.2.1 f) ∧ m.1 10 (2 * f + 1) = sm_n (S.2.2 f)
/-- the law in the class's memory -/
def sm_xF (F : sm_lf) (m : gk_M) : Prop := ∀ m1 : gk_M, m1.1 1 = m.1 1 → m1.1 2 = m.1 2 → ∃ v m2, f_Law_verdict m1 = some (v, m2) ∧ (v = 0 ↔ F (m1.1 19 0) (m1.1 19 1) (m1.1 19 2) (m1.1 19 3) (m1.1 19 4) (m1.1 19 5) = false) ∧ (∀ k, k ≠ 3 → m2.1 k = m1.1 k) ∧ m2.2 = m1.2
/-- the law in the reference's memory -/
def sm_mF (F : sm_lf) (m : gk_M) : Prop := (m.1 0 18 = -1 ∧ F = sm_dF) ∨ ∃ L, L ≤ 120 ∧ m.1 0 18 = sm_n L ∧ ∀ m1 : gk_M, m1.1 12 = m.1 12 → ∃ v m2, f_M_workOut 0 (sm_n L) m1 = some (v, m2) ∧ (v = 0 ↔ F (m1.1 13 0) (m1.1 13 1) (m1.1 13 2) (m1.1 13 3) (m1.1 13 4) (m1.1 13 5) = false) ∧ (∀ k, k ≠ 0 → m2.1 k = m1.1 k) ∧ (∀ j, j < 19 ∨ 23 < j → m2.1 0 j = m1.1 0 j) ∧ m2.2 = m1.2
def sm_xC (F : sm_lf) (T : Nat → sm_tw) (m : gk_M) : Prop := ∀ k s t, k < 5 → s < 12 → t < 12 → m.1 20 ((k * 12 + s) * 12 + t) = 0 ∨ m.1 20 ((k * 12 + s) * 12 + t) = if sm_cnt F (T s) (T t) k then 1 else 2
def sm_X (n : Nat) (T : Nat → sm_tw) (R : sm_rd) (S : sm_fs) (F : sm_lf) (m : gk_M) : Prop := m.1 7 5 = sm_n n ∧ n ≤ 10 ∧ (∀ t, t < 12 → sm_xw m t (T t)) ∧ sm_xR R m ∧ sm_xS S m ∧ sm_xF F m ∧ sm_xC F T m
def sm_M (n : Nat) (T : Nat → sm_tw) (R : sm_rd) (S : sm_fs) (F : sm_lf) (m : gk_M) : Prop := m.1 0 6 = sm_n n ∧ n ≤ 10 ∧ (∀ t, t < 20 → sm_mw n m t (T t)) ∧ sm_mR R m ∧ sm_mS S m ∧ sm_mF F m
/-! THE REST: prices, the tape, sights, changes, bodies, the trace, shelves -/
def rl_pr (n : Nat) (mx mm : gk_M) : Prop := ∀ t, t < n → ∃ p, p ≤ 99 ∧ mx.1 11 t = sm_n p ∧ mm.1 1 (10 + t) = sm_n p
def rl_tape (mx mm : gk_M) : Prop := ∃ n, n ≤ 120 ∧ mx.1 4 2 = sm_n n ∧ mm.1 0 16 = sm_n n ∧ ∀ i, i < n → ∃ b, b < 256 ∧ mx.1 6 i = sm_n b ∧ mm.1 11 i = sm_n b
def rl_sight (mx mm : gk_M) : Prop := ∃ n, n ≤ 10 ∧ mx.1 28 0 = sm_n n ∧ mm.1 0 36 = sm_n n ∧ ∀ i, i < n → mx.1 30 i = mm.1 20 i ∧ ∃ p, p < 900 ∧ mx.1 29 i = sm_n p ∧ mm.1 19 i = sm_n p
def rl_hist (n : Nat) (mx mm : gk_M) : Prop := ∃ d k, d ≤ k ∧ k ≤ 40 ∧ mx.1 32 0 = sm_n d ∧ mx.1 32 1 = sm_n (k - d) ∧ mm.1 0 5 = sm_n d ∧ mm.1 0 4 = sm_n k ∧ ∀ i, i < k → mx.1 35 i = mm.1 3 i ∧ mx.1 36 i = mm.1 4 i ∧ ∃ t w, t < n ∧ w < 3 ∧ mx.1 33 i = sm_n t ∧ mx.1 34 i = sm_n w ∧ mm.1 2 i = sm_n (10 * w + t) ∧ (w = 1 → ∃ p q, p ≤ 99 ∧ q ≤ 99 ∧ mx.1 35 i = sm_n p ∧ mx.1 36 i = sm_n q)
def rl_body (nb : Nat) (mx mm : gk_M) : Prop := nb ≤ 50 ∧ mx.1 37 0 = sm_n nb ∧ mm.1 0 39 = sm_n nb ∧ ∀ i, i < nb → ∃ k, k < 8 ∧ mx.1 38 i = sm_n k ∧ mm.1 21 i = sm_n k
def rl_tr (mx mm : gk_M) : Prop := ∃ r, r < 1000000 ∧ mx.1 37 1 = sm_n r ∧ mm.1 0 42 = sm_n r ∧ ∀ i, i < r → i < 24 → mx.1 39 i = mm.1 22 i
/-- what a shelf holds: nothing, a body, a row (sort, size) -/
def rl_s1 (nb d : Nat) (mx mm : gk_M) : Prop :=
  (mx.1 (41 + d) 1 = -1 ∧ mx.1 (41 + d) 2 = -1 ∧ mm.1 23 d = -1) ∨
  (∃ b, b < nb ∧ mx.1 (41 + d) 1 = sm_n b ∧ mx.1 (41 + d) 2 = -1 ∧ mm.1 23 d = sm_n b) ∨
  (∃ s n, s < 5 ∧ n ≤ 60 ∧ mx.1 (41 + d) 1 = -1 ∧ mx.1 (41 + d) 2 = sm_n s ∧ mx.1 (41 + d) 3 = sm_n n ∧ mm.1 23 d = sm_n (50 + s) ∧ mm.1 24 d = sm_n n ∧ ∀ i, i < n → mx.2 (47 + d) i = mm.2 25 (60 * d + i) ∧ (s = 1 → ∃ z : Int, -32768 ≤ z ∧ z ≤ 32767 ∧ mx.2 (47 + d) i = sm_l z))
def rl_sh (nb : Nat) (mx mm : gk_M) : Prop := ∀ d, d < 6 → rl_s1 nb d mx mm
def rl_T (n : Nat) (TX TM : Nat → sm_tw) : Prop := (∀ t, t < n → TX t = TM t) ∧ ∀ s t, s < t → t < n → (TX s).1 ≠ (TX t).1
def rl_ (mx mm : gk_M) : Prop := ∃ n TX TM R S F nb, sm_X n TX R S F mx ∧ sm_M n TM R S F mm ∧ rl_T n TX TM ∧ rl_pr n mx mm ∧ rl_tape mx mm ∧ rl_sight mx mm ∧ rl_hist n mx mm ∧ rl_body nb mx mm ∧ rl_tr mx mm ∧ rl_sh nb mx mm
/-! FRAMES -/
def sm_fX (k j : Nat) : Prop := (k = 7 ∧ (j = 5 ∨ j = 7 ∨ j = 8)) ∨ k = 1 ∨ k = 2 ∨ k = 8 ∨ k = 9 ∨ k = 10 ∨ k = 12 ∨ k = 13 ∨ k = 14 ∨ k = 15 ∨ k = 16 ∨ k = 17 ∨ k = 18 ∨ k = 20
def sm_fM (k j : Nat) : Prop := (k = 0 ∧ (j = 6 ∨ j = 10 ∨ j = 13 ∨ j = 18)) ∨ k = 1 ∨ k = 5 ∨ k = 6 ∨ k = 7 ∨ k = 8 ∨ k = 9 ∨ k = 10 ∨ k = 12
theorem sm_X_fr {n : Nat} {T : Nat → sm_tw} {R : sm_rd} {S : sm_fs} {F : sm_lf} {m m' : gk_M} (h : ∀ k j, sm_fX k j → m'.1 k j = m.1 k j) (H : sm_X n T R S F m) : sm_X n T R S F m' := by
  obtain ⟨h1, h2, h3, ⟨r1, r2, r3⟩, ⟨s1, s2, s3⟩, hF, hC⟩ := H
  refine ⟨?_, h2, ?_, ⟨?_, r2, ?_⟩, ⟨?_, s2, ?_⟩, ?_, ?_⟩
  · rw [h 7 5 (by simp [sm_fX])]; exact h1
  · intro t ht
    obtain ⟨a, b, c, d, e, f⟩ := h3 t ht
    refine ⟨a, ?_, ?_, ?_, ?_, f⟩
    · rw [h 8 t (by simp [sm_fX])]; exact b
    · rw [h 9 t (by simp [sm_fX])]; exact c
    · rw [h 10 t (by simp [sm_fX])]; exact d
    · rw [h 12 t (by simp [sm_fX])]; exact e
  · rw [h 7 7 (by simp [sm_fX])]; exact r1
  · intro r hr
    obtain ⟨a, b, c, d⟩ := r3 r hr
    refine ⟨?_, b, c, fun i hi => ⟨?_, (d i hi).2⟩⟩
    · rw [h 13 r (by simp [sm_fX])]; exact a
    · rw [h 14 _ (by simp [sm_fX])]; exact (d i hi).1
  · rw [h 7 8 (by simp [sm_fX])]; exact s1
  · intro f hf
    obtain ⟨a, b, c, d, e, g⟩ := s3 f hf
    refine ⟨a, b, ?_, ?_, ?_, ?_⟩
    · rw [h 15 f (by simp [sm_fX])]; exact c
    · rw [h 16 f (by simp [sm_fX])]; exact d
    · rw [h 17 f (by simp [sm_fX])]; exact e
    · rw [h 18 f (by simp [sm_fX])]; exact g
  · intro m1 e1 e2
    refine hF m1 (e1.trans (funext fun j => h 1 j (by simp [sm_fX]))) (e2.trans (funext fun j => h 2 j (by simp [sm_fX])))
  · intro k s t hk hs ht
    rw [h 20 _ (by simp [sm_fX])]
    exact hC k s t hk hs ht
theorem sm_M_fr {n : Nat} {T : Nat → sm_tw} {R : sm_rd} {S : sm_fs} {F : sm_lf} {m m' : gk_M} (h : ∀ k j, sm_fM k j → m'.1 k j = m.1 k j) (H : sm_M n T R S F m) : sm_M n T R S F m' := by
  obtain ⟨h1, h2, h3, ⟨r1, r2, r3⟩, ⟨s1, s2, s3⟩, hF⟩ := H
  refine ⟨?_, h2, ?_, ⟨?_, r2, ?_⟩, ⟨?_, s2, ?_⟩, ?_⟩
  · rw [h 0 6 (by simp [sm_fM])]; exact h1
  · intro t ht
    obtain ⟨a, b, c, d, e, f⟩ := h3 t ht
    refine ⟨a, ?_, ?_, ?_, ?_, f⟩
    · rw [h 5 t (by simp [sm_fM])]; exact b
    · rw [h 1 t (by simp [sm_fM]), h 7 t (by simp [sm_fM])]; exact c
    · rw [h 1 _ (by simp [sm_fM])]; exact d
    · rw [h 6 t (by simp [sm_fM])]; exact e
  · rw [h 0 10 (by simp [sm_fM])]; exact r1
  · intro r hr
    obtain ⟨a, b, c, d⟩ := r3 r hr
    refine ⟨?_, b, c, fun i hi => ⟨?_, (d i hi).2⟩⟩
    · rw [h 8 r (by simp [sm_fM])]; exact a
    · rw [h 9 _ (by simp [sm_fM])]; exact (d i hi).1
  · rw [h 0 13 (by simp [sm_fM])]; exact s1
  · intro f hf
    obtain ⟨a, b, c, d⟩ := s3 f hf
    refine ⟨a, b, ?_, ?_⟩
    · rw [h 10 _ (by simp [sm_fM])]; exact c
    · rw [h 10 _ (by simp [sm_fM])]; exact d
  · rcases hF with ⟨a, b⟩ | ⟨L, a, b, c⟩
    · exact Or.inl ⟨by rw [h 0 18 (by simp [sm_fM])]; exact a, b⟩
    · exact Or.inr ⟨L, a, by rw [h 0 18 (by simp [sm_fM])]; exact b, fun m1 e1 => c m1 (e1.trans (funext fun j => h 12 j (by simp [sm_fM])))⟩
section FRS
variable {mx mm mx' mm' : gk_M} {n nb : Nat}
theorem rl_pr_fr (hx : ∀ k j, k = 11 → mx'.1 k j = mx.1 k j) (hm : ∀ k j, k = 1 → mm'.1 k j = mm.1 k j) (H : rl_pr n mx mm) : rl_pr n mx' mm' := by
  intro t ht
  obtain ⟨p, h1, h2, h3⟩ := H t ht
  exact ⟨p, h1, by rw [hx 11 t rfl]; exact h2, by rw [hm 1 _ rfl]; exact h3⟩
theorem rl_tape_fr (hx : ∀ k j, (k = 4 ∧ j = 2) ∨ k = 6 → mx'.1 k j = mx.1 k j) (hm : ∀ k j, (k = 0 ∧ j = 16) ∨ k = 11 → mm'.1 k j = mm.1 k j) (H : rl_tape mx mm) : rl_tape mx' mm' := by
  obtain ⟨n, h1, h2, h3, h4⟩ := H
  refine ⟨n, h1, by rw [hx 4 2 (by simp)]; exact h2, by rw [hm 0 16 (by simp)]; exact h3, fun i hi => ?_⟩
  rw [hx 6 i (by simp), hm 11 i (by simp)]
  exact h4 i hi
theorem rl_sight_fr (hx : ∀ k j, (k = 28 ∧ j = 0) ∨ k = 29 ∨ k = 30 → mx'.1 k j = mx.1 k j) (hm : ∀ k j, (k = 0 ∧ j = 36) ∨ k = 19 ∨ k = 20 → mm'.1 k j = mm.1 k j) (H : rl_sight mx mm) : rl_sight mx' mm' := by
  obtain ⟨n, h1, h2, h3, h4⟩ := H
  refine ⟨n, h1, by rw [hx 28 0 (by simp)]; exact h2, by rw [hm 0 36 (by simp)]; exact h3, fun i hi => ?_⟩
  rw [hx 29 i (by simp), hx 30 i (by simp), hm 19 i (by simp), hm 20 i (by simp)]
  exact h4 i hi
theorem rl_hist_fr (hx : ∀ k j, k = 32 ∨ k = 33 ∨ k = 34 ∨ k = 35 ∨ k = 36 → mx'.1 k j = mx.1 k j) (hm : ∀ k j, (k = 0 ∧ (j = 4 ∨ j = 5)) ∨ k = 2 ∨ k = 3 ∨ k = 4 → mm'.1 k j = mm.1 k j) {n' : Nat} (hn : n ≤ n') (H : rl_hist n mx mm) : rl_hist n' mx' mm' := by
  obtain ⟨d, k, h1, h2, h3, h4, h5, h6, h7⟩ := H
  refine ⟨d, k, h1, h2, by rw [hx 32 0 (by simp)]; exact h3, by rw [hx 32 1 (by simp)]; exact h4, by rw [hm 0 5 (by simp)]; exact h5, by rw [hm 0 4 (by simp)]; exact h6, fun i hi => ?_⟩
  rw [hx 33 i (by simp), hx 34 i (by simp), hx 35 i (by simp), hx 36 i (by simp), hm 2 i (by simp), hm 3 i (by simp), hm 4 i (by simp)]
  obtain ⟨a, b, t, w, c⟩ := h7 i hi
  exact ⟨a, b, t, w, by omega, c.2⟩
theorem rl_body_fr (hx : ∀ k j, (k = 37 ∧ j = 0) ∨ k = 38 → mx'.1 k j = mx.1 k j) (hm : ∀ k j, (k = 0 ∧ j = 39) ∨ k = 21 → mm'.1 k j = mm.1 k j) (H : rl_body nb mx mm) : rl_body nb mx' mm' := by
  obtain ⟨h1, h2, h3, h4⟩ := H
  refine ⟨h1, by rw [hx 37 0 (by simp)]; exact h2, by rw [hm 0 39 (by simp)]; exact h3, fun i hi => ?_⟩
  rw [hx 38 i (by simp), hm 21 i (by simp)]
  exact h4 i hi
theorem rl_tr_fr (hx : ∀ k j, (k = 37 ∧ j = 1) ∨ k = 39 → mx'.1 k j = mx.1 k j) (hm : ∀ k j, (k = 0 ∧ j = 42) ∨ k = 22 → mm'.1 k j = mm.1 k j) (H : rl_tr mx mm) : rl_tr mx' mm' := by
  obtain ⟨r, h1, h2, h3, h4⟩ := H
  refine ⟨r, h1, by rw [hx 37 1 (by simp)]; exact h2, by rw [hm 0 42 (by simp)]; exact h3, fun i hi h24 => ?_⟩
  rw [hx 39 i (by simp), hm 22 i (by simp)]
  exact h4 i hi h24
theorem rl_s1_fr {d nb' : Nat} (hb : nb ≤ nb') (hx : ∀ j, mx'.1 (41 + d) j = mx.1 (41 + d) j) (hm : ∀ k, k = 23 ∨ k = 24 → mm'.1 k d = mm.1 k d) (hxl : ∀ j, mx'.2 (47 + d) j = mx.2 (47 + d) j) (hml : ∀ i, i < 60 → mm'.2 25 (60 * d + i) = mm.2 25 (60 * d + i)) (H : rl_s1 nb d mx mm) : rl_s1 nb' d mx' mm' := by
  rcases H with ⟨h1, h2, h3⟩ | ⟨b, h0, h1, h2, h3⟩ | ⟨s, n, h0, h1, h2, h3, h4, h5, h6, h7⟩
  · exact Or.inl ⟨by rw [hx]; exact h1, by rw [hx]; exact h2, by rw [hm 23 (by simp)]; exact h3⟩
  · exact Or.inr (Or.inl ⟨b, by omega, by rw [hx]; exact h1, by rw [hx]; exact h2, by rw [hm 23 (by simp)]; exact h3⟩)
  · refine Or.inr (Or.inr ⟨s, n, h0, h1, by rw [hx]; exact h2, by rw [hx]; exact h3, by rw [hx]; exact h4, by rw [hm 23 (by simp)]; exact h5, by rw [hm 24 (by simp)]; exact h6, fun i hi => ?_⟩)
    rw [hxl, hml i (by omega)]
    exact h7 i hi
theorem rl_sh_fr {nb' : Nat} (hb : nb ≤ nb') (hx : ∀ k j, 41 ≤ k ∧ k < 47 → mx'.1 k j = mx.1 k j) (hm : ∀ k j, k = 23 ∨ k = 24 → mm'.1 k j = mm.1 k j) (hxl : ∀ k j, 47 ≤ k → mx'.2 k j = mx.2 k j) (hml : ∀ j, mm'.2 25 j = mm.2 25 j) (H : rl_sh nb mx mm) : rl_sh nb' mx' mm' :=
  fun d hd => rl_s1_fr hb (fun j => hx _ j (by omega)) (fun k hk => hm k d hk) (fun j => hxl _ j (by omega)) (fun i _ => hml _) (H d hd)
end FRS
