/-! SIM: every call of a script -/
theorem sm_as {β : Type} {xs : Nat → Int32} {L q : Nat} {c : Int32 → Option β} (h : q < L) (hL : L ≤ 3072) : gk_as xs L (sm_n q) c = c (xs q) := by
  unfold gk_as
  rw [sm_ix (by omega), if_neg]
  rintro (h1 | h1)
  · exact sm_nn (by omega) h1
  · omega
theorem st_0 {xs : Nat → Int32} {L p : Nat} {mx mm : gk_M} (h : rl_ mx mm) (hp : p + 6 ≤ L) (hL : L ≤ 3072) (k : Int32 → gk_M → gk_M → Option Unit) : ∃ mx' mm', rl_ mx' mm' ∧ f_L_0 xs L k (sm_n p) mx mm = k (sm_n (p + 6)) mx' mm' := by
  obtain ⟨v, mx', mm', e1, e2, h'⟩ := c_tower h (xs (p + 1)) (xs (p + 2))
  refine ⟨mx', mm', h', ?_⟩
  unfold f_L_0
  simp only [show sm_n p + 1 = sm_n (p + 1) from sm_n_add p 1, show sm_n p + 2 = sm_n (p + 2) from sm_n_add p 2]
  rw [sm_as (by omega) hL, sm_as (by omega) hL, e1, sm_bi, sm_as (by omega) hL, sm_as (by omega) hL, e2, sm_bi, if_pos rfl, show sm_n p + 6 = sm_n (p + 6) from sm_n_add p 6]
theorem st_1 {xs : Nat → Int32} {L p : Nat} {mx mm : gk_M} (h : rl_ mx mm) (hp : p + 6 ≤ L) (hL : L ≤ 3072) (k : Int32 → gk_M → gk_M → Option Unit) : ∃ mx' mm', rl_ mx' mm' ∧ f_L_1 xs L k (sm_n p) mx mm = k (sm_n (p + 6)) mx' mm' := by
  obtain ⟨v, mx', mm', e1, e2, h'⟩ := c_towers h (xs (p + 1)) (xs (p + 2)) (xs (p + 3))
  refine ⟨mx', mm', h', ?_⟩
  unfold f_L_1
  simp only [show sm_n p + 1 = sm_n (p + 1) from sm_n_add p 1, show sm_n p + 2 = sm_n (p + 2) from sm_n_add p 2, show sm_n p + 3 = sm_n (p + 3) from sm_n_add p 3]
  rw [sm_as (by omega) hL, sm_as (by omega) hL, sm_as (by omega) hL, e1, sm_bi, sm_as (by omega) hL, sm_as (by omega) hL, sm_as (by omega) hL, e2, sm_bi, if_pos rfl, show sm_n p + 6 = sm_n (p + 6) from sm_n_add p 6]
theorem st_2 {xs : Nat → Int32} {L p : Nat} {mx mm : gk_M} (h : rl_ mx mm) (hp : p + 6 ≤ L) (hL : L ≤ 3072) (k : Int32 → gk_M → gk_M → Option Unit) : ∃ mx' mm', rl_ mx' mm' ∧ f_L_2 xs L k (sm_n p) mx mm = k (sm_n (p + 6)) mx' mm' := by
  obtain ⟨v, mx', mm', e1, e2, h'⟩ := c_road h (xs (p + 1)) (xs (p + 2))
  refine ⟨mx', mm', h', ?_⟩
  unfold f_L_2
  simp only [show sm_n p + 1 = sm_n (p + 1) from sm_n_add p 1, show sm_n p + 2 = sm_n (p + 2) from sm_n_add p 2]
  rw [sm_as (by omega) hL, sm_as (by omega) hL, e1, sm_bi, sm_as (by omega) hL, sm_as (by omega) hL, e2, sm_bi, if_pos rfl, show sm_n p + 6 = sm_n (p + 6) from sm_n_add p 6]
theorem st_3 {xs : Nat → Int32} {L p : Nat} {mx mm : gk_M} (h : rl_ mx mm) (hp : p + 6 ≤ L) (hL : L ≤ 3072) (k : Int32 → gk_M → gk_M → Option Unit) : ∃ mx' mm', rl_ mx' mm' ∧ f_L_3 xs L k (sm_n p) mx mm = k (sm_n (p + 6)) mx' mm' := by
  obtain ⟨v, mx', mm', e1, e2, h'⟩ := c_corner h (xs (p + 1)) (xs (p + 2))
  refine ⟨mx', mm', h', ?_⟩
  unfold f_L_3
  simp only [show sm_n p + 1 = sm_n (p + 1) from sm_n_add p 1, show sm_n p + 2 = sm_n (p + 2) from sm_n_add p 2]
  rw [sm_as (by omega) hL, sm_as (by omega) hL, e1, sm_bi, sm_as (by omega) hL, sm_as (by omega) hL, e2, sm_bi, if_pos rfl, show sm_n p + 6 = sm_n (p + 6) from sm_n_add p 6]
theorem st_4 {xs : Nat → Int32} {L p : Nat} {mx mm : gk_M} (h : rl_ mx mm) (hp : p + 6 ≤ L) (hL : L ≤ 3072) (k : Int32 → gk_M → gk_M → Option Unit) : ∃ mx' mm', rl_ mx' mm' ∧ f_L_4 xs L k (sm_n p) mx mm = k (sm_n (p + 6)) mx' mm' := by
  obtain ⟨v, mx', mm', e1, e2, h'⟩ := c_forest h (xs (p + 1)) (xs (p + 2))
  refine ⟨mx', mm', h', ?_⟩
  unfold f_L_4
  simp only [show sm_n p + 1 = sm_n (p + 1) from sm_n_add p 1, show sm_n p + 2 = sm_n (p + 2) from sm_n_add p 2]
  rw [sm_as (by omega) hL, sm_as (by omega) hL, e1, sm_bi, sm_as (by omega) hL, sm_as (by omega) hL, e2, sm_bi, if_pos rfl, show sm_n p + 6 = sm_n (p + 6) from sm_n_add p 6]
theorem st_5 {xs : Nat → Int32} {L p : Nat} {mx mm : gk_M} (h : rl_ mx mm) (hp : p + 6 ≤ L) (hL : L ≤ 3072) (k : Int32 → gk_M → gk_M → Option Unit) : ∃ mx' mm', rl_ mx' mm' ∧ f_L_5 xs L k (sm_n p) mx mm = k (sm_n (p + 6)) mx' mm' := by
  obtain ⟨v, mx', mm', e1, e2, h'⟩ := c_feed h (xs (p + 1))
  refine ⟨mx', mm', h', ?_⟩
  unfold f_L_5
  simp only [show sm_n p + 1 = sm_n (p + 1) from sm_n_add p 1]
  rw [sm_as (by omega) hL, e1, sm_bi, sm_as (by omega) hL, e2, sm_bi, if_pos rfl, show sm_n p + 6 = sm_n (p + 6) from sm_n_add p 6]
theorem st_6 {xs : Nat → Int32} {L p : Nat} {mx mm : gk_M} (h : rl_ mx mm) (hp : p + 6 ≤ L) (hL : L ≤ 3072) (k : Int32 → gk_M → gk_M → Option Unit) : ∃ mx' mm', rl_ mx' mm' ∧ f_L_6 xs L k (sm_n p) mx mm = k (sm_n (p + 6)) mx' mm' := by
  obtain ⟨v, mx', mm', e1, e2, h'⟩ := c_law h 
  refine ⟨mx', mm', h', ?_⟩
  unfold f_L_6
  rw [e1, sm_bi, e2, sm_bi, if_pos rfl, show sm_n p + 6 = sm_n (p + 6) from sm_n_add p 6]
theorem st_7 {xs : Nat → Int32} {L p : Nat} {mx mm : gk_M} (h : rl_ mx mm) (hp : p + 6 ≤ L) (hL : L ≤ 3072) (k : Int32 → gk_M → gk_M → Option Unit) : ∃ mx' mm', rl_ mx' mm' ∧ f_L_7 xs L k (sm_n p) mx mm = k (sm_n (p + 6)) mx' mm' := by
  obtain ⟨v, mx', mm', e1, e2, h'⟩ := c_mend h (xs (p + 1)) (xs (p + 2)) (xs (p + 3))
  refine ⟨mx', mm', h', ?_⟩
  unfold f_L_7
  simp only [show sm_n p + 1 = sm_n (p + 1) from sm_n_add p 1, show sm_n p + 2 = sm_n (p + 2) from sm_n_add p 2, show sm_n p + 3 = sm_n (p + 3) from sm_n_add p 3]
  rw [sm_as (by omega) hL, sm_as (by omega) hL, sm_as (by omega) hL, e1, sm_bi, sm_as (by omega) hL, sm_as (by omega) hL, sm_as (by omega) hL, e2, sm_bi, if_pos rfl, show sm_n p + 6 = sm_n (p + 6) from sm_n_add p 6]
theorem st_8 {xs : Nat → Int32} {L p : Nat} {mx mm : gk_M} (h : rl_ mx mm) (hp : p + 6 ≤ L) (hL : L ≤ 3072) (k : Int32 → gk_M → gk_M → Option Unit) : ∃ mx' mm', rl_ mx' mm' ∧ f_L_8 xs L k (sm_n p) mx mm = k (sm_n (p + 6)) mx' mm' := by
  obtain ⟨v, mx', mm', e1, e2, h'⟩ := c_of h (xs (p + 1)) (xs (p + 2))
  refine ⟨mx', mm', h', ?_⟩
  unfold f_L_8
  simp only [show sm_n p + 1 = sm_n (p + 1) from sm_n_add p 1, show sm_n p + 2 = sm_n (p + 2) from sm_n_add p 2]
  rw [sm_as (by omega) hL, sm_as (by omega) hL, e1, sm_bi, sm_as (by omega) hL, sm_as (by omega) hL, e2, sm_bi, if_pos rfl, show sm_n p + 6 = sm_n (p + 6) from sm_n_add p 6]
theorem st_9 {xs : Nat → Int32} {L p : Nat} {mx mm : gk_M} (h : rl_ mx mm) (hp : p + 6 ≤ L) (hL : L ≤ 3072) (k : Int32 → gk_M → gk_M → Option Unit) : ∃ mx' mm', rl_ mx' mm' ∧ f_L_9 xs L k (sm_n p) mx mm = k (sm_n (p + 6)) mx' mm' := by
  obtain ⟨v, mx', mm', e1, e2, h'⟩ := c_line h (xs (p + 1)) (xs (p + 2)) (xs (p + 3))
  refine ⟨mx', mm', h', ?_⟩
  unfold f_L_9
  simp only [show sm_n p + 1 = sm_n (p + 1) from sm_n_add p 1, show sm_n p + 2 = sm_n (p + 2) from sm_n_add p 2, show sm_n p + 3 = sm_n (p + 3) from sm_n_add p 3]
  rw [sm_as (by omega) hL, sm_as (by omega) hL, sm_as (by omega) hL, e1, sm_bi, sm_as (by omega) hL, sm_as (by omega) hL, sm_as (by omega) hL, e2, sm_bi, if_pos rfl, show sm_n p + 6 = sm_n (p + 6) from sm_n_add p 6]
theorem st_10 {xs : Nat → Int32} {L p : Nat} {mx mm : gk_M} (h : rl_ mx mm) (hp : p + 6 ≤ L) (hL : L ≤ 3072) (k : Int32 → gk_M → gk_M → Option Unit) : ∃ mx' mm', rl_ mx' mm' ∧ f_L_10 xs L k (sm_n p) mx mm = k (sm_n (p + 6)) mx' mm' := by
  obtain ⟨v, mx', mm', e1, e2, h'⟩ := c_guilty h (xs (p + 1)) (xs (p + 2)) (xs (p + 3))
  refine ⟨mx', mm', h', ?_⟩
  unfold f_L_10
  simp only [show sm_n p + 1 = sm_n (p + 1) from sm_n_add p 1, show sm_n p + 2 = sm_n (p + 2) from sm_n_add p 2, show sm_n p + 3 = sm_n (p + 3) from sm_n_add p 3]
  rw [sm_as (by omega) hL, sm_as (by omega) hL, sm_as (by omega) hL, e1, sm_bi, sm_as (by omega) hL, sm_as (by omega) hL, sm_as (by omega) hL, e2, sm_bi, if_pos rfl, show sm_n p + 6 = sm_n (p + 6) from sm_n_add p 6]
theorem st_11 {xs : Nat → Int32} {L p : Nat} {mx mm : gk_M} (h : rl_ mx mm) (hp : p + 6 ≤ L) (hL : L ≤ 3072) (k : Int32 → gk_M → gk_M → Option Unit) : ∃ mx' mm', rl_ mx' mm' ∧ f_L_11 xs L k (sm_n p) mx mm = k (sm_n (p + 6)) mx' mm' := by
  obtain ⟨v, mx', mm', e1, e2, h'⟩ := c_guilts h (xs (p + 1))
  refine ⟨mx', mm', h', ?_⟩
  unfold f_L_11
  simp only [show sm_n p + 1 = sm_n (p + 1) from sm_n_add p 1]
  rw [sm_as (by omega) hL, e1, sm_bi, sm_as (by omega) hL, e2, sm_bi, if_pos rfl, show sm_n p + 6 = sm_n (p + 6) from sm_n_add p 6]
theorem st_12 {xs : Nat → Int32} {L p : Nat} {mx mm : gk_M} (h : rl_ mx mm) (hp : p + 6 ≤ L) (hL : L ≤ 3072) (k : Int32 → gk_M → gk_M → Option Unit) : ∃ mx' mm', rl_ mx' mm' ∧ f_L_12 xs L k (sm_n p) mx mm = k (sm_n (p + 6)) mx' mm' := by
  obtain ⟨v, mx', mm', e1, e2, h'⟩ := c_which h (xs (p + 1))
  refine ⟨mx', mm', h', ?_⟩
  unfold f_L_12
  simp only [show sm_n p + 1 = sm_n (p + 1) from sm_n_add p 1]
  rw [sm_as (by omega) hL, e1, sm_bi, sm_as (by omega) hL, e2, sm_bi, if_pos rfl, show sm_n p + 6 = sm_n (p + 6) from sm_n_add p 6]
theorem st_13 {xs : Nat → Int32} {L p : Nat} {mx mm : gk_M} (h : rl_ mx mm) (hp : p + 6 ≤ L) (hL : L ≤ 3072) (k : Int32 → gk_M → gk_M → Option Unit) : ∃ mx' mm', rl_ mx' mm' ∧ f_L_13 xs L k (sm_n p) mx mm = k (sm_n (p + 6)) mx' mm' := by
  obtain ⟨v, mx', mm', e1, e2, h'⟩ := c_led h (xs (p + 1))
  refine ⟨mx', mm', h', ?_⟩
  unfold f_L_13
  simp only [show sm_n p + 1 = sm_n (p + 1) from sm_n_add p 1]
  rw [sm_as (by omega) hL, e1, sm_bi, sm_as (by omega) hL, e2, sm_bi, if_pos rfl, show sm_n p + 6 = sm_n (p + 6) from sm_n_add p 6]
theorem st_14 {xs : Nat → Int32} {L p : Nat} {mx mm : gk_M} (h : rl_ mx mm) (hp : p + 6 ≤ L) (hL : L ≤ 3072) (k : Int32 → gk_M → gk_M → Option Unit) : ∃ mx' mm', rl_ mx' mm' ∧ f_L_14 xs L k (sm_n p) mx mm = k (sm_n (p + 6)) mx' mm' := by
  obtain ⟨v, mx', mm', e1, e2, h'⟩ := c_seen h (xs (p + 1))
  refine ⟨mx', mm', h', ?_⟩
  unfold f_L_14
  simp only [show sm_n p + 1 = sm_n (p + 1) from sm_n_add p 1]
  rw [sm_as (by omega) hL, e1, sm_bi, sm_as (by omega) hL, e2, sm_bi, if_pos rfl, show sm_n p + 6 = sm_n (p + 6) from sm_n_add p 6]
theorem st_15 {xs : Nat → Int32} {L p : Nat} {mx mm : gk_M} (h : rl_ mx mm) (hp : p + 6 ≤ L) (hL : L ≤ 3072) (k : Int32 → gk_M → gk_M → Option Unit) : ∃ mx' mm', rl_ mx' mm' ∧ f_L_15 xs L k (sm_n p) mx mm = k (sm_n (p + 6)) mx' mm' := by
  obtain ⟨v, mx', mm', e1, e2, h'⟩ := c_free h (xs (p + 1)) (xs (p + 2)) (xs (p + 3))
  refine ⟨mx', mm', h', ?_⟩
  unfold f_L_15
  simp only [show sm_n p + 1 = sm_n (p + 1) from sm_n_add p 1, show sm_n p + 2 = sm_n (p + 2) from sm_n_add p 2, show sm_n p + 3 = sm_n (p + 3) from sm_n_add p 3]
  rw [sm_as (by omega) hL, sm_as (by omega) hL, sm_as (by omega) hL, e1, sm_bi, sm_as (by omega) hL, sm_as (by omega) hL, sm_as (by omega) hL, e2, sm_bi, if_pos rfl, show sm_n p + 6 = sm_n (p + 6) from sm_n_add p 6]
theorem st_16 {xs : Nat → Int32} {L p : Nat} {mx mm : gk_M} (h : rl_ mx mm) (hp : p + 6 ≤ L) (hL : L ≤ 3072) (k : Int32 → gk_M → gk_M → Option Unit) : ∃ mx' mm', rl_ mx' mm' ∧ f_L_16 xs L k (sm_n p) mx mm = k (sm_n (p + 6)) mx' mm' := by
  obtain ⟨v, mx', mm', e1, e2, h'⟩ := c_years h (xs (p + 1)) (xs (p + 2))
  refine ⟨mx', mm', h', ?_⟩
  unfold f_L_16
  simp only [show sm_n p + 1 = sm_n (p + 1) from sm_n_add p 1, show sm_n p + 2 = sm_n (p + 2) from sm_n_add p 2]
  rw [sm_as (by omega) hL, sm_as (by omega) hL, e1, sm_bi, sm_as (by omega) hL, sm_as (by omega) hL, e2, sm_bi, if_pos rfl, show sm_n p + 6 = sm_n (p + 6) from sm_n_add p 6]
theorem st_17 {xs : Nat → Int32} {L p : Nat} {mx mm : gk_M} (h : rl_ mx mm) (hp : p + 6 ≤ L) (hL : L ≤ 3072) (k : Int32 → gk_M → gk_M → Option Unit) : ∃ mx' mm', rl_ mx' mm' ∧ f_L_17 xs L k (sm_n p) mx mm = k (sm_n (p + 6)) mx' mm' := by
  obtain ⟨v, mx', mm', e1, e2, h'⟩ := c_fewest h 
  refine ⟨mx', mm', h', ?_⟩
  unfold f_L_17
  rw [e1, sm_bi, e2, sm_bi, if_pos rfl, show sm_n p + 6 = sm_n (p + 6) from sm_n_add p 6]
theorem st_18 {xs : Nat → Int32} {L p : Nat} {mx mm : gk_M} (h : rl_ mx mm) (hp : p + 6 ≤ L) (hL : L ≤ 3072) (k : Int32 → gk_M → gk_M → Option Unit) : ∃ mx' mm', rl_ mx' mm' ∧ f_L_18 xs L k (sm_n p) mx mm = k (sm_n (p + 6)) mx' mm' := by
  obtain ⟨v, mx', mm', e1, e2, h'⟩ := c_cheapest h (xs (p + 1))
  refine ⟨mx', mm', h', ?_⟩
  unfold f_L_18
  simp only [show sm_n p + 1 = sm_n (p + 1) from sm_n_add p 1]
  rw [sm_as (by omega) hL, e1, sm_bi, sm_as (by omega) hL, e2, sm_bi, if_pos rfl, show sm_n p + 6 = sm_n (p + 6) from sm_n_add p 6]
theorem st_19 {xs : Nat → Int32} {L p : Nat} {mx mm : gk_M} (h : rl_ mx mm) (hp : p + 6 ≤ L) (hL : L ≤ 3072) (k : Int32 → gk_M → gk_M → Option Unit) : ∃ mx' mm', rl_ mx' mm' ∧ f_L_19 xs L k (sm_n p) mx mm = k (sm_n (p + 6)) mx' mm' := by
  obtain ⟨v, mx', mm', e1, e2, h'⟩ := c_moved h (xs (p + 1)) (xs (p + 2))
  refine ⟨mx', mm', h', ?_⟩
  unfold f_L_19
  simp only [show sm_n p + 1 = sm_n (p + 1) from sm_n_add p 1, show sm_n p + 2 = sm_n (p + 2) from sm_n_add p 2]
  rw [sm_as (by omega) hL, sm_as (by omega) hL, e1, sm_bi, sm_as (by omega) hL, sm_as (by omega) hL, e2, sm_bi, if_pos rfl, show sm_n p + 6 = sm_n (p + 6) from sm_n_add p 6]
theorem st_20 {xs : Nat → Int32} {L p : Nat} {mx mm : gk_M} (h : rl_ mx mm) (hp : p + 6 ≤ L) (hL : L ≤ 3072) (k : Int32 → gk_M → gk_M → Option Unit) : ∃ mx' mm', rl_ mx' mm' ∧ f_L_20 xs L k (sm_n p) mx mm = k (sm_n (p + 6)) mx' mm' := by
  obtain ⟨v, mx', mm', e1, e2, h'⟩ := c_bent h (xs (p + 1)) (xs (p + 2))
  refine ⟨mx', mm', h', ?_⟩
  unfold f_L_20
  simp only [show sm_n p + 1 = sm_n (p + 1) from sm_n_add p 1, show sm_n p + 2 = sm_n (p + 2) from sm_n_add p 2]
  rw [sm_as (by omega) hL, sm_as (by omega) hL, e1, sm_bi, sm_as (by omega) hL, sm_as (by omega) hL, e2, sm_bi, if_pos rfl, show sm_n p + 6 = sm_n (p + 6) from sm_n_add p 6]
theorem st_21 {xs : Nat → Int32} {L p : Nat} {mx mm : gk_M} (h : rl_ mx mm) (hp : p + 6 ≤ L) (hL : L ≤ 3072) (k : Int32 → gk_M → gk_M → Option Unit) : ∃ mx' mm', rl_ mx' mm' ∧ f_L_21 xs L k (sm_n p) mx mm = k (sm_n (p + 6)) mx' mm' := by
  obtain ⟨v, mx', mm', e1, e2, h'⟩ := c_newly h (xs (p + 1)) (xs (p + 2))
  refine ⟨mx', mm', h', ?_⟩
  unfold f_L_21
  simp only [show sm_n p + 1 = sm_n (p + 1) from sm_n_add p 1, show sm_n p + 2 = sm_n (p + 2) from sm_n_add p 2]
  rw [sm_as (by omega) hL, sm_as (by omega) hL, e1, sm_bi, sm_as (by omega) hL, sm_as (by omega) hL, e2, sm_bi, if_pos rfl, show sm_n p + 6 = sm_n (p + 6) from sm_n_add p 6]
theorem st_22 {xs : Nat → Int32} {L p : Nat} {mx mm : gk_M} (h : rl_ mx mm) (hp : p + 6 ≤ L) (hL : L ≤ 3072) (k : Int32 → gk_M → gk_M → Option Unit) : ∃ mx' mm', rl_ mx' mm' ∧ f_L_22 xs L k (sm_n p) mx mm = k (sm_n (p + 6)) mx' mm' := by
  obtain ⟨v, mx', mm', e1, e2, h'⟩ := c_game h (xs (p + 1)) (xs (p + 2)) (xs (p + 3))
  refine ⟨mx', mm', h', ?_⟩
  unfold f_L_22
  simp only [show sm_n p + 1 = sm_n (p + 1) from sm_n_add p 1, show sm_n p + 2 = sm_n (p + 2) from sm_n_add p 2, show sm_n p + 3 = sm_n (p + 3) from sm_n_add p 3]
  rw [sm_as (by omega) hL, sm_as (by omega) hL, sm_as (by omega) hL, e1, sm_bi, sm_as (by omega) hL, sm_as (by omega) hL, sm_as (by omega) hL, e2, sm_bi, if_pos rfl, show sm_n p + 6 = sm_n (p + 6) from sm_n_add p 6]
theorem st_23 {xs : Nat → Int32} {L p : Nat} {mx mm : gk_M} (h : rl_ mx mm) (hp : p + 6 ≤ L) (hL : L ≤ 3072) (k : Int32 → gk_M → gk_M → Option Unit) : ∃ mx' mm', rl_ mx' mm' ∧ f_L_23 xs L k (sm_n p) mx mm = k (sm_n (p + 6)) mx' mm' := by
  obtain ⟨v, mx', mm', e1, e2, h'⟩ := c_sight h (xs (p + 1)) (xs (p + 2))
  refine ⟨mx', mm', h', ?_⟩
  unfold f_L_23
  simp only [show sm_n p + 1 = sm_n (p + 1) from sm_n_add p 1, show sm_n p + 2 = sm_n (p + 2) from sm_n_add p 2]
  rw [sm_as (by omega) hL, sm_as (by omega) hL, e1, sm_bi, sm_as (by omega) hL, sm_as (by omega) hL, e2, sm_bi, if_pos rfl, show sm_n p + 6 = sm_n (p + 6) from sm_n_add p 6]
theorem st_24 {xs : Nat → Int32} {L p : Nat} {mx mm : gk_M} (h : rl_ mx mm) (hp : p + 6 ≤ L) (hL : L ≤ 3072) (k : Int32 → gk_M → gk_M → Option Unit) : ∃ mx' mm', rl_ mx' mm' ∧ f_L_24 xs L k (sm_n p) mx mm = k (sm_n (p + 6)) mx' mm' := by
  obtain ⟨v, mx', mm', e1, e2, h'⟩ := c_fits h (xs (p + 1)) (xs (p + 2))
  refine ⟨mx', mm', h', ?_⟩
  unfold f_L_24
  simp only [show sm_n p + 1 = sm_n (p + 1) from sm_n_add p 1, show sm_n p + 2 = sm_n (p + 2) from sm_n_add p 2]
  rw [sm_as (by omega) hL, sm_as (by omega) hL, e1, sm_bi, sm_as (by omega) hL, sm_as (by omega) hL, e2, sm_bi, if_pos rfl, show sm_n p + 6 = sm_n (p + 6) from sm_n_add p 6]
theorem st_25 {xs : Nat → Int32} {L p : Nat} {mx mm : gk_M} (h : rl_ mx mm) (hp : p + 6 ≤ L) (hL : L ≤ 3072) (k : Int32 → gk_M → gk_M → Option Unit) : ∃ mx' mm', rl_ mx' mm' ∧ f_L_25 xs L k (sm_n p) mx mm = k (sm_n (p + 6)) mx' mm' := by
  obtain ⟨v, mx', mm', e1, e2, h'⟩ := c_undo h 
  refine ⟨mx', mm', h', ?_⟩
  unfold f_L_25
  rw [e1, sm_bi, e2, sm_bi, if_pos rfl, show sm_n p + 6 = sm_n (p + 6) from sm_n_add p 6]
theorem st_26 {xs : Nat → Int32} {L p : Nat} {mx mm : gk_M} (h : rl_ mx mm) (hp : p + 6 ≤ L) (hL : L ≤ 3072) (k : Int32 → gk_M → gk_M → Option Unit) : ∃ mx' mm', rl_ mx' mm' ∧ f_L_26 xs L k (sm_n p) mx mm = k (sm_n (p + 6)) mx' mm' := by
  obtain ⟨v, mx', mm', e1, e2, h'⟩ := c_redo h 
  refine ⟨mx', mm', h', ?_⟩
  unfold f_L_26
  rw [e1, sm_bi, e2, sm_bi, if_pos rfl, show sm_n p + 6 = sm_n (p + 6) from sm_n_add p 6]
theorem st_27 {xs : Nat → Int32} {L p : Nat} {mx mm : gk_M} (h : rl_ mx mm) (hp : p + 6 ≤ L) (hL : L ≤ 3072) (k : Int32 → gk_M → gk_M → Option Unit) : ∃ mx' mm', rl_ mx' mm' ∧ f_L_27 xs L k (sm_n p) mx mm = k (sm_n (p + 6)) mx' mm' := by
  obtain ⟨v, mx', mm', e1, e2, h'⟩ := c_body h (xs (p + 1))
  refine ⟨mx', mm', h', ?_⟩
  unfold f_L_27
  simp only [show sm_n p + 1 = sm_n (p + 1) from sm_n_add p 1]
  rw [sm_as (by omega) hL, e1, sm_bi, sm_as (by omega) hL, e2, sm_bi, if_pos rfl, show sm_n p + 6 = sm_n (p + 6) from sm_n_add p 6]
theorem st_28 {xs : Nat → Int32} {L p : Nat} {mx mm : gk_M} (h : rl_ mx mm) (hp : p + 6 ≤ L) (hL : L ≤ 3072) (k : Int32 → gk_M → gk_M → Option Unit) : ∃ mx' mm', rl_ mx' mm' ∧ f_L_28 xs L k (sm_n p) mx mm = k (sm_n (p + 6)) mx' mm' := by
  obtain ⟨v, mx', mm', e1, e2, h'⟩ := c_act h (xs (p + 1)) (xs (p + 2)) (xs (p + 3))
  refine ⟨mx', mm', h', ?_⟩
  unfold f_L_28
  simp only [show sm_n p + 1 = sm_n (p + 1) from sm_n_add p 1, show sm_n p + 2 = sm_n (p + 2) from sm_n_add p 2, show sm_n p + 3 = sm_n (p + 3) from sm_n_add p 3]
  rw [sm_as (by omega) hL, sm_as (by omega) hL, sm_as (by omega) hL, e1, sm_bi, sm_as (by omega) hL, sm_as (by omega) hL, sm_as (by omega) hL, e2, sm_bi, if_pos rfl, show sm_n p + 6 = sm_n (p + 6) from sm_n_add p 6]
theorem st_29 {xs : Nat → Int32} {L p : Nat} {mx mm : gk_M} (h : rl_ mx mm) (hp : p + 6 ≤ L) (hL : L ≤ 3072) (k : Int32 → gk_M → gk_M → Option Unit) : ∃ mx' mm', rl_ mx' mm' ∧ f_L_29 xs L k (sm_n p) mx mm = k (sm_n (p + 6)) mx' mm' := by
  obtain ⟨v, mx', mm', e1, e2, h'⟩ := c_trace h (xs (p + 1))
  refine ⟨mx', mm', h', ?_⟩
  unfold f_L_29
  simp only [show sm_n p + 1 = sm_n (p + 1) from sm_n_add p 1]
  rw [sm_as (by omega) hL, e1, sm_bi, sm_as (by omega) hL, e2, sm_bi, if_pos rfl, show sm_n p + 6 = sm_n (p + 6) from sm_n_add p 6]
theorem st_30 {xs : Nat → Int32} {L p : Nat} {mx mm : gk_M} (h : rl_ mx mm) (hp : p + 6 ≤ L) (hL : L ≤ 3072) (k : Int32 → gk_M → gk_M → Option Unit) : ∃ mx' mm', rl_ mx' mm' ∧ f_L_30 xs L k (sm_n p) mx mm = k (sm_n (p + 6)) mx' mm' := by
  obtain ⟨v, mx', mm', e1, e2, h'⟩ := c_keep h (xs (p + 1)) (xs (p + 2))
  refine ⟨mx', mm', h', ?_⟩
  unfold f_L_30
  simp only [show sm_n p + 1 = sm_n (p + 1) from sm_n_add p 1, show sm_n p + 2 = sm_n (p + 2) from sm_n_add p 2]
  rw [sm_as (by omega) hL, sm_as (by omega) hL, e1, sm_bi, sm_as (by omega) hL, sm_as (by omega) hL, e2, sm_bi, if_pos rfl, show sm_n p + 6 = sm_n (p + 6) from sm_n_add p 6]
theorem st_31 {xs : Nat → Int32} {L p : Nat} {mx mm : gk_M} (h : rl_ mx mm) (hp : p + 6 ≤ L) (hL : L ≤ 3072) (k : Int32 → gk_M → gk_M → Option Unit) : ∃ mx' mm', rl_ mx' mm' ∧ f_L_31 xs L k (sm_n p) mx mm = k (sm_n (p + 6)) mx' mm' := by
  obtain ⟨v, mx', mm', e1, e2, h'⟩ := c_row h (xs (p + 1)) (xs (p + 2)) (xs (p + 3))
  refine ⟨mx', mm', h', ?_⟩
  unfold f_L_31
  simp only [show sm_n p + 1 = sm_n (p + 1) from sm_n_add p 1, show sm_n p + 2 = sm_n (p + 2) from sm_n_add p 2, show sm_n p + 3 = sm_n (p + 3) from sm_n_add p 3]
  rw [sm_as (by omega) hL, sm_as (by omega) hL, sm_as (by omega) hL, e1, sm_bi, sm_as (by omega) hL, sm_as (by omega) hL, sm_as (by omega) hL, e2, sm_bi, if_pos rfl, show sm_n p + 6 = sm_n (p + 6) from sm_n_add p 6]
theorem st_32 {xs : Nat → Int32} {L p : Nat} {mx mm : gk_M} (h : rl_ mx mm) (hp : p + 6 ≤ L) (hL : L ≤ 3072) (k : Int32 → gk_M → gk_M → Option Unit) : ∃ mx' mm', rl_ mx' mm' ∧ f_L_32 xs L k (sm_n p) mx mm = k (sm_n (p + 6)) mx' mm' := by
  obtain ⟨v, mx', mm', e1, e2, h'⟩ := c_put h (xs (p + 1)) (xs (p + 2)) (((xs (p + 3)).toInt64 <<< ((32 : Int32).toInt64 &&& 63)) ||| ((xs (p + 4)).toInt64 &&& 4294967295))
  refine ⟨mx', mm', h', ?_⟩
  unfold f_L_32
  simp only [show sm_n p + 1 = sm_n (p + 1) from sm_n_add p 1, show sm_n p + 2 = sm_n (p + 2) from sm_n_add p 2, show sm_n p + 3 = sm_n (p + 3) from sm_n_add p 3, show sm_n p + 4 = sm_n (p + 4) from sm_n_add p 4]
  rw [sm_as (by omega) hL, sm_as (by omega) hL, sm_as (by omega) hL, sm_as (by omega) hL, e1, sm_bi, sm_as (by omega) hL, sm_as (by omega) hL, sm_as (by omega) hL, sm_as (by omega) hL, e2, sm_bi, if_pos rfl, show sm_n p + 6 = sm_n (p + 6) from sm_n_add p 6]
theorem st_33 {xs : Nat → Int32} {L p : Nat} {mx mm : gk_M} (h : rl_ mx mm) (hp : p + 6 ≤ L) (hL : L ≤ 3072) (k : Int32 → gk_M → gk_M → Option Unit) : ∃ mx' mm', rl_ mx' mm' ∧ f_L_33 xs L k (sm_n p) mx mm = k (sm_n (p + 6)) mx' mm' := by
  obtain ⟨v, mx', mm', e1, e2, h'⟩ := c_element h (xs (p + 1)) (xs (p + 2))
  refine ⟨mx', mm', h', ?_⟩
  unfold f_L_33
  simp only [show sm_n p + 1 = sm_n (p + 1) from sm_n_add p 1, show sm_n p + 2 = sm_n (p + 2) from sm_n_add p 2]
  rw [sm_as (by omega) hL, sm_as (by omega) hL, e1, sm_bl, sm_as (by omega) hL, sm_as (by omega) hL, e2, sm_bl, if_pos rfl, show sm_n p + 6 = sm_n (p + 6) from sm_n_add p 6]
theorem st_34 {xs : Nat → Int32} {L p : Nat} {mx mm : gk_M} (h : rl_ mx mm) (hp : p + 6 ≤ L) (hL : L ≤ 3072) (k : Int32 → gk_M → gk_M → Option Unit) : ∃ mx' mm', rl_ mx' mm' ∧ f_L_34 xs L k (sm_n p) mx mm = k (sm_n (p + 6)) mx' mm' := by
  obtain ⟨v, mx', mm', e1, e2, h'⟩ := c_shift h (xs (p + 1)) (xs (p + 2)) (xs (p + 3)) (xs (p + 4)) (xs (p + 5))
  refine ⟨mx', mm', h', ?_⟩
  unfold f_L_34
  simp only [show sm_n p + 1 = sm_n (p + 1) from sm_n_add p 1, show sm_n p + 2 = sm_n (p + 2) from sm_n_add p 2, show sm_n p + 3 = sm_n (p + 3) from sm_n_add p 3, show sm_n p + 4 = sm_n (p + 4) from sm_n_add p 4, show sm_n p + 5 = sm_n (p + 5) from sm_n_add p 5]
  rw [sm_as (by omega) hL, sm_as (by omega) hL, sm_as (by omega) hL, sm_as (by omega) hL, sm_as (by omega) hL, e1, sm_bi, sm_as (by omega) hL, sm_as (by omega) hL, sm_as (by omega) hL, sm_as (by omega) hL, sm_as (by omega) hL, e2, sm_bi, if_pos rfl, show sm_n p + 6 = sm_n (p + 6) from sm_n_add p 6]
theorem st_35 {xs : Nat → Int32} {L p : Nat} {mx mm : gk_M} (h : rl_ mx mm) (hp : p + 6 ≤ L) (hL : L ≤ 3072) (k : Int32 → gk_M → gk_M → Option Unit) : ∃ mx' mm', rl_ mx' mm' ∧ f_L_35 xs L k (sm_n p) mx mm = k (sm_n (p + 6)) mx' mm' := by
  obtain ⟨v, mx', mm', e1, e2, h'⟩ := c_taken h (xs (p + 1)) (xs (p + 2))
  refine ⟨mx', mm', h', ?_⟩
  unfold f_L_35
  simp only [show sm_n p + 1 = sm_n (p + 1) from sm_n_add p 1, show sm_n p + 2 = sm_n (p + 2) from sm_n_add p 2]
  rw [sm_as (by omega) hL, sm_as (by omega) hL, e1, sm_bi, sm_as (by omega) hL, sm_as (by omega) hL, e2, sm_bi, if_pos rfl, show sm_n p + 6 = sm_n (p + 6) from sm_n_add p 6]
theorem st_36 {xs : Nat → Int32} {L p : Nat} {mx mm : gk_M} (h : rl_ mx mm) (hp : p + 6 ≤ L) (hL : L ≤ 3072) (k : Int32 → gk_M → gk_M → Option Unit) : ∃ mx' mm', rl_ mx' mm' ∧ f_L_36 xs L k (sm_n p) mx mm = k (sm_n (p + 6)) mx' mm' := by
  obtain ⟨v, mx', mm', e1, e2, h'⟩ := c_count h (xs (p + 1))
  refine ⟨mx', mm', h', ?_⟩
  unfold f_L_36
  simp only [show sm_n p + 1 = sm_n (p + 1) from sm_n_add p 1]
  rw [sm_as (by omega) hL, e1, sm_bi, sm_as (by omega) hL, e2, sm_bi, if_pos rfl, show sm_n p + 6 = sm_n (p + 6) from sm_n_add p 6]
theorem sim_n {xs : Nat → Int32} {L : Nat} (hL : L ≤ 3072) : ∀ n p mx mm, rl_ mx mm → p ≤ 3078 → L < p + 6 + 6 * n → f_L xs L (n + 1) (sm_n p) mx mm = some ()
  | n, p, mx, mm, h, hp, hn => by
    have e6 : (Int32.ofNat L - 6 < sm_n p) ↔ (L : Int) - 6 < (p : Int) := by
      rw [show Int32.ofNat L = sm_n L from rfl, sm_ni, sm_ni, show (6 : Int32) = sm_i 6 from rfl, sm_i_sub, sm_ilt (by omega) (by omega) (by omega) (by omega)]
    rw [f_L]
    by_cases e : (L : Int) - 6 < (p : Int)
    · rw [if_pos (e6.mpr e)]
    · rw [if_neg (fun z => e (e6.mp z)), sm_as (by omega) hL, sm_let]
      have go : ∀ mx' mm', rl_ mx' mm' → f_L xs L n (sm_n (p + 6)) mx' mm' = some () := by
        intro mx' mm' h'
        cases n with
        | zero => omega
        | succ n => exact sim_n hL n (p + 6) mx' mm' h' (by omega) (by omega)
      have fin : ∀ (r : Option Unit), (∃ mx' mm', rl_ mx' mm' ∧ r = f_L xs L n (sm_n (p + 6)) mx' mm') → r = some () := by
        rintro r ⟨mx', mm', h', e⟩
        rw [e]; exact go mx' mm' h'
      by_cases c0 : xs p &&& 63 = 0
      · rw [if_pos c0]; exact fin _ (st_0 h (by omega) hL (f_L xs L n))
      rw [if_neg c0]
      by_cases c1 : xs p &&& 63 = 1
      · rw [if_pos c1]; exact fin _ (st_1 h (by omega) hL (f_L xs L n))
      rw [if_neg c1]
      by_cases c2 : xs p &&& 63 = 2
      · rw [if_pos c2]; exact fin _ (st_2 h (by omega) hL (f_L xs L n))
      rw [if_neg c2]
      by_cases c3 : xs p &&& 63 = 3
      · rw [if_pos c3]; exact fin _ (st_3 h (by omega) hL (f_L xs L n))
      rw [if_neg c3]
      by_cases c4 : xs p &&& 63 = 4
      · rw [if_pos c4]; exact fin _ (st_4 h (by omega) hL (f_L xs L n))
      rw [if_neg c4]
      by_cases c5 : xs p &&& 63 = 5
      · rw [if_pos c5]; exact fin _ (st_5 h (by omega) hL (f_L xs L n))
      rw [if_neg c5]
      by_cases c6 : xs p &&& 63 = 6
      · rw [if_pos c6]; exact fin _ (st_6 h (by omega) hL (f_L xs L n))
      rw [if_neg c6]
      by_cases c7 : xs p &&& 63 = 7
      · rw [if_pos c7]; exact fin _ (st_7 h (by omega) hL (f_L xs L n))
      rw [if_neg c7]
      by_cases c8 : xs p &&& 63 = 8
      · rw [if_pos c8]; exact fin _ (st_8 h (by omega) hL (f_L xs L n))
      rw [if_neg c8]
      by_cases c9 : xs p &&& 63 = 9
      · rw [if_pos c9]; exact fin _ (st_9 h (by omega) hL (f_L xs L n))
      rw [if_neg c9]
      by_cases c10 : xs p &&& 63 = 10
      · rw [if_pos c10]; exact fin _ (st_10 h (by omega) hL (f_L xs L n))
      rw [if_neg c10]
      by_cases c11 : xs p &&& 63 = 11
      · rw [if_pos c11]; exact fin _ (st_11 h (by omega) hL (f_L xs L n))
      rw [if_neg c11]
      by_cases c12 : xs p &&& 63 = 12
      · rw [if_pos c12]; exact fin _ (st_12 h (by omega) hL (f_L xs L n))
      rw [if_neg c12]
      by_cases c13 : xs p &&& 63 = 13
      · rw [if_pos c13]; exact fin _ (st_13 h (by omega) hL (f_L xs L n))
      rw [if_neg c13]
      by_cases c14 : xs p &&& 63 = 14
      · rw [if_pos c14]; exact fin _ (st_14 h (by omega) hL (f_L xs L n))
      rw [if_neg c14]
      by_cases c15 : xs p &&& 63 = 15
      · rw [if_pos c15]; exact fin _ (st_15 h (by omega) hL (f_L xs L n))
      rw [if_neg c15]
      by_cases c16 : xs p &&& 63 = 16
      · rw [if_pos c16]; exact fin _ (st_16 h (by omega) hL (f_L xs L n))
      rw [if_neg c16]
      by_cases c17 : xs p &&& 63 = 17
      · rw [if_pos c17]; exact fin _ (st_17 h (by omega) hL (f_L xs L n))
      rw [if_neg c17]
      by_cases c18 : xs p &&& 63 = 18
      · rw [if_pos c18]; exact fin _ (st_18 h (by omega) hL (f_L xs L n))
      rw [if_neg c18]
      by_cases c19 : xs p &&& 63 = 19
      · rw [if_pos c19]; exact fin _ (st_19 h (by omega) hL (f_L xs L n))
      rw [if_neg c19]
      by_cases c20 : xs p &&& 63 = 20
      · rw [if_pos c20]; exact fin _ (st_20 h (by omega) hL (f_L xs L n))
      rw [if_neg c20]
      by_cases c21 : xs p &&& 63 = 21
      · rw [if_pos c21]; exact fin _ (st_21 h (by omega) hL (f_L xs L n))
      rw [if_neg c21]
      by_cases c22 : xs p &&& 63 = 22
      · rw [if_pos c22]; exact fin _ (st_22 h (by omega) hL (f_L xs L n))
      rw [if_neg c22]
      by_cases c23 : xs p &&& 63 = 23
      · rw [if_pos c23]; exact fin _ (st_23 h (by omega) hL (f_L xs L n))
      rw [if_neg c23]
      by_cases c24 : xs p &&& 63 = 24
      · rw [if_pos c24]; exact fin _ (st_24 h (by omega) hL (f_L xs L n))
      rw [if_neg c24]
      by_cases c25 : xs p &&& 63 = 25
      · rw [if_pos c25]; exact fin _ (st_25 h (by omega) hL (f_L xs L n))
      rw [if_neg c25]
      by_cases c26 : xs p &&& 63 = 26
      · rw [if_pos c26]; exact fin _ (st_26 h (by omega) hL (f_L xs L n))
      rw [if_neg c26]
      by_cases c27 : xs p &&& 63 = 27
      · rw [if_pos c27]; exact fin _ (st_27 h (by omega) hL (f_L xs L n))
      rw [if_neg c27]
      by_cases c28 : xs p &&& 63 = 28
      · rw [if_pos c28]; exact fin _ (st_28 h (by omega) hL (f_L xs L n))
      rw [if_neg c28]
      by_cases c29 : xs p &&& 63 = 29
      · rw [if_pos c29]; exact fin _ (st_29 h (by omega) hL (f_L xs L n))
      rw [if_neg c29]
      by_cases c30 : xs p &&& 63 = 30
      · rw [if_pos c30]; exact fin _ (st_30 h (by omega) hL (f_L xs L n))
      rw [if_neg c30]
      by_cases c31 : xs p &&& 63 = 31
      · rw [if_pos c31]; exact fin _ (st_31 h (by omega) hL (f_L xs L n))
      rw [if_neg c31]
      by_cases c32 : xs p &&& 63 = 32
      · rw [if_pos c32]; exact fin _ (st_32 h (by omega) hL (f_L xs L n))
      rw [if_neg c32]
      by_cases c33 : xs p &&& 63 = 33
      · rw [if_pos c33]; exact fin _ (st_33 h (by omega) hL (f_L xs L n))
      rw [if_neg c33]
      by_cases c34 : xs p &&& 63 = 34
      · rw [if_pos c34]; exact fin _ (st_34 h (by omega) hL (f_L xs L n))
      rw [if_neg c34]
      by_cases c35 : xs p &&& 63 = 35
      · rw [if_pos c35]; exact fin _ (st_35 h (by omega) hL (f_L xs L n))
      rw [if_neg c35]
      by_cases c36 : xs p &&& 63 = 36
      · rw [if_pos c36]; exact fin _ (st_36 h (by omega) hL (f_L xs L n))
      rw [if_neg c36]
      rw [show sm_n p + 6 = sm_n (p + 6) from sm_n_add p 6]
      exact go mx mm h
