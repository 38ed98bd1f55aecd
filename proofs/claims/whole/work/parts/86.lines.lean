/-! SIM: the lines of a law -/
abbrev sl_Q : Type := Bool × Nat × List Int32 × ((Nat → Int32) → Option Int32)
def sl_l1 (r : sl_R) : sl_Q := (true, r.2.1, r.2.2.1 ++ [-159], fun ns => some (r.2.2.2 ns))
def sl_l2 (r s : sl_R) : sl_Q := (true, s.2.1, r.2.2.1 ++ ([-163] ++ (s.2.2.1 ++ [-159])), fun ns => if r.2.2.2 ns = 0 then none else some (s.2.2.2 ns))
def sl_qf (a : Nat) : sl_Q := (false, a, [], fun _ => none)
def sl_or : Option Int32 → Option Int32 → Option Int32
  | some v, _ => some v
  | none, o => o
def sl_qc (p q : sl_Q) : sl_Q := (q.1, q.2.1, p.2.2.1 ++ q.2.2.1, fun ns => sl_or (p.2.2.2 ns) (q.2.2.2 ns))
def sl_ln (t : Nat → Nat) (L a : Nat) : sl_Q := if (sl_E0 t L a).1 = true then (if sl_b t L (sl_E0 t L a).2.1 = 63 then (if (sl_E0 t L ((sl_E0 t L a).2.1 + 1)).1 = true then sl_l2 (sl_E0 t L a) (sl_E0 t L ((sl_E0 t L a).2.1 + 1)) else sl_qf (sl_E0 t L ((sl_E0 t L a).2.1 + 1)).2.1) else sl_l1 (sl_E0 t L a)) else sl_qf (sl_E0 t L a).2.1
def sl_rd (t : Nat → Nat) (L : Nat) : Nat → Nat → sl_Q
  | 0, a => sl_qf a
  | n + 1, a => if (sl_ln t L a).1 = true then (if sl_b t L (sl_ln t L a).2.1 = 59 then sl_qc (sl_ln t L a) (sl_rd t L n ((sl_ln t L a).2.1 + 1)) else if (sl_ln t L a).2.1 < L then sl_qf (sl_ln t L a).2.1 else sl_ln t L a) else sl_qf (sl_ln t L a).2.1
def sl_v (o : Option Int32) : Int32 := match o with
  | some v => v
  | none => 0
/-! the stack machine on lines -/
def sl_rx (code : List Int32) (v : (Nat → Int32) → Option Int32) : Prop := ∀ (m : gk_M) (p fu N : Nat), m.1 1 2 = sm_n N → N ≤ 256 → p + code.length ≤ N → sl_at 2 m p code → ∃ m', (∀ k, k ≠ 3 → m'.1 k = m.1 k) ∧ m'.2 = m.2 ∧ (∀ x, v (sl_cut (m.1 19)) = some x → f_Law_verdict_31 (fu + code.length) 0 0 (sm_n p) m = some (x, m')) ∧ (v (sl_cut (m.1 19)) = none → ∃ fu', fu ≤ fu' ∧ f_Law_verdict_31 (fu + code.length) 0 0 (sm_n p) m = f_Law_verdict_31 fu' 0 0 (sm_n (p + code.length)) m')
theorem sl_end {m : gk_M} {top p fu N : Nat} (hN : m.1 1 2 = sm_n N) (hN2 : N ≤ 256) (hp : p < N) (h2 : m.1 2 p = -159) : f_Law_verdict_31 (fu + 1) (sm_n top) 0 (sm_n p) m = some (m.1 3 0, m) := by
  rw [f_Law_verdict_31]
  rw [hN, if_neg (show ¬ sm_n N ≤ sm_n p by rw [sm_nle (by omega) (by omega)]; omega), sm_ai (by omega) (by omega), h2, if_pos (show (0 : Int32) = 0 from rfl), if_pos (show (-159 : Int32) < -6 by decide)]
  unfold f_Law_verdict_112
  rw [if_neg (show ¬ ¬ (-159 : Int32) = -159 from fun z => z rfl), show gk_ai m 3 256 0 = gk_ai m 3 256 (sm_n 0) from rfl, sm_ai (by omega) (by omega)]
theorem sl_gua {m : gk_M} {top p fu N : Nat} (hN : m.1 1 2 = sm_n N) (hN2 : N ≤ 256) (hp : p < N) (h2 : m.1 2 p = -163) : f_Law_verdict_31 (fu + 1) (sm_n top) 0 (sm_n p) m = if m.1 3 0 = 0 then f_Law_verdict_31 fu 0 1 (sm_n (p + 1)) m else f_Law_verdict_31 fu 0 0 (sm_n (p + 1)) m := by
  rw [f_Law_verdict_31]
  rw [hN, if_neg (show ¬ sm_n N ≤ sm_n p by rw [sm_nle (by omega) (by omega)]; omega), sm_ai (by omega) (by omega), h2, if_pos (show (0 : Int32) = 0 from rfl), if_pos (show (-163 : Int32) < -6 by decide)]
  unfold f_Law_verdict_112 f_Law_verdict_151
  rw [if_pos (show ¬ (-163 : Int32) = -159 by decide), if_neg (show ¬ ¬ (-163 : Int32) = -163 from fun z => z rfl), show gk_ai m 3 256 0 = gk_ai m 3 256 (sm_n 0) from rfl, sm_ai (by omega) (by omega), show sm_n p + 1 = sm_n (p + 1) from sm_n_add p 1]
  by_cases z : m.1 3 0 = 0
  · rw [if_pos z, if_neg (show ¬ ¬ m.1 3 0 = 0 from fun y => y z)]
  · rw [if_neg z, if_pos z]
/-! a line that is passed over: to its end, and behind it -/
theorem sl_eol {m : gk_M} {N : Nat} {top : Int32} (hN : m.1 1 2 = sm_n N) (hN2 : N ≤ 256) : ∀ (x : List Int32) (p fu : Nat), p + x.length < N → sl_at 2 m p x → m.1 2 (p + x.length) = -159 → (∀ c, c ∈ x → c ≠ -159) → f_Law_verdict_31 (fu + x.length + 1) top 1 (sm_n p) m = f_Law_verdict_31 fu top 0 (sm_n (p + x.length + 1)) m
  | [], p, fu, h2, h3, h4, h5 => by
    have h2 : p < N := h2
    have h4 : m.1 2 p = -159 := h4
    show f_Law_verdict_31 (fu + 1) top 1 (sm_n p) m = f_Law_verdict_31 fu top 0 (sm_n (p + 1)) m
    rw [f_Law_verdict_31]
    rw [hN, if_neg (show ¬ sm_n N ≤ sm_n p by rw [sm_nle (by omega) (by omega)]; omega), sm_ai (by omega) (by omega), h4, if_neg (show ¬ (1 : Int32) = 0 by decide), if_pos (show (-159 : Int32) = -159 from rfl)]
    unfold f_Law_verdict_66
    rw [show sm_n p + 1 = sm_n (p + 1) from sm_n_add p 1]
  | c :: x, p, fu, h2, h3, h4, h5 => by
    have hl : (c :: x).length = x.length + 1 := rfl
    rw [hl] at h2 h4
    have hc : m.1 2 p = c := h3.1
    have hcn := h5 c List.mem_cons_self
    have ih := sl_eol (top := top) hN hN2 x (p + 1) fu (by omega) h3.2 (by rw [show p + 1 + x.length = p + (x.length + 1) by omega]; exact h4) (fun d hd => h5 d (List.mem_cons_of_mem c hd))
    rw [hl, show fu + (x.length + 1) + 1 = fu + x.length + 1 + 1 by omega, f_Law_verdict_31]
    rw [hN, if_neg (show ¬ sm_n N ≤ sm_n p by rw [sm_nle (by omega) (by omega)]; omega), sm_ai (by omega) (by omega), hc, if_neg (show ¬ (1 : Int32) = 0 by decide), if_neg hcn]
    unfold f_Law_verdict_66
    rw [show sm_n p + 1 = sm_n (p + 1) from sm_n_add p 1, ih, show p + 1 + x.length + 1 = p + (x.length + 1) + 1 by omega]
theorem sl_rx1 {r : sl_R} (hx : sl_ex r.2.2.1 r.2.2.2) : sl_rx (sl_l1 r).2.2.1 (sl_l1 r).2.2.2 := by
  intro m p fu N hN hN2 hp hat
  have hp : p + (r.2.2.1 ++ [-159]).length ≤ N := hp
  have hat : sl_at 2 m p (r.2.2.1 ++ [-159]) := hat
  have e1 : (r.2.2.1 ++ ([-159] : List Int32)).length = r.2.2.1.length + 1 := by rw [List.length_append]; rfl
  rw [e1] at hp
  obtain ⟨a1, a2⟩ := (sl_at_app _ _ _).mp hat
  obtain ⟨m1, q1, q2, q3, q4, q5⟩ := hx.2 m 0 p (fu + 1) N hN hN2 (by omega) (by omega) a1
  have h2 : m1.1 2 (p + r.2.2.1.length) = -159 := by rw [q4 2 (by decide)]; exact a2.1
  have ee := sl_end (fu := fu) (top := 0 + 1) (show m1.1 1 2 = sm_n N by rw [q4 1 (by decide)]; exact hN) hN2 (show p + r.2.2.1.length < N by omega) h2
  refine ⟨m1, q4, q5, fun x hv => ?_, fun hv => by cases hv⟩
  have hv : some (r.2.2.2 (sl_cut (m.1 19))) = some x := hv
  cases hv
  show f_Law_verdict_31 (fu + (r.2.2.1 ++ ([-159] : List Int32)).length) (sm_n 0) 0 (sm_n p) m = _
  rw [e1, show fu + (r.2.2.1.length + 1) = fu + 1 + r.2.2.1.length by omega, q1, ee, q2]
theorem sl_rx2 {r s : sl_R} (hx : sl_ex r.2.2.1 r.2.2.2) (hy : sl_ex s.2.2.1 s.2.2.2) (hn : ∀ c, c ∈ s.2.2.1 → c ≠ -159) : sl_rx (sl_l2 r s).2.2.1 (sl_l2 r s).2.2.2 := by
  intro m p fu N hN hN2 hp hat
  have hp : p + (r.2.2.1 ++ ([-163] ++ (s.2.2.1 ++ [-159]))).length ≤ N := hp
  have hat : sl_at 2 m p (r.2.2.1 ++ ([-163] ++ (s.2.2.1 ++ [-159]))) := hat
  have e1 : (r.2.2.1 ++ (([-163] : List Int32) ++ (s.2.2.1 ++ [-159]))).length = r.2.2.1.length + (1 + (s.2.2.1.length + 1)) := by
    rw [List.length_append, List.length_append, List.length_append]; rfl
  rw [e1] at hp
  obtain ⟨a1, a2⟩ := (sl_at_app _ _ _).mp hat
  obtain ⟨a2, a3⟩ := (sl_at_app _ _ _).mp a2
  have a4 := a3
  obtain ⟨a4, a5⟩ := (sl_at_app _ _ _).mp a4
  have l1 : ([-163] : List Int32).length = 1 := rfl
  rw [l1] at a3 a4 a5
  obtain ⟨m1, q1, q2, q3, q4, q5⟩ := hx.2 m 0 p (fu + 1 + s.2.2.1.length + 1) N hN hN2 (by omega) (by omega) a1
  have hN1 : m1.1 1 2 = sm_n N := by rw [q4 1 (by decide)]; exact hN
  have h2 : m1.1 2 (p + r.2.2.1.length) = -163 := by rw [q4 2 (by decide)]; exact a2.1
  have eg := sl_gua (fu := fu + 1 + s.2.2.1.length) (top := 0 + 1) hN1 hN2 (show p + r.2.2.1.length < N by omega) h2
  have b4 : sl_at 2 m1 (p + r.2.2.1.length + 1) s.2.2.1 := sl_at_cg _ _ (fun j _ _ => by rw [q4 2 (by decide)]) a4
  have b5 : m1.1 2 (p + r.2.2.1.length + 1 + s.2.2.1.length) = -159 := by rw [q4 2 (by decide)]; exact a5.1
  have start : f_Law_verdict_31 (fu + (sl_l2 r s).2.2.1.length) 0 0 (sm_n p) m = if m1.1 3 0 = 0 then f_Law_verdict_31 (fu + 1 + s.2.2.1.length) 0 1 (sm_n (p + r.2.2.1.length + 1)) m1 else f_Law_verdict_31 (fu + 1 + s.2.2.1.length) 0 0 (sm_n (p + r.2.2.1.length + 1)) m1 := by
    show f_Law_verdict_31 (fu + (r.2.2.1 ++ (([-163] : List Int32) ++ (s.2.2.1 ++ [-159]))).length) (sm_n 0) 0 (sm_n p) m = _
    rw [e1, show fu + (r.2.2.1.length + (1 + (s.2.2.1.length + 1))) = fu + 1 + s.2.2.1.length + 1 + r.2.2.1.length by omega, q1, eg]
  rw [start, q2]
  by_cases z : r.2.2.2 (sl_cut (m.1 19)) = 0
  · refine ⟨m1, q4, q5, fun x hv => ?_, fun _ => ⟨fu, Nat.le_refl fu, ?_⟩⟩
    · have hv : (if r.2.2.2 (sl_cut (m.1 19)) = 0 then none else some (s.2.2.2 (sl_cut (m.1 19)))) = some x := hv
      rw [if_pos z] at hv
      cases hv
    · have ee := sl_eol (top := 0) hN1 hN2 s.2.2.1 (p + r.2.2.1.length + 1) fu (by omega) b4 b5 hn
      rw [if_pos z, show fu + 1 + s.2.2.1.length = fu + s.2.2.1.length + 1 by omega, ee]
      show _ = f_Law_verdict_31 fu 0 0 (sm_n (p + (r.2.2.1 ++ (([-163] : List Int32) ++ (s.2.2.1 ++ [-159]))).length)) m1
      rw [e1, show p + (r.2.2.1.length + (1 + (s.2.2.1.length + 1))) = p + r.2.2.1.length + 1 + s.2.2.1.length + 1 by omega]
  · obtain ⟨m2, r1, r2, r3, r4, r5⟩ := hy.2 m1 0 (p + r.2.2.1.length + 1) (fu + 1) N hN1 hN2 (by omega) (by omega) b4
    have h3 : m2.1 2 (p + r.2.2.1.length + 1 + s.2.2.1.length) = -159 := by rw [r4 2 (by decide)]; exact b5
    have ee := sl_end (fu := fu) (top := 0 + 1) (show m2.1 1 2 = sm_n N by rw [r4 1 (by decide)]; exact hN1) hN2 (show p + r.2.2.1.length + 1 + s.2.2.1.length < N by omega) h3
    refine ⟨m2, fun k hk => (r4 k hk).trans (q4 k hk), r5.trans q5, fun x hv => ?_, fun hv => ?_⟩
    · have hv : (if r.2.2.2 (sl_cut (m.1 19)) = 0 then none else some (s.2.2.2 (sl_cut (m.1 19)))) = some x := hv
      rw [if_neg z] at hv
      cases hv
      rw [if_neg z, show f_Law_verdict_31 (fu + 1 + s.2.2.1.length) 0 0 (sm_n (p + r.2.2.1.length + 1)) m1 = _ from r1, ee, r2, q4 19 (by decide)]
    · have hv : (if r.2.2.2 (sl_cut (m.1 19)) = 0 then none else some (s.2.2.2 (sl_cut (m.1 19)))) = none := hv
      rw [if_neg z] at hv
      cases hv
theorem sl_rxc {p q : sl_Q} (hx : sl_rx p.2.2.1 p.2.2.2) (hy : sl_rx q.2.2.1 q.2.2.2) : sl_rx (sl_qc p q).2.2.1 (sl_qc p q).2.2.2 := by
  intro m a fu N hN hN2 hp hat
  have hp : a + (p.2.2.1 ++ q.2.2.1).length ≤ N := hp
  have hat : sl_at 2 m a (p.2.2.1 ++ q.2.2.1) := hat
  have e1 : (p.2.2.1 ++ q.2.2.1).length = p.2.2.1.length + q.2.2.1.length := List.length_append
  rw [e1] at hp
  obtain ⟨a1, a2⟩ := (sl_at_app _ _ _).mp hat
  obtain ⟨m1, q1, q2, q3, q4⟩ := hx m a (fu + q.2.2.1.length) N hN hN2 (by omega) a1
  have es : f_Law_verdict_31 (fu + (sl_qc p q).2.2.1.length) 0 0 (sm_n a) m = f_Law_verdict_31 (fu + q.2.2.1.length + p.2.2.1.length) 0 0 (sm_n a) m := by
    show f_Law_verdict_31 (fu + (p.2.2.1 ++ q.2.2.1).length) 0 0 (sm_n a) m = _
    rw [e1, show fu + (p.2.2.1.length + q.2.2.1.length) = fu + q.2.2.1.length + p.2.2.1.length by omega]
  have el : a + (sl_qc p q).2.2.1.length = a + p.2.2.1.length + q.2.2.1.length := by
    show a + (p.2.2.1 ++ q.2.2.1).length = _
    rw [e1]; omega
  have ev : (sl_qc p q).2.2.2 (sl_cut (m.1 19)) = sl_or (p.2.2.2 (sl_cut (m.1 19))) (q.2.2.2 (sl_cut (m.1 19))) := rfl
  rw [es, el, ev]
  rcases hv : p.2.2.2 (sl_cut (m.1 19)) with _ | x
  · obtain ⟨fu', f1, f2⟩ := q4 hv
    obtain ⟨m2, r1, r2, r3, r4⟩ := hy m1 (a + p.2.2.1.length) (fu' - q.2.2.1.length) N (by rw [q1 1 (by decide)]; exact hN) hN2 (by omega) (sl_at_cg _ _ (fun j _ _ => by rw [q1 2 (by decide)]) a2)
    rw [q1 19 (by decide), show fu' - q.2.2.1.length + q.2.2.1.length = fu' by omega] at r3 r4
    refine ⟨m2, fun k hk => (r1 k hk).trans (q1 k hk), r2.trans q2, fun x hx => f2.trans (r3 x hx), fun hx => ?_⟩
    obtain ⟨fu2, g1, g2⟩ := r4 hx
    exact ⟨fu2, by omega, f2.trans g2⟩
  · refine ⟨m1, q1, q2, fun y hy => ?_, fun hy => by cases hy⟩
    cases hy
    exact q3 x hv
/-! what is read of lines is good -/
def sl_GQ (L a : Nat) (q : sl_Q) : Prop := a ≤ q.2.1 ∧ (a ≤ L → q.2.1 ≤ L) ∧ (q.1 = true → a + 1 ≤ q.2.1 ∧ q.2.2.1.length + a ≤ q.2.1 + 1 ∧ 1 ≤ q.2.2.1.length ∧ sl_rx q.2.2.1 q.2.2.2)
section LN
variable {t : Nat → Nat} {L : Nat}
theorem sl_GQ_f {a b : Nat} (h : a ≤ b) (h2 : a ≤ L → b ≤ L) : sl_GQ L a (sl_qf b) := ⟨h, h2, fun z => absurd z Bool.false_ne_true⟩
theorem sl_GQ_ln (a : Nat) : sl_GQ L a (sl_ln t L a) := by
  obtain ⟨g1, g2, g3⟩ := sl_G_E0 (t := t) (L := L) a
  unfold sl_ln
  by_cases h1 : (sl_E0 t L a).1 = true
  · obtain ⟨g4, g5, g6, g7⟩ := g3 h1
    rw [if_pos h1]
    by_cases h2 : sl_b t L (sl_E0 t L a).2.1 = 63
    · have hl := sl_bl (t := t) (L := L) (a := (sl_E0 t L a).2.1) (by omega)
      obtain ⟨k1, k2, k3⟩ := sl_G_E0 (t := t) (L := L) ((sl_E0 t L a).2.1 + 1)
      rw [if_pos h2]
      by_cases h3 : (sl_E0 t L ((sl_E0 t L a).2.1 + 1)).1 = true
      · obtain ⟨k4, k5, k6, k7⟩ := k3 h3
        rw [if_pos h3]
        have el : (sl_l2 (sl_E0 t L a) (sl_E0 t L ((sl_E0 t L a).2.1 + 1))).2.2.1.length = (sl_E0 t L a).2.2.1.length + (1 + ((sl_E0 t L ((sl_E0 t L a).2.1 + 1)).2.2.1.length + 1)) := by
          show ((sl_E0 t L a).2.2.1 ++ (([-163] : List Int32) ++ ((sl_E0 t L ((sl_E0 t L a).2.1 + 1)).2.2.1 ++ [-159]))).length = _
          rw [List.length_append, List.length_append, List.length_append]; rfl
        refine ⟨?_, fun _ => k2 hl, fun _ => ⟨?_, ?_, by rw [el]; omega, sl_rx2 g6 k6 k7⟩⟩
        · show a ≤ (sl_E0 t L ((sl_E0 t L a).2.1 + 1)).2.1
          omega
        · show a + 1 ≤ (sl_E0 t L ((sl_E0 t L a).2.1 + 1)).2.1
          omega
        · rw [el]
          show _ ≤ (sl_E0 t L ((sl_E0 t L a).2.1 + 1)).2.1 + 1
          omega
      · rw [if_neg h3]
        exact sl_GQ_f (by omega) (fun _ => k2 hl)
    · rw [if_neg h2]
      have el : (sl_l1 (sl_E0 t L a)).2.2.1.length = (sl_E0 t L a).2.2.1.length + 1 := by
        show ((sl_E0 t L a).2.2.1 ++ ([-159] : List Int32)).length = _
        rw [List.length_append]; rfl
      refine ⟨g1, g2, fun _ => ⟨g4, ?_, by rw [el]; omega, sl_rx1 g6⟩⟩
      rw [el]
      show _ ≤ (sl_E0 t L a).2.1 + 1
      omega
  · rw [if_neg h1]
    exact sl_GQ_f g1 g2
theorem sl_GQ_rd : ∀ n a, sl_GQ L a (sl_rd t L n a)
  | 0, a => sl_GQ_f (Nat.le_refl _) id
  | n + 1, a => by
    obtain ⟨g1, g2, g3⟩ := sl_GQ_ln (t := t) (L := L) a
    unfold sl_rd
    by_cases h1 : (sl_ln t L a).1 = true
    · obtain ⟨g4, g5, g6, g7⟩ := g3 h1
      rw [if_pos h1]
      by_cases h2 : sl_b t L (sl_ln t L a).2.1 = 59
      · have hl := sl_bl (t := t) (L := L) (a := (sl_ln t L a).2.1) (by omega)
        obtain ⟨k1, k2, k3⟩ := sl_GQ_rd n ((sl_ln t L a).2.1 + 1)
        rw [if_pos h2]
        refine ⟨?_, fun _ => k2 hl, fun z => ?_⟩
        · show a ≤ (sl_rd t L n ((sl_ln t L a).2.1 + 1)).2.1
          omega
        · obtain ⟨k4, k5, k6, k7⟩ := k3 z
          have el : (sl_qc (sl_ln t L a) (sl_rd t L n ((sl_ln t L a).2.1 + 1))).2.2.1.length = (sl_ln t L a).2.2.1.length + (sl_rd t L n ((sl_ln t L a).2.1 + 1)).2.2.1.length := List.length_append
          refine ⟨?_, ?_, by rw [el]; omega, sl_rxc g7 k7⟩
          · show a + 1 ≤ (sl_rd t L n ((sl_ln t L a).2.1 + 1)).2.1
            omega
          · rw [el]
            show _ ≤ (sl_rd t L n ((sl_ln t L a).2.1 + 1)).2.1 + 1
            omega
      · rw [if_neg h2]
        by_cases h3 : (sl_ln t L a).2.1 < L
        · rw [if_pos h3]; exact sl_GQ_f g1 g2
        · rw [if_neg h3]; exact ⟨g1, g2, g3⟩
    · rw [if_neg h1]; exact sl_GQ_f g1 g2
end LN
/-! the class reads lines -/
def sl_qr (q : sl_Q) : sl_R := (q.1, q.2.1, q.2.2.1, fun _ => 0)
section XL
variable {t : Nat → Nat} {L : Nat} {m m0 : gk_M}
theorem sl_XP_no {d0 : Nat} {r q : sl_R} (h : sl_XP m0 d0 r m) (h1 : r.1 = false) (h2 : q.1 = false) (h3 : q.2.1 = r.2.1) : sl_XP m0 d0 q m :=
  ⟨h.1, by rw [h3]; exact h.2.1, fun z => by rw [h2] at z; exact absurd z Bool.false_ne_true, fun _ => by rw [h3]; exact h.2.2.2 h1⟩
theorem x_line : sl_xr t L (fun m => f_Reader_readLine m) (fun a => sl_qr (sl_ln t L a)) := by
  intro a d m hS h4 ha h5 h1 hd
  have hL := hS.2.1
  obtain ⟨m1, e1, P1⟩ := x_E0 a d m hS h4 ha h5 h1 hd
  obtain ⟨p1, p2, p3, p4⟩ := id P1
  have hS1 := sl_XS_fr p1 hS
  obtain ⟨g1, g2, g3⟩ := sl_G_E0 (t := t) (L := L) a
  have g2 := g2 ha
  show ∃ m', f_Reader_readLine m = some ((), m') ∧ sl_XP m d (sl_qr (sl_ln t L a)) m'
  unfold f_Reader_readLine f_Reader_readLine_45 sl_ln
  rw [show f_Reader_readLevel 0 0 m = _ from e1, sm_bv]
  by_cases h1 : (sl_E0 t L a).1 = true
  · obtain ⟨a1, a2, a3, a4⟩ := p3 h1
    obtain ⟨g4, g5, g6, g7⟩ := g3 h1
    have va := sl_XS_va hS1 (sl_E0 t L a).2.1
    have i63 : (sl_nx t L (sl_E0 t L a).2.1 = 63) ↔ sl_b t L (sl_E0 t L a).2.1 = 63 := sl_va_eq (s := 63) va (by decide) (by decide)
    rw [if_pos h1, a1, if_neg (show ¬ (0 : Int32) ≤ -1 by decide), x_next hS1 p2 (by omega), sm_bi]
    by_cases h2 : sl_b t L (sl_E0 t L a).2.1 = 63
    · have hl := sl_bl (t := t) (L := L) (a := (sl_E0 t L a).2.1) (by omega)
      rw [if_pos h2, if_neg (show ¬ ¬ sl_nx t L (sl_E0 t L a).2.1 = 63 from fun y => y (i63.mpr h2)), sm_let, p2, show sm_n (sl_E0 t L a).2.1 + 1 = sm_n ((sl_E0 t L a).2.1 + 1) from sm_n_add _ 1]
      have fd : f_Reader_draw (-163) (gk_mi m1 4 4 (sm_n ((sl_E0 t L a).2.1 + 1))) = _ := x_draw (d := d + (sl_E0 t L a).2.2.1.length) (by rw [sm_mi0 (by omega)]; exact a2) (by omega)
      rw [fd, sm_bv]
      obtain ⟨M, hM⟩ : ∃ M, M = gk_mi (gk_mi (gk_mi m1 4 4 (sm_n ((sl_E0 t L a).2.1 + 1))) 5 (d + (sl_E0 t L a).2.2.1.length) (-163)) 4 1 (sm_n (d + (sl_E0 t L a).2.2.1.length + 1)) := ⟨_, rfl⟩
      rw [← hM]
      have fM : sl_fr m M := by
        rw [hM]
        exact sl_fr_w (sl_fr_w (sl_fr_w p1 (Or.inr ⟨rfl, Or.inr (Or.inl rfl)⟩)) (Or.inl rfl)) (Or.inr ⟨rfl, Or.inl rfl⟩)
      obtain ⟨m2, e2, P2⟩ := x_E0 ((sl_E0 t L a).2.1 + 1) (d + (sl_E0 t L a).2.2.1.length + 1) M (sl_XS_fr fM hS) (by rw [hM, sm_mi0 (by omega), sm_mi0 (by omega), sm_mi1]) hl (by rw [hM, sm_mi0 (by omega), sm_mi0 (by omega), sm_mi0 (by omega)]; exact a1) (by rw [hM, sm_mi1]) (by omega)
      obtain ⟨k1, k2, k3⟩ := sl_G_E0 (t := t) (L := L) ((sl_E0 t L a).2.1 + 1)
      have k2 := k2 hl
      rw [show f_Reader_readLevel 0 0 M = _ from e2, sm_bv]
      have P3 : sl_XP m d ((sl_E0 t L ((sl_E0 t L a).2.1 + 1)).1, (sl_E0 t L ((sl_E0 t L a).2.1 + 1)).2.1, (sl_E0 t L a).2.2.1 ++ ([-163] ++ (sl_E0 t L ((sl_E0 t L a).2.1 + 1)).2.2.1), fun _ => 0) m2 := by
        obtain ⟨b1, b2, b3, b4⟩ := P2
        refine ⟨sl_fr_tr fM b1, b2, fun z => ?_, b4⟩
        obtain ⟨c1, c2, c3, c4⟩ := b3 z
        refine ⟨c1, ?_, ?_, fun j hj => ?_⟩
        · rw [c2, List.length_append, List.length_append, show ([-163] : List Int32).length = 1 from rfl]; congr 1; omega
        · rw [sl_at_app, sl_at_app]
          refine ⟨sl_at_cg _ _ (fun j j1 j2 => by rw [c4 j (by omega), hM, sm_mi0 (by omega), sm_mi0 (by omega), sm_mi0 (by omega)]) a3, ⟨?_, trivial⟩, ?_⟩
          · rw [c4 _ (by omega), hM, sm_mi0 (by omega), sm_mi1]
          · exact c3
        · rw [c4 j (by omega), hM, sm_mi0 (by omega), sm_mi0 (by omega), sm_mi0 (by omega)]; exact a4 j hj
      by_cases h3 : (sl_E0 t L ((sl_E0 t L a).2.1 + 1)).1 = true
      · obtain ⟨m3, e3, P4⟩ := sl_XP_draw (c := -159) (q := sl_qr (sl_l2 (sl_E0 t L a) (sl_E0 t L ((sl_E0 t L a).2.1 + 1)))) P3 h3.symm rfl (by
          show (sl_E0 t L a).2.2.1 ++ ([-163] ++ ((sl_E0 t L ((sl_E0 t L a).2.1 + 1)).2.2.1 ++ [-159])) = ((sl_E0 t L a).2.2.1 ++ ([-163] ++ (sl_E0 t L ((sl_E0 t L a).2.1 + 1)).2.2.1)) ++ [-159]
          rw [List.append_assoc, List.append_assoc]) (fun _ => by
          have := k3 h3
          show d + ((sl_E0 t L a).2.2.1 ++ (([-163] : List Int32) ++ (sl_E0 t L ((sl_E0 t L a).2.1 + 1)).2.2.1)).length < 256
          rw [List.length_append, List.length_append, show ([-163] : List Int32).length = 1 from rfl]
          omega)
        rw [if_pos h3, e3, sm_bv]
        exact ⟨m3, rfl, P4⟩
      · have h3' : (sl_E0 t L ((sl_E0 t L a).2.1 + 1)).1 = false := by simpa using h3
        obtain ⟨m3, e3, P4⟩ := sl_XP_draw (c := -159) (q := (false, (sl_E0 t L ((sl_E0 t L a).2.1 + 1)).2.1, ((sl_E0 t L a).2.2.1 ++ ([-163] ++ (sl_E0 t L ((sl_E0 t L a).2.1 + 1)).2.2.1)) ++ [-159], fun _ => 0)) P3 h3'.symm rfl rfl (fun z => absurd (h3'.symm.trans z) Bool.false_ne_true)
        rw [if_neg h3, e3, sm_bv]
        exact ⟨m3, rfl, sl_XP_no P4 rfl rfl rfl⟩
    · obtain ⟨m3, e3, P4⟩ := sl_XP_draw (c := -159) (q := sl_qr (sl_l1 (sl_E0 t L a))) P1 h1.symm rfl rfl (fun _ => by omega)
      rw [if_neg h2, if_pos (show ¬ sl_nx t L (sl_E0 t L a).2.1 = 63 from fun y => h2 (i63.mp y)), e3, sm_bv]
      exact ⟨m3, rfl, P4⟩
  · have h1' : (sl_E0 t L a).1 = false := by simpa using h1
    obtain ⟨m3, e3, P4⟩ := sl_XP_draw (c := -159) (q := (false, (sl_E0 t L a).2.1, (sl_E0 t L a).2.2.1 ++ [-159], fun _ => 0)) P1 h1'.symm rfl rfl (fun z => absurd (h1'.symm.trans z) Bool.false_ne_true)
    rw [if_neg h1, (p4 h1').1, if_pos (sl_fneg (by omega)), e3, sm_bv]
    exact ⟨m3, rfl, sl_XP_no P4 rfl rfl rfl⟩
def sl_XF (m0 : gk_M) (d0 : Nat) (q : sl_Q) (v : Int32) (m : gk_M) : Prop := sl_fr m0 m ∧ (q.1 = true → v = -1 ∧ m.1 4 1 = sm_n (d0 + q.2.2.1.length) ∧ sl_at 5 m d0 q.2.2.1 ∧ ∀ j, j < d0 → m.1 5 j = m0.1 5 j) ∧ (q.1 = false → v = sm_n q.2.1)
theorem x_rd17 : ∀ n i fu a d m, i + n = 121 → n < fu → sl_XS t L m → m.1 4 4 = sm_n a → a ≤ L → m.1 4 5 = -1 → m.1 4 1 = sm_n d → d + (L - a) ≤ 200 → ∃ v m', f_Reader_read_17 fu (sm_n i) m = some (v, m') ∧ sl_XF m d (sl_rd t L n a) v m'
  | 0, i, fu + 1, a, d, m, hi, hn, hS, h4, ha, h5, h1, hd => by
    unfold f_Reader_read_17
    rw [if_pos (show (120 : Int32) < sm_n i by simp (disch := omega) only [sm_lit, sm_nlt, sm_nle, sm_neq, sm_n_add, sm_n_mul, sm_n_div, sm_n_rem, sm_bi, sm_bl, sm_bv, sm_let, sm_zz0, sm_zz1, sm_ai, sm_si, sm_al, sm_sl, sm_ar, sm_mi1, sm_mi0, sm_ml1, sm_ml0, sm_mil, sm_mli]; omega), h4]
    exact ⟨_, _, rfl, sl_fr0, fun z => absurd z Bool.false_ne_true, fun _ => rfl⟩
  | n + 1, i, fu + 1, a, d, m, hi, hn, hS, h4, ha, h5, h1, hd => by
    have hL := hS.2.1
    obtain ⟨m1, e1, p1, p2, p3, p4⟩ := x_line a d m hS h4 ha h5 h1 hd
    have hS1 := sl_XS_fr p1 hS
    obtain ⟨g1, g2, g3⟩ := sl_GQ_ln (t := t) (L := L) a
    have g2 := g2 ha
    have p2 : m1.1 4 4 = sm_n (sl_ln t L a).2.1 := p2
    unfold f_Reader_read_17 f_Reader_read_45 sl_rd
    rw [if_neg (show ¬ (120 : Int32) < sm_n i by simp (disch := omega) only [sm_lit, sm_nlt, sm_nle, sm_neq, sm_n_add, sm_n_mul, sm_n_div, sm_n_rem, sm_bi, sm_bl, sm_bv, sm_let, sm_zz0, sm_zz1, sm_ai, sm_si, sm_al, sm_sl, sm_ar, sm_mi1, sm_mi0, sm_ml1, sm_ml0, sm_mil, sm_mli]; omega), show f_Reader_readLine m = _ from e1, sm_bv]
    by_cases h1 : (sl_ln t L a).1 = true
    · obtain ⟨a1, a2, a3, a4⟩ := p3 h1
      have a2 : m1.1 4 1 = sm_n (d + (sl_ln t L a).2.2.1.length) := a2
      have a3 : sl_at 5 m1 d (sl_ln t L a).2.2.1 := a3
      obtain ⟨g4, g5, g6, g7⟩ := g3 h1
      have va := sl_XS_va hS1 (sl_ln t L a).2.1
      have i59 : (sl_nx t L (sl_ln t L a).2.1 = 59) ↔ sl_b t L (sl_ln t L a).2.1 = 59 := sl_va_eq (s := 59) va (by decide) (by decide)
      rw [if_pos h1, a1, if_neg (show ¬ (0 : Int32) ≤ -1 by decide), p2, hS1.1]
      by_cases h2 : sl_b t L (sl_ln t L a).2.1 = 59
      · have hl := sl_bl (t := t) (L := L) (a := (sl_ln t L a).2.1) (by omega)
        rw [if_pos h2, if_pos (show sm_n (sl_ln t L a).2.1 < sm_n L by rw [sm_nlt (by omega) (by omega)]; exact hl), x_next hS1 p2 (by omega), sm_bi, if_pos (i59.mpr h2), sm_let, p2, show sm_n (sl_ln t L a).2.1 + 1 = sm_n ((sl_ln t L a).2.1 + 1) from sm_n_add _ 1, show sm_n i + 1 = sm_n (i + 1) from sm_n_add _ 1]
        have f1 : sl_fr m (gk_mi m1 4 4 (sm_n ((sl_ln t L a).2.1 + 1))) := sl_fr_w p1 (Or.inr ⟨rfl, Or.inr (Or.inl rfl)⟩)
        obtain ⟨v, m2, e2, b1, b2, b3⟩ := x_rd17 n (i + 1) fu ((sl_ln t L a).2.1 + 1) (d + (sl_ln t L a).2.2.1.length) _ (by omega) (by omega) (sl_XS_fr f1 hS) (sm_mi1 _ _ _ _) hl (by rw [sm_mi0 (by omega)]; exact a1) (by rw [sm_mi0 (by omega)]; exact a2) (by omega)
        refine ⟨v, m2, e2, sl_fr_tr f1 b1, fun z => ?_, b3⟩
        obtain ⟨c1, c2, c3, c4⟩ := b2 z
        refine ⟨c1, ?_, ?_, fun j hj => ?_⟩
        · show m2.1 4 1 = sm_n (d + ((sl_ln t L a).2.2.1 ++ (sl_rd t L n ((sl_ln t L a).2.1 + 1)).2.2.1).length)
          rw [c2, List.length_append]; congr 1; omega
        · show sl_at 5 m2 d ((sl_ln t L a).2.2.1 ++ (sl_rd t L n ((sl_ln t L a).2.1 + 1)).2.2.1)
          rw [sl_at_app]
          exact ⟨sl_at_cg _ _ (fun j j1 j2 => by rw [c4 j (by omega), sm_mi0 (by omega)]) a3, c3⟩
        · rw [c4 j (by omega), sm_mi0 (by omega)]; exact a4 j hj
      · rw [if_neg h2]
        by_cases h3 : (sl_ln t L a).2.1 < L
        · rw [if_pos h3, if_pos (show sm_n (sl_ln t L a).2.1 < sm_n L by rw [sm_nlt (by omega) (by omega)]; exact h3), x_next hS1 p2 (by omega), sm_bi, if_neg (fun y => h2 (i59.mp y)), p2]
          exact ⟨_, _, rfl, p1, fun z => absurd z Bool.false_ne_true, fun _ => rfl⟩
        · rw [if_neg h3, if_neg (show ¬ sm_n (sl_ln t L a).2.1 < sm_n L by rw [sm_nlt (by omega) (by omega)]; exact h3)]
          exact ⟨_, _, rfl, p1, fun _ => ⟨rfl, a2, a3, a4⟩, fun z => absurd (h1.symm.trans z).symm Bool.false_ne_true⟩
    · have h1' : (sl_ln t L a).1 = false := by simpa using h1
      obtain ⟨a1, _⟩ := p4 h1'
      have a1 : m1.1 4 5 = sm_n (sl_ln t L a).2.1 := a1
      rw [if_neg h1, a1, if_pos (sl_fneg (by omega))]
      exact ⟨_, _, rfl, p1, fun z => absurd z Bool.false_ne_true, fun _ => rfl⟩
end XL
/-! the reference walks lines -/
def sl_g (o : Option Int32) : Int32 := match o with
  | some _ => 1
  | none => 0
section ML
variable {t : Nat → Nat} {L : Nat} {m m0 : gk_M}
theorem m_33 : ∀ n fu a acc m, n + 1 < fu → 121 ≤ a + n → sl_MS t L m → m.1 0 20 = sm_n a → a ≤ L → m.1 0 22 = -1 → m.1 0 23 = sm_n 0 → ∃ v m', f_M_workOut_33 fu (sl_g acc) (sl_v acc) 1 m = some (v, m') ∧ sl_mfr m m' ∧ ((sl_rd t L n a).1 = true → v = sl_v (sl_or acc ((sl_rd t L n a).2.2.2 (sl_cut (m.1 13)))) ∧ m'.1 0 22 = -1) ∧ ((sl_rd t L n a).1 = false → m'.1 0 22 = sm_n (sl_rd t L n a).2.1)
  | 0, fu, a, acc, m, hn, hn2, hS, h4, ha, hf, h23 => by
    have hL := hS.2.2.1
    omega
  | n + 1, fu + 1, a, acc, m, hn, hn2, hS, h4, ha, hf, h23 => by
    have hL := hS.2.2.1
    obtain ⟨v1, m1, e1, p1, p2, p3, p4⟩ := m_E0 a m hS h4 ha hf h23
    have hS1 := sl_MS_fr p1 hS
    obtain ⟨g1, g2, g3⟩ := sl_G_E0 (t := t) (L := L) a
    have g2 := g2 ha
    -- the last look: no line more
    have last : ∀ (fu : Nat) (q : sl_Q) (acc' : Option Int32) (m2 : gk_M), 0 < fu → sl_mfr m m2 → (q.1 = true → m2.1 0 22 = -1 ∧ m2.1 0 20 = sm_n q.2.1 ∧ L ≤ q.2.1 ∧ q.2.1 ≤ 120 ∧ acc' = sl_or acc (q.2.2.2 (sl_cut (m.1 13)))) → (q.1 = false → (m2.1 0 22 = sm_n q.2.1 ∧ q.2.1 ≤ 120) ∨ (m2.1 0 22 = -1 ∧ m2.1 0 20 = sm_n q.2.1 ∧ q.2.1 < L)) → ∃ v m', f_M_workOut_33 fu (sl_g acc') (sl_v acc') 0 m2 = some (v, m') ∧ sl_mfr m m' ∧ (q.1 = true → v = sl_v (sl_or acc (q.2.2.2 (sl_cut (m.1 13)))) ∧ m'.1 0 22 = -1) ∧ (q.1 = false → m'.1 0 22 = sm_n q.2.1) := by
      intro fu q acc' m2 hfu f2 hok hno
      have hS2 := sl_MS_fr f2 hS
      cases fu with
      | zero => omega
      | succ fu =>
        unfold f_M_workOut_33
        rw [if_pos rfl]
        cases hq : q.1 with
        | true =>
          obtain ⟨b1, b2, b3, b4, b5⟩ := hok hq
          rw [b1, if_neg (show ¬ (0 : Int32) ≤ -1 by decide), hS2.2.1, b2, if_pos (show sm_n L ≤ sm_n q.2.1 by rw [sm_nle (by omega) (by omega)]; exact b3)]
          exact ⟨_, _, rfl, f2, fun _ => ⟨by rw [b5], b1⟩, fun z => absurd z.symm Bool.false_ne_true⟩
        | false =>
          rcases hno hq with ⟨b1, b2⟩ | ⟨b1, b2, b3⟩
          · rw [b1, if_pos (sl_fneg b2)]
            exact ⟨_, _, rfl, f2, fun z => absurd z Bool.false_ne_true, fun _ => b1⟩
          · rw [b1, if_neg (show ¬ (0 : Int32) ≤ -1 by decide), hS2.2.1, b2, if_neg (show ¬ sm_n L ≤ sm_n q.2.1 by rw [sm_nle (by omega) (by omega)]; omega), m_wrong b1 b2, sm_bi]
            exact ⟨_, _, rfl, sl_mfr_w f2 (Or.inr (Or.inl rfl)), fun z => absurd z Bool.false_ne_true, fun _ => sm_mi1 _ _ _ _⟩
    -- behind a line
    have tail : ∀ (m2 : gk_M), sl_mfr m m2 → m2.1 0 20 = sm_n (sl_ln t L a).2.1 → (sl_ln t L a).2.1 ≤ 120 → ((sl_ln t L a).1 = true → m2.1 0 22 = -1 ∧ m2.1 0 23 = sm_n 0) → ((sl_ln t L a).1 = false → m2.1 0 22 = sm_n (sl_ln t L a).2.1) → ∀ acc', ((sl_ln t L a).1 = true → acc' = sl_or acc ((sl_ln t L a).2.2.2 (sl_cut (m.1 13)))) → ∃ v m', f_M_workOut_96 (f_M_workOut_33 fu) (sl_g acc') (sl_v acc') m2 = some (v, m') ∧ sl_mfr m m' ∧ ((sl_rd t L (n + 1) a).1 = true → v = sl_v (sl_or acc ((sl_rd t L (n + 1) a).2.2.2 (sl_cut (m.1 13)))) ∧ m'.1 0 22 = -1) ∧ ((sl_rd t L (n + 1) a).1 = false → m'.1 0 22 = sm_n (sl_rd t L (n + 1) a).2.1) := by
      intro m2 f2 t1 t2 t3 t4 acc' hacc
      have hS2 := sl_MS_fr f2 hS
      obtain ⟨l1, l2, l3⟩ := sl_GQ_ln (t := t) (L := L) a
      have l2 := l2 ha
      unfold f_M_workOut_96
      have erd : sl_rd t L (n + 1) a = if (sl_ln t L a).1 = true then (if sl_b t L (sl_ln t L a).2.1 = 59 then sl_qc (sl_ln t L a) (sl_rd t L n ((sl_ln t L a).2.1 + 1)) else if (sl_ln t L a).2.1 < L then sl_qf (sl_ln t L a).2.1 else sl_ln t L a) else sl_qf (sl_ln t L a).2.1 := rfl
      rw [erd]
      by_cases h1 : (sl_ln t L a).1 = true
      · obtain ⟨u1, u2⟩ := t3 h1
        obtain ⟨l4, l5, l6, l7⟩ := l3 h1
        have hacc := hacc h1
        rw [if_pos h1, show f_M_takes 59 m2 = _ from m_takes (s := 59) hS2 t1 t2 u1 (by decide)]
        by_cases h2 : sl_b t L (sl_ln t L a).2.1 = 59
        · have hl := sl_bl (t := t) (L := L) (a := (sl_ln t L a).2.1) (by omega)
          have f3 : sl_mfr m (gk_mi m2 0 20 (sm_n ((sl_ln t L a).2.1 + 1))) := sl_mfr_w f2 (Or.inl rfl)
          rw [if_pos h2, if_pos h2, sm_bi]
          obtain ⟨v, m3, e3, c1, c2, c3⟩ := m_33 n fu ((sl_ln t L a).2.1 + 1) acc' _ (by omega) (by omega) (sl_MS_fr f3 hS) (sm_mi1 _ _ _ _) hl (by rw [sm_mi0 (by omega)]; exact u1) (by rw [sm_mi0 (by omega)]; exact u2)
          refine ⟨v, m3, e3, sl_mfr_tr f3 c1, fun z => ?_, c3⟩
          obtain ⟨d1, d2⟩ := c2 z
          refine ⟨?_, d2⟩
          rw [d1, sl_m13 f3, hacc]
          show sl_v (sl_or (sl_or acc ((sl_ln t L a).2.2.2 (sl_cut (m.1 13)))) _) = sl_v (sl_or acc (sl_or ((sl_ln t L a).2.2.2 (sl_cut (m.1 13))) _))
          cases acc <;> rfl
        · rw [if_neg h2, if_neg h2, sm_bi]
          by_cases h3 : (sl_ln t L a).2.1 < L
          · rw [if_pos h3]
            exact last fu (sl_qf (sl_ln t L a).2.1) acc' m2 (by omega) f2 (fun z => absurd z Bool.false_ne_true) (fun _ => Or.inr ⟨u1, t1, h3⟩)
          · rw [if_neg h3]
            exact last fu (sl_ln t L a) acc' m2 (by omega) f2 (fun _ => ⟨u1, t1, by omega, t2, hacc⟩) (fun z => absurd (h1.symm.trans z).symm Bool.false_ne_true)
      · have h1' : (sl_ln t L a).1 = false := by simpa using h1
        have u1 := t4 h1'
        rw [if_neg h1, m_takesf u1 t2, sm_bi]
        exact last fu (sl_qf (sl_ln t L a).2.1) acc' m2 (by omega) f2 (fun z => absurd z Bool.false_ne_true) (fun _ => Or.inl ⟨u1, t2⟩)
    have eln : sl_ln t L a = if (sl_E0 t L a).1 = true then (if sl_b t L (sl_E0 t L a).2.1 = 63 then (if (sl_E0 t L ((sl_E0 t L a).2.1 + 1)).1 = true then sl_l2 (sl_E0 t L a) (sl_E0 t L ((sl_E0 t L a).2.1 + 1)) else sl_qf (sl_E0 t L ((sl_E0 t L a).2.1 + 1)).2.1) else sl_l1 (sl_E0 t L a)) else sl_qf (sl_E0 t L a).2.1 := rfl
    rw [f_M_workOut_33]
    rw [if_neg (show ¬ (1 : Int32) = 0 by decide), show f_M_either m = _ from e1, sm_bi]
    unfold f_M_workOut_66 f_M_workOut_74
    by_cases h1 : (sl_E0 t L a).1 = true
    · obtain ⟨a1, a2, a3⟩ := p3 h1
      rw [show f_M_takes 63 m1 = _ from m_takes (s := 63) hS1 p2 (by omega) a1 (by decide)]
      rw [if_pos h1] at eln
      by_cases h2 : sl_b t L (sl_E0 t L a).2.1 = 63
      · have hl := sl_bl (t := t) (L := L) (a := (sl_E0 t L a).2.1) (by omega)
        have f3 : sl_mfr m (gk_mi m1 0 20 (sm_n ((sl_E0 t L a).2.1 + 1))) := sl_mfr_w p1 (Or.inl rfl)
        obtain ⟨v2, m2, e2, b1, b2, b3, b4⟩ := m_E0 ((sl_E0 t L a).2.1 + 1) _ (sl_MS_fr f3 hS) (sm_mi1 _ _ _ _) hl (by rw [sm_mi0 (by omega)]; exact a1) (by rw [sm_mi0 (by omega)]; exact a2)
        obtain ⟨k1, k2, k3⟩ := sl_G_E0 (t := t) (L := L) ((sl_E0 t L a).2.1 + 1)
        have k2 := k2 hl
        have f4 := sl_mfr_tr f3 b1
        rw [if_pos h2] at eln
        rw [if_pos h2, sm_bi, if_neg (show ¬ (1 : Int32) = 0 by decide), show f_M_either (gk_mi m1 0 20 (sm_n ((sl_E0 t L a).2.1 + 1))) = _ from e2, sm_bi]
        by_cases h3 : (sl_E0 t L ((sl_E0 t L a).2.1 + 1)).1 = true
        · obtain ⟨c1, c2, c3⟩ := b3 h3
          rw [if_pos h3] at eln
          have ea : (sl_ln t L a).2.1 = (sl_E0 t L ((sl_E0 t L a).2.1 + 1)).2.1 := by rw [eln]; rfl
          have ev : (sl_ln t L a).2.2.2 (sl_cut (m.1 13)) = if v1 = 0 then none else some v2 := by
            rw [eln, a3, c3, sl_m13 f3]; rfl
          have T := tail m2 f4 (by rw [ea]; exact b2) (by omega) (fun _ => ⟨c1, c2⟩) (fun z => by rw [eln] at z; exact absurd z.symm Bool.false_ne_true)
          rw [c1]
          by_cases z1 : v1 = 0
          · rw [if_pos z1, if_neg (show ¬ (0 : Int32) ≤ -1 by decide), if_pos (show (0 : Int32) = 0 from rfl)]
            refine T acc (fun _ => ?_)
            rw [ev, if_pos z1]
            cases acc <;> rfl
          · rw [if_neg z1, sm_bi, c1, if_neg (show ¬ (0 : Int32) ≤ -1 by decide), if_neg (show ¬ (1 : Int32) = 0 by decide)]
            cases acc with
            | none =>
              rw [if_neg (show ¬ ¬ sl_g none = 0 from fun y => y rfl)]
              exact T (some v2) (fun _ => by rw [ev, if_neg z1]; rfl)
            | some x =>
              rw [if_pos (show ¬ sl_g (some x) = 0 from (by decide : ¬ (1 : Int32) = 0))]
              exact T (some x) (fun _ => by rw [ev, if_neg z1]; rfl)
        · have h3' : (sl_E0 t L ((sl_E0 t L a).2.1 + 1)).1 = false := by simpa using h3
          rw [if_neg h3] at eln
          have ea : (sl_ln t L a).2.1 = (sl_E0 t L ((sl_E0 t L a).2.1 + 1)).2.1 := by rw [eln]; rfl
          have c1 := b4 h3'
          have T := tail m2 f4 (by rw [ea]; exact b2) (by omega) (fun z => by rw [eln] at z; exact absurd z Bool.false_ne_true) (fun _ => by rw [ea]; exact c1) acc (fun z => by rw [eln] at z; exact absurd z Bool.false_ne_true)
          by_cases z1 : v1 = 0
          · rw [if_pos z1, c1, if_pos (sl_fneg (by omega))]
            exact T
          · rw [if_neg z1, sm_bi, c1, if_pos (sl_fneg (by omega))]
            exact T
      · rw [if_neg h2] at eln
        have ea : (sl_ln t L a).2.1 = (sl_E0 t L a).2.1 := by rw [eln]; rfl
        have ev : (sl_ln t L a).2.2.2 (sl_cut (m.1 13)) = some v1 := by rw [eln, a3]; rfl
        have T := tail m1 p1 (by rw [ea]; exact p2) (by omega) (fun _ => ⟨a1, a2⟩) (fun z => by rw [eln] at z; exact absurd z.symm Bool.false_ne_true)
        rw [if_neg h2, sm_bi, if_pos (show (0 : Int32) = 0 from rfl), a1, if_neg (show ¬ (0 : Int32) ≤ -1 by decide), if_neg (show ¬ (1 : Int32) = 0 by decide)]
        cases acc with
        | none =>
          rw [if_neg (show ¬ ¬ sl_g none = 0 from fun y => y rfl)]
          exact T (some v1) (fun _ => by rw [ev]; rfl)
        | some x =>
          rw [if_pos (show ¬ sl_g (some x) = 0 from (by decide : ¬ (1 : Int32) = 0))]
          exact T (some x) (fun _ => by rw [ev]; rfl)
    · have h1' : (sl_E0 t L a).1 = false := by simpa using h1
      rw [if_neg h1] at eln
      have ea : (sl_ln t L a).2.1 = (sl_E0 t L a).2.1 := by rw [eln]; rfl
      have a1 := p4 h1'
      have T := tail m1 p1 (by rw [ea]; exact p2) (by omega) (fun z => by rw [eln] at z; exact absurd z Bool.false_ne_true) (fun _ => by rw [ea]; exact a1) acc (fun z => by rw [eln] at z; exact absurd z Bool.false_ne_true)
      rw [m_takesf a1 (by omega), sm_bi, if_pos (show (0 : Int32) = 0 from rfl), a1, if_pos (sl_fneg (by omega))]
      exact T
/-- the whole text -/
theorem m_workOut {b : Int32} (h : (b = -1 ∧ ∀ i, i < L → m.1 11 i = sm_n (t i)) ∨ (b = 0 ∧ ∀ i, i < L → m.1 12 i = sm_n (t i))) (hL : L ≤ 120) (ht : ∀ i, i < L → t i < 256) : ∃ v m', f_M_workOut b (sm_n L) m = some (v, m') ∧ (∀ k j, ¬ (k = 0 ∧ 19 ≤ j ∧ j ≤ 23) → m'.1 k j = m.1 k j) ∧ m'.2 = m.2 ∧ ((sl_rd t L 121 0).1 = true → v = sl_v ((sl_rd t L 121 0).2.2.2 (sl_cut (m.1 13))) ∧ m'.1 0 22 = -1) ∧ ((sl_rd t L 121 0).1 = false → m'.1 0 22 = sm_n (sl_rd t L 121 0).2.1) := by
  obtain ⟨M, hM⟩ : ∃ M, M = gk_mi (gk_mi (gk_mi (gk_mi (gk_mi m 0 19 b) 0 20 0) 0 21 (sm_n L)) 0 22 (-1)) 0 23 0 := ⟨_, rfl⟩
  have fM : ∀ k j, ¬ (k = 0 ∧ 19 ≤ j ∧ j ≤ 23) → M.1 k j = m.1 k j := by
    intro k j hk
    rw [hM, sm_mi0 (by omega), sm_mi0 (by omega), sm_mi0 (by omega), sm_mi0 (by omega), sm_mi0 (by omega)]
  have hS : sl_MS t L M := by
    refine ⟨?_, ?_, hL, ht⟩
    · have e19 : M.1 0 19 = b := by rw [hM, sm_mi0 (by omega), sm_mi0 (by omega), sm_mi0 (by omega), sm_mi0 (by omega), sm_mi1]
      rcases h with ⟨h1, h2⟩ | ⟨h1, h2⟩
      · exact Or.inl ⟨e19.trans h1, fun i hi => (fM 11 i (by omega)).trans (h2 i hi)⟩
      · exact Or.inr ⟨e19.trans h1, fun i hi => (fM 12 i (by omega)).trans (h2 i hi)⟩
    · rw [hM, sm_mi0 (by omega), sm_mi0 (by omega), sm_mi1]
  obtain ⟨v, m', e, f1, f2, f3⟩ := m_33 121 gk_fv 0 none M (by rw [gk_fv_eq]; omega) (by omega) hS (by rw [hM, sm_mi0 (by omega), sm_mi0 (by omega), sm_mi0 (by omega), sm_mi1]; rfl) (by omega) (by rw [hM, sm_mi0 (by omega), sm_mi1]) (by rw [hM, sm_mi1]; rfl)
  have e13 : M.1 13 = m.1 13 := funext fun j => fM 13 j (by omega)
  refine ⟨v, m', ?_, fun k j hk => (f1.1 k j (by omega)).trans (fM k j hk), by rw [f1.2, hM]; rfl, fun z => ?_, f3⟩
  · unfold f_M_workOut
    rw [sm_let, sm_let, sm_let, sm_let, sm_let, ← hM]
    exact e
  · obtain ⟨g1, g2⟩ := f2 z
    refine ⟨?_, g2⟩
    rw [g1, e13]
    rfl
end ML
