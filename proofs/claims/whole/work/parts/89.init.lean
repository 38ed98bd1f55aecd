/-! SIM: the beginning -/
theorem gj_F : sm_xF sm_dF gs_mx := by
  intro m1 e1 e2
  have h1 : m1.1 1 2 = 0 := by rw [e1]; rfl
  have ev : f_Law_verdict m1 = if (m1.1 19 0 + 3) < m1.1 19 1 then some (0, m1) else some (1, m1) := by
    unfold f_Law_verdict
    rw [h1, if_neg (show ¬ ¬ (0 : Int32) = 0 from fun z => z rfl), show gk_ai m1 19 6 1 = gk_ai m1 19 6 (sm_n 1) from rfl, sm_ai (by omega) (by omega), show gk_ai m1 19 6 0 = gk_ai m1 19 6 (sm_n 0) from rfl, sm_ai (by omega) (by omega)]
  by_cases z : (m1.1 19 0 + 3) < m1.1 19 1
  · refine ⟨0, m1, by rw [ev, if_pos z], ⟨fun _ => ?_, fun _ => rfl⟩, fun _ _ => rfl, rfl⟩
    show decide (¬ (m1.1 19 0 + 3) < m1.1 19 1) = false
    exact decide_eq_false (fun y => y z)
  · refine ⟨1, m1, by rw [ev, if_neg z], ⟨fun y => absurd y (by decide), fun y => ?_⟩, fun _ _ => rfl, rfl⟩
    have y : decide (¬ (m1.1 19 0 + 3) < m1.1 19 1) = false := y
    rw [decide_eq_true (show ¬ (m1.1 19 0 + 3) < m1.1 19 1 from z)] at y
    exact absurd y (by decide)
theorem gj_rl : rl_ gs_mx gs_mm := by
  refine ⟨0, fun t => (0, 0, 0, min t 10), fun _ => (0, 0, 0, 0), (0, fun _ => 0, fun _ _ => 0), (0, fun _ => 0, fun _ => 0), sm_dF, 0, ⟨rfl, by omega, ?_, ⟨rfl, by decide, fun r hr => absurd hr (Nat.not_lt_zero r)⟩, ⟨rfl, by decide, fun r hr => absurd hr (Nat.not_lt_zero r)⟩, gj_F, ?_⟩, ⟨rfl, by omega, ?_, ⟨rfl, by decide, fun r hr => absurd hr (Nat.not_lt_zero r)⟩, ⟨rfl, by decide, fun r hr => absurd hr (Nat.not_lt_zero r)⟩, Or.inl ⟨rfl, rfl⟩⟩, ⟨fun t ht => absurd ht (Nat.not_lt_zero t), fun s t _ ht => absurd ht (Nat.not_lt_zero t)⟩, fun t ht => absurd ht (Nat.not_lt_zero t), ⟨0, by omega, rfl, rfl, fun i hi => absurd hi (Nat.not_lt_zero i)⟩, ⟨0, by omega, rfl, rfl, fun i hi => absurd hi (Nat.not_lt_zero i)⟩, ⟨0, 0, by omega, by omega, rfl, rfl, rfl, rfl, fun i hi => absurd hi (Nat.not_lt_zero i)⟩, ⟨by omega, rfl, rfl, fun i hi => absurd hi (Nat.not_lt_zero i)⟩, ⟨0, by omega, rfl, rfl, fun i hi => absurd hi (Nat.not_lt_zero i)⟩, ?_⟩
  · intro t ht
    exact ⟨show (0 : Nat) < 900 by omega, show gs_x 8 t = sm_n (0 % 30) from rfl, show gs_x 9 t = sm_n (0 / 30) from rfl, rfl, rfl, rfl⟩
  · intro k s t _ _ _
    exact Or.inl rfl
  · intro t ht
    refine ⟨show (0 : Nat) < 900 by omega, rfl, ?_, ?_, rfl, show (0 : Nat) ≤ 10 by omega⟩
    · rw [if_neg (Nat.not_lt_zero t)]; rfl
    · rw [if_neg (Nat.not_lt_zero t)]
  · intro d hd
    refine Or.inl ?_
    rcases (show d = 0 ∨ d = 1 ∨ d = 2 ∨ d = 3 ∨ d = 4 ∨ d = 5 by omega) with rfl | rfl | rfl | rfl | rfl | rfl <;> exact ⟨rfl, rfl, rfl⟩
/-- the two answer alike on every script -/
theorem sim_all (xs : Nat → Int32) (L : Nat) (hL : L ≤ 3072) : ∃ n, f_L xs L n 0 gs_mx gs_mm = some () :=
  ⟨L + 1, sim_n hL L 0 gs_mx gs_mm gj_rl (by omega) (by omega)⟩
