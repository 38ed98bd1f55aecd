/-! SIM: the best bend, the class -/
theorem rl_q2 {mx mm mx' mm' : gk_M} {n nb : Nat} {TX TM : Nat → sm_tw} {R : sm_rd} {S : sm_fs} {F : sm_lf} (hx : sm_X n TX R S F mx') (f4 : ∀ j, mx'.1 4 j = mx.1 4 j) (f6 : ∀ j, mx'.1 6 j = mx.1 6 j) (f11 : ∀ j, j < n → mx'.1 11 j = mx.1 11 j) (fh : ∀ k j, 28 ≤ k → k ≠ 31 → mx'.1 k j = mx.1 k j) (lx : mx'.2 = mx.2) (hm : sm_M n TM R S F mm') (g0 : ∀ j, j ∈ [4, 5, 16, 36, 39, 42] → mm'.1 0 j = mm.1 0 j) (g1 : ∀ k j, 1 ≤ k → k ≤ 4 → mm'.1 k j = mm.1 k j) (g11 : ∀ j, mm'.1 11 j = mm.1 11 j) (gh : ∀ k j, 19 ≤ k → mm'.1 k j = mm.1 k j) (lm : ∀ j, mm'.2 25 j = mm.2 25 j) (hT : rl_T n TX TM) (hP : rl_pr n mx mm) (hK : rl_tape mx mm) (hS : rl_sight mx mm) (hH : rl_hist n mx mm) (hB : rl_body nb mx mm) (hR : rl_tr mx mm) (hD : rl_sh nb mx mm) : rl_ mx' mm' := by
  refine ⟨n, TX, TM, R, S, F, nb, hx, hm, hT, ?_, rl_tape_fr ?_ ?_ hK, rl_sight_fr ?_ ?_ hS, rl_hist_fr ?_ ?_ (Nat.le_refl n) hH, rl_body_fr ?_ ?_ hB, rl_tr_fr ?_ ?_ hR, rl_sh_fr (Nat.le_refl nb) ?_ ?_ (by intros; rw [lx]) lm hD⟩
  · intro t ht
    obtain ⟨p, p1, p2, p3⟩ := hP t ht
    exact ⟨p, p1, by rw [f11 t ht]; exact p2, by rw [g1 1 _ (by decide) (by decide)]; exact p3⟩
  · intro k j h
    rcases h with ⟨rfl, _⟩ | rfl
    · exact f4 j
    · exact f6 j
  · intro k j h
    rcases h with ⟨rfl, rfl⟩ | rfl
    · exact g0 16 (by decide)
    · exact g11 j
  · intro k j h
    rcases h with ⟨rfl, _⟩ | rfl | rfl <;> exact fh _ j (by decide) (by decide)
  · intro k j h
    rcases h with ⟨rfl, rfl⟩ | rfl | rfl
    · exact g0 36 (by decide)
    · exact gh _ j (by decide)
    · exact gh _ j (by decide)
  · intro k j h
    rcases h with rfl | rfl | rfl | rfl | rfl <;> exact fh _ j (by decide) (by decide)
  · intro k j h
    rcases h with ⟨rfl, rfl | rfl⟩ | rfl | rfl | rfl
    · exact g0 4 (by decide)
    · exact g0 5 (by decide)
    · exact g1 _ j (by decide) (by decide)
    · exact g1 _ j (by decide) (by decide)
    · exact g1 _ j (by decide) (by decide)
  · intro k j h
    rcases h with ⟨rfl, _⟩ | rfl <;> exact fh _ j (by decide) (by decide)
  · intro k j h
    rcases h with ⟨rfl, rfl⟩ | rfl
    · exact g0 39 (by decide)
    · exact gh _ j (by decide)
  · intro k j h
    rcases h with ⟨rfl, _⟩ | rfl <;> exact fh _ j (by decide) (by decide)
  · intro k j h
    rcases h with ⟨rfl, rfl⟩ | rfl
    · exact g0 42 (by decide)
    · exact gh _ j (by decide)
  · intro k j h
    exact fh k j (by omega) (by omega)
  · intro k j h
    rcases h with rfl | rfl <;> exact gh _ j (by decide)
