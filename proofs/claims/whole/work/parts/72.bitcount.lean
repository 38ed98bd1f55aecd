/-! SIM: how many bits a set has -/
def sm_bc (a0 : Int32) : Int32 :=
  let v1 := (a0 - ((gk_ush a0 1) &&& 1431655765))
  let v2 := ((v1 &&& 858993459) + ((gk_ush v1 2) &&& 858993459))
  let v3 := ((v2 + (gk_ush v2 4)) &&& 252645135)
  let v4 := (v3 + (gk_ush v3 8))
  let v5 := (v4 + (gk_ush v4 16))
  (v5 &&& 63)
theorem sm_bc_eq : ∀ g : Fin 1024, sm_bc (sm_n g.1) = sm_n (sm_sum 10 0 (sm_pr (fun _ => 0) 0 g.1)) := by decide +kernel
theorem sm_sum_app (f : Nat → Nat) (b : Nat) : ∀ a i, sm_sum (a + b) i f = sm_sum a i f + sm_sum b (i + a) f
  | 0, i => by
    rw [Nat.zero_add, Nat.add_zero]
    exact (Nat.zero_add _).symm
  | a + 1, i => by
    rw [show a + 1 + b = (a + b) + 1 by omega]
    show f i + sm_sum (a + b) (i + 1) f = f i + sm_sum a (i + 1) f + sm_sum b (i + (a + 1)) f
    rw [sm_sum_app f b a (i + 1), show i + 1 + a = i + (a + 1) by omega, Nat.add_assoc]
theorem x_bitCount {g n : Nat} (hn : n ≤ 10) (hg : g < 2 ^ n) (p : Nat → Nat) (m : gk_M) : f_Integer_bitCount (sm_n g) m = some (sm_n (sm_sum n 0 (sm_pr p 0 g)), m) := by
  have h1024 : g < 1024 := Nat.lt_of_lt_of_le hg (Nat.pow_le_pow_right (n := 2) (i := n) (j := 10) (by decide) hn)
  have e0 : sm_pr p 0 g = sm_pr (fun _ => 0) 0 g := by
    funext t
    unfold sm_pr
    rw [if_pos rfl, if_pos rfl]
  have e1 : sm_sum 10 0 (sm_pr (fun _ => 0) 0 g) = sm_sum n 0 (sm_pr (fun _ => 0) 0 g) := by
    have e2 := sm_sum_app (sm_pr (fun _ => 0) 0 g) (10 - n) n 0
    rw [show n + (10 - n) = 10 by omega] at e2
    have e5 : sm_sum (10 - n) (0 + n) (sm_pr (fun _ => 0) 0 g) = 0 := by
      refine (sm_sum_cg (g := fun _ => 0) ?_).trans (sm_sum_zero _ _)
      intro j hj _
      unfold sm_pr
      rw [Nat.testBit_lt_two_pow (Nat.lt_of_lt_of_le hg (Nat.pow_le_pow_right (by decide) (by omega)))]
      rfl
    rw [e2, e5, Nat.add_zero]
  have e3 := sm_bc_eq ⟨g, h1024⟩
  have e4 : f_Integer_bitCount (sm_n g) m = some (sm_bc (sm_n g), m) := rfl
  rw [e4, e0, ← e1]
  exact congrArg (fun v => some (v, m)) e3
theorem sm_n_sur (x : Int32) : ∃ a, x = sm_n a := ⟨x.toBitVec.toNat, Int32.toBitVec_inj.mp (by rw [sm_tbv, BitVec.ofNat_toNat, BitVec.setWidth_eq])⟩
theorem m_findAgainst {n : Nat} {T : Nat → sm_tw} {R : sm_rd} {S : sm_fs} {F : sm_lf} {m : gk_M} (hM : sm_M n T R S F m) : ∃ m' A, f_M_findAgainst m = some ((), m') ∧ sm_pm n T R S F m m' ∧ sm_rw 14 A m' ∧ ∀ t, t < n → A t = sm_qs (sm_ga' T R S F t) n 0 0 := by
  have hn := hM.2.1
  have hP : sm_rw 14 (fun j => (sm_n_sur (m.1 14 j)).choose) m := fun j _ => (sm_n_sur (m.1 14 j)).choose_spec
  obtain ⟨m1, q1, P1, e1⟩ := m_fa2 (m0 := m) n 0 gk_fv _ m (by omega) (by rw [gk_fv_eq]; omega) ⟨hM, fun _ _ _ _ _ => rfl, fun _ _ _ => rfl⟩ hP
  exact ⟨m1, _, e1, q1, P1, fun t ht => if_pos ⟨Nat.zero_le t, ht⟩⟩
