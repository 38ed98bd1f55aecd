theorem gs_all {t : gk_T} {u : gk_U} {A : Nat → Prop} {m0 : gk_M} (h : va_D A (gk_pz t u m0)) : ∀ mem, va_D A (gk_pz t u mem) := by
  have key : ∀ (mem : gk_M) (k : Nat) (q : Nat × va_E), (gk_pz t u mem)[k]? = some q → ∃ q0 : Nat × va_E, (gk_pz t u m0)[k]? = some q0 ∧ q0.1 = q.1 := by
    intro mem k q hq
    have hk : k < t.1.length := by
      have := (List.getElem?_eq_some_iff.mp hq).1
      simpa [gk_pz, gk_pw] using this
    obtain ⟨c, hc⟩ : ∃ c, t.1[k]? = some c := ⟨_, List.getElem?_eq_getElem hk⟩
    have h2 := gk_pw_at (ad := u.2.1) (dA := u.2.2) (mem := mem) hc
    rw [show (gk_pz t u mem)[k]? = _ from h2] at hq
    cases hq
    exact ⟨_, gk_pw_at hc, rfl⟩
  intro mem
  refine ⟨fun i j p q hi hj e => ?_, fun k q hq => ?_⟩
  · obtain ⟨p0, a1, a2⟩ := key mem i p hi
    obtain ⟨q0, b1, b2⟩ := key mem j q hj
    exact h.1 i j p0 q0 a1 b1 (by rw [a2, b2, e])
  · obtain ⟨q0, a1, a2⟩ := key mem k q hq
    rw [← a2]
    exact h.2 k q0 a1
theorem gs_left {A : Nat → Prop} {w1 w2 : va_W} (h : va_D A (w1 ++ w2)) : va_D A w1 := ⟨fun i j p q hi hj e => h.1 i j p q (by rw [List.getElem?_append_left (List.getElem?_eq_some_iff.mp hi).1]; exact hi) (by rw [List.getElem?_append_left (List.getElem?_eq_some_iff.mp hj).1]; exact hj) e, fun k q hq => h.2 k q (by rw [List.getElem?_append_left (List.getElem?_eq_some_iff.mp hq).1]; exact hq)⟩
theorem gs_rt {α : Type} {w1 w2 : List α} {k : Nat} {q : α} (h : w2[k]? = some q) : (w1 ++ w2)[w1.length + k]? = some q := by
  rw [List.getElem?_append_right (by omega)]
  simpa using h
theorem gs_right {A : Nat → Prop} {w1 w2 : va_W} (h : va_D A (w1 ++ w2)) : va_D A w2 := ⟨fun i j p q hi hj e => by
    have := h.1 _ _ p q (gs_rt hi) (gs_rt hj) e
    omega, fun k q hq => h.2 _ q (gs_rt hq)⟩
theorem gs_pl {D : va_G} {w1 w2 : va_W} {H : Heap} (h : va_P D gk_cl (w1 ++ w2) H) : va_P D gk_cl w1 H := fun k q hq => h k q (by rw [List.getElem?_append_left (List.getElem?_eq_some_iff.mp hq).1]; exact hq)
theorem gs_pr {D : va_G} {w1 w2 : va_W} {H : Heap} (h : va_P D gk_cl (w1 ++ w2) H) : va_P D gk_cl w2 H := fun k q hq => h _ q (gs_rt hq)
theorem gs_dis {A : Nat → Prop} {t1 t2 : gk_T} {u1 u2 : gk_U} {m1 m2 : gk_M} (h : va_D A (gk_pz t1 u1 m1 ++ gk_pz t2 u2 m2)) : ∀ k j, k < t1.1.length → j < t2.1.length → u1.2.1 k ≠ u2.2.1 j := by
  intro k j hk hj e
  obtain ⟨c, hc⟩ : ∃ c, t1.1[k]? = some c := ⟨_, List.getElem?_eq_getElem hk⟩
  obtain ⟨c', hc'⟩ : ∃ c, t2.1[j]? = some c := ⟨_, List.getElem?_eq_getElem hj⟩
  have h1 : (gk_pz t1 u1 m1)[k]? = some (u1.2.1 k, gk_ce u1.2.1 u1.2.2 m1 k c) := gk_pw_at hc
  have h2 : (gk_pz t2 u2 m2)[j]? = some (u2.2.1 j, gk_ce u2.2.1 u2.2.2 m2 j c') := gk_pw_at hc'
  have hl : k < (gk_pz t1 u1 m1).length := (List.getElem?_eq_some_iff.mp h1).1
  have := h.1 k _ _ _ (by rw [List.getElem?_append_left hl]; exact h1) (gs_rt h2) e
  omega
/-! THE CLAIM OUT OF ONE WALK OF THE LAW'S BODY. Your part is whole_start (and what it stands on); all else here is the same for every law, but numbers. -/
def R_law : String := "NeverInLineLaw"
def lw_P (b : Addr) (xs : List Int32) (args : Array Value) (s : State) : Prop := args = #[.ref b] ∧ s.IntsAt b xs ∧ xs.length ≤ 3072 ∧ (Jvm.Cond.and given_1 narrow_1).before args s = true
def lw_Q (_ : Array Value) (s : State) (o : Outcome) (t : State) : Prop := o = .returned (some (.int 1)) ∧ Framed s o t [] 600000 7302250
def lw_Z (below : List Frame) (a : Array Value) (s : State) : State → Prop := fun t => ∃ o, t.status = .running ∧ Ended t below o ∧ lw_Q a s o t
/-- the law's own end, with 1 on the stack, nothing written that was there before, its room as the claim has it -/
theorem lw_ret {p : Program} {l : Launch} {e : Env} {s : State} {m : MethodId} {below : List Frame} {meth : Method} {c : Code} {b : Nat} (hx : p.tables.exec = Jvm.exec) (hb : c.code = code) (hr : meth.sig.returnType = ret) (hlocks : meth.locks = false) {pc : Nat} {H : Heap} {ls : Array Slot} (hdg : decode code pc = .ok (.ireturn, 1)) : W p l e room_1 s m #[Value.ref b] below meth c H [] 600000 7302250 (lw_Z below #[Value.ref b] s) (F0 m pc ls [.int 1]) := by
  intro T hT X
  obtain ⟨fs, hret, hrun, hended, hW, hframe⟩ := X.leave (v := some (.int 1)) (hlocks := hlocks) (fun h => by rw [hr] at h; cases h)
  have hmeth' : T.vm.method? m = some meth := X.method'
  refine ⟨T.setFrames fs, ?_, .returned (some (.int 1)), hrun, hended, rfl, ⟨_, rfl⟩, hW, hframe⟩
  jvm_step X.here [X.here.top, hx, hb, hdg, hmeth', hr, ret, narrow_b1]
  (try refine ⟨rfl, ?_⟩); (try refine ⟨rfl, ?_⟩)
  first | (intro acts; rw [hret _ acts rfl rfl rfl]) | rw [hret _ _ rfl rfl rfl]
  exact Steps.refl _
/-- what holds at the law's entry: the machine, the code, the tables' words (any of lw_tbl by 'hts w (by decide +kernel)'), the script of L ints xs at the cell b, what the Statement gives of the start (any of its parts by flat_of_before) -/
def lw_At (p : Program) (s : State) (m : MethodId) (meth : Method) (c : Code) (b L : Nat) (xs : Nat → Int32) : Prop :=
  p.tables.exec = Jvm.exec ∧ c.code = code ∧ meth.sig.returnType = ret ∧ c.maxLocals = 4 ∧ s.vm.findClass R_law = some m.cls ∧ (∀ w ∈ lw_tbl, w.before #[Value.ref b] s = true) ∧ va_X b L xs s s.heap ∧ b < s.heap.size ∧ meth.locks = false ∧ (Jvm.Cond.and given_1 narrow_1).before #[Value.ref b] s = true

theorem gs_W : ∀ w ∈ gk_W, w ∈ lw_tbl := fun w hw => (List.mem_filter.mp hw).1
theorem d_law_0 : decode lh_y.2.1 0 = .ok (.new 7, 3) := by decide +kernel
theorem d_law_3 : decode lh_y.2.1 3 = .ok (.dup, 1) := by decide +kernel
theorem d_law_4 : decode lh_y.2.1 4 = .ok (.invokespecial 9, 3) := by decide +kernel
theorem d_law_7 : decode lh_y.2.1 7 = .ok (.astore_n 1, 1) := by decide +kernel
theorem d_law_8 : decode lh_y.2.1 8 = .ok (.new 10, 3) := by decide +kernel
theorem d_law_11 : decode lh_y.2.1 11 = .ok (.dup, 1) := by decide +kernel
theorem d_law_12 : decode lh_y.2.1 12 = .ok (.invokespecial 12, 3) := by decide +kernel
theorem d_law_15 : decode lh_y.2.1 15 = .ok (.astore_n 2, 1) := by decide +kernel
theorem d_law_16 : decode lh_y.2.1 16 = .ok (.iconst 0, 1) := by decide +kernel
theorem d_law_17 : decode lh_y.2.1 17 = .ok (.istore_n 3, 1) := by decide +kernel
theorem gs_end {p : Program} {l : Launch} {e : Env} {s : State} {m : MethodId} {below : List Frame} {meth : Method} {c : Code} {b L : Nat} {xs : Nat → Int32} {u1 u2 : gk_U} (C0 : lw_At p s m meth c b L xs) : ∀ i mx mm, lh_G (l, u1, p, e, room_1, s, m, #[Value.ref b], below, meth, c, 80, 9083, fun q : Nat => s.heap.size ≤ q) u1 u2 b (lw_Z below #[Value.ref b] s) mx mm i [] 1404 := by
  intro i mx mm H locs ls h1 h2 hS hl
  obtain ⟨hx, hb, hr, hml, hown, hts, hX, hbl, hlocks, hgv⟩ := id C0
  refine lv_iconst (v := 1) hx hb d_law_1404 (by decide) ?_
  refine va_forget (fun q hq => hS.2.2 q hq) ?_
  refine W.widen (k := 600000) (n := 7302250) (Nat.le_of_ble_eq_true rfl) (Nat.le_of_ble_eq_true rfl) ?_
  exact lw_ret hx hb hr hlocks d_law_1405
theorem gs_tab0 {s : State} {b : Nat} (hgv : (Jvm.Cond.and given_1 narrow_1).before #[Value.ref b] s = true) (hts : ∀ w ∈ lw_tbl, w.before #[Value.ref b] s = true) : ∃ t : Nat, va_Z "NeverInLine$Ways" "ABOVE" "[I" (.ref t) (fun q : Nat => s.heap.size ≤ q) s s.heap ∧ va_T .int t 8 (fun j => .int (tb_0.getD j 0)) (fun q : Nat => s.heap.size ≤ q) s s.heap := by
  have hs := flat_of_before _ hgv
  have hA : ∀ a : Nat, a < s.heap.size → ¬ (fun q : Nat => s.heap.size ≤ q) a := fun a h => Nat.not_le.mpr h
  have h1 : (Cond.arrayOf (.static "NeverInLine$Ways" "ABOVE" "[I") .int).before #[Value.ref b] s = true := hs _ (by decide +kernel)
  have h2 := va_eqt (hs (Cond.eq (.length (.static "NeverInLine$Ways" "ABOVE" "[I")) (.int 8)) (by decide +kernel))
  have h3 : ∀ j : Nat, j < 8 → (Term.elem (.static "NeverInLine$Ways" "ABOVE" "[I") (.int (Int32.ofNat j))).eval #[Value.ref b] s none [] s = some (.int (tb_0.getD j 0)) := by
    intro j hj
    match j, hj with
    | 0, _ => exact va_eqt (hs (Cond.eq (.elem (.static "NeverInLine$Ways" "ABOVE" "[I") (.int (Int32.ofNat 0))) (.int (-1))) (by decide +kernel))
    | 1, _ => exact va_eqt (hs (Cond.eq (.elem (.static "NeverInLine$Ways" "ABOVE" "[I") (.int (Int32.ofNat 1))) (.int 0)) (by decide +kernel))
    | 2, _ => exact va_eqt (hs (Cond.eq (.elem (.static "NeverInLine$Ways" "ABOVE" "[I") (.int (Int32.ofNat 2))) (.int 0)) (by decide +kernel))
    | 3, _ => exact va_eqt (hs (Cond.eq (.elem (.static "NeverInLine$Ways" "ABOVE" "[I") (.int (Int32.ofNat 3))) (.int 2)) (by decide +kernel))
    | 4, _ => exact va_eqt (hs (Cond.eq (.elem (.static "NeverInLine$Ways" "ABOVE" "[I") (.int (Int32.ofNat 4))) (.int 1)) (by decide +kernel))
    | 5, _ => exact va_eqt (hs (Cond.eq (.elem (.static "NeverInLine$Ways" "ABOVE" "[I") (.int (Int32.ofNat 5))) (.int 3)) (by decide +kernel))
    | 6, _ => exact va_eqt (hs (Cond.eq (.elem (.static "NeverInLine$Ways" "ABOVE" "[I") (.int (Int32.ofNat 6))) (.int 0)) (by decide +kernel))
    | 7, _ => exact va_eqt (hs (Cond.eq (.elem (.static "NeverInLine$Ways" "ABOVE" "[I") (.int (Int32.ofNat 7))) (.int 4)) (by decide +kernel))
    | (j + 8), hj => exact absurd hj (by omega)
  obtain ⟨t, e, hT⟩ := va_Tof (N := 8) (f := fun j => .int (tb_0.getD j 0)) (by decide) h1 h2 h3 hA
  exact ⟨t, va_Zref (hts _ (List.mem_append_right _ (List.mem_append_right _ (List.mem_append_right _ (List.mem_append_right _ (List.mem_append_left _ (List.mem_of_getElem? (i := 119) rfl))))))) (hts _ (List.mem_append_right _ (List.mem_append_left _ (List.mem_of_getElem? (i := 9) rfl)))) e hA, hT⟩
theorem gs_tab1 {s : State} {b : Nat} (hgv : (Jvm.Cond.and given_1 narrow_1).before #[Value.ref b] s = true) (hts : ∀ w ∈ lw_tbl, w.before #[Value.ref b] s = true) : ∃ t : Nat, va_Z "NeverInLine$Ways" "OWN" "[I" (.ref t) (fun q : Nat => s.heap.size ≤ q) s s.heap ∧ va_T .int t 32 (fun j => .int (tb_1.getD j 0)) (fun q : Nat => s.heap.size ≤ q) s s.heap := by
  have hs := flat_of_before _ hgv
  have hA : ∀ a : Nat, a < s.heap.size → ¬ (fun q : Nat => s.heap.size ≤ q) a := fun a h => Nat.not_le.mpr h
  have h1 : (Cond.arrayOf (.static "NeverInLine$Ways" "OWN" "[I") .int).before #[Value.ref b] s = true := hs _ (by decide +kernel)
  have h2 := va_eqt (hs (Cond.eq (.length (.static "NeverInLine$Ways" "OWN" "[I")) (.int 32)) (by decide +kernel))
  have h3 : ∀ j : Nat, j < 32 → (Term.elem (.static "NeverInLine$Ways" "OWN" "[I") (.int (Int32.ofNat j))).eval #[Value.ref b] s none [] s = some (.int (tb_1.getD j 0)) := by
    intro j hj
    match j, hj with
    | 0, _ => exact va_eqt (hs (Cond.eq (.elem (.static "NeverInLine$Ways" "OWN" "[I") (.int (Int32.ofNat 0))) (.int 1)) (by decide +kernel))
    | 1, _ => exact va_eqt (hs (Cond.eq (.elem (.static "NeverInLine$Ways" "OWN" "[I") (.int (Int32.ofNat 1))) (.int 10)) (by decide +kernel))
    | 2, _ => exact va_eqt (hs (Cond.eq (.elem (.static "NeverInLine$Ways" "OWN" "[I") (.int (Int32.ofNat 2))) (.int 11)) (by decide +kernel))
    | 3, _ => exact va_eqt (hs (Cond.eq (.elem (.static "NeverInLine$Ways" "OWN" "[I") (.int (Int32.ofNat 3))) (.int 2)) (by decide +kernel))
    | 4, _ => exact va_eqt (hs (Cond.eq (.elem (.static "NeverInLine$Ways" "OWN" "[I") (.int (Int32.ofNat 4))) (.int 20)) (by decide +kernel))
    | 5, _ => exact va_eqt (hs (Cond.eq (.elem (.static "NeverInLine$Ways" "OWN" "[I") (.int (Int32.ofNat 5))) (.int 0)) (by decide +kernel))
    | 6, _ => exact va_eqt (hs (Cond.eq (.elem (.static "NeverInLine$Ways" "OWN" "[I") (.int (Int32.ofNat 6))) (.int 0)) (by decide +kernel))
    | 7, _ => exact va_eqt (hs (Cond.eq (.elem (.static "NeverInLine$Ways" "OWN" "[I") (.int (Int32.ofNat 7))) (.int 0)) (by decide +kernel))
    | 8, _ => exact va_eqt (hs (Cond.eq (.elem (.static "NeverInLine$Ways" "OWN" "[I") (.int (Int32.ofNat 8))) (.int 0)) (by decide +kernel))
    | 9, _ => exact va_eqt (hs (Cond.eq (.elem (.static "NeverInLine$Ways" "OWN" "[I") (.int (Int32.ofNat 9))) (.int 30)) (by decide +kernel))
    | 10, _ => exact va_eqt (hs (Cond.eq (.elem (.static "NeverInLine$Ways" "OWN" "[I") (.int (Int32.ofNat 10))) (.int 0)) (by decide +kernel))
    | 11, _ => exact va_eqt (hs (Cond.eq (.elem (.static "NeverInLine$Ways" "OWN" "[I") (.int (Int32.ofNat 11))) (.int 0)) (by decide +kernel))
    | 12, _ => exact va_eqt (hs (Cond.eq (.elem (.static "NeverInLine$Ways" "OWN" "[I") (.int (Int32.ofNat 12))) (.int 0)) (by decide +kernel))
    | 13, _ => exact va_eqt (hs (Cond.eq (.elem (.static "NeverInLine$Ways" "OWN" "[I") (.int (Int32.ofNat 13))) (.int 41)) (by decide +kernel))
    | 14, _ => exact va_eqt (hs (Cond.eq (.elem (.static "NeverInLine$Ways" "OWN" "[I") (.int (Int32.ofNat 14))) (.int 40)) (by decide +kernel))
    | 15, _ => exact va_eqt (hs (Cond.eq (.elem (.static "NeverInLine$Ways" "OWN" "[I") (.int (Int32.ofNat 15))) (.int 0)) (by decide +kernel))
    | 16, _ => exact va_eqt (hs (Cond.eq (.elem (.static "NeverInLine$Ways" "OWN" "[I") (.int (Int32.ofNat 16))) (.int 0)) (by decide +kernel))
    | 17, _ => exact va_eqt (hs (Cond.eq (.elem (.static "NeverInLine$Ways" "OWN" "[I") (.int (Int32.ofNat 17))) (.int 0)) (by decide +kernel))
    | 18, _ => exact va_eqt (hs (Cond.eq (.elem (.static "NeverInLine$Ways" "OWN" "[I") (.int (Int32.ofNat 18))) (.int 50)) (by decide +kernel))
    | 19, _ => exact va_eqt (hs (Cond.eq (.elem (.static "NeverInLine$Ways" "OWN" "[I") (.int (Int32.ofNat 19))) (.int 0)) (by decide +kernel))
    | 20, _ => exact va_eqt (hs (Cond.eq (.elem (.static "NeverInLine$Ways" "OWN" "[I") (.int (Int32.ofNat 20))) (.int 0)) (by decide +kernel))
    | 21, _ => exact va_eqt (hs (Cond.eq (.elem (.static "NeverInLine$Ways" "OWN" "[I") (.int (Int32.ofNat 21))) (.int 0)) (by decide +kernel))
    | 22, _ => exact va_eqt (hs (Cond.eq (.elem (.static "NeverInLine$Ways" "OWN" "[I") (.int (Int32.ofNat 22))) (.int 0)) (by decide +kernel))
    | 23, _ => exact va_eqt (hs (Cond.eq (.elem (.static "NeverInLine$Ways" "OWN" "[I") (.int (Int32.ofNat 23))) (.int 60)) (by decide +kernel))
    | 24, _ => exact va_eqt (hs (Cond.eq (.elem (.static "NeverInLine$Ways" "OWN" "[I") (.int (Int32.ofNat 24))) (.int 70)) (by decide +kernel))
    | 25, _ => exact va_eqt (hs (Cond.eq (.elem (.static "NeverInLine$Ways" "OWN" "[I") (.int (Int32.ofNat 25))) (.int 0)) (by decide +kernel))
    | 26, _ => exact va_eqt (hs (Cond.eq (.elem (.static "NeverInLine$Ways" "OWN" "[I") (.int (Int32.ofNat 26))) (.int 0)) (by decide +kernel))
    | 27, _ => exact va_eqt (hs (Cond.eq (.elem (.static "NeverInLine$Ways" "OWN" "[I") (.int (Int32.ofNat 27))) (.int 0)) (by decide +kernel))
    | 28, _ => exact va_eqt (hs (Cond.eq (.elem (.static "NeverInLine$Ways" "OWN" "[I") (.int (Int32.ofNat 28))) (.int 0)) (by decide +kernel))
    | 29, _ => exact va_eqt (hs (Cond.eq (.elem (.static "NeverInLine$Ways" "OWN" "[I") (.int (Int32.ofNat 29))) (.int 80)) (by decide +kernel))
    | 30, _ => exact va_eqt (hs (Cond.eq (.elem (.static "NeverInLine$Ways" "OWN" "[I") (.int (Int32.ofNat 30))) (.int 0)) (by decide +kernel))
    | 31, _ => exact va_eqt (hs (Cond.eq (.elem (.static "NeverInLine$Ways" "OWN" "[I") (.int (Int32.ofNat 31))) (.int 81)) (by decide +kernel))
    | (j + 32), hj => exact absurd hj (by omega)
  obtain ⟨t, e, hT⟩ := va_Tof (N := 32) (f := fun j => .int (tb_1.getD j 0)) (by decide) h1 h2 h3 hA
  exact ⟨t, va_Zref (hts _ (List.mem_append_right _ (List.mem_append_right _ (List.mem_append_right _ (List.mem_append_right _ (List.mem_append_left _ (List.mem_of_getElem? (i := 117) rfl))))))) (hts _ (List.mem_append_right _ (List.mem_append_left _ (List.mem_of_getElem? (i := 9) rfl)))) e hA, hT⟩
theorem gs_mk {D : va_G} {t : gk_T} {u : gk_U} {mem : gk_M} {H : Heap} (h : ∀ (k : Nat) (c : gk_c), t.1[k]? = some c → va_at D gk_cl (u.2.1 k, gk_ce u.2.1 u.2.2 mem k c) H) : va_P D gk_cl (gk_pz t u mem) H := by
  intro k q hq
  have hk : k < t.1.length := by
    have := (List.getElem?_eq_some_iff.mp hq).1
    simpa [gk_pz, gk_pw] using this
  obtain ⟨c, hc⟩ : ∃ c, t.1[k]? = some c := ⟨_, List.getElem?_eq_getElem hk⟩
  rw [show (gk_pz t u mem)[k]? = _ from gk_pw_at hc] at hq
  cases hq
  exact h k c hc
theorem gs_fst {t : gk_T} {u : gk_U} {mem : gk_M} : (gk_pz t u mem).map Prod.fst = (List.range t.1.length).map u.2.1 := by
  apply List.ext_getElem?
  intro i
  simp only [gk_pz, gk_pw, List.getElem?_map, List.getElem?_mapIdx]
  by_cases hi : i < t.1.length
  · simp [List.getElem?_range hi, List.getElem?_eq_getElem hi]
  · rw [List.getElem?_eq_none (by omega), List.getElem?_eq_none (by simpa using hi)]
    rfl
theorem gs_dm {A : Nat → Prop} {w1 w2 : va_W} (e : w1.map Prod.fst = w2.map Prod.fst) (h : va_D A w1) : va_D A w2 := by
  have key : ∀ (k : Nat) (q : Nat × va_E), w2[k]? = some q → ∃ q0 : Nat × va_E, w1[k]? = some q0 ∧ q0.1 = q.1 := by
    intro k q hq
    have h1 : (w2.map Prod.fst)[k]? = some q.1 := by rw [List.getElem?_map, hq]; rfl
    rw [← e, List.getElem?_map] at h1
    cases h2 : w1[k]? with
    | none => rw [h2] at h1; cases h1
    | some q0 => rw [h2] at h1; exact ⟨q0, rfl, Option.some.inj h1⟩
  refine ⟨fun i j p q hi hj he => ?_, fun k q hq => ?_⟩
  · obtain ⟨p0, a1, a2⟩ := key i p hi
    obtain ⟨q0, b1, b2⟩ := key j q hj
    exact h.1 i j p0 q0 a1 b1 (by rw [a2, b2, he])
  · obtain ⟨q0, a1, a2⟩ := key k q hq
    rw [← a2]
    exact h.2 k q0 a1
theorem gs_arr {cA : ClassId} {n : Nat} {f g : Nat → Value} (h : ∀ j, j < n → f j = g j) : arrV cA n f = arrV cA n g := by
  unfold arrV
  congr 1
  congr 1
  funext j
  exact h j.val j.isLt
theorem gs_ref {cA : ClassId} {n : Nat} {f g : Nat → Option Nat} (h : ∀ j, j < n → f j = g j) : vp_cell cA (n, .inr (.inr (.inr (.inr f)))) = vp_cell cA (n, .inr (.inr (.inr (.inr g)))) := by
  rw [vp_cell_q, vp_cell_q]
  exact gs_arr (fun j hj => by rw [h j hj])
theorem gs_obj {D : va_G} {H : Heap} {a ci k N : Nat} {C : String} {T : u_T} {fsd : List gk_f} {fs1 : List Value} {ad : Nat → Nat} {mem : gk_M} (hcl : gk_cl[ci]? = some (C, T, N)) (h : va_at D gk_cl (a, .inr (ci, fs1)) H) (hv : ∀ j, j < N → vp_V fs1 j = ((fsd[j]?).map (fun f => gk_v ad (gk_fa mem k j f))).getD .null) : va_at D gk_cl (a, .inr (ci, fsd.mapIdx (fun j f => gk_v ad (gk_fa mem k j f)))) H := by
  obtain ⟨r, h1, h2⟩ := h
  have hr : r = (C, T, N) := Option.some.inj (h1.symm.trans hcl)
  subst hr
  refine ⟨_, h1, h2.to (fun j hj => ?_)⟩
  rw [hv j hj]
  simp [vp_V, List.getD, List.getElem?_mapIdx]
set_option maxRecDepth 20000 in
theorem gs_hX (D : va_G) (H : Heap) (ad : Nat → Nat) (dA : Nat → ClassId) (hP : va_P D gk_cl [((ad 0), .inr (9, [.ref (ad 1), .ref (ad 4), .ref (ad 7), .ref (ad 21), .ref (ad 25), .ref (ad 28), .ref (ad 32), .ref (ad 37), .ref (ad 40)])), ((ad 1), .inr (0, [.ref (ad 2), .ref (ad 3), .int 0])), ((ad 2), .inl ((dA 2), 256, .inl (fun _ => 0))), ((ad 3), .inl ((dA 3), 256, .inl (fun _ => 0))), ((ad 4), .inr (1, [.ref (ad 5), .int 0, .int 0, .ref (ad 6), .int 0, .int (-1)])), ((ad 5), .inl ((dA 5), 256, .inl (fun _ => 0))), ((ad 6), .inl ((dA 6), 120, .inl (fun _ => 0))), ((ad 7), .inr (2, [.ref (ad 8), .ref (ad 9), .ref (ad 10), .ref (ad 11), .ref (ad 12), .int 0, .ref (ad 13), .int 0, .int 0, .ref (ad 14), .ref (ad 15), .ref (ad 16), .ref (ad 17), .ref (ad 18), .ref (ad 1), .ref (ad 19), .ref (ad 20)])), ((ad 8), .inl ((dA 8), 12, .inl (fun _ => 0))), ((ad 9), .inl ((dA 9), 12, .inl (fun _ => 0))), ((ad 10), .inl ((dA 10), 12, .inl (fun _ => 0))), ((ad 11), .inl ((dA 11), 12, .inl (fun _ => 0))), ((ad 12), .inl ((dA 12), 12, .inl (fun _ => 0))), ((ad 13), .inl ((dA 13), 4, .inl (fun _ => 0))), ((ad 14), .inl ((dA 14), 24, .inl (fun _ => 0))), ((ad 15), .inl ((dA 15), 8, .inl (fun _ => 0))), ((ad 16), .inl ((dA 16), 8, .inl (fun _ => 0))), ((ad 17), .inl ((dA 17), 8, .inl (fun _ => 0))), ((ad 18), .inl ((dA 18), 8, .inl (fun _ => 0))), ((ad 19), .inl ((dA 19), 6, .inl (fun _ => 0))), ((ad 20), .inl ((dA 20), 720, .inl (fun _ => 0))), ((ad 21), .inr (3, [.ref (ad 7), .ref (ad 22), .ref (ad 23), .ref (ad 24), .int 0])), ((ad 22), .inl ((dA 22), 10, .inl (fun _ => 0))), ((ad 23), .inl ((dA 23), 900, .inl (fun _ => 0))), ((ad 24), .inl ((dA 24), 900, .inl (fun _ => 0))), ((ad 25), .inr (4, [.ref (ad 7), .ref (ad 26), .ref (ad 27), .int 0, .int 1, .int 0])), ((ad 26), .inl ((dA 26), 9, .inl (fun _ => 0))), ((ad 27), .inl ((dA 27), 512, .inl (fun _ => 0))), ((ad 28), .inr (5, [.int 0, .ref (ad 7), .ref (ad 29), .ref (ad 30), .ref (ad 31)])), ((ad 29), .inl ((dA 29), 10, .inl (fun _ => 0))), ((ad 30), .inl ((dA 30), 10, .inl (fun _ => 0))), ((ad 31), .inl ((dA 31), 10, .inl (fun _ => 0))), ((ad 32), .inr (6, [.int 0, .int 0, .ref (ad 7), .ref (ad 33), .ref (ad 34), .ref (ad 35), .ref (ad 36)])), ((ad 33), .inl ((dA 33), 40, .inl (fun _ => 0))), ((ad 34), .inl ((dA 34), 40, .inl (fun _ => 0))), ((ad 35), .inl ((dA 35), 40, .inl (fun _ => 0))), ((ad 36), .inl ((dA 36), 40, .inl (fun _ => 0))), ((ad 37), .inr (7, [.int 0, .int 0, .ref (ad 38), .ref (ad 39), .int 0])), ((ad 38), .inl ((dA 38), 50, .inl (fun _ => 0))), ((ad 39), .inl ((dA 39), 24, .inl (fun _ => 0))), ((ad 40), .inl ((dA 40), 6, .inr (.inr (.inr (.inr (va_up (va_up (va_up (va_up (va_up (va_up (fun _ => none) 0 (some (ad 41))) 1 (some (ad 42))) 2 (some (ad 43))) 3 (some (ad 44))) 4 (some (ad 45))) 5 (some (ad 46)))))))), ((ad 41), .inr (8, [.ref (ad 47), .int (-1), .int (-1), .int 0])), ((ad 42), .inr (8, [.ref (ad 48), .int (-1), .int (-1), .int 0])), ((ad 43), .inr (8, [.ref (ad 49), .int (-1), .int (-1), .int 0])), ((ad 44), .inr (8, [.ref (ad 50), .int (-1), .int (-1), .int 0])), ((ad 45), .inr (8, [.ref (ad 51), .int (-1), .int (-1), .int 0])), ((ad 46), .inr (8, [.ref (ad 52), .int (-1), .int (-1), .int 0])), ((ad 47), .inl ((dA 47), 60, .inr (.inl (fun _ => 0)))), ((ad 48), .inl ((dA 48), 60, .inr (.inl (fun _ => 0)))), ((ad 49), .inl ((dA 49), 60, .inr (.inl (fun _ => 0)))), ((ad 50), .inl ((dA 50), 60, .inr (.inl (fun _ => 0)))), ((ad 51), .inl ((dA 51), 60, .inr (.inl (fun _ => 0)))), ((ad 52), .inl ((dA 52), 60, .inr (.inl (fun _ => 0))))] H) : va_P D gk_cl (gk_pz tx (D, ad, dA) gs_mx) H := by
  refine gs_mk (fun k c hc => ?_)
  match k, hc with
  | 0, hc => rw [tx_0] at hc; cases hc; exact hP 0 _ rfl
  | 1, hc => rw [tx_1] at hc; cases hc; exact hP 1 _ rfl
  | 2, hc => rw [tx_2] at hc; cases hc; exact hP 2 _ rfl
  | 3, hc => rw [tx_3] at hc; cases hc; exact hP 3 _ rfl
  | 4, hc => rw [tx_4] at hc; cases hc; exact hP 4 _ rfl
  | 5, hc => rw [tx_5] at hc; cases hc; exact hP 5 _ rfl
  | 6, hc => rw [tx_6] at hc; cases hc; exact hP 6 _ rfl
  | 7, hc => rw [tx_7] at hc; cases hc; exact hP 7 _ rfl
  | 8, hc => rw [tx_8] at hc; cases hc; exact hP 8 _ rfl
  | 9, hc => rw [tx_9] at hc; cases hc; exact hP 9 _ rfl
  | 10, hc => rw [tx_10] at hc; cases hc; exact hP 10 _ rfl
  | 11, hc => rw [tx_11] at hc; cases hc; exact hP 11 _ rfl
  | 12, hc => rw [tx_12] at hc; cases hc; exact hP 12 _ rfl
  | 13, hc => rw [tx_13] at hc; cases hc; exact hP 13 _ rfl
  | 14, hc => rw [tx_14] at hc; cases hc; exact hP 14 _ rfl
  | 15, hc => rw [tx_15] at hc; cases hc; exact hP 15 _ rfl
  | 16, hc => rw [tx_16] at hc; cases hc; exact hP 16 _ rfl
  | 17, hc => rw [tx_17] at hc; cases hc; exact hP 17 _ rfl
  | 18, hc => rw [tx_18] at hc; cases hc; exact hP 18 _ rfl
  | 19, hc => rw [tx_19] at hc; cases hc; exact hP 19 _ rfl
  | 20, hc => rw [tx_20] at hc; cases hc; exact hP 20 _ rfl
  | 21, hc => rw [tx_21] at hc; cases hc; exact hP 21 _ rfl
  | 22, hc => rw [tx_22] at hc; cases hc; exact hP 22 _ rfl
  | 23, hc => rw [tx_23] at hc; cases hc; exact hP 23 _ rfl
  | 24, hc => rw [tx_24] at hc; cases hc; exact hP 24 _ rfl
  | 25, hc => rw [tx_25] at hc; cases hc; exact hP 25 _ rfl
  | 26, hc => rw [tx_26] at hc; cases hc; exact hP 26 _ rfl
  | 27, hc => rw [tx_27] at hc; cases hc; exact hP 27 _ rfl
  | 28, hc => rw [tx_28] at hc; cases hc; exact hP 28 _ rfl
  | 29, hc => rw [tx_29] at hc; cases hc; exact hP 29 _ rfl
  | 30, hc => rw [tx_30] at hc; cases hc; exact hP 30 _ rfl
  | 31, hc => rw [tx_31] at hc; cases hc; exact hP 31 _ rfl
  | 32, hc => rw [tx_32] at hc; cases hc; exact hP 32 _ rfl
  | 33, hc => rw [tx_33] at hc; cases hc; exact hP 33 _ rfl
  | 34, hc => rw [tx_34] at hc; cases hc; exact hP 34 _ rfl
  | 35, hc => rw [tx_35] at hc; cases hc; exact hP 35 _ rfl
  | 36, hc => rw [tx_36] at hc; cases hc; exact hP 36 _ rfl
  | 37, hc => rw [tx_37] at hc; cases hc; exact hP 37 _ rfl
  | 38, hc => rw [tx_38] at hc; cases hc; exact hP 38 _ rfl
  | 39, hc => rw [tx_39] at hc; cases hc; exact hP 39 _ rfl
  | 40, hc =>
    rw [tx_40] at hc; cases hc
    have h := hP 40 _ rfl
    refine Eq.trans (show H[ad 40]? = some (vp_cell (dA 40) (6, .inr (.inr (.inr (.inr (va_up (va_up (va_up (va_up (va_up (va_up (fun _ => none) 0 (some (ad 41))) 1 (some (ad 42))) 2 (some (ad 43))) 3 (some (ad 44))) 4 (some (ad 45))) 5 (some (ad 46)))))))) from h) (congrArg some (gs_ref (g := fun i => some (ad (41 + i))) (fun j hj => ?_)))
    match j, hj with
    | 0, _ => rfl
    | 1, _ => rfl
    | 2, _ => rfl
    | 3, _ => rfl
    | 4, _ => rfl
    | 5, _ => rfl
    | j + 6, hj => exact absurd hj (by omega)
  | 41, hc => rw [tx_41] at hc; cases hc; exact hP 41 _ rfl
  | 42, hc => rw [tx_42] at hc; cases hc; exact hP 42 _ rfl
  | 43, hc => rw [tx_43] at hc; cases hc; exact hP 43 _ rfl
  | 44, hc => rw [tx_44] at hc; cases hc; exact hP 44 _ rfl
  | 45, hc => rw [tx_45] at hc; cases hc; exact hP 45 _ rfl
  | 46, hc => rw [tx_46] at hc; cases hc; exact hP 46 _ rfl
  | 47, hc => rw [tx_47] at hc; cases hc; exact hP 47 _ rfl
  | 48, hc => rw [tx_48] at hc; cases hc; exact hP 48 _ rfl
  | 49, hc => rw [tx_49] at hc; cases hc; exact hP 49 _ rfl
  | 50, hc => rw [tx_50] at hc; cases hc; exact hP 50 _ rfl
  | 51, hc => rw [tx_51] at hc; cases hc; exact hP 51 _ rfl
  | 52, hc => rw [tx_52] at hc; cases hc; exact hP 52 _ rfl
  | k + 53, hc => exact absurd (List.getElem?_eq_some_iff.mp hc).1 (by show ¬ k + 53 < 53; omega)
set_option maxRecDepth 20000 in
theorem gs_fX (D : va_G) (ad : Nat → Nat) (dA : Nat → ClassId) : (gk_pz tx (D, ad, dA) gs_mx).map Prod.fst = [ad 0, ad 1, ad 2, ad 3, ad 4, ad 5, ad 6, ad 7, ad 8, ad 9, ad 10, ad 11, ad 12, ad 13, ad 14, ad 15, ad 16, ad 17, ad 18, ad 19, ad 20, ad 21, ad 22, ad 23, ad 24, ad 25, ad 26, ad 27, ad 28, ad 29, ad 30, ad 31, ad 32, ad 33, ad 34, ad 35, ad 36, ad 37, ad 38, ad 39, ad 40, ad 41, ad 42, ad 43, ad 44, ad 45, ad 46, ad 47, ad 48, ad 49, ad 50, ad 51, ad 52] := by
  rw [gs_fst]
  rfl
set_option maxRecDepth 20000 in
theorem gs_hM (D : va_G) (H : Heap) (ad : Nat → Nat) (dA : Nat → ClassId) (hP : va_P D gk_cl [((ad 0), .inr (10, [.ref (ad 1), .ref (ad 2), .ref (ad 3), .ref (ad 4), .int 0, .int 0, .int 0, .ref (ad 5), .ref (ad 6), .ref (ad 7), .int 0, .ref (ad 8), .ref (ad 9), .int 0, .ref (ad 10), .ref (ad 11), .int 0, .ref (ad 12), .int (-1), .int 0, .int 0, .int 0, .int 0, .int 0, .ref (ad 13), .long 0, .long 0, .ref (ad 14), .ref (ad 15), .ref (ad 16), .ref (ad 17), .ref (ad 18), .int 0, .int 0, .int 0, .int 0, .int 0, .ref (ad 19), .ref (ad 20), .int 0, .ref (ad 21), .ref (ad 22), .int 0, .int 0, .int 0, .ref (ad 23), .ref (ad 24), .ref (ad 25), .ref (ad 26)])), ((ad 1), .inl ((dA 1), 30, .inl (fun _ => 0))), ((ad 2), .inl ((dA 2), 40, .inl (fun _ => 0))), ((ad 3), .inl ((dA 3), 40, .inl (fun _ => 0))), ((ad 4), .inl ((dA 4), 40, .inl (fun _ => 0))), ((ad 5), .inl ((dA 5), 20, .inl (fun _ => 0))), ((ad 6), .inl ((dA 6), 20, .inl (fun _ => 0))), ((ad 7), .inl ((dA 7), 20, .inl (fun _ => 0))), ((ad 8), .inl ((dA 8), 4, .inl (fun _ => 0))), ((ad 9), .inl ((dA 9), 28, .inl (fun _ => 0))), ((ad 10), .inl ((dA 10), 16, .inl (fun _ => 0))), ((ad 11), .inl ((dA 11), 120, .inl (fun _ => 0))), ((ad 12), .inl ((dA 12), 120, .inl (fun _ => 0))), ((ad 13), .inl ((dA 13), 6, .inl (fun _ => 0))), ((ad 14), .inl ((dA 14), 10, .inl (fun _ => 0))), ((ad 15), .inl ((dA 15), 900, .inl (fun _ => 0))), ((ad 16), .inl ((dA 16), 900, .inl (fun _ => 0))), ((ad 17), .inl ((dA 17), 900, .inl (fun _ => 0))), ((ad 18), .inl ((dA 18), 512, .inl (fun _ => 0))), ((ad 19), .inl ((dA 19), 10, .inl (fun _ => 0))), ((ad 20), .inl ((dA 20), 10, .inl (fun _ => 0))), ((ad 21), .inl ((dA 21), 50, .inl (fun _ => 0))), ((ad 22), .inl ((dA 22), 24, .inl (fun _ => 0))), ((ad 23), .inl ((dA 23), 6, .inl (upd (upd (upd (upd (upd (upd (fun _ => 0) 0 (-1)) 1 (-1)) 2 (-1)) 3 (-1)) 4 (-1)) 5 (-1)))), ((ad 24), .inl ((dA 24), 6, .inl (fun _ => 0))), ((ad 25), .inl ((dA 25), 360, .inr (.inl (fun _ => 0)))), ((ad 26), .inl ((dA 26), 60, .inr (.inl (fun _ => 0))))] H) : va_P D gk_cl (gk_pz tm (D, ad, dA) gs_mm) H := by
  refine gs_mk (fun k c hc => ?_)
  match k, hc with
  | 0, hc =>
    rw [tm_0] at hc; cases hc
    refine gs_obj cl_ok10.1 (hP 0 _ rfl) (fun j hj => ?_)
    match j, hj with
    | 0, _ => rfl
    | 1, _ => rfl
    | 2, _ => rfl
    | 3, _ => rfl
    | 4, _ => rfl
    | 5, _ => rfl
    | 6, _ => rfl
    | 7, _ => rfl
    | 8, _ => rfl
    | 9, _ => rfl
    | 10, _ => rfl
    | 11, _ => rfl
    | 12, _ => rfl
    | 13, _ => rfl
    | 14, _ => rfl
    | 15, _ => rfl
    | 16, _ => rfl
    | 17, _ => rfl
    | 18, _ => rfl
    | 19, _ => rfl
    | 20, _ => rfl
    | 21, _ => rfl
    | 22, _ => rfl
    | 23, _ => rfl
    | 24, _ => rfl
    | 25, _ => rfl
    | 26, _ => rfl
    | 27, _ => rfl
    | 28, _ => rfl
    | 29, _ => rfl
    | 30, _ => rfl
    | 31, _ => rfl
    | 32, _ => rfl
    | 33, _ => rfl
    | 34, _ => rfl
    | 35, _ => rfl
    | 36, _ => rfl
    | 37, _ => rfl
    | 38, _ => rfl
    | 39, _ => rfl
    | 40, _ => rfl
    | 41, _ => rfl
    | 42, _ => rfl
    | 43, _ => rfl
    | 44, _ => rfl
    | 45, _ => rfl
    | 46, _ => rfl
    | 47, _ => rfl
    | 48, _ => rfl
    | j + 49, hj => exact absurd hj (by omega)
  | 1, hc => rw [tm_1] at hc; cases hc; exact hP 1 _ rfl
  | 2, hc => rw [tm_2] at hc; cases hc; exact hP 2 _ rfl
  | 3, hc => rw [tm_3] at hc; cases hc; exact hP 3 _ rfl
  | 4, hc => rw [tm_4] at hc; cases hc; exact hP 4 _ rfl
  | 5, hc => rw [tm_5] at hc; cases hc; exact hP 5 _ rfl
  | 6, hc => rw [tm_6] at hc; cases hc; exact hP 6 _ rfl
  | 7, hc => rw [tm_7] at hc; cases hc; exact hP 7 _ rfl
  | 8, hc => rw [tm_8] at hc; cases hc; exact hP 8 _ rfl
  | 9, hc => rw [tm_9] at hc; cases hc; exact hP 9 _ rfl
  | 10, hc => rw [tm_10] at hc; cases hc; exact hP 10 _ rfl
  | 11, hc => rw [tm_11] at hc; cases hc; exact hP 11 _ rfl
  | 12, hc => rw [tm_12] at hc; cases hc; exact hP 12 _ rfl
  | 13, hc => rw [tm_13] at hc; cases hc; exact hP 13 _ rfl
  | 14, hc => rw [tm_14] at hc; cases hc; exact hP 14 _ rfl
  | 15, hc => rw [tm_15] at hc; cases hc; exact hP 15 _ rfl
  | 16, hc => rw [tm_16] at hc; cases hc; exact hP 16 _ rfl
  | 17, hc => rw [tm_17] at hc; cases hc; exact hP 17 _ rfl
  | 18, hc => rw [tm_18] at hc; cases hc; exact hP 18 _ rfl
  | 19, hc => rw [tm_19] at hc; cases hc; exact hP 19 _ rfl
  | 20, hc => rw [tm_20] at hc; cases hc; exact hP 20 _ rfl
  | 21, hc => rw [tm_21] at hc; cases hc; exact hP 21 _ rfl
  | 22, hc => rw [tm_22] at hc; cases hc; exact hP 22 _ rfl
  | 23, hc => rw [tm_23] at hc; cases hc; exact hP 23 _ rfl
  | 24, hc => rw [tm_24] at hc; cases hc; exact hP 24 _ rfl
  | 25, hc => rw [tm_25] at hc; cases hc; exact hP 25 _ rfl
  | 26, hc => rw [tm_26] at hc; cases hc; exact hP 26 _ rfl
  | k + 27, hc => exact absurd (List.getElem?_eq_some_iff.mp hc).1 (by show ¬ k + 27 < 27; omega)
set_option maxRecDepth 20000 in
theorem gs_fM (D : va_G) (ad : Nat → Nat) (dA : Nat → ClassId) : (gk_pz tm (D, ad, dA) gs_mm).map Prod.fst = [ad 0, ad 1, ad 2, ad 3, ad 4, ad 5, ad 6, ad 7, ad 8, ad 9, ad 10, ad 11, ad 12, ad 13, ad 14, ad 15, ad 16, ad 17, ad 18, ad 19, ad 20, ad 21, ad 22, ad 23, ad 24, ad 25, ad 26] := by
  rw [gs_fst]
  rfl
