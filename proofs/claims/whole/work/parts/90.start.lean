theorem gs_all {t : gk_T} {u : gk_U} {A : Nat → Prop} {m0 : gk_M} (h : va_D A (gk_pz t u m0)) : ∀ mem, va_D A (gk_pz t u mem) := by
  have key : ∀ (mem : gk_M) (k : Nat) (q : Nat × va_E), (gk_pz t u mem)[k]? = some q → ∃ q0 : Nat × va_E, (gk_pz t u m0)[k]? = some q0 ∧ q0.1 = q.1 := by
    intro mem k q hq
    have hk : k < t.1.length := by
      have := (List.getElem?_eq_some_iff.mp hq).1
      simpa [gk_pz, gk_pw] using this
    obtain ⟨c, hc⟩ : ∃ c, t.1[k]? = some c := ⟨_, List.getElem?_eq_getElem hk⟩
    have h2 := gk_pw_at (ad := u.2.1) (dA := u.2.2) (mem := mem) hc
    rw [show (gk_pz t u mem)[k]? = _ from h2] at hq
    cases hq
    exact ⟨_, gk_pw_at hc, rfl⟩
  intro mem
  refine ⟨fun i j p q hi hj e => ?_, fun k q hq => ?_⟩
  · obtain ⟨p0, a1, a2⟩ := key mem i p hi
    obtain ⟨q0, b1, b2⟩ := key mem j q hj
    exact h.1 i j p0 q0 a1 b1 (by rw [a2, b2, e])
  · obtain ⟨q0, a1, a2⟩ := key mem k q hq
    rw [← a2]
    exact h.2 k q0 a1
theorem gs_left {A : Nat → Prop} {w1 w2 : va_W} (h : va_D A (w1 ++ w2)) : va_D A w1 := ⟨fun i j p q hi hj e => h.1 i j p q (by rw [List.getElem?_append_left (List.getElem?_eq_some_iff.mp hi).1]; exact hi) (by rw [List.getElem?_append_left (List.getElem?_eq_some_iff.mp hj).1]; exact hj) e, fun k q hq => h.2 k q (by rw [List.getElem?_append_left (List.getElem?_eq_some_iff.mp hq).1]; exact hq)⟩
theorem gs_rt {α : Type} {w1 w2 : List α} {k : Nat} {q : α} (h : w2[k]? = some q) : (w1 ++ w2)[w1.length + k]? = some q := by
  rw [List.getElem?_append_right (by omega)]
  simpa using h
theorem gs_right {A : Nat → Prop} {w1 w2 : va_W} (h : va_D A (w1 ++ w2)) : va_D A w2 := ⟨fun i j p q hi hj e => by
    have := h.1 _ _ p q (gs_rt hi) (gs_rt hj) e
    omega, fun k q hq => h.2 _ q (gs_rt hq)⟩
theorem gs_pl {D : va_G} {w1 w2 : va_W} {H : Heap} (h : va_P D gk_cl (w1 ++ w2) H) : va_P D gk_cl w1 H := fun k q hq => h k q (by rw [List.getElem?_append_left (List.getElem?_eq_some_iff.mp hq).1]; exact hq)
theorem gs_pr {D : va_G} {w1 w2 : va_W} {H : Heap} (h : va_P D gk_cl (w1 ++ w2) H) : va_P D gk_cl w2 H := fun k q hq => h _ q (gs_rt hq)
theorem gs_dis {A : Nat → Prop} {t1 t2 : gk_T} {u1 u2 : gk_U} {m1 m2 : gk_M} (h : va_D A (gk_pz t1 u1 m1 ++ gk_pz t2 u2 m2)) : ∀ k j, k < t1.1.length → j < t2.1.length → u1.2.1 k ≠ u2.2.1 j := by
  intro k j hk hj e
  obtain ⟨c, hc⟩ : ∃ c, t1.1[k]? = some c := ⟨_, List.getElem?_eq_getElem hk⟩
  obtain ⟨c', hc'⟩ : ∃ c, t2.1[j]? = some c := ⟨_, List.getElem?_eq_getElem hj⟩
  have h1 : (gk_pz t1 u1 m1)[k]? = some (u1.2.1 k, gk_ce u1.2.1 u1.2.2 m1 k c) := gk_pw_at hc
  have h2 : (gk_pz t2 u2 m2)[j]? = some (u2.2.1 j, gk_ce u2.2.1 u2.2.2 m2 j c') := gk_pw_at hc'
  have hl : k < (gk_pz t1 u1 m1).length := (List.getElem?_eq_some_iff.mp h1).1
  have := h.1 k _ _ _ (by rw [List.getElem?_append_left hl]; exact h1) (gs_rt h2) e
  omega
/-! THE CLAIM OUT OF ONE WALK OF THE LAW'S BODY. Your part is whole_start (and what it stands on); all else here is the same for every law, but numbers. -/
def R_law : String := "NeverInLineLaw"
def lw_P (b : Addr) (xs : List Int32) (args : Array Value) (s : State) : Prop := args = #[.ref b] ∧ s.IntsAt b xs ∧ xs.length ≤ 3072 ∧ (Jvm.Cond.and given_1 narrow_1).before args s = true
def lw_Q (_ : Array Value) (s : State) (o : Outcome) (t : State) : Prop := o = .returned (some (.int 1)) ∧ Framed s o t [] 600000 7302250
def lw_Z (below : List Frame) (a : Array Value) (s : State) : State → Prop := fun t => ∃ o, t.status = .running ∧ Ended t below o ∧ lw_Q a s o t
/-- the law's own end, with 1 on the stack, nothing written that was there before, its room as the claim has it -/
theorem lw_ret {p : Program} {l : Launch} {e : Env} {s : State} {m : MethodId} {below : List Frame} {meth : Method} {c : Code} {b : Nat} (hx : p.tables.exec = Jvm.exec) (hb : c.code = code) (hr : meth.sig.returnType = ret) (hlocks : meth.locks = false) {pc : Nat} {H : Heap} {ls : Array Slot} (hdg : decode code pc = .ok (.ireturn, 1)) : W p l e room_1 s m #[Value.ref b] below meth c H [] 600000 7302250 (lw_Z below #[Value.ref b] s) (F0 m pc ls [.int 1]) := by
  intro T hT X
  obtain ⟨fs, hret, hrun, hended, hW, hframe⟩ := X.leave (v := some (.int 1)) (hlocks := hlocks) (fun h => by rw [hr] at h; cases h)
  have hmeth' : T.vm.method? m = some meth := X.method'
  refine ⟨T.setFrames fs, ?_, .returned (some (.int 1)), hrun, hended, rfl, ⟨_, rfl⟩, hW, hframe⟩
  jvm_step X.here [X.here.top, hx, hb, hdg, hmeth', hr, ret, narrow_b1]
  (try refine ⟨rfl, ?_⟩); (try refine ⟨rfl, ?_⟩)
  first | (intro acts; rw [hret _ acts rfl rfl rfl]) | rw [hret _ _ rfl rfl rfl]
  exact Steps.refl _
/-- what holds at the law's entry: the machine, the code, the tables' words (any of lw_tbl by 'hts w (by decide +kernel)'), the script of L ints xs at the cell b, what the Statement gives of the start (any of its parts by flat_of_before) -/
def lw_At (p : Program) (s : State) (m : MethodId) (meth : Method) (c : Code) (b L : Nat) (xs : Nat → Int32) : Prop :=
  p.tables.exec = Jvm.exec ∧ c.code = code ∧ meth.sig.returnType = ret ∧ c.maxLocals = 4 ∧ s.vm.findClass R_law = some m.cls ∧ (∀ w ∈ lw_tbl, w.before #[Value.ref b] s = true) ∧ va_X b L xs s s.heap ∧ b < s.heap.size ∧ meth.locks = false ∧ (Jvm.Cond.and given_1 narrow_1).before #[Value.ref b] s = true

theorem gs_W : ∀ w ∈ gk_W, w ∈ lw_tbl := fun w hw => (List.mem_filter.mp hw).1
theorem d_law_0 : decode lh_y.2.1 0 = .ok (.new 7, 3) := by decide +kernel
theorem d_law_3 : decode lh_y.2.1 3 = .ok (.dup, 1) := by decide +kernel
theorem d_law_4 : decode lh_y.2.1 4 = .ok (.invokespecial 9, 3) := by decide +kernel
theorem d_law_7 : decode lh_y.2.1 7 = .ok (.astore_n 1, 1) := by decide +kernel
theorem d_law_8 : decode lh_y.2.1 8 = .ok (.new 10, 3) := by decide +kernel
theorem d_law_11 : decode lh_y.2.1 11 = .ok (.dup, 1) := by decide +kernel
theorem d_law_12 : decode lh_y.2.1 12 = .ok (.invokespecial 12, 3) := by decide +kernel
theorem d_law_15 : decode lh_y.2.1 15 = .ok (.astore_n 2, 1) := by decide +kernel
theorem d_law_16 : decode lh_y.2.1 16 = .ok (.iconst 0, 1) := by decide +kernel
theorem d_law_17 : decode lh_y.2.1 17 = .ok (.istore_n 3, 1) := by decide +kernel
theorem gs_end {p : Program} {l : Launch} {e : Env} {s : State} {m : MethodId} {below : List Frame} {meth : Method} {c : Code} {b L : Nat} {xs : Nat → Int32} {u1 u2 : gk_U} (C0 : lw_At p s m meth c b L xs) : ∀ i mx mm, lh_G (l, u1, p, e, room_1, s, m, #[Value.ref b], below, meth, c, 80, 9083, fun q : Nat => s.heap.size ≤ q) u1 u2 b (lw_Z below #[Value.ref b] s) mx mm i [] 1404 := by
  intro i mx mm H locs ls h1 h2 hS hl
  obtain ⟨hx, hb, hr, hml, hown, hts, hX, hbl, hlocks, hgv⟩ := id C0
  refine lv_iconst (v := 1) hx hb d_law_1404 (by decide) ?_
  refine va_forget (fun q hq => hS.2.2 q hq) ?_
  refine W.widen (k := 600000) (n := 7302250) (Nat.le_of_ble_eq_true rfl) (Nat.le_of_ble_eq_true rfl) ?_
  exact lw_ret hx hb hr hlocks d_law_1405
theorem gs_tab0 {s : State} {b : Nat} (hgv : (Jvm.Cond.and given_1 narrow_1).before #[Value.ref b] s = true) (hts : ∀ w ∈ lw_tbl, w.before #[Value.ref b] s = true) : ∃ t : Nat, va_Z "NeverInLine$Ways" "ABOVE" "[I" (.ref t) (fun q : Nat => s.heap.size ≤ q) s s.heap ∧ va_T .int t 8 (fun j => .int (tb_0.getD j 0)) (fun q : Nat => s.heap.size ≤ q) s s.heap := by
  have hs := flat_of_before _ hgv
  have hA : ∀ a : Nat, a < s.heap.size → ¬ (fun q : Nat => s.heap.size ≤ q) a := fun a h => Nat.not_le.mpr h
  have h1 : (Cond.arrayOf (.static "NeverInLine$Ways" "ABOVE" "[I") .int).before #[Value.ref b] s = true := hs _ (by decide +kernel)
  have h2 := va_eqt (hs (Cond.eq (.length (.static "NeverInLine$Ways" "ABOVE" "[I")) (.int 8)) (by decide +kernel))
  have h3 : ∀ j : Nat, j < 8 → (Term.elem (.static "NeverInLine$Ways" "ABOVE" "[I") (.int (Int32.ofNat j))).eval #[Value.ref b] s none [] s = some (.int (tb_0.getD j 0)) := by
    intro j hj
    match j, hj with
    | 0, _ => exact va_eqt (hs (Cond.eq (.elem (.static "NeverInLine$Ways" "ABOVE" "[I") (.int (Int32.ofNat 0))) (.int (-1))) (by decide +kernel))
    | 1, _ => exact va_eqt (hs (Cond.eq (.elem (.static "NeverInLine$Ways" "ABOVE" "[I") (.int (Int32.ofNat 1))) (.int 0)) (by decide +kernel))
    | 2, _ => exact va_eqt (hs (Cond.eq (.elem (.static "NeverInLine$Ways" "ABOVE" "[I") (.int (Int32.ofNat 2))) (.int 0)) (by decide +kernel))
    | 3, _ => exact va_eqt (hs (Cond.eq (.elem (.static "NeverInLine$Ways" "ABOVE" "[I") (.int (Int32.ofNat 3))) (.int 2)) (by decide +kernel))
    | 4, _ => exact va_eqt (hs (Cond.eq (.elem (.static "NeverInLine$Ways" "ABOVE" "[I") (.int (Int32.ofNat 4))) (.int 1)) (by decide +kernel))
    | 5, _ => exact va_eqt (hs (Cond.eq (.elem (.static "NeverInLine$Ways" "ABOVE" "[I") (.int (Int32.ofNat 5))) (.int 3)) (by decide +kernel))
    | 6, _ => exact va_eqt (hs (Cond.eq (.elem (.static "NeverInLine$Ways" "ABOVE" "[I") (.int (Int32.ofNat 6))) (.int 0)) (by decide +kernel))
    | 7, _ => exact va_eqt (hs (Cond.eq (.elem (.static "NeverInLine$Ways" "ABOVE" "[I") (.int (Int32.ofNat 7))) (.int 4)) (by decide +kernel))
    | (j + 8), hj => exact absurd hj (by omega)
  obtain ⟨t, e, hT⟩ := va_Tof (N := 8) (f := fun j => .int (tb_0.getD j 0)) (by decide) h1 h2 h3 hA
  exact ⟨t, va_Zref (hts _ (List.mem_append_right _ (List.mem_append_right _ (List.mem_append_right _ (List.mem_append_right _ (List.mem_append_left _ (List.mem_of_getElem? (i := 123) rfl))))))) (hts _ (List.mem_append_right _ (List.mem_append_left _ (List.mem_of_getElem? (i := 9) rfl)))) e hA, hT⟩
theorem gs_tab1 {s : State} {b : Nat} (hgv : (Jvm.Cond.and given_1 narrow_1).before #[Value.ref b] s = true) (hts : ∀ w ∈ lw_tbl, w.before #[Value.ref b] s = true) : ∃ t : Nat, va_Z "NeverInLine$Ways" "OWN" "[I" (.ref t) (fun q : Nat => s.heap.size ≤ q) s s.heap ∧ va_T .int t 32 (fun j => .int (tb_1.getD j 0)) (fun q : Nat => s.heap.size ≤ q) s s.heap := by
  have hs := flat_of_before _ hgv
  have hA : ∀ a : Nat, a < s.heap.size → ¬ (fun q : Nat => s.heap.size ≤ q) a := fun a h => Nat.not_le.mpr h
  have h1 : (Cond.arrayOf (.static "NeverInLine$Ways" "OWN" "[I") .int).before #[Value.ref b] s = true := hs _ (by decide +kernel)
  have h2 := va_eqt (hs (Cond.eq (.length (.static "NeverInLine$Ways" "OWN" "[I")) (.int 32)) (by decide +kernel))
  have h3 : ∀ j : Nat, j < 32 → (Term.elem (.static "NeverInLine$Ways" "OWN" "[I") (.int (Int32.ofNat j))).eval #[Value.ref b] s none [] s = some (.int (tb_1.getD j 0)) := by
    intro j hj
    match j, hj with
    | 0, _ => exact va_eqt (hs (Cond.eq (.elem (.static "NeverInLine$Ways" "OWN" "[I") (.int (Int32.ofNat 0))) (.int 1)) (by decide +kernel))
    | 1, _ => exact va_eqt (hs (Cond.eq (.elem (.static "NeverInLine$Ways" "OWN" "[I") (.int (Int32.ofNat 1))) (.int 10)) (by decide +kernel))
    | 2, _ => exact va_eqt (hs (Cond.eq (.elem (.static "NeverInLine$Ways" "OWN" "[I") (.int (Int32.ofNat 2))) (.int 11)) (by decide +kernel))
    | 3, _ => exact va_eqt (hs (Cond.eq (.elem (.static "NeverInLine$Ways" "OWN" "[I") (.int (Int32.ofNat 3))) (.int 2)) (by decide +kernel))
    | 4, _ => exact va_eqt (hs (Cond.eq (.elem (.static "NeverInLine$Ways" "OWN" "[I") (.int (Int32.ofNat 4))) (.int 20)) (by decide +kernel))
    | 5, _ => exact va_eqt (hs (Cond.eq (.elem (.static "NeverInLine$Ways" "OWN" "[I") (.int (Int32.ofNat 5))) (.int 0)) (by decide +kernel))
    | 6, _ => exact va_eqt (hs (Cond.eq (.elem (.static "NeverInLine$Ways" "OWN" "[I") (.int (Int32.ofNat 6))) (.int 0)) (by decide +kernel))
    | 7, _ => exact va_eqt (hs (Cond.eq (.elem (.static "NeverInLine$Ways" "OWN" "[I") (.int (Int32.ofNat 7))) (.int 0)) (by decide +kernel))
    | 8, _ => exact va_eqt (hs (Cond.eq (.elem (.static "NeverInLine$Ways" "OWN" "[I") (.int (Int32.ofNat 8))) (.int 0)) (by decide +kernel))
    | 9, _ => exact va_eqt (hs (Cond.eq (.elem (.static "NeverInLine$Ways" "OWN" "[I") (.int (Int32.ofNat 9))) (.int 30)) (by decide +kernel))
    | 10, _ => exact va_eqt (hs (Cond.eq (.elem (.static "NeverInLine$Ways" "OWN" "[I") (.int (Int32.ofNat 10))) (.int 0)) (by decide +kernel))
    | 11, _ => exact va_eqt (hs (Cond.eq (.elem (.static "NeverInLine$Ways" "OWN" "[I") (.int (Int32.ofNat 11))) (.int 0)) (by decide +kernel))
    | 12, _ => exact va_eqt (hs (Cond.eq (.elem (.static "NeverInLine$Ways" "OWN" "[I") (.int (Int32.ofNat 12))) (.int 0)) (by decide +kernel))
    | 13, _ => exact va_eqt (hs (Cond.eq (.elem (.static "NeverInLine$Ways" "OWN" "[I") (.int (Int32.ofNat 13))) (.int 41)) (by decide +kernel))
    | 14, _ => exact va_eqt (hs (Cond.eq (.elem (.static "NeverInLine$Ways" "OWN" "[I") (.int (Int32.ofNat 14))) (.int 40)) (by decide +kernel))
    | 15, _ => exact va_eqt (hs (Cond.eq (.elem (.static "NeverInLine$Ways" "OWN" "[I") (.int (Int32.ofNat 15))) (.int 0)) (by decide +kernel))
    | 16, _ => exact va_eqt (hs (Cond.eq (.elem (.static "NeverInLine$Ways" "OWN" "[I") (.int (Int32.ofNat 16))) (.int 0)) (by decide +kernel))
    | 17, _ => exact va_eqt (hs (Cond.eq (.elem (.static "NeverInLine$Ways" "OWN" "[I") (.int (Int32.ofNat 17))) (.int 0)) (by decide +kernel))
    | 18, _ => exact va_eqt (hs (Cond.eq (.elem (.static "NeverInLine$Ways" "OWN" "[I") (.int (Int32.ofNat 18))) (.int 50)) (by decide +kernel))
    | 19, _ => exact va_eqt (hs (Cond.eq (.elem (.static "NeverInLine$Ways" "OWN" "[I") (.int (Int32.ofNat 19))) (.int 0)) (by decide +kernel))
    | 20, _ => exact va_eqt (hs (Cond.eq (.elem (.static "NeverInLine$Ways" "OWN" "[I") (.int (Int32.ofNat 20))) (.int 0)) (by decide +kernel))
    | 21, _ => exact va_eqt (hs (Cond.eq (.elem (.static "NeverInLine$Ways" "OWN" "[I") (.int (Int32.ofNat 21))) (.int 0)) (by decide +kernel))
    | 22, _ => exact va_eqt (hs (Cond.eq (.elem (.static "NeverInLine$Ways" "OWN" "[I") (.int (Int32.ofNat 22))) (.int 0)) (by decide +kernel))
    | 23, _ => exact va_eqt (hs (Cond.eq (.elem (.static "NeverInLine$Ways" "OWN" "[I") (.int (Int32.ofNat 23))) (.int 60)) (by decide +kernel))
    | 24, _ => exact va_eqt (hs (Cond.eq (.elem (.static "NeverInLine$Ways" "OWN" "[I") (.int (Int32.ofNat 24))) (.int 70)) (by decide +kernel))
    | 25, _ => exact va_eqt (hs (Cond.eq (.elem (.static "NeverInLine$Ways" "OWN" "[I") (.int (Int32.ofNat 25))) (.int 0)) (by decide +kernel))
    | 26, _ => exact va_eqt (hs (Cond.eq (.elem (.static "NeverInLine$Ways" "OWN" "[I") (.int (Int32.ofNat 26))) (.int 0)) (by decide +kernel))
    | 27, _ => exact va_eqt (hs (Cond.eq (.elem (.static "NeverInLine$Ways" "OWN" "[I") (.int (Int32.ofNat 27))) (.int 0)) (by decide +kernel))
    | 28, _ => exact va_eqt (hs (Cond.eq (.elem (.static "NeverInLine$Ways" "OWN" "[I") (.int (Int32.ofNat 28))) (.int 0)) (by decide +kernel))
    | 29, _ => exact va_eqt (hs (Cond.eq (.elem (.static "NeverInLine$Ways" "OWN" "[I") (.int (Int32.ofNat 29))) (.int 80)) (by decide +kernel))
    | 30, _ => exact va_eqt (hs (Cond.eq (.elem (.static "NeverInLine$Ways" "OWN" "[I") (.int (Int32.ofNat 30))) (.int 0)) (by decide +kernel))
    | 31, _ => exact va_eqt (hs (Cond.eq (.elem (.static "NeverInLine$Ways" "OWN" "[I") (.int (Int32.ofNat 31))) (.int 81)) (by decide +kernel))
    | (j + 32), hj => exact absurd hj (by omega)
  obtain ⟨t, e, hT⟩ := va_Tof (N := 32) (f := fun j => .int (tb_1.getD j 0)) (by decide) h1 h2 h3 hA
  exact ⟨t, va_Zref (hts _ (List.mem_append_right _ (List.mem_append_right _ (List.mem_append_right _ (List.mem_append_right _ (List.mem_append_left _ (List.mem_of_getElem? (i := 121) rfl))))))) (hts _ (List.mem_append_right _ (List.mem_append_left _ (List.mem_of_getElem? (i := 9) rfl)))) e hA, hT⟩
set_option maxRecDepth 100000 in
set_option maxHeartbeats 4000000 in
theorem whole_start {p : Program} {e : Env} {s : State} {m : MethodId} {below : List Frame} {meth : Method} {c : Code} (l : Launch) (hflags : l.flags = flags0) {b L : Nat} {xs : Nat → Int32} (hL : L ≤ 3072) (C0 : lw_At p s m meth c b L xs) : W p l e room_1 s m #[Value.ref b] below meth c s.heap [] 0 0 (lw_Z below #[Value.ref b] s) (entryFrame m ([Value.ref b] : List Value).toArray 4) := by
  obtain ⟨hx, hb, hr, hml, hown, hts, hX, hbl, hlocks, hgv⟩ := id C0
  have htW : ∀ w ∈ gk_W, w.before #[Value.ref b] s = true := fun w hw => hts w (gs_W w hw)
  obtain ⟨k0, i0, hn0⟩ := u_known (C := "NeverInLine$Law") (T := cl_T0) (N := 3) (n := 3) htW cl_in0 (htW _ (gk_t1 25 rfl rfl))
  obtain ⟨k1, i1, hn1⟩ := u_known (C := "NeverInLine$Reader") (T := cl_T1) (N := 6) (n := 6) htW cl_in1 (htW _ (gk_t1 42 rfl rfl))
  obtain ⟨k2, i2, hn2⟩ := u_known (C := "NeverInLine$Plain") (T := cl_T2) (N := 17) (n := 17) htW cl_in2 (htW _ (gk_t1 70 rfl rfl))
  obtain ⟨k3, i3, hn3⟩ := u_known (C := "NeverInLine$Planner") (T := cl_T3) (N := 5) (n := 5) htW cl_in3 (htW _ (gk_t1 137 rfl rfl))
  obtain ⟨k4, i4, hn4⟩ := u_known (C := "NeverInLine$Game") (T := cl_T4) (N := 6) (n := 6) htW cl_in4 (htW _ (gk_t1 160 rfl rfl))
  obtain ⟨k5, i5, hn5⟩ := u_known (C := "NeverInLine$Walker") (T := cl_T5) (N := 5) (n := 5) htW cl_in5 (htW _ (gk_t1 186 rfl rfl))
  obtain ⟨k6, i6, hn6⟩ := u_known (C := "NeverInLine$History") (T := cl_T6) (N := 7) (n := 7) htW cl_in6 (htW _ (gk_t1 209 rfl rfl))
  obtain ⟨k7, i7, hn7⟩ := u_known (C := "NeverInLine$Ways") (T := cl_T7) (N := 5) (n := 5) htW cl_in7 (htW _ (gk_t1 238 rfl rfl))
  obtain ⟨k8, i8, hn8⟩ := u_known (C := "NeverInLine$Shelf") (T := cl_T8) (N := 4) (n := 4) htW cl_in8 (htW _ (gk_t2 23 rfl rfl))
  obtain ⟨k9, i9, hn9⟩ := u_known (C := "NeverInLine") (T := cl_T9) (N := 9) (n := 9) htW cl_in9 (htW _ (gk_t1 17 rfl rfl))
  obtain ⟨k10, i10, hn10⟩ := u_known (C := "NeverInLineModel") (T := cl_T10) (N := 49) (n := 49) htW cl_in10 (htW _ (gk_t4 200 rfl rfl))
  obtain ⟨D, hKc⟩ : ∃ D : va_G, ∀ (k : Nat) (q : vw_C), gk_cl[k]? = some q → u_Kn s q.1 q.2.1 q.2.2 (D.1 k) (D.2 k) := by
    refine ⟨(fun k => ([k0, k1, k2, k3, k4, k5, k6, k7, k8, k9, k10] : List ClassId).getD k 0, fun k => ([i0, i1, i2, i3, i4, i5, i6, i7, i8, i9, i10] : List (Nat → Nat)).getD k (fun _ => 0)), ?_⟩
    intro k q hq
    match k, hq with
    | 0, hq => cases hq; exact hn0
    | 1, hq => cases hq; exact hn1
    | 2, hq => cases hq; exact hn2
    | 3, hq => cases hq; exact hn3
    | 4, hq => cases hq; exact hn4
    | 5, hq => cases hq; exact hn5
    | 6, hq => cases hq; exact hn6
    | 7, hq => cases hq; exact hn7
    | 8, hq => cases hq; exact hn8
    | 9, hq => cases hq; exact hn9
    | 10, hq => cases hq; exact hn10
    | k + 11, hq => simp [gk_cl] at hq
  obtain ⟨tA, zA, hTA⟩ := gs_tab0 hgv hts
  obtain ⟨tO, zO, hTO⟩ := gs_tab1 hgv hts
  have hN : gi_N s := by
    refine ⟨fun w hw => ?_, va_AO.of (A := #[Value.ref b]) (hts _ (List.mem_append_right _ (List.mem_append_right _ (List.mem_append_left _ (List.mem_of_getElem? (i := 22) rfl)))))⟩
    simp only [gi_nest, List.mem_cons, List.not_mem_nil, or_false] at hw
    rcases hw with rfl | rfl | rfl | rfl
    · exact va_Nw.of rfl (hts _ (List.mem_append_right _ (List.mem_append_left _ (List.mem_of_getElem? (i := 26) rfl))))
    · exact va_Nw.of rfl (hts _ (List.mem_append_right _ (List.mem_append_left _ (List.mem_of_getElem? (i := 43) rfl))))
    · exact va_Nw.of rfl (hts _ (List.mem_append_right _ (List.mem_append_left _ (List.mem_of_getElem? (i := 239) rfl))))
    · exact va_Nw.of rfl (hts _ (List.mem_append_right _ (List.mem_append_right _ (List.mem_append_left _ (List.mem_of_getElem? (i := 24) rfl)))))
  have hNk : ∀ w ∈ gk_nest, va_Nw w s := by
    intro w hw
    simp only [gk_nest, List.mem_cons, List.not_mem_nil, or_false] at hw
    rcases hw with rfl | rfl
    · exact va_Nw.of rfl (hts _ (List.mem_append_right _ (List.mem_append_right _ (List.mem_append_left _ (List.mem_of_getElem? (i := 81) rfl)))))
    · exact va_Nw.of rfl (hts _ (List.mem_append_right _ (List.mem_append_right _ (List.mem_append_left _ (List.mem_of_getElem? (i := 84) rfl)))))
  have K : gi_F (l, (D, id, fun _ => 0), p, e, room_1, s, m, #[Value.ref b], below, meth, c, 0, 0, fun q : Nat => s.heap.size ≤ q) lh_y 1000 80 9083 := ⟨hx, hb, hml, hown, htW, fun q hq => hq, ⟨Nat.le_of_ble_eq_true rfl, Nat.le_of_ble_eq_true rfl, Nat.le_of_ble_eq_true rfl, Nat.le_of_ble_eq_true rfl⟩, hlocks, hr, hN, fun hi => absurd hi (by decide)⟩
  have hl := lv_entry ([.ref b]) (n := 4) (Nat.le_of_ble_eq_true rfl)
  rw [lg_entry_eq]
  generalize (lg_sl ([.ref b]) ++ List.replicate (4 - (lg_sl ([.ref b])).length) Slot.unset).toArray = ls at hl ⊢
  have hl : lv_has ls 4 [(0, .ref b)] := hl
  suffices hG : gi_G (l, (D, id, fun _ => 0), p, e, room_1, s, m, #[Value.ref b], below, meth, c, 0, 0, fun q : Nat => s.heap.size ≤ q) D lh_y (lw_Z below #[Value.ref b] s) [] [] 0 0 [(0, .ref b)] [] 0 from hG s.heap [] ls ⟨hKc, fun k q h => by simp at h⟩ (fun k q h => by simp at h) ⟨fun i j p q h => by simp at h, fun k q h => by simp at h⟩ va_S.rf hl
  refine gi_new (ci := 9) (fs := [.null, .null, .null, .null, .null, .null, .null, .null, .null]) (pc := 0) K d_law_0 cl_ok9 cl_y9 (by decide +kernel) (gk_t1 16 rfl rfl) (gk_t1 17 rfl rfl) li_X (by decide +kernel) (Nat.le_of_ble_eq_true rfl) (Nat.le_of_ble_eq_true rfl) (fun qx => ?_)
  refine gi_dup (pc := 3) K d_law_3 rfl ?_
  refine gi_callI (As := []) (n := 0) (pc := 4) K d_law_4 (gk_t1 18 rfl rfl) (gk_t1 19 rfl rfl) mc_X_init rfl rfl rfl (c_X_init _ D qx) (by decide) rfl (Nat.le_of_ble_eq_true rfl) (Nat.le_of_ble_eq_true rfl) (Nat.le_of_ble_eq_true rfl) (fun w2 t2 hp => ?_)
  obtain ⟨q1_x, q1_2_x, c1_2_x, q2_2_x, c2_2_x, q3_x, q1_4_x, c1_4_x, q2_4_x, c2_4_x, q5_x, q1_6_x, c1_6_x, q2_6_x, c2_6_x, q3_6_x, c3_6_x, q4_6_x, c4_6_x, q5_6_x, c5_6_x, q6_6_x, c6_6_x, q7_6_x, c7_6_x, q8_6_x, c8_6_x, q9_6_x, c9_6_x, q10_6_x, c10_6_x, q11_6_x, c11_6_x, q12_6_x, c12_6_x, q13_6_x, c13_6_x, q7_x, q1_8_x, c1_8_x, q2_8_x, c2_8_x, q3_8_x, c3_8_x, q9_x, q1_10_x, c1_10_x, q2_10_x, c2_10_x, q11_x, q1_12_x, c1_12_x, q2_12_x, c2_12_x, q3_12_x, c3_12_x, q13_x, q1_14_x, c1_14_x, q2_14_x, c2_14_x, q3_14_x, c3_14_x, q4_14_x, c4_14_x, q15_x, q1_16_x, c1_16_x, q2_16_x, c2_16_x, q17_x, c17_x, q18_x, q1_19_x, c1_19_x, q20_x, q1_21_x, c1_21_x, q22_x, q1_23_x, c1_23_x, q24_x, q1_25_x, c1_25_x, q26_x, q1_27_x, c1_27_x, q28_x, q1_29_x, c1_29_x, rfl, rfl⟩ := hp
  refine gi_re (ws2 := [(qx, .inr (9, [.ref q1_x, .ref q3_x, .ref q5_x, .ref q7_x, .ref q9_x, .ref q11_x, .ref q13_x, .ref q15_x, .ref q17_x])), (q1_x, .inr (0, [.ref q1_2_x, .ref q2_2_x, .int 0])), (q1_2_x, .inl (c1_2_x, 256, .inl (fun _ => 0))), (q2_2_x, .inl (c2_2_x, 256, .inl (fun _ => 0))), (q3_x, .inr (1, [.ref q1_4_x, .int 0, .int 0, .ref q2_4_x, .int 0, .int (-1)])), (q1_4_x, .inl (c1_4_x, 256, .inl (fun _ => 0))), (q2_4_x, .inl (c2_4_x, 120, .inl (fun _ => 0))), (q5_x, .inr (2, [.ref q1_6_x, .ref q2_6_x, .ref q3_6_x, .ref q4_6_x, .ref q5_6_x, .int 0, .ref q6_6_x, .int 0, .int 0, .ref q7_6_x, .ref q8_6_x, .ref q9_6_x, .ref q10_6_x, .ref q11_6_x, .ref q1_x, .ref q12_6_x, .ref q13_6_x])), (q1_6_x, .inl (c1_6_x, 12, .inl (fun _ => 0))), (q2_6_x, .inl (c2_6_x, 12, .inl (fun _ => 0))), (q3_6_x, .inl (c3_6_x, 12, .inl (fun _ => 0))), (q4_6_x, .inl (c4_6_x, 12, .inl (fun _ => 0))), (q5_6_x, .inl (c5_6_x, 12, .inl (fun _ => 0))), (q6_6_x, .inl (c6_6_x, 4, .inl (fun _ => 0))), (q7_6_x, .inl (c7_6_x, 24, .inl (fun _ => 0))), (q8_6_x, .inl (c8_6_x, 8, .inl (fun _ => 0))), (q9_6_x, .inl (c9_6_x, 8, .inl (fun _ => 0))), (q10_6_x, .inl (c10_6_x, 8, .inl (fun _ => 0))), (q11_6_x, .inl (c11_6_x, 8, .inl (fun _ => 0))), (q12_6_x, .inl (c12_6_x, 6, .inl (fun _ => 0))), (q13_6_x, .inl (c13_6_x, 720, .inl (fun _ => 0))), (q7_x, .inr (3, [.ref q5_x, .ref q1_8_x, .ref q2_8_x, .ref q3_8_x, .int 0])), (q1_8_x, .inl (c1_8_x, 10, .inl (fun _ => 0))), (q2_8_x, .inl (c2_8_x, 900, .inl (fun _ => 0))), (q3_8_x, .inl (c3_8_x, 900, .inl (fun _ => 0))), (q9_x, .inr (4, [.ref q5_x, .ref q1_10_x, .ref q2_10_x, .int 0, .int 1, .int 0])), (q1_10_x, .inl (c1_10_x, 9, .inl (fun _ => 0))), (q2_10_x, .inl (c2_10_x, 512, .inl (fun _ => 0))), (q11_x, .inr (5, [.int 0, .ref q5_x, .ref q1_12_x, .ref q2_12_x, .ref q3_12_x])), (q1_12_x, .inl (c1_12_x, 10, .inl (fun _ => 0))), (q2_12_x, .inl (c2_12_x, 10, .inl (fun _ => 0))), (q3_12_x, .inl (c3_12_x, 10, .inl (fun _ => 0))), (q13_x, .inr (6, [.int 0, .int 0, .ref q5_x, .ref q1_14_x, .ref q2_14_x, .ref q3_14_x, .ref q4_14_x])), (q1_14_x, .inl (c1_14_x, 40, .inl (fun _ => 0))), (q2_14_x, .inl (c2_14_x, 40, .inl (fun _ => 0))), (q3_14_x, .inl (c3_14_x, 40, .inl (fun _ => 0))), (q4_14_x, .inl (c4_14_x, 40, .inl (fun _ => 0))), (q15_x, .inr (7, [.int 0, .int 0, .ref q1_16_x, .ref q2_16_x, .int 0])), (q1_16_x, .inl (c1_16_x, 50, .inl (fun _ => 0))), (q2_16_x, .inl (c2_16_x, 24, .inl (fun _ => 0))), (q17_x, .inl (c17_x, 6, .inr (.inr (.inr (.inr (va_up (va_up (va_up (va_up (va_up (va_up (fun _ => none) 0 (some q18_x)) 1 (some q20_x)) 2 (some q22_x)) 3 (some q24_x)) 4 (some q26_x)) 5 (some q28_x))))))), (q18_x, .inr (8, [.ref q1_19_x, .int (-1), .int (-1), .int 0])), (q1_19_x, .inl (c1_19_x, 60, .inr (.inl (fun _ => 0)))), (q20_x, .inr (8, [.ref q1_21_x, .int (-1), .int (-1), .int 0])), (q1_21_x, .inl (c1_21_x, 60, .inr (.inl (fun _ => 0)))), (q22_x, .inr (8, [.ref q1_23_x, .int (-1), .int (-1), .int 0])), (q1_23_x, .inl (c1_23_x, 60, .inr (.inl (fun _ => 0)))), (q24_x, .inr (8, [.ref q1_25_x, .int (-1), .int (-1), .int 0])), (q1_25_x, .inl (c1_25_x, 60, .inr (.inl (fun _ => 0)))), (q26_x, .inr (8, [.ref q1_27_x, .int (-1), .int (-1), .int 0])), (q1_27_x, .inl (c1_27_x, 60, .inr (.inl (fun _ => 0)))), (q28_x, .inr (8, [.ref q1_29_x, .int (-1), .int (-1), .int 0])), (q1_29_x, .inl (c1_29_x, 60, .inr (.inl (fun _ => 0))))]) (tys2 := [(c1_2_x, .int), (c2_2_x, .int), (c1_4_x, .int), (c2_4_x, .int), (c1_6_x, .int), (c2_6_x, .int), (c3_6_x, .int), (c4_6_x, .int), (c5_6_x, .int), (c6_6_x, .int), (c7_6_x, .int), (c8_6_x, .int), (c9_6_x, .int), (c10_6_x, .int), (c11_6_x, .int), (c12_6_x, .int), (c13_6_x, .int), (c1_8_x, .int), (c2_8_x, .int), (c3_8_x, .int), (c1_10_x, .int), (c2_10_x, .boolean), (c1_12_x, .int), (c2_12_x, .int), (c3_12_x, .int), (c1_14_x, .int), (c2_14_x, .int), (c3_14_x, .int), (c4_14_x, .int), (c1_16_x, .int), (c2_16_x, .int), (c17_x, .object "NeverInLine$Shelf"), (c1_19_x, .long), (c1_21_x, .long), (c1_23_x, .long), (c1_25_x, .long), (c1_27_x, .long), (c1_29_x, .long)]) rfl rfl ?_
  refine gi_cs (c2 := 53) (s2 := 4782) rfl rfl ?_
  refine gi_astore_n (lv2 := [(1, .ref qx), (0, .ref b)]) (pc := 7) K d_law_7 rfl (by decide) rfl ?_
  refine gi_new (ci := 10) (fs := [.null, .null, .null, .null, .int 0, .int 0, .int 0, .null, .null, .null, .int 0, .null, .null, .int 0, .null, .null, .int 0, .null, .int 0, .int 0, .int 0, .int 0, .int 0, .int 0, .null, .long 0, .long 0, .null, .null, .null, .null, .null, .int 0, .int 0, .int 0, .int 0, .int 0, .null, .null, .int 0, .null, .null, .int 0, .int 0, .int 0, .null, .null, .null, .null]) (pc := 8) K d_law_8 cl_ok10 cl_y10 (by decide +kernel) (gk_t4 199 rfl rfl) (gk_t4 200 rfl rfl) li_M (by decide +kernel) (Nat.le_of_ble_eq_true rfl) (Nat.le_of_ble_eq_true rfl) (fun qm => ?_)
  refine gi_dup (pc := 11) K d_law_11 rfl ?_
  refine gi_callI (As := []) (n := 0) (pc := 12) K d_law_12 (gk_t4 201 rfl rfl) (gk_t4 202 rfl rfl) mc_M_init rfl rfl rfl (c_M_init _ D qm) (by decide) rfl (Nat.le_of_ble_eq_true rfl) (Nat.le_of_ble_eq_true rfl) (Nat.le_of_ble_eq_true rfl) (fun w2 t2 hp => ?_)
  obtain ⟨q1_m, c1_m, q2_m, c2_m, q3_m, c3_m, q4_m, c4_m, q5_m, c5_m, q6_m, c6_m, q7_m, c7_m, q8_m, c8_m, q9_m, c9_m, q10_m, c10_m, q11_m, c11_m, q12_m, c12_m, q13_m, c13_m, q14_m, c14_m, q15_m, c15_m, q16_m, c16_m, q17_m, c17_m, q18_m, c18_m, q19_m, c19_m, q20_m, c20_m, q21_m, c21_m, q22_m, c22_m, q23_m, c23_m, q24_m, c24_m, q25_m, c25_m, q26_m, c26_m, rfl, rfl⟩ := hp
  refine gi_re (ws2 := [(qx, .inr (9, [.ref q1_x, .ref q3_x, .ref q5_x, .ref q7_x, .ref q9_x, .ref q11_x, .ref q13_x, .ref q15_x, .ref q17_x])), (q1_x, .inr (0, [.ref q1_2_x, .ref q2_2_x, .int 0])), (q1_2_x, .inl (c1_2_x, 256, .inl (fun _ => 0))), (q2_2_x, .inl (c2_2_x, 256, .inl (fun _ => 0))), (q3_x, .inr (1, [.ref q1_4_x, .int 0, .int 0, .ref q2_4_x, .int 0, .int (-1)])), (q1_4_x, .inl (c1_4_x, 256, .inl (fun _ => 0))), (q2_4_x, .inl (c2_4_x, 120, .inl (fun _ => 0))), (q5_x, .inr (2, [.ref q1_6_x, .ref q2_6_x, .ref q3_6_x, .ref q4_6_x, .ref q5_6_x, .int 0, .ref q6_6_x, .int 0, .int 0, .ref q7_6_x, .ref q8_6_x, .ref q9_6_x, .ref q10_6_x, .ref q11_6_x, .ref q1_x, .ref q12_6_x, .ref q13_6_x])), (q1_6_x, .inl (c1_6_x, 12, .inl (fun _ => 0))), (q2_6_x, .inl (c2_6_x, 12, .inl (fun _ => 0))), (q3_6_x, .inl (c3_6_x, 12, .inl (fun _ => 0))), (q4_6_x, .inl (c4_6_x, 12, .inl (fun _ => 0))), (q5_6_x, .inl (c5_6_x, 12, .inl (fun _ => 0))), (q6_6_x, .inl (c6_6_x, 4, .inl (fun _ => 0))), (q7_6_x, .inl (c7_6_x, 24, .inl (fun _ => 0))), (q8_6_x, .inl (c8_6_x, 8, .inl (fun _ => 0))), (q9_6_x, .inl (c9_6_x, 8, .inl (fun _ => 0))), (q10_6_x, .inl (c10_6_x, 8, .inl (fun _ => 0))), (q11_6_x, .inl (c11_6_x, 8, .inl (fun _ => 0))), (q12_6_x, .inl (c12_6_x, 6, .inl (fun _ => 0))), (q13_6_x, .inl (c13_6_x, 720, .inl (fun _ => 0))), (q7_x, .inr (3, [.ref q5_x, .ref q1_8_x, .ref q2_8_x, .ref q3_8_x, .int 0])), (q1_8_x, .inl (c1_8_x, 10, .inl (fun _ => 0))), (q2_8_x, .inl (c2_8_x, 900, .inl (fun _ => 0))), (q3_8_x, .inl (c3_8_x, 900, .inl (fun _ => 0))), (q9_x, .inr (4, [.ref q5_x, .ref q1_10_x, .ref q2_10_x, .int 0, .int 1, .int 0])), (q1_10_x, .inl (c1_10_x, 9, .inl (fun _ => 0))), (q2_10_x, .inl (c2_10_x, 512, .inl (fun _ => 0))), (q11_x, .inr (5, [.int 0, .ref q5_x, .ref q1_12_x, .ref q2_12_x, .ref q3_12_x])), (q1_12_x, .inl (c1_12_x, 10, .inl (fun _ => 0))), (q2_12_x, .inl (c2_12_x, 10, .inl (fun _ => 0))), (q3_12_x, .inl (c3_12_x, 10, .inl (fun _ => 0))), (q13_x, .inr (6, [.int 0, .int 0, .ref q5_x, .ref q1_14_x, .ref q2_14_x, .ref q3_14_x, .ref q4_14_x])), (q1_14_x, .inl (c1_14_x, 40, .inl (fun _ => 0))), (q2_14_x, .inl (c2_14_x, 40, .inl (fun _ => 0))), (q3_14_x, .inl (c3_14_x, 40, .inl (fun _ => 0))), (q4_14_x, .inl (c4_14_x, 40, .inl (fun _ => 0))), (q15_x, .inr (7, [.int 0, .int 0, .ref q1_16_x, .ref q2_16_x, .int 0])), (q1_16_x, .inl (c1_16_x, 50, .inl (fun _ => 0))), (q2_16_x, .inl (c2_16_x, 24, .inl (fun _ => 0))), (q17_x, .inl (c17_x, 6, .inr (.inr (.inr (.inr (va_up (va_up (va_up (va_up (va_up (va_up (fun _ => none) 0 (some q18_x)) 1 (some q20_x)) 2 (some q22_x)) 3 (some q24_x)) 4 (some q26_x)) 5 (some q28_x))))))), (q18_x, .inr (8, [.ref q1_19_x, .int (-1), .int (-1), .int 0])), (q1_19_x, .inl (c1_19_x, 60, .inr (.inl (fun _ => 0)))), (q20_x, .inr (8, [.ref q1_21_x, .int (-1), .int (-1), .int 0])), (q1_21_x, .inl (c1_21_x, 60, .inr (.inl (fun _ => 0)))), (q22_x, .inr (8, [.ref q1_23_x, .int (-1), .int (-1), .int 0])), (q1_23_x, .inl (c1_23_x, 60, .inr (.inl (fun _ => 0)))), (q24_x, .inr (8, [.ref q1_25_x, .int (-1), .int (-1), .int 0])), (q1_25_x, .inl (c1_25_x, 60, .inr (.inl (fun _ => 0)))), (q26_x, .inr (8, [.ref q1_27_x, .int (-1), .int (-1), .int 0])), (q1_27_x, .inl (c1_27_x, 60, .inr (.inl (fun _ => 0)))), (q28_x, .inr (8, [.ref q1_29_x, .int (-1), .int (-1), .int 0])), (q1_29_x, .inl (c1_29_x, 60, .inr (.inl (fun _ => 0)))), (qm, .inr (10, [.ref q1_m, .ref q2_m, .ref q3_m, .ref q4_m, .int 0, .int 0, .int 0, .ref q5_m, .ref q6_m, .ref q7_m, .int 0, .ref q8_m, .ref q9_m, .int 0, .ref q10_m, .ref q11_m, .int 0, .ref q12_m, .int (-1), .int 0, .int 0, .int 0, .int 0, .int 0, .ref q13_m, .long 0, .long 0, .ref q14_m, .ref q15_m, .ref q16_m, .ref q17_m, .ref q18_m, .int 0, .int 0, .int 0, .int 0, .int 0, .ref q19_m, .ref q20_m, .int 0, .ref q21_m, .ref q22_m, .int 0, .int 0, .int 0, .ref q23_m, .ref q24_m, .ref q25_m, .ref q26_m])), (q1_m, .inl (c1_m, 30, .inl (fun _ => 0))), (q2_m, .inl (c2_m, 40, .inl (fun _ => 0))), (q3_m, .inl (c3_m, 40, .inl (fun _ => 0))), (q4_m, .inl (c4_m, 40, .inl (fun _ => 0))), (q5_m, .inl (c5_m, 20, .inl (fun _ => 0))), (q6_m, .inl (c6_m, 20, .inl (fun _ => 0))), (q7_m, .inl (c7_m, 20, .inl (fun _ => 0))), (q8_m, .inl (c8_m, 4, .inl (fun _ => 0))), (q9_m, .inl (c9_m, 28, .inl (fun _ => 0))), (q10_m, .inl (c10_m, 16, .inl (fun _ => 0))), (q11_m, .inl (c11_m, 120, .inl (fun _ => 0))), (q12_m, .inl (c12_m, 120, .inl (fun _ => 0))), (q13_m, .inl (c13_m, 6, .inl (fun _ => 0))), (q14_m, .inl (c14_m, 10, .inl (fun _ => 0))), (q15_m, .inl (c15_m, 900, .inl (fun _ => 0))), (q16_m, .inl (c16_m, 900, .inl (fun _ => 0))), (q17_m, .inl (c17_m, 900, .inl (fun _ => 0))), (q18_m, .inl (c18_m, 512, .inl (fun _ => 0))), (q19_m, .inl (c19_m, 10, .inl (fun _ => 0))), (q20_m, .inl (c20_m, 10, .inl (fun _ => 0))), (q21_m, .inl (c21_m, 50, .inl (fun _ => 0))), (q22_m, .inl (c22_m, 24, .inl (fun _ => 0))), (q23_m, .inl (c23_m, 6, .inl (upd (upd (upd (upd (upd (upd (fun _ => 0) 0 (-1)) 1 (-1)) 2 (-1)) 3 (-1)) 4 (-1)) 5 (-1)))), (q24_m, .inl (c24_m, 6, .inl (fun _ => 0))), (q25_m, .inl (c25_m, 360, .inr (.inl (fun _ => 0)))), (q26_m, .inl (c26_m, 60, .inr (.inl (fun _ => 0))))]) (tys2 := [(c1_2_x, .int), (c2_2_x, .int), (c1_4_x, .int), (c2_4_x, .int), (c1_6_x, .int), (c2_6_x, .int), (c3_6_x, .int), (c4_6_x, .int), (c5_6_x, .int), (c6_6_x, .int), (c7_6_x, .int), (c8_6_x, .int), (c9_6_x, .int), (c10_6_x, .int), (c11_6_x, .int), (c12_6_x, .int), (c13_6_x, .int), (c1_8_x, .int), (c2_8_x, .int), (c3_8_x, .int), (c1_10_x, .int), (c2_10_x, .boolean), (c1_12_x, .int), (c2_12_x, .int), (c3_12_x, .int), (c1_14_x, .int), (c2_14_x, .int), (c3_14_x, .int), (c4_14_x, .int), (c1_16_x, .int), (c2_16_x, .int), (c17_x, .object "NeverInLine$Shelf"), (c1_19_x, .long), (c1_21_x, .long), (c1_23_x, .long), (c1_25_x, .long), (c1_27_x, .long), (c1_29_x, .long), (c1_m, .int), (c2_m, .int), (c3_m, .int), (c4_m, .int), (c5_m, .int), (c6_m, .int), (c7_m, .int), (c8_m, .int), (c9_m, .int), (c10_m, .int), (c11_m, .int), (c12_m, .int), (c13_m, .int), (c14_m, .int), (c15_m, .boolean), (c16_m, .int), (c17_m, .int), (c18_m, .int), (c19_m, .int), (c20_m, .int), (c21_m, .int), (c22_m, .int), (c23_m, .int), (c24_m, .int), (c25_m, .long), (c26_m, .long)]) rfl rfl ?_
  refine gi_cs (c2 := 80) (s2 := 9083) rfl rfl ?_
  refine gi_astore_n (lv2 := [(2, .ref qm), (1, .ref qx), (0, .ref b)]) (pc := 15) K d_law_15 rfl (by decide) rfl ?_
  refine gi_iconst (pc := 16) K d_law_16 kc_0 ?_
  refine gi_istore_n (lv2 := [(3, .int 0), (2, .ref qm), (1, .ref qx), (0, .ref b)]) (pc := 17) K d_law_17 rfl (by decide) rfl ?_
  intro H locs ls hK hP hD hS hl
  obtain ⟨u1, eu1⟩ : ∃ u1 : gk_U, u1 = (D, (fun k => if k < 1000 then ([qx, q1_x, q1_2_x, q2_2_x, q3_x, q1_4_x, q2_4_x, q5_x, q1_6_x, q2_6_x, q3_6_x, q4_6_x, q5_6_x, q6_6_x, q7_6_x, q8_6_x, q9_6_x, q10_6_x, q11_6_x, q12_6_x, q13_6_x, q7_x, q1_8_x, q2_8_x, q3_8_x, q9_x, q1_10_x, q2_10_x, q11_x, q1_12_x, q2_12_x, q3_12_x, q13_x, q1_14_x, q2_14_x, q3_14_x, q4_14_x, q15_x, q1_16_x, q2_16_x, q17_x, q18_x, q20_x, q22_x, q24_x, q26_x, q28_x, q1_19_x, q1_21_x, q1_23_x, q1_25_x, q1_27_x, q1_29_x] : List Nat).getD k 0 else if k = 1000 then tA else tO), (fun k => ([0, 0, c1_2_x, c2_2_x, 0, c1_4_x, c2_4_x, 0, c1_6_x, c2_6_x, c3_6_x, c4_6_x, c5_6_x, c6_6_x, c7_6_x, c8_6_x, c9_6_x, c10_6_x, c11_6_x, c12_6_x, c13_6_x, 0, c1_8_x, c2_8_x, c3_8_x, 0, c1_10_x, c2_10_x, 0, c1_12_x, c2_12_x, c3_12_x, 0, c1_14_x, c2_14_x, c3_14_x, c4_14_x, 0, c1_16_x, c2_16_x, c17_x, 0, 0, 0, 0, 0, 0, c1_19_x, c1_21_x, c1_23_x, c1_25_x, c1_27_x, c1_29_x] : List Nat).getD k 0)) := ⟨_, rfl⟩
  obtain ⟨u2, eu2⟩ : ∃ u2 : gk_U, u2 = (D, (fun k => ([qm, q1_m, q2_m, q3_m, q4_m, q5_m, q6_m, q7_m, q8_m, q9_m, q10_m, q11_m, q12_m, q13_m, q14_m, q15_m, q16_m, q17_m, q18_m, q19_m, q20_m, q21_m, q22_m, q23_m, q24_m, q25_m, q26_m] : List Nat).getD k 0), (fun k => ([0, c1_m, c2_m, c3_m, c4_m, c5_m, c6_m, c7_m, c8_m, c9_m, c10_m, c11_m, c12_m, c13_m, c14_m, c15_m, c16_m, c17_m, c18_m, c19_m, c20_m, c21_m, c22_m, c23_m, c24_m, c25_m, c26_m] : List Nat).getD k 0)) := ⟨_, rfl⟩
  have hPP : va_P D gk_cl (gk_pz tx u1 gs_mx ++ gk_pz tm u2 gs_mm) H := by subst eu1; subst eu2; exact hP.sub [0, 1, 2, 3, 4, 5, 6, 7, 8, 9, 10, 11, 12, 13, 14, 15, 16, 17, 18, 19, 20, 21, 22, 23, 24, 25, 26, 27, 28, 29, 30, 31, 32, 33, 34, 35, 36, 37, 38, 39, 40, 41, 43, 45, 47, 49, 51, 42, 44, 46, 48, 50, 52, 53, 54, 55, 56, 57, 58, 59, 60, 61, 62, 63, 64, 65, 66, 67, 68, 69, 70, 71, 72, 73, 74, 75, 76, 77, 78, 79] rfl
  have hDD : va_D (fun q : Nat => s.heap.size ≤ q) (gk_pz tx u1 gs_mx ++ gk_pz tm u2 gs_mm) := by subst eu1; subst eu2; exact hD.sub [0, 1, 2, 3, 4, 5, 6, 7, 8, 9, 10, 11, 12, 13, 14, 15, 16, 17, 18, 19, 20, 21, 22, 23, 24, 25, 26, 27, 28, 29, 30, 31, 32, 33, 34, 35, 36, 37, 38, 39, 40, 41, 43, 45, 47, 49, 51, 42, 44, 46, 48, 50, 52, 53, 54, 55, 56, 57, 58, 59, 60, 61, 62, 63, 64, 65, 66, 67, 68, 69, 70, 71, 72, 73, 74, 75, 76, 77, 78, 79] (by decide +kernel) rfl
  have hK1 : va_K D gk_cl (gk_tys tx u1.2.2) s := by subst eu1; exact hK.sub [0, 1, 2, 3, 4, 5, 6, 7, 8, 9, 10, 11, 12, 13, 14, 15, 16, 17, 18, 19, 20, 21, 22, 23, 24, 25, 26, 27, 28, 29, 30, 31, 32, 33, 34, 35, 36, 37] rfl
  have hK2 : va_K D gk_cl (gk_tys tm u2.2.2) s := by subst eu2; exact hK.sub [38, 39, 40, 41, 42, 43, 44, 45, 46, 47, 48, 49, 50, 51, 52, 53, 54, 55, 56, 57, 58, 59, 60, 61, 62, 63] rfl
  have hu1 : u1.1 = D := by rw [eu1]
  have hu2 : u2.1 = D := by rw [eu2]
  have hT1 : ∀ (i : Nat) (q : String × String × List Int32), tx.2[i]? = some q → va_Z q.1 q.2.1 "[I" (.ref (u1.2.1 (1000 + i))) (fun q : Nat => s.heap.size ≤ q) s s.heap ∧ va_T .int (u1.2.1 (1000 + i)) q.2.2.length (fun j => .int (q.2.2.getD j 0)) (fun q : Nat => s.heap.size ≤ q) s s.heap := by
    intro i q hq
    subst eu1
    match i, hq with
    | 0, hq => cases hq; exact ⟨zA, hTA⟩
    | 1, hq => cases hq; exact ⟨zO, hTO⟩
    | i + 2, hq => simp [tx] at hq
  have hroom : 1000 ≤ room_1.frames ∧ 64 * 1000 ≤ room_1.locals ∧ 80 ≤ room_1.cells ∧ 9083 ≤ room_1.slots := ⟨Nat.le_of_ble_eq_true rfl, Nat.le_of_ble_eq_true rfl, Nat.le_of_ble_eq_true rfl, Nat.le_of_ble_eq_true rfl⟩
  have F1 : gk_F tx (lh_u (l, u1, p, e, room_1, s, m, #[Value.ref b], below, meth, c, 80, 9083, fun q : Nat => s.heap.size ≤ q) u1) lh_y 1000 := ⟨hx, hb, hml, hown, htW, ⟨by rw [show (gk_zu (lh_u (l, u1, p, e, room_1, s, m, #[Value.ref b], below, meth, c, 80, 9083, fun q : Nat => s.heap.size ≤ q) u1)).1 = D from hu1]; exact hK1, hT1, hNk⟩, fun q hq => hq, gs_all (gs_left hDD), hroom, hlocks, hr⟩
  have F2 : gk_F tm (lh_u (l, u1, p, e, room_1, s, m, #[Value.ref b], below, meth, c, 80, 9083, fun q : Nat => s.heap.size ≤ q) u2) lh_y 1000 := ⟨hx, hb, hml, hown, htW, ⟨by rw [show (gk_zu (lh_u (l, u1, p, e, room_1, s, m, #[Value.ref b], below, meth, c, 80, 9083, fun q : Nat => s.heap.size ≤ q) u2)).1 = D from hu2]; exact hK2, fun i q hq => by simp [tm] at hq, hNk⟩, fun q hq => hq, gs_all (gs_right hDD), hroom, hlocks, hr⟩
  have FF : lh_F (l, u1, p, e, room_1, s, m, #[Value.ref b], below, meth, c, 80, 9083, fun q : Nat => s.heap.size ≤ q) u1 u2 b L xs := ⟨F1, F2, gs_dis hDD, hX, hbl, Nat.not_le.mpr hbl⟩
  obtain ⟨n, hn⟩ := sim_all xs L hL
  have hgo := s_L (z := (l, u1, p, e, room_1, s, m, #[Value.ref b], below, meth, c, 80, 9083, fun q : Nat => s.heap.size ≤ q)) FF (gs_end C0) n 0 gs_mx gs_mm hn
  refine hgo H locs ls (by rw [hu1]; exact gs_pl hPP) (by rw [hu2]; exact gs_pr hPP) hS ?_
  have e1 : u1.2.1 0 = qx := by rw [eu1]; rfl
  have e2 : u2.2.1 0 = qm := by rw [eu2]; rfl
  rw [e1, e2]
  exact lv_sub hl [3, 2, 1, 0] rfl
-- ===== YOUR PART ENDS =====
set_option maxHeartbeats 4000000 in
theorem lw_walk (l : Launch) (hflags : l.flags = flags0) (b : Addr) (xs : List Int32) : MetFree l x (headSpec (Jvm.Cond.code x code maxLocals ret :: tables_1) room_1) (lw_P b xs) (fun _ _ _ _ _ => True) lw_Q := by
  refine MetFree.of_bodyS (code := code) (maxLocals := maxLocals) (ret := ret) (by decide) ?_ ?_
  · intro args s m h hn
    obtain ⟨meth, c, h1, h2, h3, h4, h5, h6, -, -⟩ := Cond.code_spec hn (atoms_spec (ws := Jvm.Cond.code x code maxLocals ret :: tables_1) h _ List.mem_cons_self)
    exact ⟨meth, c, h1, h2, h3, h4, h5, h6⟩
  · intro p e s m args below meth c s₁ B hml0 hP _
    obtain ⟨rfl, hx, hbd, hgv⟩ := hP
    obtain ⟨scr, harrAt, hlist, hof, hsmall⟩ := hx
    obtain ⟨hcb, hkn, -, -⟩ := State.arrayAt?_spec harrAt
    have hown : s.vm.findClass R_law = some m.cls := findClass_of_methodNamed B.named
    have hts0 : ∀ c ∈ (Jvm.Cond.code x code maxLocals ret :: tables_1), c.before #[Value.ref b] s = true := atoms_spec (ws := Jvm.Cond.code x code maxLocals ret :: tables_1) B.pre
    have hts : ∀ w ∈ lw_tbl, w.before #[Value.ref b] s = true := k2_hts_sels lw_privs (fun w hw => hts0 w (List.mem_cons_of_mem _ hw)) lw_privs_ok
    have hml : c.maxLocals = 4 := B.maxLocals_eq (hts0 _ List.mem_cons_self)
    have X₀ : Stand p l e room_1 s m #[Value.ref b] below meth c s₁ [] 0 0 := Stand.of_body B
    have hh0 : s₁.heap = s.heap := by rw [B.state]; rfl
    have hsz : scr.slots.size = xs.length := by rw [← Array.length_toList, hlist, List.length_map]
    have hval : ∀ j : Nat, j < xs.length → scr.slots[j]? = some (.int (xs.getD j 0)) := fun j hj => by
      rw [← Array.getElem?_toList, hlist]
      simp [hj]
    have hbl : b < s.heap.size := (Array.getElem?_eq_some_iff.mp hcb).1
    have hX : va_X b xs.length (fun j => xs.getD j 0) s s.heap := ⟨scr, hcb, hof, hkn, hsz, hval⟩
    have K : W p l e room_1 s m #[Value.ref b] below meth c s₁.heap [] 0 0 (lw_Z below #[Value.ref b] s) (entryFrame m ([Value.ref b] : List Value).toArray 4) := by
      rw [hh0]
      exact whole_start l hflags hbd ⟨B.exec, B.bytes, B.returns, hml, hown, hts, hX, hbl, B.notSynchronized, hgv⟩
    obtain ⟨t, a1, o, b1, b2, b3⟩ := K s₁ rfl X₀
    exact ⟨t, o, a1, b1, b2, b3⟩
theorem lw_pre_spec {args : Array Value} {s : State} (h : (Jvm.Cond.and given_1 narrow_1).before args s = true) (hr : rest_1_c.before args s = true) : ∃ (b : Addr) (xs : List Int32), lw_P b xs args s := by
  have hs := flat_of_before _ h
  have hq := flat_of_before _ hr
  have hc : (Cond.count 1).before args s = true := hs _ (by decide +kernel)
  have harr : (Cond.arrayOf (.arg 0) .int).before args s = true := hs _ (by decide +kernel)
  have hle : (Cond.le (.length (.arg 0)) (.int 3072)).before args s = true := hs _ (by decide +kernel)
  have hlen : (Cond.isInt (.length (.arg 0))).before args s = true := hq _ (by decide +kernel)
  have hall : (Cond.all (.arg 0) (.isInt (.elem (.arg 0) (.index 0)))).before args s = true := hq _ (by decide +kernel)
  obtain ⟨b, xs, hb, hx⟩ := State.ints_of_pre rfl harr hlen hall
  have hsm : xs.length < 2 ^ 31 := hx.choose_spec.2.2.2
  have hev : (Term.length (.arg 0)).eval args s none [] s = some (.int xs.length.toInt32) := hx.length_eval hb
  have hv := Cond.le_ints hev (show (Term.int 3072).eval args s none [] s = some (.int 3072) from rfl)
  have hd : xs.length.toInt32 ≤ 3072 := by
    simpa [Cond.before, Cond.holds, hv] using hle
  have hN : xs.length ≤ 3072 := (Int32.ofNat_le_ofNat hsm (by decide)).mp (show Int32.ofNat xs.length ≤ Int32.ofNat 3072 from hd)
  exact ⟨b, xs, Cond.one_arg hc (show args[0]? = some (.ref b) from hb), hx, hN, h⟩
theorem lw_comes (l : Launch) (hflags : l.flags = flags0) : Comes l x (Jvm.Cond.code x code maxLocals ret :: tables_1) room_1 (fun tb e args s => Calls_1 tb e args s ∧ rest_1 tb e args s ∧ Pre_1 tb e args s)
    (fun _ _ args s o t => lw_Q args s o t) := by
  intro p e ha hc hk s m args below hf hfit hheap happ hpre
  obtain ⟨b, xs, hP⟩ := lw_pre_spec hpre.2.2 hpre.2.1
  obtain ⟨k, o, h1, h2, h3, hQ⟩ := lw_walk l hflags b xs p e ha hc hk s m args below hf ((Spec.applies_iff_loose hf).mp happ).1 hP trivial
  exact ⟨k, o, h1, h2, h3, hQ⟩
theorem lw_frame {s t : State} {o : Outcome} {args : Array Value} (h : Framed s o t [] 600000 7302250) :
    Framed s o t (fieldLocs frame_1_writes args s ++ arrayLocs frame_1_arrays args s ++ staticLocs frame_1_statics s) 600000 7302250 := h
theorem lw_limb (L : Cond) (hL : ∀ (args : Array Value) (s t : State), L.after args s (.returned (some (.int 1))) t = true) :
    ArmFor flags0 classFile x code maxLocals ret World_1 tables_1 room_1 Calls_1 rest_1 Pre_1
      (fun tb e a s o t => postC L tb e a s o t ∧ Framed s o t (fieldLocs frame_1_writes a s ++ arrayLocs frame_1_arrays a s ++ staticLocs frame_1_statics s) 600000 7302250) := by
  intro l hflags _ _ p e ha hc hk s m args below hf hfit hheap happ hpre
  obtain ⟨k, o, h1, h2, h3, rfl, hF⟩ := lw_comes l hflags p e ha hc hk s m args below hf hfit hheap happ hpre
  exact ⟨k, _, h1, h2, h3, hL args s _, lw_frame hF⟩
theorem i_vc : Claimed_1_1 ∧ Claimed_1_2 := ⟨lw_limb limb_1_1 (fun args s t => by simp [limb_1_1, Cond.after, Cond.holds, Cond.value]), lw_limb limb_1_2 (fun args s t => Cond.after_iff.mpr (by
  first | (rw [show limb_1_2 = Cond.eq .result (.int 1) from rfl, Cond.eq_ints (x := 1) (y := 1) rfl rfl]; simp; done) | (simp [limb_1_2, Cond.value, Term.eval]; done)))⟩

