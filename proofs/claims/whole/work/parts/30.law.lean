theorem kc_6 : Int32.ofInt 6 = 6 := by decide +kernel
theorem kb_32 : (Int8.ofInt 32).toInt32 = 32 := by decide +kernel
/-! THE LAW'S FRAME: two worlds side by side, the script -/
theorem lh_after {t t2 : gk_T} {z : gk_Z} {u2 : gk_U} {y : gk_Y} {lev pc : Nat} {Q : State → Prop} {H : Heap} {locs : List Loc} {ls : Array Slot} {st0 rest : List Value} {a : Array Value} {r : Option Value} {mem2 mo : gk_M} (K : gk_F t z y lev) (hS : va_S (gk_zA z) (gk_zs z).heap H locs)
    (hO : va_P u2.1 gk_cl (gk_pz t2 u2 mo) H) (hdis : ∀ k j, k < t.1.length → j < t2.1.length → (gk_zu z).2.1 k ≠ u2.2.1 j)
    (hr : va_Run (gk_zp z) (gk_zl z) (gk_ze z) (gk_zR z) (gk_zs z) (gk_zm z) (gk_za z) (gk_zb z) (gk_zt z) (gk_zc z) H locs (gk_z1 z) (gk_z2 z) 0 0 (F0 (gk_zm z) pc ls st0) rest (gk_Q t (gk_zu z) (gk_A t (gk_zu z) H.size) r mem2 a) (gk_A t (gk_zu z) H.size))
    (kk : ∀ (H1 : Heap) (locs1 : List Loc), va_P (gk_zu z).1 gk_cl (gk_pz t (gk_zu z) mem2) H1 → va_P u2.1 gk_cl (gk_pz t2 u2 mo) H1 → va_S (gk_zA z) (gk_zs z).heap H1 locs1 → gk_w z H1 locs1 Q (F0 (gk_zm z) (pc + 3) ls ((r.map (gk_v (gk_zu z).2.1)).toList ++ rest))) : gk_w z H locs Q (F0 (gk_zm z) pc ls st0) := by
  obtain ⟨hx, hb, hml, hown, hts, hK, hA, hD, hR, hlocks, hret⟩ := id K
  have hF := gk_free (t := t) (u := gk_zu z) (sz := H.size) hD (fun q hq => hA q (Nat.le_trans hS.1 hq))
  intro T hT X
  obtain ⟨v, st0', t', T', L, h0, X', hL, e1, e2, ⟨hv, hp, hz, hk⟩, sts⟩ := hr T hT X
  have hv' : v = r.map (gk_v (gk_zu z).2.1) := by injection hv
  subst hv'
  rw [h0] at hz hk
  have hO2 : va_P u2.1 gk_cl (gk_pz t2 u2 mo) T'.heap := by
    refine hO.kept (fun j q hj => ?_)
    have hlt : q.1 < H.size := (hO j q hj).lt
    have hjl : j < t2.1.length := by
      have := (List.getElem?_eq_some_iff.mp hj).1
      simpa [gk_pz, gk_pw] using this
    obtain ⟨c, hc⟩ : ∃ c, t2.1[j]? = some c := ⟨_, List.getElem?_eq_getElem hjl⟩
    have h2 := gk_pw_at (ad := u2.2.1) (dA := u2.2.2) (mem := mo) hc
    rw [show (gk_pz t2 u2 mo)[j]? = _ from h2] at hj
    cases hj
    rw [e1]
    refine hk _ hlt (fun hq => ?_)
    rcases hq with ⟨k, hk1, hk2⟩ | hq
    · exact hdis k j hk1 hjl hk2.symm
    · exact absurd hq (Nat.not_le.mpr hlt)
  obtain ⟨t2', a1, b1⟩ := kk T'.heap (locs ++ L) (by rw [e1]; exact hp) hO2 ⟨Nat.le_trans hS.1 (by rw [e1]; exact hz), fun q h1 h2 => by rw [e1, hk q (Nat.lt_of_lt_of_le h1 hS.1) (fun w => h2 (hF q w))]; exact hS.2.1 q h1 h2, fun q hq => by
      rcases List.mem_append.mp hq with h | h
      · exact hS.2.2 q h
      · exact hF _ (hL q h)⟩ T' rfl X'
  exact ⟨t2', sts t2' a1, b1⟩
theorem lh_call {t t2 : gk_T} {z : gk_Z} {u2 : gk_U} {y : gk_Y} {lev pc : Nat} {Q : State → Prop} {H : Heap} {locs : List Loc} {ls : Array Slot} (K : gk_F t z y lev) {yc : gk_Y} {idx k ci lev2 n : Nat} {fs : List gk_f} {As st st0 : List Value} {r : Option Value} {mem mem2 mo : gk_M} {T : u_T} {N : Nat} (hd : decode y.2.1 pc = .ok (.invokevirtual idx, 3)) (ml : gk_MV y.1.cls idx yc) (mc : gk_MC yc n) (hn : As.length = n) (hk : t.1[k]? = some (.inr (ci, fs))) (hc : gk_cl[ci]? = some (yc.1.cls, T, N)) (hC : gk_C t (gk_zl z) (gk_zu z) yc lev2 (.ref k :: As) mem r mem2) (hlev : lev2 < lev) (hst : st0 = (As.map (gk_v (gk_zu z).2.1)).reverse ++ .ref ((gk_zu z).2.1 k) :: st) (hrest : (st.map fun v => v.category).sum ≤ 8)
    (hP : va_P (gk_zu z).1 gk_cl (gk_pz t (gk_zu z) mem) H) (hS : va_S (gk_zA z) (gk_zs z).heap H locs) (hl : ls.size = y.2.2.1) (hO : va_P u2.1 gk_cl (gk_pz t2 u2 mo) H) (hdis : ∀ k j, k < t.1.length → j < t2.1.length → (gk_zu z).2.1 k ≠ u2.2.1 j)
    (kk : ∀ (H1 : Heap) (locs1 : List Loc), va_P (gk_zu z).1 gk_cl (gk_pz t (gk_zu z) mem2) H1 → va_P u2.1 gk_cl (gk_pz t2 u2 mo) H1 → va_S (gk_zA z) (gk_zs z).heap H1 locs1 → gk_w z H1 locs1 Q (F0 (gk_zm z) (pc + 3) ls ((r.map (gk_v (gk_zu z).2.1)).toList ++ st))) : gk_w z H locs Q (F0 (gk_zm z) pc ls st0) := by
  obtain ⟨hx, hb, hml, hown, hts, hK, hA, hD, hR, hlocks, hret⟩ := id K
  obtain ⟨m1, m2, m3⟩ := ml
  obtain ⟨d1, d2, d3, d4, d5⟩ := mc
  subst hst
  have hgood : GoodIn gk_W (wsV y.1.cls idx yc.1.cls yc.1 (Cond.code yc.1 yc.2.1 yc.2.2.1 yc.2.2.2 :: gk_W)) := by
    intro w hw
    have hw2 : w ∈ gk_W := by
      unfold wsV at hw
      rcases List.mem_append.mp hw with h | h
      · simp only [List.mem_cons, List.not_mem_nil, or_false] at h
        rcases h with rfl | rfl | rfl | rfl
        · exact m1
        · exact m2
        · exact m3
        · exact d2
      · rcases List.mem_cons.mp h with rfl | h
        · exact d1
        · exact h
    exact ⟨hw2, good_of_word (List.mem_filter.mp hw2).2⟩
  have hroom : (gk_rm lev2).frames + 1 ≤ (gk_zR z).frames ∧ 8 + (yc.2.2.1 + 11) + (gk_rm lev2).locals ≤ (gk_zR z).locals := by
    obtain ⟨r1, r2, -, -⟩ := hR
    show lev2 + 1 ≤ _ ∧ 8 + (yc.2.2.1 + 11) + 64 * lev2 ≤ _
    omega
  have hrun := va_runV (As := As.map (gk_v (gk_zu z).2.1)) (b := (gk_zu z).2.1 k) (rest := st) (g := F0 (gk_zm z) pc ls ((As.map (gk_v (gk_zu z).2.1)).reverse ++ .ref ((gk_zu z).2.1 k) :: st)) (H := H) (locs := locs) (cells := gk_z1 z) (slots := gk_z2 z) (e := gk_ze z) (below := gk_zb z) (meth := gk_zt z) ⟨hx, hb, hml, hown, hts⟩ (hC H.size) (cwV n hts hgood rfl rfl rfl ⟨rfl, d3⟩ hroom) ⟨gk_blind, va_recv hK.1 hP hc (gk_pw_at hk), gk_pre K hP hS (.ref k :: As)⟩ rfl (by simp [hn]) hl rfl (lv_room hrest) hd ⟨hR.2.2.1, hR.2.2.2⟩
  exact lh_after K hS hO hdis hrun kk
/-- the law itself, as a method -/
abbrev lh_y : gk_Y := (x, code, 4, ret)
def lh_u (z : gk_Z) (u : gk_U) : gk_Z := (z.1, u, z.2.2)
/-- the facts of the law's frame -/
def lh_F (z : gk_Z) (u1 u2 : gk_U) (b L : Nat) (xs : Nat → Int32) : Prop :=
  gk_F tx (lh_u z u1) lh_y 1000 ∧ gk_F tm (lh_u z u2) lh_y 1000 ∧ (∀ k j, k < tx.1.length → j < tm.1.length → u1.2.1 k ≠ u2.2.1 j) ∧ va_X b L xs (gk_zs z) (gk_zs z).heap ∧ b < (gk_zs z).heap.size ∧ ¬ gk_zA z b
def lh_G (z : gk_Z) (u1 u2 : gk_U) (b : Nat) (Q : State → Prop) (mx mm : gk_M) (i : Int32) (st : List Value) (pc : Nat) : Prop :=
  ∀ (H : Heap) (locs : List Loc) (ls : Array Slot), va_P u1.1 gk_cl (gk_pz tx u1 mx) H → va_P u2.1 gk_cl (gk_pz tm u2 mm) H → va_S (gk_zA z) (gk_zs z).heap H locs → lv_has ls 4 [(0, .ref b), (1, .ref (u1.2.1 0)), (2, .ref (u2.2.1 0)), (3, .int i)] → gk_w z H locs Q (F0 (gk_zm z) pc ls st)
def gk_as {β : Type} (xs : Nat → Int32) (L : Nat) (i : Int32) (c : Int32 → Option β) : Option β := if i < 0 ∨ L ≤ i.toNatClampNeg then none else c (xs i.toNatClampNeg)
section LH
variable {z : gk_Z} {u1 u2 : gk_U} {b L : Nat} {xs : Nat → Int32} {Q : State → Prop} {mx mm : gk_M} {i : Int32} {st : List Value} {pc : Nat}
theorem lh_x (K : lh_F z u1 u2 b L xs) : (gk_zp z).tables.exec = Jvm.exec := K.1.1
theorem lh_b (K : lh_F z u1 u2 b L xs) : (gk_zc z).code = code := K.1.2.1
theorem lh_iconst (K : lh_F z u1 u2 b L xs) {n : Int} {v : Int32} (hd : decode lh_y.2.1 pc = .ok (.iconst n, 1)) (hv : Int32.ofInt n = v) (kk : lh_G z u1 u2 b Q mx mm i (.int v :: st) (pc + 1)) : lh_G z u1 u2 b Q mx mm i st pc := fun H locs ls h1 h2 hS hl => lv_iconst (lh_x K) (lh_b K) hd hv (kk H locs ls h1 h2 hS hl)
theorem lh_bipush (K : lh_F z u1 u2 b L xs) {n : Int} {v : Int32} (hd : decode lh_y.2.1 pc = .ok (.bipush n, 2)) (hv : (Int8.ofInt n).toInt32 = v) (kk : lh_G z u1 u2 b Q mx mm i (.int v :: st) (pc + 2)) : lh_G z u1 u2 b Q mx mm i st pc := fun H locs ls h1 h2 hS hl => lv_bipush (lh_x K) (lh_b K) hd hv (kk H locs ls h1 h2 hS hl)
theorem lh_al0 (K : lh_F z u1 u2 b L xs) (hd : decode lh_y.2.1 pc = .ok (.aload_n 0, 1)) (kk : lh_G z u1 u2 b Q mx mm i (.ref b :: st) (pc + 1)) : lh_G z u1 u2 b Q mx mm i st pc := fun H locs ls h1 h2 hS hl => lv_aload_n (lh_x K) (lh_b K) hd rfl (lv_at hl 0 rfl) (kk H locs ls h1 h2 hS hl)
theorem lh_al1 (K : lh_F z u1 u2 b L xs) (hd : decode lh_y.2.1 pc = .ok (.aload_n 1, 1)) (kk : lh_G z u1 u2 b Q mx mm i (.ref (u1.2.1 0) :: st) (pc + 1)) : lh_G z u1 u2 b Q mx mm i st pc := fun H locs ls h1 h2 hS hl => lv_aload_n (lh_x K) (lh_b K) hd rfl (lv_at hl 1 rfl) (kk H locs ls h1 h2 hS hl)
theorem lh_al2 (K : lh_F z u1 u2 b L xs) (hd : decode lh_y.2.1 pc = .ok (.aload_n 2, 1)) (kk : lh_G z u1 u2 b Q mx mm i (.ref (u2.2.1 0) :: st) (pc + 1)) : lh_G z u1 u2 b Q mx mm i st pc := fun H locs ls h1 h2 hS hl => lv_aload_n (lh_x K) (lh_b K) hd rfl (lv_at hl 2 rfl) (kk H locs ls h1 h2 hS hl)
theorem lh_il3 (K : lh_F z u1 u2 b L xs) (hd : decode lh_y.2.1 pc = .ok (.iload_n 3, 1)) (kk : lh_G z u1 u2 b Q mx mm i (.int i :: st) (pc + 1)) : lh_G z u1 u2 b Q mx mm i st pc := fun H locs ls h1 h2 hS hl => lv_iload_n (lh_x K) (lh_b K) hd rfl (lv_at hl 3 rfl) (kk H locs ls h1 h2 hS hl)
theorem lh_iadd (K : lh_F z u1 u2 b L xs) {v w : Int32} (hd : decode lh_y.2.1 pc = .ok (.iadd, 1)) (kk : lh_G z u1 u2 b Q mx mm i (.int (v + w) :: st) (pc + 1)) : lh_G z u1 u2 b Q mx mm i (.int w :: .int v :: st) pc := fun H locs ls h1 h2 hS hl => lv_iadd (lh_x K) (lh_b K) hd (kk H locs ls h1 h2 hS hl)
theorem lh_isub (K : lh_F z u1 u2 b L xs) {v w : Int32} (hd : decode lh_y.2.1 pc = .ok (.isub, 1)) (kk : lh_G z u1 u2 b Q mx mm i (.int (v - w) :: st) (pc + 1)) : lh_G z u1 u2 b Q mx mm i (.int w :: .int v :: st) pc := fun H locs ls h1 h2 hS hl => lv_isub (lh_x K) (lh_b K) hd (kk H locs ls h1 h2 hS hl)
theorem lh_iand (K : lh_F z u1 u2 b L xs) {v w : Int32} (hd : decode lh_y.2.1 pc = .ok (.iand, 1)) (kk : lh_G z u1 u2 b Q mx mm i (.int (v &&& w) :: st) (pc + 1)) : lh_G z u1 u2 b Q mx mm i (.int w :: .int v :: st) pc := fun H locs ls h1 h2 hS hl => lv_iand (lh_x K) (lh_b K) hd (kk H locs ls h1 h2 hS hl)
theorem lh_i2l (K : lh_F z u1 u2 b L xs) {v : Int32} (hd : decode lh_y.2.1 pc = .ok (.i2l, 1)) (kk : lh_G z u1 u2 b Q mx mm i (.long v.toInt64 :: st) (pc + 1)) : lh_G z u1 u2 b Q mx mm i (.int v :: st) pc := fun H locs ls h1 h2 hS hl => lv_i2l (lh_x K) (lh_b K) hd rfl (kk H locs ls h1 h2 hS hl)
theorem lh_lshl (K : lh_F z u1 u2 b L xs) {v : Int64} {w : Int32} (hd : decode lh_y.2.1 pc = .ok (.lshl, 1)) (kk : lh_G z u1 u2 b Q mx mm i (.long (v <<< (w.toInt64 &&& 63)) :: st) (pc + 1)) : lh_G z u1 u2 b Q mx mm i (.int w :: .long v :: st) pc := fun H locs ls h1 h2 hS hl => lv_lshl (lh_x K) (lh_b K) hd rfl (kk H locs ls h1 h2 hS hl)
theorem lh_land (K : lh_F z u1 u2 b L xs) {v w : Int64} (hd : decode lh_y.2.1 pc = .ok (.land, 1)) (kk : lh_G z u1 u2 b Q mx mm i (.long (v &&& w) :: st) (pc + 1)) : lh_G z u1 u2 b Q mx mm i (.long w :: .long v :: st) pc := fun H locs ls h1 h2 hS hl => lv_land (lh_x K) (lh_b K) hd (kk H locs ls h1 h2 hS hl)
theorem lh_lor (K : lh_F z u1 u2 b L xs) {v w : Int64} (hd : decode lh_y.2.1 pc = .ok (.lor, 1)) (kk : lh_G z u1 u2 b Q mx mm i (.long (v ||| w) :: st) (pc + 1)) : lh_G z u1 u2 b Q mx mm i (.long w :: .long v :: st) pc := fun H locs ls h1 h2 hS hl => lv_lor (lh_x K) (lh_b K) hd (kk H locs ls h1 h2 hS hl)
theorem lh_ldc2 (K : lh_F z u1 u2 b L xs) {n : Nat} {v : Int64} (hd : decode lh_y.2.1 pc = .ok (.ldc2_w n, 3)) (hw : Cond.constantLong lh_y.1.cls n v ∈ gk_W) (kk : lh_G z u1 u2 b Q mx mm i (.long v :: st) (pc + 3)) : lh_G z u1 u2 b Q mx mm i st pc := fun H locs ls h1 h2 hS hl => lv_ldc2 (lh_x K) (lh_b K) K.1.2.2.2.1 (K.1.2.2.2.2.1 _ hw) hd (kk H locs ls h1 h2 hS hl)
theorem lh_goto (K : lh_F z u1 u2 b L xs) {off : Int} {tgt : Nat} (hd : decode lh_y.2.1 pc = .ok (.goto off, 3)) (ht : (pc : Int) + off = (tgt : Int)) (kk : lh_G z u1 u2 b Q mx mm i st tgt) : lh_G z u1 u2 b Q mx mm i st pc := fun H locs ls h1 h2 hS hl => lv_goto (lh_x K) (lh_b K) hd ht (kk H locs ls h1 h2 hS hl)
theorem lh_iinc (K : lh_F z u1 u2 b L xs) {n : Int} {w : Int32} (hd : decode lh_y.2.1 pc = .ok (.iinc 3 n, 3)) (hw : Int32.ofInt n = w) (kk : lh_G z u1 u2 b Q mx mm (i + w) st (pc + 3)) : lh_G z u1 u2 b Q mx mm i st pc := by
  intro H locs ls h1 h2 hS hl
  exact lv_iinc (v := i + w) (lv' := [(3, .int (i + w)), (0, .ref b), (1, .ref (u1.2.1 0)), (2, .ref (u2.2.1 0))]) (lh_x K) (lh_b K) hd hl (k := 3) rfl (by rw [hw]) (by decide) rfl (fun ls2 hl2 => kk H locs ls2 h1 h2 hS (lv_sub hl2 [1, 2, 3, 0] rfl))
theorem lh_len (K : lh_F z u1 u2 b L xs) (hd : decode lh_y.2.1 pc = .ok (.arraylength, 1)) (kk : lh_G z u1 u2 b Q mx mm i (.int (Int32.ofNat L) :: st) (pc + 1)) : lh_G z u1 u2 b Q mx mm i (.ref b :: st) pc := fun H locs ls h1 h2 hS hl => va_slen (lh_x K) (lh_b K) K.2.2.2.1 K.2.2.2.2.1 K.2.2.2.2.2 hS hd (kk H locs ls h1 h2 hS hl)
theorem lh_sld (K : lh_F z u1 u2 b L xs) {j : Int32} {β : Type} {c : Int32 → Option β} {r : β} (hd : decode lh_y.2.1 pc = .ok (.iaload, 1)) (h : gk_as xs L j c = some r) (kk : ∀ v, c v = some r → lh_G z u1 u2 b Q mx mm i (.int v :: st) (pc + 1)) : lh_G z u1 u2 b Q mx mm i (.int j :: .ref b :: st) pc := by
  intro H locs ls h1 h2 hS hl
  by_cases hin : j < 0 ∨ L ≤ j.toNatClampNeg
  · rw [gk_as, if_pos hin] at h
    cases h
  · rw [gk_as, if_neg hin] at h
    exact va_sld (lh_x K) (lh_b K) K.2.2.2.1 K.2.2.2.2.1 K.2.2.2.2.2 hS hin hd (kk _ h H locs ls h1 h2 hS hl)
theorem lh_gt (K : lh_F z u1 u2 b L xs) {off : Int} {tgt : Nat} {v w : Int32} {β : Type} {a c r : Option β} (hd : decode lh_y.2.1 pc = .ok (.if_icmp .gt off, 3)) (ht : (pc : Int) + off = (tgt : Int)) (h : (if w < v then a else c) = r) (kt : a = r → lh_G z u1 u2 b Q mx mm i st tgt) (kf : c = r → lh_G z u1 u2 b Q mx mm i st (pc + 3)) : lh_G z u1 u2 b Q mx mm i (.int w :: .int v :: st) pc :=
  fun H locs ls h1 h2 hS hl => lv_icmp_gt (lh_x K) (lh_b K) hd ht (fun q => kt (by rw [if_pos q] at h; exact h) H locs ls h1 h2 hS hl) (fun q => kf (by rw [if_neg q] at h; exact h) H locs ls h1 h2 hS hl)
theorem lh_eq (K : lh_F z u1 u2 b L xs) {off : Int} {tgt : Nat} {v w : Int32} {β : Type} {a : Option β} {r : β} (hd : decode lh_y.2.1 pc = .ok (.if_icmp .eq off, 3)) (ht : (pc : Int) + off = (tgt : Int)) (h : (if v = w then a else none) = some r) (kt : a = some r → lh_G z u1 u2 b Q mx mm i st tgt) : lh_G z u1 u2 b Q mx mm i (.int w :: .int v :: st) pc :=
  fun H locs ls h1 h2 hS hl => lv_icmp_eq (lh_x K) (lh_b K) hd ht (fun q => kt (by rw [if_pos q] at h; exact h) H locs ls h1 h2 hS hl) (fun q => by rw [if_neg q] at h; cases h)
theorem lh_leq (K : lh_F z u1 u2 b L xs) {off : Int} {tgt : Nat} {v w : Int64} {β : Type} {a : Option β} {r : β} (hc : decode lh_y.2.1 pc = .ok (.lcmp, 1)) (hd : decode lh_y.2.1 (pc + 1) = .ok (.ifCond .eq off, 3)) (ht : ((pc + 1 : Nat) : Int) + off = (tgt : Int)) (h : (if v = w then a else none) = some r) (kt : a = some r → lh_G z u1 u2 b Q mx mm i st tgt) : lh_G z u1 u2 b Q mx mm i (.long w :: .long v :: st) pc :=
  fun H locs ls h1 h2 hS hl => W.lcmp (lh_x K) (lh_b K) hc (lv_if_eq (lh_x K) (lh_b K) hd ht (fun q => kt (by rw [if_pos ((gk_lcq_eq v w).mp q)] at h; exact h) H locs ls h1 h2 hS hl) (fun q => by rw [if_neg (fun q2 => q ((gk_lcq_eq v w).mpr q2))] at h; cases h))
theorem lh_tIn (K : lh_F z u1 u2 b L xs) {dflt lo hi off : Int} {offs : Array Int} {len tgt : Nat} {v c : Int32} (hd : decode lh_y.2.1 pc = .ok (.tableswitch dflt lo hi offs, len)) (hx : v = c) (h1 : ¬ c.toInt < lo) (h2 : ¬ hi < c.toInt) (ho : offs[(c.toInt - lo).toNat]? = some off) (ht : (pc : Int) + off = (tgt : Int)) (kk : lh_G z u1 u2 b Q mx mm i st tgt) : lh_G z u1 u2 b Q mx mm i (.int v :: st) pc := by
  subst hx
  exact fun H locs ls g1 g2 hS hl => lv_tableIn (lh_x K) (lh_b K) hd h1 h2 ho ht (kk H locs ls g1 g2 hS hl)
theorem lh_tOut (K : lh_F z u1 u2 b L xs) {dflt lo hi : Int} {offs : Array Int} {len tgt : Nat} {v : Int32} (hd : decode lh_y.2.1 pc = .ok (.tableswitch dflt lo hi offs, len)) (h : v.toInt < lo ∨ hi < v.toInt) (ht : (pc : Int) + dflt = (tgt : Int)) (kk : lh_G z u1 u2 b Q mx mm i st tgt) : lh_G z u1 u2 b Q mx mm i (.int v :: st) pc :=
  fun H locs ls g1 g2 hS hl => lv_tableOut (lh_x K) (lh_b K) hd h ht (kk H locs ls g1 g2 hS hl)
theorem lh_cXi (K : lh_F z u1 u2 b L xs) {yc : gk_Y} {idx lev2 n : Nat} {As st0 : List Value} {v : Int32} {mx2 : gk_M} (hd : decode lh_y.2.1 pc = .ok (.invokevirtual idx, 3)) (ml : gk_MV lh_y.1.cls idx yc) (mc : gk_MC yc n) (hn : As.length = n) (hc : gk_cl[9]? = some (yc.1.cls, cl_T9, 9)) (hC : gk_C tx (gk_zl z) u1 yc lev2 (.ref 0 :: As) mx (some (.int v)) mx2) (hlev : lev2 < 1000) (hst : st0 = (As.map (gk_v u1.2.1)).reverse ++ .ref (u1.2.1 0) :: st) (hrest : (st.map fun v => v.category).sum ≤ 8) (kk : lh_G z u1 u2 b Q mx2 mm i (.int v :: st) (pc + 3)) : lh_G z u1 u2 b Q mx mm i st0 pc := by
  intro H locs ls h1 h2 hS hl
  exact lh_call (z := lh_u z u1) K.1 hd ml mc hn tx_0 hc hC hlev hst hrest h1 hS hl.1 h2 K.2.2.1 (fun H1 locs1 g1 g2 gS => kk H1 locs1 ls g1 g2 gS hl)
theorem lh_cXl (K : lh_F z u1 u2 b L xs) {yc : gk_Y} {idx lev2 n : Nat} {As st0 : List Value} {v : Int64} {mx2 : gk_M} (hd : decode lh_y.2.1 pc = .ok (.invokevirtual idx, 3)) (ml : gk_MV lh_y.1.cls idx yc) (mc : gk_MC yc n) (hn : As.length = n) (hc : gk_cl[9]? = some (yc.1.cls, cl_T9, 9)) (hC : gk_C tx (gk_zl z) u1 yc lev2 (.ref 0 :: As) mx (some (.long v)) mx2) (hlev : lev2 < 1000) (hst : st0 = (As.map (gk_v u1.2.1)).reverse ++ .ref (u1.2.1 0) :: st) (hrest : (st.map fun v => v.category).sum ≤ 8) (kk : lh_G z u1 u2 b Q mx2 mm i (.long v :: st) (pc + 3)) : lh_G z u1 u2 b Q mx mm i st0 pc := by
  intro H locs ls h1 h2 hS hl
  exact lh_call (z := lh_u z u1) K.1 hd ml mc hn tx_0 hc hC hlev hst hrest h1 hS hl.1 h2 K.2.2.1 (fun H1 locs1 g1 g2 gS => kk H1 locs1 ls g1 g2 gS hl)
theorem lh_cMi (K : lh_F z u1 u2 b L xs) {yc : gk_Y} {idx lev2 n : Nat} {As st0 : List Value} {v : Int32} {mm2 : gk_M} (hd : decode lh_y.2.1 pc = .ok (.invokevirtual idx, 3)) (ml : gk_MV lh_y.1.cls idx yc) (mc : gk_MC yc n) (hn : As.length = n) (hc : gk_cl[10]? = some (yc.1.cls, cl_T10, 49)) (hC : gk_C tm (gk_zl z) u2 yc lev2 (.ref 0 :: As) mm (some (.int v)) mm2) (hlev : lev2 < 1000) (hst : st0 = (As.map (gk_v u2.2.1)).reverse ++ .ref (u2.2.1 0) :: st) (hrest : (st.map fun v => v.category).sum ≤ 8) (kk : lh_G z u1 u2 b Q mx mm2 i (.int v :: st) (pc + 3)) : lh_G z u1 u2 b Q mx mm i st0 pc := by
  intro H locs ls h1 h2 hS hl
  exact lh_call (z := lh_u z u2) K.2.1 hd ml mc hn tm_0 hc hC hlev hst hrest h2 hS hl.1 h1 (fun k j hk hj e => K.2.2.1 j k hj hk e.symm) (fun H1 locs1 g1 g2 gS => kk H1 locs1 ls g2 g1 gS hl)
theorem lh_cMl (K : lh_F z u1 u2 b L xs) {yc : gk_Y} {idx lev2 n : Nat} {As st0 : List Value} {v : Int64} {mm2 : gk_M} (hd : decode lh_y.2.1 pc = .ok (.invokevirtual idx, 3)) (ml : gk_MV lh_y.1.cls idx yc) (mc : gk_MC yc n) (hn : As.length = n) (hc : gk_cl[10]? = some (yc.1.cls, cl_T10, 49)) (hC : gk_C tm (gk_zl z) u2 yc lev2 (.ref 0 :: As) mm (some (.long v)) mm2) (hlev : lev2 < 1000) (hst : st0 = (As.map (gk_v u2.2.1)).reverse ++ .ref (u2.2.1 0) :: st) (hrest : (st.map fun v => v.category).sum ≤ 8) (kk : lh_G z u1 u2 b Q mx mm2 i (.long v :: st) (pc + 3)) : lh_G z u1 u2 b Q mx mm i st0 pc := by
  intro H locs ls h1 h2 hS hl
  exact lh_call (z := lh_u z u2) K.2.1 hd ml mc hn tm_0 hc hC hlev hst hrest h2 hS hl.1 h1 (fun k j hk hj e => K.2.2.1 j k hj hk e.symm) (fun H1 locs1 g1 g2 gS => kk H1 locs1 ls g2 g1 gS hl)
end LH

theorem d_law_18 : decode lh_y.2.1 18 = .ok (.iload_n 3, 1) := by decide +kernel
theorem d_law_19 : decode lh_y.2.1 19 = .ok (.aload_n 0, 1) := by decide +kernel
theorem d_law_20 : decode lh_y.2.1 20 = .ok (.arraylength, 1) := by decide +kernel
theorem d_law_21 : decode lh_y.2.1 21 = .ok (.bipush 6, 2) := by decide +kernel
theorem d_law_23 : decode lh_y.2.1 23 = .ok (.isub, 1) := by decide +kernel
theorem d_law_24 : decode lh_y.2.1 24 = .ok (.if_icmp .gt 1380, 3) := by decide +kernel
theorem d_law_27 : decode lh_y.2.1 27 = .ok (.aload_n 0, 1) := by decide +kernel
theorem d_law_28 : decode lh_y.2.1 28 = .ok (.iload_n 3, 1) := by decide +kernel
theorem d_law_29 : decode lh_y.2.1 29 = .ok (.iaload, 1) := by decide +kernel
theorem d_law_30 : decode lh_y.2.1 30 = .ok (.bipush 63, 2) := by decide +kernel
theorem d_law_32 : decode lh_y.2.1 32 = .ok (.iand, 1) := by decide +kernel
theorem d_law_33 : decode lh_y.2.1 33 = .ok (.tableswitch 1365 0 36 #[163, 196, 239, 272, 305, 338, 361, 374, 417, 450, 493, 536, 559, 582, 605, 628, 671, 704, 717, 740, 773, 806, 839, 882, 915, 948, 961, 974, 997, 1040, 1063, 1096, 1139, 1212, 1246, 1309, 1342], 163) := by decide +kernel
theorem d_law_196 : decode lh_y.2.1 196 = .ok (.aload_n 1, 1) := by decide +kernel
theorem d_law_197 : decode lh_y.2.1 197 = .ok (.aload_n 0, 1) := by decide +kernel
theorem d_law_198 : decode lh_y.2.1 198 = .ok (.iload_n 3, 1) := by decide +kernel
theorem d_law_199 : decode lh_y.2.1 199 = .ok (.iconst 1, 1) := by decide +kernel
theorem d_law_200 : decode lh_y.2.1 200 = .ok (.iadd, 1) := by decide +kernel
theorem d_law_201 : decode lh_y.2.1 201 = .ok (.iaload, 1) := by decide +kernel
theorem d_law_202 : decode lh_y.2.1 202 = .ok (.aload_n 0, 1) := by decide +kernel
theorem d_law_203 : decode lh_y.2.1 203 = .ok (.iload_n 3, 1) := by decide +kernel
theorem d_law_204 : decode lh_y.2.1 204 = .ok (.iconst 2, 1) := by decide +kernel
theorem d_law_205 : decode lh_y.2.1 205 = .ok (.iadd, 1) := by decide +kernel
theorem d_law_206 : decode lh_y.2.1 206 = .ok (.iaload, 1) := by decide +kernel
theorem d_law_207 : decode lh_y.2.1 207 = .ok (.invokevirtual 13, 3) := by decide +kernel
theorem d_law_210 : decode lh_y.2.1 210 = .ok (.aload_n 2, 1) := by decide +kernel
theorem d_law_211 : decode lh_y.2.1 211 = .ok (.aload_n 0, 1) := by decide +kernel
theorem d_law_212 : decode lh_y.2.1 212 = .ok (.iload_n 3, 1) := by decide +kernel
theorem d_law_213 : decode lh_y.2.1 213 = .ok (.iconst 1, 1) := by decide +kernel
theorem d_law_214 : decode lh_y.2.1 214 = .ok (.iadd, 1) := by decide +kernel
theorem d_law_215 : decode lh_y.2.1 215 = .ok (.iaload, 1) := by decide +kernel
theorem d_law_216 : decode lh_y.2.1 216 = .ok (.aload_n 0, 1) := by decide +kernel
theorem d_law_217 : decode lh_y.2.1 217 = .ok (.iload_n 3, 1) := by decide +kernel
theorem d_law_218 : decode lh_y.2.1 218 = .ok (.iconst 2, 1) := by decide +kernel
theorem d_law_219 : decode lh_y.2.1 219 = .ok (.iadd, 1) := by decide +kernel
theorem d_law_220 : decode lh_y.2.1 220 = .ok (.iaload, 1) := by decide +kernel
theorem d_law_221 : decode lh_y.2.1 221 = .ok (.invokevirtual 17, 3) := by decide +kernel
theorem d_law_224 : decode lh_y.2.1 224 = .ok (.if_icmp .eq 1174, 3) := by decide +kernel
theorem d_law_227 : decode lh_y.2.1 227 = .ok (.iconst 0, 1) := by decide +kernel
theorem d_law_228 : decode lh_y.2.1 228 = .ok (.ireturn, 1) := by decide +kernel
theorem d_law_229 : decode lh_y.2.1 229 = .ok (.aload_n 1, 1) := by decide +kernel
theorem d_law_230 : decode lh_y.2.1 230 = .ok (.aload_n 0, 1) := by decide +kernel
theorem d_law_231 : decode lh_y.2.1 231 = .ok (.iload_n 3, 1) := by decide +kernel
theorem d_law_232 : decode lh_y.2.1 232 = .ok (.iconst 1, 1) := by decide +kernel
theorem d_law_233 : decode lh_y.2.1 233 = .ok (.iadd, 1) := by decide +kernel
theorem d_law_234 : decode lh_y.2.1 234 = .ok (.iaload, 1) := by decide +kernel
theorem d_law_235 : decode lh_y.2.1 235 = .ok (.aload_n 0, 1) := by decide +kernel
theorem d_law_236 : decode lh_y.2.1 236 = .ok (.iload_n 3, 1) := by decide +kernel
theorem d_law_237 : decode lh_y.2.1 237 = .ok (.iconst 2, 1) := by decide +kernel
theorem d_law_238 : decode lh_y.2.1 238 = .ok (.iadd, 1) := by decide +kernel
theorem d_law_239 : decode lh_y.2.1 239 = .ok (.iaload, 1) := by decide +kernel
theorem d_law_240 : decode lh_y.2.1 240 = .ok (.aload_n 0, 1) := by decide +kernel
theorem d_law_241 : decode lh_y.2.1 241 = .ok (.iload_n 3, 1) := by decide +kernel
theorem d_law_242 : decode lh_y.2.1 242 = .ok (.iconst 3, 1) := by decide +kernel
theorem d_law_243 : decode lh_y.2.1 243 = .ok (.iadd, 1) := by decide +kernel
theorem d_law_244 : decode lh_y.2.1 244 = .ok (.iaload, 1) := by decide +kernel
theorem d_law_245 : decode lh_y.2.1 245 = .ok (.invokevirtual 18, 3) := by decide +kernel
theorem d_law_248 : decode lh_y.2.1 248 = .ok (.aload_n 2, 1) := by decide +kernel
theorem d_law_249 : decode lh_y.2.1 249 = .ok (.aload_n 0, 1) := by decide +kernel
theorem d_law_250 : decode lh_y.2.1 250 = .ok (.iload_n 3, 1) := by decide +kernel
theorem d_law_251 : decode lh_y.2.1 251 = .ok (.iconst 1, 1) := by decide +kernel
theorem d_law_252 : decode lh_y.2.1 252 = .ok (.iadd, 1) := by decide +kernel
theorem d_law_253 : decode lh_y.2.1 253 = .ok (.iaload, 1) := by decide +kernel
theorem d_law_254 : decode lh_y.2.1 254 = .ok (.aload_n 0, 1) := by decide +kernel
theorem d_law_255 : decode lh_y.2.1 255 = .ok (.iload_n 3, 1) := by decide +kernel
theorem d_law_256 : decode lh_y.2.1 256 = .ok (.iconst 2, 1) := by decide +kernel
theorem d_law_257 : decode lh_y.2.1 257 = .ok (.iadd, 1) := by decide +kernel
theorem d_law_258 : decode lh_y.2.1 258 = .ok (.iaload, 1) := by decide +kernel
theorem d_law_259 : decode lh_y.2.1 259 = .ok (.aload_n 0, 1) := by decide +kernel
theorem d_law_260 : decode lh_y.2.1 260 = .ok (.iload_n 3, 1) := by decide +kernel
theorem d_law_261 : decode lh_y.2.1 261 = .ok (.iconst 3, 1) := by decide +kernel
theorem d_law_262 : decode lh_y.2.1 262 = .ok (.iadd, 1) := by decide +kernel
theorem d_law_263 : decode lh_y.2.1 263 = .ok (.iaload, 1) := by decide +kernel
theorem d_law_264 : decode lh_y.2.1 264 = .ok (.invokevirtual 22, 3) := by decide +kernel
theorem d_law_267 : decode lh_y.2.1 267 = .ok (.if_icmp .eq 1131, 3) := by decide +kernel
theorem d_law_270 : decode lh_y.2.1 270 = .ok (.iconst 0, 1) := by decide +kernel
theorem d_law_271 : decode lh_y.2.1 271 = .ok (.ireturn, 1) := by decide +kernel
theorem d_law_272 : decode lh_y.2.1 272 = .ok (.aload_n 1, 1) := by decide +kernel
theorem d_law_273 : decode lh_y.2.1 273 = .ok (.aload_n 0, 1) := by decide +kernel
theorem d_law_274 : decode lh_y.2.1 274 = .ok (.iload_n 3, 1) := by decide +kernel
theorem d_law_275 : decode lh_y.2.1 275 = .ok (.iconst 1, 1) := by decide +kernel
theorem d_law_276 : decode lh_y.2.1 276 = .ok (.iadd, 1) := by decide +kernel
theorem d_law_277 : decode lh_y.2.1 277 = .ok (.iaload, 1) := by decide +kernel
theorem d_law_278 : decode lh_y.2.1 278 = .ok (.aload_n 0, 1) := by decide +kernel
theorem d_law_279 : decode lh_y.2.1 279 = .ok (.iload_n 3, 1) := by decide +kernel
theorem d_law_280 : decode lh_y.2.1 280 = .ok (.iconst 2, 1) := by decide +kernel
theorem d_law_281 : decode lh_y.2.1 281 = .ok (.iadd, 1) := by decide +kernel
theorem d_law_282 : decode lh_y.2.1 282 = .ok (.iaload, 1) := by decide +kernel
theorem d_law_283 : decode lh_y.2.1 283 = .ok (.invokevirtual 23, 3) := by decide +kernel
theorem d_law_286 : decode lh_y.2.1 286 = .ok (.aload_n 2, 1) := by decide +kernel
theorem d_law_287 : decode lh_y.2.1 287 = .ok (.aload_n 0, 1) := by decide +kernel
theorem d_law_288 : decode lh_y.2.1 288 = .ok (.iload_n 3, 1) := by decide +kernel
theorem d_law_289 : decode lh_y.2.1 289 = .ok (.iconst 1, 1) := by decide +kernel
theorem d_law_290 : decode lh_y.2.1 290 = .ok (.iadd, 1) := by decide +kernel
theorem d_law_291 : decode lh_y.2.1 291 = .ok (.iaload, 1) := by decide +kernel
theorem d_law_292 : decode lh_y.2.1 292 = .ok (.aload_n 0, 1) := by decide +kernel
theorem d_law_293 : decode lh_y.2.1 293 = .ok (.iload_n 3, 1) := by decide +kernel
theorem d_law_294 : decode lh_y.2.1 294 = .ok (.iconst 2, 1) := by decide +kernel
theorem d_law_295 : decode lh_y.2.1 295 = .ok (.iadd, 1) := by decide +kernel
theorem d_law_296 : decode lh_y.2.1 296 = .ok (.iaload, 1) := by decide +kernel
theorem d_law_297 : decode lh_y.2.1 297 = .ok (.invokevirtual 26, 3) := by decide +kernel
theorem d_law_300 : decode lh_y.2.1 300 = .ok (.if_icmp .eq 1098, 3) := by decide +kernel
theorem d_law_303 : decode lh_y.2.1 303 = .ok (.iconst 0, 1) := by decide +kernel
theorem d_law_304 : decode lh_y.2.1 304 = .ok (.ireturn, 1) := by decide +kernel
theorem d_law_305 : decode lh_y.2.1 305 = .ok (.aload_n 1, 1) := by decide +kernel
theorem d_law_306 : decode lh_y.2.1 306 = .ok (.aload_n 0, 1) := by decide +kernel
theorem d_law_307 : decode lh_y.2.1 307 = .ok (.iload_n 3, 1) := by decide +kernel
theorem d_law_308 : decode lh_y.2.1 308 = .ok (.iconst 1, 1) := by decide +kernel
theorem d_law_309 : decode lh_y.2.1 309 = .ok (.iadd, 1) := by decide +kernel
theorem d_law_310 : decode lh_y.2.1 310 = .ok (.iaload, 1) := by decide +kernel
theorem d_law_311 : decode lh_y.2.1 311 = .ok (.aload_n 0, 1) := by decide +kernel
theorem d_law_312 : decode lh_y.2.1 312 = .ok (.iload_n 3, 1) := by decide +kernel
theorem d_law_313 : decode lh_y.2.1 313 = .ok (.iconst 2, 1) := by decide +kernel
theorem d_law_314 : decode lh_y.2.1 314 = .ok (.iadd, 1) := by decide +kernel
theorem d_law_315 : decode lh_y.2.1 315 = .ok (.iaload, 1) := by decide +kernel
theorem d_law_316 : decode lh_y.2.1 316 = .ok (.invokevirtual 27, 3) := by decide +kernel
theorem d_law_319 : decode lh_y.2.1 319 = .ok (.aload_n 2, 1) := by decide +kernel
theorem d_law_320 : decode lh_y.2.1 320 = .ok (.aload_n 0, 1) := by decide +kernel
theorem d_law_321 : decode lh_y.2.1 321 = .ok (.iload_n 3, 1) := by decide +kernel
theorem d_law_322 : decode lh_y.2.1 322 = .ok (.iconst 1, 1) := by decide +kernel
theorem d_law_323 : decode lh_y.2.1 323 = .ok (.iadd, 1) := by decide +kernel
theorem d_law_324 : decode lh_y.2.1 324 = .ok (.iaload, 1) := by decide +kernel
theorem d_law_325 : decode lh_y.2.1 325 = .ok (.aload_n 0, 1) := by decide +kernel
theorem d_law_326 : decode lh_y.2.1 326 = .ok (.iload_n 3, 1) := by decide +kernel
theorem d_law_327 : decode lh_y.2.1 327 = .ok (.iconst 2, 1) := by decide +kernel
theorem d_law_328 : decode lh_y.2.1 328 = .ok (.iadd, 1) := by decide +kernel
theorem d_law_329 : decode lh_y.2.1 329 = .ok (.iaload, 1) := by decide +kernel
theorem d_law_330 : decode lh_y.2.1 330 = .ok (.invokevirtual 30, 3) := by decide +kernel
theorem d_law_333 : decode lh_y.2.1 333 = .ok (.if_icmp .eq 1065, 3) := by decide +kernel
theorem d_law_336 : decode lh_y.2.1 336 = .ok (.iconst 0, 1) := by decide +kernel
theorem d_law_337 : decode lh_y.2.1 337 = .ok (.ireturn, 1) := by decide +kernel
theorem d_law_338 : decode lh_y.2.1 338 = .ok (.aload_n 1, 1) := by decide +kernel
theorem d_law_339 : decode lh_y.2.1 339 = .ok (.aload_n 0, 1) := by decide +kernel
theorem d_law_340 : decode lh_y.2.1 340 = .ok (.iload_n 3, 1) := by decide +kernel
theorem d_law_341 : decode lh_y.2.1 341 = .ok (.iconst 1, 1) := by decide +kernel
theorem d_law_342 : decode lh_y.2.1 342 = .ok (.iadd, 1) := by decide +kernel
theorem d_law_343 : decode lh_y.2.1 343 = .ok (.iaload, 1) := by decide +kernel
theorem d_law_344 : decode lh_y.2.1 344 = .ok (.aload_n 0, 1) := by decide +kernel
theorem d_law_345 : decode lh_y.2.1 345 = .ok (.iload_n 3, 1) := by decide +kernel
theorem d_law_346 : decode lh_y.2.1 346 = .ok (.iconst 2, 1) := by decide +kernel
theorem d_law_347 : decode lh_y.2.1 347 = .ok (.iadd, 1) := by decide +kernel
theorem d_law_348 : decode lh_y.2.1 348 = .ok (.iaload, 1) := by decide +kernel
theorem d_law_349 : decode lh_y.2.1 349 = .ok (.invokevirtual 31, 3) := by decide +kernel
theorem d_law_352 : decode lh_y.2.1 352 = .ok (.aload_n 2, 1) := by decide +kernel
theorem d_law_353 : decode lh_y.2.1 353 = .ok (.aload_n 0, 1) := by decide +kernel
theorem d_law_354 : decode lh_y.2.1 354 = .ok (.iload_n 3, 1) := by decide +kernel
theorem d_law_355 : decode lh_y.2.1 355 = .ok (.iconst 1, 1) := by decide +kernel
theorem d_law_356 : decode lh_y.2.1 356 = .ok (.iadd, 1) := by decide +kernel
theorem d_law_357 : decode lh_y.2.1 357 = .ok (.iaload, 1) := by decide +kernel
theorem d_law_358 : decode lh_y.2.1 358 = .ok (.aload_n 0, 1) := by decide +kernel
theorem d_law_359 : decode lh_y.2.1 359 = .ok (.iload_n 3, 1) := by decide +kernel
theorem d_law_360 : decode lh_y.2.1 360 = .ok (.iconst 2, 1) := by decide +kernel
theorem d_law_361 : decode lh_y.2.1 361 = .ok (.iadd, 1) := by decide +kernel
theorem d_law_362 : decode lh_y.2.1 362 = .ok (.iaload, 1) := by decide +kernel
theorem d_law_363 : decode lh_y.2.1 363 = .ok (.invokevirtual 34, 3) := by decide +kernel
theorem d_law_366 : decode lh_y.2.1 366 = .ok (.if_icmp .eq 1032, 3) := by decide +kernel
theorem d_law_369 : decode lh_y.2.1 369 = .ok (.iconst 0, 1) := by decide +kernel
theorem d_law_370 : decode lh_y.2.1 370 = .ok (.ireturn, 1) := by decide +kernel
theorem d_law_371 : decode lh_y.2.1 371 = .ok (.aload_n 1, 1) := by decide +kernel
theorem d_law_372 : decode lh_y.2.1 372 = .ok (.aload_n 0, 1) := by decide +kernel
theorem d_law_373 : decode lh_y.2.1 373 = .ok (.iload_n 3, 1) := by decide +kernel
theorem d_law_374 : decode lh_y.2.1 374 = .ok (.iconst 1, 1) := by decide +kernel
theorem d_law_375 : decode lh_y.2.1 375 = .ok (.iadd, 1) := by decide +kernel
theorem d_law_376 : decode lh_y.2.1 376 = .ok (.iaload, 1) := by decide +kernel
theorem d_law_377 : decode lh_y.2.1 377 = .ok (.invokevirtual 35, 3) := by decide +kernel
theorem d_law_380 : decode lh_y.2.1 380 = .ok (.aload_n 2, 1) := by decide +kernel
theorem d_law_381 : decode lh_y.2.1 381 = .ok (.aload_n 0, 1) := by decide +kernel
theorem d_law_382 : decode lh_y.2.1 382 = .ok (.iload_n 3, 1) := by decide +kernel
theorem d_law_383 : decode lh_y.2.1 383 = .ok (.iconst 1, 1) := by decide +kernel
theorem d_law_384 : decode lh_y.2.1 384 = .ok (.iadd, 1) := by decide +kernel
theorem d_law_385 : decode lh_y.2.1 385 = .ok (.iaload, 1) := by decide +kernel
theorem d_law_386 : decode lh_y.2.1 386 = .ok (.invokevirtual 39, 3) := by decide +kernel
theorem d_law_389 : decode lh_y.2.1 389 = .ok (.if_icmp .eq 1009, 3) := by decide +kernel
theorem d_law_392 : decode lh_y.2.1 392 = .ok (.iconst 0, 1) := by decide +kernel
theorem d_law_393 : decode lh_y.2.1 393 = .ok (.ireturn, 1) := by decide +kernel
theorem d_law_394 : decode lh_y.2.1 394 = .ok (.aload_n 1, 1) := by decide +kernel
theorem d_law_395 : decode lh_y.2.1 395 = .ok (.invokevirtual 40, 3) := by decide +kernel
theorem d_law_398 : decode lh_y.2.1 398 = .ok (.aload_n 2, 1) := by decide +kernel
theorem d_law_399 : decode lh_y.2.1 399 = .ok (.invokevirtual 44, 3) := by decide +kernel
theorem d_law_402 : decode lh_y.2.1 402 = .ok (.if_icmp .eq 996, 3) := by decide +kernel
theorem d_law_405 : decode lh_y.2.1 405 = .ok (.iconst 0, 1) := by decide +kernel
theorem d_law_406 : decode lh_y.2.1 406 = .ok (.ireturn, 1) := by decide +kernel
theorem d_law_407 : decode lh_y.2.1 407 = .ok (.aload_n 1, 1) := by decide +kernel
theorem d_law_408 : decode lh_y.2.1 408 = .ok (.aload_n 0, 1) := by decide +kernel
theorem d_law_409 : decode lh_y.2.1 409 = .ok (.iload_n 3, 1) := by decide +kernel
theorem d_law_410 : decode lh_y.2.1 410 = .ok (.iconst 1, 1) := by decide +kernel
theorem d_law_411 : decode lh_y.2.1 411 = .ok (.iadd, 1) := by decide +kernel
theorem d_law_412 : decode lh_y.2.1 412 = .ok (.iaload, 1) := by decide +kernel
theorem d_law_413 : decode lh_y.2.1 413 = .ok (.aload_n 0, 1) := by decide +kernel
theorem d_law_414 : decode lh_y.2.1 414 = .ok (.iload_n 3, 1) := by decide +kernel
theorem d_law_415 : decode lh_y.2.1 415 = .ok (.iconst 2, 1) := by decide +kernel
theorem d_law_416 : decode lh_y.2.1 416 = .ok (.iadd, 1) := by decide +kernel
theorem d_law_417 : decode lh_y.2.1 417 = .ok (.iaload, 1) := by decide +kernel
theorem d_law_418 : decode lh_y.2.1 418 = .ok (.aload_n 0, 1) := by decide +kernel
theorem d_law_419 : decode lh_y.2.1 419 = .ok (.iload_n 3, 1) := by decide +kernel
theorem d_law_420 : decode lh_y.2.1 420 = .ok (.iconst 3, 1) := by decide +kernel
theorem d_law_421 : decode lh_y.2.1 421 = .ok (.iadd, 1) := by decide +kernel
theorem d_law_422 : decode lh_y.2.1 422 = .ok (.iaload, 1) := by decide +kernel
theorem d_law_423 : decode lh_y.2.1 423 = .ok (.invokevirtual 45, 3) := by decide +kernel
theorem d_law_426 : decode lh_y.2.1 426 = .ok (.aload_n 2, 1) := by decide +kernel
theorem d_law_427 : decode lh_y.2.1 427 = .ok (.aload_n 0, 1) := by decide +kernel
theorem d_law_428 : decode lh_y.2.1 428 = .ok (.iload_n 3, 1) := by decide +kernel
theorem d_law_429 : decode lh_y.2.1 429 = .ok (.iconst 1, 1) := by decide +kernel
theorem d_law_430 : decode lh_y.2.1 430 = .ok (.iadd, 1) := by decide +kernel
theorem d_law_431 : decode lh_y.2.1 431 = .ok (.iaload, 1) := by decide +kernel
theorem d_law_432 : decode lh_y.2.1 432 = .ok (.aload_n 0, 1) := by decide +kernel
theorem d_law_433 : decode lh_y.2.1 433 = .ok (.iload_n 3, 1) := by decide +kernel
theorem d_law_434 : decode lh_y.2.1 434 = .ok (.iconst 2, 1) := by decide +kernel
theorem d_law_435 : decode lh_y.2.1 435 = .ok (.iadd, 1) := by decide +kernel
theorem d_law_436 : decode lh_y.2.1 436 = .ok (.iaload, 1) := by decide +kernel
theorem d_law_437 : decode lh_y.2.1 437 = .ok (.aload_n 0, 1) := by decide +kernel
theorem d_law_438 : decode lh_y.2.1 438 = .ok (.iload_n 3, 1) := by decide +kernel
theorem d_law_439 : decode lh_y.2.1 439 = .ok (.iconst 3, 1) := by decide +kernel
theorem d_law_440 : decode lh_y.2.1 440 = .ok (.iadd, 1) := by decide +kernel
theorem d_law_441 : decode lh_y.2.1 441 = .ok (.iaload, 1) := by decide +kernel
theorem d_law_442 : decode lh_y.2.1 442 = .ok (.invokevirtual 48, 3) := by decide +kernel
theorem d_law_445 : decode lh_y.2.1 445 = .ok (.if_icmp .eq 953, 3) := by decide +kernel
theorem d_law_448 : decode lh_y.2.1 448 = .ok (.iconst 0, 1) := by decide +kernel
theorem d_law_449 : decode lh_y.2.1 449 = .ok (.ireturn, 1) := by decide +kernel
theorem d_law_450 : decode lh_y.2.1 450 = .ok (.aload_n 1, 1) := by decide +kernel
theorem d_law_451 : decode lh_y.2.1 451 = .ok (.aload_n 0, 1) := by decide +kernel
theorem d_law_452 : decode lh_y.2.1 452 = .ok (.iload_n 3, 1) := by decide +kernel
theorem d_law_453 : decode lh_y.2.1 453 = .ok (.iconst 1, 1) := by decide +kernel
theorem d_law_454 : decode lh_y.2.1 454 = .ok (.iadd, 1) := by decide +kernel
theorem d_law_455 : decode lh_y.2.1 455 = .ok (.iaload, 1) := by decide +kernel
theorem d_law_456 : decode lh_y.2.1 456 = .ok (.aload_n 0, 1) := by decide +kernel
theorem d_law_457 : decode lh_y.2.1 457 = .ok (.iload_n 3, 1) := by decide +kernel
theorem d_law_458 : decode lh_y.2.1 458 = .ok (.iconst 2, 1) := by decide +kernel
theorem d_law_459 : decode lh_y.2.1 459 = .ok (.iadd, 1) := by decide +kernel
theorem d_law_460 : decode lh_y.2.1 460 = .ok (.iaload, 1) := by decide +kernel
theorem d_law_461 : decode lh_y.2.1 461 = .ok (.invokevirtual 49, 3) := by decide +kernel
theorem d_law_464 : decode lh_y.2.1 464 = .ok (.aload_n 2, 1) := by decide +kernel
theorem d_law_465 : decode lh_y.2.1 465 = .ok (.aload_n 0, 1) := by decide +kernel
theorem d_law_466 : decode lh_y.2.1 466 = .ok (.iload_n 3, 1) := by decide +kernel
theorem d_law_467 : decode lh_y.2.1 467 = .ok (.iconst 1, 1) := by decide +kernel
theorem d_law_468 : decode lh_y.2.1 468 = .ok (.iadd, 1) := by decide +kernel
theorem d_law_469 : decode lh_y.2.1 469 = .ok (.iaload, 1) := by decide +kernel
theorem d_law_470 : decode lh_y.2.1 470 = .ok (.aload_n 0, 1) := by decide +kernel
theorem d_law_471 : decode lh_y.2.1 471 = .ok (.iload_n 3, 1) := by decide +kernel
theorem d_law_472 : decode lh_y.2.1 472 = .ok (.iconst 2, 1) := by decide +kernel
theorem d_law_473 : decode lh_y.2.1 473 = .ok (.iadd, 1) := by decide +kernel
theorem d_law_474 : decode lh_y.2.1 474 = .ok (.iaload, 1) := by decide +kernel
theorem d_law_475 : decode lh_y.2.1 475 = .ok (.invokevirtual 52, 3) := by decide +kernel
theorem d_law_478 : decode lh_y.2.1 478 = .ok (.if_icmp .eq 920, 3) := by decide +kernel
theorem d_law_481 : decode lh_y.2.1 481 = .ok (.iconst 0, 1) := by decide +kernel
theorem d_law_482 : decode lh_y.2.1 482 = .ok (.ireturn, 1) := by decide +kernel
theorem d_law_483 : decode lh_y.2.1 483 = .ok (.aload_n 1, 1) := by decide +kernel
theorem d_law_484 : decode lh_y.2.1 484 = .ok (.aload_n 0, 1) := by decide +kernel
theorem d_law_485 : decode lh_y.2.1 485 = .ok (.iload_n 3, 1) := by decide +kernel
theorem d_law_486 : decode lh_y.2.1 486 = .ok (.iconst 1, 1) := by decide +kernel
theorem d_law_487 : decode lh_y.2.1 487 = .ok (.iadd, 1) := by decide +kernel
theorem d_law_488 : decode lh_y.2.1 488 = .ok (.iaload, 1) := by decide +kernel
theorem d_law_489 : decode lh_y.2.1 489 = .ok (.aload_n 0, 1) := by decide +kernel
theorem d_law_490 : decode lh_y.2.1 490 = .ok (.iload_n 3, 1) := by decide +kernel
theorem d_law_491 : decode lh_y.2.1 491 = .ok (.iconst 2, 1) := by decide +kernel
theorem d_law_492 : decode lh_y.2.1 492 = .ok (.iadd, 1) := by decide +kernel
theorem d_law_493 : decode lh_y.2.1 493 = .ok (.iaload, 1) := by decide +kernel
theorem d_law_494 : decode lh_y.2.1 494 = .ok (.aload_n 0, 1) := by decide +kernel
theorem d_law_495 : decode lh_y.2.1 495 = .ok (.iload_n 3, 1) := by decide +kernel
theorem d_law_496 : decode lh_y.2.1 496 = .ok (.iconst 3, 1) := by decide +kernel
theorem d_law_497 : decode lh_y.2.1 497 = .ok (.iadd, 1) := by decide +kernel
theorem d_law_498 : decode lh_y.2.1 498 = .ok (.iaload, 1) := by decide +kernel
theorem d_law_499 : decode lh_y.2.1 499 = .ok (.invokevirtual 53, 3) := by decide +kernel
theorem d_law_502 : decode lh_y.2.1 502 = .ok (.aload_n 2, 1) := by decide +kernel
theorem d_law_503 : decode lh_y.2.1 503 = .ok (.aload_n 0, 1) := by decide +kernel
theorem d_law_504 : decode lh_y.2.1 504 = .ok (.iload_n 3, 1) := by decide +kernel
theorem d_law_505 : decode lh_y.2.1 505 = .ok (.iconst 1, 1) := by decide +kernel
theorem d_law_506 : decode lh_y.2.1 506 = .ok (.iadd, 1) := by decide +kernel
theorem d_law_507 : decode lh_y.2.1 507 = .ok (.iaload, 1) := by decide +kernel
theorem d_law_508 : decode lh_y.2.1 508 = .ok (.aload_n 0, 1) := by decide +kernel
theorem d_law_509 : decode lh_y.2.1 509 = .ok (.iload_n 3, 1) := by decide +kernel
theorem d_law_510 : decode lh_y.2.1 510 = .ok (.iconst 2, 1) := by decide +kernel
theorem d_law_511 : decode lh_y.2.1 511 = .ok (.iadd, 1) := by decide +kernel
theorem d_law_512 : decode lh_y.2.1 512 = .ok (.iaload, 1) := by decide +kernel
theorem d_law_513 : decode lh_y.2.1 513 = .ok (.aload_n 0, 1) := by decide +kernel
theorem d_law_514 : decode lh_y.2.1 514 = .ok (.iload_n 3, 1) := by decide +kernel
theorem d_law_515 : decode lh_y.2.1 515 = .ok (.iconst 3, 1) := by decide +kernel
theorem d_law_516 : decode lh_y.2.1 516 = .ok (.iadd, 1) := by decide +kernel
theorem d_law_517 : decode lh_y.2.1 517 = .ok (.iaload, 1) := by decide +kernel
theorem d_law_518 : decode lh_y.2.1 518 = .ok (.invokevirtual 56, 3) := by decide +kernel
theorem d_law_521 : decode lh_y.2.1 521 = .ok (.if_icmp .eq 877, 3) := by decide +kernel
theorem d_law_524 : decode lh_y.2.1 524 = .ok (.iconst 0, 1) := by decide +kernel
theorem d_law_525 : decode lh_y.2.1 525 = .ok (.ireturn, 1) := by decide +kernel
theorem d_law_526 : decode lh_y.2.1 526 = .ok (.aload_n 1, 1) := by decide +kernel
theorem d_law_527 : decode lh_y.2.1 527 = .ok (.aload_n 0, 1) := by decide +kernel
theorem d_law_528 : decode lh_y.2.1 528 = .ok (.iload_n 3, 1) := by decide +kernel
theorem d_law_529 : decode lh_y.2.1 529 = .ok (.iconst 1, 1) := by decide +kernel
theorem d_law_530 : decode lh_y.2.1 530 = .ok (.iadd, 1) := by decide +kernel
theorem d_law_531 : decode lh_y.2.1 531 = .ok (.iaload, 1) := by decide +kernel
theorem d_law_532 : decode lh_y.2.1 532 = .ok (.aload_n 0, 1) := by decide +kernel
theorem d_law_533 : decode lh_y.2.1 533 = .ok (.iload_n 3, 1) := by decide +kernel
theorem d_law_534 : decode lh_y.2.1 534 = .ok (.iconst 2, 1) := by decide +kernel
theorem d_law_535 : decode lh_y.2.1 535 = .ok (.iadd, 1) := by decide +kernel
theorem d_law_536 : decode lh_y.2.1 536 = .ok (.iaload, 1) := by decide +kernel
theorem d_law_537 : decode lh_y.2.1 537 = .ok (.aload_n 0, 1) := by decide +kernel
theorem d_law_538 : decode lh_y.2.1 538 = .ok (.iload_n 3, 1) := by decide +kernel
theorem d_law_539 : decode lh_y.2.1 539 = .ok (.iconst 3, 1) := by decide +kernel
theorem d_law_540 : decode lh_y.2.1 540 = .ok (.iadd, 1) := by decide +kernel
theorem d_law_541 : decode lh_y.2.1 541 = .ok (.iaload, 1) := by decide +kernel
theorem d_law_542 : decode lh_y.2.1 542 = .ok (.invokevirtual 57, 3) := by decide +kernel
theorem d_law_545 : decode lh_y.2.1 545 = .ok (.aload_n 2, 1) := by decide +kernel
theorem d_law_546 : decode lh_y.2.1 546 = .ok (.aload_n 0, 1) := by decide +kernel
theorem d_law_547 : decode lh_y.2.1 547 = .ok (.iload_n 3, 1) := by decide +kernel
theorem d_law_548 : decode lh_y.2.1 548 = .ok (.iconst 1, 1) := by decide +kernel
theorem d_law_549 : decode lh_y.2.1 549 = .ok (.iadd, 1) := by decide +kernel
theorem d_law_550 : decode lh_y.2.1 550 = .ok (.iaload, 1) := by decide +kernel
theorem d_law_551 : decode lh_y.2.1 551 = .ok (.aload_n 0, 1) := by decide +kernel
theorem d_law_552 : decode lh_y.2.1 552 = .ok (.iload_n 3, 1) := by decide +kernel
theorem d_law_553 : decode lh_y.2.1 553 = .ok (.iconst 2, 1) := by decide +kernel
theorem d_law_554 : decode lh_y.2.1 554 = .ok (.iadd, 1) := by decide +kernel
theorem d_law_555 : decode lh_y.2.1 555 = .ok (.iaload, 1) := by decide +kernel
theorem d_law_556 : decode lh_y.2.1 556 = .ok (.aload_n 0, 1) := by decide +kernel
theorem d_law_557 : decode lh_y.2.1 557 = .ok (.iload_n 3, 1) := by decide +kernel
theorem d_law_558 : decode lh_y.2.1 558 = .ok (.iconst 3, 1) := by decide +kernel
theorem d_law_559 : decode lh_y.2.1 559 = .ok (.iadd, 1) := by decide +kernel
theorem d_law_560 : decode lh_y.2.1 560 = .ok (.iaload, 1) := by decide +kernel
theorem d_law_561 : decode lh_y.2.1 561 = .ok (.invokevirtual 60, 3) := by decide +kernel
theorem d_law_564 : decode lh_y.2.1 564 = .ok (.if_icmp .eq 834, 3) := by decide +kernel
theorem d_law_567 : decode lh_y.2.1 567 = .ok (.iconst 0, 1) := by decide +kernel
theorem d_law_568 : decode lh_y.2.1 568 = .ok (.ireturn, 1) := by decide +kernel
theorem d_law_569 : decode lh_y.2.1 569 = .ok (.aload_n 1, 1) := by decide +kernel
theorem d_law_570 : decode lh_y.2.1 570 = .ok (.aload_n 0, 1) := by decide +kernel
theorem d_law_571 : decode lh_y.2.1 571 = .ok (.iload_n 3, 1) := by decide +kernel
theorem d_law_572 : decode lh_y.2.1 572 = .ok (.iconst 1, 1) := by decide +kernel
theorem d_law_573 : decode lh_y.2.1 573 = .ok (.iadd, 1) := by decide +kernel
theorem d_law_574 : decode lh_y.2.1 574 = .ok (.iaload, 1) := by decide +kernel
theorem d_law_575 : decode lh_y.2.1 575 = .ok (.invokevirtual 61, 3) := by decide +kernel
theorem d_law_578 : decode lh_y.2.1 578 = .ok (.aload_n 2, 1) := by decide +kernel
theorem d_law_579 : decode lh_y.2.1 579 = .ok (.aload_n 0, 1) := by decide +kernel
theorem d_law_580 : decode lh_y.2.1 580 = .ok (.iload_n 3, 1) := by decide +kernel
theorem d_law_581 : decode lh_y.2.1 581 = .ok (.iconst 1, 1) := by decide +kernel
theorem d_law_582 : decode lh_y.2.1 582 = .ok (.iadd, 1) := by decide +kernel
theorem d_law_583 : decode lh_y.2.1 583 = .ok (.iaload, 1) := by decide +kernel
theorem d_law_584 : decode lh_y.2.1 584 = .ok (.invokevirtual 64, 3) := by decide +kernel
theorem d_law_587 : decode lh_y.2.1 587 = .ok (.if_icmp .eq 811, 3) := by decide +kernel
theorem d_law_590 : decode lh_y.2.1 590 = .ok (.iconst 0, 1) := by decide +kernel
theorem d_law_591 : decode lh_y.2.1 591 = .ok (.ireturn, 1) := by decide +kernel
theorem d_law_592 : decode lh_y.2.1 592 = .ok (.aload_n 1, 1) := by decide +kernel
theorem d_law_593 : decode lh_y.2.1 593 = .ok (.aload_n 0, 1) := by decide +kernel
theorem d_law_594 : decode lh_y.2.1 594 = .ok (.iload_n 3, 1) := by decide +kernel
theorem d_law_595 : decode lh_y.2.1 595 = .ok (.iconst 1, 1) := by decide +kernel
theorem d_law_596 : decode lh_y.2.1 596 = .ok (.iadd, 1) := by decide +kernel
theorem d_law_597 : decode lh_y.2.1 597 = .ok (.iaload, 1) := by decide +kernel
theorem d_law_598 : decode lh_y.2.1 598 = .ok (.invokevirtual 65, 3) := by decide +kernel
theorem d_law_601 : decode lh_y.2.1 601 = .ok (.aload_n 2, 1) := by decide +kernel
theorem d_law_602 : decode lh_y.2.1 602 = .ok (.aload_n 0, 1) := by decide +kernel
theorem d_law_603 : decode lh_y.2.1 603 = .ok (.iload_n 3, 1) := by decide +kernel
theorem d_law_604 : decode lh_y.2.1 604 = .ok (.iconst 1, 1) := by decide +kernel
theorem d_law_605 : decode lh_y.2.1 605 = .ok (.iadd, 1) := by decide +kernel
theorem d_law_606 : decode lh_y.2.1 606 = .ok (.iaload, 1) := by decide +kernel
theorem d_law_607 : decode lh_y.2.1 607 = .ok (.invokevirtual 68, 3) := by decide +kernel
theorem d_law_610 : decode lh_y.2.1 610 = .ok (.if_icmp .eq 788, 3) := by decide +kernel
theorem d_law_613 : decode lh_y.2.1 613 = .ok (.iconst 0, 1) := by decide +kernel
theorem d_law_614 : decode lh_y.2.1 614 = .ok (.ireturn, 1) := by decide +kernel
theorem d_law_615 : decode lh_y.2.1 615 = .ok (.aload_n 1, 1) := by decide +kernel
theorem d_law_616 : decode lh_y.2.1 616 = .ok (.aload_n 0, 1) := by decide +kernel
theorem d_law_617 : decode lh_y.2.1 617 = .ok (.iload_n 3, 1) := by decide +kernel
theorem d_law_618 : decode lh_y.2.1 618 = .ok (.iconst 1, 1) := by decide +kernel
theorem d_law_619 : decode lh_y.2.1 619 = .ok (.iadd, 1) := by decide +kernel
theorem d_law_620 : decode lh_y.2.1 620 = .ok (.iaload, 1) := by decide +kernel
theorem d_law_621 : decode lh_y.2.1 621 = .ok (.invokevirtual 69, 3) := by decide +kernel
theorem d_law_624 : decode lh_y.2.1 624 = .ok (.aload_n 2, 1) := by decide +kernel
theorem d_law_625 : decode lh_y.2.1 625 = .ok (.aload_n 0, 1) := by decide +kernel
theorem d_law_626 : decode lh_y.2.1 626 = .ok (.iload_n 3, 1) := by decide +kernel
theorem d_law_627 : decode lh_y.2.1 627 = .ok (.iconst 1, 1) := by decide +kernel
theorem d_law_628 : decode lh_y.2.1 628 = .ok (.iadd, 1) := by decide +kernel
theorem d_law_629 : decode lh_y.2.1 629 = .ok (.iaload, 1) := by decide +kernel
theorem d_law_630 : decode lh_y.2.1 630 = .ok (.invokevirtual 72, 3) := by decide +kernel
theorem d_law_633 : decode lh_y.2.1 633 = .ok (.if_icmp .eq 765, 3) := by decide +kernel
theorem d_law_636 : decode lh_y.2.1 636 = .ok (.iconst 0, 1) := by decide +kernel
theorem d_law_637 : decode lh_y.2.1 637 = .ok (.ireturn, 1) := by decide +kernel
theorem d_law_638 : decode lh_y.2.1 638 = .ok (.aload_n 1, 1) := by decide +kernel
theorem d_law_639 : decode lh_y.2.1 639 = .ok (.aload_n 0, 1) := by decide +kernel
theorem d_law_640 : decode lh_y.2.1 640 = .ok (.iload_n 3, 1) := by decide +kernel
theorem d_law_641 : decode lh_y.2.1 641 = .ok (.iconst 1, 1) := by decide +kernel
theorem d_law_642 : decode lh_y.2.1 642 = .ok (.iadd, 1) := by decide +kernel
theorem d_law_643 : decode lh_y.2.1 643 = .ok (.iaload, 1) := by decide +kernel
theorem d_law_644 : decode lh_y.2.1 644 = .ok (.invokevirtual 73, 3) := by decide +kernel
theorem d_law_647 : decode lh_y.2.1 647 = .ok (.aload_n 2, 1) := by decide +kernel
theorem d_law_648 : decode lh_y.2.1 648 = .ok (.aload_n 0, 1) := by decide +kernel
theorem d_law_649 : decode lh_y.2.1 649 = .ok (.iload_n 3, 1) := by decide +kernel
theorem d_law_650 : decode lh_y.2.1 650 = .ok (.iconst 1, 1) := by decide +kernel
theorem d_law_651 : decode lh_y.2.1 651 = .ok (.iadd, 1) := by decide +kernel
theorem d_law_652 : decode lh_y.2.1 652 = .ok (.iaload, 1) := by decide +kernel
theorem d_law_653 : decode lh_y.2.1 653 = .ok (.invokevirtual 76, 3) := by decide +kernel
theorem d_law_656 : decode lh_y.2.1 656 = .ok (.if_icmp .eq 742, 3) := by decide +kernel
theorem d_law_659 : decode lh_y.2.1 659 = .ok (.iconst 0, 1) := by decide +kernel
theorem d_law_660 : decode lh_y.2.1 660 = .ok (.ireturn, 1) := by decide +kernel
theorem d_law_661 : decode lh_y.2.1 661 = .ok (.aload_n 1, 1) := by decide +kernel
theorem d_law_662 : decode lh_y.2.1 662 = .ok (.aload_n 0, 1) := by decide +kernel
theorem d_law_663 : decode lh_y.2.1 663 = .ok (.iload_n 3, 1) := by decide +kernel
theorem d_law_664 : decode lh_y.2.1 664 = .ok (.iconst 1, 1) := by decide +kernel
theorem d_law_665 : decode lh_y.2.1 665 = .ok (.iadd, 1) := by decide +kernel
theorem d_law_666 : decode lh_y.2.1 666 = .ok (.iaload, 1) := by decide +kernel
theorem d_law_667 : decode lh_y.2.1 667 = .ok (.aload_n 0, 1) := by decide +kernel
theorem d_law_668 : decode lh_y.2.1 668 = .ok (.iload_n 3, 1) := by decide +kernel
theorem d_law_669 : decode lh_y.2.1 669 = .ok (.iconst 2, 1) := by decide +kernel
theorem d_law_670 : decode lh_y.2.1 670 = .ok (.iadd, 1) := by decide +kernel
theorem d_law_671 : decode lh_y.2.1 671 = .ok (.iaload, 1) := by decide +kernel
theorem d_law_672 : decode lh_y.2.1 672 = .ok (.aload_n 0, 1) := by decide +kernel
theorem d_law_673 : decode lh_y.2.1 673 = .ok (.iload_n 3, 1) := by decide +kernel
theorem d_law_674 : decode lh_y.2.1 674 = .ok (.iconst 3, 1) := by decide +kernel
theorem d_law_675 : decode lh_y.2.1 675 = .ok (.iadd, 1) := by decide +kernel
theorem d_law_676 : decode lh_y.2.1 676 = .ok (.iaload, 1) := by decide +kernel
theorem d_law_677 : decode lh_y.2.1 677 = .ok (.invokevirtual 77, 3) := by decide +kernel
theorem d_law_680 : decode lh_y.2.1 680 = .ok (.aload_n 2, 1) := by decide +kernel
theorem d_law_681 : decode lh_y.2.1 681 = .ok (.aload_n 0, 1) := by decide +kernel
theorem d_law_682 : decode lh_y.2.1 682 = .ok (.iload_n 3, 1) := by decide +kernel
theorem d_law_683 : decode lh_y.2.1 683 = .ok (.iconst 1, 1) := by decide +kernel
theorem d_law_684 : decode lh_y.2.1 684 = .ok (.iadd, 1) := by decide +kernel
theorem d_law_685 : decode lh_y.2.1 685 = .ok (.iaload, 1) := by decide +kernel
theorem d_law_686 : decode lh_y.2.1 686 = .ok (.aload_n 0, 1) := by decide +kernel
theorem d_law_687 : decode lh_y.2.1 687 = .ok (.iload_n 3, 1) := by decide +kernel
theorem d_law_688 : decode lh_y.2.1 688 = .ok (.iconst 2, 1) := by decide +kernel
theorem d_law_689 : decode lh_y.2.1 689 = .ok (.iadd, 1) := by decide +kernel
theorem d_law_690 : decode lh_y.2.1 690 = .ok (.iaload, 1) := by decide +kernel
theorem d_law_691 : decode lh_y.2.1 691 = .ok (.aload_n 0, 1) := by decide +kernel
theorem d_law_692 : decode lh_y.2.1 692 = .ok (.iload_n 3, 1) := by decide +kernel
theorem d_law_693 : decode lh_y.2.1 693 = .ok (.iconst 3, 1) := by decide +kernel
theorem d_law_694 : decode lh_y.2.1 694 = .ok (.iadd, 1) := by decide +kernel
theorem d_law_695 : decode lh_y.2.1 695 = .ok (.iaload, 1) := by decide +kernel
theorem d_law_696 : decode lh_y.2.1 696 = .ok (.invokevirtual 80, 3) := by decide +kernel
theorem d_law_699 : decode lh_y.2.1 699 = .ok (.if_icmp .eq 699, 3) := by decide +kernel
theorem d_law_702 : decode lh_y.2.1 702 = .ok (.iconst 0, 1) := by decide +kernel
theorem d_law_703 : decode lh_y.2.1 703 = .ok (.ireturn, 1) := by decide +kernel
theorem d_law_704 : decode lh_y.2.1 704 = .ok (.aload_n 1, 1) := by decide +kernel
theorem d_law_705 : decode lh_y.2.1 705 = .ok (.aload_n 0, 1) := by decide +kernel
theorem d_law_706 : decode lh_y.2.1 706 = .ok (.iload_n 3, 1) := by decide +kernel
theorem d_law_707 : decode lh_y.2.1 707 = .ok (.iconst 1, 1) := by decide +kernel
theorem d_law_708 : decode lh_y.2.1 708 = .ok (.iadd, 1) := by decide +kernel
theorem d_law_709 : decode lh_y.2.1 709 = .ok (.iaload, 1) := by decide +kernel
theorem d_law_710 : decode lh_y.2.1 710 = .ok (.aload_n 0, 1) := by decide +kernel
theorem d_law_711 : decode lh_y.2.1 711 = .ok (.iload_n 3, 1) := by decide +kernel
theorem d_law_712 : decode lh_y.2.1 712 = .ok (.iconst 2, 1) := by decide +kernel
theorem d_law_713 : decode lh_y.2.1 713 = .ok (.iadd, 1) := by decide +kernel
theorem d_law_714 : decode lh_y.2.1 714 = .ok (.iaload, 1) := by decide +kernel
theorem d_law_715 : decode lh_y.2.1 715 = .ok (.invokevirtual 81, 3) := by decide +kernel
theorem d_law_718 : decode lh_y.2.1 718 = .ok (.aload_n 2, 1) := by decide +kernel
theorem d_law_719 : decode lh_y.2.1 719 = .ok (.aload_n 0, 1) := by decide +kernel
theorem d_law_720 : decode lh_y.2.1 720 = .ok (.iload_n 3, 1) := by decide +kernel
theorem d_law_721 : decode lh_y.2.1 721 = .ok (.iconst 1, 1) := by decide +kernel
theorem d_law_722 : decode lh_y.2.1 722 = .ok (.iadd, 1) := by decide +kernel
theorem d_law_723 : decode lh_y.2.1 723 = .ok (.iaload, 1) := by decide +kernel
theorem d_law_724 : decode lh_y.2.1 724 = .ok (.aload_n 0, 1) := by decide +kernel
theorem d_law_725 : decode lh_y.2.1 725 = .ok (.iload_n 3, 1) := by decide +kernel
theorem d_law_726 : decode lh_y.2.1 726 = .ok (.iconst 2, 1) := by decide +kernel
theorem d_law_727 : decode lh_y.2.1 727 = .ok (.iadd, 1) := by decide +kernel
theorem d_law_728 : decode lh_y.2.1 728 = .ok (.iaload, 1) := by decide +kernel
theorem d_law_729 : decode lh_y.2.1 729 = .ok (.invokevirtual 84, 3) := by decide +kernel
theorem d_law_732 : decode lh_y.2.1 732 = .ok (.if_icmp .eq 666, 3) := by decide +kernel
theorem d_law_735 : decode lh_y.2.1 735 = .ok (.iconst 0, 1) := by decide +kernel
theorem d_law_736 : decode lh_y.2.1 736 = .ok (.ireturn, 1) := by decide +kernel
theorem d_law_737 : decode lh_y.2.1 737 = .ok (.aload_n 1, 1) := by decide +kernel
theorem d_law_738 : decode lh_y.2.1 738 = .ok (.invokevirtual 85, 3) := by decide +kernel
theorem d_law_741 : decode lh_y.2.1 741 = .ok (.aload_n 2, 1) := by decide +kernel
theorem d_law_742 : decode lh_y.2.1 742 = .ok (.invokevirtual 88, 3) := by decide +kernel
theorem d_law_745 : decode lh_y.2.1 745 = .ok (.if_icmp .eq 653, 3) := by decide +kernel
theorem d_law_748 : decode lh_y.2.1 748 = .ok (.iconst 0, 1) := by decide +kernel
theorem d_law_749 : decode lh_y.2.1 749 = .ok (.ireturn, 1) := by decide +kernel
theorem d_law_750 : decode lh_y.2.1 750 = .ok (.aload_n 1, 1) := by decide +kernel
theorem d_law_751 : decode lh_y.2.1 751 = .ok (.aload_n 0, 1) := by decide +kernel
theorem d_law_752 : decode lh_y.2.1 752 = .ok (.iload_n 3, 1) := by decide +kernel
theorem d_law_753 : decode lh_y.2.1 753 = .ok (.iconst 1, 1) := by decide +kernel
theorem d_law_754 : decode lh_y.2.1 754 = .ok (.iadd, 1) := by decide +kernel
theorem d_law_755 : decode lh_y.2.1 755 = .ok (.iaload, 1) := by decide +kernel
theorem d_law_756 : decode lh_y.2.1 756 = .ok (.invokevirtual 89, 3) := by decide +kernel
theorem d_law_759 : decode lh_y.2.1 759 = .ok (.aload_n 2, 1) := by decide +kernel
theorem d_law_760 : decode lh_y.2.1 760 = .ok (.aload_n 0, 1) := by decide +kernel
theorem d_law_761 : decode lh_y.2.1 761 = .ok (.iload_n 3, 1) := by decide +kernel
theorem d_law_762 : decode lh_y.2.1 762 = .ok (.iconst 1, 1) := by decide +kernel
theorem d_law_763 : decode lh_y.2.1 763 = .ok (.iadd, 1) := by decide +kernel
theorem d_law_764 : decode lh_y.2.1 764 = .ok (.iaload, 1) := by decide +kernel
theorem d_law_765 : decode lh_y.2.1 765 = .ok (.invokevirtual 92, 3) := by decide +kernel
theorem d_law_768 : decode lh_y.2.1 768 = .ok (.if_icmp .eq 630, 3) := by decide +kernel
theorem d_law_771 : decode lh_y.2.1 771 = .ok (.iconst 0, 1) := by decide +kernel
theorem d_law_772 : decode lh_y.2.1 772 = .ok (.ireturn, 1) := by decide +kernel
theorem d_law_773 : decode lh_y.2.1 773 = .ok (.aload_n 1, 1) := by decide +kernel
theorem d_law_774 : decode lh_y.2.1 774 = .ok (.aload_n 0, 1) := by decide +kernel
theorem d_law_775 : decode lh_y.2.1 775 = .ok (.iload_n 3, 1) := by decide +kernel
theorem d_law_776 : decode lh_y.2.1 776 = .ok (.iconst 1, 1) := by decide +kernel
theorem d_law_777 : decode lh_y.2.1 777 = .ok (.iadd, 1) := by decide +kernel
theorem d_law_778 : decode lh_y.2.1 778 = .ok (.iaload, 1) := by decide +kernel
theorem d_law_779 : decode lh_y.2.1 779 = .ok (.aload_n 0, 1) := by decide +kernel
theorem d_law_780 : decode lh_y.2.1 780 = .ok (.iload_n 3, 1) := by decide +kernel
theorem d_law_781 : decode lh_y.2.1 781 = .ok (.iconst 2, 1) := by decide +kernel
theorem d_law_782 : decode lh_y.2.1 782 = .ok (.iadd, 1) := by decide +kernel
theorem d_law_783 : decode lh_y.2.1 783 = .ok (.iaload, 1) := by decide +kernel
theorem d_law_784 : decode lh_y.2.1 784 = .ok (.invokevirtual 93, 3) := by decide +kernel
theorem d_law_787 : decode lh_y.2.1 787 = .ok (.aload_n 2, 1) := by decide +kernel
theorem d_law_788 : decode lh_y.2.1 788 = .ok (.aload_n 0, 1) := by decide +kernel
theorem d_law_789 : decode lh_y.2.1 789 = .ok (.iload_n 3, 1) := by decide +kernel
theorem d_law_790 : decode lh_y.2.1 790 = .ok (.iconst 1, 1) := by decide +kernel
theorem d_law_791 : decode lh_y.2.1 791 = .ok (.iadd, 1) := by decide +kernel
theorem d_law_792 : decode lh_y.2.1 792 = .ok (.iaload, 1) := by decide +kernel
theorem d_law_793 : decode lh_y.2.1 793 = .ok (.aload_n 0, 1) := by decide +kernel
theorem d_law_794 : decode lh_y.2.1 794 = .ok (.iload_n 3, 1) := by decide +kernel
theorem d_law_795 : decode lh_y.2.1 795 = .ok (.iconst 2, 1) := by decide +kernel
theorem d_law_796 : decode lh_y.2.1 796 = .ok (.iadd, 1) := by decide +kernel
theorem d_law_797 : decode lh_y.2.1 797 = .ok (.iaload, 1) := by decide +kernel
theorem d_law_798 : decode lh_y.2.1 798 = .ok (.invokevirtual 96, 3) := by decide +kernel
theorem d_law_801 : decode lh_y.2.1 801 = .ok (.if_icmp .eq 597, 3) := by decide +kernel
theorem d_law_804 : decode lh_y.2.1 804 = .ok (.iconst 0, 1) := by decide +kernel
theorem d_law_805 : decode lh_y.2.1 805 = .ok (.ireturn, 1) := by decide +kernel
theorem d_law_806 : decode lh_y.2.1 806 = .ok (.aload_n 1, 1) := by decide +kernel
theorem d_law_807 : decode lh_y.2.1 807 = .ok (.aload_n 0, 1) := by decide +kernel
theorem d_law_808 : decode lh_y.2.1 808 = .ok (.iload_n 3, 1) := by decide +kernel
theorem d_law_809 : decode lh_y.2.1 809 = .ok (.iconst 1, 1) := by decide +kernel
theorem d_law_810 : decode lh_y.2.1 810 = .ok (.iadd, 1) := by decide +kernel
theorem d_law_811 : decode lh_y.2.1 811 = .ok (.iaload, 1) := by decide +kernel
theorem d_law_812 : decode lh_y.2.1 812 = .ok (.aload_n 0, 1) := by decide +kernel
theorem d_law_813 : decode lh_y.2.1 813 = .ok (.iload_n 3, 1) := by decide +kernel
theorem d_law_814 : decode lh_y.2.1 814 = .ok (.iconst 2, 1) := by decide +kernel
theorem d_law_815 : decode lh_y.2.1 815 = .ok (.iadd, 1) := by decide +kernel
theorem d_law_816 : decode lh_y.2.1 816 = .ok (.iaload, 1) := by decide +kernel
theorem d_law_817 : decode lh_y.2.1 817 = .ok (.invokevirtual 97, 3) := by decide +kernel
theorem d_law_820 : decode lh_y.2.1 820 = .ok (.aload_n 2, 1) := by decide +kernel
theorem d_law_821 : decode lh_y.2.1 821 = .ok (.aload_n 0, 1) := by decide +kernel
theorem d_law_822 : decode lh_y.2.1 822 = .ok (.iload_n 3, 1) := by decide +kernel
theorem d_law_823 : decode lh_y.2.1 823 = .ok (.iconst 1, 1) := by decide +kernel
theorem d_law_824 : decode lh_y.2.1 824 = .ok (.iadd, 1) := by decide +kernel
theorem d_law_825 : decode lh_y.2.1 825 = .ok (.iaload, 1) := by decide +kernel
theorem d_law_826 : decode lh_y.2.1 826 = .ok (.aload_n 0, 1) := by decide +kernel
theorem d_law_827 : decode lh_y.2.1 827 = .ok (.iload_n 3, 1) := by decide +kernel
theorem d_law_828 : decode lh_y.2.1 828 = .ok (.iconst 2, 1) := by decide +kernel
theorem d_law_829 : decode lh_y.2.1 829 = .ok (.iadd, 1) := by decide +kernel
theorem d_law_830 : decode lh_y.2.1 830 = .ok (.iaload, 1) := by decide +kernel
theorem d_law_831 : decode lh_y.2.1 831 = .ok (.invokevirtual 100, 3) := by decide +kernel
theorem d_law_834 : decode lh_y.2.1 834 = .ok (.if_icmp .eq 564, 3) := by decide +kernel
theorem d_law_837 : decode lh_y.2.1 837 = .ok (.iconst 0, 1) := by decide +kernel
theorem d_law_838 : decode lh_y.2.1 838 = .ok (.ireturn, 1) := by decide +kernel
theorem d_law_839 : decode lh_y.2.1 839 = .ok (.aload_n 1, 1) := by decide +kernel
theorem d_law_840 : decode lh_y.2.1 840 = .ok (.aload_n 0, 1) := by decide +kernel
theorem d_law_841 : decode lh_y.2.1 841 = .ok (.iload_n 3, 1) := by decide +kernel
theorem d_law_842 : decode lh_y.2.1 842 = .ok (.iconst 1, 1) := by decide +kernel
theorem d_law_843 : decode lh_y.2.1 843 = .ok (.iadd, 1) := by decide +kernel
theorem d_law_844 : decode lh_y.2.1 844 = .ok (.iaload, 1) := by decide +kernel
theorem d_law_845 : decode lh_y.2.1 845 = .ok (.aload_n 0, 1) := by decide +kernel
theorem d_law_846 : decode lh_y.2.1 846 = .ok (.iload_n 3, 1) := by decide +kernel
theorem d_law_847 : decode lh_y.2.1 847 = .ok (.iconst 2, 1) := by decide +kernel
theorem d_law_848 : decode lh_y.2.1 848 = .ok (.iadd, 1) := by decide +kernel
theorem d_law_849 : decode lh_y.2.1 849 = .ok (.iaload, 1) := by decide +kernel
theorem d_law_850 : decode lh_y.2.1 850 = .ok (.invokevirtual 101, 3) := by decide +kernel
theorem d_law_853 : decode lh_y.2.1 853 = .ok (.aload_n 2, 1) := by decide +kernel
theorem d_law_854 : decode lh_y.2.1 854 = .ok (.aload_n 0, 1) := by decide +kernel
theorem d_law_855 : decode lh_y.2.1 855 = .ok (.iload_n 3, 1) := by decide +kernel
theorem d_law_856 : decode lh_y.2.1 856 = .ok (.iconst 1, 1) := by decide +kernel
theorem d_law_857 : decode lh_y.2.1 857 = .ok (.iadd, 1) := by decide +kernel
theorem d_law_858 : decode lh_y.2.1 858 = .ok (.iaload, 1) := by decide +kernel
theorem d_law_859 : decode lh_y.2.1 859 = .ok (.aload_n 0, 1) := by decide +kernel
theorem d_law_860 : decode lh_y.2.1 860 = .ok (.iload_n 3, 1) := by decide +kernel
theorem d_law_861 : decode lh_y.2.1 861 = .ok (.iconst 2, 1) := by decide +kernel
theorem d_law_862 : decode lh_y.2.1 862 = .ok (.iadd, 1) := by decide +kernel
theorem d_law_863 : decode lh_y.2.1 863 = .ok (.iaload, 1) := by decide +kernel
theorem d_law_864 : decode lh_y.2.1 864 = .ok (.invokevirtual 104, 3) := by decide +kernel
theorem d_law_867 : decode lh_y.2.1 867 = .ok (.if_icmp .eq 531, 3) := by decide +kernel
theorem d_law_870 : decode lh_y.2.1 870 = .ok (.iconst 0, 1) := by decide +kernel
theorem d_law_871 : decode lh_y.2.1 871 = .ok (.ireturn, 1) := by decide +kernel
theorem d_law_872 : decode lh_y.2.1 872 = .ok (.aload_n 1, 1) := by decide +kernel
theorem d_law_873 : decode lh_y.2.1 873 = .ok (.aload_n 0, 1) := by decide +kernel
theorem d_law_874 : decode lh_y.2.1 874 = .ok (.iload_n 3, 1) := by decide +kernel
theorem d_law_875 : decode lh_y.2.1 875 = .ok (.iconst 1, 1) := by decide +kernel
theorem d_law_876 : decode lh_y.2.1 876 = .ok (.iadd, 1) := by decide +kernel
theorem d_law_877 : decode lh_y.2.1 877 = .ok (.iaload, 1) := by decide +kernel
theorem d_law_878 : decode lh_y.2.1 878 = .ok (.aload_n 0, 1) := by decide +kernel
theorem d_law_879 : decode lh_y.2.1 879 = .ok (.iload_n 3, 1) := by decide +kernel
theorem d_law_880 : decode lh_y.2.1 880 = .ok (.iconst 2, 1) := by decide +kernel
theorem d_law_881 : decode lh_y.2.1 881 = .ok (.iadd, 1) := by decide +kernel
theorem d_law_882 : decode lh_y.2.1 882 = .ok (.iaload, 1) := by decide +kernel
theorem d_law_883 : decode lh_y.2.1 883 = .ok (.aload_n 0, 1) := by decide +kernel
theorem d_law_884 : decode lh_y.2.1 884 = .ok (.iload_n 3, 1) := by decide +kernel
theorem d_law_885 : decode lh_y.2.1 885 = .ok (.iconst 3, 1) := by decide +kernel
theorem d_law_886 : decode lh_y.2.1 886 = .ok (.iadd, 1) := by decide +kernel
theorem d_law_887 : decode lh_y.2.1 887 = .ok (.iaload, 1) := by decide +kernel
theorem d_law_888 : decode lh_y.2.1 888 = .ok (.invokevirtual 105, 3) := by decide +kernel
theorem d_law_891 : decode lh_y.2.1 891 = .ok (.aload_n 2, 1) := by decide +kernel
theorem d_law_892 : decode lh_y.2.1 892 = .ok (.aload_n 0, 1) := by decide +kernel
theorem d_law_893 : decode lh_y.2.1 893 = .ok (.iload_n 3, 1) := by decide +kernel
theorem d_law_894 : decode lh_y.2.1 894 = .ok (.iconst 1, 1) := by decide +kernel
theorem d_law_895 : decode lh_y.2.1 895 = .ok (.iadd, 1) := by decide +kernel
theorem d_law_896 : decode lh_y.2.1 896 = .ok (.iaload, 1) := by decide +kernel
theorem d_law_897 : decode lh_y.2.1 897 = .ok (.aload_n 0, 1) := by decide +kernel
theorem d_law_898 : decode lh_y.2.1 898 = .ok (.iload_n 3, 1) := by decide +kernel
theorem d_law_899 : decode lh_y.2.1 899 = .ok (.iconst 2, 1) := by decide +kernel
theorem d_law_900 : decode lh_y.2.1 900 = .ok (.iadd, 1) := by decide +kernel
theorem d_law_901 : decode lh_y.2.1 901 = .ok (.iaload, 1) := by decide +kernel
theorem d_law_902 : decode lh_y.2.1 902 = .ok (.aload_n 0, 1) := by decide +kernel
theorem d_law_903 : decode lh_y.2.1 903 = .ok (.iload_n 3, 1) := by decide +kernel
theorem d_law_904 : decode lh_y.2.1 904 = .ok (.iconst 3, 1) := by decide +kernel
theorem d_law_905 : decode lh_y.2.1 905 = .ok (.iadd, 1) := by decide +kernel
theorem d_law_906 : decode lh_y.2.1 906 = .ok (.iaload, 1) := by decide +kernel
theorem d_law_907 : decode lh_y.2.1 907 = .ok (.invokevirtual 108, 3) := by decide +kernel
theorem d_law_910 : decode lh_y.2.1 910 = .ok (.if_icmp .eq 488, 3) := by decide +kernel
theorem d_law_913 : decode lh_y.2.1 913 = .ok (.iconst 0, 1) := by decide +kernel
theorem d_law_914 : decode lh_y.2.1 914 = .ok (.ireturn, 1) := by decide +kernel
theorem d_law_915 : decode lh_y.2.1 915 = .ok (.aload_n 1, 1) := by decide +kernel
theorem d_law_916 : decode lh_y.2.1 916 = .ok (.aload_n 0, 1) := by decide +kernel
theorem d_law_917 : decode lh_y.2.1 917 = .ok (.iload_n 3, 1) := by decide +kernel
theorem d_law_918 : decode lh_y.2.1 918 = .ok (.iconst 1, 1) := by decide +kernel
theorem d_law_919 : decode lh_y.2.1 919 = .ok (.iadd, 1) := by decide +kernel
theorem d_law_920 : decode lh_y.2.1 920 = .ok (.iaload, 1) := by decide +kernel
theorem d_law_921 : decode lh_y.2.1 921 = .ok (.aload_n 0, 1) := by decide +kernel
theorem d_law_922 : decode lh_y.2.1 922 = .ok (.iload_n 3, 1) := by decide +kernel
theorem d_law_923 : decode lh_y.2.1 923 = .ok (.iconst 2, 1) := by decide +kernel
theorem d_law_924 : decode lh_y.2.1 924 = .ok (.iadd, 1) := by decide +kernel
theorem d_law_925 : decode lh_y.2.1 925 = .ok (.iaload, 1) := by decide +kernel
theorem d_law_926 : decode lh_y.2.1 926 = .ok (.invokevirtual 109, 3) := by decide +kernel
theorem d_law_929 : decode lh_y.2.1 929 = .ok (.aload_n 2, 1) := by decide +kernel
theorem d_law_930 : decode lh_y.2.1 930 = .ok (.aload_n 0, 1) := by decide +kernel
theorem d_law_931 : decode lh_y.2.1 931 = .ok (.iload_n 3, 1) := by decide +kernel
theorem d_law_932 : decode lh_y.2.1 932 = .ok (.iconst 1, 1) := by decide +kernel
theorem d_law_933 : decode lh_y.2.1 933 = .ok (.iadd, 1) := by decide +kernel
theorem d_law_934 : decode lh_y.2.1 934 = .ok (.iaload, 1) := by decide +kernel
theorem d_law_935 : decode lh_y.2.1 935 = .ok (.aload_n 0, 1) := by decide +kernel
theorem d_law_936 : decode lh_y.2.1 936 = .ok (.iload_n 3, 1) := by decide +kernel
theorem d_law_937 : decode lh_y.2.1 937 = .ok (.iconst 2, 1) := by decide +kernel
theorem d_law_938 : decode lh_y.2.1 938 = .ok (.iadd, 1) := by decide +kernel
theorem d_law_939 : decode lh_y.2.1 939 = .ok (.iaload, 1) := by decide +kernel
theorem d_law_940 : decode lh_y.2.1 940 = .ok (.invokevirtual 112, 3) := by decide +kernel
theorem d_law_943 : decode lh_y.2.1 943 = .ok (.if_icmp .eq 455, 3) := by decide +kernel
theorem d_law_946 : decode lh_y.2.1 946 = .ok (.iconst 0, 1) := by decide +kernel
theorem d_law_947 : decode lh_y.2.1 947 = .ok (.ireturn, 1) := by decide +kernel
theorem d_law_948 : decode lh_y.2.1 948 = .ok (.aload_n 1, 1) := by decide +kernel
theorem d_law_949 : decode lh_y.2.1 949 = .ok (.aload_n 0, 1) := by decide +kernel
theorem d_law_950 : decode lh_y.2.1 950 = .ok (.iload_n 3, 1) := by decide +kernel
theorem d_law_951 : decode lh_y.2.1 951 = .ok (.iconst 1, 1) := by decide +kernel
theorem d_law_952 : decode lh_y.2.1 952 = .ok (.iadd, 1) := by decide +kernel
theorem d_law_953 : decode lh_y.2.1 953 = .ok (.iaload, 1) := by decide +kernel
theorem d_law_954 : decode lh_y.2.1 954 = .ok (.aload_n 0, 1) := by decide +kernel
theorem d_law_955 : decode lh_y.2.1 955 = .ok (.iload_n 3, 1) := by decide +kernel
theorem d_law_956 : decode lh_y.2.1 956 = .ok (.iconst 2, 1) := by decide +kernel
theorem d_law_957 : decode lh_y.2.1 957 = .ok (.iadd, 1) := by decide +kernel
theorem d_law_958 : decode lh_y.2.1 958 = .ok (.iaload, 1) := by decide +kernel
theorem d_law_959 : decode lh_y.2.1 959 = .ok (.invokevirtual 113, 3) := by decide +kernel
theorem d_law_962 : decode lh_y.2.1 962 = .ok (.aload_n 2, 1) := by decide +kernel
theorem d_law_963 : decode lh_y.2.1 963 = .ok (.aload_n 0, 1) := by decide +kernel
theorem d_law_964 : decode lh_y.2.1 964 = .ok (.iload_n 3, 1) := by decide +kernel
theorem d_law_965 : decode lh_y.2.1 965 = .ok (.iconst 1, 1) := by decide +kernel
theorem d_law_966 : decode lh_y.2.1 966 = .ok (.iadd, 1) := by decide +kernel
theorem d_law_967 : decode lh_y.2.1 967 = .ok (.iaload, 1) := by decide +kernel
theorem d_law_968 : decode lh_y.2.1 968 = .ok (.aload_n 0, 1) := by decide +kernel
theorem d_law_969 : decode lh_y.2.1 969 = .ok (.iload_n 3, 1) := by decide +kernel
theorem d_law_970 : decode lh_y.2.1 970 = .ok (.iconst 2, 1) := by decide +kernel
theorem d_law_971 : decode lh_y.2.1 971 = .ok (.iadd, 1) := by decide +kernel
theorem d_law_972 : decode lh_y.2.1 972 = .ok (.iaload, 1) := by decide +kernel
theorem d_law_973 : decode lh_y.2.1 973 = .ok (.invokevirtual 116, 3) := by decide +kernel
theorem d_law_976 : decode lh_y.2.1 976 = .ok (.if_icmp .eq 422, 3) := by decide +kernel
theorem d_law_979 : decode lh_y.2.1 979 = .ok (.iconst 0, 1) := by decide +kernel
theorem d_law_980 : decode lh_y.2.1 980 = .ok (.ireturn, 1) := by decide +kernel
theorem d_law_981 : decode lh_y.2.1 981 = .ok (.aload_n 1, 1) := by decide +kernel
theorem d_law_982 : decode lh_y.2.1 982 = .ok (.invokevirtual 117, 3) := by decide +kernel
theorem d_law_985 : decode lh_y.2.1 985 = .ok (.aload_n 2, 1) := by decide +kernel
theorem d_law_986 : decode lh_y.2.1 986 = .ok (.invokevirtual 120, 3) := by decide +kernel
theorem d_law_989 : decode lh_y.2.1 989 = .ok (.if_icmp .eq 409, 3) := by decide +kernel
theorem d_law_992 : decode lh_y.2.1 992 = .ok (.iconst 0, 1) := by decide +kernel
theorem d_law_993 : decode lh_y.2.1 993 = .ok (.ireturn, 1) := by decide +kernel
theorem d_law_994 : decode lh_y.2.1 994 = .ok (.aload_n 1, 1) := by decide +kernel
theorem d_law_995 : decode lh_y.2.1 995 = .ok (.invokevirtual 121, 3) := by decide +kernel
theorem d_law_998 : decode lh_y.2.1 998 = .ok (.aload_n 2, 1) := by decide +kernel
theorem d_law_999 : decode lh_y.2.1 999 = .ok (.invokevirtual 124, 3) := by decide +kernel
theorem d_law_1002 : decode lh_y.2.1 1002 = .ok (.if_icmp .eq 396, 3) := by decide +kernel
theorem d_law_1005 : decode lh_y.2.1 1005 = .ok (.iconst 0, 1) := by decide +kernel
theorem d_law_1006 : decode lh_y.2.1 1006 = .ok (.ireturn, 1) := by decide +kernel
theorem d_law_1007 : decode lh_y.2.1 1007 = .ok (.aload_n 1, 1) := by decide +kernel
theorem d_law_1008 : decode lh_y.2.1 1008 = .ok (.aload_n 0, 1) := by decide +kernel
theorem d_law_1009 : decode lh_y.2.1 1009 = .ok (.iload_n 3, 1) := by decide +kernel
theorem d_law_1010 : decode lh_y.2.1 1010 = .ok (.iconst 1, 1) := by decide +kernel
theorem d_law_1011 : decode lh_y.2.1 1011 = .ok (.iadd, 1) := by decide +kernel
theorem d_law_1012 : decode lh_y.2.1 1012 = .ok (.iaload, 1) := by decide +kernel
theorem d_law_1013 : decode lh_y.2.1 1013 = .ok (.invokevirtual 125, 3) := by decide +kernel
theorem d_law_1016 : decode lh_y.2.1 1016 = .ok (.aload_n 2, 1) := by decide +kernel
theorem d_law_1017 : decode lh_y.2.1 1017 = .ok (.aload_n 0, 1) := by decide +kernel
theorem d_law_1018 : decode lh_y.2.1 1018 = .ok (.iload_n 3, 1) := by decide +kernel
theorem d_law_1019 : decode lh_y.2.1 1019 = .ok (.iconst 1, 1) := by decide +kernel
theorem d_law_1020 : decode lh_y.2.1 1020 = .ok (.iadd, 1) := by decide +kernel
theorem d_law_1021 : decode lh_y.2.1 1021 = .ok (.iaload, 1) := by decide +kernel
theorem d_law_1022 : decode lh_y.2.1 1022 = .ok (.invokevirtual 128, 3) := by decide +kernel
theorem d_law_1025 : decode lh_y.2.1 1025 = .ok (.if_icmp .eq 373, 3) := by decide +kernel
theorem d_law_1028 : decode lh_y.2.1 1028 = .ok (.iconst 0, 1) := by decide +kernel
theorem d_law_1029 : decode lh_y.2.1 1029 = .ok (.ireturn, 1) := by decide +kernel
theorem d_law_1030 : decode lh_y.2.1 1030 = .ok (.aload_n 1, 1) := by decide +kernel
theorem d_law_1031 : decode lh_y.2.1 1031 = .ok (.aload_n 0, 1) := by decide +kernel
theorem d_law_1032 : decode lh_y.2.1 1032 = .ok (.iload_n 3, 1) := by decide +kernel
theorem d_law_1033 : decode lh_y.2.1 1033 = .ok (.iconst 1, 1) := by decide +kernel
theorem d_law_1034 : decode lh_y.2.1 1034 = .ok (.iadd, 1) := by decide +kernel
theorem d_law_1035 : decode lh_y.2.1 1035 = .ok (.iaload, 1) := by decide +kernel
theorem d_law_1036 : decode lh_y.2.1 1036 = .ok (.aload_n 0, 1) := by decide +kernel
theorem d_law_1037 : decode lh_y.2.1 1037 = .ok (.iload_n 3, 1) := by decide +kernel
theorem d_law_1038 : decode lh_y.2.1 1038 = .ok (.iconst 2, 1) := by decide +kernel
theorem d_law_1039 : decode lh_y.2.1 1039 = .ok (.iadd, 1) := by decide +kernel
theorem d_law_1040 : decode lh_y.2.1 1040 = .ok (.iaload, 1) := by decide +kernel
theorem d_law_1041 : decode lh_y.2.1 1041 = .ok (.aload_n 0, 1) := by decide +kernel
theorem d_law_1042 : decode lh_y.2.1 1042 = .ok (.iload_n 3, 1) := by decide +kernel
theorem d_law_1043 : decode lh_y.2.1 1043 = .ok (.iconst 3, 1) := by decide +kernel
theorem d_law_1044 : decode lh_y.2.1 1044 = .ok (.iadd, 1) := by decide +kernel
theorem d_law_1045 : decode lh_y.2.1 1045 = .ok (.iaload, 1) := by decide +kernel
theorem d_law_1046 : decode lh_y.2.1 1046 = .ok (.invokevirtual 129, 3) := by decide +kernel
theorem d_law_1049 : decode lh_y.2.1 1049 = .ok (.aload_n 2, 1) := by decide +kernel
theorem d_law_1050 : decode lh_y.2.1 1050 = .ok (.aload_n 0, 1) := by decide +kernel
theorem d_law_1051 : decode lh_y.2.1 1051 = .ok (.iload_n 3, 1) := by decide +kernel
theorem d_law_1052 : decode lh_y.2.1 1052 = .ok (.iconst 1, 1) := by decide +kernel
theorem d_law_1053 : decode lh_y.2.1 1053 = .ok (.iadd, 1) := by decide +kernel
theorem d_law_1054 : decode lh_y.2.1 1054 = .ok (.iaload, 1) := by decide +kernel
theorem d_law_1055 : decode lh_y.2.1 1055 = .ok (.aload_n 0, 1) := by decide +kernel
theorem d_law_1056 : decode lh_y.2.1 1056 = .ok (.iload_n 3, 1) := by decide +kernel
theorem d_law_1057 : decode lh_y.2.1 1057 = .ok (.iconst 2, 1) := by decide +kernel
theorem d_law_1058 : decode lh_y.2.1 1058 = .ok (.iadd, 1) := by decide +kernel
theorem d_law_1059 : decode lh_y.2.1 1059 = .ok (.iaload, 1) := by decide +kernel
theorem d_law_1060 : decode lh_y.2.1 1060 = .ok (.aload_n 0, 1) := by decide +kernel
theorem d_law_1061 : decode lh_y.2.1 1061 = .ok (.iload_n 3, 1) := by decide +kernel
theorem d_law_1062 : decode lh_y.2.1 1062 = .ok (.iconst 3, 1) := by decide +kernel
theorem d_law_1063 : decode lh_y.2.1 1063 = .ok (.iadd, 1) := by decide +kernel
theorem d_law_1064 : decode lh_y.2.1 1064 = .ok (.iaload, 1) := by decide +kernel
theorem d_law_1065 : decode lh_y.2.1 1065 = .ok (.invokevirtual 132, 3) := by decide +kernel
theorem d_law_1068 : decode lh_y.2.1 1068 = .ok (.if_icmp .eq 330, 3) := by decide +kernel
theorem d_law_1071 : decode lh_y.2.1 1071 = .ok (.iconst 0, 1) := by decide +kernel
theorem d_law_1072 : decode lh_y.2.1 1072 = .ok (.ireturn, 1) := by decide +kernel
theorem d_law_1073 : decode lh_y.2.1 1073 = .ok (.aload_n 1, 1) := by decide +kernel
theorem d_law_1074 : decode lh_y.2.1 1074 = .ok (.aload_n 0, 1) := by decide +kernel
theorem d_law_1075 : decode lh_y.2.1 1075 = .ok (.iload_n 3, 1) := by decide +kernel
theorem d_law_1076 : decode lh_y.2.1 1076 = .ok (.iconst 1, 1) := by decide +kernel
theorem d_law_1077 : decode lh_y.2.1 1077 = .ok (.iadd, 1) := by decide +kernel
theorem d_law_1078 : decode lh_y.2.1 1078 = .ok (.iaload, 1) := by decide +kernel
theorem d_law_1079 : decode lh_y.2.1 1079 = .ok (.invokevirtual 133, 3) := by decide +kernel
theorem d_law_1082 : decode lh_y.2.1 1082 = .ok (.aload_n 2, 1) := by decide +kernel
theorem d_law_1083 : decode lh_y.2.1 1083 = .ok (.aload_n 0, 1) := by decide +kernel
theorem d_law_1084 : decode lh_y.2.1 1084 = .ok (.iload_n 3, 1) := by decide +kernel
theorem d_law_1085 : decode lh_y.2.1 1085 = .ok (.iconst 1, 1) := by decide +kernel
theorem d_law_1086 : decode lh_y.2.1 1086 = .ok (.iadd, 1) := by decide +kernel
theorem d_law_1087 : decode lh_y.2.1 1087 = .ok (.iaload, 1) := by decide +kernel
theorem d_law_1088 : decode lh_y.2.1 1088 = .ok (.invokevirtual 136, 3) := by decide +kernel
theorem d_law_1091 : decode lh_y.2.1 1091 = .ok (.if_icmp .eq 307, 3) := by decide +kernel
theorem d_law_1094 : decode lh_y.2.1 1094 = .ok (.iconst 0, 1) := by decide +kernel
theorem d_law_1095 : decode lh_y.2.1 1095 = .ok (.ireturn, 1) := by decide +kernel
theorem d_law_1096 : decode lh_y.2.1 1096 = .ok (.aload_n 1, 1) := by decide +kernel
theorem d_law_1097 : decode lh_y.2.1 1097 = .ok (.aload_n 0, 1) := by decide +kernel
theorem d_law_1098 : decode lh_y.2.1 1098 = .ok (.iload_n 3, 1) := by decide +kernel
theorem d_law_1099 : decode lh_y.2.1 1099 = .ok (.iconst 1, 1) := by decide +kernel
theorem d_law_1100 : decode lh_y.2.1 1100 = .ok (.iadd, 1) := by decide +kernel
theorem d_law_1101 : decode lh_y.2.1 1101 = .ok (.iaload, 1) := by decide +kernel
theorem d_law_1102 : decode lh_y.2.1 1102 = .ok (.aload_n 0, 1) := by decide +kernel
theorem d_law_1103 : decode lh_y.2.1 1103 = .ok (.iload_n 3, 1) := by decide +kernel
theorem d_law_1104 : decode lh_y.2.1 1104 = .ok (.iconst 2, 1) := by decide +kernel
theorem d_law_1105 : decode lh_y.2.1 1105 = .ok (.iadd, 1) := by decide +kernel
theorem d_law_1106 : decode lh_y.2.1 1106 = .ok (.iaload, 1) := by decide +kernel
theorem d_law_1107 : decode lh_y.2.1 1107 = .ok (.invokevirtual 137, 3) := by decide +kernel
theorem d_law_1110 : decode lh_y.2.1 1110 = .ok (.aload_n 2, 1) := by decide +kernel
theorem d_law_1111 : decode lh_y.2.1 1111 = .ok (.aload_n 0, 1) := by decide +kernel
theorem d_law_1112 : decode lh_y.2.1 1112 = .ok (.iload_n 3, 1) := by decide +kernel
theorem d_law_1113 : decode lh_y.2.1 1113 = .ok (.iconst 1, 1) := by decide +kernel
theorem d_law_1114 : decode lh_y.2.1 1114 = .ok (.iadd, 1) := by decide +kernel
theorem d_law_1115 : decode lh_y.2.1 1115 = .ok (.iaload, 1) := by decide +kernel
theorem d_law_1116 : decode lh_y.2.1 1116 = .ok (.aload_n 0, 1) := by decide +kernel
theorem d_law_1117 : decode lh_y.2.1 1117 = .ok (.iload_n 3, 1) := by decide +kernel
theorem d_law_1118 : decode lh_y.2.1 1118 = .ok (.iconst 2, 1) := by decide +kernel
theorem d_law_1119 : decode lh_y.2.1 1119 = .ok (.iadd, 1) := by decide +kernel
theorem d_law_1120 : decode lh_y.2.1 1120 = .ok (.iaload, 1) := by decide +kernel
theorem d_law_1121 : decode lh_y.2.1 1121 = .ok (.invokevirtual 140, 3) := by decide +kernel
theorem d_law_1124 : decode lh_y.2.1 1124 = .ok (.if_icmp .eq 274, 3) := by decide +kernel
theorem d_law_1127 : decode lh_y.2.1 1127 = .ok (.iconst 0, 1) := by decide +kernel
theorem d_law_1128 : decode lh_y.2.1 1128 = .ok (.ireturn, 1) := by decide +kernel
theorem d_law_1129 : decode lh_y.2.1 1129 = .ok (.aload_n 1, 1) := by decide +kernel
theorem d_law_1130 : decode lh_y.2.1 1130 = .ok (.aload_n 0, 1) := by decide +kernel
theorem d_law_1131 : decode lh_y.2.1 1131 = .ok (.iload_n 3, 1) := by decide +kernel
theorem d_law_1132 : decode lh_y.2.1 1132 = .ok (.iconst 1, 1) := by decide +kernel
theorem d_law_1133 : decode lh_y.2.1 1133 = .ok (.iadd, 1) := by decide +kernel
theorem d_law_1134 : decode lh_y.2.1 1134 = .ok (.iaload, 1) := by decide +kernel
theorem d_law_1135 : decode lh_y.2.1 1135 = .ok (.aload_n 0, 1) := by decide +kernel
theorem d_law_1136 : decode lh_y.2.1 1136 = .ok (.iload_n 3, 1) := by decide +kernel
theorem d_law_1137 : decode lh_y.2.1 1137 = .ok (.iconst 2, 1) := by decide +kernel
theorem d_law_1138 : decode lh_y.2.1 1138 = .ok (.iadd, 1) := by decide +kernel
theorem d_law_1139 : decode lh_y.2.1 1139 = .ok (.iaload, 1) := by decide +kernel
theorem d_law_1140 : decode lh_y.2.1 1140 = .ok (.aload_n 0, 1) := by decide +kernel
theorem d_law_1141 : decode lh_y.2.1 1141 = .ok (.iload_n 3, 1) := by decide +kernel
theorem d_law_1142 : decode lh_y.2.1 1142 = .ok (.iconst 3, 1) := by decide +kernel
theorem d_law_1143 : decode lh_y.2.1 1143 = .ok (.iadd, 1) := by decide +kernel
theorem d_law_1144 : decode lh_y.2.1 1144 = .ok (.iaload, 1) := by decide +kernel
theorem d_law_1145 : decode lh_y.2.1 1145 = .ok (.invokevirtual 141, 3) := by decide +kernel
theorem d_law_1148 : decode lh_y.2.1 1148 = .ok (.aload_n 2, 1) := by decide +kernel
theorem d_law_1149 : decode lh_y.2.1 1149 = .ok (.aload_n 0, 1) := by decide +kernel
theorem d_law_1150 : decode lh_y.2.1 1150 = .ok (.iload_n 3, 1) := by decide +kernel
theorem d_law_1151 : decode lh_y.2.1 1151 = .ok (.iconst 1, 1) := by decide +kernel
theorem d_law_1152 : decode lh_y.2.1 1152 = .ok (.iadd, 1) := by decide +kernel
theorem d_law_1153 : decode lh_y.2.1 1153 = .ok (.iaload, 1) := by decide +kernel
theorem d_law_1154 : decode lh_y.2.1 1154 = .ok (.aload_n 0, 1) := by decide +kernel
theorem d_law_1155 : decode lh_y.2.1 1155 = .ok (.iload_n 3, 1) := by decide +kernel
theorem d_law_1156 : decode lh_y.2.1 1156 = .ok (.iconst 2, 1) := by decide +kernel
theorem d_law_1157 : decode lh_y.2.1 1157 = .ok (.iadd, 1) := by decide +kernel
theorem d_law_1158 : decode lh_y.2.1 1158 = .ok (.iaload, 1) := by decide +kernel
theorem d_law_1159 : decode lh_y.2.1 1159 = .ok (.aload_n 0, 1) := by decide +kernel
theorem d_law_1160 : decode lh_y.2.1 1160 = .ok (.iload_n 3, 1) := by decide +kernel
theorem d_law_1161 : decode lh_y.2.1 1161 = .ok (.iconst 3, 1) := by decide +kernel
theorem d_law_1162 : decode lh_y.2.1 1162 = .ok (.iadd, 1) := by decide +kernel
theorem d_law_1163 : decode lh_y.2.1 1163 = .ok (.iaload, 1) := by decide +kernel
theorem d_law_1164 : decode lh_y.2.1 1164 = .ok (.invokevirtual 144, 3) := by decide +kernel
theorem d_law_1167 : decode lh_y.2.1 1167 = .ok (.if_icmp .eq 231, 3) := by decide +kernel
theorem d_law_1170 : decode lh_y.2.1 1170 = .ok (.iconst 0, 1) := by decide +kernel
theorem d_law_1171 : decode lh_y.2.1 1171 = .ok (.ireturn, 1) := by decide +kernel
theorem d_law_1172 : decode lh_y.2.1 1172 = .ok (.aload_n 1, 1) := by decide +kernel
theorem d_law_1173 : decode lh_y.2.1 1173 = .ok (.aload_n 0, 1) := by decide +kernel
theorem d_law_1174 : decode lh_y.2.1 1174 = .ok (.iload_n 3, 1) := by decide +kernel
theorem d_law_1175 : decode lh_y.2.1 1175 = .ok (.iconst 1, 1) := by decide +kernel
theorem d_law_1176 : decode lh_y.2.1 1176 = .ok (.iadd, 1) := by decide +kernel
theorem d_law_1177 : decode lh_y.2.1 1177 = .ok (.iaload, 1) := by decide +kernel
theorem d_law_1178 : decode lh_y.2.1 1178 = .ok (.aload_n 0, 1) := by decide +kernel
theorem d_law_1179 : decode lh_y.2.1 1179 = .ok (.iload_n 3, 1) := by decide +kernel
theorem d_law_1180 : decode lh_y.2.1 1180 = .ok (.iconst 2, 1) := by decide +kernel
theorem d_law_1181 : decode lh_y.2.1 1181 = .ok (.iadd, 1) := by decide +kernel
theorem d_law_1182 : decode lh_y.2.1 1182 = .ok (.iaload, 1) := by decide +kernel
theorem d_law_1183 : decode lh_y.2.1 1183 = .ok (.aload_n 0, 1) := by decide +kernel
theorem d_law_1184 : decode lh_y.2.1 1184 = .ok (.iload_n 3, 1) := by decide +kernel
theorem d_law_1185 : decode lh_y.2.1 1185 = .ok (.iconst 3, 1) := by decide +kernel
theorem d_law_1186 : decode lh_y.2.1 1186 = .ok (.iadd, 1) := by decide +kernel
theorem d_law_1187 : decode lh_y.2.1 1187 = .ok (.iaload, 1) := by decide +kernel
theorem d_law_1188 : decode lh_y.2.1 1188 = .ok (.i2l, 1) := by decide +kernel
theorem d_law_1189 : decode lh_y.2.1 1189 = .ok (.bipush 32, 2) := by decide +kernel
theorem d_law_1191 : decode lh_y.2.1 1191 = .ok (.lshl, 1) := by decide +kernel
theorem d_law_1192 : decode lh_y.2.1 1192 = .ok (.aload_n 0, 1) := by decide +kernel
theorem d_law_1193 : decode lh_y.2.1 1193 = .ok (.iload_n 3, 1) := by decide +kernel
theorem d_law_1194 : decode lh_y.2.1 1194 = .ok (.iconst 4, 1) := by decide +kernel
theorem d_law_1195 : decode lh_y.2.1 1195 = .ok (.iadd, 1) := by decide +kernel
theorem d_law_1196 : decode lh_y.2.1 1196 = .ok (.iaload, 1) := by decide +kernel
theorem d_law_1197 : decode lh_y.2.1 1197 = .ok (.i2l, 1) := by decide +kernel
theorem d_law_1198 : decode lh_y.2.1 1198 = .ok (.ldc2_w 145, 3) := by decide +kernel
theorem d_law_1201 : decode lh_y.2.1 1201 = .ok (.land, 1) := by decide +kernel
theorem d_law_1202 : decode lh_y.2.1 1202 = .ok (.lor, 1) := by decide +kernel
theorem d_law_1203 : decode lh_y.2.1 1203 = .ok (.invokevirtual 147, 3) := by decide +kernel
theorem d_law_1206 : decode lh_y.2.1 1206 = .ok (.aload_n 2, 1) := by decide +kernel
theorem d_law_1207 : decode lh_y.2.1 1207 = .ok (.aload_n 0, 1) := by decide +kernel
theorem d_law_1208 : decode lh_y.2.1 1208 = .ok (.iload_n 3, 1) := by decide +kernel
theorem d_law_1209 : decode lh_y.2.1 1209 = .ok (.iconst 1, 1) := by decide +kernel
theorem d_law_1210 : decode lh_y.2.1 1210 = .ok (.iadd, 1) := by decide +kernel
theorem d_law_1211 : decode lh_y.2.1 1211 = .ok (.iaload, 1) := by decide +kernel
theorem d_law_1212 : decode lh_y.2.1 1212 = .ok (.aload_n 0, 1) := by decide +kernel
theorem d_law_1213 : decode lh_y.2.1 1213 = .ok (.iload_n 3, 1) := by decide +kernel
theorem d_law_1214 : decode lh_y.2.1 1214 = .ok (.iconst 2, 1) := by decide +kernel
theorem d_law_1215 : decode lh_y.2.1 1215 = .ok (.iadd, 1) := by decide +kernel
theorem d_law_1216 : decode lh_y.2.1 1216 = .ok (.iaload, 1) := by decide +kernel
theorem d_law_1217 : decode lh_y.2.1 1217 = .ok (.aload_n 0, 1) := by decide +kernel
theorem d_law_1218 : decode lh_y.2.1 1218 = .ok (.iload_n 3, 1) := by decide +kernel
theorem d_law_1219 : decode lh_y.2.1 1219 = .ok (.iconst 3, 1) := by decide +kernel
theorem d_law_1220 : decode lh_y.2.1 1220 = .ok (.iadd, 1) := by decide +kernel
theorem d_law_1221 : decode lh_y.2.1 1221 = .ok (.iaload, 1) := by decide +kernel
theorem d_law_1222 : decode lh_y.2.1 1222 = .ok (.i2l, 1) := by decide +kernel
theorem d_law_1223 : decode lh_y.2.1 1223 = .ok (.bipush 32, 2) := by decide +kernel
theorem d_law_1225 : decode lh_y.2.1 1225 = .ok (.lshl, 1) := by decide +kernel
theorem d_law_1226 : decode lh_y.2.1 1226 = .ok (.aload_n 0, 1) := by decide +kernel
theorem d_law_1227 : decode lh_y.2.1 1227 = .ok (.iload_n 3, 1) := by decide +kernel
theorem d_law_1228 : decode lh_y.2.1 1228 = .ok (.iconst 4, 1) := by decide +kernel
theorem d_law_1229 : decode lh_y.2.1 1229 = .ok (.iadd, 1) := by decide +kernel
theorem d_law_1230 : decode lh_y.2.1 1230 = .ok (.iaload, 1) := by decide +kernel
theorem d_law_1231 : decode lh_y.2.1 1231 = .ok (.i2l, 1) := by decide +kernel
theorem d_law_1232 : decode lh_y.2.1 1232 = .ok (.ldc2_w 145, 3) := by decide +kernel
theorem d_law_1235 : decode lh_y.2.1 1235 = .ok (.land, 1) := by decide +kernel
theorem d_law_1236 : decode lh_y.2.1 1236 = .ok (.lor, 1) := by decide +kernel
theorem d_law_1237 : decode lh_y.2.1 1237 = .ok (.invokevirtual 151, 3) := by decide +kernel
theorem d_law_1240 : decode lh_y.2.1 1240 = .ok (.if_icmp .eq 158, 3) := by decide +kernel
theorem d_law_1243 : decode lh_y.2.1 1243 = .ok (.iconst 0, 1) := by decide +kernel
theorem d_law_1244 : decode lh_y.2.1 1244 = .ok (.ireturn, 1) := by decide +kernel
theorem d_law_1245 : decode lh_y.2.1 1245 = .ok (.aload_n 1, 1) := by decide +kernel
theorem d_law_1246 : decode lh_y.2.1 1246 = .ok (.aload_n 0, 1) := by decide +kernel
theorem d_law_1247 : decode lh_y.2.1 1247 = .ok (.iload_n 3, 1) := by decide +kernel
theorem d_law_1248 : decode lh_y.2.1 1248 = .ok (.iconst 1, 1) := by decide +kernel
theorem d_law_1249 : decode lh_y.2.1 1249 = .ok (.iadd, 1) := by decide +kernel
theorem d_law_1250 : decode lh_y.2.1 1250 = .ok (.iaload, 1) := by decide +kernel
theorem d_law_1251 : decode lh_y.2.1 1251 = .ok (.aload_n 0, 1) := by decide +kernel
theorem d_law_1252 : decode lh_y.2.1 1252 = .ok (.iload_n 3, 1) := by decide +kernel
theorem d_law_1253 : decode lh_y.2.1 1253 = .ok (.iconst 2, 1) := by decide +kernel
theorem d_law_1254 : decode lh_y.2.1 1254 = .ok (.iadd, 1) := by decide +kernel
theorem d_law_1255 : decode lh_y.2.1 1255 = .ok (.iaload, 1) := by decide +kernel
theorem d_law_1256 : decode lh_y.2.1 1256 = .ok (.invokevirtual 152, 3) := by decide +kernel
theorem d_law_1259 : decode lh_y.2.1 1259 = .ok (.aload_n 2, 1) := by decide +kernel
theorem d_law_1260 : decode lh_y.2.1 1260 = .ok (.aload_n 0, 1) := by decide +kernel
theorem d_law_1261 : decode lh_y.2.1 1261 = .ok (.iload_n 3, 1) := by decide +kernel
theorem d_law_1262 : decode lh_y.2.1 1262 = .ok (.iconst 1, 1) := by decide +kernel
theorem d_law_1263 : decode lh_y.2.1 1263 = .ok (.iadd, 1) := by decide +kernel
theorem d_law_1264 : decode lh_y.2.1 1264 = .ok (.iaload, 1) := by decide +kernel
theorem d_law_1265 : decode lh_y.2.1 1265 = .ok (.aload_n 0, 1) := by decide +kernel
theorem d_law_1266 : decode lh_y.2.1 1266 = .ok (.iload_n 3, 1) := by decide +kernel
theorem d_law_1267 : decode lh_y.2.1 1267 = .ok (.iconst 2, 1) := by decide +kernel
theorem d_law_1268 : decode lh_y.2.1 1268 = .ok (.iadd, 1) := by decide +kernel
theorem d_law_1269 : decode lh_y.2.1 1269 = .ok (.iaload, 1) := by decide +kernel
theorem d_law_1270 : decode lh_y.2.1 1270 = .ok (.invokevirtual 156, 3) := by decide +kernel
theorem d_law_1273 : decode lh_y.2.1 1273 = .ok (.lcmp, 1) := by decide +kernel
theorem d_law_1274 : decode lh_y.2.1 1274 = .ok (.ifCond .eq 124, 3) := by decide +kernel
theorem d_law_1277 : decode lh_y.2.1 1277 = .ok (.iconst 0, 1) := by decide +kernel
theorem d_law_1278 : decode lh_y.2.1 1278 = .ok (.ireturn, 1) := by decide +kernel
theorem d_law_1279 : decode lh_y.2.1 1279 = .ok (.aload_n 1, 1) := by decide +kernel
theorem d_law_1280 : decode lh_y.2.1 1280 = .ok (.aload_n 0, 1) := by decide +kernel
theorem d_law_1281 : decode lh_y.2.1 1281 = .ok (.iload_n 3, 1) := by decide +kernel
theorem d_law_1282 : decode lh_y.2.1 1282 = .ok (.iconst 1, 1) := by decide +kernel
theorem d_law_1283 : decode lh_y.2.1 1283 = .ok (.iadd, 1) := by decide +kernel
theorem d_law_1284 : decode lh_y.2.1 1284 = .ok (.iaload, 1) := by decide +kernel
theorem d_law_1285 : decode lh_y.2.1 1285 = .ok (.aload_n 0, 1) := by decide +kernel
theorem d_law_1286 : decode lh_y.2.1 1286 = .ok (.iload_n 3, 1) := by decide +kernel
theorem d_law_1287 : decode lh_y.2.1 1287 = .ok (.iconst 2, 1) := by decide +kernel
theorem d_law_1288 : decode lh_y.2.1 1288 = .ok (.iadd, 1) := by decide +kernel
theorem d_law_1289 : decode lh_y.2.1 1289 = .ok (.iaload, 1) := by decide +kernel
theorem d_law_1290 : decode lh_y.2.1 1290 = .ok (.aload_n 0, 1) := by decide +kernel
theorem d_law_1291 : decode lh_y.2.1 1291 = .ok (.iload_n 3, 1) := by decide +kernel
theorem d_law_1292 : decode lh_y.2.1 1292 = .ok (.iconst 3, 1) := by decide +kernel
theorem d_law_1293 : decode lh_y.2.1 1293 = .ok (.iadd, 1) := by decide +kernel
theorem d_law_1294 : decode lh_y.2.1 1294 = .ok (.iaload, 1) := by decide +kernel
theorem d_law_1295 : decode lh_y.2.1 1295 = .ok (.aload_n 0, 1) := by decide +kernel
theorem d_law_1296 : decode lh_y.2.1 1296 = .ok (.iload_n 3, 1) := by decide +kernel
theorem d_law_1297 : decode lh_y.2.1 1297 = .ok (.iconst 4, 1) := by decide +kernel
theorem d_law_1298 : decode lh_y.2.1 1298 = .ok (.iadd, 1) := by decide +kernel
theorem d_law_1299 : decode lh_y.2.1 1299 = .ok (.iaload, 1) := by decide +kernel
theorem d_law_1300 : decode lh_y.2.1 1300 = .ok (.aload_n 0, 1) := by decide +kernel
theorem d_law_1301 : decode lh_y.2.1 1301 = .ok (.iload_n 3, 1) := by decide +kernel
theorem d_law_1302 : decode lh_y.2.1 1302 = .ok (.iconst 5, 1) := by decide +kernel
theorem d_law_1303 : decode lh_y.2.1 1303 = .ok (.iadd, 1) := by decide +kernel
theorem d_law_1304 : decode lh_y.2.1 1304 = .ok (.iaload, 1) := by decide +kernel
theorem d_law_1305 : decode lh_y.2.1 1305 = .ok (.invokevirtual 157, 3) := by decide +kernel
theorem d_law_1308 : decode lh_y.2.1 1308 = .ok (.aload_n 2, 1) := by decide +kernel
theorem d_law_1309 : decode lh_y.2.1 1309 = .ok (.aload_n 0, 1) := by decide +kernel
theorem d_law_1310 : decode lh_y.2.1 1310 = .ok (.iload_n 3, 1) := by decide +kernel
theorem d_law_1311 : decode lh_y.2.1 1311 = .ok (.iconst 1, 1) := by decide +kernel
theorem d_law_1312 : decode lh_y.2.1 1312 = .ok (.iadd, 1) := by decide +kernel
theorem d_law_1313 : decode lh_y.2.1 1313 = .ok (.iaload, 1) := by decide +kernel
theorem d_law_1314 : decode lh_y.2.1 1314 = .ok (.aload_n 0, 1) := by decide +kernel
theorem d_law_1315 : decode lh_y.2.1 1315 = .ok (.iload_n 3, 1) := by decide +kernel
theorem d_law_1316 : decode lh_y.2.1 1316 = .ok (.iconst 2, 1) := by decide +kernel
theorem d_law_1317 : decode lh_y.2.1 1317 = .ok (.iadd, 1) := by decide +kernel
theorem d_law_1318 : decode lh_y.2.1 1318 = .ok (.iaload, 1) := by decide +kernel
theorem d_law_1319 : decode lh_y.2.1 1319 = .ok (.aload_n 0, 1) := by decide +kernel
theorem d_law_1320 : decode lh_y.2.1 1320 = .ok (.iload_n 3, 1) := by decide +kernel
theorem d_law_1321 : decode lh_y.2.1 1321 = .ok (.iconst 3, 1) := by decide +kernel
theorem d_law_1322 : decode lh_y.2.1 1322 = .ok (.iadd, 1) := by decide +kernel
theorem d_law_1323 : decode lh_y.2.1 1323 = .ok (.iaload, 1) := by decide +kernel
theorem d_law_1324 : decode lh_y.2.1 1324 = .ok (.aload_n 0, 1) := by decide +kernel
theorem d_law_1325 : decode lh_y.2.1 1325 = .ok (.iload_n 3, 1) := by decide +kernel
theorem d_law_1326 : decode lh_y.2.1 1326 = .ok (.iconst 4, 1) := by decide +kernel
theorem d_law_1327 : decode lh_y.2.1 1327 = .ok (.iadd, 1) := by decide +kernel
theorem d_law_1328 : decode lh_y.2.1 1328 = .ok (.iaload, 1) := by decide +kernel
theorem d_law_1329 : decode lh_y.2.1 1329 = .ok (.aload_n 0, 1) := by decide +kernel
theorem d_law_1330 : decode lh_y.2.1 1330 = .ok (.iload_n 3, 1) := by decide +kernel
theorem d_law_1331 : decode lh_y.2.1 1331 = .ok (.iconst 5, 1) := by decide +kernel
theorem d_law_1332 : decode lh_y.2.1 1332 = .ok (.iadd, 1) := by decide +kernel
theorem d_law_1333 : decode lh_y.2.1 1333 = .ok (.iaload, 1) := by decide +kernel
theorem d_law_1334 : decode lh_y.2.1 1334 = .ok (.invokevirtual 161, 3) := by decide +kernel
theorem d_law_1337 : decode lh_y.2.1 1337 = .ok (.if_icmp .eq 61, 3) := by decide +kernel
theorem d_law_1340 : decode lh_y.2.1 1340 = .ok (.iconst 0, 1) := by decide +kernel
theorem d_law_1341 : decode lh_y.2.1 1341 = .ok (.ireturn, 1) := by decide +kernel
theorem d_law_1342 : decode lh_y.2.1 1342 = .ok (.aload_n 1, 1) := by decide +kernel
theorem d_law_1343 : decode lh_y.2.1 1343 = .ok (.aload_n 0, 1) := by decide +kernel
theorem d_law_1344 : decode lh_y.2.1 1344 = .ok (.iload_n 3, 1) := by decide +kernel
theorem d_law_1345 : decode lh_y.2.1 1345 = .ok (.iconst 1, 1) := by decide +kernel
theorem d_law_1346 : decode lh_y.2.1 1346 = .ok (.iadd, 1) := by decide +kernel
theorem d_law_1347 : decode lh_y.2.1 1347 = .ok (.iaload, 1) := by decide +kernel
theorem d_law_1348 : decode lh_y.2.1 1348 = .ok (.aload_n 0, 1) := by decide +kernel
theorem d_law_1349 : decode lh_y.2.1 1349 = .ok (.iload_n 3, 1) := by decide +kernel
theorem d_law_1350 : decode lh_y.2.1 1350 = .ok (.iconst 2, 1) := by decide +kernel
theorem d_law_1351 : decode lh_y.2.1 1351 = .ok (.iadd, 1) := by decide +kernel
theorem d_law_1352 : decode lh_y.2.1 1352 = .ok (.iaload, 1) := by decide +kernel
theorem d_law_1353 : decode lh_y.2.1 1353 = .ok (.invokevirtual 162, 3) := by decide +kernel
theorem d_law_1356 : decode lh_y.2.1 1356 = .ok (.aload_n 2, 1) := by decide +kernel
theorem d_law_1357 : decode lh_y.2.1 1357 = .ok (.aload_n 0, 1) := by decide +kernel
theorem d_law_1358 : decode lh_y.2.1 1358 = .ok (.iload_n 3, 1) := by decide +kernel
theorem d_law_1359 : decode lh_y.2.1 1359 = .ok (.iconst 1, 1) := by decide +kernel
theorem d_law_1360 : decode lh_y.2.1 1360 = .ok (.iadd, 1) := by decide +kernel
theorem d_law_1361 : decode lh_y.2.1 1361 = .ok (.iaload, 1) := by decide +kernel
theorem d_law_1362 : decode lh_y.2.1 1362 = .ok (.aload_n 0, 1) := by decide +kernel
theorem d_law_1363 : decode lh_y.2.1 1363 = .ok (.iload_n 3, 1) := by decide +kernel
theorem d_law_1364 : decode lh_y.2.1 1364 = .ok (.iconst 2, 1) := by decide +kernel
theorem d_law_1365 : decode lh_y.2.1 1365 = .ok (.iadd, 1) := by decide +kernel
theorem d_law_1366 : decode lh_y.2.1 1366 = .ok (.iaload, 1) := by decide +kernel
theorem d_law_1367 : decode lh_y.2.1 1367 = .ok (.invokevirtual 165, 3) := by decide +kernel
theorem d_law_1370 : decode lh_y.2.1 1370 = .ok (.if_icmp .eq 28, 3) := by decide +kernel
theorem d_law_1373 : decode lh_y.2.1 1373 = .ok (.iconst 0, 1) := by decide +kernel
theorem d_law_1374 : decode lh_y.2.1 1374 = .ok (.ireturn, 1) := by decide +kernel
theorem d_law_1375 : decode lh_y.2.1 1375 = .ok (.aload_n 1, 1) := by decide +kernel
theorem d_law_1376 : decode lh_y.2.1 1376 = .ok (.aload_n 0, 1) := by decide +kernel
theorem d_law_1377 : decode lh_y.2.1 1377 = .ok (.iload_n 3, 1) := by decide +kernel
theorem d_law_1378 : decode lh_y.2.1 1378 = .ok (.iconst 1, 1) := by decide +kernel
theorem d_law_1379 : decode lh_y.2.1 1379 = .ok (.iadd, 1) := by decide +kernel
theorem d_law_1380 : decode lh_y.2.1 1380 = .ok (.iaload, 1) := by decide +kernel
theorem d_law_1381 : decode lh_y.2.1 1381 = .ok (.invokevirtual 166, 3) := by decide +kernel
theorem d_law_1384 : decode lh_y.2.1 1384 = .ok (.aload_n 2, 1) := by decide +kernel
theorem d_law_1385 : decode lh_y.2.1 1385 = .ok (.aload_n 0, 1) := by decide +kernel
theorem d_law_1386 : decode lh_y.2.1 1386 = .ok (.iload_n 3, 1) := by decide +kernel
theorem d_law_1387 : decode lh_y.2.1 1387 = .ok (.iconst 1, 1) := by decide +kernel
theorem d_law_1388 : decode lh_y.2.1 1388 = .ok (.iadd, 1) := by decide +kernel
theorem d_law_1389 : decode lh_y.2.1 1389 = .ok (.iaload, 1) := by decide +kernel
theorem d_law_1390 : decode lh_y.2.1 1390 = .ok (.invokevirtual 169, 3) := by decide +kernel
theorem d_law_1393 : decode lh_y.2.1 1393 = .ok (.if_icmp .eq 5, 3) := by decide +kernel
theorem d_law_1396 : decode lh_y.2.1 1396 = .ok (.iconst 0, 1) := by decide +kernel
theorem d_law_1397 : decode lh_y.2.1 1397 = .ok (.ireturn, 1) := by decide +kernel
theorem d_law_1398 : decode lh_y.2.1 1398 = .ok (.iinc 3 6, 3) := by decide +kernel
theorem d_law_1401 : decode lh_y.2.1 1401 = .ok (.goto (-1383), 3) := by decide +kernel
theorem d_law_1404 : decode lh_y.2.1 1404 = .ok (.iconst 1, 1) := by decide +kernel
theorem d_law_1405 : decode lh_y.2.1 1405 = .ok (.ireturn, 1) := by decide +kernel
noncomputable def f_L_0 (xs : Nat → Int32) (L : Nat) (k : Int32 → gk_M → gk_M → Option Unit) (i : Int32) (mx mm : gk_M) : Option Unit :=
  gk_as xs L (i + 1) fun v1 =>
  gk_as xs L (i + 2) fun v2 =>
  gk_bi (f_X_tower v1 v2 mx) fun r3 mx3 =>
  gk_as xs L (i + 1) fun v4 =>
  gk_as xs L (i + 2) fun v5 =>
  gk_bi (f_M_tower v4 v5 mm) fun r6 mm6 =>
  if r3 = r6 then k (i + 6) mx3 mm6 else none
theorem s_L_0 {z : gk_Z} {u1 u2 : gk_U} {b L : Nat} {xs : Nat → Int32} {Q : State → Prop} (K : lh_F z u1 u2 b L xs) {k : Int32 → gk_M → gk_M → Option Unit} (hk : ∀ i mx mm, k i mx mm = some () → lh_G z u1 u2 b Q mx mm i [] 18) : ∀ i mx mm, f_L_0 xs L k i mx mm = some () → lh_G z u1 u2 b Q mx mm i [] 196 := by
  intro i mx mm h
  unfold f_L_0 at h
  refine lh_al1 (pc := 196) K d_law_196 ?_
  refine lh_al0 (pc := 197) K d_law_197 ?_
  refine lh_il3 (pc := 198) K d_law_198 ?_
  refine lh_iconst (pc := 199) K d_law_199 kc_1 ?_
  refine lh_iadd (pc := 200) K d_law_200 ?_
  refine lh_sld (pc := 201) K d_law_201 h (fun v1 h => ?_)
  refine lh_al0 (pc := 202) K d_law_202 ?_
  refine lh_il3 (pc := 203) K d_law_203 ?_
  refine lh_iconst (pc := 204) K d_law_204 kc_2 ?_
  refine lh_iadd (pc := 205) K d_law_205 ?_
  refine lh_sld (pc := 206) K d_law_206 h (fun v2 h => ?_)
  obtain ⟨r3, mx3, emx3, h⟩ := gk_bi_some h
  refine lh_cXi (As := [.int v1, .int v2]) (pc := 207) K d_law_207 mv_L_13 mc_X_tower rfl cl_ok9.1 (s_X_tower (gk_FD K.1) emx3) (by decide) rfl (Nat.le_of_ble_eq_true rfl) ?_
  refine lh_al2 (pc := 210) K d_law_210 ?_
  refine lh_al0 (pc := 211) K d_law_211 ?_
  refine lh_il3 (pc := 212) K d_law_212 ?_
  refine lh_iconst (pc := 213) K d_law_213 kc_1 ?_
  refine lh_iadd (pc := 214) K d_law_214 ?_
  refine lh_sld (pc := 215) K d_law_215 h (fun v4 h => ?_)
  refine lh_al0 (pc := 216) K d_law_216 ?_
  refine lh_il3 (pc := 217) K d_law_217 ?_
  refine lh_iconst (pc := 218) K d_law_218 kc_2 ?_
  refine lh_iadd (pc := 219) K d_law_219 ?_
  refine lh_sld (pc := 220) K d_law_220 h (fun v5 h => ?_)
  obtain ⟨r6, mm6, emm6, h⟩ := gk_bi_some h
  refine lh_cMi (As := [.int v4, .int v5]) (pc := 221) K d_law_221 mv_L_17 mc_M_tower rfl cl_ok10.1 (s_M_tower (gk_FD K.2.1) emm6) (by decide) rfl (Nat.le_of_ble_eq_true rfl) ?_
  refine lh_eq (tgt := 1398) (pc := 224) K d_law_224 (by decide) h (fun h => ?_)
  refine lh_iinc (pc := 1398) K d_law_1398 kc_6 ?_
  refine lh_goto (tgt := 18) (pc := 1401) K d_law_1401 (by decide) ?_
  exact hk _ _ _ h
noncomputable def f_L_1 (xs : Nat → Int32) (L : Nat) (k : Int32 → gk_M → gk_M → Option Unit) (i : Int32) (mx mm : gk_M) : Option Unit :=
  gk_as xs L (i + 1) fun v1 =>
  gk_as xs L (i + 2) fun v2 =>
  gk_as xs L (i + 3) fun v3 =>
  gk_bi (f_X_towers v1 v2 v3 mx) fun r4 mx4 =>
  gk_as xs L (i + 1) fun v5 =>
  gk_as xs L (i + 2) fun v6 =>
  gk_as xs L (i + 3) fun v7 =>
  gk_bi (f_M_towers v5 v6 v7 mm) fun r8 mm8 =>
  if r4 = r8 then k (i + 6) mx4 mm8 else none
theorem s_L_1 {z : gk_Z} {u1 u2 : gk_U} {b L : Nat} {xs : Nat → Int32} {Q : State → Prop} (K : lh_F z u1 u2 b L xs) {k : Int32 → gk_M → gk_M → Option Unit} (hk : ∀ i mx mm, k i mx mm = some () → lh_G z u1 u2 b Q mx mm i [] 18) : ∀ i mx mm, f_L_1 xs L k i mx mm = some () → lh_G z u1 u2 b Q mx mm i [] 229 := by
  intro i mx mm h
  unfold f_L_1 at h
  refine lh_al1 (pc := 229) K d_law_229 ?_
  refine lh_al0 (pc := 230) K d_law_230 ?_
  refine lh_il3 (pc := 231) K d_law_231 ?_
  refine lh_iconst (pc := 232) K d_law_232 kc_1 ?_
  refine lh_iadd (pc := 233) K d_law_233 ?_
  refine lh_sld (pc := 234) K d_law_234 h (fun v1 h => ?_)
  refine lh_al0 (pc := 235) K d_law_235 ?_
  refine lh_il3 (pc := 236) K d_law_236 ?_
  refine lh_iconst (pc := 237) K d_law_237 kc_2 ?_
  refine lh_iadd (pc := 238) K d_law_238 ?_
  refine lh_sld (pc := 239) K d_law_239 h (fun v2 h => ?_)
  refine lh_al0 (pc := 240) K d_law_240 ?_
  refine lh_il3 (pc := 241) K d_law_241 ?_
  refine lh_iconst (pc := 242) K d_law_242 kc_3 ?_
  refine lh_iadd (pc := 243) K d_law_243 ?_
  refine lh_sld (pc := 244) K d_law_244 h (fun v3 h => ?_)
  obtain ⟨r4, mx4, emx4, h⟩ := gk_bi_some h
  refine lh_cXi (As := [.int v1, .int v2, .int v3]) (pc := 245) K d_law_245 mv_L_18 mc_X_towers rfl cl_ok9.1 (s_X_towers (gk_FD K.1) emx4) (by decide) rfl (Nat.le_of_ble_eq_true rfl) ?_
  refine lh_al2 (pc := 248) K d_law_248 ?_
  refine lh_al0 (pc := 249) K d_law_249 ?_
  refine lh_il3 (pc := 250) K d_law_250 ?_
  refine lh_iconst (pc := 251) K d_law_251 kc_1 ?_
  refine lh_iadd (pc := 252) K d_law_252 ?_
  refine lh_sld (pc := 253) K d_law_253 h (fun v5 h => ?_)
  refine lh_al0 (pc := 254) K d_law_254 ?_
  refine lh_il3 (pc := 255) K d_law_255 ?_
  refine lh_iconst (pc := 256) K d_law_256 kc_2 ?_
  refine lh_iadd (pc := 257) K d_law_257 ?_
  refine lh_sld (pc := 258) K d_law_258 h (fun v6 h => ?_)
  refine lh_al0 (pc := 259) K d_law_259 ?_
  refine lh_il3 (pc := 260) K d_law_260 ?_
  refine lh_iconst (pc := 261) K d_law_261 kc_3 ?_
  refine lh_iadd (pc := 262) K d_law_262 ?_
  refine lh_sld (pc := 263) K d_law_263 h (fun v7 h => ?_)
  obtain ⟨r8, mm8, emm8, h⟩ := gk_bi_some h
  refine lh_cMi (As := [.int v5, .int v6, .int v7]) (pc := 264) K d_law_264 mv_L_22 mc_M_towers rfl cl_ok10.1 (s_M_towers (gk_FD K.2.1) emm8) (by decide) rfl (Nat.le_of_ble_eq_true rfl) ?_
  refine lh_eq (tgt := 1398) (pc := 267) K d_law_267 (by decide) h (fun h => ?_)
  refine lh_iinc (pc := 1398) K d_law_1398 kc_6 ?_
  refine lh_goto (tgt := 18) (pc := 1401) K d_law_1401 (by decide) ?_
  exact hk _ _ _ h
noncomputable def f_L_2 (xs : Nat → Int32) (L : Nat) (k : Int32 → gk_M → gk_M → Option Unit) (i : Int32) (mx mm : gk_M) : Option Unit :=
  gk_as xs L (i + 1) fun v1 =>
  gk_as xs L (i + 2) fun v2 =>
  gk_bi (f_X_road v1 v2 mx) fun r3 mx3 =>
  gk_as xs L (i + 1) fun v4 =>
  gk_as xs L (i + 2) fun v5 =>
  gk_bi (f_M_road v4 v5 mm) fun r6 mm6 =>
  if r3 = r6 then k (i + 6) mx3 mm6 else none
theorem s_L_2 {z : gk_Z} {u1 u2 : gk_U} {b L : Nat} {xs : Nat → Int32} {Q : State → Prop} (K : lh_F z u1 u2 b L xs) {k : Int32 → gk_M → gk_M → Option Unit} (hk : ∀ i mx mm, k i mx mm = some () → lh_G z u1 u2 b Q mx mm i [] 18) : ∀ i mx mm, f_L_2 xs L k i mx mm = some () → lh_G z u1 u2 b Q mx mm i [] 272 := by
  intro i mx mm h
  unfold f_L_2 at h
  refine lh_al1 (pc := 272) K d_law_272 ?_
  refine lh_al0 (pc := 273) K d_law_273 ?_
  refine lh_il3 (pc := 274) K d_law_274 ?_
  refine lh_iconst (pc := 275) K d_law_275 kc_1 ?_
  refine lh_iadd (pc := 276) K d_law_276 ?_
  refine lh_sld (pc := 277) K d_law_277 h (fun v1 h => ?_)
  refine lh_al0 (pc := 278) K d_law_278 ?_
  refine lh_il3 (pc := 279) K d_law_279 ?_
  refine lh_iconst (pc := 280) K d_law_280 kc_2 ?_
  refine lh_iadd (pc := 281) K d_law_281 ?_
  refine lh_sld (pc := 282) K d_law_282 h (fun v2 h => ?_)
  obtain ⟨r3, mx3, emx3, h⟩ := gk_bi_some h
  refine lh_cXi (As := [.int v1, .int v2]) (pc := 283) K d_law_283 mv_L_23 mc_X_road rfl cl_ok9.1 (s_X_road (gk_FD K.1) emx3) (by decide) rfl (Nat.le_of_ble_eq_true rfl) ?_
  refine lh_al2 (pc := 286) K d_law_286 ?_
  refine lh_al0 (pc := 287) K d_law_287 ?_
  refine lh_il3 (pc := 288) K d_law_288 ?_
  refine lh_iconst (pc := 289) K d_law_289 kc_1 ?_
  refine lh_iadd (pc := 290) K d_law_290 ?_
  refine lh_sld (pc := 291) K d_law_291 h (fun v4 h => ?_)
  refine lh_al0 (pc := 292) K d_law_292 ?_
  refine lh_il3 (pc := 293) K d_law_293 ?_
  refine lh_iconst (pc := 294) K d_law_294 kc_2 ?_
  refine lh_iadd (pc := 295) K d_law_295 ?_
  refine lh_sld (pc := 296) K d_law_296 h (fun v5 h => ?_)
  obtain ⟨r6, mm6, emm6, h⟩ := gk_bi_some h
  refine lh_cMi (As := [.int v4, .int v5]) (pc := 297) K d_law_297 mv_L_26 mc_M_road rfl cl_ok10.1 (s_M_road (gk_FD K.2.1) emm6) (by decide) rfl (Nat.le_of_ble_eq_true rfl) ?_
  refine lh_eq (tgt := 1398) (pc := 300) K d_law_300 (by decide) h (fun h => ?_)
  refine lh_iinc (pc := 1398) K d_law_1398 kc_6 ?_
  refine lh_goto (tgt := 18) (pc := 1401) K d_law_1401 (by decide) ?_
  exact hk _ _ _ h
noncomputable def f_L_3 (xs : Nat → Int32) (L : Nat) (k : Int32 → gk_M → gk_M → Option Unit) (i : Int32) (mx mm : gk_M) : Option Unit :=
  gk_as xs L (i + 1) fun v1 =>
  gk_as xs L (i + 2) fun v2 =>
  gk_bi (f_X_corner v1 v2 mx) fun r3 mx3 =>
  gk_as xs L (i + 1) fun v4 =>
  gk_as xs L (i + 2) fun v5 =>
  gk_bi (f_M_corner v4 v5 mm) fun r6 mm6 =>
  if r3 = r6 then k (i + 6) mx3 mm6 else none
theorem s_L_3 {z : gk_Z} {u1 u2 : gk_U} {b L : Nat} {xs : Nat → Int32} {Q : State → Prop} (K : lh_F z u1 u2 b L xs) {k : Int32 → gk_M → gk_M → Option Unit} (hk : ∀ i mx mm, k i mx mm = some () → lh_G z u1 u2 b Q mx mm i [] 18) : ∀ i mx mm, f_L_3 xs L k i mx mm = some () → lh_G z u1 u2 b Q mx mm i [] 305 := by
  intro i mx mm h
  unfold f_L_3 at h
  refine lh_al1 (pc := 305) K d_law_305 ?_
  refine lh_al0 (pc := 306) K d_law_306 ?_
  refine lh_il3 (pc := 307) K d_law_307 ?_
  refine lh_iconst (pc := 308) K d_law_308 kc_1 ?_
  refine lh_iadd (pc := 309) K d_law_309 ?_
  refine lh_sld (pc := 310) K d_law_310 h (fun v1 h => ?_)
  refine lh_al0 (pc := 311) K d_law_311 ?_
  refine lh_il3 (pc := 312) K d_law_312 ?_
  refine lh_iconst (pc := 313) K d_law_313 kc_2 ?_
  refine lh_iadd (pc := 314) K d_law_314 ?_
  refine lh_sld (pc := 315) K d_law_315 h (fun v2 h => ?_)
  obtain ⟨r3, mx3, emx3, h⟩ := gk_bi_some h
  refine lh_cXi (As := [.int v1, .int v2]) (pc := 316) K d_law_316 mv_L_27 mc_X_corner rfl cl_ok9.1 (s_X_corner (gk_FD K.1) emx3) (by decide) rfl (Nat.le_of_ble_eq_true rfl) ?_
  refine lh_al2 (pc := 319) K d_law_319 ?_
  refine lh_al0 (pc := 320) K d_law_320 ?_
  refine lh_il3 (pc := 321) K d_law_321 ?_
  refine lh_iconst (pc := 322) K d_law_322 kc_1 ?_
  refine lh_iadd (pc := 323) K d_law_323 ?_
  refine lh_sld (pc := 324) K d_law_324 h (fun v4 h => ?_)
  refine lh_al0 (pc := 325) K d_law_325 ?_
  refine lh_il3 (pc := 326) K d_law_326 ?_
  refine lh_iconst (pc := 327) K d_law_327 kc_2 ?_
  refine lh_iadd (pc := 328) K d_law_328 ?_
  refine lh_sld (pc := 329) K d_law_329 h (fun v5 h => ?_)
  obtain ⟨r6, mm6, emm6, h⟩ := gk_bi_some h
  refine lh_cMi (As := [.int v4, .int v5]) (pc := 330) K d_law_330 mv_L_30 mc_M_corner rfl cl_ok10.1 (s_M_corner (gk_FD K.2.1) emm6) (by decide) rfl (Nat.le_of_ble_eq_true rfl) ?_
  refine lh_eq (tgt := 1398) (pc := 333) K d_law_333 (by decide) h (fun h => ?_)
  refine lh_iinc (pc := 1398) K d_law_1398 kc_6 ?_
  refine lh_goto (tgt := 18) (pc := 1401) K d_law_1401 (by decide) ?_
  exact hk _ _ _ h
noncomputable def f_L_4 (xs : Nat → Int32) (L : Nat) (k : Int32 → gk_M → gk_M → Option Unit) (i : Int32) (mx mm : gk_M) : Option Unit :=
  gk_as xs L (i + 1) fun v1 =>
  gk_as xs L (i + 2) fun v2 =>
  gk_bi (f_X_forest v1 v2 mx) fun r3 mx3 =>
  gk_as xs L (i + 1) fun v4 =>
  gk_as xs L (i + 2) fun v5 =>
  gk_bi (f_M_forest v4 v5 mm) fun r6 mm6 =>
  if r3 = r6 then k (i + 6) mx3 mm6 else none
theorem s_L_4 {z : gk_Z} {u1 u2 : gk_U} {b L : Nat} {xs : Nat → Int32} {Q : State → Prop} (K : lh_F z u1 u2 b L xs) {k : Int32 → gk_M → gk_M → Option Unit} (hk : ∀ i mx mm, k i mx mm = some () → lh_G z u1 u2 b Q mx mm i [] 18) : ∀ i mx mm, f_L_4 xs L k i mx mm = some () → lh_G z u1 u2 b Q mx mm i [] 338 := by
  intro i mx mm h
  unfold f_L_4 at h
  refine lh_al1 (pc := 338) K d_law_338 ?_
  refine lh_al0 (pc := 339) K d_law_339 ?_
  refine lh_il3 (pc := 340) K d_law_340 ?_
  refine lh_iconst (pc := 341) K d_law_341 kc_1 ?_
  refine lh_iadd (pc := 342) K d_law_342 ?_
  refine lh_sld (pc := 343) K d_law_343 h (fun v1 h => ?_)
  refine lh_al0 (pc := 344) K d_law_344 ?_
  refine lh_il3 (pc := 345) K d_law_345 ?_
  refine lh_iconst (pc := 346) K d_law_346 kc_2 ?_
  refine lh_iadd (pc := 347) K d_law_347 ?_
  refine lh_sld (pc := 348) K d_law_348 h (fun v2 h => ?_)
  obtain ⟨r3, mx3, emx3, h⟩ := gk_bi_some h
  refine lh_cXi (As := [.int v1, .int v2]) (pc := 349) K d_law_349 mv_L_31 mc_X_forest rfl cl_ok9.1 (s_X_forest (gk_FD K.1) emx3) (by decide) rfl (Nat.le_of_ble_eq_true rfl) ?_
  refine lh_al2 (pc := 352) K d_law_352 ?_
  refine lh_al0 (pc := 353) K d_law_353 ?_
  refine lh_il3 (pc := 354) K d_law_354 ?_
  refine lh_iconst (pc := 355) K d_law_355 kc_1 ?_
  refine lh_iadd (pc := 356) K d_law_356 ?_
  refine lh_sld (pc := 357) K d_law_357 h (fun v4 h => ?_)
  refine lh_al0 (pc := 358) K d_law_358 ?_
  refine lh_il3 (pc := 359) K d_law_359 ?_
  refine lh_iconst (pc := 360) K d_law_360 kc_2 ?_
  refine lh_iadd (pc := 361) K d_law_361 ?_
  refine lh_sld (pc := 362) K d_law_362 h (fun v5 h => ?_)
  obtain ⟨r6, mm6, emm6, h⟩ := gk_bi_some h
  refine lh_cMi (As := [.int v4, .int v5]) (pc := 363) K d_law_363 mv_L_34 mc_M_forest rfl cl_ok10.1 (s_M_forest (gk_FD K.2.1) emm6) (by decide) rfl (Nat.le_of_ble_eq_true rfl) ?_
  refine lh_eq (tgt := 1398) (pc := 366) K d_law_366 (by decide) h (fun h => ?_)
  refine lh_iinc (pc := 1398) K d_law_1398 kc_6 ?_
  refine lh_goto (tgt := 18) (pc := 1401) K d_law_1401 (by decide) ?_
  exact hk _ _ _ h
noncomputable def f_L_5 (xs : Nat → Int32) (L : Nat) (k : Int32 → gk_M → gk_M → Option Unit) (i : Int32) (mx mm : gk_M) : Option Unit :=
  gk_as xs L (i + 1) fun v1 =>
  gk_bi (f_X_feed v1 mx) fun r2 mx2 =>
  gk_as xs L (i + 1) fun v3 =>
  gk_bi (f_M_feed v3 mm) fun r4 mm4 =>
  if r2 = r4 then k (i + 6) mx2 mm4 else none
theorem s_L_5 {z : gk_Z} {u1 u2 : gk_U} {b L : Nat} {xs : Nat → Int32} {Q : State → Prop} (K : lh_F z u1 u2 b L xs) {k : Int32 → gk_M → gk_M → Option Unit} (hk : ∀ i mx mm, k i mx mm = some () → lh_G z u1 u2 b Q mx mm i [] 18) : ∀ i mx mm, f_L_5 xs L k i mx mm = some () → lh_G z u1 u2 b Q mx mm i [] 371 := by
  intro i mx mm h
  unfold f_L_5 at h
  refine lh_al1 (pc := 371) K d_law_371 ?_
  refine lh_al0 (pc := 372) K d_law_372 ?_
  refine lh_il3 (pc := 373) K d_law_373 ?_
  refine lh_iconst (pc := 374) K d_law_374 kc_1 ?_
  refine lh_iadd (pc := 375) K d_law_375 ?_
  refine lh_sld (pc := 376) K d_law_376 h (fun v1 h => ?_)
  obtain ⟨r2, mx2, emx2, h⟩ := gk_bi_some h
  refine lh_cXi (As := [.int v1]) (pc := 377) K d_law_377 mv_L_35 mc_X_feed rfl cl_ok9.1 (s_X_feed (gk_FD K.1) emx2) (by decide) rfl (Nat.le_of_ble_eq_true rfl) ?_
  refine lh_al2 (pc := 380) K d_law_380 ?_
  refine lh_al0 (pc := 381) K d_law_381 ?_
  refine lh_il3 (pc := 382) K d_law_382 ?_
  refine lh_iconst (pc := 383) K d_law_383 kc_1 ?_
  refine lh_iadd (pc := 384) K d_law_384 ?_
  refine lh_sld (pc := 385) K d_law_385 h (fun v3 h => ?_)
  obtain ⟨r4, mm4, emm4, h⟩ := gk_bi_some h
  refine lh_cMi (As := [.int v3]) (pc := 386) K d_law_386 mv_L_39 mc_M_feed rfl cl_ok10.1 (s_M_feed (gk_FD K.2.1) emm4) (by decide) rfl (Nat.le_of_ble_eq_true rfl) ?_
  refine lh_eq (tgt := 1398) (pc := 389) K d_law_389 (by decide) h (fun h => ?_)
  refine lh_iinc (pc := 1398) K d_law_1398 kc_6 ?_
  refine lh_goto (tgt := 18) (pc := 1401) K d_law_1401 (by decide) ?_
  exact hk _ _ _ h
noncomputable def f_L_6 (xs : Nat → Int32) (L : Nat) (k : Int32 → gk_M → gk_M → Option Unit) (i : Int32) (mx mm : gk_M) : Option Unit :=
  gk_bi (f_X_law  mx) fun r1 mx1 =>
  gk_bi (f_M_law  mm) fun r2 mm2 =>
  if r1 = r2 then k (i + 6) mx1 mm2 else none
theorem s_L_6 {z : gk_Z} {u1 u2 : gk_U} {b L : Nat} {xs : Nat → Int32} {Q : State → Prop} (K : lh_F z u1 u2 b L xs) {k : Int32 → gk_M → gk_M → Option Unit} (hk : ∀ i mx mm, k i mx mm = some () → lh_G z u1 u2 b Q mx mm i [] 18) : ∀ i mx mm, f_L_6 xs L k i mx mm = some () → lh_G z u1 u2 b Q mx mm i [] 394 := by
  intro i mx mm h
  unfold f_L_6 at h
  refine lh_al1 (pc := 394) K d_law_394 ?_
  obtain ⟨r1, mx1, emx1, h⟩ := gk_bi_some h
  refine lh_cXi (As := []) (pc := 395) K d_law_395 mv_L_40 mc_X_law rfl cl_ok9.1 (s_X_law (gk_FD K.1) emx1) (by decide) rfl (Nat.le_of_ble_eq_true rfl) ?_
  refine lh_al2 (pc := 398) K d_law_398 ?_
  obtain ⟨r2, mm2, emm2, h⟩ := gk_bi_some h
  refine lh_cMi (As := []) (pc := 399) K d_law_399 mv_L_44 mc_M_law rfl cl_ok10.1 (s_M_law (gk_FD K.2.1) emm2) (by decide) rfl (Nat.le_of_ble_eq_true rfl) ?_
  refine lh_eq (tgt := 1398) (pc := 402) K d_law_402 (by decide) h (fun h => ?_)
  refine lh_iinc (pc := 1398) K d_law_1398 kc_6 ?_
  refine lh_goto (tgt := 18) (pc := 1401) K d_law_1401 (by decide) ?_
  exact hk _ _ _ h
noncomputable def f_L_7 (xs : Nat → Int32) (L : Nat) (k : Int32 → gk_M → gk_M → Option Unit) (i : Int32) (mx mm : gk_M) : Option Unit :=
  gk_as xs L (i + 1) fun v1 =>
  gk_as xs L (i + 2) fun v2 =>
  gk_as xs L (i + 3) fun v3 =>
  gk_bi (f_X_mend v1 v2 v3 mx) fun r4 mx4 =>
  gk_as xs L (i + 1) fun v5 =>
  gk_as xs L (i + 2) fun v6 =>
  gk_as xs L (i + 3) fun v7 =>
  gk_bi (f_M_mend v5 v6 v7 mm) fun r8 mm8 =>
  if r4 = r8 then k (i + 6) mx4 mm8 else none
theorem s_L_7 {z : gk_Z} {u1 u2 : gk_U} {b L : Nat} {xs : Nat → Int32} {Q : State → Prop} (K : lh_F z u1 u2 b L xs) {k : Int32 → gk_M → gk_M → Option Unit} (hk : ∀ i mx mm, k i mx mm = some () → lh_G z u1 u2 b Q mx mm i [] 18) : ∀ i mx mm, f_L_7 xs L k i mx mm = some () → lh_G z u1 u2 b Q mx mm i [] 407 := by
  intro i mx mm h
  unfold f_L_7 at h
  refine lh_al1 (pc := 407) K d_law_407 ?_
  refine lh_al0 (pc := 408) K d_law_408 ?_
  refine lh_il3 (pc := 409) K d_law_409 ?_
  refine lh_iconst (pc := 410) K d_law_410 kc_1 ?_
  refine lh_iadd (pc := 411) K d_law_411 ?_
  refine lh_sld (pc := 412) K d_law_412 h (fun v1 h => ?_)
  refine lh_al0 (pc := 413) K d_law_413 ?_
  refine lh_il3 (pc := 414) K d_law_414 ?_
  refine lh_iconst (pc := 415) K d_law_415 kc_2 ?_
  refine lh_iadd (pc := 416) K d_law_416 ?_
  refine lh_sld (pc := 417) K d_law_417 h (fun v2 h => ?_)
  refine lh_al0 (pc := 418) K d_law_418 ?_
  refine lh_il3 (pc := 419) K d_law_419 ?_
  refine lh_iconst (pc := 420) K d_law_420 kc_3 ?_
  refine lh_iadd (pc := 421) K d_law_421 ?_
  refine lh_sld (pc := 422) K d_law_422 h (fun v3 h => ?_)
  obtain ⟨r4, mx4, emx4, h⟩ := gk_bi_some h
  refine lh_cXi (As := [.int v1, .int v2, .int v3]) (pc := 423) K d_law_423 mv_L_45 mc_X_mend rfl cl_ok9.1 (s_X_mend (gk_FD K.1) emx4) (by decide) rfl (Nat.le_of_ble_eq_true rfl) ?_
  refine lh_al2 (pc := 426) K d_law_426 ?_
  refine lh_al0 (pc := 427) K d_law_427 ?_
  refine lh_il3 (pc := 428) K d_law_428 ?_
  refine lh_iconst (pc := 429) K d_law_429 kc_1 ?_
  refine lh_iadd (pc := 430) K d_law_430 ?_
  refine lh_sld (pc := 431) K d_law_431 h (fun v5 h => ?_)
  refine lh_al0 (pc := 432) K d_law_432 ?_
  refine lh_il3 (pc := 433) K d_law_433 ?_
  refine lh_iconst (pc := 434) K d_law_434 kc_2 ?_
  refine lh_iadd (pc := 435) K d_law_435 ?_
  refine lh_sld (pc := 436) K d_law_436 h (fun v6 h => ?_)
  refine lh_al0 (pc := 437) K d_law_437 ?_
  refine lh_il3 (pc := 438) K d_law_438 ?_
  refine lh_iconst (pc := 439) K d_law_439 kc_3 ?_
  refine lh_iadd (pc := 440) K d_law_440 ?_
  refine lh_sld (pc := 441) K d_law_441 h (fun v7 h => ?_)
  obtain ⟨r8, mm8, emm8, h⟩ := gk_bi_some h
  refine lh_cMi (As := [.int v5, .int v6, .int v7]) (pc := 442) K d_law_442 mv_L_48 mc_M_mend rfl cl_ok10.1 (s_M_mend (gk_FD K.2.1) emm8) (by decide) rfl (Nat.le_of_ble_eq_true rfl) ?_
  refine lh_eq (tgt := 1398) (pc := 445) K d_law_445 (by decide) h (fun h => ?_)
  refine lh_iinc (pc := 1398) K d_law_1398 kc_6 ?_
  refine lh_goto (tgt := 18) (pc := 1401) K d_law_1401 (by decide) ?_
  exact hk _ _ _ h
noncomputable def f_L_8 (xs : Nat → Int32) (L : Nat) (k : Int32 → gk_M → gk_M → Option Unit) (i : Int32) (mx mm : gk_M) : Option Unit :=
  gk_as xs L (i + 1) fun v1 =>
  gk_as xs L (i + 2) fun v2 =>
  gk_bi (f_X_of v1 v2 mx) fun r3 mx3 =>
  gk_as xs L (i + 1) fun v4 =>
  gk_as xs L (i + 2) fun v5 =>
  gk_bi (f_M_of v4 v5 mm) fun r6 mm6 =>
  if r3 = r6 then k (i + 6) mx3 mm6 else none
theorem s_L_8 {z : gk_Z} {u1 u2 : gk_U} {b L : Nat} {xs : Nat → Int32} {Q : State → Prop} (K : lh_F z u1 u2 b L xs) {k : Int32 → gk_M → gk_M → Option Unit} (hk : ∀ i mx mm, k i mx mm = some () → lh_G z u1 u2 b Q mx mm i [] 18) : ∀ i mx mm, f_L_8 xs L k i mx mm = some () → lh_G z u1 u2 b Q mx mm i [] 450 := by
  intro i mx mm h
  unfold f_L_8 at h
  refine lh_al1 (pc := 450) K d_law_450 ?_
  refine lh_al0 (pc := 451) K d_law_451 ?_
  refine lh_il3 (pc := 452) K d_law_452 ?_
  refine lh_iconst (pc := 453) K d_law_453 kc_1 ?_
  refine lh_iadd (pc := 454) K d_law_454 ?_
  refine lh_sld (pc := 455) K d_law_455 h (fun v1 h => ?_)
  refine lh_al0 (pc := 456) K d_law_456 ?_
  refine lh_il3 (pc := 457) K d_law_457 ?_
  refine lh_iconst (pc := 458) K d_law_458 kc_2 ?_
  refine lh_iadd (pc := 459) K d_law_459 ?_
  refine lh_sld (pc := 460) K d_law_460 h (fun v2 h => ?_)
  obtain ⟨r3, mx3, emx3, h⟩ := gk_bi_some h
  refine lh_cXi (As := [.int v1, .int v2]) (pc := 461) K d_law_461 mv_L_49 mc_X_of rfl cl_ok9.1 (s_X_of (gk_FD K.1) emx3) (by decide) rfl (Nat.le_of_ble_eq_true rfl) ?_
  refine lh_al2 (pc := 464) K d_law_464 ?_
  refine lh_al0 (pc := 465) K d_law_465 ?_
  refine lh_il3 (pc := 466) K d_law_466 ?_
  refine lh_iconst (pc := 467) K d_law_467 kc_1 ?_
  refine lh_iadd (pc := 468) K d_law_468 ?_
  refine lh_sld (pc := 469) K d_law_469 h (fun v4 h => ?_)
  refine lh_al0 (pc := 470) K d_law_470 ?_
  refine lh_il3 (pc := 471) K d_law_471 ?_
  refine lh_iconst (pc := 472) K d_law_472 kc_2 ?_
  refine lh_iadd (pc := 473) K d_law_473 ?_
  refine lh_sld (pc := 474) K d_law_474 h (fun v5 h => ?_)
  obtain ⟨r6, mm6, emm6, h⟩ := gk_bi_some h
  refine lh_cMi (As := [.int v4, .int v5]) (pc := 475) K d_law_475 mv_L_52 mc_M_of rfl cl_ok10.1 (s_M_of (gk_FD K.2.1) emm6) (by decide) rfl (Nat.le_of_ble_eq_true rfl) ?_
  refine lh_eq (tgt := 1398) (pc := 478) K d_law_478 (by decide) h (fun h => ?_)
  refine lh_iinc (pc := 1398) K d_law_1398 kc_6 ?_
  refine lh_goto (tgt := 18) (pc := 1401) K d_law_1401 (by decide) ?_
  exact hk _ _ _ h
noncomputable def f_L_9 (xs : Nat → Int32) (L : Nat) (k : Int32 → gk_M → gk_M → Option Unit) (i : Int32) (mx mm : gk_M) : Option Unit :=
  gk_as xs L (i + 1) fun v1 =>
  gk_as xs L (i + 2) fun v2 =>
  gk_as xs L (i + 3) fun v3 =>
  gk_bi (f_X_line v1 v2 v3 mx) fun r4 mx4 =>
  gk_as xs L (i + 1) fun v5 =>
  gk_as xs L (i + 2) fun v6 =>
  gk_as xs L (i + 3) fun v7 =>
  gk_bi (f_M_line v5 v6 v7 mm) fun r8 mm8 =>
  if r4 = r8 then k (i + 6) mx4 mm8 else none
theorem s_L_9 {z : gk_Z} {u1 u2 : gk_U} {b L : Nat} {xs : Nat → Int32} {Q : State → Prop} (K : lh_F z u1 u2 b L xs) {k : Int32 → gk_M → gk_M → Option Unit} (hk : ∀ i mx mm, k i mx mm = some () → lh_G z u1 u2 b Q mx mm i [] 18) : ∀ i mx mm, f_L_9 xs L k i mx mm = some () → lh_G z u1 u2 b Q mx mm i [] 483 := by
  intro i mx mm h
  unfold f_L_9 at h
  refine lh_al1 (pc := 483) K d_law_483 ?_
  refine lh_al0 (pc := 484) K d_law_484 ?_
  refine lh_il3 (pc := 485) K d_law_485 ?_
  refine lh_iconst (pc := 486) K d_law_486 kc_1 ?_
  refine lh_iadd (pc := 487) K d_law_487 ?_
  refine lh_sld (pc := 488) K d_law_488 h (fun v1 h => ?_)
  refine lh_al0 (pc := 489) K d_law_489 ?_
  refine lh_il3 (pc := 490) K d_law_490 ?_
  refine lh_iconst (pc := 491) K d_law_491 kc_2 ?_
  refine lh_iadd (pc := 492) K d_law_492 ?_
  refine lh_sld (pc := 493) K d_law_493 h (fun v2 h => ?_)
  refine lh_al0 (pc := 494) K d_law_494 ?_
  refine lh_il3 (pc := 495) K d_law_495 ?_
  refine lh_iconst (pc := 496) K d_law_496 kc_3 ?_
  refine lh_iadd (pc := 497) K d_law_497 ?_
  refine lh_sld (pc := 498) K d_law_498 h (fun v3 h => ?_)
  obtain ⟨r4, mx4, emx4, h⟩ := gk_bi_some h
  refine lh_cXi (As := [.int v1, .int v2, .int v3]) (pc := 499) K d_law_499 mv_L_53 mc_X_line rfl cl_ok9.1 (s_X_line (gk_FD K.1) emx4) (by decide) rfl (Nat.le_of_ble_eq_true rfl) ?_
  refine lh_al2 (pc := 502) K d_law_502 ?_
  refine lh_al0 (pc := 503) K d_law_503 ?_
  refine lh_il3 (pc := 504) K d_law_504 ?_
  refine lh_iconst (pc := 505) K d_law_505 kc_1 ?_
  refine lh_iadd (pc := 506) K d_law_506 ?_
  refine lh_sld (pc := 507) K d_law_507 h (fun v5 h => ?_)
  refine lh_al0 (pc := 508) K d_law_508 ?_
  refine lh_il3 (pc := 509) K d_law_509 ?_
  refine lh_iconst (pc := 510) K d_law_510 kc_2 ?_
  refine lh_iadd (pc := 511) K d_law_511 ?_
  refine lh_sld (pc := 512) K d_law_512 h (fun v6 h => ?_)
  refine lh_al0 (pc := 513) K d_law_513 ?_
  refine lh_il3 (pc := 514) K d_law_514 ?_
  refine lh_iconst (pc := 515) K d_law_515 kc_3 ?_
  refine lh_iadd (pc := 516) K d_law_516 ?_
  refine lh_sld (pc := 517) K d_law_517 h (fun v7 h => ?_)
  obtain ⟨r8, mm8, emm8, h⟩ := gk_bi_some h
  refine lh_cMi (As := [.int v5, .int v6, .int v7]) (pc := 518) K d_law_518 mv_L_56 mc_M_line rfl cl_ok10.1 (s_M_line (gk_FD K.2.1) emm8) (by decide) rfl (Nat.le_of_ble_eq_true rfl) ?_
  refine lh_eq (tgt := 1398) (pc := 521) K d_law_521 (by decide) h (fun h => ?_)
  refine lh_iinc (pc := 1398) K d_law_1398 kc_6 ?_
  refine lh_goto (tgt := 18) (pc := 1401) K d_law_1401 (by decide) ?_
  exact hk _ _ _ h
noncomputable def f_L_10 (xs : Nat → Int32) (L : Nat) (k : Int32 → gk_M → gk_M → Option Unit) (i : Int32) (mx mm : gk_M) : Option Unit :=
  gk_as xs L (i + 1) fun v1 =>
  gk_as xs L (i + 2) fun v2 =>
  gk_as xs L (i + 3) fun v3 =>
  gk_bi (f_X_guilty v1 v2 v3 mx) fun r4 mx4 =>
  gk_as xs L (i + 1) fun v5 =>
  gk_as xs L (i + 2) fun v6 =>
  gk_as xs L (i + 3) fun v7 =>
  gk_bi (f_M_guilty v5 v6 v7 mm) fun r8 mm8 =>
  if r4 = r8 then k (i + 6) mx4 mm8 else none
theorem s_L_10 {z : gk_Z} {u1 u2 : gk_U} {b L : Nat} {xs : Nat → Int32} {Q : State → Prop} (K : lh_F z u1 u2 b L xs) {k : Int32 → gk_M → gk_M → Option Unit} (hk : ∀ i mx mm, k i mx mm = some () → lh_G z u1 u2 b Q mx mm i [] 18) : ∀ i mx mm, f_L_10 xs L k i mx mm = some () → lh_G z u1 u2 b Q mx mm i [] 526 := by
  intro i mx mm h
  unfold f_L_10 at h
  refine lh_al1 (pc := 526) K d_law_526 ?_
  refine lh_al0 (pc := 527) K d_law_527 ?_
  refine lh_il3 (pc := 528) K d_law_528 ?_
  refine lh_iconst (pc := 529) K d_law_529 kc_1 ?_
  refine lh_iadd (pc := 530) K d_law_530 ?_
  refine lh_sld (pc := 531) K d_law_531 h (fun v1 h => ?_)
  refine lh_al0 (pc := 532) K d_law_532 ?_
  refine lh_il3 (pc := 533) K d_law_533 ?_
  refine lh_iconst (pc := 534) K d_law_534 kc_2 ?_
  refine lh_iadd (pc := 535) K d_law_535 ?_
  refine lh_sld (pc := 536) K d_law_536 h (fun v2 h => ?_)
  refine lh_al0 (pc := 537) K d_law_537 ?_
  refine lh_il3 (pc := 538) K d_law_538 ?_
  refine lh_iconst (pc := 539) K d_law_539 kc_3 ?_
  refine lh_iadd (pc := 540) K d_law_540 ?_
  refine lh_sld (pc := 541) K d_law_541 h (fun v3 h => ?_)
  obtain ⟨r4, mx4, emx4, h⟩ := gk_bi_some h
  refine lh_cXi (As := [.int v1, .int v2, .int v3]) (pc := 542) K d_law_542 mv_L_57 mc_X_guilty rfl cl_ok9.1 (s_X_guilty (gk_FD K.1) emx4) (by decide) rfl (Nat.le_of_ble_eq_true rfl) ?_
  refine lh_al2 (pc := 545) K d_law_545 ?_
  refine lh_al0 (pc := 546) K d_law_546 ?_
  refine lh_il3 (pc := 547) K d_law_547 ?_
  refine lh_iconst (pc := 548) K d_law_548 kc_1 ?_
  refine lh_iadd (pc := 549) K d_law_549 ?_
  refine lh_sld (pc := 550) K d_law_550 h (fun v5 h => ?_)
  refine lh_al0 (pc := 551) K d_law_551 ?_
  refine lh_il3 (pc := 552) K d_law_552 ?_
  refine lh_iconst (pc := 553) K d_law_553 kc_2 ?_
  refine lh_iadd (pc := 554) K d_law_554 ?_
  refine lh_sld (pc := 555) K d_law_555 h (fun v6 h => ?_)
  refine lh_al0 (pc := 556) K d_law_556 ?_
  refine lh_il3 (pc := 557) K d_law_557 ?_
  refine lh_iconst (pc := 558) K d_law_558 kc_3 ?_
  refine lh_iadd (pc := 559) K d_law_559 ?_
  refine lh_sld (pc := 560) K d_law_560 h (fun v7 h => ?_)
  obtain ⟨r8, mm8, emm8, h⟩ := gk_bi_some h
  refine lh_cMi (As := [.int v5, .int v6, .int v7]) (pc := 561) K d_law_561 mv_L_60 mc_M_guilty rfl cl_ok10.1 (s_M_guilty (gk_FD K.2.1) emm8) (by decide) rfl (Nat.le_of_ble_eq_true rfl) ?_
  refine lh_eq (tgt := 1398) (pc := 564) K d_law_564 (by decide) h (fun h => ?_)
  refine lh_iinc (pc := 1398) K d_law_1398 kc_6 ?_
  refine lh_goto (tgt := 18) (pc := 1401) K d_law_1401 (by decide) ?_
  exact hk _ _ _ h
noncomputable def f_L_11 (xs : Nat → Int32) (L : Nat) (k : Int32 → gk_M → gk_M → Option Unit) (i : Int32) (mx mm : gk_M) : Option Unit :=
  gk_as xs L (i + 1) fun v1 =>
  gk_bi (f_X_guilts v1 mx) fun r2 mx2 =>
  gk_as xs L (i + 1) fun v3 =>
  gk_bi (f_M_guilts v3 mm) fun r4 mm4 =>
  if r2 = r4 then k (i + 6) mx2 mm4 else none
theorem s_L_11 {z : gk_Z} {u1 u2 : gk_U} {b L : Nat} {xs : Nat → Int32} {Q : State → Prop} (K : lh_F z u1 u2 b L xs) {k : Int32 → gk_M → gk_M → Option Unit} (hk : ∀ i mx mm, k i mx mm = some () → lh_G z u1 u2 b Q mx mm i [] 18) : ∀ i mx mm, f_L_11 xs L k i mx mm = some () → lh_G z u1 u2 b Q mx mm i [] 569 := by
  intro i mx mm h
  unfold f_L_11 at h
  refine lh_al1 (pc := 569) K d_law_569 ?_
  refine lh_al0 (pc := 570) K d_law_570 ?_
  refine lh_il3 (pc := 571) K d_law_571 ?_
  refine lh_iconst (pc := 572) K d_law_572 kc_1 ?_
  refine lh_iadd (pc := 573) K d_law_573 ?_
  refine lh_sld (pc := 574) K d_law_574 h (fun v1 h => ?_)
  obtain ⟨r2, mx2, emx2, h⟩ := gk_bi_some h
  refine lh_cXi (As := [.int v1]) (pc := 575) K d_law_575 mv_L_61 mc_X_guilts rfl cl_ok9.1 (s_X_guilts (gk_FD K.1) emx2) (by decide) rfl (Nat.le_of_ble_eq_true rfl) ?_
  refine lh_al2 (pc := 578) K d_law_578 ?_
  refine lh_al0 (pc := 579) K d_law_579 ?_
  refine lh_il3 (pc := 580) K d_law_580 ?_
  refine lh_iconst (pc := 581) K d_law_581 kc_1 ?_
  refine lh_iadd (pc := 582) K d_law_582 ?_
  refine lh_sld (pc := 583) K d_law_583 h (fun v3 h => ?_)
  obtain ⟨r4, mm4, emm4, h⟩ := gk_bi_some h
  refine lh_cMi (As := [.int v3]) (pc := 584) K d_law_584 mv_L_64 mc_M_guilts rfl cl_ok10.1 (s_M_guilts (gk_FD K.2.1) emm4) (by decide) rfl (Nat.le_of_ble_eq_true rfl) ?_
  refine lh_eq (tgt := 1398) (pc := 587) K d_law_587 (by decide) h (fun h => ?_)
  refine lh_iinc (pc := 1398) K d_law_1398 kc_6 ?_
  refine lh_goto (tgt := 18) (pc := 1401) K d_law_1401 (by decide) ?_
  exact hk _ _ _ h
noncomputable def f_L_12 (xs : Nat → Int32) (L : Nat) (k : Int32 → gk_M → gk_M → Option Unit) (i : Int32) (mx mm : gk_M) : Option Unit :=
  gk_as xs L (i + 1) fun v1 =>
  gk_bi (f_X_which v1 mx) fun r2 mx2 =>
  gk_as xs L (i + 1) fun v3 =>
  gk_bi (f_M_which v3 mm) fun r4 mm4 =>
  if r2 = r4 then k (i + 6) mx2 mm4 else none
theorem s_L_12 {z : gk_Z} {u1 u2 : gk_U} {b L : Nat} {xs : Nat → Int32} {Q : State → Prop} (K : lh_F z u1 u2 b L xs) {k : Int32 → gk_M → gk_M → Option Unit} (hk : ∀ i mx mm, k i mx mm = some () → lh_G z u1 u2 b Q mx mm i [] 18) : ∀ i mx mm, f_L_12 xs L k i mx mm = some () → lh_G z u1 u2 b Q mx mm i [] 592 := by
  intro i mx mm h
  unfold f_L_12 at h
  refine lh_al1 (pc := 592) K d_law_592 ?_
  refine lh_al0 (pc := 593) K d_law_593 ?_
  refine lh_il3 (pc := 594) K d_law_594 ?_
  refine lh_iconst (pc := 595) K d_law_595 kc_1 ?_
  refine lh_iadd (pc := 596) K d_law_596 ?_
  refine lh_sld (pc := 597) K d_law_597 h (fun v1 h => ?_)
  obtain ⟨r2, mx2, emx2, h⟩ := gk_bi_some h
  refine lh_cXi (As := [.int v1]) (pc := 598) K d_law_598 mv_L_65 mc_X_which rfl cl_ok9.1 (s_X_which (gk_FD K.1) emx2) (by decide) rfl (Nat.le_of_ble_eq_true rfl) ?_
  refine lh_al2 (pc := 601) K d_law_601 ?_
  refine lh_al0 (pc := 602) K d_law_602 ?_
  refine lh_il3 (pc := 603) K d_law_603 ?_
  refine lh_iconst (pc := 604) K d_law_604 kc_1 ?_
  refine lh_iadd (pc := 605) K d_law_605 ?_
  refine lh_sld (pc := 606) K d_law_606 h (fun v3 h => ?_)
  obtain ⟨r4, mm4, emm4, h⟩ := gk_bi_some h
  refine lh_cMi (As := [.int v3]) (pc := 607) K d_law_607 mv_L_68 mc_M_which rfl cl_ok10.1 (s_M_which (gk_FD K.2.1) emm4) (by decide) rfl (Nat.le_of_ble_eq_true rfl) ?_
  refine lh_eq (tgt := 1398) (pc := 610) K d_law_610 (by decide) h (fun h => ?_)
  refine lh_iinc (pc := 1398) K d_law_1398 kc_6 ?_
  refine lh_goto (tgt := 18) (pc := 1401) K d_law_1401 (by decide) ?_
  exact hk _ _ _ h
noncomputable def f_L_13 (xs : Nat → Int32) (L : Nat) (k : Int32 → gk_M → gk_M → Option Unit) (i : Int32) (mx mm : gk_M) : Option Unit :=
  gk_as xs L (i + 1) fun v1 =>
  gk_bi (f_X_led v1 mx) fun r2 mx2 =>
  gk_as xs L (i + 1) fun v3 =>
  gk_bi (f_M_led v3 mm) fun r4 mm4 =>
  if r2 = r4 then k (i + 6) mx2 mm4 else none
theorem s_L_13 {z : gk_Z} {u1 u2 : gk_U} {b L : Nat} {xs : Nat → Int32} {Q : State → Prop} (K : lh_F z u1 u2 b L xs) {k : Int32 → gk_M → gk_M → Option Unit} (hk : ∀ i mx mm, k i mx mm = some () → lh_G z u1 u2 b Q mx mm i [] 18) : ∀ i mx mm, f_L_13 xs L k i mx mm = some () → lh_G z u1 u2 b Q mx mm i [] 615 := by
  intro i mx mm h
  unfold f_L_13 at h
  refine lh_al1 (pc := 615) K d_law_615 ?_
  refine lh_al0 (pc := 616) K d_law_616 ?_
  refine lh_il3 (pc := 617) K d_law_617 ?_
  refine lh_iconst (pc := 618) K d_law_618 kc_1 ?_
  refine lh_iadd (pc := 619) K d_law_619 ?_
  refine lh_sld (pc := 620) K d_law_620 h (fun v1 h => ?_)
  obtain ⟨r2, mx2, emx2, h⟩ := gk_bi_some h
  refine lh_cXi (As := [.int v1]) (pc := 621) K d_law_621 mv_L_69 mc_X_led rfl cl_ok9.1 (s_X_led (gk_FD K.1) emx2) (by decide) rfl (Nat.le_of_ble_eq_true rfl) ?_
  refine lh_al2 (pc := 624) K d_law_624 ?_
  refine lh_al0 (pc := 625) K d_law_625 ?_
  refine lh_il3 (pc := 626) K d_law_626 ?_
  refine lh_iconst (pc := 627) K d_law_627 kc_1 ?_
  refine lh_iadd (pc := 628) K d_law_628 ?_
  refine lh_sld (pc := 629) K d_law_629 h (fun v3 h => ?_)
  obtain ⟨r4, mm4, emm4, h⟩ := gk_bi_some h
  refine lh_cMi (As := [.int v3]) (pc := 630) K d_law_630 mv_L_72 mc_M_led rfl cl_ok10.1 (s_M_led (gk_FD K.2.1) emm4) (by decide) rfl (Nat.le_of_ble_eq_true rfl) ?_
  refine lh_eq (tgt := 1398) (pc := 633) K d_law_633 (by decide) h (fun h => ?_)
  refine lh_iinc (pc := 1398) K d_law_1398 kc_6 ?_
  refine lh_goto (tgt := 18) (pc := 1401) K d_law_1401 (by decide) ?_
  exact hk _ _ _ h
noncomputable def f_L_14 (xs : Nat → Int32) (L : Nat) (k : Int32 → gk_M → gk_M → Option Unit) (i : Int32) (mx mm : gk_M) : Option Unit :=
  gk_as xs L (i + 1) fun v1 =>
  gk_bi (f_X_seen v1 mx) fun r2 mx2 =>
  gk_as xs L (i + 1) fun v3 =>
  gk_bi (f_M_seen v3 mm) fun r4 mm4 =>
  if r2 = r4 then k (i + 6) mx2 mm4 else none
theorem s_L_14 {z : gk_Z} {u1 u2 : gk_U} {b L : Nat} {xs : Nat → Int32} {Q : State → Prop} (K : lh_F z u1 u2 b L xs) {k : Int32 → gk_M → gk_M → Option Unit} (hk : ∀ i mx mm, k i mx mm = some () → lh_G z u1 u2 b Q mx mm i [] 18) : ∀ i mx mm, f_L_14 xs L k i mx mm = some () → lh_G z u1 u2 b Q mx mm i [] 638 := by
  intro i mx mm h
  unfold f_L_14 at h
  refine lh_al1 (pc := 638) K d_law_638 ?_
  refine lh_al0 (pc := 639) K d_law_639 ?_
  refine lh_il3 (pc := 640) K d_law_640 ?_
  refine lh_iconst (pc := 641) K d_law_641 kc_1 ?_
  refine lh_iadd (pc := 642) K d_law_642 ?_
  refine lh_sld (pc := 643) K d_law_643 h (fun v1 h => ?_)
  obtain ⟨r2, mx2, emx2, h⟩ := gk_bi_some h
  refine lh_cXi (As := [.int v1]) (pc := 644) K d_law_644 mv_L_73 mc_X_seen rfl cl_ok9.1 (s_X_seen (gk_FD K.1) emx2) (by decide) rfl (Nat.le_of_ble_eq_true rfl) ?_
  refine lh_al2 (pc := 647) K d_law_647 ?_
  refine lh_al0 (pc := 648) K d_law_648 ?_
  refine lh_il3 (pc := 649) K d_law_649 ?_
  refine lh_iconst (pc := 650) K d_law_650 kc_1 ?_
  refine lh_iadd (pc := 651) K d_law_651 ?_
  refine lh_sld (pc := 652) K d_law_652 h (fun v3 h => ?_)
  obtain ⟨r4, mm4, emm4, h⟩ := gk_bi_some h
  refine lh_cMi (As := [.int v3]) (pc := 653) K d_law_653 mv_L_76 mc_M_seen rfl cl_ok10.1 (s_M_seen (gk_FD K.2.1) emm4) (by decide) rfl (Nat.le_of_ble_eq_true rfl) ?_
  refine lh_eq (tgt := 1398) (pc := 656) K d_law_656 (by decide) h (fun h => ?_)
  refine lh_iinc (pc := 1398) K d_law_1398 kc_6 ?_
  refine lh_goto (tgt := 18) (pc := 1401) K d_law_1401 (by decide) ?_
  exact hk _ _ _ h
noncomputable def f_L_15 (xs : Nat → Int32) (L : Nat) (k : Int32 → gk_M → gk_M → Option Unit) (i : Int32) (mx mm : gk_M) : Option Unit :=
  gk_as xs L (i + 1) fun v1 =>
  gk_as xs L (i + 2) fun v2 =>
  gk_as xs L (i + 3) fun v3 =>
  gk_bi (f_X_free v1 v2 v3 mx) fun r4 mx4 =>
  gk_as xs L (i + 1) fun v5 =>
  gk_as xs L (i + 2) fun v6 =>
  gk_as xs L (i + 3) fun v7 =>
  gk_bi (f_M_free v5 v6 v7 mm) fun r8 mm8 =>
  if r4 = r8 then k (i + 6) mx4 mm8 else none
theorem s_L_15 {z : gk_Z} {u1 u2 : gk_U} {b L : Nat} {xs : Nat → Int32} {Q : State → Prop} (K : lh_F z u1 u2 b L xs) {k : Int32 → gk_M → gk_M → Option Unit} (hk : ∀ i mx mm, k i mx mm = some () → lh_G z u1 u2 b Q mx mm i [] 18) : ∀ i mx mm, f_L_15 xs L k i mx mm = some () → lh_G z u1 u2 b Q mx mm i [] 661 := by
  intro i mx mm h
  unfold f_L_15 at h
  refine lh_al1 (pc := 661) K d_law_661 ?_
  refine lh_al0 (pc := 662) K d_law_662 ?_
  refine lh_il3 (pc := 663) K d_law_663 ?_
  refine lh_iconst (pc := 664) K d_law_664 kc_1 ?_
  refine lh_iadd (pc := 665) K d_law_665 ?_
  refine lh_sld (pc := 666) K d_law_666 h (fun v1 h => ?_)
  refine lh_al0 (pc := 667) K d_law_667 ?_
  refine lh_il3 (pc := 668) K d_law_668 ?_
  refine lh_iconst (pc := 669) K d_law_669 kc_2 ?_
  refine lh_iadd (pc := 670) K d_law_670 ?_
  refine lh_sld (pc := 671) K d_law_671 h (fun v2 h => ?_)
  refine lh_al0 (pc := 672) K d_law_672 ?_
  refine lh_il3 (pc := 673) K d_law_673 ?_
  refine lh_iconst (pc := 674) K d_law_674 kc_3 ?_
  refine lh_iadd (pc := 675) K d_law_675 ?_
  refine lh_sld (pc := 676) K d_law_676 h (fun v3 h => ?_)
  obtain ⟨r4, mx4, emx4, h⟩ := gk_bi_some h
  refine lh_cXi (As := [.int v1, .int v2, .int v3]) (pc := 677) K d_law_677 mv_L_77 mc_X_free rfl cl_ok9.1 (s_X_free (gk_FD K.1) emx4) (by decide) rfl (Nat.le_of_ble_eq_true rfl) ?_
  refine lh_al2 (pc := 680) K d_law_680 ?_
  refine lh_al0 (pc := 681) K d_law_681 ?_
  refine lh_il3 (pc := 682) K d_law_682 ?_
  refine lh_iconst (pc := 683) K d_law_683 kc_1 ?_
  refine lh_iadd (pc := 684) K d_law_684 ?_
  refine lh_sld (pc := 685) K d_law_685 h (fun v5 h => ?_)
  refine lh_al0 (pc := 686) K d_law_686 ?_
  refine lh_il3 (pc := 687) K d_law_687 ?_
  refine lh_iconst (pc := 688) K d_law_688 kc_2 ?_
  refine lh_iadd (pc := 689) K d_law_689 ?_
  refine lh_sld (pc := 690) K d_law_690 h (fun v6 h => ?_)
  refine lh_al0 (pc := 691) K d_law_691 ?_
  refine lh_il3 (pc := 692) K d_law_692 ?_
  refine lh_iconst (pc := 693) K d_law_693 kc_3 ?_
  refine lh_iadd (pc := 694) K d_law_694 ?_
  refine lh_sld (pc := 695) K d_law_695 h (fun v7 h => ?_)
  obtain ⟨r8, mm8, emm8, h⟩ := gk_bi_some h
  refine lh_cMi (As := [.int v5, .int v6, .int v7]) (pc := 696) K d_law_696 mv_L_80 mc_M_free rfl cl_ok10.1 (s_M_free (gk_FD K.2.1) emm8) (by decide) rfl (Nat.le_of_ble_eq_true rfl) ?_
  refine lh_eq (tgt := 1398) (pc := 699) K d_law_699 (by decide) h (fun h => ?_)
  refine lh_iinc (pc := 1398) K d_law_1398 kc_6 ?_
  refine lh_goto (tgt := 18) (pc := 1401) K d_law_1401 (by decide) ?_
  exact hk _ _ _ h
noncomputable def f_L_16 (xs : Nat → Int32) (L : Nat) (k : Int32 → gk_M → gk_M → Option Unit) (i : Int32) (mx mm : gk_M) : Option Unit :=
  gk_as xs L (i + 1) fun v1 =>
  gk_as xs L (i + 2) fun v2 =>
  gk_bi (f_X_years v1 v2 mx) fun r3 mx3 =>
  gk_as xs L (i + 1) fun v4 =>
  gk_as xs L (i + 2) fun v5 =>
  gk_bi (f_M_years v4 v5 mm) fun r6 mm6 =>
  if r3 = r6 then k (i + 6) mx3 mm6 else none
theorem s_L_16 {z : gk_Z} {u1 u2 : gk_U} {b L : Nat} {xs : Nat → Int32} {Q : State → Prop} (K : lh_F z u1 u2 b L xs) {k : Int32 → gk_M → gk_M → Option Unit} (hk : ∀ i mx mm, k i mx mm = some () → lh_G z u1 u2 b Q mx mm i [] 18) : ∀ i mx mm, f_L_16 xs L k i mx mm = some () → lh_G z u1 u2 b Q mx mm i [] 704 := by
  intro i mx mm h
  unfold f_L_16 at h
  refine lh_al1 (pc := 704) K d_law_704 ?_
  refine lh_al0 (pc := 705) K d_law_705 ?_
  refine lh_il3 (pc := 706) K d_law_706 ?_
  refine lh_iconst (pc := 707) K d_law_707 kc_1 ?_
  refine lh_iadd (pc := 708) K d_law_708 ?_
  refine lh_sld (pc := 709) K d_law_709 h (fun v1 h => ?_)
  refine lh_al0 (pc := 710) K d_law_710 ?_
  refine lh_il3 (pc := 711) K d_law_711 ?_
  refine lh_iconst (pc := 712) K d_law_712 kc_2 ?_
  refine lh_iadd (pc := 713) K d_law_713 ?_
  refine lh_sld (pc := 714) K d_law_714 h (fun v2 h => ?_)
  obtain ⟨r3, mx3, emx3, h⟩ := gk_bi_some h
  refine lh_cXi (As := [.int v1, .int v2]) (pc := 715) K d_law_715 mv_L_81 mc_X_years rfl cl_ok9.1 (s_X_years (gk_FD K.1) emx3) (by decide) rfl (Nat.le_of_ble_eq_true rfl) ?_
  refine lh_al2 (pc := 718) K d_law_718 ?_
  refine lh_al0 (pc := 719) K d_law_719 ?_
  refine lh_il3 (pc := 720) K d_law_720 ?_
  refine lh_iconst (pc := 721) K d_law_721 kc_1 ?_
  refine lh_iadd (pc := 722) K d_law_722 ?_
  refine lh_sld (pc := 723) K d_law_723 h (fun v4 h => ?_)
  refine lh_al0 (pc := 724) K d_law_724 ?_
  refine lh_il3 (pc := 725) K d_law_725 ?_
  refine lh_iconst (pc := 726) K d_law_726 kc_2 ?_
  refine lh_iadd (pc := 727) K d_law_727 ?_
  refine lh_sld (pc := 728) K d_law_728 h (fun v5 h => ?_)
  obtain ⟨r6, mm6, emm6, h⟩ := gk_bi_some h
  refine lh_cMi (As := [.int v4, .int v5]) (pc := 729) K d_law_729 mv_L_84 mc_M_years rfl cl_ok10.1 (s_M_years (gk_FD K.2.1) emm6) (by decide) rfl (Nat.le_of_ble_eq_true rfl) ?_
  refine lh_eq (tgt := 1398) (pc := 732) K d_law_732 (by decide) h (fun h => ?_)
  refine lh_iinc (pc := 1398) K d_law_1398 kc_6 ?_
  refine lh_goto (tgt := 18) (pc := 1401) K d_law_1401 (by decide) ?_
  exact hk _ _ _ h
noncomputable def f_L_17 (xs : Nat → Int32) (L : Nat) (k : Int32 → gk_M → gk_M → Option Unit) (i : Int32) (mx mm : gk_M) : Option Unit :=
  gk_bi (f_X_fewest  mx) fun r1 mx1 =>
  gk_bi (f_M_fewest  mm) fun r2 mm2 =>
  if r1 = r2 then k (i + 6) mx1 mm2 else none
theorem s_L_17 {z : gk_Z} {u1 u2 : gk_U} {b L : Nat} {xs : Nat → Int32} {Q : State → Prop} (K : lh_F z u1 u2 b L xs) {k : Int32 → gk_M → gk_M → Option Unit} (hk : ∀ i mx mm, k i mx mm = some () → lh_G z u1 u2 b Q mx mm i [] 18) : ∀ i mx mm, f_L_17 xs L k i mx mm = some () → lh_G z u1 u2 b Q mx mm i [] 737 := by
  intro i mx mm h
  unfold f_L_17 at h
  refine lh_al1 (pc := 737) K d_law_737 ?_
  obtain ⟨r1, mx1, emx1, h⟩ := gk_bi_some h
  refine lh_cXi (As := []) (pc := 738) K d_law_738 mv_L_85 mc_X_fewest rfl cl_ok9.1 (s_X_fewest (gk_FD K.1) emx1) (by decide) rfl (Nat.le_of_ble_eq_true rfl) ?_
  refine lh_al2 (pc := 741) K d_law_741 ?_
  obtain ⟨r2, mm2, emm2, h⟩ := gk_bi_some h
  refine lh_cMi (As := []) (pc := 742) K d_law_742 mv_L_88 mc_M_fewest rfl cl_ok10.1 (s_M_fewest (gk_FD K.2.1) emm2) (by decide) rfl (Nat.le_of_ble_eq_true rfl) ?_
  refine lh_eq (tgt := 1398) (pc := 745) K d_law_745 (by decide) h (fun h => ?_)
  refine lh_iinc (pc := 1398) K d_law_1398 kc_6 ?_
  refine lh_goto (tgt := 18) (pc := 1401) K d_law_1401 (by decide) ?_
  exact hk _ _ _ h
noncomputable def f_L_18 (xs : Nat → Int32) (L : Nat) (k : Int32 → gk_M → gk_M → Option Unit) (i : Int32) (mx mm : gk_M) : Option Unit :=
  gk_as xs L (i + 1) fun v1 =>
  gk_bi (f_X_cheapest v1 mx) fun r2 mx2 =>
  gk_as xs L (i + 1) fun v3 =>
  gk_bi (f_M_cheapest v3 mm) fun r4 mm4 =>
  if r2 = r4 then k (i + 6) mx2 mm4 else none
theorem s_L_18 {z : gk_Z} {u1 u2 : gk_U} {b L : Nat} {xs : Nat → Int32} {Q : State → Prop} (K : lh_F z u1 u2 b L xs) {k : Int32 → gk_M → gk_M → Option Unit} (hk : ∀ i mx mm, k i mx mm = some () → lh_G z u1 u2 b Q mx mm i [] 18) : ∀ i mx mm, f_L_18 xs L k i mx mm = some () → lh_G z u1 u2 b Q mx mm i [] 750 := by
  intro i mx mm h
  unfold f_L_18 at h
  refine lh_al1 (pc := 750) K d_law_750 ?_
  refine lh_al0 (pc := 751) K d_law_751 ?_
  refine lh_il3 (pc := 752) K d_law_752 ?_
  refine lh_iconst (pc := 753) K d_law_753 kc_1 ?_
  refine lh_iadd (pc := 754) K d_law_754 ?_
  refine lh_sld (pc := 755) K d_law_755 h (fun v1 h => ?_)
  obtain ⟨r2, mx2, emx2, h⟩ := gk_bi_some h
  refine lh_cXi (As := [.int v1]) (pc := 756) K d_law_756 mv_L_89 mc_X_cheapest rfl cl_ok9.1 (s_X_cheapest (gk_FD K.1) emx2) (by decide) rfl (Nat.le_of_ble_eq_true rfl) ?_
  refine lh_al2 (pc := 759) K d_law_759 ?_
  refine lh_al0 (pc := 760) K d_law_760 ?_
  refine lh_il3 (pc := 761) K d_law_761 ?_
  refine lh_iconst (pc := 762) K d_law_762 kc_1 ?_
  refine lh_iadd (pc := 763) K d_law_763 ?_
  refine lh_sld (pc := 764) K d_law_764 h (fun v3 h => ?_)
  obtain ⟨r4, mm4, emm4, h⟩ := gk_bi_some h
  refine lh_cMi (As := [.int v3]) (pc := 765) K d_law_765 mv_L_92 mc_M_cheapest rfl cl_ok10.1 (s_M_cheapest (gk_FD K.2.1) emm4) (by decide) rfl (Nat.le_of_ble_eq_true rfl) ?_
  refine lh_eq (tgt := 1398) (pc := 768) K d_law_768 (by decide) h (fun h => ?_)
  refine lh_iinc (pc := 1398) K d_law_1398 kc_6 ?_
  refine lh_goto (tgt := 18) (pc := 1401) K d_law_1401 (by decide) ?_
  exact hk _ _ _ h
noncomputable def f_L_19 (xs : Nat → Int32) (L : Nat) (k : Int32 → gk_M → gk_M → Option Unit) (i : Int32) (mx mm : gk_M) : Option Unit :=
  gk_as xs L (i + 1) fun v1 =>
  gk_as xs L (i + 2) fun v2 =>
  gk_bi (f_X_moved v1 v2 mx) fun r3 mx3 =>
  gk_as xs L (i + 1) fun v4 =>
  gk_as xs L (i + 2) fun v5 =>
  gk_bi (f_M_moved v4 v5 mm) fun r6 mm6 =>
  if r3 = r6 then k (i + 6) mx3 mm6 else none
theorem s_L_19 {z : gk_Z} {u1 u2 : gk_U} {b L : Nat} {xs : Nat → Int32} {Q : State → Prop} (K : lh_F z u1 u2 b L xs) {k : Int32 → gk_M → gk_M → Option Unit} (hk : ∀ i mx mm, k i mx mm = some () → lh_G z u1 u2 b Q mx mm i [] 18) : ∀ i mx mm, f_L_19 xs L k i mx mm = some () → lh_G z u1 u2 b Q mx mm i [] 773 := by
  intro i mx mm h
  unfold f_L_19 at h
  refine lh_al1 (pc := 773) K d_law_773 ?_
  refine lh_al0 (pc := 774) K d_law_774 ?_
  refine lh_il3 (pc := 775) K d_law_775 ?_
  refine lh_iconst (pc := 776) K d_law_776 kc_1 ?_
  refine lh_iadd (pc := 777) K d_law_777 ?_
  refine lh_sld (pc := 778) K d_law_778 h (fun v1 h => ?_)
  refine lh_al0 (pc := 779) K d_law_779 ?_
  refine lh_il3 (pc := 780) K d_law_780 ?_
  refine lh_iconst (pc := 781) K d_law_781 kc_2 ?_
  refine lh_iadd (pc := 782) K d_law_782 ?_
  refine lh_sld (pc := 783) K d_law_783 h (fun v2 h => ?_)
  obtain ⟨r3, mx3, emx3, h⟩ := gk_bi_some h
  refine lh_cXi (As := [.int v1, .int v2]) (pc := 784) K d_law_784 mv_L_93 mc_X_moved rfl cl_ok9.1 (s_X_moved (gk_FD K.1) emx3) (by decide) rfl (Nat.le_of_ble_eq_true rfl) ?_
  refine lh_al2 (pc := 787) K d_law_787 ?_
  refine lh_al0 (pc := 788) K d_law_788 ?_
  refine lh_il3 (pc := 789) K d_law_789 ?_
  refine lh_iconst (pc := 790) K d_law_790 kc_1 ?_
  refine lh_iadd (pc := 791) K d_law_791 ?_
  refine lh_sld (pc := 792) K d_law_792 h (fun v4 h => ?_)
  refine lh_al0 (pc := 793) K d_law_793 ?_
  refine lh_il3 (pc := 794) K d_law_794 ?_
  refine lh_iconst (pc := 795) K d_law_795 kc_2 ?_
  refine lh_iadd (pc := 796) K d_law_796 ?_
  refine lh_sld (pc := 797) K d_law_797 h (fun v5 h => ?_)
  obtain ⟨r6, mm6, emm6, h⟩ := gk_bi_some h
  refine lh_cMi (As := [.int v4, .int v5]) (pc := 798) K d_law_798 mv_L_96 mc_M_moved rfl cl_ok10.1 (s_M_moved (gk_FD K.2.1) emm6) (by decide) rfl (Nat.le_of_ble_eq_true rfl) ?_
  refine lh_eq (tgt := 1398) (pc := 801) K d_law_801 (by decide) h (fun h => ?_)
  refine lh_iinc (pc := 1398) K d_law_1398 kc_6 ?_
  refine lh_goto (tgt := 18) (pc := 1401) K d_law_1401 (by decide) ?_
  exact hk _ _ _ h
noncomputable def f_L_20 (xs : Nat → Int32) (L : Nat) (k : Int32 → gk_M → gk_M → Option Unit) (i : Int32) (mx mm : gk_M) : Option Unit :=
  gk_as xs L (i + 1) fun v1 =>
  gk_as xs L (i + 2) fun v2 =>
  gk_bi (f_X_bent v1 v2 mx) fun r3 mx3 =>
  gk_as xs L (i + 1) fun v4 =>
  gk_as xs L (i + 2) fun v5 =>
  gk_bi (f_M_bent v4 v5 mm) fun r6 mm6 =>
  if r3 = r6 then k (i + 6) mx3 mm6 else none
theorem s_L_20 {z : gk_Z} {u1 u2 : gk_U} {b L : Nat} {xs : Nat → Int32} {Q : State → Prop} (K : lh_F z u1 u2 b L xs) {k : Int32 → gk_M → gk_M → Option Unit} (hk : ∀ i mx mm, k i mx mm = some () → lh_G z u1 u2 b Q mx mm i [] 18) : ∀ i mx mm, f_L_20 xs L k i mx mm = some () → lh_G z u1 u2 b Q mx mm i [] 806 := by
  intro i mx mm h
  unfold f_L_20 at h
  refine lh_al1 (pc := 806) K d_law_806 ?_
  refine lh_al0 (pc := 807) K d_law_807 ?_
  refine lh_il3 (pc := 808) K d_law_808 ?_
  refine lh_iconst (pc := 809) K d_law_809 kc_1 ?_
  refine lh_iadd (pc := 810) K d_law_810 ?_
  refine lh_sld (pc := 811) K d_law_811 h (fun v1 h => ?_)
  refine lh_al0 (pc := 812) K d_law_812 ?_
  refine lh_il3 (pc := 813) K d_law_813 ?_
  refine lh_iconst (pc := 814) K d_law_814 kc_2 ?_
  refine lh_iadd (pc := 815) K d_law_815 ?_
  refine lh_sld (pc := 816) K d_law_816 h (fun v2 h => ?_)
  obtain ⟨r3, mx3, emx3, h⟩ := gk_bi_some h
  refine lh_cXi (As := [.int v1, .int v2]) (pc := 817) K d_law_817 mv_L_97 mc_X_bent rfl cl_ok9.1 (s_X_bent (gk_FD K.1) emx3) (by decide) rfl (Nat.le_of_ble_eq_true rfl) ?_
  refine lh_al2 (pc := 820) K d_law_820 ?_
  refine lh_al0 (pc := 821) K d_law_821 ?_
  refine lh_il3 (pc := 822) K d_law_822 ?_
  refine lh_iconst (pc := 823) K d_law_823 kc_1 ?_
  refine lh_iadd (pc := 824) K d_law_824 ?_
  refine lh_sld (pc := 825) K d_law_825 h (fun v4 h => ?_)
  refine lh_al0 (pc := 826) K d_law_826 ?_
  refine lh_il3 (pc := 827) K d_law_827 ?_
  refine lh_iconst (pc := 828) K d_law_828 kc_2 ?_
  refine lh_iadd (pc := 829) K d_law_829 ?_
  refine lh_sld (pc := 830) K d_law_830 h (fun v5 h => ?_)
  obtain ⟨r6, mm6, emm6, h⟩ := gk_bi_some h
  refine lh_cMi (As := [.int v4, .int v5]) (pc := 831) K d_law_831 mv_L_100 mc_M_bent rfl cl_ok10.1 (s_M_bent (gk_FD K.2.1) emm6) (by decide) rfl (Nat.le_of_ble_eq_true rfl) ?_
  refine lh_eq (tgt := 1398) (pc := 834) K d_law_834 (by decide) h (fun h => ?_)
  refine lh_iinc (pc := 1398) K d_law_1398 kc_6 ?_
  refine lh_goto (tgt := 18) (pc := 1401) K d_law_1401 (by decide) ?_
  exact hk _ _ _ h
noncomputable def f_L_21 (xs : Nat → Int32) (L : Nat) (k : Int32 → gk_M → gk_M → Option Unit) (i : Int32) (mx mm : gk_M) : Option Unit :=
  gk_as xs L (i + 1) fun v1 =>
  gk_as xs L (i + 2) fun v2 =>
  gk_bi (f_X_newly v1 v2 mx) fun r3 mx3 =>
  gk_as xs L (i + 1) fun v4 =>
  gk_as xs L (i + 2) fun v5 =>
  gk_bi (f_M_newly v4 v5 mm) fun r6 mm6 =>
  if r3 = r6 then k (i + 6) mx3 mm6 else none
theorem s_L_21 {z : gk_Z} {u1 u2 : gk_U} {b L : Nat} {xs : Nat → Int32} {Q : State → Prop} (K : lh_F z u1 u2 b L xs) {k : Int32 → gk_M → gk_M → Option Unit} (hk : ∀ i mx mm, k i mx mm = some () → lh_G z u1 u2 b Q mx mm i [] 18) : ∀ i mx mm, f_L_21 xs L k i mx mm = some () → lh_G z u1 u2 b Q mx mm i [] 839 := by
  intro i mx mm h
  unfold f_L_21 at h
  refine lh_al1 (pc := 839) K d_law_839 ?_
  refine lh_al0 (pc := 840) K d_law_840 ?_
  refine lh_il3 (pc := 841) K d_law_841 ?_
  refine lh_iconst (pc := 842) K d_law_842 kc_1 ?_
  refine lh_iadd (pc := 843) K d_law_843 ?_
  refine lh_sld (pc := 844) K d_law_844 h (fun v1 h => ?_)
  refine lh_al0 (pc := 845) K d_law_845 ?_
  refine lh_il3 (pc := 846) K d_law_846 ?_
  refine lh_iconst (pc := 847) K d_law_847 kc_2 ?_
  refine lh_iadd (pc := 848) K d_law_848 ?_
  refine lh_sld (pc := 849) K d_law_849 h (fun v2 h => ?_)
  obtain ⟨r3, mx3, emx3, h⟩ := gk_bi_some h
  refine lh_cXi (As := [.int v1, .int v2]) (pc := 850) K d_law_850 mv_L_101 mc_X_newly rfl cl_ok9.1 (s_X_newly (gk_FD K.1) emx3) (by decide) rfl (Nat.le_of_ble_eq_true rfl) ?_
  refine lh_al2 (pc := 853) K d_law_853 ?_
  refine lh_al0 (pc := 854) K d_law_854 ?_
  refine lh_il3 (pc := 855) K d_law_855 ?_
  refine lh_iconst (pc := 856) K d_law_856 kc_1 ?_
  refine lh_iadd (pc := 857) K d_law_857 ?_
  refine lh_sld (pc := 858) K d_law_858 h (fun v4 h => ?_)
  refine lh_al0 (pc := 859) K d_law_859 ?_
  refine lh_il3 (pc := 860) K d_law_860 ?_
  refine lh_iconst (pc := 861) K d_law_861 kc_2 ?_
  refine lh_iadd (pc := 862) K d_law_862 ?_
  refine lh_sld (pc := 863) K d_law_863 h (fun v5 h => ?_)
  obtain ⟨r6, mm6, emm6, h⟩ := gk_bi_some h
  refine lh_cMi (As := [.int v4, .int v5]) (pc := 864) K d_law_864 mv_L_104 mc_M_newly rfl cl_ok10.1 (s_M_newly (gk_FD K.2.1) emm6) (by decide) rfl (Nat.le_of_ble_eq_true rfl) ?_
  refine lh_eq (tgt := 1398) (pc := 867) K d_law_867 (by decide) h (fun h => ?_)
  refine lh_iinc (pc := 1398) K d_law_1398 kc_6 ?_
  refine lh_goto (tgt := 18) (pc := 1401) K d_law_1401 (by decide) ?_
  exact hk _ _ _ h
noncomputable def f_L_22 (xs : Nat → Int32) (L : Nat) (k : Int32 → gk_M → gk_M → Option Unit) (i : Int32) (mx mm : gk_M) : Option Unit :=
  gk_as xs L (i + 1) fun v1 =>
  gk_as xs L (i + 2) fun v2 =>
  gk_as xs L (i + 3) fun v3 =>
  gk_bi (f_X_game v1 v2 v3 mx) fun r4 mx4 =>
  gk_as xs L (i + 1) fun v5 =>
  gk_as xs L (i + 2) fun v6 =>
  gk_as xs L (i + 3) fun v7 =>
  gk_bi (f_M_game v5 v6 v7 mm) fun r8 mm8 =>
  if r4 = r8 then k (i + 6) mx4 mm8 else none
theorem s_L_22 {z : gk_Z} {u1 u2 : gk_U} {b L : Nat} {xs : Nat → Int32} {Q : State → Prop} (K : lh_F z u1 u2 b L xs) {k : Int32 → gk_M → gk_M → Option Unit} (hk : ∀ i mx mm, k i mx mm = some () → lh_G z u1 u2 b Q mx mm i [] 18) : ∀ i mx mm, f_L_22 xs L k i mx mm = some () → lh_G z u1 u2 b Q mx mm i [] 872 := by
  intro i mx mm h
  unfold f_L_22 at h
  refine lh_al1 (pc := 872) K d_law_872 ?_
  refine lh_al0 (pc := 873) K d_law_873 ?_
  refine lh_il3 (pc := 874) K d_law_874 ?_
  refine lh_iconst (pc := 875) K d_law_875 kc_1 ?_
  refine lh_iadd (pc := 876) K d_law_876 ?_
  refine lh_sld (pc := 877) K d_law_877 h (fun v1 h => ?_)
  refine lh_al0 (pc := 878) K d_law_878 ?_
  refine lh_il3 (pc := 879) K d_law_879 ?_
  refine lh_iconst (pc := 880) K d_law_880 kc_2 ?_
  refine lh_iadd (pc := 881) K d_law_881 ?_
  refine lh_sld (pc := 882) K d_law_882 h (fun v2 h => ?_)
  refine lh_al0 (pc := 883) K d_law_883 ?_
  refine lh_il3 (pc := 884) K d_law_884 ?_
  refine lh_iconst (pc := 885) K d_law_885 kc_3 ?_
  refine lh_iadd (pc := 886) K d_law_886 ?_
  refine lh_sld (pc := 887) K d_law_887 h (fun v3 h => ?_)
  obtain ⟨r4, mx4, emx4, h⟩ := gk_bi_some h
  refine lh_cXi (As := [.int v1, .int v2, .int v3]) (pc := 888) K d_law_888 mv_L_105 mc_X_game rfl cl_ok9.1 (s_X_game (gk_FD K.1) emx4) (by decide) rfl (Nat.le_of_ble_eq_true rfl) ?_
  refine lh_al2 (pc := 891) K d_law_891 ?_
  refine lh_al0 (pc := 892) K d_law_892 ?_
  refine lh_il3 (pc := 893) K d_law_893 ?_
  refine lh_iconst (pc := 894) K d_law_894 kc_1 ?_
  refine lh_iadd (pc := 895) K d_law_895 ?_
  refine lh_sld (pc := 896) K d_law_896 h (fun v5 h => ?_)
  refine lh_al0 (pc := 897) K d_law_897 ?_
  refine lh_il3 (pc := 898) K d_law_898 ?_
  refine lh_iconst (pc := 899) K d_law_899 kc_2 ?_
  refine lh_iadd (pc := 900) K d_law_900 ?_
  refine lh_sld (pc := 901) K d_law_901 h (fun v6 h => ?_)
  refine lh_al0 (pc := 902) K d_law_902 ?_
  refine lh_il3 (pc := 903) K d_law_903 ?_
  refine lh_iconst (pc := 904) K d_law_904 kc_3 ?_
  refine lh_iadd (pc := 905) K d_law_905 ?_
  refine lh_sld (pc := 906) K d_law_906 h (fun v7 h => ?_)
  obtain ⟨r8, mm8, emm8, h⟩ := gk_bi_some h
  refine lh_cMi (As := [.int v5, .int v6, .int v7]) (pc := 907) K d_law_907 mv_L_108 mc_M_game rfl cl_ok10.1 (s_M_game (gk_FD K.2.1) emm8) (by decide) rfl (Nat.le_of_ble_eq_true rfl) ?_
  refine lh_eq (tgt := 1398) (pc := 910) K d_law_910 (by decide) h (fun h => ?_)
  refine lh_iinc (pc := 1398) K d_law_1398 kc_6 ?_
  refine lh_goto (tgt := 18) (pc := 1401) K d_law_1401 (by decide) ?_
  exact hk _ _ _ h
noncomputable def f_L_23 (xs : Nat → Int32) (L : Nat) (k : Int32 → gk_M → gk_M → Option Unit) (i : Int32) (mx mm : gk_M) : Option Unit :=
  gk_as xs L (i + 1) fun v1 =>
  gk_as xs L (i + 2) fun v2 =>
  gk_bi (f_X_sight v1 v2 mx) fun r3 mx3 =>
  gk_as xs L (i + 1) fun v4 =>
  gk_as xs L (i + 2) fun v5 =>
  gk_bi (f_M_sight v4 v5 mm) fun r6 mm6 =>
  if r3 = r6 then k (i + 6) mx3 mm6 else none
theorem s_L_23 {z : gk_Z} {u1 u2 : gk_U} {b L : Nat} {xs : Nat → Int32} {Q : State → Prop} (K : lh_F z u1 u2 b L xs) {k : Int32 → gk_M → gk_M → Option Unit} (hk : ∀ i mx mm, k i mx mm = some () → lh_G z u1 u2 b Q mx mm i [] 18) : ∀ i mx mm, f_L_23 xs L k i mx mm = some () → lh_G z u1 u2 b Q mx mm i [] 915 := by
  intro i mx mm h
  unfold f_L_23 at h
  refine lh_al1 (pc := 915) K d_law_915 ?_
  refine lh_al0 (pc := 916) K d_law_916 ?_
  refine lh_il3 (pc := 917) K d_law_917 ?_
  refine lh_iconst (pc := 918) K d_law_918 kc_1 ?_
  refine lh_iadd (pc := 919) K d_law_919 ?_
  refine lh_sld (pc := 920) K d_law_920 h (fun v1 h => ?_)
  refine lh_al0 (pc := 921) K d_law_921 ?_
  refine lh_il3 (pc := 922) K d_law_922 ?_
  refine lh_iconst (pc := 923) K d_law_923 kc_2 ?_
  refine lh_iadd (pc := 924) K d_law_924 ?_
  refine lh_sld (pc := 925) K d_law_925 h (fun v2 h => ?_)
  obtain ⟨r3, mx3, emx3, h⟩ := gk_bi_some h
  refine lh_cXi (As := [.int v1, .int v2]) (pc := 926) K d_law_926 mv_L_109 mc_X_sight rfl cl_ok9.1 (s_X_sight (gk_FD K.1) emx3) (by decide) rfl (Nat.le_of_ble_eq_true rfl) ?_
  refine lh_al2 (pc := 929) K d_law_929 ?_
  refine lh_al0 (pc := 930) K d_law_930 ?_
  refine lh_il3 (pc := 931) K d_law_931 ?_
  refine lh_iconst (pc := 932) K d_law_932 kc_1 ?_
  refine lh_iadd (pc := 933) K d_law_933 ?_
  refine lh_sld (pc := 934) K d_law_934 h (fun v4 h => ?_)
  refine lh_al0 (pc := 935) K d_law_935 ?_
  refine lh_il3 (pc := 936) K d_law_936 ?_
  refine lh_iconst (pc := 937) K d_law_937 kc_2 ?_
  refine lh_iadd (pc := 938) K d_law_938 ?_
  refine lh_sld (pc := 939) K d_law_939 h (fun v5 h => ?_)
  obtain ⟨r6, mm6, emm6, h⟩ := gk_bi_some h
  refine lh_cMi (As := [.int v4, .int v5]) (pc := 940) K d_law_940 mv_L_112 mc_M_sight rfl cl_ok10.1 (s_M_sight (gk_FD K.2.1) emm6) (by decide) rfl (Nat.le_of_ble_eq_true rfl) ?_
  refine lh_eq (tgt := 1398) (pc := 943) K d_law_943 (by decide) h (fun h => ?_)
  refine lh_iinc (pc := 1398) K d_law_1398 kc_6 ?_
  refine lh_goto (tgt := 18) (pc := 1401) K d_law_1401 (by decide) ?_
  exact hk _ _ _ h
noncomputable def f_L_24 (xs : Nat → Int32) (L : Nat) (k : Int32 → gk_M → gk_M → Option Unit) (i : Int32) (mx mm : gk_M) : Option Unit :=
  gk_as xs L (i + 1) fun v1 =>
  gk_as xs L (i + 2) fun v2 =>
  gk_bi (f_X_fits v1 v2 mx) fun r3 mx3 =>
  gk_as xs L (i + 1) fun v4 =>
  gk_as xs L (i + 2) fun v5 =>
  gk_bi (f_M_fits v4 v5 mm) fun r6 mm6 =>
  if r3 = r6 then k (i + 6) mx3 mm6 else none
theorem s_L_24 {z : gk_Z} {u1 u2 : gk_U} {b L : Nat} {xs : Nat → Int32} {Q : State → Prop} (K : lh_F z u1 u2 b L xs) {k : Int32 → gk_M → gk_M → Option Unit} (hk : ∀ i mx mm, k i mx mm = some () → lh_G z u1 u2 b Q mx mm i [] 18) : ∀ i mx mm, f_L_24 xs L k i mx mm = some () → lh_G z u1 u2 b Q mx mm i [] 948 := by
  intro i mx mm h
  unfold f_L_24 at h
  refine lh_al1 (pc := 948) K d_law_948 ?_
  refine lh_al0 (pc := 949) K d_law_949 ?_
  refine lh_il3 (pc := 950) K d_law_950 ?_
  refine lh_iconst (pc := 951) K d_law_951 kc_1 ?_
  refine lh_iadd (pc := 952) K d_law_952 ?_
  refine lh_sld (pc := 953) K d_law_953 h (fun v1 h => ?_)
  refine lh_al0 (pc := 954) K d_law_954 ?_
  refine lh_il3 (pc := 955) K d_law_955 ?_
  refine lh_iconst (pc := 956) K d_law_956 kc_2 ?_
  refine lh_iadd (pc := 957) K d_law_957 ?_
  refine lh_sld (pc := 958) K d_law_958 h (fun v2 h => ?_)
  obtain ⟨r3, mx3, emx3, h⟩ := gk_bi_some h
  refine lh_cXi (As := [.int v1, .int v2]) (pc := 959) K d_law_959 mv_L_113 mc_X_fits rfl cl_ok9.1 (s_X_fits (gk_FD K.1) emx3) (by decide) rfl (Nat.le_of_ble_eq_true rfl) ?_
  refine lh_al2 (pc := 962) K d_law_962 ?_
  refine lh_al0 (pc := 963) K d_law_963 ?_
  refine lh_il3 (pc := 964) K d_law_964 ?_
  refine lh_iconst (pc := 965) K d_law_965 kc_1 ?_
  refine lh_iadd (pc := 966) K d_law_966 ?_
  refine lh_sld (pc := 967) K d_law_967 h (fun v4 h => ?_)
  refine lh_al0 (pc := 968) K d_law_968 ?_
  refine lh_il3 (pc := 969) K d_law_969 ?_
  refine lh_iconst (pc := 970) K d_law_970 kc_2 ?_
  refine lh_iadd (pc := 971) K d_law_971 ?_
  refine lh_sld (pc := 972) K d_law_972 h (fun v5 h => ?_)
  obtain ⟨r6, mm6, emm6, h⟩ := gk_bi_some h
  refine lh_cMi (As := [.int v4, .int v5]) (pc := 973) K d_law_973 mv_L_116 mc_M_fits rfl cl_ok10.1 (s_M_fits (gk_FD K.2.1) emm6) (by decide) rfl (Nat.le_of_ble_eq_true rfl) ?_
  refine lh_eq (tgt := 1398) (pc := 976) K d_law_976 (by decide) h (fun h => ?_)
  refine lh_iinc (pc := 1398) K d_law_1398 kc_6 ?_
  refine lh_goto (tgt := 18) (pc := 1401) K d_law_1401 (by decide) ?_
  exact hk _ _ _ h
noncomputable def f_L_25 (xs : Nat → Int32) (L : Nat) (k : Int32 → gk_M → gk_M → Option Unit) (i : Int32) (mx mm : gk_M) : Option Unit :=
  gk_bi (f_X_undo  mx) fun r1 mx1 =>
  gk_bi (f_M_undo  mm) fun r2 mm2 =>
  if r1 = r2 then k (i + 6) mx1 mm2 else none
theorem s_L_25 {z : gk_Z} {u1 u2 : gk_U} {b L : Nat} {xs : Nat → Int32} {Q : State → Prop} (K : lh_F z u1 u2 b L xs) {k : Int32 → gk_M → gk_M → Option Unit} (hk : ∀ i mx mm, k i mx mm = some () → lh_G z u1 u2 b Q mx mm i [] 18) : ∀ i mx mm, f_L_25 xs L k i mx mm = some () → lh_G z u1 u2 b Q mx mm i [] 981 := by
  intro i mx mm h
  unfold f_L_25 at h
  refine lh_al1 (pc := 981) K d_law_981 ?_
  obtain ⟨r1, mx1, emx1, h⟩ := gk_bi_some h
  refine lh_cXi (As := []) (pc := 982) K d_law_982 mv_L_117 mc_X_undo rfl cl_ok9.1 (s_X_undo (gk_FD K.1) emx1) (by decide) rfl (Nat.le_of_ble_eq_true rfl) ?_
  refine lh_al2 (pc := 985) K d_law_985 ?_
  obtain ⟨r2, mm2, emm2, h⟩ := gk_bi_some h
  refine lh_cMi (As := []) (pc := 986) K d_law_986 mv_L_120 mc_M_undo rfl cl_ok10.1 (s_M_undo (gk_FD K.2.1) emm2) (by decide) rfl (Nat.le_of_ble_eq_true rfl) ?_
  refine lh_eq (tgt := 1398) (pc := 989) K d_law_989 (by decide) h (fun h => ?_)
  refine lh_iinc (pc := 1398) K d_law_1398 kc_6 ?_
  refine lh_goto (tgt := 18) (pc := 1401) K d_law_1401 (by decide) ?_
  exact hk _ _ _ h
noncomputable def f_L_26 (xs : Nat → Int32) (L : Nat) (k : Int32 → gk_M → gk_M → Option Unit) (i : Int32) (mx mm : gk_M) : Option Unit :=
  gk_bi (f_X_redo  mx) fun r1 mx1 =>
  gk_bi (f_M_redo  mm) fun r2 mm2 =>
  if r1 = r2 then k (i + 6) mx1 mm2 else none
theorem s_L_26 {z : gk_Z} {u1 u2 : gk_U} {b L : Nat} {xs : Nat → Int32} {Q : State → Prop} (K : lh_F z u1 u2 b L xs) {k : Int32 → gk_M → gk_M → Option Unit} (hk : ∀ i mx mm, k i mx mm = some () → lh_G z u1 u2 b Q mx mm i [] 18) : ∀ i mx mm, f_L_26 xs L k i mx mm = some () → lh_G z u1 u2 b Q mx mm i [] 994 := by
  intro i mx mm h
  unfold f_L_26 at h
  refine lh_al1 (pc := 994) K d_law_994 ?_
  obtain ⟨r1, mx1, emx1, h⟩ := gk_bi_some h
  refine lh_cXi (As := []) (pc := 995) K d_law_995 mv_L_121 mc_X_redo rfl cl_ok9.1 (s_X_redo (gk_FD K.1) emx1) (by decide) rfl (Nat.le_of_ble_eq_true rfl) ?_
  refine lh_al2 (pc := 998) K d_law_998 ?_
  obtain ⟨r2, mm2, emm2, h⟩ := gk_bi_some h
  refine lh_cMi (As := []) (pc := 999) K d_law_999 mv_L_124 mc_M_redo rfl cl_ok10.1 (s_M_redo (gk_FD K.2.1) emm2) (by decide) rfl (Nat.le_of_ble_eq_true rfl) ?_
  refine lh_eq (tgt := 1398) (pc := 1002) K d_law_1002 (by decide) h (fun h => ?_)
  refine lh_iinc (pc := 1398) K d_law_1398 kc_6 ?_
  refine lh_goto (tgt := 18) (pc := 1401) K d_law_1401 (by decide) ?_
  exact hk _ _ _ h
noncomputable def f_L_27 (xs : Nat → Int32) (L : Nat) (k : Int32 → gk_M → gk_M → Option Unit) (i : Int32) (mx mm : gk_M) : Option Unit :=
  gk_as xs L (i + 1) fun v1 =>
  gk_bi (f_X_body v1 mx) fun r2 mx2 =>
  gk_as xs L (i + 1) fun v3 =>
  gk_bi (f_M_body v3 mm) fun r4 mm4 =>
  if r2 = r4 then k (i + 6) mx2 mm4 else none
theorem s_L_27 {z : gk_Z} {u1 u2 : gk_U} {b L : Nat} {xs : Nat → Int32} {Q : State → Prop} (K : lh_F z u1 u2 b L xs) {k : Int32 → gk_M → gk_M → Option Unit} (hk : ∀ i mx mm, k i mx mm = some () → lh_G z u1 u2 b Q mx mm i [] 18) : ∀ i mx mm, f_L_27 xs L k i mx mm = some () → lh_G z u1 u2 b Q mx mm i [] 1007 := by
  intro i mx mm h
  unfold f_L_27 at h
  refine lh_al1 (pc := 1007) K d_law_1007 ?_
  refine lh_al0 (pc := 1008) K d_law_1008 ?_
  refine lh_il3 (pc := 1009) K d_law_1009 ?_
  refine lh_iconst (pc := 1010) K d_law_1010 kc_1 ?_
  refine lh_iadd (pc := 1011) K d_law_1011 ?_
  refine lh_sld (pc := 1012) K d_law_1012 h (fun v1 h => ?_)
  obtain ⟨r2, mx2, emx2, h⟩ := gk_bi_some h
  refine lh_cXi (As := [.int v1]) (pc := 1013) K d_law_1013 mv_L_125 mc_X_body rfl cl_ok9.1 (s_X_body (gk_FD K.1) emx2) (by decide) rfl (Nat.le_of_ble_eq_true rfl) ?_
  refine lh_al2 (pc := 1016) K d_law_1016 ?_
  refine lh_al0 (pc := 1017) K d_law_1017 ?_
  refine lh_il3 (pc := 1018) K d_law_1018 ?_
  refine lh_iconst (pc := 1019) K d_law_1019 kc_1 ?_
  refine lh_iadd (pc := 1020) K d_law_1020 ?_
  refine lh_sld (pc := 1021) K d_law_1021 h (fun v3 h => ?_)
  obtain ⟨r4, mm4, emm4, h⟩ := gk_bi_some h
  refine lh_cMi (As := [.int v3]) (pc := 1022) K d_law_1022 mv_L_128 mc_M_body rfl cl_ok10.1 (s_M_body (gk_FD K.2.1) emm4) (by decide) rfl (Nat.le_of_ble_eq_true rfl) ?_
  refine lh_eq (tgt := 1398) (pc := 1025) K d_law_1025 (by decide) h (fun h => ?_)
  refine lh_iinc (pc := 1398) K d_law_1398 kc_6 ?_
  refine lh_goto (tgt := 18) (pc := 1401) K d_law_1401 (by decide) ?_
  exact hk _ _ _ h
noncomputable def f_L_28 (xs : Nat → Int32) (L : Nat) (k : Int32 → gk_M → gk_M → Option Unit) (i : Int32) (mx mm : gk_M) : Option Unit :=
  gk_as xs L (i + 1) fun v1 =>
  gk_as xs L (i + 2) fun v2 =>
  gk_as xs L (i + 3) fun v3 =>
  gk_bi (f_X_act v1 v2 v3 mx) fun r4 mx4 =>
  gk_as xs L (i + 1) fun v5 =>
  gk_as xs L (i + 2) fun v6 =>
  gk_as xs L (i + 3) fun v7 =>
  gk_bi (f_M_act v5 v6 v7 mm) fun r8 mm8 =>
  if r4 = r8 then k (i + 6) mx4 mm8 else none
theorem s_L_28 {z : gk_Z} {u1 u2 : gk_U} {b L : Nat} {xs : Nat → Int32} {Q : State → Prop} (K : lh_F z u1 u2 b L xs) {k : Int32 → gk_M → gk_M → Option Unit} (hk : ∀ i mx mm, k i mx mm = some () → lh_G z u1 u2 b Q mx mm i [] 18) : ∀ i mx mm, f_L_28 xs L k i mx mm = some () → lh_G z u1 u2 b Q mx mm i [] 1030 := by
  intro i mx mm h
  unfold f_L_28 at h
  refine lh_al1 (pc := 1030) K d_law_1030 ?_
  refine lh_al0 (pc := 1031) K d_law_1031 ?_
  refine lh_il3 (pc := 1032) K d_law_1032 ?_
  refine lh_iconst (pc := 1033) K d_law_1033 kc_1 ?_
  refine lh_iadd (pc := 1034) K d_law_1034 ?_
  refine lh_sld (pc := 1035) K d_law_1035 h (fun v1 h => ?_)
  refine lh_al0 (pc := 1036) K d_law_1036 ?_
  refine lh_il3 (pc := 1037) K d_law_1037 ?_
  refine lh_iconst (pc := 1038) K d_law_1038 kc_2 ?_
  refine lh_iadd (pc := 1039) K d_law_1039 ?_
  refine lh_sld (pc := 1040) K d_law_1040 h (fun v2 h => ?_)
  refine lh_al0 (pc := 1041) K d_law_1041 ?_
  refine lh_il3 (pc := 1042) K d_law_1042 ?_
  refine lh_iconst (pc := 1043) K d_law_1043 kc_3 ?_
  refine lh_iadd (pc := 1044) K d_law_1044 ?_
  refine lh_sld (pc := 1045) K d_law_1045 h (fun v3 h => ?_)
  obtain ⟨r4, mx4, emx4, h⟩ := gk_bi_some h
  refine lh_cXi (As := [.int v1, .int v2, .int v3]) (pc := 1046) K d_law_1046 mv_L_129 mc_X_act rfl cl_ok9.1 (s_X_act (gk_FD K.1) emx4) (by decide) rfl (Nat.le_of_ble_eq_true rfl) ?_
  refine lh_al2 (pc := 1049) K d_law_1049 ?_
  refine lh_al0 (pc := 1050) K d_law_1050 ?_
  refine lh_il3 (pc := 1051) K d_law_1051 ?_
  refine lh_iconst (pc := 1052) K d_law_1052 kc_1 ?_
  refine lh_iadd (pc := 1053) K d_law_1053 ?_
  refine lh_sld (pc := 1054) K d_law_1054 h (fun v5 h => ?_)
  refine lh_al0 (pc := 1055) K d_law_1055 ?_
  refine lh_il3 (pc := 1056) K d_law_1056 ?_
  refine lh_iconst (pc := 1057) K d_law_1057 kc_2 ?_
  refine lh_iadd (pc := 1058) K d_law_1058 ?_
  refine lh_sld (pc := 1059) K d_law_1059 h (fun v6 h => ?_)
  refine lh_al0 (pc := 1060) K d_law_1060 ?_
  refine lh_il3 (pc := 1061) K d_law_1061 ?_
  refine lh_iconst (pc := 1062) K d_law_1062 kc_3 ?_
  refine lh_iadd (pc := 1063) K d_law_1063 ?_
  refine lh_sld (pc := 1064) K d_law_1064 h (fun v7 h => ?_)
  obtain ⟨r8, mm8, emm8, h⟩ := gk_bi_some h
  refine lh_cMi (As := [.int v5, .int v6, .int v7]) (pc := 1065) K d_law_1065 mv_L_132 mc_M_act rfl cl_ok10.1 (s_M_act (gk_FD K.2.1) emm8) (by decide) rfl (Nat.le_of_ble_eq_true rfl) ?_
  refine lh_eq (tgt := 1398) (pc := 1068) K d_law_1068 (by decide) h (fun h => ?_)
  refine lh_iinc (pc := 1398) K d_law_1398 kc_6 ?_
  refine lh_goto (tgt := 18) (pc := 1401) K d_law_1401 (by decide) ?_
  exact hk _ _ _ h
noncomputable def f_L_29 (xs : Nat → Int32) (L : Nat) (k : Int32 → gk_M → gk_M → Option Unit) (i : Int32) (mx mm : gk_M) : Option Unit :=
  gk_as xs L (i + 1) fun v1 =>
  gk_bi (f_X_trace v1 mx) fun r2 mx2 =>
  gk_as xs L (i + 1) fun v3 =>
  gk_bi (f_M_trace v3 mm) fun r4 mm4 =>
  if r2 = r4 then k (i + 6) mx2 mm4 else none
theorem s_L_29 {z : gk_Z} {u1 u2 : gk_U} {b L : Nat} {xs : Nat → Int32} {Q : State → Prop} (K : lh_F z u1 u2 b L xs) {k : Int32 → gk_M → gk_M → Option Unit} (hk : ∀ i mx mm, k i mx mm = some () → lh_G z u1 u2 b Q mx mm i [] 18) : ∀ i mx mm, f_L_29 xs L k i mx mm = some () → lh_G z u1 u2 b Q mx mm i [] 1073 := by
  intro i mx mm h
  unfold f_L_29 at h
  refine lh_al1 (pc := 1073) K d_law_1073 ?_
  refine lh_al0 (pc := 1074) K d_law_1074 ?_
  refine lh_il3 (pc := 1075) K d_law_1075 ?_
  refine lh_iconst (pc := 1076) K d_law_1076 kc_1 ?_
  refine lh_iadd (pc := 1077) K d_law_1077 ?_
  refine lh_sld (pc := 1078) K d_law_1078 h (fun v1 h => ?_)
  obtain ⟨r2, mx2, emx2, h⟩ := gk_bi_some h
  refine lh_cXi (As := [.int v1]) (pc := 1079) K d_law_1079 mv_L_133 mc_X_trace rfl cl_ok9.1 (s_X_trace (gk_FD K.1) emx2) (by decide) rfl (Nat.le_of_ble_eq_true rfl) ?_
  refine lh_al2 (pc := 1082) K d_law_1082 ?_
  refine lh_al0 (pc := 1083) K d_law_1083 ?_
  refine lh_il3 (pc := 1084) K d_law_1084 ?_
  refine lh_iconst (pc := 1085) K d_law_1085 kc_1 ?_
  refine lh_iadd (pc := 1086) K d_law_1086 ?_
  refine lh_sld (pc := 1087) K d_law_1087 h (fun v3 h => ?_)
  obtain ⟨r4, mm4, emm4, h⟩ := gk_bi_some h
  refine lh_cMi (As := [.int v3]) (pc := 1088) K d_law_1088 mv_L_136 mc_M_trace rfl cl_ok10.1 (s_M_trace (gk_FD K.2.1) emm4) (by decide) rfl (Nat.le_of_ble_eq_true rfl) ?_
  refine lh_eq (tgt := 1398) (pc := 1091) K d_law_1091 (by decide) h (fun h => ?_)
  refine lh_iinc (pc := 1398) K d_law_1398 kc_6 ?_
  refine lh_goto (tgt := 18) (pc := 1401) K d_law_1401 (by decide) ?_
  exact hk _ _ _ h
noncomputable def f_L_30 (xs : Nat → Int32) (L : Nat) (k : Int32 → gk_M → gk_M → Option Unit) (i : Int32) (mx mm : gk_M) : Option Unit :=
  gk_as xs L (i + 1) fun v1 =>
  gk_as xs L (i + 2) fun v2 =>
  gk_bi (f_X_keep v1 v2 mx) fun r3 mx3 =>
  gk_as xs L (i + 1) fun v4 =>
  gk_as xs L (i + 2) fun v5 =>
  gk_bi (f_M_keep v4 v5 mm) fun r6 mm6 =>
  if r3 = r6 then k (i + 6) mx3 mm6 else none
theorem s_L_30 {z : gk_Z} {u1 u2 : gk_U} {b L : Nat} {xs : Nat → Int32} {Q : State → Prop} (K : lh_F z u1 u2 b L xs) {k : Int32 → gk_M → gk_M → Option Unit} (hk : ∀ i mx mm, k i mx mm = some () → lh_G z u1 u2 b Q mx mm i [] 18) : ∀ i mx mm, f_L_30 xs L k i mx mm = some () → lh_G z u1 u2 b Q mx mm i [] 1096 := by
  intro i mx mm h
  unfold f_L_30 at h
  refine lh_al1 (pc := 1096) K d_law_1096 ?_
  refine lh_al0 (pc := 1097) K d_law_1097 ?_
  refine lh_il3 (pc := 1098) K d_law_1098 ?_
  refine lh_iconst (pc := 1099) K d_law_1099 kc_1 ?_
  refine lh_iadd (pc := 1100) K d_law_1100 ?_
  refine lh_sld (pc := 1101) K d_law_1101 h (fun v1 h => ?_)
  refine lh_al0 (pc := 1102) K d_law_1102 ?_
  refine lh_il3 (pc := 1103) K d_law_1103 ?_
  refine lh_iconst (pc := 1104) K d_law_1104 kc_2 ?_
  refine lh_iadd (pc := 1105) K d_law_1105 ?_
  refine lh_sld (pc := 1106) K d_law_1106 h (fun v2 h => ?_)
  obtain ⟨r3, mx3, emx3, h⟩ := gk_bi_some h
  refine lh_cXi (As := [.int v1, .int v2]) (pc := 1107) K d_law_1107 mv_L_137 mc_X_keep rfl cl_ok9.1 (s_X_keep (gk_FD K.1) emx3) (by decide) rfl (Nat.le_of_ble_eq_true rfl) ?_
  refine lh_al2 (pc := 1110) K d_law_1110 ?_
  refine lh_al0 (pc := 1111) K d_law_1111 ?_
  refine lh_il3 (pc := 1112) K d_law_1112 ?_
  refine lh_iconst (pc := 1113) K d_law_1113 kc_1 ?_
  refine lh_iadd (pc := 1114) K d_law_1114 ?_
  refine lh_sld (pc := 1115) K d_law_1115 h (fun v4 h => ?_)
  refine lh_al0 (pc := 1116) K d_law_1116 ?_
  refine lh_il3 (pc := 1117) K d_law_1117 ?_
  refine lh_iconst (pc := 1118) K d_law_1118 kc_2 ?_
  refine lh_iadd (pc := 1119) K d_law_1119 ?_
  refine lh_sld (pc := 1120) K d_law_1120 h (fun v5 h => ?_)
  obtain ⟨r6, mm6, emm6, h⟩ := gk_bi_some h
  refine lh_cMi (As := [.int v4, .int v5]) (pc := 1121) K d_law_1121 mv_L_140 mc_M_keep rfl cl_ok10.1 (s_M_keep (gk_FD K.2.1) emm6) (by decide) rfl (Nat.le_of_ble_eq_true rfl) ?_
  refine lh_eq (tgt := 1398) (pc := 1124) K d_law_1124 (by decide) h (fun h => ?_)
  refine lh_iinc (pc := 1398) K d_law_1398 kc_6 ?_
  refine lh_goto (tgt := 18) (pc := 1401) K d_law_1401 (by decide) ?_
  exact hk _ _ _ h
noncomputable def f_L_31 (xs : Nat → Int32) (L : Nat) (k : Int32 → gk_M → gk_M → Option Unit) (i : Int32) (mx mm : gk_M) : Option Unit :=
  gk_as xs L (i + 1) fun v1 =>
  gk_as xs L (i + 2) fun v2 =>
  gk_as xs L (i + 3) fun v3 =>
  gk_bi (f_X_row v1 v2 v3 mx) fun r4 mx4 =>
  gk_as xs L (i + 1) fun v5 =>
  gk_as xs L (i + 2) fun v6 =>
  gk_as xs L (i + 3) fun v7 =>
  gk_bi (f_M_row v5 v6 v7 mm) fun r8 mm8 =>
  if r4 = r8 then k (i + 6) mx4 mm8 else none
theorem s_L_31 {z : gk_Z} {u1 u2 : gk_U} {b L : Nat} {xs : Nat → Int32} {Q : State → Prop} (K : lh_F z u1 u2 b L xs) {k : Int32 → gk_M → gk_M → Option Unit} (hk : ∀ i mx mm, k i mx mm = some () → lh_G z u1 u2 b Q mx mm i [] 18) : ∀ i mx mm, f_L_31 xs L k i mx mm = some () → lh_G z u1 u2 b Q mx mm i [] 1129 := by
  intro i mx mm h
  unfold f_L_31 at h
  refine lh_al1 (pc := 1129) K d_law_1129 ?_
  refine lh_al0 (pc := 1130) K d_law_1130 ?_
  refine lh_il3 (pc := 1131) K d_law_1131 ?_
  refine lh_iconst (pc := 1132) K d_law_1132 kc_1 ?_
  refine lh_iadd (pc := 1133) K d_law_1133 ?_
  refine lh_sld (pc := 1134) K d_law_1134 h (fun v1 h => ?_)
  refine lh_al0 (pc := 1135) K d_law_1135 ?_
  refine lh_il3 (pc := 1136) K d_law_1136 ?_
  refine lh_iconst (pc := 1137) K d_law_1137 kc_2 ?_
  refine lh_iadd (pc := 1138) K d_law_1138 ?_
  refine lh_sld (pc := 1139) K d_law_1139 h (fun v2 h => ?_)
  refine lh_al0 (pc := 1140) K d_law_1140 ?_
  refine lh_il3 (pc := 1141) K d_law_1141 ?_
  refine lh_iconst (pc := 1142) K d_law_1142 kc_3 ?_
  refine lh_iadd (pc := 1143) K d_law_1143 ?_
  refine lh_sld (pc := 1144) K d_law_1144 h (fun v3 h => ?_)
  obtain ⟨r4, mx4, emx4, h⟩ := gk_bi_some h
  refine lh_cXi (As := [.int v1, .int v2, .int v3]) (pc := 1145) K d_law_1145 mv_L_141 mc_X_row rfl cl_ok9.1 (s_X_row (gk_FD K.1) emx4) (by decide) rfl (Nat.le_of_ble_eq_true rfl) ?_
  refine lh_al2 (pc := 1148) K d_law_1148 ?_
  refine lh_al0 (pc := 1149) K d_law_1149 ?_
  refine lh_il3 (pc := 1150) K d_law_1150 ?_
  refine lh_iconst (pc := 1151) K d_law_1151 kc_1 ?_
  refine lh_iadd (pc := 1152) K d_law_1152 ?_
  refine lh_sld (pc := 1153) K d_law_1153 h (fun v5 h => ?_)
  refine lh_al0 (pc := 1154) K d_law_1154 ?_
  refine lh_il3 (pc := 1155) K d_law_1155 ?_
  refine lh_iconst (pc := 1156) K d_law_1156 kc_2 ?_
  refine lh_iadd (pc := 1157) K d_law_1157 ?_
  refine lh_sld (pc := 1158) K d_law_1158 h (fun v6 h => ?_)
  refine lh_al0 (pc := 1159) K d_law_1159 ?_
  refine lh_il3 (pc := 1160) K d_law_1160 ?_
  refine lh_iconst (pc := 1161) K d_law_1161 kc_3 ?_
  refine lh_iadd (pc := 1162) K d_law_1162 ?_
  refine lh_sld (pc := 1163) K d_law_1163 h (fun v7 h => ?_)
  obtain ⟨r8, mm8, emm8, h⟩ := gk_bi_some h
  refine lh_cMi (As := [.int v5, .int v6, .int v7]) (pc := 1164) K d_law_1164 mv_L_144 mc_M_row rfl cl_ok10.1 (s_M_row (gk_FD K.2.1) emm8) (by decide) rfl (Nat.le_of_ble_eq_true rfl) ?_
  refine lh_eq (tgt := 1398) (pc := 1167) K d_law_1167 (by decide) h (fun h => ?_)
  refine lh_iinc (pc := 1398) K d_law_1398 kc_6 ?_
  refine lh_goto (tgt := 18) (pc := 1401) K d_law_1401 (by decide) ?_
  exact hk _ _ _ h
noncomputable def f_L_32 (xs : Nat → Int32) (L : Nat) (k : Int32 → gk_M → gk_M → Option Unit) (i : Int32) (mx mm : gk_M) : Option Unit :=
  gk_as xs L (i + 1) fun v1 =>
  gk_as xs L (i + 2) fun v2 =>
  gk_as xs L (i + 3) fun v3 =>
  gk_as xs L (i + 4) fun v4 =>
  gk_bi (f_X_put v1 v2 ((v3.toInt64 <<< ((32 : Int32).toInt64 &&& 63)) ||| (v4.toInt64 &&& 4294967295)) mx) fun r5 mx5 =>
  gk_as xs L (i + 1) fun v6 =>
  gk_as xs L (i + 2) fun v7 =>
  gk_as xs L (i + 3) fun v8 =>
  gk_as xs L (i + 4) fun v9 =>
  gk_bi (f_M_put v6 v7 ((v8.toInt64 <<< ((32 : Int32).toInt64 &&& 63)) ||| (v9.toInt64 &&& 4294967295)) mm) fun r10 mm10 =>
  if r5 = r10 then k (i + 6) mx5 mm10 else none
theorem s_L_32 {z : gk_Z} {u1 u2 : gk_U} {b L : Nat} {xs : Nat → Int32} {Q : State → Prop} (K : lh_F z u1 u2 b L xs) {k : Int32 → gk_M → gk_M → Option Unit} (hk : ∀ i mx mm, k i mx mm = some () → lh_G z u1 u2 b Q mx mm i [] 18) : ∀ i mx mm, f_L_32 xs L k i mx mm = some () → lh_G z u1 u2 b Q mx mm i [] 1172 := by
  intro i mx mm h
  unfold f_L_32 at h
  refine lh_al1 (pc := 1172) K d_law_1172 ?_
  refine lh_al0 (pc := 1173) K d_law_1173 ?_
  refine lh_il3 (pc := 1174) K d_law_1174 ?_
  refine lh_iconst (pc := 1175) K d_law_1175 kc_1 ?_
  refine lh_iadd (pc := 1176) K d_law_1176 ?_
  refine lh_sld (pc := 1177) K d_law_1177 h (fun v1 h => ?_)
  refine lh_al0 (pc := 1178) K d_law_1178 ?_
  refine lh_il3 (pc := 1179) K d_law_1179 ?_
  refine lh_iconst (pc := 1180) K d_law_1180 kc_2 ?_
  refine lh_iadd (pc := 1181) K d_law_1181 ?_
  refine lh_sld (pc := 1182) K d_law_1182 h (fun v2 h => ?_)
  refine lh_al0 (pc := 1183) K d_law_1183 ?_
  refine lh_il3 (pc := 1184) K d_law_1184 ?_
  refine lh_iconst (pc := 1185) K d_law_1185 kc_3 ?_
  refine lh_iadd (pc := 1186) K d_law_1186 ?_
  refine lh_sld (pc := 1187) K d_law_1187 h (fun v3 h => ?_)
  refine lh_i2l (pc := 1188) K d_law_1188 ?_
  refine lh_bipush (pc := 1189) K d_law_1189 kb_32 ?_
  refine lh_lshl (pc := 1191) K d_law_1191 ?_
  refine lh_al0 (pc := 1192) K d_law_1192 ?_
  refine lh_il3 (pc := 1193) K d_law_1193 ?_
  refine lh_iconst (pc := 1194) K d_law_1194 kc_4 ?_
  refine lh_iadd (pc := 1195) K d_law_1195 ?_
  refine lh_sld (pc := 1196) K d_law_1196 h (fun v4 h => ?_)
  refine lh_i2l (pc := 1197) K d_law_1197 ?_
  refine lh_ldc2 (pc := 1198) K d_law_1198 lc_L_145 ?_
  refine lh_land (pc := 1201) K d_law_1201 ?_
  refine lh_lor (pc := 1202) K d_law_1202 ?_
  obtain ⟨r5, mx5, emx5, h⟩ := gk_bi_some h
  refine lh_cXi (As := [.int v1, .int v2, .long ((v3.toInt64 <<< ((32 : Int32).toInt64 &&& 63)) ||| (v4.toInt64 &&& 4294967295))]) (pc := 1203) K d_law_1203 mv_L_147 mc_X_put rfl cl_ok9.1 (s_X_put (gk_FD K.1) emx5) (by decide) rfl (Nat.le_of_ble_eq_true rfl) ?_
  refine lh_al2 (pc := 1206) K d_law_1206 ?_
  refine lh_al0 (pc := 1207) K d_law_1207 ?_
  refine lh_il3 (pc := 1208) K d_law_1208 ?_
  refine lh_iconst (pc := 1209) K d_law_1209 kc_1 ?_
  refine lh_iadd (pc := 1210) K d_law_1210 ?_
  refine lh_sld (pc := 1211) K d_law_1211 h (fun v6 h => ?_)
  refine lh_al0 (pc := 1212) K d_law_1212 ?_
  refine lh_il3 (pc := 1213) K d_law_1213 ?_
  refine lh_iconst (pc := 1214) K d_law_1214 kc_2 ?_
  refine lh_iadd (pc := 1215) K d_law_1215 ?_
  refine lh_sld (pc := 1216) K d_law_1216 h (fun v7 h => ?_)
  refine lh_al0 (pc := 1217) K d_law_1217 ?_
  refine lh_il3 (pc := 1218) K d_law_1218 ?_
  refine lh_iconst (pc := 1219) K d_law_1219 kc_3 ?_
  refine lh_iadd (pc := 1220) K d_law_1220 ?_
  refine lh_sld (pc := 1221) K d_law_1221 h (fun v8 h => ?_)
  refine lh_i2l (pc := 1222) K d_law_1222 ?_
  refine lh_bipush (pc := 1223) K d_law_1223 kb_32 ?_
  refine lh_lshl (pc := 1225) K d_law_1225 ?_
  refine lh_al0 (pc := 1226) K d_law_1226 ?_
  refine lh_il3 (pc := 1227) K d_law_1227 ?_
  refine lh_iconst (pc := 1228) K d_law_1228 kc_4 ?_
  refine lh_iadd (pc := 1229) K d_law_1229 ?_
  refine lh_sld (pc := 1230) K d_law_1230 h (fun v9 h => ?_)
  refine lh_i2l (pc := 1231) K d_law_1231 ?_
  refine lh_ldc2 (pc := 1232) K d_law_1232 lc_L_145 ?_
  refine lh_land (pc := 1235) K d_law_1235 ?_
  refine lh_lor (pc := 1236) K d_law_1236 ?_
  obtain ⟨r10, mm10, emm10, h⟩ := gk_bi_some h
  refine lh_cMi (As := [.int v6, .int v7, .long ((v8.toInt64 <<< ((32 : Int32).toInt64 &&& 63)) ||| (v9.toInt64 &&& 4294967295))]) (pc := 1237) K d_law_1237 mv_L_151 mc_M_put rfl cl_ok10.1 (s_M_put (gk_FD K.2.1) emm10) (by decide) rfl (Nat.le_of_ble_eq_true rfl) ?_
  refine lh_eq (tgt := 1398) (pc := 1240) K d_law_1240 (by decide) h (fun h => ?_)
  refine lh_iinc (pc := 1398) K d_law_1398 kc_6 ?_
  refine lh_goto (tgt := 18) (pc := 1401) K d_law_1401 (by decide) ?_
  exact hk _ _ _ h
noncomputable def f_L_33 (xs : Nat → Int32) (L : Nat) (k : Int32 → gk_M → gk_M → Option Unit) (i : Int32) (mx mm : gk_M) : Option Unit :=
  gk_as xs L (i + 1) fun v1 =>
  gk_as xs L (i + 2) fun v2 =>
  gk_bl (f_X_element v1 v2 mx) fun r3 mx3 =>
  gk_as xs L (i + 1) fun v4 =>
  gk_as xs L (i + 2) fun v5 =>
  gk_bl (f_M_element v4 v5 mm) fun r6 mm6 =>
  if r3 = r6 then k (i + 6) mx3 mm6 else none
theorem s_L_33 {z : gk_Z} {u1 u2 : gk_U} {b L : Nat} {xs : Nat → Int32} {Q : State → Prop} (K : lh_F z u1 u2 b L xs) {k : Int32 → gk_M → gk_M → Option Unit} (hk : ∀ i mx mm, k i mx mm = some () → lh_G z u1 u2 b Q mx mm i [] 18) : ∀ i mx mm, f_L_33 xs L k i mx mm = some () → lh_G z u1 u2 b Q mx mm i [] 1245 := by
  intro i mx mm h
  unfold f_L_33 at h
  refine lh_al1 (pc := 1245) K d_law_1245 ?_
  refine lh_al0 (pc := 1246) K d_law_1246 ?_
  refine lh_il3 (pc := 1247) K d_law_1247 ?_
  refine lh_iconst (pc := 1248) K d_law_1248 kc_1 ?_
  refine lh_iadd (pc := 1249) K d_law_1249 ?_
  refine lh_sld (pc := 1250) K d_law_1250 h (fun v1 h => ?_)
  refine lh_al0 (pc := 1251) K d_law_1251 ?_
  refine lh_il3 (pc := 1252) K d_law_1252 ?_
  refine lh_iconst (pc := 1253) K d_law_1253 kc_2 ?_
  refine lh_iadd (pc := 1254) K d_law_1254 ?_
  refine lh_sld (pc := 1255) K d_law_1255 h (fun v2 h => ?_)
  obtain ⟨r3, mx3, emx3, h⟩ := gk_bl_some h
  refine lh_cXl (As := [.int v1, .int v2]) (pc := 1256) K d_law_1256 mv_L_152 mc_X_element rfl cl_ok9.1 (s_X_element (gk_FD K.1) emx3) (by decide) rfl (Nat.le_of_ble_eq_true rfl) ?_
  refine lh_al2 (pc := 1259) K d_law_1259 ?_
  refine lh_al0 (pc := 1260) K d_law_1260 ?_
  refine lh_il3 (pc := 1261) K d_law_1261 ?_
  refine lh_iconst (pc := 1262) K d_law_1262 kc_1 ?_
  refine lh_iadd (pc := 1263) K d_law_1263 ?_
  refine lh_sld (pc := 1264) K d_law_1264 h (fun v4 h => ?_)
  refine lh_al0 (pc := 1265) K d_law_1265 ?_
  refine lh_il3 (pc := 1266) K d_law_1266 ?_
  refine lh_iconst (pc := 1267) K d_law_1267 kc_2 ?_
  refine lh_iadd (pc := 1268) K d_law_1268 ?_
  refine lh_sld (pc := 1269) K d_law_1269 h (fun v5 h => ?_)
  obtain ⟨r6, mm6, emm6, h⟩ := gk_bl_some h
  refine lh_cMl (As := [.int v4, .int v5]) (pc := 1270) K d_law_1270 mv_L_156 mc_M_element rfl cl_ok10.1 (s_M_element (gk_FD K.2.1) emm6) (by decide) rfl (Nat.le_of_ble_eq_true rfl) ?_
  refine lh_leq (tgt := 1398) (pc := 1273) K d_law_1273 d_law_1274 (by decide) h (fun h => ?_)
  refine lh_iinc (pc := 1398) K d_law_1398 kc_6 ?_
  refine lh_goto (tgt := 18) (pc := 1401) K d_law_1401 (by decide) ?_
  exact hk _ _ _ h
noncomputable def f_L_34 (xs : Nat → Int32) (L : Nat) (k : Int32 → gk_M → gk_M → Option Unit) (i : Int32) (mx mm : gk_M) : Option Unit :=
  gk_as xs L (i + 1) fun v1 =>
  gk_as xs L (i + 2) fun v2 =>
  gk_as xs L (i + 3) fun v3 =>
  gk_as xs L (i + 4) fun v4 =>
  gk_as xs L (i + 5) fun v5 =>
  gk_bi (f_X_shift v1 v2 v3 v4 v5 mx) fun r6 mx6 =>
  gk_as xs L (i + 1) fun v7 =>
  gk_as xs L (i + 2) fun v8 =>
  gk_as xs L (i + 3) fun v9 =>
  gk_as xs L (i + 4) fun v10 =>
  gk_as xs L (i + 5) fun v11 =>
  gk_bi (f_M_shift v7 v8 v9 v10 v11 mm) fun r12 mm12 =>
  if r6 = r12 then k (i + 6) mx6 mm12 else none
theorem s_L_34 {z : gk_Z} {u1 u2 : gk_U} {b L : Nat} {xs : Nat → Int32} {Q : State → Prop} (K : lh_F z u1 u2 b L xs) {k : Int32 → gk_M → gk_M → Option Unit} (hk : ∀ i mx mm, k i mx mm = some () → lh_G z u1 u2 b Q mx mm i [] 18) : ∀ i mx mm, f_L_34 xs L k i mx mm = some () → lh_G z u1 u2 b Q mx mm i [] 1279 := by
  intro i mx mm h
  unfold f_L_34 at h
  refine lh_al1 (pc := 1279) K d_law_1279 ?_
  refine lh_al0 (pc := 1280) K d_law_1280 ?_
  refine lh_il3 (pc := 1281) K d_law_1281 ?_
  refine lh_iconst (pc := 1282) K d_law_1282 kc_1 ?_
  refine lh_iadd (pc := 1283) K d_law_1283 ?_
  refine lh_sld (pc := 1284) K d_law_1284 h (fun v1 h => ?_)
  refine lh_al0 (pc := 1285) K d_law_1285 ?_
  refine lh_il3 (pc := 1286) K d_law_1286 ?_
  refine lh_iconst (pc := 1287) K d_law_1287 kc_2 ?_
  refine lh_iadd (pc := 1288) K d_law_1288 ?_
  refine lh_sld (pc := 1289) K d_law_1289 h (fun v2 h => ?_)
  refine lh_al0 (pc := 1290) K d_law_1290 ?_
  refine lh_il3 (pc := 1291) K d_law_1291 ?_
  refine lh_iconst (pc := 1292) K d_law_1292 kc_3 ?_
  refine lh_iadd (pc := 1293) K d_law_1293 ?_
  refine lh_sld (pc := 1294) K d_law_1294 h (fun v3 h => ?_)
  refine lh_al0 (pc := 1295) K d_law_1295 ?_
  refine lh_il3 (pc := 1296) K d_law_1296 ?_
  refine lh_iconst (pc := 1297) K d_law_1297 kc_4 ?_
  refine lh_iadd (pc := 1298) K d_law_1298 ?_
  refine lh_sld (pc := 1299) K d_law_1299 h (fun v4 h => ?_)
  refine lh_al0 (pc := 1300) K d_law_1300 ?_
  refine lh_il3 (pc := 1301) K d_law_1301 ?_
  refine lh_iconst (pc := 1302) K d_law_1302 kc_5 ?_
  refine lh_iadd (pc := 1303) K d_law_1303 ?_
  refine lh_sld (pc := 1304) K d_law_1304 h (fun v5 h => ?_)
  obtain ⟨r6, mx6, emx6, h⟩ := gk_bi_some h
  refine lh_cXi (As := [.int v1, .int v2, .int v3, .int v4, .int v5]) (pc := 1305) K d_law_1305 mv_L_157 mc_X_shift rfl cl_ok9.1 (s_X_shift (gk_FD K.1) emx6) (by decide) rfl (Nat.le_of_ble_eq_true rfl) ?_
  refine lh_al2 (pc := 1308) K d_law_1308 ?_
  refine lh_al0 (pc := 1309) K d_law_1309 ?_
  refine lh_il3 (pc := 1310) K d_law_1310 ?_
  refine lh_iconst (pc := 1311) K d_law_1311 kc_1 ?_
  refine lh_iadd (pc := 1312) K d_law_1312 ?_
  refine lh_sld (pc := 1313) K d_law_1313 h (fun v7 h => ?_)
  refine lh_al0 (pc := 1314) K d_law_1314 ?_
  refine lh_il3 (pc := 1315) K d_law_1315 ?_
  refine lh_iconst (pc := 1316) K d_law_1316 kc_2 ?_
  refine lh_iadd (pc := 1317) K d_law_1317 ?_
  refine lh_sld (pc := 1318) K d_law_1318 h (fun v8 h => ?_)
  refine lh_al0 (pc := 1319) K d_law_1319 ?_
  refine lh_il3 (pc := 1320) K d_law_1320 ?_
  refine lh_iconst (pc := 1321) K d_law_1321 kc_3 ?_
  refine lh_iadd (pc := 1322) K d_law_1322 ?_
  refine lh_sld (pc := 1323) K d_law_1323 h (fun v9 h => ?_)
  refine lh_al0 (pc := 1324) K d_law_1324 ?_
  refine lh_il3 (pc := 1325) K d_law_1325 ?_
  refine lh_iconst (pc := 1326) K d_law_1326 kc_4 ?_
  refine lh_iadd (pc := 1327) K d_law_1327 ?_
  refine lh_sld (pc := 1328) K d_law_1328 h (fun v10 h => ?_)
  refine lh_al0 (pc := 1329) K d_law_1329 ?_
  refine lh_il3 (pc := 1330) K d_law_1330 ?_
  refine lh_iconst (pc := 1331) K d_law_1331 kc_5 ?_
  refine lh_iadd (pc := 1332) K d_law_1332 ?_
  refine lh_sld (pc := 1333) K d_law_1333 h (fun v11 h => ?_)
  obtain ⟨r12, mm12, emm12, h⟩ := gk_bi_some h
  refine lh_cMi (As := [.int v7, .int v8, .int v9, .int v10, .int v11]) (pc := 1334) K d_law_1334 mv_L_161 mc_M_shift rfl cl_ok10.1 (s_M_shift (gk_FD K.2.1) emm12) (by decide) rfl (Nat.le_of_ble_eq_true rfl) ?_
  refine lh_eq (tgt := 1398) (pc := 1337) K d_law_1337 (by decide) h (fun h => ?_)
  refine lh_iinc (pc := 1398) K d_law_1398 kc_6 ?_
  refine lh_goto (tgt := 18) (pc := 1401) K d_law_1401 (by decide) ?_
  exact hk _ _ _ h
noncomputable def f_L_35 (xs : Nat → Int32) (L : Nat) (k : Int32 → gk_M → gk_M → Option Unit) (i : Int32) (mx mm : gk_M) : Option Unit :=
  gk_as xs L (i + 1) fun v1 =>
  gk_as xs L (i + 2) fun v2 =>
  gk_bi (f_X_taken v1 v2 mx) fun r3 mx3 =>
  gk_as xs L (i + 1) fun v4 =>
  gk_as xs L (i + 2) fun v5 =>
  gk_bi (f_M_taken v4 v5 mm) fun r6 mm6 =>
  if r3 = r6 then k (i + 6) mx3 mm6 else none
theorem s_L_35 {z : gk_Z} {u1 u2 : gk_U} {b L : Nat} {xs : Nat → Int32} {Q : State → Prop} (K : lh_F z u1 u2 b L xs) {k : Int32 → gk_M → gk_M → Option Unit} (hk : ∀ i mx mm, k i mx mm = some () → lh_G z u1 u2 b Q mx mm i [] 18) : ∀ i mx mm, f_L_35 xs L k i mx mm = some () → lh_G z u1 u2 b Q mx mm i [] 1342 := by
  intro i mx mm h
  unfold f_L_35 at h
  refine lh_al1 (pc := 1342) K d_law_1342 ?_
  refine lh_al0 (pc := 1343) K d_law_1343 ?_
  refine lh_il3 (pc := 1344) K d_law_1344 ?_
  refine lh_iconst (pc := 1345) K d_law_1345 kc_1 ?_
  refine lh_iadd (pc := 1346) K d_law_1346 ?_
  refine lh_sld (pc := 1347) K d_law_1347 h (fun v1 h => ?_)
  refine lh_al0 (pc := 1348) K d_law_1348 ?_
  refine lh_il3 (pc := 1349) K d_law_1349 ?_
  refine lh_iconst (pc := 1350) K d_law_1350 kc_2 ?_
  refine lh_iadd (pc := 1351) K d_law_1351 ?_
  refine lh_sld (pc := 1352) K d_law_1352 h (fun v2 h => ?_)
  obtain ⟨r3, mx3, emx3, h⟩ := gk_bi_some h
  refine lh_cXi (As := [.int v1, .int v2]) (pc := 1353) K d_law_1353 mv_L_162 mc_X_taken rfl cl_ok9.1 (s_X_taken (gk_FD K.1) emx3) (by decide) rfl (Nat.le_of_ble_eq_true rfl) ?_
  refine lh_al2 (pc := 1356) K d_law_1356 ?_
  refine lh_al0 (pc := 1357) K d_law_1357 ?_
  refine lh_il3 (pc := 1358) K d_law_1358 ?_
  refine lh_iconst (pc := 1359) K d_law_1359 kc_1 ?_
  refine lh_iadd (pc := 1360) K d_law_1360 ?_
  refine lh_sld (pc := 1361) K d_law_1361 h (fun v4 h => ?_)
  refine lh_al0 (pc := 1362) K d_law_1362 ?_
  refine lh_il3 (pc := 1363) K d_law_1363 ?_
  refine lh_iconst (pc := 1364) K d_law_1364 kc_2 ?_
  refine lh_iadd (pc := 1365) K d_law_1365 ?_
  refine lh_sld (pc := 1366) K d_law_1366 h (fun v5 h => ?_)
  obtain ⟨r6, mm6, emm6, h⟩ := gk_bi_some h
  refine lh_cMi (As := [.int v4, .int v5]) (pc := 1367) K d_law_1367 mv_L_165 mc_M_taken rfl cl_ok10.1 (s_M_taken (gk_FD K.2.1) emm6) (by decide) rfl (Nat.le_of_ble_eq_true rfl) ?_
  refine lh_eq (tgt := 1398) (pc := 1370) K d_law_1370 (by decide) h (fun h => ?_)
  refine lh_iinc (pc := 1398) K d_law_1398 kc_6 ?_
  refine lh_goto (tgt := 18) (pc := 1401) K d_law_1401 (by decide) ?_
  exact hk _ _ _ h
noncomputable def f_L_36 (xs : Nat → Int32) (L : Nat) (k : Int32 → gk_M → gk_M → Option Unit) (i : Int32) (mx mm : gk_M) : Option Unit :=
  gk_as xs L (i + 1) fun v1 =>
  gk_bi (f_X_count v1 mx) fun r2 mx2 =>
  gk_as xs L (i + 1) fun v3 =>
  gk_bi (f_M_count v3 mm) fun r4 mm4 =>
  if r2 = r4 then k (i + 6) mx2 mm4 else none
theorem s_L_36 {z : gk_Z} {u1 u2 : gk_U} {b L : Nat} {xs : Nat → Int32} {Q : State → Prop} (K : lh_F z u1 u2 b L xs) {k : Int32 → gk_M → gk_M → Option Unit} (hk : ∀ i mx mm, k i mx mm = some () → lh_G z u1 u2 b Q mx mm i [] 18) : ∀ i mx mm, f_L_36 xs L k i mx mm = some () → lh_G z u1 u2 b Q mx mm i [] 1375 := by
  intro i mx mm h
  unfold f_L_36 at h
  refine lh_al1 (pc := 1375) K d_law_1375 ?_
  refine lh_al0 (pc := 1376) K d_law_1376 ?_
  refine lh_il3 (pc := 1377) K d_law_1377 ?_
  refine lh_iconst (pc := 1378) K d_law_1378 kc_1 ?_
  refine lh_iadd (pc := 1379) K d_law_1379 ?_
  refine lh_sld (pc := 1380) K d_law_1380 h (fun v1 h => ?_)
  obtain ⟨r2, mx2, emx2, h⟩ := gk_bi_some h
  refine lh_cXi (As := [.int v1]) (pc := 1381) K d_law_1381 mv_L_166 mc_X_count rfl cl_ok9.1 (s_X_count (gk_FD K.1) emx2) (by decide) rfl (Nat.le_of_ble_eq_true rfl) ?_
  refine lh_al2 (pc := 1384) K d_law_1384 ?_
  refine lh_al0 (pc := 1385) K d_law_1385 ?_
  refine lh_il3 (pc := 1386) K d_law_1386 ?_
  refine lh_iconst (pc := 1387) K d_law_1387 kc_1 ?_
  refine lh_iadd (pc := 1388) K d_law_1388 ?_
  refine lh_sld (pc := 1389) K d_law_1389 h (fun v3 h => ?_)
  obtain ⟨r4, mm4, emm4, h⟩ := gk_bi_some h
  refine lh_cMi (As := [.int v3]) (pc := 1390) K d_law_1390 mv_L_169 mc_M_count rfl cl_ok10.1 (s_M_count (gk_FD K.2.1) emm4) (by decide) rfl (Nat.le_of_ble_eq_true rfl) ?_
  refine lh_eq (tgt := 1398) (pc := 1393) K d_law_1393 (by decide) h (fun h => ?_)
  refine lh_iinc (pc := 1398) K d_law_1398 kc_6 ?_
  refine lh_goto (tgt := 18) (pc := 1401) K d_law_1401 (by decide) ?_
  exact hk _ _ _ h
noncomputable def f_L (xs : Nat → Int32) (L : Nat) : Nat → Int32 → gk_M → gk_M → Option Unit
  | 0, _, _, _ => none
  | n + 1, i, mx, mm =>
    if (Int32.ofNat L - 6) < i then some ()
    else
    gk_as xs L i fun v1 =>
    gk_let (v1 &&& 63) fun v2 =>
    if v2 = 0 then f_L_0 xs L (f_L xs L n) i mx mm else
    if v2 = 1 then f_L_1 xs L (f_L xs L n) i mx mm else
    if v2 = 2 then f_L_2 xs L (f_L xs L n) i mx mm else
    if v2 = 3 then f_L_3 xs L (f_L xs L n) i mx mm else
    if v2 = 4 then f_L_4 xs L (f_L xs L n) i mx mm else
    if v2 = 5 then f_L_5 xs L (f_L xs L n) i mx mm else
    if v2 = 6 then f_L_6 xs L (f_L xs L n) i mx mm else
    if v2 = 7 then f_L_7 xs L (f_L xs L n) i mx mm else
    if v2 = 8 then f_L_8 xs L (f_L xs L n) i mx mm else
    if v2 = 9 then f_L_9 xs L (f_L xs L n) i mx mm else
    if v2 = 10 then f_L_10 xs L (f_L xs L n) i mx mm else
    if v2 = 11 then f_L_11 xs L (f_L xs L n) i mx mm else
    if v2 = 12 then f_L_12 xs L (f_L xs L n) i mx mm else
    if v2 = 13 then f_L_13 xs L (f_L xs L n) i mx mm else
    if v2 = 14 then f_L_14 xs L (f_L xs L n) i mx mm else
    if v2 = 15 then f_L_15 xs L (f_L xs L n) i mx mm else
    if v2 = 16 then f_L_16 xs L (f_L xs L n) i mx mm else
    if v2 = 17 then f_L_17 xs L (f_L xs L n) i mx mm else
    if v2 = 18 then f_L_18 xs L (f_L xs L n) i mx mm else
    if v2 = 19 then f_L_19 xs L (f_L xs L n) i mx mm else
    if v2 = 20 then f_L_20 xs L (f_L xs L n) i mx mm else
    if v2 = 21 then f_L_21 xs L (f_L xs L n) i mx mm else
    if v2 = 22 then f_L_22 xs L (f_L xs L n) i mx mm else
    if v2 = 23 then f_L_23 xs L (f_L xs L n) i mx mm else
    if v2 = 24 then f_L_24 xs L (f_L xs L n) i mx mm else
    if v2 = 25 then f_L_25 xs L (f_L xs L n) i mx mm else
    if v2 = 26 then f_L_26 xs L (f_L xs L n) i mx mm else
    if v2 = 27 then f_L_27 xs L (f_L xs L n) i mx mm else
    if v2 = 28 then f_L_28 xs L (f_L xs L n) i mx mm else
    if v2 = 29 then f_L_29 xs L (f_L xs L n) i mx mm else
    if v2 = 30 then f_L_30 xs L (f_L xs L n) i mx mm else
    if v2 = 31 then f_L_31 xs L (f_L xs L n) i mx mm else
    if v2 = 32 then f_L_32 xs L (f_L xs L n) i mx mm else
    if v2 = 33 then f_L_33 xs L (f_L xs L n) i mx mm else
    if v2 = 34 then f_L_34 xs L (f_L xs L n) i mx mm else
    if v2 = 35 then f_L_35 xs L (f_L xs L n) i mx mm else
    if v2 = 36 then f_L_36 xs L (f_L xs L n) i mx mm else
    f_L xs L n (i + 6) mx mm
theorem lh_topi {z : gk_Z} {u1 u2 : gk_U} {b : Nat} {Q : State → Prop} {mx mm : gk_M} {i : Int32} {st : List Value} {pc : Nat} {e : Int32} {β : Type} {k : Int32 → Option β} {r : Option β} (h : gk_let e k = r) (kk : ∀ v : Int32, k v = r → lh_G z u1 u2 b Q mx mm i (.int v :: st) pc) : lh_G z u1 u2 b Q mx mm i (.int e :: st) pc := kk e h
theorem s_L {z : gk_Z} {u1 u2 : gk_U} {b L : Nat} {xs : Nat → Int32} {Q : State → Prop} (K : lh_F z u1 u2 b L xs) (hend : ∀ i mx mm, lh_G z u1 u2 b Q mx mm i [] 1404) : ∀ n i mx mm, f_L xs L n i mx mm = some () → lh_G z u1 u2 b Q mx mm i [] 18 := by
  intro n
  induction n with
  | zero => intro i mx mm h; exact nomatch (show (none : Option _) = some _ from h)
  | succ n ih =>
    intro i mx mm h
    unfold f_L at h
    refine lh_il3 (pc := 18) K d_law_18 ?_
    refine lh_al0 (pc := 19) K d_law_19 ?_
    refine lh_len (pc := 20) K d_law_20 ?_
    refine lh_bipush (pc := 21) K d_law_21 kb_6 ?_
    refine lh_isub (pc := 23) K d_law_23 ?_
    refine lh_gt (tgt := 1404) (pc := 24) K d_law_24 (by decide) h (fun _ => hend _ _ _) (fun h => ?_)
    refine lh_al0 (pc := 27) K d_law_27 ?_
    refine lh_il3 (pc := 28) K d_law_28 ?_
    refine lh_sld (pc := 29) K d_law_29 h (fun v1 h => ?_)
    refine lh_bipush (pc := 30) K d_law_30 kb_63 ?_
    refine lh_iand (pc := 32) K d_law_32 ?_
    refine lh_topi h (fun v2 h => ?_)
    refine gk_ite (c := v2 = 0) h (fun c0 h => ?_) (fun c0 h => ?_)
    · exact lh_tIn (tgt := 196) (pc := 33) K d_law_33 c0 (by decide) (by decide) rfl (by decide) (s_L_0 K (fun i mx mm h => ih i mx mm h) _ _ _ h)
    refine gk_ite (c := v2 = 1) h (fun c1 h => ?_) (fun c1 h => ?_)
    · exact lh_tIn (tgt := 229) (pc := 33) K d_law_33 c1 (by decide) (by decide) rfl (by decide) (s_L_1 K (fun i mx mm h => ih i mx mm h) _ _ _ h)
    refine gk_ite (c := v2 = 2) h (fun c2 h => ?_) (fun c2 h => ?_)
    · exact lh_tIn (tgt := 272) (pc := 33) K d_law_33 c2 (by decide) (by decide) rfl (by decide) (s_L_2 K (fun i mx mm h => ih i mx mm h) _ _ _ h)
    refine gk_ite (c := v2 = 3) h (fun c3 h => ?_) (fun c3 h => ?_)
    · exact lh_tIn (tgt := 305) (pc := 33) K d_law_33 c3 (by decide) (by decide) rfl (by decide) (s_L_3 K (fun i mx mm h => ih i mx mm h) _ _ _ h)
    refine gk_ite (c := v2 = 4) h (fun c4 h => ?_) (fun c4 h => ?_)
    · exact lh_tIn (tgt := 338) (pc := 33) K d_law_33 c4 (by decide) (by decide) rfl (by decide) (s_L_4 K (fun i mx mm h => ih i mx mm h) _ _ _ h)
    refine gk_ite (c := v2 = 5) h (fun c5 h => ?_) (fun c5 h => ?_)
    · exact lh_tIn (tgt := 371) (pc := 33) K d_law_33 c5 (by decide) (by decide) rfl (by decide) (s_L_5 K (fun i mx mm h => ih i mx mm h) _ _ _ h)
    refine gk_ite (c := v2 = 6) h (fun c6 h => ?_) (fun c6 h => ?_)
    · exact lh_tIn (tgt := 394) (pc := 33) K d_law_33 c6 (by decide) (by decide) rfl (by decide) (s_L_6 K (fun i mx mm h => ih i mx mm h) _ _ _ h)
    refine gk_ite (c := v2 = 7) h (fun c7 h => ?_) (fun c7 h => ?_)
    · exact lh_tIn (tgt := 407) (pc := 33) K d_law_33 c7 (by decide) (by decide) rfl (by decide) (s_L_7 K (fun i mx mm h => ih i mx mm h) _ _ _ h)
    refine gk_ite (c := v2 = 8) h (fun c8 h => ?_) (fun c8 h => ?_)
    · exact lh_tIn (tgt := 450) (pc := 33) K d_law_33 c8 (by decide) (by decide) rfl (by decide) (s_L_8 K (fun i mx mm h => ih i mx mm h) _ _ _ h)
    refine gk_ite (c := v2 = 9) h (fun c9 h => ?_) (fun c9 h => ?_)
    · exact lh_tIn (tgt := 483) (pc := 33) K d_law_33 c9 (by decide) (by decide) rfl (by decide) (s_L_9 K (fun i mx mm h => ih i mx mm h) _ _ _ h)
    refine gk_ite (c := v2 = 10) h (fun c10 h => ?_) (fun c10 h => ?_)
    · exact lh_tIn (tgt := 526) (pc := 33) K d_law_33 c10 (by decide) (by decide) rfl (by decide) (s_L_10 K (fun i mx mm h => ih i mx mm h) _ _ _ h)
    refine gk_ite (c := v2 = 11) h (fun c11 h => ?_) (fun c11 h => ?_)
    · exact lh_tIn (tgt := 569) (pc := 33) K d_law_33 c11 (by decide) (by decide) rfl (by decide) (s_L_11 K (fun i mx mm h => ih i mx mm h) _ _ _ h)
    refine gk_ite (c := v2 = 12) h (fun c12 h => ?_) (fun c12 h => ?_)
    · exact lh_tIn (tgt := 592) (pc := 33) K d_law_33 c12 (by decide) (by decide) rfl (by decide) (s_L_12 K (fun i mx mm h => ih i mx mm h) _ _ _ h)
    refine gk_ite (c := v2 = 13) h (fun c13 h => ?_) (fun c13 h => ?_)
    · exact lh_tIn (tgt := 615) (pc := 33) K d_law_33 c13 (by decide) (by decide) rfl (by decide) (s_L_13 K (fun i mx mm h => ih i mx mm h) _ _ _ h)
    refine gk_ite (c := v2 = 14) h (fun c14 h => ?_) (fun c14 h => ?_)
    · exact lh_tIn (tgt := 638) (pc := 33) K d_law_33 c14 (by decide) (by decide) rfl (by decide) (s_L_14 K (fun i mx mm h => ih i mx mm h) _ _ _ h)
    refine gk_ite (c := v2 = 15) h (fun c15 h => ?_) (fun c15 h => ?_)
    · exact lh_tIn (tgt := 661) (pc := 33) K d_law_33 c15 (by decide) (by decide) rfl (by decide) (s_L_15 K (fun i mx mm h => ih i mx mm h) _ _ _ h)
    refine gk_ite (c := v2 = 16) h (fun c16 h => ?_) (fun c16 h => ?_)
    · exact lh_tIn (tgt := 704) (pc := 33) K d_law_33 c16 (by decide) (by decide) rfl (by decide) (s_L_16 K (fun i mx mm h => ih i mx mm h) _ _ _ h)
    refine gk_ite (c := v2 = 17) h (fun c17 h => ?_) (fun c17 h => ?_)
    · exact lh_tIn (tgt := 737) (pc := 33) K d_law_33 c17 (by decide) (by decide) rfl (by decide) (s_L_17 K (fun i mx mm h => ih i mx mm h) _ _ _ h)
    refine gk_ite (c := v2 = 18) h (fun c18 h => ?_) (fun c18 h => ?_)
    · exact lh_tIn (tgt := 750) (pc := 33) K d_law_33 c18 (by decide) (by decide) rfl (by decide) (s_L_18 K (fun i mx mm h => ih i mx mm h) _ _ _ h)
    refine gk_ite (c := v2 = 19) h (fun c19 h => ?_) (fun c19 h => ?_)
    · exact lh_tIn (tgt := 773) (pc := 33) K d_law_33 c19 (by decide) (by decide) rfl (by decide) (s_L_19 K (fun i mx mm h => ih i mx mm h) _ _ _ h)
    refine gk_ite (c := v2 = 20) h (fun c20 h => ?_) (fun c20 h => ?_)
    · exact lh_tIn (tgt := 806) (pc := 33) K d_law_33 c20 (by decide) (by decide) rfl (by decide) (s_L_20 K (fun i mx mm h => ih i mx mm h) _ _ _ h)
    refine gk_ite (c := v2 = 21) h (fun c21 h => ?_) (fun c21 h => ?_)
    · exact lh_tIn (tgt := 839) (pc := 33) K d_law_33 c21 (by decide) (by decide) rfl (by decide) (s_L_21 K (fun i mx mm h => ih i mx mm h) _ _ _ h)
    refine gk_ite (c := v2 = 22) h (fun c22 h => ?_) (fun c22 h => ?_)
    · exact lh_tIn (tgt := 872) (pc := 33) K d_law_33 c22 (by decide) (by decide) rfl (by decide) (s_L_22 K (fun i mx mm h => ih i mx mm h) _ _ _ h)
    refine gk_ite (c := v2 = 23) h (fun c23 h => ?_) (fun c23 h => ?_)
    · exact lh_tIn (tgt := 915) (pc := 33) K d_law_33 c23 (by decide) (by decide) rfl (by decide) (s_L_23 K (fun i mx mm h => ih i mx mm h) _ _ _ h)
    refine gk_ite (c := v2 = 24) h (fun c24 h => ?_) (fun c24 h => ?_)
    · exact lh_tIn (tgt := 948) (pc := 33) K d_law_33 c24 (by decide) (by decide) rfl (by decide) (s_L_24 K (fun i mx mm h => ih i mx mm h) _ _ _ h)
    refine gk_ite (c := v2 = 25) h (fun c25 h => ?_) (fun c25 h => ?_)
    · exact lh_tIn (tgt := 981) (pc := 33) K d_law_33 c25 (by decide) (by decide) rfl (by decide) (s_L_25 K (fun i mx mm h => ih i mx mm h) _ _ _ h)
    refine gk_ite (c := v2 = 26) h (fun c26 h => ?_) (fun c26 h => ?_)
    · exact lh_tIn (tgt := 994) (pc := 33) K d_law_33 c26 (by decide) (by decide) rfl (by decide) (s_L_26 K (fun i mx mm h => ih i mx mm h) _ _ _ h)
    refine gk_ite (c := v2 = 27) h (fun c27 h => ?_) (fun c27 h => ?_)
    · exact lh_tIn (tgt := 1007) (pc := 33) K d_law_33 c27 (by decide) (by decide) rfl (by decide) (s_L_27 K (fun i mx mm h => ih i mx mm h) _ _ _ h)
    refine gk_ite (c := v2 = 28) h (fun c28 h => ?_) (fun c28 h => ?_)
    · exact lh_tIn (tgt := 1030) (pc := 33) K d_law_33 c28 (by decide) (by decide) rfl (by decide) (s_L_28 K (fun i mx mm h => ih i mx mm h) _ _ _ h)
    refine gk_ite (c := v2 = 29) h (fun c29 h => ?_) (fun c29 h => ?_)
    · exact lh_tIn (tgt := 1073) (pc := 33) K d_law_33 c29 (by decide) (by decide) rfl (by decide) (s_L_29 K (fun i mx mm h => ih i mx mm h) _ _ _ h)
    refine gk_ite (c := v2 = 30) h (fun c30 h => ?_) (fun c30 h => ?_)
    · exact lh_tIn (tgt := 1096) (pc := 33) K d_law_33 c30 (by decide) (by decide) rfl (by decide) (s_L_30 K (fun i mx mm h => ih i mx mm h) _ _ _ h)
    refine gk_ite (c := v2 = 31) h (fun c31 h => ?_) (fun c31 h => ?_)
    · exact lh_tIn (tgt := 1129) (pc := 33) K d_law_33 c31 (by decide) (by decide) rfl (by decide) (s_L_31 K (fun i mx mm h => ih i mx mm h) _ _ _ h)
    refine gk_ite (c := v2 = 32) h (fun c32 h => ?_) (fun c32 h => ?_)
    · exact lh_tIn (tgt := 1172) (pc := 33) K d_law_33 c32 (by decide) (by decide) rfl (by decide) (s_L_32 K (fun i mx mm h => ih i mx mm h) _ _ _ h)
    refine gk_ite (c := v2 = 33) h (fun c33 h => ?_) (fun c33 h => ?_)
    · exact lh_tIn (tgt := 1245) (pc := 33) K d_law_33 c33 (by decide) (by decide) rfl (by decide) (s_L_33 K (fun i mx mm h => ih i mx mm h) _ _ _ h)
    refine gk_ite (c := v2 = 34) h (fun c34 h => ?_) (fun c34 h => ?_)
    · exact lh_tIn (tgt := 1279) (pc := 33) K d_law_33 c34 (by decide) (by decide) rfl (by decide) (s_L_34 K (fun i mx mm h => ih i mx mm h) _ _ _ h)
    refine gk_ite (c := v2 = 35) h (fun c35 h => ?_) (fun c35 h => ?_)
    · exact lh_tIn (tgt := 1342) (pc := 33) K d_law_33 c35 (by decide) (by decide) rfl (by decide) (s_L_35 K (fun i mx mm h => ih i mx mm h) _ _ _ h)
    refine gk_ite (c := v2 = 36) h (fun c36 h => ?_) (fun c36 h => ?_)
    · exact lh_tIn (tgt := 1375) (pc := 33) K d_law_33 c36 (by decide) (by decide) rfl (by decide) (s_L_36 K (fun i mx mm h => ih i mx mm h) _ _ _ h)
    have gc0 := gk_neq c0 (a := 0) (by decide)
    have gc1 := gk_neq c1 (a := 1) (by decide)
    have gc2 := gk_neq c2 (a := 2) (by decide)
    have gc3 := gk_neq c3 (a := 3) (by decide)
    have gc4 := gk_neq c4 (a := 4) (by decide)
    have gc5 := gk_neq c5 (a := 5) (by decide)
    have gc6 := gk_neq c6 (a := 6) (by decide)
    have gc7 := gk_neq c7 (a := 7) (by decide)
    have gc8 := gk_neq c8 (a := 8) (by decide)
    have gc9 := gk_neq c9 (a := 9) (by decide)
    have gc10 := gk_neq c10 (a := 10) (by decide)
    have gc11 := gk_neq c11 (a := 11) (by decide)
    have gc12 := gk_neq c12 (a := 12) (by decide)
    have gc13 := gk_neq c13 (a := 13) (by decide)
    have gc14 := gk_neq c14 (a := 14) (by decide)
    have gc15 := gk_neq c15 (a := 15) (by decide)
    have gc16 := gk_neq c16 (a := 16) (by decide)
    have gc17 := gk_neq c17 (a := 17) (by decide)
    have gc18 := gk_neq c18 (a := 18) (by decide)
    have gc19 := gk_neq c19 (a := 19) (by decide)
    have gc20 := gk_neq c20 (a := 20) (by decide)
    have gc21 := gk_neq c21 (a := 21) (by decide)
    have gc22 := gk_neq c22 (a := 22) (by decide)
    have gc23 := gk_neq c23 (a := 23) (by decide)
    have gc24 := gk_neq c24 (a := 24) (by decide)
    have gc25 := gk_neq c25 (a := 25) (by decide)
    have gc26 := gk_neq c26 (a := 26) (by decide)
    have gc27 := gk_neq c27 (a := 27) (by decide)
    have gc28 := gk_neq c28 (a := 28) (by decide)
    have gc29 := gk_neq c29 (a := 29) (by decide)
    have gc30 := gk_neq c30 (a := 30) (by decide)
    have gc31 := gk_neq c31 (a := 31) (by decide)
    have gc32 := gk_neq c32 (a := 32) (by decide)
    have gc33 := gk_neq c33 (a := 33) (by decide)
    have gc34 := gk_neq c34 (a := 34) (by decide)
    have gc35 := gk_neq c35 (a := 35) (by decide)
    have gc36 := gk_neq c36 (a := 36) (by decide)
    refine lh_tOut (tgt := 1398) (pc := 33) K d_law_33 (by omega) (by decide) ?_
    refine lh_iinc (pc := 1398) K d_law_1398 kc_6 ?_
    refine lh_goto (tgt := 18) (pc := 1401) K d_law_1401 (by decide) ?_
    exact ih _ _ _ h
