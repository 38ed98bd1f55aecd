theorem ma_max : Cond.code me_Math_max.1 me_Math_max.2.1 me_Math_max.2.2.1 me_Math_max.2.2.2 ∈ gk_W := (gk_t3 60 rfl rfl)
theorem ma_min : Cond.code me_Math_min.1 me_Math_min.2.1 me_Math_min.2.2.1 me_Math_min.2.2.2 ∈ gk_W := (gk_t2 226 rfl rfl)
theorem ma_abs : Cond.code me_Math_abs.1 me_Math_abs.2.1 me_Math_abs.2.2.1 me_Math_abs.2.2.2 ∈ gk_W := (gk_t3 52 rfl rfl)
/-! cells, constants, rows that are wanting in the base -/
/-- the loops' fuel: a number of which nobody unfolds the value -/
noncomputable def gk_fv : Nat := Classical.choose (⟨100000, rfl⟩ : ∃ n : Nat, n = 100000)
theorem gk_fv_eq : gk_fv = 100000 := Classical.choose_spec (⟨100000, rfl⟩ : ∃ n : Nat, n = 100000)
def gk_rem (x w : Int32) : Int32 := x - x / w * w
def gk_ush (x w : Int32) : Int32 := (x.toUInt32 >>> (w.toUInt32 &&& Int32.toUInt32 31)).toInt32
def gk_max (x y : Int32) : Int32 := if x < y then y else x
def gk_min (x y : Int32) : Int32 := if y < x then y else x
def gk_abs (x : Int32) : Int32 := if 0 ≤ x then x else 0 - x
section GKX
variable {t : gk_T} {z : gk_Z} {y : gk_Y} {lev : Nat} {Q : State → Prop} {mem : gk_M} {lv : List (Nat × Value)} {st : List Value} {pc : Nat}
theorem gk_idivc2 (K : gk_F t z y lev) {x w : Int32} (hd : decode y.2.1 pc = .ok (.idiv, 1)) (h0 : ¬ w = 0) (kk : gk_G t z y Q mem lv (.int (x / w) :: st) (pc + 1)) : gk_G t z y Q mem lv (.int w :: .int x :: st) pc := gk_idivc K hd h0 kk
theorem gk_iremc2 (K : gk_F t z y lev) {x w : Int32} (hd : decode y.2.1 pc = .ok (.irem, 1)) (h0 : ¬ w = 0) (kk : gk_G t z y Q mem lv (.int (gk_rem x w) :: st) (pc + 1)) : gk_G t z y Q mem lv (.int w :: .int x :: st) pc := gk_iremc K hd h0 kk
theorem gk_iinc2 (K : gk_F t z y lev) {i : Nat} {n : Int} {x w : Int32} {lv2 : List (Nat × Value)} (hd : decode y.2.1 pc = .ok (.iinc i n, 3)) (hg : gk_lg lv i = some (.int x)) (hw : Int32.ofInt n = w) (hn : i < y.2.2.1) (hl2 : gk_s1 lv i (.int (x + w)) = lv2) (kk : gk_G t z y Q mem lv2 st (pc + 3)) : gk_G t z y Q mem lv st pc := gk_iinc K hd hg (by rw [hw]) hn hl2 kk
theorem gk_zretc (K : gk_F t z y lev) {v r : Int32} {mem2 : gk_M} (hd : decode y.2.1 pc = .ok (.ireturn, 1)) (hr : y.2.2.2 = some .boolean) (hz : v = 0 ∨ v = 1) (h : some (v, mem) = some (r, mem2)) : gk_G t z y (gk_R t z (some (.int r)) mem2) mem lv [.int v] pc := gk_zret K hd hr (by rw [gk_zz, if_pos hz]; exact h)
theorem gk_zastc (K : gk_F t z y lev) {k L b : Nat} {i x : Int32} {β : Type} {c : gk_M → Option β} {r : β} (hd : decode y.2.1 pc = .ok (.bastore, 1)) (hk : t.1[k]? = some (.inl (1, L, b))) (hz : x = 0 ∨ x = 1) (h : gk_si mem k L i x c = some r) (kk : ∀ mem2, c mem2 = some r → gk_G t z y Q mem2 lv st (pc + 1)) : gk_G t z y Q mem lv (.int x :: .int i :: .ref k :: st) pc := gk_zast K hd hk (by rw [gk_zz, if_pos hz]; exact h) kk
def gk_mL (y : gk_Y) (n : MethodName) (c : ByteArray) (k : Nat) : Prop := y = (n, c, k, some .int)
theorem gk_mmax (K : gk_F t z y lev) {idx : Nat} {x w : Int32} (hd : decode y.2.1 pc = .ok (.invokestatic idx, 3)) (ml : gk_MS y.1.cls idx me_Math_max) (hlev : 0 < lev) (hrest : (st.map fun v => v.category).sum ≤ 8) (kk : gk_G t z y Q mem lv (.int (gk_max x w) :: st) (pc + 3)) : gk_G t z y Q mem lv (.int w :: .int x :: st) pc := by
  intro H locs ls hP hS hl
  obtain ⟨hx, hb, hml, hown, hts, -, -, -, hR, -⟩ := id K
  exact va_mmax hx hb (hml.trans hl.1.symm) hown (hts _ ml.1) (hts _ ml.2) (hts _ li_Math) (hts _ ma_max) (by omega) (by rw [gk_lsum]; omega) hR.2.2.1 hR.2.2.2 hd (kk H locs ls hP hS hl)
theorem gk_mmin (K : gk_F t z y lev) {idx : Nat} {x w : Int32} (hd : decode y.2.1 pc = .ok (.invokestatic idx, 3)) (ml : gk_MS y.1.cls idx me_Math_min) (hlev : 0 < lev) (hrest : (st.map fun v => v.category).sum ≤ 8) (kk : gk_G t z y Q mem lv (.int (gk_min x w) :: st) (pc + 3)) : gk_G t z y Q mem lv (.int w :: .int x :: st) pc := by
  intro H locs ls hP hS hl
  obtain ⟨hx, hb, hml, hown, hts, -, -, -, hR, -⟩ := id K
  exact va_mmin hx hb (hml.trans hl.1.symm) hown (hts _ ml.1) (hts _ ml.2) (hts _ li_Math) (hts _ ma_min) (by omega) (by rw [gk_lsum]; omega) hR.2.2.1 hR.2.2.2 hd (kk H locs ls hP hS hl)
theorem gk_mabs (K : gk_F t z y lev) {idx : Nat} {x : Int32} (hd : decode y.2.1 pc = .ok (.invokestatic idx, 3)) (ml : gk_MS y.1.cls idx me_Math_abs) (hlev : 0 < lev) (hrest : (st.map fun v => v.category).sum ≤ 8) (kk : gk_G t z y Q mem lv (.int (gk_abs x) :: st) (pc + 3)) : gk_G t z y Q mem lv (.int x :: st) pc := by
  intro H locs ls hP hS hl
  obtain ⟨hx, hb, hml, hown, hts, -, -, -, hR, -⟩ := id K
  exact va_mabs hx hb (hml.trans hl.1.symm) hown (hts _ ml.1) (hts _ ml.2) (hts _ li_Math) (hts _ ma_abs) (by omega) (by rw [gk_lsum]; omega) hR.2.2.1 hR.2.2.2 hd (kk H locs ls hP hS hl)
end GKX

theorem tx_0 : tx.1[0]? = some (.inr (9, [.inl 1, .inl 4, .inl 7, .inl 21, .inl 25, .inl 28, .inl 32, .inl 37, .inl 40])) := rfl
theorem tx_1 : tx.1[1]? = some (.inr (0, [.inl 2, .inl 3, .inr false])) := rfl
theorem tx_2 : tx.1[2]? = some (.inl (0, 256, 0)) := rfl
theorem tx_3 : tx.1[3]? = some (.inl (0, 256, 0)) := rfl
theorem tx_4 : tx.1[4]? = some (.inr (1, [.inl 5, .inr false, .inr false, .inl 6, .inr false, .inr false])) := rfl
theorem tx_5 : tx.1[5]? = some (.inl (0, 256, 0)) := rfl
theorem tx_6 : tx.1[6]? = some (.inl (0, 120, 0)) := rfl
theorem tx_7 : tx.1[7]? = some (.inr (2, [.inl 8, .inl 9, .inl 10, .inl 11, .inl 12, .inr false, .inl 13, .inr false, .inr false, .inl 14, .inl 15, .inl 16, .inl 17, .inl 18, .inl 1, .inl 19, .inl 20])) := rfl
theorem tx_8 : tx.1[8]? = some (.inl (0, 12, 0)) := rfl
theorem tx_9 : tx.1[9]? = some (.inl (0, 12, 0)) := rfl
theorem tx_10 : tx.1[10]? = some (.inl (0, 12, 0)) := rfl
theorem tx_11 : tx.1[11]? = some (.inl (0, 12, 0)) := rfl
theorem tx_12 : tx.1[12]? = some (.inl (0, 12, 0)) := rfl
theorem tx_13 : tx.1[13]? = some (.inl (0, 4, 0)) := rfl
theorem tx_14 : tx.1[14]? = some (.inl (0, 24, 0)) := rfl
theorem tx_15 : tx.1[15]? = some (.inl (0, 8, 0)) := rfl
theorem tx_16 : tx.1[16]? = some (.inl (0, 8, 0)) := rfl
theorem tx_17 : tx.1[17]? = some (.inl (0, 8, 0)) := rfl
theorem tx_18 : tx.1[18]? = some (.inl (0, 8, 0)) := rfl
theorem tx_19 : tx.1[19]? = some (.inl (0, 6, 0)) := rfl
theorem tx_20 : tx.1[20]? = some (.inl (0, 720, 0)) := rfl
theorem tx_21 : tx.1[21]? = some (.inr (3, [.inl 7, .inl 22, .inl 23, .inl 24, .inr false])) := rfl
theorem tx_22 : tx.1[22]? = some (.inl (0, 10, 0)) := rfl
theorem tx_23 : tx.1[23]? = some (.inl (0, 900, 0)) := rfl
theorem tx_24 : tx.1[24]? = some (.inl (0, 900, 0)) := rfl
theorem tx_25 : tx.1[25]? = some (.inr (4, [.inl 7, .inl 26, .inl 27, .inr false, .inr false, .inr false])) := rfl
theorem tx_26 : tx.1[26]? = some (.inl (0, 9, 0)) := rfl
theorem tx_27 : tx.1[27]? = some (.inl (1, 512, 0)) := rfl
theorem tx_28 : tx.1[28]? = some (.inr (5, [.inr false, .inl 7, .inl 29, .inl 30, .inl 31])) := rfl
theorem tx_29 : tx.1[29]? = some (.inl (0, 10, 0)) := rfl
theorem tx_30 : tx.1[30]? = some (.inl (0, 10, 0)) := rfl
theorem tx_31 : tx.1[31]? = some (.inl (0, 10, 0)) := rfl
theorem tx_32 : tx.1[32]? = some (.inr (6, [.inr false, .inr false, .inl 7, .inl 33, .inl 34, .inl 35, .inl 36])) := rfl
theorem tx_33 : tx.1[33]? = some (.inl (0, 40, 0)) := rfl
theorem tx_34 : tx.1[34]? = some (.inl (0, 40, 0)) := rfl
theorem tx_35 : tx.1[35]? = some (.inl (0, 40, 0)) := rfl
theorem tx_36 : tx.1[36]? = some (.inl (0, 40, 0)) := rfl
theorem tx_37 : tx.1[37]? = some (.inr (7, [.inr false, .inr false, .inl 38, .inl 39, .inr false])) := rfl
theorem tx_38 : tx.1[38]? = some (.inl (0, 50, 0)) := rfl
theorem tx_39 : tx.1[39]? = some (.inl (0, 24, 0)) := rfl
theorem tx_40 : tx.1[40]? = some (.inl (3, 6, 41)) := rfl
theorem tx_41 : tx.1[41]? = some (.inr (8, [.inl 47, .inr false, .inr false, .inr false])) := rfl
theorem tx_42 : tx.1[42]? = some (.inr (8, [.inl 48, .inr false, .inr false, .inr false])) := rfl
theorem tx_43 : tx.1[43]? = some (.inr (8, [.inl 49, .inr false, .inr false, .inr false])) := rfl
theorem tx_44 : tx.1[44]? = some (.inr (8, [.inl 50, .inr false, .inr false, .inr false])) := rfl
theorem tx_45 : tx.1[45]? = some (.inr (8, [.inl 51, .inr false, .inr false, .inr false])) := rfl
theorem tx_46 : tx.1[46]? = some (.inr (8, [.inl 52, .inr false, .inr false, .inr false])) := rfl
theorem tx_47 : tx.1[47]? = some (.inl (2, 60, 0)) := rfl
theorem tx_48 : tx.1[48]? = some (.inl (2, 60, 0)) := rfl
theorem tx_49 : tx.1[49]? = some (.inl (2, 60, 0)) := rfl
theorem tx_50 : tx.1[50]? = some (.inl (2, 60, 0)) := rfl
theorem tx_51 : tx.1[51]? = some (.inl (2, 60, 0)) := rfl
theorem tx_52 : tx.1[52]? = some (.inl (2, 60, 0)) := rfl
theorem tm_0 : tm.1[0]? = some (.inr (10, [.inl 1, .inl 2, .inl 3, .inl 4, .inr false, .inr false, .inr false, .inl 5, .inl 6, .inl 7, .inr false, .inl 8, .inl 9, .inr false, .inl 10, .inl 11, .inr false, .inl 12, .inr false, .inr false, .inr false, .inr false, .inr false, .inr false, .inl 13, .inr true, .inr true, .inl 14, .inl 15, .inl 16, .inl 17, .inl 18, .inr false, .inr false, .inr false, .inr false, .inr false, .inl 19, .inl 20, .inr false, .inl 21, .inl 22, .inr false, .inr false, .inr false, .inl 23, .inl 24, .inl 25, .inl 26])) := rfl
theorem tm_1 : tm.1[1]? = some (.inl (0, 30, 0)) := rfl
theorem tm_2 : tm.1[2]? = some (.inl (0, 40, 0)) := rfl
theorem tm_3 : tm.1[3]? = some (.inl (0, 40, 0)) := rfl
theorem tm_4 : tm.1[4]? = some (.inl (0, 40, 0)) := rfl
theorem tm_5 : tm.1[5]? = some (.inl (0, 20, 0)) := rfl
theorem tm_6 : tm.1[6]? = some (.inl (0, 20, 0)) := rfl
theorem tm_7 : tm.1[7]? = some (.inl (0, 20, 0)) := rfl
theorem tm_8 : tm.1[8]? = some (.inl (0, 4, 0)) := rfl
theorem tm_9 : tm.1[9]? = some (.inl (0, 28, 0)) := rfl
theorem tm_10 : tm.1[10]? = some (.inl (0, 16, 0)) := rfl
theorem tm_11 : tm.1[11]? = some (.inl (0, 120, 0)) := rfl
theorem tm_12 : tm.1[12]? = some (.inl (0, 120, 0)) := rfl
theorem tm_13 : tm.1[13]? = some (.inl (0, 6, 0)) := rfl
theorem tm_14 : tm.1[14]? = some (.inl (0, 10, 0)) := rfl
theorem tm_15 : tm.1[15]? = some (.inl (1, 900, 0)) := rfl
theorem tm_16 : tm.1[16]? = some (.inl (0, 900, 0)) := rfl
theorem tm_17 : tm.1[17]? = some (.inl (0, 900, 0)) := rfl
theorem tm_18 : tm.1[18]? = some (.inl (0, 512, 0)) := rfl
theorem tm_19 : tm.1[19]? = some (.inl (0, 10, 0)) := rfl
theorem tm_20 : tm.1[20]? = some (.inl (0, 10, 0)) := rfl
theorem tm_21 : tm.1[21]? = some (.inl (0, 50, 0)) := rfl
theorem tm_22 : tm.1[22]? = some (.inl (0, 24, 0)) := rfl
theorem tm_23 : tm.1[23]? = some (.inl (0, 6, 0)) := rfl
theorem tm_24 : tm.1[24]? = some (.inl (0, 6, 0)) := rfl
theorem tm_25 : tm.1[25]? = some (.inl (2, 360, 0)) := rfl
theorem tm_26 : tm.1[26]? = some (.inl (2, 60, 0)) := rfl
def tb_0 : List Int32 := [-1, 0, 0, 2, 1, 3, 0, 4]
theorem tt_0 : tx.2[0]? = some ("NeverInLine$Ways", "ABOVE", tb_0) := rfl
def tb_1 : List Int32 := [1, 10, 11, 2, 20, 0, 0, 0, 0, 30, 0, 0, 0, 41, 40, 0, 0, 0, 50, 0, 0, 0, 0, 60, 70, 0, 0, 0, 0, 80, 0, 81]
theorem tt_1 : tx.2[1]? = some ("NeverInLine$Ways", "OWN", tb_1) := rfl
theorem kb_m100 : (Int8.ofInt (-100)).toInt32 = (-100) := by decide +kernel
theorem kb_m14 : (Int8.ofInt (-14)).toInt32 = (-14) := by decide +kernel
theorem kb_m13 : (Int8.ofInt (-13)).toInt32 = (-13) := by decide +kernel
theorem kb_m12 : (Int8.ofInt (-12)).toInt32 = (-12) := by decide +kernel
theorem kb_m11 : (Int8.ofInt (-11)).toInt32 = (-11) := by decide +kernel
theorem kb_m6 : (Int8.ofInt (-6)).toInt32 = (-6) := by decide +kernel
theorem kb_m5 : (Int8.ofInt (-5)).toInt32 = (-5) := by decide +kernel
theorem kb_m4 : (Int8.ofInt (-4)).toInt32 = (-4) := by decide +kernel
theorem kb_m3 : (Int8.ofInt (-3)).toInt32 = (-3) := by decide +kernel
theorem kb_m2 : (Int8.ofInt (-2)).toInt32 = (-2) := by decide +kernel
theorem kb_6 : (Int8.ofInt 6).toInt32 = 6 := by decide +kernel
theorem kb_7 : (Int8.ofInt 7).toInt32 = 7 := by decide +kernel
theorem kb_8 : (Int8.ofInt 8).toInt32 = 8 := by decide +kernel
theorem kb_9 : (Int8.ofInt 9).toInt32 = 9 := by decide +kernel
theorem kb_10 : (Int8.ofInt 10).toInt32 = 10 := by decide +kernel
theorem kb_11 : (Int8.ofInt 11).toInt32 = 11 := by decide +kernel
theorem kb_12 : (Int8.ofInt 12).toInt32 = 12 := by decide +kernel
theorem kb_16 : (Int8.ofInt 16).toInt32 = 16 := by decide +kernel
theorem kb_18 : (Int8.ofInt 18).toInt32 = 18 := by decide +kernel
theorem kb_19 : (Int8.ofInt 19).toInt32 = 19 := by decide +kernel
theorem kb_20 : (Int8.ofInt 20).toInt32 = 20 := by decide +kernel
theorem kb_24 : (Int8.ofInt 24).toInt32 = 24 := by decide +kernel
theorem kb_29 : (Int8.ofInt 29).toInt32 = 29 := by decide +kernel
theorem kb_30 : (Int8.ofInt 30).toInt32 = 30 := by decide +kernel
theorem kb_33 : (Int8.ofInt 33).toInt32 = 33 := by decide +kernel
theorem kb_37 : (Int8.ofInt 37).toInt32 = 37 := by decide +kernel
theorem kb_38 : (Int8.ofInt 38).toInt32 = 38 := by decide +kernel
theorem kb_39 : (Int8.ofInt 39).toInt32 = 39 := by decide +kernel
theorem kb_40 : (Int8.ofInt 40).toInt32 = 40 := by decide +kernel
theorem kb_41 : (Int8.ofInt 41).toInt32 = 41 := by decide +kernel
theorem kb_42 : (Int8.ofInt 42).toInt32 = 42 := by decide +kernel
theorem kb_43 : (Int8.ofInt 43).toInt32 = 43 := by decide +kernel
theorem kb_45 : (Int8.ofInt 45).toInt32 = 45 := by decide +kernel
theorem kb_47 : (Int8.ofInt 47).toInt32 = 47 := by decide +kernel
theorem kb_48 : (Int8.ofInt 48).toInt32 = 48 := by decide +kernel
theorem kb_50 : (Int8.ofInt 50).toInt32 = 50 := by decide +kernel
theorem kb_51 : (Int8.ofInt 51).toInt32 = 51 := by decide +kernel
theorem kb_57 : (Int8.ofInt 57).toInt32 = 57 := by decide +kernel
theorem kb_59 : (Int8.ofInt 59).toInt32 = 59 := by decide +kernel
theorem kb_60 : (Int8.ofInt 60).toInt32 = 60 := by decide +kernel
theorem kb_61 : (Int8.ofInt 61).toInt32 = 61 := by decide +kernel
theorem kb_62 : (Int8.ofInt 62).toInt32 = 62 := by decide +kernel
theorem kb_63 : (Int8.ofInt 63).toInt32 = 63 := by decide +kernel
theorem kb_64 : (Int8.ofInt 64).toInt32 = 64 := by decide +kernel
theorem kb_70 : (Int8.ofInt 70).toInt32 = 70 := by decide +kernel
theorem kb_80 : (Int8.ofInt 80).toInt32 = 80 := by decide +kernel
theorem kb_81 : (Int8.ofInt 81).toInt32 = 81 := by decide +kernel
theorem kb_99 : (Int8.ofInt 99).toInt32 = 99 := by decide +kernel
theorem kb_100 : (Int8.ofInt 100).toInt32 = 100 := by decide +kernel
theorem kb_120 : (Int8.ofInt 120).toInt32 = 120 := by decide +kernel
theorem kb_124 : (Int8.ofInt 124).toInt32 = 124 := by decide +kernel
theorem kc_m1 : Int32.ofInt (-1) = (-1) := by decide +kernel
theorem kc_0 : Int32.ofInt 0 = 0 := by decide +kernel
theorem kc_1 : Int32.ofInt 1 = 1 := by decide +kernel
theorem kc_2 : Int32.ofInt 2 = 2 := by decide +kernel
theorem kc_3 : Int32.ofInt 3 = 3 := by decide +kernel
theorem kc_4 : Int32.ofInt 4 = 4 := by decide +kernel
theorem kc_5 : Int32.ofInt 5 = 5 := by decide +kernel
theorem ks_m400 : (Int16.ofInt (-400)).toInt32 = (-400) := by decide +kernel
theorem ks_m163 : (Int16.ofInt (-163)).toInt32 = (-163) := by decide +kernel
theorem ks_m159 : (Int16.ofInt (-159)).toInt32 = (-159) := by decide +kernel
theorem ks_m133 : (Int16.ofInt (-133)).toInt32 = (-133) := by decide +kernel
theorem ks_255 : (Int16.ofInt 255).toInt32 = 255 := by decide +kernel
theorem ks_256 : (Int16.ofInt 256).toInt32 = 256 := by decide +kernel
theorem ks_870 : (Int16.ofInt 870).toInt32 = 870 := by decide +kernel
theorem ks_899 : (Int16.ofInt 899).toInt32 = 899 := by decide +kernel
theorem ks_900 : (Int16.ofInt 900).toInt32 = 900 := by decide +kernel
theorem ks_1000 : (Int16.ofInt 1000).toInt32 = 1000 := by decide +kernel
theorem ks_1023 : (Int16.ofInt 1023).toInt32 = 1023 := by decide +kernel
theorem ks_4096 : (Int16.ofInt 4096).toInt32 = 4096 := by decide +kernel
theorem ks_4097 : (Int16.ofInt 4097).toInt32 = 4097 := by decide +kernel
theorem kl_0 : Int64.ofNat (0 : Fin 2) = 0 := by decide +kernel
theorem kl_1 : Int64.ofNat (1 : Fin 2) = 1 := by decide +kernel
