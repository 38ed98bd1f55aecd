/-! SIM: numbers. sm_n a natural number, sm_i a whole one, as ints; sm_l as longs -/
def sm_n (n : Nat) : Int32 := Int32.ofNat n
def sm_i (z : Int) : Int32 := Int32.ofInt z
def sm_l (z : Int) : Int64 := Int64.ofInt z
theorem sm_ni (n : Nat) : sm_n n = sm_i (n : Int) := Int32.ofInt_eq_ofNat.symm
theorem sm_lit (n : Nat) : (OfNat.ofNat n : Int32) = sm_n (OfNat.ofNat n) := rfl
theorem sm_litL (n : Nat) : (OfNat.ofNat n : Int64) = sm_l (OfNat.ofNat n) := rfl
theorem sm_i_add (a b : Int) : sm_i a + sm_i b = sm_i (a + b) := (Int32.ofInt_add a b).symm
theorem sm_i_sub (a b : Int) : sm_i a - sm_i b = sm_i (a - b) := (Int32.ofInt_sub a b).symm
theorem sm_i_mul (a b : Int) : sm_i a * sm_i b = sm_i (a * b) := (Int32.ofInt_mul a b).symm
theorem sm_i_neg (a : Int) : - sm_i a = sm_i (- a) := (Int32.ofInt_neg a).symm
theorem sm_l_add (a b : Int) : sm_l a + sm_l b = sm_l (a + b) := (Int64.ofInt_add a b).symm
theorem sm_l_sub (a b : Int) : sm_l a - sm_l b = sm_l (a - b) := (Int64.ofInt_sub a b).symm
theorem sm_l_mul (a b : Int) : sm_l a * sm_l b = sm_l (a * b) := (Int64.ofInt_mul a b).symm
theorem sm_l_neg (a : Int) : - sm_l a = sm_l (- a) := (Int64.ofInt_neg a).symm
theorem sm_i_int {z : Int} (h1 : -2147483648 ≤ z) (h2 : z < 2147483648) : (sm_i z).toInt = z := Int32.toInt_ofInt_of_le h1 h2
theorem sm_l_int {z : Int} (h1 : -9223372036854775808 ≤ z) (h2 : z < 9223372036854775808) : (sm_l z).toInt = z := Int64.toInt_ofInt_of_le h1 h2
theorem sm_n_int {n : Nat} (h : n < 2147483648) : (sm_n n).toInt = n := Int32.toInt_ofNat_of_lt h
theorem sm_of (x : Int32) : x = sm_i x.toInt := (Int32.ofInt_toInt x).symm
theorem sm_ofl (x : Int64) : x = sm_l x.toInt := (Int64.ofInt_toInt x).symm
theorem sm_rng (x : Int32) : -2147483648 ≤ x.toInt ∧ x.toInt < 2147483648 := ⟨x.le_toInt, x.toInt_lt⟩
theorem sm_lt (a b : Int32) : a < b ↔ a.toInt < b.toInt := Int32.lt_iff_toInt_lt
theorem sm_le (a b : Int32) : a ≤ b ↔ a.toInt ≤ b.toInt := Int32.le_iff_toInt_le
theorem sm_eq (a b : Int32) : a = b ↔ a.toInt = b.toInt := Int32.toInt_inj.symm
theorem sm_ltl (a b : Int64) : a < b ↔ a.toInt < b.toInt := Int64.lt_iff_toInt_lt
theorem sm_lel (a b : Int64) : a ≤ b ↔ a.toInt ≤ b.toInt := Int64.le_iff_toInt_le
theorem sm_eql (a b : Int64) : a = b ↔ a.toInt = b.toInt := Int64.toInt_inj.symm
theorem sm_wide {z : Int} (h1 : -2147483648 ≤ z) (h2 : z < 2147483648) : (sm_i z).toInt64 = sm_l z := by
  rw [sm_eql, Int32.toInt_toInt64, sm_i_int h1 h2, sm_l_int (by omega) (by omega)]
theorem sm_wn {n : Nat} (h : n < 2147483648) : (sm_n n).toInt64 = sm_l (n : Int) := by
  rw [sm_ni, sm_wide (by omega) (by omega)]
theorem sm_nar (z : Int) : (sm_l z).toInt32 = sm_i z := Int64.toInt32_ofInt
theorem sm_n_add (a b : Nat) : sm_n a + sm_n b = sm_n (a + b) := (Int32.ofNat_add a b).symm
theorem sm_n_mul (a b : Nat) : sm_n a * sm_n b = sm_n (a * b) := (Int32.ofNat_mul a b).symm
theorem sm_n_sub {a b : Nat} (h : b ≤ a) : sm_n a - sm_n b = sm_n (a - b) := (Int32.ofNat_sub a b h).symm
theorem sm_nlt {a b : Nat} (ha : a < 2147483648) (hb : b < 2147483648) : sm_n a < sm_n b ↔ a < b := by
  rw [sm_lt, sm_n_int ha, sm_n_int hb]; omega
theorem sm_nle {a b : Nat} (ha : a < 2147483648) (hb : b < 2147483648) : sm_n a ≤ sm_n b ↔ a ≤ b := by
  rw [sm_le, sm_n_int ha, sm_n_int hb]; omega
theorem sm_neq {a b : Nat} (ha : a < 2147483648) (hb : b < 2147483648) : sm_n a = sm_n b ↔ a = b := by
  rw [sm_eq, sm_n_int ha, sm_n_int hb]; omega
theorem sm_ilt {a b : Int} (h1 : -2147483648 ≤ a) (h2 : a < 2147483648) (h3 : -2147483648 ≤ b) (h4 : b < 2147483648) : sm_i a < sm_i b ↔ a < b := by
  rw [sm_lt, sm_i_int h1 h2, sm_i_int h3 h4]
theorem sm_ile {a b : Int} (h1 : -2147483648 ≤ a) (h2 : a < 2147483648) (h3 : -2147483648 ≤ b) (h4 : b < 2147483648) : sm_i a ≤ sm_i b ↔ a ≤ b := by
  rw [sm_le, sm_i_int h1 h2, sm_i_int h3 h4]
theorem sm_ieq {a b : Int} (h1 : -2147483648 ≤ a) (h2 : a < 2147483648) (h3 : -2147483648 ≤ b) (h4 : b < 2147483648) : sm_i a = sm_i b ↔ a = b := by
  rw [sm_eq, sm_i_int h1 h2, sm_i_int h3 h4]
theorem sm_llt {a b : Int} (h1 : -9223372036854775808 ≤ a) (h2 : a < 9223372036854775808) (h3 : -9223372036854775808 ≤ b) (h4 : b < 9223372036854775808) : sm_l a < sm_l b ↔ a < b := by
  rw [sm_ltl, sm_l_int h1 h2, sm_l_int h3 h4]
theorem sm_lle {a b : Int} (h1 : -9223372036854775808 ≤ a) (h2 : a < 9223372036854775808) (h3 : -9223372036854775808 ≤ b) (h4 : b < 9223372036854775808) : sm_l a ≤ sm_l b ↔ a ≤ b := by
  rw [sm_lel, sm_l_int h1 h2, sm_l_int h3 h4]
theorem sm_leq {a b : Int} (h1 : -9223372036854775808 ≤ a) (h2 : a < 9223372036854775808) (h3 : -9223372036854775808 ≤ b) (h4 : b < 9223372036854775808) : sm_l a = sm_l b ↔ a = b := by
  rw [sm_eql, sm_l_int h1 h2, sm_l_int h3 h4]
theorem sm_ix {n : Nat} (h : n < 2147483648) : (sm_n n).toNatClampNeg = n := Int32.toNatClampNeg_ofNat_of_lt h
theorem sm_nn {n : Nat} (h : n < 2147483648) : ¬ sm_n n < 0 := by
  rw [sm_lt, sm_n_int h, Int32.toInt_zero]; omega
theorem sm_nn' {n : Nat} (h : n < 2147483648) : 0 ≤ sm_n n := by
  rw [sm_le, sm_n_int h, Int32.toInt_zero]; omega
theorem sm_get {x : Int32} (h : ¬ x < 0) : ∃ n : Nat, n < 2147483648 ∧ x = sm_n n := by
  refine ⟨x.toInt.toNat, ?_, ?_⟩
  · have := (sm_rng x).2; omega
  · rw [sm_lt, Int32.toInt_zero] at h
    have h2 := sm_rng x
    rw [sm_eq, sm_n_int (by omega)]; omega
theorem sm_n_div {a b : Nat} (ha : a < 2147483648) (hb : b < 2147483648) : sm_n a / sm_n b = sm_n (a / b) := by
  rw [sm_ni, sm_ni, sm_ni]
  show Int32.ofInt _ / Int32.ofInt _ = Int32.ofInt _
  rw [← Int32.ofInt_tdiv]
  · congr 1
  · show -2147483648 ≤ _; omega
  · show _ ≤ (2147483647 : Int); omega
  · show -2147483648 ≤ _; omega
  · show _ ≤ (2147483647 : Int); omega
theorem sm_n_rem {a b : Nat} (ha : a < 2147483648) (hb : b < 2147483648) : gk_rem (sm_n a) (sm_n b) = sm_n (a % b) := by
  unfold gk_rem
  rw [sm_n_div ha hb, sm_n_mul, sm_n_sub (Nat.div_mul_le_self a b)]
  congr 1
  have := Nat.div_add_mod a b
  rw [Nat.mul_comm] at this
  omega
theorem sm_bi {β : Type} (v : Int32) (m : gk_M) (k : Int32 → gk_M → Option β) : gk_bi (some (v, m)) k = k v m := rfl
theorem sm_bl {β : Type} (v : Int64) (m : gk_M) (k : Int64 → gk_M → Option β) : gk_bl (some (v, m)) k = k v m := rfl
theorem sm_bv {β : Type} (v : Unit) (m : gk_M) (k : gk_M → Option β) : gk_bv (some (v, m)) k = k m := rfl
theorem sm_let {α β : Type} (e : α) (k : α → Option β) : gk_let e k = k e := rfl
theorem sm_zz0 {β : Type} (c : Option β) : gk_zz 0 c = c := if_pos (Or.inl rfl)
theorem sm_zz1 {β : Type} (c : Option β) : gk_zz 1 c = c := if_pos (Or.inr rfl)
theorem sm_ai {β : Type} {mem : gk_M} {k L n : Nat} {c : Int32 → Option β} (h : n < L) (hL : L ≤ 2147483648) : gk_ai mem k L (sm_n n) c = c (mem.1 k n) := by
  unfold gk_ai
  rw [sm_ix (by omega), if_neg]
  rintro (h1 | h1)
  · exact sm_nn (by omega) h1
  · omega
theorem sm_al {β : Type} {mem : gk_M} {k L n : Nat} {c : Int64 → Option β} (h : n < L) (hL : L ≤ 2147483648) : gk_al mem k L (sm_n n) c = c (mem.2 k n) := by
  unfold gk_al
  rw [sm_ix (by omega), if_neg]
  rintro (h1 | h1)
  · exact sm_nn (by omega) h1
  · omega
theorem sm_ar {β : Type} {L n : Nat} {c : Nat → Option β} (h : n < L) (hL : L ≤ 2147483648) : gk_ar L (sm_n n) c = c n := by
  unfold gk_ar
  rw [sm_ix (by omega), if_neg]
  rintro (h1 | h1)
  · exact sm_nn (by omega) h1
  · omega
theorem sm_at {β : Type} {q : List Int32} {n : Nat} {c : Int32 → Option β} (h : n < q.length) (hL : q.length ≤ 2147483648) : gk_at q (sm_n n) c = c (q.getD n 0) := by
  unfold gk_at
  rw [sm_ix (by omega), if_neg]
  rintro (h1 | h1)
  · exact sm_nn (by omega) h1
  · omega
theorem sm_si {β : Type} {mem : gk_M} {k L n : Nat} {v : Int32} {c : gk_M → Option β} (h : n < L) (hL : L ≤ 2147483648) : gk_si mem k L (sm_n n) v c = c (gk_mi mem k n v) := by
  unfold gk_si
  rw [sm_ix (by omega), if_neg]
  rintro (h1 | h1)
  · exact sm_nn (by omega) h1
  · omega
theorem sm_sl {β : Type} {mem : gk_M} {k L n : Nat} {v : Int64} {c : gk_M → Option β} (h : n < L) (hL : L ≤ 2147483648) : gk_sl mem k L (sm_n n) v c = c (gk_ml mem k n v) := by
  unfold gk_sl
  rw [sm_ix (by omega), if_neg]
  rintro (h1 | h1)
  · exact sm_nn (by omega) h1
  · omega
/-! readings of a memory changed -/
theorem sm_mi (m : gk_M) (k j : Nat) (v : Int32) (a b : Nat) : (gk_mi m k j v).1 a b = if a = k ∧ b = j then v else m.1 a b := rfl
theorem sm_mi1 (m : gk_M) (k j : Nat) (v : Int32) : (gk_mi m k j v).1 k j = v := if_pos ⟨rfl, rfl⟩
theorem sm_mi0 {m : gk_M} {k j : Nat} {v : Int32} {a b : Nat} (h : ¬ (a = k ∧ b = j)) : (gk_mi m k j v).1 a b = m.1 a b := if_neg h
theorem sm_mik {m : gk_M} {k j : Nat} {v : Int32} {a : Nat} (h : a ≠ k) : (gk_mi m k j v).1 a = m.1 a := funext fun _ => if_neg (fun e => h e.1)
theorem sm_mil (m : gk_M) (k j : Nat) (v : Int32) : (gk_mi m k j v).2 = m.2 := rfl
theorem sm_ml (m : gk_M) (k j : Nat) (v : Int64) (a b : Nat) : (gk_ml m k j v).2 a b = if a = k ∧ b = j then v else m.2 a b := rfl
theorem sm_ml1 (m : gk_M) (k j : Nat) (v : Int64) : (gk_ml m k j v).2 k j = v := if_pos ⟨rfl, rfl⟩
theorem sm_ml0 {m : gk_M} {k j : Nat} {v : Int64} {a b : Nat} (h : ¬ (a = k ∧ b = j)) : (gk_ml m k j v).2 a b = m.2 a b := if_neg h
theorem sm_mli (m : gk_M) (k j : Nat) (v : Int64) : (gk_ml m k j v).1 = m.1 := rfl
