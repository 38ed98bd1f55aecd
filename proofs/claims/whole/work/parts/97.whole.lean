set_option maxRecDepth 100000 in
set_option maxHeartbeats 4000000 in
theorem whole_start {p : Program} {e : Env} {s : State} {m : MethodId} {below : List Frame} {meth : Method} {c : Code} (l : Launch) (hflags : l.flags = flags0) {b L : Nat} {xs : Nat → Int32} (hL : L ≤ 3072) (C0 : lw_At p s m meth c b L xs) : W p l e room_1 s m #[Value.ref b] below meth c s.heap [] 0 0 (lw_Z below #[Value.ref b] s) (entryFrame m ([Value.ref b] : List Value).toArray 4) := by
  obtain ⟨hx, hb, hr, hml, hown, hts, hX, hbl, hlocks, hgv⟩ := id C0
  have htW : ∀ w ∈ gk_W, w.before #[Value.ref b] s = true := fun w hw => hts w (gs_W w hw)
  obtain ⟨k0, i0, hn0⟩ := u_known (C := "NeverInLine$Law") (T := cl_T0) (N := 3) (n := 3) htW cl_in0 (htW _ (gk_t1 25 rfl rfl))
  obtain ⟨k1, i1, hn1⟩ := u_known (C := "NeverInLine$Reader") (T := cl_T1) (N := 6) (n := 6) htW cl_in1 (htW _ (gk_t1 42 rfl rfl))
  obtain ⟨k2, i2, hn2⟩ := u_known (C := "NeverInLine$Plain") (T := cl_T2) (N := 17) (n := 17) htW cl_in2 (htW _ (gk_t1 70 rfl rfl))
  obtain ⟨k3, i3, hn3⟩ := u_known (C := "NeverInLine$Planner") (T := cl_T3) (N := 5) (n := 5) htW cl_in3 (htW _ (gk_t1 137 rfl rfl))
  obtain ⟨k4, i4, hn4⟩ := u_known (C := "NeverInLine$Game") (T := cl_T4) (N := 6) (n := 6) htW cl_in4 (htW _ (gk_t1 160 rfl rfl))
  obtain ⟨k5, i5, hn5⟩ := u_known (C := "NeverInLine$Walker") (T := cl_T5) (N := 5) (n := 5) htW cl_in5 (htW _ (gk_t1 186 rfl rfl))
  obtain ⟨k6, i6, hn6⟩ := u_known (C := "NeverInLine$History") (T := cl_T6) (N := 7) (n := 7) htW cl_in6 (htW _ (gk_t1 209 rfl rfl))
  obtain ⟨k7, i7, hn7⟩ := u_known (C := "NeverInLine$Ways") (T := cl_T7) (N := 5) (n := 5) htW cl_in7 (htW _ (gk_t1 238 rfl rfl))
  obtain ⟨k8, i8, hn8⟩ := u_known (C := "NeverInLine$Shelf") (T := cl_T8) (N := 4) (n := 4) htW cl_in8 (htW _ (gk_t2 23 rfl rfl))
  obtain ⟨k9, i9, hn9⟩ := u_known (C := "NeverInLine") (T := cl_T9) (N := 9) (n := 9) htW cl_in9 (htW _ (gk_t1 17 rfl rfl))
  obtain ⟨k10, i10, hn10⟩ := u_known (C := "NeverInLineModel") (T := cl_T10) (N := 49) (n := 49) htW cl_in10 (htW _ (gk_t4 196 rfl rfl))
  obtain ⟨D, hKc⟩ : ∃ D : va_G, ∀ (k : Nat) (q : vw_C), gk_cl[k]? = some q → u_Kn s q.1 q.2.1 q.2.2 (D.1 k) (D.2 k) := by
    refine ⟨(fun k => ([k0, k1, k2, k3, k4, k5, k6, k7, k8, k9, k10] : List ClassId).getD k 0, fun k => ([i0, i1, i2, i3, i4, i5, i6, i7, i8, i9, i10] : List (Nat → Nat)).getD k (fun _ => 0)), ?_⟩
    intro k q hq
    match k, hq with
    | 0, hq => cases hq; exact hn0
    | 1, hq => cases hq; exact hn1
    | 2, hq => cases hq; exact hn2
    | 3, hq => cases hq; exact hn3
    | 4, hq => cases hq; exact hn4
    | 5, hq => cases hq; exact hn5
    | 6, hq => cases hq; exact hn6
    | 7, hq => cases hq; exact hn7
    | 8, hq => cases hq; exact hn8
    | 9, hq => cases hq; exact hn9
    | 10, hq => cases hq; exact hn10
    | k + 11, hq => simp [gk_cl] at hq
  obtain ⟨tA, zA, hTA⟩ := gs_tab0 hgv hts
  obtain ⟨tO, zO, hTO⟩ := gs_tab1 hgv hts
  have hN : gi_N s := by
    refine ⟨fun w hw => ?_, va_AO.of (A := #[Value.ref b]) (hts _ (List.mem_append_right _ (List.mem_append_right _ (List.mem_append_left _ (List.mem_of_getElem? (i := 22) rfl)))))⟩
    simp only [gi_nest, List.mem_cons, List.not_mem_nil, or_false] at hw
    rcases hw with rfl | rfl | rfl | rfl
    · exact va_Nw.of rfl (hts _ (List.mem_append_right _ (List.mem_append_left _ (List.mem_of_getElem? (i := 26) rfl))))
    · exact va_Nw.of rfl (hts _ (List.mem_append_right _ (List.mem_append_left _ (List.mem_of_getElem? (i := 43) rfl))))
    · exact va_Nw.of rfl (hts _ (List.mem_append_right _ (List.mem_append_left _ (List.mem_of_getElem? (i := 239) rfl))))
    · exact va_Nw.of rfl (hts _ (List.mem_append_right _ (List.mem_append_right _ (List.mem_append_left _ (List.mem_of_getElem? (i := 24) rfl)))))
  have hNk : ∀ w ∈ gk_nest, va_Nw w s := by
    intro w hw
    simp only [gk_nest, List.mem_cons, List.not_mem_nil, or_false] at hw
    rcases hw with rfl | rfl
    · exact va_Nw.of rfl (hts _ (List.mem_append_right _ (List.mem_append_right _ (List.mem_append_left _ (List.mem_of_getElem? (i := 81) rfl)))))
    · exact va_Nw.of rfl (hts _ (List.mem_append_right _ (List.mem_append_right _ (List.mem_append_left _ (List.mem_of_getElem? (i := 84) rfl)))))
  have K : gi_F (l, (D, id, fun _ => 0), p, e, room_1, s, m, #[Value.ref b], below, meth, c, 0, 0, fun q : Nat => s.heap.size ≤ q) lh_y 1000 80 9083 := ⟨hx, hb, hml, hown, htW, fun q hq => hq, ⟨Nat.le_of_ble_eq_true rfl, Nat.le_of_ble_eq_true rfl, Nat.le_of_ble_eq_true rfl, Nat.le_of_ble_eq_true rfl⟩, hlocks, hr, hN, fun hi => absurd hi (by decide)⟩
  have hl := lv_entry ([.ref b]) (n := 4) (Nat.le_of_ble_eq_true rfl)
  rw [lg_entry_eq]
  generalize (lg_sl ([.ref b]) ++ List.replicate (4 - (lg_sl ([.ref b])).length) Slot.unset).toArray = ls at hl ⊢
  have hl : lv_has ls 4 [(0, .ref b)] := hl
  suffices hG : gi_G (l, (D, id, fun _ => 0), p, e, room_1, s, m, #[Value.ref b], below, meth, c, 0, 0, fun q : Nat => s.heap.size ≤ q) D lh_y (lw_Z below #[Value.ref b] s) [] [] 0 0 [(0, .ref b)] [] 0 from hG s.heap [] ls ⟨hKc, fun k q h => by simp at h⟩ (fun k q h => by simp at h) ⟨fun i j p q h => by simp at h, fun k q h => by simp at h⟩ va_S.rf hl
  refine gi_new (ci := 9) (fs := [.null, .null, .null, .null, .null, .null, .null, .null, .null]) (pc := 0) K d_law_0 cl_ok9 cl_y9 (by decide +kernel) (gk_t1 16 rfl rfl) (gk_t1 17 rfl rfl) li_X (by decide +kernel) (Nat.le_of_ble_eq_true rfl) (Nat.le_of_ble_eq_true rfl) (fun qx => ?_)
  refine gi_dup (pc := 3) K d_law_3 rfl ?_
  refine gi_callI (As := []) (n := 0) (pc := 4) K d_law_4 (gk_t1 18 rfl rfl) (gk_t1 19 rfl rfl) mc_X_init rfl rfl rfl (c_X_init _ D qx) (by decide) rfl (Nat.le_of_ble_eq_true rfl) (Nat.le_of_ble_eq_true rfl) (Nat.le_of_ble_eq_true rfl) (fun w2 t2 hp => ?_)
  obtain ⟨ad1, dA1, rfl, rfl, rfl⟩ := hp
  refine gi_re (ws2 := [((ad1 0), .inr (9, [.ref (ad1 1), .ref (ad1 4), .ref (ad1 7), .ref (ad1 21), .ref (ad1 25), .ref (ad1 28), .ref (ad1 32), .ref (ad1 37), .ref (ad1 40)])), ((ad1 1), .inr (0, [.ref (ad1 2), .ref (ad1 3), .int 0])), ((ad1 2), .inl ((dA1 2), 256, .inl (fun _ => 0))), ((ad1 3), .inl ((dA1 3), 256, .inl (fun _ => 0))), ((ad1 4), .inr (1, [.ref (ad1 5), .int 0, .int 0, .ref (ad1 6), .int 0, .int (-1)])), ((ad1 5), .inl ((dA1 5), 256, .inl (fun _ => 0))), ((ad1 6), .inl ((dA1 6), 120, .inl (fun _ => 0))), ((ad1 7), .inr (2, [.ref (ad1 8), .ref (ad1 9), .ref (ad1 10), .ref (ad1 11), .ref (ad1 12), .int 0, .ref (ad1 13), .int 0, .int 0, .ref (ad1 14), .ref (ad1 15), .ref (ad1 16), .ref (ad1 17), .ref (ad1 18), .ref (ad1 1), .ref (ad1 19), .ref (ad1 20)])), ((ad1 8), .inl ((dA1 8), 12, .inl (fun _ => 0))), ((ad1 9), .inl ((dA1 9), 12, .inl (fun _ => 0))), ((ad1 10), .inl ((dA1 10), 12, .inl (fun _ => 0))), ((ad1 11), .inl ((dA1 11), 12, .inl (fun _ => 0))), ((ad1 12), .inl ((dA1 12), 12, .inl (fun _ => 0))), ((ad1 13), .inl ((dA1 13), 4, .inl (fun _ => 0))), ((ad1 14), .inl ((dA1 14), 24, .inl (fun _ => 0))), ((ad1 15), .inl ((dA1 15), 8, .inl (fun _ => 0))), ((ad1 16), .inl ((dA1 16), 8, .inl (fun _ => 0))), ((ad1 17), .inl ((dA1 17), 8, .inl (fun _ => 0))), ((ad1 18), .inl ((dA1 18), 8, .inl (fun _ => 0))), ((ad1 19), .inl ((dA1 19), 6, .inl (fun _ => 0))), ((ad1 20), .inl ((dA1 20), 720, .inl (fun _ => 0))), ((ad1 21), .inr (3, [.ref (ad1 7), .ref (ad1 22), .ref (ad1 23), .ref (ad1 24), .int 0])), ((ad1 22), .inl ((dA1 22), 10, .inl (fun _ => 0))), ((ad1 23), .inl ((dA1 23), 900, .inl (fun _ => 0))), ((ad1 24), .inl ((dA1 24), 900, .inl (fun _ => 0))), ((ad1 25), .inr (4, [.ref (ad1 7), .ref (ad1 26), .ref (ad1 27), .int 0, .int 1, .int 0])), ((ad1 26), .inl ((dA1 26), 9, .inl (fun _ => 0))), ((ad1 27), .inl ((dA1 27), 512, .inl (fun _ => 0))), ((ad1 28), .inr (5, [.int 0, .ref (ad1 7), .ref (ad1 29), .ref (ad1 30), .ref (ad1 31)])), ((ad1 29), .inl ((dA1 29), 10, .inl (fun _ => 0))), ((ad1 30), .inl ((dA1 30), 10, .inl (fun _ => 0))), ((ad1 31), .inl ((dA1 31), 10, .inl (fun _ => 0))), ((ad1 32), .inr (6, [.int 0, .int 0, .ref (ad1 7), .ref (ad1 33), .ref (ad1 34), .ref (ad1 35), .ref (ad1 36)])), ((ad1 33), .inl ((dA1 33), 40, .inl (fun _ => 0))), ((ad1 34), .inl ((dA1 34), 40, .inl (fun _ => 0))), ((ad1 35), .inl ((dA1 35), 40, .inl (fun _ => 0))), ((ad1 36), .inl ((dA1 36), 40, .inl (fun _ => 0))), ((ad1 37), .inr (7, [.int 0, .int 0, .ref (ad1 38), .ref (ad1 39), .int 0])), ((ad1 38), .inl ((dA1 38), 50, .inl (fun _ => 0))), ((ad1 39), .inl ((dA1 39), 24, .inl (fun _ => 0))), ((ad1 40), .inl ((dA1 40), 6, .inr (.inr (.inr (.inr (va_up (va_up (va_up (va_up (va_up (va_up (fun _ => none) 0 (some (ad1 41))) 1 (some (ad1 42))) 2 (some (ad1 43))) 3 (some (ad1 44))) 4 (some (ad1 45))) 5 (some (ad1 46)))))))), ((ad1 41), .inr (8, [.ref (ad1 47), .int (-1), .int (-1), .int 0])), ((ad1 47), .inl ((dA1 47), 60, .inr (.inl (fun _ => 0)))), ((ad1 42), .inr (8, [.ref (ad1 48), .int (-1), .int (-1), .int 0])), ((ad1 48), .inl ((dA1 48), 60, .inr (.inl (fun _ => 0)))), ((ad1 43), .inr (8, [.ref (ad1 49), .int (-1), .int (-1), .int 0])), ((ad1 49), .inl ((dA1 49), 60, .inr (.inl (fun _ => 0)))), ((ad1 44), .inr (8, [.ref (ad1 50), .int (-1), .int (-1), .int 0])), ((ad1 50), .inl ((dA1 50), 60, .inr (.inl (fun _ => 0)))), ((ad1 45), .inr (8, [.ref (ad1 51), .int (-1), .int (-1), .int 0])), ((ad1 51), .inl ((dA1 51), 60, .inr (.inl (fun _ => 0)))), ((ad1 46), .inr (8, [.ref (ad1 52), .int (-1), .int (-1), .int 0])), ((ad1 52), .inl ((dA1 52), 60, .inr (.inl (fun _ => 0))))]) (tys2 := [((dA1 2), .int), ((dA1 3), .int), ((dA1 5), .int), ((dA1 6), .int), ((dA1 8), .int), ((dA1 9), .int), ((dA1 10), .int), ((dA1 11), .int), ((dA1 12), .int), ((dA1 13), .int), ((dA1 14), .int), ((dA1 15), .int), ((dA1 16), .int), ((dA1 17), .int), ((dA1 18), .int), ((dA1 19), .int), ((dA1 20), .int), ((dA1 22), .int), ((dA1 23), .int), ((dA1 24), .int), ((dA1 26), .int), ((dA1 27), .boolean), ((dA1 29), .int), ((dA1 30), .int), ((dA1 31), .int), ((dA1 33), .int), ((dA1 34), .int), ((dA1 35), .int), ((dA1 36), .int), ((dA1 38), .int), ((dA1 39), .int), ((dA1 40), .object "NeverInLine$Shelf"), ((dA1 47), .long), ((dA1 48), .long), ((dA1 49), .long), ((dA1 50), .long), ((dA1 51), .long), ((dA1 52), .long)]) rfl rfl ?_
  refine gi_cs (c2 := 53) (s2 := 4782) rfl rfl ?_
  refine gi_astore_n (lv2 := [(1, .ref (ad1 0)), (0, .ref b)]) (pc := 7) K d_law_7 rfl (by decide) rfl ?_
  refine gi_new (ci := 10) (fs := [.null, .null, .null, .null, .int 0, .int 0, .int 0, .null, .null, .null, .int 0, .null, .null, .int 0, .null, .null, .int 0, .null, .int 0, .int 0, .int 0, .int 0, .int 0, .int 0, .null, .long 0, .long 0, .null, .null, .null, .null, .null, .int 0, .int 0, .int 0, .int 0, .int 0, .null, .null, .int 0, .null, .null, .int 0, .int 0, .int 0, .null, .null, .null, .null]) (pc := 8) K d_law_8 cl_ok10 cl_y10 (by decide +kernel) (gk_t4 195 rfl rfl) (gk_t4 196 rfl rfl) li_M (by decide +kernel) (Nat.le_of_ble_eq_true rfl) (Nat.le_of_ble_eq_true rfl) (fun qm => ?_)
  refine gi_dup (pc := 11) K d_law_11 rfl ?_
  refine gi_callI (As := []) (n := 0) (pc := 12) K d_law_12 (gk_t4 197 rfl rfl) (gk_t4 198 rfl rfl) mc_M_init rfl rfl rfl (c_M_init _ D qm) (by decide) rfl (Nat.le_of_ble_eq_true rfl) (Nat.le_of_ble_eq_true rfl) (Nat.le_of_ble_eq_true rfl) (fun w2 t2 hp => ?_)
  obtain ⟨ad2, dA2, rfl, rfl, rfl⟩ := hp
  refine gi_re (ws2 := [((ad1 0), .inr (9, [.ref (ad1 1), .ref (ad1 4), .ref (ad1 7), .ref (ad1 21), .ref (ad1 25), .ref (ad1 28), .ref (ad1 32), .ref (ad1 37), .ref (ad1 40)])), ((ad1 1), .inr (0, [.ref (ad1 2), .ref (ad1 3), .int 0])), ((ad1 2), .inl ((dA1 2), 256, .inl (fun _ => 0))), ((ad1 3), .inl ((dA1 3), 256, .inl (fun _ => 0))), ((ad1 4), .inr (1, [.ref (ad1 5), .int 0, .int 0, .ref (ad1 6), .int 0, .int (-1)])), ((ad1 5), .inl ((dA1 5), 256, .inl (fun _ => 0))), ((ad1 6), .inl ((dA1 6), 120, .inl (fun _ => 0))), ((ad1 7), .inr (2, [.ref (ad1 8), .ref (ad1 9), .ref (ad1 10), .ref (ad1 11), .ref (ad1 12), .int 0, .ref (ad1 13), .int 0, .int 0, .ref (ad1 14), .ref (ad1 15), .ref (ad1 16), .ref (ad1 17), .ref (ad1 18), .ref (ad1 1), .ref (ad1 19), .ref (ad1 20)])), ((ad1 8), .inl ((dA1 8), 12, .inl (fun _ => 0))), ((ad1 9), .inl ((dA1 9), 12, .inl (fun _ => 0))), ((ad1 10), .inl ((dA1 10), 12, .inl (fun _ => 0))), ((ad1 11), .inl ((dA1 11), 12, .inl (fun _ => 0))), ((ad1 12), .inl ((dA1 12), 12, .inl (fun _ => 0))), ((ad1 13), .inl ((dA1 13), 4, .inl (fun _ => 0))), ((ad1 14), .inl ((dA1 14), 24, .inl (fun _ => 0))), ((ad1 15), .inl ((dA1 15), 8, .inl (fun _ => 0))), ((ad1 16), .inl ((dA1 16), 8, .inl (fun _ => 0))), ((ad1 17), .inl ((dA1 17), 8, .inl (fun _ => 0))), ((ad1 18), .inl ((dA1 18), 8, .inl (fun _ => 0))), ((ad1 19), .inl ((dA1 19), 6, .inl (fun _ => 0))), ((ad1 20), .inl ((dA1 20), 720, .inl (fun _ => 0))), ((ad1 21), .inr (3, [.ref (ad1 7), .ref (ad1 22), .ref (ad1 23), .ref (ad1 24), .int 0])), ((ad1 22), .inl ((dA1 22), 10, .inl (fun _ => 0))), ((ad1 23), .inl ((dA1 23), 900, .inl (fun _ => 0))), ((ad1 24), .inl ((dA1 24), 900, .inl (fun _ => 0))), ((ad1 25), .inr (4, [.ref (ad1 7), .ref (ad1 26), .ref (ad1 27), .int 0, .int 1, .int 0])), ((ad1 26), .inl ((dA1 26), 9, .inl (fun _ => 0))), ((ad1 27), .inl ((dA1 27), 512, .inl (fun _ => 0))), ((ad1 28), .inr (5, [.int 0, .ref (ad1 7), .ref (ad1 29), .ref (ad1 30), .ref (ad1 31)])), ((ad1 29), .inl ((dA1 29), 10, .inl (fun _ => 0))), ((ad1 30), .inl ((dA1 30), 10, .inl (fun _ => 0))), ((ad1 31), .inl ((dA1 31), 10, .inl (fun _ => 0))), ((ad1 32), .inr (6, [.int 0, .int 0, .ref (ad1 7), .ref (ad1 33), .ref (ad1 34), .ref (ad1 35), .ref (ad1 36)])), ((ad1 33), .inl ((dA1 33), 40, .inl (fun _ => 0))), ((ad1 34), .inl ((dA1 34), 40, .inl (fun _ => 0))), ((ad1 35), .inl ((dA1 35), 40, .inl (fun _ => 0))), ((ad1 36), .inl ((dA1 36), 40, .inl (fun _ => 0))), ((ad1 37), .inr (7, [.int 0, .int 0, .ref (ad1 38), .ref (ad1 39), .int 0])), ((ad1 38), .inl ((dA1 38), 50, .inl (fun _ => 0))), ((ad1 39), .inl ((dA1 39), 24, .inl (fun _ => 0))), ((ad1 40), .inl ((dA1 40), 6, .inr (.inr (.inr (.inr (va_up (va_up (va_up (va_up (va_up (va_up (fun _ => none) 0 (some (ad1 41))) 1 (some (ad1 42))) 2 (some (ad1 43))) 3 (some (ad1 44))) 4 (some (ad1 45))) 5 (some (ad1 46)))))))), ((ad1 41), .inr (8, [.ref (ad1 47), .int (-1), .int (-1), .int 0])), ((ad1 47), .inl ((dA1 47), 60, .inr (.inl (fun _ => 0)))), ((ad1 42), .inr (8, [.ref (ad1 48), .int (-1), .int (-1), .int 0])), ((ad1 48), .inl ((dA1 48), 60, .inr (.inl (fun _ => 0)))), ((ad1 43), .inr (8, [.ref (ad1 49), .int (-1), .int (-1), .int 0])), ((ad1 49), .inl ((dA1 49), 60, .inr (.inl (fun _ => 0)))), ((ad1 44), .inr (8, [.ref (ad1 50), .int (-1), .int (-1), .int 0])), ((ad1 50), .inl ((dA1 50), 60, .inr (.inl (fun _ => 0)))), ((ad1 45), .inr (8, [.ref (ad1 51), .int (-1), .int (-1), .int 0])), ((ad1 51), .inl ((dA1 51), 60, .inr (.inl (fun _ => 0)))), ((ad1 46), .inr (8, [.ref (ad1 52), .int (-1), .int (-1), .int 0])), ((ad1 52), .inl ((dA1 52), 60, .inr (.inl (fun _ => 0)))), ((ad2 0), .inr (10, [.ref (ad2 1), .ref (ad2 2), .ref (ad2 3), .ref (ad2 4), .int 0, .int 0, .int 0, .ref (ad2 5), .ref (ad2 6), .ref (ad2 7), .int 0, .ref (ad2 8), .ref (ad2 9), .int 0, .ref (ad2 10), .ref (ad2 11), .int 0, .ref (ad2 12), .int (-1), .int 0, .int 0, .int 0, .int 0, .int 0, .ref (ad2 13), .long 0, .long 0, .ref (ad2 14), .ref (ad2 15), .ref (ad2 16), .ref (ad2 17), .ref (ad2 18), .int 0, .int 0, .int 0, .int 0, .int 0, .ref (ad2 19), .ref (ad2 20), .int 0, .ref (ad2 21), .ref (ad2 22), .int 0, .int 0, .int 0, .ref (ad2 23), .ref (ad2 24), .ref (ad2 25), .ref (ad2 26)])), ((ad2 1), .inl ((dA2 1), 30, .inl (fun _ => 0))), ((ad2 2), .inl ((dA2 2), 40, .inl (fun _ => 0))), ((ad2 3), .inl ((dA2 3), 40, .inl (fun _ => 0))), ((ad2 4), .inl ((dA2 4), 40, .inl (fun _ => 0))), ((ad2 5), .inl ((dA2 5), 20, .inl (fun _ => 0))), ((ad2 6), .inl ((dA2 6), 20, .inl (fun _ => 0))), ((ad2 7), .inl ((dA2 7), 20, .inl (fun _ => 0))), ((ad2 8), .inl ((dA2 8), 4, .inl (fun _ => 0))), ((ad2 9), .inl ((dA2 9), 28, .inl (fun _ => 0))), ((ad2 10), .inl ((dA2 10), 16, .inl (fun _ => 0))), ((ad2 11), .inl ((dA2 11), 120, .inl (fun _ => 0))), ((ad2 12), .inl ((dA2 12), 120, .inl (fun _ => 0))), ((ad2 13), .inl ((dA2 13), 6, .inl (fun _ => 0))), ((ad2 14), .inl ((dA2 14), 10, .inl (fun _ => 0))), ((ad2 15), .inl ((dA2 15), 900, .inl (fun _ => 0))), ((ad2 16), .inl ((dA2 16), 900, .inl (fun _ => 0))), ((ad2 17), .inl ((dA2 17), 900, .inl (fun _ => 0))), ((ad2 18), .inl ((dA2 18), 512, .inl (fun _ => 0))), ((ad2 19), .inl ((dA2 19), 10, .inl (fun _ => 0))), ((ad2 20), .inl ((dA2 20), 10, .inl (fun _ => 0))), ((ad2 21), .inl ((dA2 21), 50, .inl (fun _ => 0))), ((ad2 22), .inl ((dA2 22), 24, .inl (fun _ => 0))), ((ad2 23), .inl ((dA2 23), 6, .inl (upd (upd (upd (upd (upd (upd (fun _ => 0) 0 (-1)) 1 (-1)) 2 (-1)) 3 (-1)) 4 (-1)) 5 (-1)))), ((ad2 24), .inl ((dA2 24), 6, .inl (fun _ => 0))), ((ad2 25), .inl ((dA2 25), 360, .inr (.inl (fun _ => 0)))), ((ad2 26), .inl ((dA2 26), 60, .inr (.inl (fun _ => 0))))]) (tys2 := [((dA1 2), .int), ((dA1 3), .int), ((dA1 5), .int), ((dA1 6), .int), ((dA1 8), .int), ((dA1 9), .int), ((dA1 10), .int), ((dA1 11), .int), ((dA1 12), .int), ((dA1 13), .int), ((dA1 14), .int), ((dA1 15), .int), ((dA1 16), .int), ((dA1 17), .int), ((dA1 18), .int), ((dA1 19), .int), ((dA1 20), .int), ((dA1 22), .int), ((dA1 23), .int), ((dA1 24), .int), ((dA1 26), .int), ((dA1 27), .boolean), ((dA1 29), .int), ((dA1 30), .int), ((dA1 31), .int), ((dA1 33), .int), ((dA1 34), .int), ((dA1 35), .int), ((dA1 36), .int), ((dA1 38), .int), ((dA1 39), .int), ((dA1 40), .object "NeverInLine$Shelf"), ((dA1 47), .long), ((dA1 48), .long), ((dA1 49), .long), ((dA1 50), .long), ((dA1 51), .long), ((dA1 52), .long), ((dA2 1), .int), ((dA2 2), .int), ((dA2 3), .int), ((dA2 4), .int), ((dA2 5), .int), ((dA2 6), .int), ((dA2 7), .int), ((dA2 8), .int), ((dA2 9), .int), ((dA2 10), .int), ((dA2 11), .int), ((dA2 12), .int), ((dA2 13), .int), ((dA2 14), .int), ((dA2 15), .boolean), ((dA2 16), .int), ((dA2 17), .int), ((dA2 18), .int), ((dA2 19), .int), ((dA2 20), .int), ((dA2 21), .int), ((dA2 22), .int), ((dA2 23), .int), ((dA2 24), .int), ((dA2 25), .long), ((dA2 26), .long)]) rfl rfl ?_
  refine gi_cs (c2 := 80) (s2 := 9083) rfl rfl ?_
  refine gi_astore_n (lv2 := [(2, .ref (ad2 0)), (1, .ref (ad1 0)), (0, .ref b)]) (pc := 15) K d_law_15 rfl (by decide) rfl ?_
  refine gi_iconst (pc := 16) K d_law_16 kc_0 ?_
  refine gi_istore_n (lv2 := [(3, .int 0), (2, .ref (ad2 0)), (1, .ref (ad1 0)), (0, .ref b)]) (pc := 17) K d_law_17 rfl (by decide) rfl ?_
  intro H locs ls hK hP hD hS hl
  exact gs_fin l hL C0 D ad1 ad2 dA1 dA2 zA hTA zO hTO hNk hK hP hD hS hl
-- ===== YOUR PART ENDS =====
set_option maxHeartbeats 4000000 in
theorem lw_walk (l : Launch) (hflags : l.flags = flags0) (b : Addr) (xs : List Int32) : MetFree l x (headSpec (Jvm.Cond.code x code maxLocals ret :: tables_1) room_1) (lw_P b xs) (fun _ _ _ _ _ => True) lw_Q := by
  refine MetFree.of_bodyS (code := code) (maxLocals := maxLocals) (ret := ret) (by decide) ?_ ?_
  · intro args s m h hn
    obtain ⟨meth, c, h1, h2, h3, h4, h5, h6, -, -⟩ := Cond.code_spec hn (atoms_spec (ws := Jvm.Cond.code x code maxLocals ret :: tables_1) h _ List.mem_cons_self)
    exact ⟨meth, c, h1, h2, h3, h4, h5, h6⟩
  · intro p e s m args below meth c s₁ B hml0 hP _
    obtain ⟨rfl, hx, hbd, hgv⟩ := hP
    obtain ⟨scr, harrAt, hlist, hof, hsmall⟩ := hx
    obtain ⟨hcb, hkn, -, -⟩ := State.arrayAt?_spec harrAt
    have hown : s.vm.findClass R_law = some m.cls := findClass_of_methodNamed B.named
    have hts0 : ∀ c ∈ (Jvm.Cond.code x code maxLocals ret :: tables_1), c.before #[Value.ref b] s = true := atoms_spec (ws := Jvm.Cond.code x code maxLocals ret :: tables_1) B.pre
    have hts : ∀ w ∈ lw_tbl, w.before #[Value.ref b] s = true := k2_hts_sels lw_privs (fun w hw => hts0 w (List.mem_cons_of_mem _ hw)) lw_privs_ok
    have hml : c.maxLocals = 4 := B.maxLocals_eq (hts0 _ List.mem_cons_self)
    have X₀ : Stand p l e room_1 s m #[Value.ref b] below meth c s₁ [] 0 0 := Stand.of_body B
    have hh0 : s₁.heap = s.heap := by rw [B.state]; rfl
    have hsz : scr.slots.size = xs.length := by rw [← Array.length_toList, hlist, List.length_map]
    have hval : ∀ j : Nat, j < xs.length → scr.slots[j]? = some (.int (xs.getD j 0)) := fun j hj => by
      rw [← Array.getElem?_toList, hlist]
      simp [hj]
    have hbl : b < s.heap.size := (Array.getElem?_eq_some_iff.mp hcb).1
    have hX : va_X b xs.length (fun j => xs.getD j 0) s s.heap := ⟨scr, hcb, hof, hkn, hsz, hval⟩
    have K : W p l e room_1 s m #[Value.ref b] below meth c s₁.heap [] 0 0 (lw_Z below #[Value.ref b] s) (entryFrame m ([Value.ref b] : List Value).toArray 4) := by
      rw [hh0]
      exact whole_start l hflags hbd ⟨B.exec, B.bytes, B.returns, hml, hown, hts, hX, hbl, B.notSynchronized, hgv⟩
    obtain ⟨t, a1, o, b1, b2, b3⟩ := K s₁ rfl X₀
    exact ⟨t, o, a1, b1, b2, b3⟩
theorem lw_pre_spec {args : Array Value} {s : State} (h : (Jvm.Cond.and given_1 narrow_1).before args s = true) (hr : rest_1_c.before args s = true) : ∃ (b : Addr) (xs : List Int32), lw_P b xs args s := by
  have hs := flat_of_before _ h
  have hq := flat_of_before _ hr
  have hc : (Cond.count 1).before args s = true := hs _ (by decide +kernel)
  have harr : (Cond.arrayOf (.arg 0) .int).before args s = true := hs _ (by decide +kernel)
  have hle : (Cond.le (.length (.arg 0)) (.int 3072)).before args s = true := hs _ (by decide +kernel)
  have hlen : (Cond.isInt (.length (.arg 0))).before args s = true := hq _ (by decide +kernel)
  have hall : (Cond.all (.arg 0) (.isInt (.elem (.arg 0) (.index 0)))).before args s = true := hq _ (by decide +kernel)
  obtain ⟨b, xs, hb, hx⟩ := State.ints_of_pre rfl harr hlen hall
  have hsm : xs.length < 2 ^ 31 := hx.choose_spec.2.2.2
  have hev : (Term.length (.arg 0)).eval args s none [] s = some (.int xs.length.toInt32) := hx.length_eval hb
  have hv := Cond.le_ints hev (show (Term.int 3072).eval args s none [] s = some (.int 3072) from rfl)
  have hd : xs.length.toInt32 ≤ 3072 := by
    simpa [Cond.before, Cond.holds, hv] using hle
  have hN : xs.length ≤ 3072 := (Int32.ofNat_le_ofNat hsm (by decide)).mp (show Int32.ofNat xs.length ≤ Int32.ofNat 3072 from hd)
  exact ⟨b, xs, Cond.one_arg hc (show args[0]? = some (.ref b) from hb), hx, hN, h⟩
theorem lw_comes (l : Launch) (hflags : l.flags = flags0) : Comes l x (Jvm.Cond.code x code maxLocals ret :: tables_1) room_1 (fun tb e args s => Calls_1 tb e args s ∧ rest_1 tb e args s ∧ Pre_1 tb e args s)
    (fun _ _ args s o t => lw_Q args s o t) := by
  intro p e ha hc hk s m args below hf hfit hheap happ hpre
  obtain ⟨b, xs, hP⟩ := lw_pre_spec hpre.2.2 hpre.2.1
  obtain ⟨k, o, h1, h2, h3, hQ⟩ := lw_walk l hflags b xs p e ha hc hk s m args below hf ((Spec.applies_iff_loose hf).mp happ).1 hP trivial
  exact ⟨k, o, h1, h2, h3, hQ⟩
theorem lw_frame {s t : State} {o : Outcome} {args : Array Value} (h : Framed s o t [] 600000 7302250) :
    Framed s o t (fieldLocs frame_1_writes args s ++ arrayLocs frame_1_arrays args s ++ staticLocs frame_1_statics s) 600000 7302250 := h
theorem lw_limb (L : Cond) (hL : ∀ (args : Array Value) (s t : State), L.after args s (.returned (some (.int 1))) t = true) :
    ArmFor flags0 classFile x code maxLocals ret World_1 tables_1 room_1 Calls_1 rest_1 Pre_1
      (fun tb e a s o t => postC L tb e a s o t ∧ Framed s o t (fieldLocs frame_1_writes a s ++ arrayLocs frame_1_arrays a s ++ staticLocs frame_1_statics s) 600000 7302250) := by
  intro l hflags _ _ p e ha hc hk s m args below hf hfit hheap happ hpre
  obtain ⟨k, o, h1, h2, h3, rfl, hF⟩ := lw_comes l hflags p e ha hc hk s m args below hf hfit hheap happ hpre
  exact ⟨k, _, h1, h2, h3, hL args s _, lw_frame hF⟩
theorem i_vc : Claimed_1_1 ∧ Claimed_1_2 := ⟨lw_limb limb_1_1 (fun args s t => by simp [limb_1_1, Cond.after, Cond.holds, Cond.value]), lw_limb limb_1_2 (fun args s t => Cond.after_iff.mpr (by
  first | (rw [show limb_1_2 = Cond.eq .result (.int 1) from rfl, Cond.eq_ints (x := 1) (y := 1) rfl rfl]; simp; done) | (simp [limb_1_2, Cond.value, Term.eval]; done)))⟩

