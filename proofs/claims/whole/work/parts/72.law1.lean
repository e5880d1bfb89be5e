set_option maxHeartbeats 8000000 in
set_option maxRecDepth 100000 in
theorem lawc_type {p : Program} {l : Launch} {e : Env} {s : State} {m : MethodId} {below : List Frame} {meth : Method} {c : Code} {D : va_G} {G : Nat → ClassId} {x0 y0 : Nat} {a b pq kq sq : Nat → Nat} {b0 L : Nat} {xs : Nat → Int32} (C0 : lw_At p s m meth c b0 L xs) (R : ((Nat → Int32) → (Nat → Nat → Int32) → (Nat → Nat → Int64) → Prop)) (hSt_type : Step_type R) (x3 : Int32) (hin : ∀ k : Nat, k ≤ 8 → vp_in (x3 + Int32.ofNat k) L) (v : Nat → Int32) (f : Nat → Nat → Int32) (g : Nat → Nat → Int64) (hR : R v f g) (H : Heap) (locs : List Loc) (ls : Array Slot) (hK : va_K D vwCl (tyL G) s) (hP : va_P D vwCl (lawW G x0 y0 a b pq kq sq v f g) H) (hD : va_D (fun q : Nat => s.heap.size ≤ q) (lawW G x0 y0 a b pq kq sq v f g)) (hS : va_S (fun q : Nat => s.heap.size ≤ q) s.heap H locs) (hl : lv_has ls 4 [(0, .ref b0), (1, .ref x0), (2, .ref y0), (3, .int x3)]) (cont : ∀ (v : Nat → Int32) (f : Nat → Nat → Int32) (g : Nat → Nat → Int64) (H : Heap) (locs : List Loc) (ls : Array Slot), R v f g → va_P D vwCl (lawW G x0 y0 a b pq kq sq v f g) H → va_D (fun q : Nat => s.heap.size ≤ q) (lawW G x0 y0 a b pq kq sq v f g) → va_S (fun q : Nat => s.heap.size ≤ q) s.heap H locs → lv_has ls 4 [(0, .ref b0), (1, .ref x0), (2, .ref y0), (3, .int x3)] → W p l e room_1 s m #[Value.ref b0] below meth c H locs 66 2290 (lw_Z below #[Value.ref b0] s) (F0 m 1365 ls [])) : W p l e room_1 s m #[Value.ref b0] below meth c H locs 66 2290 (lw_Z below #[Value.ref b0] s) (F0 m 372 ls []) := by
  obtain ⟨hx, hb, hr, hml, hown, hts0, hX, hbl, hlocks, hgv⟩ := id C0
  have hb : c.code = cL_law := hb
  have hown : s.vm.findClass RL = some m.cls := hown
  have hts : ∀ w ∈ wsL_law, w.before #[Value.ref b0] s = true := fun w h => hts0 w (wsL_law_in w h)
  have hA : ∀ q : Nat, s.heap.size ≤ q → (fun q : Nat => s.heap.size ≤ q) q := fun _ h => h
  have hbA : ¬ (fun q : Nat => s.heap.size ≤ q) b0 := Nat.not_le.mpr hbl
  refine lv_aload_n hx hb dL_law_372 rfl (lv_at hl 1 rfl) ?_
  refine lv_aload_n hx hb dL_law_373 rfl (lv_at hl 0 rfl) ?_
  refine lv_iload_n hx hb dL_law_374 rfl (lv_at hl 3 rfl) ?_
  refine lv_iconst (v := 1) hx hb dL_law_375 (by decide) ?_
  refine lv_iadd hx hb dL_law_376 ?_
  refine va_sld hx hb hX hbl hbA hS (hin 1 (by decide)) dL_law_377 ?_
  have hw := hSt_type v f g (xs (x3 + (1 : Int32)).toNatClampNeg) hR
  have hc := c_X7_type l D G H.size x0 (a 0) (a 14) (a 28) (a 33) (a 38) (a 40) (a 44) (a 29) (a 30) (a 31) (a 32) (v 0) (v 17) (v 18) (v 19) (v 20) (v 21) (f 14) (xs (x3 + (1 : Int32)).toNatClampNeg) _ hw
  refine x_cPi (va_runV (As := [.int (xs (x3 + (1 : Int32)).toNatClampNeg)]) (rest := []) ⟨hx, hb, hml, hown, hts⟩ hc (cwV 1 hts gL_law_X7_type rfl rfl rfl (by decide +kernel) ⟨(Nat.le_of_ble_eq_true rfl), (Nat.le_of_ble_eq_true rfl)⟩) (xM_pv (hP.sub [0, 29, 30] rfl) hK (hD.sub [0, 29, 30] (by decide) rfl) (va_recv hK hP (ci := 7) (q0 := 0) rfl rfl)) rfl rfl hl.1 rfl (lv_room (Nat.le_of_ble_eq_true rfl)) dL_law_378 ⟨(Nat.le_of_ble_eq_true rfl), (Nat.le_of_ble_eq_true rfl)⟩) hP hD hS hA [0, 29, 30] rfl (fun u => rfl) (fun u => (lawW G x0 y0 a b pq kq sq (va_up v 17 u.1) (va_up f 14 u.2) g)) (fun u => rfl) (fun r1 u H locs hw hP hD hS => ?_)
  obtain ⟨t_size_1, t_letters_1⟩ := u
  try dsimp only at hw
  replace hP : va_P D vwCl (lawW G x0 y0 a b pq kq sq (va_up v 17 t_size_1) (va_up f 14 t_letters_1) g) H := hP
  replace hD : va_D (fun q : Nat => s.heap.size ≤ q) (lawW G x0 y0 a b pq kq sq (va_up v 17 t_size_1) (va_up f 14 t_letters_1) g) := hD
  refine lv_aload_n hx hb dL_law_381 rfl (lv_at hl 2 rfl) ?_
  refine lv_aload_n hx hb dL_law_382 rfl (lv_at hl 0 rfl) ?_
  refine lv_iload_n hx hb dL_law_383 rfl (lv_at hl 3 rfl) ?_
  refine lv_iconst (v := 1) hx hb dL_law_384 (by decide) ?_
  refine lv_iadd hx hb dL_law_385 ?_
  refine va_sld hx hb hX hbl hbA hS (hin 1 (by decide)) dL_law_386 ?_
  have hc := c_X8_type l D G H.size y0 (b 0) (b 1) (b 2) (b 3) (b 4) (b 5) (b 6) (b 7) (b 8) (b 9) (b 10) (v 37) (v 38) (v 39) (v 40) (v 41) (v 42) (v 43) (f 28) (xs (x3 + (1 : Int32)).toNatClampNeg) _ hw
  refine x_cPi (va_runV (As := [.int (xs (x3 + (1 : Int32)).toNatClampNeg)]) (rest := [.int r1]) ⟨hx, hb, hml, hown, hts⟩ hc (cwV 1 hts gL_law_X8_type rfl rfl rfl (by decide +kernel) ⟨(Nat.le_of_ble_eq_true rfl), (Nat.le_of_ble_eq_true rfl)⟩) (xM_pv (hP.sub [54, 58] rfl) hK (hD.sub [54, 58] (by decide) rfl) (va_recv hK hP (ci := 8) (q0 := 54) rfl rfl)) rfl rfl hl.1 rfl (lv_room (Nat.le_of_ble_eq_true rfl)) dL_law_387 ⟨(Nat.le_of_ble_eq_true rfl), (Nat.le_of_ble_eq_true rfl)⟩) hP hD hS hA [54, 58] rfl (fun u => rfl) (fun u => (lawW G x0 y0 a b pq kq sq (va_up (va_up v 17 t_size_1) 37 u.1) (va_up (va_up f 14 t_letters_1) 28 u.2) g)) (fun u => rfl) (fun r2 u H locs hw hP hD hS => ?_)
  obtain ⟨m_letters_2, m_tape_2⟩ := u
  try dsimp only at hw
  replace hP : va_P D vwCl (lawW G x0 y0 a b pq kq sq (va_up (va_up v 17 t_size_1) 37 m_letters_2) (va_up (va_up f 14 t_letters_1) 28 m_tape_2) g) H := hP
  replace hD : va_D (fun q : Nat => s.heap.size ≤ q) (lawW G x0 y0 a b pq kq sq (va_up (va_up v 17 t_size_1) 37 m_letters_2) (va_up (va_up f 14 t_letters_1) 28 m_tape_2) g) := hD
  refine lv_icmp_eq (tgt := 1365) hx hb dL_law_390 (by decide) (fun _ => ?_) (fun c9 => absurd hw.1 c9)
  exact cont _ _ _ _ _ _ hw.2 hP hD hS hl
set_option maxHeartbeats 8000000 in
set_option maxRecDepth 100000 in
theorem lawc_herd {p : Program} {l : Launch} {e : Env} {s : State} {m : MethodId} {below : List Frame} {meth : Method} {c : Code} {D : va_G} {G : Nat → ClassId} {x0 y0 : Nat} {a b pq kq sq : Nat → Nat} {b0 L : Nat} {xs : Nat → Int32} {kS vS : Nat} (C0 : lw_At p s m meth c b0 L xs) (R : ((Nat → Int32) → (Nat → Nat → Int32) → (Nat → Nat → Int64) → Prop)) (hSt_herd : Step_herd R) (x3 : Int32) (hin : ∀ k : Nat, k ≤ 8 → vp_in (x3 + Int32.ofNat k) L) (hT : xT kS vS (fun q : Nat => s.heap.size ≤ q) s s.heap) (v : Nat → Int32) (f : Nat → Nat → Int32) (g : Nat → Nat → Int64) (hR : R v f g) (H : Heap) (locs : List Loc) (ls : Array Slot) (hK : va_K D vwCl (tyL G) s) (hP : va_P D vwCl (lawW G x0 y0 a b pq kq sq v f g) H) (hD : va_D (fun q : Nat => s.heap.size ≤ q) (lawW G x0 y0 a b pq kq sq v f g)) (hS : va_S (fun q : Nat => s.heap.size ≤ q) s.heap H locs) (hl : lv_has ls 4 [(0, .ref b0), (1, .ref x0), (2, .ref y0), (3, .int x3)]) (cont : ∀ (v : Nat → Int32) (f : Nat → Nat → Int32) (g : Nat → Nat → Int64) (H : Heap) (locs : List Loc) (ls : Array Slot), R v f g → va_P D vwCl (lawW G x0 y0 a b pq kq sq v f g) H → va_D (fun q : Nat => s.heap.size ≤ q) (lawW G x0 y0 a b pq kq sq v f g) → va_S (fun q : Nat => s.heap.size ≤ q) s.heap H locs → lv_has ls 4 [(0, .ref b0), (1, .ref x0), (2, .ref y0), (3, .int x3)] → W p l e room_1 s m #[Value.ref b0] below meth c H locs 66 2290 (lw_Z below #[Value.ref b0] s) (F0 m 1365 ls [])) : W p l e room_1 s m #[Value.ref b0] below meth c H locs 66 2290 (lw_Z below #[Value.ref b0] s) (F0 m 395 ls []) := by
  obtain ⟨hx, hb, hr, hml, hown, hts0, hX, hbl, hlocks, hgv⟩ := id C0
  have hb : c.code = cL_law := hb
  have hown : s.vm.findClass RL = some m.cls := hown
  have hts : ∀ w ∈ wsL_law, w.before #[Value.ref b0] s = true := fun w h => hts0 w (wsL_law_in w h)
  have hA : ∀ q : Nat, s.heap.size ≤ q → (fun q : Nat => s.heap.size ≤ q) q := fun _ h => h
  have hbA : ¬ (fun q : Nat => s.heap.size ≤ q) b0 := Nat.not_le.mpr hbl
  refine lv_aload_n hx hb dL_law_395 rfl (lv_at hl 1 rfl) ?_
  have hw := hSt_herd v f g  hR
  have hc := c_X7_herd l D G H.size x0 (a 0) (a 14) (a 28) (a 33) (a 38) (a 40) (a 44) (a 1) (a 2) (a 3) (a 4) (a 5) (a 29) (a 30) (a 31) (a 32) kS vS (v 0) (v 1) (v 2) (v 3) (v 4) (f 0) (f 1) (f 2) (v 5) (v 6) (v 7) (v 8) (v 17) (v 18) (v 19) (v 20) (v 21) (f 14) (f 15) (f 16) (f 17) _ hw
  refine x_cPi (va_runV (As := []) (rest := []) ⟨hx, hb, hml, hown, hts⟩ hc (cwV 0 hts gL_law_X7_herd rfl rfl rfl (by decide +kernel) ⟨(Nat.le_of_ble_eq_true rfl), (Nat.le_of_ble_eq_true rfl)⟩) (xMT_pv (hP.sub [0, 1, 2, 3, 4, 5, 29, 30, 31, 32, 33] rfl) hK (hD.sub [0, 1, 2, 3, 4, 5, 29, 30, 31, 32, 33] (by decide) rfl) hT hS (va_free hD hS hA [0, 1, 2, 3, 4, 5, 29, 30, 31, 32, 33] rfl) (va_recv hK hP (ci := 7) (q0 := 0) rfl rfl)) rfl rfl hl.1 rfl (lv_room (Nat.le_of_ble_eq_true rfl)) dL_law_396 ⟨(Nat.le_of_ble_eq_true rfl), (Nat.le_of_ble_eq_true rfl)⟩) hP hD hS hA [0, 1, 2, 3, 4, 5, 29, 30, 31, 32, 33] rfl (fun u => rfl) (fun u => (lawW G x0 y0 a b pq kq sq (va_up (va_up (va_up (va_up (va_up (va_up (va_up (va_up (va_up (va_up (va_up v 1 u.1) 2 u.2.1) 4 u.2.2.1) 5 u.2.2.2.2.2.2.1) 6 u.2.2.2.2.2.2.2.1) 7 u.2.2.2.2.2.2.2.2.1) 17 u.2.2.2.2.2.2.2.2.2.1) 18 u.2.2.2.2.2.2.2.2.2.2.1) 19 u.2.2.2.2.2.2.2.2.2.2.2.1) 20 u.2.2.2.2.2.2.2.2.2.2.2.2.1) 21 u.2.2.2.2.2.2.2.2.2.2.2.2.2.1) (va_up (va_up (va_up (va_up (va_up (va_up f 0 u.2.2.2.1) 1 u.2.2.2.2.1) 2 u.2.2.2.2.2.1) 15 u.2.2.2.2.2.2.2.2.2.2.2.2.2.2.1) 16 u.2.2.2.2.2.2.2.2.2.2.2.2.2.2.2.1) 17 u.2.2.2.2.2.2.2.2.2.2.2.2.2.2.2.2) g)) (fun u => rfl) (fun r1 u H locs hw hP hD hS => ?_)
  obtain ⟨cows_1, tasters_1, known_1, milks_1, kinds_1, fines_1, mayBe_1, bearer_1, day_1, t_size_1, t_place_1, t_cows_1, t_bearer_1, t_tasters_1, t_milks_1, t_kinds_1, t_fines_1⟩ := u
  try dsimp only at hw
  replace hP : va_P D vwCl (lawW G x0 y0 a b pq kq sq (va_up (va_up (va_up (va_up (va_up (va_up (va_up (va_up (va_up (va_up (va_up v 1 cows_1) 2 tasters_1) 4 known_1) 5 mayBe_1) 6 bearer_1) 7 day_1) 17 t_size_1) 18 t_place_1) 19 t_cows_1) 20 t_bearer_1) 21 t_tasters_1) (va_up (va_up (va_up (va_up (va_up (va_up f 0 milks_1) 1 kinds_1) 2 fines_1) 15 t_milks_1) 16 t_kinds_1) 17 t_fines_1) g) H := hP
  replace hD : va_D (fun q : Nat => s.heap.size ≤ q) (lawW G x0 y0 a b pq kq sq (va_up (va_up (va_up (va_up (va_up (va_up (va_up (va_up (va_up (va_up (va_up v 1 cows_1) 2 tasters_1) 4 known_1) 5 mayBe_1) 6 bearer_1) 7 day_1) 17 t_size_1) 18 t_place_1) 19 t_cows_1) 20 t_bearer_1) 21 t_tasters_1) (va_up (va_up (va_up (va_up (va_up (va_up f 0 milks_1) 1 kinds_1) 2 fines_1) 15 t_milks_1) 16 t_kinds_1) 17 t_fines_1) g) := hD
  refine lv_aload_n hx hb dL_law_399 rfl (lv_at hl 2 rfl) ?_
  have hc := c_X8_herd l D G H.size y0 (b 0) (b 1) (b 2) (b 3) (b 4) (b 5) (b 6) (b 7) (b 8) (b 9) (b 10) (v 37) (v 38) (v 39) (v 40) (v 41) (v 42) (v 43) (f 28) (f 29) (f 31) _ hw
  refine x_cPi (va_runV (As := []) (rest := [.int r1]) ⟨hx, hb, hml, hown, hts⟩ hc (cwV 0 hts gL_law_X8_herd rfl rfl rfl (by decide +kernel) ⟨(Nat.le_of_ble_eq_true rfl), (Nat.le_of_ble_eq_true rfl)⟩) (xM_pv (hP.sub [54, 58, 59, 61] rfl) hK (hD.sub [54, 58, 59, 61] (by decide) rfl) (va_recv hK hP (ci := 8) (q0 := 54) rfl rfl)) rfl rfl hl.1 rfl (lv_room (Nat.le_of_ble_eq_true rfl)) dL_law_400 ⟨(Nat.le_of_ble_eq_true rfl), (Nat.le_of_ble_eq_true rfl)⟩) hP hD hS hA [54, 58, 59, 61] rfl (fun u => rfl) (fun u => (lawW G x0 y0 a b pq kq sq (va_up (va_up (va_up (va_up (va_up (va_up (va_up (va_up (va_up (va_up (va_up (va_up (va_up (va_up v 1 cows_1) 2 tasters_1) 4 known_1) 5 mayBe_1) 6 bearer_1) 7 day_1) 17 t_size_1) 18 t_place_1) 19 t_cows_1) 20 t_bearer_1) 21 t_tasters_1) 37 u.1) 38 u.2.1) 39 u.2.2.1) (va_up (va_up (va_up (va_up (va_up (va_up (va_up (va_up f 0 milks_1) 1 kinds_1) 2 fines_1) 15 t_milks_1) 16 t_kinds_1) 17 t_fines_1) 29 u.2.2.2.1) 31 u.2.2.2.2) g)) (fun u => rfl) (fun r2 u H locs hw hP hD hS => ?_)
  obtain ⟨m_letters_2, m_position_2, m_number_2, m_now_2, m_read_2⟩ := u
  try dsimp only at hw
  replace hP : va_P D vwCl (lawW G x0 y0 a b pq kq sq (va_up (va_up (va_up (va_up (va_up (va_up (va_up (va_up (va_up (va_up (va_up (va_up (va_up (va_up v 1 cows_1) 2 tasters_1) 4 known_1) 5 mayBe_1) 6 bearer_1) 7 day_1) 17 t_size_1) 18 t_place_1) 19 t_cows_1) 20 t_bearer_1) 21 t_tasters_1) 37 m_letters_2) 38 m_position_2) 39 m_number_2) (va_up (va_up (va_up (va_up (va_up (va_up (va_up (va_up f 0 milks_1) 1 kinds_1) 2 fines_1) 15 t_milks_1) 16 t_kinds_1) 17 t_fines_1) 29 m_now_2) 31 m_read_2) g) H := hP
  replace hD : va_D (fun q : Nat => s.heap.size ≤ q) (lawW G x0 y0 a b pq kq sq (va_up (va_up (va_up (va_up (va_up (va_up (va_up (va_up (va_up (va_up (va_up (va_up (va_up (va_up v 1 cows_1) 2 tasters_1) 4 known_1) 5 mayBe_1) 6 bearer_1) 7 day_1) 17 t_size_1) 18 t_place_1) 19 t_cows_1) 20 t_bearer_1) 21 t_tasters_1) 37 m_letters_2) 38 m_position_2) 39 m_number_2) (va_up (va_up (va_up (va_up (va_up (va_up (va_up (va_up f 0 milks_1) 1 kinds_1) 2 fines_1) 15 t_milks_1) 16 t_kinds_1) 17 t_fines_1) 29 m_now_2) 31 m_read_2) g) := hD
  refine lv_icmp_eq (tgt := 1365) hx hb dL_law_403 (by decide) (fun _ => ?_) (fun c9 => absurd hw.1 c9)
  exact cont _ _ _ _ _ _ hw.2 hP hD hS hl
set_option maxHeartbeats 8000000 in
set_option maxRecDepth 100000 in
theorem lawc_count {p : Program} {l : Launch} {e : Env} {s : State} {m : MethodId} {below : List Frame} {meth : Method} {c : Code} {D : va_G} {G : Nat → ClassId} {x0 y0 : Nat} {a b pq kq sq : Nat → Nat} {b0 L : Nat} {xs : Nat → Int32} (C0 : lw_At p s m meth c b0 L xs) (R : ((Nat → Int32) → (Nat → Nat → Int32) → (Nat → Nat → Int64) → Prop)) (hSt_count : Step_count R) (x3 : Int32) (hin : ∀ k : Nat, k ≤ 8 → vp_in (x3 + Int32.ofNat k) L) (v : Nat → Int32) (f : Nat → Nat → Int32) (g : Nat → Nat → Int64) (hR : R v f g) (H : Heap) (locs : List Loc) (ls : Array Slot) (hK : va_K D vwCl (tyL G) s) (hP : va_P D vwCl (lawW G x0 y0 a b pq kq sq v f g) H) (hD : va_D (fun q : Nat => s.heap.size ≤ q) (lawW G x0 y0 a b pq kq sq v f g)) (hS : va_S (fun q : Nat => s.heap.size ≤ q) s.heap H locs) (hl : lv_has ls 4 [(0, .ref b0), (1, .ref x0), (2, .ref y0), (3, .int x3)]) (cont : ∀ (v : Nat → Int32) (f : Nat → Nat → Int32) (g : Nat → Nat → Int64) (H : Heap) (locs : List Loc) (ls : Array Slot), R v f g → va_P D vwCl (lawW G x0 y0 a b pq kq sq v f g) H → va_D (fun q : Nat => s.heap.size ≤ q) (lawW G x0 y0 a b pq kq sq v f g) → va_S (fun q : Nat => s.heap.size ≤ q) s.heap H locs → lv_has ls 4 [(0, .ref b0), (1, .ref x0), (2, .ref y0), (3, .int x3)] → W p l e room_1 s m #[Value.ref b0] below meth c H locs 66 2290 (lw_Z below #[Value.ref b0] s) (F0 m 1365 ls [])) : W p l e room_1 s m #[Value.ref b0] below meth c H locs 66 2290 (lw_Z below #[Value.ref b0] s) (F0 m 408 ls []) := by
  obtain ⟨hx, hb, hr, hml, hown, hts0, hX, hbl, hlocks, hgv⟩ := id C0
  have hb : c.code = cL_law := hb
  have hown : s.vm.findClass RL = some m.cls := hown
  have hts : ∀ w ∈ wsL_law, w.before #[Value.ref b0] s = true := fun w h => hts0 w (wsL_law_in w h)
  have hA : ∀ q : Nat, s.heap.size ≤ q → (fun q : Nat => s.heap.size ≤ q) q := fun _ h => h
  have hbA : ¬ (fun q : Nat => s.heap.size ≤ q) b0 := Nat.not_le.mpr hbl
  refine lv_aload_n hx hb dL_law_408 rfl (lv_at hl 1 rfl) ?_
  refine lv_aload_n hx hb dL_law_409 rfl (lv_at hl 0 rfl) ?_
  refine lv_iload_n hx hb dL_law_410 rfl (lv_at hl 3 rfl) ?_
  refine lv_iconst (v := 1) hx hb dL_law_411 (by decide) ?_
  refine lv_iadd hx hb dL_law_412 ?_
  refine va_sld hx hb hX hbl hbA hS (hin 1 (by decide)) dL_law_413 ?_
  have hw := hSt_count v f g (xs (x3 + (1 : Int32)).toNatClampNeg) hR
  have hc := c_X7_count l D G x0 (a 0) (a 14) (a 28) (a 33) (a 38) (a 40) (a 44) (a 1) (a 2) (a 3) (a 4) (a 5) (v 0) (v 1) (v 2) (v 3) (v 4) (f 0) (v 5) (v 6) (v 7) (v 8) (xs (x3 + (1 : Int32)).toNatClampNeg) _ hw
  refine vp_callSi (W.runV (As := [.int (xs (x3 + (1 : Int32)).toNatClampNeg)]) (rest := []) ⟨hx, hb, hml, hown, hts⟩ hc (cwV 1 hts gL_law_X7_count rfl rfl rfl (by decide +kernel) ⟨(Nat.le_of_ble_eq_true rfl), (Nat.le_of_ble_eq_true rfl)⟩) (xR_pv (hP.sub [0, 1, 2, 5] rfl) hK (va_recv hK hP (ci := 7) (q0 := 0) rfl rfl)) rfl rfl hl.1 rfl (lv_room (Nat.le_of_ble_eq_true rfl)) dL_law_414 ⟨(Nat.le_of_ble_eq_true rfl), (Nat.le_of_ble_eq_true rfl)⟩) (fun r1 hw => ?_)
  refine lv_aload_n hx hb dL_law_417 rfl (lv_at hl 2 rfl) ?_
  refine lv_aload_n hx hb dL_law_418 rfl (lv_at hl 0 rfl) ?_
  refine lv_iload_n hx hb dL_law_419 rfl (lv_at hl 3 rfl) ?_
  refine lv_iconst (v := 1) hx hb dL_law_420 (by decide) ?_
  refine lv_iadd hx hb dL_law_421 ?_
  refine va_sld hx hb hX hbl hbA hS (hin 1 (by decide)) dL_law_422 ?_
  have hc := c_X8_count l D G y0 (b 0) (b 1) (b 2) (b 3) (b 4) (b 5) (b 6) (b 7) (b 8) (b 9) (b 10) (v 37) (v 38) (v 39) (v 40) (v 41) (v 42) (v 43) (f 29) (xs (x3 + (1 : Int32)).toNatClampNeg) _ hw
  refine vp_callSi (W.runV (As := [.int (xs (x3 + (1 : Int32)).toNatClampNeg)]) (rest := [.int r1]) ⟨hx, hb, hml, hown, hts⟩ hc (cwV 1 hts gL_law_X8_count rfl rfl rfl (by decide +kernel) ⟨(Nat.le_of_ble_eq_true rfl), (Nat.le_of_ble_eq_true rfl)⟩) (xR_pv (hP.sub [54, 59] rfl) hK (va_recv hK hP (ci := 8) (q0 := 54) rfl rfl)) rfl rfl hl.1 rfl (lv_room (Nat.le_of_ble_eq_true rfl)) dL_law_423 ⟨(Nat.le_of_ble_eq_true rfl), (Nat.le_of_ble_eq_true rfl)⟩) (fun r2 hw => ?_)
  refine lv_icmp_eq (tgt := 1365) hx hb dL_law_426 (by decide) (fun _ => ?_) (fun c9 => absurd hw.1 c9)
  exact cont _ _ _ _ _ _ hw.2 hP hD hS hl
set_option maxHeartbeats 8000000 in
set_option maxRecDepth 100000 in
theorem lawc_answer {p : Program} {l : Launch} {e : Env} {s : State} {m : MethodId} {below : List Frame} {meth : Method} {c : Code} {D : va_G} {G : Nat → ClassId} {x0 y0 : Nat} {a b pq kq sq : Nat → Nat} {b0 L : Nat} {xs : Nat → Int32} (C0 : lw_At p s m meth c b0 L xs) (R : ((Nat → Int32) → (Nat → Nat → Int32) → (Nat → Nat → Int64) → Prop)) (hSt_answer : Step_answer R) (x3 : Int32) (hin : ∀ k : Nat, k ≤ 8 → vp_in (x3 + Int32.ofNat k) L) (v : Nat → Int32) (f : Nat → Nat → Int32) (g : Nat → Nat → Int64) (hR : R v f g) (H : Heap) (locs : List Loc) (ls : Array Slot) (hK : va_K D vwCl (tyL G) s) (hP : va_P D vwCl (lawW G x0 y0 a b pq kq sq v f g) H) (hD : va_D (fun q : Nat => s.heap.size ≤ q) (lawW G x0 y0 a b pq kq sq v f g)) (hS : va_S (fun q : Nat => s.heap.size ≤ q) s.heap H locs) (hl : lv_has ls 4 [(0, .ref b0), (1, .ref x0), (2, .ref y0), (3, .int x3)]) (cont : ∀ (v : Nat → Int32) (f : Nat → Nat → Int32) (g : Nat → Nat → Int64) (H : Heap) (locs : List Loc) (ls : Array Slot), R v f g → va_P D vwCl (lawW G x0 y0 a b pq kq sq v f g) H → va_D (fun q : Nat => s.heap.size ≤ q) (lawW G x0 y0 a b pq kq sq v f g) → va_S (fun q : Nat => s.heap.size ≤ q) s.heap H locs → lv_has ls 4 [(0, .ref b0), (1, .ref x0), (2, .ref y0), (3, .int x3)] → W p l e room_1 s m #[Value.ref b0] below meth c H locs 66 2290 (lw_Z below #[Value.ref b0] s) (F0 m 1365 ls [])) : W p l e room_1 s m #[Value.ref b0] below meth c H locs 66 2290 (lw_Z below #[Value.ref b0] s) (F0 m 431 ls []) := by
  obtain ⟨hx, hb, hr, hml, hown, hts0, hX, hbl, hlocks, hgv⟩ := id C0
  have hb : c.code = cL_law := hb
  have hown : s.vm.findClass RL = some m.cls := hown
  have hts : ∀ w ∈ wsL_law, w.before #[Value.ref b0] s = true := fun w h => hts0 w (wsL_law_in w h)
  have hA : ∀ q : Nat, s.heap.size ≤ q → (fun q : Nat => s.heap.size ≤ q) q := fun _ h => h
  have hbA : ¬ (fun q : Nat => s.heap.size ≤ q) b0 := Nat.not_le.mpr hbl
  refine lv_aload_n hx hb dL_law_431 rfl (lv_at hl 1 rfl) ?_
  refine lv_aload_n hx hb dL_law_432 rfl (lv_at hl 0 rfl) ?_
  refine lv_iload_n hx hb dL_law_433 rfl (lv_at hl 3 rfl) ?_
  refine lv_iconst (v := 1) hx hb dL_law_434 (by decide) ?_
  refine lv_iadd hx hb dL_law_435 ?_
  refine va_sld hx hb hX hbl hbA hS (hin 1 (by decide)) dL_law_436 ?_
  refine lv_aload_n hx hb dL_law_437 rfl (lv_at hl 0 rfl) ?_
  refine lv_iload_n hx hb dL_law_438 rfl (lv_at hl 3 rfl) ?_
  refine lv_iconst (v := 2) hx hb dL_law_439 (by decide) ?_
  refine lv_iadd hx hb dL_law_440 ?_
  refine va_sld hx hb hX hbl hbA hS (hin 2 (by decide)) dL_law_441 ?_
  refine lv_aload_n hx hb dL_law_442 rfl (lv_at hl 0 rfl) ?_
  refine lv_iload_n hx hb dL_law_443 rfl (lv_at hl 3 rfl) ?_
  refine lv_iconst (v := 3) hx hb dL_law_444 (by decide) ?_
  refine lv_iadd hx hb dL_law_445 ?_
  refine va_sld hx hb hX hbl hbA hS (hin 3 (by decide)) dL_law_446 ?_
  have hw := hSt_answer v f g (xs (x3 + (1 : Int32)).toNatClampNeg) (xs (x3 + (2 : Int32)).toNatClampNeg) (xs (x3 + (3 : Int32)).toNatClampNeg) hR
  have hc := c_X7_answer l D G H.size x0 (a 0) (a 14) (a 28) (a 33) (a 38) (a 40) (a 44) (a 1) (a 2) (a 3) (a 4) (a 5) pq (v 0) (v 1) (v 2) (v 3) (v 4) (f 0) (f 1) (f 2) (v 5) (v 6) (v 7) (v 8) (f 3) (f 4) (f 5) (f 6) (xs (x3 + (1 : Int32)).toNatClampNeg) (xs (x3 + (2 : Int32)).toNatClampNeg) (xs (x3 + (3 : Int32)).toNatClampNeg) _ hw
  refine x_cPi (va_runV (As := [.int (xs (x3 + (1 : Int32)).toNatClampNeg), .int (xs (x3 + (2 : Int32)).toNatClampNeg), .int (xs (x3 + (3 : Int32)).toNatClampNeg)]) (rest := []) ⟨hx, hb, hml, hown, hts⟩ hc (cwV 3 hts gL_law_X7_answer rfl rfl rfl (by decide +kernel) ⟨(Nat.le_of_ble_eq_true rfl), (Nat.le_of_ble_eq_true rfl)⟩) (xM_pv (hP.sub [0, 1, 2, 3, 4, 5, 6, 7, 8, 9, 10, 11, 12, 13, 14] rfl) hK (hD.sub [0, 1, 2, 3, 4, 5, 6, 7, 8, 9, 10, 11, 12, 13, 14] (by decide) rfl) (va_recv hK hP (ci := 7) (q0 := 0) rfl rfl)) rfl rfl hl.1 rfl (lv_room (Nat.le_of_ble_eq_true rfl)) dL_law_447 ⟨(Nat.le_of_ble_eq_true rfl), (Nat.le_of_ble_eq_true rfl)⟩) hP hD hS hA [0, 1, 2, 3, 4, 5, 6, 7, 8, 9, 10, 11, 12, 13, 14] rfl (fun u => rfl) (fun u => (lawW G x0 y0 a b pq kq sq (va_up (va_up (va_up (va_up v 3 u.1) 4 u.2.1) 5 u.2.2.1) 7 u.2.2.2.1) (va_up (va_up (va_up (va_up f 3 u.2.2.2.2.1) 4 u.2.2.2.2.2.1) 5 u.2.2.2.2.2.2.1) 6 u.2.2.2.2.2.2.2) g)) (fun u => rfl) (fun r1 u H locs hw hP hD hS => ?_)
  obtain ⟨newest_1, known_1, mayBe_1, day_1, pm_1, pb_1, pd_1, pw_1⟩ := u
  try dsimp only at hw
  replace hP : va_P D vwCl (lawW G x0 y0 a b pq kq sq (va_up (va_up (va_up (va_up v 3 newest_1) 4 known_1) 5 mayBe_1) 7 day_1) (va_up (va_up (va_up (va_up f 3 pm_1) 4 pb_1) 5 pd_1) 6 pw_1) g) H := hP
  replace hD : va_D (fun q : Nat => s.heap.size ≤ q) (lawW G x0 y0 a b pq kq sq (va_up (va_up (va_up (va_up v 3 newest_1) 4 known_1) 5 mayBe_1) 7 day_1) (va_up (va_up (va_up (va_up f 3 pm_1) 4 pb_1) 5 pd_1) 6 pw_1) g) := hD
  refine lv_aload_n hx hb dL_law_450 rfl (lv_at hl 2 rfl) ?_
  refine lv_aload_n hx hb dL_law_451 rfl (lv_at hl 0 rfl) ?_
  refine lv_iload_n hx hb dL_law_452 rfl (lv_at hl 3 rfl) ?_
  refine lv_iconst (v := 1) hx hb dL_law_453 (by decide) ?_
  refine lv_iadd hx hb dL_law_454 ?_
  refine va_sld hx hb hX hbl hbA hS (hin 1 (by decide)) dL_law_455 ?_
  refine lv_aload_n hx hb dL_law_456 rfl (lv_at hl 0 rfl) ?_
  refine lv_iload_n hx hb dL_law_457 rfl (lv_at hl 3 rfl) ?_
  refine lv_iconst (v := 2) hx hb dL_law_458 (by decide) ?_
  refine lv_iadd hx hb dL_law_459 ?_
  refine va_sld hx hb hX hbl hbA hS (hin 2 (by decide)) dL_law_460 ?_
  refine lv_aload_n hx hb dL_law_461 rfl (lv_at hl 0 rfl) ?_
  refine lv_iload_n hx hb dL_law_462 rfl (lv_at hl 3 rfl) ?_
  refine lv_iconst (v := 3) hx hb dL_law_463 (by decide) ?_
  refine lv_iadd hx hb dL_law_464 ?_
  refine va_sld hx hb hX hbl hbA hS (hin 3 (by decide)) dL_law_465 ?_
  have hc := c_X8_answer l D G H.size y0 (b 0) (b 1) (b 2) (b 3) (b 4) (b 5) (b 6) (b 7) (b 8) (b 9) (b 10) (v 37) (v 38) (v 39) (v 40) (v 41) (v 42) (v 43) (f 29) (xs (x3 + (1 : Int32)).toNatClampNeg) (xs (x3 + (2 : Int32)).toNatClampNeg) (xs (x3 + (3 : Int32)).toNatClampNeg) _ hw
  refine x_cPi (va_runV (As := [.int (xs (x3 + (1 : Int32)).toNatClampNeg), .int (xs (x3 + (2 : Int32)).toNatClampNeg), .int (xs (x3 + (3 : Int32)).toNatClampNeg)]) (rest := [.int r1]) ⟨hx, hb, hml, hown, hts⟩ hc (cwV 3 hts gL_law_X8_answer rfl rfl rfl (by decide +kernel) ⟨(Nat.le_of_ble_eq_true rfl), (Nat.le_of_ble_eq_true rfl)⟩) (xM_pv (hP.sub [54, 59] rfl) hK (hD.sub [54, 59] (by decide) rfl) (va_recv hK hP (ci := 8) (q0 := 54) rfl rfl)) rfl rfl hl.1 rfl (lv_room (Nat.le_of_ble_eq_true rfl)) dL_law_466 ⟨(Nat.le_of_ble_eq_true rfl), (Nat.le_of_ble_eq_true rfl)⟩) hP hD hS hA [54, 59] rfl (fun u => rfl) (fun u => (lawW G x0 y0 a b pq kq sq (va_up (va_up (va_up (va_up v 3 newest_1) 4 known_1) 5 mayBe_1) 7 day_1) (va_up (va_up (va_up (va_up (va_up f 3 pm_1) 4 pb_1) 5 pd_1) 6 pw_1) 29 u) g)) (fun u => rfl) (fun r2 u H locs hw hP hD hS => ?_)
  obtain ⟨m_now_2, rfl⟩ : ∃ z, z = u := ⟨_, rfl⟩
  try dsimp only at hw
  replace hP : va_P D vwCl (lawW G x0 y0 a b pq kq sq (va_up (va_up (va_up (va_up v 3 newest_1) 4 known_1) 5 mayBe_1) 7 day_1) (va_up (va_up (va_up (va_up (va_up f 3 pm_1) 4 pb_1) 5 pd_1) 6 pw_1) 29 m_now_2) g) H := hP
  replace hD : va_D (fun q : Nat => s.heap.size ≤ q) (lawW G x0 y0 a b pq kq sq (va_up (va_up (va_up (va_up v 3 newest_1) 4 known_1) 5 mayBe_1) 7 day_1) (va_up (va_up (va_up (va_up (va_up f 3 pm_1) 4 pb_1) 5 pd_1) 6 pw_1) 29 m_now_2) g) := hD
  refine lv_icmp_eq (tgt := 1365) hx hb dL_law_469 (by decide) (fun _ => ?_) (fun c9 => absurd hw.1 c9)
  exact cont _ _ _ _ _ _ hw.2 hP hD hS hl
set_option maxHeartbeats 8000000 in
set_option maxRecDepth 100000 in
theorem lawc_drink {p : Program} {l : Launch} {e : Env} {s : State} {m : MethodId} {below : List Frame} {meth : Method} {c : Code} {D : va_G} {G : Nat → ClassId} {x0 y0 : Nat} {a b pq kq sq : Nat → Nat} {b0 L : Nat} {xs : Nat → Int32} (C0 : lw_At p s m meth c b0 L xs) (R : ((Nat → Int32) → (Nat → Nat → Int32) → (Nat → Nat → Int64) → Prop)) (hSt_drink : Step_drink R) (x3 : Int32) (hin : ∀ k : Nat, k ≤ 8 → vp_in (x3 + Int32.ofNat k) L) (v : Nat → Int32) (f : Nat → Nat → Int32) (g : Nat → Nat → Int64) (hR : R v f g) (H : Heap) (locs : List Loc) (ls : Array Slot) (hK : va_K D vwCl (tyL G) s) (hP : va_P D vwCl (lawW G x0 y0 a b pq kq sq v f g) H) (hD : va_D (fun q : Nat => s.heap.size ≤ q) (lawW G x0 y0 a b pq kq sq v f g)) (hS : va_S (fun q : Nat => s.heap.size ≤ q) s.heap H locs) (hl : lv_has ls 4 [(0, .ref b0), (1, .ref x0), (2, .ref y0), (3, .int x3)]) (cont : ∀ (v : Nat → Int32) (f : Nat → Nat → Int32) (g : Nat → Nat → Int64) (H : Heap) (locs : List Loc) (ls : Array Slot), R v f g → va_P D vwCl (lawW G x0 y0 a b pq kq sq v f g) H → va_D (fun q : Nat => s.heap.size ≤ q) (lawW G x0 y0 a b pq kq sq v f g) → va_S (fun q : Nat => s.heap.size ≤ q) s.heap H locs → lv_has ls 4 [(0, .ref b0), (1, .ref x0), (2, .ref y0), (3, .int x3)] → W p l e room_1 s m #[Value.ref b0] below meth c H locs 66 2290 (lw_Z below #[Value.ref b0] s) (F0 m 1365 ls [])) : W p l e room_1 s m #[Value.ref b0] below meth c H locs 66 2290 (lw_Z below #[Value.ref b0] s) (F0 m 474 ls []) := by
  obtain ⟨hx, hb, hr, hml, hown, hts0, hX, hbl, hlocks, hgv⟩ := id C0
  have hb : c.code = cL_law := hb
  have hown : s.vm.findClass RL = some m.cls := hown
  have hts : ∀ w ∈ wsL_law, w.before #[Value.ref b0] s = true := fun w h => hts0 w (wsL_law_in w h)
  have hA : ∀ q : Nat, s.heap.size ≤ q → (fun q : Nat => s.heap.size ≤ q) q := fun _ h => h
  have hbA : ¬ (fun q : Nat => s.heap.size ≤ q) b0 := Nat.not_le.mpr hbl
  refine lv_aload_n hx hb dL_law_474 rfl (lv_at hl 1 rfl) ?_
  refine lv_aload_n hx hb dL_law_475 rfl (lv_at hl 0 rfl) ?_
  refine lv_iload_n hx hb dL_law_476 rfl (lv_at hl 3 rfl) ?_
  refine lv_iconst (v := 1) hx hb dL_law_477 (by decide) ?_
  refine lv_iadd hx hb dL_law_478 ?_
  refine va_sld hx hb hX hbl hbA hS (hin 1 (by decide)) dL_law_479 ?_
  refine lv_aload_n hx hb dL_law_480 rfl (lv_at hl 0 rfl) ?_
  refine lv_iload_n hx hb dL_law_481 rfl (lv_at hl 3 rfl) ?_
  refine lv_iconst (v := 2) hx hb dL_law_482 (by decide) ?_
  refine lv_iadd hx hb dL_law_483 ?_
  refine va_sld hx hb hX hbl hbA hS (hin 2 (by decide)) dL_law_484 ?_
  have hw := hSt_drink v f g (xs (x3 + (1 : Int32)).toNatClampNeg) (xs (x3 + (2 : Int32)).toNatClampNeg) hR
  have hc := c_X7_drink l D G H.size x0 (a 0) (a 14) (a 28) (a 33) (a 38) (a 40) (a 44) (a 1) (a 2) (a 3) (a 4) (a 5) pq (v 0) (v 1) (v 2) (v 3) (v 4) (f 0) (f 1) (f 2) (v 5) (v 6) (v 7) (v 8) (f 3) (f 4) (f 5) (f 6) (xs (x3 + (1 : Int32)).toNatClampNeg) (xs (x3 + (2 : Int32)).toNatClampNeg) _ hw
  refine x_cPi (va_runV (As := [.int (xs (x3 + (1 : Int32)).toNatClampNeg), .int (xs (x3 + (2 : Int32)).toNatClampNeg)]) (rest := []) ⟨hx, hb, hml, hown, hts⟩ hc (cwV 2 hts gL_law_X7_drink rfl rfl rfl (by decide +kernel) ⟨(Nat.le_of_ble_eq_true rfl), (Nat.le_of_ble_eq_true rfl)⟩) (xM_pv (hP.sub [0, 1, 2, 3, 4, 5, 6, 7, 8, 9, 10, 11, 12, 13, 14] rfl) hK (hD.sub [0, 1, 2, 3, 4, 5, 6, 7, 8, 9, 10, 11, 12, 13, 14] (by decide) rfl) (va_recv hK hP (ci := 7) (q0 := 0) rfl rfl)) rfl rfl hl.1 rfl (lv_room (Nat.le_of_ble_eq_true rfl)) dL_law_485 ⟨(Nat.le_of_ble_eq_true rfl), (Nat.le_of_ble_eq_true rfl)⟩) hP hD hS hA [0, 1, 2, 3, 4, 5, 6, 7, 8, 9, 10, 11, 12, 13, 14] rfl (fun u => rfl) (fun u => (lawW G x0 y0 a b pq kq sq (va_up (va_up (va_up (va_up v 3 u.1) 4 u.2.1) 5 u.2.2.1) 7 u.2.2.2.1) (va_up (va_up (va_up (va_up f 3 u.2.2.2.2.1) 4 u.2.2.2.2.2.1) 5 u.2.2.2.2.2.2.1) 6 u.2.2.2.2.2.2.2) g)) (fun u => rfl) (fun r1 u H locs hw hP hD hS => ?_)
  obtain ⟨newest_1, known_1, mayBe_1, day_1, pm_1, pb_1, pd_1, pw_1⟩ := u
  try dsimp only at hw
  replace hP : va_P D vwCl (lawW G x0 y0 a b pq kq sq (va_up (va_up (va_up (va_up v 3 newest_1) 4 known_1) 5 mayBe_1) 7 day_1) (va_up (va_up (va_up (va_up f 3 pm_1) 4 pb_1) 5 pd_1) 6 pw_1) g) H := hP
  replace hD : va_D (fun q : Nat => s.heap.size ≤ q) (lawW G x0 y0 a b pq kq sq (va_up (va_up (va_up (va_up v 3 newest_1) 4 known_1) 5 mayBe_1) 7 day_1) (va_up (va_up (va_up (va_up f 3 pm_1) 4 pb_1) 5 pd_1) 6 pw_1) g) := hD
  refine lv_aload_n hx hb dL_law_488 rfl (lv_at hl 2 rfl) ?_
  refine lv_aload_n hx hb dL_law_489 rfl (lv_at hl 0 rfl) ?_
  refine lv_iload_n hx hb dL_law_490 rfl (lv_at hl 3 rfl) ?_
  refine lv_iconst (v := 1) hx hb dL_law_491 (by decide) ?_
  refine lv_iadd hx hb dL_law_492 ?_
  refine va_sld hx hb hX hbl hbA hS (hin 1 (by decide)) dL_law_493 ?_
  refine lv_aload_n hx hb dL_law_494 rfl (lv_at hl 0 rfl) ?_
  refine lv_iload_n hx hb dL_law_495 rfl (lv_at hl 3 rfl) ?_
  refine lv_iconst (v := 2) hx hb dL_law_496 (by decide) ?_
  refine lv_iadd hx hb dL_law_497 ?_
  refine va_sld hx hb hX hbl hbA hS (hin 2 (by decide)) dL_law_498 ?_
  have hc := c_X8_drink l D G H.size y0 (b 0) (b 1) (b 2) (b 3) (b 4) (b 5) (b 6) (b 7) (b 8) (b 9) (b 10) (v 37) (v 38) (v 39) (v 40) (v 41) (v 42) (v 43) (f 29) (xs (x3 + (1 : Int32)).toNatClampNeg) (xs (x3 + (2 : Int32)).toNatClampNeg) _ hw
  refine x_cPi (va_runV (As := [.int (xs (x3 + (1 : Int32)).toNatClampNeg), .int (xs (x3 + (2 : Int32)).toNatClampNeg)]) (rest := [.int r1]) ⟨hx, hb, hml, hown, hts⟩ hc (cwV 2 hts gL_law_X8_drink rfl rfl rfl (by decide +kernel) ⟨(Nat.le_of_ble_eq_true rfl), (Nat.le_of_ble_eq_true rfl)⟩) (xM_pv (hP.sub [54, 59] rfl) hK (hD.sub [54, 59] (by decide) rfl) (va_recv hK hP (ci := 8) (q0 := 54) rfl rfl)) rfl rfl hl.1 rfl (lv_room (Nat.le_of_ble_eq_true rfl)) dL_law_499 ⟨(Nat.le_of_ble_eq_true rfl), (Nat.le_of_ble_eq_true rfl)⟩) hP hD hS hA [54, 59] rfl (fun u => rfl) (fun u => (lawW G x0 y0 a b pq kq sq (va_up (va_up (va_up (va_up v 3 newest_1) 4 known_1) 5 mayBe_1) 7 day_1) (va_up (va_up (va_up (va_up (va_up f 3 pm_1) 4 pb_1) 5 pd_1) 6 pw_1) 29 u) g)) (fun u => rfl) (fun r2 u H locs hw hP hD hS => ?_)
  obtain ⟨m_now_2, rfl⟩ : ∃ z, z = u := ⟨_, rfl⟩
  try dsimp only at hw
  replace hP : va_P D vwCl (lawW G x0 y0 a b pq kq sq (va_up (va_up (va_up (va_up v 3 newest_1) 4 known_1) 5 mayBe_1) 7 day_1) (va_up (va_up (va_up (va_up (va_up f 3 pm_1) 4 pb_1) 5 pd_1) 6 pw_1) 29 m_now_2) g) H := hP
  replace hD : va_D (fun q : Nat => s.heap.size ≤ q) (lawW G x0 y0 a b pq kq sq (va_up (va_up (va_up (va_up v 3 newest_1) 4 known_1) 5 mayBe_1) 7 day_1) (va_up (va_up (va_up (va_up (va_up f 3 pm_1) 4 pb_1) 5 pd_1) 6 pw_1) 29 m_now_2) g) := hD
  refine lv_icmp_eq (tgt := 1365) hx hb dL_law_502 (by decide) (fun _ => ?_) (fun c9 => absurd hw.1 c9)
  exact cont _ _ _ _ _ _ hw.2 hP hD hS hl
set_option maxHeartbeats 8000000 in
set_option maxRecDepth 100000 in
theorem lawc_forget {p : Program} {l : Launch} {e : Env} {s : State} {m : MethodId} {below : List Frame} {meth : Method} {c : Code} {D : va_G} {G : Nat → ClassId} {x0 y0 : Nat} {a b pq kq sq : Nat → Nat} {b0 L : Nat} {xs : Nat → Int32} (C0 : lw_At p s m meth c b0 L xs) (R : ((Nat → Int32) → (Nat → Nat → Int32) → (Nat → Nat → Int64) → Prop)) (hSt_forget : Step_forget R) (x3 : Int32) (hin : ∀ k : Nat, k ≤ 8 → vp_in (x3 + Int32.ofNat k) L) (v : Nat → Int32) (f : Nat → Nat → Int32) (g : Nat → Nat → Int64) (hR : R v f g) (H : Heap) (locs : List Loc) (ls : Array Slot) (hK : va_K D vwCl (tyL G) s) (hP : va_P D vwCl (lawW G x0 y0 a b pq kq sq v f g) H) (hD : va_D (fun q : Nat => s.heap.size ≤ q) (lawW G x0 y0 a b pq kq sq v f g)) (hS : va_S (fun q : Nat => s.heap.size ≤ q) s.heap H locs) (hl : lv_has ls 4 [(0, .ref b0), (1, .ref x0), (2, .ref y0), (3, .int x3)]) (cont : ∀ (v : Nat → Int32) (f : Nat → Nat → Int32) (g : Nat → Nat → Int64) (H : Heap) (locs : List Loc) (ls : Array Slot), R v f g → va_P D vwCl (lawW G x0 y0 a b pq kq sq v f g) H → va_D (fun q : Nat => s.heap.size ≤ q) (lawW G x0 y0 a b pq kq sq v f g) → va_S (fun q : Nat => s.heap.size ≤ q) s.heap H locs → lv_has ls 4 [(0, .ref b0), (1, .ref x0), (2, .ref y0), (3, .int x3)] → W p l e room_1 s m #[Value.ref b0] below meth c H locs 66 2290 (lw_Z below #[Value.ref b0] s) (F0 m 1365 ls [])) : W p l e room_1 s m #[Value.ref b0] below meth c H locs 66 2290 (lw_Z below #[Value.ref b0] s) (F0 m 507 ls []) := by
  obtain ⟨hx, hb, hr, hml, hown, hts0, hX, hbl, hlocks, hgv⟩ := id C0
  have hb : c.code = cL_law := hb
  have hown : s.vm.findClass RL = some m.cls := hown
  have hts : ∀ w ∈ wsL_law, w.before #[Value.ref b0] s = true := fun w h => hts0 w (wsL_law_in w h)
  have hA : ∀ q : Nat, s.heap.size ≤ q → (fun q : Nat => s.heap.size ≤ q) q := fun _ h => h
  have hbA : ¬ (fun q : Nat => s.heap.size ≤ q) b0 := Nat.not_le.mpr hbl
  refine lv_aload_n hx hb dL_law_507 rfl (lv_at hl 1 rfl) ?_
  have hw := hSt_forget v f g  hR
  have hc := c_X7_forget l D G H.size x0 (a 0) (a 14) (a 28) (a 33) (a 38) (a 40) (a 44) (a 1) (a 2) (a 3) (a 4) (a 5) pq (v 0) (v 1) (v 2) (v 3) (v 4) (v 5) (v 6) (v 7) (v 8) (f 3) (f 4) (f 5) (f 6) _ hw
  refine x_cPi (va_runV (As := []) (rest := []) ⟨hx, hb, hml, hown, hts⟩ hc (cwV 0 hts gL_law_X7_forget rfl rfl rfl (by decide +kernel) ⟨(Nat.le_of_ble_eq_true rfl), (Nat.le_of_ble_eq_true rfl)⟩) (xM_pv (hP.sub [0, 1, 5, 6, 7, 8, 9, 10, 11, 12, 13, 14] rfl) hK (hD.sub [0, 1, 5, 6, 7, 8, 9, 10, 11, 12, 13, 14] (by decide) rfl) (va_recv hK hP (ci := 7) (q0 := 0) rfl rfl)) rfl rfl hl.1 rfl (lv_room (Nat.le_of_ble_eq_true rfl)) dL_law_508 ⟨(Nat.le_of_ble_eq_true rfl), (Nat.le_of_ble_eq_true rfl)⟩) hP hD hS hA [0, 1, 5, 6, 7, 8, 9, 10, 11, 12, 13, 14] rfl (fun u => rfl) (fun u => (lawW G x0 y0 a b pq kq sq (va_up (va_up (va_up v 3 u.1) 4 u.2.1) 5 u.2.2.1) (va_up (va_up (va_up (va_up f 3 u.2.2.2.1) 4 u.2.2.2.2.1) 5 u.2.2.2.2.2.1) 6 u.2.2.2.2.2.2) g)) (fun u => rfl) (fun r1 u H locs hw hP hD hS => ?_)
  obtain ⟨newest_1, known_1, mayBe_1, pm_1, pb_1, pd_1, pw_1⟩ := u
  try dsimp only at hw
  replace hP : va_P D vwCl (lawW G x0 y0 a b pq kq sq (va_up (va_up (va_up v 3 newest_1) 4 known_1) 5 mayBe_1) (va_up (va_up (va_up (va_up f 3 pm_1) 4 pb_1) 5 pd_1) 6 pw_1) g) H := hP
  replace hD : va_D (fun q : Nat => s.heap.size ≤ q) (lawW G x0 y0 a b pq kq sq (va_up (va_up (va_up v 3 newest_1) 4 known_1) 5 mayBe_1) (va_up (va_up (va_up (va_up f 3 pm_1) 4 pb_1) 5 pd_1) 6 pw_1) g) := hD
  refine lv_aload_n hx hb dL_law_511 rfl (lv_at hl 2 rfl) ?_
  have hc := c_X8_forget l D G H.size y0 (b 0) (b 1) (b 2) (b 3) (b 4) (b 5) (b 6) (b 7) (b 8) (b 9) (b 10) (v 37) (v 38) (v 39) (v 40) (v 41) (v 42) (v 43) (f 29) _ hw
  refine x_cPi (va_runV (As := []) (rest := [.int r1]) ⟨hx, hb, hml, hown, hts⟩ hc (cwV 0 hts gL_law_X8_forget rfl rfl rfl (by decide +kernel) ⟨(Nat.le_of_ble_eq_true rfl), (Nat.le_of_ble_eq_true rfl)⟩) (xM_pv (hP.sub [54, 59] rfl) hK (hD.sub [54, 59] (by decide) rfl) (va_recv hK hP (ci := 8) (q0 := 54) rfl rfl)) rfl rfl hl.1 rfl (lv_room (Nat.le_of_ble_eq_true rfl)) dL_law_512 ⟨(Nat.le_of_ble_eq_true rfl), (Nat.le_of_ble_eq_true rfl)⟩) hP hD hS hA [54, 59] rfl (fun u => rfl) (fun u => (lawW G x0 y0 a b pq kq sq (va_up (va_up (va_up v 3 newest_1) 4 known_1) 5 mayBe_1) (va_up (va_up (va_up (va_up (va_up f 3 pm_1) 4 pb_1) 5 pd_1) 6 pw_1) 29 u) g)) (fun u => rfl) (fun r2 u H locs hw hP hD hS => ?_)
  obtain ⟨m_now_2, rfl⟩ : ∃ z, z = u := ⟨_, rfl⟩
  try dsimp only at hw
  replace hP : va_P D vwCl (lawW G x0 y0 a b pq kq sq (va_up (va_up (va_up v 3 newest_1) 4 known_1) 5 mayBe_1) (va_up (va_up (va_up (va_up (va_up f 3 pm_1) 4 pb_1) 5 pd_1) 6 pw_1) 29 m_now_2) g) H := hP
  replace hD : va_D (fun q : Nat => s.heap.size ≤ q) (lawW G x0 y0 a b pq kq sq (va_up (va_up (va_up v 3 newest_1) 4 known_1) 5 mayBe_1) (va_up (va_up (va_up (va_up (va_up f 3 pm_1) 4 pb_1) 5 pd_1) 6 pw_1) 29 m_now_2) g) := hD
  refine lv_icmp_eq (tgt := 1365) hx hb dL_law_515 (by decide) (fun _ => ?_) (fun c9 => absurd hw.1 c9)
  exact cont _ _ _ _ _ _ hw.2 hP hD hS hl
