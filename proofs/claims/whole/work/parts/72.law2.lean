set_option maxHeartbeats 8000000 in
set_option maxRecDepth 100000 in
theorem lawc_bear {p : Program} {l : Launch} {e : Env} {s : State} {m : MethodId} {below : List Frame} {meth : Method} {c : Code} {D : va_G} {G : Nat → ClassId} {x0 y0 : Nat} {a b pq kq sq : Nat → Nat} {b0 L : Nat} {xs : Nat → Int32} (C0 : lw_At p s m meth c b0 L xs) (R : ((Nat → Int32) → (Nat → Nat → Int32) → (Nat → Nat → Int64) → Prop)) (hSt_bear : Step_bear R) (x3 : Int32) (hin : ∀ k : Nat, k ≤ 8 → vp_in (x3 + Int32.ofNat k) L) (v : Nat → Int32) (f : Nat → Nat → Int32) (g : Nat → Nat → Int64) (hR : R v f g) (H : Heap) (locs : List Loc) (ls : Array Slot) (hK : va_K D vwCl (tyL G) s) (hP : va_P D vwCl (lawW G x0 y0 a b pq kq sq v f g) H) (hD : va_D (fun q : Nat => s.heap.size ≤ q) (lawW G x0 y0 a b pq kq sq v f g)) (hS : va_S (fun q : Nat => s.heap.size ≤ q) s.heap H locs) (hl : lv_has ls 4 [(0, .ref b0), (1, .ref x0), (2, .ref y0), (3, .int x3)]) (cont : ∀ (v : Nat → Int32) (f : Nat → Nat → Int32) (g : Nat → Nat → Int64) (H : Heap) (locs : List Loc) (ls : Array Slot), R v f g → va_P D vwCl (lawW G x0 y0 a b pq kq sq v f g) H → va_D (fun q : Nat => s.heap.size ≤ q) (lawW G x0 y0 a b pq kq sq v f g) → va_S (fun q : Nat => s.heap.size ≤ q) s.heap H locs → lv_has ls 4 [(0, .ref b0), (1, .ref x0), (2, .ref y0), (3, .int x3)] → W p l e room_1 s m #[Value.ref b0] below meth c H locs 66 2290 (lw_Z below #[Value.ref b0] s) (F0 m 1365 ls [])) : W p l e room_1 s m #[Value.ref b0] below meth c H locs 66 2290 (lw_Z below #[Value.ref b0] s) (F0 m 520 ls []) := by
  obtain ⟨hx, hb, hr, hml, hown, hts0, hX, hbl, hlocks, hgv⟩ := id C0
  have hb : c.code = cL_law := hb
  have hown : s.vm.findClass RL = some m.cls := hown
  have hts : ∀ w ∈ wsL_law, w.before #[Value.ref b0] s = true := fun w h => hts0 w (wsL_law_in w h)
  have hA : ∀ q : Nat, s.heap.size ≤ q → (fun q : Nat => s.heap.size ≤ q) q := fun _ h => h
  have hbA : ¬ (fun q : Nat => s.heap.size ≤ q) b0 := Nat.not_le.mpr hbl
  refine lv_aload_n hx hb dL_law_520 rfl (lv_at hl 1 rfl) ?_
  refine lv_aload_n hx hb dL_law_521 rfl (lv_at hl 0 rfl) ?_
  refine lv_iload_n hx hb dL_law_522 rfl (lv_at hl 3 rfl) ?_
  refine lv_iconst (v := 1) hx hb dL_law_523 (by decide) ?_
  refine lv_iadd hx hb dL_law_524 ?_
  refine va_sld hx hb hX hbl hbA hS (hin 1 (by decide)) dL_law_525 ?_
  have hw := hSt_bear v f g (xs (x3 + (1 : Int32)).toNatClampNeg) hR
  have hc := c_X7_bear l D G H.size x0 (a 0) (a 14) (a 28) (a 33) (a 38) (a 40) (a 44) (a 1) (a 2) (a 3) (a 4) (a 5) pq (v 0) (v 1) (v 2) (v 3) (v 4) (v 5) (v 6) (v 7) (v 8) (f 3) (f 4) (f 5) (f 6) (xs (x3 + (1 : Int32)).toNatClampNeg) _ hw
  refine x_cPi (va_runV (As := [.int (xs (x3 + (1 : Int32)).toNatClampNeg)]) (rest := []) ⟨hx, hb, hml, hown, hts⟩ hc (cwV 1 hts gL_law_X7_bear rfl rfl rfl (by decide +kernel) ⟨(Nat.le_of_ble_eq_true rfl), (Nat.le_of_ble_eq_true rfl)⟩) (xM_pv (hP.sub [0, 1, 5, 6, 7, 8, 9, 10, 11, 12, 13, 14] rfl) hK (hD.sub [0, 1, 5, 6, 7, 8, 9, 10, 11, 12, 13, 14] (by decide) rfl) (va_recv hK hP (ci := 7) (q0 := 0) rfl rfl)) rfl rfl hl.1 rfl (lv_room (Nat.le_of_ble_eq_true rfl)) dL_law_526 ⟨(Nat.le_of_ble_eq_true rfl), (Nat.le_of_ble_eq_true rfl)⟩) hP hD hS hA [0, 1, 5, 6, 7, 8, 9, 10, 11, 12, 13, 14] rfl (fun u => rfl) (fun u => (lawW G x0 y0 a b pq kq sq (va_up (va_up (va_up v 3 u.1) 4 u.2.1) 6 u.2.2.1) (va_up (va_up (va_up (va_up f 3 u.2.2.2.1) 4 u.2.2.2.2.1) 5 u.2.2.2.2.2.1) 6 u.2.2.2.2.2.2) g)) (fun u => rfl) (fun r1 u H locs hw hP hD hS => ?_)
  obtain ⟨newest_1, known_1, bearer_1, pm_1, pb_1, pd_1, pw_1⟩ := u
  try dsimp only at hw
  replace hP : va_P D vwCl (lawW G x0 y0 a b pq kq sq (va_up (va_up (va_up v 3 newest_1) 4 known_1) 6 bearer_1) (va_up (va_up (va_up (va_up f 3 pm_1) 4 pb_1) 5 pd_1) 6 pw_1) g) H := hP
  replace hD : va_D (fun q : Nat => s.heap.size ≤ q) (lawW G x0 y0 a b pq kq sq (va_up (va_up (va_up v 3 newest_1) 4 known_1) 6 bearer_1) (va_up (va_up (va_up (va_up f 3 pm_1) 4 pb_1) 5 pd_1) 6 pw_1) g) := hD
  refine lv_aload_n hx hb dL_law_529 rfl (lv_at hl 2 rfl) ?_
  refine lv_aload_n hx hb dL_law_530 rfl (lv_at hl 0 rfl) ?_
  refine lv_iload_n hx hb dL_law_531 rfl (lv_at hl 3 rfl) ?_
  refine lv_iconst (v := 1) hx hb dL_law_532 (by decide) ?_
  refine lv_iadd hx hb dL_law_533 ?_
  refine va_sld hx hb hX hbl hbA hS (hin 1 (by decide)) dL_law_534 ?_
  have hc := c_X8_bear l D G H.size y0 (b 0) (b 1) (b 2) (b 3) (b 4) (b 5) (b 6) (b 7) (b 8) (b 9) (b 10) (v 37) (v 38) (v 39) (v 40) (v 41) (v 42) (v 43) (f 29) (xs (x3 + (1 : Int32)).toNatClampNeg) _ hw
  refine x_cPi (va_runV (As := [.int (xs (x3 + (1 : Int32)).toNatClampNeg)]) (rest := [.int r1]) ⟨hx, hb, hml, hown, hts⟩ hc (cwV 1 hts gL_law_X8_bear rfl rfl rfl (by decide +kernel) ⟨(Nat.le_of_ble_eq_true rfl), (Nat.le_of_ble_eq_true rfl)⟩) (xM_pv (hP.sub [54, 59] rfl) hK (hD.sub [54, 59] (by decide) rfl) (va_recv hK hP (ci := 8) (q0 := 54) rfl rfl)) rfl rfl hl.1 rfl (lv_room (Nat.le_of_ble_eq_true rfl)) dL_law_535 ⟨(Nat.le_of_ble_eq_true rfl), (Nat.le_of_ble_eq_true rfl)⟩) hP hD hS hA [54, 59] rfl (fun u => rfl) (fun u => (lawW G x0 y0 a b pq kq sq (va_up (va_up (va_up v 3 newest_1) 4 known_1) 6 bearer_1) (va_up (va_up (va_up (va_up (va_up f 3 pm_1) 4 pb_1) 5 pd_1) 6 pw_1) 29 u) g)) (fun u => rfl) (fun r2 u H locs hw hP hD hS => ?_)
  obtain ⟨m_now_2, rfl⟩ : ∃ z, z = u := ⟨_, rfl⟩
  try dsimp only at hw
  replace hP : va_P D vwCl (lawW G x0 y0 a b pq kq sq (va_up (va_up (va_up v 3 newest_1) 4 known_1) 6 bearer_1) (va_up (va_up (va_up (va_up (va_up f 3 pm_1) 4 pb_1) 5 pd_1) 6 pw_1) 29 m_now_2) g) H := hP
  replace hD : va_D (fun q : Nat => s.heap.size ≤ q) (lawW G x0 y0 a b pq kq sq (va_up (va_up (va_up v 3 newest_1) 4 known_1) 6 bearer_1) (va_up (va_up (va_up (va_up (va_up f 3 pm_1) 4 pb_1) 5 pd_1) 6 pw_1) 29 m_now_2) g) := hD
  refine lv_icmp_eq (tgt := 1365) hx hb dL_law_538 (by decide) (fun _ => ?_) (fun c9 => absurd hw.1 c9)
  exact cont _ _ _ _ _ _ hw.2 hP hD hS hl
set_option maxHeartbeats 8000000 in
set_option maxRecDepth 100000 in
theorem lawc_drift {p : Program} {l : Launch} {e : Env} {s : State} {m : MethodId} {below : List Frame} {meth : Method} {c : Code} {D : va_G} {G : Nat → ClassId} {x0 y0 : Nat} {a b pq kq sq : Nat → Nat} {b0 L : Nat} {xs : Nat → Int32} (C0 : lw_At p s m meth c b0 L xs) (R : ((Nat → Int32) → (Nat → Nat → Int32) → (Nat → Nat → Int64) → Prop)) (hSt_drift : Step_drift R) (x3 : Int32) (hin : ∀ k : Nat, k ≤ 8 → vp_in (x3 + Int32.ofNat k) L) (v : Nat → Int32) (f : Nat → Nat → Int32) (g : Nat → Nat → Int64) (hR : R v f g) (H : Heap) (locs : List Loc) (ls : Array Slot) (hK : va_K D vwCl (tyL G) s) (hP : va_P D vwCl (lawW G x0 y0 a b pq kq sq v f g) H) (hD : va_D (fun q : Nat => s.heap.size ≤ q) (lawW G x0 y0 a b pq kq sq v f g)) (hS : va_S (fun q : Nat => s.heap.size ≤ q) s.heap H locs) (hl : lv_has ls 4 [(0, .ref b0), (1, .ref x0), (2, .ref y0), (3, .int x3)]) (cont : ∀ (v : Nat → Int32) (f : Nat → Nat → Int32) (g : Nat → Nat → Int64) (H : Heap) (locs : List Loc) (ls : Array Slot), R v f g → va_P D vwCl (lawW G x0 y0 a b pq kq sq v f g) H → va_D (fun q : Nat => s.heap.size ≤ q) (lawW G x0 y0 a b pq kq sq v f g) → va_S (fun q : Nat => s.heap.size ≤ q) s.heap H locs → lv_has ls 4 [(0, .ref b0), (1, .ref x0), (2, .ref y0), (3, .int x3)] → W p l e room_1 s m #[Value.ref b0] below meth c H locs 66 2290 (lw_Z below #[Value.ref b0] s) (F0 m 1365 ls [])) : W p l e room_1 s m #[Value.ref b0] below meth c H locs 66 2290 (lw_Z below #[Value.ref b0] s) (F0 m 543 ls []) := by
  obtain ⟨hx, hb, hr, hml, hown, hts0, hX, hbl, hlocks, hgv⟩ := id C0
  have hb : c.code = cL_law := hb
  have hown : s.vm.findClass RL = some m.cls := hown
  have hts : ∀ w ∈ wsL_law, w.before #[Value.ref b0] s = true := fun w h => hts0 w (wsL_law_in w h)
  have hA : ∀ q : Nat, s.heap.size ≤ q → (fun q : Nat => s.heap.size ≤ q) q := fun _ h => h
  have hbA : ¬ (fun q : Nat => s.heap.size ≤ q) b0 := Nat.not_le.mpr hbl
  refine lv_aload_n hx hb dL_law_543 rfl (lv_at hl 1 rfl) ?_
  refine lv_aload_n hx hb dL_law_544 rfl (lv_at hl 0 rfl) ?_
  refine lv_iload_n hx hb dL_law_545 rfl (lv_at hl 3 rfl) ?_
  refine lv_iconst (v := 1) hx hb dL_law_546 (by decide) ?_
  refine lv_iadd hx hb dL_law_547 ?_
  refine va_sld hx hb hX hbl hbA hS (hin 1 (by decide)) dL_law_548 ?_
  have hw := hSt_drift v f g (xs (x3 + (1 : Int32)).toNatClampNeg) hR
  have hc := c_X7_drift l D G H.size x0 (a 0) (a 14) (a 28) (a 33) (a 38) (a 40) (a 44) (a 1) (a 2) (a 3) (a 4) (a 5) pq (v 0) (v 1) (v 2) (v 3) (v 4) (f 0) (f 1) (f 2) (v 5) (v 6) (v 7) (v 8) (f 3) (f 4) (f 5) (f 6) (xs (x3 + (1 : Int32)).toNatClampNeg) _ hw
  refine x_cPi (va_runV (As := [.int (xs (x3 + (1 : Int32)).toNatClampNeg)]) (rest := []) ⟨hx, hb, hml, hown, hts⟩ hc (cwV 1 hts gL_law_X7_drift rfl rfl rfl (by decide +kernel) ⟨(Nat.le_of_ble_eq_true rfl), (Nat.le_of_ble_eq_true rfl)⟩) (xM_pv (hP.sub [0, 1, 2, 3, 4, 5, 6, 7, 8, 9, 10, 11, 12, 13, 14] rfl) hK (hD.sub [0, 1, 2, 3, 4, 5, 6, 7, 8, 9, 10, 11, 12, 13, 14] (by decide) rfl) (va_recv hK hP (ci := 7) (q0 := 0) rfl rfl)) rfl rfl hl.1 rfl (lv_room (Nat.le_of_ble_eq_true rfl)) dL_law_549 ⟨(Nat.le_of_ble_eq_true rfl), (Nat.le_of_ble_eq_true rfl)⟩) hP hD hS hA [0, 1, 2, 3, 4, 5, 6, 7, 8, 9, 10, 11, 12, 13, 14] rfl (fun u => rfl) (fun u => (lawW G x0 y0 a b pq kq sq (va_up (va_up (va_up (va_up (va_up v 3 u.1) 4 u.2.1) 5 u.2.2.1) 7 u.2.2.2.1) 8 u.2.2.2.2.1) (va_up (va_up (va_up (va_up f 3 u.2.2.2.2.2.1) 4 u.2.2.2.2.2.2.1) 5 u.2.2.2.2.2.2.2.1) 6 u.2.2.2.2.2.2.2.2) g)) (fun u => rfl) (fun r1 u H locs hw hP hD hS => ?_)
  obtain ⟨newest_1, known_1, mayBe_1, day_1, draw_1, pm_1, pb_1, pd_1, pw_1⟩ := u
  try dsimp only at hw
  replace hP : va_P D vwCl (lawW G x0 y0 a b pq kq sq (va_up (va_up (va_up (va_up (va_up v 3 newest_1) 4 known_1) 5 mayBe_1) 7 day_1) 8 draw_1) (va_up (va_up (va_up (va_up f 3 pm_1) 4 pb_1) 5 pd_1) 6 pw_1) g) H := hP
  replace hD : va_D (fun q : Nat => s.heap.size ≤ q) (lawW G x0 y0 a b pq kq sq (va_up (va_up (va_up (va_up (va_up v 3 newest_1) 4 known_1) 5 mayBe_1) 7 day_1) 8 draw_1) (va_up (va_up (va_up (va_up f 3 pm_1) 4 pb_1) 5 pd_1) 6 pw_1) g) := hD
  refine lv_aload_n hx hb dL_law_552 rfl (lv_at hl 2 rfl) ?_
  refine lv_aload_n hx hb dL_law_553 rfl (lv_at hl 0 rfl) ?_
  refine lv_iload_n hx hb dL_law_554 rfl (lv_at hl 3 rfl) ?_
  refine lv_iconst (v := 1) hx hb dL_law_555 (by decide) ?_
  refine lv_iadd hx hb dL_law_556 ?_
  refine va_sld hx hb hX hbl hbA hS (hin 1 (by decide)) dL_law_557 ?_
  have hc := c_X8_drift l D G H.size y0 (b 0) (b 1) (b 2) (b 3) (b 4) (b 5) (b 6) (b 7) (b 8) (b 9) (b 10) (v 37) (v 38) (v 39) (v 40) (v 41) (v 42) (v 43) (f 29) (xs (x3 + (1 : Int32)).toNatClampNeg) _ hw
  refine x_cPi (va_runV (As := [.int (xs (x3 + (1 : Int32)).toNatClampNeg)]) (rest := [.int r1]) ⟨hx, hb, hml, hown, hts⟩ hc (cwV 1 hts gL_law_X8_drift rfl rfl rfl (by decide +kernel) ⟨(Nat.le_of_ble_eq_true rfl), (Nat.le_of_ble_eq_true rfl)⟩) (xM_pv (hP.sub [54, 59] rfl) hK (hD.sub [54, 59] (by decide) rfl) (va_recv hK hP (ci := 8) (q0 := 54) rfl rfl)) rfl rfl hl.1 rfl (lv_room (Nat.le_of_ble_eq_true rfl)) dL_law_558 ⟨(Nat.le_of_ble_eq_true rfl), (Nat.le_of_ble_eq_true rfl)⟩) hP hD hS hA [54, 59] rfl (fun u => rfl) (fun u => (lawW G x0 y0 a b pq kq sq (va_up (va_up (va_up (va_up (va_up v 3 newest_1) 4 known_1) 5 mayBe_1) 7 day_1) 8 draw_1) (va_up (va_up (va_up (va_up (va_up f 3 pm_1) 4 pb_1) 5 pd_1) 6 pw_1) 29 u) g)) (fun u => rfl) (fun r2 u H locs hw hP hD hS => ?_)
  obtain ⟨m_now_2, rfl⟩ : ∃ z, z = u := ⟨_, rfl⟩
  try dsimp only at hw
  replace hP : va_P D vwCl (lawW G x0 y0 a b pq kq sq (va_up (va_up (va_up (va_up (va_up v 3 newest_1) 4 known_1) 5 mayBe_1) 7 day_1) 8 draw_1) (va_up (va_up (va_up (va_up (va_up f 3 pm_1) 4 pb_1) 5 pd_1) 6 pw_1) 29 m_now_2) g) H := hP
  replace hD : va_D (fun q : Nat => s.heap.size ≤ q) (lawW G x0 y0 a b pq kq sq (va_up (va_up (va_up (va_up (va_up v 3 newest_1) 4 known_1) 5 mayBe_1) 7 day_1) 8 draw_1) (va_up (va_up (va_up (va_up (va_up f 3 pm_1) 4 pb_1) 5 pd_1) 6 pw_1) 29 m_now_2) g) := hD
  refine lv_icmp_eq (tgt := 1365) hx hb dL_law_561 (by decide) (fun _ => ?_) (fun c9 => absurd hw.1 c9)
  exact cont _ _ _ _ _ _ hw.2 hP hD hS hl
set_option maxHeartbeats 8000000 in
set_option maxRecDepth 100000 in
theorem lawc_undo {p : Program} {l : Launch} {e : Env} {s : State} {m : MethodId} {below : List Frame} {meth : Method} {c : Code} {D : va_G} {G : Nat → ClassId} {x0 y0 : Nat} {a b pq kq sq : Nat → Nat} {b0 L : Nat} {xs : Nat → Int32} (C0 : lw_At p s m meth c b0 L xs) (R : ((Nat → Int32) → (Nat → Nat → Int32) → (Nat → Nat → Int64) → Prop)) (hSt_undo : Step_undo R) (x3 : Int32) (hin : ∀ k : Nat, k ≤ 8 → vp_in (x3 + Int32.ofNat k) L) (v : Nat → Int32) (f : Nat → Nat → Int32) (g : Nat → Nat → Int64) (hR : R v f g) (H : Heap) (locs : List Loc) (ls : Array Slot) (hK : va_K D vwCl (tyL G) s) (hP : va_P D vwCl (lawW G x0 y0 a b pq kq sq v f g) H) (hD : va_D (fun q : Nat => s.heap.size ≤ q) (lawW G x0 y0 a b pq kq sq v f g)) (hS : va_S (fun q : Nat => s.heap.size ≤ q) s.heap H locs) (hl : lv_has ls 4 [(0, .ref b0), (1, .ref x0), (2, .ref y0), (3, .int x3)]) (cont : ∀ (v : Nat → Int32) (f : Nat → Nat → Int32) (g : Nat → Nat → Int64) (H : Heap) (locs : List Loc) (ls : Array Slot), R v f g → va_P D vwCl (lawW G x0 y0 a b pq kq sq v f g) H → va_D (fun q : Nat => s.heap.size ≤ q) (lawW G x0 y0 a b pq kq sq v f g) → va_S (fun q : Nat => s.heap.size ≤ q) s.heap H locs → lv_has ls 4 [(0, .ref b0), (1, .ref x0), (2, .ref y0), (3, .int x3)] → W p l e room_1 s m #[Value.ref b0] below meth c H locs 66 2290 (lw_Z below #[Value.ref b0] s) (F0 m 1365 ls [])) : W p l e room_1 s m #[Value.ref b0] below meth c H locs 66 2290 (lw_Z below #[Value.ref b0] s) (F0 m 566 ls []) := by
  obtain ⟨hx, hb, hr, hml, hown, hts0, hX, hbl, hlocks, hgv⟩ := id C0
  have hb : c.code = cL_law := hb
  have hown : s.vm.findClass RL = some m.cls := hown
  have hts : ∀ w ∈ wsL_law, w.before #[Value.ref b0] s = true := fun w h => hts0 w (wsL_law_in w h)
  have hA : ∀ q : Nat, s.heap.size ≤ q → (fun q : Nat => s.heap.size ≤ q) q := fun _ h => h
  have hbA : ¬ (fun q : Nat => s.heap.size ≤ q) b0 := Nat.not_le.mpr hbl
  refine lv_aload_n hx hb dL_law_566 rfl (lv_at hl 1 rfl) ?_
  have hw := hSt_undo v f g  hR
  have hc := c_X7_undo l D G H.size x0 (a 0) (a 14) (a 28) (a 33) (a 38) (a 40) (a 44) (a 1) (a 2) (a 3) (a 4) (a 5) pq (v 0) (v 1) (v 2) (v 3) (v 4) (v 5) (v 6) (v 7) (v 8) (f 3) (f 4) (f 5) (f 6) _ hw
  refine x_cPi (va_runV (As := []) (rest := []) ⟨hx, hb, hml, hown, hts⟩ hc (cwV 0 hts gL_law_X7_undo rfl rfl rfl (by decide +kernel) ⟨(Nat.le_of_ble_eq_true rfl), (Nat.le_of_ble_eq_true rfl)⟩) (xM_pv (hP.sub [0, 1, 5, 6, 7, 8, 9, 10, 11, 12, 13, 14] rfl) hK (hD.sub [0, 1, 5, 6, 7, 8, 9, 10, 11, 12, 13, 14] (by decide) rfl) (va_recv hK hP (ci := 7) (q0 := 0) rfl rfl)) rfl rfl hl.1 rfl (lv_room (Nat.le_of_ble_eq_true rfl)) dL_law_567 ⟨(Nat.le_of_ble_eq_true rfl), (Nat.le_of_ble_eq_true rfl)⟩) hP hD hS hA [0, 1, 5, 6, 7, 8, 9, 10, 11, 12, 13, 14] rfl (fun u => rfl) (fun u => (lawW G x0 y0 a b pq kq sq (va_up (va_up (va_up (va_up (va_up (va_up v 3 u.1) 4 u.2.1) 5 u.2.2.1) 6 u.2.2.2.1) 7 u.2.2.2.2.1) 8 u.2.2.2.2.2) f g)) (fun u => rfl) (fun r1 u H locs hw hP hD hS => ?_)
  obtain ⟨newest_1, known_1, mayBe_1, bearer_1, day_1, draw_1⟩ := u
  try dsimp only at hw
  replace hP : va_P D vwCl (lawW G x0 y0 a b pq kq sq (va_up (va_up (va_up (va_up (va_up (va_up v 3 newest_1) 4 known_1) 5 mayBe_1) 6 bearer_1) 7 day_1) 8 draw_1) f g) H := hP
  replace hD : va_D (fun q : Nat => s.heap.size ≤ q) (lawW G x0 y0 a b pq kq sq (va_up (va_up (va_up (va_up (va_up (va_up v 3 newest_1) 4 known_1) 5 mayBe_1) 6 bearer_1) 7 day_1) 8 draw_1) f g) := hD
  refine lv_aload_n hx hb dL_law_570 rfl (lv_at hl 2 rfl) ?_
  have hc := c_X8_undo l D G H.size y0 (b 0) (b 1) (b 2) (b 3) (b 4) (b 5) (b 6) (b 7) (b 8) (b 9) (b 10) (v 37) (v 38) (v 39) (v 40) (v 41) (v 42) (v 43) (f 29) _ hw
  refine x_cPi (va_runV (As := []) (rest := [.int r1]) ⟨hx, hb, hml, hown, hts⟩ hc (cwV 0 hts gL_law_X8_undo rfl rfl rfl (by decide +kernel) ⟨(Nat.le_of_ble_eq_true rfl), (Nat.le_of_ble_eq_true rfl)⟩) (xM_pv (hP.sub [54, 59] rfl) hK (hD.sub [54, 59] (by decide) rfl) (va_recv hK hP (ci := 8) (q0 := 54) rfl rfl)) rfl rfl hl.1 rfl (lv_room (Nat.le_of_ble_eq_true rfl)) dL_law_571 ⟨(Nat.le_of_ble_eq_true rfl), (Nat.le_of_ble_eq_true rfl)⟩) hP hD hS hA [54, 59] rfl (fun u => rfl) (fun u => (lawW G x0 y0 a b pq kq sq (va_up (va_up (va_up (va_up (va_up (va_up v 3 newest_1) 4 known_1) 5 mayBe_1) 6 bearer_1) 7 day_1) 8 draw_1) (va_up f 29 u) g)) (fun u => rfl) (fun r2 u H locs hw hP hD hS => ?_)
  obtain ⟨m_now_2, rfl⟩ : ∃ z, z = u := ⟨_, rfl⟩
  try dsimp only at hw
  replace hP : va_P D vwCl (lawW G x0 y0 a b pq kq sq (va_up (va_up (va_up (va_up (va_up (va_up v 3 newest_1) 4 known_1) 5 mayBe_1) 6 bearer_1) 7 day_1) 8 draw_1) (va_up f 29 m_now_2) g) H := hP
  replace hD : va_D (fun q : Nat => s.heap.size ≤ q) (lawW G x0 y0 a b pq kq sq (va_up (va_up (va_up (va_up (va_up (va_up v 3 newest_1) 4 known_1) 5 mayBe_1) 6 bearer_1) 7 day_1) 8 draw_1) (va_up f 29 m_now_2) g) := hD
  refine lv_icmp_eq (tgt := 1365) hx hb dL_law_574 (by decide) (fun _ => ?_) (fun c9 => absurd hw.1 c9)
  exact cont _ _ _ _ _ _ hw.2 hP hD hS hl
set_option maxHeartbeats 8000000 in
set_option maxRecDepth 100000 in
theorem lawc_seed {p : Program} {l : Launch} {e : Env} {s : State} {m : MethodId} {below : List Frame} {meth : Method} {c : Code} {D : va_G} {G : Nat → ClassId} {x0 y0 : Nat} {a b pq kq sq : Nat → Nat} {b0 L : Nat} {xs : Nat → Int32} (C0 : lw_At p s m meth c b0 L xs) (R : ((Nat → Int32) → (Nat → Nat → Int32) → (Nat → Nat → Int64) → Prop)) (hSt_seed : Step_seed R) (x3 : Int32) (hin : ∀ k : Nat, k ≤ 8 → vp_in (x3 + Int32.ofNat k) L) (v : Nat → Int32) (f : Nat → Nat → Int32) (g : Nat → Nat → Int64) (hR : R v f g) (H : Heap) (locs : List Loc) (ls : Array Slot) (hK : va_K D vwCl (tyL G) s) (hP : va_P D vwCl (lawW G x0 y0 a b pq kq sq v f g) H) (hD : va_D (fun q : Nat => s.heap.size ≤ q) (lawW G x0 y0 a b pq kq sq v f g)) (hS : va_S (fun q : Nat => s.heap.size ≤ q) s.heap H locs) (hl : lv_has ls 4 [(0, .ref b0), (1, .ref x0), (2, .ref y0), (3, .int x3)]) (cont : ∀ (v : Nat → Int32) (f : Nat → Nat → Int32) (g : Nat → Nat → Int64) (H : Heap) (locs : List Loc) (ls : Array Slot), R v f g → va_P D vwCl (lawW G x0 y0 a b pq kq sq v f g) H → va_D (fun q : Nat => s.heap.size ≤ q) (lawW G x0 y0 a b pq kq sq v f g) → va_S (fun q : Nat => s.heap.size ≤ q) s.heap H locs → lv_has ls 4 [(0, .ref b0), (1, .ref x0), (2, .ref y0), (3, .int x3)] → W p l e room_1 s m #[Value.ref b0] below meth c H locs 66 2290 (lw_Z below #[Value.ref b0] s) (F0 m 1365 ls [])) : W p l e room_1 s m #[Value.ref b0] below meth c H locs 66 2290 (lw_Z below #[Value.ref b0] s) (F0 m 579 ls []) := by
  obtain ⟨hx, hb, hr, hml, hown, hts0, hX, hbl, hlocks, hgv⟩ := id C0
  have hb : c.code = cL_law := hb
  have hown : s.vm.findClass RL = some m.cls := hown
  have hts : ∀ w ∈ wsL_law, w.before #[Value.ref b0] s = true := fun w h => hts0 w (wsL_law_in w h)
  have hA : ∀ q : Nat, s.heap.size ≤ q → (fun q : Nat => s.heap.size ≤ q) q := fun _ h => h
  have hbA : ¬ (fun q : Nat => s.heap.size ≤ q) b0 := Nat.not_le.mpr hbl
  refine lv_aload_n hx hb dL_law_579 rfl (lv_at hl 1 rfl) ?_
  refine lv_aload_n hx hb dL_law_580 rfl (lv_at hl 0 rfl) ?_
  refine lv_iload_n hx hb dL_law_581 rfl (lv_at hl 3 rfl) ?_
  refine lv_iconst (v := 1) hx hb dL_law_582 (by decide) ?_
  refine lv_iadd hx hb dL_law_583 ?_
  refine va_sld hx hb hX hbl hbA hS (hin 1 (by decide)) dL_law_584 ?_
  have hw := hSt_seed v f g (xs (x3 + (1 : Int32)).toNatClampNeg) hR
  have hc := c_X7_seed l D G H.size x0 (a 0) (a 14) (a 28) (a 33) (a 38) (a 40) (a 44) (a 1) (a 2) (a 3) (a 4) (a 5) (v 0) (v 1) (v 2) (v 3) (v 4) (v 5) (v 6) (v 7) (v 8) (xs (x3 + (1 : Int32)).toNatClampNeg) _ hw
  refine x_cPi (va_runV (As := [.int (xs (x3 + (1 : Int32)).toNatClampNeg)]) (rest := []) ⟨hx, hb, hml, hown, hts⟩ hc (cwV 1 hts gL_law_X7_seed rfl rfl rfl (by decide +kernel) ⟨(Nat.le_of_ble_eq_true rfl), (Nat.le_of_ble_eq_true rfl)⟩) (xM_pv (hP.sub [0, 1, 5] rfl) hK (hD.sub [0, 1, 5] (by decide) rfl) (va_recv hK hP (ci := 7) (q0 := 0) rfl rfl)) rfl rfl hl.1 rfl (lv_room (Nat.le_of_ble_eq_true rfl)) dL_law_585 ⟨(Nat.le_of_ble_eq_true rfl), (Nat.le_of_ble_eq_true rfl)⟩) hP hD hS hA [0, 1, 5] rfl (fun u => rfl) (fun u => (lawW G x0 y0 a b pq kq sq (va_up v 8 u) f g)) (fun u => rfl) (fun r1 u H locs hw hP hD hS => ?_)
  obtain ⟨draw_1, rfl⟩ : ∃ z, z = u := ⟨_, rfl⟩
  try dsimp only at hw
  replace hP : va_P D vwCl (lawW G x0 y0 a b pq kq sq (va_up v 8 draw_1) f g) H := hP
  replace hD : va_D (fun q : Nat => s.heap.size ≤ q) (lawW G x0 y0 a b pq kq sq (va_up v 8 draw_1) f g) := hD
  refine lv_aload_n hx hb dL_law_588 rfl (lv_at hl 2 rfl) ?_
  refine lv_aload_n hx hb dL_law_589 rfl (lv_at hl 0 rfl) ?_
  refine lv_iload_n hx hb dL_law_590 rfl (lv_at hl 3 rfl) ?_
  refine lv_iconst (v := 1) hx hb dL_law_591 (by decide) ?_
  refine lv_iadd hx hb dL_law_592 ?_
  refine va_sld hx hb hX hbl hbA hS (hin 1 (by decide)) dL_law_593 ?_
  have hc := c_X8_seed l D G H.size y0 (b 0) (b 1) (b 2) (b 3) (b 4) (b 5) (b 6) (b 7) (b 8) (b 9) (b 10) (v 37) (v 38) (v 39) (v 40) (v 41) (v 42) (v 43) (f 29) (xs (x3 + (1 : Int32)).toNatClampNeg) _ hw
  refine x_cPi (va_runV (As := [.int (xs (x3 + (1 : Int32)).toNatClampNeg)]) (rest := [.int r1]) ⟨hx, hb, hml, hown, hts⟩ hc (cwV 1 hts gL_law_X8_seed rfl rfl rfl (by decide +kernel) ⟨(Nat.le_of_ble_eq_true rfl), (Nat.le_of_ble_eq_true rfl)⟩) (xM_pv (hP.sub [54, 59] rfl) hK (hD.sub [54, 59] (by decide) rfl) (va_recv hK hP (ci := 8) (q0 := 54) rfl rfl)) rfl rfl hl.1 rfl (lv_room (Nat.le_of_ble_eq_true rfl)) dL_law_594 ⟨(Nat.le_of_ble_eq_true rfl), (Nat.le_of_ble_eq_true rfl)⟩) hP hD hS hA [54, 59] rfl (fun u => rfl) (fun u => (lawW G x0 y0 a b pq kq sq (va_up v 8 draw_1) (va_up f 29 u) g)) (fun u => rfl) (fun r2 u H locs hw hP hD hS => ?_)
  obtain ⟨m_now_2, rfl⟩ : ∃ z, z = u := ⟨_, rfl⟩
  try dsimp only at hw
  replace hP : va_P D vwCl (lawW G x0 y0 a b pq kq sq (va_up v 8 draw_1) (va_up f 29 m_now_2) g) H := hP
  replace hD : va_D (fun q : Nat => s.heap.size ≤ q) (lawW G x0 y0 a b pq kq sq (va_up v 8 draw_1) (va_up f 29 m_now_2) g) := hD
  refine lv_icmp_eq (tgt := 1365) hx hb dL_law_597 (by decide) (fun _ => ?_) (fun c9 => absurd hw.1 c9)
  exact cont _ _ _ _ _ _ hw.2 hP hD hS hl
set_option maxHeartbeats 8000000 in
set_option maxRecDepth 100000 in
theorem lawc_tells {p : Program} {l : Launch} {e : Env} {s : State} {m : MethodId} {below : List Frame} {meth : Method} {c : Code} {D : va_G} {G : Nat → ClassId} {x0 y0 : Nat} {a b pq kq sq : Nat → Nat} {b0 L : Nat} {xs : Nat → Int32} (C0 : lw_At p s m meth c b0 L xs) (R : ((Nat → Int32) → (Nat → Nat → Int32) → (Nat → Nat → Int64) → Prop)) (hSt_tells : Step_tells R) (x3 : Int32) (hin : ∀ k : Nat, k ≤ 8 → vp_in (x3 + Int32.ofNat k) L) (v : Nat → Int32) (f : Nat → Nat → Int32) (g : Nat → Nat → Int64) (hR : R v f g) (H : Heap) (locs : List Loc) (ls : Array Slot) (hK : va_K D vwCl (tyL G) s) (hP : va_P D vwCl (lawW G x0 y0 a b pq kq sq v f g) H) (hD : va_D (fun q : Nat => s.heap.size ≤ q) (lawW G x0 y0 a b pq kq sq v f g)) (hS : va_S (fun q : Nat => s.heap.size ≤ q) s.heap H locs) (hl : lv_has ls 4 [(0, .ref b0), (1, .ref x0), (2, .ref y0), (3, .int x3)]) (cont : ∀ (v : Nat → Int32) (f : Nat → Nat → Int32) (g : Nat → Nat → Int64) (H : Heap) (locs : List Loc) (ls : Array Slot), R v f g → va_P D vwCl (lawW G x0 y0 a b pq kq sq v f g) H → va_D (fun q : Nat => s.heap.size ≤ q) (lawW G x0 y0 a b pq kq sq v f g) → va_S (fun q : Nat => s.heap.size ≤ q) s.heap H locs → lv_has ls 4 [(0, .ref b0), (1, .ref x0), (2, .ref y0), (3, .int x3)] → W p l e room_1 s m #[Value.ref b0] below meth c H locs 66 2290 (lw_Z below #[Value.ref b0] s) (F0 m 1365 ls [])) : W p l e room_1 s m #[Value.ref b0] below meth c H locs 66 2290 (lw_Z below #[Value.ref b0] s) (F0 m 602 ls []) := by
  obtain ⟨hx, hb, hr, hml, hown, hts0, hX, hbl, hlocks, hgv⟩ := id C0
  have hb : c.code = cL_law := hb
  have hown : s.vm.findClass RL = some m.cls := hown
  have hts : ∀ w ∈ wsL_law, w.before #[Value.ref b0] s = true := fun w h => hts0 w (wsL_law_in w h)
  have hA : ∀ q : Nat, s.heap.size ≤ q → (fun q : Nat => s.heap.size ≤ q) q := fun _ h => h
  have hbA : ¬ (fun q : Nat => s.heap.size ≤ q) b0 := Nat.not_le.mpr hbl
  refine lv_aload_n hx hb dL_law_602 rfl (lv_at hl 1 rfl) ?_
  refine lv_aload_n hx hb dL_law_603 rfl (lv_at hl 0 rfl) ?_
  refine lv_iload_n hx hb dL_law_604 rfl (lv_at hl 3 rfl) ?_
  refine lv_iconst (v := 1) hx hb dL_law_605 (by decide) ?_
  refine lv_iadd hx hb dL_law_606 ?_
  refine va_sld hx hb hX hbl hbA hS (hin 1 (by decide)) dL_law_607 ?_
  refine lv_aload_n hx hb dL_law_608 rfl (lv_at hl 0 rfl) ?_
  refine lv_iload_n hx hb dL_law_609 rfl (lv_at hl 3 rfl) ?_
  refine lv_iconst (v := 2) hx hb dL_law_610 (by decide) ?_
  refine lv_iadd hx hb dL_law_611 ?_
  refine va_sld hx hb hX hbl hbA hS (hin 2 (by decide)) dL_law_612 ?_
  have hw := hSt_tells v f g (xs (x3 + (1 : Int32)).toNatClampNeg) (xs (x3 + (2 : Int32)).toNatClampNeg) hR
  have hc := c_X7_tells l D G x0 (a 0) (a 14) (a 28) (a 33) (a 38) (a 40) (a 44) (a 1) (a 2) (a 3) (a 4) (a 5) (v 0) (v 1) (v 2) (v 3) (v 4) (f 0) (f 1) (f 2) (v 5) (v 6) (v 7) (v 8) (xs (x3 + (1 : Int32)).toNatClampNeg) (xs (x3 + (2 : Int32)).toNatClampNeg) _ hw
  refine vp_callSi (W.runV (As := [.int (xs (x3 + (1 : Int32)).toNatClampNeg), .int (xs (x3 + (2 : Int32)).toNatClampNeg)]) (rest := []) ⟨hx, hb, hml, hown, hts⟩ hc (cwV 2 hts gL_law_X7_tells rfl rfl rfl (by decide +kernel) ⟨(Nat.le_of_ble_eq_true rfl), (Nat.le_of_ble_eq_true rfl)⟩) (xR_pv (hP.sub [0, 1, 2, 3, 4, 5] rfl) hK (va_recv hK hP (ci := 7) (q0 := 0) rfl rfl)) rfl rfl hl.1 rfl (lv_room (Nat.le_of_ble_eq_true rfl)) dL_law_613 ⟨(Nat.le_of_ble_eq_true rfl), (Nat.le_of_ble_eq_true rfl)⟩) (fun r1 hw => ?_)
  refine lv_aload_n hx hb dL_law_616 rfl (lv_at hl 2 rfl) ?_
  refine lv_aload_n hx hb dL_law_617 rfl (lv_at hl 0 rfl) ?_
  refine lv_iload_n hx hb dL_law_618 rfl (lv_at hl 3 rfl) ?_
  refine lv_iconst (v := 1) hx hb dL_law_619 (by decide) ?_
  refine lv_iadd hx hb dL_law_620 ?_
  refine va_sld hx hb hX hbl hbA hS (hin 1 (by decide)) dL_law_621 ?_
  refine lv_aload_n hx hb dL_law_622 rfl (lv_at hl 0 rfl) ?_
  refine lv_iload_n hx hb dL_law_623 rfl (lv_at hl 3 rfl) ?_
  refine lv_iconst (v := 2) hx hb dL_law_624 (by decide) ?_
  refine lv_iadd hx hb dL_law_625 ?_
  refine va_sld hx hb hX hbl hbA hS (hin 2 (by decide)) dL_law_626 ?_
  have hc := c_X8_tells l D G y0 (b 0) (b 1) (b 2) (b 3) (b 4) (b 5) (b 6) (b 7) (b 8) (b 9) (b 10) (v 37) (v 38) (v 39) (v 40) (v 41) (v 42) (v 43) (f 29) (xs (x3 + (1 : Int32)).toNatClampNeg) (xs (x3 + (2 : Int32)).toNatClampNeg) _ hw
  refine vp_callSi (W.runV (As := [.int (xs (x3 + (1 : Int32)).toNatClampNeg), .int (xs (x3 + (2 : Int32)).toNatClampNeg)]) (rest := [.int r1]) ⟨hx, hb, hml, hown, hts⟩ hc (cwV 2 hts gL_law_X8_tells rfl rfl rfl (by decide +kernel) ⟨(Nat.le_of_ble_eq_true rfl), (Nat.le_of_ble_eq_true rfl)⟩) (xR_pv (hP.sub [54, 59] rfl) hK (va_recv hK hP (ci := 8) (q0 := 54) rfl rfl)) rfl rfl hl.1 rfl (lv_room (Nat.le_of_ble_eq_true rfl)) dL_law_627 ⟨(Nat.le_of_ble_eq_true rfl), (Nat.le_of_ble_eq_true rfl)⟩) (fun r2 hw => ?_)
  refine lv_icmp_eq (tgt := 1365) hx hb dL_law_630 (by decide) (fun _ => ?_) (fun c9 => absurd hw.1 c9)
  exact cont _ _ _ _ _ _ hw.2 hP hD hS hl
set_option maxHeartbeats 8000000 in
set_option maxRecDepth 100000 in
theorem lawc_fewest {p : Program} {l : Launch} {e : Env} {s : State} {m : MethodId} {below : List Frame} {meth : Method} {c : Code} {D : va_G} {G : Nat → ClassId} {x0 y0 : Nat} {a b pq kq sq : Nat → Nat} {b0 L : Nat} {xs : Nat → Int32} (C0 : lw_At p s m meth c b0 L xs) (R : ((Nat → Int32) → (Nat → Nat → Int32) → (Nat → Nat → Int64) → Prop)) (hSt_fewest : Step_fewest R) (x3 : Int32) (hin : ∀ k : Nat, k ≤ 8 → vp_in (x3 + Int32.ofNat k) L) (v : Nat → Int32) (f : Nat → Nat → Int32) (g : Nat → Nat → Int64) (hR : R v f g) (H : Heap) (locs : List Loc) (ls : Array Slot) (hK : va_K D vwCl (tyL G) s) (hP : va_P D vwCl (lawW G x0 y0 a b pq kq sq v f g) H) (hD : va_D (fun q : Nat => s.heap.size ≤ q) (lawW G x0 y0 a b pq kq sq v f g)) (hS : va_S (fun q : Nat => s.heap.size ≤ q) s.heap H locs) (hl : lv_has ls 4 [(0, .ref b0), (1, .ref x0), (2, .ref y0), (3, .int x3)]) (cont : ∀ (v : Nat → Int32) (f : Nat → Nat → Int32) (g : Nat → Nat → Int64) (H : Heap) (locs : List Loc) (ls : Array Slot), R v f g → va_P D vwCl (lawW G x0 y0 a b pq kq sq v f g) H → va_D (fun q : Nat => s.heap.size ≤ q) (lawW G x0 y0 a b pq kq sq v f g) → va_S (fun q : Nat => s.heap.size ≤ q) s.heap H locs → lv_has ls 4 [(0, .ref b0), (1, .ref x0), (2, .ref y0), (3, .int x3)] → W p l e room_1 s m #[Value.ref b0] below meth c H locs 66 2290 (lw_Z below #[Value.ref b0] s) (F0 m 1365 ls [])) : W p l e room_1 s m #[Value.ref b0] below meth c H locs 66 2290 (lw_Z below #[Value.ref b0] s) (F0 m 635 ls []) := by
  obtain ⟨hx, hb, hr, hml, hown, hts0, hX, hbl, hlocks, hgv⟩ := id C0
  have hb : c.code = cL_law := hb
  have hown : s.vm.findClass RL = some m.cls := hown
  have hts : ∀ w ∈ wsL_law, w.before #[Value.ref b0] s = true := fun w h => hts0 w (wsL_law_in w h)
  have hA : ∀ q : Nat, s.heap.size ≤ q → (fun q : Nat => s.heap.size ≤ q) q := fun _ h => h
  have hbA : ¬ (fun q : Nat => s.heap.size ≤ q) b0 := Nat.not_le.mpr hbl
  refine lv_aload_n hx hb dL_law_635 rfl (lv_at hl 1 rfl) ?_
  refine lv_aload_n hx hb dL_law_636 rfl (lv_at hl 0 rfl) ?_
  refine lv_iload_n hx hb dL_law_637 rfl (lv_at hl 3 rfl) ?_
  refine lv_iconst (v := 1) hx hb dL_law_638 (by decide) ?_
  refine lv_iadd hx hb dL_law_639 ?_
  refine va_sld hx hb hX hbl hbA hS (hin 1 (by decide)) dL_law_640 ?_
  have hw := hSt_fewest v f g (xs (x3 + (1 : Int32)).toNatClampNeg) hR
  have hc := c_X7_fewest l D G H.size x0 (a 0) (a 14) (a 28) (a 33) (a 38) (a 40) (a 44) (a 1) (a 2) (a 3) (a 4) (a 5) (a 34) (a 35) (a 36) (a 37) (v 0) (v 1) (v 2) (v 3) (v 4) (f 0) (f 1) (f 2) (v 5) (v 6) (v 7) (v 8) (v 22) (v 23) (v 24) (v 25) (v 26) (f 18) (f 19) (f 20) (f 21) (xs (x3 + (1 : Int32)).toNatClampNeg) _ hw
  refine x_cPi (va_runV (As := [.int (xs (x3 + (1 : Int32)).toNatClampNeg)]) (rest := []) ⟨hx, hb, hml, hown, hts⟩ hc (cwV 1 hts gL_law_X7_fewest rfl rfl rfl (by decide +kernel) ⟨(Nat.le_of_ble_eq_true rfl), (Nat.le_of_ble_eq_true rfl)⟩) (xM_pv (hP.sub [0, 1, 2, 3, 4, 5, 34, 35, 36, 37, 38] rfl) hK (hD.sub [0, 1, 2, 3, 4, 5, 34, 35, 36, 37, 38] (by decide) rfl) (va_recv hK hP (ci := 7) (q0 := 0) rfl rfl)) rfl rfl hl.1 rfl (lv_room (Nat.le_of_ble_eq_true rfl)) dL_law_641 ⟨(Nat.le_of_ble_eq_true rfl), (Nat.le_of_ble_eq_true rfl)⟩) hP hD hS hA [0, 1, 2, 3, 4, 5, 34, 35, 36, 37, 38] rfl (fun u => rfl) (fun u => (lawW G x0 y0 a b pq kq sq (va_up (va_up (va_up v 22 u.1) 23 u.2.1) 24 u.2.2.1) (va_up (va_up (va_up (va_up f 18 u.2.2.2.1) 19 u.2.2.2.2.1) 20 u.2.2.2.2.2.1) 21 u.2.2.2.2.2.2) g)) (fun u => rfl) (fun r1 u H locs hw hP hD hS => ?_)
  obtain ⟨p_mayBe_1, p_lastMix_1, p_cutCount_1, p_told_1, p_cuts_1, p_isCut_1, p_depths_1⟩ := u
  try dsimp only at hw
  replace hP : va_P D vwCl (lawW G x0 y0 a b pq kq sq (va_up (va_up (va_up v 22 p_mayBe_1) 23 p_lastMix_1) 24 p_cutCount_1) (va_up (va_up (va_up (va_up f 18 p_told_1) 19 p_cuts_1) 20 p_isCut_1) 21 p_depths_1) g) H := hP
  replace hD : va_D (fun q : Nat => s.heap.size ≤ q) (lawW G x0 y0 a b pq kq sq (va_up (va_up (va_up v 22 p_mayBe_1) 23 p_lastMix_1) 24 p_cutCount_1) (va_up (va_up (va_up (va_up f 18 p_told_1) 19 p_cuts_1) 20 p_isCut_1) 21 p_depths_1) g) := hD
  refine lv_aload_n hx hb dL_law_644 rfl (lv_at hl 2 rfl) ?_
  refine lv_aload_n hx hb dL_law_645 rfl (lv_at hl 0 rfl) ?_
  refine lv_iload_n hx hb dL_law_646 rfl (lv_at hl 3 rfl) ?_
  refine lv_iconst (v := 1) hx hb dL_law_647 (by decide) ?_
  refine lv_iadd hx hb dL_law_648 ?_
  refine va_sld hx hb hX hbl hbA hS (hin 1 (by decide)) dL_law_649 ?_
  have hc := c_X8_fewest l D G H.size y0 (b 0) (b 1) (b 2) (b 3) (b 4) (b 5) (b 6) (b 7) (b 8) (b 9) (b 10) (v 37) (v 38) (v 39) (v 40) (v 41) (v 42) (v 43) (f 29) (f 33) (f 34) (xs (x3 + (1 : Int32)).toNatClampNeg) _ hw
  refine x_cPi (va_runV (As := [.int (xs (x3 + (1 : Int32)).toNatClampNeg)]) (rest := [.int r1]) ⟨hx, hb, hml, hown, hts⟩ hc (cwV 1 hts gL_law_X8_fewest rfl rfl rfl (by decide +kernel) ⟨(Nat.le_of_ble_eq_true rfl), (Nat.le_of_ble_eq_true rfl)⟩) (xM_pv (hP.sub [54, 59, 63, 64] rfl) hK (hD.sub [54, 59, 63, 64] (by decide) rfl) (va_recv hK hP (ci := 8) (q0 := 54) rfl rfl)) rfl rfl hl.1 rfl (lv_room (Nat.le_of_ble_eq_true rfl)) dL_law_650 ⟨(Nat.le_of_ble_eq_true rfl), (Nat.le_of_ble_eq_true rfl)⟩) hP hD hS hA [54, 59, 63, 64] rfl (fun u => rfl) (fun u => (lawW G x0 y0 a b pq kq sq (va_up (va_up (va_up v 22 p_mayBe_1) 23 p_lastMix_1) 24 p_cutCount_1) (va_up (va_up (va_up (va_up (va_up (va_up f 18 p_told_1) 19 p_cuts_1) 20 p_isCut_1) 21 p_depths_1) 33 u.1) 34 u.2) g)) (fun u => rfl) (fun r2 u H locs hw hP hD hS => ?_)
  obtain ⟨m_noticed_2, m_needs_2⟩ := u
  try dsimp only at hw
  replace hP : va_P D vwCl (lawW G x0 y0 a b pq kq sq (va_up (va_up (va_up v 22 p_mayBe_1) 23 p_lastMix_1) 24 p_cutCount_1) (va_up (va_up (va_up (va_up (va_up (va_up f 18 p_told_1) 19 p_cuts_1) 20 p_isCut_1) 21 p_depths_1) 33 m_noticed_2) 34 m_needs_2) g) H := hP
  replace hD : va_D (fun q : Nat => s.heap.size ≤ q) (lawW G x0 y0 a b pq kq sq (va_up (va_up (va_up v 22 p_mayBe_1) 23 p_lastMix_1) 24 p_cutCount_1) (va_up (va_up (va_up (va_up (va_up (va_up f 18 p_told_1) 19 p_cuts_1) 20 p_isCut_1) 21 p_depths_1) 33 m_noticed_2) 34 m_needs_2) g) := hD
  refine lv_icmp_eq (tgt := 1365) hx hb dL_law_653 (by decide) (fun _ => ?_) (fun c9 => absurd hw.1 c9)
  exact cont _ _ _ _ _ _ hw.2 hP hD hS hl
