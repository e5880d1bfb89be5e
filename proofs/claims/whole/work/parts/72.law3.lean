set_option maxHeartbeats 8000000 in
set_option maxRecDepth 100000 in
theorem lawc_next {p : Program} {l : Launch} {e : Env} {s : State} {m : MethodId} {below : List Frame} {meth : Method} {c : Code} {D : va_G} {G : Nat → ClassId} {x0 y0 : Nat} {a b pq kq sq : Nat → Nat} {b0 L : Nat} {xs : Nat → Int32} (C0 : lw_At p s m meth c b0 L xs) (R : ((Nat → Int32) → (Nat → Nat → Int32) → (Nat → Nat → Int64) → Prop)) (hSt_next : Step_next R) (x3 : Int32) (hin : ∀ k : Nat, k ≤ 8 → vp_in (x3 + Int32.ofNat k) L) (v : Nat → Int32) (f : Nat → Nat → Int32) (g : Nat → Nat → Int64) (hR : R v f g) (H : Heap) (locs : List Loc) (ls : Array Slot) (hK : va_K D vwCl (tyL G) s) (hP : va_P D vwCl (lawW G x0 y0 a b pq kq sq v f g) H) (hD : va_D (fun q : Nat => s.heap.size ≤ q) (lawW G x0 y0 a b pq kq sq v f g)) (hS : va_S (fun q : Nat => s.heap.size ≤ q) s.heap H locs) (hl : lv_has ls 4 [(0, .ref b0), (1, .ref x0), (2, .ref y0), (3, .int x3)]) (cont : ∀ (v : Nat → Int32) (f : Nat → Nat → Int32) (g : Nat → Nat → Int64) (H : Heap) (locs : List Loc) (ls : Array Slot), R v f g → va_P D vwCl (lawW G x0 y0 a b pq kq sq v f g) H → va_D (fun q : Nat => s.heap.size ≤ q) (lawW G x0 y0 a b pq kq sq v f g) → va_S (fun q : Nat => s.heap.size ≤ q) s.heap H locs → lv_has ls 4 [(0, .ref b0), (1, .ref x0), (2, .ref y0), (3, .int x3)] → W p l e room_1 s m #[Value.ref b0] below meth c H locs 66 2290 (lw_Z below #[Value.ref b0] s) (F0 m 1365 ls [])) : W p l e room_1 s m #[Value.ref b0] below meth c H locs 66 2290 (lw_Z below #[Value.ref b0] s) (F0 m 658 ls []) := by
  obtain ⟨hx, hb, hr, hml, hown, hts0, hX, hbl, hlocks, hgv⟩ := id C0
  have hb : c.code = cL_law := hb
  have hown : s.vm.findClass RL = some m.cls := hown
  have hts : ∀ w ∈ wsL_law, w.before #[Value.ref b0] s = true := fun w h => hts0 w (wsL_law_in w h)
  have hA : ∀ q : Nat, s.heap.size ≤ q → (fun q : Nat => s.heap.size ≤ q) q := fun _ h => h
  have hbA : ¬ (fun q : Nat => s.heap.size ≤ q) b0 := Nat.not_le.mpr hbl
  refine lv_aload_n hx hb dL_law_658 rfl (lv_at hl 1 rfl) ?_
  refine lv_aload_n hx hb dL_law_659 rfl (lv_at hl 0 rfl) ?_
  refine lv_iload_n hx hb dL_law_660 rfl (lv_at hl 3 rfl) ?_
  refine lv_iconst (v := 1) hx hb dL_law_661 (by decide) ?_
  refine lv_iadd hx hb dL_law_662 ?_
  refine va_sld hx hb hX hbl hbA hS (hin 1 (by decide)) dL_law_663 ?_
  have hw := hSt_next v f g (xs (x3 + (1 : Int32)).toNatClampNeg) hR
  have hc := c_X7_next l D G H.size x0 (a 0) (a 14) (a 28) (a 33) (a 38) (a 40) (a 44) (a 1) (a 2) (a 3) (a 4) (a 5) (a 34) (a 35) (a 36) (a 37) (v 0) (v 1) (v 2) (v 3) (v 4) (f 0) (f 1) (f 2) (v 5) (v 6) (v 7) (v 8) (v 22) (v 23) (v 24) (v 25) (v 26) (f 18) (f 19) (f 20) (f 21) (xs (x3 + (1 : Int32)).toNatClampNeg) _ hw
  refine x_cPi (va_runV (As := [.int (xs (x3 + (1 : Int32)).toNatClampNeg)]) (rest := []) ⟨hx, hb, hml, hown, hts⟩ hc (cwV 1 hts gL_law_X7_next rfl rfl rfl (by decide +kernel) ⟨(Nat.le_of_ble_eq_true rfl), (Nat.le_of_ble_eq_true rfl)⟩) (xM_pv (hP.sub [0, 1, 2, 3, 4, 5, 34, 35, 36, 37, 38] rfl) hK (hD.sub [0, 1, 2, 3, 4, 5, 34, 35, 36, 37, 38] (by decide) rfl) (va_recv hK hP (ci := 7) (q0 := 0) rfl rfl)) rfl rfl hl.1 rfl (lv_room (Nat.le_of_ble_eq_true rfl)) dL_law_664 ⟨(Nat.le_of_ble_eq_true rfl), (Nat.le_of_ble_eq_true rfl)⟩) hP hD hS hA [0, 1, 2, 3, 4, 5, 34, 35, 36, 37, 38] rfl (fun u => rfl) (fun u => (lawW G x0 y0 a b pq kq sq (va_up (va_up (va_up v 22 u.1) 23 u.2.1) 24 u.2.2.1) (va_up (va_up (va_up (va_up f 18 u.2.2.2.1) 19 u.2.2.2.2.1) 20 u.2.2.2.2.2.1) 21 u.2.2.2.2.2.2) g)) (fun u => rfl) (fun r1 u H locs hw hP hD hS => ?_)
  obtain ⟨p_mayBe_1, p_lastMix_1, p_cutCount_1, p_told_1, p_cuts_1, p_isCut_1, p_depths_1⟩ := u
  try dsimp only at hw
  replace hP : va_P D vwCl (lawW G x0 y0 a b pq kq sq (va_up (va_up (va_up v 22 p_mayBe_1) 23 p_lastMix_1) 24 p_cutCount_1) (va_up (va_up (va_up (va_up f 18 p_told_1) 19 p_cuts_1) 20 p_isCut_1) 21 p_depths_1) g) H := hP
  replace hD : va_D (fun q : Nat => s.heap.size ≤ q) (lawW G x0 y0 a b pq kq sq (va_up (va_up (va_up v 22 p_mayBe_1) 23 p_lastMix_1) 24 p_cutCount_1) (va_up (va_up (va_up (va_up f 18 p_told_1) 19 p_cuts_1) 20 p_isCut_1) 21 p_depths_1) g) := hD
  refine lv_aload_n hx hb dL_law_667 rfl (lv_at hl 2 rfl) ?_
  refine lv_aload_n hx hb dL_law_668 rfl (lv_at hl 0 rfl) ?_
  refine lv_iload_n hx hb dL_law_669 rfl (lv_at hl 3 rfl) ?_
  refine lv_iconst (v := 1) hx hb dL_law_670 (by decide) ?_
  refine lv_iadd hx hb dL_law_671 ?_
  refine va_sld hx hb hX hbl hbA hS (hin 1 (by decide)) dL_law_672 ?_
  have hc := c_X8_next l D G H.size y0 (b 0) (b 1) (b 2) (b 3) (b 4) (b 5) (b 6) (b 7) (b 8) (b 9) (b 10) (v 37) (v 38) (v 39) (v 40) (v 41) (v 42) (v 43) (f 29) (f 33) (f 34) (xs (x3 + (1 : Int32)).toNatClampNeg) _ hw
  refine x_cPi (va_runV (As := [.int (xs (x3 + (1 : Int32)).toNatClampNeg)]) (rest := [.int r1]) ⟨hx, hb, hml, hown, hts⟩ hc (cwV 1 hts gL_law_X8_next rfl rfl rfl (by decide +kernel) ⟨(Nat.le_of_ble_eq_true rfl), (Nat.le_of_ble_eq_true rfl)⟩) (xM_pv (hP.sub [54, 59, 63, 64] rfl) hK (hD.sub [54, 59, 63, 64] (by decide) rfl) (va_recv hK hP (ci := 8) (q0 := 54) rfl rfl)) rfl rfl hl.1 rfl (lv_room (Nat.le_of_ble_eq_true rfl)) dL_law_673 ⟨(Nat.le_of_ble_eq_true rfl), (Nat.le_of_ble_eq_true rfl)⟩) hP hD hS hA [54, 59, 63, 64] rfl (fun u => rfl) (fun u => (lawW G x0 y0 a b pq kq sq (va_up (va_up (va_up v 22 p_mayBe_1) 23 p_lastMix_1) 24 p_cutCount_1) (va_up (va_up (va_up (va_up (va_up (va_up f 18 p_told_1) 19 p_cuts_1) 20 p_isCut_1) 21 p_depths_1) 33 u.1) 34 u.2) g)) (fun u => rfl) (fun r2 u H locs hw hP hD hS => ?_)
  obtain ⟨m_noticed_2, m_needs_2⟩ := u
  try dsimp only at hw
  replace hP : va_P D vwCl (lawW G x0 y0 a b pq kq sq (va_up (va_up (va_up v 22 p_mayBe_1) 23 p_lastMix_1) 24 p_cutCount_1) (va_up (va_up (va_up (va_up (va_up (va_up f 18 p_told_1) 19 p_cuts_1) 20 p_isCut_1) 21 p_depths_1) 33 m_noticed_2) 34 m_needs_2) g) H := hP
  replace hD : va_D (fun q : Nat => s.heap.size ≤ q) (lawW G x0 y0 a b pq kq sq (va_up (va_up (va_up v 22 p_mayBe_1) 23 p_lastMix_1) 24 p_cutCount_1) (va_up (va_up (va_up (va_up (va_up (va_up f 18 p_told_1) 19 p_cuts_1) 20 p_isCut_1) 21 p_depths_1) 33 m_noticed_2) 34 m_needs_2) g) := hD
  refine lv_icmp_eq (tgt := 1365) hx hb dL_law_676 (by decide) (fun _ => ?_) (fun c9 => absurd hw.1 c9)
  exact cont _ _ _ _ _ _ hw.2 hP hD hS hl
set_option maxHeartbeats 8000000 in
set_option maxRecDepth 100000 in
theorem lawc_once {p : Program} {l : Launch} {e : Env} {s : State} {m : MethodId} {below : List Frame} {meth : Method} {c : Code} {D : va_G} {G : Nat → ClassId} {x0 y0 : Nat} {a b pq kq sq : Nat → Nat} {b0 L : Nat} {xs : Nat → Int32} (C0 : lw_At p s m meth c b0 L xs) (R : ((Nat → Int32) → (Nat → Nat → Int32) → (Nat → Nat → Int64) → Prop)) (hSt_once : Step_once R) (x3 : Int32) (hin : ∀ k : Nat, k ≤ 8 → vp_in (x3 + Int32.ofNat k) L) (v : Nat → Int32) (f : Nat → Nat → Int32) (g : Nat → Nat → Int64) (hR : R v f g) (H : Heap) (locs : List Loc) (ls : Array Slot) (hK : va_K D vwCl (tyL G) s) (hP : va_P D vwCl (lawW G x0 y0 a b pq kq sq v f g) H) (hD : va_D (fun q : Nat => s.heap.size ≤ q) (lawW G x0 y0 a b pq kq sq v f g)) (hS : va_S (fun q : Nat => s.heap.size ≤ q) s.heap H locs) (hl : lv_has ls 4 [(0, .ref b0), (1, .ref x0), (2, .ref y0), (3, .int x3)]) (cont : ∀ (v : Nat → Int32) (f : Nat → Nat → Int32) (g : Nat → Nat → Int64) (H : Heap) (locs : List Loc) (ls : Array Slot), R v f g → va_P D vwCl (lawW G x0 y0 a b pq kq sq v f g) H → va_D (fun q : Nat => s.heap.size ≤ q) (lawW G x0 y0 a b pq kq sq v f g) → va_S (fun q : Nat => s.heap.size ≤ q) s.heap H locs → lv_has ls 4 [(0, .ref b0), (1, .ref x0), (2, .ref y0), (3, .int x3)] → W p l e room_1 s m #[Value.ref b0] below meth c H locs 66 2290 (lw_Z below #[Value.ref b0] s) (F0 m 1365 ls [])) : W p l e room_1 s m #[Value.ref b0] below meth c H locs 66 2290 (lw_Z below #[Value.ref b0] s) (F0 m 681 ls []) := by
  obtain ⟨hx, hb, hr, hml, hown, hts0, hX, hbl, hlocks, hgv⟩ := id C0
  have hb : c.code = cL_law := hb
  have hown : s.vm.findClass RL = some m.cls := hown
  have hts : ∀ w ∈ wsL_law, w.before #[Value.ref b0] s = true := fun w h => hts0 w (wsL_law_in w h)
  have hA : ∀ q : Nat, s.heap.size ≤ q → (fun q : Nat => s.heap.size ≤ q) q := fun _ h => h
  have hbA : ¬ (fun q : Nat => s.heap.size ≤ q) b0 := Nat.not_le.mpr hbl
  refine lv_aload_n hx hb dL_law_681 rfl (lv_at hl 1 rfl) ?_
  refine lv_aload_n hx hb dL_law_682 rfl (lv_at hl 0 rfl) ?_
  refine lv_iload_n hx hb dL_law_683 rfl (lv_at hl 3 rfl) ?_
  refine lv_iconst (v := 1) hx hb dL_law_684 (by decide) ?_
  refine lv_iadd hx hb dL_law_685 ?_
  refine va_sld hx hb hX hbl hbA hS (hin 1 (by decide)) dL_law_686 ?_
  refine lv_aload_n hx hb dL_law_687 rfl (lv_at hl 0 rfl) ?_
  refine lv_iload_n hx hb dL_law_688 rfl (lv_at hl 3 rfl) ?_
  refine lv_iconst (v := 2) hx hb dL_law_689 (by decide) ?_
  refine lv_iadd hx hb dL_law_690 ?_
  refine va_sld hx hb hX hbl hbA hS (hin 2 (by decide)) dL_law_691 ?_
  have hw := hSt_once v f g (xs (x3 + (1 : Int32)).toNatClampNeg) (xs (x3 + (2 : Int32)).toNatClampNeg) hR
  have hc := c_X7_once l D G H.size x0 (a 0) (a 14) (a 28) (a 33) (a 38) (a 40) (a 44) (a 1) (a 2) (a 3) (a 4) (a 5) (a 34) (a 35) (a 36) (a 37) (v 0) (v 1) (v 2) (v 3) (v 4) (f 0) (f 1) (f 2) (v 5) (v 6) (v 7) (v 8) (v 22) (v 23) (v 24) (v 25) (v 26) (f 18) (xs (x3 + (1 : Int32)).toNatClampNeg) (xs (x3 + (2 : Int32)).toNatClampNeg) _ hw
  refine x_cPi (va_runV (As := [.int (xs (x3 + (1 : Int32)).toNatClampNeg), .int (xs (x3 + (2 : Int32)).toNatClampNeg)]) (rest := []) ⟨hx, hb, hml, hown, hts⟩ hc (cwV 2 hts gL_law_X7_once rfl rfl rfl (by decide +kernel) ⟨(Nat.le_of_ble_eq_true rfl), (Nat.le_of_ble_eq_true rfl)⟩) (xM_pv (hP.sub [0, 1, 2, 3, 4, 5, 34, 35] rfl) hK (hD.sub [0, 1, 2, 3, 4, 5, 34, 35] (by decide) rfl) (va_recv hK hP (ci := 7) (q0 := 0) rfl rfl)) rfl rfl hl.1 rfl (lv_room (Nat.le_of_ble_eq_true rfl)) dL_law_692 ⟨(Nat.le_of_ble_eq_true rfl), (Nat.le_of_ble_eq_true rfl)⟩) hP hD hS hA [0, 1, 2, 3, 4, 5, 34, 35] rfl (fun u => rfl) (fun u => (lawW G x0 y0 a b pq kq sq (va_up (va_up (va_up (va_up v 22 u.1) 23 u.2.1) 25 u.2.2.1) 26 u.2.2.2.1) (va_up f 18 u.2.2.2.2) g)) (fun u => rfl) (fun r1 u H locs hw hP hD hS => ?_)
  obtain ⟨p_mayBe_1, p_lastMix_1, p_lesser_1, p_greater_1, p_told_1⟩ := u
  try dsimp only at hw
  replace hP : va_P D vwCl (lawW G x0 y0 a b pq kq sq (va_up (va_up (va_up (va_up v 22 p_mayBe_1) 23 p_lastMix_1) 25 p_lesser_1) 26 p_greater_1) (va_up f 18 p_told_1) g) H := hP
  replace hD : va_D (fun q : Nat => s.heap.size ≤ q) (lawW G x0 y0 a b pq kq sq (va_up (va_up (va_up (va_up v 22 p_mayBe_1) 23 p_lastMix_1) 25 p_lesser_1) 26 p_greater_1) (va_up f 18 p_told_1) g) := hD
  refine lv_aload_n hx hb dL_law_695 rfl (lv_at hl 2 rfl) ?_
  refine lv_aload_n hx hb dL_law_696 rfl (lv_at hl 0 rfl) ?_
  refine lv_iload_n hx hb dL_law_697 rfl (lv_at hl 3 rfl) ?_
  refine lv_iconst (v := 1) hx hb dL_law_698 (by decide) ?_
  refine lv_iadd hx hb dL_law_699 ?_
  refine va_sld hx hb hX hbl hbA hS (hin 1 (by decide)) dL_law_700 ?_
  refine lv_aload_n hx hb dL_law_701 rfl (lv_at hl 0 rfl) ?_
  refine lv_iload_n hx hb dL_law_702 rfl (lv_at hl 3 rfl) ?_
  refine lv_iconst (v := 2) hx hb dL_law_703 (by decide) ?_
  refine lv_iadd hx hb dL_law_704 ?_
  refine va_sld hx hb hX hbl hbA hS (hin 2 (by decide)) dL_law_705 ?_
  have hc := c_X8_once l D G H.size y0 (b 0) (b 1) (b 2) (b 3) (b 4) (b 5) (b 6) (b 7) (b 8) (b 9) (b 10) (v 37) (v 38) (v 39) (v 40) (v 41) (v 42) (v 43) (f 29) (f 33) (xs (x3 + (1 : Int32)).toNatClampNeg) (xs (x3 + (2 : Int32)).toNatClampNeg) _ hw
  refine x_cPi (va_runV (As := [.int (xs (x3 + (1 : Int32)).toNatClampNeg), .int (xs (x3 + (2 : Int32)).toNatClampNeg)]) (rest := [.int r1]) ⟨hx, hb, hml, hown, hts⟩ hc (cwV 2 hts gL_law_X8_once rfl rfl rfl (by decide +kernel) ⟨(Nat.le_of_ble_eq_true rfl), (Nat.le_of_ble_eq_true rfl)⟩) (xM_pv (hP.sub [54, 59, 63] rfl) hK (hD.sub [54, 59, 63] (by decide) rfl) (va_recv hK hP (ci := 8) (q0 := 54) rfl rfl)) rfl rfl hl.1 rfl (lv_room (Nat.le_of_ble_eq_true rfl)) dL_law_706 ⟨(Nat.le_of_ble_eq_true rfl), (Nat.le_of_ble_eq_true rfl)⟩) hP hD hS hA [54, 59, 63] rfl (fun u => rfl) (fun u => (lawW G x0 y0 a b pq kq sq (va_up (va_up (va_up (va_up (va_up (va_up (va_up v 22 p_mayBe_1) 23 p_lastMix_1) 25 p_lesser_1) 26 p_greater_1) 41 u.1) 42 u.2.1) 43 u.2.2.1) (va_up (va_up f 18 p_told_1) 33 u.2.2.2) g)) (fun u => rfl) (fun r2 u H locs hw hP hD hS => ?_)
  obtain ⟨m_many_2, m_one_2, m_two_2, m_noticed_2⟩ := u
  try dsimp only at hw
  replace hP : va_P D vwCl (lawW G x0 y0 a b pq kq sq (va_up (va_up (va_up (va_up (va_up (va_up (va_up v 22 p_mayBe_1) 23 p_lastMix_1) 25 p_lesser_1) 26 p_greater_1) 41 m_many_2) 42 m_one_2) 43 m_two_2) (va_up (va_up f 18 p_told_1) 33 m_noticed_2) g) H := hP
  replace hD : va_D (fun q : Nat => s.heap.size ≤ q) (lawW G x0 y0 a b pq kq sq (va_up (va_up (va_up (va_up (va_up (va_up (va_up v 22 p_mayBe_1) 23 p_lastMix_1) 25 p_lesser_1) 26 p_greater_1) 41 m_many_2) 42 m_one_2) 43 m_two_2) (va_up (va_up f 18 p_told_1) 33 m_noticed_2) g) := hD
  refine lv_icmp_eq (tgt := 1365) hx hb dL_law_709 (by decide) (fun _ => ?_) (fun c9 => absurd hw.1 c9)
  exact cont _ _ _ _ _ _ hw.2 hP hD hS hl
set_option maxHeartbeats 8000000 in
set_option maxRecDepth 100000 in
theorem lawc_halves {p : Program} {l : Launch} {e : Env} {s : State} {m : MethodId} {below : List Frame} {meth : Method} {c : Code} {D : va_G} {G : Nat → ClassId} {x0 y0 : Nat} {a b pq kq sq : Nat → Nat} {b0 L : Nat} {xs : Nat → Int32} (C0 : lw_At p s m meth c b0 L xs) (R : ((Nat → Int32) → (Nat → Nat → Int32) → (Nat → Nat → Int64) → Prop)) (hSt_halves : Step_halves R) (x3 : Int32) (hin : ∀ k : Nat, k ≤ 8 → vp_in (x3 + Int32.ofNat k) L) (v : Nat → Int32) (f : Nat → Nat → Int32) (g : Nat → Nat → Int64) (hR : R v f g) (H : Heap) (locs : List Loc) (ls : Array Slot) (hK : va_K D vwCl (tyL G) s) (hP : va_P D vwCl (lawW G x0 y0 a b pq kq sq v f g) H) (hD : va_D (fun q : Nat => s.heap.size ≤ q) (lawW G x0 y0 a b pq kq sq v f g)) (hS : va_S (fun q : Nat => s.heap.size ≤ q) s.heap H locs) (hl : lv_has ls 4 [(0, .ref b0), (1, .ref x0), (2, .ref y0), (3, .int x3)]) (cont : ∀ (v : Nat → Int32) (f : Nat → Nat → Int32) (g : Nat → Nat → Int64) (H : Heap) (locs : List Loc) (ls : Array Slot), R v f g → va_P D vwCl (lawW G x0 y0 a b pq kq sq v f g) H → va_D (fun q : Nat => s.heap.size ≤ q) (lawW G x0 y0 a b pq kq sq v f g) → va_S (fun q : Nat => s.heap.size ≤ q) s.heap H locs → lv_has ls 4 [(0, .ref b0), (1, .ref x0), (2, .ref y0), (3, .int x3)] → W p l e room_1 s m #[Value.ref b0] below meth c H locs 66 2290 (lw_Z below #[Value.ref b0] s) (F0 m 1365 ls [])) : W p l e room_1 s m #[Value.ref b0] below meth c H locs 66 2290 (lw_Z below #[Value.ref b0] s) (F0 m 714 ls []) := by
  obtain ⟨hx, hb, hr, hml, hown, hts0, hX, hbl, hlocks, hgv⟩ := id C0
  have hb : c.code = cL_law := hb
  have hown : s.vm.findClass RL = some m.cls := hown
  have hts : ∀ w ∈ wsL_law, w.before #[Value.ref b0] s = true := fun w h => hts0 w (wsL_law_in w h)
  have hA : ∀ q : Nat, s.heap.size ≤ q → (fun q : Nat => s.heap.size ≤ q) q := fun _ h => h
  have hbA : ¬ (fun q : Nat => s.heap.size ≤ q) b0 := Nat.not_le.mpr hbl
  refine lv_aload_n hx hb dL_law_714 rfl (lv_at hl 1 rfl) ?_
  refine lv_aload_n hx hb dL_law_715 rfl (lv_at hl 0 rfl) ?_
  refine lv_iload_n hx hb dL_law_716 rfl (lv_at hl 3 rfl) ?_
  refine lv_iconst (v := 1) hx hb dL_law_717 (by decide) ?_
  refine lv_iadd hx hb dL_law_718 ?_
  refine va_sld hx hb hX hbl hbA hS (hin 1 (by decide)) dL_law_719 ?_
  refine lv_aload_n hx hb dL_law_720 rfl (lv_at hl 0 rfl) ?_
  refine lv_iload_n hx hb dL_law_721 rfl (lv_at hl 3 rfl) ?_
  refine lv_iconst (v := 2) hx hb dL_law_722 (by decide) ?_
  refine lv_iadd hx hb dL_law_723 ?_
  refine va_sld hx hb hX hbl hbA hS (hin 2 (by decide)) dL_law_724 ?_
  have hw := hSt_halves v f g (xs (x3 + (1 : Int32)).toNatClampNeg) (xs (x3 + (2 : Int32)).toNatClampNeg) hR
  have hc := c_X7_halves l D G H.size x0 (a 0) (a 14) (a 28) (a 33) (a 38) (a 40) (a 44) (a 1) (a 2) (a 3) (a 4) (a 5) (a 34) (a 35) (a 36) (a 37) (v 0) (v 1) (v 2) (v 3) (v 4) (f 0) (f 1) (f 2) (v 5) (v 6) (v 7) (v 8) (v 22) (v 23) (v 24) (v 25) (v 26) (f 18) (xs (x3 + (1 : Int32)).toNatClampNeg) (xs (x3 + (2 : Int32)).toNatClampNeg) _ hw
  refine x_cPi (va_runV (As := [.int (xs (x3 + (1 : Int32)).toNatClampNeg), .int (xs (x3 + (2 : Int32)).toNatClampNeg)]) (rest := []) ⟨hx, hb, hml, hown, hts⟩ hc (cwV 2 hts gL_law_X7_halves rfl rfl rfl (by decide +kernel) ⟨(Nat.le_of_ble_eq_true rfl), (Nat.le_of_ble_eq_true rfl)⟩) (xM_pv (hP.sub [0, 1, 2, 3, 4, 5, 34, 35] rfl) hK (hD.sub [0, 1, 2, 3, 4, 5, 34, 35] (by decide) rfl) (va_recv hK hP (ci := 7) (q0 := 0) rfl rfl)) rfl rfl hl.1 rfl (lv_room (Nat.le_of_ble_eq_true rfl)) dL_law_725 ⟨(Nat.le_of_ble_eq_true rfl), (Nat.le_of_ble_eq_true rfl)⟩) hP hD hS hA [0, 1, 2, 3, 4, 5, 34, 35] rfl (fun u => rfl) (fun u => (lawW G x0 y0 a b pq kq sq (va_up (va_up v 22 u.1) 23 u.2.1) (va_up f 18 u.2.2) g)) (fun u => rfl) (fun r1 u H locs hw hP hD hS => ?_)
  obtain ⟨p_mayBe_1, p_lastMix_1, p_told_1⟩ := u
  try dsimp only at hw
  replace hP : va_P D vwCl (lawW G x0 y0 a b pq kq sq (va_up (va_up v 22 p_mayBe_1) 23 p_lastMix_1) (va_up f 18 p_told_1) g) H := hP
  replace hD : va_D (fun q : Nat => s.heap.size ≤ q) (lawW G x0 y0 a b pq kq sq (va_up (va_up v 22 p_mayBe_1) 23 p_lastMix_1) (va_up f 18 p_told_1) g) := hD
  refine lv_aload_n hx hb dL_law_728 rfl (lv_at hl 2 rfl) ?_
  refine lv_aload_n hx hb dL_law_729 rfl (lv_at hl 0 rfl) ?_
  refine lv_iload_n hx hb dL_law_730 rfl (lv_at hl 3 rfl) ?_
  refine lv_iconst (v := 1) hx hb dL_law_731 (by decide) ?_
  refine lv_iadd hx hb dL_law_732 ?_
  refine va_sld hx hb hX hbl hbA hS (hin 1 (by decide)) dL_law_733 ?_
  refine lv_aload_n hx hb dL_law_734 rfl (lv_at hl 0 rfl) ?_
  refine lv_iload_n hx hb dL_law_735 rfl (lv_at hl 3 rfl) ?_
  refine lv_iconst (v := 2) hx hb dL_law_736 (by decide) ?_
  refine lv_iadd hx hb dL_law_737 ?_
  refine va_sld hx hb hX hbl hbA hS (hin 2 (by decide)) dL_law_738 ?_
  have hc := c_X8_halves l D G y0 (b 0) (b 1) (b 2) (b 3) (b 4) (b 5) (b 6) (b 7) (b 8) (b 9) (b 10) (v 37) (v 38) (v 39) (v 40) (v 41) (v 42) (v 43) (f 29) (xs (x3 + (1 : Int32)).toNatClampNeg) (xs (x3 + (2 : Int32)).toNatClampNeg) _ hw
  refine vp_callSi (W.runV (As := [.int (xs (x3 + (1 : Int32)).toNatClampNeg), .int (xs (x3 + (2 : Int32)).toNatClampNeg)]) (rest := [.int r1]) ⟨hx, hb, hml, hown, hts⟩ hc (cwV 2 hts gL_law_X8_halves rfl rfl rfl (by decide +kernel) ⟨(Nat.le_of_ble_eq_true rfl), (Nat.le_of_ble_eq_true rfl)⟩) (xR_pv (hP.sub [54, 59] rfl) hK (va_recv hK hP (ci := 8) (q0 := 54) rfl rfl)) rfl rfl hl.1 rfl (lv_room (Nat.le_of_ble_eq_true rfl)) dL_law_739 ⟨(Nat.le_of_ble_eq_true rfl), (Nat.le_of_ble_eq_true rfl)⟩) (fun r2 hw => ?_)
  refine lv_icmp_eq (tgt := 1365) hx hb dL_law_742 (by decide) (fun _ => ?_) (fun c9 => absurd hw.1 c9)
  exact cont _ _ _ _ _ _ hw.2 hP hD hS hl
set_option maxHeartbeats 8000000 in
set_option maxRecDepth 100000 in
theorem lawc_likely {p : Program} {l : Launch} {e : Env} {s : State} {m : MethodId} {below : List Frame} {meth : Method} {c : Code} {D : va_G} {G : Nat → ClassId} {x0 y0 : Nat} {a b pq kq sq : Nat → Nat} {b0 L : Nat} {xs : Nat → Int32} (C0 : lw_At p s m meth c b0 L xs) (R : ((Nat → Int32) → (Nat → Nat → Int32) → (Nat → Nat → Int64) → Prop)) (hSt_likely : Step_likely R) (x3 : Int32) (hin : ∀ k : Nat, k ≤ 8 → vp_in (x3 + Int32.ofNat k) L) (v : Nat → Int32) (f : Nat → Nat → Int32) (g : Nat → Nat → Int64) (hR : R v f g) (H : Heap) (locs : List Loc) (ls : Array Slot) (hK : va_K D vwCl (tyL G) s) (hP : va_P D vwCl (lawW G x0 y0 a b pq kq sq v f g) H) (hD : va_D (fun q : Nat => s.heap.size ≤ q) (lawW G x0 y0 a b pq kq sq v f g)) (hS : va_S (fun q : Nat => s.heap.size ≤ q) s.heap H locs) (hl : lv_has ls 4 [(0, .ref b0), (1, .ref x0), (2, .ref y0), (3, .int x3)]) (cont : ∀ (v : Nat → Int32) (f : Nat → Nat → Int32) (g : Nat → Nat → Int64) (H : Heap) (locs : List Loc) (ls : Array Slot), R v f g → va_P D vwCl (lawW G x0 y0 a b pq kq sq v f g) H → va_D (fun q : Nat => s.heap.size ≤ q) (lawW G x0 y0 a b pq kq sq v f g) → va_S (fun q : Nat => s.heap.size ≤ q) s.heap H locs → lv_has ls 4 [(0, .ref b0), (1, .ref x0), (2, .ref y0), (3, .int x3)] → W p l e room_1 s m #[Value.ref b0] below meth c H locs 66 2290 (lw_Z below #[Value.ref b0] s) (F0 m 1365 ls [])) : W p l e room_1 s m #[Value.ref b0] below meth c H locs 66 2290 (lw_Z below #[Value.ref b0] s) (F0 m 747 ls []) := by
  obtain ⟨hx, hb, hr, hml, hown, hts0, hX, hbl, hlocks, hgv⟩ := id C0
  have hb : c.code = cL_law := hb
  have hown : s.vm.findClass RL = some m.cls := hown
  have hts : ∀ w ∈ wsL_law, w.before #[Value.ref b0] s = true := fun w h => hts0 w (wsL_law_in w h)
  have hA : ∀ q : Nat, s.heap.size ≤ q → (fun q : Nat => s.heap.size ≤ q) q := fun _ h => h
  have hbA : ¬ (fun q : Nat => s.heap.size ≤ q) b0 := Nat.not_le.mpr hbl
  refine lv_aload_n hx hb dL_law_747 rfl (lv_at hl 1 rfl) ?_
  refine lv_aload_n hx hb dL_law_748 rfl (lv_at hl 0 rfl) ?_
  refine lv_iload_n hx hb dL_law_749 rfl (lv_at hl 3 rfl) ?_
  refine lv_iconst (v := 1) hx hb dL_law_750 (by decide) ?_
  refine lv_iadd hx hb dL_law_751 ?_
  refine va_sld hx hb hX hbl hbA hS (hin 1 (by decide)) dL_law_752 ?_
  refine lv_aload_n hx hb dL_law_753 rfl (lv_at hl 0 rfl) ?_
  refine lv_iload_n hx hb dL_law_754 rfl (lv_at hl 3 rfl) ?_
  refine lv_iconst (v := 2) hx hb dL_law_755 (by decide) ?_
  refine lv_iadd hx hb dL_law_756 ?_
  refine va_sld hx hb hX hbl hbA hS (hin 2 (by decide)) dL_law_757 ?_
  have hw := hSt_likely v f g (xs (x3 + (1 : Int32)).toNatClampNeg) (xs (x3 + (2 : Int32)).toNatClampNeg) hR
  have hc := c_X7_likely l D G x0 (a 0) (a 14) (a 28) (a 33) (a 38) (a 40) (a 44) (a 1) (a 2) (a 3) (a 4) (a 5) (v 0) (v 1) (v 2) (v 3) (v 4) (f 0) (v 5) (v 6) (v 7) (v 8) (xs (x3 + (1 : Int32)).toNatClampNeg) (xs (x3 + (2 : Int32)).toNatClampNeg) _ hw
  refine vp_callSi (W.runV (As := [.int (xs (x3 + (1 : Int32)).toNatClampNeg), .int (xs (x3 + (2 : Int32)).toNatClampNeg)]) (rest := []) ⟨hx, hb, hml, hown, hts⟩ hc (cwV 2 hts gL_law_X7_likely rfl rfl rfl (by decide +kernel) ⟨(Nat.le_of_ble_eq_true rfl), (Nat.le_of_ble_eq_true rfl)⟩) (xR_pv (hP.sub [0, 1, 2, 5] rfl) hK (va_recv hK hP (ci := 7) (q0 := 0) rfl rfl)) rfl rfl hl.1 rfl (lv_room (Nat.le_of_ble_eq_true rfl)) dL_law_758 ⟨(Nat.le_of_ble_eq_true rfl), (Nat.le_of_ble_eq_true rfl)⟩) (fun r1 hw => ?_)
  refine lv_aload_n hx hb dL_law_761 rfl (lv_at hl 2 rfl) ?_
  refine lv_aload_n hx hb dL_law_762 rfl (lv_at hl 0 rfl) ?_
  refine lv_iload_n hx hb dL_law_763 rfl (lv_at hl 3 rfl) ?_
  refine lv_iconst (v := 1) hx hb dL_law_764 (by decide) ?_
  refine lv_iadd hx hb dL_law_765 ?_
  refine va_sld hx hb hX hbl hbA hS (hin 1 (by decide)) dL_law_766 ?_
  refine lv_aload_n hx hb dL_law_767 rfl (lv_at hl 0 rfl) ?_
  refine lv_iload_n hx hb dL_law_768 rfl (lv_at hl 3 rfl) ?_
  refine lv_iconst (v := 2) hx hb dL_law_769 (by decide) ?_
  refine lv_iadd hx hb dL_law_770 ?_
  refine va_sld hx hb hX hbl hbA hS (hin 2 (by decide)) dL_law_771 ?_
  have hc := c_X8_likely l D G y0 (b 0) (b 1) (b 2) (b 3) (b 4) (b 5) (b 6) (b 7) (b 8) (b 9) (b 10) (v 37) (v 38) (v 39) (v 40) (v 41) (v 42) (v 43) (f 29) (xs (x3 + (1 : Int32)).toNatClampNeg) (xs (x3 + (2 : Int32)).toNatClampNeg) _ hw
  refine vp_callSi (W.runV (As := [.int (xs (x3 + (1 : Int32)).toNatClampNeg), .int (xs (x3 + (2 : Int32)).toNatClampNeg)]) (rest := [.int r1]) ⟨hx, hb, hml, hown, hts⟩ hc (cwV 2 hts gL_law_X8_likely rfl rfl rfl (by decide +kernel) ⟨(Nat.le_of_ble_eq_true rfl), (Nat.le_of_ble_eq_true rfl)⟩) (xR_pv (hP.sub [54, 59] rfl) hK (va_recv hK hP (ci := 8) (q0 := 54) rfl rfl)) rfl rfl hl.1 rfl (lv_room (Nat.le_of_ble_eq_true rfl)) dL_law_772 ⟨(Nat.le_of_ble_eq_true rfl), (Nat.le_of_ble_eq_true rfl)⟩) (fun r2 hw => ?_)
  refine lv_icmp_eq (tgt := 1365) hx hb dL_law_775 (by decide) (fun _ => ?_) (fun c9 => absurd hw.1 c9)
  exact cont _ _ _ _ _ _ hw.2 hP hD hS hl
set_option maxHeartbeats 8000000 in
set_option maxRecDepth 100000 in
theorem lawc_noticed {p : Program} {l : Launch} {e : Env} {s : State} {m : MethodId} {below : List Frame} {meth : Method} {c : Code} {D : va_G} {G : Nat → ClassId} {x0 y0 : Nat} {a b pq kq sq : Nat → Nat} {b0 L : Nat} {xs : Nat → Int32} (C0 : lw_At p s m meth c b0 L xs) (R : ((Nat → Int32) → (Nat → Nat → Int32) → (Nat → Nat → Int64) → Prop)) (hSt_noticed : Step_noticed R) (x3 : Int32) (hin : ∀ k : Nat, k ≤ 8 → vp_in (x3 + Int32.ofNat k) L) (v : Nat → Int32) (f : Nat → Nat → Int32) (g : Nat → Nat → Int64) (hR : R v f g) (H : Heap) (locs : List Loc) (ls : Array Slot) (hK : va_K D vwCl (tyL G) s) (hP : va_P D vwCl (lawW G x0 y0 a b pq kq sq v f g) H) (hD : va_D (fun q : Nat => s.heap.size ≤ q) (lawW G x0 y0 a b pq kq sq v f g)) (hS : va_S (fun q : Nat => s.heap.size ≤ q) s.heap H locs) (hl : lv_has ls 4 [(0, .ref b0), (1, .ref x0), (2, .ref y0), (3, .int x3)]) (cont : ∀ (v : Nat → Int32) (f : Nat → Nat → Int32) (g : Nat → Nat → Int64) (H : Heap) (locs : List Loc) (ls : Array Slot), R v f g → va_P D vwCl (lawW G x0 y0 a b pq kq sq v f g) H → va_D (fun q : Nat => s.heap.size ≤ q) (lawW G x0 y0 a b pq kq sq v f g) → va_S (fun q : Nat => s.heap.size ≤ q) s.heap H locs → lv_has ls 4 [(0, .ref b0), (1, .ref x0), (2, .ref y0), (3, .int x3)] → W p l e room_1 s m #[Value.ref b0] below meth c H locs 66 2290 (lw_Z below #[Value.ref b0] s) (F0 m 1365 ls [])) : W p l e room_1 s m #[Value.ref b0] below meth c H locs 66 2290 (lw_Z below #[Value.ref b0] s) (F0 m 780 ls []) := by
  obtain ⟨hx, hb, hr, hml, hown, hts0, hX, hbl, hlocks, hgv⟩ := id C0
  have hb : c.code = cL_law := hb
  have hown : s.vm.findClass RL = some m.cls := hown
  have hts : ∀ w ∈ wsL_law, w.before #[Value.ref b0] s = true := fun w h => hts0 w (wsL_law_in w h)
  have hA : ∀ q : Nat, s.heap.size ≤ q → (fun q : Nat => s.heap.size ≤ q) q := fun _ h => h
  have hbA : ¬ (fun q : Nat => s.heap.size ≤ q) b0 := Nat.not_le.mpr hbl
  refine lv_aload_n hx hb dL_law_780 rfl (lv_at hl 1 rfl) ?_
  refine lv_aload_n hx hb dL_law_781 rfl (lv_at hl 0 rfl) ?_
  refine lv_iload_n hx hb dL_law_782 rfl (lv_at hl 3 rfl) ?_
  refine lv_iconst (v := 1) hx hb dL_law_783 (by decide) ?_
  refine lv_iadd hx hb dL_law_784 ?_
  refine va_sld hx hb hX hbl hbA hS (hin 1 (by decide)) dL_law_785 ?_
  refine lv_aload_n hx hb dL_law_786 rfl (lv_at hl 0 rfl) ?_
  refine lv_iload_n hx hb dL_law_787 rfl (lv_at hl 3 rfl) ?_
  refine lv_iconst (v := 2) hx hb dL_law_788 (by decide) ?_
  refine lv_iadd hx hb dL_law_789 ?_
  refine va_sld hx hb hX hbl hbA hS (hin 2 (by decide)) dL_law_790 ?_
  refine lv_aload_n hx hb dL_law_791 rfl (lv_at hl 0 rfl) ?_
  refine lv_iload_n hx hb dL_law_792 rfl (lv_at hl 3 rfl) ?_
  refine lv_iconst (v := 3) hx hb dL_law_793 (by decide) ?_
  refine lv_iadd hx hb dL_law_794 ?_
  refine va_sld hx hb hX hbl hbA hS (hin 3 (by decide)) dL_law_795 ?_
  have hw := hSt_noticed v f g (xs (x3 + (1 : Int32)).toNatClampNeg) (xs (x3 + (2 : Int32)).toNatClampNeg) (xs (x3 + (3 : Int32)).toNatClampNeg) hR
  have hc := c_X7_noticed l D G x0 (a 0) (a 14) (a 28) (a 33) (a 38) (a 40) (a 44) (a 1) (a 2) (a 3) (a 4) (a 5) (v 0) (v 1) (v 2) (v 3) (v 4) (f 0) (f 1) (f 2) (v 5) (v 6) (v 7) (v 8) (xs (x3 + (1 : Int32)).toNatClampNeg) (xs (x3 + (2 : Int32)).toNatClampNeg) (xs (x3 + (3 : Int32)).toNatClampNeg) _ hw
  refine vp_callSi (W.runV (As := [.int (xs (x3 + (1 : Int32)).toNatClampNeg), .int (xs (x3 + (2 : Int32)).toNatClampNeg), .int (xs (x3 + (3 : Int32)).toNatClampNeg)]) (rest := []) ⟨hx, hb, hml, hown, hts⟩ hc (cwV 3 hts gL_law_X7_noticed rfl rfl rfl (by decide +kernel) ⟨(Nat.le_of_ble_eq_true rfl), (Nat.le_of_ble_eq_true rfl)⟩) (xR_pv (hP.sub [0, 1, 2, 3, 4, 5] rfl) hK (va_recv hK hP (ci := 7) (q0 := 0) rfl rfl)) rfl rfl hl.1 rfl (lv_room (Nat.le_of_ble_eq_true rfl)) dL_law_796 ⟨(Nat.le_of_ble_eq_true rfl), (Nat.le_of_ble_eq_true rfl)⟩) (fun r1 hw => ?_)
  refine lv_aload_n hx hb dL_law_799 rfl (lv_at hl 2 rfl) ?_
  refine lv_aload_n hx hb dL_law_800 rfl (lv_at hl 0 rfl) ?_
  refine lv_iload_n hx hb dL_law_801 rfl (lv_at hl 3 rfl) ?_
  refine lv_iconst (v := 1) hx hb dL_law_802 (by decide) ?_
  refine lv_iadd hx hb dL_law_803 ?_
  refine va_sld hx hb hX hbl hbA hS (hin 1 (by decide)) dL_law_804 ?_
  refine lv_aload_n hx hb dL_law_805 rfl (lv_at hl 0 rfl) ?_
  refine lv_iload_n hx hb dL_law_806 rfl (lv_at hl 3 rfl) ?_
  refine lv_iconst (v := 2) hx hb dL_law_807 (by decide) ?_
  refine lv_iadd hx hb dL_law_808 ?_
  refine va_sld hx hb hX hbl hbA hS (hin 2 (by decide)) dL_law_809 ?_
  refine lv_aload_n hx hb dL_law_810 rfl (lv_at hl 0 rfl) ?_
  refine lv_iload_n hx hb dL_law_811 rfl (lv_at hl 3 rfl) ?_
  refine lv_iconst (v := 3) hx hb dL_law_812 (by decide) ?_
  refine lv_iadd hx hb dL_law_813 ?_
  refine va_sld hx hb hX hbl hbA hS (hin 3 (by decide)) dL_law_814 ?_
  have hc := c_X8_noticed l D G y0 (b 0) (b 1) (b 2) (b 3) (b 4) (b 5) (b 6) (b 7) (b 8) (b 9) (b 10) (v 37) (v 38) (v 39) (v 40) (v 41) (v 42) (v 43) (f 29) (xs (x3 + (1 : Int32)).toNatClampNeg) (xs (x3 + (2 : Int32)).toNatClampNeg) (xs (x3 + (3 : Int32)).toNatClampNeg) _ hw
  refine vp_callSi (W.runV (As := [.int (xs (x3 + (1 : Int32)).toNatClampNeg), .int (xs (x3 + (2 : Int32)).toNatClampNeg), .int (xs (x3 + (3 : Int32)).toNatClampNeg)]) (rest := [.int r1]) ⟨hx, hb, hml, hown, hts⟩ hc (cwV 3 hts gL_law_X8_noticed rfl rfl rfl (by decide +kernel) ⟨(Nat.le_of_ble_eq_true rfl), (Nat.le_of_ble_eq_true rfl)⟩) (xR_pv (hP.sub [54, 59] rfl) hK (va_recv hK hP (ci := 8) (q0 := 54) rfl rfl)) rfl rfl hl.1 rfl (lv_room (Nat.le_of_ble_eq_true rfl)) dL_law_815 ⟨(Nat.le_of_ble_eq_true rfl), (Nat.le_of_ble_eq_true rfl)⟩) (fun r2 hw => ?_)
  refine lv_icmp_eq (tgt := 1365) hx hb dL_law_818 (by decide) (fun _ => ?_) (fun c9 => absurd hw.1 c9)
  exact cont _ _ _ _ _ _ hw.2 hP hD hS hl
set_option maxHeartbeats 8000000 in
set_option maxRecDepth 100000 in
theorem lawc_single {p : Program} {l : Launch} {e : Env} {s : State} {m : MethodId} {below : List Frame} {meth : Method} {c : Code} {D : va_G} {G : Nat → ClassId} {x0 y0 : Nat} {a b pq kq sq : Nat → Nat} {b0 L : Nat} {xs : Nat → Int32} (C0 : lw_At p s m meth c b0 L xs) (R : ((Nat → Int32) → (Nat → Nat → Int32) → (Nat → Nat → Int64) → Prop)) (hSt_single : Step_single R) (x3 : Int32) (hin : ∀ k : Nat, k ≤ 8 → vp_in (x3 + Int32.ofNat k) L) (v : Nat → Int32) (f : Nat → Nat → Int32) (g : Nat → Nat → Int64) (hR : R v f g) (H : Heap) (locs : List Loc) (ls : Array Slot) (hK : va_K D vwCl (tyL G) s) (hP : va_P D vwCl (lawW G x0 y0 a b pq kq sq v f g) H) (hD : va_D (fun q : Nat => s.heap.size ≤ q) (lawW G x0 y0 a b pq kq sq v f g)) (hS : va_S (fun q : Nat => s.heap.size ≤ q) s.heap H locs) (hl : lv_has ls 4 [(0, .ref b0), (1, .ref x0), (2, .ref y0), (3, .int x3)]) (cont : ∀ (v : Nat → Int32) (f : Nat → Nat → Int32) (g : Nat → Nat → Int64) (H : Heap) (locs : List Loc) (ls : Array Slot), R v f g → va_P D vwCl (lawW G x0 y0 a b pq kq sq v f g) H → va_D (fun q : Nat => s.heap.size ≤ q) (lawW G x0 y0 a b pq kq sq v f g) → va_S (fun q : Nat => s.heap.size ≤ q) s.heap H locs → lv_has ls 4 [(0, .ref b0), (1, .ref x0), (2, .ref y0), (3, .int x3)] → W p l e room_1 s m #[Value.ref b0] below meth c H locs 66 2290 (lw_Z below #[Value.ref b0] s) (F0 m 1365 ls [])) : W p l e room_1 s m #[Value.ref b0] below meth c H locs 66 2290 (lw_Z below #[Value.ref b0] s) (F0 m 823 ls []) := by
  obtain ⟨hx, hb, hr, hml, hown, hts0, hX, hbl, hlocks, hgv⟩ := id C0
  have hb : c.code = cL_law := hb
  have hown : s.vm.findClass RL = some m.cls := hown
  have hts : ∀ w ∈ wsL_law, w.before #[Value.ref b0] s = true := fun w h => hts0 w (wsL_law_in w h)
  have hA : ∀ q : Nat, s.heap.size ≤ q → (fun q : Nat => s.heap.size ≤ q) q := fun _ h => h
  have hbA : ¬ (fun q : Nat => s.heap.size ≤ q) b0 := Nat.not_le.mpr hbl
  refine lv_aload_n hx hb dL_law_823 rfl (lv_at hl 1 rfl) ?_
  refine lv_aload_n hx hb dL_law_824 rfl (lv_at hl 0 rfl) ?_
  refine lv_iload_n hx hb dL_law_825 rfl (lv_at hl 3 rfl) ?_
  refine lv_iconst (v := 1) hx hb dL_law_826 (by decide) ?_
  refine lv_iadd hx hb dL_law_827 ?_
  refine va_sld hx hb hX hbl hbA hS (hin 1 (by decide)) dL_law_828 ?_
  have hw := hSt_single v f g (xs (x3 + (1 : Int32)).toNatClampNeg) hR
  have hc := c_X7_single l D G H.size x0 (a 0) (a 14) (a 28) (a 33) (a 38) (a 40) (a 44) (a 1) (a 2) (a 3) (a 4) (a 5) (a 39) (v 0) (v 1) (v 2) (v 3) (v 4) (f 0) (v 5) (v 6) (v 7) (v 8) (v 27) (f 22) (xs (x3 + (1 : Int32)).toNatClampNeg) _ hw
  refine x_cPi (va_runV (As := [.int (xs (x3 + (1 : Int32)).toNatClampNeg)]) (rest := []) ⟨hx, hb, hml, hown, hts⟩ hc (cwV 1 hts gL_law_X7_single rfl rfl rfl (by decide +kernel) ⟨(Nat.le_of_ble_eq_true rfl), (Nat.le_of_ble_eq_true rfl)⟩) (xM_pv (hP.sub [0, 1, 2, 5, 39, 40] rfl) hK (hD.sub [0, 1, 2, 5, 39, 40] (by decide) rfl) (va_recv hK hP (ci := 7) (q0 := 0) rfl rfl)) rfl rfl hl.1 rfl (lv_room (Nat.le_of_ble_eq_true rfl)) dL_law_829 ⟨(Nat.le_of_ble_eq_true rfl), (Nat.le_of_ble_eq_true rfl)⟩) hP hD hS hA [0, 1, 2, 5, 39, 40] rfl (fun u => rfl) (fun u => (lawW G x0 y0 a b pq kq sq (va_up v 27 u.1) (va_up f 22 u.2) g)) (fun u => rfl) (fun r1 u H locs hw hP hD hS => ?_)
  obtain ⟨r_size_1, r_order_1⟩ := u
  try dsimp only at hw
  replace hP : va_P D vwCl (lawW G x0 y0 a b pq kq sq (va_up v 27 r_size_1) (va_up f 22 r_order_1) g) H := hP
  replace hD : va_D (fun q : Nat => s.heap.size ≤ q) (lawW G x0 y0 a b pq kq sq (va_up v 27 r_size_1) (va_up f 22 r_order_1) g) := hD
  refine lv_aload_n hx hb dL_law_832 rfl (lv_at hl 2 rfl) ?_
  refine lv_aload_n hx hb dL_law_833 rfl (lv_at hl 0 rfl) ?_
  refine lv_iload_n hx hb dL_law_834 rfl (lv_at hl 3 rfl) ?_
  refine lv_iconst (v := 1) hx hb dL_law_835 (by decide) ?_
  refine lv_iadd hx hb dL_law_836 ?_
  refine va_sld hx hb hX hbl hbA hS (hin 1 (by decide)) dL_law_837 ?_
  have hc := c_X8_single l D G H.size y0 (b 0) (b 1) (b 2) (b 3) (b 4) (b 5) (b 6) (b 7) (b 8) (b 9) (b 10) (v 37) (v 38) (v 39) (v 40) (v 41) (v 42) (v 43) (f 29) (f 35) (xs (x3 + (1 : Int32)).toNatClampNeg) _ hw
  refine x_cPi (va_runV (As := [.int (xs (x3 + (1 : Int32)).toNatClampNeg)]) (rest := [.int r1]) ⟨hx, hb, hml, hown, hts⟩ hc (cwV 1 hts gL_law_X8_single rfl rfl rfl (by decide +kernel) ⟨(Nat.le_of_ble_eq_true rfl), (Nat.le_of_ble_eq_true rfl)⟩) (xM_pv (hP.sub [54, 59, 65] rfl) hK (hD.sub [54, 59, 65] (by decide) rfl) (va_recv hK hP (ci := 8) (q0 := 54) rfl rfl)) rfl rfl hl.1 rfl (lv_room (Nat.le_of_ble_eq_true rfl)) dL_law_838 ⟨(Nat.le_of_ble_eq_true rfl), (Nat.le_of_ble_eq_true rfl)⟩) hP hD hS hA [54, 59, 65] rfl (fun u => rfl) (fun u => (lawW G x0 y0 a b pq kq sq (va_up v 27 r_size_1) (va_up (va_up f 22 r_order_1) 35 u) g)) (fun u => rfl) (fun r2 u H locs hw hP hD hS => ?_)
  obtain ⟨m_order_2, rfl⟩ : ∃ z, z = u := ⟨_, rfl⟩
  try dsimp only at hw
  replace hP : va_P D vwCl (lawW G x0 y0 a b pq kq sq (va_up v 27 r_size_1) (va_up (va_up f 22 r_order_1) 35 m_order_2) g) H := hP
  replace hD : va_D (fun q : Nat => s.heap.size ≤ q) (lawW G x0 y0 a b pq kq sq (va_up v 27 r_size_1) (va_up (va_up f 22 r_order_1) 35 m_order_2) g) := hD
  refine lv_icmp_eq (tgt := 1365) hx hb dL_law_841 (by decide) (fun _ => ?_) (fun c9 => absurd hw.1 c9)
  exact cont _ _ _ _ _ _ hw.2 hP hD hS hl
