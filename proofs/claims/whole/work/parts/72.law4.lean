set_option maxHeartbeats 8000000 in
set_option maxRecDepth 100000 in
theorem lawc_share {p : Program} {l : Launch} {e : Env} {s : State} {m : MethodId} {below : List Frame} {meth : Method} {c : Code} {D : va_G} {G : Nat → ClassId} {x0 y0 : Nat} {a b pq kq sq : Nat → Nat} {b0 L : Nat} {xs : Nat → Int32} (C0 : lw_At p s m meth c b0 L xs) (R : ((Nat → Int32) → (Nat → Nat → Int32) → (Nat → Nat → Int64) → Prop)) (hSt_share : Step_share R) (x3 : Int32) (hin : ∀ k : Nat, k ≤ 8 → vp_in (x3 + Int32.ofNat k) L) (v : Nat → Int32) (f : Nat → Nat → Int32) (g : Nat → Nat → Int64) (hR : R v f g) (H : Heap) (locs : List Loc) (ls : Array Slot) (hK : va_K D vwCl (tyL G) s) (hP : va_P D vwCl (lawW G x0 y0 a b pq kq sq v f g) H) (hD : va_D (fun q : Nat => s.heap.size ≤ q) (lawW G x0 y0 a b pq kq sq v f g)) (hS : va_S (fun q : Nat => s.heap.size ≤ q) s.heap H locs) (hl : lv_has ls 4 [(0, .ref b0), (1, .ref x0), (2, .ref y0), (3, .int x3)]) (cont : ∀ (v : Nat → Int32) (f : Nat → Nat → Int32) (g : Nat → Nat → Int64) (H : Heap) (locs : List Loc) (ls : Array Slot), R v f g → va_P D vwCl (lawW G x0 y0 a b pq kq sq v f g) H → va_D (fun q : Nat => s.heap.size ≤ q) (lawW G x0 y0 a b pq kq sq v f g) → va_S (fun q : Nat => s.heap.size ≤ q) s.heap H locs → lv_has ls 4 [(0, .ref b0), (1, .ref x0), (2, .ref y0), (3, .int x3)] → W p l e room_1 s m #[Value.ref b0] below meth c H locs 66 2290 (lw_Z below #[Value.ref b0] s) (F0 m 1365 ls [])) : W p l e room_1 s m #[Value.ref b0] below meth c H locs 66 2290 (lw_Z below #[Value.ref b0] s) (F0 m 846 ls []) := by
  obtain ⟨hx, hb, hr, hml, hown, hts0, hX, hbl, hlocks, hgv⟩ := id C0
  have hb : c.code = cL_law := hb
  have hown : s.vm.findClass RL = some m.cls := hown
  have hts : ∀ w ∈ wsL_law, w.before #[Value.ref b0] s = true := fun w h => hts0 w (wsL_law_in w h)
  have hA : ∀ q : Nat, s.heap.size ≤ q → (fun q : Nat => s.heap.size ≤ q) q := fun _ h => h
  have hbA : ¬ (fun q : Nat => s.heap.size ≤ q) b0 := Nat.not_le.mpr hbl
  refine lv_aload_n hx hb dL_law_846 rfl (lv_at hl 1 rfl) ?_
  refine lv_aload_n hx hb dL_law_847 rfl (lv_at hl 0 rfl) ?_
  refine lv_iload_n hx hb dL_law_848 rfl (lv_at hl 3 rfl) ?_
  refine lv_iconst (v := 1) hx hb dL_law_849 (by decide) ?_
  refine lv_iadd hx hb dL_law_850 ?_
  refine va_sld hx hb hX hbl hbA hS (hin 1 (by decide)) dL_law_851 ?_
  refine lv_aload_n hx hb dL_law_852 rfl (lv_at hl 0 rfl) ?_
  refine lv_iload_n hx hb dL_law_853 rfl (lv_at hl 3 rfl) ?_
  refine lv_iconst (v := 2) hx hb dL_law_854 (by decide) ?_
  refine lv_iadd hx hb dL_law_855 ?_
  refine va_sld hx hb hX hbl hbA hS (hin 2 (by decide)) dL_law_856 ?_
  refine lv_aload_n hx hb dL_law_857 rfl (lv_at hl 0 rfl) ?_
  refine lv_iload_n hx hb dL_law_858 rfl (lv_at hl 3 rfl) ?_
  refine lv_iconst (v := 3) hx hb dL_law_859 (by decide) ?_
  refine lv_iadd hx hb dL_law_860 ?_
  refine va_sld hx hb hX hbl hbA hS (hin 3 (by decide)) dL_law_861 ?_
  have hw := hSt_share v f g (xs (x3 + (1 : Int32)).toNatClampNeg) (xs (x3 + (2 : Int32)).toNatClampNeg) (xs (x3 + (3 : Int32)).toNatClampNeg) hR
  have hc := c_X7_share l D G x0 (a 0) (a 14) (a 28) (a 33) (a 38) (a 40) (a 44) (a 1) (a 2) (a 3) (a 4) (a 5) (v 0) (v 1) (v 2) (v 3) (v 4) (f 0) (xs (x3 + (1 : Int32)).toNatClampNeg) (xs (x3 + (2 : Int32)).toNatClampNeg) (xs (x3 + (3 : Int32)).toNatClampNeg) _ hw
  refine vp_callSi (W.runV (As := [.int (xs (x3 + (1 : Int32)).toNatClampNeg), .int (xs (x3 + (2 : Int32)).toNatClampNeg), .int (xs (x3 + (3 : Int32)).toNatClampNeg)]) (rest := []) ⟨hx, hb, hml, hown, hts⟩ hc (cwV 3 hts gL_law_X7_share rfl rfl rfl (by decide +kernel) ⟨(Nat.le_of_ble_eq_true rfl), (Nat.le_of_ble_eq_true rfl)⟩) (xR_pv (hP.sub [0, 1, 2] rfl) hK (va_recv hK hP (ci := 7) (q0 := 0) rfl rfl)) rfl rfl hl.1 rfl (lv_room (Nat.le_of_ble_eq_true rfl)) dL_law_862 ⟨(Nat.le_of_ble_eq_true rfl), (Nat.le_of_ble_eq_true rfl)⟩) (fun r1 hw => ?_)
  refine lv_aload_n hx hb dL_law_865 rfl (lv_at hl 2 rfl) ?_
  refine lv_aload_n hx hb dL_law_866 rfl (lv_at hl 0 rfl) ?_
  refine lv_iload_n hx hb dL_law_867 rfl (lv_at hl 3 rfl) ?_
  refine lv_iconst (v := 1) hx hb dL_law_868 (by decide) ?_
  refine lv_iadd hx hb dL_law_869 ?_
  refine va_sld hx hb hX hbl hbA hS (hin 1 (by decide)) dL_law_870 ?_
  refine lv_aload_n hx hb dL_law_871 rfl (lv_at hl 0 rfl) ?_
  refine lv_iload_n hx hb dL_law_872 rfl (lv_at hl 3 rfl) ?_
  refine lv_iconst (v := 2) hx hb dL_law_873 (by decide) ?_
  refine lv_iadd hx hb dL_law_874 ?_
  refine va_sld hx hb hX hbl hbA hS (hin 2 (by decide)) dL_law_875 ?_
  refine lv_aload_n hx hb dL_law_876 rfl (lv_at hl 0 rfl) ?_
  refine lv_iload_n hx hb dL_law_877 rfl (lv_at hl 3 rfl) ?_
  refine lv_iconst (v := 3) hx hb dL_law_878 (by decide) ?_
  refine lv_iadd hx hb dL_law_879 ?_
  refine va_sld hx hb hX hbl hbA hS (hin 3 (by decide)) dL_law_880 ?_
  have hc := c_X8_share l D G y0 (b 0) (b 1) (b 2) (b 3) (b 4) (b 5) (b 6) (b 7) (b 8) (b 9) (b 10) (v 37) (v 38) (v 39) (v 40) (v 41) (v 42) (v 43) (f 29) (xs (x3 + (1 : Int32)).toNatClampNeg) (xs (x3 + (2 : Int32)).toNatClampNeg) (xs (x3 + (3 : Int32)).toNatClampNeg) _ hw
  refine vp_callSi (W.runV (As := [.int (xs (x3 + (1 : Int32)).toNatClampNeg), .int (xs (x3 + (2 : Int32)).toNatClampNeg), .int (xs (x3 + (3 : Int32)).toNatClampNeg)]) (rest := [.int r1]) ⟨hx, hb, hml, hown, hts⟩ hc (cwV 3 hts gL_law_X8_share rfl rfl rfl (by decide +kernel) ⟨(Nat.le_of_ble_eq_true rfl), (Nat.le_of_ble_eq_true rfl)⟩) (xR_pv (hP.sub [54, 59] rfl) hK (va_recv hK hP (ci := 8) (q0 := 54) rfl rfl)) rfl rfl hl.1 rfl (lv_room (Nat.le_of_ble_eq_true rfl)) dL_law_881 ⟨(Nat.le_of_ble_eq_true rfl), (Nat.le_of_ble_eq_true rfl)⟩) (fun r2 hw => ?_)
  refine lv_icmp_eq (tgt := 1365) hx hb dL_law_884 (by decide) (fun _ => ?_) (fun c9 => absurd hw.1 c9)
  exact cont _ _ _ _ _ _ hw.2 hP hD hS hl
set_option maxHeartbeats 8000000 in
set_option maxRecDepth 100000 in
theorem lawc_image {p : Program} {l : Launch} {e : Env} {s : State} {m : MethodId} {below : List Frame} {meth : Method} {c : Code} {D : va_G} {G : Nat → ClassId} {x0 y0 : Nat} {a b pq kq sq : Nat → Nat} {b0 L : Nat} {xs : Nat → Int32} (C0 : lw_At p s m meth c b0 L xs) (R : ((Nat → Int32) → (Nat → Nat → Int32) → (Nat → Nat → Int64) → Prop)) (hSt_image : Step_image R) (x3 : Int32) (hin : ∀ k : Nat, k ≤ 8 → vp_in (x3 + Int32.ofNat k) L) (v : Nat → Int32) (f : Nat → Nat → Int32) (g : Nat → Nat → Int64) (hR : R v f g) (H : Heap) (locs : List Loc) (ls : Array Slot) (hK : va_K D vwCl (tyL G) s) (hP : va_P D vwCl (lawW G x0 y0 a b pq kq sq v f g) H) (hD : va_D (fun q : Nat => s.heap.size ≤ q) (lawW G x0 y0 a b pq kq sq v f g)) (hS : va_S (fun q : Nat => s.heap.size ≤ q) s.heap H locs) (hl : lv_has ls 4 [(0, .ref b0), (1, .ref x0), (2, .ref y0), (3, .int x3)]) (cont : ∀ (v : Nat → Int32) (f : Nat → Nat → Int32) (g : Nat → Nat → Int64) (H : Heap) (locs : List Loc) (ls : Array Slot), R v f g → va_P D vwCl (lawW G x0 y0 a b pq kq sq v f g) H → va_D (fun q : Nat => s.heap.size ≤ q) (lawW G x0 y0 a b pq kq sq v f g) → va_S (fun q : Nat => s.heap.size ≤ q) s.heap H locs → lv_has ls 4 [(0, .ref b0), (1, .ref x0), (2, .ref y0), (3, .int x3)] → W p l e room_1 s m #[Value.ref b0] below meth c H locs 66 2290 (lw_Z below #[Value.ref b0] s) (F0 m 1365 ls [])) : W p l e room_1 s m #[Value.ref b0] below meth c H locs 66 2290 (lw_Z below #[Value.ref b0] s) (F0 m 889 ls []) := by
  obtain ⟨hx, hb, hr, hml, hown, hts0, hX, hbl, hlocks, hgv⟩ := id C0
  have hb : c.code = cL_law := hb
  have hown : s.vm.findClass RL = some m.cls := hown
  have hts : ∀ w ∈ wsL_law, w.before #[Value.ref b0] s = true := fun w h => hts0 w (wsL_law_in w h)
  have hA : ∀ q : Nat, s.heap.size ≤ q → (fun q : Nat => s.heap.size ≤ q) q := fun _ h => h
  have hbA : ¬ (fun q : Nat => s.heap.size ≤ q) b0 := Nat.not_le.mpr hbl
  refine lv_aload_n hx hb dL_law_889 rfl (lv_at hl 1 rfl) ?_
  have hw := hSt_image v f g  hR
  have hc := c_X7_image l D G H.size x0 (a 0) (a 14) (a 28) (a 33) (a 38) (a 40) (a 44) (a 1) (a 2) (a 3) (a 4) (a 5) pq (a 15) (a 16) (a 17) (a 18) (a 19) kq (v 0) (v 1) (v 2) (v 3) (v 4) (f 0) (f 1) (f 2) (v 5) (v 6) (v 7) (v 8) (f 3) (f 4) (f 5) (f 6) (v 9) (v 10) (v 11) (v 12) (f 7) (f 8) (f 9) (v 13) (v 14) (v 15) (v 16) (f 10) (f 11) (f 12) (f 13) _ hw
  refine x_cQi (va_runV (As := []) (rest := []) ⟨hx, hb, hml, hown, hts⟩ hc (cwV 0 hts gL_law_X7_image rfl rfl rfl (by decide +kernel) ⟨(Nat.le_of_ble_eq_true rfl), (Nat.le_of_ble_eq_true rfl)⟩) (xM_pv (x_Psub hP 29 rfl) hK (x_Dsub hD 29 rfl) (va_recv hK hP (ci := 7) (q0 := 0) rfl rfl)) rfl rfl hl.1 rfl (lv_room (Nat.le_of_ble_eq_true rfl)) dL_law_890 ⟨(Nat.le_of_ble_eq_true rfl), (Nat.le_of_ble_eq_true rfl)⟩) hP hD hS hA 29 rfl (fun u => rfl) (fun u => (lawW G x0 y0 a b pq kq sq (va_up (va_up (va_up (va_up (va_up (va_up (va_up (va_up (va_up v 0 u.1) 9 u.2.1) 10 u.2.2.1) 11 u.2.2.2.1) 12 u.2.2.2.2.1) 13 u.2.2.2.2.2.2.2.2.1) 14 u.2.2.2.2.2.2.2.2.2.1) 15 u.2.2.2.2.2.2.2.2.2.2.1) 16 u.2.2.2.2.2.2.2.2.2.2.2.1) (va_up (va_up (va_up (va_up (va_up (va_up (va_up f 7 u.2.2.2.2.2.1) 8 u.2.2.2.2.2.2.1) 9 u.2.2.2.2.2.2.2.1) 10 u.2.2.2.2.2.2.2.2.2.2.2.2.1) 11 u.2.2.2.2.2.2.2.2.2.2.2.2.2.1) 12 u.2.2.2.2.2.2.2.2.2.2.2.2.2.2.1) 13 u.2.2.2.2.2.2.2.2.2.2.2.2.2.2.2) g)) (fun u => rfl) (fun r1 u H locs hw hP hD hS => ?_)
  obtain ⟨x_isKept_1, k_cows_1, k_tasters_1, k_newest_1, k_known_1, k_milks_1, k_kinds_1, k_fines_1, k_mayBe_1, k_bearer_1, k_day_1, k_draw_1, k_pm_1, k_pb_1, k_pd_1, k_pw_1⟩ := u
  try dsimp only at hw
  replace hP : va_P D vwCl (lawW G x0 y0 a b pq kq sq (va_up (va_up (va_up (va_up (va_up (va_up (va_up (va_up (va_up v 0 x_isKept_1) 9 k_cows_1) 10 k_tasters_1) 11 k_newest_1) 12 k_known_1) 13 k_mayBe_1) 14 k_bearer_1) 15 k_day_1) 16 k_draw_1) (va_up (va_up (va_up (va_up (va_up (va_up (va_up f 7 k_milks_1) 8 k_kinds_1) 9 k_fines_1) 10 k_pm_1) 11 k_pb_1) 12 k_pd_1) 13 k_pw_1) g) H := hP
  replace hD : va_D (fun q : Nat => s.heap.size ≤ q) (lawW G x0 y0 a b pq kq sq (va_up (va_up (va_up (va_up (va_up (va_up (va_up (va_up (va_up v 0 x_isKept_1) 9 k_cows_1) 10 k_tasters_1) 11 k_newest_1) 12 k_known_1) 13 k_mayBe_1) 14 k_bearer_1) 15 k_day_1) 16 k_draw_1) (va_up (va_up (va_up (va_up (va_up (va_up (va_up f 7 k_milks_1) 8 k_kinds_1) 9 k_fines_1) 10 k_pm_1) 11 k_pb_1) 12 k_pd_1) 13 k_pw_1) g) := hD
  refine lv_aload_n hx hb dL_law_893 rfl (lv_at hl 2 rfl) ?_
  have hc := c_X8_image l D G H.size y0 (b 0) (b 1) (b 2) (b 3) (b 4) (b 5) (b 6) (b 7) (b 8) (b 9) (b 10) (v 37) (v 38) (v 39) (v 40) (v 41) (v 42) (v 43) (f 29) (f 32) _ hw
  refine x_cPi (va_runV (As := []) (rest := [.int r1]) ⟨hx, hb, hml, hown, hts⟩ hc (cwV 0 hts gL_law_X8_image rfl rfl rfl (by decide +kernel) ⟨(Nat.le_of_ble_eq_true rfl), (Nat.le_of_ble_eq_true rfl)⟩) (xM_pv (hP.sub [54, 59, 62] rfl) hK (hD.sub [54, 59, 62] (by decide) rfl) (va_recv hK hP (ci := 8) (q0 := 54) rfl rfl)) rfl rfl hl.1 rfl (lv_room (Nat.le_of_ble_eq_true rfl)) dL_law_894 ⟨(Nat.le_of_ble_eq_true rfl), (Nat.le_of_ble_eq_true rfl)⟩) hP hD hS hA [54, 59, 62] rfl (fun u => rfl) (fun u => (lawW G x0 y0 a b pq kq sq (va_up (va_up (va_up (va_up (va_up (va_up (va_up (va_up (va_up (va_up v 0 x_isKept_1) 9 k_cows_1) 10 k_tasters_1) 11 k_newest_1) 12 k_known_1) 13 k_mayBe_1) 14 k_bearer_1) 15 k_day_1) 16 k_draw_1) 40 u.1) (va_up (va_up (va_up (va_up (va_up (va_up (va_up (va_up f 7 k_milks_1) 8 k_kinds_1) 9 k_fines_1) 10 k_pm_1) 11 k_pb_1) 12 k_pd_1) 13 k_pw_1) 32 u.2) g)) (fun u => rfl) (fun r2 u H locs hw hP hD hS => ?_)
  obtain ⟨m_isKept_2, m_kept_2⟩ := u
  try dsimp only at hw
  replace hP : va_P D vwCl (lawW G x0 y0 a b pq kq sq (va_up (va_up (va_up (va_up (va_up (va_up (va_up (va_up (va_up (va_up v 0 x_isKept_1) 9 k_cows_1) 10 k_tasters_1) 11 k_newest_1) 12 k_known_1) 13 k_mayBe_1) 14 k_bearer_1) 15 k_day_1) 16 k_draw_1) 40 m_isKept_2) (va_up (va_up (va_up (va_up (va_up (va_up (va_up (va_up f 7 k_milks_1) 8 k_kinds_1) 9 k_fines_1) 10 k_pm_1) 11 k_pb_1) 12 k_pd_1) 13 k_pw_1) 32 m_kept_2) g) H := hP
  replace hD : va_D (fun q : Nat => s.heap.size ≤ q) (lawW G x0 y0 a b pq kq sq (va_up (va_up (va_up (va_up (va_up (va_up (va_up (va_up (va_up (va_up v 0 x_isKept_1) 9 k_cows_1) 10 k_tasters_1) 11 k_newest_1) 12 k_known_1) 13 k_mayBe_1) 14 k_bearer_1) 15 k_day_1) 16 k_draw_1) 40 m_isKept_2) (va_up (va_up (va_up (va_up (va_up (va_up (va_up (va_up f 7 k_milks_1) 8 k_kinds_1) 9 k_fines_1) 10 k_pm_1) 11 k_pb_1) 12 k_pd_1) 13 k_pw_1) 32 m_kept_2) g) := hD
  refine lv_icmp_eq (tgt := 1365) hx hb dL_law_897 (by decide) (fun _ => ?_) (fun c9 => absurd hw.1 c9)
  exact cont _ _ _ _ _ _ hw.2 hP hD hS hl
set_option maxHeartbeats 8000000 in
set_option maxRecDepth 100000 in
theorem lawc_restore {p : Program} {l : Launch} {e : Env} {s : State} {m : MethodId} {below : List Frame} {meth : Method} {c : Code} {D : va_G} {G : Nat → ClassId} {x0 y0 : Nat} {a b pq kq sq : Nat → Nat} {b0 L : Nat} {xs : Nat → Int32} (C0 : lw_At p s m meth c b0 L xs) (R : ((Nat → Int32) → (Nat → Nat → Int32) → (Nat → Nat → Int64) → Prop)) (hSt_restore : Step_restore R) (x3 : Int32) (hin : ∀ k : Nat, k ≤ 8 → vp_in (x3 + Int32.ofNat k) L) (v : Nat → Int32) (f : Nat → Nat → Int32) (g : Nat → Nat → Int64) (hR : R v f g) (H : Heap) (locs : List Loc) (ls : Array Slot) (hK : va_K D vwCl (tyL G) s) (hP : va_P D vwCl (lawW G x0 y0 a b pq kq sq v f g) H) (hD : va_D (fun q : Nat => s.heap.size ≤ q) (lawW G x0 y0 a b pq kq sq v f g)) (hS : va_S (fun q : Nat => s.heap.size ≤ q) s.heap H locs) (hl : lv_has ls 4 [(0, .ref b0), (1, .ref x0), (2, .ref y0), (3, .int x3)]) (cont : ∀ (v : Nat → Int32) (f : Nat → Nat → Int32) (g : Nat → Nat → Int64) (H : Heap) (locs : List Loc) (ls : Array Slot), R v f g → va_P D vwCl (lawW G x0 y0 a b pq kq sq v f g) H → va_D (fun q : Nat => s.heap.size ≤ q) (lawW G x0 y0 a b pq kq sq v f g) → va_S (fun q : Nat => s.heap.size ≤ q) s.heap H locs → lv_has ls 4 [(0, .ref b0), (1, .ref x0), (2, .ref y0), (3, .int x3)] → W p l e room_1 s m #[Value.ref b0] below meth c H locs 66 2290 (lw_Z below #[Value.ref b0] s) (F0 m 1365 ls [])) : W p l e room_1 s m #[Value.ref b0] below meth c H locs 66 2290 (lw_Z below #[Value.ref b0] s) (F0 m 902 ls []) := by
  obtain ⟨hx, hb, hr, hml, hown, hts0, hX, hbl, hlocks, hgv⟩ := id C0
  have hb : c.code = cL_law := hb
  have hown : s.vm.findClass RL = some m.cls := hown
  have hts : ∀ w ∈ wsL_law, w.before #[Value.ref b0] s = true := fun w h => hts0 w (wsL_law_in w h)
  have hA : ∀ q : Nat, s.heap.size ≤ q → (fun q : Nat => s.heap.size ≤ q) q := fun _ h => h
  have hbA : ¬ (fun q : Nat => s.heap.size ≤ q) b0 := Nat.not_le.mpr hbl
  refine lv_aload_n hx hb dL_law_902 rfl (lv_at hl 1 rfl) ?_
  have hw := hSt_restore v f g  hR
  have hc := c_X7_restore l D G H.size x0 (a 0) (a 14) (a 28) (a 33) (a 38) (a 40) (a 44) (a 1) (a 2) (a 3) (a 4) (a 5) pq (a 15) (a 16) (a 17) (a 18) (a 19) kq (v 0) (v 1) (v 2) (v 3) (v 4) (f 0) (f 1) (f 2) (v 5) (v 6) (v 7) (v 8) (f 3) (f 4) (f 5) (f 6) (v 9) (v 10) (v 11) (v 12) (f 7) (f 8) (f 9) (v 13) (v 14) (v 15) (v 16) (f 10) (f 11) (f 12) (f 13) _ hw
  refine x_cQi (va_runV (As := []) (rest := []) ⟨hx, hb, hml, hown, hts⟩ hc (cwV 0 hts gL_law_X7_restore rfl rfl rfl (by decide +kernel) ⟨(Nat.le_of_ble_eq_true rfl), (Nat.le_of_ble_eq_true rfl)⟩) (xM_pv (x_Psub hP 29 rfl) hK (x_Dsub hD 29 rfl) (va_recv hK hP (ci := 7) (q0 := 0) rfl rfl)) rfl rfl hl.1 rfl (lv_room (Nat.le_of_ble_eq_true rfl)) dL_law_903 ⟨(Nat.le_of_ble_eq_true rfl), (Nat.le_of_ble_eq_true rfl)⟩) hP hD hS hA 29 rfl (fun u => rfl) (fun u => (lawW G x0 y0 a b pq kq sq (va_up (va_up (va_up (va_up (va_up (va_up (va_up (va_up v 1 u.1) 2 u.2.1) 3 u.2.2.1) 4 u.2.2.2.1) 5 u.2.2.2.2.2.2.2.1) 6 u.2.2.2.2.2.2.2.2.1) 7 u.2.2.2.2.2.2.2.2.2.1) 8 u.2.2.2.2.2.2.2.2.2.2.1) (va_up (va_up (va_up (va_up (va_up (va_up (va_up f 0 u.2.2.2.2.1) 1 u.2.2.2.2.2.1) 2 u.2.2.2.2.2.2.1) 3 u.2.2.2.2.2.2.2.2.2.2.2.1) 4 u.2.2.2.2.2.2.2.2.2.2.2.2.1) 5 u.2.2.2.2.2.2.2.2.2.2.2.2.2.1) 6 u.2.2.2.2.2.2.2.2.2.2.2.2.2.2) g)) (fun u => rfl) (fun r1 u H locs hw hP hD hS => ?_)
  obtain ⟨cows_1, tasters_1, newest_1, known_1, milks_1, kinds_1, fines_1, mayBe_1, bearer_1, day_1, draw_1, pm_1, pb_1, pd_1, pw_1⟩ := u
  try dsimp only at hw
  replace hP : va_P D vwCl (lawW G x0 y0 a b pq kq sq (va_up (va_up (va_up (va_up (va_up (va_up (va_up (va_up v 1 cows_1) 2 tasters_1) 3 newest_1) 4 known_1) 5 mayBe_1) 6 bearer_1) 7 day_1) 8 draw_1) (va_up (va_up (va_up (va_up (va_up (va_up (va_up f 0 milks_1) 1 kinds_1) 2 fines_1) 3 pm_1) 4 pb_1) 5 pd_1) 6 pw_1) g) H := hP
  replace hD : va_D (fun q : Nat => s.heap.size ≤ q) (lawW G x0 y0 a b pq kq sq (va_up (va_up (va_up (va_up (va_up (va_up (va_up (va_up v 1 cows_1) 2 tasters_1) 3 newest_1) 4 known_1) 5 mayBe_1) 6 bearer_1) 7 day_1) 8 draw_1) (va_up (va_up (va_up (va_up (va_up (va_up (va_up f 0 milks_1) 1 kinds_1) 2 fines_1) 3 pm_1) 4 pb_1) 5 pd_1) 6 pw_1) g) := hD
  refine lv_aload_n hx hb dL_law_906 rfl (lv_at hl 2 rfl) ?_
  have hc := c_X8_restore l D G H.size y0 (b 0) (b 1) (b 2) (b 3) (b 4) (b 5) (b 6) (b 7) (b 8) (b 9) (b 10) (v 37) (v 38) (v 39) (v 40) (v 41) (v 42) (v 43) (f 29) (f 32) _ hw
  refine x_cPi (va_runV (As := []) (rest := [.int r1]) ⟨hx, hb, hml, hown, hts⟩ hc (cwV 0 hts gL_law_X8_restore rfl rfl rfl (by decide +kernel) ⟨(Nat.le_of_ble_eq_true rfl), (Nat.le_of_ble_eq_true rfl)⟩) (xM_pv (hP.sub [54, 59, 62] rfl) hK (hD.sub [54, 59, 62] (by decide) rfl) (va_recv hK hP (ci := 8) (q0 := 54) rfl rfl)) rfl rfl hl.1 rfl (lv_room (Nat.le_of_ble_eq_true rfl)) dL_law_907 ⟨(Nat.le_of_ble_eq_true rfl), (Nat.le_of_ble_eq_true rfl)⟩) hP hD hS hA [54, 59, 62] rfl (fun u => rfl) (fun u => (lawW G x0 y0 a b pq kq sq (va_up (va_up (va_up (va_up (va_up (va_up (va_up (va_up v 1 cows_1) 2 tasters_1) 3 newest_1) 4 known_1) 5 mayBe_1) 6 bearer_1) 7 day_1) 8 draw_1) (va_up (va_up (va_up (va_up (va_up (va_up (va_up (va_up f 0 milks_1) 1 kinds_1) 2 fines_1) 3 pm_1) 4 pb_1) 5 pd_1) 6 pw_1) 29 u) g)) (fun u => rfl) (fun r2 u H locs hw hP hD hS => ?_)
  obtain ⟨m_now_2, rfl⟩ : ∃ z, z = u := ⟨_, rfl⟩
  try dsimp only at hw
  replace hP : va_P D vwCl (lawW G x0 y0 a b pq kq sq (va_up (va_up (va_up (va_up (va_up (va_up (va_up (va_up v 1 cows_1) 2 tasters_1) 3 newest_1) 4 known_1) 5 mayBe_1) 6 bearer_1) 7 day_1) 8 draw_1) (va_up (va_up (va_up (va_up (va_up (va_up (va_up (va_up f 0 milks_1) 1 kinds_1) 2 fines_1) 3 pm_1) 4 pb_1) 5 pd_1) 6 pw_1) 29 m_now_2) g) H := hP
  replace hD : va_D (fun q : Nat => s.heap.size ≤ q) (lawW G x0 y0 a b pq kq sq (va_up (va_up (va_up (va_up (va_up (va_up (va_up (va_up v 1 cows_1) 2 tasters_1) 3 newest_1) 4 known_1) 5 mayBe_1) 6 bearer_1) 7 day_1) 8 draw_1) (va_up (va_up (va_up (va_up (va_up (va_up (va_up (va_up f 0 milks_1) 1 kinds_1) 2 fines_1) 3 pm_1) 4 pb_1) 5 pd_1) 6 pw_1) 29 m_now_2) g) := hD
  refine lv_icmp_eq (tgt := 1365) hx hb dL_law_910 (by decide) (fun _ => ?_) (fun c9 => absurd hw.1 c9)
  exact cont _ _ _ _ _ _ hw.2 hP hD hS hl
set_option maxHeartbeats 8000000 in
set_option maxRecDepth 100000 in
theorem lawc_fits {p : Program} {l : Launch} {e : Env} {s : State} {m : MethodId} {below : List Frame} {meth : Method} {c : Code} {D : va_G} {G : Nat → ClassId} {x0 y0 : Nat} {a b pq kq sq : Nat → Nat} {b0 L : Nat} {xs : Nat → Int32} (C0 : lw_At p s m meth c b0 L xs) (R : ((Nat → Int32) → (Nat → Nat → Int32) → (Nat → Nat → Int64) → Prop)) (hSt_fits : Step_fits R) (x3 : Int32) (hin : ∀ k : Nat, k ≤ 8 → vp_in (x3 + Int32.ofNat k) L) (hsq : ∀ k, 4 ≤ k → sq k = sq 0) (v : Nat → Int32) (f : Nat → Nat → Int32) (g : Nat → Nat → Int64) (hR : R v f g) (H : Heap) (locs : List Loc) (ls : Array Slot) (hK : va_K D vwCl (tyL G) s) (hP : va_P D vwCl (lawW G x0 y0 a b pq kq sq v f g) H) (hD : va_D (fun q : Nat => s.heap.size ≤ q) (lawW G x0 y0 a b pq kq sq v f g)) (hS : va_S (fun q : Nat => s.heap.size ≤ q) s.heap H locs) (hl : lv_has ls 4 [(0, .ref b0), (1, .ref x0), (2, .ref y0), (3, .int x3)]) (cont : ∀ (v : Nat → Int32) (f : Nat → Nat → Int32) (g : Nat → Nat → Int64) (H : Heap) (locs : List Loc) (ls : Array Slot), R v f g → va_P D vwCl (lawW G x0 y0 a b pq kq sq v f g) H → va_D (fun q : Nat => s.heap.size ≤ q) (lawW G x0 y0 a b pq kq sq v f g) → va_S (fun q : Nat => s.heap.size ≤ q) s.heap H locs → lv_has ls 4 [(0, .ref b0), (1, .ref x0), (2, .ref y0), (3, .int x3)] → W p l e room_1 s m #[Value.ref b0] below meth c H locs 66 2290 (lw_Z below #[Value.ref b0] s) (F0 m 1365 ls [])) : W p l e room_1 s m #[Value.ref b0] below meth c H locs 66 2290 (lw_Z below #[Value.ref b0] s) (F0 m 915 ls []) := by
  obtain ⟨hx, hb, hr, hml, hown, hts0, hX, hbl, hlocks, hgv⟩ := id C0
  have hb : c.code = cL_law := hb
  have hown : s.vm.findClass RL = some m.cls := hown
  have hts : ∀ w ∈ wsL_law, w.before #[Value.ref b0] s = true := fun w h => hts0 w (wsL_law_in w h)
  have hA : ∀ q : Nat, s.heap.size ≤ q → (fun q : Nat => s.heap.size ≤ q) q := fun _ h => h
  have hbA : ¬ (fun q : Nat => s.heap.size ≤ q) b0 := Nat.not_le.mpr hbl
  refine lv_aload_n hx hb dL_law_915 rfl (lv_at hl 1 rfl) ?_
  refine lv_aload_n hx hb dL_law_916 rfl (lv_at hl 0 rfl) ?_
  refine lv_iload_n hx hb dL_law_917 rfl (lv_at hl 3 rfl) ?_
  refine lv_iconst (v := 1) hx hb dL_law_918 (by decide) ?_
  refine lv_iadd hx hb dL_law_919 ?_
  refine va_sld hx hb hX hbl hbA hS (hin 1 (by decide)) dL_law_920 ?_
  refine lv_aload_n hx hb dL_law_921 rfl (lv_at hl 0 rfl) ?_
  refine lv_iload_n hx hb dL_law_922 rfl (lv_at hl 3 rfl) ?_
  refine lv_iconst (v := 2) hx hb dL_law_923 (by decide) ?_
  refine lv_iadd hx hb dL_law_924 ?_
  refine va_sld hx hb hX hbl hbA hS (hin 2 (by decide)) dL_law_925 ?_
  refine lv_aload_n hx hb dL_law_926 rfl (lv_at hl 0 rfl) ?_
  refine lv_iload_n hx hb dL_law_927 rfl (lv_at hl 3 rfl) ?_
  refine lv_iconst (v := 3) hx hb dL_law_928 (by decide) ?_
  refine lv_iadd hx hb dL_law_929 ?_
  refine va_sld hx hb hX hbl hbA hS (hin 3 (by decide)) dL_law_930 ?_
  refine lv_aload_n hx hb dL_law_931 rfl (lv_at hl 0 rfl) ?_
  refine lv_iload_n hx hb dL_law_932 rfl (lv_at hl 3 rfl) ?_
  refine lv_iconst (v := 4) hx hb dL_law_933 (by decide) ?_
  refine lv_iadd hx hb dL_law_934 ?_
  refine va_sld hx hb hX hbl hbA hS (hin 4 (by decide)) dL_law_935 ?_
  refine lv_aload_n hx hb dL_law_936 rfl (lv_at hl 0 rfl) ?_
  refine lv_iload_n hx hb dL_law_937 rfl (lv_at hl 3 rfl) ?_
  refine lv_iconst (v := 5) hx hb dL_law_938 (by decide) ?_
  refine lv_iadd hx hb dL_law_939 ?_
  refine va_sld hx hb hX hbl hbA hS (hin 5 (by decide)) dL_law_940 ?_
  refine lv_aload_n hx hb dL_law_941 rfl (lv_at hl 0 rfl) ?_
  refine lv_iload_n hx hb dL_law_942 rfl (lv_at hl 3 rfl) ?_
  refine lv_bipush (v := 6) hx hb dL_law_943 (by decide) ?_
  refine lv_iadd hx hb dL_law_945 ?_
  refine va_sld hx hb hX hbl hbA hS (hin 6 (by decide)) dL_law_946 ?_
  rcases x_sj4 (xs (x3 + (2 : Int32)).toNatClampNeg) with hj | hj | hj | hj
  · have hq : sq ((xs (x3 + (2 : Int32)).toNatClampNeg)).toNatClampNeg = sq 0 := x_sq hsq hj
    have hw := hSt_fits v f g (xs (x3 + (1 : Int32)).toNatClampNeg) (xs (x3 + (2 : Int32)).toNatClampNeg) (xs (x3 + (3 : Int32)).toNatClampNeg) (xs (x3 + (4 : Int32)).toNatClampNeg) (xs (x3 + (5 : Int32)).toNatClampNeg) (xs (x3 + (6 : Int32)).toNatClampNeg) 0 hj hR
    have hc := c_X7_fits l D G H.size x0 (a 0) (a 14) (a 28) (a 33) (a 38) (a 40) (a 44) (a 1) (a 2) (a 3) (a 4) (a 5) (a 41) (a 42) (a 43) sq (a 46) (v 0) (v 1) (v 2) (v 3) (v 4) (f 0) (f 1) (f 2) (v 5) (v 6) (v 7) (v 8) (v 28) (f 23) (f 24) (v (29 + 0)) (v (33 + 0)) (g 0) (xs (x3 + (1 : Int32)).toNatClampNeg) (xs (x3 + (2 : Int32)).toNatClampNeg) (xs (x3 + (3 : Int32)).toNatClampNeg) (xs (x3 + (4 : Int32)).toNatClampNeg) (xs (x3 + (5 : Int32)).toNatClampNeg) (xs (x3 + (6 : Int32)).toNatClampNeg) _ hw
    rw [hq] at hc
    refine x_cPi (va_runV (As := [.int (xs (x3 + (1 : Int32)).toNatClampNeg), .int (xs (x3 + (2 : Int32)).toNatClampNeg), .int (xs (x3 + (3 : Int32)).toNatClampNeg), .int (xs (x3 + (4 : Int32)).toNatClampNeg), .int (xs (x3 + (5 : Int32)).toNatClampNeg), .int (xs (x3 + (6 : Int32)).toNatClampNeg)]) (rest := []) ⟨hx, hb, hml, hown, hts⟩ hc (cwV 6 hts gL_law_X7_fits rfl rfl rfl (by decide +kernel) ⟨(Nat.le_of_ble_eq_true rfl), (Nat.le_of_ble_eq_true rfl)⟩) (xM_pv (hP.sub [0, 1, 2, 3, 4, 5, 41, 42, 43, 45, 46, 47] rfl) hK (hD.sub [0, 1, 2, 3, 4, 5, 41, 42, 43, 45, 46, 47] (by decide) rfl) (va_recv hK hP (ci := 7) (q0 := 0) rfl rfl)) rfl rfl hl.1 rfl (lv_room (Nat.le_of_ble_eq_true rfl)) dL_law_947 ⟨(Nat.le_of_ble_eq_true rfl), (Nat.le_of_ble_eq_true rfl)⟩) hP hD hS hA [0, 1, 2, 3, 4, 5, 41, 42, 43, 45, 46, 47] rfl (fun u => rfl) (fun u => (lawW G x0 y0 a b pq kq sq (va_up v 28 u.1) (va_up (va_up f 23 u.2.1) 24 u.2.2) g)) (fun u => rfl) (fun r1 u H locs hw hP hD hS => ?_)
    obtain ⟨w_pairs_1, w_mixes_1, w_answers_1⟩ := u
    try dsimp only at hw
    replace hP : va_P D vwCl (lawW G x0 y0 a b pq kq sq (va_up v 28 w_pairs_1) (va_up (va_up f 23 w_mixes_1) 24 w_answers_1) g) H := hP
    replace hD : va_D (fun q : Nat => s.heap.size ≤ q) (lawW G x0 y0 a b pq kq sq (va_up v 28 w_pairs_1) (va_up (va_up f 23 w_mixes_1) 24 w_answers_1) g) := hD
    refine lv_aload_n hx hb dL_law_950 rfl (lv_at hl 2 rfl) ?_
    refine lv_aload_n hx hb dL_law_951 rfl (lv_at hl 0 rfl) ?_
    refine lv_iload_n hx hb dL_law_952 rfl (lv_at hl 3 rfl) ?_
    refine lv_iconst (v := 1) hx hb dL_law_953 (by decide) ?_
    refine lv_iadd hx hb dL_law_954 ?_
    refine va_sld hx hb hX hbl hbA hS (hin 1 (by decide)) dL_law_955 ?_
    refine lv_aload_n hx hb dL_law_956 rfl (lv_at hl 0 rfl) ?_
    refine lv_iload_n hx hb dL_law_957 rfl (lv_at hl 3 rfl) ?_
    refine lv_iconst (v := 2) hx hb dL_law_958 (by decide) ?_
    refine lv_iadd hx hb dL_law_959 ?_
    refine va_sld hx hb hX hbl hbA hS (hin 2 (by decide)) dL_law_960 ?_
    refine lv_aload_n hx hb dL_law_961 rfl (lv_at hl 0 rfl) ?_
    refine lv_iload_n hx hb dL_law_962 rfl (lv_at hl 3 rfl) ?_
    refine lv_iconst (v := 3) hx hb dL_law_963 (by decide) ?_
    refine lv_iadd hx hb dL_law_964 ?_
    refine va_sld hx hb hX hbl hbA hS (hin 3 (by decide)) dL_law_965 ?_
    refine lv_aload_n hx hb dL_law_966 rfl (lv_at hl 0 rfl) ?_
    refine lv_iload_n hx hb dL_law_967 rfl (lv_at hl 3 rfl) ?_
    refine lv_iconst (v := 4) hx hb dL_law_968 (by decide) ?_
    refine lv_iadd hx hb dL_law_969 ?_
    refine va_sld hx hb hX hbl hbA hS (hin 4 (by decide)) dL_law_970 ?_
    refine lv_aload_n hx hb dL_law_971 rfl (lv_at hl 0 rfl) ?_
    refine lv_iload_n hx hb dL_law_972 rfl (lv_at hl 3 rfl) ?_
    refine lv_iconst (v := 5) hx hb dL_law_973 (by decide) ?_
    refine lv_iadd hx hb dL_law_974 ?_
    refine va_sld hx hb hX hbl hbA hS (hin 5 (by decide)) dL_law_975 ?_
    refine lv_aload_n hx hb dL_law_976 rfl (lv_at hl 0 rfl) ?_
    refine lv_iload_n hx hb dL_law_977 rfl (lv_at hl 3 rfl) ?_
    refine lv_bipush (v := 6) hx hb dL_law_978 (by decide) ?_
    refine lv_iadd hx hb dL_law_980 ?_
    refine va_sld hx hb hX hbl hbA hS (hin 6 (by decide)) dL_law_981 ?_
    have hc := c_X8_fits l D G H.size y0 (b 0) (b 1) (b 2) (b 3) (b 4) (b 5) (b 6) (b 7) (b 8) (b 9) (b 10) (v 37) (v 38) (v 39) (v 40) (v 41) (v 42) (v 43) (f 26) (f 27) (g 4) (f 29) (f 30) (xs (x3 + (1 : Int32)).toNatClampNeg) (xs (x3 + (2 : Int32)).toNatClampNeg) (xs (x3 + (3 : Int32)).toNatClampNeg) (xs (x3 + (4 : Int32)).toNatClampNeg) (xs (x3 + (5 : Int32)).toNatClampNeg) (xs (x3 + (6 : Int32)).toNatClampNeg) _ hw
    refine x_cPi (va_runV (As := [.int (xs (x3 + (1 : Int32)).toNatClampNeg), .int (xs (x3 + (2 : Int32)).toNatClampNeg), .int (xs (x3 + (3 : Int32)).toNatClampNeg), .int (xs (x3 + (4 : Int32)).toNatClampNeg), .int (xs (x3 + (5 : Int32)).toNatClampNeg), .int (xs (x3 + (6 : Int32)).toNatClampNeg)]) (rest := [.int r1]) ⟨hx, hb, hml, hown, hts⟩ hc (cwV 6 hts gL_law_X8_fits rfl rfl rfl (by decide +kernel) ⟨(Nat.le_of_ble_eq_true rfl), (Nat.le_of_ble_eq_true rfl)⟩) (xM_pv (hP.sub [54, 55, 56, 57, 59, 60] rfl) hK (hD.sub [54, 55, 56, 57, 59, 60] (by decide) rfl) (va_recv hK hP (ci := 8) (q0 := 54) rfl rfl)) rfl rfl hl.1 rfl (lv_room (Nat.le_of_ble_eq_true rfl)) dL_law_982 ⟨(Nat.le_of_ble_eq_true rfl), (Nat.le_of_ble_eq_true rfl)⟩) hP hD hS hA [54, 55, 56, 57, 59, 60] rfl (fun u => rfl) (fun u => (lawW G x0 y0 a b pq kq sq (va_up v 28 w_pairs_1) (va_up (va_up (va_up f 23 w_mixes_1) 24 w_answers_1) 30 u) g)) (fun u => rfl) (fun r2 u H locs hw hP hD hS => ?_)
    obtain ⟨m_tried_2, rfl⟩ : ∃ z, z = u := ⟨_, rfl⟩
    try dsimp only at hw
    replace hP : va_P D vwCl (lawW G x0 y0 a b pq kq sq (va_up v 28 w_pairs_1) (va_up (va_up (va_up f 23 w_mixes_1) 24 w_answers_1) 30 m_tried_2) g) H := hP
    replace hD : va_D (fun q : Nat => s.heap.size ≤ q) (lawW G x0 y0 a b pq kq sq (va_up v 28 w_pairs_1) (va_up (va_up (va_up f 23 w_mixes_1) 24 w_answers_1) 30 m_tried_2) g) := hD
    refine lv_icmp_eq (tgt := 1365) hx hb dL_law_985 (by decide) (fun _ => ?_) (fun c9 => absurd hw.1 c9)
    exact cont _ _ _ _ _ _ hw.2 hP hD hS hl
  · have hq : sq ((xs (x3 + (2 : Int32)).toNatClampNeg)).toNatClampNeg = sq 1 := x_sq hsq hj
    have hw := hSt_fits v f g (xs (x3 + (1 : Int32)).toNatClampNeg) (xs (x3 + (2 : Int32)).toNatClampNeg) (xs (x3 + (3 : Int32)).toNatClampNeg) (xs (x3 + (4 : Int32)).toNatClampNeg) (xs (x3 + (5 : Int32)).toNatClampNeg) (xs (x3 + (6 : Int32)).toNatClampNeg) 1 hj hR
    have hc := c_X7_fits l D G H.size x0 (a 0) (a 14) (a 28) (a 33) (a 38) (a 40) (a 44) (a 1) (a 2) (a 3) (a 4) (a 5) (a 41) (a 42) (a 43) sq (a 48) (v 0) (v 1) (v 2) (v 3) (v 4) (f 0) (f 1) (f 2) (v 5) (v 6) (v 7) (v 8) (v 28) (f 23) (f 24) (v (29 + 1)) (v (33 + 1)) (g 1) (xs (x3 + (1 : Int32)).toNatClampNeg) (xs (x3 + (2 : Int32)).toNatClampNeg) (xs (x3 + (3 : Int32)).toNatClampNeg) (xs (x3 + (4 : Int32)).toNatClampNeg) (xs (x3 + (5 : Int32)).toNatClampNeg) (xs (x3 + (6 : Int32)).toNatClampNeg) _ hw
    rw [hq] at hc
    refine x_cPi (va_runV (As := [.int (xs (x3 + (1 : Int32)).toNatClampNeg), .int (xs (x3 + (2 : Int32)).toNatClampNeg), .int (xs (x3 + (3 : Int32)).toNatClampNeg), .int (xs (x3 + (4 : Int32)).toNatClampNeg), .int (xs (x3 + (5 : Int32)).toNatClampNeg), .int (xs (x3 + (6 : Int32)).toNatClampNeg)]) (rest := []) ⟨hx, hb, hml, hown, hts⟩ hc (cwV 6 hts gL_law_X7_fits rfl rfl rfl (by decide +kernel) ⟨(Nat.le_of_ble_eq_true rfl), (Nat.le_of_ble_eq_true rfl)⟩) (xM_pv (hP.sub [0, 1, 2, 3, 4, 5, 41, 42, 43, 45, 48, 49] rfl) hK (hD.sub [0, 1, 2, 3, 4, 5, 41, 42, 43, 45, 48, 49] (by decide) rfl) (va_recv hK hP (ci := 7) (q0 := 0) rfl rfl)) rfl rfl hl.1 rfl (lv_room (Nat.le_of_ble_eq_true rfl)) dL_law_947 ⟨(Nat.le_of_ble_eq_true rfl), (Nat.le_of_ble_eq_true rfl)⟩) hP hD hS hA [0, 1, 2, 3, 4, 5, 41, 42, 43, 45, 48, 49] rfl (fun u => rfl) (fun u => (lawW G x0 y0 a b pq kq sq (va_up v 28 u.1) (va_up (va_up f 23 u.2.1) 24 u.2.2) g)) (fun u => rfl) (fun r1 u H locs hw hP hD hS => ?_)
    obtain ⟨w_pairs_1, w_mixes_1, w_answers_1⟩ := u
    try dsimp only at hw
    replace hP : va_P D vwCl (lawW G x0 y0 a b pq kq sq (va_up v 28 w_pairs_1) (va_up (va_up f 23 w_mixes_1) 24 w_answers_1) g) H := hP
    replace hD : va_D (fun q : Nat => s.heap.size ≤ q) (lawW G x0 y0 a b pq kq sq (va_up v 28 w_pairs_1) (va_up (va_up f 23 w_mixes_1) 24 w_answers_1) g) := hD
    refine lv_aload_n hx hb dL_law_950 rfl (lv_at hl 2 rfl) ?_
    refine lv_aload_n hx hb dL_law_951 rfl (lv_at hl 0 rfl) ?_
    refine lv_iload_n hx hb dL_law_952 rfl (lv_at hl 3 rfl) ?_
    refine lv_iconst (v := 1) hx hb dL_law_953 (by decide) ?_
    refine lv_iadd hx hb dL_law_954 ?_
    refine va_sld hx hb hX hbl hbA hS (hin 1 (by decide)) dL_law_955 ?_
    refine lv_aload_n hx hb dL_law_956 rfl (lv_at hl 0 rfl) ?_
    refine lv_iload_n hx hb dL_law_957 rfl (lv_at hl 3 rfl) ?_
    refine lv_iconst (v := 2) hx hb dL_law_958 (by decide) ?_
    refine lv_iadd hx hb dL_law_959 ?_
    refine va_sld hx hb hX hbl hbA hS (hin 2 (by decide)) dL_law_960 ?_
    refine lv_aload_n hx hb dL_law_961 rfl (lv_at hl 0 rfl) ?_
    refine lv_iload_n hx hb dL_law_962 rfl (lv_at hl 3 rfl) ?_
    refine lv_iconst (v := 3) hx hb dL_law_963 (by decide) ?_
    refine lv_iadd hx hb dL_law_964 ?_
    refine va_sld hx hb hX hbl hbA hS (hin 3 (by decide)) dL_law_965 ?_
    refine lv_aload_n hx hb dL_law_966 rfl (lv_at hl 0 rfl) ?_
    refine lv_iload_n hx hb dL_law_967 rfl (lv_at hl 3 rfl) ?_
    refine lv_iconst (v := 4) hx hb dL_law_968 (by decide) ?_
    refine lv_iadd hx hb dL_law_969 ?_
    refine va_sld hx hb hX hbl hbA hS (hin 4 (by decide)) dL_law_970 ?_
    refine lv_aload_n hx hb dL_law_971 rfl (lv_at hl 0 rfl) ?_
    refine lv_iload_n hx hb dL_law_972 rfl (lv_at hl 3 rfl) ?_
    refine lv_iconst (v := 5) hx hb dL_law_973 (by decide) ?_
    refine lv_iadd hx hb dL_law_974 ?_
    refine va_sld hx hb hX hbl hbA hS (hin 5 (by decide)) dL_law_975 ?_
    refine lv_aload_n hx hb dL_law_976 rfl (lv_at hl 0 rfl) ?_
    refine lv_iload_n hx hb dL_law_977 rfl (lv_at hl 3 rfl) ?_
    refine lv_bipush (v := 6) hx hb dL_law_978 (by decide) ?_
    refine lv_iadd hx hb dL_law_980 ?_
    refine va_sld hx hb hX hbl hbA hS (hin 6 (by decide)) dL_law_981 ?_
    have hc := c_X8_fits l D G H.size y0 (b 0) (b 1) (b 2) (b 3) (b 4) (b 5) (b 6) (b 7) (b 8) (b 9) (b 10) (v 37) (v 38) (v 39) (v 40) (v 41) (v 42) (v 43) (f 26) (f 27) (g 4) (f 29) (f 30) (xs (x3 + (1 : Int32)).toNatClampNeg) (xs (x3 + (2 : Int32)).toNatClampNeg) (xs (x3 + (3 : Int32)).toNatClampNeg) (xs (x3 + (4 : Int32)).toNatClampNeg) (xs (x3 + (5 : Int32)).toNatClampNeg) (xs (x3 + (6 : Int32)).toNatClampNeg) _ hw
    refine x_cPi (va_runV (As := [.int (xs (x3 + (1 : Int32)).toNatClampNeg), .int (xs (x3 + (2 : Int32)).toNatClampNeg), .int (xs (x3 + (3 : Int32)).toNatClampNeg), .int (xs (x3 + (4 : Int32)).toNatClampNeg), .int (xs (x3 + (5 : Int32)).toNatClampNeg), .int (xs (x3 + (6 : Int32)).toNatClampNeg)]) (rest := [.int r1]) ⟨hx, hb, hml, hown, hts⟩ hc (cwV 6 hts gL_law_X8_fits rfl rfl rfl (by decide +kernel) ⟨(Nat.le_of_ble_eq_true rfl), (Nat.le_of_ble_eq_true rfl)⟩) (xM_pv (hP.sub [54, 55, 56, 57, 59, 60] rfl) hK (hD.sub [54, 55, 56, 57, 59, 60] (by decide) rfl) (va_recv hK hP (ci := 8) (q0 := 54) rfl rfl)) rfl rfl hl.1 rfl (lv_room (Nat.le_of_ble_eq_true rfl)) dL_law_982 ⟨(Nat.le_of_ble_eq_true rfl), (Nat.le_of_ble_eq_true rfl)⟩) hP hD hS hA [54, 55, 56, 57, 59, 60] rfl (fun u => rfl) (fun u => (lawW G x0 y0 a b pq kq sq (va_up v 28 w_pairs_1) (va_up (va_up (va_up f 23 w_mixes_1) 24 w_answers_1) 30 u) g)) (fun u => rfl) (fun r2 u H locs hw hP hD hS => ?_)
    obtain ⟨m_tried_2, rfl⟩ : ∃ z, z = u := ⟨_, rfl⟩
    try dsimp only at hw
    replace hP : va_P D vwCl (lawW G x0 y0 a b pq kq sq (va_up v 28 w_pairs_1) (va_up (va_up (va_up f 23 w_mixes_1) 24 w_answers_1) 30 m_tried_2) g) H := hP
    replace hD : va_D (fun q : Nat => s.heap.size ≤ q) (lawW G x0 y0 a b pq kq sq (va_up v 28 w_pairs_1) (va_up (va_up (va_up f 23 w_mixes_1) 24 w_answers_1) 30 m_tried_2) g) := hD
    refine lv_icmp_eq (tgt := 1365) hx hb dL_law_985 (by decide) (fun _ => ?_) (fun c9 => absurd hw.1 c9)
    exact cont _ _ _ _ _ _ hw.2 hP hD hS hl
  · have hq : sq ((xs (x3 + (2 : Int32)).toNatClampNeg)).toNatClampNeg = sq 2 := x_sq hsq hj
    have hw := hSt_fits v f g (xs (x3 + (1 : Int32)).toNatClampNeg) (xs (x3 + (2 : Int32)).toNatClampNeg) (xs (x3 + (3 : Int32)).toNatClampNeg) (xs (x3 + (4 : Int32)).toNatClampNeg) (xs (x3 + (5 : Int32)).toNatClampNeg) (xs (x3 + (6 : Int32)).toNatClampNeg) 2 hj hR
    have hc := c_X7_fits l D G H.size x0 (a 0) (a 14) (a 28) (a 33) (a 38) (a 40) (a 44) (a 1) (a 2) (a 3) (a 4) (a 5) (a 41) (a 42) (a 43) sq (a 50) (v 0) (v 1) (v 2) (v 3) (v 4) (f 0) (f 1) (f 2) (v 5) (v 6) (v 7) (v 8) (v 28) (f 23) (f 24) (v (29 + 2)) (v (33 + 2)) (g 2) (xs (x3 + (1 : Int32)).toNatClampNeg) (xs (x3 + (2 : Int32)).toNatClampNeg) (xs (x3 + (3 : Int32)).toNatClampNeg) (xs (x3 + (4 : Int32)).toNatClampNeg) (xs (x3 + (5 : Int32)).toNatClampNeg) (xs (x3 + (6 : Int32)).toNatClampNeg) _ hw
    rw [hq] at hc
    refine x_cPi (va_runV (As := [.int (xs (x3 + (1 : Int32)).toNatClampNeg), .int (xs (x3 + (2 : Int32)).toNatClampNeg), .int (xs (x3 + (3 : Int32)).toNatClampNeg), .int (xs (x3 + (4 : Int32)).toNatClampNeg), .int (xs (x3 + (5 : Int32)).toNatClampNeg), .int (xs (x3 + (6 : Int32)).toNatClampNeg)]) (rest := []) ⟨hx, hb, hml, hown, hts⟩ hc (cwV 6 hts gL_law_X7_fits rfl rfl rfl (by decide +kernel) ⟨(Nat.le_of_ble_eq_true rfl), (Nat.le_of_ble_eq_true rfl)⟩) (xM_pv (hP.sub [0, 1, 2, 3, 4, 5, 41, 42, 43, 45, 50, 51] rfl) hK (hD.sub [0, 1, 2, 3, 4, 5, 41, 42, 43, 45, 50, 51] (by decide) rfl) (va_recv hK hP (ci := 7) (q0 := 0) rfl rfl)) rfl rfl hl.1 rfl (lv_room (Nat.le_of_ble_eq_true rfl)) dL_law_947 ⟨(Nat.le_of_ble_eq_true rfl), (Nat.le_of_ble_eq_true rfl)⟩) hP hD hS hA [0, 1, 2, 3, 4, 5, 41, 42, 43, 45, 50, 51] rfl (fun u => rfl) (fun u => (lawW G x0 y0 a b pq kq sq (va_up v 28 u.1) (va_up (va_up f 23 u.2.1) 24 u.2.2) g)) (fun u => rfl) (fun r1 u H locs hw hP hD hS => ?_)
    obtain ⟨w_pairs_1, w_mixes_1, w_answers_1⟩ := u
    try dsimp only at hw
    replace hP : va_P D vwCl (lawW G x0 y0 a b pq kq sq (va_up v 28 w_pairs_1) (va_up (va_up f 23 w_mixes_1) 24 w_answers_1) g) H := hP
    replace hD : va_D (fun q : Nat => s.heap.size ≤ q) (lawW G x0 y0 a b pq kq sq (va_up v 28 w_pairs_1) (va_up (va_up f 23 w_mixes_1) 24 w_answers_1) g) := hD
    refine lv_aload_n hx hb dL_law_950 rfl (lv_at hl 2 rfl) ?_
    refine lv_aload_n hx hb dL_law_951 rfl (lv_at hl 0 rfl) ?_
    refine lv_iload_n hx hb dL_law_952 rfl (lv_at hl 3 rfl) ?_
    refine lv_iconst (v := 1) hx hb dL_law_953 (by decide) ?_
    refine lv_iadd hx hb dL_law_954 ?_
    refine va_sld hx hb hX hbl hbA hS (hin 1 (by decide)) dL_law_955 ?_
    refine lv_aload_n hx hb dL_law_956 rfl (lv_at hl 0 rfl) ?_
    refine lv_iload_n hx hb dL_law_957 rfl (lv_at hl 3 rfl) ?_
    refine lv_iconst (v := 2) hx hb dL_law_958 (by decide) ?_
    refine lv_iadd hx hb dL_law_959 ?_
    refine va_sld hx hb hX hbl hbA hS (hin 2 (by decide)) dL_law_960 ?_
    refine lv_aload_n hx hb dL_law_961 rfl (lv_at hl 0 rfl) ?_
    refine lv_iload_n hx hb dL_law_962 rfl (lv_at hl 3 rfl) ?_
    refine lv_iconst (v := 3) hx hb dL_law_963 (by decide) ?_
    refine lv_iadd hx hb dL_law_964 ?_
    refine va_sld hx hb hX hbl hbA hS (hin 3 (by decide)) dL_law_965 ?_
    refine lv_aload_n hx hb dL_law_966 rfl (lv_at hl 0 rfl) ?_
    refine lv_iload_n hx hb dL_law_967 rfl (lv_at hl 3 rfl) ?_
    refine lv_iconst (v := 4) hx hb dL_law_968 (by decide) ?_
    refine lv_iadd hx hb dL_law_969 ?_
    refine va_sld hx hb hX hbl hbA hS (hin 4 (by decide)) dL_law_970 ?_
    refine lv_aload_n hx hb dL_law_971 rfl (lv_at hl 0 rfl) ?_
    refine lv_iload_n hx hb dL_law_972 rfl (lv_at hl 3 rfl) ?_
    refine lv_iconst (v := 5) hx hb dL_law_973 (by decide) ?_
    refine lv_iadd hx hb dL_law_974 ?_
    refine va_sld hx hb hX hbl hbA hS (hin 5 (by decide)) dL_law_975 ?_
    refine lv_aload_n hx hb dL_law_976 rfl (lv_at hl 0 rfl) ?_
    refine lv_iload_n hx hb dL_law_977 rfl (lv_at hl 3 rfl) ?_
    refine lv_bipush (v := 6) hx hb dL_law_978 (by decide) ?_
    refine lv_iadd hx hb dL_law_980 ?_
    refine va_sld hx hb hX hbl hbA hS (hin 6 (by decide)) dL_law_981 ?_
    have hc := c_X8_fits l D G H.size y0 (b 0) (b 1) (b 2) (b 3) (b 4) (b 5) (b 6) (b 7) (b 8) (b 9) (b 10) (v 37) (v 38) (v 39) (v 40) (v 41) (v 42) (v 43) (f 26) (f 27) (g 4) (f 29) (f 30) (xs (x3 + (1 : Int32)).toNatClampNeg) (xs (x3 + (2 : Int32)).toNatClampNeg) (xs (x3 + (3 : Int32)).toNatClampNeg) (xs (x3 + (4 : Int32)).toNatClampNeg) (xs (x3 + (5 : Int32)).toNatClampNeg) (xs (x3 + (6 : Int32)).toNatClampNeg) _ hw
    refine x_cPi (va_runV (As := [.int (xs (x3 + (1 : Int32)).toNatClampNeg), .int (xs (x3 + (2 : Int32)).toNatClampNeg), .int (xs (x3 + (3 : Int32)).toNatClampNeg), .int (xs (x3 + (4 : Int32)).toNatClampNeg), .int (xs (x3 + (5 : Int32)).toNatClampNeg), .int (xs (x3 + (6 : Int32)).toNatClampNeg)]) (rest := [.int r1]) ⟨hx, hb, hml, hown, hts⟩ hc (cwV 6 hts gL_law_X8_fits rfl rfl rfl (by decide +kernel) ⟨(Nat.le_of_ble_eq_true rfl), (Nat.le_of_ble_eq_true rfl)⟩) (xM_pv (hP.sub [54, 55, 56, 57, 59, 60] rfl) hK (hD.sub [54, 55, 56, 57, 59, 60] (by decide) rfl) (va_recv hK hP (ci := 8) (q0 := 54) rfl rfl)) rfl rfl hl.1 rfl (lv_room (Nat.le_of_ble_eq_true rfl)) dL_law_982 ⟨(Nat.le_of_ble_eq_true rfl), (Nat.le_of_ble_eq_true rfl)⟩) hP hD hS hA [54, 55, 56, 57, 59, 60] rfl (fun u => rfl) (fun u => (lawW G x0 y0 a b pq kq sq (va_up v 28 w_pairs_1) (va_up (va_up (va_up f 23 w_mixes_1) 24 w_answers_1) 30 u) g)) (fun u => rfl) (fun r2 u H locs hw hP hD hS => ?_)
    obtain ⟨m_tried_2, rfl⟩ : ∃ z, z = u := ⟨_, rfl⟩
    try dsimp only at hw
    replace hP : va_P D vwCl (lawW G x0 y0 a b pq kq sq (va_up v 28 w_pairs_1) (va_up (va_up (va_up f 23 w_mixes_1) 24 w_answers_1) 30 m_tried_2) g) H := hP
    replace hD : va_D (fun q : Nat => s.heap.size ≤ q) (lawW G x0 y0 a b pq kq sq (va_up v 28 w_pairs_1) (va_up (va_up (va_up f 23 w_mixes_1) 24 w_answers_1) 30 m_tried_2) g) := hD
    refine lv_icmp_eq (tgt := 1365) hx hb dL_law_985 (by decide) (fun _ => ?_) (fun c9 => absurd hw.1 c9)
    exact cont _ _ _ _ _ _ hw.2 hP hD hS hl
  · have hq : sq ((xs (x3 + (2 : Int32)).toNatClampNeg)).toNatClampNeg = sq 3 := x_sq hsq hj
    have hw := hSt_fits v f g (xs (x3 + (1 : Int32)).toNatClampNeg) (xs (x3 + (2 : Int32)).toNatClampNeg) (xs (x3 + (3 : Int32)).toNatClampNeg) (xs (x3 + (4 : Int32)).toNatClampNeg) (xs (x3 + (5 : Int32)).toNatClampNeg) (xs (x3 + (6 : Int32)).toNatClampNeg) 3 hj hR
    have hc := c_X7_fits l D G H.size x0 (a 0) (a 14) (a 28) (a 33) (a 38) (a 40) (a 44) (a 1) (a 2) (a 3) (a 4) (a 5) (a 41) (a 42) (a 43) sq (a 52) (v 0) (v 1) (v 2) (v 3) (v 4) (f 0) (f 1) (f 2) (v 5) (v 6) (v 7) (v 8) (v 28) (f 23) (f 24) (v (29 + 3)) (v (33 + 3)) (g 3) (xs (x3 + (1 : Int32)).toNatClampNeg) (xs (x3 + (2 : Int32)).toNatClampNeg) (xs (x3 + (3 : Int32)).toNatClampNeg) (xs (x3 + (4 : Int32)).toNatClampNeg) (xs (x3 + (5 : Int32)).toNatClampNeg) (xs (x3 + (6 : Int32)).toNatClampNeg) _ hw
    rw [hq] at hc
    refine x_cPi (va_runV (As := [.int (xs (x3 + (1 : Int32)).toNatClampNeg), .int (xs (x3 + (2 : Int32)).toNatClampNeg), .int (xs (x3 + (3 : Int32)).toNatClampNeg), .int (xs (x3 + (4 : Int32)).toNatClampNeg), .int (xs (x3 + (5 : Int32)).toNatClampNeg), .int (xs (x3 + (6 : Int32)).toNatClampNeg)]) (rest := []) ⟨hx, hb, hml, hown, hts⟩ hc (cwV 6 hts gL_law_X7_fits rfl rfl rfl (by decide +kernel) ⟨(Nat.le_of_ble_eq_true rfl), (Nat.le_of_ble_eq_true rfl)⟩) (xM_pv (hP.sub [0, 1, 2, 3, 4, 5, 41, 42, 43, 45, 52, 53] rfl) hK (hD.sub [0, 1, 2, 3, 4, 5, 41, 42, 43, 45, 52, 53] (by decide) rfl) (va_recv hK hP (ci := 7) (q0 := 0) rfl rfl)) rfl rfl hl.1 rfl (lv_room (Nat.le_of_ble_eq_true rfl)) dL_law_947 ⟨(Nat.le_of_ble_eq_true rfl), (Nat.le_of_ble_eq_true rfl)⟩) hP hD hS hA [0, 1, 2, 3, 4, 5, 41, 42, 43, 45, 52, 53] rfl (fun u => rfl) (fun u => (lawW G x0 y0 a b pq kq sq (va_up v 28 u.1) (va_up (va_up f 23 u.2.1) 24 u.2.2) g)) (fun u => rfl) (fun r1 u H locs hw hP hD hS => ?_)
    obtain ⟨w_pairs_1, w_mixes_1, w_answers_1⟩ := u
    try dsimp only at hw
    replace hP : va_P D vwCl (lawW G x0 y0 a b pq kq sq (va_up v 28 w_pairs_1) (va_up (va_up f 23 w_mixes_1) 24 w_answers_1) g) H := hP
    replace hD : va_D (fun q : Nat => s.heap.size ≤ q) (lawW G x0 y0 a b pq kq sq (va_up v 28 w_pairs_1) (va_up (va_up f 23 w_mixes_1) 24 w_answers_1) g) := hD
    refine lv_aload_n hx hb dL_law_950 rfl (lv_at hl 2 rfl) ?_
    refine lv_aload_n hx hb dL_law_951 rfl (lv_at hl 0 rfl) ?_
    refine lv_iload_n hx hb dL_law_952 rfl (lv_at hl 3 rfl) ?_
    refine lv_iconst (v := 1) hx hb dL_law_953 (by decide) ?_
    refine lv_iadd hx hb dL_law_954 ?_
    refine va_sld hx hb hX hbl hbA hS (hin 1 (by decide)) dL_law_955 ?_
    refine lv_aload_n hx hb dL_law_956 rfl (lv_at hl 0 rfl) ?_
    refine lv_iload_n hx hb dL_law_957 rfl (lv_at hl 3 rfl) ?_
    refine lv_iconst (v := 2) hx hb dL_law_958 (by decide) ?_
    refine lv_iadd hx hb dL_law_959 ?_
    refine va_sld hx hb hX hbl hbA hS (hin 2 (by decide)) dL_law_960 ?_
    refine lv_aload_n hx hb dL_law_961 rfl (lv_at hl 0 rfl) ?_
    refine lv_iload_n hx hb dL_law_962 rfl (lv_at hl 3 rfl) ?_
    refine lv_iconst (v := 3) hx hb dL_law_963 (by decide) ?_
    refine lv_iadd hx hb dL_law_964 ?_
    refine va_sld hx hb hX hbl hbA hS (hin 3 (by decide)) dL_law_965 ?_
    refine lv_aload_n hx hb dL_law_966 rfl (lv_at hl 0 rfl) ?_
    refine lv_iload_n hx hb dL_law_967 rfl (lv_at hl 3 rfl) ?_
    refine lv_iconst (v := 4) hx hb dL_law_968 (by decide) ?_
    refine lv_iadd hx hb dL_law_969 ?_
    refine va_sld hx hb hX hbl hbA hS (hin 4 (by decide)) dL_law_970 ?_
    refine lv_aload_n hx hb dL_law_971 rfl (lv_at hl 0 rfl) ?_
    refine lv_iload_n hx hb dL_law_972 rfl (lv_at hl 3 rfl) ?_
    refine lv_iconst (v := 5) hx hb dL_law_973 (by decide) ?_
    refine lv_iadd hx hb dL_law_974 ?_
    refine va_sld hx hb hX hbl hbA hS (hin 5 (by decide)) dL_law_975 ?_
    refine lv_aload_n hx hb dL_law_976 rfl (lv_at hl 0 rfl) ?_
    refine lv_iload_n hx hb dL_law_977 rfl (lv_at hl 3 rfl) ?_
    refine lv_bipush (v := 6) hx hb dL_law_978 (by decide) ?_
    refine lv_iadd hx hb dL_law_980 ?_
    refine va_sld hx hb hX hbl hbA hS (hin 6 (by decide)) dL_law_981 ?_
    have hc := c_X8_fits l D G H.size y0 (b 0) (b 1) (b 2) (b 3) (b 4) (b 5) (b 6) (b 7) (b 8) (b 9) (b 10) (v 37) (v 38) (v 39) (v 40) (v 41) (v 42) (v 43) (f 26) (f 27) (g 4) (f 29) (f 30) (xs (x3 + (1 : Int32)).toNatClampNeg) (xs (x3 + (2 : Int32)).toNatClampNeg) (xs (x3 + (3 : Int32)).toNatClampNeg) (xs (x3 + (4 : Int32)).toNatClampNeg) (xs (x3 + (5 : Int32)).toNatClampNeg) (xs (x3 + (6 : Int32)).toNatClampNeg) _ hw
    refine x_cPi (va_runV (As := [.int (xs (x3 + (1 : Int32)).toNatClampNeg), .int (xs (x3 + (2 : Int32)).toNatClampNeg), .int (xs (x3 + (3 : Int32)).toNatClampNeg), .int (xs (x3 + (4 : Int32)).toNatClampNeg), .int (xs (x3 + (5 : Int32)).toNatClampNeg), .int (xs (x3 + (6 : Int32)).toNatClampNeg)]) (rest := [.int r1]) ⟨hx, hb, hml, hown, hts⟩ hc (cwV 6 hts gL_law_X8_fits rfl rfl rfl (by decide +kernel) ⟨(Nat.le_of_ble_eq_true rfl), (Nat.le_of_ble_eq_true rfl)⟩) (xM_pv (hP.sub [54, 55, 56, 57, 59, 60] rfl) hK (hD.sub [54, 55, 56, 57, 59, 60] (by decide) rfl) (va_recv hK hP (ci := 8) (q0 := 54) rfl rfl)) rfl rfl hl.1 rfl (lv_room (Nat.le_of_ble_eq_true rfl)) dL_law_982 ⟨(Nat.le_of_ble_eq_true rfl), (Nat.le_of_ble_eq_true rfl)⟩) hP hD hS hA [54, 55, 56, 57, 59, 60] rfl (fun u => rfl) (fun u => (lawW G x0 y0 a b pq kq sq (va_up v 28 w_pairs_1) (va_up (va_up (va_up f 23 w_mixes_1) 24 w_answers_1) 30 u) g)) (fun u => rfl) (fun r2 u H locs hw hP hD hS => ?_)
    obtain ⟨m_tried_2, rfl⟩ : ∃ z, z = u := ⟨_, rfl⟩
    try dsimp only at hw
    replace hP : va_P D vwCl (lawW G x0 y0 a b pq kq sq (va_up v 28 w_pairs_1) (va_up (va_up (va_up f 23 w_mixes_1) 24 w_answers_1) 30 m_tried_2) g) H := hP
    replace hD : va_D (fun q : Nat => s.heap.size ≤ q) (lawW G x0 y0 a b pq kq sq (va_up v 28 w_pairs_1) (va_up (va_up (va_up f 23 w_mixes_1) 24 w_answers_1) 30 m_tried_2) g) := hD
    refine lv_icmp_eq (tgt := 1365) hx hb dL_law_985 (by decide) (fun _ => ?_) (fun c9 => absurd hw.1 c9)
    exact cont _ _ _ _ _ _ hw.2 hP hD hS hl
set_option maxHeartbeats 8000000 in
set_option maxRecDepth 100000 in
theorem lawc_slips {p : Program} {l : Launch} {e : Env} {s : State} {m : MethodId} {below : List Frame} {meth : Method} {c : Code} {D : va_G} {G : Nat → ClassId} {x0 y0 : Nat} {a b pq kq sq : Nat → Nat} {b0 L : Nat} {xs : Nat → Int32} (C0 : lw_At p s m meth c b0 L xs) (R : ((Nat → Int32) → (Nat → Nat → Int32) → (Nat → Nat → Int64) → Prop)) (hSt_slips : Step_slips R) (x3 : Int32) (hin : ∀ k : Nat, k ≤ 8 → vp_in (x3 + Int32.ofNat k) L) (hsq : ∀ k, 4 ≤ k → sq k = sq 0) (v : Nat → Int32) (f : Nat → Nat → Int32) (g : Nat → Nat → Int64) (hR : R v f g) (H : Heap) (locs : List Loc) (ls : Array Slot) (hK : va_K D vwCl (tyL G) s) (hP : va_P D vwCl (lawW G x0 y0 a b pq kq sq v f g) H) (hD : va_D (fun q : Nat => s.heap.size ≤ q) (lawW G x0 y0 a b pq kq sq v f g)) (hS : va_S (fun q : Nat => s.heap.size ≤ q) s.heap H locs) (hl : lv_has ls 4 [(0, .ref b0), (1, .ref x0), (2, .ref y0), (3, .int x3)]) (cont : ∀ (v : Nat → Int32) (f : Nat → Nat → Int32) (g : Nat → Nat → Int64) (H : Heap) (locs : List Loc) (ls : Array Slot), R v f g → va_P D vwCl (lawW G x0 y0 a b pq kq sq v f g) H → va_D (fun q : Nat => s.heap.size ≤ q) (lawW G x0 y0 a b pq kq sq v f g) → va_S (fun q : Nat => s.heap.size ≤ q) s.heap H locs → lv_has ls 4 [(0, .ref b0), (1, .ref x0), (2, .ref y0), (3, .int x3)] → W p l e room_1 s m #[Value.ref b0] below meth c H locs 66 2290 (lw_Z below #[Value.ref b0] s) (F0 m 1365 ls [])) : W p l e room_1 s m #[Value.ref b0] below meth c H locs 66 2290 (lw_Z below #[Value.ref b0] s) (F0 m 990 ls []) := by
  obtain ⟨hx, hb, hr, hml, hown, hts0, hX, hbl, hlocks, hgv⟩ := id C0
  have hb : c.code = cL_law := hb
  have hown : s.vm.findClass RL = some m.cls := hown
  have hts : ∀ w ∈ wsL_law, w.before #[Value.ref b0] s = true := fun w h => hts0 w (wsL_law_in w h)
  have hA : ∀ q : Nat, s.heap.size ≤ q → (fun q : Nat => s.heap.size ≤ q) q := fun _ h => h
  have hbA : ¬ (fun q : Nat => s.heap.size ≤ q) b0 := Nat.not_le.mpr hbl
  refine lv_aload_n hx hb dL_law_990 rfl (lv_at hl 1 rfl) ?_
  refine lv_aload_n hx hb dL_law_991 rfl (lv_at hl 0 rfl) ?_
  refine lv_iload_n hx hb dL_law_992 rfl (lv_at hl 3 rfl) ?_
  refine lv_iconst (v := 1) hx hb dL_law_993 (by decide) ?_
  refine lv_iadd hx hb dL_law_994 ?_
  refine va_sld hx hb hX hbl hbA hS (hin 1 (by decide)) dL_law_995 ?_
  refine lv_aload_n hx hb dL_law_996 rfl (lv_at hl 0 rfl) ?_
  refine lv_iload_n hx hb dL_law_997 rfl (lv_at hl 3 rfl) ?_
  refine lv_iconst (v := 2) hx hb dL_law_998 (by decide) ?_
  refine lv_iadd hx hb dL_law_999 ?_
  refine va_sld hx hb hX hbl hbA hS (hin 2 (by decide)) dL_law_1000 ?_
  refine lv_aload_n hx hb dL_law_1001 rfl (lv_at hl 0 rfl) ?_
  refine lv_iload_n hx hb dL_law_1002 rfl (lv_at hl 3 rfl) ?_
  refine lv_iconst (v := 3) hx hb dL_law_1003 (by decide) ?_
  refine lv_iadd hx hb dL_law_1004 ?_
  refine va_sld hx hb hX hbl hbA hS (hin 3 (by decide)) dL_law_1005 ?_
  refine lv_aload_n hx hb dL_law_1006 rfl (lv_at hl 0 rfl) ?_
  refine lv_iload_n hx hb dL_law_1007 rfl (lv_at hl 3 rfl) ?_
  refine lv_iconst (v := 4) hx hb dL_law_1008 (by decide) ?_
  refine lv_iadd hx hb dL_law_1009 ?_
  refine va_sld hx hb hX hbl hbA hS (hin 4 (by decide)) dL_law_1010 ?_
  refine lv_aload_n hx hb dL_law_1011 rfl (lv_at hl 0 rfl) ?_
  refine lv_iload_n hx hb dL_law_1012 rfl (lv_at hl 3 rfl) ?_
  refine lv_iconst (v := 5) hx hb dL_law_1013 (by decide) ?_
  refine lv_iadd hx hb dL_law_1014 ?_
  refine va_sld hx hb hX hbl hbA hS (hin 5 (by decide)) dL_law_1015 ?_
  refine lv_aload_n hx hb dL_law_1016 rfl (lv_at hl 0 rfl) ?_
  refine lv_iload_n hx hb dL_law_1017 rfl (lv_at hl 3 rfl) ?_
  refine lv_bipush (v := 6) hx hb dL_law_1018 (by decide) ?_
  refine lv_iadd hx hb dL_law_1020 ?_
  refine va_sld hx hb hX hbl hbA hS (hin 6 (by decide)) dL_law_1021 ?_
  refine lv_aload_n hx hb dL_law_1022 rfl (lv_at hl 0 rfl) ?_
  refine lv_iload_n hx hb dL_law_1023 rfl (lv_at hl 3 rfl) ?_
  refine lv_bipush (v := 7) hx hb dL_law_1024 (by decide) ?_
  refine lv_iadd hx hb dL_law_1026 ?_
  refine va_sld hx hb hX hbl hbA hS (hin 7 (by decide)) dL_law_1027 ?_
  refine lv_aload_n hx hb dL_law_1028 rfl (lv_at hl 0 rfl) ?_
  refine lv_iload_n hx hb dL_law_1029 rfl (lv_at hl 3 rfl) ?_
  refine lv_bipush (v := 8) hx hb dL_law_1030 (by decide) ?_
  refine lv_iadd hx hb dL_law_1032 ?_
  refine va_sld hx hb hX hbl hbA hS (hin 8 (by decide)) dL_law_1033 ?_
  rcases x_sj4 (xs (x3 + (4 : Int32)).toNatClampNeg) with hj | hj | hj | hj
  · have hq : sq ((xs (x3 + (4 : Int32)).toNatClampNeg)).toNatClampNeg = sq 0 := x_sq hsq hj
    have hw := hSt_slips v f g (xs (x3 + (1 : Int32)).toNatClampNeg) (xs (x3 + (2 : Int32)).toNatClampNeg) (xs (x3 + (3 : Int32)).toNatClampNeg) (xs (x3 + (4 : Int32)).toNatClampNeg) (xs (x3 + (5 : Int32)).toNatClampNeg) (xs (x3 + (6 : Int32)).toNatClampNeg) (xs (x3 + (7 : Int32)).toNatClampNeg) (xs (x3 + (8 : Int32)).toNatClampNeg) 0 hj hR
    have hc := c_X7_slips l D G H.size x0 (a 0) (a 14) (a 28) (a 33) (a 38) (a 40) (a 44) (a 1) (a 2) (a 3) (a 4) (a 5) (a 41) (a 42) (a 43) sq (a 46) (v 0) (v 1) (v 2) (v 3) (v 4) (f 0) (f 1) (f 2) (v 5) (v 6) (v 7) (v 8) (v 28) (f 23) (f 24) (f 25) (v (29 + 0)) (v (33 + 0)) (g 0) (xs (x3 + (1 : Int32)).toNatClampNeg) (xs (x3 + (2 : Int32)).toNatClampNeg) (xs (x3 + (3 : Int32)).toNatClampNeg) (xs (x3 + (4 : Int32)).toNatClampNeg) (xs (x3 + (5 : Int32)).toNatClampNeg) (xs (x3 + (6 : Int32)).toNatClampNeg) (xs (x3 + (7 : Int32)).toNatClampNeg) (xs (x3 + (8 : Int32)).toNatClampNeg) _ hw
    rw [hq] at hc
    refine x_cPl (va_runV (As := [.int (xs (x3 + (1 : Int32)).toNatClampNeg), .int (xs (x3 + (2 : Int32)).toNatClampNeg), .int (xs (x3 + (3 : Int32)).toNatClampNeg), .int (xs (x3 + (4 : Int32)).toNatClampNeg), .int (xs (x3 + (5 : Int32)).toNatClampNeg), .int (xs (x3 + (6 : Int32)).toNatClampNeg), .int (xs (x3 + (7 : Int32)).toNatClampNeg), .int (xs (x3 + (8 : Int32)).toNatClampNeg)]) (rest := []) ⟨hx, hb, hml, hown, hts⟩ hc (cwV 8 hts gL_law_X7_slips rfl rfl rfl (by decide +kernel) ⟨(Nat.le_of_ble_eq_true rfl), (Nat.le_of_ble_eq_true rfl)⟩) (xM_pv (hP.sub [0, 1, 2, 3, 4, 5, 41, 42, 43, 44, 45, 46, 47] rfl) hK (hD.sub [0, 1, 2, 3, 4, 5, 41, 42, 43, 44, 45, 46, 47] (by decide) rfl) (va_recv hK hP (ci := 7) (q0 := 0) rfl rfl)) rfl rfl hl.1 rfl (lv_room (Nat.le_of_ble_eq_true rfl)) dL_law_1034 ⟨(Nat.le_of_ble_eq_true rfl), (Nat.le_of_ble_eq_true rfl)⟩) hP hD hS hA [0, 1, 2, 3, 4, 5, 41, 42, 43, 44, 45, 46, 47] rfl (fun u => rfl) (fun u => (lawW G x0 y0 a b pq kq sq (va_up v 28 u.1) (va_up (va_up (va_up f 23 u.2.1) 24 u.2.2.1) 25 u.2.2.2) g)) (fun u => rfl) (fun r1 u H locs hw hP hD hS => ?_)
    obtain ⟨w_pairs_1, w_mixes_1, w_answers_1, w_agreed_1⟩ := u
    try dsimp only at hw
    replace hP : va_P D vwCl (lawW G x0 y0 a b pq kq sq (va_up v 28 w_pairs_1) (va_up (va_up (va_up f 23 w_mixes_1) 24 w_answers_1) 25 w_agreed_1) g) H := hP
    replace hD : va_D (fun q : Nat => s.heap.size ≤ q) (lawW G x0 y0 a b pq kq sq (va_up v 28 w_pairs_1) (va_up (va_up (va_up f 23 w_mixes_1) 24 w_answers_1) 25 w_agreed_1) g) := hD
    refine lv_aload_n hx hb dL_law_1037 rfl (lv_at hl 2 rfl) ?_
    refine lv_aload_n hx hb dL_law_1038 rfl (lv_at hl 0 rfl) ?_
    refine lv_iload_n hx hb dL_law_1039 rfl (lv_at hl 3 rfl) ?_
    refine lv_iconst (v := 1) hx hb dL_law_1040 (by decide) ?_
    refine lv_iadd hx hb dL_law_1041 ?_
    refine va_sld hx hb hX hbl hbA hS (hin 1 (by decide)) dL_law_1042 ?_
    refine lv_aload_n hx hb dL_law_1043 rfl (lv_at hl 0 rfl) ?_
    refine lv_iload_n hx hb dL_law_1044 rfl (lv_at hl 3 rfl) ?_
    refine lv_iconst (v := 2) hx hb dL_law_1045 (by decide) ?_
    refine lv_iadd hx hb dL_law_1046 ?_
    refine va_sld hx hb hX hbl hbA hS (hin 2 (by decide)) dL_law_1047 ?_
    refine lv_aload_n hx hb dL_law_1048 rfl (lv_at hl 0 rfl) ?_
    refine lv_iload_n hx hb dL_law_1049 rfl (lv_at hl 3 rfl) ?_
    refine lv_iconst (v := 3) hx hb dL_law_1050 (by decide) ?_
    refine lv_iadd hx hb dL_law_1051 ?_
    refine va_sld hx hb hX hbl hbA hS (hin 3 (by decide)) dL_law_1052 ?_
    refine lv_aload_n hx hb dL_law_1053 rfl (lv_at hl 0 rfl) ?_
    refine lv_iload_n hx hb dL_law_1054 rfl (lv_at hl 3 rfl) ?_
    refine lv_iconst (v := 4) hx hb dL_law_1055 (by decide) ?_
    refine lv_iadd hx hb dL_law_1056 ?_
    refine va_sld hx hb hX hbl hbA hS (hin 4 (by decide)) dL_law_1057 ?_
    refine lv_aload_n hx hb dL_law_1058 rfl (lv_at hl 0 rfl) ?_
    refine lv_iload_n hx hb dL_law_1059 rfl (lv_at hl 3 rfl) ?_
    refine lv_iconst (v := 5) hx hb dL_law_1060 (by decide) ?_
    refine lv_iadd hx hb dL_law_1061 ?_
    refine va_sld hx hb hX hbl hbA hS (hin 5 (by decide)) dL_law_1062 ?_
    refine lv_aload_n hx hb dL_law_1063 rfl (lv_at hl 0 rfl) ?_
    refine lv_iload_n hx hb dL_law_1064 rfl (lv_at hl 3 rfl) ?_
    refine lv_bipush (v := 6) hx hb dL_law_1065 (by decide) ?_
    refine lv_iadd hx hb dL_law_1067 ?_
    refine va_sld hx hb hX hbl hbA hS (hin 6 (by decide)) dL_law_1068 ?_
    refine lv_aload_n hx hb dL_law_1069 rfl (lv_at hl 0 rfl) ?_
    refine lv_iload_n hx hb dL_law_1070 rfl (lv_at hl 3 rfl) ?_
    refine lv_bipush (v := 7) hx hb dL_law_1071 (by decide) ?_
    refine lv_iadd hx hb dL_law_1073 ?_
    refine va_sld hx hb hX hbl hbA hS (hin 7 (by decide)) dL_law_1074 ?_
    refine lv_aload_n hx hb dL_law_1075 rfl (lv_at hl 0 rfl) ?_
    refine lv_iload_n hx hb dL_law_1076 rfl (lv_at hl 3 rfl) ?_
    refine lv_bipush (v := 8) hx hb dL_law_1077 (by decide) ?_
    refine lv_iadd hx hb dL_law_1079 ?_
    refine va_sld hx hb hX hbl hbA hS (hin 8 (by decide)) dL_law_1080 ?_
    have hc := c_X8_slips l D G y0 (b 0) (b 1) (b 2) (b 3) (b 4) (b 5) (b 6) (b 7) (b 8) (b 9) (b 10) (v 37) (v 38) (v 39) (v 40) (v 41) (v 42) (v 43) (f 26) (f 27) (g 4) (f 29) (xs (x3 + (1 : Int32)).toNatClampNeg) (xs (x3 + (2 : Int32)).toNatClampNeg) (xs (x3 + (3 : Int32)).toNatClampNeg) (xs (x3 + (4 : Int32)).toNatClampNeg) (xs (x3 + (5 : Int32)).toNatClampNeg) (xs (x3 + (6 : Int32)).toNatClampNeg) (xs (x3 + (7 : Int32)).toNatClampNeg) (xs (x3 + (8 : Int32)).toNatClampNeg) _ hw
    refine vp_callSl (W.runV (As := [.int (xs (x3 + (1 : Int32)).toNatClampNeg), .int (xs (x3 + (2 : Int32)).toNatClampNeg), .int (xs (x3 + (3 : Int32)).toNatClampNeg), .int (xs (x3 + (4 : Int32)).toNatClampNeg), .int (xs (x3 + (5 : Int32)).toNatClampNeg), .int (xs (x3 + (6 : Int32)).toNatClampNeg), .int (xs (x3 + (7 : Int32)).toNatClampNeg), .int (xs (x3 + (8 : Int32)).toNatClampNeg)]) (rest := [.long r1]) ⟨hx, hb, hml, hown, hts⟩ hc (cwV 8 hts gL_law_X8_slips rfl rfl rfl (by decide +kernel) ⟨(Nat.le_of_ble_eq_true rfl), (Nat.le_of_ble_eq_true rfl)⟩) (xR_pv (hP.sub [54, 55, 56, 57, 59] rfl) hK (va_recv hK hP (ci := 8) (q0 := 54) rfl rfl)) rfl rfl hl.1 rfl (lv_room (Nat.le_of_ble_eq_true rfl)) dL_law_1081 ⟨(Nat.le_of_ble_eq_true rfl), (Nat.le_of_ble_eq_true rfl)⟩) (fun r2 hw => ?_)
    refine W.lcmp hx hb dL_law_1084 ?_
    refine lv_if_eq (tgt := 1365) hx hb dL_law_1085 (by decide) (fun _ => ?_) (fun c9 => absurd (by rw [hw.1]; exact x_cmp0 _) c9)
    exact cont _ _ _ _ _ _ hw.2 hP hD hS hl
  · have hq : sq ((xs (x3 + (4 : Int32)).toNatClampNeg)).toNatClampNeg = sq 1 := x_sq hsq hj
    have hw := hSt_slips v f g (xs (x3 + (1 : Int32)).toNatClampNeg) (xs (x3 + (2 : Int32)).toNatClampNeg) (xs (x3 + (3 : Int32)).toNatClampNeg) (xs (x3 + (4 : Int32)).toNatClampNeg) (xs (x3 + (5 : Int32)).toNatClampNeg) (xs (x3 + (6 : Int32)).toNatClampNeg) (xs (x3 + (7 : Int32)).toNatClampNeg) (xs (x3 + (8 : Int32)).toNatClampNeg) 1 hj hR
    have hc := c_X7_slips l D G H.size x0 (a 0) (a 14) (a 28) (a 33) (a 38) (a 40) (a 44) (a 1) (a 2) (a 3) (a 4) (a 5) (a 41) (a 42) (a 43) sq (a 48) (v 0) (v 1) (v 2) (v 3) (v 4) (f 0) (f 1) (f 2) (v 5) (v 6) (v 7) (v 8) (v 28) (f 23) (f 24) (f 25) (v (29 + 1)) (v (33 + 1)) (g 1) (xs (x3 + (1 : Int32)).toNatClampNeg) (xs (x3 + (2 : Int32)).toNatClampNeg) (xs (x3 + (3 : Int32)).toNatClampNeg) (xs (x3 + (4 : Int32)).toNatClampNeg) (xs (x3 + (5 : Int32)).toNatClampNeg) (xs (x3 + (6 : Int32)).toNatClampNeg) (xs (x3 + (7 : Int32)).toNatClampNeg) (xs (x3 + (8 : Int32)).toNatClampNeg) _ hw
    rw [hq] at hc
    refine x_cPl (va_runV (As := [.int (xs (x3 + (1 : Int32)).toNatClampNeg), .int (xs (x3 + (2 : Int32)).toNatClampNeg), .int (xs (x3 + (3 : Int32)).toNatClampNeg), .int (xs (x3 + (4 : Int32)).toNatClampNeg), .int (xs (x3 + (5 : Int32)).toNatClampNeg), .int (xs (x3 + (6 : Int32)).toNatClampNeg), .int (xs (x3 + (7 : Int32)).toNatClampNeg), .int (xs (x3 + (8 : Int32)).toNatClampNeg)]) (rest := []) ⟨hx, hb, hml, hown, hts⟩ hc (cwV 8 hts gL_law_X7_slips rfl rfl rfl (by decide +kernel) ⟨(Nat.le_of_ble_eq_true rfl), (Nat.le_of_ble_eq_true rfl)⟩) (xM_pv (hP.sub [0, 1, 2, 3, 4, 5, 41, 42, 43, 44, 45, 48, 49] rfl) hK (hD.sub [0, 1, 2, 3, 4, 5, 41, 42, 43, 44, 45, 48, 49] (by decide) rfl) (va_recv hK hP (ci := 7) (q0 := 0) rfl rfl)) rfl rfl hl.1 rfl (lv_room (Nat.le_of_ble_eq_true rfl)) dL_law_1034 ⟨(Nat.le_of_ble_eq_true rfl), (Nat.le_of_ble_eq_true rfl)⟩) hP hD hS hA [0, 1, 2, 3, 4, 5, 41, 42, 43, 44, 45, 48, 49] rfl (fun u => rfl) (fun u => (lawW G x0 y0 a b pq kq sq (va_up v 28 u.1) (va_up (va_up (va_up f 23 u.2.1) 24 u.2.2.1) 25 u.2.2.2) g)) (fun u => rfl) (fun r1 u H locs hw hP hD hS => ?_)
    obtain ⟨w_pairs_1, w_mixes_1, w_answers_1, w_agreed_1⟩ := u
    try dsimp only at hw
    replace hP : va_P D vwCl (lawW G x0 y0 a b pq kq sq (va_up v 28 w_pairs_1) (va_up (va_up (va_up f 23 w_mixes_1) 24 w_answers_1) 25 w_agreed_1) g) H := hP
    replace hD : va_D (fun q : Nat => s.heap.size ≤ q) (lawW G x0 y0 a b pq kq sq (va_up v 28 w_pairs_1) (va_up (va_up (va_up f 23 w_mixes_1) 24 w_answers_1) 25 w_agreed_1) g) := hD
    refine lv_aload_n hx hb dL_law_1037 rfl (lv_at hl 2 rfl) ?_
    refine lv_aload_n hx hb dL_law_1038 rfl (lv_at hl 0 rfl) ?_
    refine lv_iload_n hx hb dL_law_1039 rfl (lv_at hl 3 rfl) ?_
    refine lv_iconst (v := 1) hx hb dL_law_1040 (by decide) ?_
    refine lv_iadd hx hb dL_law_1041 ?_
    refine va_sld hx hb hX hbl hbA hS (hin 1 (by decide)) dL_law_1042 ?_
    refine lv_aload_n hx hb dL_law_1043 rfl (lv_at hl 0 rfl) ?_
    refine lv_iload_n hx hb dL_law_1044 rfl (lv_at hl 3 rfl) ?_
    refine lv_iconst (v := 2) hx hb dL_law_1045 (by decide) ?_
    refine lv_iadd hx hb dL_law_1046 ?_
    refine va_sld hx hb hX hbl hbA hS (hin 2 (by decide)) dL_law_1047 ?_
    refine lv_aload_n hx hb dL_law_1048 rfl (lv_at hl 0 rfl) ?_
    refine lv_iload_n hx hb dL_law_1049 rfl (lv_at hl 3 rfl) ?_
    refine lv_iconst (v := 3) hx hb dL_law_1050 (by decide) ?_
    refine lv_iadd hx hb dL_law_1051 ?_
    refine va_sld hx hb hX hbl hbA hS (hin 3 (by decide)) dL_law_1052 ?_
    refine lv_aload_n hx hb dL_law_1053 rfl (lv_at hl 0 rfl) ?_
    refine lv_iload_n hx hb dL_law_1054 rfl (lv_at hl 3 rfl) ?_
    refine lv_iconst (v := 4) hx hb dL_law_1055 (by decide) ?_
    refine lv_iadd hx hb dL_law_1056 ?_
    refine va_sld hx hb hX hbl hbA hS (hin 4 (by decide)) dL_law_1057 ?_
    refine lv_aload_n hx hb dL_law_1058 rfl (lv_at hl 0 rfl) ?_
    refine lv_iload_n hx hb dL_law_1059 rfl (lv_at hl 3 rfl) ?_
    refine lv_iconst (v := 5) hx hb dL_law_1060 (by decide) ?_
    refine lv_iadd hx hb dL_law_1061 ?_
    refine va_sld hx hb hX hbl hbA hS (hin 5 (by decide)) dL_law_1062 ?_
    refine lv_aload_n hx hb dL_law_1063 rfl (lv_at hl 0 rfl) ?_
    refine lv_iload_n hx hb dL_law_1064 rfl (lv_at hl 3 rfl) ?_
    refine lv_bipush (v := 6) hx hb dL_law_1065 (by decide) ?_
    refine lv_iadd hx hb dL_law_1067 ?_
    refine va_sld hx hb hX hbl hbA hS (hin 6 (by decide)) dL_law_1068 ?_
    refine lv_aload_n hx hb dL_law_1069 rfl (lv_at hl 0 rfl) ?_
    refine lv_iload_n hx hb dL_law_1070 rfl (lv_at hl 3 rfl) ?_
    refine lv_bipush (v := 7) hx hb dL_law_1071 (by decide) ?_
    refine lv_iadd hx hb dL_law_1073 ?_
    refine va_sld hx hb hX hbl hbA hS (hin 7 (by decide)) dL_law_1074 ?_
    refine lv_aload_n hx hb dL_law_1075 rfl (lv_at hl 0 rfl) ?_
    refine lv_iload_n hx hb dL_law_1076 rfl (lv_at hl 3 rfl) ?_
    refine lv_bipush (v := 8) hx hb dL_law_1077 (by decide) ?_
    refine lv_iadd hx hb dL_law_1079 ?_
    refine va_sld hx hb hX hbl hbA hS (hin 8 (by decide)) dL_law_1080 ?_
    have hc := c_X8_slips l D G y0 (b 0) (b 1) (b 2) (b 3) (b 4) (b 5) (b 6) (b 7) (b 8) (b 9) (b 10) (v 37) (v 38) (v 39) (v 40) (v 41) (v 42) (v 43) (f 26) (f 27) (g 4) (f 29) (xs (x3 + (1 : Int32)).toNatClampNeg) (xs (x3 + (2 : Int32)).toNatClampNeg) (xs (x3 + (3 : Int32)).toNatClampNeg) (xs (x3 + (4 : Int32)).toNatClampNeg) (xs (x3 + (5 : Int32)).toNatClampNeg) (xs (x3 + (6 : Int32)).toNatClampNeg) (xs (x3 + (7 : Int32)).toNatClampNeg) (xs (x3 + (8 : Int32)).toNatClampNeg) _ hw
    refine vp_callSl (W.runV (As := [.int (xs (x3 + (1 : Int32)).toNatClampNeg), .int (xs (x3 + (2 : Int32)).toNatClampNeg), .int (xs (x3 + (3 : Int32)).toNatClampNeg), .int (xs (x3 + (4 : Int32)).toNatClampNeg), .int (xs (x3 + (5 : Int32)).toNatClampNeg), .int (xs (x3 + (6 : Int32)).toNatClampNeg), .int (xs (x3 + (7 : Int32)).toNatClampNeg), .int (xs (x3 + (8 : Int32)).toNatClampNeg)]) (rest := [.long r1]) ⟨hx, hb, hml, hown, hts⟩ hc (cwV 8 hts gL_law_X8_slips rfl rfl rfl (by decide +kernel) ⟨(Nat.le_of_ble_eq_true rfl), (Nat.le_of_ble_eq_true rfl)⟩) (xR_pv (hP.sub [54, 55, 56, 57, 59] rfl) hK (va_recv hK hP (ci := 8) (q0 := 54) rfl rfl)) rfl rfl hl.1 rfl (lv_room (Nat.le_of_ble_eq_true rfl)) dL_law_1081 ⟨(Nat.le_of_ble_eq_true rfl), (Nat.le_of_ble_eq_true rfl)⟩) (fun r2 hw => ?_)
    refine W.lcmp hx hb dL_law_1084 ?_
    refine lv_if_eq (tgt := 1365) hx hb dL_law_1085 (by decide) (fun _ => ?_) (fun c9 => absurd (by rw [hw.1]; exact x_cmp0 _) c9)
    exact cont _ _ _ _ _ _ hw.2 hP hD hS hl
  · have hq : sq ((xs (x3 + (4 : Int32)).toNatClampNeg)).toNatClampNeg = sq 2 := x_sq hsq hj
    have hw := hSt_slips v f g (xs (x3 + (1 : Int32)).toNatClampNeg) (xs (x3 + (2 : Int32)).toNatClampNeg) (xs (x3 + (3 : Int32)).toNatClampNeg) (xs (x3 + (4 : Int32)).toNatClampNeg) (xs (x3 + (5 : Int32)).toNatClampNeg) (xs (x3 + (6 : Int32)).toNatClampNeg) (xs (x3 + (7 : Int32)).toNatClampNeg) (xs (x3 + (8 : Int32)).toNatClampNeg) 2 hj hR
    have hc := c_X7_slips l D G H.size x0 (a 0) (a 14) (a 28) (a 33) (a 38) (a 40) (a 44) (a 1) (a 2) (a 3) (a 4) (a 5) (a 41) (a 42) (a 43) sq (a 50) (v 0) (v 1) (v 2) (v 3) (v 4) (f 0) (f 1) (f 2) (v 5) (v 6) (v 7) (v 8) (v 28) (f 23) (f 24) (f 25) (v (29 + 2)) (v (33 + 2)) (g 2) (xs (x3 + (1 : Int32)).toNatClampNeg) (xs (x3 + (2 : Int32)).toNatClampNeg) (xs (x3 + (3 : Int32)).toNatClampNeg) (xs (x3 + (4 : Int32)).toNatClampNeg) (xs (x3 + (5 : Int32)).toNatClampNeg) (xs (x3 + (6 : Int32)).toNatClampNeg) (xs (x3 + (7 : Int32)).toNatClampNeg) (xs (x3 + (8 : Int32)).toNatClampNeg) _ hw
    rw [hq] at hc
    refine x_cPl (va_runV (As := [.int (xs (x3 + (1 : Int32)).toNatClampNeg), .int (xs (x3 + (2 : Int32)).toNatClampNeg), .int (xs (x3 + (3 : Int32)).toNatClampNeg), .int (xs (x3 + (4 : Int32)).toNatClampNeg), .int (xs (x3 + (5 : Int32)).toNatClampNeg), .int (xs (x3 + (6 : Int32)).toNatClampNeg), .int (xs (x3 + (7 : Int32)).toNatClampNeg), .int (xs (x3 + (8 : Int32)).toNatClampNeg)]) (rest := []) ⟨hx, hb, hml, hown, hts⟩ hc (cwV 8 hts gL_law_X7_slips rfl rfl rfl (by decide +kernel) ⟨(Nat.le_of_ble_eq_true rfl), (Nat.le_of_ble_eq_true rfl)⟩) (xM_pv (hP.sub [0, 1, 2, 3, 4, 5, 41, 42, 43, 44, 45, 50, 51] rfl) hK (hD.sub [0, 1, 2, 3, 4, 5, 41, 42, 43, 44, 45, 50, 51] (by decide) rfl) (va_recv hK hP (ci := 7) (q0 := 0) rfl rfl)) rfl rfl hl.1 rfl (lv_room (Nat.le_of_ble_eq_true rfl)) dL_law_1034 ⟨(Nat.le_of_ble_eq_true rfl), (Nat.le_of_ble_eq_true rfl)⟩) hP hD hS hA [0, 1, 2, 3, 4, 5, 41, 42, 43, 44, 45, 50, 51] rfl (fun u => rfl) (fun u => (lawW G x0 y0 a b pq kq sq (va_up v 28 u.1) (va_up (va_up (va_up f 23 u.2.1) 24 u.2.2.1) 25 u.2.2.2) g)) (fun u => rfl) (fun r1 u H locs hw hP hD hS => ?_)
    obtain ⟨w_pairs_1, w_mixes_1, w_answers_1, w_agreed_1⟩ := u
    try dsimp only at hw
    replace hP : va_P D vwCl (lawW G x0 y0 a b pq kq sq (va_up v 28 w_pairs_1) (va_up (va_up (va_up f 23 w_mixes_1) 24 w_answers_1) 25 w_agreed_1) g) H := hP
    replace hD : va_D (fun q : Nat => s.heap.size ≤ q) (lawW G x0 y0 a b pq kq sq (va_up v 28 w_pairs_1) (va_up (va_up (va_up f 23 w_mixes_1) 24 w_answers_1) 25 w_agreed_1) g) := hD
    refine lv_aload_n hx hb dL_law_1037 rfl (lv_at hl 2 rfl) ?_
    refine lv_aload_n hx hb dL_law_1038 rfl (lv_at hl 0 rfl) ?_
    refine lv_iload_n hx hb dL_law_1039 rfl (lv_at hl 3 rfl) ?_
    refine lv_iconst (v := 1) hx hb dL_law_1040 (by decide) ?_
    refine lv_iadd hx hb dL_law_1041 ?_
    refine va_sld hx hb hX hbl hbA hS (hin 1 (by decide)) dL_law_1042 ?_
    refine lv_aload_n hx hb dL_law_1043 rfl (lv_at hl 0 rfl) ?_
    refine lv_iload_n hx hb dL_law_1044 rfl (lv_at hl 3 rfl) ?_
    refine lv_iconst (v := 2) hx hb dL_law_1045 (by decide) ?_
    refine lv_iadd hx hb dL_law_1046 ?_
    refine va_sld hx hb hX hbl hbA hS (hin 2 (by decide)) dL_law_1047 ?_
    refine lv_aload_n hx hb dL_law_1048 rfl (lv_at hl 0 rfl) ?_
    refine lv_iload_n hx hb dL_law_1049 rfl (lv_at hl 3 rfl) ?_
    refine lv_iconst (v := 3) hx hb dL_law_1050 (by decide) ?_
    refine lv_iadd hx hb dL_law_1051 ?_
    refine va_sld hx hb hX hbl hbA hS (hin 3 (by decide)) dL_law_1052 ?_
    refine lv_aload_n hx hb dL_law_1053 rfl (lv_at hl 0 rfl) ?_
    refine lv_iload_n hx hb dL_law_1054 rfl (lv_at hl 3 rfl) ?_
    refine lv_iconst (v := 4) hx hb dL_law_1055 (by decide) ?_
    refine lv_iadd hx hb dL_law_1056 ?_
    refine va_sld hx hb hX hbl hbA hS (hin 4 (by decide)) dL_law_1057 ?_
    refine lv_aload_n hx hb dL_law_1058 rfl (lv_at hl 0 rfl) ?_
    refine lv_iload_n hx hb dL_law_1059 rfl (lv_at hl 3 rfl) ?_
    refine lv_iconst (v := 5) hx hb dL_law_1060 (by decide) ?_
    refine lv_iadd hx hb dL_law_1061 ?_
    refine va_sld hx hb hX hbl hbA hS (hin 5 (by decide)) dL_law_1062 ?_
    refine lv_aload_n hx hb dL_law_1063 rfl (lv_at hl 0 rfl) ?_
    refine lv_iload_n hx hb dL_law_1064 rfl (lv_at hl 3 rfl) ?_
    refine lv_bipush (v := 6) hx hb dL_law_1065 (by decide) ?_
    refine lv_iadd hx hb dL_law_1067 ?_
    refine va_sld hx hb hX hbl hbA hS (hin 6 (by decide)) dL_law_1068 ?_
    refine lv_aload_n hx hb dL_law_1069 rfl (lv_at hl 0 rfl) ?_
    refine lv_iload_n hx hb dL_law_1070 rfl (lv_at hl 3 rfl) ?_
    refine lv_bipush (v := 7) hx hb dL_law_1071 (by decide) ?_
    refine lv_iadd hx hb dL_law_1073 ?_
    refine va_sld hx hb hX hbl hbA hS (hin 7 (by decide)) dL_law_1074 ?_
    refine lv_aload_n hx hb dL_law_1075 rfl (lv_at hl 0 rfl) ?_
    refine lv_iload_n hx hb dL_law_1076 rfl (lv_at hl 3 rfl) ?_
    refine lv_bipush (v := 8) hx hb dL_law_1077 (by decide) ?_
    refine lv_iadd hx hb dL_law_1079 ?_
    refine va_sld hx hb hX hbl hbA hS (hin 8 (by decide)) dL_law_1080 ?_
    have hc := c_X8_slips l D G y0 (b 0) (b 1) (b 2) (b 3) (b 4) (b 5) (b 6) (b 7) (b 8) (b 9) (b 10) (v 37) (v 38) (v 39) (v 40) (v 41) (v 42) (v 43) (f 26) (f 27) (g 4) (f 29) (xs (x3 + (1 : Int32)).toNatClampNeg) (xs (x3 + (2 : Int32)).toNatClampNeg) (xs (x3 + (3 : Int32)).toNatClampNeg) (xs (x3 + (4 : Int32)).toNatClampNeg) (xs (x3 + (5 : Int32)).toNatClampNeg) (xs (x3 + (6 : Int32)).toNatClampNeg) (xs (x3 + (7 : Int32)).toNatClampNeg) (xs (x3 + (8 : Int32)).toNatClampNeg) _ hw
    refine vp_callSl (W.runV (As := [.int (xs (x3 + (1 : Int32)).toNatClampNeg), .int (xs (x3 + (2 : Int32)).toNatClampNeg), .int (xs (x3 + (3 : Int32)).toNatClampNeg), .int (xs (x3 + (4 : Int32)).toNatClampNeg), .int (xs (x3 + (5 : Int32)).toNatClampNeg), .int (xs (x3 + (6 : Int32)).toNatClampNeg), .int (xs (x3 + (7 : Int32)).toNatClampNeg), .int (xs (x3 + (8 : Int32)).toNatClampNeg)]) (rest := [.long r1]) ⟨hx, hb, hml, hown, hts⟩ hc (cwV 8 hts gL_law_X8_slips rfl rfl rfl (by decide +kernel) ⟨(Nat.le_of_ble_eq_true rfl), (Nat.le_of_ble_eq_true rfl)⟩) (xR_pv (hP.sub [54, 55, 56, 57, 59] rfl) hK (va_recv hK hP (ci := 8) (q0 := 54) rfl rfl)) rfl rfl hl.1 rfl (lv_room (Nat.le_of_ble_eq_true rfl)) dL_law_1081 ⟨(Nat.le_of_ble_eq_true rfl), (Nat.le_of_ble_eq_true rfl)⟩) (fun r2 hw => ?_)
    refine W.lcmp hx hb dL_law_1084 ?_
    refine lv_if_eq (tgt := 1365) hx hb dL_law_1085 (by decide) (fun _ => ?_) (fun c9 => absurd (by rw [hw.1]; exact x_cmp0 _) c9)
    exact cont _ _ _ _ _ _ hw.2 hP hD hS hl
  · have hq : sq ((xs (x3 + (4 : Int32)).toNatClampNeg)).toNatClampNeg = sq 3 := x_sq hsq hj
    have hw := hSt_slips v f g (xs (x3 + (1 : Int32)).toNatClampNeg) (xs (x3 + (2 : Int32)).toNatClampNeg) (xs (x3 + (3 : Int32)).toNatClampNeg) (xs (x3 + (4 : Int32)).toNatClampNeg) (xs (x3 + (5 : Int32)).toNatClampNeg) (xs (x3 + (6 : Int32)).toNatClampNeg) (xs (x3 + (7 : Int32)).toNatClampNeg) (xs (x3 + (8 : Int32)).toNatClampNeg) 3 hj hR
    have hc := c_X7_slips l D G H.size x0 (a 0) (a 14) (a 28) (a 33) (a 38) (a 40) (a 44) (a 1) (a 2) (a 3) (a 4) (a 5) (a 41) (a 42) (a 43) sq (a 52) (v 0) (v 1) (v 2) (v 3) (v 4) (f 0) (f 1) (f 2) (v 5) (v 6) (v 7) (v 8) (v 28) (f 23) (f 24) (f 25) (v (29 + 3)) (v (33 + 3)) (g 3) (xs (x3 + (1 : Int32)).toNatClampNeg) (xs (x3 + (2 : Int32)).toNatClampNeg) (xs (x3 + (3 : Int32)).toNatClampNeg) (xs (x3 + (4 : Int32)).toNatClampNeg) (xs (x3 + (5 : Int32)).toNatClampNeg) (xs (x3 + (6 : Int32)).toNatClampNeg) (xs (x3 + (7 : Int32)).toNatClampNeg) (xs (x3 + (8 : Int32)).toNatClampNeg) _ hw
    rw [hq] at hc
    refine x_cPl (va_runV (As := [.int (xs (x3 + (1 : Int32)).toNatClampNeg), .int (xs (x3 + (2 : Int32)).toNatClampNeg), .int (xs (x3 + (3 : Int32)).toNatClampNeg), .int (xs (x3 + (4 : Int32)).toNatClampNeg), .int (xs (x3 + (5 : Int32)).toNatClampNeg), .int (xs (x3 + (6 : Int32)).toNatClampNeg), .int (xs (x3 + (7 : Int32)).toNatClampNeg), .int (xs (x3 + (8 : Int32)).toNatClampNeg)]) (rest := []) ⟨hx, hb, hml, hown, hts⟩ hc (cwV 8 hts gL_law_X7_slips rfl rfl rfl (by decide +kernel) ⟨(Nat.le_of_ble_eq_true rfl), (Nat.le_of_ble_eq_true rfl)⟩) (xM_pv (hP.sub [0, 1, 2, 3, 4, 5, 41, 42, 43, 44, 45, 52, 53] rfl) hK (hD.sub [0, 1, 2, 3, 4, 5, 41, 42, 43, 44, 45, 52, 53] (by decide) rfl) (va_recv hK hP (ci := 7) (q0 := 0) rfl rfl)) rfl rfl hl.1 rfl (lv_room (Nat.le_of_ble_eq_true rfl)) dL_law_1034 ⟨(Nat.le_of_ble_eq_true rfl), (Nat.le_of_ble_eq_true rfl)⟩) hP hD hS hA [0, 1, 2, 3, 4, 5, 41, 42, 43, 44, 45, 52, 53] rfl (fun u => rfl) (fun u => (lawW G x0 y0 a b pq kq sq (va_up v 28 u.1) (va_up (va_up (va_up f 23 u.2.1) 24 u.2.2.1) 25 u.2.2.2) g)) (fun u => rfl) (fun r1 u H locs hw hP hD hS => ?_)
    obtain ⟨w_pairs_1, w_mixes_1, w_answers_1, w_agreed_1⟩ := u
    try dsimp only at hw
    replace hP : va_P D vwCl (lawW G x0 y0 a b pq kq sq (va_up v 28 w_pairs_1) (va_up (va_up (va_up f 23 w_mixes_1) 24 w_answers_1) 25 w_agreed_1) g) H := hP
    replace hD : va_D (fun q : Nat => s.heap.size ≤ q) (lawW G x0 y0 a b pq kq sq (va_up v 28 w_pairs_1) (va_up (va_up (va_up f 23 w_mixes_1) 24 w_answers_1) 25 w_agreed_1) g) := hD
    refine lv_aload_n hx hb dL_law_1037 rfl (lv_at hl 2 rfl) ?_
    refine lv_aload_n hx hb dL_law_1038 rfl (lv_at hl 0 rfl) ?_
    refine lv_iload_n hx hb dL_law_1039 rfl (lv_at hl 3 rfl) ?_
    refine lv_iconst (v := 1) hx hb dL_law_1040 (by decide) ?_
    refine lv_iadd hx hb dL_law_1041 ?_
    refine va_sld hx hb hX hbl hbA hS (hin 1 (by decide)) dL_law_1042 ?_
    refine lv_aload_n hx hb dL_law_1043 rfl (lv_at hl 0 rfl) ?_
    refine lv_iload_n hx hb dL_law_1044 rfl (lv_at hl 3 rfl) ?_
    refine lv_iconst (v := 2) hx hb dL_law_1045 (by decide) ?_
    refine lv_iadd hx hb dL_law_1046 ?_
    refine va_sld hx hb hX hbl hbA hS (hin 2 (by decide)) dL_law_1047 ?_
    refine lv_aload_n hx hb dL_law_1048 rfl (lv_at hl 0 rfl) ?_
    refine lv_iload_n hx hb dL_law_1049 rfl (lv_at hl 3 rfl) ?_
    refine lv_iconst (v := 3) hx hb dL_law_1050 (by decide) ?_
    refine lv_iadd hx hb dL_law_1051 ?_
    refine va_sld hx hb hX hbl hbA hS (hin 3 (by decide)) dL_law_1052 ?_
    refine lv_aload_n hx hb dL_law_1053 rfl (lv_at hl 0 rfl) ?_
    refine lv_iload_n hx hb dL_law_1054 rfl (lv_at hl 3 rfl) ?_
    refine lv_iconst (v := 4) hx hb dL_law_1055 (by decide) ?_
    refine lv_iadd hx hb dL_law_1056 ?_
    refine va_sld hx hb hX hbl hbA hS (hin 4 (by decide)) dL_law_1057 ?_
    refine lv_aload_n hx hb dL_law_1058 rfl (lv_at hl 0 rfl) ?_
    refine lv_iload_n hx hb dL_law_1059 rfl (lv_at hl 3 rfl) ?_
    refine lv_iconst (v := 5) hx hb dL_law_1060 (by decide) ?_
    refine lv_iadd hx hb dL_law_1061 ?_
    refine va_sld hx hb hX hbl hbA hS (hin 5 (by decide)) dL_law_1062 ?_
    refine lv_aload_n hx hb dL_law_1063 rfl (lv_at hl 0 rfl) ?_
    refine lv_iload_n hx hb dL_law_1064 rfl (lv_at hl 3 rfl) ?_
    refine lv_bipush (v := 6) hx hb dL_law_1065 (by decide) ?_
    refine lv_iadd hx hb dL_law_1067 ?_
    refine va_sld hx hb hX hbl hbA hS (hin 6 (by decide)) dL_law_1068 ?_
    refine lv_aload_n hx hb dL_law_1069 rfl (lv_at hl 0 rfl) ?_
    refine lv_iload_n hx hb dL_law_1070 rfl (lv_at hl 3 rfl) ?_
    refine lv_bipush (v := 7) hx hb dL_law_1071 (by decide) ?_
    refine lv_iadd hx hb dL_law_1073 ?_
    refine va_sld hx hb hX hbl hbA hS (hin 7 (by decide)) dL_law_1074 ?_
    refine lv_aload_n hx hb dL_law_1075 rfl (lv_at hl 0 rfl) ?_
    refine lv_iload_n hx hb dL_law_1076 rfl (lv_at hl 3 rfl) ?_
    refine lv_bipush (v := 8) hx hb dL_law_1077 (by decide) ?_
    refine lv_iadd hx hb dL_law_1079 ?_
    refine va_sld hx hb hX hbl hbA hS (hin 8 (by decide)) dL_law_1080 ?_
    have hc := c_X8_slips l D G y0 (b 0) (b 1) (b 2) (b 3) (b 4) (b 5) (b 6) (b 7) (b 8) (b 9) (b 10) (v 37) (v 38) (v 39) (v 40) (v 41) (v 42) (v 43) (f 26) (f 27) (g 4) (f 29) (xs (x3 + (1 : Int32)).toNatClampNeg) (xs (x3 + (2 : Int32)).toNatClampNeg) (xs (x3 + (3 : Int32)).toNatClampNeg) (xs (x3 + (4 : Int32)).toNatClampNeg) (xs (x3 + (5 : Int32)).toNatClampNeg) (xs (x3 + (6 : Int32)).toNatClampNeg) (xs (x3 + (7 : Int32)).toNatClampNeg) (xs (x3 + (8 : Int32)).toNatClampNeg) _ hw
    refine vp_callSl (W.runV (As := [.int (xs (x3 + (1 : Int32)).toNatClampNeg), .int (xs (x3 + (2 : Int32)).toNatClampNeg), .int (xs (x3 + (3 : Int32)).toNatClampNeg), .int (xs (x3 + (4 : Int32)).toNatClampNeg), .int (xs (x3 + (5 : Int32)).toNatClampNeg), .int (xs (x3 + (6 : Int32)).toNatClampNeg), .int (xs (x3 + (7 : Int32)).toNatClampNeg), .int (xs (x3 + (8 : Int32)).toNatClampNeg)]) (rest := [.long r1]) ⟨hx, hb, hml, hown, hts⟩ hc (cwV 8 hts gL_law_X8_slips rfl rfl rfl (by decide +kernel) ⟨(Nat.le_of_ble_eq_true rfl), (Nat.le_of_ble_eq_true rfl)⟩) (xR_pv (hP.sub [54, 55, 56, 57, 59] rfl) hK (va_recv hK hP (ci := 8) (q0 := 54) rfl rfl)) rfl rfl hl.1 rfl (lv_room (Nat.le_of_ble_eq_true rfl)) dL_law_1081 ⟨(Nat.le_of_ble_eq_true rfl), (Nat.le_of_ble_eq_true rfl)⟩) (fun r2 hw => ?_)
    refine W.lcmp hx hb dL_law_1084 ?_
    refine lv_if_eq (tgt := 1365) hx hb dL_law_1085 (by decide) (fun _ => ?_) (fun c9 => absurd (by rw [hw.1]; exact x_cmp0 _) c9)
    exact cont _ _ _ _ _ _ hw.2 hP hD hS hl
set_option maxHeartbeats 8000000 in
set_option maxRecDepth 100000 in
theorem lawc_film {p : Program} {l : Launch} {e : Env} {s : State} {m : MethodId} {below : List Frame} {meth : Method} {c : Code} {D : va_G} {G : Nat → ClassId} {x0 y0 : Nat} {a b pq kq sq : Nat → Nat} {b0 L : Nat} {xs : Nat → Int32} (C0 : lw_At p s m meth c b0 L xs) (R : ((Nat → Int32) → (Nat → Nat → Int32) → (Nat → Nat → Int64) → Prop)) (hSt_film : Step_film R) (x3 : Int32) (hin : ∀ k : Nat, k ≤ 8 → vp_in (x3 + Int32.ofNat k) L) (hsq : ∀ k, 4 ≤ k → sq k = sq 0) (v : Nat → Int32) (f : Nat → Nat → Int32) (g : Nat → Nat → Int64) (hR : R v f g) (H : Heap) (locs : List Loc) (ls : Array Slot) (hK : va_K D vwCl (tyL G) s) (hP : va_P D vwCl (lawW G x0 y0 a b pq kq sq v f g) H) (hD : va_D (fun q : Nat => s.heap.size ≤ q) (lawW G x0 y0 a b pq kq sq v f g)) (hS : va_S (fun q : Nat => s.heap.size ≤ q) s.heap H locs) (hl : lv_has ls 4 [(0, .ref b0), (1, .ref x0), (2, .ref y0), (3, .int x3)]) (cont : ∀ (v : Nat → Int32) (f : Nat → Nat → Int32) (g : Nat → Nat → Int64) (H : Heap) (locs : List Loc) (ls : Array Slot), R v f g → va_P D vwCl (lawW G x0 y0 a b pq kq sq v f g) H → va_D (fun q : Nat => s.heap.size ≤ q) (lawW G x0 y0 a b pq kq sq v f g) → va_S (fun q : Nat => s.heap.size ≤ q) s.heap H locs → lv_has ls 4 [(0, .ref b0), (1, .ref x0), (2, .ref y0), (3, .int x3)] → W p l e room_1 s m #[Value.ref b0] below meth c H locs 66 2290 (lw_Z below #[Value.ref b0] s) (F0 m 1365 ls [])) : W p l e room_1 s m #[Value.ref b0] below meth c H locs 66 2290 (lw_Z below #[Value.ref b0] s) (F0 m 1090 ls []) := by
  obtain ⟨hx, hb, hr, hml, hown, hts0, hX, hbl, hlocks, hgv⟩ := id C0
  have hb : c.code = cL_law := hb
  have hown : s.vm.findClass RL = some m.cls := hown
  have hts : ∀ w ∈ wsL_law, w.before #[Value.ref b0] s = true := fun w h => hts0 w (wsL_law_in w h)
  have hA : ∀ q : Nat, s.heap.size ≤ q → (fun q : Nat => s.heap.size ≤ q) q := fun _ h => h
  have hbA : ¬ (fun q : Nat => s.heap.size ≤ q) b0 := Nat.not_le.mpr hbl
  refine lv_aload_n hx hb dL_law_1090 rfl (lv_at hl 1 rfl) ?_
  refine lv_aload_n hx hb dL_law_1091 rfl (lv_at hl 0 rfl) ?_
  refine lv_iload_n hx hb dL_law_1092 rfl (lv_at hl 3 rfl) ?_
  refine lv_iconst (v := 1) hx hb dL_law_1093 (by decide) ?_
  refine lv_iadd hx hb dL_law_1094 ?_
  refine va_sld hx hb hX hbl hbA hS (hin 1 (by decide)) dL_law_1095 ?_
  refine lv_aload_n hx hb dL_law_1096 rfl (lv_at hl 0 rfl) ?_
  refine lv_iload_n hx hb dL_law_1097 rfl (lv_at hl 3 rfl) ?_
  refine lv_iconst (v := 2) hx hb dL_law_1098 (by decide) ?_
  refine lv_iadd hx hb dL_law_1099 ?_
  refine va_sld hx hb hX hbl hbA hS (hin 2 (by decide)) dL_law_1100 ?_
  refine lv_aload_n hx hb dL_law_1101 rfl (lv_at hl 0 rfl) ?_
  refine lv_iload_n hx hb dL_law_1102 rfl (lv_at hl 3 rfl) ?_
  refine lv_iconst (v := 3) hx hb dL_law_1103 (by decide) ?_
  refine lv_iadd hx hb dL_law_1104 ?_
  refine va_sld hx hb hX hbl hbA hS (hin 3 (by decide)) dL_law_1105 ?_
  refine lv_aload_n hx hb dL_law_1106 rfl (lv_at hl 0 rfl) ?_
  refine lv_iload_n hx hb dL_law_1107 rfl (lv_at hl 3 rfl) ?_
  refine lv_iconst (v := 4) hx hb dL_law_1108 (by decide) ?_
  refine lv_iadd hx hb dL_law_1109 ?_
  refine va_sld hx hb hX hbl hbA hS (hin 4 (by decide)) dL_law_1110 ?_
  refine lv_aload_n hx hb dL_law_1111 rfl (lv_at hl 0 rfl) ?_
  refine lv_iload_n hx hb dL_law_1112 rfl (lv_at hl 3 rfl) ?_
  refine lv_iconst (v := 5) hx hb dL_law_1113 (by decide) ?_
  refine lv_iadd hx hb dL_law_1114 ?_
  refine va_sld hx hb hX hbl hbA hS (hin 5 (by decide)) dL_law_1115 ?_
  rcases x_sj4 (xs (x3 + (3 : Int32)).toNatClampNeg) with hj | hj | hj | hj
  · have hq : sq ((xs (x3 + (3 : Int32)).toNatClampNeg)).toNatClampNeg = sq 0 := x_sq hsq hj
    have hw := hSt_film v f g (xs (x3 + (1 : Int32)).toNatClampNeg) (xs (x3 + (2 : Int32)).toNatClampNeg) (xs (x3 + (3 : Int32)).toNatClampNeg) (xs (x3 + (4 : Int32)).toNatClampNeg) (xs (x3 + (5 : Int32)).toNatClampNeg) 0 hj hR
    have hc := c_X7_film l D G H.size x0 (a 0) (a 14) (a 28) (a 33) (a 38) (a 40) (a 44) (a 1) (a 2) (a 3) (a 4) (a 5) sq (a 46) (v 0) (v 1) (v 2) (v 3) (v 4) (f 0) (f 1) (f 2) (v 5) (v 6) (v 7) (v 8) (v (29 + 0)) (v (33 + 0)) (g 0) (xs (x3 + (1 : Int32)).toNatClampNeg) (xs (x3 + (2 : Int32)).toNatClampNeg) (xs (x3 + (3 : Int32)).toNatClampNeg) (xs (x3 + (4 : Int32)).toNatClampNeg) (xs (x3 + (5 : Int32)).toNatClampNeg) _ hw
    rw [hq] at hc
    refine x_cPi (va_runV (As := [.int (xs (x3 + (1 : Int32)).toNatClampNeg), .int (xs (x3 + (2 : Int32)).toNatClampNeg), .int (xs (x3 + (3 : Int32)).toNatClampNeg), .int (xs (x3 + (4 : Int32)).toNatClampNeg), .int (xs (x3 + (5 : Int32)).toNatClampNeg)]) (rest := []) ⟨hx, hb, hml, hown, hts⟩ hc (cwV 5 hts gL_law_X7_film rfl rfl rfl (by decide +kernel) ⟨(Nat.le_of_ble_eq_true rfl), (Nat.le_of_ble_eq_true rfl)⟩) (xM_pv (hP.sub [0, 1, 2, 3, 4, 5, 45, 46, 47] rfl) hK (hD.sub [0, 1, 2, 3, 4, 5, 45, 46, 47] (by decide) rfl) (va_recv hK hP (ci := 7) (q0 := 0) rfl rfl)) rfl rfl hl.1 rfl (lv_room (Nat.le_of_ble_eq_true rfl)) dL_law_1116 ⟨(Nat.le_of_ble_eq_true rfl), (Nat.le_of_ble_eq_true rfl)⟩) hP hD hS hA [0, 1, 2, 3, 4, 5, 45, 46, 47] rfl (fun u => rfl) (fun u => (lawW G x0 y0 a b pq kq sq v f (va_up g 0 u))) (fun u => rfl) (fun r1 u H locs hw hP hD hS => ?_)
    obtain ⟨s_items_1, rfl⟩ : ∃ z, z = u := ⟨_, rfl⟩
    try dsimp only at hw
    replace hP : va_P D vwCl (lawW G x0 y0 a b pq kq sq v f (va_up g 0 s_items_1)) H := hP
    replace hD : va_D (fun q : Nat => s.heap.size ≤ q) (lawW G x0 y0 a b pq kq sq v f (va_up g 0 s_items_1)) := hD
    refine lv_aload_n hx hb dL_law_1119 rfl (lv_at hl 2 rfl) ?_
    refine lv_aload_n hx hb dL_law_1120 rfl (lv_at hl 0 rfl) ?_
    refine lv_iload_n hx hb dL_law_1121 rfl (lv_at hl 3 rfl) ?_
    refine lv_iconst (v := 1) hx hb dL_law_1122 (by decide) ?_
    refine lv_iadd hx hb dL_law_1123 ?_
    refine va_sld hx hb hX hbl hbA hS (hin 1 (by decide)) dL_law_1124 ?_
    refine lv_aload_n hx hb dL_law_1125 rfl (lv_at hl 0 rfl) ?_
    refine lv_iload_n hx hb dL_law_1126 rfl (lv_at hl 3 rfl) ?_
    refine lv_iconst (v := 2) hx hb dL_law_1127 (by decide) ?_
    refine lv_iadd hx hb dL_law_1128 ?_
    refine va_sld hx hb hX hbl hbA hS (hin 2 (by decide)) dL_law_1129 ?_
    refine lv_aload_n hx hb dL_law_1130 rfl (lv_at hl 0 rfl) ?_
    refine lv_iload_n hx hb dL_law_1131 rfl (lv_at hl 3 rfl) ?_
    refine lv_iconst (v := 3) hx hb dL_law_1132 (by decide) ?_
    refine lv_iadd hx hb dL_law_1133 ?_
    refine va_sld hx hb hX hbl hbA hS (hin 3 (by decide)) dL_law_1134 ?_
    refine lv_aload_n hx hb dL_law_1135 rfl (lv_at hl 0 rfl) ?_
    refine lv_iload_n hx hb dL_law_1136 rfl (lv_at hl 3 rfl) ?_
    refine lv_iconst (v := 4) hx hb dL_law_1137 (by decide) ?_
    refine lv_iadd hx hb dL_law_1138 ?_
    refine va_sld hx hb hX hbl hbA hS (hin 4 (by decide)) dL_law_1139 ?_
    refine lv_aload_n hx hb dL_law_1140 rfl (lv_at hl 0 rfl) ?_
    refine lv_iload_n hx hb dL_law_1141 rfl (lv_at hl 3 rfl) ?_
    refine lv_iconst (v := 5) hx hb dL_law_1142 (by decide) ?_
    refine lv_iadd hx hb dL_law_1143 ?_
    refine va_sld hx hb hX hbl hbA hS (hin 5 (by decide)) dL_law_1144 ?_
    have hc := c_X8_film l D G H.size y0 (b 0) (b 1) (b 2) (b 3) (b 4) (b 5) (b 6) (b 7) (b 8) (b 9) (b 10) (v 37) (v 38) (v 39) (v 40) (v 41) (v 42) (v 43) (f 26) (f 27) (g 4) (f 29) (xs (x3 + (1 : Int32)).toNatClampNeg) (xs (x3 + (2 : Int32)).toNatClampNeg) (xs (x3 + (3 : Int32)).toNatClampNeg) (xs (x3 + (4 : Int32)).toNatClampNeg) (xs (x3 + (5 : Int32)).toNatClampNeg) _ hw
    refine x_cPi (va_runV (As := [.int (xs (x3 + (1 : Int32)).toNatClampNeg), .int (xs (x3 + (2 : Int32)).toNatClampNeg), .int (xs (x3 + (3 : Int32)).toNatClampNeg), .int (xs (x3 + (4 : Int32)).toNatClampNeg), .int (xs (x3 + (5 : Int32)).toNatClampNeg)]) (rest := [.int r1]) ⟨hx, hb, hml, hown, hts⟩ hc (cwV 5 hts gL_law_X8_film rfl rfl rfl (by decide +kernel) ⟨(Nat.le_of_ble_eq_true rfl), (Nat.le_of_ble_eq_true rfl)⟩) (xM_pv (hP.sub [54, 55, 56, 57, 59] rfl) hK (hD.sub [54, 55, 56, 57, 59] (by decide) rfl) (va_recv hK hP (ci := 8) (q0 := 54) rfl rfl)) rfl rfl hl.1 rfl (lv_room (Nat.le_of_ble_eq_true rfl)) dL_law_1145 ⟨(Nat.le_of_ble_eq_true rfl), (Nat.le_of_ble_eq_true rfl)⟩) hP hD hS hA [54, 55, 56, 57, 59] rfl (fun u => rfl) (fun u => (lawW G x0 y0 a b pq kq sq v f (va_up (va_up g 0 s_items_1) 4 u))) (fun u => rfl) (fun r2 u H locs hw hP hD hS => ?_)
    obtain ⟨m_item_2, rfl⟩ : ∃ z, z = u := ⟨_, rfl⟩
    try dsimp only at hw
    replace hP : va_P D vwCl (lawW G x0 y0 a b pq kq sq v f (va_up (va_up g 0 s_items_1) 4 m_item_2)) H := hP
    replace hD : va_D (fun q : Nat => s.heap.size ≤ q) (lawW G x0 y0 a b pq kq sq v f (va_up (va_up g 0 s_items_1) 4 m_item_2)) := hD
    refine lv_icmp_eq (tgt := 1365) hx hb dL_law_1148 (by decide) (fun _ => ?_) (fun c9 => absurd hw.1 c9)
    exact cont _ _ _ _ _ _ hw.2 hP hD hS hl
  · have hq : sq ((xs (x3 + (3 : Int32)).toNatClampNeg)).toNatClampNeg = sq 1 := x_sq hsq hj
    have hw := hSt_film v f g (xs (x3 + (1 : Int32)).toNatClampNeg) (xs (x3 + (2 : Int32)).toNatClampNeg) (xs (x3 + (3 : Int32)).toNatClampNeg) (xs (x3 + (4 : Int32)).toNatClampNeg) (xs (x3 + (5 : Int32)).toNatClampNeg) 1 hj hR
    have hc := c_X7_film l D G H.size x0 (a 0) (a 14) (a 28) (a 33) (a 38) (a 40) (a 44) (a 1) (a 2) (a 3) (a 4) (a 5) sq (a 48) (v 0) (v 1) (v 2) (v 3) (v 4) (f 0) (f 1) (f 2) (v 5) (v 6) (v 7) (v 8) (v (29 + 1)) (v (33 + 1)) (g 1) (xs (x3 + (1 : Int32)).toNatClampNeg) (xs (x3 + (2 : Int32)).toNatClampNeg) (xs (x3 + (3 : Int32)).toNatClampNeg) (xs (x3 + (4 : Int32)).toNatClampNeg) (xs (x3 + (5 : Int32)).toNatClampNeg) _ hw
    rw [hq] at hc
    refine x_cPi (va_runV (As := [.int (xs (x3 + (1 : Int32)).toNatClampNeg), .int (xs (x3 + (2 : Int32)).toNatClampNeg), .int (xs (x3 + (3 : Int32)).toNatClampNeg), .int (xs (x3 + (4 : Int32)).toNatClampNeg), .int (xs (x3 + (5 : Int32)).toNatClampNeg)]) (rest := []) ⟨hx, hb, hml, hown, hts⟩ hc (cwV 5 hts gL_law_X7_film rfl rfl rfl (by decide +kernel) ⟨(Nat.le_of_ble_eq_true rfl), (Nat.le_of_ble_eq_true rfl)⟩) (xM_pv (hP.sub [0, 1, 2, 3, 4, 5, 45, 48, 49] rfl) hK (hD.sub [0, 1, 2, 3, 4, 5, 45, 48, 49] (by decide) rfl) (va_recv hK hP (ci := 7) (q0 := 0) rfl rfl)) rfl rfl hl.1 rfl (lv_room (Nat.le_of_ble_eq_true rfl)) dL_law_1116 ⟨(Nat.le_of_ble_eq_true rfl), (Nat.le_of_ble_eq_true rfl)⟩) hP hD hS hA [0, 1, 2, 3, 4, 5, 45, 48, 49] rfl (fun u => rfl) (fun u => (lawW G x0 y0 a b pq kq sq v f (va_up g 1 u))) (fun u => rfl) (fun r1 u H locs hw hP hD hS => ?_)
    obtain ⟨s_items_1, rfl⟩ : ∃ z, z = u := ⟨_, rfl⟩
    try dsimp only at hw
    replace hP : va_P D vwCl (lawW G x0 y0 a b pq kq sq v f (va_up g 1 s_items_1)) H := hP
    replace hD : va_D (fun q : Nat => s.heap.size ≤ q) (lawW G x0 y0 a b pq kq sq v f (va_up g 1 s_items_1)) := hD
    refine lv_aload_n hx hb dL_law_1119 rfl (lv_at hl 2 rfl) ?_
    refine lv_aload_n hx hb dL_law_1120 rfl (lv_at hl 0 rfl) ?_
    refine lv_iload_n hx hb dL_law_1121 rfl (lv_at hl 3 rfl) ?_
    refine lv_iconst (v := 1) hx hb dL_law_1122 (by decide) ?_
    refine lv_iadd hx hb dL_law_1123 ?_
    refine va_sld hx hb hX hbl hbA hS (hin 1 (by decide)) dL_law_1124 ?_
    refine lv_aload_n hx hb dL_law_1125 rfl (lv_at hl 0 rfl) ?_
    refine lv_iload_n hx hb dL_law_1126 rfl (lv_at hl 3 rfl) ?_
    refine lv_iconst (v := 2) hx hb dL_law_1127 (by decide) ?_
    refine lv_iadd hx hb dL_law_1128 ?_
    refine va_sld hx hb hX hbl hbA hS (hin 2 (by decide)) dL_law_1129 ?_
    refine lv_aload_n hx hb dL_law_1130 rfl (lv_at hl 0 rfl) ?_
    refine lv_iload_n hx hb dL_law_1131 rfl (lv_at hl 3 rfl) ?_
    refine lv_iconst (v := 3) hx hb dL_law_1132 (by decide) ?_
    refine lv_iadd hx hb dL_law_1133 ?_
    refine va_sld hx hb hX hbl hbA hS (hin 3 (by decide)) dL_law_1134 ?_
    refine lv_aload_n hx hb dL_law_1135 rfl (lv_at hl 0 rfl) ?_
    refine lv_iload_n hx hb dL_law_1136 rfl (lv_at hl 3 rfl) ?_
    refine lv_iconst (v := 4) hx hb dL_law_1137 (by decide) ?_
    refine lv_iadd hx hb dL_law_1138 ?_
    refine va_sld hx hb hX hbl hbA hS (hin 4 (by decide)) dL_law_1139 ?_
    refine lv_aload_n hx hb dL_law_1140 rfl (lv_at hl 0 rfl) ?_
    refine lv_iload_n hx hb dL_law_1141 rfl (lv_at hl 3 rfl) ?_
    refine lv_iconst (v := 5) hx hb dL_law_1142 (by decide) ?_
    refine lv_iadd hx hb dL_law_1143 ?_
    refine va_sld hx hb hX hbl hbA hS (hin 5 (by decide)) dL_law_1144 ?_
    have hc := c_X8_film l D G H.size y0 (b 0) (b 1) (b 2) (b 3) (b 4) (b 5) (b 6) (b 7) (b 8) (b 9) (b 10) (v 37) (v 38) (v 39) (v 40) (v 41) (v 42) (v 43) (f 26) (f 27) (g 4) (f 29) (xs (x3 + (1 : Int32)).toNatClampNeg) (xs (x3 + (2 : Int32)).toNatClampNeg) (xs (x3 + (3 : Int32)).toNatClampNeg) (xs (x3 + (4 : Int32)).toNatClampNeg) (xs (x3 + (5 : Int32)).toNatClampNeg) _ hw
    refine x_cPi (va_runV (As := [.int (xs (x3 + (1 : Int32)).toNatClampNeg), .int (xs (x3 + (2 : Int32)).toNatClampNeg), .int (xs (x3 + (3 : Int32)).toNatClampNeg), .int (xs (x3 + (4 : Int32)).toNatClampNeg), .int (xs (x3 + (5 : Int32)).toNatClampNeg)]) (rest := [.int r1]) ⟨hx, hb, hml, hown, hts⟩ hc (cwV 5 hts gL_law_X8_film rfl rfl rfl (by decide +kernel) ⟨(Nat.le_of_ble_eq_true rfl), (Nat.le_of_ble_eq_true rfl)⟩) (xM_pv (hP.sub [54, 55, 56, 57, 59] rfl) hK (hD.sub [54, 55, 56, 57, 59] (by decide) rfl) (va_recv hK hP (ci := 8) (q0 := 54) rfl rfl)) rfl rfl hl.1 rfl (lv_room (Nat.le_of_ble_eq_true rfl)) dL_law_1145 ⟨(Nat.le_of_ble_eq_true rfl), (Nat.le_of_ble_eq_true rfl)⟩) hP hD hS hA [54, 55, 56, 57, 59] rfl (fun u => rfl) (fun u => (lawW G x0 y0 a b pq kq sq v f (va_up (va_up g 1 s_items_1) 4 u))) (fun u => rfl) (fun r2 u H locs hw hP hD hS => ?_)
    obtain ⟨m_item_2, rfl⟩ : ∃ z, z = u := ⟨_, rfl⟩
    try dsimp only at hw
    replace hP : va_P D vwCl (lawW G x0 y0 a b pq kq sq v f (va_up (va_up g 1 s_items_1) 4 m_item_2)) H := hP
    replace hD : va_D (fun q : Nat => s.heap.size ≤ q) (lawW G x0 y0 a b pq kq sq v f (va_up (va_up g 1 s_items_1) 4 m_item_2)) := hD
    refine lv_icmp_eq (tgt := 1365) hx hb dL_law_1148 (by decide) (fun _ => ?_) (fun c9 => absurd hw.1 c9)
    exact cont _ _ _ _ _ _ hw.2 hP hD hS hl
  · have hq : sq ((xs (x3 + (3 : Int32)).toNatClampNeg)).toNatClampNeg = sq 2 := x_sq hsq hj
    have hw := hSt_film v f g (xs (x3 + (1 : Int32)).toNatClampNeg) (xs (x3 + (2 : Int32)).toNatClampNeg) (xs (x3 + (3 : Int32)).toNatClampNeg) (xs (x3 + (4 : Int32)).toNatClampNeg) (xs (x3 + (5 : Int32)).toNatClampNeg) 2 hj hR
    have hc := c_X7_film l D G H.size x0 (a 0) (a 14) (a 28) (a 33) (a 38) (a 40) (a 44) (a 1) (a 2) (a 3) (a 4) (a 5) sq (a 50) (v 0) (v 1) (v 2) (v 3) (v 4) (f 0) (f 1) (f 2) (v 5) (v 6) (v 7) (v 8) (v (29 + 2)) (v (33 + 2)) (g 2) (xs (x3 + (1 : Int32)).toNatClampNeg) (xs (x3 + (2 : Int32)).toNatClampNeg) (xs (x3 + (3 : Int32)).toNatClampNeg) (xs (x3 + (4 : Int32)).toNatClampNeg) (xs (x3 + (5 : Int32)).toNatClampNeg) _ hw
    rw [hq] at hc
    refine x_cPi (va_runV (As := [.int (xs (x3 + (1 : Int32)).toNatClampNeg), .int (xs (x3 + (2 : Int32)).toNatClampNeg), .int (xs (x3 + (3 : Int32)).toNatClampNeg), .int (xs (x3 + (4 : Int32)).toNatClampNeg), .int (xs (x3 + (5 : Int32)).toNatClampNeg)]) (rest := []) ⟨hx, hb, hml, hown, hts⟩ hc (cwV 5 hts gL_law_X7_film rfl rfl rfl (by decide +kernel) ⟨(Nat.le_of_ble_eq_true rfl), (Nat.le_of_ble_eq_true rfl)⟩) (xM_pv (hP.sub [0, 1, 2, 3, 4, 5, 45, 50, 51] rfl) hK (hD.sub [0, 1, 2, 3, 4, 5, 45, 50, 51] (by decide) rfl) (va_recv hK hP (ci := 7) (q0 := 0) rfl rfl)) rfl rfl hl.1 rfl (lv_room (Nat.le_of_ble_eq_true rfl)) dL_law_1116 ⟨(Nat.le_of_ble_eq_true rfl), (Nat.le_of_ble_eq_true rfl)⟩) hP hD hS hA [0, 1, 2, 3, 4, 5, 45, 50, 51] rfl (fun u => rfl) (fun u => (lawW G x0 y0 a b pq kq sq v f (va_up g 2 u))) (fun u => rfl) (fun r1 u H locs hw hP hD hS => ?_)
    obtain ⟨s_items_1, rfl⟩ : ∃ z, z = u := ⟨_, rfl⟩
    try dsimp only at hw
    replace hP : va_P D vwCl (lawW G x0 y0 a b pq kq sq v f (va_up g 2 s_items_1)) H := hP
    replace hD : va_D (fun q : Nat => s.heap.size ≤ q) (lawW G x0 y0 a b pq kq sq v f (va_up g 2 s_items_1)) := hD
    refine lv_aload_n hx hb dL_law_1119 rfl (lv_at hl 2 rfl) ?_
    refine lv_aload_n hx hb dL_law_1120 rfl (lv_at hl 0 rfl) ?_
    refine lv_iload_n hx hb dL_law_1121 rfl (lv_at hl 3 rfl) ?_
    refine lv_iconst (v := 1) hx hb dL_law_1122 (by decide) ?_
    refine lv_iadd hx hb dL_law_1123 ?_
    refine va_sld hx hb hX hbl hbA hS (hin 1 (by decide)) dL_law_1124 ?_
    refine lv_aload_n hx hb dL_law_1125 rfl (lv_at hl 0 rfl) ?_
    refine lv_iload_n hx hb dL_law_1126 rfl (lv_at hl 3 rfl) ?_
    refine lv_iconst (v := 2) hx hb dL_law_1127 (by decide) ?_
    refine lv_iadd hx hb dL_law_1128 ?_
    refine va_sld hx hb hX hbl hbA hS (hin 2 (by decide)) dL_law_1129 ?_
    refine lv_aload_n hx hb dL_law_1130 rfl (lv_at hl 0 rfl) ?_
    refine lv_iload_n hx hb dL_law_1131 rfl (lv_at hl 3 rfl) ?_
    refine lv_iconst (v := 3) hx hb dL_law_1132 (by decide) ?_
    refine lv_iadd hx hb dL_law_1133 ?_
    refine va_sld hx hb hX hbl hbA hS (hin 3 (by decide)) dL_law_1134 ?_
    refine lv_aload_n hx hb dL_law_1135 rfl (lv_at hl 0 rfl) ?_
    refine lv_iload_n hx hb dL_law_1136 rfl (lv_at hl 3 rfl) ?_
    refine lv_iconst (v := 4) hx hb dL_law_1137 (by decide) ?_
    refine lv_iadd hx hb dL_law_1138 ?_
    refine va_sld hx hb hX hbl hbA hS (hin 4 (by decide)) dL_law_1139 ?_
    refine lv_aload_n hx hb dL_law_1140 rfl (lv_at hl 0 rfl) ?_
    refine lv_iload_n hx hb dL_law_1141 rfl (lv_at hl 3 rfl) ?_
    refine lv_iconst (v := 5) hx hb dL_law_1142 (by decide) ?_
    refine lv_iadd hx hb dL_law_1143 ?_
    refine va_sld hx hb hX hbl hbA hS (hin 5 (by decide)) dL_law_1144 ?_
    have hc := c_X8_film l D G H.size y0 (b 0) (b 1) (b 2) (b 3) (b 4) (b 5) (b 6) (b 7) (b 8) (b 9) (b 10) (v 37) (v 38) (v 39) (v 40) (v 41) (v 42) (v 43) (f 26) (f 27) (g 4) (f 29) (xs (x3 + (1 : Int32)).toNatClampNeg) (xs (x3 + (2 : Int32)).toNatClampNeg) (xs (x3 + (3 : Int32)).toNatClampNeg) (xs (x3 + (4 : Int32)).toNatClampNeg) (xs (x3 + (5 : Int32)).toNatClampNeg) _ hw
    refine x_cPi (va_runV (As := [.int (xs (x3 + (1 : Int32)).toNatClampNeg), .int (xs (x3 + (2 : Int32)).toNatClampNeg), .int (xs (x3 + (3 : Int32)).toNatClampNeg), .int (xs (x3 + (4 : Int32)).toNatClampNeg), .int (xs (x3 + (5 : Int32)).toNatClampNeg)]) (rest := [.int r1]) ⟨hx, hb, hml, hown, hts⟩ hc (cwV 5 hts gL_law_X8_film rfl rfl rfl (by decide +kernel) ⟨(Nat.le_of_ble_eq_true rfl), (Nat.le_of_ble_eq_true rfl)⟩) (xM_pv (hP.sub [54, 55, 56, 57, 59] rfl) hK (hD.sub [54, 55, 56, 57, 59] (by decide) rfl) (va_recv hK hP (ci := 8) (q0 := 54) rfl rfl)) rfl rfl hl.1 rfl (lv_room (Nat.le_of_ble_eq_true rfl)) dL_law_1145 ⟨(Nat.le_of_ble_eq_true rfl), (Nat.le_of_ble_eq_true rfl)⟩) hP hD hS hA [54, 55, 56, 57, 59] rfl (fun u => rfl) (fun u => (lawW G x0 y0 a b pq kq sq v f (va_up (va_up g 2 s_items_1) 4 u))) (fun u => rfl) (fun r2 u H locs hw hP hD hS => ?_)
    obtain ⟨m_item_2, rfl⟩ : ∃ z, z = u := ⟨_, rfl⟩
    try dsimp only at hw
    replace hP : va_P D vwCl (lawW G x0 y0 a b pq kq sq v f (va_up (va_up g 2 s_items_1) 4 m_item_2)) H := hP
    replace hD : va_D (fun q : Nat => s.heap.size ≤ q) (lawW G x0 y0 a b pq kq sq v f (va_up (va_up g 2 s_items_1) 4 m_item_2)) := hD
    refine lv_icmp_eq (tgt := 1365) hx hb dL_law_1148 (by decide) (fun _ => ?_) (fun c9 => absurd hw.1 c9)
    exact cont _ _ _ _ _ _ hw.2 hP hD hS hl
  · have hq : sq ((xs (x3 + (3 : Int32)).toNatClampNeg)).toNatClampNeg = sq 3 := x_sq hsq hj
    have hw := hSt_film v f g (xs (x3 + (1 : Int32)).toNatClampNeg) (xs (x3 + (2 : Int32)).toNatClampNeg) (xs (x3 + (3 : Int32)).toNatClampNeg) (xs (x3 + (4 : Int32)).toNatClampNeg) (xs (x3 + (5 : Int32)).toNatClampNeg) 3 hj hR
    have hc := c_X7_film l D G H.size x0 (a 0) (a 14) (a 28) (a 33) (a 38) (a 40) (a 44) (a 1) (a 2) (a 3) (a 4) (a 5) sq (a 52) (v 0) (v 1) (v 2) (v 3) (v 4) (f 0) (f 1) (f 2) (v 5) (v 6) (v 7) (v 8) (v (29 + 3)) (v (33 + 3)) (g 3) (xs (x3 + (1 : Int32)).toNatClampNeg) (xs (x3 + (2 : Int32)).toNatClampNeg) (xs (x3 + (3 : Int32)).toNatClampNeg) (xs (x3 + (4 : Int32)).toNatClampNeg) (xs (x3 + (5 : Int32)).toNatClampNeg) _ hw
    rw [hq] at hc
    refine x_cPi (va_runV (As := [.int (xs (x3 + (1 : Int32)).toNatClampNeg), .int (xs (x3 + (2 : Int32)).toNatClampNeg), .int (xs (x3 + (3 : Int32)).toNatClampNeg), .int (xs (x3 + (4 : Int32)).toNatClampNeg), .int (xs (x3 + (5 : Int32)).toNatClampNeg)]) (rest := []) ⟨hx, hb, hml, hown, hts⟩ hc (cwV 5 hts gL_law_X7_film rfl rfl rfl (by decide +kernel) ⟨(Nat.le_of_ble_eq_true rfl), (Nat.le_of_ble_eq_true rfl)⟩) (xM_pv (hP.sub [0, 1, 2, 3, 4, 5, 45, 52, 53] rfl) hK (hD.sub [0, 1, 2, 3, 4, 5, 45, 52, 53] (by decide) rfl) (va_recv hK hP (ci := 7) (q0 := 0) rfl rfl)) rfl rfl hl.1 rfl (lv_room (Nat.le_of_ble_eq_true rfl)) dL_law_1116 ⟨(Nat.le_of_ble_eq_true rfl), (Nat.le_of_ble_eq_true rfl)⟩) hP hD hS hA [0, 1, 2, 3, 4, 5, 45, 52, 53] rfl (fun u => rfl) (fun u => (lawW G x0 y0 a b pq kq sq v f (va_up g 3 u))) (fun u => rfl) (fun r1 u H locs hw hP hD hS => ?_)
    obtain ⟨s_items_1, rfl⟩ : ∃ z, z = u := ⟨_, rfl⟩
    try dsimp only at hw
    replace hP : va_P D vwCl (lawW G x0 y0 a b pq kq sq v f (va_up g 3 s_items_1)) H := hP
    replace hD : va_D (fun q : Nat => s.heap.size ≤ q) (lawW G x0 y0 a b pq kq sq v f (va_up g 3 s_items_1)) := hD
    refine lv_aload_n hx hb dL_law_1119 rfl (lv_at hl 2 rfl) ?_
    refine lv_aload_n hx hb dL_law_1120 rfl (lv_at hl 0 rfl) ?_
    refine lv_iload_n hx hb dL_law_1121 rfl (lv_at hl 3 rfl) ?_
    refine lv_iconst (v := 1) hx hb dL_law_1122 (by decide) ?_
    refine lv_iadd hx hb dL_law_1123 ?_
    refine va_sld hx hb hX hbl hbA hS (hin 1 (by decide)) dL_law_1124 ?_
    refine lv_aload_n hx hb dL_law_1125 rfl (lv_at hl 0 rfl) ?_
    refine lv_iload_n hx hb dL_law_1126 rfl (lv_at hl 3 rfl) ?_
    refine lv_iconst (v := 2) hx hb dL_law_1127 (by decide) ?_
    refine lv_iadd hx hb dL_law_1128 ?_
    refine va_sld hx hb hX hbl hbA hS (hin 2 (by decide)) dL_law_1129 ?_
    refine lv_aload_n hx hb dL_law_1130 rfl (lv_at hl 0 rfl) ?_
    refine lv_iload_n hx hb dL_law_1131 rfl (lv_at hl 3 rfl) ?_
    refine lv_iconst (v := 3) hx hb dL_law_1132 (by decide) ?_
    refine lv_iadd hx hb dL_law_1133 ?_
    refine va_sld hx hb hX hbl hbA hS (hin 3 (by decide)) dL_law_1134 ?_
    refine lv_aload_n hx hb dL_law_1135 rfl (lv_at hl 0 rfl) ?_
    refine lv_iload_n hx hb dL_law_1136 rfl (lv_at hl 3 rfl) ?_
    refine lv_iconst (v := 4) hx hb dL_law_1137 (by decide) ?_
    refine lv_iadd hx hb dL_law_1138 ?_
    refine va_sld hx hb hX hbl hbA hS (hin 4 (by decide)) dL_law_1139 ?_
    refine lv_aload_n hx hb dL_law_1140 rfl (lv_at hl 0 rfl) ?_
    refine lv_iload_n hx hb dL_law_1141 rfl (lv_at hl 3 rfl) ?_
    refine lv_iconst (v := 5) hx hb dL_law_1142 (by decide) ?_
    refine lv_iadd hx hb dL_law_1143 ?_
    refine va_sld hx hb hX hbl hbA hS (hin 5 (by decide)) dL_law_1144 ?_
    have hc := c_X8_film l D G H.size y0 (b 0) (b 1) (b 2) (b 3) (b 4) (b 5) (b 6) (b 7) (b 8) (b 9) (b 10) (v 37) (v 38) (v 39) (v 40) (v 41) (v 42) (v 43) (f 26) (f 27) (g 4) (f 29) (xs (x3 + (1 : Int32)).toNatClampNeg) (xs (x3 + (2 : Int32)).toNatClampNeg) (xs (x3 + (3 : Int32)).toNatClampNeg) (xs (x3 + (4 : Int32)).toNatClampNeg) (xs (x3 + (5 : Int32)).toNatClampNeg) _ hw
    refine x_cPi (va_runV (As := [.int (xs (x3 + (1 : Int32)).toNatClampNeg), .int (xs (x3 + (2 : Int32)).toNatClampNeg), .int (xs (x3 + (3 : Int32)).toNatClampNeg), .int (xs (x3 + (4 : Int32)).toNatClampNeg), .int (xs (x3 + (5 : Int32)).toNatClampNeg)]) (rest := [.int r1]) ⟨hx, hb, hml, hown, hts⟩ hc (cwV 5 hts gL_law_X8_film rfl rfl rfl (by decide +kernel) ⟨(Nat.le_of_ble_eq_true rfl), (Nat.le_of_ble_eq_true rfl)⟩) (xM_pv (hP.sub [54, 55, 56, 57, 59] rfl) hK (hD.sub [54, 55, 56, 57, 59] (by decide) rfl) (va_recv hK hP (ci := 8) (q0 := 54) rfl rfl)) rfl rfl hl.1 rfl (lv_room (Nat.le_of_ble_eq_true rfl)) dL_law_1145 ⟨(Nat.le_of_ble_eq_true rfl), (Nat.le_of_ble_eq_true rfl)⟩) hP hD hS hA [54, 55, 56, 57, 59] rfl (fun u => rfl) (fun u => (lawW G x0 y0 a b pq kq sq v f (va_up (va_up g 3 s_items_1) 4 u))) (fun u => rfl) (fun r2 u H locs hw hP hD hS => ?_)
    obtain ⟨m_item_2, rfl⟩ : ∃ z, z = u := ⟨_, rfl⟩
    try dsimp only at hw
    replace hP : va_P D vwCl (lawW G x0 y0 a b pq kq sq v f (va_up (va_up g 3 s_items_1) 4 m_item_2)) H := hP
    replace hD : va_D (fun q : Nat => s.heap.size ≤ q) (lawW G x0 y0 a b pq kq sq v f (va_up (va_up g 3 s_items_1) 4 m_item_2)) := hD
    refine lv_icmp_eq (tgt := 1365) hx hb dL_law_1148 (by decide) (fun _ => ?_) (fun c9 => absurd hw.1 c9)
    exact cont _ _ _ _ _ _ hw.2 hP hD hS hl
