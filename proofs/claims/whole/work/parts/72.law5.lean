set_option maxHeartbeats 8000000 in
set_option maxRecDepth 100000 in
theorem lawc_sheet {p : Program} {l : Launch} {e : Env} {s : State} {m : MethodId} {below : List Frame} {meth : Method} {c : Code} {D : va_G} {G : Nat → ClassId} {x0 y0 : Nat} {a b pq kq sq : Nat → Nat} {b0 L : Nat} {xs : Nat → Int32} (C0 : lw_At p s m meth c b0 L xs) (R : ((Nat → Int32) → (Nat → Nat → Int32) → (Nat → Nat → Int64) → Prop)) (hSt_sheet : Step_sheet R) (x3 : Int32) (hin : ∀ k : Nat, k ≤ 8 → vp_in (x3 + Int32.ofNat k) L) (hsq : ∀ k, 4 ≤ k → sq k = sq 0) (v : Nat → Int32) (f : Nat → Nat → Int32) (g : Nat → Nat → Int64) (hR : R v f g) (H : Heap) (locs : List Loc) (ls : Array Slot) (hK : va_K D vwCl (tyL G) s) (hP : va_P D vwCl (lawW G x0 y0 a b pq kq sq v f g) H) (hD : va_D (fun q : Nat => s.heap.size ≤ q) (lawW G x0 y0 a b pq kq sq v f g)) (hS : va_S (fun q : Nat => s.heap.size ≤ q) s.heap H locs) (hl : lv_has ls 4 [(0, .ref b0), (1, .ref x0), (2, .ref y0), (3, .int x3)]) (cont : ∀ (v : Nat → Int32) (f : Nat → Nat → Int32) (g : Nat → Nat → Int64) (H : Heap) (locs : List Loc) (ls : Array Slot), R v f g → va_P D vwCl (lawW G x0 y0 a b pq kq sq v f g) H → va_D (fun q : Nat => s.heap.size ≤ q) (lawW G x0 y0 a b pq kq sq v f g) → va_S (fun q : Nat => s.heap.size ≤ q) s.heap H locs → lv_has ls 4 [(0, .ref b0), (1, .ref x0), (2, .ref y0), (3, .int x3)] → W p l e room_1 s m #[Value.ref b0] below meth c H locs 66 2290 (lw_Z below #[Value.ref b0] s) (F0 m 1365 ls [])) : W p l e room_1 s m #[Value.ref b0] below meth c H locs 66 2290 (lw_Z below #[Value.ref b0] s) (F0 m 1153 ls []) := by
  obtain ⟨hx, hb, hr, hml, hown, hts0, hX, hbl, hlocks, hgv⟩ := id C0
  have hb : c.code = cL_law := hb
  have hown : s.vm.findClass RL = some m.cls := hown
  have hts : ∀ w ∈ wsL_law, w.before #[Value.ref b0] s = true := fun w h => hts0 w (wsL_law_in w h)
  have hA : ∀ q : Nat, s.heap.size ≤ q → (fun q : Nat => s.heap.size ≤ q) q := fun _ h => h
  have hbA : ¬ (fun q : Nat => s.heap.size ≤ q) b0 := Nat.not_le.mpr hbl
  refine lv_aload_n hx hb dL_law_1153 rfl (lv_at hl 1 rfl) ?_
  refine lv_aload_n hx hb dL_law_1154 rfl (lv_at hl 0 rfl) ?_
  refine lv_iload_n hx hb dL_law_1155 rfl (lv_at hl 3 rfl) ?_
  refine lv_iconst (v := 1) hx hb dL_law_1156 (by decide) ?_
  refine lv_iadd hx hb dL_law_1157 ?_
  refine va_sld hx hb hX hbl hbA hS (hin 1 (by decide)) dL_law_1158 ?_
  refine lv_aload_n hx hb dL_law_1159 rfl (lv_at hl 0 rfl) ?_
  refine lv_iload_n hx hb dL_law_1160 rfl (lv_at hl 3 rfl) ?_
  refine lv_iconst (v := 2) hx hb dL_law_1161 (by decide) ?_
  refine lv_iadd hx hb dL_law_1162 ?_
  refine va_sld hx hb hX hbl hbA hS (hin 2 (by decide)) dL_law_1163 ?_
  refine lv_aload_n hx hb dL_law_1164 rfl (lv_at hl 0 rfl) ?_
  refine lv_iload_n hx hb dL_law_1165 rfl (lv_at hl 3 rfl) ?_
  refine lv_iconst (v := 3) hx hb dL_law_1166 (by decide) ?_
  refine lv_iadd hx hb dL_law_1167 ?_
  refine va_sld hx hb hX hbl hbA hS (hin 3 (by decide)) dL_law_1168 ?_
  rcases x_sj4 (xs (x3 + (1 : Int32)).toNatClampNeg) with hj | hj | hj | hj
  · have hq : sq ((xs (x3 + (1 : Int32)).toNatClampNeg)).toNatClampNeg = sq 0 := x_sq hsq hj
    have hw := hSt_sheet v f g (xs (x3 + (1 : Int32)).toNatClampNeg) (xs (x3 + (2 : Int32)).toNatClampNeg) (xs (x3 + (3 : Int32)).toNatClampNeg) 0 hj hR
    have hc := c_X7_sheet l D G H.size x0 (a 0) (a 14) (a 28) (a 33) (a 38) (a 40) (a 44) sq (a 46) (v 0) (v (29 + 0)) (v (33 + 0)) (g 0) (xs (x3 + (1 : Int32)).toNatClampNeg) (xs (x3 + (2 : Int32)).toNatClampNeg) (xs (x3 + (3 : Int32)).toNatClampNeg) _ hw
    rw [hq] at hc
    refine x_cPi (va_runV (As := [.int (xs (x3 + (1 : Int32)).toNatClampNeg), .int (xs (x3 + (2 : Int32)).toNatClampNeg), .int (xs (x3 + (3 : Int32)).toNatClampNeg)]) (rest := []) ⟨hx, hb, hml, hown, hts⟩ hc (cwV 3 hts gL_law_X7_sheet rfl rfl rfl (by decide +kernel) ⟨(Nat.le_of_ble_eq_true rfl), (Nat.le_of_ble_eq_true rfl)⟩) (xM_pv (hP.sub [0, 45, 46, 47] rfl) hK (hD.sub [0, 45, 46, 47] (by decide) rfl) (va_recv hK hP (ci := 7) (q0 := 0) rfl rfl)) rfl rfl hl.1 rfl (lv_room (Nat.le_of_ble_eq_true rfl)) dL_law_1169 ⟨(Nat.le_of_ble_eq_true rfl), (Nat.le_of_ble_eq_true rfl)⟩) hP hD hS hA [0, 45, 46, 47] rfl (fun u => rfl) (fun u => (lawW G x0 y0 a b pq kq sq (va_up (va_up v (29 + 0) u.1) (33 + 0) u.2.1) f (va_up g 0 u.2.2))) (fun u => rfl) (fun r1 u H locs hw hP hD hS => ?_)
    obtain ⟨s_lane_1, s_size_1, s_items_1⟩ := u
    try dsimp only at hw
    replace hP : va_P D vwCl (lawW G x0 y0 a b pq kq sq (va_up (va_up v (29 + 0) s_lane_1) (33 + 0) s_size_1) f (va_up g 0 s_items_1)) H := hP
    replace hD : va_D (fun q : Nat => s.heap.size ≤ q) (lawW G x0 y0 a b pq kq sq (va_up (va_up v (29 + 0) s_lane_1) (33 + 0) s_size_1) f (va_up g 0 s_items_1)) := hD
    refine lv_aload_n hx hb dL_law_1172 rfl (lv_at hl 2 rfl) ?_
    refine lv_aload_n hx hb dL_law_1173 rfl (lv_at hl 0 rfl) ?_
    refine lv_iload_n hx hb dL_law_1174 rfl (lv_at hl 3 rfl) ?_
    refine lv_iconst (v := 1) hx hb dL_law_1175 (by decide) ?_
    refine lv_iadd hx hb dL_law_1176 ?_
    refine va_sld hx hb hX hbl hbA hS (hin 1 (by decide)) dL_law_1177 ?_
    refine lv_aload_n hx hb dL_law_1178 rfl (lv_at hl 0 rfl) ?_
    refine lv_iload_n hx hb dL_law_1179 rfl (lv_at hl 3 rfl) ?_
    refine lv_iconst (v := 2) hx hb dL_law_1180 (by decide) ?_
    refine lv_iadd hx hb dL_law_1181 ?_
    refine va_sld hx hb hX hbl hbA hS (hin 2 (by decide)) dL_law_1182 ?_
    refine lv_aload_n hx hb dL_law_1183 rfl (lv_at hl 0 rfl) ?_
    refine lv_iload_n hx hb dL_law_1184 rfl (lv_at hl 3 rfl) ?_
    refine lv_iconst (v := 3) hx hb dL_law_1185 (by decide) ?_
    refine lv_iadd hx hb dL_law_1186 ?_
    refine va_sld hx hb hX hbl hbA hS (hin 3 (by decide)) dL_law_1187 ?_
    have hc := c_X8_sheet l D G H.size y0 (b 0) (b 1) (b 2) (b 3) (b 4) (b 5) (b 6) (b 7) (b 8) (b 9) (b 10) (v 37) (v 38) (v 39) (v 40) (v 41) (v 42) (v 43) (f 26) (f 27) (g 4) (xs (x3 + (1 : Int32)).toNatClampNeg) (xs (x3 + (2 : Int32)).toNatClampNeg) (xs (x3 + (3 : Int32)).toNatClampNeg) _ hw
    refine x_cPi (va_runV (As := [.int (xs (x3 + (1 : Int32)).toNatClampNeg), .int (xs (x3 + (2 : Int32)).toNatClampNeg), .int (xs (x3 + (3 : Int32)).toNatClampNeg)]) (rest := [.int r1]) ⟨hx, hb, hml, hown, hts⟩ hc (cwV 3 hts gL_law_X8_sheet rfl rfl rfl (by decide +kernel) ⟨(Nat.le_of_ble_eq_true rfl), (Nat.le_of_ble_eq_true rfl)⟩) (xM_pv (hP.sub [54, 55, 56, 57] rfl) hK (hD.sub [54, 55, 56, 57] (by decide) rfl) (va_recv hK hP (ci := 8) (q0 := 54) rfl rfl)) rfl rfl hl.1 rfl (lv_room (Nat.le_of_ble_eq_true rfl)) dL_law_1188 ⟨(Nat.le_of_ble_eq_true rfl), (Nat.le_of_ble_eq_true rfl)⟩) hP hD hS hA [54, 55, 56, 57] rfl (fun u => rfl) (fun u => (lawW G x0 y0 a b pq kq sq (va_up (va_up v (29 + 0) s_lane_1) (33 + 0) s_size_1) (va_up (va_up f 26 u.1) 27 u.2.1) (va_up (va_up g 0 s_items_1) 4 u.2.2))) (fun u => rfl) (fun r2 u H locs hw hP hD hS => ?_)
    obtain ⟨m_lane_2, m_size_2, m_item_2⟩ := u
    try dsimp only at hw
    replace hP : va_P D vwCl (lawW G x0 y0 a b pq kq sq (va_up (va_up v (29 + 0) s_lane_1) (33 + 0) s_size_1) (va_up (va_up f 26 m_lane_2) 27 m_size_2) (va_up (va_up g 0 s_items_1) 4 m_item_2)) H := hP
    replace hD : va_D (fun q : Nat => s.heap.size ≤ q) (lawW G x0 y0 a b pq kq sq (va_up (va_up v (29 + 0) s_lane_1) (33 + 0) s_size_1) (va_up (va_up f 26 m_lane_2) 27 m_size_2) (va_up (va_up g 0 s_items_1) 4 m_item_2)) := hD
    refine lv_icmp_eq (tgt := 1365) hx hb dL_law_1191 (by decide) (fun _ => ?_) (fun c9 => absurd hw.1 c9)
    exact cont _ _ _ _ _ _ hw.2 hP hD hS hl
  · have hq : sq ((xs (x3 + (1 : Int32)).toNatClampNeg)).toNatClampNeg = sq 1 := x_sq hsq hj
    have hw := hSt_sheet v f g (xs (x3 + (1 : Int32)).toNatClampNeg) (xs (x3 + (2 : Int32)).toNatClampNeg) (xs (x3 + (3 : Int32)).toNatClampNeg) 1 hj hR
    have hc := c_X7_sheet l D G H.size x0 (a 0) (a 14) (a 28) (a 33) (a 38) (a 40) (a 44) sq (a 48) (v 0) (v (29 + 1)) (v (33 + 1)) (g 1) (xs (x3 + (1 : Int32)).toNatClampNeg) (xs (x3 + (2 : Int32)).toNatClampNeg) (xs (x3 + (3 : Int32)).toNatClampNeg) _ hw
    rw [hq] at hc
    refine x_cPi (va_runV (As := [.int (xs (x3 + (1 : Int32)).toNatClampNeg), .int (xs (x3 + (2 : Int32)).toNatClampNeg), .int (xs (x3 + (3 : Int32)).toNatClampNeg)]) (rest := []) ⟨hx, hb, hml, hown, hts⟩ hc (cwV 3 hts gL_law_X7_sheet rfl rfl rfl (by decide +kernel) ⟨(Nat.le_of_ble_eq_true rfl), (Nat.le_of_ble_eq_true rfl)⟩) (xM_pv (hP.sub [0, 45, 48, 49] rfl) hK (hD.sub [0, 45, 48, 49] (by decide) rfl) (va_recv hK hP (ci := 7) (q0 := 0) rfl rfl)) rfl rfl hl.1 rfl (lv_room (Nat.le_of_ble_eq_true rfl)) dL_law_1169 ⟨(Nat.le_of_ble_eq_true rfl), (Nat.le_of_ble_eq_true rfl)⟩) hP hD hS hA [0, 45, 48, 49] rfl (fun u => rfl) (fun u => (lawW G x0 y0 a b pq kq sq (va_up (va_up v (29 + 1) u.1) (33 + 1) u.2.1) f (va_up g 1 u.2.2))) (fun u => rfl) (fun r1 u H locs hw hP hD hS => ?_)
    obtain ⟨s_lane_1, s_size_1, s_items_1⟩ := u
    try dsimp only at hw
    replace hP : va_P D vwCl (lawW G x0 y0 a b pq kq sq (va_up (va_up v (29 + 1) s_lane_1) (33 + 1) s_size_1) f (va_up g 1 s_items_1)) H := hP
    replace hD : va_D (fun q : Nat => s.heap.size ≤ q) (lawW G x0 y0 a b pq kq sq (va_up (va_up v (29 + 1) s_lane_1) (33 + 1) s_size_1) f (va_up g 1 s_items_1)) := hD
    refine lv_aload_n hx hb dL_law_1172 rfl (lv_at hl 2 rfl) ?_
    refine lv_aload_n hx hb dL_law_1173 rfl (lv_at hl 0 rfl) ?_
    refine lv_iload_n hx hb dL_law_1174 rfl (lv_at hl 3 rfl) ?_
    refine lv_iconst (v := 1) hx hb dL_law_1175 (by decide) ?_
    refine lv_iadd hx hb dL_law_1176 ?_
    refine va_sld hx hb hX hbl hbA hS (hin 1 (by decide)) dL_law_1177 ?_
    refine lv_aload_n hx hb dL_law_1178 rfl (lv_at hl 0 rfl) ?_
    refine lv_iload_n hx hb dL_law_1179 rfl (lv_at hl 3 rfl) ?_
    refine lv_iconst (v := 2) hx hb dL_law_1180 (by decide) ?_
    refine lv_iadd hx hb dL_law_1181 ?_
    refine va_sld hx hb hX hbl hbA hS (hin 2 (by decide)) dL_law_1182 ?_
    refine lv_aload_n hx hb dL_law_1183 rfl (lv_at hl 0 rfl) ?_
    refine lv_iload_n hx hb dL_law_1184 rfl (lv_at hl 3 rfl) ?_
    refine lv_iconst (v := 3) hx hb dL_law_1185 (by decide) ?_
    refine lv_iadd hx hb dL_law_1186 ?_
    refine va_sld hx hb hX hbl hbA hS (hin 3 (by decide)) dL_law_1187 ?_
    have hc := c_X8_sheet l D G H.size y0 (b 0) (b 1) (b 2) (b 3) (b 4) (b 5) (b 6) (b 7) (b 8) (b 9) (b 10) (v 37) (v 38) (v 39) (v 40) (v 41) (v 42) (v 43) (f 26) (f 27) (g 4) (xs (x3 + (1 : Int32)).toNatClampNeg) (xs (x3 + (2 : Int32)).toNatClampNeg) (xs (x3 + (3 : Int32)).toNatClampNeg) _ hw
    refine x_cPi (va_runV (As := [.int (xs (x3 + (1 : Int32)).toNatClampNeg), .int (xs (x3 + (2 : Int32)).toNatClampNeg), .int (xs (x3 + (3 : Int32)).toNatClampNeg)]) (rest := [.int r1]) ⟨hx, hb, hml, hown, hts⟩ hc (cwV 3 hts gL_law_X8_sheet rfl rfl rfl (by decide +kernel) ⟨(Nat.le_of_ble_eq_true rfl), (Nat.le_of_ble_eq_true rfl)⟩) (xM_pv (hP.sub [54, 55, 56, 57] rfl) hK (hD.sub [54, 55, 56, 57] (by decide) rfl) (va_recv hK hP (ci := 8) (q0 := 54) rfl rfl)) rfl rfl hl.1 rfl (lv_room (Nat.le_of_ble_eq_true rfl)) dL_law_1188 ⟨(Nat.le_of_ble_eq_true rfl), (Nat.le_of_ble_eq_true rfl)⟩) hP hD hS hA [54, 55, 56, 57] rfl (fun u => rfl) (fun u => (lawW G x0 y0 a b pq kq sq (va_up (va_up v (29 + 1) s_lane_1) (33 + 1) s_size_1) (va_up (va_up f 26 u.1) 27 u.2.1) (va_up (va_up g 1 s_items_1) 4 u.2.2))) (fun u => rfl) (fun r2 u H locs hw hP hD hS => ?_)
    obtain ⟨m_lane_2, m_size_2, m_item_2⟩ := u
    try dsimp only at hw
    replace hP : va_P D vwCl (lawW G x0 y0 a b pq kq sq (va_up (va_up v (29 + 1) s_lane_1) (33 + 1) s_size_1) (va_up (va_up f 26 m_lane_2) 27 m_size_2) (va_up (va_up g 1 s_items_1) 4 m_item_2)) H := hP
    replace hD : va_D (fun q : Nat => s.heap.size ≤ q) (lawW G x0 y0 a b pq kq sq (va_up (va_up v (29 + 1) s_lane_1) (33 + 1) s_size_1) (va_up (va_up f 26 m_lane_2) 27 m_size_2) (va_up (va_up g 1 s_items_1) 4 m_item_2)) := hD
    refine lv_icmp_eq (tgt := 1365) hx hb dL_law_1191 (by decide) (fun _ => ?_) (fun c9 => absurd hw.1 c9)
    exact cont _ _ _ _ _ _ hw.2 hP hD hS hl
  · have hq : sq ((xs (x3 + (1 : Int32)).toNatClampNeg)).toNatClampNeg = sq 2 := x_sq hsq hj
    have hw := hSt_sheet v f g (xs (x3 + (1 : Int32)).toNatClampNeg) (xs (x3 + (2 : Int32)).toNatClampNeg) (xs (x3 + (3 : Int32)).toNatClampNeg) 2 hj hR
    have hc := c_X7_sheet l D G H.size x0 (a 0) (a 14) (a 28) (a 33) (a 38) (a 40) (a 44) sq (a 50) (v 0) (v (29 + 2)) (v (33 + 2)) (g 2) (xs (x3 + (1 : Int32)).toNatClampNeg) (xs (x3 + (2 : Int32)).toNatClampNeg) (xs (x3 + (3 : Int32)).toNatClampNeg) _ hw
    rw [hq] at hc
    refine x_cPi (va_runV (As := [.int (xs (x3 + (1 : Int32)).toNatClampNeg), .int (xs (x3 + (2 : Int32)).toNatClampNeg), .int (xs (x3 + (3 : Int32)).toNatClampNeg)]) (rest := []) ⟨hx, hb, hml, hown, hts⟩ hc (cwV 3 hts gL_law_X7_sheet rfl rfl rfl (by decide +kernel) ⟨(Nat.le_of_ble_eq_true rfl), (Nat.le_of_ble_eq_true rfl)⟩) (xM_pv (hP.sub [0, 45, 50, 51] rfl) hK (hD.sub [0, 45, 50, 51] (by decide) rfl) (va_recv hK hP (ci := 7) (q0 := 0) rfl rfl)) rfl rfl hl.1 rfl (lv_room (Nat.le_of_ble_eq_true rfl)) dL_law_1169 ⟨(Nat.le_of_ble_eq_true rfl), (Nat.le_of_ble_eq_true rfl)⟩) hP hD hS hA [0, 45, 50, 51] rfl (fun u => rfl) (fun u => (lawW G x0 y0 a b pq kq sq (va_up (va_up v (29 + 2) u.1) (33 + 2) u.2.1) f (va_up g 2 u.2.2))) (fun u => rfl) (fun r1 u H locs hw hP hD hS => ?_)
    obtain ⟨s_lane_1, s_size_1, s_items_1⟩ := u
    try dsimp only at hw
    replace hP : va_P D vwCl (lawW G x0 y0 a b pq kq sq (va_up (va_up v (29 + 2) s_lane_1) (33 + 2) s_size_1) f (va_up g 2 s_items_1)) H := hP
    replace hD : va_D (fun q : Nat => s.heap.size ≤ q) (lawW G x0 y0 a b pq kq sq (va_up (va_up v (29 + 2) s_lane_1) (33 + 2) s_size_1) f (va_up g 2 s_items_1)) := hD
    refine lv_aload_n hx hb dL_law_1172 rfl (lv_at hl 2 rfl) ?_
    refine lv_aload_n hx hb dL_law_1173 rfl (lv_at hl 0 rfl) ?_
    refine lv_iload_n hx hb dL_law_1174 rfl (lv_at hl 3 rfl) ?_
    refine lv_iconst (v := 1) hx hb dL_law_1175 (by decide) ?_
    refine lv_iadd hx hb dL_law_1176 ?_
    refine va_sld hx hb hX hbl hbA hS (hin 1 (by decide)) dL_law_1177 ?_
    refine lv_aload_n hx hb dL_law_1178 rfl (lv_at hl 0 rfl) ?_
    refine lv_iload_n hx hb dL_law_1179 rfl (lv_at hl 3 rfl) ?_
    refine lv_iconst (v := 2) hx hb dL_law_1180 (by decide) ?_
    refine lv_iadd hx hb dL_law_1181 ?_
    refine va_sld hx hb hX hbl hbA hS (hin 2 (by decide)) dL_law_1182 ?_
    refine lv_aload_n hx hb dL_law_1183 rfl (lv_at hl 0 rfl) ?_
    refine lv_iload_n hx hb dL_law_1184 rfl (lv_at hl 3 rfl) ?_
    refine lv_iconst (v := 3) hx hb dL_law_1185 (by decide) ?_
    refine lv_iadd hx hb dL_law_1186 ?_
    refine va_sld hx hb hX hbl hbA hS (hin 3 (by decide)) dL_law_1187 ?_
    have hc := c_X8_sheet l D G H.size y0 (b 0) (b 1) (b 2) (b 3) (b 4) (b 5) (b 6) (b 7) (b 8) (b 9) (b 10) (v 37) (v 38) (v 39) (v 40) (v 41) (v 42) (v 43) (f 26) (f 27) (g 4) (xs (x3 + (1 : Int32)).toNatClampNeg) (xs (x3 + (2 : Int32)).toNatClampNeg) (xs (x3 + (3 : Int32)).toNatClampNeg) _ hw
    refine x_cPi (va_runV (As := [.int (xs (x3 + (1 : Int32)).toNatClampNeg), .int (xs (x3 + (2 : Int32)).toNatClampNeg), .int (xs (x3 + (3 : Int32)).toNatClampNeg)]) (rest := [.int r1]) ⟨hx, hb, hml, hown, hts⟩ hc (cwV 3 hts gL_law_X8_sheet rfl rfl rfl (by decide +kernel) ⟨(Nat.le_of_ble_eq_true rfl), (Nat.le_of_ble_eq_true rfl)⟩) (xM_pv (hP.sub [54, 55, 56, 57] rfl) hK (hD.sub [54, 55, 56, 57] (by decide) rfl) (va_recv hK hP (ci := 8) (q0 := 54) rfl rfl)) rfl rfl hl.1 rfl (lv_room (Nat.le_of_ble_eq_true rfl)) dL_law_1188 ⟨(Nat.le_of_ble_eq_true rfl), (Nat.le_of_ble_eq_true rfl)⟩) hP hD hS hA [54, 55, 56, 57] rfl (fun u => rfl) (fun u => (lawW G x0 y0 a b pq kq sq (va_up (va_up v (29 + 2) s_lane_1) (33 + 2) s_size_1) (va_up (va_up f 26 u.1) 27 u.2.1) (va_up (va_up g 2 s_items_1) 4 u.2.2))) (fun u => rfl) (fun r2 u H locs hw hP hD hS => ?_)
    obtain ⟨m_lane_2, m_size_2, m_item_2⟩ := u
    try dsimp only at hw
    replace hP : va_P D vwCl (lawW G x0 y0 a b pq kq sq (va_up (va_up v (29 + 2) s_lane_1) (33 + 2) s_size_1) (va_up (va_up f 26 m_lane_2) 27 m_size_2) (va_up (va_up g 2 s_items_1) 4 m_item_2)) H := hP
    replace hD : va_D (fun q : Nat => s.heap.size ≤ q) (lawW G x0 y0 a b pq kq sq (va_up (va_up v (29 + 2) s_lane_1) (33 + 2) s_size_1) (va_up (va_up f 26 m_lane_2) 27 m_size_2) (va_up (va_up g 2 s_items_1) 4 m_item_2)) := hD
    refine lv_icmp_eq (tgt := 1365) hx hb dL_law_1191 (by decide) (fun _ => ?_) (fun c9 => absurd hw.1 c9)
    exact cont _ _ _ _ _ _ hw.2 hP hD hS hl
  · have hq : sq ((xs (x3 + (1 : Int32)).toNatClampNeg)).toNatClampNeg = sq 3 := x_sq hsq hj
    have hw := hSt_sheet v f g (xs (x3 + (1 : Int32)).toNatClampNeg) (xs (x3 + (2 : Int32)).toNatClampNeg) (xs (x3 + (3 : Int32)).toNatClampNeg) 3 hj hR
    have hc := c_X7_sheet l D G H.size x0 (a 0) (a 14) (a 28) (a 33) (a 38) (a 40) (a 44) sq (a 52) (v 0) (v (29 + 3)) (v (33 + 3)) (g 3) (xs (x3 + (1 : Int32)).toNatClampNeg) (xs (x3 + (2 : Int32)).toNatClampNeg) (xs (x3 + (3 : Int32)).toNatClampNeg) _ hw
    rw [hq] at hc
    refine x_cPi (va_runV (As := [.int (xs (x3 + (1 : Int32)).toNatClampNeg), .int (xs (x3 + (2 : Int32)).toNatClampNeg), .int (xs (x3 + (3 : Int32)).toNatClampNeg)]) (rest := []) ⟨hx, hb, hml, hown, hts⟩ hc (cwV 3 hts gL_law_X7_sheet rfl rfl rfl (by decide +kernel) ⟨(Nat.le_of_ble_eq_true rfl), (Nat.le_of_ble_eq_true rfl)⟩) (xM_pv (hP.sub [0, 45, 52, 53] rfl) hK (hD.sub [0, 45, 52, 53] (by decide) rfl) (va_recv hK hP (ci := 7) (q0 := 0) rfl rfl)) rfl rfl hl.1 rfl (lv_room (Nat.le_of_ble_eq_true rfl)) dL_law_1169 ⟨(Nat.le_of_ble_eq_true rfl), (Nat.le_of_ble_eq_true rfl)⟩) hP hD hS hA [0, 45, 52, 53] rfl (fun u => rfl) (fun u => (lawW G x0 y0 a b pq kq sq (va_up (va_up v (29 + 3) u.1) (33 + 3) u.2.1) f (va_up g 3 u.2.2))) (fun u => rfl) (fun r1 u H locs hw hP hD hS => ?_)
    obtain ⟨s_lane_1, s_size_1, s_items_1⟩ := u
    try dsimp only at hw
    replace hP : va_P D vwCl (lawW G x0 y0 a b pq kq sq (va_up (va_up v (29 + 3) s_lane_1) (33 + 3) s_size_1) f (va_up g 3 s_items_1)) H := hP
    replace hD : va_D (fun q : Nat => s.heap.size ≤ q) (lawW G x0 y0 a b pq kq sq (va_up (va_up v (29 + 3) s_lane_1) (33 + 3) s_size_1) f (va_up g 3 s_items_1)) := hD
    refine lv_aload_n hx hb dL_law_1172 rfl (lv_at hl 2 rfl) ?_
    refine lv_aload_n hx hb dL_law_1173 rfl (lv_at hl 0 rfl) ?_
    refine lv_iload_n hx hb dL_law_1174 rfl (lv_at hl 3 rfl) ?_
    refine lv_iconst (v := 1) hx hb dL_law_1175 (by decide) ?_
    refine lv_iadd hx hb dL_law_1176 ?_
    refine va_sld hx hb hX hbl hbA hS (hin 1 (by decide)) dL_law_1177 ?_
    refine lv_aload_n hx hb dL_law_1178 rfl (lv_at hl 0 rfl) ?_
    refine lv_iload_n hx hb dL_law_1179 rfl (lv_at hl 3 rfl) ?_
    refine lv_iconst (v := 2) hx hb dL_law_1180 (by decide) ?_
    refine lv_iadd hx hb dL_law_1181 ?_
    refine va_sld hx hb hX hbl hbA hS (hin 2 (by decide)) dL_law_1182 ?_
    refine lv_aload_n hx hb dL_law_1183 rfl (lv_at hl 0 rfl) ?_
    refine lv_iload_n hx hb dL_law_1184 rfl (lv_at hl 3 rfl) ?_
    refine lv_iconst (v := 3) hx hb dL_law_1185 (by decide) ?_
    refine lv_iadd hx hb dL_law_1186 ?_
    refine va_sld hx hb hX hbl hbA hS (hin 3 (by decide)) dL_law_1187 ?_
    have hc := c_X8_sheet l D G H.size y0 (b 0) (b 1) (b 2) (b 3) (b 4) (b 5) (b 6) (b 7) (b 8) (b 9) (b 10) (v 37) (v 38) (v 39) (v 40) (v 41) (v 42) (v 43) (f 26) (f 27) (g 4) (xs (x3 + (1 : Int32)).toNatClampNeg) (xs (x3 + (2 : Int32)).toNatClampNeg) (xs (x3 + (3 : Int32)).toNatClampNeg) _ hw
    refine x_cPi (va_runV (As := [.int (xs (x3 + (1 : Int32)).toNatClampNeg), .int (xs (x3 + (2 : Int32)).toNatClampNeg), .int (xs (x3 + (3 : Int32)).toNatClampNeg)]) (rest := [.int r1]) ⟨hx, hb, hml, hown, hts⟩ hc (cwV 3 hts gL_law_X8_sheet rfl rfl rfl (by decide +kernel) ⟨(Nat.le_of_ble_eq_true rfl), (Nat.le_of_ble_eq_true rfl)⟩) (xM_pv (hP.sub [54, 55, 56, 57] rfl) hK (hD.sub [54, 55, 56, 57] (by decide) rfl) (va_recv hK hP (ci := 8) (q0 := 54) rfl rfl)) rfl rfl hl.1 rfl (lv_room (Nat.le_of_ble_eq_true rfl)) dL_law_1188 ⟨(Nat.le_of_ble_eq_true rfl), (Nat.le_of_ble_eq_true rfl)⟩) hP hD hS hA [54, 55, 56, 57] rfl (fun u => rfl) (fun u => (lawW G x0 y0 a b pq kq sq (va_up (va_up v (29 + 3) s_lane_1) (33 + 3) s_size_1) (va_up (va_up f 26 u.1) 27 u.2.1) (va_up (va_up g 3 s_items_1) 4 u.2.2))) (fun u => rfl) (fun r2 u H locs hw hP hD hS => ?_)
    obtain ⟨m_lane_2, m_size_2, m_item_2⟩ := u
    try dsimp only at hw
    replace hP : va_P D vwCl (lawW G x0 y0 a b pq kq sq (va_up (va_up v (29 + 3) s_lane_1) (33 + 3) s_size_1) (va_up (va_up f 26 m_lane_2) 27 m_size_2) (va_up (va_up g 3 s_items_1) 4 m_item_2)) H := hP
    replace hD : va_D (fun q : Nat => s.heap.size ≤ q) (lawW G x0 y0 a b pq kq sq (va_up (va_up v (29 + 3) s_lane_1) (33 + 3) s_size_1) (va_up (va_up f 26 m_lane_2) 27 m_size_2) (va_up (va_up g 3 s_items_1) 4 m_item_2)) := hD
    refine lv_icmp_eq (tgt := 1365) hx hb dL_law_1191 (by decide) (fun _ => ?_) (fun c9 => absurd hw.1 c9)
    exact cont _ _ _ _ _ _ hw.2 hP hD hS hl
set_option maxHeartbeats 8000000 in
set_option maxRecDepth 100000 in
theorem lawc_drop {p : Program} {l : Launch} {e : Env} {s : State} {m : MethodId} {below : List Frame} {meth : Method} {c : Code} {D : va_G} {G : Nat → ClassId} {x0 y0 : Nat} {a b pq kq sq : Nat → Nat} {b0 L : Nat} {xs : Nat → Int32} (C0 : lw_At p s m meth c b0 L xs) (R : ((Nat → Int32) → (Nat → Nat → Int32) → (Nat → Nat → Int64) → Prop)) (hSt_drop : Step_drop R) (x3 : Int32) (hin : ∀ k : Nat, k ≤ 8 → vp_in (x3 + Int32.ofNat k) L) (hsq : ∀ k, 4 ≤ k → sq k = sq 0) (v : Nat → Int32) (f : Nat → Nat → Int32) (g : Nat → Nat → Int64) (hR : R v f g) (H : Heap) (locs : List Loc) (ls : Array Slot) (hK : va_K D vwCl (tyL G) s) (hP : va_P D vwCl (lawW G x0 y0 a b pq kq sq v f g) H) (hD : va_D (fun q : Nat => s.heap.size ≤ q) (lawW G x0 y0 a b pq kq sq v f g)) (hS : va_S (fun q : Nat => s.heap.size ≤ q) s.heap H locs) (hl : lv_has ls 4 [(0, .ref b0), (1, .ref x0), (2, .ref y0), (3, .int x3)]) (cont : ∀ (v : Nat → Int32) (f : Nat → Nat → Int32) (g : Nat → Nat → Int64) (H : Heap) (locs : List Loc) (ls : Array Slot), R v f g → va_P D vwCl (lawW G x0 y0 a b pq kq sq v f g) H → va_D (fun q : Nat => s.heap.size ≤ q) (lawW G x0 y0 a b pq kq sq v f g) → va_S (fun q : Nat => s.heap.size ≤ q) s.heap H locs → lv_has ls 4 [(0, .ref b0), (1, .ref x0), (2, .ref y0), (3, .int x3)] → W p l e room_1 s m #[Value.ref b0] below meth c H locs 66 2290 (lw_Z below #[Value.ref b0] s) (F0 m 1365 ls [])) : W p l e room_1 s m #[Value.ref b0] below meth c H locs 66 2290 (lw_Z below #[Value.ref b0] s) (F0 m 1196 ls []) := by
  obtain ⟨hx, hb, hr, hml, hown, hts0, hX, hbl, hlocks, hgv⟩ := id C0
  have hb : c.code = cL_law := hb
  have hown : s.vm.findClass RL = some m.cls := hown
  have hts : ∀ w ∈ wsL_law, w.before #[Value.ref b0] s = true := fun w h => hts0 w (wsL_law_in w h)
  have hA : ∀ q : Nat, s.heap.size ≤ q → (fun q : Nat => s.heap.size ≤ q) q := fun _ h => h
  have hbA : ¬ (fun q : Nat => s.heap.size ≤ q) b0 := Nat.not_le.mpr hbl
  refine lv_aload_n hx hb dL_law_1196 rfl (lv_at hl 1 rfl) ?_
  refine lv_aload_n hx hb dL_law_1197 rfl (lv_at hl 0 rfl) ?_
  refine lv_iload_n hx hb dL_law_1198 rfl (lv_at hl 3 rfl) ?_
  refine lv_iconst (v := 1) hx hb dL_law_1199 (by decide) ?_
  refine lv_iadd hx hb dL_law_1200 ?_
  refine va_sld hx hb hX hbl hbA hS (hin 1 (by decide)) dL_law_1201 ?_
  rcases x_sj4 (xs (x3 + (1 : Int32)).toNatClampNeg) with hj | hj | hj | hj
  · have hq : sq ((xs (x3 + (1 : Int32)).toNatClampNeg)).toNatClampNeg = sq 0 := x_sq hsq hj
    have hw := hSt_drop v f g (xs (x3 + (1 : Int32)).toNatClampNeg) 0 hj hR
    have hc := c_X7_drop l D G H.size x0 (a 0) (a 14) (a 28) (a 33) (a 38) (a 40) (a 44) sq (a 46) (v 0) (v (29 + 0)) (v (33 + 0)) (xs (x3 + (1 : Int32)).toNatClampNeg) _ hw
    rw [hq] at hc
    refine x_cPi (va_runV (As := [.int (xs (x3 + (1 : Int32)).toNatClampNeg)]) (rest := []) ⟨hx, hb, hml, hown, hts⟩ hc (cwV 1 hts gL_law_X7_drop rfl rfl rfl (by decide +kernel) ⟨(Nat.le_of_ble_eq_true rfl), (Nat.le_of_ble_eq_true rfl)⟩) (xM_pv (hP.sub [0, 45, 46] rfl) hK (hD.sub [0, 45, 46] (by decide) rfl) (va_recv hK hP (ci := 7) (q0 := 0) rfl rfl)) rfl rfl hl.1 rfl (lv_room (Nat.le_of_ble_eq_true rfl)) dL_law_1202 ⟨(Nat.le_of_ble_eq_true rfl), (Nat.le_of_ble_eq_true rfl)⟩) hP hD hS hA [0, 45, 46] rfl (fun u => rfl) (fun u => (lawW G x0 y0 a b pq kq sq (va_up v (33 + 0) u) f g)) (fun u => rfl) (fun r1 u H locs hw hP hD hS => ?_)
    obtain ⟨s_size_1, rfl⟩ : ∃ z, z = u := ⟨_, rfl⟩
    try dsimp only at hw
    replace hP : va_P D vwCl (lawW G x0 y0 a b pq kq sq (va_up v (33 + 0) s_size_1) f g) H := hP
    replace hD : va_D (fun q : Nat => s.heap.size ≤ q) (lawW G x0 y0 a b pq kq sq (va_up v (33 + 0) s_size_1) f g) := hD
    refine lv_aload_n hx hb dL_law_1205 rfl (lv_at hl 2 rfl) ?_
    refine lv_aload_n hx hb dL_law_1206 rfl (lv_at hl 0 rfl) ?_
    refine lv_iload_n hx hb dL_law_1207 rfl (lv_at hl 3 rfl) ?_
    refine lv_iconst (v := 1) hx hb dL_law_1208 (by decide) ?_
    refine lv_iadd hx hb dL_law_1209 ?_
    refine va_sld hx hb hX hbl hbA hS (hin 1 (by decide)) dL_law_1210 ?_
    have hc := c_X8_drop l D G H.size y0 (b 0) (b 1) (b 2) (b 3) (b 4) (b 5) (b 6) (b 7) (b 8) (b 9) (b 10) (v 37) (v 38) (v 39) (v 40) (v 41) (v 42) (v 43) (f 26) (f 27) (xs (x3 + (1 : Int32)).toNatClampNeg) _ hw
    refine x_cPi (va_runV (As := [.int (xs (x3 + (1 : Int32)).toNatClampNeg)]) (rest := [.int r1]) ⟨hx, hb, hml, hown, hts⟩ hc (cwV 1 hts gL_law_X8_drop rfl rfl rfl (by decide +kernel) ⟨(Nat.le_of_ble_eq_true rfl), (Nat.le_of_ble_eq_true rfl)⟩) (xM_pv (hP.sub [54, 55, 56] rfl) hK (hD.sub [54, 55, 56] (by decide) rfl) (va_recv hK hP (ci := 8) (q0 := 54) rfl rfl)) rfl rfl hl.1 rfl (lv_room (Nat.le_of_ble_eq_true rfl)) dL_law_1211 ⟨(Nat.le_of_ble_eq_true rfl), (Nat.le_of_ble_eq_true rfl)⟩) hP hD hS hA [54, 55, 56] rfl (fun u => rfl) (fun u => (lawW G x0 y0 a b pq kq sq (va_up v (33 + 0) s_size_1) (va_up f 26 u) g)) (fun u => rfl) (fun r2 u H locs hw hP hD hS => ?_)
    obtain ⟨m_lane_2, rfl⟩ : ∃ z, z = u := ⟨_, rfl⟩
    try dsimp only at hw
    replace hP : va_P D vwCl (lawW G x0 y0 a b pq kq sq (va_up v (33 + 0) s_size_1) (va_up f 26 m_lane_2) g) H := hP
    replace hD : va_D (fun q : Nat => s.heap.size ≤ q) (lawW G x0 y0 a b pq kq sq (va_up v (33 + 0) s_size_1) (va_up f 26 m_lane_2) g) := hD
    refine lv_icmp_eq (tgt := 1365) hx hb dL_law_1214 (by decide) (fun _ => ?_) (fun c9 => absurd hw.1 c9)
    exact cont _ _ _ _ _ _ hw.2 hP hD hS hl
  · have hq : sq ((xs (x3 + (1 : Int32)).toNatClampNeg)).toNatClampNeg = sq 1 := x_sq hsq hj
    have hw := hSt_drop v f g (xs (x3 + (1 : Int32)).toNatClampNeg) 1 hj hR
    have hc := c_X7_drop l D G H.size x0 (a 0) (a 14) (a 28) (a 33) (a 38) (a 40) (a 44) sq (a 48) (v 0) (v (29 + 1)) (v (33 + 1)) (xs (x3 + (1 : Int32)).toNatClampNeg) _ hw
    rw [hq] at hc
    refine x_cPi (va_runV (As := [.int (xs (x3 + (1 : Int32)).toNatClampNeg)]) (rest := []) ⟨hx, hb, hml, hown, hts⟩ hc (cwV 1 hts gL_law_X7_drop rfl rfl rfl (by decide +kernel) ⟨(Nat.le_of_ble_eq_true rfl), (Nat.le_of_ble_eq_true rfl)⟩) (xM_pv (hP.sub [0, 45, 48] rfl) hK (hD.sub [0, 45, 48] (by decide) rfl) (va_recv hK hP (ci := 7) (q0 := 0) rfl rfl)) rfl rfl hl.1 rfl (lv_room (Nat.le_of_ble_eq_true rfl)) dL_law_1202 ⟨(Nat.le_of_ble_eq_true rfl), (Nat.le_of_ble_eq_true rfl)⟩) hP hD hS hA [0, 45, 48] rfl (fun u => rfl) (fun u => (lawW G x0 y0 a b pq kq sq (va_up v (33 + 1) u) f g)) (fun u => rfl) (fun r1 u H locs hw hP hD hS => ?_)
    obtain ⟨s_size_1, rfl⟩ : ∃ z, z = u := ⟨_, rfl⟩
    try dsimp only at hw
    replace hP : va_P D vwCl (lawW G x0 y0 a b pq kq sq (va_up v (33 + 1) s_size_1) f g) H := hP
    replace hD : va_D (fun q : Nat => s.heap.size ≤ q) (lawW G x0 y0 a b pq kq sq (va_up v (33 + 1) s_size_1) f g) := hD
    refine lv_aload_n hx hb dL_law_1205 rfl (lv_at hl 2 rfl) ?_
    refine lv_aload_n hx hb dL_law_1206 rfl (lv_at hl 0 rfl) ?_
    refine lv_iload_n hx hb dL_law_1207 rfl (lv_at hl 3 rfl) ?_
    refine lv_iconst (v := 1) hx hb dL_law_1208 (by decide) ?_
    refine lv_iadd hx hb dL_law_1209 ?_
    refine va_sld hx hb hX hbl hbA hS (hin 1 (by decide)) dL_law_1210 ?_
    have hc := c_X8_drop l D G H.size y0 (b 0) (b 1) (b 2) (b 3) (b 4) (b 5) (b 6) (b 7) (b 8) (b 9) (b 10) (v 37) (v 38) (v 39) (v 40) (v 41) (v 42) (v 43) (f 26) (f 27) (xs (x3 + (1 : Int32)).toNatClampNeg) _ hw
    refine x_cPi (va_runV (As := [.int (xs (x3 + (1 : Int32)).toNatClampNeg)]) (rest := [.int r1]) ⟨hx, hb, hml, hown, hts⟩ hc (cwV 1 hts gL_law_X8_drop rfl rfl rfl (by decide +kernel) ⟨(Nat.le_of_ble_eq_true rfl), (Nat.le_of_ble_eq_true rfl)⟩) (xM_pv (hP.sub [54, 55, 56] rfl) hK (hD.sub [54, 55, 56] (by decide) rfl) (va_recv hK hP (ci := 8) (q0 := 54) rfl rfl)) rfl rfl hl.1 rfl (lv_room (Nat.le_of_ble_eq_true rfl)) dL_law_1211 ⟨(Nat.le_of_ble_eq_true rfl), (Nat.le_of_ble_eq_true rfl)⟩) hP hD hS hA [54, 55, 56] rfl (fun u => rfl) (fun u => (lawW G x0 y0 a b pq kq sq (va_up v (33 + 1) s_size_1) (va_up f 26 u) g)) (fun u => rfl) (fun r2 u H locs hw hP hD hS => ?_)
    obtain ⟨m_lane_2, rfl⟩ : ∃ z, z = u := ⟨_, rfl⟩
    try dsimp only at hw
    replace hP : va_P D vwCl (lawW G x0 y0 a b pq kq sq (va_up v (33 + 1) s_size_1) (va_up f 26 m_lane_2) g) H := hP
    replace hD : va_D (fun q : Nat => s.heap.size ≤ q) (lawW G x0 y0 a b pq kq sq (va_up v (33 + 1) s_size_1) (va_up f 26 m_lane_2) g) := hD
    refine lv_icmp_eq (tgt := 1365) hx hb dL_law_1214 (by decide) (fun _ => ?_) (fun c9 => absurd hw.1 c9)
    exact cont _ _ _ _ _ _ hw.2 hP hD hS hl
  · have hq : sq ((xs (x3 + (1 : Int32)).toNatClampNeg)).toNatClampNeg = sq 2 := x_sq hsq hj
    have hw := hSt_drop v f g (xs (x3 + (1 : Int32)).toNatClampNeg) 2 hj hR
    have hc := c_X7_drop l D G H.size x0 (a 0) (a 14) (a 28) (a 33) (a 38) (a 40) (a 44) sq (a 50) (v 0) (v (29 + 2)) (v (33 + 2)) (xs (x3 + (1 : Int32)).toNatClampNeg) _ hw
    rw [hq] at hc
    refine x_cPi (va_runV (As := [.int (xs (x3 + (1 : Int32)).toNatClampNeg)]) (rest := []) ⟨hx, hb, hml, hown, hts⟩ hc (cwV 1 hts gL_law_X7_drop rfl rfl rfl (by decide +kernel) ⟨(Nat.le_of_ble_eq_true rfl), (Nat.le_of_ble_eq_true rfl)⟩) (xM_pv (hP.sub [0, 45, 50] rfl) hK (hD.sub [0, 45, 50] (by decide) rfl) (va_recv hK hP (ci := 7) (q0 := 0) rfl rfl)) rfl rfl hl.1 rfl (lv_room (Nat.le_of_ble_eq_true rfl)) dL_law_1202 ⟨(Nat.le_of_ble_eq_true rfl), (Nat.le_of_ble_eq_true rfl)⟩) hP hD hS hA [0, 45, 50] rfl (fun u => rfl) (fun u => (lawW G x0 y0 a b pq kq sq (va_up v (33 + 2) u) f g)) (fun u => rfl) (fun r1 u H locs hw hP hD hS => ?_)
    obtain ⟨s_size_1, rfl⟩ : ∃ z, z = u := ⟨_, rfl⟩
    try dsimp only at hw
    replace hP : va_P D vwCl (lawW G x0 y0 a b pq kq sq (va_up v (33 + 2) s_size_1) f g) H := hP
    replace hD : va_D (fun q : Nat => s.heap.size ≤ q) (lawW G x0 y0 a b pq kq sq (va_up v (33 + 2) s_size_1) f g) := hD
    refine lv_aload_n hx hb dL_law_1205 rfl (lv_at hl 2 rfl) ?_
    refine lv_aload_n hx hb dL_law_1206 rfl (lv_at hl 0 rfl) ?_
    refine lv_iload_n hx hb dL_law_1207 rfl (lv_at hl 3 rfl) ?_
    refine lv_iconst (v := 1) hx hb dL_law_1208 (by decide) ?_
    refine lv_iadd hx hb dL_law_1209 ?_
    refine va_sld hx hb hX hbl hbA hS (hin 1 (by decide)) dL_law_1210 ?_
    have hc := c_X8_drop l D G H.size y0 (b 0) (b 1) (b 2) (b 3) (b 4) (b 5) (b 6) (b 7) (b 8) (b 9) (b 10) (v 37) (v 38) (v 39) (v 40) (v 41) (v 42) (v 43) (f 26) (f 27) (xs (x3 + (1 : Int32)).toNatClampNeg) _ hw
    refine x_cPi (va_runV (As := [.int (xs (x3 + (1 : Int32)).toNatClampNeg)]) (rest := [.int r1]) ⟨hx, hb, hml, hown, hts⟩ hc (cwV 1 hts gL_law_X8_drop rfl rfl rfl (by decide +kernel) ⟨(Nat.le_of_ble_eq_true rfl), (Nat.le_of_ble_eq_true rfl)⟩) (xM_pv (hP.sub [54, 55, 56] rfl) hK (hD.sub [54, 55, 56] (by decide) rfl) (va_recv hK hP (ci := 8) (q0 := 54) rfl rfl)) rfl rfl hl.1 rfl (lv_room (Nat.le_of_ble_eq_true rfl)) dL_law_1211 ⟨(Nat.le_of_ble_eq_true rfl), (Nat.le_of_ble_eq_true rfl)⟩) hP hD hS hA [54, 55, 56] rfl (fun u => rfl) (fun u => (lawW G x0 y0 a b pq kq sq (va_up v (33 + 2) s_size_1) (va_up f 26 u) g)) (fun u => rfl) (fun r2 u H locs hw hP hD hS => ?_)
    obtain ⟨m_lane_2, rfl⟩ : ∃ z, z = u := ⟨_, rfl⟩
    try dsimp only at hw
    replace hP : va_P D vwCl (lawW G x0 y0 a b pq kq sq (va_up v (33 + 2) s_size_1) (va_up f 26 m_lane_2) g) H := hP
    replace hD : va_D (fun q : Nat => s.heap.size ≤ q) (lawW G x0 y0 a b pq kq sq (va_up v (33 + 2) s_size_1) (va_up f 26 m_lane_2) g) := hD
    refine lv_icmp_eq (tgt := 1365) hx hb dL_law_1214 (by decide) (fun _ => ?_) (fun c9 => absurd hw.1 c9)
    exact cont _ _ _ _ _ _ hw.2 hP hD hS hl
  · have hq : sq ((xs (x3 + (1 : Int32)).toNatClampNeg)).toNatClampNeg = sq 3 := x_sq hsq hj
    have hw := hSt_drop v f g (xs (x3 + (1 : Int32)).toNatClampNeg) 3 hj hR
    have hc := c_X7_drop l D G H.size x0 (a 0) (a 14) (a 28) (a 33) (a 38) (a 40) (a 44) sq (a 52) (v 0) (v (29 + 3)) (v (33 + 3)) (xs (x3 + (1 : Int32)).toNatClampNeg) _ hw
    rw [hq] at hc
    refine x_cPi (va_runV (As := [.int (xs (x3 + (1 : Int32)).toNatClampNeg)]) (rest := []) ⟨hx, hb, hml, hown, hts⟩ hc (cwV 1 hts gL_law_X7_drop rfl rfl rfl (by decide +kernel) ⟨(Nat.le_of_ble_eq_true rfl), (Nat.le_of_ble_eq_true rfl)⟩) (xM_pv (hP.sub [0, 45, 52] rfl) hK (hD.sub [0, 45, 52] (by decide) rfl) (va_recv hK hP (ci := 7) (q0 := 0) rfl rfl)) rfl rfl hl.1 rfl (lv_room (Nat.le_of_ble_eq_true rfl)) dL_law_1202 ⟨(Nat.le_of_ble_eq_true rfl), (Nat.le_of_ble_eq_true rfl)⟩) hP hD hS hA [0, 45, 52] rfl (fun u => rfl) (fun u => (lawW G x0 y0 a b pq kq sq (va_up v (33 + 3) u) f g)) (fun u => rfl) (fun r1 u H locs hw hP hD hS => ?_)
    obtain ⟨s_size_1, rfl⟩ : ∃ z, z = u := ⟨_, rfl⟩
    try dsimp only at hw
    replace hP : va_P D vwCl (lawW G x0 y0 a b pq kq sq (va_up v (33 + 3) s_size_1) f g) H := hP
    replace hD : va_D (fun q : Nat => s.heap.size ≤ q) (lawW G x0 y0 a b pq kq sq (va_up v (33 + 3) s_size_1) f g) := hD
    refine lv_aload_n hx hb dL_law_1205 rfl (lv_at hl 2 rfl) ?_
    refine lv_aload_n hx hb dL_law_1206 rfl (lv_at hl 0 rfl) ?_
    refine lv_iload_n hx hb dL_law_1207 rfl (lv_at hl 3 rfl) ?_
    refine lv_iconst (v := 1) hx hb dL_law_1208 (by decide) ?_
    refine lv_iadd hx hb dL_law_1209 ?_
    refine va_sld hx hb hX hbl hbA hS (hin 1 (by decide)) dL_law_1210 ?_
    have hc := c_X8_drop l D G H.size y0 (b 0) (b 1) (b 2) (b 3) (b 4) (b 5) (b 6) (b 7) (b 8) (b 9) (b 10) (v 37) (v 38) (v 39) (v 40) (v 41) (v 42) (v 43) (f 26) (f 27) (xs (x3 + (1 : Int32)).toNatClampNeg) _ hw
    refine x_cPi (va_runV (As := [.int (xs (x3 + (1 : Int32)).toNatClampNeg)]) (rest := [.int r1]) ⟨hx, hb, hml, hown, hts⟩ hc (cwV 1 hts gL_law_X8_drop rfl rfl rfl (by decide +kernel) ⟨(Nat.le_of_ble_eq_true rfl), (Nat.le_of_ble_eq_true rfl)⟩) (xM_pv (hP.sub [54, 55, 56] rfl) hK (hD.sub [54, 55, 56] (by decide) rfl) (va_recv hK hP (ci := 8) (q0 := 54) rfl rfl)) rfl rfl hl.1 rfl (lv_room (Nat.le_of_ble_eq_true rfl)) dL_law_1211 ⟨(Nat.le_of_ble_eq_true rfl), (Nat.le_of_ble_eq_true rfl)⟩) hP hD hS hA [54, 55, 56] rfl (fun u => rfl) (fun u => (lawW G x0 y0 a b pq kq sq (va_up v (33 + 3) s_size_1) (va_up f 26 u) g)) (fun u => rfl) (fun r2 u H locs hw hP hD hS => ?_)
    obtain ⟨m_lane_2, rfl⟩ : ∃ z, z = u := ⟨_, rfl⟩
    try dsimp only at hw
    replace hP : va_P D vwCl (lawW G x0 y0 a b pq kq sq (va_up v (33 + 3) s_size_1) (va_up f 26 m_lane_2) g) H := hP
    replace hD : va_D (fun q : Nat => s.heap.size ≤ q) (lawW G x0 y0 a b pq kq sq (va_up v (33 + 3) s_size_1) (va_up f 26 m_lane_2) g) := hD
    refine lv_icmp_eq (tgt := 1365) hx hb dL_law_1214 (by decide) (fun _ => ?_) (fun c9 => absurd hw.1 c9)
    exact cont _ _ _ _ _ _ hw.2 hP hD hS hl
set_option maxHeartbeats 8000000 in
set_option maxRecDepth 100000 in
theorem lawc_item {p : Program} {l : Launch} {e : Env} {s : State} {m : MethodId} {below : List Frame} {meth : Method} {c : Code} {D : va_G} {G : Nat → ClassId} {x0 y0 : Nat} {a b pq kq sq : Nat → Nat} {b0 L : Nat} {xs : Nat → Int32} (C0 : lw_At p s m meth c b0 L xs) (R : ((Nat → Int32) → (Nat → Nat → Int32) → (Nat → Nat → Int64) → Prop)) (hSt_item : Step_item R) (x3 : Int32) (hin : ∀ k : Nat, k ≤ 8 → vp_in (x3 + Int32.ofNat k) L) (hsq : ∀ k, 4 ≤ k → sq k = sq 0) (v : Nat → Int32) (f : Nat → Nat → Int32) (g : Nat → Nat → Int64) (hR : R v f g) (H : Heap) (locs : List Loc) (ls : Array Slot) (hK : va_K D vwCl (tyL G) s) (hP : va_P D vwCl (lawW G x0 y0 a b pq kq sq v f g) H) (hD : va_D (fun q : Nat => s.heap.size ≤ q) (lawW G x0 y0 a b pq kq sq v f g)) (hS : va_S (fun q : Nat => s.heap.size ≤ q) s.heap H locs) (hl : lv_has ls 4 [(0, .ref b0), (1, .ref x0), (2, .ref y0), (3, .int x3)]) (cont : ∀ (v : Nat → Int32) (f : Nat → Nat → Int32) (g : Nat → Nat → Int64) (H : Heap) (locs : List Loc) (ls : Array Slot), R v f g → va_P D vwCl (lawW G x0 y0 a b pq kq sq v f g) H → va_D (fun q : Nat => s.heap.size ≤ q) (lawW G x0 y0 a b pq kq sq v f g) → va_S (fun q : Nat => s.heap.size ≤ q) s.heap H locs → lv_has ls 4 [(0, .ref b0), (1, .ref x0), (2, .ref y0), (3, .int x3)] → W p l e room_1 s m #[Value.ref b0] below meth c H locs 66 2290 (lw_Z below #[Value.ref b0] s) (F0 m 1365 ls [])) : W p l e room_1 s m #[Value.ref b0] below meth c H locs 66 2290 (lw_Z below #[Value.ref b0] s) (F0 m 1219 ls []) := by
  obtain ⟨hx, hb, hr, hml, hown, hts0, hX, hbl, hlocks, hgv⟩ := id C0
  have hb : c.code = cL_law := hb
  have hown : s.vm.findClass RL = some m.cls := hown
  have hts : ∀ w ∈ wsL_law, w.before #[Value.ref b0] s = true := fun w h => hts0 w (wsL_law_in w h)
  have hA : ∀ q : Nat, s.heap.size ≤ q → (fun q : Nat => s.heap.size ≤ q) q := fun _ h => h
  have hbA : ¬ (fun q : Nat => s.heap.size ≤ q) b0 := Nat.not_le.mpr hbl
  refine lv_aload_n hx hb dL_law_1219 rfl (lv_at hl 1 rfl) ?_
  refine lv_aload_n hx hb dL_law_1220 rfl (lv_at hl 0 rfl) ?_
  refine lv_iload_n hx hb dL_law_1221 rfl (lv_at hl 3 rfl) ?_
  refine lv_iconst (v := 1) hx hb dL_law_1222 (by decide) ?_
  refine lv_iadd hx hb dL_law_1223 ?_
  refine va_sld hx hb hX hbl hbA hS (hin 1 (by decide)) dL_law_1224 ?_
  refine lv_aload_n hx hb dL_law_1225 rfl (lv_at hl 0 rfl) ?_
  refine lv_iload_n hx hb dL_law_1226 rfl (lv_at hl 3 rfl) ?_
  refine lv_iconst (v := 2) hx hb dL_law_1227 (by decide) ?_
  refine lv_iadd hx hb dL_law_1228 ?_
  refine va_sld hx hb hX hbl hbA hS (hin 2 (by decide)) dL_law_1229 ?_
  refine lv_aload_n hx hb dL_law_1230 rfl (lv_at hl 0 rfl) ?_
  refine lv_iload_n hx hb dL_law_1231 rfl (lv_at hl 3 rfl) ?_
  refine lv_iconst (v := 3) hx hb dL_law_1232 (by decide) ?_
  refine lv_iadd hx hb dL_law_1233 ?_
  refine va_sld hx hb hX hbl hbA hS (hin 3 (by decide)) dL_law_1234 ?_
  refine lv_aload_n hx hb dL_law_1235 rfl (lv_at hl 0 rfl) ?_
  refine lv_iload_n hx hb dL_law_1236 rfl (lv_at hl 3 rfl) ?_
  refine lv_iconst (v := 4) hx hb dL_law_1237 (by decide) ?_
  refine lv_iadd hx hb dL_law_1238 ?_
  refine va_sld hx hb hX hbl hbA hS (hin 4 (by decide)) dL_law_1239 ?_
  refine lv_i2l hx hb dL_law_1240 rfl ?_
  refine lv_bipush (v := 32) hx hb dL_law_1241 (by decide) ?_
  refine lv_lshl hx hb dL_law_1243 rfl ?_
  refine lv_aload_n hx hb dL_law_1244 rfl (lv_at hl 0 rfl) ?_
  refine lv_iload_n hx hb dL_law_1245 rfl (lv_at hl 3 rfl) ?_
  refine lv_iconst (v := 5) hx hb dL_law_1246 (by decide) ?_
  refine lv_iadd hx hb dL_law_1247 ?_
  refine va_sld hx hb hX hbl hbA hS (hin 5 (by decide)) dL_law_1248 ?_
  refine lv_i2l hx hb dL_law_1249 rfl ?_
  refine lv_ldc2 (v := 4294967295) hx hb hown (hts (.constantLong RL 148 (4294967295)) (by decide +kernel)) dL_law_1250 ?_
  refine lv_land hx hb dL_law_1253 ?_
  refine lv_lor hx hb dL_law_1254 ?_
  rcases x_sj4 (xs (x3 + (1 : Int32)).toNatClampNeg) with hj | hj | hj | hj
  · have hq : sq ((xs (x3 + (1 : Int32)).toNatClampNeg)).toNatClampNeg = sq 0 := x_sq hsq hj
    have hw := hSt_item v f g (xs (x3 + (1 : Int32)).toNatClampNeg) (xs (x3 + (2 : Int32)).toNatClampNeg) (xs (x3 + (3 : Int32)).toNatClampNeg) ((((xs (x3 + (4 : Int32)).toNatClampNeg).toInt64) <<< ((32 : Int32).toInt64 &&& 63)) ||| (((xs (x3 + (5 : Int32)).toNatClampNeg).toInt64) &&& (4294967295 : Int64))) 0 hj hR
    have hc := c_X7_item l D G H.size x0 (a 0) (a 14) (a 28) (a 33) (a 38) (a 40) (a 44) sq (a 46) (v 0) (v (29 + 0)) (v (33 + 0)) (g 0) (xs (x3 + (1 : Int32)).toNatClampNeg) (xs (x3 + (2 : Int32)).toNatClampNeg) (xs (x3 + (3 : Int32)).toNatClampNeg) ((((xs (x3 + (4 : Int32)).toNatClampNeg).toInt64) <<< ((32 : Int32).toInt64 &&& 63)) ||| (((xs (x3 + (5 : Int32)).toNatClampNeg).toInt64) &&& (4294967295 : Int64))) _ hw
    rw [hq] at hc
    refine x_cPi (va_runV (As := [.int (xs (x3 + (1 : Int32)).toNatClampNeg), .int (xs (x3 + (2 : Int32)).toNatClampNeg), .int (xs (x3 + (3 : Int32)).toNatClampNeg), .long ((((xs (x3 + (4 : Int32)).toNatClampNeg).toInt64) <<< ((32 : Int32).toInt64 &&& 63)) ||| (((xs (x3 + (5 : Int32)).toNatClampNeg).toInt64) &&& (4294967295 : Int64)))]) (rest := []) ⟨hx, hb, hml, hown, hts⟩ hc (cwV 4 hts gL_law_X7_item rfl rfl rfl (by decide +kernel) ⟨(Nat.le_of_ble_eq_true rfl), (Nat.le_of_ble_eq_true rfl)⟩) (xM_pv (hP.sub [0, 45, 46, 47] rfl) hK (hD.sub [0, 45, 46, 47] (by decide) rfl) (va_recv hK hP (ci := 7) (q0 := 0) rfl rfl)) rfl rfl hl.1 rfl (lv_room (Nat.le_of_ble_eq_true rfl)) dL_law_1255 ⟨(Nat.le_of_ble_eq_true rfl), (Nat.le_of_ble_eq_true rfl)⟩) hP hD hS hA [0, 45, 46, 47] rfl (fun u => rfl) (fun u => (lawW G x0 y0 a b pq kq sq v f (va_up g 0 u))) (fun u => rfl) (fun r1 u H locs hw hP hD hS => ?_)
    obtain ⟨s_items_1, rfl⟩ : ∃ z, z = u := ⟨_, rfl⟩
    try dsimp only at hw
    replace hP : va_P D vwCl (lawW G x0 y0 a b pq kq sq v f (va_up g 0 s_items_1)) H := hP
    replace hD : va_D (fun q : Nat => s.heap.size ≤ q) (lawW G x0 y0 a b pq kq sq v f (va_up g 0 s_items_1)) := hD
    refine lv_aload_n hx hb dL_law_1258 rfl (lv_at hl 2 rfl) ?_
    refine lv_aload_n hx hb dL_law_1259 rfl (lv_at hl 0 rfl) ?_
    refine lv_iload_n hx hb dL_law_1260 rfl (lv_at hl 3 rfl) ?_
    refine lv_iconst (v := 1) hx hb dL_law_1261 (by decide) ?_
    refine lv_iadd hx hb dL_law_1262 ?_
    refine va_sld hx hb hX hbl hbA hS (hin 1 (by decide)) dL_law_1263 ?_
    refine lv_aload_n hx hb dL_law_1264 rfl (lv_at hl 0 rfl) ?_
    refine lv_iload_n hx hb dL_law_1265 rfl (lv_at hl 3 rfl) ?_
    refine lv_iconst (v := 2) hx hb dL_law_1266 (by decide) ?_
    refine lv_iadd hx hb dL_law_1267 ?_
    refine va_sld hx hb hX hbl hbA hS (hin 2 (by decide)) dL_law_1268 ?_
    refine lv_aload_n hx hb dL_law_1269 rfl (lv_at hl 0 rfl) ?_
    refine lv_iload_n hx hb dL_law_1270 rfl (lv_at hl 3 rfl) ?_
    refine lv_iconst (v := 3) hx hb dL_law_1271 (by decide) ?_
    refine lv_iadd hx hb dL_law_1272 ?_
    refine va_sld hx hb hX hbl hbA hS (hin 3 (by decide)) dL_law_1273 ?_
    refine lv_aload_n hx hb dL_law_1274 rfl (lv_at hl 0 rfl) ?_
    refine lv_iload_n hx hb dL_law_1275 rfl (lv_at hl 3 rfl) ?_
    refine lv_iconst (v := 4) hx hb dL_law_1276 (by decide) ?_
    refine lv_iadd hx hb dL_law_1277 ?_
    refine va_sld hx hb hX hbl hbA hS (hin 4 (by decide)) dL_law_1278 ?_
    refine lv_i2l hx hb dL_law_1279 rfl ?_
    refine lv_bipush (v := 32) hx hb dL_law_1280 (by decide) ?_
    refine lv_lshl hx hb dL_law_1282 rfl ?_
    refine lv_aload_n hx hb dL_law_1283 rfl (lv_at hl 0 rfl) ?_
    refine lv_iload_n hx hb dL_law_1284 rfl (lv_at hl 3 rfl) ?_
    refine lv_iconst (v := 5) hx hb dL_law_1285 (by decide) ?_
    refine lv_iadd hx hb dL_law_1286 ?_
    refine va_sld hx hb hX hbl hbA hS (hin 5 (by decide)) dL_law_1287 ?_
    refine lv_i2l hx hb dL_law_1288 rfl ?_
    refine lv_ldc2 (v := 4294967295) hx hb hown (hts (.constantLong RL 148 (4294967295)) (by decide +kernel)) dL_law_1289 ?_
    refine lv_land hx hb dL_law_1292 ?_
    refine lv_lor hx hb dL_law_1293 ?_
    have hc := c_X8_item l D G H.size y0 (b 0) (b 1) (b 2) (b 3) (b 4) (b 5) (b 6) (b 7) (b 8) (b 9) (b 10) (v 37) (v 38) (v 39) (v 40) (v 41) (v 42) (v 43) (f 26) (f 27) (g 4) (xs (x3 + (1 : Int32)).toNatClampNeg) (xs (x3 + (2 : Int32)).toNatClampNeg) (xs (x3 + (3 : Int32)).toNatClampNeg) ((((xs (x3 + (4 : Int32)).toNatClampNeg).toInt64) <<< ((32 : Int32).toInt64 &&& 63)) ||| (((xs (x3 + (5 : Int32)).toNatClampNeg).toInt64) &&& (4294967295 : Int64))) _ hw
    refine x_cPi (va_runV (As := [.int (xs (x3 + (1 : Int32)).toNatClampNeg), .int (xs (x3 + (2 : Int32)).toNatClampNeg), .int (xs (x3 + (3 : Int32)).toNatClampNeg), .long ((((xs (x3 + (4 : Int32)).toNatClampNeg).toInt64) <<< ((32 : Int32).toInt64 &&& 63)) ||| (((xs (x3 + (5 : Int32)).toNatClampNeg).toInt64) &&& (4294967295 : Int64)))]) (rest := [.int r1]) ⟨hx, hb, hml, hown, hts⟩ hc (cwV 4 hts gL_law_X8_item rfl rfl rfl (by decide +kernel) ⟨(Nat.le_of_ble_eq_true rfl), (Nat.le_of_ble_eq_true rfl)⟩) (xM_pv (hP.sub [54, 55, 56, 57] rfl) hK (hD.sub [54, 55, 56, 57] (by decide) rfl) (va_recv hK hP (ci := 8) (q0 := 54) rfl rfl)) rfl rfl hl.1 rfl (lv_room (Nat.le_of_ble_eq_true rfl)) dL_law_1294 ⟨(Nat.le_of_ble_eq_true rfl), (Nat.le_of_ble_eq_true rfl)⟩) hP hD hS hA [54, 55, 56, 57] rfl (fun u => rfl) (fun u => (lawW G x0 y0 a b pq kq sq v f (va_up (va_up g 0 s_items_1) 4 u))) (fun u => rfl) (fun r2 u H locs hw hP hD hS => ?_)
    obtain ⟨m_item_2, rfl⟩ : ∃ z, z = u := ⟨_, rfl⟩
    try dsimp only at hw
    replace hP : va_P D vwCl (lawW G x0 y0 a b pq kq sq v f (va_up (va_up g 0 s_items_1) 4 m_item_2)) H := hP
    replace hD : va_D (fun q : Nat => s.heap.size ≤ q) (lawW G x0 y0 a b pq kq sq v f (va_up (va_up g 0 s_items_1) 4 m_item_2)) := hD
    refine lv_icmp_eq (tgt := 1365) hx hb dL_law_1297 (by decide) (fun _ => ?_) (fun c9 => absurd hw.1 c9)
    exact cont _ _ _ _ _ _ hw.2 hP hD hS hl
  · have hq : sq ((xs (x3 + (1 : Int32)).toNatClampNeg)).toNatClampNeg = sq 1 := x_sq hsq hj
    have hw := hSt_item v f g (xs (x3 + (1 : Int32)).toNatClampNeg) (xs (x3 + (2 : Int32)).toNatClampNeg) (xs (x3 + (3 : Int32)).toNatClampNeg) ((((xs (x3 + (4 : Int32)).toNatClampNeg).toInt64) <<< ((32 : Int32).toInt64 &&& 63)) ||| (((xs (x3 + (5 : Int32)).toNatClampNeg).toInt64) &&& (4294967295 : Int64))) 1 hj hR
    have hc := c_X7_item l D G H.size x0 (a 0) (a 14) (a 28) (a 33) (a 38) (a 40) (a 44) sq (a 48) (v 0) (v (29 + 1)) (v (33 + 1)) (g 1) (xs (x3 + (1 : Int32)).toNatClampNeg) (xs (x3 + (2 : Int32)).toNatClampNeg) (xs (x3 + (3 : Int32)).toNatClampNeg) ((((xs (x3 + (4 : Int32)).toNatClampNeg).toInt64) <<< ((32 : Int32).toInt64 &&& 63)) ||| (((xs (x3 + (5 : Int32)).toNatClampNeg).toInt64) &&& (4294967295 : Int64))) _ hw
    rw [hq] at hc
    refine x_cPi (va_runV (As := [.int (xs (x3 + (1 : Int32)).toNatClampNeg), .int (xs (x3 + (2 : Int32)).toNatClampNeg), .int (xs (x3 + (3 : Int32)).toNatClampNeg), .long ((((xs (x3 + (4 : Int32)).toNatClampNeg).toInt64) <<< ((32 : Int32).toInt64 &&& 63)) ||| (((xs (x3 + (5 : Int32)).toNatClampNeg).toInt64) &&& (4294967295 : Int64)))]) (rest := []) ⟨hx, hb, hml, hown, hts⟩ hc (cwV 4 hts gL_law_X7_item rfl rfl rfl (by decide +kernel) ⟨(Nat.le_of_ble_eq_true rfl), (Nat.le_of_ble_eq_true rfl)⟩) (xM_pv (hP.sub [0, 45, 48, 49] rfl) hK (hD.sub [0, 45, 48, 49] (by decide) rfl) (va_recv hK hP (ci := 7) (q0 := 0) rfl rfl)) rfl rfl hl.1 rfl (lv_room (Nat.le_of_ble_eq_true rfl)) dL_law_1255 ⟨(Nat.le_of_ble_eq_true rfl), (Nat.le_of_ble_eq_true rfl)⟩) hP hD hS hA [0, 45, 48, 49] rfl (fun u => rfl) (fun u => (lawW G x0 y0 a b pq kq sq v f (va_up g 1 u))) (fun u => rfl) (fun r1 u H locs hw hP hD hS => ?_)
    obtain ⟨s_items_1, rfl⟩ : ∃ z, z = u := ⟨_, rfl⟩
    try dsimp only at hw
    replace hP : va_P D vwCl (lawW G x0 y0 a b pq kq sq v f (va_up g 1 s_items_1)) H := hP
    replace hD : va_D (fun q : Nat => s.heap.size ≤ q) (lawW G x0 y0 a b pq kq sq v f (va_up g 1 s_items_1)) := hD
    refine lv_aload_n hx hb dL_law_1258 rfl (lv_at hl 2 rfl) ?_
    refine lv_aload_n hx hb dL_law_1259 rfl (lv_at hl 0 rfl) ?_
    refine lv_iload_n hx hb dL_law_1260 rfl (lv_at hl 3 rfl) ?_
    refine lv_iconst (v := 1) hx hb dL_law_1261 (by decide) ?_
    refine lv_iadd hx hb dL_law_1262 ?_
    refine va_sld hx hb hX hbl hbA hS (hin 1 (by decide)) dL_law_1263 ?_
    refine lv_aload_n hx hb dL_law_1264 rfl (lv_at hl 0 rfl) ?_
    refine lv_iload_n hx hb dL_law_1265 rfl (lv_at hl 3 rfl) ?_
    refine lv_iconst (v := 2) hx hb dL_law_1266 (by decide) ?_
    refine lv_iadd hx hb dL_law_1267 ?_
    refine va_sld hx hb hX hbl hbA hS (hin 2 (by decide)) dL_law_1268 ?_
    refine lv_aload_n hx hb dL_law_1269 rfl (lv_at hl 0 rfl) ?_
    refine lv_iload_n hx hb dL_law_1270 rfl (lv_at hl 3 rfl) ?_
    refine lv_iconst (v := 3) hx hb dL_law_1271 (by decide) ?_
    refine lv_iadd hx hb dL_law_1272 ?_
    refine va_sld hx hb hX hbl hbA hS (hin 3 (by decide)) dL_law_1273 ?_
    refine lv_aload_n hx hb dL_law_1274 rfl (lv_at hl 0 rfl) ?_
    refine lv_iload_n hx hb dL_law_1275 rfl (lv_at hl 3 rfl) ?_
    refine lv_iconst (v := 4) hx hb dL_law_1276 (by decide) ?_
    refine lv_iadd hx hb dL_law_1277 ?_
    refine va_sld hx hb hX hbl hbA hS (hin 4 (by decide)) dL_law_1278 ?_
    refine lv_i2l hx hb dL_law_1279 rfl ?_
    refine lv_bipush (v := 32) hx hb dL_law_1280 (by decide) ?_
    refine lv_lshl hx hb dL_law_1282 rfl ?_
    refine lv_aload_n hx hb dL_law_1283 rfl (lv_at hl 0 rfl) ?_
    refine lv_iload_n hx hb dL_law_1284 rfl (lv_at hl 3 rfl) ?_
    refine lv_iconst (v := 5) hx hb dL_law_1285 (by decide) ?_
    refine lv_iadd hx hb dL_law_1286 ?_
    refine va_sld hx hb hX hbl hbA hS (hin 5 (by decide)) dL_law_1287 ?_
    refine lv_i2l hx hb dL_law_1288 rfl ?_
    refine lv_ldc2 (v := 4294967295) hx hb hown (hts (.constantLong RL 148 (4294967295)) (by decide +kernel)) dL_law_1289 ?_
    refine lv_land hx hb dL_law_1292 ?_
    refine lv_lor hx hb dL_law_1293 ?_
    have hc := c_X8_item l D G H.size y0 (b 0) (b 1) (b 2) (b 3) (b 4) (b 5) (b 6) (b 7) (b 8) (b 9) (b 10) (v 37) (v 38) (v 39) (v 40) (v 41) (v 42) (v 43) (f 26) (f 27) (g 4) (xs (x3 + (1 : Int32)).toNatClampNeg) (xs (x3 + (2 : Int32)).toNatClampNeg) (xs (x3 + (3 : Int32)).toNatClampNeg) ((((xs (x3 + (4 : Int32)).toNatClampNeg).toInt64) <<< ((32 : Int32).toInt64 &&& 63)) ||| (((xs (x3 + (5 : Int32)).toNatClampNeg).toInt64) &&& (4294967295 : Int64))) _ hw
    refine x_cPi (va_runV (As := [.int (xs (x3 + (1 : Int32)).toNatClampNeg), .int (xs (x3 + (2 : Int32)).toNatClampNeg), .int (xs (x3 + (3 : Int32)).toNatClampNeg), .long ((((xs (x3 + (4 : Int32)).toNatClampNeg).toInt64) <<< ((32 : Int32).toInt64 &&& 63)) ||| (((xs (x3 + (5 : Int32)).toNatClampNeg).toInt64) &&& (4294967295 : Int64)))]) (rest := [.int r1]) ⟨hx, hb, hml, hown, hts⟩ hc (cwV 4 hts gL_law_X8_item rfl rfl rfl (by decide +kernel) ⟨(Nat.le_of_ble_eq_true rfl), (Nat.le_of_ble_eq_true rfl)⟩) (xM_pv (hP.sub [54, 55, 56, 57] rfl) hK (hD.sub [54, 55, 56, 57] (by decide) rfl) (va_recv hK hP (ci := 8) (q0 := 54) rfl rfl)) rfl rfl hl.1 rfl (lv_room (Nat.le_of_ble_eq_true rfl)) dL_law_1294 ⟨(Nat.le_of_ble_eq_true rfl), (Nat.le_of_ble_eq_true rfl)⟩) hP hD hS hA [54, 55, 56, 57] rfl (fun u => rfl) (fun u => (lawW G x0 y0 a b pq kq sq v f (va_up (va_up g 1 s_items_1) 4 u))) (fun u => rfl) (fun r2 u H locs hw hP hD hS => ?_)
    obtain ⟨m_item_2, rfl⟩ : ∃ z, z = u := ⟨_, rfl⟩
    try dsimp only at hw
    replace hP : va_P D vwCl (lawW G x0 y0 a b pq kq sq v f (va_up (va_up g 1 s_items_1) 4 m_item_2)) H := hP
    replace hD : va_D (fun q : Nat => s.heap.size ≤ q) (lawW G x0 y0 a b pq kq sq v f (va_up (va_up g 1 s_items_1) 4 m_item_2)) := hD
    refine lv_icmp_eq (tgt := 1365) hx hb dL_law_1297 (by decide) (fun _ => ?_) (fun c9 => absurd hw.1 c9)
    exact cont _ _ _ _ _ _ hw.2 hP hD hS hl
  · have hq : sq ((xs (x3 + (1 : Int32)).toNatClampNeg)).toNatClampNeg = sq 2 := x_sq hsq hj
    have hw := hSt_item v f g (xs (x3 + (1 : Int32)).toNatClampNeg) (xs (x3 + (2 : Int32)).toNatClampNeg) (xs (x3 + (3 : Int32)).toNatClampNeg) ((((xs (x3 + (4 : Int32)).toNatClampNeg).toInt64) <<< ((32 : Int32).toInt64 &&& 63)) ||| (((xs (x3 + (5 : Int32)).toNatClampNeg).toInt64) &&& (4294967295 : Int64))) 2 hj hR
    have hc := c_X7_item l D G H.size x0 (a 0) (a 14) (a 28) (a 33) (a 38) (a 40) (a 44) sq (a 50) (v 0) (v (29 + 2)) (v (33 + 2)) (g 2) (xs (x3 + (1 : Int32)).toNatClampNeg) (xs (x3 + (2 : Int32)).toNatClampNeg) (xs (x3 + (3 : Int32)).toNatClampNeg) ((((xs (x3 + (4 : Int32)).toNatClampNeg).toInt64) <<< ((32 : Int32).toInt64 &&& 63)) ||| (((xs (x3 + (5 : Int32)).toNatClampNeg).toInt64) &&& (4294967295 : Int64))) _ hw
    rw [hq] at hc
    refine x_cPi (va_runV (As := [.int (xs (x3 + (1 : Int32)).toNatClampNeg), .int (xs (x3 + (2 : Int32)).toNatClampNeg), .int (xs (x3 + (3 : Int32)).toNatClampNeg), .long ((((xs (x3 + (4 : Int32)).toNatClampNeg).toInt64) <<< ((32 : Int32).toInt64 &&& 63)) ||| (((xs (x3 + (5 : Int32)).toNatClampNeg).toInt64) &&& (4294967295 : Int64)))]) (rest := []) ⟨hx, hb, hml, hown, hts⟩ hc (cwV 4 hts gL_law_X7_item rfl rfl rfl (by decide +kernel) ⟨(Nat.le_of_ble_eq_true rfl), (Nat.le_of_ble_eq_true rfl)⟩) (xM_pv (hP.sub [0, 45, 50, 51] rfl) hK (hD.sub [0, 45, 50, 51] (by decide) rfl) (va_recv hK hP (ci := 7) (q0 := 0) rfl rfl)) rfl rfl hl.1 rfl (lv_room (Nat.le_of_ble_eq_true rfl)) dL_law_1255 ⟨(Nat.le_of_ble_eq_true rfl), (Nat.le_of_ble_eq_true rfl)⟩) hP hD hS hA [0, 45, 50, 51] rfl (fun u => rfl) (fun u => (lawW G x0 y0 a b pq kq sq v f (va_up g 2 u))) (fun u => rfl) (fun r1 u H locs hw hP hD hS => ?_)
    obtain ⟨s_items_1, rfl⟩ : ∃ z, z = u := ⟨_, rfl⟩
    try dsimp only at hw
    replace hP : va_P D vwCl (lawW G x0 y0 a b pq kq sq v f (va_up g 2 s_items_1)) H := hP
    replace hD : va_D (fun q : Nat => s.heap.size ≤ q) (lawW G x0 y0 a b pq kq sq v f (va_up g 2 s_items_1)) := hD
    refine lv_aload_n hx hb dL_law_1258 rfl (lv_at hl 2 rfl) ?_
    refine lv_aload_n hx hb dL_law_1259 rfl (lv_at hl 0 rfl) ?_
    refine lv_iload_n hx hb dL_law_1260 rfl (lv_at hl 3 rfl) ?_
    refine lv_iconst (v := 1) hx hb dL_law_1261 (by decide) ?_
    refine lv_iadd hx hb dL_law_1262 ?_
    refine va_sld hx hb hX hbl hbA hS (hin 1 (by decide)) dL_law_1263 ?_
    refine lv_aload_n hx hb dL_law_1264 rfl (lv_at hl 0 rfl) ?_
    refine lv_iload_n hx hb dL_law_1265 rfl (lv_at hl 3 rfl) ?_
    refine lv_iconst (v := 2) hx hb dL_law_1266 (by decide) ?_
    refine lv_iadd hx hb dL_law_1267 ?_
    refine va_sld hx hb hX hbl hbA hS (hin 2 (by decide)) dL_law_1268 ?_
    refine lv_aload_n hx hb dL_law_1269 rfl (lv_at hl 0 rfl) ?_
    refine lv_iload_n hx hb dL_law_1270 rfl (lv_at hl 3 rfl) ?_
    refine lv_iconst (v := 3) hx hb dL_law_1271 (by decide) ?_
    refine lv_iadd hx hb dL_law_1272 ?_
    refine va_sld hx hb hX hbl hbA hS (hin 3 (by decide)) dL_law_1273 ?_
    refine lv_aload_n hx hb dL_law_1274 rfl (lv_at hl 0 rfl) ?_
    refine lv_iload_n hx hb dL_law_1275 rfl (lv_at hl 3 rfl) ?_
    refine lv_iconst (v := 4) hx hb dL_law_1276 (by decide) ?_
    refine lv_iadd hx hb dL_law_1277 ?_
    refine va_sld hx hb hX hbl hbA hS (hin 4 (by decide)) dL_law_1278 ?_
    refine lv_i2l hx hb dL_law_1279 rfl ?_
    refine lv_bipush (v := 32) hx hb dL_law_1280 (by decide) ?_
    refine lv_lshl hx hb dL_law_1282 rfl ?_
    refine lv_aload_n hx hb dL_law_1283 rfl (lv_at hl 0 rfl) ?_
    refine lv_iload_n hx hb dL_law_1284 rfl (lv_at hl 3 rfl) ?_
    refine lv_iconst (v := 5) hx hb dL_law_1285 (by decide) ?_
    refine lv_iadd hx hb dL_law_1286 ?_
    refine va_sld hx hb hX hbl hbA hS (hin 5 (by decide)) dL_law_1287 ?_
    refine lv_i2l hx hb dL_law_1288 rfl ?_
    refine lv_ldc2 (v := 4294967295) hx hb hown (hts (.constantLong RL 148 (4294967295)) (by decide +kernel)) dL_law_1289 ?_
    refine lv_land hx hb dL_law_1292 ?_
    refine lv_lor hx hb dL_law_1293 ?_
    have hc := c_X8_item l D G H.size y0 (b 0) (b 1) (b 2) (b 3) (b 4) (b 5) (b 6) (b 7) (b 8) (b 9) (b 10) (v 37) (v 38) (v 39) (v 40) (v 41) (v 42) (v 43) (f 26) (f 27) (g 4) (xs (x3 + (1 : Int32)).toNatClampNeg) (xs (x3 + (2 : Int32)).toNatClampNeg) (xs (x3 + (3 : Int32)).toNatClampNeg) ((((xs (x3 + (4 : Int32)).toNatClampNeg).toInt64) <<< ((32 : Int32).toInt64 &&& 63)) ||| (((xs (x3 + (5 : Int32)).toNatClampNeg).toInt64) &&& (4294967295 : Int64))) _ hw
    refine x_cPi (va_runV (As := [.int (xs (x3 + (1 : Int32)).toNatClampNeg), .int (xs (x3 + (2 : Int32)).toNatClampNeg), .int (xs (x3 + (3 : Int32)).toNatClampNeg), .long ((((xs (x3 + (4 : Int32)).toNatClampNeg).toInt64) <<< ((32 : Int32).toInt64 &&& 63)) ||| (((xs (x3 + (5 : Int32)).toNatClampNeg).toInt64) &&& (4294967295 : Int64)))]) (rest := [.int r1]) ⟨hx, hb, hml, hown, hts⟩ hc (cwV 4 hts gL_law_X8_item rfl rfl rfl (by decide +kernel) ⟨(Nat.le_of_ble_eq_true rfl), (Nat.le_of_ble_eq_true rfl)⟩) (xM_pv (hP.sub [54, 55, 56, 57] rfl) hK (hD.sub [54, 55, 56, 57] (by decide) rfl) (va_recv hK hP (ci := 8) (q0 := 54) rfl rfl)) rfl rfl hl.1 rfl (lv_room (Nat.le_of_ble_eq_true rfl)) dL_law_1294 ⟨(Nat.le_of_ble_eq_true rfl), (Nat.le_of_ble_eq_true rfl)⟩) hP hD hS hA [54, 55, 56, 57] rfl (fun u => rfl) (fun u => (lawW G x0 y0 a b pq kq sq v f (va_up (va_up g 2 s_items_1) 4 u))) (fun u => rfl) (fun r2 u H locs hw hP hD hS => ?_)
    obtain ⟨m_item_2, rfl⟩ : ∃ z, z = u := ⟨_, rfl⟩
    try dsimp only at hw
    replace hP : va_P D vwCl (lawW G x0 y0 a b pq kq sq v f (va_up (va_up g 2 s_items_1) 4 m_item_2)) H := hP
    replace hD : va_D (fun q : Nat => s.heap.size ≤ q) (lawW G x0 y0 a b pq kq sq v f (va_up (va_up g 2 s_items_1) 4 m_item_2)) := hD
    refine lv_icmp_eq (tgt := 1365) hx hb dL_law_1297 (by decide) (fun _ => ?_) (fun c9 => absurd hw.1 c9)
    exact cont _ _ _ _ _ _ hw.2 hP hD hS hl
  · have hq : sq ((xs (x3 + (1 : Int32)).toNatClampNeg)).toNatClampNeg = sq 3 := x_sq hsq hj
    have hw := hSt_item v f g (xs (x3 + (1 : Int32)).toNatClampNeg) (xs (x3 + (2 : Int32)).toNatClampNeg) (xs (x3 + (3 : Int32)).toNatClampNeg) ((((xs (x3 + (4 : Int32)).toNatClampNeg).toInt64) <<< ((32 : Int32).toInt64 &&& 63)) ||| (((xs (x3 + (5 : Int32)).toNatClampNeg).toInt64) &&& (4294967295 : Int64))) 3 hj hR
    have hc := c_X7_item l D G H.size x0 (a 0) (a 14) (a 28) (a 33) (a 38) (a 40) (a 44) sq (a 52) (v 0) (v (29 + 3)) (v (33 + 3)) (g 3) (xs (x3 + (1 : Int32)).toNatClampNeg) (xs (x3 + (2 : Int32)).toNatClampNeg) (xs (x3 + (3 : Int32)).toNatClampNeg) ((((xs (x3 + (4 : Int32)).toNatClampNeg).toInt64) <<< ((32 : Int32).toInt64 &&& 63)) ||| (((xs (x3 + (5 : Int32)).toNatClampNeg).toInt64) &&& (4294967295 : Int64))) _ hw
    rw [hq] at hc
    refine x_cPi (va_runV (As := [.int (xs (x3 + (1 : Int32)).toNatClampNeg), .int (xs (x3 + (2 : Int32)).toNatClampNeg), .int (xs (x3 + (3 : Int32)).toNatClampNeg), .long ((((xs (x3 + (4 : Int32)).toNatClampNeg).toInt64) <<< ((32 : Int32).toInt64 &&& 63)) ||| (((xs (x3 + (5 : Int32)).toNatClampNeg).toInt64) &&& (4294967295 : Int64)))]) (rest := []) ⟨hx, hb, hml, hown, hts⟩ hc (cwV 4 hts gL_law_X7_item rfl rfl rfl (by decide +kernel) ⟨(Nat.le_of_ble_eq_true rfl), (Nat.le_of_ble_eq_true rfl)⟩) (xM_pv (hP.sub [0, 45, 52, 53] rfl) hK (hD.sub [0, 45, 52, 53] (by decide) rfl) (va_recv hK hP (ci := 7) (q0 := 0) rfl rfl)) rfl rfl hl.1 rfl (lv_room (Nat.le_of_ble_eq_true rfl)) dL_law_1255 ⟨(Nat.le_of_ble_eq_true rfl), (Nat.le_of_ble_eq_true rfl)⟩) hP hD hS hA [0, 45, 52, 53] rfl (fun u => rfl) (fun u => (lawW G x0 y0 a b pq kq sq v f (va_up g 3 u))) (fun u => rfl) (fun r1 u H locs hw hP hD hS => ?_)
    obtain ⟨s_items_1, rfl⟩ : ∃ z, z = u := ⟨_, rfl⟩
    try dsimp only at hw
    replace hP : va_P D vwCl (lawW G x0 y0 a b pq kq sq v f (va_up g 3 s_items_1)) H := hP
    replace hD : va_D (fun q : Nat => s.heap.size ≤ q) (lawW G x0 y0 a b pq kq sq v f (va_up g 3 s_items_1)) := hD
    refine lv_aload_n hx hb dL_law_1258 rfl (lv_at hl 2 rfl) ?_
    refine lv_aload_n hx hb dL_law_1259 rfl (lv_at hl 0 rfl) ?_
    refine lv_iload_n hx hb dL_law_1260 rfl (lv_at hl 3 rfl) ?_
    refine lv_iconst (v := 1) hx hb dL_law_1261 (by decide) ?_
    refine lv_iadd hx hb dL_law_1262 ?_
    refine va_sld hx hb hX hbl hbA hS (hin 1 (by decide)) dL_law_1263 ?_
    refine lv_aload_n hx hb dL_law_1264 rfl (lv_at hl 0 rfl) ?_
    refine lv_iload_n hx hb dL_law_1265 rfl (lv_at hl 3 rfl) ?_
    refine lv_iconst (v := 2) hx hb dL_law_1266 (by decide) ?_
    refine lv_iadd hx hb dL_law_1267 ?_
    refine va_sld hx hb hX hbl hbA hS (hin 2 (by decide)) dL_law_1268 ?_
    refine lv_aload_n hx hb dL_law_1269 rfl (lv_at hl 0 rfl) ?_
    refine lv_iload_n hx hb dL_law_1270 rfl (lv_at hl 3 rfl) ?_
    refine lv_iconst (v := 3) hx hb dL_law_1271 (by decide) ?_
    refine lv_iadd hx hb dL_law_1272 ?_
    refine va_sld hx hb hX hbl hbA hS (hin 3 (by decide)) dL_law_1273 ?_
    refine lv_aload_n hx hb dL_law_1274 rfl (lv_at hl 0 rfl) ?_
    refine lv_iload_n hx hb dL_law_1275 rfl (lv_at hl 3 rfl) ?_
    refine lv_iconst (v := 4) hx hb dL_law_1276 (by decide) ?_
    refine lv_iadd hx hb dL_law_1277 ?_
    refine va_sld hx hb hX hbl hbA hS (hin 4 (by decide)) dL_law_1278 ?_
    refine lv_i2l hx hb dL_law_1279 rfl ?_
    refine lv_bipush (v := 32) hx hb dL_law_1280 (by decide) ?_
    refine lv_lshl hx hb dL_law_1282 rfl ?_
    refine lv_aload_n hx hb dL_law_1283 rfl (lv_at hl 0 rfl) ?_
    refine lv_iload_n hx hb dL_law_1284 rfl (lv_at hl 3 rfl) ?_
    refine lv_iconst (v := 5) hx hb dL_law_1285 (by decide) ?_
    refine lv_iadd hx hb dL_law_1286 ?_
    refine va_sld hx hb hX hbl hbA hS (hin 5 (by decide)) dL_law_1287 ?_
    refine lv_i2l hx hb dL_law_1288 rfl ?_
    refine lv_ldc2 (v := 4294967295) hx hb hown (hts (.constantLong RL 148 (4294967295)) (by decide +kernel)) dL_law_1289 ?_
    refine lv_land hx hb dL_law_1292 ?_
    refine lv_lor hx hb dL_law_1293 ?_
    have hc := c_X8_item l D G H.size y0 (b 0) (b 1) (b 2) (b 3) (b 4) (b 5) (b 6) (b 7) (b 8) (b 9) (b 10) (v 37) (v 38) (v 39) (v 40) (v 41) (v 42) (v 43) (f 26) (f 27) (g 4) (xs (x3 + (1 : Int32)).toNatClampNeg) (xs (x3 + (2 : Int32)).toNatClampNeg) (xs (x3 + (3 : Int32)).toNatClampNeg) ((((xs (x3 + (4 : Int32)).toNatClampNeg).toInt64) <<< ((32 : Int32).toInt64 &&& 63)) ||| (((xs (x3 + (5 : Int32)).toNatClampNeg).toInt64) &&& (4294967295 : Int64))) _ hw
    refine x_cPi (va_runV (As := [.int (xs (x3 + (1 : Int32)).toNatClampNeg), .int (xs (x3 + (2 : Int32)).toNatClampNeg), .int (xs (x3 + (3 : Int32)).toNatClampNeg), .long ((((xs (x3 + (4 : Int32)).toNatClampNeg).toInt64) <<< ((32 : Int32).toInt64 &&& 63)) ||| (((xs (x3 + (5 : Int32)).toNatClampNeg).toInt64) &&& (4294967295 : Int64)))]) (rest := [.int r1]) ⟨hx, hb, hml, hown, hts⟩ hc (cwV 4 hts gL_law_X8_item rfl rfl rfl (by decide +kernel) ⟨(Nat.le_of_ble_eq_true rfl), (Nat.le_of_ble_eq_true rfl)⟩) (xM_pv (hP.sub [54, 55, 56, 57] rfl) hK (hD.sub [54, 55, 56, 57] (by decide) rfl) (va_recv hK hP (ci := 8) (q0 := 54) rfl rfl)) rfl rfl hl.1 rfl (lv_room (Nat.le_of_ble_eq_true rfl)) dL_law_1294 ⟨(Nat.le_of_ble_eq_true rfl), (Nat.le_of_ble_eq_true rfl)⟩) hP hD hS hA [54, 55, 56, 57] rfl (fun u => rfl) (fun u => (lawW G x0 y0 a b pq kq sq v f (va_up (va_up g 3 s_items_1) 4 u))) (fun u => rfl) (fun r2 u H locs hw hP hD hS => ?_)
    obtain ⟨m_item_2, rfl⟩ : ∃ z, z = u := ⟨_, rfl⟩
    try dsimp only at hw
    replace hP : va_P D vwCl (lawW G x0 y0 a b pq kq sq v f (va_up (va_up g 3 s_items_1) 4 m_item_2)) H := hP
    replace hD : va_D (fun q : Nat => s.heap.size ≤ q) (lawW G x0 y0 a b pq kq sq v f (va_up (va_up g 3 s_items_1) 4 m_item_2)) := hD
    refine lv_icmp_eq (tgt := 1365) hx hb dL_law_1297 (by decide) (fun _ => ?_) (fun c9 => absurd hw.1 c9)
    exact cont _ _ _ _ _ _ hw.2 hP hD hS hl
set_option maxHeartbeats 8000000 in
set_option maxRecDepth 100000 in
theorem lawc_copy {p : Program} {l : Launch} {e : Env} {s : State} {m : MethodId} {below : List Frame} {meth : Method} {c : Code} {D : va_G} {G : Nat → ClassId} {x0 y0 : Nat} {a b pq kq sq : Nat → Nat} {b0 L : Nat} {xs : Nat → Int32} (C0 : lw_At p s m meth c b0 L xs) (R : ((Nat → Int32) → (Nat → Nat → Int32) → (Nat → Nat → Int64) → Prop)) (hSt_copyS : Step_copyS R) (hSt_copyD : Step_copyD R) (hSt_copyB : Step_copyB R) (x3 : Int32) (hin : ∀ k : Nat, k ≤ 8 → vp_in (x3 + Int32.ofNat k) L) (hsq : ∀ k, 4 ≤ k → sq k = sq 0) (v : Nat → Int32) (f : Nat → Nat → Int32) (g : Nat → Nat → Int64) (hR : R v f g) (H : Heap) (locs : List Loc) (ls : Array Slot) (hK : va_K D vwCl (tyL G) s) (hP : va_P D vwCl (lawW G x0 y0 a b pq kq sq v f g) H) (hD : va_D (fun q : Nat => s.heap.size ≤ q) (lawW G x0 y0 a b pq kq sq v f g)) (hS : va_S (fun q : Nat => s.heap.size ≤ q) s.heap H locs) (hl : lv_has ls 4 [(0, .ref b0), (1, .ref x0), (2, .ref y0), (3, .int x3)]) (cont : ∀ (v : Nat → Int32) (f : Nat → Nat → Int32) (g : Nat → Nat → Int64) (H : Heap) (locs : List Loc) (ls : Array Slot), R v f g → va_P D vwCl (lawW G x0 y0 a b pq kq sq v f g) H → va_D (fun q : Nat => s.heap.size ≤ q) (lawW G x0 y0 a b pq kq sq v f g) → va_S (fun q : Nat => s.heap.size ≤ q) s.heap H locs → lv_has ls 4 [(0, .ref b0), (1, .ref x0), (2, .ref y0), (3, .int x3)] → W p l e room_1 s m #[Value.ref b0] below meth c H locs 66 2290 (lw_Z below #[Value.ref b0] s) (F0 m 1365 ls [])) : W p l e room_1 s m #[Value.ref b0] below meth c H locs 66 2290 (lw_Z below #[Value.ref b0] s) (F0 m 1302 ls []) := by
  obtain ⟨hx, hb, hr, hml, hown, hts0, hX, hbl, hlocks, hgv⟩ := id C0
  have hb : c.code = cL_law := hb
  have hown : s.vm.findClass RL = some m.cls := hown
  have hts : ∀ w ∈ wsL_law, w.before #[Value.ref b0] s = true := fun w h => hts0 w (wsL_law_in w h)
  have hA : ∀ q : Nat, s.heap.size ≤ q → (fun q : Nat => s.heap.size ≤ q) q := fun _ h => h
  have hbA : ¬ (fun q : Nat => s.heap.size ≤ q) b0 := Nat.not_le.mpr hbl
  refine lv_aload_n hx hb dL_law_1302 rfl (lv_at hl 1 rfl) ?_
  refine lv_aload_n hx hb dL_law_1303 rfl (lv_at hl 0 rfl) ?_
  refine lv_iload_n hx hb dL_law_1304 rfl (lv_at hl 3 rfl) ?_
  refine lv_iconst (v := 1) hx hb dL_law_1305 (by decide) ?_
  refine lv_iadd hx hb dL_law_1306 ?_
  refine va_sld hx hb hX hbl hbA hS (hin 1 (by decide)) dL_law_1307 ?_
  refine lv_aload_n hx hb dL_law_1308 rfl (lv_at hl 0 rfl) ?_
  refine lv_iload_n hx hb dL_law_1309 rfl (lv_at hl 3 rfl) ?_
  refine lv_iconst (v := 2) hx hb dL_law_1310 (by decide) ?_
  refine lv_iadd hx hb dL_law_1311 ?_
  refine va_sld hx hb hX hbl hbA hS (hin 2 (by decide)) dL_law_1312 ?_
  refine lv_aload_n hx hb dL_law_1313 rfl (lv_at hl 0 rfl) ?_
  refine lv_iload_n hx hb dL_law_1314 rfl (lv_at hl 3 rfl) ?_
  refine lv_iconst (v := 3) hx hb dL_law_1315 (by decide) ?_
  refine lv_iadd hx hb dL_law_1316 ?_
  refine va_sld hx hb hX hbl hbA hS (hin 3 (by decide)) dL_law_1317 ?_
  refine lv_aload_n hx hb dL_law_1318 rfl (lv_at hl 0 rfl) ?_
  refine lv_iload_n hx hb dL_law_1319 rfl (lv_at hl 3 rfl) ?_
  refine lv_iconst (v := 4) hx hb dL_law_1320 (by decide) ?_
  refine lv_iadd hx hb dL_law_1321 ?_
  refine va_sld hx hb hX hbl hbA hS (hin 4 (by decide)) dL_law_1322 ?_
  refine lv_aload_n hx hb dL_law_1323 rfl (lv_at hl 0 rfl) ?_
  refine lv_iload_n hx hb dL_law_1324 rfl (lv_at hl 3 rfl) ?_
  refine lv_iconst (v := 5) hx hb dL_law_1325 (by decide) ?_
  refine lv_iadd hx hb dL_law_1326 ?_
  refine va_sld hx hb hX hbl hbA hS (hin 5 (by decide)) dL_law_1327 ?_
  by_cases hxx : (xs (x3 + (3 : Int32)).toNatClampNeg) = (xs (x3 + (1 : Int32)).toNatClampNeg)
  · rcases x_sj4 (xs (x3 + (1 : Int32)).toNatClampNeg) with hj | hj | hj | hj
    · have hq : sq ((xs (x3 + (1 : Int32)).toNatClampNeg)).toNatClampNeg = sq 0 := x_sq hsq hj
      have hw := hSt_copyS v f g (xs (x3 + (1 : Int32)).toNatClampNeg) (xs (x3 + (2 : Int32)).toNatClampNeg) (xs (x3 + (4 : Int32)).toNatClampNeg) (xs (x3 + (5 : Int32)).toNatClampNeg) 0 hj hR
      rw [hxx]
      have hc := c_X7_copyS l D G H.size x0 (a 0) (a 14) (a 28) (a 33) (a 38) (a 40) (a 44) sq (a 46) (v 0) (v (29 + 0)) (v (33 + 0)) (g 0) (xs (x3 + (1 : Int32)).toNatClampNeg) (xs (x3 + (2 : Int32)).toNatClampNeg) (xs (x3 + (4 : Int32)).toNatClampNeg) (xs (x3 + (5 : Int32)).toNatClampNeg) _ hw
      rw [hq] at hc
      refine x_cPi (va_runV (As := [.int (xs (x3 + (1 : Int32)).toNatClampNeg), .int (xs (x3 + (2 : Int32)).toNatClampNeg), .int (xs (x3 + (1 : Int32)).toNatClampNeg), .int (xs (x3 + (4 : Int32)).toNatClampNeg), .int (xs (x3 + (5 : Int32)).toNatClampNeg)]) (rest := []) ⟨hx, hb, hml, hown, hts⟩ hc (cwV 5 hts gL_law_X7_copy rfl rfl rfl (by decide +kernel) ⟨(Nat.le_of_ble_eq_true rfl), (Nat.le_of_ble_eq_true rfl)⟩) (xM_pv (hP.sub [0, 45, 46, 47] rfl) hK (hD.sub [0, 45, 46, 47] (by decide) rfl) (va_recv hK hP (ci := 7) (q0 := 0) rfl rfl)) rfl rfl hl.1 rfl (lv_room (Nat.le_of_ble_eq_true rfl)) dL_law_1328 ⟨(Nat.le_of_ble_eq_true rfl), (Nat.le_of_ble_eq_true rfl)⟩) hP hD hS hA [0, 45, 46, 47] rfl (fun u => rfl) (fun u => (lawW G x0 y0 a b pq kq sq v f (va_up g 0 u))) (fun u => rfl) (fun r1 u H locs hw hP hD hS => ?_)
      obtain ⟨s_items_1, rfl⟩ : ∃ z, z = u := ⟨_, rfl⟩
      try dsimp only at hw
      replace hP : va_P D vwCl (lawW G x0 y0 a b pq kq sq v f (va_up g 0 s_items_1)) H := hP
      replace hD : va_D (fun q : Nat => s.heap.size ≤ q) (lawW G x0 y0 a b pq kq sq v f (va_up g 0 s_items_1)) := hD
      refine lv_aload_n hx hb dL_law_1331 rfl (lv_at hl 2 rfl) ?_
      refine lv_aload_n hx hb dL_law_1332 rfl (lv_at hl 0 rfl) ?_
      refine lv_iload_n hx hb dL_law_1333 rfl (lv_at hl 3 rfl) ?_
      refine lv_iconst (v := 1) hx hb dL_law_1334 (by decide) ?_
      refine lv_iadd hx hb dL_law_1335 ?_
      refine va_sld hx hb hX hbl hbA hS (hin 1 (by decide)) dL_law_1336 ?_
      refine lv_aload_n hx hb dL_law_1337 rfl (lv_at hl 0 rfl) ?_
      refine lv_iload_n hx hb dL_law_1338 rfl (lv_at hl 3 rfl) ?_
      refine lv_iconst (v := 2) hx hb dL_law_1339 (by decide) ?_
      refine lv_iadd hx hb dL_law_1340 ?_
      refine va_sld hx hb hX hbl hbA hS (hin 2 (by decide)) dL_law_1341 ?_
      refine lv_aload_n hx hb dL_law_1342 rfl (lv_at hl 0 rfl) ?_
      refine lv_iload_n hx hb dL_law_1343 rfl (lv_at hl 3 rfl) ?_
      refine lv_iconst (v := 3) hx hb dL_law_1344 (by decide) ?_
      refine lv_iadd hx hb dL_law_1345 ?_
      refine va_sld hx hb hX hbl hbA hS (hin 3 (by decide)) dL_law_1346 ?_
      refine lv_aload_n hx hb dL_law_1347 rfl (lv_at hl 0 rfl) ?_
      refine lv_iload_n hx hb dL_law_1348 rfl (lv_at hl 3 rfl) ?_
      refine lv_iconst (v := 4) hx hb dL_law_1349 (by decide) ?_
      refine lv_iadd hx hb dL_law_1350 ?_
      refine va_sld hx hb hX hbl hbA hS (hin 4 (by decide)) dL_law_1351 ?_
      refine lv_aload_n hx hb dL_law_1352 rfl (lv_at hl 0 rfl) ?_
      refine lv_iload_n hx hb dL_law_1353 rfl (lv_at hl 3 rfl) ?_
      refine lv_iconst (v := 5) hx hb dL_law_1354 (by decide) ?_
      refine lv_iadd hx hb dL_law_1355 ?_
      refine va_sld hx hb hX hbl hbA hS (hin 5 (by decide)) dL_law_1356 ?_
      rw [hxx]
      have hc := c_X8_copy l D G H.size y0 (b 0) (b 1) (b 2) (b 3) (b 4) (b 5) (b 6) (b 7) (b 8) (b 9) (b 10) (v 37) (v 38) (v 39) (v 40) (v 41) (v 42) (v 43) (f 26) (f 27) (g 4) (xs (x3 + (1 : Int32)).toNatClampNeg) (xs (x3 + (2 : Int32)).toNatClampNeg) (xs (x3 + (1 : Int32)).toNatClampNeg) (xs (x3 + (4 : Int32)).toNatClampNeg) (xs (x3 + (5 : Int32)).toNatClampNeg) _ hw
      refine x_cPi (va_runV (As := [.int (xs (x3 + (1 : Int32)).toNatClampNeg), .int (xs (x3 + (2 : Int32)).toNatClampNeg), .int (xs (x3 + (1 : Int32)).toNatClampNeg), .int (xs (x3 + (4 : Int32)).toNatClampNeg), .int (xs (x3 + (5 : Int32)).toNatClampNeg)]) (rest := [.int r1]) ⟨hx, hb, hml, hown, hts⟩ hc (cwV 5 hts gL_law_X8_copy rfl rfl rfl (by decide +kernel) ⟨(Nat.le_of_ble_eq_true rfl), (Nat.le_of_ble_eq_true rfl)⟩) (xM_pv (hP.sub [54, 55, 56, 57] rfl) hK (hD.sub [54, 55, 56, 57] (by decide) rfl) (va_recv hK hP (ci := 8) (q0 := 54) rfl rfl)) rfl rfl hl.1 rfl (lv_room (Nat.le_of_ble_eq_true rfl)) dL_law_1357 ⟨(Nat.le_of_ble_eq_true rfl), (Nat.le_of_ble_eq_true rfl)⟩) hP hD hS hA [54, 55, 56, 57] rfl (fun u => rfl) (fun u => (lawW G x0 y0 a b pq kq sq v f (va_up (va_up g 0 s_items_1) 4 u))) (fun u => rfl) (fun r2 u H locs hw hP hD hS => ?_)
      obtain ⟨m_item_2, rfl⟩ : ∃ z, z = u := ⟨_, rfl⟩
      try dsimp only at hw
      replace hP : va_P D vwCl (lawW G x0 y0 a b pq kq sq v f (va_up (va_up g 0 s_items_1) 4 m_item_2)) H := hP
      replace hD : va_D (fun q : Nat => s.heap.size ≤ q) (lawW G x0 y0 a b pq kq sq v f (va_up (va_up g 0 s_items_1) 4 m_item_2)) := hD
      refine lv_icmp_eq (tgt := 1365) hx hb dL_law_1360 (by decide) (fun _ => ?_) (fun c9 => absurd hw.1 c9)
      exact cont _ _ _ _ _ _ hw.2 hP hD hS hl
    · have hq : sq ((xs (x3 + (1 : Int32)).toNatClampNeg)).toNatClampNeg = sq 1 := x_sq hsq hj
      have hw := hSt_copyS v f g (xs (x3 + (1 : Int32)).toNatClampNeg) (xs (x3 + (2 : Int32)).toNatClampNeg) (xs (x3 + (4 : Int32)).toNatClampNeg) (xs (x3 + (5 : Int32)).toNatClampNeg) 1 hj hR
      rw [hxx]
      have hc := c_X7_copyS l D G H.size x0 (a 0) (a 14) (a 28) (a 33) (a 38) (a 40) (a 44) sq (a 48) (v 0) (v (29 + 1)) (v (33 + 1)) (g 1) (xs (x3 + (1 : Int32)).toNatClampNeg) (xs (x3 + (2 : Int32)).toNatClampNeg) (xs (x3 + (4 : Int32)).toNatClampNeg) (xs (x3 + (5 : Int32)).toNatClampNeg) _ hw
      rw [hq] at hc
      refine x_cPi (va_runV (As := [.int (xs (x3 + (1 : Int32)).toNatClampNeg), .int (xs (x3 + (2 : Int32)).toNatClampNeg), .int (xs (x3 + (1 : Int32)).toNatClampNeg), .int (xs (x3 + (4 : Int32)).toNatClampNeg), .int (xs (x3 + (5 : Int32)).toNatClampNeg)]) (rest := []) ⟨hx, hb, hml, hown, hts⟩ hc (cwV 5 hts gL_law_X7_copy rfl rfl rfl (by decide +kernel) ⟨(Nat.le_of_ble_eq_true rfl), (Nat.le_of_ble_eq_true rfl)⟩) (xM_pv (hP.sub [0, 45, 48, 49] rfl) hK (hD.sub [0, 45, 48, 49] (by decide) rfl) (va_recv hK hP (ci := 7) (q0 := 0) rfl rfl)) rfl rfl hl.1 rfl (lv_room (Nat.le_of_ble_eq_true rfl)) dL_law_1328 ⟨(Nat.le_of_ble_eq_true rfl), (Nat.le_of_ble_eq_true rfl)⟩) hP hD hS hA [0, 45, 48, 49] rfl (fun u => rfl) (fun u => (lawW G x0 y0 a b pq kq sq v f (va_up g 1 u))) (fun u => rfl) (fun r1 u H locs hw hP hD hS => ?_)
      obtain ⟨s_items_1, rfl⟩ : ∃ z, z = u := ⟨_, rfl⟩
      try dsimp only at hw
      replace hP : va_P D vwCl (lawW G x0 y0 a b pq kq sq v f (va_up g 1 s_items_1)) H := hP
      replace hD : va_D (fun q : Nat => s.heap.size ≤ q) (lawW G x0 y0 a b pq kq sq v f (va_up g 1 s_items_1)) := hD
      refine lv_aload_n hx hb dL_law_1331 rfl (lv_at hl 2 rfl) ?_
      refine lv_aload_n hx hb dL_law_1332 rfl (lv_at hl 0 rfl) ?_
      refine lv_iload_n hx hb dL_law_1333 rfl (lv_at hl 3 rfl) ?_
      refine lv_iconst (v := 1) hx hb dL_law_1334 (by decide) ?_
      refine lv_iadd hx hb dL_law_1335 ?_
      refine va_sld hx hb hX hbl hbA hS (hin 1 (by decide)) dL_law_1336 ?_
      refine lv_aload_n hx hb dL_law_1337 rfl (lv_at hl 0 rfl) ?_
      refine lv_iload_n hx hb dL_law_1338 rfl (lv_at hl 3 rfl) ?_
      refine lv_iconst (v := 2) hx hb dL_law_1339 (by decide) ?_
      refine lv_iadd hx hb dL_law_1340 ?_
      refine va_sld hx hb hX hbl hbA hS (hin 2 (by decide)) dL_law_1341 ?_
      refine lv_aload_n hx hb dL_law_1342 rfl (lv_at hl 0 rfl) ?_
      refine lv_iload_n hx hb dL_law_1343 rfl (lv_at hl 3 rfl) ?_
      refine lv_iconst (v := 3) hx hb dL_law_1344 (by decide) ?_
      refine lv_iadd hx hb dL_law_1345 ?_
      refine va_sld hx hb hX hbl hbA hS (hin 3 (by decide)) dL_law_1346 ?_
      refine lv_aload_n hx hb dL_law_1347 rfl (lv_at hl 0 rfl) ?_
      refine lv_iload_n hx hb dL_law_1348 rfl (lv_at hl 3 rfl) ?_
      refine lv_iconst (v := 4) hx hb dL_law_1349 (by decide) ?_
      refine lv_iadd hx hb dL_law_1350 ?_
      refine va_sld hx hb hX hbl hbA hS (hin 4 (by decide)) dL_law_1351 ?_
      refine lv_aload_n hx hb dL_law_1352 rfl (lv_at hl 0 rfl) ?_
      refine lv_iload_n hx hb dL_law_1353 rfl (lv_at hl 3 rfl) ?_
      refine lv_iconst (v := 5) hx hb dL_law_1354 (by decide) ?_
      refine lv_iadd hx hb dL_law_1355 ?_
      refine va_sld hx hb hX hbl hbA hS (hin 5 (by decide)) dL_law_1356 ?_
      rw [hxx]
      have hc := c_X8_copy l D G H.size y0 (b 0) (b 1) (b 2) (b 3) (b 4) (b 5) (b 6) (b 7) (b 8) (b 9) (b 10) (v 37) (v 38) (v 39) (v 40) (v 41) (v 42) (v 43) (f 26) (f 27) (g 4) (xs (x3 + (1 : Int32)).toNatClampNeg) (xs (x3 + (2 : Int32)).toNatClampNeg) (xs (x3 + (1 : Int32)).toNatClampNeg) (xs (x3 + (4 : Int32)).toNatClampNeg) (xs (x3 + (5 : Int32)).toNatClampNeg) _ hw
      refine x_cPi (va_runV (As := [.int (xs (x3 + (1 : Int32)).toNatClampNeg), .int (xs (x3 + (2 : Int32)).toNatClampNeg), .int (xs (x3 + (1 : Int32)).toNatClampNeg), .int (xs (x3 + (4 : Int32)).toNatClampNeg), .int (xs (x3 + (5 : Int32)).toNatClampNeg)]) (rest := [.int r1]) ⟨hx, hb, hml, hown, hts⟩ hc (cwV 5 hts gL_law_X8_copy rfl rfl rfl (by decide +kernel) ⟨(Nat.le_of_ble_eq_true rfl), (Nat.le_of_ble_eq_true rfl)⟩) (xM_pv (hP.sub [54, 55, 56, 57] rfl) hK (hD.sub [54, 55, 56, 57] (by decide) rfl) (va_recv hK hP (ci := 8) (q0 := 54) rfl rfl)) rfl rfl hl.1 rfl (lv_room (Nat.le_of_ble_eq_true rfl)) dL_law_1357 ⟨(Nat.le_of_ble_eq_true rfl), (Nat.le_of_ble_eq_true rfl)⟩) hP hD hS hA [54, 55, 56, 57] rfl (fun u => rfl) (fun u => (lawW G x0 y0 a b pq kq sq v f (va_up (va_up g 1 s_items_1) 4 u))) (fun u => rfl) (fun r2 u H locs hw hP hD hS => ?_)
      obtain ⟨m_item_2, rfl⟩ : ∃ z, z = u := ⟨_, rfl⟩
      try dsimp only at hw
      replace hP : va_P D vwCl (lawW G x0 y0 a b pq kq sq v f (va_up (va_up g 1 s_items_1) 4 m_item_2)) H := hP
      replace hD : va_D (fun q : Nat => s.heap.size ≤ q) (lawW G x0 y0 a b pq kq sq v f (va_up (va_up g 1 s_items_1) 4 m_item_2)) := hD
      refine lv_icmp_eq (tgt := 1365) hx hb dL_law_1360 (by decide) (fun _ => ?_) (fun c9 => absurd hw.1 c9)
      exact cont _ _ _ _ _ _ hw.2 hP hD hS hl
    · have hq : sq ((xs (x3 + (1 : Int32)).toNatClampNeg)).toNatClampNeg = sq 2 := x_sq hsq hj
      have hw := hSt_copyS v f g (xs (x3 + (1 : Int32)).toNatClampNeg) (xs (x3 + (2 : Int32)).toNatClampNeg) (xs (x3 + (4 : Int32)).toNatClampNeg) (xs (x3 + (5 : Int32)).toNatClampNeg) 2 hj hR
      rw [hxx]
      have hc := c_X7_copyS l D G H.size x0 (a 0) (a 14) (a 28) (a 33) (a 38) (a 40) (a 44) sq (a 50) (v 0) (v (29 + 2)) (v (33 + 2)) (g 2) (xs (x3 + (1 : Int32)).toNatClampNeg) (xs (x3 + (2 : Int32)).toNatClampNeg) (xs (x3 + (4 : Int32)).toNatClampNeg) (xs (x3 + (5 : Int32)).toNatClampNeg) _ hw
      rw [hq] at hc
      refine x_cPi (va_runV (As := [.int (xs (x3 + (1 : Int32)).toNatClampNeg), .int (xs (x3 + (2 : Int32)).toNatClampNeg), .int (xs (x3 + (1 : Int32)).toNatClampNeg), .int (xs (x3 + (4 : Int32)).toNatClampNeg), .int (xs (x3 + (5 : Int32)).toNatClampNeg)]) (rest := []) ⟨hx, hb, hml, hown, hts⟩ hc (cwV 5 hts gL_law_X7_copy rfl rfl rfl (by decide +kernel) ⟨(Nat.le_of_ble_eq_true rfl), (Nat.le_of_ble_eq_true rfl)⟩) (xM_pv (hP.sub [0, 45, 50, 51] rfl) hK (hD.sub [0, 45, 50, 51] (by decide) rfl) (va_recv hK hP (ci := 7) (q0 := 0) rfl rfl)) rfl rfl hl.1 rfl (lv_room (Nat.le_of_ble_eq_true rfl)) dL_law_1328 ⟨(Nat.le_of_ble_eq_true rfl), (Nat.le_of_ble_eq_true rfl)⟩) hP hD hS hA [0, 45, 50, 51] rfl (fun u => rfl) (fun u => (lawW G x0 y0 a b pq kq sq v f (va_up g 2 u))) (fun u => rfl) (fun r1 u H locs hw hP hD hS => ?_)
      obtain ⟨s_items_1, rfl⟩ : ∃ z, z = u := ⟨_, rfl⟩
      try dsimp only at hw
      replace hP : va_P D vwCl (lawW G x0 y0 a b pq kq sq v f (va_up g 2 s_items_1)) H := hP
      replace hD : va_D (fun q : Nat => s.heap.size ≤ q) (lawW G x0 y0 a b pq kq sq v f (va_up g 2 s_items_1)) := hD
      refine lv_aload_n hx hb dL_law_1331 rfl (lv_at hl 2 rfl) ?_
      refine lv_aload_n hx hb dL_law_1332 rfl (lv_at hl 0 rfl) ?_
      refine lv_iload_n hx hb dL_law_1333 rfl (lv_at hl 3 rfl) ?_
      refine lv_iconst (v := 1) hx hb dL_law_1334 (by decide) ?_
      refine lv_iadd hx hb dL_law_1335 ?_
      refine va_sld hx hb hX hbl hbA hS (hin 1 (by decide)) dL_law_1336 ?_
      refine lv_aload_n hx hb dL_law_1337 rfl (lv_at hl 0 rfl) ?_
      refine lv_iload_n hx hb dL_law_1338 rfl (lv_at hl 3 rfl) ?_
      refine lv_iconst (v := 2) hx hb dL_law_1339 (by decide) ?_
      refine lv_iadd hx hb dL_law_1340 ?_
      refine va_sld hx hb hX hbl hbA hS (hin 2 (by decide)) dL_law_1341 ?_
      refine lv_aload_n hx hb dL_law_1342 rfl (lv_at hl 0 rfl) ?_
      refine lv_iload_n hx hb dL_law_1343 rfl (lv_at hl 3 rfl) ?_
      refine lv_iconst (v := 3) hx hb dL_law_1344 (by decide) ?_
      refine lv_iadd hx hb dL_law_1345 ?_
      refine va_sld hx hb hX hbl hbA hS (hin 3 (by decide)) dL_law_1346 ?_
      refine lv_aload_n hx hb dL_law_1347 rfl (lv_at hl 0 rfl) ?_
      refine lv_iload_n hx hb dL_law_1348 rfl (lv_at hl 3 rfl) ?_
      refine lv_iconst (v := 4) hx hb dL_law_1349 (by decide) ?_
      refine lv_iadd hx hb dL_law_1350 ?_
      refine va_sld hx hb hX hbl hbA hS (hin 4 (by decide)) dL_law_1351 ?_
      refine lv_aload_n hx hb dL_law_1352 rfl (lv_at hl 0 rfl) ?_
      refine lv_iload_n hx hb dL_law_1353 rfl (lv_at hl 3 rfl) ?_
      refine lv_iconst (v := 5) hx hb dL_law_1354 (by decide) ?_
      refine lv_iadd hx hb dL_law_1355 ?_
      refine va_sld hx hb hX hbl hbA hS (hin 5 (by decide)) dL_law_1356 ?_
      rw [hxx]
      have hc := c_X8_copy l D G H.size y0 (b 0) (b 1) (b 2) (b 3) (b 4) (b 5) (b 6) (b 7) (b 8) (b 9) (b 10) (v 37) (v 38) (v 39) (v 40) (v 41) (v 42) (v 43) (f 26) (f 27) (g 4) (xs (x3 + (1 : Int32)).toNatClampNeg) (xs (x3 + (2 : Int32)).toNatClampNeg) (xs (x3 + (1 : Int32)).toNatClampNeg) (xs (x3 + (4 : Int32)).toNatClampNeg) (xs (x3 + (5 : Int32)).toNatClampNeg) _ hw
      refine x_cPi (va_runV (As := [.int (xs (x3 + (1 : Int32)).toNatClampNeg), .int (xs (x3 + (2 : Int32)).toNatClampNeg), .int (xs (x3 + (1 : Int32)).toNatClampNeg), .int (xs (x3 + (4 : Int32)).toNatClampNeg), .int (xs (x3 + (5 : Int32)).toNatClampNeg)]) (rest := [.int r1]) ⟨hx, hb, hml, hown, hts⟩ hc (cwV 5 hts gL_law_X8_copy rfl rfl rfl (by decide +kernel) ⟨(Nat.le_of_ble_eq_true rfl), (Nat.le_of_ble_eq_true rfl)⟩) (xM_pv (hP.sub [54, 55, 56, 57] rfl) hK (hD.sub [54, 55, 56, 57] (by decide) rfl) (va_recv hK hP (ci := 8) (q0 := 54) rfl rfl)) rfl rfl hl.1 rfl (lv_room (Nat.le_of_ble_eq_true rfl)) dL_law_1357 ⟨(Nat.le_of_ble_eq_true rfl), (Nat.le_of_ble_eq_true rfl)⟩) hP hD hS hA [54, 55, 56, 57] rfl (fun u => rfl) (fun u => (lawW G x0 y0 a b pq kq sq v f (va_up (va_up g 2 s_items_1) 4 u))) (fun u => rfl) (fun r2 u H locs hw hP hD hS => ?_)
      obtain ⟨m_item_2, rfl⟩ : ∃ z, z = u := ⟨_, rfl⟩
      try dsimp only at hw
      replace hP : va_P D vwCl (lawW G x0 y0 a b pq kq sq v f (va_up (va_up g 2 s_items_1) 4 m_item_2)) H := hP
      replace hD : va_D (fun q : Nat => s.heap.size ≤ q) (lawW G x0 y0 a b pq kq sq v f (va_up (va_up g 2 s_items_1) 4 m_item_2)) := hD
      refine lv_icmp_eq (tgt := 1365) hx hb dL_law_1360 (by decide) (fun _ => ?_) (fun c9 => absurd hw.1 c9)
      exact cont _ _ _ _ _ _ hw.2 hP hD hS hl
    · have hq : sq ((xs (x3 + (1 : Int32)).toNatClampNeg)).toNatClampNeg = sq 3 := x_sq hsq hj
      have hw := hSt_copyS v f g (xs (x3 + (1 : Int32)).toNatClampNeg) (xs (x3 + (2 : Int32)).toNatClampNeg) (xs (x3 + (4 : Int32)).toNatClampNeg) (xs (x3 + (5 : Int32)).toNatClampNeg) 3 hj hR
      rw [hxx]
      have hc := c_X7_copyS l D G H.size x0 (a 0) (a 14) (a 28) (a 33) (a 38) (a 40) (a 44) sq (a 52) (v 0) (v (29 + 3)) (v (33 + 3)) (g 3) (xs (x3 + (1 : Int32)).toNatClampNeg) (xs (x3 + (2 : Int32)).toNatClampNeg) (xs (x3 + (4 : Int32)).toNatClampNeg) (xs (x3 + (5 : Int32)).toNatClampNeg) _ hw
      rw [hq] at hc
      refine x_cPi (va_runV (As := [.int (xs (x3 + (1 : Int32)).toNatClampNeg), .int (xs (x3 + (2 : Int32)).toNatClampNeg), .int (xs (x3 + (1 : Int32)).toNatClampNeg), .int (xs (x3 + (4 : Int32)).toNatClampNeg), .int (xs (x3 + (5 : Int32)).toNatClampNeg)]) (rest := []) ⟨hx, hb, hml, hown, hts⟩ hc (cwV 5 hts gL_law_X7_copy rfl rfl rfl (by decide +kernel) ⟨(Nat.le_of_ble_eq_true rfl), (Nat.le_of_ble_eq_true rfl)⟩) (xM_pv (hP.sub [0, 45, 52, 53] rfl) hK (hD.sub [0, 45, 52, 53] (by decide) rfl) (va_recv hK hP (ci := 7) (q0 := 0) rfl rfl)) rfl rfl hl.1 rfl (lv_room (Nat.le_of_ble_eq_true rfl)) dL_law_1328 ⟨(Nat.le_of_ble_eq_true rfl), (Nat.le_of_ble_eq_true rfl)⟩) hP hD hS hA [0, 45, 52, 53] rfl (fun u => rfl) (fun u => (lawW G x0 y0 a b pq kq sq v f (va_up g 3 u))) (fun u => rfl) (fun r1 u H locs hw hP hD hS => ?_)
      obtain ⟨s_items_1, rfl⟩ : ∃ z, z = u := ⟨_, rfl⟩
      try dsimp only at hw
      replace hP : va_P D vwCl (lawW G x0 y0 a b pq kq sq v f (va_up g 3 s_items_1)) H := hP
      replace hD : va_D (fun q : Nat => s.heap.size ≤ q) (lawW G x0 y0 a b pq kq sq v f (va_up g 3 s_items_1)) := hD
      refine lv_aload_n hx hb dL_law_1331 rfl (lv_at hl 2 rfl) ?_
      refine lv_aload_n hx hb dL_law_1332 rfl (lv_at hl 0 rfl) ?_
      refine lv_iload_n hx hb dL_law_1333 rfl (lv_at hl 3 rfl) ?_
      refine lv_iconst (v := 1) hx hb dL_law_1334 (by decide) ?_
      refine lv_iadd hx hb dL_law_1335 ?_
      refine va_sld hx hb hX hbl hbA hS (hin 1 (by decide)) dL_law_1336 ?_
      refine lv_aload_n hx hb dL_law_1337 rfl (lv_at hl 0 rfl) ?_
      refine lv_iload_n hx hb dL_law_1338 rfl (lv_at hl 3 rfl) ?_
      refine lv_iconst (v := 2) hx hb dL_law_1339 (by decide) ?_
      refine lv_iadd hx hb dL_law_1340 ?_
      refine va_sld hx hb hX hbl hbA hS (hin 2 (by decide)) dL_law_1341 ?_
      refine lv_aload_n hx hb dL_law_1342 rfl (lv_at hl 0 rfl) ?_
      refine lv_iload_n hx hb dL_law_1343 rfl (lv_at hl 3 rfl) ?_
      refine lv_iconst (v := 3) hx hb dL_law_1344 (by decide) ?_
      refine lv_iadd hx hb dL_law_1345 ?_
      refine va_sld hx hb hX hbl hbA hS (hin 3 (by decide)) dL_law_1346 ?_
      refine lv_aload_n hx hb dL_law_1347 rfl (lv_at hl 0 rfl) ?_
      refine lv_iload_n hx hb dL_law_1348 rfl (lv_at hl 3 rfl) ?_
      refine lv_iconst (v := 4) hx hb dL_law_1349 (by decide) ?_
      refine lv_iadd hx hb dL_law_1350 ?_
      refine va_sld hx hb hX hbl hbA hS (hin 4 (by decide)) dL_law_1351 ?_
      refine lv_aload_n hx hb dL_law_1352 rfl (lv_at hl 0 rfl) ?_
      refine lv_iload_n hx hb dL_law_1353 rfl (lv_at hl 3 rfl) ?_
      refine lv_iconst (v := 5) hx hb dL_law_1354 (by decide) ?_
      refine lv_iadd hx hb dL_law_1355 ?_
      refine va_sld hx hb hX hbl hbA hS (hin 5 (by decide)) dL_law_1356 ?_
      rw [hxx]
      have hc := c_X8_copy l D G H.size y0 (b 0) (b 1) (b 2) (b 3) (b 4) (b 5) (b 6) (b 7) (b 8) (b 9) (b 10) (v 37) (v 38) (v 39) (v 40) (v 41) (v 42) (v 43) (f 26) (f 27) (g 4) (xs (x3 + (1 : Int32)).toNatClampNeg) (xs (x3 + (2 : Int32)).toNatClampNeg) (xs (x3 + (1 : Int32)).toNatClampNeg) (xs (x3 + (4 : Int32)).toNatClampNeg) (xs (x3 + (5 : Int32)).toNatClampNeg) _ hw
      refine x_cPi (va_runV (As := [.int (xs (x3 + (1 : Int32)).toNatClampNeg), .int (xs (x3 + (2 : Int32)).toNatClampNeg), .int (xs (x3 + (1 : Int32)).toNatClampNeg), .int (xs (x3 + (4 : Int32)).toNatClampNeg), .int (xs (x3 + (5 : Int32)).toNatClampNeg)]) (rest := [.int r1]) ⟨hx, hb, hml, hown, hts⟩ hc (cwV 5 hts gL_law_X8_copy rfl rfl rfl (by decide +kernel) ⟨(Nat.le_of_ble_eq_true rfl), (Nat.le_of_ble_eq_true rfl)⟩) (xM_pv (hP.sub [54, 55, 56, 57] rfl) hK (hD.sub [54, 55, 56, 57] (by decide) rfl) (va_recv hK hP (ci := 8) (q0 := 54) rfl rfl)) rfl rfl hl.1 rfl (lv_room (Nat.le_of_ble_eq_true rfl)) dL_law_1357 ⟨(Nat.le_of_ble_eq_true rfl), (Nat.le_of_ble_eq_true rfl)⟩) hP hD hS hA [54, 55, 56, 57] rfl (fun u => rfl) (fun u => (lawW G x0 y0 a b pq kq sq v f (va_up (va_up g 3 s_items_1) 4 u))) (fun u => rfl) (fun r2 u H locs hw hP hD hS => ?_)
      obtain ⟨m_item_2, rfl⟩ : ∃ z, z = u := ⟨_, rfl⟩
      try dsimp only at hw
      replace hP : va_P D vwCl (lawW G x0 y0 a b pq kq sq v f (va_up (va_up g 3 s_items_1) 4 m_item_2)) H := hP
      replace hD : va_D (fun q : Nat => s.heap.size ≤ q) (lawW G x0 y0 a b pq kq sq v f (va_up (va_up g 3 s_items_1) 4 m_item_2)) := hD
      refine lv_icmp_eq (tgt := 1365) hx hb dL_law_1360 (by decide) (fun _ => ?_) (fun c9 => absurd hw.1 c9)
      exact cont _ _ _ _ _ _ hw.2 hP hD hS hl
  · by_cases hbb : vp_in (xs (x3 + (1 : Int32)).toNatClampNeg) 4 ∧ vp_in (xs (x3 + (3 : Int32)).toNatClampNeg) 4
    · rcases x_sjv hbb.1 with ⟨hj, ej⟩ | ⟨hj, ej⟩ | ⟨hj, ej⟩ | ⟨hj, ej⟩
      · have hq : sq ((xs (x3 + (1 : Int32)).toNatClampNeg)).toNatClampNeg = sq 0 := x_sq hsq hj
        rcases x_sjv hbb.2 with ⟨hi, ei⟩ | ⟨hi, ei⟩ | ⟨hi, ei⟩ | ⟨hi, ei⟩
        · exact absurd (ei.trans ej.symm) hxx
        · have hq2 : sq ((xs (x3 + (3 : Int32)).toNatClampNeg)).toNatClampNeg = sq 1 := x_sq hsq hi
          have hw := hSt_copyD v f g (xs (x3 + (1 : Int32)).toNatClampNeg) (xs (x3 + (2 : Int32)).toNatClampNeg) (xs (x3 + (3 : Int32)).toNatClampNeg) (xs (x3 + (4 : Int32)).toNatClampNeg) (xs (x3 + (5 : Int32)).toNatClampNeg) 0 1 hj hi (by decide) hR
          have hc := c_X7_copy l D G H.size x0 (a 0) (a 14) (a 28) (a 33) (a 38) (a 40) (a 44) sq (a 46) (a 48) (v 0) (v (29 + 0)) (v (33 + 0)) (g 0) (v (29 + 1)) (v (33 + 1)) (g 1) (xs (x3 + (1 : Int32)).toNatClampNeg) (xs (x3 + (2 : Int32)).toNatClampNeg) (xs (x3 + (3 : Int32)).toNatClampNeg) (xs (x3 + (4 : Int32)).toNatClampNeg) (xs (x3 + (5 : Int32)).toNatClampNeg) _ hw
          rw [hq, hq2] at hc
          refine x_cPi (va_runV (As := [.int (xs (x3 + (1 : Int32)).toNatClampNeg), .int (xs (x3 + (2 : Int32)).toNatClampNeg), .int (xs (x3 + (3 : Int32)).toNatClampNeg), .int (xs (x3 + (4 : Int32)).toNatClampNeg), .int (xs (x3 + (5 : Int32)).toNatClampNeg)]) (rest := []) ⟨hx, hb, hml, hown, hts⟩ hc (cwV 5 hts gL_law_X7_copy rfl rfl rfl (by decide +kernel) ⟨(Nat.le_of_ble_eq_true rfl), (Nat.le_of_ble_eq_true rfl)⟩) (xM_pv (hP.sub [0, 45, 46, 47, 48, 49] rfl) hK (hD.sub [0, 45, 46, 47, 48, 49] (by decide) rfl) (va_recv hK hP (ci := 7) (q0 := 0) rfl rfl)) rfl rfl hl.1 rfl (lv_room (Nat.le_of_ble_eq_true rfl)) dL_law_1328 ⟨(Nat.le_of_ble_eq_true rfl), (Nat.le_of_ble_eq_true rfl)⟩) hP hD hS hA [0, 45, 46, 47, 48, 49] rfl (fun u => rfl) (fun u => (lawW G x0 y0 a b pq kq sq v f (va_up g 1 u))) (fun u => rfl) (fun r1 u H locs hw hP hD hS => ?_)
          obtain ⟨z_items_1, rfl⟩ : ∃ z, z = u := ⟨_, rfl⟩
          try dsimp only at hw
          replace hP : va_P D vwCl (lawW G x0 y0 a b pq kq sq v f (va_up g 1 z_items_1)) H := hP
          replace hD : va_D (fun q : Nat => s.heap.size ≤ q) (lawW G x0 y0 a b pq kq sq v f (va_up g 1 z_items_1)) := hD
          refine lv_aload_n hx hb dL_law_1331 rfl (lv_at hl 2 rfl) ?_
          refine lv_aload_n hx hb dL_law_1332 rfl (lv_at hl 0 rfl) ?_
          refine lv_iload_n hx hb dL_law_1333 rfl (lv_at hl 3 rfl) ?_
          refine lv_iconst (v := 1) hx hb dL_law_1334 (by decide) ?_
          refine lv_iadd hx hb dL_law_1335 ?_
          refine va_sld hx hb hX hbl hbA hS (hin 1 (by decide)) dL_law_1336 ?_
          refine lv_aload_n hx hb dL_law_1337 rfl (lv_at hl 0 rfl) ?_
          refine lv_iload_n hx hb dL_law_1338 rfl (lv_at hl 3 rfl) ?_
          refine lv_iconst (v := 2) hx hb dL_law_1339 (by decide) ?_
          refine lv_iadd hx hb dL_law_1340 ?_
          refine va_sld hx hb hX hbl hbA hS (hin 2 (by decide)) dL_law_1341 ?_
          refine lv_aload_n hx hb dL_law_1342 rfl (lv_at hl 0 rfl) ?_
          refine lv_iload_n hx hb dL_law_1343 rfl (lv_at hl 3 rfl) ?_
          refine lv_iconst (v := 3) hx hb dL_law_1344 (by decide) ?_
          refine lv_iadd hx hb dL_law_1345 ?_
          refine va_sld hx hb hX hbl hbA hS (hin 3 (by decide)) dL_law_1346 ?_
          refine lv_aload_n hx hb dL_law_1347 rfl (lv_at hl 0 rfl) ?_
          refine lv_iload_n hx hb dL_law_1348 rfl (lv_at hl 3 rfl) ?_
          refine lv_iconst (v := 4) hx hb dL_law_1349 (by decide) ?_
          refine lv_iadd hx hb dL_law_1350 ?_
          refine va_sld hx hb hX hbl hbA hS (hin 4 (by decide)) dL_law_1351 ?_
          refine lv_aload_n hx hb dL_law_1352 rfl (lv_at hl 0 rfl) ?_
          refine lv_iload_n hx hb dL_law_1353 rfl (lv_at hl 3 rfl) ?_
          refine lv_iconst (v := 5) hx hb dL_law_1354 (by decide) ?_
          refine lv_iadd hx hb dL_law_1355 ?_
          refine va_sld hx hb hX hbl hbA hS (hin 5 (by decide)) dL_law_1356 ?_
          have hc := c_X8_copy l D G H.size y0 (b 0) (b 1) (b 2) (b 3) (b 4) (b 5) (b 6) (b 7) (b 8) (b 9) (b 10) (v 37) (v 38) (v 39) (v 40) (v 41) (v 42) (v 43) (f 26) (f 27) (g 4) (xs (x3 + (1 : Int32)).toNatClampNeg) (xs (x3 + (2 : Int32)).toNatClampNeg) (xs (x3 + (3 : Int32)).toNatClampNeg) (xs (x3 + (4 : Int32)).toNatClampNeg) (xs (x3 + (5 : Int32)).toNatClampNeg) _ hw
          refine x_cPi (va_runV (As := [.int (xs (x3 + (1 : Int32)).toNatClampNeg), .int (xs (x3 + (2 : Int32)).toNatClampNeg), .int (xs (x3 + (3 : Int32)).toNatClampNeg), .int (xs (x3 + (4 : Int32)).toNatClampNeg), .int (xs (x3 + (5 : Int32)).toNatClampNeg)]) (rest := [.int r1]) ⟨hx, hb, hml, hown, hts⟩ hc (cwV 5 hts gL_law_X8_copy rfl rfl rfl (by decide +kernel) ⟨(Nat.le_of_ble_eq_true rfl), (Nat.le_of_ble_eq_true rfl)⟩) (xM_pv (hP.sub [54, 55, 56, 57] rfl) hK (hD.sub [54, 55, 56, 57] (by decide) rfl) (va_recv hK hP (ci := 8) (q0 := 54) rfl rfl)) rfl rfl hl.1 rfl (lv_room (Nat.le_of_ble_eq_true rfl)) dL_law_1357 ⟨(Nat.le_of_ble_eq_true rfl), (Nat.le_of_ble_eq_true rfl)⟩) hP hD hS hA [54, 55, 56, 57] rfl (fun u => rfl) (fun u => (lawW G x0 y0 a b pq kq sq v f (va_up (va_up g 1 z_items_1) 4 u))) (fun u => rfl) (fun r2 u H locs hw hP hD hS => ?_)
          obtain ⟨m_item_2, rfl⟩ : ∃ z, z = u := ⟨_, rfl⟩
          try dsimp only at hw
          replace hP : va_P D vwCl (lawW G x0 y0 a b pq kq sq v f (va_up (va_up g 1 z_items_1) 4 m_item_2)) H := hP
          replace hD : va_D (fun q : Nat => s.heap.size ≤ q) (lawW G x0 y0 a b pq kq sq v f (va_up (va_up g 1 z_items_1) 4 m_item_2)) := hD
          refine lv_icmp_eq (tgt := 1365) hx hb dL_law_1360 (by decide) (fun _ => ?_) (fun c9 => absurd hw.1 c9)
          exact cont _ _ _ _ _ _ hw.2 hP hD hS hl
        · have hq2 : sq ((xs (x3 + (3 : Int32)).toNatClampNeg)).toNatClampNeg = sq 2 := x_sq hsq hi
          have hw := hSt_copyD v f g (xs (x3 + (1 : Int32)).toNatClampNeg) (xs (x3 + (2 : Int32)).toNatClampNeg) (xs (x3 + (3 : Int32)).toNatClampNeg) (xs (x3 + (4 : Int32)).toNatClampNeg) (xs (x3 + (5 : Int32)).toNatClampNeg) 0 2 hj hi (by decide) hR
          have hc := c_X7_copy l D G H.size x0 (a 0) (a 14) (a 28) (a 33) (a 38) (a 40) (a 44) sq (a 46) (a 50) (v 0) (v (29 + 0)) (v (33 + 0)) (g 0) (v (29 + 2)) (v (33 + 2)) (g 2) (xs (x3 + (1 : Int32)).toNatClampNeg) (xs (x3 + (2 : Int32)).toNatClampNeg) (xs (x3 + (3 : Int32)).toNatClampNeg) (xs (x3 + (4 : Int32)).toNatClampNeg) (xs (x3 + (5 : Int32)).toNatClampNeg) _ hw
          rw [hq, hq2] at hc
          refine x_cPi (va_runV (As := [.int (xs (x3 + (1 : Int32)).toNatClampNeg), .int (xs (x3 + (2 : Int32)).toNatClampNeg), .int (xs (x3 + (3 : Int32)).toNatClampNeg), .int (xs (x3 + (4 : Int32)).toNatClampNeg), .int (xs (x3 + (5 : Int32)).toNatClampNeg)]) (rest := []) ⟨hx, hb, hml, hown, hts⟩ hc (cwV 5 hts gL_law_X7_copy rfl rfl rfl (by decide +kernel) ⟨(Nat.le_of_ble_eq_true rfl), (Nat.le_of_ble_eq_true rfl)⟩) (xM_pv (hP.sub [0, 45, 46, 47, 50, 51] rfl) hK (hD.sub [0, 45, 46, 47, 50, 51] (by decide) rfl) (va_recv hK hP (ci := 7) (q0 := 0) rfl rfl)) rfl rfl hl.1 rfl (lv_room (Nat.le_of_ble_eq_true rfl)) dL_law_1328 ⟨(Nat.le_of_ble_eq_true rfl), (Nat.le_of_ble_eq_true rfl)⟩) hP hD hS hA [0, 45, 46, 47, 50, 51] rfl (fun u => rfl) (fun u => (lawW G x0 y0 a b pq kq sq v f (va_up g 2 u))) (fun u => rfl) (fun r1 u H locs hw hP hD hS => ?_)
          obtain ⟨z_items_1, rfl⟩ : ∃ z, z = u := ⟨_, rfl⟩
          try dsimp only at hw
          replace hP : va_P D vwCl (lawW G x0 y0 a b pq kq sq v f (va_up g 2 z_items_1)) H := hP
          replace hD : va_D (fun q : Nat => s.heap.size ≤ q) (lawW G x0 y0 a b pq kq sq v f (va_up g 2 z_items_1)) := hD
          refine lv_aload_n hx hb dL_law_1331 rfl (lv_at hl 2 rfl) ?_
          refine lv_aload_n hx hb dL_law_1332 rfl (lv_at hl 0 rfl) ?_
          refine lv_iload_n hx hb dL_law_1333 rfl (lv_at hl 3 rfl) ?_
          refine lv_iconst (v := 1) hx hb dL_law_1334 (by decide) ?_
          refine lv_iadd hx hb dL_law_1335 ?_
          refine va_sld hx hb hX hbl hbA hS (hin 1 (by decide)) dL_law_1336 ?_
          refine lv_aload_n hx hb dL_law_1337 rfl (lv_at hl 0 rfl) ?_
          refine lv_iload_n hx hb dL_law_1338 rfl (lv_at hl 3 rfl) ?_
          refine lv_iconst (v := 2) hx hb dL_law_1339 (by decide) ?_
          refine lv_iadd hx hb dL_law_1340 ?_
          refine va_sld hx hb hX hbl hbA hS (hin 2 (by decide)) dL_law_1341 ?_
          refine lv_aload_n hx hb dL_law_1342 rfl (lv_at hl 0 rfl) ?_
          refine lv_iload_n hx hb dL_law_1343 rfl (lv_at hl 3 rfl) ?_
          refine lv_iconst (v := 3) hx hb dL_law_1344 (by decide) ?_
          refine lv_iadd hx hb dL_law_1345 ?_
          refine va_sld hx hb hX hbl hbA hS (hin 3 (by decide)) dL_law_1346 ?_
          refine lv_aload_n hx hb dL_law_1347 rfl (lv_at hl 0 rfl) ?_
          refine lv_iload_n hx hb dL_law_1348 rfl (lv_at hl 3 rfl) ?_
          refine lv_iconst (v := 4) hx hb dL_law_1349 (by decide) ?_
          refine lv_iadd hx hb dL_law_1350 ?_
          refine va_sld hx hb hX hbl hbA hS (hin 4 (by decide)) dL_law_1351 ?_
          refine lv_aload_n hx hb dL_law_1352 rfl (lv_at hl 0 rfl) ?_
          refine lv_iload_n hx hb dL_law_1353 rfl (lv_at hl 3 rfl) ?_
          refine lv_iconst (v := 5) hx hb dL_law_1354 (by decide) ?_
          refine lv_iadd hx hb dL_law_1355 ?_
          refine va_sld hx hb hX hbl hbA hS (hin 5 (by decide)) dL_law_1356 ?_
          have hc := c_X8_copy l D G H.size y0 (b 0) (b 1) (b 2) (b 3) (b 4) (b 5) (b 6) (b 7) (b 8) (b 9) (b 10) (v 37) (v 38) (v 39) (v 40) (v 41) (v 42) (v 43) (f 26) (f 27) (g 4) (xs (x3 + (1 : Int32)).toNatClampNeg) (xs (x3 + (2 : Int32)).toNatClampNeg) (xs (x3 + (3 : Int32)).toNatClampNeg) (xs (x3 + (4 : Int32)).toNatClampNeg) (xs (x3 + (5 : Int32)).toNatClampNeg) _ hw
          refine x_cPi (va_runV (As := [.int (xs (x3 + (1 : Int32)).toNatClampNeg), .int (xs (x3 + (2 : Int32)).toNatClampNeg), .int (xs (x3 + (3 : Int32)).toNatClampNeg), .int (xs (x3 + (4 : Int32)).toNatClampNeg), .int (xs (x3 + (5 : Int32)).toNatClampNeg)]) (rest := [.int r1]) ⟨hx, hb, hml, hown, hts⟩ hc (cwV 5 hts gL_law_X8_copy rfl rfl rfl (by decide +kernel) ⟨(Nat.le_of_ble_eq_true rfl), (Nat.le_of_ble_eq_true rfl)⟩) (xM_pv (hP.sub [54, 55, 56, 57] rfl) hK (hD.sub [54, 55, 56, 57] (by decide) rfl) (va_recv hK hP (ci := 8) (q0 := 54) rfl rfl)) rfl rfl hl.1 rfl (lv_room (Nat.le_of_ble_eq_true rfl)) dL_law_1357 ⟨(Nat.le_of_ble_eq_true rfl), (Nat.le_of_ble_eq_true rfl)⟩) hP hD hS hA [54, 55, 56, 57] rfl (fun u => rfl) (fun u => (lawW G x0 y0 a b pq kq sq v f (va_up (va_up g 2 z_items_1) 4 u))) (fun u => rfl) (fun r2 u H locs hw hP hD hS => ?_)
          obtain ⟨m_item_2, rfl⟩ : ∃ z, z = u := ⟨_, rfl⟩
          try dsimp only at hw
          replace hP : va_P D vwCl (lawW G x0 y0 a b pq kq sq v f (va_up (va_up g 2 z_items_1) 4 m_item_2)) H := hP
          replace hD : va_D (fun q : Nat => s.heap.size ≤ q) (lawW G x0 y0 a b pq kq sq v f (va_up (va_up g 2 z_items_1) 4 m_item_2)) := hD
          refine lv_icmp_eq (tgt := 1365) hx hb dL_law_1360 (by decide) (fun _ => ?_) (fun c9 => absurd hw.1 c9)
          exact cont _ _ _ _ _ _ hw.2 hP hD hS hl
        · have hq2 : sq ((xs (x3 + (3 : Int32)).toNatClampNeg)).toNatClampNeg = sq 3 := x_sq hsq hi
          have hw := hSt_copyD v f g (xs (x3 + (1 : Int32)).toNatClampNeg) (xs (x3 + (2 : Int32)).toNatClampNeg) (xs (x3 + (3 : Int32)).toNatClampNeg) (xs (x3 + (4 : Int32)).toNatClampNeg) (xs (x3 + (5 : Int32)).toNatClampNeg) 0 3 hj hi (by decide) hR
          have hc := c_X7_copy l D G H.size x0 (a 0) (a 14) (a 28) (a 33) (a 38) (a 40) (a 44) sq (a 46) (a 52) (v 0) (v (29 + 0)) (v (33 + 0)) (g 0) (v (29 + 3)) (v (33 + 3)) (g 3) (xs (x3 + (1 : Int32)).toNatClampNeg) (xs (x3 + (2 : Int32)).toNatClampNeg) (xs (x3 + (3 : Int32)).toNatClampNeg) (xs (x3 + (4 : Int32)).toNatClampNeg) (xs (x3 + (5 : Int32)).toNatClampNeg) _ hw
          rw [hq, hq2] at hc
          refine x_cPi (va_runV (As := [.int (xs (x3 + (1 : Int32)).toNatClampNeg), .int (xs (x3 + (2 : Int32)).toNatClampNeg), .int (xs (x3 + (3 : Int32)).toNatClampNeg), .int (xs (x3 + (4 : Int32)).toNatClampNeg), .int (xs (x3 + (5 : Int32)).toNatClampNeg)]) (rest := []) ⟨hx, hb, hml, hown, hts⟩ hc (cwV 5 hts gL_law_X7_copy rfl rfl rfl (by decide +kernel) ⟨(Nat.le_of_ble_eq_true rfl), (Nat.le_of_ble_eq_true rfl)⟩) (xM_pv (hP.sub [0, 45, 46, 47, 52, 53] rfl) hK (hD.sub [0, 45, 46, 47, 52, 53] (by decide) rfl) (va_recv hK hP (ci := 7) (q0 := 0) rfl rfl)) rfl rfl hl.1 rfl (lv_room (Nat.le_of_ble_eq_true rfl)) dL_law_1328 ⟨(Nat.le_of_ble_eq_true rfl), (Nat.le_of_ble_eq_true rfl)⟩) hP hD hS hA [0, 45, 46, 47, 52, 53] rfl (fun u => rfl) (fun u => (lawW G x0 y0 a b pq kq sq v f (va_up g 3 u))) (fun u => rfl) (fun r1 u H locs hw hP hD hS => ?_)
          obtain ⟨z_items_1, rfl⟩ : ∃ z, z = u := ⟨_, rfl⟩
          try dsimp only at hw
          replace hP : va_P D vwCl (lawW G x0 y0 a b pq kq sq v f (va_up g 3 z_items_1)) H := hP
          replace hD : va_D (fun q : Nat => s.heap.size ≤ q) (lawW G x0 y0 a b pq kq sq v f (va_up g 3 z_items_1)) := hD
          refine lv_aload_n hx hb dL_law_1331 rfl (lv_at hl 2 rfl) ?_
          refine lv_aload_n hx hb dL_law_1332 rfl (lv_at hl 0 rfl) ?_
          refine lv_iload_n hx hb dL_law_1333 rfl (lv_at hl 3 rfl) ?_
          refine lv_iconst (v := 1) hx hb dL_law_1334 (by decide) ?_
          refine lv_iadd hx hb dL_law_1335 ?_
          refine va_sld hx hb hX hbl hbA hS (hin 1 (by decide)) dL_law_1336 ?_
          refine lv_aload_n hx hb dL_law_1337 rfl (lv_at hl 0 rfl) ?_
          refine lv_iload_n hx hb dL_law_1338 rfl (lv_at hl 3 rfl) ?_
          refine lv_iconst (v := 2) hx hb dL_law_1339 (by decide) ?_
          refine lv_iadd hx hb dL_law_1340 ?_
          refine va_sld hx hb hX hbl hbA hS (hin 2 (by decide)) dL_law_1341 ?_
          refine lv_aload_n hx hb dL_law_1342 rfl (lv_at hl 0 rfl) ?_
          refine lv_iload_n hx hb dL_law_1343 rfl (lv_at hl 3 rfl) ?_
          refine lv_iconst (v := 3) hx hb dL_law_1344 (by decide) ?_
          refine lv_iadd hx hb dL_law_1345 ?_
          refine va_sld hx hb hX hbl hbA hS (hin 3 (by decide)) dL_law_1346 ?_
          refine lv_aload_n hx hb dL_law_1347 rfl (lv_at hl 0 rfl) ?_
          refine lv_iload_n hx hb dL_law_1348 rfl (lv_at hl 3 rfl) ?_
          refine lv_iconst (v := 4) hx hb dL_law_1349 (by decide) ?_
          refine lv_iadd hx hb dL_law_1350 ?_
          refine va_sld hx hb hX hbl hbA hS (hin 4 (by decide)) dL_law_1351 ?_
          refine lv_aload_n hx hb dL_law_1352 rfl (lv_at hl 0 rfl) ?_
          refine lv_iload_n hx hb dL_law_1353 rfl (lv_at hl 3 rfl) ?_
          refine lv_iconst (v := 5) hx hb dL_law_1354 (by decide) ?_
          refine lv_iadd hx hb dL_law_1355 ?_
          refine va_sld hx hb hX hbl hbA hS (hin 5 (by decide)) dL_law_1356 ?_
          have hc := c_X8_copy l D G H.size y0 (b 0) (b 1) (b 2) (b 3) (b 4) (b 5) (b 6) (b 7) (b 8) (b 9) (b 10) (v 37) (v 38) (v 39) (v 40) (v 41) (v 42) (v 43) (f 26) (f 27) (g 4) (xs (x3 + (1 : Int32)).toNatClampNeg) (xs (x3 + (2 : Int32)).toNatClampNeg) (xs (x3 + (3 : Int32)).toNatClampNeg) (xs (x3 + (4 : Int32)).toNatClampNeg) (xs (x3 + (5 : Int32)).toNatClampNeg) _ hw
          refine x_cPi (va_runV (As := [.int (xs (x3 + (1 : Int32)).toNatClampNeg), .int (xs (x3 + (2 : Int32)).toNatClampNeg), .int (xs (x3 + (3 : Int32)).toNatClampNeg), .int (xs (x3 + (4 : Int32)).toNatClampNeg), .int (xs (x3 + (5 : Int32)).toNatClampNeg)]) (rest := [.int r1]) ⟨hx, hb, hml, hown, hts⟩ hc (cwV 5 hts gL_law_X8_copy rfl rfl rfl (by decide +kernel) ⟨(Nat.le_of_ble_eq_true rfl), (Nat.le_of_ble_eq_true rfl)⟩) (xM_pv (hP.sub [54, 55, 56, 57] rfl) hK (hD.sub [54, 55, 56, 57] (by decide) rfl) (va_recv hK hP (ci := 8) (q0 := 54) rfl rfl)) rfl rfl hl.1 rfl (lv_room (Nat.le_of_ble_eq_true rfl)) dL_law_1357 ⟨(Nat.le_of_ble_eq_true rfl), (Nat.le_of_ble_eq_true rfl)⟩) hP hD hS hA [54, 55, 56, 57] rfl (fun u => rfl) (fun u => (lawW G x0 y0 a b pq kq sq v f (va_up (va_up g 3 z_items_1) 4 u))) (fun u => rfl) (fun r2 u H locs hw hP hD hS => ?_)
          obtain ⟨m_item_2, rfl⟩ : ∃ z, z = u := ⟨_, rfl⟩
          try dsimp only at hw
          replace hP : va_P D vwCl (lawW G x0 y0 a b pq kq sq v f (va_up (va_up g 3 z_items_1) 4 m_item_2)) H := hP
          replace hD : va_D (fun q : Nat => s.heap.size ≤ q) (lawW G x0 y0 a b pq kq sq v f (va_up (va_up g 3 z_items_1) 4 m_item_2)) := hD
          refine lv_icmp_eq (tgt := 1365) hx hb dL_law_1360 (by decide) (fun _ => ?_) (fun c9 => absurd hw.1 c9)
          exact cont _ _ _ _ _ _ hw.2 hP hD hS hl
      · have hq : sq ((xs (x3 + (1 : Int32)).toNatClampNeg)).toNatClampNeg = sq 1 := x_sq hsq hj
        rcases x_sjv hbb.2 with ⟨hi, ei⟩ | ⟨hi, ei⟩ | ⟨hi, ei⟩ | ⟨hi, ei⟩
        · have hq2 : sq ((xs (x3 + (3 : Int32)).toNatClampNeg)).toNatClampNeg = sq 0 := x_sq hsq hi
          have hw := hSt_copyD v f g (xs (x3 + (1 : Int32)).toNatClampNeg) (xs (x3 + (2 : Int32)).toNatClampNeg) (xs (x3 + (3 : Int32)).toNatClampNeg) (xs (x3 + (4 : Int32)).toNatClampNeg) (xs (x3 + (5 : Int32)).toNatClampNeg) 1 0 hj hi (by decide) hR
          have hc := c_X7_copy l D G H.size x0 (a 0) (a 14) (a 28) (a 33) (a 38) (a 40) (a 44) sq (a 48) (a 46) (v 0) (v (29 + 1)) (v (33 + 1)) (g 1) (v (29 + 0)) (v (33 + 0)) (g 0) (xs (x3 + (1 : Int32)).toNatClampNeg) (xs (x3 + (2 : Int32)).toNatClampNeg) (xs (x3 + (3 : Int32)).toNatClampNeg) (xs (x3 + (4 : Int32)).toNatClampNeg) (xs (x3 + (5 : Int32)).toNatClampNeg) _ hw
          rw [hq, hq2] at hc
          refine x_cPi (va_runV (As := [.int (xs (x3 + (1 : Int32)).toNatClampNeg), .int (xs (x3 + (2 : Int32)).toNatClampNeg), .int (xs (x3 + (3 : Int32)).toNatClampNeg), .int (xs (x3 + (4 : Int32)).toNatClampNeg), .int (xs (x3 + (5 : Int32)).toNatClampNeg)]) (rest := []) ⟨hx, hb, hml, hown, hts⟩ hc (cwV 5 hts gL_law_X7_copy rfl rfl rfl (by decide +kernel) ⟨(Nat.le_of_ble_eq_true rfl), (Nat.le_of_ble_eq_true rfl)⟩) (xM_pv (hP.sub [0, 45, 48, 49, 46, 47] rfl) hK (hD.sub [0, 45, 48, 49, 46, 47] (by decide) rfl) (va_recv hK hP (ci := 7) (q0 := 0) rfl rfl)) rfl rfl hl.1 rfl (lv_room (Nat.le_of_ble_eq_true rfl)) dL_law_1328 ⟨(Nat.le_of_ble_eq_true rfl), (Nat.le_of_ble_eq_true rfl)⟩) hP hD hS hA [0, 45, 48, 49, 46, 47] rfl (fun u => rfl) (fun u => (lawW G x0 y0 a b pq kq sq v f (va_up g 0 u))) (fun u => rfl) (fun r1 u H locs hw hP hD hS => ?_)
          obtain ⟨z_items_1, rfl⟩ : ∃ z, z = u := ⟨_, rfl⟩
          try dsimp only at hw
          replace hP : va_P D vwCl (lawW G x0 y0 a b pq kq sq v f (va_up g 0 z_items_1)) H := hP
          replace hD : va_D (fun q : Nat => s.heap.size ≤ q) (lawW G x0 y0 a b pq kq sq v f (va_up g 0 z_items_1)) := hD
          refine lv_aload_n hx hb dL_law_1331 rfl (lv_at hl 2 rfl) ?_
          refine lv_aload_n hx hb dL_law_1332 rfl (lv_at hl 0 rfl) ?_
          refine lv_iload_n hx hb dL_law_1333 rfl (lv_at hl 3 rfl) ?_
          refine lv_iconst (v := 1) hx hb dL_law_1334 (by decide) ?_
          refine lv_iadd hx hb dL_law_1335 ?_
          refine va_sld hx hb hX hbl hbA hS (hin 1 (by decide)) dL_law_1336 ?_
          refine lv_aload_n hx hb dL_law_1337 rfl (lv_at hl 0 rfl) ?_
          refine lv_iload_n hx hb dL_law_1338 rfl (lv_at hl 3 rfl) ?_
          refine lv_iconst (v := 2) hx hb dL_law_1339 (by decide) ?_
          refine lv_iadd hx hb dL_law_1340 ?_
          refine va_sld hx hb hX hbl hbA hS (hin 2 (by decide)) dL_law_1341 ?_
          refine lv_aload_n hx hb dL_law_1342 rfl (lv_at hl 0 rfl) ?_
          refine lv_iload_n hx hb dL_law_1343 rfl (lv_at hl 3 rfl) ?_
          refine lv_iconst (v := 3) hx hb dL_law_1344 (by decide) ?_
          refine lv_iadd hx hb dL_law_1345 ?_
          refine va_sld hx hb hX hbl hbA hS (hin 3 (by decide)) dL_law_1346 ?_
          refine lv_aload_n hx hb dL_law_1347 rfl (lv_at hl 0 rfl) ?_
          refine lv_iload_n hx hb dL_law_1348 rfl (lv_at hl 3 rfl) ?_
          refine lv_iconst (v := 4) hx hb dL_law_1349 (by decide) ?_
          refine lv_iadd hx hb dL_law_1350 ?_
          refine va_sld hx hb hX hbl hbA hS (hin 4 (by decide)) dL_law_1351 ?_
          refine lv_aload_n hx hb dL_law_1352 rfl (lv_at hl 0 rfl) ?_
          refine lv_iload_n hx hb dL_law_1353 rfl (lv_at hl 3 rfl) ?_
          refine lv_iconst (v := 5) hx hb dL_law_1354 (by decide) ?_
          refine lv_iadd hx hb dL_law_1355 ?_
          refine va_sld hx hb hX hbl hbA hS (hin 5 (by decide)) dL_law_1356 ?_
          have hc := c_X8_copy l D G H.size y0 (b 0) (b 1) (b 2) (b 3) (b 4) (b 5) (b 6) (b 7) (b 8) (b 9) (b 10) (v 37) (v 38) (v 39) (v 40) (v 41) (v 42) (v 43) (f 26) (f 27) (g 4) (xs (x3 + (1 : Int32)).toNatClampNeg) (xs (x3 + (2 : Int32)).toNatClampNeg) (xs (x3 + (3 : Int32)).toNatClampNeg) (xs (x3 + (4 : Int32)).toNatClampNeg) (xs (x3 + (5 : Int32)).toNatClampNeg) _ hw
          refine x_cPi (va_runV (As := [.int (xs (x3 + (1 : Int32)).toNatClampNeg), .int (xs (x3 + (2 : Int32)).toNatClampNeg), .int (xs (x3 + (3 : Int32)).toNatClampNeg), .int (xs (x3 + (4 : Int32)).toNatClampNeg), .int (xs (x3 + (5 : Int32)).toNatClampNeg)]) (rest := [.int r1]) ⟨hx, hb, hml, hown, hts⟩ hc (cwV 5 hts gL_law_X8_copy rfl rfl rfl (by decide +kernel) ⟨(Nat.le_of_ble_eq_true rfl), (Nat.le_of_ble_eq_true rfl)⟩) (xM_pv (hP.sub [54, 55, 56, 57] rfl) hK (hD.sub [54, 55, 56, 57] (by decide) rfl) (va_recv hK hP (ci := 8) (q0 := 54) rfl rfl)) rfl rfl hl.1 rfl (lv_room (Nat.le_of_ble_eq_true rfl)) dL_law_1357 ⟨(Nat.le_of_ble_eq_true rfl), (Nat.le_of_ble_eq_true rfl)⟩) hP hD hS hA [54, 55, 56, 57] rfl (fun u => rfl) (fun u => (lawW G x0 y0 a b pq kq sq v f (va_up (va_up g 0 z_items_1) 4 u))) (fun u => rfl) (fun r2 u H locs hw hP hD hS => ?_)
          obtain ⟨m_item_2, rfl⟩ : ∃ z, z = u := ⟨_, rfl⟩
          try dsimp only at hw
          replace hP : va_P D vwCl (lawW G x0 y0 a b pq kq sq v f (va_up (va_up g 0 z_items_1) 4 m_item_2)) H := hP
          replace hD : va_D (fun q : Nat => s.heap.size ≤ q) (lawW G x0 y0 a b pq kq sq v f (va_up (va_up g 0 z_items_1) 4 m_item_2)) := hD
          refine lv_icmp_eq (tgt := 1365) hx hb dL_law_1360 (by decide) (fun _ => ?_) (fun c9 => absurd hw.1 c9)
          exact cont _ _ _ _ _ _ hw.2 hP hD hS hl
        · exact absurd (ei.trans ej.symm) hxx
        · have hq2 : sq ((xs (x3 + (3 : Int32)).toNatClampNeg)).toNatClampNeg = sq 2 := x_sq hsq hi
          have hw := hSt_copyD v f g (xs (x3 + (1 : Int32)).toNatClampNeg) (xs (x3 + (2 : Int32)).toNatClampNeg) (xs (x3 + (3 : Int32)).toNatClampNeg) (xs (x3 + (4 : Int32)).toNatClampNeg) (xs (x3 + (5 : Int32)).toNatClampNeg) 1 2 hj hi (by decide) hR
          have hc := c_X7_copy l D G H.size x0 (a 0) (a 14) (a 28) (a 33) (a 38) (a 40) (a 44) sq (a 48) (a 50) (v 0) (v (29 + 1)) (v (33 + 1)) (g 1) (v (29 + 2)) (v (33 + 2)) (g 2) (xs (x3 + (1 : Int32)).toNatClampNeg) (xs (x3 + (2 : Int32)).toNatClampNeg) (xs (x3 + (3 : Int32)).toNatClampNeg) (xs (x3 + (4 : Int32)).toNatClampNeg) (xs (x3 + (5 : Int32)).toNatClampNeg) _ hw
          rw [hq, hq2] at hc
          refine x_cPi (va_runV (As := [.int (xs (x3 + (1 : Int32)).toNatClampNeg), .int (xs (x3 + (2 : Int32)).toNatClampNeg), .int (xs (x3 + (3 : Int32)).toNatClampNeg), .int (xs (x3 + (4 : Int32)).toNatClampNeg), .int (xs (x3 + (5 : Int32)).toNatClampNeg)]) (rest := []) ⟨hx, hb, hml, hown, hts⟩ hc (cwV 5 hts gL_law_X7_copy rfl rfl rfl (by decide +kernel) ⟨(Nat.le_of_ble_eq_true rfl), (Nat.le_of_ble_eq_true rfl)⟩) (xM_pv (hP.sub [0, 45, 48, 49, 50, 51] rfl) hK (hD.sub [0, 45, 48, 49, 50, 51] (by decide) rfl) (va_recv hK hP (ci := 7) (q0 := 0) rfl rfl)) rfl rfl hl.1 rfl (lv_room (Nat.le_of_ble_eq_true rfl)) dL_law_1328 ⟨(Nat.le_of_ble_eq_true rfl), (Nat.le_of_ble_eq_true rfl)⟩) hP hD hS hA [0, 45, 48, 49, 50, 51] rfl (fun u => rfl) (fun u => (lawW G x0 y0 a b pq kq sq v f (va_up g 2 u))) (fun u => rfl) (fun r1 u H locs hw hP hD hS => ?_)
          obtain ⟨z_items_1, rfl⟩ : ∃ z, z = u := ⟨_, rfl⟩
          try dsimp only at hw
          replace hP : va_P D vwCl (lawW G x0 y0 a b pq kq sq v f (va_up g 2 z_items_1)) H := hP
          replace hD : va_D (fun q : Nat => s.heap.size ≤ q) (lawW G x0 y0 a b pq kq sq v f (va_up g 2 z_items_1)) := hD
          refine lv_aload_n hx hb dL_law_1331 rfl (lv_at hl 2 rfl) ?_
          refine lv_aload_n hx hb dL_law_1332 rfl (lv_at hl 0 rfl) ?_
          refine lv_iload_n hx hb dL_law_1333 rfl (lv_at hl 3 rfl) ?_
          refine lv_iconst (v := 1) hx hb dL_law_1334 (by decide) ?_
          refine lv_iadd hx hb dL_law_1335 ?_
          refine va_sld hx hb hX hbl hbA hS (hin 1 (by decide)) dL_law_1336 ?_
          refine lv_aload_n hx hb dL_law_1337 rfl (lv_at hl 0 rfl) ?_
          refine lv_iload_n hx hb dL_law_1338 rfl (lv_at hl 3 rfl) ?_
          refine lv_iconst (v := 2) hx hb dL_law_1339 (by decide) ?_
          refine lv_iadd hx hb dL_law_1340 ?_
          refine va_sld hx hb hX hbl hbA hS (hin 2 (by decide)) dL_law_1341 ?_
          refine lv_aload_n hx hb dL_law_1342 rfl (lv_at hl 0 rfl) ?_
          refine lv_iload_n hx hb dL_law_1343 rfl (lv_at hl 3 rfl) ?_
          refine lv_iconst (v := 3) hx hb dL_law_1344 (by decide) ?_
          refine lv_iadd hx hb dL_law_1345 ?_
          refine va_sld hx hb hX hbl hbA hS (hin 3 (by decide)) dL_law_1346 ?_
          refine lv_aload_n hx hb dL_law_1347 rfl (lv_at hl 0 rfl) ?_
          refine lv_iload_n hx hb dL_law_1348 rfl (lv_at hl 3 rfl) ?_
          refine lv_iconst (v := 4) hx hb dL_law_1349 (by decide) ?_
          refine lv_iadd hx hb dL_law_1350 ?_
          refine va_sld hx hb hX hbl hbA hS (hin 4 (by decide)) dL_law_1351 ?_
          refine lv_aload_n hx hb dL_law_1352 rfl (lv_at hl 0 rfl) ?_
          refine lv_iload_n hx hb dL_law_1353 rfl (lv_at hl 3 rfl) ?_
          refine lv_iconst (v := 5) hx hb dL_law_1354 (by decide) ?_
          refine lv_iadd hx hb dL_law_1355 ?_
          refine va_sld hx hb hX hbl hbA hS (hin 5 (by decide)) dL_law_1356 ?_
          have hc := c_X8_copy l D G H.size y0 (b 0) (b 1) (b 2) (b 3) (b 4) (b 5) (b 6) (b 7) (b 8) (b 9) (b 10) (v 37) (v 38) (v 39) (v 40) (v 41) (v 42) (v 43) (f 26) (f 27) (g 4) (xs (x3 + (1 : Int32)).toNatClampNeg) (xs (x3 + (2 : Int32)).toNatClampNeg) (xs (x3 + (3 : Int32)).toNatClampNeg) (xs (x3 + (4 : Int32)).toNatClampNeg) (xs (x3 + (5 : Int32)).toNatClampNeg) _ hw
          refine x_cPi (va_runV (As := [.int (xs (x3 + (1 : Int32)).toNatClampNeg), .int (xs (x3 + (2 : Int32)).toNatClampNeg), .int (xs (x3 + (3 : Int32)).toNatClampNeg), .int (xs (x3 + (4 : Int32)).toNatClampNeg), .int (xs (x3 + (5 : Int32)).toNatClampNeg)]) (rest := [.int r1]) ⟨hx, hb, hml, hown, hts⟩ hc (cwV 5 hts gL_law_X8_copy rfl rfl rfl (by decide +kernel) ⟨(Nat.le_of_ble_eq_true rfl), (Nat.le_of_ble_eq_true rfl)⟩) (xM_pv (hP.sub [54, 55, 56, 57] rfl) hK (hD.sub [54, 55, 56, 57] (by decide) rfl) (va_recv hK hP (ci := 8) (q0 := 54) rfl rfl)) rfl rfl hl.1 rfl (lv_room (Nat.le_of_ble_eq_true rfl)) dL_law_1357 ⟨(Nat.le_of_ble_eq_true rfl), (Nat.le_of_ble_eq_true rfl)⟩) hP hD hS hA [54, 55, 56, 57] rfl (fun u => rfl) (fun u => (lawW G x0 y0 a b pq kq sq v f (va_up (va_up g 2 z_items_1) 4 u))) (fun u => rfl) (fun r2 u H locs hw hP hD hS => ?_)
          obtain ⟨m_item_2, rfl⟩ : ∃ z, z = u := ⟨_, rfl⟩
          try dsimp only at hw
          replace hP : va_P D vwCl (lawW G x0 y0 a b pq kq sq v f (va_up (va_up g 2 z_items_1) 4 m_item_2)) H := hP
          replace hD : va_D (fun q : Nat => s.heap.size ≤ q) (lawW G x0 y0 a b pq kq sq v f (va_up (va_up g 2 z_items_1) 4 m_item_2)) := hD
          refine lv_icmp_eq (tgt := 1365) hx hb dL_law_1360 (by decide) (fun _ => ?_) (fun c9 => absurd hw.1 c9)
          exact cont _ _ _ _ _ _ hw.2 hP hD hS hl
        · have hq2 : sq ((xs (x3 + (3 : Int32)).toNatClampNeg)).toNatClampNeg = sq 3 := x_sq hsq hi
          have hw := hSt_copyD v f g (xs (x3 + (1 : Int32)).toNatClampNeg) (xs (x3 + (2 : Int32)).toNatClampNeg) (xs (x3 + (3 : Int32)).toNatClampNeg) (xs (x3 + (4 : Int32)).toNatClampNeg) (xs (x3 + (5 : Int32)).toNatClampNeg) 1 3 hj hi (by decide) hR
          have hc := c_X7_copy l D G H.size x0 (a 0) (a 14) (a 28) (a 33) (a 38) (a 40) (a 44) sq (a 48) (a 52) (v 0) (v (29 + 1)) (v (33 + 1)) (g 1) (v (29 + 3)) (v (33 + 3)) (g 3) (xs (x3 + (1 : Int32)).toNatClampNeg) (xs (x3 + (2 : Int32)).toNatClampNeg) (xs (x3 + (3 : Int32)).toNatClampNeg) (xs (x3 + (4 : Int32)).toNatClampNeg) (xs (x3 + (5 : Int32)).toNatClampNeg) _ hw
          rw [hq, hq2] at hc
          refine x_cPi (va_runV (As := [.int (xs (x3 + (1 : Int32)).toNatClampNeg), .int (xs (x3 + (2 : Int32)).toNatClampNeg), .int (xs (x3 + (3 : Int32)).toNatClampNeg), .int (xs (x3 + (4 : Int32)).toNatClampNeg), .int (xs (x3 + (5 : Int32)).toNatClampNeg)]) (rest := []) ⟨hx, hb, hml, hown, hts⟩ hc (cwV 5 hts gL_law_X7_copy rfl rfl rfl (by decide +kernel) ⟨(Nat.le_of_ble_eq_true rfl), (Nat.le_of_ble_eq_true rfl)⟩) (xM_pv (hP.sub [0, 45, 48, 49, 52, 53] rfl) hK (hD.sub [0, 45, 48, 49, 52, 53] (by decide) rfl) (va_recv hK hP (ci := 7) (q0 := 0) rfl rfl)) rfl rfl hl.1 rfl (lv_room (Nat.le_of_ble_eq_true rfl)) dL_law_1328 ⟨(Nat.le_of_ble_eq_true rfl), (Nat.le_of_ble_eq_true rfl)⟩) hP hD hS hA [0, 45, 48, 49, 52, 53] rfl (fun u => rfl) (fun u => (lawW G x0 y0 a b pq kq sq v f (va_up g 3 u))) (fun u => rfl) (fun r1 u H locs hw hP hD hS => ?_)
          obtain ⟨z_items_1, rfl⟩ : ∃ z, z = u := ⟨_, rfl⟩
          try dsimp only at hw
          replace hP : va_P D vwCl (lawW G x0 y0 a b pq kq sq v f (va_up g 3 z_items_1)) H := hP
          replace hD : va_D (fun q : Nat => s.heap.size ≤ q) (lawW G x0 y0 a b pq kq sq v f (va_up g 3 z_items_1)) := hD
          refine lv_aload_n hx hb dL_law_1331 rfl (lv_at hl 2 rfl) ?_
          refine lv_aload_n hx hb dL_law_1332 rfl (lv_at hl 0 rfl) ?_
          refine lv_iload_n hx hb dL_law_1333 rfl (lv_at hl 3 rfl) ?_
          refine lv_iconst (v := 1) hx hb dL_law_1334 (by decide) ?_
          refine lv_iadd hx hb dL_law_1335 ?_
          refine va_sld hx hb hX hbl hbA hS (hin 1 (by decide)) dL_law_1336 ?_
          refine lv_aload_n hx hb dL_law_1337 rfl (lv_at hl 0 rfl) ?_
          refine lv_iload_n hx hb dL_law_1338 rfl (lv_at hl 3 rfl) ?_
          refine lv_iconst (v := 2) hx hb dL_law_1339 (by decide) ?_
          refine lv_iadd hx hb dL_law_1340 ?_
          refine va_sld hx hb hX hbl hbA hS (hin 2 (by decide)) dL_law_1341 ?_
          refine lv_aload_n hx hb dL_law_1342 rfl (lv_at hl 0 rfl) ?_
          refine lv_iload_n hx hb dL_law_1343 rfl (lv_at hl 3 rfl) ?_
          refine lv_iconst (v := 3) hx hb dL_law_1344 (by decide) ?_
          refine lv_iadd hx hb dL_law_1345 ?_
          refine va_sld hx hb hX hbl hbA hS (hin 3 (by decide)) dL_law_1346 ?_
          refine lv_aload_n hx hb dL_law_1347 rfl (lv_at hl 0 rfl) ?_
          refine lv_iload_n hx hb dL_law_1348 rfl (lv_at hl 3 rfl) ?_
          refine lv_iconst (v := 4) hx hb dL_law_1349 (by decide) ?_
          refine lv_iadd hx hb dL_law_1350 ?_
          refine va_sld hx hb hX hbl hbA hS (hin 4 (by decide)) dL_law_1351 ?_
          refine lv_aload_n hx hb dL_law_1352 rfl (lv_at hl 0 rfl) ?_
          refine lv_iload_n hx hb dL_law_1353 rfl (lv_at hl 3 rfl) ?_
          refine lv_iconst (v := 5) hx hb dL_law_1354 (by decide) ?_
          refine lv_iadd hx hb dL_law_1355 ?_
          refine va_sld hx hb hX hbl hbA hS (hin 5 (by decide)) dL_law_1356 ?_
          have hc := c_X8_copy l D G H.size y0 (b 0) (b 1) (b 2) (b 3) (b 4) (b 5) (b 6) (b 7) (b 8) (b 9) (b 10) (v 37) (v 38) (v 39) (v 40) (v 41) (v 42) (v 43) (f 26) (f 27) (g 4) (xs (x3 + (1 : Int32)).toNatClampNeg) (xs (x3 + (2 : Int32)).toNatClampNeg) (xs (x3 + (3 : Int32)).toNatClampNeg) (xs (x3 + (4 : Int32)).toNatClampNeg) (xs (x3 + (5 : Int32)).toNatClampNeg) _ hw
          refine x_cPi (va_runV (As := [.int (xs (x3 + (1 : Int32)).toNatClampNeg), .int (xs (x3 + (2 : Int32)).toNatClampNeg), .int (xs (x3 + (3 : Int32)).toNatClampNeg), .int (xs (x3 + (4 : Int32)).toNatClampNeg), .int (xs (x3 + (5 : Int32)).toNatClampNeg)]) (rest := [.int r1]) ⟨hx, hb, hml, hown, hts⟩ hc (cwV 5 hts gL_law_X8_copy rfl rfl rfl (by decide +kernel) ⟨(Nat.le_of_ble_eq_true rfl), (Nat.le_of_ble_eq_true rfl)⟩) (xM_pv (hP.sub [54, 55, 56, 57] rfl) hK (hD.sub [54, 55, 56, 57] (by decide) rfl) (va_recv hK hP (ci := 8) (q0 := 54) rfl rfl)) rfl rfl hl.1 rfl (lv_room (Nat.le_of_ble_eq_true rfl)) dL_law_1357 ⟨(Nat.le_of_ble_eq_true rfl), (Nat.le_of_ble_eq_true rfl)⟩) hP hD hS hA [54, 55, 56, 57] rfl (fun u => rfl) (fun u => (lawW G x0 y0 a b pq kq sq v f (va_up (va_up g 3 z_items_1) 4 u))) (fun u => rfl) (fun r2 u H locs hw hP hD hS => ?_)
          obtain ⟨m_item_2, rfl⟩ : ∃ z, z = u := ⟨_, rfl⟩
          try dsimp only at hw
          replace hP : va_P D vwCl (lawW G x0 y0 a b pq kq sq v f (va_up (va_up g 3 z_items_1) 4 m_item_2)) H := hP
          replace hD : va_D (fun q : Nat => s.heap.size ≤ q) (lawW G x0 y0 a b pq kq sq v f (va_up (va_up g 3 z_items_1) 4 m_item_2)) := hD
          refine lv_icmp_eq (tgt := 1365) hx hb dL_law_1360 (by decide) (fun _ => ?_) (fun c9 => absurd hw.1 c9)
          exact cont _ _ _ _ _ _ hw.2 hP hD hS hl
      · have hq : sq ((xs (x3 + (1 : Int32)).toNatClampNeg)).toNatClampNeg = sq 2 := x_sq hsq hj
        rcases x_sjv hbb.2 with ⟨hi, ei⟩ | ⟨hi, ei⟩ | ⟨hi, ei⟩ | ⟨hi, ei⟩
        · have hq2 : sq ((xs (x3 + (3 : Int32)).toNatClampNeg)).toNatClampNeg = sq 0 := x_sq hsq hi
          have hw := hSt_copyD v f g (xs (x3 + (1 : Int32)).toNatClampNeg) (xs (x3 + (2 : Int32)).toNatClampNeg) (xs (x3 + (3 : Int32)).toNatClampNeg) (xs (x3 + (4 : Int32)).toNatClampNeg) (xs (x3 + (5 : Int32)).toNatClampNeg) 2 0 hj hi (by decide) hR
          have hc := c_X7_copy l D G H.size x0 (a 0) (a 14) (a 28) (a 33) (a 38) (a 40) (a 44) sq (a 50) (a 46) (v 0) (v (29 + 2)) (v (33 + 2)) (g 2) (v (29 + 0)) (v (33 + 0)) (g 0) (xs (x3 + (1 : Int32)).toNatClampNeg) (xs (x3 + (2 : Int32)).toNatClampNeg) (xs (x3 + (3 : Int32)).toNatClampNeg) (xs (x3 + (4 : Int32)).toNatClampNeg) (xs (x3 + (5 : Int32)).toNatClampNeg) _ hw
          rw [hq, hq2] at hc
          refine x_cPi (va_runV (As := [.int (xs (x3 + (1 : Int32)).toNatClampNeg), .int (xs (x3 + (2 : Int32)).toNatClampNeg), .int (xs (x3 + (3 : Int32)).toNatClampNeg), .int (xs (x3 + (4 : Int32)).toNatClampNeg), .int (xs (x3 + (5 : Int32)).toNatClampNeg)]) (rest := []) ⟨hx, hb, hml, hown, hts⟩ hc (cwV 5 hts gL_law_X7_copy rfl rfl rfl (by decide +kernel) ⟨(Nat.le_of_ble_eq_true rfl), (Nat.le_of_ble_eq_true rfl)⟩) (xM_pv (hP.sub [0, 45, 50, 51, 46, 47] rfl) hK (hD.sub [0, 45, 50, 51, 46, 47] (by decide) rfl) (va_recv hK hP (ci := 7) (q0 := 0) rfl rfl)) rfl rfl hl.1 rfl (lv_room (Nat.le_of_ble_eq_true rfl)) dL_law_1328 ⟨(Nat.le_of_ble_eq_true rfl), (Nat.le_of_ble_eq_true rfl)⟩) hP hD hS hA [0, 45, 50, 51, 46, 47] rfl (fun u => rfl) (fun u => (lawW G x0 y0 a b pq kq sq v f (va_up g 0 u))) (fun u => rfl) (fun r1 u H locs hw hP hD hS => ?_)
          obtain ⟨z_items_1, rfl⟩ : ∃ z, z = u := ⟨_, rfl⟩
          try dsimp only at hw
          replace hP : va_P D vwCl (lawW G x0 y0 a b pq kq sq v f (va_up g 0 z_items_1)) H := hP
          replace hD : va_D (fun q : Nat => s.heap.size ≤ q) (lawW G x0 y0 a b pq kq sq v f (va_up g 0 z_items_1)) := hD
          refine lv_aload_n hx hb dL_law_1331 rfl (lv_at hl 2 rfl) ?_
          refine lv_aload_n hx hb dL_law_1332 rfl (lv_at hl 0 rfl) ?_
          refine lv_iload_n hx hb dL_law_1333 rfl (lv_at hl 3 rfl) ?_
          refine lv_iconst (v := 1) hx hb dL_law_1334 (by decide) ?_
          refine lv_iadd hx hb dL_law_1335 ?_
          refine va_sld hx hb hX hbl hbA hS (hin 1 (by decide)) dL_law_1336 ?_
          refine lv_aload_n hx hb dL_law_1337 rfl (lv_at hl 0 rfl) ?_
          refine lv_iload_n hx hb dL_law_1338 rfl (lv_at hl 3 rfl) ?_
          refine lv_iconst (v := 2) hx hb dL_law_1339 (by decide) ?_
          refine lv_iadd hx hb dL_law_1340 ?_
          refine va_sld hx hb hX hbl hbA hS (hin 2 (by decide)) dL_law_1341 ?_
          refine lv_aload_n hx hb dL_law_1342 rfl (lv_at hl 0 rfl) ?_
          refine lv_iload_n hx hb dL_law_1343 rfl (lv_at hl 3 rfl) ?_
          refine lv_iconst (v := 3) hx hb dL_law_1344 (by decide) ?_
          refine lv_iadd hx hb dL_law_1345 ?_
          refine va_sld hx hb hX hbl hbA hS (hin 3 (by decide)) dL_law_1346 ?_
          refine lv_aload_n hx hb dL_law_1347 rfl (lv_at hl 0 rfl) ?_
          refine lv_iload_n hx hb dL_law_1348 rfl (lv_at hl 3 rfl) ?_
          refine lv_iconst (v := 4) hx hb dL_law_1349 (by decide) ?_
          refine lv_iadd hx hb dL_law_1350 ?_
          refine va_sld hx hb hX hbl hbA hS (hin 4 (by decide)) dL_law_1351 ?_
          refine lv_aload_n hx hb dL_law_1352 rfl (lv_at hl 0 rfl) ?_
          refine lv_iload_n hx hb dL_law_1353 rfl (lv_at hl 3 rfl) ?_
          refine lv_iconst (v := 5) hx hb dL_law_1354 (by decide) ?_
          refine lv_iadd hx hb dL_law_1355 ?_
          refine va_sld hx hb hX hbl hbA hS (hin 5 (by decide)) dL_law_1356 ?_
          have hc := c_X8_copy l D G H.size y0 (b 0) (b 1) (b 2) (b 3) (b 4) (b 5) (b 6) (b 7) (b 8) (b 9) (b 10) (v 37) (v 38) (v 39) (v 40) (v 41) (v 42) (v 43) (f 26) (f 27) (g 4) (xs (x3 + (1 : Int32)).toNatClampNeg) (xs (x3 + (2 : Int32)).toNatClampNeg) (xs (x3 + (3 : Int32)).toNatClampNeg) (xs (x3 + (4 : Int32)).toNatClampNeg) (xs (x3 + (5 : Int32)).toNatClampNeg) _ hw
          refine x_cPi (va_runV (As := [.int (xs (x3 + (1 : Int32)).toNatClampNeg), .int (xs (x3 + (2 : Int32)).toNatClampNeg), .int (xs (x3 + (3 : Int32)).toNatClampNeg), .int (xs (x3 + (4 : Int32)).toNatClampNeg), .int (xs (x3 + (5 : Int32)).toNatClampNeg)]) (rest := [.int r1]) ⟨hx, hb, hml, hown, hts⟩ hc (cwV 5 hts gL_law_X8_copy rfl rfl rfl (by decide +kernel) ⟨(Nat.le_of_ble_eq_true rfl), (Nat.le_of_ble_eq_true rfl)⟩) (xM_pv (hP.sub [54, 55, 56, 57] rfl) hK (hD.sub [54, 55, 56, 57] (by decide) rfl) (va_recv hK hP (ci := 8) (q0 := 54) rfl rfl)) rfl rfl hl.1 rfl (lv_room (Nat.le_of_ble_eq_true rfl)) dL_law_1357 ⟨(Nat.le_of_ble_eq_true rfl), (Nat.le_of_ble_eq_true rfl)⟩) hP hD hS hA [54, 55, 56, 57] rfl (fun u => rfl) (fun u => (lawW G x0 y0 a b pq kq sq v f (va_up (va_up g 0 z_items_1) 4 u))) (fun u => rfl) (fun r2 u H locs hw hP hD hS => ?_)
          obtain ⟨m_item_2, rfl⟩ : ∃ z, z = u := ⟨_, rfl⟩
          try dsimp only at hw
          replace hP : va_P D vwCl (lawW G x0 y0 a b pq kq sq v f (va_up (va_up g 0 z_items_1) 4 m_item_2)) H := hP
          replace hD : va_D (fun q : Nat => s.heap.size ≤ q) (lawW G x0 y0 a b pq kq sq v f (va_up (va_up g 0 z_items_1) 4 m_item_2)) := hD
          refine lv_icmp_eq (tgt := 1365) hx hb dL_law_1360 (by decide) (fun _ => ?_) (fun c9 => absurd hw.1 c9)
          exact cont _ _ _ _ _ _ hw.2 hP hD hS hl
        · have hq2 : sq ((xs (x3 + (3 : Int32)).toNatClampNeg)).toNatClampNeg = sq 1 := x_sq hsq hi
          have hw := hSt_copyD v f g (xs (x3 + (1 : Int32)).toNatClampNeg) (xs (x3 + (2 : Int32)).toNatClampNeg) (xs (x3 + (3 : Int32)).toNatClampNeg) (xs (x3 + (4 : Int32)).toNatClampNeg) (xs (x3 + (5 : Int32)).toNatClampNeg) 2 1 hj hi (by decide) hR
          have hc := c_X7_copy l D G H.size x0 (a 0) (a 14) (a 28) (a 33) (a 38) (a 40) (a 44) sq (a 50) (a 48) (v 0) (v (29 + 2)) (v (33 + 2)) (g 2) (v (29 + 1)) (v (33 + 1)) (g 1) (xs (x3 + (1 : Int32)).toNatClampNeg) (xs (x3 + (2 : Int32)).toNatClampNeg) (xs (x3 + (3 : Int32)).toNatClampNeg) (xs (x3 + (4 : Int32)).toNatClampNeg) (xs (x3 + (5 : Int32)).toNatClampNeg) _ hw
          rw [hq, hq2] at hc
          refine x_cPi (va_runV (As := [.int (xs (x3 + (1 : Int32)).toNatClampNeg), .int (xs (x3 + (2 : Int32)).toNatClampNeg), .int (xs (x3 + (3 : Int32)).toNatClampNeg), .int (xs (x3 + (4 : Int32)).toNatClampNeg), .int (xs (x3 + (5 : Int32)).toNatClampNeg)]) (rest := []) ⟨hx, hb, hml, hown, hts⟩ hc (cwV 5 hts gL_law_X7_copy rfl rfl rfl (by decide +kernel) ⟨(Nat.le_of_ble_eq_true rfl), (Nat.le_of_ble_eq_true rfl)⟩) (xM_pv (hP.sub [0, 45, 50, 51, 48, 49] rfl) hK (hD.sub [0, 45, 50, 51, 48, 49] (by decide) rfl) (va_recv hK hP (ci := 7) (q0 := 0) rfl rfl)) rfl rfl hl.1 rfl (lv_room (Nat.le_of_ble_eq_true rfl)) dL_law_1328 ⟨(Nat.le_of_ble_eq_true rfl), (Nat.le_of_ble_eq_true rfl)⟩) hP hD hS hA [0, 45, 50, 51, 48, 49] rfl (fun u => rfl) (fun u => (lawW G x0 y0 a b pq kq sq v f (va_up g 1 u))) (fun u => rfl) (fun r1 u H locs hw hP hD hS => ?_)
          obtain ⟨z_items_1, rfl⟩ : ∃ z, z = u := ⟨_, rfl⟩
          try dsimp only at hw
          replace hP : va_P D vwCl (lawW G x0 y0 a b pq kq sq v f (va_up g 1 z_items_1)) H := hP
          replace hD : va_D (fun q : Nat => s.heap.size ≤ q) (lawW G x0 y0 a b pq kq sq v f (va_up g 1 z_items_1)) := hD
          refine lv_aload_n hx hb dL_law_1331 rfl (lv_at hl 2 rfl) ?_
          refine lv_aload_n hx hb dL_law_1332 rfl (lv_at hl 0 rfl) ?_
          refine lv_iload_n hx hb dL_law_1333 rfl (lv_at hl 3 rfl) ?_
          refine lv_iconst (v := 1) hx hb dL_law_1334 (by decide) ?_
          refine lv_iadd hx hb dL_law_1335 ?_
          refine va_sld hx hb hX hbl hbA hS (hin 1 (by decide)) dL_law_1336 ?_
          refine lv_aload_n hx hb dL_law_1337 rfl (lv_at hl 0 rfl) ?_
          refine lv_iload_n hx hb dL_law_1338 rfl (lv_at hl 3 rfl) ?_
          refine lv_iconst (v := 2) hx hb dL_law_1339 (by decide) ?_
          refine lv_iadd hx hb dL_law_1340 ?_
          refine va_sld hx hb hX hbl hbA hS (hin 2 (by decide)) dL_law_1341 ?_
          refine lv_aload_n hx hb dL_law_1342 rfl (lv_at hl 0 rfl) ?_
          refine lv_iload_n hx hb dL_law_1343 rfl (lv_at hl 3 rfl) ?_
          refine lv_iconst (v := 3) hx hb dL_law_1344 (by decide) ?_
          refine lv_iadd hx hb dL_law_1345 ?_
          refine va_sld hx hb hX hbl hbA hS (hin 3 (by decide)) dL_law_1346 ?_
          refine lv_aload_n hx hb dL_law_1347 rfl (lv_at hl 0 rfl) ?_
          refine lv_iload_n hx hb dL_law_1348 rfl (lv_at hl 3 rfl) ?_
          refine lv_iconst (v := 4) hx hb dL_law_1349 (by decide) ?_
          refine lv_iadd hx hb dL_law_1350 ?_
          refine va_sld hx hb hX hbl hbA hS (hin 4 (by decide)) dL_law_1351 ?_
          refine lv_aload_n hx hb dL_law_1352 rfl (lv_at hl 0 rfl) ?_
          refine lv_iload_n hx hb dL_law_1353 rfl (lv_at hl 3 rfl) ?_
          refine lv_iconst (v := 5) hx hb dL_law_1354 (by decide) ?_
          refine lv_iadd hx hb dL_law_1355 ?_
          refine va_sld hx hb hX hbl hbA hS (hin 5 (by decide)) dL_law_1356 ?_
          have hc := c_X8_copy l D G H.size y0 (b 0) (b 1) (b 2) (b 3) (b 4) (b 5) (b 6) (b 7) (b 8) (b 9) (b 10) (v 37) (v 38) (v 39) (v 40) (v 41) (v 42) (v 43) (f 26) (f 27) (g 4) (xs (x3 + (1 : Int32)).toNatClampNeg) (xs (x3 + (2 : Int32)).toNatClampNeg) (xs (x3 + (3 : Int32)).toNatClampNeg) (xs (x3 + (4 : Int32)).toNatClampNeg) (xs (x3 + (5 : Int32)).toNatClampNeg) _ hw
          refine x_cPi (va_runV (As := [.int (xs (x3 + (1 : Int32)).toNatClampNeg), .int (xs (x3 + (2 : Int32)).toNatClampNeg), .int (xs (x3 + (3 : Int32)).toNatClampNeg), .int (xs (x3 + (4 : Int32)).toNatClampNeg), .int (xs (x3 + (5 : Int32)).toNatClampNeg)]) (rest := [.int r1]) ⟨hx, hb, hml, hown, hts⟩ hc (cwV 5 hts gL_law_X8_copy rfl rfl rfl (by decide +kernel) ⟨(Nat.le_of_ble_eq_true rfl), (Nat.le_of_ble_eq_true rfl)⟩) (xM_pv (hP.sub [54, 55, 56, 57] rfl) hK (hD.sub [54, 55, 56, 57] (by decide) rfl) (va_recv hK hP (ci := 8) (q0 := 54) rfl rfl)) rfl rfl hl.1 rfl (lv_room (Nat.le_of_ble_eq_true rfl)) dL_law_1357 ⟨(Nat.le_of_ble_eq_true rfl), (Nat.le_of_ble_eq_true rfl)⟩) hP hD hS hA [54, 55, 56, 57] rfl (fun u => rfl) (fun u => (lawW G x0 y0 a b pq kq sq v f (va_up (va_up g 1 z_items_1) 4 u))) (fun u => rfl) (fun r2 u H locs hw hP hD hS => ?_)
          obtain ⟨m_item_2, rfl⟩ : ∃ z, z = u := ⟨_, rfl⟩
          try dsimp only at hw
          replace hP : va_P D vwCl (lawW G x0 y0 a b pq kq sq v f (va_up (va_up g 1 z_items_1) 4 m_item_2)) H := hP
          replace hD : va_D (fun q : Nat => s.heap.size ≤ q) (lawW G x0 y0 a b pq kq sq v f (va_up (va_up g 1 z_items_1) 4 m_item_2)) := hD
          refine lv_icmp_eq (tgt := 1365) hx hb dL_law_1360 (by decide) (fun _ => ?_) (fun c9 => absurd hw.1 c9)
          exact cont _ _ _ _ _ _ hw.2 hP hD hS hl
        · exact absurd (ei.trans ej.symm) hxx
        · have hq2 : sq ((xs (x3 + (3 : Int32)).toNatClampNeg)).toNatClampNeg = sq 3 := x_sq hsq hi
          have hw := hSt_copyD v f g (xs (x3 + (1 : Int32)).toNatClampNeg) (xs (x3 + (2 : Int32)).toNatClampNeg) (xs (x3 + (3 : Int32)).toNatClampNeg) (xs (x3 + (4 : Int32)).toNatClampNeg) (xs (x3 + (5 : Int32)).toNatClampNeg) 2 3 hj hi (by decide) hR
          have hc := c_X7_copy l D G H.size x0 (a 0) (a 14) (a 28) (a 33) (a 38) (a 40) (a 44) sq (a 50) (a 52) (v 0) (v (29 + 2)) (v (33 + 2)) (g 2) (v (29 + 3)) (v (33 + 3)) (g 3) (xs (x3 + (1 : Int32)).toNatClampNeg) (xs (x3 + (2 : Int32)).toNatClampNeg) (xs (x3 + (3 : Int32)).toNatClampNeg) (xs (x3 + (4 : Int32)).toNatClampNeg) (xs (x3 + (5 : Int32)).toNatClampNeg) _ hw
          rw [hq, hq2] at hc
          refine x_cPi (va_runV (As := [.int (xs (x3 + (1 : Int32)).toNatClampNeg), .int (xs (x3 + (2 : Int32)).toNatClampNeg), .int (xs (x3 + (3 : Int32)).toNatClampNeg), .int (xs (x3 + (4 : Int32)).toNatClampNeg), .int (xs (x3 + (5 : Int32)).toNatClampNeg)]) (rest := []) ⟨hx, hb, hml, hown, hts⟩ hc (cwV 5 hts gL_law_X7_copy rfl rfl rfl (by decide +kernel) ⟨(Nat.le_of_ble_eq_true rfl), (Nat.le_of_ble_eq_true rfl)⟩) (xM_pv (hP.sub [0, 45, 50, 51, 52, 53] rfl) hK (hD.sub [0, 45, 50, 51, 52, 53] (by decide) rfl) (va_recv hK hP (ci := 7) (q0 := 0) rfl rfl)) rfl rfl hl.1 rfl (lv_room (Nat.le_of_ble_eq_true rfl)) dL_law_1328 ⟨(Nat.le_of_ble_eq_true rfl), (Nat.le_of_ble_eq_true rfl)⟩) hP hD hS hA [0, 45, 50, 51, 52, 53] rfl (fun u => rfl) (fun u => (lawW G x0 y0 a b pq kq sq v f (va_up g 3 u))) (fun u => rfl) (fun r1 u H locs hw hP hD hS => ?_)
          obtain ⟨z_items_1, rfl⟩ : ∃ z, z = u := ⟨_, rfl⟩
          try dsimp only at hw
          replace hP : va_P D vwCl (lawW G x0 y0 a b pq kq sq v f (va_up g 3 z_items_1)) H := hP
          replace hD : va_D (fun q : Nat => s.heap.size ≤ q) (lawW G x0 y0 a b pq kq sq v f (va_up g 3 z_items_1)) := hD
          refine lv_aload_n hx hb dL_law_1331 rfl (lv_at hl 2 rfl) ?_
          refine lv_aload_n hx hb dL_law_1332 rfl (lv_at hl 0 rfl) ?_
          refine lv_iload_n hx hb dL_law_1333 rfl (lv_at hl 3 rfl) ?_
          refine lv_iconst (v := 1) hx hb dL_law_1334 (by decide) ?_
          refine lv_iadd hx hb dL_law_1335 ?_
          refine va_sld hx hb hX hbl hbA hS (hin 1 (by decide)) dL_law_1336 ?_
          refine lv_aload_n hx hb dL_law_1337 rfl (lv_at hl 0 rfl) ?_
          refine lv_iload_n hx hb dL_law_1338 rfl (lv_at hl 3 rfl) ?_
          refine lv_iconst (v := 2) hx hb dL_law_1339 (by decide) ?_
          refine lv_iadd hx hb dL_law_1340 ?_
          refine va_sld hx hb hX hbl hbA hS (hin 2 (by decide)) dL_law_1341 ?_
          refine lv_aload_n hx hb dL_law_1342 rfl (lv_at hl 0 rfl) ?_
          refine lv_iload_n hx hb dL_law_1343 rfl (lv_at hl 3 rfl) ?_
          refine lv_iconst (v := 3) hx hb dL_law_1344 (by decide) ?_
          refine lv_iadd hx hb dL_law_1345 ?_
          refine va_sld hx hb hX hbl hbA hS (hin 3 (by decide)) dL_law_1346 ?_
          refine lv_aload_n hx hb dL_law_1347 rfl (lv_at hl 0 rfl) ?_
          refine lv_iload_n hx hb dL_law_1348 rfl (lv_at hl 3 rfl) ?_
          refine lv_iconst (v := 4) hx hb dL_law_1349 (by decide) ?_
          refine lv_iadd hx hb dL_law_1350 ?_
          refine va_sld hx hb hX hbl hbA hS (hin 4 (by decide)) dL_law_1351 ?_
          refine lv_aload_n hx hb dL_law_1352 rfl (lv_at hl 0 rfl) ?_
          refine lv_iload_n hx hb dL_law_1353 rfl (lv_at hl 3 rfl) ?_
          refine lv_iconst (v := 5) hx hb dL_law_1354 (by decide) ?_
          refine lv_iadd hx hb dL_law_1355 ?_
          refine va_sld hx hb hX hbl hbA hS (hin 5 (by decide)) dL_law_1356 ?_
          have hc := c_X8_copy l D G H.size y0 (b 0) (b 1) (b 2) (b 3) (b 4) (b 5) (b 6) (b 7) (b 8) (b 9) (b 10) (v 37) (v 38) (v 39) (v 40) (v 41) (v 42) (v 43) (f 26) (f 27) (g 4) (xs (x3 + (1 : Int32)).toNatClampNeg) (xs (x3 + (2 : Int32)).toNatClampNeg) (xs (x3 + (3 : Int32)).toNatClampNeg) (xs (x3 + (4 : Int32)).toNatClampNeg) (xs (x3 + (5 : Int32)).toNatClampNeg) _ hw
          refine x_cPi (va_runV (As := [.int (xs (x3 + (1 : Int32)).toNatClampNeg), .int (xs (x3 + (2 : Int32)).toNatClampNeg), .int (xs (x3 + (3 : Int32)).toNatClampNeg), .int (xs (x3 + (4 : Int32)).toNatClampNeg), .int (xs (x3 + (5 : Int32)).toNatClampNeg)]) (rest := [.int r1]) ⟨hx, hb, hml, hown, hts⟩ hc (cwV 5 hts gL_law_X8_copy rfl rfl rfl (by decide +kernel) ⟨(Nat.le_of_ble_eq_true rfl), (Nat.le_of_ble_eq_true rfl)⟩) (xM_pv (hP.sub [54, 55, 56, 57] rfl) hK (hD.sub [54, 55, 56, 57] (by decide) rfl) (va_recv hK hP (ci := 8) (q0 := 54) rfl rfl)) rfl rfl hl.1 rfl (lv_room (Nat.le_of_ble_eq_true rfl)) dL_law_1357 ⟨(Nat.le_of_ble_eq_true rfl), (Nat.le_of_ble_eq_true rfl)⟩) hP hD hS hA [54, 55, 56, 57] rfl (fun u => rfl) (fun u => (lawW G x0 y0 a b pq kq sq v f (va_up (va_up g 3 z_items_1) 4 u))) (fun u => rfl) (fun r2 u H locs hw hP hD hS => ?_)
          obtain ⟨m_item_2, rfl⟩ : ∃ z, z = u := ⟨_, rfl⟩
          try dsimp only at hw
          replace hP : va_P D vwCl (lawW G x0 y0 a b pq kq sq v f (va_up (va_up g 3 z_items_1) 4 m_item_2)) H := hP
          replace hD : va_D (fun q : Nat => s.heap.size ≤ q) (lawW G x0 y0 a b pq kq sq v f (va_up (va_up g 3 z_items_1) 4 m_item_2)) := hD
          refine lv_icmp_eq (tgt := 1365) hx hb dL_law_1360 (by decide) (fun _ => ?_) (fun c9 => absurd hw.1 c9)
          exact cont _ _ _ _ _ _ hw.2 hP hD hS hl
      · have hq : sq ((xs (x3 + (1 : Int32)).toNatClampNeg)).toNatClampNeg = sq 3 := x_sq hsq hj
        rcases x_sjv hbb.2 with ⟨hi, ei⟩ | ⟨hi, ei⟩ | ⟨hi, ei⟩ | ⟨hi, ei⟩
        · have hq2 : sq ((xs (x3 + (3 : Int32)).toNatClampNeg)).toNatClampNeg = sq 0 := x_sq hsq hi
          have hw := hSt_copyD v f g (xs (x3 + (1 : Int32)).toNatClampNeg) (xs (x3 + (2 : Int32)).toNatClampNeg) (xs (x3 + (3 : Int32)).toNatClampNeg) (xs (x3 + (4 : Int32)).toNatClampNeg) (xs (x3 + (5 : Int32)).toNatClampNeg) 3 0 hj hi (by decide) hR
          have hc := c_X7_copy l D G H.size x0 (a 0) (a 14) (a 28) (a 33) (a 38) (a 40) (a 44) sq (a 52) (a 46) (v 0) (v (29 + 3)) (v (33 + 3)) (g 3) (v (29 + 0)) (v (33 + 0)) (g 0) (xs (x3 + (1 : Int32)).toNatClampNeg) (xs (x3 + (2 : Int32)).toNatClampNeg) (xs (x3 + (3 : Int32)).toNatClampNeg) (xs (x3 + (4 : Int32)).toNatClampNeg) (xs (x3 + (5 : Int32)).toNatClampNeg) _ hw
          rw [hq, hq2] at hc
          refine x_cPi (va_runV (As := [.int (xs (x3 + (1 : Int32)).toNatClampNeg), .int (xs (x3 + (2 : Int32)).toNatClampNeg), .int (xs (x3 + (3 : Int32)).toNatClampNeg), .int (xs (x3 + (4 : Int32)).toNatClampNeg), .int (xs (x3 + (5 : Int32)).toNatClampNeg)]) (rest := []) ⟨hx, hb, hml, hown, hts⟩ hc (cwV 5 hts gL_law_X7_copy rfl rfl rfl (by decide +kernel) ⟨(Nat.le_of_ble_eq_true rfl), (Nat.le_of_ble_eq_true rfl)⟩) (xM_pv (hP.sub [0, 45, 52, 53, 46, 47] rfl) hK (hD.sub [0, 45, 52, 53, 46, 47] (by decide) rfl) (va_recv hK hP (ci := 7) (q0 := 0) rfl rfl)) rfl rfl hl.1 rfl (lv_room (Nat.le_of_ble_eq_true rfl)) dL_law_1328 ⟨(Nat.le_of_ble_eq_true rfl), (Nat.le_of_ble_eq_true rfl)⟩) hP hD hS hA [0, 45, 52, 53, 46, 47] rfl (fun u => rfl) (fun u => (lawW G x0 y0 a b pq kq sq v f (va_up g 0 u))) (fun u => rfl) (fun r1 u H locs hw hP hD hS => ?_)
          obtain ⟨z_items_1, rfl⟩ : ∃ z, z = u := ⟨_, rfl⟩
          try dsimp only at hw
          replace hP : va_P D vwCl (lawW G x0 y0 a b pq kq sq v f (va_up g 0 z_items_1)) H := hP
          replace hD : va_D (fun q : Nat => s.heap.size ≤ q) (lawW G x0 y0 a b pq kq sq v f (va_up g 0 z_items_1)) := hD
          refine lv_aload_n hx hb dL_law_1331 rfl (lv_at hl 2 rfl) ?_
          refine lv_aload_n hx hb dL_law_1332 rfl (lv_at hl 0 rfl) ?_
          refine lv_iload_n hx hb dL_law_1333 rfl (lv_at hl 3 rfl) ?_
          refine lv_iconst (v := 1) hx hb dL_law_1334 (by decide) ?_
          refine lv_iadd hx hb dL_law_1335 ?_
          refine va_sld hx hb hX hbl hbA hS (hin 1 (by decide)) dL_law_1336 ?_
          refine lv_aload_n hx hb dL_law_1337 rfl (lv_at hl 0 rfl) ?_
          refine lv_iload_n hx hb dL_law_1338 rfl (lv_at hl 3 rfl) ?_
          refine lv_iconst (v := 2) hx hb dL_law_1339 (by decide) ?_
          refine lv_iadd hx hb dL_law_1340 ?_
          refine va_sld hx hb hX hbl hbA hS (hin 2 (by decide)) dL_law_1341 ?_
          refine lv_aload_n hx hb dL_law_1342 rfl (lv_at hl 0 rfl) ?_
          refine lv_iload_n hx hb dL_law_1343 rfl (lv_at hl 3 rfl) ?_
          refine lv_iconst (v := 3) hx hb dL_law_1344 (by decide) ?_
          refine lv_iadd hx hb dL_law_1345 ?_
          refine va_sld hx hb hX hbl hbA hS (hin 3 (by decide)) dL_law_1346 ?_
          refine lv_aload_n hx hb dL_law_1347 rfl (lv_at hl 0 rfl) ?_
          refine lv_iload_n hx hb dL_law_1348 rfl (lv_at hl 3 rfl) ?_
          refine lv_iconst (v := 4) hx hb dL_law_1349 (by decide) ?_
          refine lv_iadd hx hb dL_law_1350 ?_
          refine va_sld hx hb hX hbl hbA hS (hin 4 (by decide)) dL_law_1351 ?_
          refine lv_aload_n hx hb dL_law_1352 rfl (lv_at hl 0 rfl) ?_
          refine lv_iload_n hx hb dL_law_1353 rfl (lv_at hl 3 rfl) ?_
          refine lv_iconst (v := 5) hx hb dL_law_1354 (by decide) ?_
          refine lv_iadd hx hb dL_law_1355 ?_
          refine va_sld hx hb hX hbl hbA hS (hin 5 (by decide)) dL_law_1356 ?_
          have hc := c_X8_copy l D G H.size y0 (b 0) (b 1) (b 2) (b 3) (b 4) (b 5) (b 6) (b 7) (b 8) (b 9) (b 10) (v 37) (v 38) (v 39) (v 40) (v 41) (v 42) (v 43) (f 26) (f 27) (g 4) (xs (x3 + (1 : Int32)).toNatClampNeg) (xs (x3 + (2 : Int32)).toNatClampNeg) (xs (x3 + (3 : Int32)).toNatClampNeg) (xs (x3 + (4 : Int32)).toNatClampNeg) (xs (x3 + (5 : Int32)).toNatClampNeg) _ hw
          refine x_cPi (va_runV (As := [.int (xs (x3 + (1 : Int32)).toNatClampNeg), .int (xs (x3 + (2 : Int32)).toNatClampNeg), .int (xs (x3 + (3 : Int32)).toNatClampNeg), .int (xs (x3 + (4 : Int32)).toNatClampNeg), .int (xs (x3 + (5 : Int32)).toNatClampNeg)]) (rest := [.int r1]) ⟨hx, hb, hml, hown, hts⟩ hc (cwV 5 hts gL_law_X8_copy rfl rfl rfl (by decide +kernel) ⟨(Nat.le_of_ble_eq_true rfl), (Nat.le_of_ble_eq_true rfl)⟩) (xM_pv (hP.sub [54, 55, 56, 57] rfl) hK (hD.sub [54, 55, 56, 57] (by decide) rfl) (va_recv hK hP (ci := 8) (q0 := 54) rfl rfl)) rfl rfl hl.1 rfl (lv_room (Nat.le_of_ble_eq_true rfl)) dL_law_1357 ⟨(Nat.le_of_ble_eq_true rfl), (Nat.le_of_ble_eq_true rfl)⟩) hP hD hS hA [54, 55, 56, 57] rfl (fun u => rfl) (fun u => (lawW G x0 y0 a b pq kq sq v f (va_up (va_up g 0 z_items_1) 4 u))) (fun u => rfl) (fun r2 u H locs hw hP hD hS => ?_)
          obtain ⟨m_item_2, rfl⟩ : ∃ z, z = u := ⟨_, rfl⟩
          try dsimp only at hw
          replace hP : va_P D vwCl (lawW G x0 y0 a b pq kq sq v f (va_up (va_up g 0 z_items_1) 4 m_item_2)) H := hP
          replace hD : va_D (fun q : Nat => s.heap.size ≤ q) (lawW G x0 y0 a b pq kq sq v f (va_up (va_up g 0 z_items_1) 4 m_item_2)) := hD
          refine lv_icmp_eq (tgt := 1365) hx hb dL_law_1360 (by decide) (fun _ => ?_) (fun c9 => absurd hw.1 c9)
          exact cont _ _ _ _ _ _ hw.2 hP hD hS hl
        · have hq2 : sq ((xs (x3 + (3 : Int32)).toNatClampNeg)).toNatClampNeg = sq 1 := x_sq hsq hi
          have hw := hSt_copyD v f g (xs (x3 + (1 : Int32)).toNatClampNeg) (xs (x3 + (2 : Int32)).toNatClampNeg) (xs (x3 + (3 : Int32)).toNatClampNeg) (xs (x3 + (4 : Int32)).toNatClampNeg) (xs (x3 + (5 : Int32)).toNatClampNeg) 3 1 hj hi (by decide) hR
          have hc := c_X7_copy l D G H.size x0 (a 0) (a 14) (a 28) (a 33) (a 38) (a 40) (a 44) sq (a 52) (a 48) (v 0) (v (29 + 3)) (v (33 + 3)) (g 3) (v (29 + 1)) (v (33 + 1)) (g 1) (xs (x3 + (1 : Int32)).toNatClampNeg) (xs (x3 + (2 : Int32)).toNatClampNeg) (xs (x3 + (3 : Int32)).toNatClampNeg) (xs (x3 + (4 : Int32)).toNatClampNeg) (xs (x3 + (5 : Int32)).toNatClampNeg) _ hw
          rw [hq, hq2] at hc
          refine x_cPi (va_runV (As := [.int (xs (x3 + (1 : Int32)).toNatClampNeg), .int (xs (x3 + (2 : Int32)).toNatClampNeg), .int (xs (x3 + (3 : Int32)).toNatClampNeg), .int (xs (x3 + (4 : Int32)).toNatClampNeg), .int (xs (x3 + (5 : Int32)).toNatClampNeg)]) (rest := []) ⟨hx, hb, hml, hown, hts⟩ hc (cwV 5 hts gL_law_X7_copy rfl rfl rfl (by decide +kernel) ⟨(Nat.le_of_ble_eq_true rfl), (Nat.le_of_ble_eq_true rfl)⟩) (xM_pv (hP.sub [0, 45, 52, 53, 48, 49] rfl) hK (hD.sub [0, 45, 52, 53, 48, 49] (by decide) rfl) (va_recv hK hP (ci := 7) (q0 := 0) rfl rfl)) rfl rfl hl.1 rfl (lv_room (Nat.le_of_ble_eq_true rfl)) dL_law_1328 ⟨(Nat.le_of_ble_eq_true rfl), (Nat.le_of_ble_eq_true rfl)⟩) hP hD hS hA [0, 45, 52, 53, 48, 49] rfl (fun u => rfl) (fun u => (lawW G x0 y0 a b pq kq sq v f (va_up g 1 u))) (fun u => rfl) (fun r1 u H locs hw hP hD hS => ?_)
          obtain ⟨z_items_1, rfl⟩ : ∃ z, z = u := ⟨_, rfl⟩
          try dsimp only at hw
          replace hP : va_P D vwCl (lawW G x0 y0 a b pq kq sq v f (va_up g 1 z_items_1)) H := hP
          replace hD : va_D (fun q : Nat => s.heap.size ≤ q) (lawW G x0 y0 a b pq kq sq v f (va_up g 1 z_items_1)) := hD
          refine lv_aload_n hx hb dL_law_1331 rfl (lv_at hl 2 rfl) ?_
          refine lv_aload_n hx hb dL_law_1332 rfl (lv_at hl 0 rfl) ?_
          refine lv_iload_n hx hb dL_law_1333 rfl (lv_at hl 3 rfl) ?_
          refine lv_iconst (v := 1) hx hb dL_law_1334 (by decide) ?_
          refine lv_iadd hx hb dL_law_1335 ?_
          refine va_sld hx hb hX hbl hbA hS (hin 1 (by decide)) dL_law_1336 ?_
          refine lv_aload_n hx hb dL_law_1337 rfl (lv_at hl 0 rfl) ?_
          refine lv_iload_n hx hb dL_law_1338 rfl (lv_at hl 3 rfl) ?_
          refine lv_iconst (v := 2) hx hb dL_law_1339 (by decide) ?_
          refine lv_iadd hx hb dL_law_1340 ?_
          refine va_sld hx hb hX hbl hbA hS (hin 2 (by decide)) dL_law_1341 ?_
          refine lv_aload_n hx hb dL_law_1342 rfl (lv_at hl 0 rfl) ?_
          refine lv_iload_n hx hb dL_law_1343 rfl (lv_at hl 3 rfl) ?_
          refine lv_iconst (v := 3) hx hb dL_law_1344 (by decide) ?_
          refine lv_iadd hx hb dL_law_1345 ?_
          refine va_sld hx hb hX hbl hbA hS (hin 3 (by decide)) dL_law_1346 ?_
          refine lv_aload_n hx hb dL_law_1347 rfl (lv_at hl 0 rfl) ?_
          refine lv_iload_n hx hb dL_law_1348 rfl (lv_at hl 3 rfl) ?_
          refine lv_iconst (v := 4) hx hb dL_law_1349 (by decide) ?_
          refine lv_iadd hx hb dL_law_1350 ?_
          refine va_sld hx hb hX hbl hbA hS (hin 4 (by decide)) dL_law_1351 ?_
          refine lv_aload_n hx hb dL_law_1352 rfl (lv_at hl 0 rfl) ?_
          refine lv_iload_n hx hb dL_law_1353 rfl (lv_at hl 3 rfl) ?_
          refine lv_iconst (v := 5) hx hb dL_law_1354 (by decide) ?_
          refine lv_iadd hx hb dL_law_1355 ?_
          refine va_sld hx hb hX hbl hbA hS (hin 5 (by decide)) dL_law_1356 ?_
          have hc := c_X8_copy l D G H.size y0 (b 0) (b 1) (b 2) (b 3) (b 4) (b 5) (b 6) (b 7) (b 8) (b 9) (b 10) (v 37) (v 38) (v 39) (v 40) (v 41) (v 42) (v 43) (f 26) (f 27) (g 4) (xs (x3 + (1 : Int32)).toNatClampNeg) (xs (x3 + (2 : Int32)).toNatClampNeg) (xs (x3 + (3 : Int32)).toNatClampNeg) (xs (x3 + (4 : Int32)).toNatClampNeg) (xs (x3 + (5 : Int32)).toNatClampNeg) _ hw
          refine x_cPi (va_runV (As := [.int (xs (x3 + (1 : Int32)).toNatClampNeg), .int (xs (x3 + (2 : Int32)).toNatClampNeg), .int (xs (x3 + (3 : Int32)).toNatClampNeg), .int (xs (x3 + (4 : Int32)).toNatClampNeg), .int (xs (x3 + (5 : Int32)).toNatClampNeg)]) (rest := [.int r1]) ⟨hx, hb, hml, hown, hts⟩ hc (cwV 5 hts gL_law_X8_copy rfl rfl rfl (by decide +kernel) ⟨(Nat.le_of_ble_eq_true rfl), (Nat.le_of_ble_eq_true rfl)⟩) (xM_pv (hP.sub [54, 55, 56, 57] rfl) hK (hD.sub [54, 55, 56, 57] (by decide) rfl) (va_recv hK hP (ci := 8) (q0 := 54) rfl rfl)) rfl rfl hl.1 rfl (lv_room (Nat.le_of_ble_eq_true rfl)) dL_law_1357 ⟨(Nat.le_of_ble_eq_true rfl), (Nat.le_of_ble_eq_true rfl)⟩) hP hD hS hA [54, 55, 56, 57] rfl (fun u => rfl) (fun u => (lawW G x0 y0 a b pq kq sq v f (va_up (va_up g 1 z_items_1) 4 u))) (fun u => rfl) (fun r2 u H locs hw hP hD hS => ?_)
          obtain ⟨m_item_2, rfl⟩ : ∃ z, z = u := ⟨_, rfl⟩
          try dsimp only at hw
          replace hP : va_P D vwCl (lawW G x0 y0 a b pq kq sq v f (va_up (va_up g 1 z_items_1) 4 m_item_2)) H := hP
          replace hD : va_D (fun q : Nat => s.heap.size ≤ q) (lawW G x0 y0 a b pq kq sq v f (va_up (va_up g 1 z_items_1) 4 m_item_2)) := hD
          refine lv_icmp_eq (tgt := 1365) hx hb dL_law_1360 (by decide) (fun _ => ?_) (fun c9 => absurd hw.1 c9)
          exact cont _ _ _ _ _ _ hw.2 hP hD hS hl
        · have hq2 : sq ((xs (x3 + (3 : Int32)).toNatClampNeg)).toNatClampNeg = sq 2 := x_sq hsq hi
          have hw := hSt_copyD v f g (xs (x3 + (1 : Int32)).toNatClampNeg) (xs (x3 + (2 : Int32)).toNatClampNeg) (xs (x3 + (3 : Int32)).toNatClampNeg) (xs (x3 + (4 : Int32)).toNatClampNeg) (xs (x3 + (5 : Int32)).toNatClampNeg) 3 2 hj hi (by decide) hR
          have hc := c_X7_copy l D G H.size x0 (a 0) (a 14) (a 28) (a 33) (a 38) (a 40) (a 44) sq (a 52) (a 50) (v 0) (v (29 + 3)) (v (33 + 3)) (g 3) (v (29 + 2)) (v (33 + 2)) (g 2) (xs (x3 + (1 : Int32)).toNatClampNeg) (xs (x3 + (2 : Int32)).toNatClampNeg) (xs (x3 + (3 : Int32)).toNatClampNeg) (xs (x3 + (4 : Int32)).toNatClampNeg) (xs (x3 + (5 : Int32)).toNatClampNeg) _ hw
          rw [hq, hq2] at hc
          refine x_cPi (va_runV (As := [.int (xs (x3 + (1 : Int32)).toNatClampNeg), .int (xs (x3 + (2 : Int32)).toNatClampNeg), .int (xs (x3 + (3 : Int32)).toNatClampNeg), .int (xs (x3 + (4 : Int32)).toNatClampNeg), .int (xs (x3 + (5 : Int32)).toNatClampNeg)]) (rest := []) ⟨hx, hb, hml, hown, hts⟩ hc (cwV 5 hts gL_law_X7_copy rfl rfl rfl (by decide +kernel) ⟨(Nat.le_of_ble_eq_true rfl), (Nat.le_of_ble_eq_true rfl)⟩) (xM_pv (hP.sub [0, 45, 52, 53, 50, 51] rfl) hK (hD.sub [0, 45, 52, 53, 50, 51] (by decide) rfl) (va_recv hK hP (ci := 7) (q0 := 0) rfl rfl)) rfl rfl hl.1 rfl (lv_room (Nat.le_of_ble_eq_true rfl)) dL_law_1328 ⟨(Nat.le_of_ble_eq_true rfl), (Nat.le_of_ble_eq_true rfl)⟩) hP hD hS hA [0, 45, 52, 53, 50, 51] rfl (fun u => rfl) (fun u => (lawW G x0 y0 a b pq kq sq v f (va_up g 2 u))) (fun u => rfl) (fun r1 u H locs hw hP hD hS => ?_)
          obtain ⟨z_items_1, rfl⟩ : ∃ z, z = u := ⟨_, rfl⟩
          try dsimp only at hw
          replace hP : va_P D vwCl (lawW G x0 y0 a b pq kq sq v f (va_up g 2 z_items_1)) H := hP
          replace hD : va_D (fun q : Nat => s.heap.size ≤ q) (lawW G x0 y0 a b pq kq sq v f (va_up g 2 z_items_1)) := hD
          refine lv_aload_n hx hb dL_law_1331 rfl (lv_at hl 2 rfl) ?_
          refine lv_aload_n hx hb dL_law_1332 rfl (lv_at hl 0 rfl) ?_
          refine lv_iload_n hx hb dL_law_1333 rfl (lv_at hl 3 rfl) ?_
          refine lv_iconst (v := 1) hx hb dL_law_1334 (by decide) ?_
          refine lv_iadd hx hb dL_law_1335 ?_
          refine va_sld hx hb hX hbl hbA hS (hin 1 (by decide)) dL_law_1336 ?_
          refine lv_aload_n hx hb dL_law_1337 rfl (lv_at hl 0 rfl) ?_
          refine lv_iload_n hx hb dL_law_1338 rfl (lv_at hl 3 rfl) ?_
          refine lv_iconst (v := 2) hx hb dL_law_1339 (by decide) ?_
          refine lv_iadd hx hb dL_law_1340 ?_
          refine va_sld hx hb hX hbl hbA hS (hin 2 (by decide)) dL_law_1341 ?_
          refine lv_aload_n hx hb dL_law_1342 rfl (lv_at hl 0 rfl) ?_
          refine lv_iload_n hx hb dL_law_1343 rfl (lv_at hl 3 rfl) ?_
          refine lv_iconst (v := 3) hx hb dL_law_1344 (by decide) ?_
          refine lv_iadd hx hb dL_law_1345 ?_
          refine va_sld hx hb hX hbl hbA hS (hin 3 (by decide)) dL_law_1346 ?_
          refine lv_aload_n hx hb dL_law_1347 rfl (lv_at hl 0 rfl) ?_
          refine lv_iload_n hx hb dL_law_1348 rfl (lv_at hl 3 rfl) ?_
          refine lv_iconst (v := 4) hx hb dL_law_1349 (by decide) ?_
          refine lv_iadd hx hb dL_law_1350 ?_
          refine va_sld hx hb hX hbl hbA hS (hin 4 (by decide)) dL_law_1351 ?_
          refine lv_aload_n hx hb dL_law_1352 rfl (lv_at hl 0 rfl) ?_
          refine lv_iload_n hx hb dL_law_1353 rfl (lv_at hl 3 rfl) ?_
          refine lv_iconst (v := 5) hx hb dL_law_1354 (by decide) ?_
          refine lv_iadd hx hb dL_law_1355 ?_
          refine va_sld hx hb hX hbl hbA hS (hin 5 (by decide)) dL_law_1356 ?_
          have hc := c_X8_copy l D G H.size y0 (b 0) (b 1) (b 2) (b 3) (b 4) (b 5) (b 6) (b 7) (b 8) (b 9) (b 10) (v 37) (v 38) (v 39) (v 40) (v 41) (v 42) (v 43) (f 26) (f 27) (g 4) (xs (x3 + (1 : Int32)).toNatClampNeg) (xs (x3 + (2 : Int32)).toNatClampNeg) (xs (x3 + (3 : Int32)).toNatClampNeg) (xs (x3 + (4 : Int32)).toNatClampNeg) (xs (x3 + (5 : Int32)).toNatClampNeg) _ hw
          refine x_cPi (va_runV (As := [.int (xs (x3 + (1 : Int32)).toNatClampNeg), .int (xs (x3 + (2 : Int32)).toNatClampNeg), .int (xs (x3 + (3 : Int32)).toNatClampNeg), .int (xs (x3 + (4 : Int32)).toNatClampNeg), .int (xs (x3 + (5 : Int32)).toNatClampNeg)]) (rest := [.int r1]) ⟨hx, hb, hml, hown, hts⟩ hc (cwV 5 hts gL_law_X8_copy rfl rfl rfl (by decide +kernel) ⟨(Nat.le_of_ble_eq_true rfl), (Nat.le_of_ble_eq_true rfl)⟩) (xM_pv (hP.sub [54, 55, 56, 57] rfl) hK (hD.sub [54, 55, 56, 57] (by decide) rfl) (va_recv hK hP (ci := 8) (q0 := 54) rfl rfl)) rfl rfl hl.1 rfl (lv_room (Nat.le_of_ble_eq_true rfl)) dL_law_1357 ⟨(Nat.le_of_ble_eq_true rfl), (Nat.le_of_ble_eq_true rfl)⟩) hP hD hS hA [54, 55, 56, 57] rfl (fun u => rfl) (fun u => (lawW G x0 y0 a b pq kq sq v f (va_up (va_up g 2 z_items_1) 4 u))) (fun u => rfl) (fun r2 u H locs hw hP hD hS => ?_)
          obtain ⟨m_item_2, rfl⟩ : ∃ z, z = u := ⟨_, rfl⟩
          try dsimp only at hw
          replace hP : va_P D vwCl (lawW G x0 y0 a b pq kq sq v f (va_up (va_up g 2 z_items_1) 4 m_item_2)) H := hP
          replace hD : va_D (fun q : Nat => s.heap.size ≤ q) (lawW G x0 y0 a b pq kq sq v f (va_up (va_up g 2 z_items_1) 4 m_item_2)) := hD
          refine lv_icmp_eq (tgt := 1365) hx hb dL_law_1360 (by decide) (fun _ => ?_) (fun c9 => absurd hw.1 c9)
          exact cont _ _ _ _ _ _ hw.2 hP hD hS hl
        · exact absurd (ei.trans ej.symm) hxx
    have hw := hSt_copyB v f g (xs (x3 + (1 : Int32)).toNatClampNeg) (xs (x3 + (2 : Int32)).toNatClampNeg) (xs (x3 + (3 : Int32)).toNatClampNeg) (xs (x3 + (4 : Int32)).toNatClampNeg) (xs (x3 + (5 : Int32)).toNatClampNeg) hbb hR
    have hc := c_X7_copyB l D G x0 (xs (x3 + (1 : Int32)).toNatClampNeg) (xs (x3 + (2 : Int32)).toNatClampNeg) (xs (x3 + (3 : Int32)).toNatClampNeg) (xs (x3 + (4 : Int32)).toNatClampNeg) (xs (x3 + (5 : Int32)).toNatClampNeg) _ hw
    refine vp_callSi (W.runV (As := [.int (xs (x3 + (1 : Int32)).toNatClampNeg), .int (xs (x3 + (2 : Int32)).toNatClampNeg), .int (xs (x3 + (3 : Int32)).toNatClampNeg), .int (xs (x3 + (4 : Int32)).toNatClampNeg), .int (xs (x3 + (5 : Int32)).toNatClampNeg)]) (rest := []) ⟨hx, hb, hml, hown, hts⟩ hc (cwV 5 hts gL_law_X7_copy rfl rfl rfl (by decide +kernel) ⟨(Nat.le_of_ble_eq_true rfl), (Nat.le_of_ble_eq_true rfl)⟩) (xR_pv (hP.sub [] rfl) hK (va_recv hK hP (ci := 7) (q0 := 0) rfl rfl)) rfl rfl hl.1 rfl (lv_room (Nat.le_of_ble_eq_true rfl)) dL_law_1328 ⟨(Nat.le_of_ble_eq_true rfl), (Nat.le_of_ble_eq_true rfl)⟩) (fun r1 hw => ?_)
    refine lv_aload_n hx hb dL_law_1331 rfl (lv_at hl 2 rfl) ?_
    refine lv_aload_n hx hb dL_law_1332 rfl (lv_at hl 0 rfl) ?_
    refine lv_iload_n hx hb dL_law_1333 rfl (lv_at hl 3 rfl) ?_
    refine lv_iconst (v := 1) hx hb dL_law_1334 (by decide) ?_
    refine lv_iadd hx hb dL_law_1335 ?_
    refine va_sld hx hb hX hbl hbA hS (hin 1 (by decide)) dL_law_1336 ?_
    refine lv_aload_n hx hb dL_law_1337 rfl (lv_at hl 0 rfl) ?_
    refine lv_iload_n hx hb dL_law_1338 rfl (lv_at hl 3 rfl) ?_
    refine lv_iconst (v := 2) hx hb dL_law_1339 (by decide) ?_
    refine lv_iadd hx hb dL_law_1340 ?_
    refine va_sld hx hb hX hbl hbA hS (hin 2 (by decide)) dL_law_1341 ?_
    refine lv_aload_n hx hb dL_law_1342 rfl (lv_at hl 0 rfl) ?_
    refine lv_iload_n hx hb dL_law_1343 rfl (lv_at hl 3 rfl) ?_
    refine lv_iconst (v := 3) hx hb dL_law_1344 (by decide) ?_
    refine lv_iadd hx hb dL_law_1345 ?_
    refine va_sld hx hb hX hbl hbA hS (hin 3 (by decide)) dL_law_1346 ?_
    refine lv_aload_n hx hb dL_law_1347 rfl (lv_at hl 0 rfl) ?_
    refine lv_iload_n hx hb dL_law_1348 rfl (lv_at hl 3 rfl) ?_
    refine lv_iconst (v := 4) hx hb dL_law_1349 (by decide) ?_
    refine lv_iadd hx hb dL_law_1350 ?_
    refine va_sld hx hb hX hbl hbA hS (hin 4 (by decide)) dL_law_1351 ?_
    refine lv_aload_n hx hb dL_law_1352 rfl (lv_at hl 0 rfl) ?_
    refine lv_iload_n hx hb dL_law_1353 rfl (lv_at hl 3 rfl) ?_
    refine lv_iconst (v := 5) hx hb dL_law_1354 (by decide) ?_
    refine lv_iadd hx hb dL_law_1355 ?_
    refine va_sld hx hb hX hbl hbA hS (hin 5 (by decide)) dL_law_1356 ?_
    have hc := c_X8_copy l D G H.size y0 (b 0) (b 1) (b 2) (b 3) (b 4) (b 5) (b 6) (b 7) (b 8) (b 9) (b 10) (v 37) (v 38) (v 39) (v 40) (v 41) (v 42) (v 43) (f 26) (f 27) (g 4) (xs (x3 + (1 : Int32)).toNatClampNeg) (xs (x3 + (2 : Int32)).toNatClampNeg) (xs (x3 + (3 : Int32)).toNatClampNeg) (xs (x3 + (4 : Int32)).toNatClampNeg) (xs (x3 + (5 : Int32)).toNatClampNeg) _ hw
    refine x_cPi (va_runV (As := [.int (xs (x3 + (1 : Int32)).toNatClampNeg), .int (xs (x3 + (2 : Int32)).toNatClampNeg), .int (xs (x3 + (3 : Int32)).toNatClampNeg), .int (xs (x3 + (4 : Int32)).toNatClampNeg), .int (xs (x3 + (5 : Int32)).toNatClampNeg)]) (rest := [.int r1]) ⟨hx, hb, hml, hown, hts⟩ hc (cwV 5 hts gL_law_X8_copy rfl rfl rfl (by decide +kernel) ⟨(Nat.le_of_ble_eq_true rfl), (Nat.le_of_ble_eq_true rfl)⟩) (xM_pv (hP.sub [54, 55, 56, 57] rfl) hK (hD.sub [54, 55, 56, 57] (by decide) rfl) (va_recv hK hP (ci := 8) (q0 := 54) rfl rfl)) rfl rfl hl.1 rfl (lv_room (Nat.le_of_ble_eq_true rfl)) dL_law_1357 ⟨(Nat.le_of_ble_eq_true rfl), (Nat.le_of_ble_eq_true rfl)⟩) hP hD hS hA [54, 55, 56, 57] rfl (fun u => rfl) (fun u => (lawW G x0 y0 a b pq kq sq v f (va_up g 4 u))) (fun u => rfl) (fun r2 u H locs hw hP hD hS => ?_)
    obtain ⟨m_item_2, rfl⟩ : ∃ z, z = u := ⟨_, rfl⟩
    try dsimp only at hw
    replace hP : va_P D vwCl (lawW G x0 y0 a b pq kq sq v f (va_up g 4 m_item_2)) H := hP
    replace hD : va_D (fun q : Nat => s.heap.size ≤ q) (lawW G x0 y0 a b pq kq sq v f (va_up g 4 m_item_2)) := hD
    refine lv_icmp_eq (tgt := 1365) hx hb dL_law_1360 (by decide) (fun _ => ?_) (fun c9 => absurd hw.1 c9)
    exact cont _ _ _ _ _ _ hw.2 hP hD hS hl
