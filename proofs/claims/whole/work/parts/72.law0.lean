set_option maxHeartbeats 8000000 in
set_option maxRecDepth 100000 in
theorem lawc_cow {p : Program} {l : Launch} {e : Env} {s : State} {m : MethodId} {below : List Frame} {meth : Method} {c : Code} {D : va_G} {G : Nat → ClassId} {x0 y0 : Nat} {a b pq kq sq : Nat → Nat} {b0 L : Nat} {xs : Nat → Int32} (C0 : lw_At p s m meth c b0 L xs) (R : ((Nat → Int32) → (Nat → Nat → Int32) → (Nat → Nat → Int64) → Prop)) (hSt_cow : Step_cow R) (x3 : Int32) (hin : ∀ k : Nat, k ≤ 8 → vp_in (x3 + Int32.ofNat k) L) (v : Nat → Int32) (f : Nat → Nat → Int32) (g : Nat → Nat → Int64) (hR : R v f g) (H : Heap) (locs : List Loc) (ls : Array Slot) (hK : va_K D vwCl (tyL G) s) (hP : va_P D vwCl (lawW G x0 y0 a b pq kq sq v f g) H) (hD : va_D (fun q : Nat => s.heap.size ≤ q) (lawW G x0 y0 a b pq kq sq v f g)) (hS : va_S (fun q : Nat => s.heap.size ≤ q) s.heap H locs) (hl : lv_has ls 4 [(0, .ref b0), (1, .ref x0), (2, .ref y0), (3, .int x3)]) (cont : ∀ (v : Nat → Int32) (f : Nat → Nat → Int32) (g : Nat → Nat → Int64) (H : Heap) (locs : List Loc) (ls : Array Slot), R v f g → va_P D vwCl (lawW G x0 y0 a b pq kq sq v f g) H → va_D (fun q : Nat => s.heap.size ≤ q) (lawW G x0 y0 a b pq kq sq v f g) → va_S (fun q : Nat => s.heap.size ≤ q) s.heap H locs → lv_has ls 4 [(0, .ref b0), (1, .ref x0), (2, .ref y0), (3, .int x3)] → W p l e room_1 s m #[Value.ref b0] below meth c H locs 66 2290 (lw_Z below #[Value.ref b0] s) (F0 m 1365 ls [])) : W p l e room_1 s m #[Value.ref b0] below meth c H locs 66 2290 (lw_Z below #[Value.ref b0] s) (F0 m 184 ls []) := by
  obtain ⟨hx, hb, hr, hml, hown, hts0, hX, hbl, hlocks, hgv⟩ := id C0
  have hb : c.code = cL_law := hb
  have hown : s.vm.findClass RL = some m.cls := hown
  have hts : ∀ w ∈ wsL_law, w.before #[Value.ref b0] s = true := fun w h => hts0 w (wsL_law_in w h)
  have hA : ∀ q : Nat, s.heap.size ≤ q → (fun q : Nat => s.heap.size ≤ q) q := fun _ h => h
  have hbA : ¬ (fun q : Nat => s.heap.size ≤ q) b0 := Nat.not_le.mpr hbl
  refine lv_aload_n hx hb dL_law_184 rfl (lv_at hl 1 rfl) ?_
  refine lv_aload_n hx hb dL_law_185 rfl (lv_at hl 0 rfl) ?_
  refine lv_iload_n hx hb dL_law_186 rfl (lv_at hl 3 rfl) ?_
  refine lv_iconst (v := 1) hx hb dL_law_187 (by decide) ?_
  refine lv_iadd hx hb dL_law_188 ?_
  refine va_sld hx hb hX hbl hbA hS (hin 1 (by decide)) dL_law_189 ?_
  have hw := hSt_cow v f g (xs (x3 + (1 : Int32)).toNatClampNeg) hR
  have hc := c_X7_cow l D G H.size x0 (a 0) (a 14) (a 28) (a 33) (a 38) (a 40) (a 44) (a 1) (a 2) (a 3) (a 4) (a 5) (v 0) (v 1) (v 2) (v 3) (v 4) (f 0) (v 5) (v 6) (v 7) (v 8) (xs (x3 + (1 : Int32)).toNatClampNeg) _ hw
  refine x_cPi (va_runV (As := [.int (xs (x3 + (1 : Int32)).toNatClampNeg)]) (rest := []) ⟨hx, hb, hml, hown, hts⟩ hc (cwV 1 hts gL_law_X7_cow rfl rfl rfl (by decide +kernel) ⟨(Nat.le_of_ble_eq_true rfl), (Nat.le_of_ble_eq_true rfl)⟩) (xM_pv (hP.sub [0, 1, 2, 5] rfl) hK (hD.sub [0, 1, 2, 5] (by decide) rfl) (va_recv hK hP (ci := 7) (q0 := 0) rfl rfl)) rfl rfl hl.1 rfl (lv_room (Nat.le_of_ble_eq_true rfl)) dL_law_190 ⟨(Nat.le_of_ble_eq_true rfl), (Nat.le_of_ble_eq_true rfl)⟩) hP hD hS hA [0, 1, 2, 5] rfl (fun u => rfl) (fun u => (lawW G x0 y0 a b pq kq sq (va_up (va_up (va_up v 1 u.1) 4 u.2.1) 5 u.2.2.2) (va_up f 0 u.2.2.1) g)) (fun u => rfl) (fun r1 u H locs hw hP hD hS => ?_)
  obtain ⟨cows_1, known_1, milks_1, mayBe_1⟩ := u
  try dsimp only at hw
  replace hP : va_P D vwCl (lawW G x0 y0 a b pq kq sq (va_up (va_up (va_up v 1 cows_1) 4 known_1) 5 mayBe_1) (va_up f 0 milks_1) g) H := hP
  replace hD : va_D (fun q : Nat => s.heap.size ≤ q) (lawW G x0 y0 a b pq kq sq (va_up (va_up (va_up v 1 cows_1) 4 known_1) 5 mayBe_1) (va_up f 0 milks_1) g) := hD
  refine lv_aload_n hx hb dL_law_193 rfl (lv_at hl 2 rfl) ?_
  refine lv_aload_n hx hb dL_law_194 rfl (lv_at hl 0 rfl) ?_
  refine lv_iload_n hx hb dL_law_195 rfl (lv_at hl 3 rfl) ?_
  refine lv_iconst (v := 1) hx hb dL_law_196 (by decide) ?_
  refine lv_iadd hx hb dL_law_197 ?_
  refine va_sld hx hb hX hbl hbA hS (hin 1 (by decide)) dL_law_198 ?_
  have hc := c_X8_cow l D G H.size y0 (b 0) (b 1) (b 2) (b 3) (b 4) (b 5) (b 6) (b 7) (b 8) (b 9) (b 10) (v 37) (v 38) (v 39) (v 40) (v 41) (v 42) (v 43) (f 29) (xs (x3 + (1 : Int32)).toNatClampNeg) _ hw
  refine x_cPi (va_runV (As := [.int (xs (x3 + (1 : Int32)).toNatClampNeg)]) (rest := [.int r1]) ⟨hx, hb, hml, hown, hts⟩ hc (cwV 1 hts gL_law_X8_cow rfl rfl rfl (by decide +kernel) ⟨(Nat.le_of_ble_eq_true rfl), (Nat.le_of_ble_eq_true rfl)⟩) (xM_pv (hP.sub [54, 59] rfl) hK (hD.sub [54, 59] (by decide) rfl) (va_recv hK hP (ci := 8) (q0 := 54) rfl rfl)) rfl rfl hl.1 rfl (lv_room (Nat.le_of_ble_eq_true rfl)) dL_law_199 ⟨(Nat.le_of_ble_eq_true rfl), (Nat.le_of_ble_eq_true rfl)⟩) hP hD hS hA [54, 59] rfl (fun u => rfl) (fun u => (lawW G x0 y0 a b pq kq sq (va_up (va_up (va_up v 1 cows_1) 4 known_1) 5 mayBe_1) (va_up (va_up f 0 milks_1) 29 u) g)) (fun u => rfl) (fun r2 u H locs hw hP hD hS => ?_)
  obtain ⟨m_now_2, rfl⟩ : ∃ z, z = u := ⟨_, rfl⟩
  try dsimp only at hw
  replace hP : va_P D vwCl (lawW G x0 y0 a b pq kq sq (va_up (va_up (va_up v 1 cows_1) 4 known_1) 5 mayBe_1) (va_up (va_up f 0 milks_1) 29 m_now_2) g) H := hP
  replace hD : va_D (fun q : Nat => s.heap.size ≤ q) (lawW G x0 y0 a b pq kq sq (va_up (va_up (va_up v 1 cows_1) 4 known_1) 5 mayBe_1) (va_up (va_up f 0 milks_1) 29 m_now_2) g) := hD
  refine lv_icmp_eq (tgt := 1365) hx hb dL_law_202 (by decide) (fun _ => ?_) (fun c9 => absurd hw.1 c9)
  exact cont _ _ _ _ _ _ hw.2 hP hD hS hl
set_option maxHeartbeats 8000000 in
set_option maxRecDepth 100000 in
theorem lawc_taster {p : Program} {l : Launch} {e : Env} {s : State} {m : MethodId} {below : List Frame} {meth : Method} {c : Code} {D : va_G} {G : Nat → ClassId} {x0 y0 : Nat} {a b pq kq sq : Nat → Nat} {b0 L : Nat} {xs : Nat → Int32} (C0 : lw_At p s m meth c b0 L xs) (R : ((Nat → Int32) → (Nat → Nat → Int32) → (Nat → Nat → Int64) → Prop)) (hSt_taster : Step_taster R) (x3 : Int32) (hin : ∀ k : Nat, k ≤ 8 → vp_in (x3 + Int32.ofNat k) L) (v : Nat → Int32) (f : Nat → Nat → Int32) (g : Nat → Nat → Int64) (hR : R v f g) (H : Heap) (locs : List Loc) (ls : Array Slot) (hK : va_K D vwCl (tyL G) s) (hP : va_P D vwCl (lawW G x0 y0 a b pq kq sq v f g) H) (hD : va_D (fun q : Nat => s.heap.size ≤ q) (lawW G x0 y0 a b pq kq sq v f g)) (hS : va_S (fun q : Nat => s.heap.size ≤ q) s.heap H locs) (hl : lv_has ls 4 [(0, .ref b0), (1, .ref x0), (2, .ref y0), (3, .int x3)]) (cont : ∀ (v : Nat → Int32) (f : Nat → Nat → Int32) (g : Nat → Nat → Int64) (H : Heap) (locs : List Loc) (ls : Array Slot), R v f g → va_P D vwCl (lawW G x0 y0 a b pq kq sq v f g) H → va_D (fun q : Nat => s.heap.size ≤ q) (lawW G x0 y0 a b pq kq sq v f g) → va_S (fun q : Nat => s.heap.size ≤ q) s.heap H locs → lv_has ls 4 [(0, .ref b0), (1, .ref x0), (2, .ref y0), (3, .int x3)] → W p l e room_1 s m #[Value.ref b0] below meth c H locs 66 2290 (lw_Z below #[Value.ref b0] s) (F0 m 1365 ls [])) : W p l e room_1 s m #[Value.ref b0] below meth c H locs 66 2290 (lw_Z below #[Value.ref b0] s) (F0 m 207 ls []) := by
  obtain ⟨hx, hb, hr, hml, hown, hts0, hX, hbl, hlocks, hgv⟩ := id C0
  have hb : c.code = cL_law := hb
  have hown : s.vm.findClass RL = some m.cls := hown
  have hts : ∀ w ∈ wsL_law, w.before #[Value.ref b0] s = true := fun w h => hts0 w (wsL_law_in w h)
  have hA : ∀ q : Nat, s.heap.size ≤ q → (fun q : Nat => s.heap.size ≤ q) q := fun _ h => h
  have hbA : ¬ (fun q : Nat => s.heap.size ≤ q) b0 := Nat.not_le.mpr hbl
  refine lv_aload_n hx hb dL_law_207 rfl (lv_at hl 1 rfl) ?_
  refine lv_aload_n hx hb dL_law_208 rfl (lv_at hl 0 rfl) ?_
  refine lv_iload_n hx hb dL_law_209 rfl (lv_at hl 3 rfl) ?_
  refine lv_iconst (v := 1) hx hb dL_law_210 (by decide) ?_
  refine lv_iadd hx hb dL_law_211 ?_
  refine va_sld hx hb hX hbl hbA hS (hin 1 (by decide)) dL_law_212 ?_
  refine lv_aload_n hx hb dL_law_213 rfl (lv_at hl 0 rfl) ?_
  refine lv_iload_n hx hb dL_law_214 rfl (lv_at hl 3 rfl) ?_
  refine lv_iconst (v := 2) hx hb dL_law_215 (by decide) ?_
  refine lv_iadd hx hb dL_law_216 ?_
  refine va_sld hx hb hX hbl hbA hS (hin 2 (by decide)) dL_law_217 ?_
  have hw := hSt_taster v f g (xs (x3 + (1 : Int32)).toNatClampNeg) (xs (x3 + (2 : Int32)).toNatClampNeg) hR
  have hc := c_X7_taster l D G H.size x0 (a 0) (a 14) (a 28) (a 33) (a 38) (a 40) (a 44) (a 1) (a 2) (a 3) (a 4) (a 5) (v 0) (v 1) (v 2) (v 3) (v 4) (f 1) (f 2) (xs (x3 + (1 : Int32)).toNatClampNeg) (xs (x3 + (2 : Int32)).toNatClampNeg) _ hw
  refine x_cPi (va_runV (As := [.int (xs (x3 + (1 : Int32)).toNatClampNeg), .int (xs (x3 + (2 : Int32)).toNatClampNeg)]) (rest := []) ⟨hx, hb, hml, hown, hts⟩ hc (cwV 2 hts gL_law_X7_taster rfl rfl rfl (by decide +kernel) ⟨(Nat.le_of_ble_eq_true rfl), (Nat.le_of_ble_eq_true rfl)⟩) (xM_pv (hP.sub [0, 1, 3, 4] rfl) hK (hD.sub [0, 1, 3, 4] (by decide) rfl) (va_recv hK hP (ci := 7) (q0 := 0) rfl rfl)) rfl rfl hl.1 rfl (lv_room (Nat.le_of_ble_eq_true rfl)) dL_law_218 ⟨(Nat.le_of_ble_eq_true rfl), (Nat.le_of_ble_eq_true rfl)⟩) hP hD hS hA [0, 1, 3, 4] rfl (fun u => rfl) (fun u => (lawW G x0 y0 a b pq kq sq (va_up (va_up v 2 u.1) 4 u.2.1) (va_up (va_up f 1 u.2.2.1) 2 u.2.2.2) g)) (fun u => rfl) (fun r1 u H locs hw hP hD hS => ?_)
  obtain ⟨tasters_1, known_1, kinds_1, fines_1⟩ := u
  try dsimp only at hw
  replace hP : va_P D vwCl (lawW G x0 y0 a b pq kq sq (va_up (va_up v 2 tasters_1) 4 known_1) (va_up (va_up f 1 kinds_1) 2 fines_1) g) H := hP
  replace hD : va_D (fun q : Nat => s.heap.size ≤ q) (lawW G x0 y0 a b pq kq sq (va_up (va_up v 2 tasters_1) 4 known_1) (va_up (va_up f 1 kinds_1) 2 fines_1) g) := hD
  refine lv_aload_n hx hb dL_law_221 rfl (lv_at hl 2 rfl) ?_
  refine lv_aload_n hx hb dL_law_222 rfl (lv_at hl 0 rfl) ?_
  refine lv_iload_n hx hb dL_law_223 rfl (lv_at hl 3 rfl) ?_
  refine lv_iconst (v := 1) hx hb dL_law_224 (by decide) ?_
  refine lv_iadd hx hb dL_law_225 ?_
  refine va_sld hx hb hX hbl hbA hS (hin 1 (by decide)) dL_law_226 ?_
  refine lv_aload_n hx hb dL_law_227 rfl (lv_at hl 0 rfl) ?_
  refine lv_iload_n hx hb dL_law_228 rfl (lv_at hl 3 rfl) ?_
  refine lv_iconst (v := 2) hx hb dL_law_229 (by decide) ?_
  refine lv_iadd hx hb dL_law_230 ?_
  refine va_sld hx hb hX hbl hbA hS (hin 2 (by decide)) dL_law_231 ?_
  have hc := c_X8_taster l D G H.size y0 (b 0) (b 1) (b 2) (b 3) (b 4) (b 5) (b 6) (b 7) (b 8) (b 9) (b 10) (v 37) (v 38) (v 39) (v 40) (v 41) (v 42) (v 43) (f 29) (xs (x3 + (1 : Int32)).toNatClampNeg) (xs (x3 + (2 : Int32)).toNatClampNeg) _ hw
  refine x_cPi (va_runV (As := [.int (xs (x3 + (1 : Int32)).toNatClampNeg), .int (xs (x3 + (2 : Int32)).toNatClampNeg)]) (rest := [.int r1]) ⟨hx, hb, hml, hown, hts⟩ hc (cwV 2 hts gL_law_X8_taster rfl rfl rfl (by decide +kernel) ⟨(Nat.le_of_ble_eq_true rfl), (Nat.le_of_ble_eq_true rfl)⟩) (xM_pv (hP.sub [54, 59] rfl) hK (hD.sub [54, 59] (by decide) rfl) (va_recv hK hP (ci := 8) (q0 := 54) rfl rfl)) rfl rfl hl.1 rfl (lv_room (Nat.le_of_ble_eq_true rfl)) dL_law_232 ⟨(Nat.le_of_ble_eq_true rfl), (Nat.le_of_ble_eq_true rfl)⟩) hP hD hS hA [54, 59] rfl (fun u => rfl) (fun u => (lawW G x0 y0 a b pq kq sq (va_up (va_up v 2 tasters_1) 4 known_1) (va_up (va_up (va_up f 1 kinds_1) 2 fines_1) 29 u) g)) (fun u => rfl) (fun r2 u H locs hw hP hD hS => ?_)
  obtain ⟨m_now_2, rfl⟩ : ∃ z, z = u := ⟨_, rfl⟩
  try dsimp only at hw
  replace hP : va_P D vwCl (lawW G x0 y0 a b pq kq sq (va_up (va_up v 2 tasters_1) 4 known_1) (va_up (va_up (va_up f 1 kinds_1) 2 fines_1) 29 m_now_2) g) H := hP
  replace hD : va_D (fun q : Nat => s.heap.size ≤ q) (lawW G x0 y0 a b pq kq sq (va_up (va_up v 2 tasters_1) 4 known_1) (va_up (va_up (va_up f 1 kinds_1) 2 fines_1) 29 m_now_2) g) := hD
  refine lv_icmp_eq (tgt := 1365) hx hb dL_law_235 (by decide) (fun _ => ?_) (fun c9 => absurd hw.1 c9)
  exact cont _ _ _ _ _ _ hw.2 hP hD hS hl
set_option maxHeartbeats 8000000 in
set_option maxRecDepth 100000 in
theorem lawc_milk {p : Program} {l : Launch} {e : Env} {s : State} {m : MethodId} {below : List Frame} {meth : Method} {c : Code} {D : va_G} {G : Nat → ClassId} {x0 y0 : Nat} {a b pq kq sq : Nat → Nat} {b0 L : Nat} {xs : Nat → Int32} (C0 : lw_At p s m meth c b0 L xs) (R : ((Nat → Int32) → (Nat → Nat → Int32) → (Nat → Nat → Int64) → Prop)) (hSt_milk : Step_milk R) (x3 : Int32) (hin : ∀ k : Nat, k ≤ 8 → vp_in (x3 + Int32.ofNat k) L) (v : Nat → Int32) (f : Nat → Nat → Int32) (g : Nat → Nat → Int64) (hR : R v f g) (H : Heap) (locs : List Loc) (ls : Array Slot) (hK : va_K D vwCl (tyL G) s) (hP : va_P D vwCl (lawW G x0 y0 a b pq kq sq v f g) H) (hD : va_D (fun q : Nat => s.heap.size ≤ q) (lawW G x0 y0 a b pq kq sq v f g)) (hS : va_S (fun q : Nat => s.heap.size ≤ q) s.heap H locs) (hl : lv_has ls 4 [(0, .ref b0), (1, .ref x0), (2, .ref y0), (3, .int x3)]) (cont : ∀ (v : Nat → Int32) (f : Nat → Nat → Int32) (g : Nat → Nat → Int64) (H : Heap) (locs : List Loc) (ls : Array Slot), R v f g → va_P D vwCl (lawW G x0 y0 a b pq kq sq v f g) H → va_D (fun q : Nat => s.heap.size ≤ q) (lawW G x0 y0 a b pq kq sq v f g) → va_S (fun q : Nat => s.heap.size ≤ q) s.heap H locs → lv_has ls 4 [(0, .ref b0), (1, .ref x0), (2, .ref y0), (3, .int x3)] → W p l e room_1 s m #[Value.ref b0] below meth c H locs 66 2290 (lw_Z below #[Value.ref b0] s) (F0 m 1365 ls [])) : W p l e room_1 s m #[Value.ref b0] below meth c H locs 66 2290 (lw_Z below #[Value.ref b0] s) (F0 m 240 ls []) := by
  obtain ⟨hx, hb, hr, hml, hown, hts0, hX, hbl, hlocks, hgv⟩ := id C0
  have hb : c.code = cL_law := hb
  have hown : s.vm.findClass RL = some m.cls := hown
  have hts : ∀ w ∈ wsL_law, w.before #[Value.ref b0] s = true := fun w h => hts0 w (wsL_law_in w h)
  have hA : ∀ q : Nat, s.heap.size ≤ q → (fun q : Nat => s.heap.size ≤ q) q := fun _ h => h
  have hbA : ¬ (fun q : Nat => s.heap.size ≤ q) b0 := Nat.not_le.mpr hbl
  refine lv_aload_n hx hb dL_law_240 rfl (lv_at hl 1 rfl) ?_
  refine lv_aload_n hx hb dL_law_241 rfl (lv_at hl 0 rfl) ?_
  refine lv_iload_n hx hb dL_law_242 rfl (lv_at hl 3 rfl) ?_
  refine lv_iconst (v := 1) hx hb dL_law_243 (by decide) ?_
  refine lv_iadd hx hb dL_law_244 ?_
  refine va_sld hx hb hX hbl hbA hS (hin 1 (by decide)) dL_law_245 ?_
  refine lv_aload_n hx hb dL_law_246 rfl (lv_at hl 0 rfl) ?_
  refine lv_iload_n hx hb dL_law_247 rfl (lv_at hl 3 rfl) ?_
  refine lv_iconst (v := 2) hx hb dL_law_248 (by decide) ?_
  refine lv_iadd hx hb dL_law_249 ?_
  refine va_sld hx hb hX hbl hbA hS (hin 2 (by decide)) dL_law_250 ?_
  have hw := hSt_milk v f g (xs (x3 + (1 : Int32)).toNatClampNeg) (xs (x3 + (2 : Int32)).toNatClampNeg) hR
  have hc := c_X7_milk l D G H.size x0 (a 0) (a 14) (a 28) (a 33) (a 38) (a 40) (a 44) (a 1) (a 2) (a 3) (a 4) (a 5) (v 0) (v 1) (v 2) (v 3) (v 4) (f 0) (xs (x3 + (1 : Int32)).toNatClampNeg) (xs (x3 + (2 : Int32)).toNatClampNeg) _ hw
  refine x_cPi (va_runV (As := [.int (xs (x3 + (1 : Int32)).toNatClampNeg), .int (xs (x3 + (2 : Int32)).toNatClampNeg)]) (rest := []) ⟨hx, hb, hml, hown, hts⟩ hc (cwV 2 hts gL_law_X7_milk rfl rfl rfl (by decide +kernel) ⟨(Nat.le_of_ble_eq_true rfl), (Nat.le_of_ble_eq_true rfl)⟩) (xM_pv (hP.sub [0, 1, 2] rfl) hK (hD.sub [0, 1, 2] (by decide) rfl) (va_recv hK hP (ci := 7) (q0 := 0) rfl rfl)) rfl rfl hl.1 rfl (lv_room (Nat.le_of_ble_eq_true rfl)) dL_law_251 ⟨(Nat.le_of_ble_eq_true rfl), (Nat.le_of_ble_eq_true rfl)⟩) hP hD hS hA [0, 1, 2] rfl (fun u => rfl) (fun u => (lawW G x0 y0 a b pq kq sq v (va_up f 0 u) g)) (fun u => rfl) (fun r1 u H locs hw hP hD hS => ?_)
  obtain ⟨milks_1, rfl⟩ : ∃ z, z = u := ⟨_, rfl⟩
  try dsimp only at hw
  replace hP : va_P D vwCl (lawW G x0 y0 a b pq kq sq v (va_up f 0 milks_1) g) H := hP
  replace hD : va_D (fun q : Nat => s.heap.size ≤ q) (lawW G x0 y0 a b pq kq sq v (va_up f 0 milks_1) g) := hD
  refine lv_aload_n hx hb dL_law_254 rfl (lv_at hl 2 rfl) ?_
  refine lv_aload_n hx hb dL_law_255 rfl (lv_at hl 0 rfl) ?_
  refine lv_iload_n hx hb dL_law_256 rfl (lv_at hl 3 rfl) ?_
  refine lv_iconst (v := 1) hx hb dL_law_257 (by decide) ?_
  refine lv_iadd hx hb dL_law_258 ?_
  refine va_sld hx hb hX hbl hbA hS (hin 1 (by decide)) dL_law_259 ?_
  refine lv_aload_n hx hb dL_law_260 rfl (lv_at hl 0 rfl) ?_
  refine lv_iload_n hx hb dL_law_261 rfl (lv_at hl 3 rfl) ?_
  refine lv_iconst (v := 2) hx hb dL_law_262 (by decide) ?_
  refine lv_iadd hx hb dL_law_263 ?_
  refine va_sld hx hb hX hbl hbA hS (hin 2 (by decide)) dL_law_264 ?_
  have hc := c_X8_milk l D G H.size y0 (b 0) (b 1) (b 2) (b 3) (b 4) (b 5) (b 6) (b 7) (b 8) (b 9) (b 10) (v 37) (v 38) (v 39) (v 40) (v 41) (v 42) (v 43) (f 29) (xs (x3 + (1 : Int32)).toNatClampNeg) (xs (x3 + (2 : Int32)).toNatClampNeg) _ hw
  refine x_cPi (va_runV (As := [.int (xs (x3 + (1 : Int32)).toNatClampNeg), .int (xs (x3 + (2 : Int32)).toNatClampNeg)]) (rest := [.int r1]) ⟨hx, hb, hml, hown, hts⟩ hc (cwV 2 hts gL_law_X8_milk rfl rfl rfl (by decide +kernel) ⟨(Nat.le_of_ble_eq_true rfl), (Nat.le_of_ble_eq_true rfl)⟩) (xM_pv (hP.sub [54, 59] rfl) hK (hD.sub [54, 59] (by decide) rfl) (va_recv hK hP (ci := 8) (q0 := 54) rfl rfl)) rfl rfl hl.1 rfl (lv_room (Nat.le_of_ble_eq_true rfl)) dL_law_265 ⟨(Nat.le_of_ble_eq_true rfl), (Nat.le_of_ble_eq_true rfl)⟩) hP hD hS hA [54, 59] rfl (fun u => rfl) (fun u => (lawW G x0 y0 a b pq kq sq v (va_up (va_up f 0 milks_1) 29 u) g)) (fun u => rfl) (fun r2 u H locs hw hP hD hS => ?_)
  obtain ⟨m_now_2, rfl⟩ : ∃ z, z = u := ⟨_, rfl⟩
  try dsimp only at hw
  replace hP : va_P D vwCl (lawW G x0 y0 a b pq kq sq v (va_up (va_up f 0 milks_1) 29 m_now_2) g) H := hP
  replace hD : va_D (fun q : Nat => s.heap.size ≤ q) (lawW G x0 y0 a b pq kq sq v (va_up (va_up f 0 milks_1) 29 m_now_2) g) := hD
  refine lv_icmp_eq (tgt := 1365) hx hb dL_law_268 (by decide) (fun _ => ?_) (fun c9 => absurd hw.1 c9)
  exact cont _ _ _ _ _ _ hw.2 hP hD hS hl
set_option maxHeartbeats 8000000 in
set_option maxRecDepth 100000 in
theorem lawc_at {p : Program} {l : Launch} {e : Env} {s : State} {m : MethodId} {below : List Frame} {meth : Method} {c : Code} {D : va_G} {G : Nat → ClassId} {x0 y0 : Nat} {a b pq kq sq : Nat → Nat} {b0 L : Nat} {xs : Nat → Int32} (C0 : lw_At p s m meth c b0 L xs) (R : ((Nat → Int32) → (Nat → Nat → Int32) → (Nat → Nat → Int64) → Prop)) (hSt_at : Step_at R) (x3 : Int32) (hin : ∀ k : Nat, k ≤ 8 → vp_in (x3 + Int32.ofNat k) L) (v : Nat → Int32) (f : Nat → Nat → Int32) (g : Nat → Nat → Int64) (hR : R v f g) (H : Heap) (locs : List Loc) (ls : Array Slot) (hK : va_K D vwCl (tyL G) s) (hP : va_P D vwCl (lawW G x0 y0 a b pq kq sq v f g) H) (hD : va_D (fun q : Nat => s.heap.size ≤ q) (lawW G x0 y0 a b pq kq sq v f g)) (hS : va_S (fun q : Nat => s.heap.size ≤ q) s.heap H locs) (hl : lv_has ls 4 [(0, .ref b0), (1, .ref x0), (2, .ref y0), (3, .int x3)]) (cont : ∀ (v : Nat → Int32) (f : Nat → Nat → Int32) (g : Nat → Nat → Int64) (H : Heap) (locs : List Loc) (ls : Array Slot), R v f g → va_P D vwCl (lawW G x0 y0 a b pq kq sq v f g) H → va_D (fun q : Nat => s.heap.size ≤ q) (lawW G x0 y0 a b pq kq sq v f g) → va_S (fun q : Nat => s.heap.size ≤ q) s.heap H locs → lv_has ls 4 [(0, .ref b0), (1, .ref x0), (2, .ref y0), (3, .int x3)] → W p l e room_1 s m #[Value.ref b0] below meth c H locs 66 2290 (lw_Z below #[Value.ref b0] s) (F0 m 1365 ls [])) : W p l e room_1 s m #[Value.ref b0] below meth c H locs 66 2290 (lw_Z below #[Value.ref b0] s) (F0 m 273 ls []) := by
  obtain ⟨hx, hb, hr, hml, hown, hts0, hX, hbl, hlocks, hgv⟩ := id C0
  have hb : c.code = cL_law := hb
  have hown : s.vm.findClass RL = some m.cls := hown
  have hts : ∀ w ∈ wsL_law, w.before #[Value.ref b0] s = true := fun w h => hts0 w (wsL_law_in w h)
  have hA : ∀ q : Nat, s.heap.size ≤ q → (fun q : Nat => s.heap.size ≤ q) q := fun _ h => h
  have hbA : ¬ (fun q : Nat => s.heap.size ≤ q) b0 := Nat.not_le.mpr hbl
  refine lv_aload_n hx hb dL_law_273 rfl (lv_at hl 1 rfl) ?_
  refine lv_aload_n hx hb dL_law_274 rfl (lv_at hl 0 rfl) ?_
  refine lv_iload_n hx hb dL_law_275 rfl (lv_at hl 3 rfl) ?_
  refine lv_iconst (v := 1) hx hb dL_law_276 (by decide) ?_
  refine lv_iadd hx hb dL_law_277 ?_
  refine va_sld hx hb hX hbl hbA hS (hin 1 (by decide)) dL_law_278 ?_
  refine lv_aload_n hx hb dL_law_279 rfl (lv_at hl 0 rfl) ?_
  refine lv_iload_n hx hb dL_law_280 rfl (lv_at hl 3 rfl) ?_
  refine lv_iconst (v := 2) hx hb dL_law_281 (by decide) ?_
  refine lv_iadd hx hb dL_law_282 ?_
  refine va_sld hx hb hX hbl hbA hS (hin 2 (by decide)) dL_law_283 ?_
  have hw := hSt_at v f g (xs (x3 + (1 : Int32)).toNatClampNeg) (xs (x3 + (2 : Int32)).toNatClampNeg) hR
  have hc := c_X7_at l D G x0 (a 0) (a 14) (a 28) (a 33) (a 38) (a 40) (a 44) (a 1) (a 2) (a 3) (a 4) (a 5) (v 0) (v 1) (v 2) (v 3) (v 4) (f 1) (f 2) (xs (x3 + (1 : Int32)).toNatClampNeg) (xs (x3 + (2 : Int32)).toNatClampNeg) _ hw
  refine vp_callSi (W.runV (As := [.int (xs (x3 + (1 : Int32)).toNatClampNeg), .int (xs (x3 + (2 : Int32)).toNatClampNeg)]) (rest := []) ⟨hx, hb, hml, hown, hts⟩ hc (cwV 2 hts gL_law_X7_at rfl rfl rfl (by decide +kernel) ⟨(Nat.le_of_ble_eq_true rfl), (Nat.le_of_ble_eq_true rfl)⟩) (xR_pv (hP.sub [0, 1, 3, 4] rfl) hK (va_recv hK hP (ci := 7) (q0 := 0) rfl rfl)) rfl rfl hl.1 rfl (lv_room (Nat.le_of_ble_eq_true rfl)) dL_law_284 ⟨(Nat.le_of_ble_eq_true rfl), (Nat.le_of_ble_eq_true rfl)⟩) (fun r1 hw => ?_)
  refine lv_aload_n hx hb dL_law_287 rfl (lv_at hl 2 rfl) ?_
  refine lv_aload_n hx hb dL_law_288 rfl (lv_at hl 0 rfl) ?_
  refine lv_iload_n hx hb dL_law_289 rfl (lv_at hl 3 rfl) ?_
  refine lv_iconst (v := 1) hx hb dL_law_290 (by decide) ?_
  refine lv_iadd hx hb dL_law_291 ?_
  refine va_sld hx hb hX hbl hbA hS (hin 1 (by decide)) dL_law_292 ?_
  refine lv_aload_n hx hb dL_law_293 rfl (lv_at hl 0 rfl) ?_
  refine lv_iload_n hx hb dL_law_294 rfl (lv_at hl 3 rfl) ?_
  refine lv_iconst (v := 2) hx hb dL_law_295 (by decide) ?_
  refine lv_iadd hx hb dL_law_296 ?_
  refine va_sld hx hb hX hbl hbA hS (hin 2 (by decide)) dL_law_297 ?_
  have hc := c_X8_at l D G y0 (b 0) (b 1) (b 2) (b 3) (b 4) (b 5) (b 6) (b 7) (b 8) (b 9) (b 10) (v 37) (v 38) (v 39) (v 40) (v 41) (v 42) (v 43) (f 29) (xs (x3 + (1 : Int32)).toNatClampNeg) (xs (x3 + (2 : Int32)).toNatClampNeg) _ hw
  refine vp_callSi (W.runV (As := [.int (xs (x3 + (1 : Int32)).toNatClampNeg), .int (xs (x3 + (2 : Int32)).toNatClampNeg)]) (rest := [.int r1]) ⟨hx, hb, hml, hown, hts⟩ hc (cwV 2 hts gL_law_X8_at rfl rfl rfl (by decide +kernel) ⟨(Nat.le_of_ble_eq_true rfl), (Nat.le_of_ble_eq_true rfl)⟩) (xR_pv (hP.sub [54, 59] rfl) hK (va_recv hK hP (ci := 8) (q0 := 54) rfl rfl)) rfl rfl hl.1 rfl (lv_room (Nat.le_of_ble_eq_true rfl)) dL_law_298 ⟨(Nat.le_of_ble_eq_true rfl), (Nat.le_of_ble_eq_true rfl)⟩) (fun r2 hw => ?_)
  refine lv_icmp_eq (tgt := 1365) hx hb dL_law_301 (by decide) (fun _ => ?_) (fun c9 => absurd hw.1 c9)
  exact cont _ _ _ _ _ _ hw.2 hP hD hS hl
set_option maxHeartbeats 8000000 in
set_option maxRecDepth 100000 in
theorem lawc_of {p : Program} {l : Launch} {e : Env} {s : State} {m : MethodId} {below : List Frame} {meth : Method} {c : Code} {D : va_G} {G : Nat → ClassId} {x0 y0 : Nat} {a b pq kq sq : Nat → Nat} {b0 L : Nat} {xs : Nat → Int32} (C0 : lw_At p s m meth c b0 L xs) (R : ((Nat → Int32) → (Nat → Nat → Int32) → (Nat → Nat → Int64) → Prop)) (hSt_of : Step_of R) (x3 : Int32) (hin : ∀ k : Nat, k ≤ 8 → vp_in (x3 + Int32.ofNat k) L) (v : Nat → Int32) (f : Nat → Nat → Int32) (g : Nat → Nat → Int64) (hR : R v f g) (H : Heap) (locs : List Loc) (ls : Array Slot) (hK : va_K D vwCl (tyL G) s) (hP : va_P D vwCl (lawW G x0 y0 a b pq kq sq v f g) H) (hD : va_D (fun q : Nat => s.heap.size ≤ q) (lawW G x0 y0 a b pq kq sq v f g)) (hS : va_S (fun q : Nat => s.heap.size ≤ q) s.heap H locs) (hl : lv_has ls 4 [(0, .ref b0), (1, .ref x0), (2, .ref y0), (3, .int x3)]) (cont : ∀ (v : Nat → Int32) (f : Nat → Nat → Int32) (g : Nat → Nat → Int64) (H : Heap) (locs : List Loc) (ls : Array Slot), R v f g → va_P D vwCl (lawW G x0 y0 a b pq kq sq v f g) H → va_D (fun q : Nat => s.heap.size ≤ q) (lawW G x0 y0 a b pq kq sq v f g) → va_S (fun q : Nat => s.heap.size ≤ q) s.heap H locs → lv_has ls 4 [(0, .ref b0), (1, .ref x0), (2, .ref y0), (3, .int x3)] → W p l e room_1 s m #[Value.ref b0] below meth c H locs 66 2290 (lw_Z below #[Value.ref b0] s) (F0 m 1365 ls [])) : W p l e room_1 s m #[Value.ref b0] below meth c H locs 66 2290 (lw_Z below #[Value.ref b0] s) (F0 m 306 ls []) := by
  obtain ⟨hx, hb, hr, hml, hown, hts0, hX, hbl, hlocks, hgv⟩ := id C0
  have hb : c.code = cL_law := hb
  have hown : s.vm.findClass RL = some m.cls := hown
  have hts : ∀ w ∈ wsL_law, w.before #[Value.ref b0] s = true := fun w h => hts0 w (wsL_law_in w h)
  have hA : ∀ q : Nat, s.heap.size ≤ q → (fun q : Nat => s.heap.size ≤ q) q := fun _ h => h
  have hbA : ¬ (fun q : Nat => s.heap.size ≤ q) b0 := Nat.not_le.mpr hbl
  refine lv_aload_n hx hb dL_law_306 rfl (lv_at hl 1 rfl) ?_
  refine lv_aload_n hx hb dL_law_307 rfl (lv_at hl 0 rfl) ?_
  refine lv_iload_n hx hb dL_law_308 rfl (lv_at hl 3 rfl) ?_
  refine lv_iconst (v := 1) hx hb dL_law_309 (by decide) ?_
  refine lv_iadd hx hb dL_law_310 ?_
  refine va_sld hx hb hX hbl hbA hS (hin 1 (by decide)) dL_law_311 ?_
  have hw := hSt_of v f g (xs (x3 + (1 : Int32)).toNatClampNeg) hR
  have hc := c_X7_of l D G x0 (a 0) (a 14) (a 28) (a 33) (a 38) (a 40) (a 44) (a 1) (a 2) (a 3) (a 4) (a 5) (v 0) (v 1) (v 2) (v 3) (v 4) (f 0) (xs (x3 + (1 : Int32)).toNatClampNeg) _ hw
  refine vp_callSi (W.runV (As := [.int (xs (x3 + (1 : Int32)).toNatClampNeg)]) (rest := []) ⟨hx, hb, hml, hown, hts⟩ hc (cwV 1 hts gL_law_X7_of rfl rfl rfl (by decide +kernel) ⟨(Nat.le_of_ble_eq_true rfl), (Nat.le_of_ble_eq_true rfl)⟩) (xR_pv (hP.sub [0, 1, 2] rfl) hK (va_recv hK hP (ci := 7) (q0 := 0) rfl rfl)) rfl rfl hl.1 rfl (lv_room (Nat.le_of_ble_eq_true rfl)) dL_law_312 ⟨(Nat.le_of_ble_eq_true rfl), (Nat.le_of_ble_eq_true rfl)⟩) (fun r1 hw => ?_)
  refine lv_aload_n hx hb dL_law_315 rfl (lv_at hl 2 rfl) ?_
  refine lv_aload_n hx hb dL_law_316 rfl (lv_at hl 0 rfl) ?_
  refine lv_iload_n hx hb dL_law_317 rfl (lv_at hl 3 rfl) ?_
  refine lv_iconst (v := 1) hx hb dL_law_318 (by decide) ?_
  refine lv_iadd hx hb dL_law_319 ?_
  refine va_sld hx hb hX hbl hbA hS (hin 1 (by decide)) dL_law_320 ?_
  have hc := c_X8_of l D G y0 (b 0) (b 1) (b 2) (b 3) (b 4) (b 5) (b 6) (b 7) (b 8) (b 9) (b 10) (v 37) (v 38) (v 39) (v 40) (v 41) (v 42) (v 43) (f 29) (xs (x3 + (1 : Int32)).toNatClampNeg) _ hw
  refine vp_callSi (W.runV (As := [.int (xs (x3 + (1 : Int32)).toNatClampNeg)]) (rest := [.int r1]) ⟨hx, hb, hml, hown, hts⟩ hc (cwV 1 hts gL_law_X8_of rfl rfl rfl (by decide +kernel) ⟨(Nat.le_of_ble_eq_true rfl), (Nat.le_of_ble_eq_true rfl)⟩) (xR_pv (hP.sub [54, 59] rfl) hK (va_recv hK hP (ci := 8) (q0 := 54) rfl rfl)) rfl rfl hl.1 rfl (lv_room (Nat.le_of_ble_eq_true rfl)) dL_law_321 ⟨(Nat.le_of_ble_eq_true rfl), (Nat.le_of_ble_eq_true rfl)⟩) (fun r2 hw => ?_)
  refine lv_icmp_eq (tgt := 1365) hx hb dL_law_324 (by decide) (fun _ => ?_) (fun c9 => absurd hw.1 c9)
  exact cont _ _ _ _ _ _ hw.2 hP hD hS hl
set_option maxHeartbeats 8000000 in
set_option maxRecDepth 100000 in
theorem lawc_notices {p : Program} {l : Launch} {e : Env} {s : State} {m : MethodId} {below : List Frame} {meth : Method} {c : Code} {D : va_G} {G : Nat → ClassId} {x0 y0 : Nat} {a b pq kq sq : Nat → Nat} {b0 L : Nat} {xs : Nat → Int32} (C0 : lw_At p s m meth c b0 L xs) (R : ((Nat → Int32) → (Nat → Nat → Int32) → (Nat → Nat → Int64) → Prop)) (hSt_notices : Step_notices R) (x3 : Int32) (hin : ∀ k : Nat, k ≤ 8 → vp_in (x3 + Int32.ofNat k) L) (v : Nat → Int32) (f : Nat → Nat → Int32) (g : Nat → Nat → Int64) (hR : R v f g) (H : Heap) (locs : List Loc) (ls : Array Slot) (hK : va_K D vwCl (tyL G) s) (hP : va_P D vwCl (lawW G x0 y0 a b pq kq sq v f g) H) (hD : va_D (fun q : Nat => s.heap.size ≤ q) (lawW G x0 y0 a b pq kq sq v f g)) (hS : va_S (fun q : Nat => s.heap.size ≤ q) s.heap H locs) (hl : lv_has ls 4 [(0, .ref b0), (1, .ref x0), (2, .ref y0), (3, .int x3)]) (cont : ∀ (v : Nat → Int32) (f : Nat → Nat → Int32) (g : Nat → Nat → Int64) (H : Heap) (locs : List Loc) (ls : Array Slot), R v f g → va_P D vwCl (lawW G x0 y0 a b pq kq sq v f g) H → va_D (fun q : Nat => s.heap.size ≤ q) (lawW G x0 y0 a b pq kq sq v f g) → va_S (fun q : Nat => s.heap.size ≤ q) s.heap H locs → lv_has ls 4 [(0, .ref b0), (1, .ref x0), (2, .ref y0), (3, .int x3)] → W p l e room_1 s m #[Value.ref b0] below meth c H locs 66 2290 (lw_Z below #[Value.ref b0] s) (F0 m 1365 ls [])) : W p l e room_1 s m #[Value.ref b0] below meth c H locs 66 2290 (lw_Z below #[Value.ref b0] s) (F0 m 329 ls []) := by
  obtain ⟨hx, hb, hr, hml, hown, hts0, hX, hbl, hlocks, hgv⟩ := id C0
  have hb : c.code = cL_law := hb
  have hown : s.vm.findClass RL = some m.cls := hown
  have hts : ∀ w ∈ wsL_law, w.before #[Value.ref b0] s = true := fun w h => hts0 w (wsL_law_in w h)
  have hA : ∀ q : Nat, s.heap.size ≤ q → (fun q : Nat => s.heap.size ≤ q) q := fun _ h => h
  have hbA : ¬ (fun q : Nat => s.heap.size ≤ q) b0 := Nat.not_le.mpr hbl
  refine lv_aload_n hx hb dL_law_329 rfl (lv_at hl 1 rfl) ?_
  refine lv_aload_n hx hb dL_law_330 rfl (lv_at hl 0 rfl) ?_
  refine lv_iload_n hx hb dL_law_331 rfl (lv_at hl 3 rfl) ?_
  refine lv_iconst (v := 1) hx hb dL_law_332 (by decide) ?_
  refine lv_iadd hx hb dL_law_333 ?_
  refine va_sld hx hb hX hbl hbA hS (hin 1 (by decide)) dL_law_334 ?_
  refine lv_aload_n hx hb dL_law_335 rfl (lv_at hl 0 rfl) ?_
  refine lv_iload_n hx hb dL_law_336 rfl (lv_at hl 3 rfl) ?_
  refine lv_iconst (v := 2) hx hb dL_law_337 (by decide) ?_
  refine lv_iadd hx hb dL_law_338 ?_
  refine va_sld hx hb hX hbl hbA hS (hin 2 (by decide)) dL_law_339 ?_
  refine lv_aload_n hx hb dL_law_340 rfl (lv_at hl 0 rfl) ?_
  refine lv_iload_n hx hb dL_law_341 rfl (lv_at hl 3 rfl) ?_
  refine lv_iconst (v := 3) hx hb dL_law_342 (by decide) ?_
  refine lv_iadd hx hb dL_law_343 ?_
  refine va_sld hx hb hX hbl hbA hS (hin 3 (by decide)) dL_law_344 ?_
  have hw := hSt_notices v f g (xs (x3 + (1 : Int32)).toNatClampNeg) (xs (x3 + (2 : Int32)).toNatClampNeg) (xs (x3 + (3 : Int32)).toNatClampNeg) hR
  have hc := c_X7_notices l D G x0 (a 0) (a 14) (a 28) (a 33) (a 38) (a 40) (a 44) (a 1) (a 2) (a 3) (a 4) (a 5) (v 0) (v 1) (v 2) (v 3) (v 4) (f 0) (f 1) (f 2) (v 5) (v 6) (v 7) (v 8) (xs (x3 + (1 : Int32)).toNatClampNeg) (xs (x3 + (2 : Int32)).toNatClampNeg) (xs (x3 + (3 : Int32)).toNatClampNeg) _ hw
  refine vp_callSi (W.runV (As := [.int (xs (x3 + (1 : Int32)).toNatClampNeg), .int (xs (x3 + (2 : Int32)).toNatClampNeg), .int (xs (x3 + (3 : Int32)).toNatClampNeg)]) (rest := []) ⟨hx, hb, hml, hown, hts⟩ hc (cwV 3 hts gL_law_X7_notices rfl rfl rfl (by decide +kernel) ⟨(Nat.le_of_ble_eq_true rfl), (Nat.le_of_ble_eq_true rfl)⟩) (xR_pv (hP.sub [0, 1, 2, 3, 4, 5] rfl) hK (va_recv hK hP (ci := 7) (q0 := 0) rfl rfl)) rfl rfl hl.1 rfl (lv_room (Nat.le_of_ble_eq_true rfl)) dL_law_345 ⟨(Nat.le_of_ble_eq_true rfl), (Nat.le_of_ble_eq_true rfl)⟩) (fun r1 hw => ?_)
  refine lv_aload_n hx hb dL_law_348 rfl (lv_at hl 2 rfl) ?_
  refine lv_aload_n hx hb dL_law_349 rfl (lv_at hl 0 rfl) ?_
  refine lv_iload_n hx hb dL_law_350 rfl (lv_at hl 3 rfl) ?_
  refine lv_iconst (v := 1) hx hb dL_law_351 (by decide) ?_
  refine lv_iadd hx hb dL_law_352 ?_
  refine va_sld hx hb hX hbl hbA hS (hin 1 (by decide)) dL_law_353 ?_
  refine lv_aload_n hx hb dL_law_354 rfl (lv_at hl 0 rfl) ?_
  refine lv_iload_n hx hb dL_law_355 rfl (lv_at hl 3 rfl) ?_
  refine lv_iconst (v := 2) hx hb dL_law_356 (by decide) ?_
  refine lv_iadd hx hb dL_law_357 ?_
  refine va_sld hx hb hX hbl hbA hS (hin 2 (by decide)) dL_law_358 ?_
  refine lv_aload_n hx hb dL_law_359 rfl (lv_at hl 0 rfl) ?_
  refine lv_iload_n hx hb dL_law_360 rfl (lv_at hl 3 rfl) ?_
  refine lv_iconst (v := 3) hx hb dL_law_361 (by decide) ?_
  refine lv_iadd hx hb dL_law_362 ?_
  refine va_sld hx hb hX hbl hbA hS (hin 3 (by decide)) dL_law_363 ?_
  have hc := c_X8_notices l D G y0 (b 0) (b 1) (b 2) (b 3) (b 4) (b 5) (b 6) (b 7) (b 8) (b 9) (b 10) (v 37) (v 38) (v 39) (v 40) (v 41) (v 42) (v 43) (f 29) (xs (x3 + (1 : Int32)).toNatClampNeg) (xs (x3 + (2 : Int32)).toNatClampNeg) (xs (x3 + (3 : Int32)).toNatClampNeg) _ hw
  refine vp_callSi (W.runV (As := [.int (xs (x3 + (1 : Int32)).toNatClampNeg), .int (xs (x3 + (2 : Int32)).toNatClampNeg), .int (xs (x3 + (3 : Int32)).toNatClampNeg)]) (rest := [.int r1]) ⟨hx, hb, hml, hown, hts⟩ hc (cwV 3 hts gL_law_X8_notices rfl rfl rfl (by decide +kernel) ⟨(Nat.le_of_ble_eq_true rfl), (Nat.le_of_ble_eq_true rfl)⟩) (xR_pv (hP.sub [54, 59] rfl) hK (va_recv hK hP (ci := 8) (q0 := 54) rfl rfl)) rfl rfl hl.1 rfl (lv_room (Nat.le_of_ble_eq_true rfl)) dL_law_364 ⟨(Nat.le_of_ble_eq_true rfl), (Nat.le_of_ble_eq_true rfl)⟩) (fun r2 hw => ?_)
  refine lv_icmp_eq (tgt := 1365) hx hb dL_law_367 (by decide) (fun _ => ?_) (fun c9 => absurd hw.1 c9)
  exact cont _ _ _ _ _ _ hw.2 hP hD hS hl
