set_option maxHeartbeats 4000000 in
set_option maxRecDepth 100000 in
theorem c_X7_seed (l : Launch) (D : va_G) (G : Nat → ClassId) (sz : Nat) (x_xo : Nat) (da : Nat) (k_da : Nat) (t_ta : Nat) (p_pl : Nat) (r_tr : Nat) (w_ro : Nat) (x_ash : Nat) (ami : Nat) (aki : Nat) (afi : Nat) (anw : Nat) (apa : Nat) (x_isKept : Int32) (cows : Int32) (tasters : Int32) (newest : Int32) (known : Int32) (mayBe : Int32) (bearer : Int32) (day : Int32) (draw : Int32) (x1 : Int32) (post : Int32 → Int32 → Prop) (hw : wp_X7_seed draw x1 post) : Met l yX7_seed wsX7_seed ({ frames := 0, cells := 0, slots := 0, locals := 0 } : Room) (va_Pc [.ref x_xo, .int x1] (xM D G sz [(x_xo, .inr (7, [.ref da, .ref k_da, .int x_isKept, .ref t_ta, .ref p_pl, .ref r_tr, .ref w_ro, .ref x_ash])), (da, .inr (0, [.ref ami, .int cows, .ref aki, .ref afi, .int tasters, .ref anw, .ref apa, .int newest, .int known])), (anw, .inr (1, [.int mayBe, .int bearer, .int day, .int draw]))])) (va_Qi (fun r (u : Int32) => post r u) (fun u t => xE D G (va_A [(x_xo, .inr (7, [.ref da, .ref k_da, .int x_isKept, .ref t_ta, .ref p_pl, .ref r_tr, .ref w_ro, .ref x_ash])), (da, .inr (0, [.ref ami, .int cows, .ref aki, .ref afi, .int tasters, .ref anw, .ref apa, .int newest, .int known])), (anw, .inr (1, [.int mayBe, .int bearer, .int day, .int draw]))] sz) [(x_xo, .inr (7, [.ref da, .ref k_da, .int x_isKept, .ref t_ta, .ref p_pl, .ref r_tr, .ref w_ro, .ref x_ash])), (da, .inr (0, [.ref ami, .int cows, .ref aki, .ref afi, .int tasters, .ref anw, .ref apa, .int newest, .int known])), (anw, .inr (1, [.int mayBe, .int bearer, .int day, .int u]))] t) (va_A [(x_xo, .inr (7, [.ref da, .ref k_da, .int x_isKept, .ref t_ta, .ref p_pl, .ref r_tr, .ref w_ro, .ref x_ash])), (da, .inr (0, [.ref ami, .int cows, .ref aki, .ref afi, .int tasters, .ref anw, .ref apa, .int newest, .int known])), (anw, .inr (1, [.int mayBe, .int bearer, .int day, .int draw]))] sz)) 0 0 (va_A [(x_xo, .inr (7, [.ref da, .ref k_da, .int x_isKept, .ref t_ta, .ref p_pl, .ref r_tr, .ref w_ro, .ref x_ash])), (da, .inr (0, [.ref ami, .int cows, .ref aki, .ref afi, .int tasters, .ref anw, .ref apa, .int newest, .int known])), (anw, .inr (1, [.int mayBe, .int bearer, .int day, .int draw]))] sz) := by
  refine Met.ofW (cc := cX7_seed) (maxL := 3) (ret := (some .int)) (by decide) rfl ?_
  intro p e s m args below meth c s₁ B hml hv
  obtain ⟨rfl, hsz, hP, hK, hD0⟩ := hv
  have hx := B.exec
  have hb := B.bytes
  have hr := B.returns
  have hts := atoms_spec (ws := wsX7_seed) B.pre
  have hown : s.vm.findClass RX7 = some m.cls := findClass_of_methodNamed B.named
  have hlocks := B.notSynchronized
  subst hsz
  have hD := hD0.self (sz := s.heap.size)
  generalize hAe : va_A [(x_xo, .inr (7, [.ref da, .ref k_da, .int x_isKept, .ref t_ta, .ref p_pl, .ref r_tr, .ref w_ro, .ref x_ash])), (da, .inr (0, [.ref ami, .int cows, .ref aki, .ref afi, .int tasters, .ref anw, .ref apa, .int newest, .int known])), (anw, .inr (1, [.int mayBe, .int bearer, .int day, .int draw]))] s.heap.size = A at hD ⊢
  have hA : ∀ q : Nat, s.heap.size ≤ q → A q := fun q h => by rw [← hAe]; exact Or.inr h
  have hS : va_S A s.heap s.heap [] := va_S.rf
  have inX0 : ∀ w ∈ wsX00, w ∈ wsX7_seed := by decide +kernel
  have inX1 : ∀ w ∈ wsX10, w ∈ wsX7_seed := by decide +kernel
  have inX7 : ∀ w ∈ wsX70, w ∈ wsX7_seed := by decide +kernel
  have fl12 := hts (.fieldLink RX7 12 "NewsCow" "dairy" "LNewsCow$Dairy;") (by decide +kernel)
  have fl66 := hts (.fieldLink RX7 66 "NewsCow$Dairy" "now" "LNewsCow$Moment;") (by decide +kernel)
  have fl163 := hts (.fieldLink RX7 163 "NewsCow$Moment" "draw" "I") (by decide +kernel)
  have hl := lv_entry ([.ref x_xo, .int x1] : List Value) (n := 3) (Nat.le_of_ble_eq_true rfl)
  rw [lg_entry_eq]
  generalize (lg_sl ([.ref x_xo, .int x1] : List Value) ++ List.replicate (3 - (lg_sl ([.ref x_xo, .int x1] : List Value)).length) Slot.unset).toArray = ls at hl ⊢
  have hl : lv_has ls 3 [(0, .ref x_xo), (1, .int x1)] := hl
  unfold wp_X7_seed at hw
  refine lv_iload_n hx hb dX7_seed_0 rfl (lv_at hl 1 rfl) ?_
  refine lv_if_ge (tgt := 6) hx hb dX7_seed_1 (by decide) (fun c9 => ?_) (fun c9 => ?_)
  · replace hw := hw.1 c9
    refine lv_aload_n hx hb dX7_seed_6 rfl (lv_at hl 0 rfl) ?_
    refine va_get (D := D) (ci := 7) (v := .ref da) (C := RX7) (T := TX7) (N := 8) hx hb hts inX7 hown hK hP 0 rfl rfl 0 (by decide) fl12 (fun _ h9 => h9) rfl dX7_seed_7 ?_
    refine va_get (D := D) (ci := 0) (v := .ref anw) (C := RX0) (T := TX0) (N := 9) hx hb hts inX0 hown hK hP 1 rfl rfl 5 (by decide) fl66 (fun _ h9 => h9) rfl dX7_seed_10 ?_
    refine va_get (D := D) (ci := 1) (v := .int draw) (C := RX1) (T := TX1) (N := 4) hx hb hts inX1 hown hK hP 2 rfl rfl 3 (by decide) fl163 (fun _ h9 => h9) rfl dX7_seed_13 ?_
    refine lv_istore_n (lv' := [(2, .int draw), (0, .ref x_xo), (1, .int x1)]) hx hb dX7_seed_16 rfl hl (by decide) rfl (fun ls hl => ?_)
    refine lv_aload_n hx hb dX7_seed_17 rfl (lv_at hl 1 rfl) ?_
    refine va_get (D := D) (ci := 7) (v := .ref da) (C := RX7) (T := TX7) (N := 8) hx hb hts inX7 hown hK hP 0 rfl rfl 0 (by decide) fl12 (fun _ h9 => h9) rfl dX7_seed_18 ?_
    refine va_get (D := D) (ci := 0) (v := .ref anw) (C := RX0) (T := TX0) (N := 9) hx hb hts inX0 hown hK hP 1 rfl rfl 5 (by decide) fl66 (fun _ h9 => h9) rfl dX7_seed_21 ?_
    refine lv_iload_n hx hb dX7_seed_24 rfl (lv_at hl 2 rfl) ?_
    refine va_put (D := D) (ci := 1) (v := .int x1) (ty := .int) (C := RX1) (T := TX1) (N := 4) hx hb hts inX1 tyX1 tyX1_ok nmX1 hown hK hP hD hS 2 rfl rfl 3 (by decide) fl163 (fun _ h9 => h9) rfl (by decide +kernel) rfl rfl (Nat.le_of_ble_eq_true rfl) dX7_seed_25 (fun H locs hP hD hS => ?_)
    replace hP : va_P D vwCl [(x_xo, .inr (7, [.ref da, .ref k_da, .int x_isKept, .ref t_ta, .ref p_pl, .ref r_tr, .ref w_ro, .ref x_ash])), (da, .inr (0, [.ref ami, .int cows, .ref aki, .ref afi, .int tasters, .ref anw, .ref apa, .int newest, .int known])), (anw, .inr (1, [.int mayBe, .int bearer, .int day, .int x1]))] H := hP
    replace hD : va_D A [(x_xo, .inr (7, [.ref da, .ref k_da, .int x_isKept, .ref t_ta, .ref p_pl, .ref r_tr, .ref w_ro, .ref x_ash])), (da, .inr (0, [.ref ami, .int cows, .ref aki, .ref afi, .int tasters, .ref anw, .ref apa, .int newest, .int known])), (anw, .inr (1, [.int mayBe, .int bearer, .int day, .int x1]))] := hD
    refine lv_iload_n hx hb dX7_seed_28 rfl (lv_at hl 0 rfl) ?_
    exact W.iret hx hb hr (x_mi (u := x1) hP hK hD hS hw) hS.2.2 dX7_seed_29
  · replace hw := hw.2 c9
    refine lv_iconst (v := -1) hx hb dX7_seed_4 (by decide) ?_
    exact W.iret hx hb hr (x_mi (u := draw) hP hK hD hS hw) hS.2.2 dX7_seed_5
set_option maxHeartbeats 4000000 in
set_option maxRecDepth 100000 in
theorem c_X7_tells (l : Launch) (D : va_G) (G : Nat → ClassId) (x_xo : Nat) (da : Nat) (k_da : Nat) (t_ta : Nat) (p_pl : Nat) (r_tr : Nat) (w_ro : Nat) (x_ash : Nat) (ami : Nat) (aki : Nat) (afi : Nat) (anw : Nat) (apa : Nat) (x_isKept : Int32) (cows : Int32) (tasters : Int32) (newest : Int32) (known : Int32) (milks : Nat → Int32) (kinds : Nat → Int32) (fines : Nat → Int32) (mayBe : Int32) (bearer : Int32) (day : Int32) (draw : Int32) (x1 : Int32) (x2 : Int32) (post : Int32 → Prop) (hw : wp_X7_tells cows tasters milks kinds fines mayBe day x1 x2 post) : Met l yX7_tells wsX7_tells ({ frames := 4, cells := 0, slots := 0, locals := 93 } : Room) (va_Pc [.ref x_xo, .int x1, .int x2] (xR D G [(x_xo, .inr (7, [.ref da, .ref k_da, .int x_isKept, .ref t_ta, .ref p_pl, .ref r_tr, .ref w_ro, .ref x_ash])), (da, .inr (0, [.ref ami, .int cows, .ref aki, .ref afi, .int tasters, .ref anw, .ref apa, .int newest, .int known])), (ami, .inl (G 0, 8, .inl milks)), (aki, .inl (G 0, 4, .inl kinds)), (afi, .inl (G 0, 4, .inl fines)), (anw, .inr (1, [.int mayBe, .int bearer, .int day, .int draw]))])) (vp_Si post) 0 0 (fun _ => False) := by
  refine Met.ofW (cc := cX7_tells) (maxL := 3) (ret := (some .int)) (by decide) rfl ?_
  intro p e s m args below meth c s₁ B hml hv
  obtain ⟨rfl, hP, hK⟩ := hv
  have hx := B.exec
  have hb := B.bytes
  have hr := B.returns
  have hts := atoms_spec (ws := wsX7_tells) B.pre
  have hown : s.vm.findClass RX7 = some m.cls := findClass_of_methodNamed B.named
  have hlocks := B.notSynchronized
  have inX0 : ∀ w ∈ wsX00, w ∈ wsX7_tells := by decide +kernel
  have inX1 : ∀ w ∈ wsX10, w ∈ wsX7_tells := by decide +kernel
  have inX7 : ∀ w ∈ wsX70, w ∈ wsX7_tells := by decide +kernel
  have fl12 := hts (.fieldLink RX7 12 "NewsCow" "dairy" "LNewsCow$Dairy;") (by decide +kernel)
  have fl66 := hts (.fieldLink RX7 66 "NewsCow$Dairy" "now" "LNewsCow$Moment;") (by decide +kernel)
  have fl74 := hts (.fieldLink RX7 74 "NewsCow$Moment" "mayBe" "I") (by decide +kernel)
  have hl := lv_entry ([.ref x_xo, .int x1, .int x2] : List Value) (n := 3) (Nat.le_of_ble_eq_true rfl)
  rw [lg_entry_eq]
  generalize (lg_sl ([.ref x_xo, .int x1, .int x2] : List Value) ++ List.replicate (3 - (lg_sl ([.ref x_xo, .int x1, .int x2] : List Value)).length) Slot.unset).toArray = ls at hl ⊢
  have hl : lv_has ls 3 [(0, .ref x_xo), (1, .int x1), (2, .int x2)] := hl
  unfold wp_X7_tells at hw
  refine lv_aload_n hx hb dX7_tells_0 rfl (lv_at hl 0 rfl) ?_
  refine lv_iload_n hx hb dX7_tells_1 rfl (lv_at hl 1 rfl) ?_
  refine vp_callSi (W.runV (As := [.int x1]) (rest := []) ⟨hx, hb, hml, hown, hts⟩ (c_X7_isTaster l D G x_xo da k_da t_ta p_pl r_tr w_ro x_ash ami aki afi anw apa x_isKept cows tasters newest known x1 _ hw) (cwV 1 hts gX7_tells_X7_isTaster rfl rfl rfl (by decide +kernel) ⟨(Nat.le_of_ble_eq_true rfl), (Nat.le_of_ble_eq_true rfl)⟩) (xR_pv (hP.sub [0, 1] rfl) hK (va_recv hK hP (ci := 7) (q0 := 0) rfl rfl)) rfl rfl hl.1 rfl (lv_room (Nat.le_of_ble_eq_true rfl)) dX7_tells_2 ⟨Nat.zero_le _, Nat.zero_le _⟩) (fun r1 hw => ?_)
  refine lv_if_eq (tgt := 16) hx hb dX7_tells_5 (by decide) (fun c9 => ?_) (fun c9 => ?_)
  · replace hw := hw.1 c9
    refine lv_iconst (v := -1) hx hb dX7_tells_16 (by decide) ?_
    exact W.iret hx hb hr (fun t ht _ => ⟨_, rfl, hw, ht⟩) (fun _ h => absurd h List.not_mem_nil) dX7_tells_17
  · replace hw := hw.2 c9
    refine lv_aload_n hx hb dX7_tells_8 rfl (lv_at hl 0 rfl) ?_
    refine lv_iload_n hx hb dX7_tells_9 rfl (lv_at hl 2 rfl) ?_
    refine vp_callSi (W.runV (As := [.int x2]) (rest := []) ⟨hx, hb, hml, hown, hts⟩ (c_X7_isMix l D G x_xo da k_da t_ta p_pl r_tr w_ro x_ash ami aki afi anw apa x_isKept cows tasters newest known x2 _ hw) (cwV 1 hts gX7_tells_X7_isMix rfl rfl rfl (by decide +kernel) ⟨(Nat.le_of_ble_eq_true rfl), (Nat.le_of_ble_eq_true rfl)⟩) (xR_pv (hP.sub [0, 1] rfl) hK (va_recv hK hP (ci := 7) (q0 := 0) rfl rfl)) rfl rfl hl.1 rfl (lv_room (Nat.le_of_ble_eq_true rfl)) dX7_tells_10 ⟨Nat.zero_le _, Nat.zero_le _⟩) (fun r2 hw => ?_)
    refine lv_if_ne (tgt := 18) hx hb dX7_tells_13 (by decide) (fun c9 => ?_) (fun c9 => ?_)
    · replace hw := hw.1 c9
      refine lv_aload_n hx hb dX7_tells_18 rfl (lv_at hl 0 rfl) ?_
      refine va_get (D := D) (ci := 7) (v := .ref da) (C := RX7) (T := TX7) (N := 8) hx hb hts inX7 hown hK hP 0 rfl rfl 0 (by decide) fl12 (fun _ h9 => h9) rfl dX7_tells_19 ?_
      refine lv_iload_n hx hb dX7_tells_22 rfl (lv_at hl 1 rfl) ?_
      refine lv_iload_n hx hb dX7_tells_23 rfl (lv_at hl 2 rfl) ?_
      refine vp_callSi (W.runV (As := [.int x1, .int x2]) (rest := []) ⟨hx, hb, hml, hown, hts⟩ (c_X0_noticedBy l D G da ami aki afi anw apa cows tasters newest known milks kinds fines mayBe bearer day draw x1 x2 _ hw) (cwV 2 hts gX7_tells_X0_noticedBy rfl rfl rfl (by decide +kernel) ⟨(Nat.le_of_ble_eq_true rfl), (Nat.le_of_ble_eq_true rfl)⟩) (xR_pv (hP.sub [1, 2, 3, 4, 5] rfl) hK (va_recv hK hP (ci := 0) (q0 := 1) rfl rfl)) rfl rfl hl.1 rfl (lv_room (Nat.le_of_ble_eq_true rfl)) dX7_tells_24 ⟨Nat.zero_le _, Nat.zero_le _⟩) (fun r3 hw => ?_)
      refine lv_aload_n hx hb dX7_tells_27 rfl (lv_at hl 0 rfl) ?_
      refine va_get (D := D) (ci := 7) (v := .ref da) (C := RX7) (T := TX7) (N := 8) hx hb hts inX7 hown hK hP 0 rfl rfl 0 (by decide) fl12 (fun _ h9 => h9) rfl dX7_tells_28 ?_
      refine va_get (D := D) (ci := 0) (v := .ref anw) (C := RX0) (T := TX0) (N := 9) hx hb hts inX0 hown hK hP 1 rfl rfl 5 (by decide) fl66 (fun _ h9 => h9) rfl dX7_tells_31 ?_
      refine va_get (D := D) (ci := 1) (v := .int mayBe) (C := RX1) (T := TX1) (N := 4) hx hb hts inX1 hown hK hP 5 rfl rfl 0 (by decide) fl74 (fun _ h9 => h9) rfl dX7_tells_34 ?_
      refine lv_iand hx hb dX7_tells_37 ?_
      exact W.iret hx hb hr (fun t ht _ => ⟨_, rfl, hw, ht⟩) (fun _ h => absurd h List.not_mem_nil) dX7_tells_38
    · replace hw := hw.2 c9
      refine lv_iconst (v := -1) hx hb dX7_tells_16 (by decide) ?_
      exact W.iret hx hb hr (fun t ht _ => ⟨_, rfl, hw, ht⟩) (fun _ h => absurd h List.not_mem_nil) dX7_tells_17
set_option maxHeartbeats 4000000 in
set_option maxRecDepth 100000 in
theorem c_X7_fewest (l : Launch) (D : va_G) (G : Nat → ClassId) (sz : Nat) (x_xo : Nat) (da : Nat) (k_da : Nat) (t_ta : Nat) (p_pl : Nat) (r_tr : Nat) (w_ro : Nat) (x_ash : Nat) (ami : Nat) (aki : Nat) (afi : Nat) (anw : Nat) (apa : Nat) (p_ato : Nat) (p_acu : Nat) (p_aic : Nat) (p_ade : Nat) (x_isKept : Int32) (cows : Int32) (tasters : Int32) (newest : Int32) (known : Int32) (milks : Nat → Int32) (kinds : Nat → Int32) (fines : Nat → Int32) (mayBe : Int32) (bearer : Int32) (day : Int32) (draw : Int32) (p_mayBe : Int32) (p_lastMix : Int32) (p_cutCount : Int32) (p_lesser : Int32) (p_greater : Int32) (p_told : Nat → Int32) (p_cuts : Nat → Int32) (p_isCut : Nat → Int32) (p_depths : Nat → Int32) (x1 : Int32) (post : Int32 → Int32 → Int32 → Int32 → (Nat → Int32) → (Nat → Int32) → (Nat → Int32) → (Nat → Int32) → Prop) (hw : wp_X7_fewest cows tasters milks kinds fines mayBe day p_mayBe p_lastMix p_cutCount p_told p_cuts p_isCut p_depths x1 post) : Met l yX7_fewest wsX7_fewest ({ frames := 5, cells := 0, slots := 0, locals := 116 } : Room) (va_Pc [.ref x_xo, .int x1] (xM D G sz [(x_xo, .inr (7, [.ref da, .ref k_da, .int x_isKept, .ref t_ta, .ref p_pl, .ref r_tr, .ref w_ro, .ref x_ash])), (da, .inr (0, [.ref ami, .int cows, .ref aki, .ref afi, .int tasters, .ref anw, .ref apa, .int newest, .int known])), (ami, .inl (G 0, 8, .inl milks)), (aki, .inl (G 0, 4, .inl kinds)), (afi, .inl (G 0, 4, .inl fines)), (anw, .inr (1, [.int mayBe, .int bearer, .int day, .int draw])), (p_pl, .inr (2, [.int p_mayBe, .int p_lastMix, .ref p_ato, .ref p_acu, .int p_cutCount, .ref p_aic, .ref p_ade, .int p_lesser, .int p_greater])), (p_ato, .inl (G 0, 256, .inl p_told)), (p_acu, .inl (G 0, 256, .inl p_cuts)), (p_aic, .inl (G 2, 256, .inl p_isCut)), (p_ade, .inl (G 0, 256, .inl p_depths))])) (va_Qi (fun r (u : Int32 × Int32 × Int32 × (Nat → Int32) × (Nat → Int32) × (Nat → Int32) × (Nat → Int32)) => post r u.1 u.2.1 u.2.2.1 u.2.2.2.1 u.2.2.2.2.1 u.2.2.2.2.2.1 u.2.2.2.2.2.2) (fun u t => xE D G (va_A [(x_xo, .inr (7, [.ref da, .ref k_da, .int x_isKept, .ref t_ta, .ref p_pl, .ref r_tr, .ref w_ro, .ref x_ash])), (da, .inr (0, [.ref ami, .int cows, .ref aki, .ref afi, .int tasters, .ref anw, .ref apa, .int newest, .int known])), (ami, .inl (G 0, 8, .inl milks)), (aki, .inl (G 0, 4, .inl kinds)), (afi, .inl (G 0, 4, .inl fines)), (anw, .inr (1, [.int mayBe, .int bearer, .int day, .int draw])), (p_pl, .inr (2, [.int p_mayBe, .int p_lastMix, .ref p_ato, .ref p_acu, .int p_cutCount, .ref p_aic, .ref p_ade, .int p_lesser, .int p_greater])), (p_ato, .inl (G 0, 256, .inl p_told)), (p_acu, .inl (G 0, 256, .inl p_cuts)), (p_aic, .inl (G 2, 256, .inl p_isCut)), (p_ade, .inl (G 0, 256, .inl p_depths))] sz) [(x_xo, .inr (7, [.ref da, .ref k_da, .int x_isKept, .ref t_ta, .ref p_pl, .ref r_tr, .ref w_ro, .ref x_ash])), (da, .inr (0, [.ref ami, .int cows, .ref aki, .ref afi, .int tasters, .ref anw, .ref apa, .int newest, .int known])), (ami, .inl (G 0, 8, .inl milks)), (aki, .inl (G 0, 4, .inl kinds)), (afi, .inl (G 0, 4, .inl fines)), (anw, .inr (1, [.int mayBe, .int bearer, .int day, .int draw])), (p_pl, .inr (2, [.int u.1, .int u.2.1, .ref p_ato, .ref p_acu, .int u.2.2.1, .ref p_aic, .ref p_ade, .int p_lesser, .int p_greater])), (p_ato, .inl (G 0, 256, .inl (u.2.2.2.1))), (p_acu, .inl (G 0, 256, .inl (u.2.2.2.2.1))), (p_aic, .inl (G 2, 256, .inl (u.2.2.2.2.2.1))), (p_ade, .inl (G 0, 256, .inl (u.2.2.2.2.2.2)))] t) (va_A [(x_xo, .inr (7, [.ref da, .ref k_da, .int x_isKept, .ref t_ta, .ref p_pl, .ref r_tr, .ref w_ro, .ref x_ash])), (da, .inr (0, [.ref ami, .int cows, .ref aki, .ref afi, .int tasters, .ref anw, .ref apa, .int newest, .int known])), (ami, .inl (G 0, 8, .inl milks)), (aki, .inl (G 0, 4, .inl kinds)), (afi, .inl (G 0, 4, .inl fines)), (anw, .inr (1, [.int mayBe, .int bearer, .int day, .int draw])), (p_pl, .inr (2, [.int p_mayBe, .int p_lastMix, .ref p_ato, .ref p_acu, .int p_cutCount, .ref p_aic, .ref p_ade, .int p_lesser, .int p_greater])), (p_ato, .inl (G 0, 256, .inl p_told)), (p_acu, .inl (G 0, 256, .inl p_cuts)), (p_aic, .inl (G 2, 256, .inl p_isCut)), (p_ade, .inl (G 0, 256, .inl p_depths))] sz)) 0 0 (va_A [(x_xo, .inr (7, [.ref da, .ref k_da, .int x_isKept, .ref t_ta, .ref p_pl, .ref r_tr, .ref w_ro, .ref x_ash])), (da, .inr (0, [.ref ami, .int cows, .ref aki, .ref afi, .int tasters, .ref anw, .ref apa, .int newest, .int known])), (ami, .inl (G 0, 8, .inl milks)), (aki, .inl (G 0, 4, .inl kinds)), (afi, .inl (G 0, 4, .inl fines)), (anw, .inr (1, [.int mayBe, .int bearer, .int day, .int draw])), (p_pl, .inr (2, [.int p_mayBe, .int p_lastMix, .ref p_ato, .ref p_acu, .int p_cutCount, .ref p_aic, .ref p_ade, .int p_lesser, .int p_greater])), (p_ato, .inl (G 0, 256, .inl p_told)), (p_acu, .inl (G 0, 256, .inl p_cuts)), (p_aic, .inl (G 2, 256, .inl p_isCut)), (p_ade, .inl (G 0, 256, .inl p_depths))] sz) := by
  refine Met.ofW (cc := cX7_fewest) (maxL := 2) (ret := (some .int)) (by decide) rfl ?_
  intro p e s m args below meth c s₁ B hml hv
  obtain ⟨rfl, hsz, hP, hK, hD0⟩ := hv
  have hx := B.exec
  have hb := B.bytes
  have hr := B.returns
  have hts := atoms_spec (ws := wsX7_fewest) B.pre
  have hown : s.vm.findClass RX7 = some m.cls := findClass_of_methodNamed B.named
  have hlocks := B.notSynchronized
  subst hsz
  have hD := hD0.self (sz := s.heap.size)
  generalize hAe : va_A [(x_xo, .inr (7, [.ref da, .ref k_da, .int x_isKept, .ref t_ta, .ref p_pl, .ref r_tr, .ref w_ro, .ref x_ash])), (da, .inr (0, [.ref ami, .int cows, .ref aki, .ref afi, .int tasters, .ref anw, .ref apa, .int newest, .int known])), (ami, .inl (G 0, 8, .inl milks)), (aki, .inl (G 0, 4, .inl kinds)), (afi, .inl (G 0, 4, .inl fines)), (anw, .inr (1, [.int mayBe, .int bearer, .int day, .int draw])), (p_pl, .inr (2, [.int p_mayBe, .int p_lastMix, .ref p_ato, .ref p_acu, .int p_cutCount, .ref p_aic, .ref p_ade, .int p_lesser, .int p_greater])), (p_ato, .inl (G 0, 256, .inl p_told)), (p_acu, .inl (G 0, 256, .inl p_cuts)), (p_aic, .inl (G 2, 256, .inl p_isCut)), (p_ade, .inl (G 0, 256, .inl p_depths))] s.heap.size = A at hD ⊢
  have hA : ∀ q : Nat, s.heap.size ≤ q → A q := fun q h => by rw [← hAe]; exact Or.inr h
  have hS : va_S A s.heap s.heap [] := va_S.rf
  have inX7 : ∀ w ∈ wsX70, w ∈ wsX7_fewest := by decide +kernel
  have fl33 := hts (.fieldLink RX7 33 "NewsCow" "plan" "LNewsCow$Plan;") (by decide +kernel)
  have fl12 := hts (.fieldLink RX7 12 "NewsCow" "dairy" "LNewsCow$Dairy;") (by decide +kernel)
  have hl := lv_entry ([.ref x_xo, .int x1] : List Value) (n := 2) (Nat.le_of_ble_eq_true rfl)
  rw [lg_entry_eq]
  generalize (lg_sl ([.ref x_xo, .int x1] : List Value) ++ List.replicate (2 - (lg_sl ([.ref x_xo, .int x1] : List Value)).length) Slot.unset).toArray = ls at hl ⊢
  have hl : lv_has ls 2 [(0, .ref x_xo), (1, .int x1)] := hl
  unfold wp_X7_fewest at hw
  refine lv_aload_n hx hb dX7_fewest_0 rfl (lv_at hl 0 rfl) ?_
  refine lv_iload_n hx hb dX7_fewest_1 rfl (lv_at hl 1 rfl) ?_
  refine vp_callSi (W.runV (As := [.int x1]) (rest := []) ⟨hx, hb, hml, hown, hts⟩ (c_X7_isTaster l D G x_xo da k_da t_ta p_pl r_tr w_ro x_ash ami aki afi anw apa x_isKept cows tasters newest known x1 _ hw) (cwV 1 hts gX7_fewest_X7_isTaster rfl rfl rfl (by decide +kernel) ⟨(Nat.le_of_ble_eq_true rfl), (Nat.le_of_ble_eq_true rfl)⟩) (xR_pv (hP.sub [0, 1] rfl) hK (va_recv hK hP (ci := 7) (q0 := 0) rfl rfl)) rfl rfl hl.1 rfl (lv_room (Nat.le_of_ble_eq_true rfl)) dX7_fewest_2 ⟨Nat.zero_le _, Nat.zero_le _⟩) (fun r1 hw => ?_)
  refine lv_if_ne (tgt := 10) hx hb dX7_fewest_5 (by decide) (fun c9 => ?_) (fun c9 => ?_)
  · replace hw := hw.1 c9
    refine lv_aload_n hx hb dX7_fewest_10 rfl (lv_at hl 0 rfl) ?_
    refine va_get (D := D) (ci := 7) (v := .ref p_pl) (C := RX7) (T := TX7) (N := 8) hx hb hts inX7 hown hK hP 0 rfl rfl 4 (by decide) fl33 (fun _ h9 => h9) rfl dX7_fewest_11 ?_
    refine lv_aload_n hx hb dX7_fewest_14 rfl (lv_at hl 0 rfl) ?_
    refine va_get (D := D) (ci := 7) (v := .ref da) (C := RX7) (T := TX7) (N := 8) hx hb hts inX7 hown hK hP 0 rfl rfl 0 (by decide) fl12 (fun _ h9 => h9) rfl dX7_fewest_15 ?_
    refine lv_iload_n hx hb dX7_fewest_18 rfl (lv_at hl 1 rfl) ?_
    refine x_cMv (wr := [(x_xo, .inr (7, [.ref da, .ref k_da, .int x_isKept, .ref t_ta, .ref p_pl, .ref r_tr, .ref w_ro, .ref x_ash])), (p_acu, .inl (G 0, 256, .inl p_cuts)), (p_aic, .inl (G 2, 256, .inl p_isCut)), (p_ade, .inl (G 0, 256, .inl p_depths))]) (va_runV (As := [.ref da, .int x1]) (rest := []) ⟨hx, hb, hml, hown, hts⟩ (c_X2_lookAhead l D G _ p_pl p_ato p_acu p_aic p_ade da ami aki afi anw apa p_mayBe p_lastMix p_cutCount p_lesser p_greater p_told cows tasters newest known milks kinds fines mayBe bearer day draw x1 _ hw) (cwV 2 hts gX7_fewest_X2_lookAhead rfl rfl rfl (by decide +kernel) ⟨(Nat.le_of_ble_eq_true rfl), (Nat.le_of_ble_eq_true rfl)⟩) (xM_pv (hP.sub [6, 7, 1, 2, 3, 4, 5] rfl) hK (hD.sub [6, 7, 1, 2, 3, 4, 5] (by decide) rfl) (va_recv hK hP (ci := 2) (q0 := 6) rfl rfl)) rfl rfl hl.1 rfl (lv_room (Nat.le_of_ble_eq_true rfl)) dX7_fewest_19 ⟨Nat.zero_le _, Nat.zero_le _⟩) hP hD hS hA [6, 7, 1, 2, 3, 4, 5] [0, 8, 9, 10] rfl rfl (by decide) (by decide) [0, 6, 7, 8, 9, 10, 4, 5, 1, 2, 3] (fun u => [(x_xo, .inr (7, [.ref da, .ref k_da, .int x_isKept, .ref t_ta, .ref p_pl, .ref r_tr, .ref w_ro, .ref x_ash])), (da, .inr (0, [.ref ami, .int cows, .ref aki, .ref afi, .int tasters, .ref anw, .ref apa, .int newest, .int known])), (ami, .inl (G 0, 8, .inl milks)), (aki, .inl (G 0, 4, .inl kinds)), (afi, .inl (G 0, 4, .inl fines)), (anw, .inr (1, [.int mayBe, .int bearer, .int day, .int draw])), (p_pl, .inr (2, [.int u.1, .int u.2.1, .ref p_ato, .ref p_acu, .int p_cutCount, .ref p_aic, .ref p_ade, .int p_lesser, .int p_greater])), (p_ato, .inl (G 0, 256, .inl (u.2.2))), (p_acu, .inl (G 0, 256, .inl p_cuts)), (p_aic, .inl (G 2, 256, .inl p_isCut)), (p_ade, .inl (G 0, 256, .inl p_depths))]) (by decide) (fun u => rfl) (fun u H locs hw hP hD hS => ?_)
    obtain ⟨p_mayBe_2, p_lastMix_2, p_told_2⟩ := u
    try dsimp only at hw
    replace hP : va_P D vwCl [(x_xo, .inr (7, [.ref da, .ref k_da, .int x_isKept, .ref t_ta, .ref p_pl, .ref r_tr, .ref w_ro, .ref x_ash])), (da, .inr (0, [.ref ami, .int cows, .ref aki, .ref afi, .int tasters, .ref anw, .ref apa, .int newest, .int known])), (ami, .inl (G 0, 8, .inl milks)), (aki, .inl (G 0, 4, .inl kinds)), (afi, .inl (G 0, 4, .inl fines)), (anw, .inr (1, [.int mayBe, .int bearer, .int day, .int draw])), (p_pl, .inr (2, [.int p_mayBe_2, .int p_lastMix_2, .ref p_ato, .ref p_acu, .int p_cutCount, .ref p_aic, .ref p_ade, .int p_lesser, .int p_greater])), (p_ato, .inl (G 0, 256, .inl p_told_2)), (p_acu, .inl (G 0, 256, .inl p_cuts)), (p_aic, .inl (G 2, 256, .inl p_isCut)), (p_ade, .inl (G 0, 256, .inl p_depths))] H := hP
    replace hD : va_D A [(x_xo, .inr (7, [.ref da, .ref k_da, .int x_isKept, .ref t_ta, .ref p_pl, .ref r_tr, .ref w_ro, .ref x_ash])), (da, .inr (0, [.ref ami, .int cows, .ref aki, .ref afi, .int tasters, .ref anw, .ref apa, .int newest, .int known])), (ami, .inl (G 0, 8, .inl milks)), (aki, .inl (G 0, 4, .inl kinds)), (afi, .inl (G 0, 4, .inl fines)), (anw, .inr (1, [.int mayBe, .int bearer, .int day, .int draw])), (p_pl, .inr (2, [.int p_mayBe_2, .int p_lastMix_2, .ref p_ato, .ref p_acu, .int p_cutCount, .ref p_aic, .ref p_ade, .int p_lesser, .int p_greater])), (p_ato, .inl (G 0, 256, .inl p_told_2)), (p_acu, .inl (G 0, 256, .inl p_cuts)), (p_aic, .inl (G 2, 256, .inl p_isCut)), (p_ade, .inl (G 0, 256, .inl p_depths))] := hD
    refine lv_aload_n hx hb dX7_fewest_22 rfl (lv_at hl 0 rfl) ?_
    refine va_get (D := D) (ci := 7) (v := .ref p_pl) (C := RX7) (T := TX7) (N := 8) hx hb hts inX7 hown hK hP 0 rfl rfl 4 (by decide) fl33 (fun _ h9 => h9) rfl dX7_fewest_23 ?_
    refine x_cMi (wr := [(x_xo, .inr (7, [.ref da, .ref k_da, .int x_isKept, .ref t_ta, .ref p_pl, .ref r_tr, .ref w_ro, .ref x_ash])), (da, .inr (0, [.ref ami, .int cows, .ref aki, .ref afi, .int tasters, .ref anw, .ref apa, .int newest, .int known])), (ami, .inl (G 0, 8, .inl milks)), (aki, .inl (G 0, 4, .inl kinds)), (afi, .inl (G 0, 4, .inl fines)), (anw, .inr (1, [.int mayBe, .int bearer, .int day, .int draw]))]) (va_runV (As := []) (rest := []) ⟨hx, hb, hml, hown, hts⟩ (c_X2_fewestMixes l D G _ p_pl p_ato p_acu p_aic p_ade p_mayBe_2 p_lastMix_2 p_cutCount p_lesser p_greater p_told_2 p_cuts p_isCut p_depths _ hw) (cwV 0 hts gX7_fewest_X2_fewestMixes rfl rfl rfl (by decide +kernel) ⟨(Nat.le_of_ble_eq_true rfl), (Nat.le_of_ble_eq_true rfl)⟩) (xM_pv (hP.sub [6, 7, 8, 9, 10] rfl) hK (hD.sub [6, 7, 8, 9, 10] (by decide) rfl) (va_recv hK hP (ci := 2) (q0 := 6) rfl rfl)) rfl rfl hl.1 rfl (lv_room (Nat.le_of_ble_eq_true rfl)) dX7_fewest_26 ⟨Nat.zero_le _, Nat.zero_le _⟩) hP hD hS hA [6, 7, 8, 9, 10] [0, 1, 2, 3, 4, 5] rfl rfl (by decide) (by decide) [0, 1, 2, 3, 4, 5, 6, 7, 8, 9, 10] (fun u => [(x_xo, .inr (7, [.ref da, .ref k_da, .int x_isKept, .ref t_ta, .ref p_pl, .ref r_tr, .ref w_ro, .ref x_ash])), (da, .inr (0, [.ref ami, .int cows, .ref aki, .ref afi, .int tasters, .ref anw, .ref apa, .int newest, .int known])), (ami, .inl (G 0, 8, .inl milks)), (aki, .inl (G 0, 4, .inl kinds)), (afi, .inl (G 0, 4, .inl fines)), (anw, .inr (1, [.int mayBe, .int bearer, .int day, .int draw])), (p_pl, .inr (2, [.int p_mayBe_2, .int p_lastMix_2, .ref p_ato, .ref p_acu, .int u.1, .ref p_aic, .ref p_ade, .int p_lesser, .int p_greater])), (p_ato, .inl (G 0, 256, .inl p_told_2)), (p_acu, .inl (G 0, 256, .inl (u.2.1))), (p_aic, .inl (G 2, 256, .inl (u.2.2.1))), (p_ade, .inl (G 0, 256, .inl (u.2.2.2)))]) (by decide) (fun u => rfl) (fun r3 u H locs hw hP hD hS => ?_)
    obtain ⟨p_cutCount_3, p_cuts_3, p_isCut_3, p_depths_3⟩ := u
    try dsimp only at hw
    replace hP : va_P D vwCl [(x_xo, .inr (7, [.ref da, .ref k_da, .int x_isKept, .ref t_ta, .ref p_pl, .ref r_tr, .ref w_ro, .ref x_ash])), (da, .inr (0, [.ref ami, .int cows, .ref aki, .ref afi, .int tasters, .ref anw, .ref apa, .int newest, .int known])), (ami, .inl (G 0, 8, .inl milks)), (aki, .inl (G 0, 4, .inl kinds)), (afi, .inl (G 0, 4, .inl fines)), (anw, .inr (1, [.int mayBe, .int bearer, .int day, .int draw])), (p_pl, .inr (2, [.int p_mayBe_2, .int p_lastMix_2, .ref p_ato, .ref p_acu, .int p_cutCount_3, .ref p_aic, .ref p_ade, .int p_lesser, .int p_greater])), (p_ato, .inl (G 0, 256, .inl p_told_2)), (p_acu, .inl (G 0, 256, .inl p_cuts_3)), (p_aic, .inl (G 2, 256, .inl p_isCut_3)), (p_ade, .inl (G 0, 256, .inl p_depths_3))] H := hP
    replace hD : va_D A [(x_xo, .inr (7, [.ref da, .ref k_da, .int x_isKept, .ref t_ta, .ref p_pl, .ref r_tr, .ref w_ro, .ref x_ash])), (da, .inr (0, [.ref ami, .int cows, .ref aki, .ref afi, .int tasters, .ref anw, .ref apa, .int newest, .int known])), (ami, .inl (G 0, 8, .inl milks)), (aki, .inl (G 0, 4, .inl kinds)), (afi, .inl (G 0, 4, .inl fines)), (anw, .inr (1, [.int mayBe, .int bearer, .int day, .int draw])), (p_pl, .inr (2, [.int p_mayBe_2, .int p_lastMix_2, .ref p_ato, .ref p_acu, .int p_cutCount_3, .ref p_aic, .ref p_ade, .int p_lesser, .int p_greater])), (p_ato, .inl (G 0, 256, .inl p_told_2)), (p_acu, .inl (G 0, 256, .inl p_cuts_3)), (p_aic, .inl (G 2, 256, .inl p_isCut_3)), (p_ade, .inl (G 0, 256, .inl p_depths_3))] := hD
    exact W.iret hx hb hr (x_mi (u := (p_mayBe_2, p_lastMix_2, p_cutCount_3, p_told_2, p_cuts_3, p_isCut_3, p_depths_3)) hP hK hD hS hw) hS.2.2 dX7_fewest_29
  · replace hw := hw.2 c9
    refine lv_iconst (v := -1) hx hb dX7_fewest_8 (by decide) ?_
    exact W.iret hx hb hr (x_mi (u := (p_mayBe, p_lastMix, p_cutCount, p_told, p_cuts, p_isCut, p_depths)) hP hK hD hS hw) hS.2.2 dX7_fewest_9
set_option maxHeartbeats 4000000 in
set_option maxRecDepth 100000 in
theorem c_X7_next (l : Launch) (D : va_G) (G : Nat → ClassId) (sz : Nat) (x_xo : Nat) (da : Nat) (k_da : Nat) (t_ta : Nat) (p_pl : Nat) (r_tr : Nat) (w_ro : Nat) (x_ash : Nat) (ami : Nat) (aki : Nat) (afi : Nat) (anw : Nat) (apa : Nat) (p_ato : Nat) (p_acu : Nat) (p_aic : Nat) (p_ade : Nat) (x_isKept : Int32) (cows : Int32) (tasters : Int32) (newest : Int32) (known : Int32) (milks : Nat → Int32) (kinds : Nat → Int32) (fines : Nat → Int32) (mayBe : Int32) (bearer : Int32) (day : Int32) (draw : Int32) (p_mayBe : Int32) (p_lastMix : Int32) (p_cutCount : Int32) (p_lesser : Int32) (p_greater : Int32) (p_told : Nat → Int32) (p_cuts : Nat → Int32) (p_isCut : Nat → Int32) (p_depths : Nat → Int32) (x1 : Int32) (post : Int32 → Int32 → Int32 → Int32 → (Nat → Int32) → (Nat → Int32) → (Nat → Int32) → (Nat → Int32) → Prop) (hw : wp_X7_next cows tasters milks kinds fines mayBe day p_mayBe p_lastMix p_cutCount p_told p_cuts p_isCut p_depths x1 post) : Met l yX7_next wsX7_next ({ frames := 6, cells := 0, slots := 0, locals := 132 } : Room) (va_Pc [.ref x_xo, .int x1] (xM D G sz [(x_xo, .inr (7, [.ref da, .ref k_da, .int x_isKept, .ref t_ta, .ref p_pl, .ref r_tr, .ref w_ro, .ref x_ash])), (da, .inr (0, [.ref ami, .int cows, .ref aki, .ref afi, .int tasters, .ref anw, .ref apa, .int newest, .int known])), (ami, .inl (G 0, 8, .inl milks)), (aki, .inl (G 0, 4, .inl kinds)), (afi, .inl (G 0, 4, .inl fines)), (anw, .inr (1, [.int mayBe, .int bearer, .int day, .int draw])), (p_pl, .inr (2, [.int p_mayBe, .int p_lastMix, .ref p_ato, .ref p_acu, .int p_cutCount, .ref p_aic, .ref p_ade, .int p_lesser, .int p_greater])), (p_ato, .inl (G 0, 256, .inl p_told)), (p_acu, .inl (G 0, 256, .inl p_cuts)), (p_aic, .inl (G 2, 256, .inl p_isCut)), (p_ade, .inl (G 0, 256, .inl p_depths))])) (va_Qi (fun r (u : Int32 × Int32 × Int32 × (Nat → Int32) × (Nat → Int32) × (Nat → Int32) × (Nat → Int32)) => post r u.1 u.2.1 u.2.2.1 u.2.2.2.1 u.2.2.2.2.1 u.2.2.2.2.2.1 u.2.2.2.2.2.2) (fun u t => xE D G (va_A [(x_xo, .inr (7, [.ref da, .ref k_da, .int x_isKept, .ref t_ta, .ref p_pl, .ref r_tr, .ref w_ro, .ref x_ash])), (da, .inr (0, [.ref ami, .int cows, .ref aki, .ref afi, .int tasters, .ref anw, .ref apa, .int newest, .int known])), (ami, .inl (G 0, 8, .inl milks)), (aki, .inl (G 0, 4, .inl kinds)), (afi, .inl (G 0, 4, .inl fines)), (anw, .inr (1, [.int mayBe, .int bearer, .int day, .int draw])), (p_pl, .inr (2, [.int p_mayBe, .int p_lastMix, .ref p_ato, .ref p_acu, .int p_cutCount, .ref p_aic, .ref p_ade, .int p_lesser, .int p_greater])), (p_ato, .inl (G 0, 256, .inl p_told)), (p_acu, .inl (G 0, 256, .inl p_cuts)), (p_aic, .inl (G 2, 256, .inl p_isCut)), (p_ade, .inl (G 0, 256, .inl p_depths))] sz) [(x_xo, .inr (7, [.ref da, .ref k_da, .int x_isKept, .ref t_ta, .ref p_pl, .ref r_tr, .ref w_ro, .ref x_ash])), (da, .inr (0, [.ref ami, .int cows, .ref aki, .ref afi, .int tasters, .ref anw, .ref apa, .int newest, .int known])), (ami, .inl (G 0, 8, .inl milks)), (aki, .inl (G 0, 4, .inl kinds)), (afi, .inl (G 0, 4, .inl fines)), (anw, .inr (1, [.int mayBe, .int bearer, .int day, .int draw])), (p_pl, .inr (2, [.int u.1, .int u.2.1, .ref p_ato, .ref p_acu, .int u.2.2.1, .ref p_aic, .ref p_ade, .int p_lesser, .int p_greater])), (p_ato, .inl (G 0, 256, .inl (u.2.2.2.1))), (p_acu, .inl (G 0, 256, .inl (u.2.2.2.2.1))), (p_aic, .inl (G 2, 256, .inl (u.2.2.2.2.2.1))), (p_ade, .inl (G 0, 256, .inl (u.2.2.2.2.2.2)))] t) (va_A [(x_xo, .inr (7, [.ref da, .ref k_da, .int x_isKept, .ref t_ta, .ref p_pl, .ref r_tr, .ref w_ro, .ref x_ash])), (da, .inr (0, [.ref ami, .int cows, .ref aki, .ref afi, .int tasters, .ref anw, .ref apa, .int newest, .int known])), (ami, .inl (G 0, 8, .inl milks)), (aki, .inl (G 0, 4, .inl kinds)), (afi, .inl (G 0, 4, .inl fines)), (anw, .inr (1, [.int mayBe, .int bearer, .int day, .int draw])), (p_pl, .inr (2, [.int p_mayBe, .int p_lastMix, .ref p_ato, .ref p_acu, .int p_cutCount, .ref p_aic, .ref p_ade, .int p_lesser, .int p_greater])), (p_ato, .inl (G 0, 256, .inl p_told)), (p_acu, .inl (G 0, 256, .inl p_cuts)), (p_aic, .inl (G 2, 256, .inl p_isCut)), (p_ade, .inl (G 0, 256, .inl p_depths))] sz)) 0 0 (va_A [(x_xo, .inr (7, [.ref da, .ref k_da, .int x_isKept, .ref t_ta, .ref p_pl, .ref r_tr, .ref w_ro, .ref x_ash])), (da, .inr (0, [.ref ami, .int cows, .ref aki, .ref afi, .int tasters, .ref anw, .ref apa, .int newest, .int known])), (ami, .inl (G 0, 8, .inl milks)), (aki, .inl (G 0, 4, .inl kinds)), (afi, .inl (G 0, 4, .inl fines)), (anw, .inr (1, [.int mayBe, .int bearer, .int day, .int draw])), (p_pl, .inr (2, [.int p_mayBe, .int p_lastMix, .ref p_ato, .ref p_acu, .int p_cutCount, .ref p_aic, .ref p_ade, .int p_lesser, .int p_greater])), (p_ato, .inl (G 0, 256, .inl p_told)), (p_acu, .inl (G 0, 256, .inl p_cuts)), (p_aic, .inl (G 2, 256, .inl p_isCut)), (p_ade, .inl (G 0, 256, .inl p_depths))] sz) := by
  refine Met.ofW (cc := cX7_next) (maxL := 2) (ret := (some .int)) (by decide) rfl ?_
  intro p e s m args below meth c s₁ B hml hv
  obtain ⟨rfl, hsz, hP, hK, hD0⟩ := hv
  have hx := B.exec
  have hb := B.bytes
  have hr := B.returns
  have hts := atoms_spec (ws := wsX7_next) B.pre
  have hown : s.vm.findClass RX7 = some m.cls := findClass_of_methodNamed B.named
  have hlocks := B.notSynchronized
  subst hsz
  have hD := hD0.self (sz := s.heap.size)
  generalize hAe : va_A [(x_xo, .inr (7, [.ref da, .ref k_da, .int x_isKept, .ref t_ta, .ref p_pl, .ref r_tr, .ref w_ro, .ref x_ash])), (da, .inr (0, [.ref ami, .int cows, .ref aki, .ref afi, .int tasters, .ref anw, .ref apa, .int newest, .int known])), (ami, .inl (G 0, 8, .inl milks)), (aki, .inl (G 0, 4, .inl kinds)), (afi, .inl (G 0, 4, .inl fines)), (anw, .inr (1, [.int mayBe, .int bearer, .int day, .int draw])), (p_pl, .inr (2, [.int p_mayBe, .int p_lastMix, .ref p_ato, .ref p_acu, .int p_cutCount, .ref p_aic, .ref p_ade, .int p_lesser, .int p_greater])), (p_ato, .inl (G 0, 256, .inl p_told)), (p_acu, .inl (G 0, 256, .inl p_cuts)), (p_aic, .inl (G 2, 256, .inl p_isCut)), (p_ade, .inl (G 0, 256, .inl p_depths))] s.heap.size = A at hD ⊢
  have hA : ∀ q : Nat, s.heap.size ≤ q → A q := fun q h => by rw [← hAe]; exact Or.inr h
  have hS : va_S A s.heap s.heap [] := va_S.rf
  have inX7 : ∀ w ∈ wsX70, w ∈ wsX7_next := by decide +kernel
  have fl33 := hts (.fieldLink RX7 33 "NewsCow" "plan" "LNewsCow$Plan;") (by decide +kernel)
  have fl12 := hts (.fieldLink RX7 12 "NewsCow" "dairy" "LNewsCow$Dairy;") (by decide +kernel)
  have hl := lv_entry ([.ref x_xo, .int x1] : List Value) (n := 2) (Nat.le_of_ble_eq_true rfl)
  rw [lg_entry_eq]
  generalize (lg_sl ([.ref x_xo, .int x1] : List Value) ++ List.replicate (2 - (lg_sl ([.ref x_xo, .int x1] : List Value)).length) Slot.unset).toArray = ls at hl ⊢
  have hl : lv_has ls 2 [(0, .ref x_xo), (1, .int x1)] := hl
  unfold wp_X7_next at hw
  refine lv_aload_n hx hb dX7_next_0 rfl (lv_at hl 0 rfl) ?_
  refine lv_iload_n hx hb dX7_next_1 rfl (lv_at hl 1 rfl) ?_
  refine vp_callSi (W.runV (As := [.int x1]) (rest := []) ⟨hx, hb, hml, hown, hts⟩ (c_X7_isTaster l D G x_xo da k_da t_ta p_pl r_tr w_ro x_ash ami aki afi anw apa x_isKept cows tasters newest known x1 _ hw) (cwV 1 hts gX7_next_X7_isTaster rfl rfl rfl (by decide +kernel) ⟨(Nat.le_of_ble_eq_true rfl), (Nat.le_of_ble_eq_true rfl)⟩) (xR_pv (hP.sub [0, 1] rfl) hK (va_recv hK hP (ci := 7) (q0 := 0) rfl rfl)) rfl rfl hl.1 rfl (lv_room (Nat.le_of_ble_eq_true rfl)) dX7_next_2 ⟨Nat.zero_le _, Nat.zero_le _⟩) (fun r1 hw => ?_)
  refine lv_if_ne (tgt := 10) hx hb dX7_next_5 (by decide) (fun c9 => ?_) (fun c9 => ?_)
  · replace hw := hw.1 c9
    refine lv_aload_n hx hb dX7_next_10 rfl (lv_at hl 0 rfl) ?_
    refine va_get (D := D) (ci := 7) (v := .ref p_pl) (C := RX7) (T := TX7) (N := 8) hx hb hts inX7 hown hK hP 0 rfl rfl 4 (by decide) fl33 (fun _ h9 => h9) rfl dX7_next_11 ?_
    refine lv_aload_n hx hb dX7_next_14 rfl (lv_at hl 0 rfl) ?_
    refine va_get (D := D) (ci := 7) (v := .ref da) (C := RX7) (T := TX7) (N := 8) hx hb hts inX7 hown hK hP 0 rfl rfl 0 (by decide) fl12 (fun _ h9 => h9) rfl dX7_next_15 ?_
    refine lv_iload_n hx hb dX7_next_18 rfl (lv_at hl 1 rfl) ?_
    refine x_cMv (wr := [(x_xo, .inr (7, [.ref da, .ref k_da, .int x_isKept, .ref t_ta, .ref p_pl, .ref r_tr, .ref w_ro, .ref x_ash])), (p_acu, .inl (G 0, 256, .inl p_cuts)), (p_aic, .inl (G 2, 256, .inl p_isCut)), (p_ade, .inl (G 0, 256, .inl p_depths))]) (va_runV (As := [.ref da, .int x1]) (rest := []) ⟨hx, hb, hml, hown, hts⟩ (c_X2_lookAhead l D G _ p_pl p_ato p_acu p_aic p_ade da ami aki afi anw apa p_mayBe p_lastMix p_cutCount p_lesser p_greater p_told cows tasters newest known milks kinds fines mayBe bearer day draw x1 _ hw) (cwV 2 hts gX7_next_X2_lookAhead rfl rfl rfl (by decide +kernel) ⟨(Nat.le_of_ble_eq_true rfl), (Nat.le_of_ble_eq_true rfl)⟩) (xM_pv (hP.sub [6, 7, 1, 2, 3, 4, 5] rfl) hK (hD.sub [6, 7, 1, 2, 3, 4, 5] (by decide) rfl) (va_recv hK hP (ci := 2) (q0 := 6) rfl rfl)) rfl rfl hl.1 rfl (lv_room (Nat.le_of_ble_eq_true rfl)) dX7_next_19 ⟨Nat.zero_le _, Nat.zero_le _⟩) hP hD hS hA [6, 7, 1, 2, 3, 4, 5] [0, 8, 9, 10] rfl rfl (by decide) (by decide) [0, 6, 7, 8, 9, 10, 4, 5, 1, 2, 3] (fun u => [(x_xo, .inr (7, [.ref da, .ref k_da, .int x_isKept, .ref t_ta, .ref p_pl, .ref r_tr, .ref w_ro, .ref x_ash])), (da, .inr (0, [.ref ami, .int cows, .ref aki, .ref afi, .int tasters, .ref anw, .ref apa, .int newest, .int known])), (ami, .inl (G 0, 8, .inl milks)), (aki, .inl (G 0, 4, .inl kinds)), (afi, .inl (G 0, 4, .inl fines)), (anw, .inr (1, [.int mayBe, .int bearer, .int day, .int draw])), (p_pl, .inr (2, [.int u.1, .int u.2.1, .ref p_ato, .ref p_acu, .int p_cutCount, .ref p_aic, .ref p_ade, .int p_lesser, .int p_greater])), (p_ato, .inl (G 0, 256, .inl (u.2.2))), (p_acu, .inl (G 0, 256, .inl p_cuts)), (p_aic, .inl (G 2, 256, .inl p_isCut)), (p_ade, .inl (G 0, 256, .inl p_depths))]) (by decide) (fun u => rfl) (fun u H locs hw hP hD hS => ?_)
    obtain ⟨p_mayBe_2, p_lastMix_2, p_told_2⟩ := u
    try dsimp only at hw
    replace hP : va_P D vwCl [(x_xo, .inr (7, [.ref da, .ref k_da, .int x_isKept, .ref t_ta, .ref p_pl, .ref r_tr, .ref w_ro, .ref x_ash])), (da, .inr (0, [.ref ami, .int cows, .ref aki, .ref afi, .int tasters, .ref anw, .ref apa, .int newest, .int known])), (ami, .inl (G 0, 8, .inl milks)), (aki, .inl (G 0, 4, .inl kinds)), (afi, .inl (G 0, 4, .inl fines)), (anw, .inr (1, [.int mayBe, .int bearer, .int day, .int draw])), (p_pl, .inr (2, [.int p_mayBe_2, .int p_lastMix_2, .ref p_ato, .ref p_acu, .int p_cutCount, .ref p_aic, .ref p_ade, .int p_lesser, .int p_greater])), (p_ato, .inl (G 0, 256, .inl p_told_2)), (p_acu, .inl (G 0, 256, .inl p_cuts)), (p_aic, .inl (G 2, 256, .inl p_isCut)), (p_ade, .inl (G 0, 256, .inl p_depths))] H := hP
    replace hD : va_D A [(x_xo, .inr (7, [.ref da, .ref k_da, .int x_isKept, .ref t_ta, .ref p_pl, .ref r_tr, .ref w_ro, .ref x_ash])), (da, .inr (0, [.ref ami, .int cows, .ref aki, .ref afi, .int tasters, .ref anw, .ref apa, .int newest, .int known])), (ami, .inl (G 0, 8, .inl milks)), (aki, .inl (G 0, 4, .inl kinds)), (afi, .inl (G 0, 4, .inl fines)), (anw, .inr (1, [.int mayBe, .int bearer, .int day, .int draw])), (p_pl, .inr (2, [.int p_mayBe_2, .int p_lastMix_2, .ref p_ato, .ref p_acu, .int p_cutCount, .ref p_aic, .ref p_ade, .int p_lesser, .int p_greater])), (p_ato, .inl (G 0, 256, .inl p_told_2)), (p_acu, .inl (G 0, 256, .inl p_cuts)), (p_aic, .inl (G 2, 256, .inl p_isCut)), (p_ade, .inl (G 0, 256, .inl p_depths))] := hD
    refine lv_aload_n hx hb dX7_next_22 rfl (lv_at hl 0 rfl) ?_
    refine va_get (D := D) (ci := 7) (v := .ref p_pl) (C := RX7) (T := TX7) (N := 8) hx hb hts inX7 hown hK hP 0 rfl rfl 4 (by decide) fl33 (fun _ h9 => h9) rfl dX7_next_23 ?_
    refine x_cMi (wr := [(x_xo, .inr (7, [.ref da, .ref k_da, .int x_isKept, .ref t_ta, .ref p_pl, .ref r_tr, .ref w_ro, .ref x_ash])), (da, .inr (0, [.ref ami, .int cows, .ref aki, .ref afi, .int tasters, .ref anw, .ref apa, .int newest, .int known])), (ami, .inl (G 0, 8, .inl milks)), (aki, .inl (G 0, 4, .inl kinds)), (afi, .inl (G 0, 4, .inl fines)), (anw, .inr (1, [.int mayBe, .int bearer, .int day, .int draw]))]) (va_runV (As := []) (rest := []) ⟨hx, hb, hml, hown, hts⟩ (c_X2_firstMix l D G _ p_pl p_ato p_acu p_aic p_ade p_mayBe_2 p_lastMix_2 p_cutCount p_lesser p_greater p_told_2 p_cuts p_isCut p_depths _ hw) (cwV 0 hts gX7_next_X2_firstMix rfl rfl rfl (by decide +kernel) ⟨(Nat.le_of_ble_eq_true rfl), (Nat.le_of_ble_eq_true rfl)⟩) (xM_pv (hP.sub [6, 7, 8, 9, 10] rfl) hK (hD.sub [6, 7, 8, 9, 10] (by decide) rfl) (va_recv hK hP (ci := 2) (q0 := 6) rfl rfl)) rfl rfl hl.1 rfl (lv_room (Nat.le_of_ble_eq_true rfl)) dX7_next_26 ⟨Nat.zero_le _, Nat.zero_le _⟩) hP hD hS hA [6, 7, 8, 9, 10] [0, 1, 2, 3, 4, 5] rfl rfl (by decide) (by decide) [0, 1, 2, 3, 4, 5, 6, 7, 8, 9, 10] (fun u => [(x_xo, .inr (7, [.ref da, .ref k_da, .int x_isKept, .ref t_ta, .ref p_pl, .ref r_tr, .ref w_ro, .ref x_ash])), (da, .inr (0, [.ref ami, .int cows, .ref aki, .ref afi, .int tasters, .ref anw, .ref apa, .int newest, .int known])), (ami, .inl (G 0, 8, .inl milks)), (aki, .inl (G 0, 4, .inl kinds)), (afi, .inl (G 0, 4, .inl fines)), (anw, .inr (1, [.int mayBe, .int bearer, .int day, .int draw])), (p_pl, .inr (2, [.int p_mayBe_2, .int p_lastMix_2, .ref p_ato, .ref p_acu, .int u.1, .ref p_aic, .ref p_ade, .int p_lesser, .int p_greater])), (p_ato, .inl (G 0, 256, .inl p_told_2)), (p_acu, .inl (G 0, 256, .inl (u.2.1))), (p_aic, .inl (G 2, 256, .inl (u.2.2.1))), (p_ade, .inl (G 0, 256, .inl (u.2.2.2)))]) (by decide) (fun u => rfl) (fun r3 u H locs hw hP hD hS => ?_)
    obtain ⟨p_cutCount_3, p_cuts_3, p_isCut_3, p_depths_3⟩ := u
    try dsimp only at hw
    replace hP : va_P D vwCl [(x_xo, .inr (7, [.ref da, .ref k_da, .int x_isKept, .ref t_ta, .ref p_pl, .ref r_tr, .ref w_ro, .ref x_ash])), (da, .inr (0, [.ref ami, .int cows, .ref aki, .ref afi, .int tasters, .ref anw, .ref apa, .int newest, .int known])), (ami, .inl (G 0, 8, .inl milks)), (aki, .inl (G 0, 4, .inl kinds)), (afi, .inl (G 0, 4, .inl fines)), (anw, .inr (1, [.int mayBe, .int bearer, .int day, .int draw])), (p_pl, .inr (2, [.int p_mayBe_2, .int p_lastMix_2, .ref p_ato, .ref p_acu, .int p_cutCount_3, .ref p_aic, .ref p_ade, .int p_lesser, .int p_greater])), (p_ato, .inl (G 0, 256, .inl p_told_2)), (p_acu, .inl (G 0, 256, .inl p_cuts_3)), (p_aic, .inl (G 2, 256, .inl p_isCut_3)), (p_ade, .inl (G 0, 256, .inl p_depths_3))] H := hP
    replace hD : va_D A [(x_xo, .inr (7, [.ref da, .ref k_da, .int x_isKept, .ref t_ta, .ref p_pl, .ref r_tr, .ref w_ro, .ref x_ash])), (da, .inr (0, [.ref ami, .int cows, .ref aki, .ref afi, .int tasters, .ref anw, .ref apa, .int newest, .int known])), (ami, .inl (G 0, 8, .inl milks)), (aki, .inl (G 0, 4, .inl kinds)), (afi, .inl (G 0, 4, .inl fines)), (anw, .inr (1, [.int mayBe, .int bearer, .int day, .int draw])), (p_pl, .inr (2, [.int p_mayBe_2, .int p_lastMix_2, .ref p_ato, .ref p_acu, .int p_cutCount_3, .ref p_aic, .ref p_ade, .int p_lesser, .int p_greater])), (p_ato, .inl (G 0, 256, .inl p_told_2)), (p_acu, .inl (G 0, 256, .inl p_cuts_3)), (p_aic, .inl (G 2, 256, .inl p_isCut_3)), (p_ade, .inl (G 0, 256, .inl p_depths_3))] := hD
    exact W.iret hx hb hr (x_mi (u := (p_mayBe_2, p_lastMix_2, p_cutCount_3, p_told_2, p_cuts_3, p_isCut_3, p_depths_3)) hP hK hD hS hw) hS.2.2 dX7_next_29
  · replace hw := hw.2 c9
    refine lv_iconst (v := -1) hx hb dX7_next_8 (by decide) ?_
    exact W.iret hx hb hr (x_mi (u := (p_mayBe, p_lastMix, p_cutCount, p_told, p_cuts, p_isCut, p_depths)) hP hK hD hS hw) hS.2.2 dX7_next_9
set_option maxHeartbeats 4000000 in
set_option maxRecDepth 100000 in
theorem c_X7_once (l : Launch) (D : va_G) (G : Nat → ClassId) (sz : Nat) (x_xo : Nat) (da : Nat) (k_da : Nat) (t_ta : Nat) (p_pl : Nat) (r_tr : Nat) (w_ro : Nat) (x_ash : Nat) (ami : Nat) (aki : Nat) (afi : Nat) (anw : Nat) (apa : Nat) (p_ato : Nat) (p_acu : Nat) (p_aic : Nat) (p_ade : Nat) (x_isKept : Int32) (cows : Int32) (tasters : Int32) (newest : Int32) (known : Int32) (milks : Nat → Int32) (kinds : Nat → Int32) (fines : Nat → Int32) (mayBe : Int32) (bearer : Int32) (day : Int32) (draw : Int32) (p_mayBe : Int32) (p_lastMix : Int32) (p_cutCount : Int32) (p_lesser : Int32) (p_greater : Int32) (p_told : Nat → Int32) (x1 : Int32) (x2 : Int32) (post : Int32 → Int32 → Int32 → Int32 → Int32 → (Nat → Int32) → Prop) (hw : wp_X7_once cows tasters milks kinds fines mayBe day p_mayBe p_lastMix p_lesser p_greater p_told x1 x2 post) : Met l yX7_once wsX7_once ({ frames := 5, cells := 0, slots := 0, locals := 116 } : Room) (va_Pc [.ref x_xo, .int x1, .int x2] (xM D G sz [(x_xo, .inr (7, [.ref da, .ref k_da, .int x_isKept, .ref t_ta, .ref p_pl, .ref r_tr, .ref w_ro, .ref x_ash])), (da, .inr (0, [.ref ami, .int cows, .ref aki, .ref afi, .int tasters, .ref anw, .ref apa, .int newest, .int known])), (ami, .inl (G 0, 8, .inl milks)), (aki, .inl (G 0, 4, .inl kinds)), (afi, .inl (G 0, 4, .inl fines)), (anw, .inr (1, [.int mayBe, .int bearer, .int day, .int draw])), (p_pl, .inr (2, [.int p_mayBe, .int p_lastMix, .ref p_ato, .ref p_acu, .int p_cutCount, .ref p_aic, .ref p_ade, .int p_lesser, .int p_greater])), (p_ato, .inl (G 0, 256, .inl p_told))])) (va_Qi (fun r (u : Int32 × Int32 × Int32 × Int32 × (Nat → Int32)) => post r u.1 u.2.1 u.2.2.1 u.2.2.2.1 u.2.2.2.2) (fun u t => xE D G (va_A [(x_xo, .inr (7, [.ref da, .ref k_da, .int x_isKept, .ref t_ta, .ref p_pl, .ref r_tr, .ref w_ro, .ref x_ash])), (da, .inr (0, [.ref ami, .int cows, .ref aki, .ref afi, .int tasters, .ref anw, .ref apa, .int newest, .int known])), (ami, .inl (G 0, 8, .inl milks)), (aki, .inl (G 0, 4, .inl kinds)), (afi, .inl (G 0, 4, .inl fines)), (anw, .inr (1, [.int mayBe, .int bearer, .int day, .int draw])), (p_pl, .inr (2, [.int p_mayBe, .int p_lastMix, .ref p_ato, .ref p_acu, .int p_cutCount, .ref p_aic, .ref p_ade, .int p_lesser, .int p_greater])), (p_ato, .inl (G 0, 256, .inl p_told))] sz) [(x_xo, .inr (7, [.ref da, .ref k_da, .int x_isKept, .ref t_ta, .ref p_pl, .ref r_tr, .ref w_ro, .ref x_ash])), (da, .inr (0, [.ref ami, .int cows, .ref aki, .ref afi, .int tasters, .ref anw, .ref apa, .int newest, .int known])), (ami, .inl (G 0, 8, .inl milks)), (aki, .inl (G 0, 4, .inl kinds)), (afi, .inl (G 0, 4, .inl fines)), (anw, .inr (1, [.int mayBe, .int bearer, .int day, .int draw])), (p_pl, .inr (2, [.int u.1, .int u.2.1, .ref p_ato, .ref p_acu, .int p_cutCount, .ref p_aic, .ref p_ade, .int u.2.2.1, .int u.2.2.2.1])), (p_ato, .inl (G 0, 256, .inl (u.2.2.2.2)))] t) (va_A [(x_xo, .inr (7, [.ref da, .ref k_da, .int x_isKept, .ref t_ta, .ref p_pl, .ref r_tr, .ref w_ro, .ref x_ash])), (da, .inr (0, [.ref ami, .int cows, .ref aki, .ref afi, .int tasters, .ref anw, .ref apa, .int newest, .int known])), (ami, .inl (G 0, 8, .inl milks)), (aki, .inl (G 0, 4, .inl kinds)), (afi, .inl (G 0, 4, .inl fines)), (anw, .inr (1, [.int mayBe, .int bearer, .int day, .int draw])), (p_pl, .inr (2, [.int p_mayBe, .int p_lastMix, .ref p_ato, .ref p_acu, .int p_cutCount, .ref p_aic, .ref p_ade, .int p_lesser, .int p_greater])), (p_ato, .inl (G 0, 256, .inl p_told))] sz)) 0 0 (va_A [(x_xo, .inr (7, [.ref da, .ref k_da, .int x_isKept, .ref t_ta, .ref p_pl, .ref r_tr, .ref w_ro, .ref x_ash])), (da, .inr (0, [.ref ami, .int cows, .ref aki, .ref afi, .int tasters, .ref anw, .ref apa, .int newest, .int known])), (ami, .inl (G 0, 8, .inl milks)), (aki, .inl (G 0, 4, .inl kinds)), (afi, .inl (G 0, 4, .inl fines)), (anw, .inr (1, [.int mayBe, .int bearer, .int day, .int draw])), (p_pl, .inr (2, [.int p_mayBe, .int p_lastMix, .ref p_ato, .ref p_acu, .int p_cutCount, .ref p_aic, .ref p_ade, .int p_lesser, .int p_greater])), (p_ato, .inl (G 0, 256, .inl p_told))] sz) := by
  refine Met.ofW (cc := cX7_once) (maxL := 4) (ret := (some .int)) (by decide) rfl ?_
  intro p e s m args below meth c s₁ B hml hv
  obtain ⟨rfl, hsz, hP, hK, hD0⟩ := hv
  have hx := B.exec
  have hb := B.bytes
  have hr := B.returns
  have hts := atoms_spec (ws := wsX7_once) B.pre
  have hown : s.vm.findClass RX7 = some m.cls := findClass_of_methodNamed B.named
  have hlocks := B.notSynchronized
  subst hsz
  have hD := hD0.self (sz := s.heap.size)
  generalize hAe : va_A [(x_xo, .inr (7, [.ref da, .ref k_da, .int x_isKept, .ref t_ta, .ref p_pl, .ref r_tr, .ref w_ro, .ref x_ash])), (da, .inr (0, [.ref ami, .int cows, .ref aki, .ref afi, .int tasters, .ref anw, .ref apa, .int newest, .int known])), (ami, .inl (G 0, 8, .inl milks)), (aki, .inl (G 0, 4, .inl kinds)), (afi, .inl (G 0, 4, .inl fines)), (anw, .inr (1, [.int mayBe, .int bearer, .int day, .int draw])), (p_pl, .inr (2, [.int p_mayBe, .int p_lastMix, .ref p_ato, .ref p_acu, .int p_cutCount, .ref p_aic, .ref p_ade, .int p_lesser, .int p_greater])), (p_ato, .inl (G 0, 256, .inl p_told))] s.heap.size = A at hD ⊢
  have hA : ∀ q : Nat, s.heap.size ≤ q → A q := fun q h => by rw [← hAe]; exact Or.inr h
  have hS : va_S A s.heap s.heap [] := va_S.rf
  have inX2 : ∀ w ∈ wsX20, w ∈ wsX7_once := by decide +kernel
  have inX7 : ∀ w ∈ wsX70, w ∈ wsX7_once := by decide +kernel
  have fl33 := hts (.fieldLink RX7 33 "NewsCow" "plan" "LNewsCow$Plan;") (by decide +kernel)
  have fl12 := hts (.fieldLink RX7 12 "NewsCow" "dairy" "LNewsCow$Dairy;") (by decide +kernel)
  have fl182 := hts (.fieldLink RX7 182 "NewsCow$Plan" "greater" "I") (by decide +kernel)
  have fl179 := hts (.fieldLink RX7 179 "NewsCow$Plan" "lesser" "I") (by decide +kernel)
  have hl := lv_entry ([.ref x_xo, .int x1, .int x2] : List Value) (n := 4) (Nat.le_of_ble_eq_true rfl)
  rw [lg_entry_eq]
  generalize (lg_sl ([.ref x_xo, .int x1, .int x2] : List Value) ++ List.replicate (4 - (lg_sl ([.ref x_xo, .int x1, .int x2] : List Value)).length) Slot.unset).toArray = ls at hl ⊢
  have hl : lv_has ls 4 [(0, .ref x_xo), (1, .int x1), (2, .int x2)] := hl
  unfold wp_X7_once at hw
  refine lv_aload_n hx hb dX7_once_0 rfl (lv_at hl 0 rfl) ?_
  refine lv_iload_n hx hb dX7_once_1 rfl (lv_at hl 1 rfl) ?_
  refine vp_callSi (W.runV (As := [.int x1]) (rest := []) ⟨hx, hb, hml, hown, hts⟩ (c_X7_isTaster l D G x_xo da k_da t_ta p_pl r_tr w_ro x_ash ami aki afi anw apa x_isKept cows tasters newest known x1 _ hw) (cwV 1 hts gX7_once_X7_isTaster rfl rfl rfl (by decide +kernel) ⟨(Nat.le_of_ble_eq_true rfl), (Nat.le_of_ble_eq_true rfl)⟩) (xR_pv (hP.sub [0, 1] rfl) hK (va_recv hK hP (ci := 7) (q0 := 0) rfl rfl)) rfl rfl hl.1 rfl (lv_room (Nat.le_of_ble_eq_true rfl)) dX7_once_2 ⟨Nat.zero_le _, Nat.zero_le _⟩) (fun r1 hw => ?_)
  refine lv_if_eq (tgt := 13) hx hb dX7_once_5 (by decide) (fun c9 => ?_) (fun c9 => ?_)
  · replace hw := hw.1 c9
    refine lv_iconst (v := -1) hx hb dX7_once_13 (by decide) ?_
    exact W.iret hx hb hr (x_mi (u := (p_mayBe, p_lastMix, p_lesser, p_greater, p_told)) hP hK hD hS hw) hS.2.2 dX7_once_14
  · replace hw := hw.2 c9
    refine lv_iload_n hx hb dX7_once_8 rfl (lv_at hl 2 rfl) ?_
    refine lv_iconst (v := -1) hx hb dX7_once_9 (by decide) ?_
    refine lv_icmp_ge (tgt := 15) hx hb dX7_once_10 (by decide) (fun c9 => ?_) (fun c9 => ?_)
    · replace hw := hw.1 c9
      refine lv_aload_n hx hb dX7_once_15 rfl (lv_at hl 0 rfl) ?_
      refine va_get (D := D) (ci := 7) (v := .ref p_pl) (C := RX7) (T := TX7) (N := 8) hx hb hts inX7 hown hK hP 0 rfl rfl 4 (by decide) fl33 (fun _ h9 => h9) rfl dX7_once_16 ?_
      refine lv_aload_n hx hb dX7_once_19 rfl (lv_at hl 0 rfl) ?_
      refine va_get (D := D) (ci := 7) (v := .ref da) (C := RX7) (T := TX7) (N := 8) hx hb hts inX7 hown hK hP 0 rfl rfl 0 (by decide) fl12 (fun _ h9 => h9) rfl dX7_once_20 ?_
      refine lv_iload_n hx hb dX7_once_23 rfl (lv_at hl 1 rfl) ?_
      refine x_cMv (wr := [(x_xo, .inr (7, [.ref da, .ref k_da, .int x_isKept, .ref t_ta, .ref p_pl, .ref r_tr, .ref w_ro, .ref x_ash]))]) (va_runV (As := [.ref da, .int x1]) (rest := []) ⟨hx, hb, hml, hown, hts⟩ (c_X2_lookAhead l D G _ p_pl p_ato p_acu p_aic p_ade da ami aki afi anw apa p_mayBe p_lastMix p_cutCount p_lesser p_greater p_told cows tasters newest known milks kinds fines mayBe bearer day draw x1 _ hw) (cwV 2 hts gX7_once_X2_lookAhead rfl rfl rfl (by decide +kernel) ⟨(Nat.le_of_ble_eq_true rfl), (Nat.le_of_ble_eq_true rfl)⟩) (xM_pv (hP.sub [6, 7, 1, 2, 3, 4, 5] rfl) hK (hD.sub [6, 7, 1, 2, 3, 4, 5] (by decide) rfl) (va_recv hK hP (ci := 2) (q0 := 6) rfl rfl)) rfl rfl hl.1 rfl (lv_room (Nat.le_of_ble_eq_true rfl)) dX7_once_24 ⟨Nat.zero_le _, Nat.zero_le _⟩) hP hD hS hA [6, 7, 1, 2, 3, 4, 5] [0] rfl rfl (by decide) (by decide) [0, 3, 4, 5, 6, 7, 1, 2] (fun u => [(x_xo, .inr (7, [.ref da, .ref k_da, .int x_isKept, .ref t_ta, .ref p_pl, .ref r_tr, .ref w_ro, .ref x_ash])), (da, .inr (0, [.ref ami, .int cows, .ref aki, .ref afi, .int tasters, .ref anw, .ref apa, .int newest, .int known])), (ami, .inl (G 0, 8, .inl milks)), (aki, .inl (G 0, 4, .inl kinds)), (afi, .inl (G 0, 4, .inl fines)), (anw, .inr (1, [.int mayBe, .int bearer, .int day, .int draw])), (p_pl, .inr (2, [.int u.1, .int u.2.1, .ref p_ato, .ref p_acu, .int p_cutCount, .ref p_aic, .ref p_ade, .int p_lesser, .int p_greater])), (p_ato, .inl (G 0, 256, .inl (u.2.2)))]) (by decide) (fun u => rfl) (fun u H locs hw hP hD hS => ?_)
      obtain ⟨p_mayBe_2, p_lastMix_2, p_told_2⟩ := u
      try dsimp only at hw
      replace hP : va_P D vwCl [(x_xo, .inr (7, [.ref da, .ref k_da, .int x_isKept, .ref t_ta, .ref p_pl, .ref r_tr, .ref w_ro, .ref x_ash])), (da, .inr (0, [.ref ami, .int cows, .ref aki, .ref afi, .int tasters, .ref anw, .ref apa, .int newest, .int known])), (ami, .inl (G 0, 8, .inl milks)), (aki, .inl (G 0, 4, .inl kinds)), (afi, .inl (G 0, 4, .inl fines)), (anw, .inr (1, [.int mayBe, .int bearer, .int day, .int draw])), (p_pl, .inr (2, [.int p_mayBe_2, .int p_lastMix_2, .ref p_ato, .ref p_acu, .int p_cutCount, .ref p_aic, .ref p_ade, .int p_lesser, .int p_greater])), (p_ato, .inl (G 0, 256, .inl p_told_2))] H := hP
      replace hD : va_D A [(x_xo, .inr (7, [.ref da, .ref k_da, .int x_isKept, .ref t_ta, .ref p_pl, .ref r_tr, .ref w_ro, .ref x_ash])), (da, .inr (0, [.ref ami, .int cows, .ref aki, .ref afi, .int tasters, .ref anw, .ref apa, .int newest, .int known])), (ami, .inl (G 0, 8, .inl milks)), (aki, .inl (G 0, 4, .inl kinds)), (afi, .inl (G 0, 4, .inl fines)), (anw, .inr (1, [.int mayBe, .int bearer, .int day, .int draw])), (p_pl, .inr (2, [.int p_mayBe_2, .int p_lastMix_2, .ref p_ato, .ref p_acu, .int p_cutCount, .ref p_aic, .ref p_ade, .int p_lesser, .int p_greater])), (p_ato, .inl (G 0, 256, .inl p_told_2))] := hD
      refine lv_aload_n hx hb dX7_once_27 rfl (lv_at hl 0 rfl) ?_
      refine va_get (D := D) (ci := 7) (v := .ref p_pl) (C := RX7) (T := TX7) (N := 8) hx hb hts inX7 hown hK hP 0 rfl rfl 4 (by decide) fl33 (fun _ h9 => h9) rfl dX7_once_28 ?_
      refine x_cMi (wr := [(x_xo, .inr (7, [.ref da, .ref k_da, .int x_isKept, .ref t_ta, .ref p_pl, .ref r_tr, .ref w_ro, .ref x_ash])), (da, .inr (0, [.ref ami, .int cows, .ref aki, .ref afi, .int tasters, .ref anw, .ref apa, .int newest, .int known])), (ami, .inl (G 0, 8, .inl milks)), (aki, .inl (G 0, 4, .inl kinds)), (afi, .inl (G 0, 4, .inl fines)), (anw, .inr (1, [.int mayBe, .int bearer, .int day, .int draw]))]) (va_runV (As := []) (rest := []) ⟨hx, hb, hml, hown, hts⟩ (c_X2_chooseAhead l D G _ p_pl p_ato p_acu p_aic p_ade p_mayBe_2 p_lastMix_2 p_cutCount p_lesser p_greater p_told_2 _ hw) (cwV 0 hts gX7_once_X2_chooseAhead rfl rfl rfl (by decide +kernel) ⟨(Nat.le_of_ble_eq_true rfl), (Nat.le_of_ble_eq_true rfl)⟩) (xM_pv (hP.sub [6, 7] rfl) hK (hD.sub [6, 7] (by decide) rfl) (va_recv hK hP (ci := 2) (q0 := 6) rfl rfl)) rfl rfl hl.1 rfl (lv_room (Nat.le_of_ble_eq_true rfl)) dX7_once_31 ⟨Nat.zero_le _, Nat.zero_le _⟩) hP hD hS hA [6, 7] [0, 1, 2, 3, 4, 5] rfl rfl (by decide) (by decide) [0, 1, 2, 3, 4, 5, 6, 7] (fun u => [(x_xo, .inr (7, [.ref da, .ref k_da, .int x_isKept, .ref t_ta, .ref p_pl, .ref r_tr, .ref w_ro, .ref x_ash])), (da, .inr (0, [.ref ami, .int cows, .ref aki, .ref afi, .int tasters, .ref anw, .ref apa, .int newest, .int known])), (ami, .inl (G 0, 8, .inl milks)), (aki, .inl (G 0, 4, .inl kinds)), (afi, .inl (G 0, 4, .inl fines)), (anw, .inr (1, [.int mayBe, .int bearer, .int day, .int draw])), (p_pl, .inr (2, [.int p_mayBe_2, .int p_lastMix_2, .ref p_ato, .ref p_acu, .int p_cutCount, .ref p_aic, .ref p_ade, .int u.1, .int u.2])), (p_ato, .inl (G 0, 256, .inl p_told_2))]) (by decide) (fun u => rfl) (fun r3 u H locs hw hP hD hS => ?_)
      obtain ⟨p_lesser_3, p_greater_3⟩ := u
      try dsimp only at hw
      replace hP : va_P D vwCl [(x_xo, .inr (7, [.ref da, .ref k_da, .int x_isKept, .ref t_ta, .ref p_pl, .ref r_tr, .ref w_ro, .ref x_ash])), (da, .inr (0, [.ref ami, .int cows, .ref aki, .ref afi, .int tasters, .ref anw, .ref apa, .int newest, .int known])), (ami, .inl (G 0, 8, .inl milks)), (aki, .inl (G 0, 4, .inl kinds)), (afi, .inl (G 0, 4, .inl fines)), (anw, .inr (1, [.int mayBe, .int bearer, .int day, .int draw])), (p_pl, .inr (2, [.int p_mayBe_2, .int p_lastMix_2, .ref p_ato, .ref p_acu, .int p_cutCount, .ref p_aic, .ref p_ade, .int p_lesser_3, .int p_greater_3])), (p_ato, .inl (G 0, 256, .inl p_told_2))] H := hP
      replace hD : va_D A [(x_xo, .inr (7, [.ref da, .ref k_da, .int x_isKept, .ref t_ta, .ref p_pl, .ref r_tr, .ref w_ro, .ref x_ash])), (da, .inr (0, [.ref ami, .int cows, .ref aki, .ref afi, .int tasters, .ref anw, .ref apa, .int newest, .int known])), (ami, .inl (G 0, 8, .inl milks)), (aki, .inl (G 0, 4, .inl kinds)), (afi, .inl (G 0, 4, .inl fines)), (anw, .inr (1, [.int mayBe, .int bearer, .int day, .int draw])), (p_pl, .inr (2, [.int p_mayBe_2, .int p_lastMix_2, .ref p_ato, .ref p_acu, .int p_cutCount, .ref p_aic, .ref p_ade, .int p_lesser_3, .int p_greater_3])), (p_ato, .inl (G 0, 256, .inl p_told_2))] := hD
      refine lv_istore_n (lv' := [(3, .int r3), (0, .ref x_xo), (1, .int x1), (2, .int x2)]) hx hb dX7_once_34 rfl hl (by decide) rfl (fun ls hl => ?_)
      refine lv_iload_n hx hb dX7_once_35 rfl (lv_at hl 3 rfl) ?_
      refine lv_iconst (v := -1) hx hb dX7_once_36 (by decide) ?_
      refine lv_icmp_eq (tgt := 46) hx hb dX7_once_37 (by decide) (fun c9 => ?_) (fun c9 => ?_)
      · replace hw := hw.1 c9
        refine lv_iload_n hx hb dX7_once_46 rfl (lv_at hl 0 rfl) ?_
        exact W.iret hx hb hr (x_mi (u := (p_mayBe_2, p_lastMix_2, p_lesser_3, p_greater_3, p_told_2)) hP hK hD hS hw) hS.2.2 dX7_once_47
      · replace hw := hw.2 c9
        refine lv_iload_n hx hb dX7_once_40 rfl (lv_at hl 0 rfl) ?_
        refine lv_bipush (v := -4) hx hb dX7_once_41 (by decide) ?_
        refine lv_icmp_ne (tgt := 48) hx hb dX7_once_43 (by decide) (fun c9 => ?_) (fun c9 => ?_)
        · replace hw := hw.1 c9
          refine lv_iload_n hx hb dX7_once_48 rfl (lv_at hl 3 rfl) ?_
          refine lv_iload_n hx hb dX7_once_49 rfl (lv_at hl 0 rfl) ?_
          refine lv_icmp_lt (tgt := 58) hx hb dX7_once_50 (by decide) (fun c9 => ?_) (fun c9 => ?_)
          · replace hw := hw.1 c9
            refine lv_iload_n hx hb dX7_once_58 rfl (lv_at hl 3 rfl) ?_
            refine lv_if_ne (tgt := 72) hx hb dX7_once_59 (by decide) (fun c9 => ?_) (fun c9 => ?_)
            · replace hw := hw.1 c9
              refine lv_aload_n hx hb dX7_once_72 rfl (lv_at hl 1 rfl) ?_
              refine va_get (D := D) (ci := 7) (v := .ref p_pl) (C := RX7) (T := TX7) (N := 8) hx hb hts inX7 hown hK hP 0 rfl rfl 4 (by decide) fl33 (fun _ h9 => h9) rfl dX7_once_73 ?_
              refine va_get (D := D) (ci := 2) (v := .int p_greater_3) (C := RX2) (T := TX2) (N := 9) hx hb hts inX2 hown hK hP 6 rfl rfl 8 (by decide) fl182 (fun _ h9 => h9) rfl dX7_once_76 ?_
              exact W.iret hx hb hr (x_mi (u := (p_mayBe_2, p_lastMix_2, p_lesser_3, p_greater_3, p_told_2)) hP hK hD hS hw) hS.2.2 dX7_once_79
            · replace hw := hw.2 c9
              refine lv_aload_n hx hb dX7_once_62 rfl (lv_at hl 1 rfl) ?_
              refine va_get (D := D) (ci := 7) (v := .ref p_pl) (C := RX7) (T := TX7) (N := 8) hx hb hts inX7 hown hK hP 0 rfl rfl 4 (by decide) fl33 (fun _ h9 => h9) rfl dX7_once_63 ?_
              refine va_get (D := D) (ci := 2) (v := .int p_lesser_3) (C := RX2) (T := TX2) (N := 9) hx hb hts inX2 hown hK hP 6 rfl rfl 7 (by decide) fl179 (fun _ h9 => h9) rfl dX7_once_66 ?_
              refine lv_goto (tgt := 79) hx hb dX7_once_69 (by decide) ?_
              exact W.iret hx hb hr (x_mi (u := (p_mayBe_2, p_lastMix_2, p_lesser_3, p_greater_3, p_told_2)) hP hK hD hS hw) hS.2.2 dX7_once_79
          · replace hw := hw.2 c9
            refine lv_bipush (v := -4) hx hb dX7_once_53 (by decide) ?_
            refine lv_goto (tgt := 79) hx hb dX7_once_55 (by decide) ?_
            exact W.iret hx hb hr (x_mi (u := (p_mayBe_2, p_lastMix_2, p_lesser_3, p_greater_3, p_told_2)) hP hK hD hS hw) hS.2.2 dX7_once_79
        · replace hw := hw.2 c9
          refine lv_iload_n hx hb dX7_once_46 rfl (lv_at hl 0 rfl) ?_
          exact W.iret hx hb hr (x_mi (u := (p_mayBe_2, p_lastMix_2, p_lesser_3, p_greater_3, p_told_2)) hP hK hD hS hw) hS.2.2 dX7_once_47
    · replace hw := hw.2 c9
      refine lv_iconst (v := -1) hx hb dX7_once_13 (by decide) ?_
      exact W.iret hx hb hr (x_mi (u := (p_mayBe, p_lastMix, p_lesser, p_greater, p_told)) hP hK hD hS hw) hS.2.2 dX7_once_14
set_option maxHeartbeats 4000000 in
set_option maxRecDepth 100000 in
theorem c_X7_halves (l : Launch) (D : va_G) (G : Nat → ClassId) (sz : Nat) (x_xo : Nat) (da : Nat) (k_da : Nat) (t_ta : Nat) (p_pl : Nat) (r_tr : Nat) (w_ro : Nat) (x_ash : Nat) (ami : Nat) (aki : Nat) (afi : Nat) (anw : Nat) (apa : Nat) (p_ato : Nat) (p_acu : Nat) (p_aic : Nat) (p_ade : Nat) (x_isKept : Int32) (cows : Int32) (tasters : Int32) (newest : Int32) (known : Int32) (milks : Nat → Int32) (kinds : Nat → Int32) (fines : Nat → Int32) (mayBe : Int32) (bearer : Int32) (day : Int32) (draw : Int32) (p_mayBe : Int32) (p_lastMix : Int32) (p_cutCount : Int32) (p_lesser : Int32) (p_greater : Int32) (p_told : Nat → Int32) (x1 : Int32) (x2 : Int32) (post : Int32 → Int32 → Int32 → (Nat → Int32) → Prop) (hw : wp_X7_halves cows tasters milks kinds fines mayBe day p_mayBe p_lastMix p_told x1 x2 post) : Met l yX7_halves wsX7_halves ({ frames := 5, cells := 0, slots := 0, locals := 116 } : Room) (va_Pc [.ref x_xo, .int x1, .int x2] (xM D G sz [(x_xo, .inr (7, [.ref da, .ref k_da, .int x_isKept, .ref t_ta, .ref p_pl, .ref r_tr, .ref w_ro, .ref x_ash])), (da, .inr (0, [.ref ami, .int cows, .ref aki, .ref afi, .int tasters, .ref anw, .ref apa, .int newest, .int known])), (ami, .inl (G 0, 8, .inl milks)), (aki, .inl (G 0, 4, .inl kinds)), (afi, .inl (G 0, 4, .inl fines)), (anw, .inr (1, [.int mayBe, .int bearer, .int day, .int draw])), (p_pl, .inr (2, [.int p_mayBe, .int p_lastMix, .ref p_ato, .ref p_acu, .int p_cutCount, .ref p_aic, .ref p_ade, .int p_lesser, .int p_greater])), (p_ato, .inl (G 0, 256, .inl p_told))])) (va_Qi (fun r (u : Int32 × Int32 × (Nat → Int32)) => post r u.1 u.2.1 u.2.2) (fun u t => xE D G (va_A [(x_xo, .inr (7, [.ref da, .ref k_da, .int x_isKept, .ref t_ta, .ref p_pl, .ref r_tr, .ref w_ro, .ref x_ash])), (da, .inr (0, [.ref ami, .int cows, .ref aki, .ref afi, .int tasters, .ref anw, .ref apa, .int newest, .int known])), (ami, .inl (G 0, 8, .inl milks)), (aki, .inl (G 0, 4, .inl kinds)), (afi, .inl (G 0, 4, .inl fines)), (anw, .inr (1, [.int mayBe, .int bearer, .int day, .int draw])), (p_pl, .inr (2, [.int p_mayBe, .int p_lastMix, .ref p_ato, .ref p_acu, .int p_cutCount, .ref p_aic, .ref p_ade, .int p_lesser, .int p_greater])), (p_ato, .inl (G 0, 256, .inl p_told))] sz) [(x_xo, .inr (7, [.ref da, .ref k_da, .int x_isKept, .ref t_ta, .ref p_pl, .ref r_tr, .ref w_ro, .ref x_ash])), (da, .inr (0, [.ref ami, .int cows, .ref aki, .ref afi, .int tasters, .ref anw, .ref apa, .int newest, .int known])), (ami, .inl (G 0, 8, .inl milks)), (aki, .inl (G 0, 4, .inl kinds)), (afi, .inl (G 0, 4, .inl fines)), (anw, .inr (1, [.int mayBe, .int bearer, .int day, .int draw])), (p_pl, .inr (2, [.int u.1, .int u.2.1, .ref p_ato, .ref p_acu, .int p_cutCount, .ref p_aic, .ref p_ade, .int p_lesser, .int p_greater])), (p_ato, .inl (G 0, 256, .inl (u.2.2)))] t) (va_A [(x_xo, .inr (7, [.ref da, .ref k_da, .int x_isKept, .ref t_ta, .ref p_pl, .ref r_tr, .ref w_ro, .ref x_ash])), (da, .inr (0, [.ref ami, .int cows, .ref aki, .ref afi, .int tasters, .ref anw, .ref apa, .int newest, .int known])), (ami, .inl (G 0, 8, .inl milks)), (aki, .inl (G 0, 4, .inl kinds)), (afi, .inl (G 0, 4, .inl fines)), (anw, .inr (1, [.int mayBe, .int bearer, .int day, .int draw])), (p_pl, .inr (2, [.int p_mayBe, .int p_lastMix, .ref p_ato, .ref p_acu, .int p_cutCount, .ref p_aic, .ref p_ade, .int p_lesser, .int p_greater])), (p_ato, .inl (G 0, 256, .inl p_told))] sz)) 0 0 (va_A [(x_xo, .inr (7, [.ref da, .ref k_da, .int x_isKept, .ref t_ta, .ref p_pl, .ref r_tr, .ref w_ro, .ref x_ash])), (da, .inr (0, [.ref ami, .int cows, .ref aki, .ref afi, .int tasters, .ref anw, .ref apa, .int newest, .int known])), (ami, .inl (G 0, 8, .inl milks)), (aki, .inl (G 0, 4, .inl kinds)), (afi, .inl (G 0, 4, .inl fines)), (anw, .inr (1, [.int mayBe, .int bearer, .int day, .int draw])), (p_pl, .inr (2, [.int p_mayBe, .int p_lastMix, .ref p_ato, .ref p_acu, .int p_cutCount, .ref p_aic, .ref p_ade, .int p_lesser, .int p_greater])), (p_ato, .inl (G 0, 256, .inl p_told))] sz) := by
  refine Met.ofW (cc := cX7_halves) (maxL := 4) (ret := (some .int)) (by decide) rfl ?_
  intro p e s m args below meth c s₁ B hml hv
  obtain ⟨rfl, hsz, hP, hK, hD0⟩ := hv
  have hx := B.exec
  have hb := B.bytes
  have hr := B.returns
  have hts := atoms_spec (ws := wsX7_halves) B.pre
  have hown : s.vm.findClass RX7 = some m.cls := findClass_of_methodNamed B.named
  have hlocks := B.notSynchronized
  subst hsz
  have hD := hD0.self (sz := s.heap.size)
  generalize hAe : va_A [(x_xo, .inr (7, [.ref da, .ref k_da, .int x_isKept, .ref t_ta, .ref p_pl, .ref r_tr, .ref w_ro, .ref x_ash])), (da, .inr (0, [.ref ami, .int cows, .ref aki, .ref afi, .int tasters, .ref anw, .ref apa, .int newest, .int known])), (ami, .inl (G 0, 8, .inl milks)), (aki, .inl (G 0, 4, .inl kinds)), (afi, .inl (G 0, 4, .inl fines)), (anw, .inr (1, [.int mayBe, .int bearer, .int day, .int draw])), (p_pl, .inr (2, [.int p_mayBe, .int p_lastMix, .ref p_ato, .ref p_acu, .int p_cutCount, .ref p_aic, .ref p_ade, .int p_lesser, .int p_greater])), (p_ato, .inl (G 0, 256, .inl p_told))] s.heap.size = A at hD ⊢
  have hA : ∀ q : Nat, s.heap.size ≤ q → A q := fun q h => by rw [← hAe]; exact Or.inr h
  have hS : va_S A s.heap s.heap [] := va_S.rf
  have inX7 : ∀ w ∈ wsX70, w ∈ wsX7_halves := by decide +kernel
  have fl33 := hts (.fieldLink RX7 33 "NewsCow" "plan" "LNewsCow$Plan;") (by decide +kernel)
  have fl12 := hts (.fieldLink RX7 12 "NewsCow" "dairy" "LNewsCow$Dairy;") (by decide +kernel)
  have hl := lv_entry ([.ref x_xo, .int x1, .int x2] : List Value) (n := 4) (Nat.le_of_ble_eq_true rfl)
  rw [lg_entry_eq]
  generalize (lg_sl ([.ref x_xo, .int x1, .int x2] : List Value) ++ List.replicate (4 - (lg_sl ([.ref x_xo, .int x1, .int x2] : List Value)).length) Slot.unset).toArray = ls at hl ⊢
  have hl : lv_has ls 4 [(0, .ref x_xo), (1, .int x1), (2, .int x2)] := hl
  unfold wp_X7_halves at hw
  refine lv_aload_n hx hb dX7_halves_0 rfl (lv_at hl 0 rfl) ?_
  refine lv_iload_n hx hb dX7_halves_1 rfl (lv_at hl 1 rfl) ?_
  refine vp_callSi (W.runV (As := [.int x1]) (rest := []) ⟨hx, hb, hml, hown, hts⟩ (c_X7_isTaster l D G x_xo da k_da t_ta p_pl r_tr w_ro x_ash ami aki afi anw apa x_isKept cows tasters newest known x1 _ hw) (cwV 1 hts gX7_halves_X7_isTaster rfl rfl rfl (by decide +kernel) ⟨(Nat.le_of_ble_eq_true rfl), (Nat.le_of_ble_eq_true rfl)⟩) (xR_pv (hP.sub [0, 1] rfl) hK (va_recv hK hP (ci := 7) (q0 := 0) rfl rfl)) rfl rfl hl.1 rfl (lv_room (Nat.le_of_ble_eq_true rfl)) dX7_halves_2 ⟨Nat.zero_le _, Nat.zero_le _⟩) (fun r1 hw => ?_)
  refine lv_if_eq (tgt := 15) hx hb dX7_halves_5 (by decide) (fun c9 => ?_) (fun c9 => ?_)
  · replace hw := hw.1 c9
    refine lv_iconst (v := -1) hx hb dX7_halves_15 (by decide) ?_
    exact W.iret hx hb hr (x_mi (u := (p_mayBe, p_lastMix, p_told)) hP hK hD hS hw) hS.2.2 dX7_halves_16
  · replace hw := hw.2 c9
    refine lv_iload_n hx hb dX7_halves_8 rfl (lv_at hl 2 rfl) ?_
    refine vp_callSi (W.runS (As := [.int x2]) (rest := []) ⟨hx, hb, hml, hown, hts⟩ (c_X7_isEither l D G x2 _ hw) (va_cwS 1 hts gX7_halves_X7_isEither rfl rfl rfl (by decide +kernel) ⟨(Nat.le_of_ble_eq_true rfl), (Nat.le_of_ble_eq_true rfl)⟩) (xR_ps (hP.sub [] rfl) hK) rfl rfl hl.1 rfl (lv_room (Nat.le_of_ble_eq_true rfl)) dX7_halves_9 ⟨Nat.zero_le _, Nat.zero_le _⟩) (fun r2 hw => ?_)
    refine lv_if_ne (tgt := 17) hx hb dX7_halves_12 (by decide) (fun c9 => ?_) (fun c9 => ?_)
    · replace hw := hw.1 c9
      refine lv_aload_n hx hb dX7_halves_17 rfl (lv_at hl 0 rfl) ?_
      refine va_get (D := D) (ci := 7) (v := .ref p_pl) (C := RX7) (T := TX7) (N := 8) hx hb hts inX7 hown hK hP 0 rfl rfl 4 (by decide) fl33 (fun _ h9 => h9) rfl dX7_halves_18 ?_
      refine lv_aload_n hx hb dX7_halves_21 rfl (lv_at hl 0 rfl) ?_
      refine va_get (D := D) (ci := 7) (v := .ref da) (C := RX7) (T := TX7) (N := 8) hx hb hts inX7 hown hK hP 0 rfl rfl 0 (by decide) fl12 (fun _ h9 => h9) rfl dX7_halves_22 ?_
      refine lv_iload_n hx hb dX7_halves_25 rfl (lv_at hl 1 rfl) ?_
      refine x_cMv (wr := [(x_xo, .inr (7, [.ref da, .ref k_da, .int x_isKept, .ref t_ta, .ref p_pl, .ref r_tr, .ref w_ro, .ref x_ash]))]) (va_runV (As := [.ref da, .int x1]) (rest := []) ⟨hx, hb, hml, hown, hts⟩ (c_X2_lookAhead l D G _ p_pl p_ato p_acu p_aic p_ade da ami aki afi anw apa p_mayBe p_lastMix p_cutCount p_lesser p_greater p_told cows tasters newest known milks kinds fines mayBe bearer day draw x1 _ hw) (cwV 2 hts gX7_halves_X2_lookAhead rfl rfl rfl (by decide +kernel) ⟨(Nat.le_of_ble_eq_true rfl), (Nat.le_of_ble_eq_true rfl)⟩) (xM_pv (hP.sub [6, 7, 1, 2, 3, 4, 5] rfl) hK (hD.sub [6, 7, 1, 2, 3, 4, 5] (by decide) rfl) (va_recv hK hP (ci := 2) (q0 := 6) rfl rfl)) rfl rfl hl.1 rfl (lv_room (Nat.le_of_ble_eq_true rfl)) dX7_halves_26 ⟨Nat.zero_le _, Nat.zero_le _⟩) hP hD hS hA [6, 7, 1, 2, 3, 4, 5] [0] rfl rfl (by decide) (by decide) [0, 3, 4, 5, 6, 7, 1, 2] (fun u => [(x_xo, .inr (7, [.ref da, .ref k_da, .int x_isKept, .ref t_ta, .ref p_pl, .ref r_tr, .ref w_ro, .ref x_ash])), (da, .inr (0, [.ref ami, .int cows, .ref aki, .ref afi, .int tasters, .ref anw, .ref apa, .int newest, .int known])), (ami, .inl (G 0, 8, .inl milks)), (aki, .inl (G 0, 4, .inl kinds)), (afi, .inl (G 0, 4, .inl fines)), (anw, .inr (1, [.int mayBe, .int bearer, .int day, .int draw])), (p_pl, .inr (2, [.int u.1, .int u.2.1, .ref p_ato, .ref p_acu, .int p_cutCount, .ref p_aic, .ref p_ade, .int p_lesser, .int p_greater])), (p_ato, .inl (G 0, 256, .inl (u.2.2)))]) (by decide) (fun u => rfl) (fun u H locs hw hP hD hS => ?_)
      obtain ⟨p_mayBe_3, p_lastMix_3, p_told_3⟩ := u
      try dsimp only at hw
      replace hP : va_P D vwCl [(x_xo, .inr (7, [.ref da, .ref k_da, .int x_isKept, .ref t_ta, .ref p_pl, .ref r_tr, .ref w_ro, .ref x_ash])), (da, .inr (0, [.ref ami, .int cows, .ref aki, .ref afi, .int tasters, .ref anw, .ref apa, .int newest, .int known])), (ami, .inl (G 0, 8, .inl milks)), (aki, .inl (G 0, 4, .inl kinds)), (afi, .inl (G 0, 4, .inl fines)), (anw, .inr (1, [.int mayBe, .int bearer, .int day, .int draw])), (p_pl, .inr (2, [.int p_mayBe_3, .int p_lastMix_3, .ref p_ato, .ref p_acu, .int p_cutCount, .ref p_aic, .ref p_ade, .int p_lesser, .int p_greater])), (p_ato, .inl (G 0, 256, .inl p_told_3))] H := hP
      replace hD : va_D A [(x_xo, .inr (7, [.ref da, .ref k_da, .int x_isKept, .ref t_ta, .ref p_pl, .ref r_tr, .ref w_ro, .ref x_ash])), (da, .inr (0, [.ref ami, .int cows, .ref aki, .ref afi, .int tasters, .ref anw, .ref apa, .int newest, .int known])), (ami, .inl (G 0, 8, .inl milks)), (aki, .inl (G 0, 4, .inl kinds)), (afi, .inl (G 0, 4, .inl fines)), (anw, .inr (1, [.int mayBe, .int bearer, .int day, .int draw])), (p_pl, .inr (2, [.int p_mayBe_3, .int p_lastMix_3, .ref p_ato, .ref p_acu, .int p_cutCount, .ref p_aic, .ref p_ade, .int p_lesser, .int p_greater])), (p_ato, .inl (G 0, 256, .inl p_told_3))] := hD
      refine lv_aload_n hx hb dX7_halves_29 rfl (lv_at hl 0 rfl) ?_
      refine va_get (D := D) (ci := 7) (v := .ref p_pl) (C := RX7) (T := TX7) (N := 8) hx hb hts inX7 hown hK hP 0 rfl rfl 4 (by decide) fl33 (fun _ h9 => h9) rfl dX7_halves_30 ?_
      refine vp_callSi (W.runV (As := []) (rest := []) ⟨hx, hb, hml, hown, hts⟩ (c_X2_evenestMix l D G p_pl p_ato p_acu p_aic p_ade p_mayBe_3 p_lastMix_3 p_cutCount p_lesser p_greater p_told_3 _ hw) (cwV 0 hts gX7_halves_X2_evenestMix rfl rfl rfl (by decide +kernel) ⟨(Nat.le_of_ble_eq_true rfl), (Nat.le_of_ble_eq_true rfl)⟩) (xR_pv (hP.sub [6, 7] rfl) hK (va_recv hK hP (ci := 2) (q0 := 6) rfl rfl)) rfl rfl hl.1 rfl (lv_room (Nat.le_of_ble_eq_true rfl)) dX7_halves_33 ⟨Nat.zero_le _, Nat.zero_le _⟩) (fun r4 hw => ?_)
      refine lv_istore_n (lv' := [(3, .int r4), (0, .ref x_xo), (1, .int x1), (2, .int x2)]) hx hb dX7_halves_36 rfl hl (by decide) rfl (fun ls hl => ?_)
      refine lv_iload_n hx hb dX7_halves_37 rfl (lv_at hl 0 rfl) ?_
      refine lv_bipush (v := -4) hx hb dX7_halves_38 (by decide) ?_
      refine lv_icmp_eq (tgt := 47) hx hb dX7_halves_40 (by decide) (fun c9 => ?_) (fun c9 => ?_)
      · replace hw := hw.1 c9
        refine lv_iload_n hx hb dX7_halves_47 rfl (lv_at hl 0 rfl) ?_
        refine lv_goto (tgt := 59) hx hb dX7_halves_48 (by decide) ?_
        exact W.iret hx hb hr (x_mi (u := (p_mayBe_3, p_lastMix_3, p_told_3)) hP hK hD hS hw) hS.2.2 dX7_halves_59
      · replace hw := hw.2 c9
        refine lv_iload_n hx hb dX7_halves_43 rfl (lv_at hl 3 rfl) ?_
        refine lv_if_ne (tgt := 51) hx hb dX7_halves_44 (by decide) (fun c9 => ?_) (fun c9 => ?_)
        · replace hw := hw.1 c9
          refine lv_aload_n hx hb dX7_halves_51 rfl (lv_at hl 1 rfl) ?_
          refine va_get (D := D) (ci := 7) (v := .ref p_pl) (C := RX7) (T := TX7) (N := 8) hx hb hts inX7 hown hK hP 0 rfl rfl 4 (by decide) fl33 (fun _ h9 => h9) rfl dX7_halves_52 ?_
          refine lv_iload_n hx hb dX7_halves_55 rfl (lv_at hl 0 rfl) ?_
          refine vp_callSi (W.runV (As := [.int r4]) (rest := []) ⟨hx, hb, hml, hown, hts⟩ (c_X2_greaterPart l D G p_pl p_ato p_acu p_aic p_ade p_mayBe_3 p_lastMix_3 p_cutCount p_lesser p_greater p_told_3 r4 _ hw) (cwV 1 hts gX7_halves_X2_greaterPart rfl rfl rfl (by decide +kernel) ⟨(Nat.le_of_ble_eq_true rfl), (Nat.le_of_ble_eq_true rfl)⟩) (xR_pv (hP.sub [6, 7] rfl) hK (va_recv hK hP (ci := 2) (q0 := 6) rfl rfl)) rfl rfl hl.1 rfl (lv_room (Nat.le_of_ble_eq_true rfl)) dX7_halves_56 ⟨Nat.zero_le _, Nat.zero_le _⟩) (fun r5 hw => ?_)
          exact W.iret hx hb hr (x_mi (u := (p_mayBe_3, p_lastMix_3, p_told_3)) hP hK hD hS hw) hS.2.2 dX7_halves_59
        · replace hw := hw.2 c9
          refine lv_iload_n hx hb dX7_halves_47 rfl (lv_at hl 0 rfl) ?_
          refine lv_goto (tgt := 59) hx hb dX7_halves_48 (by decide) ?_
          exact W.iret hx hb hr (x_mi (u := (p_mayBe_3, p_lastMix_3, p_told_3)) hP hK hD hS hw) hS.2.2 dX7_halves_59
    · replace hw := hw.2 c9
      refine lv_iconst (v := -1) hx hb dX7_halves_15 (by decide) ?_
      exact W.iret hx hb hr (x_mi (u := (p_mayBe, p_lastMix, p_told)) hP hK hD hS hw) hS.2.2 dX7_halves_16
set_option maxHeartbeats 4000000 in
set_option maxRecDepth 100000 in
theorem c_X7_greatestDivisor (l : Launch) (D : va_G) (G : Nat → ClassId) (x0 : Int64) (x2 : Int64) (post : Int64 → Prop) (hw : wp_X7_greatestDivisor x0 x2 post) : Met l yX7_greatestDivisor wsX7_greatestDivisor ({ frames := 1, cells := 0, slots := 0, locals := 23 } : Room) (va_Pc [.long x0, .long x2] (xR D G [])) (vp_Sl post) 0 0 (fun _ => False) := by
  refine Met.ofW (cc := cX7_greatestDivisor) (maxL := 11) (ret := (some .long)) (by decide) rfl ?_
  intro p e s m args below meth c s₁ B hml hv
  obtain ⟨rfl, hP, hK⟩ := hv
  have hx := B.exec
  have hb := B.bytes
  have hr := B.returns
  have hts := atoms_spec (ws := wsX7_greatestDivisor) B.pre
  have hown : s.vm.findClass RX7 = some m.cls := findClass_of_methodNamed B.named
  have hlocks := B.notSynchronized
  have hl := lv_entry ([.long x0, .long x2] : List Value) (n := 11) (Nat.le_of_ble_eq_true rfl)
  rw [lg_entry_eq]
  generalize (lg_sl ([.long x0, .long x2] : List Value) ++ List.replicate (11 - (lg_sl ([.long x0, .long x2] : List Value)).length) Slot.unset).toArray = ls at hl ⊢
  have hl : lv_has ls 11 [(0, .long x0), (2, .long x2)] := hl
  unfold wp_X7_greatestDivisor at hw
  have L9 : ∀ (f9 : Nat) (x4 : Int64) (x6 : Int64) (x8 : Int32) (ls : Array Slot), wp_X7_greatestDivisor_L9 post f9 x4 x6 x8 → lv_has ls 11 [(4, .long x4), (6, .long x6), (8, .int x8)] → W p l e (headSpec wsX7_greatestDivisor ({ frames := 1, cells := 0, slots := 0, locals := 23 } : Room)).room s m ([.long x0, .long x2] : List Value).toArray below meth c s.heap [] 0 0 (MQ below (vp_Sl post) ([.long x0, .long x2] : List Value).toArray s 0 0 (fun _ => False)) (F0 m 9 ls []) := by
    intro f9
    induction f9 with
    | zero => intro x4 x6 x8 ls hw hl; exact (hw : False).elim
    | succ f9 ih9 =>
      intro x4 x6 x8 ls hw hl
      unfold wp_X7_greatestDivisor_L9 at hw
      refine lv_iload hx hb dX7_greatestDivisor_9 (lv_at hl 2 rfl) ?_
      refine lv_bipush (v := 100) hx hb dX7_greatestDivisor_11 (by decide) ?_
      refine lv_icmp_ge (tgt := 44) hx hb dX7_greatestDivisor_13 (by decide) (fun c9 => ?_) (fun c9 => ?_)
      · replace hw := hw.1 c9
        refine lv_lconst (v := 1) hx hb dX7_greatestDivisor_44 (by decide) ?_
        refine lv_lload hx hb dX7_greatestDivisor_45 (lv_at hl 0 rfl) ?_
        refine va_mmax_long hx hb (hml.trans hl.1.symm) hown (hts (.methodLink RX7 282 Lib.MathLoose.max_long.x) (by decide +kernel)) (hts (.static Lib.MathLoose.max_long.x) (by decide +kernel)) (hts (.initialized "java/lang/Math") (by decide +kernel)) (hts (.code Lib.MathLoose.max_long.x Lib.MathLoose.max_long.code 4 (some .long)) (by decide +kernel)) (Nat.le_of_ble_eq_true rfl) (Nat.le_of_ble_eq_true rfl) (Nat.zero_le _) (Nat.zero_le _) dX7_greatestDivisor_47 ?_
        exact W.lret hx hb hr (fun t ht _ => ⟨_, rfl, hw, ht⟩) (fun _ h => absurd h List.not_mem_nil) dX7_greatestDivisor_50
      · replace hw := hw.2 c9
        refine lv_lload hx hb dX7_greatestDivisor_16 (lv_at hl 1 rfl) ?_
        refine lv_lconst (v := 0) hx hb dX7_greatestDivisor_18 (by decide) ?_
        refine W.lcmp hx hb dX7_greatestDivisor_19 ?_
        refine lv_if_eq (tgt := 44) hx hb dX7_greatestDivisor_20 (by decide) (fun c9 => ?_) (fun c9 => ?_)
        · replace hw := hw.1 c9
          refine lv_lconst (v := 1) hx hb dX7_greatestDivisor_44 (by decide) ?_
          refine lv_lload hx hb dX7_greatestDivisor_45 (lv_at hl 0 rfl) ?_
          refine va_mmax_long hx hb (hml.trans hl.1.symm) hown (hts (.methodLink RX7 282 Lib.MathLoose.max_long.x) (by decide +kernel)) (hts (.static Lib.MathLoose.max_long.x) (by decide +kernel)) (hts (.initialized "java/lang/Math") (by decide +kernel)) (hts (.code Lib.MathLoose.max_long.x Lib.MathLoose.max_long.code 4 (some .long)) (by decide +kernel)) (Nat.le_of_ble_eq_true rfl) (Nat.le_of_ble_eq_true rfl) (Nat.zero_le _) (Nat.zero_le _) dX7_greatestDivisor_47 ?_
          exact W.lret hx hb hr (fun t ht _ => ⟨_, rfl, hw, ht⟩) (fun _ h => absurd h List.not_mem_nil) dX7_greatestDivisor_50
        · replace hw := hw.2 c9
          refine lv_lload hx hb dX7_greatestDivisor_23 (lv_at hl 0 rfl) ?_
          refine lv_lload hx hb dX7_greatestDivisor_25 (lv_at hl 1 rfl) ?_
          refine lv_lrem hx hb dX7_greatestDivisor_27 hw.1 ?_
          replace hw := hw.2
          refine lv_lstore (lv' := [(9, .long (x4 - x4 / x6 * x6)), (4, .long x4), (6, .long x6), (8, .int x8)]) hx hb dX7_greatestDivisor_28 hl (by decide) rfl (fun ls hl => ?_)
          refine lv_lload hx hb dX7_greatestDivisor_30 (lv_at hl 2 rfl) ?_
          refine lv_lstore (lv' := [(4, .long x6), (9, .long (x4 - x4 / x6 * x6)), (6, .long x6), (8, .int x8)]) hx hb dX7_greatestDivisor_32 hl (by decide) rfl (fun ls hl => ?_)
          refine lv_lload hx hb dX7_greatestDivisor_34 (lv_at hl 1 rfl) ?_
          refine lv_lstore (lv' := [(6, .long (x4 - x4 / x6 * x6)), (4, .long x6), (9, .long (x4 - x4 / x6 * x6)), (8, .int x8)]) hx hb dX7_greatestDivisor_36 hl (by decide) rfl (fun ls hl => ?_)
          refine lv_iinc (v := (x8 + 1)) (lv' := [(8, .int (x8 + 1)), (6, .long (x4 - x4 / x6 * x6)), (4, .long x6), (9, .long (x4 - x4 / x6 * x6))]) hx hb dX7_greatestDivisor_38 hl (k := 3) rfl (by first | rfl | decide) (by decide) rfl (fun ls hl => ?_)
          refine lv_goto (tgt := 9) hx hb dX7_greatestDivisor_41 (by decide) ?_
          exact ih9 x6 (x4 - x4 / x6 * x6) (x8 + 1) _ hw (lv_sub hl [2, 1, 0] rfl)
  refine lv_lload_n hx hb dX7_greatestDivisor_0 rfl (lv_at hl 0 rfl) ?_
  refine lv_lstore (lv' := [(4, .long x0), (0, .long x0), (2, .long x2)]) hx hb dX7_greatestDivisor_1 hl (by decide) rfl (fun ls hl => ?_)
  refine lv_lload_n hx hb dX7_greatestDivisor_3 rfl (lv_at hl 2 rfl) ?_
  refine lv_lstore (lv' := [(6, .long x2), (4, .long x0), (0, .long x0), (2, .long x2)]) hx hb dX7_greatestDivisor_4 hl (by decide) rfl (fun ls hl => ?_)
  refine lv_iconst (v := 0) hx hb dX7_greatestDivisor_6 (by decide) ?_
  refine lv_istore (lv' := [(8, .int (0 : Int32)), (6, .long x2), (4, .long x0), (0, .long x0), (2, .long x2)]) hx hb dX7_greatestDivisor_7 hl (by decide) rfl (fun ls hl => ?_)
  obtain ⟨n, hw⟩ := hw
  exact L9 n x0 x2 (0 : Int32) _ hw (lv_sub hl [2, 1, 0] rfl)
set_option maxHeartbeats 4000000 in
set_option maxRecDepth 100000 in
theorem c_X7_fraction (l : Launch) (D : va_G) (G : Nat → ClassId) (x0 : Int64) (x2 : Int64) (x4 : Int32) (post : Int64 → Prop) (hw : wp_X7_fraction x0 x2 x4 post) : Met l yX7_fraction wsX7_fraction ({ frames := 2, cells := 0, slots := 0, locals := 53 } : Room) (va_Pc [.long x0, .long x2, .int x4] (xR D G [])) (vp_Sl post) 0 0 (fun _ => False) := by
  refine Met.ofW (cc := cX7_fraction) (maxL := 7) (ret := (some .long)) (by decide) rfl ?_
  intro p e s m args below meth c s₁ B hml hv
  obtain ⟨rfl, hP, hK⟩ := hv
  have hx := B.exec
  have hb := B.bytes
  have hr := B.returns
  have hts := atoms_spec (ws := wsX7_fraction) B.pre
  have hown : s.vm.findClass RX7 = some m.cls := findClass_of_methodNamed B.named
  have hlocks := B.notSynchronized
  have hl := lv_entry ([.long x0, .long x2, .int x4] : List Value) (n := 7) (Nat.le_of_ble_eq_true rfl)
  rw [lg_entry_eq]
  generalize (lg_sl ([.long x0, .long x2, .int x4] : List Value) ++ List.replicate (7 - (lg_sl ([.long x0, .long x2, .int x4] : List Value)).length) Slot.unset).toArray = ls at hl ⊢
  have hl : lv_has ls 7 [(0, .long x0), (2, .long x2), (4, .int x4)] := hl
  unfold wp_X7_fraction at hw
  refine lv_lload_n hx hb dX7_fraction_0 rfl (lv_at hl 0 rfl) ?_
  refine lv_lconst (v := 1) hx hb dX7_fraction_1 (by decide) ?_
  refine W.lcmp hx hb dX7_fraction_2 ?_
  refine lv_if_lt (tgt := 12) hx hb dX7_fraction_3 (by decide) (fun c9 => ?_) (fun c9 => ?_)
  · replace hw := hw.1 c9
    refine lv_iload hx hb dX7_fraction_12 (lv_at hl 2 rfl) ?_
    refine lv_i2l hx hb dX7_fraction_14 rfl ?_
    exact W.lret hx hb hr (fun t ht _ => ⟨_, rfl, hw, ht⟩) (fun _ h => absurd h List.not_mem_nil) dX7_fraction_15
  · replace hw := hw.2 c9
    refine lv_lload_n hx hb dX7_fraction_6 rfl (lv_at hl 1 rfl) ?_
    refine lv_lconst (v := 1) hx hb dX7_fraction_7 (by decide) ?_
    refine W.lcmp hx hb dX7_fraction_8 ?_
    refine lv_if_ge (tgt := 16) hx hb dX7_fraction_9 (by decide) (fun c9 => ?_) (fun c9 => ?_)
    · replace hw := hw.1 c9
      refine lv_lload_n hx hb dX7_fraction_16 rfl (lv_at hl 0 rfl) ?_
      refine lv_lload_n hx hb dX7_fraction_17 rfl (lv_at hl 1 rfl) ?_
      refine vp_callSl (W.runS (As := [.long x0, .long x2]) (rest := []) ⟨hx, hb, hml, hown, hts⟩ (c_X7_greatestDivisor l D G x0 x2 _ hw) (va_cwS 2 hts gX7_fraction_X7_greatestDivisor rfl rfl rfl (by decide +kernel) ⟨(Nat.le_of_ble_eq_true rfl), (Nat.le_of_ble_eq_true rfl)⟩) (xR_ps (hP.sub [] rfl) hK) rfl rfl hl.1 rfl (lv_room (Nat.le_of_ble_eq_true rfl)) dX7_fraction_18 ⟨Nat.zero_le _, Nat.zero_le _⟩) (fun r1 hw => ?_)
      refine lv_lstore (lv' := [(5, .long r1), (0, .long x0), (2, .long x2), (4, .int x4)]) hx hb dX7_fraction_21 hl (by decide) rfl (fun ls hl => ?_)
      refine lv_iload hx hb dX7_fraction_23 (lv_at hl 3 rfl) ?_
      refine lv_if_ne (tgt := 32) hx hb dX7_fraction_25 (by decide) (fun c9 => ?_) (fun c9 => ?_)
      · replace hw := hw.1 c9
        refine lv_lload_n hx hb dX7_fraction_32 rfl (lv_at hl 2 rfl) ?_
        refine lv_lload hx hb dX7_fraction_33 (lv_at hl 0 rfl) ?_
        refine lv_ldiv hx hb dX7_fraction_35 hw.1 ?_
        replace hw := hw.2
        exact W.lret hx hb hr (fun t ht _ => ⟨_, rfl, hw, ht⟩) (fun _ h => absurd h List.not_mem_nil) dX7_fraction_36
      · replace hw := hw.2 c9
        refine lv_lload_n hx hb dX7_fraction_28 rfl (lv_at hl 1 rfl) ?_
        refine lv_goto (tgt := 33) hx hb dX7_fraction_29 (by decide) ?_
        refine lv_lload hx hb dX7_fraction_33 (lv_at hl 0 rfl) ?_
        refine lv_ldiv hx hb dX7_fraction_35 hw.1 ?_
        replace hw := hw.2
        exact W.lret hx hb hr (fun t ht _ => ⟨_, rfl, hw, ht⟩) (fun _ h => absurd h List.not_mem_nil) dX7_fraction_36
    · replace hw := hw.2 c9
      refine lv_iload hx hb dX7_fraction_12 (lv_at hl 2 rfl) ?_
      refine lv_i2l hx hb dX7_fraction_14 rfl ?_
      exact W.lret hx hb hr (fun t ht _ => ⟨_, rfl, hw, ht⟩) (fun _ h => absurd h List.not_mem_nil) dX7_fraction_15
set_option maxHeartbeats 4000000 in
set_option maxRecDepth 100000 in
theorem c_X7_milkFraction (l : Launch) (D : va_G) (G : Nat → ClassId) (x_xo : Nat) (da : Nat) (k_da : Nat) (t_ta : Nat) (p_pl : Nat) (r_tr : Nat) (w_ro : Nat) (x_ash : Nat) (ami : Nat) (aki : Nat) (afi : Nat) (anw : Nat) (apa : Nat) (x_isKept : Int32) (cows : Int32) (tasters : Int32) (newest : Int32) (known : Int32) (milks : Nat → Int32) (x1 : Int32) (x2 : Int32) (x3 : Int32) (post : Int32 → Prop) (hw : wp_X7_milkFraction cows milks x1 x2 x3 post) : Met l yX7_milkFraction wsX7_milkFraction ({ frames := 3, cells := 0, slots := 0, locals := 79 } : Room) (va_Pc [.ref x_xo, .int x1, .int x2, .int x3] (xR D G [(x_xo, .inr (7, [.ref da, .ref k_da, .int x_isKept, .ref t_ta, .ref p_pl, .ref r_tr, .ref w_ro, .ref x_ash])), (da, .inr (0, [.ref ami, .int cows, .ref aki, .ref afi, .int tasters, .ref anw, .ref apa, .int newest, .int known])), (ami, .inl (G 0, 8, .inl milks))])) (vp_Si post) 0 0 (fun _ => False) := by
  refine Met.ofW (cc := cX7_milkFraction) (maxL := 4) (ret := (some .int)) (by decide) rfl ?_
  intro p e s m args below meth c s₁ B hml hv
  obtain ⟨rfl, hP, hK⟩ := hv
  have hx := B.exec
  have hb := B.bytes
  have hr := B.returns
  have hts := atoms_spec (ws := wsX7_milkFraction) B.pre
  have hown : s.vm.findClass RX7 = some m.cls := findClass_of_methodNamed B.named
  have hlocks := B.notSynchronized
  have inX7 : ∀ w ∈ wsX70, w ∈ wsX7_milkFraction := by decide +kernel
  have fl12 := hts (.fieldLink RX7 12 "NewsCow" "dairy" "LNewsCow$Dairy;") (by decide +kernel)
  have hl := lv_entry ([.ref x_xo, .int x1, .int x2, .int x3] : List Value) (n := 4) (Nat.le_of_ble_eq_true rfl)
  rw [lg_entry_eq]
  generalize (lg_sl ([.ref x_xo, .int x1, .int x2, .int x3] : List Value) ++ List.replicate (4 - (lg_sl ([.ref x_xo, .int x1, .int x2, .int x3] : List Value)).length) Slot.unset).toArray = ls at hl ⊢
  have hl : lv_has ls 4 [(0, .ref x_xo), (1, .int x1), (2, .int x2), (3, .int x3)] := hl
  unfold wp_X7_milkFraction at hw
  refine lv_aload_n hx hb dX7_milkFraction_0 rfl (lv_at hl 0 rfl) ?_
  refine va_get (D := D) (ci := 7) (v := .ref da) (C := RX7) (T := TX7) (N := 8) hx hb hts inX7 hown hK hP 0 rfl rfl 0 (by decide) fl12 (fun _ h9 => h9) rfl dX7_milkFraction_1 ?_
  refine lv_iload_n hx hb dX7_milkFraction_4 rfl (lv_at hl 1 rfl) ?_
  refine vp_callSi (W.runV (As := [.int x1]) (rest := []) ⟨hx, hb, hml, hown, hts⟩ (c_X0_milkOf l D G da ami aki afi anw apa cows tasters newest known milks x1 _ hw) (cwV 1 hts gX7_milkFraction_X0_milkOf rfl rfl rfl (by decide +kernel) ⟨(Nat.le_of_ble_eq_true rfl), (Nat.le_of_ble_eq_true rfl)⟩) (xR_pv (hP.sub [1, 2] rfl) hK (va_recv hK hP (ci := 0) (q0 := 1) rfl rfl)) rfl rfl hl.1 rfl (lv_room (Nat.le_of_ble_eq_true rfl)) dX7_milkFraction_5 ⟨Nat.zero_le _, Nat.zero_le _⟩) (fun r1 hw => ?_)
  refine lv_i2l hx hb dX7_milkFraction_8 rfl ?_
  refine lv_aload_n hx hb dX7_milkFraction_9 rfl (lv_at hl 0 rfl) ?_
  refine va_get (D := D) (ci := 7) (v := .ref da) (C := RX7) (T := TX7) (N := 8) hx hb hts inX7 hown hK hP 0 rfl rfl 0 (by decide) fl12 (fun _ h9 => h9) rfl dX7_milkFraction_10 ?_
  refine lv_iload_n hx hb dX7_milkFraction_13 rfl (lv_at hl 2 rfl) ?_
  refine vp_callSi (W.runV (As := [.int x2]) (rest := [.long (r1.toInt64)]) ⟨hx, hb, hml, hown, hts⟩ (c_X0_milkOf l D G da ami aki afi anw apa cows tasters newest known milks x2 _ hw) (cwV 1 hts gX7_milkFraction_X0_milkOf rfl rfl rfl (by decide +kernel) ⟨(Nat.le_of_ble_eq_true rfl), (Nat.le_of_ble_eq_true rfl)⟩) (xR_pv (hP.sub [1, 2] rfl) hK (va_recv hK hP (ci := 0) (q0 := 1) rfl rfl)) rfl rfl hl.1 rfl (lv_room (Nat.le_of_ble_eq_true rfl)) dX7_milkFraction_14 ⟨Nat.zero_le _, Nat.zero_le _⟩) (fun r2 hw => ?_)
  refine lv_i2l hx hb dX7_milkFraction_17 rfl ?_
  refine lv_iload_n hx hb dX7_milkFraction_18 rfl (lv_at hl 3 rfl) ?_
  refine vp_callSl (W.runS (As := [.long (r1.toInt64), .long (r2.toInt64), .int x3]) (rest := []) ⟨hx, hb, hml, hown, hts⟩ (c_X7_fraction l D G (r1.toInt64) (r2.toInt64) x3 _ hw) (va_cwS 3 hts gX7_milkFraction_X7_fraction rfl rfl rfl (by decide +kernel) ⟨(Nat.le_of_ble_eq_true rfl), (Nat.le_of_ble_eq_true rfl)⟩) (xR_ps (hP.sub [] rfl) hK) rfl rfl hl.1 rfl (lv_room (Nat.le_of_ble_eq_true rfl)) dX7_milkFraction_19 ⟨Nat.zero_le _, Nat.zero_le _⟩) (fun r3 hw => ?_)
  refine lv_l2i hx hb dX7_milkFraction_22 rfl ?_
  exact W.iret hx hb hr (fun t ht _ => ⟨_, rfl, hw, ht⟩) (fun _ h => absurd h List.not_mem_nil) dX7_milkFraction_23
set_option maxHeartbeats 4000000 in
set_option maxRecDepth 100000 in
theorem c_X7_likely (l : Launch) (D : va_G) (G : Nat → ClassId) (x_xo : Nat) (da : Nat) (k_da : Nat) (t_ta : Nat) (p_pl : Nat) (r_tr : Nat) (w_ro : Nat) (x_ash : Nat) (ami : Nat) (aki : Nat) (afi : Nat) (anw : Nat) (apa : Nat) (x_isKept : Int32) (cows : Int32) (tasters : Int32) (newest : Int32) (known : Int32) (milks : Nat → Int32) (mayBe : Int32) (bearer : Int32) (day : Int32) (draw : Int32) (x1 : Int32) (x2 : Int32) (post : Int32 → Prop) (hw : wp_X7_likely cows milks mayBe x1 x2 post) : Met l yX7_likely wsX7_likely ({ frames := 4, cells := 0, slots := 0, locals := 102 } : Room) (va_Pc [.ref x_xo, .int x1, .int x2] (xR D G [(x_xo, .inr (7, [.ref da, .ref k_da, .int x_isKept, .ref t_ta, .ref p_pl, .ref r_tr, .ref w_ro, .ref x_ash])), (da, .inr (0, [.ref ami, .int cows, .ref aki, .ref afi, .int tasters, .ref anw, .ref apa, .int newest, .int known])), (ami, .inl (G 0, 8, .inl milks)), (anw, .inr (1, [.int mayBe, .int bearer, .int day, .int draw]))])) (vp_Si post) 0 0 (fun _ => False) := by
  refine Met.ofW (cc := cX7_likely) (maxL := 3) (ret := (some .int)) (by decide) rfl ?_
  intro p e s m args below meth c s₁ B hml hv
  obtain ⟨rfl, hP, hK⟩ := hv
  have hx := B.exec
  have hb := B.bytes
  have hr := B.returns
  have hts := atoms_spec (ws := wsX7_likely) B.pre
  have hown : s.vm.findClass RX7 = some m.cls := findClass_of_methodNamed B.named
  have hlocks := B.notSynchronized
  have inX0 : ∀ w ∈ wsX00, w ∈ wsX7_likely := by decide +kernel
  have inX1 : ∀ w ∈ wsX10, w ∈ wsX7_likely := by decide +kernel
  have inX7 : ∀ w ∈ wsX70, w ∈ wsX7_likely := by decide +kernel
  have fl12 := hts (.fieldLink RX7 12 "NewsCow" "dairy" "LNewsCow$Dairy;") (by decide +kernel)
  have fl66 := hts (.fieldLink RX7 66 "NewsCow$Dairy" "now" "LNewsCow$Moment;") (by decide +kernel)
  have fl74 := hts (.fieldLink RX7 74 "NewsCow$Moment" "mayBe" "I") (by decide +kernel)
  have hl := lv_entry ([.ref x_xo, .int x1, .int x2] : List Value) (n := 3) (Nat.le_of_ble_eq_true rfl)
  rw [lg_entry_eq]
  generalize (lg_sl ([.ref x_xo, .int x1, .int x2] : List Value) ++ List.replicate (3 - (lg_sl ([.ref x_xo, .int x1, .int x2] : List Value)).length) Slot.unset).toArray = ls at hl ⊢
  have hl : lv_has ls 3 [(0, .ref x_xo), (1, .int x1), (2, .int x2)] := hl
  unfold wp_X7_likely at hw
  refine lv_aload_n hx hb dX7_likely_0 rfl (lv_at hl 0 rfl) ?_
  refine lv_iload_n hx hb dX7_likely_1 rfl (lv_at hl 1 rfl) ?_
  refine vp_callSi (W.runV (As := [.int x1]) (rest := []) ⟨hx, hb, hml, hown, hts⟩ (c_X7_isCow l D G x_xo da k_da t_ta p_pl r_tr w_ro x_ash ami aki afi anw apa x_isKept cows tasters newest known x1 _ hw) (cwV 1 hts gX7_likely_X7_isCow rfl rfl rfl (by decide +kernel) ⟨(Nat.le_of_ble_eq_true rfl), (Nat.le_of_ble_eq_true rfl)⟩) (xR_pv (hP.sub [0, 1] rfl) hK (va_recv hK hP (ci := 7) (q0 := 0) rfl rfl)) rfl rfl hl.1 rfl (lv_room (Nat.le_of_ble_eq_true rfl)) dX7_likely_2 ⟨Nat.zero_le _, Nat.zero_le _⟩) (fun r1 hw => ?_)
  refine lv_if_eq (tgt := 15) hx hb dX7_likely_5 (by decide) (fun c9 => ?_) (fun c9 => ?_)
  · replace hw := hw.1 c9
    refine lv_iconst (v := -1) hx hb dX7_likely_15 (by decide) ?_
    exact W.iret hx hb hr (fun t ht _ => ⟨_, rfl, hw, ht⟩) (fun _ h => absurd h List.not_mem_nil) dX7_likely_16
  · replace hw := hw.2 c9
    refine lv_iload_n hx hb dX7_likely_8 rfl (lv_at hl 2 rfl) ?_
    refine vp_callSi (W.runS (As := [.int x2]) (rest := []) ⟨hx, hb, hml, hown, hts⟩ (c_X7_isEither l D G x2 _ hw) (va_cwS 1 hts gX7_likely_X7_isEither rfl rfl rfl (by decide +kernel) ⟨(Nat.le_of_ble_eq_true rfl), (Nat.le_of_ble_eq_true rfl)⟩) (xR_ps (hP.sub [] rfl) hK) rfl rfl hl.1 rfl (lv_room (Nat.le_of_ble_eq_true rfl)) dX7_likely_9 ⟨Nat.zero_le _, Nat.zero_le _⟩) (fun r2 hw => ?_)
    refine lv_if_ne (tgt := 17) hx hb dX7_likely_12 (by decide) (fun c9 => ?_) (fun c9 => ?_)
    · replace hw := hw.1 c9
      refine lv_aload_n hx hb dX7_likely_17 rfl (lv_at hl 0 rfl) ?_
      refine lv_iconst (v := 1) hx hb dX7_likely_18 (by decide) ?_
      refine lv_iload_n hx hb dX7_likely_19 rfl (lv_at hl 1 rfl) ?_
      refine lv_ishl hx hb dX7_likely_20 ?_
      refine lv_aload_n hx hb dX7_likely_21 rfl (lv_at hl 0 rfl) ?_
      refine va_get (D := D) (ci := 7) (v := .ref da) (C := RX7) (T := TX7) (N := 8) hx hb hts inX7 hown hK hP 0 rfl rfl 0 (by decide) fl12 (fun _ h9 => h9) rfl dX7_likely_22 ?_
      refine va_get (D := D) (ci := 0) (v := .ref anw) (C := RX0) (T := TX0) (N := 9) hx hb hts inX0 hown hK hP 1 rfl rfl 5 (by decide) fl66 (fun _ h9 => h9) rfl dX7_likely_25 ?_
      refine va_get (D := D) (ci := 1) (v := .int mayBe) (C := RX1) (T := TX1) (N := 4) hx hb hts inX1 hown hK hP 3 rfl rfl 0 (by decide) fl74 (fun _ h9 => h9) rfl dX7_likely_28 ?_
      refine lv_iand hx hb dX7_likely_31 ?_
      refine lv_aload_n hx hb dX7_likely_32 rfl (lv_at hl 0 rfl) ?_
      refine va_get (D := D) (ci := 7) (v := .ref da) (C := RX7) (T := TX7) (N := 8) hx hb hts inX7 hown hK hP 0 rfl rfl 0 (by decide) fl12 (fun _ h9 => h9) rfl dX7_likely_33 ?_
      refine va_get (D := D) (ci := 0) (v := .ref anw) (C := RX0) (T := TX0) (N := 9) hx hb hts inX0 hown hK hP 1 rfl rfl 5 (by decide) fl66 (fun _ h9 => h9) rfl dX7_likely_36 ?_
      refine va_get (D := D) (ci := 1) (v := .int mayBe) (C := RX1) (T := TX1) (N := 4) hx hb hts inX1 hown hK hP 3 rfl rfl 0 (by decide) fl74 (fun _ h9 => h9) rfl dX7_likely_39 ?_
      refine lv_iload_n hx hb dX7_likely_42 rfl (lv_at hl 2 rfl) ?_
      refine vp_callSi (W.runV (As := [.int (((1 : Int32) <<< (x1 &&& 31)) &&& mayBe), .int mayBe, .int x2]) (rest := []) ⟨hx, hb, hml, hown, hts⟩ (c_X7_milkFraction l D G x_xo da k_da t_ta p_pl r_tr w_ro x_ash ami aki afi anw apa x_isKept cows tasters newest known milks (((1 : Int32) <<< (x1 &&& 31)) &&& mayBe) mayBe x2 _ hw) (cwV 3 hts gX7_likely_X7_milkFraction rfl rfl rfl (by decide +kernel) ⟨(Nat.le_of_ble_eq_true rfl), (Nat.le_of_ble_eq_true rfl)⟩) (xR_pv (hP.sub [0, 1, 2] rfl) hK (va_recv hK hP (ci := 7) (q0 := 0) rfl rfl)) rfl rfl hl.1 rfl (lv_room (Nat.le_of_ble_eq_true rfl)) dX7_likely_43 ⟨Nat.zero_le _, Nat.zero_le _⟩) (fun r3 hw => ?_)
      exact W.iret hx hb hr (fun t ht _ => ⟨_, rfl, hw, ht⟩) (fun _ h => absurd h List.not_mem_nil) dX7_likely_46
    · replace hw := hw.2 c9
      refine lv_iconst (v := -1) hx hb dX7_likely_15 (by decide) ?_
      exact W.iret hx hb hr (fun t ht _ => ⟨_, rfl, hw, ht⟩) (fun _ h => absurd h List.not_mem_nil) dX7_likely_16
set_option maxHeartbeats 4000000 in
set_option maxRecDepth 100000 in
theorem c_X7_noticed (l : Launch) (D : va_G) (G : Nat → ClassId) (x_xo : Nat) (da : Nat) (k_da : Nat) (t_ta : Nat) (p_pl : Nat) (r_tr : Nat) (w_ro : Nat) (x_ash : Nat) (ami : Nat) (aki : Nat) (afi : Nat) (anw : Nat) (apa : Nat) (x_isKept : Int32) (cows : Int32) (tasters : Int32) (newest : Int32) (known : Int32) (milks : Nat → Int32) (kinds : Nat → Int32) (fines : Nat → Int32) (mayBe : Int32) (bearer : Int32) (day : Int32) (draw : Int32) (x1 : Int32) (x2 : Int32) (x3 : Int32) (post : Int32 → Prop) (hw : wp_X7_noticed cows tasters milks kinds fines mayBe day x1 x2 x3 post) : Met l yX7_noticed wsX7_noticed ({ frames := 4, cells := 0, slots := 0, locals := 102 } : Room) (va_Pc [.ref x_xo, .int x1, .int x2, .int x3] (xR D G [(x_xo, .inr (7, [.ref da, .ref k_da, .int x_isKept, .ref t_ta, .ref p_pl, .ref r_tr, .ref w_ro, .ref x_ash])), (da, .inr (0, [.ref ami, .int cows, .ref aki, .ref afi, .int tasters, .ref anw, .ref apa, .int newest, .int known])), (ami, .inl (G 0, 8, .inl milks)), (aki, .inl (G 0, 4, .inl kinds)), (afi, .inl (G 0, 4, .inl fines)), (anw, .inr (1, [.int mayBe, .int bearer, .int day, .int draw]))])) (vp_Si post) 0 0 (fun _ => False) := by
  refine Met.ofW (cc := cX7_noticed) (maxL := 4) (ret := (some .int)) (by decide) rfl ?_
  intro p e s m args below meth c s₁ B hml hv
  obtain ⟨rfl, hP, hK⟩ := hv
  have hx := B.exec
  have hb := B.bytes
  have hr := B.returns
  have hts := atoms_spec (ws := wsX7_noticed) B.pre
  have hown : s.vm.findClass RX7 = some m.cls := findClass_of_methodNamed B.named
  have hlocks := B.notSynchronized
  have inX0 : ∀ w ∈ wsX00, w ∈ wsX7_noticed := by decide +kernel
  have inX1 : ∀ w ∈ wsX10, w ∈ wsX7_noticed := by decide +kernel
  have inX7 : ∀ w ∈ wsX70, w ∈ wsX7_noticed := by decide +kernel
  have fl12 := hts (.fieldLink RX7 12 "NewsCow" "dairy" "LNewsCow$Dairy;") (by decide +kernel)
  have fl66 := hts (.fieldLink RX7 66 "NewsCow$Dairy" "now" "LNewsCow$Moment;") (by decide +kernel)
  have fl74 := hts (.fieldLink RX7 74 "NewsCow$Moment" "mayBe" "I") (by decide +kernel)
  have hl := lv_entry ([.ref x_xo, .int x1, .int x2, .int x3] : List Value) (n := 4) (Nat.le_of_ble_eq_true rfl)
  rw [lg_entry_eq]
  generalize (lg_sl ([.ref x_xo, .int x1, .int x2, .int x3] : List Value) ++ List.replicate (4 - (lg_sl ([.ref x_xo, .int x1, .int x2, .int x3] : List Value)).length) Slot.unset).toArray = ls at hl ⊢
  have hl : lv_has ls 4 [(0, .ref x_xo), (1, .int x1), (2, .int x2), (3, .int x3)] := hl
  unfold wp_X7_noticed at hw
  refine lv_aload_n hx hb dX7_noticed_0 rfl (lv_at hl 0 rfl) ?_
  refine lv_iload_n hx hb dX7_noticed_1 rfl (lv_at hl 1 rfl) ?_
  refine vp_callSi (W.runV (As := [.int x1]) (rest := []) ⟨hx, hb, hml, hown, hts⟩ (c_X7_isTaster l D G x_xo da k_da t_ta p_pl r_tr w_ro x_ash ami aki afi anw apa x_isKept cows tasters newest known x1 _ hw) (cwV 1 hts gX7_noticed_X7_isTaster rfl rfl rfl (by decide +kernel) ⟨(Nat.le_of_ble_eq_true rfl), (Nat.le_of_ble_eq_true rfl)⟩) (xR_pv (hP.sub [0, 1] rfl) hK (va_recv hK hP (ci := 7) (q0 := 0) rfl rfl)) rfl rfl hl.1 rfl (lv_room (Nat.le_of_ble_eq_true rfl)) dX7_noticed_2 ⟨Nat.zero_le _, Nat.zero_le _⟩) (fun r1 hw => ?_)
  refine lv_if_eq (tgt := 23) hx hb dX7_noticed_5 (by decide) (fun c9 => ?_) (fun c9 => ?_)
  · replace hw := hw.1 c9
    refine lv_iconst (v := -1) hx hb dX7_noticed_23 (by decide) ?_
    exact W.iret hx hb hr (fun t ht _ => ⟨_, rfl, hw, ht⟩) (fun _ h => absurd h List.not_mem_nil) dX7_noticed_24
  · replace hw := hw.2 c9
    refine lv_aload_n hx hb dX7_noticed_8 rfl (lv_at hl 0 rfl) ?_
    refine lv_iload_n hx hb dX7_noticed_9 rfl (lv_at hl 2 rfl) ?_
    refine vp_callSi (W.runV (As := [.int x2]) (rest := []) ⟨hx, hb, hml, hown, hts⟩ (c_X7_isMix l D G x_xo da k_da t_ta p_pl r_tr w_ro x_ash ami aki afi anw apa x_isKept cows tasters newest known x2 _ hw) (cwV 1 hts gX7_noticed_X7_isMix rfl rfl rfl (by decide +kernel) ⟨(Nat.le_of_ble_eq_true rfl), (Nat.le_of_ble_eq_true rfl)⟩) (xR_pv (hP.sub [0, 1] rfl) hK (va_recv hK hP (ci := 7) (q0 := 0) rfl rfl)) rfl rfl hl.1 rfl (lv_room (Nat.le_of_ble_eq_true rfl)) dX7_noticed_10 ⟨Nat.zero_le _, Nat.zero_le _⟩) (fun r2 hw => ?_)
    refine lv_if_eq (tgt := 23) hx hb dX7_noticed_13 (by decide) (fun c9 => ?_) (fun c9 => ?_)
    · replace hw := hw.1 c9
      refine lv_iconst (v := -1) hx hb dX7_noticed_23 (by decide) ?_
      exact W.iret hx hb hr (fun t ht _ => ⟨_, rfl, hw, ht⟩) (fun _ h => absurd h List.not_mem_nil) dX7_noticed_24
    · replace hw := hw.2 c9
      refine lv_iload_n hx hb dX7_noticed_16 rfl (lv_at hl 3 rfl) ?_
      refine vp_callSi (W.runS (As := [.int x3]) (rest := []) ⟨hx, hb, hml, hown, hts⟩ (c_X7_isEither l D G x3 _ hw) (va_cwS 1 hts gX7_noticed_X7_isEither rfl rfl rfl (by decide +kernel) ⟨(Nat.le_of_ble_eq_true rfl), (Nat.le_of_ble_eq_true rfl)⟩) (xR_ps (hP.sub [] rfl) hK) rfl rfl hl.1 rfl (lv_room (Nat.le_of_ble_eq_true rfl)) dX7_noticed_17 ⟨Nat.zero_le _, Nat.zero_le _⟩) (fun r3 hw => ?_)
      refine lv_if_ne (tgt := 25) hx hb dX7_noticed_20 (by decide) (fun c9 => ?_) (fun c9 => ?_)
      · replace hw := hw.1 c9
        refine lv_aload_n hx hb dX7_noticed_25 rfl (lv_at hl 0 rfl) ?_
        refine lv_aload_n hx hb dX7_noticed_26 rfl (lv_at hl 0 rfl) ?_
        refine va_get (D := D) (ci := 7) (v := .ref da) (C := RX7) (T := TX7) (N := 8) hx hb hts inX7 hown hK hP 0 rfl rfl 0 (by decide) fl12 (fun _ h9 => h9) rfl dX7_noticed_27 ?_
        refine lv_iload_n hx hb dX7_noticed_30 rfl (lv_at hl 1 rfl) ?_
        refine lv_iload_n hx hb dX7_noticed_31 rfl (lv_at hl 2 rfl) ?_
        refine vp_callSi (W.runV (As := [.int x1, .int x2]) (rest := [.ref x_xo]) ⟨hx, hb, hml, hown, hts⟩ (c_X0_noticedBy l D G da ami aki afi anw apa cows tasters newest known milks kinds fines mayBe bearer day draw x1 x2 _ hw) (cwV 2 hts gX7_noticed_X0_noticedBy rfl rfl rfl (by decide +kernel) ⟨(Nat.le_of_ble_eq_true rfl), (Nat.le_of_ble_eq_true rfl)⟩) (xR_pv (hP.sub [1, 2, 3, 4, 5] rfl) hK (va_recv hK hP (ci := 0) (q0 := 1) rfl rfl)) rfl rfl hl.1 rfl (lv_room (Nat.le_of_ble_eq_true rfl)) dX7_noticed_32 ⟨Nat.zero_le _, Nat.zero_le _⟩) (fun r4 hw => ?_)
        refine lv_aload_n hx hb dX7_noticed_35 rfl (lv_at hl 0 rfl) ?_
        refine va_get (D := D) (ci := 7) (v := .ref da) (C := RX7) (T := TX7) (N := 8) hx hb hts inX7 hown hK hP 0 rfl rfl 0 (by decide) fl12 (fun _ h9 => h9) rfl dX7_noticed_36 ?_
        refine va_get (D := D) (ci := 0) (v := .ref anw) (C := RX0) (T := TX0) (N := 9) hx hb hts inX0 hown hK hP 1 rfl rfl 5 (by decide) fl66 (fun _ h9 => h9) rfl dX7_noticed_39 ?_
        refine va_get (D := D) (ci := 1) (v := .int mayBe) (C := RX1) (T := TX1) (N := 4) hx hb hts inX1 hown hK hP 5 rfl rfl 0 (by decide) fl74 (fun _ h9 => h9) rfl dX7_noticed_42 ?_
        refine lv_iand hx hb dX7_noticed_45 ?_
        refine lv_aload_n hx hb dX7_noticed_46 rfl (lv_at hl 0 rfl) ?_
        refine va_get (D := D) (ci := 7) (v := .ref da) (C := RX7) (T := TX7) (N := 8) hx hb hts inX7 hown hK hP 0 rfl rfl 0 (by decide) fl12 (fun _ h9 => h9) rfl dX7_noticed_47 ?_
        refine va_get (D := D) (ci := 0) (v := .ref anw) (C := RX0) (T := TX0) (N := 9) hx hb hts inX0 hown hK hP 1 rfl rfl 5 (by decide) fl66 (fun _ h9 => h9) rfl dX7_noticed_50 ?_
        refine va_get (D := D) (ci := 1) (v := .int mayBe) (C := RX1) (T := TX1) (N := 4) hx hb hts inX1 hown hK hP 5 rfl rfl 0 (by decide) fl74 (fun _ h9 => h9) rfl dX7_noticed_53 ?_
        refine lv_iload_n hx hb dX7_noticed_56 rfl (lv_at hl 3 rfl) ?_
        refine vp_callSi (W.runV (As := [.int (r4 &&& mayBe), .int mayBe, .int x3]) (rest := []) ⟨hx, hb, hml, hown, hts⟩ (c_X7_milkFraction l D G x_xo da k_da t_ta p_pl r_tr w_ro x_ash ami aki afi anw apa x_isKept cows tasters newest known milks (r4 &&& mayBe) mayBe x3 _ hw) (cwV 3 hts gX7_noticed_X7_milkFraction rfl rfl rfl (by decide +kernel) ⟨(Nat.le_of_ble_eq_true rfl), (Nat.le_of_ble_eq_true rfl)⟩) (xR_pv (hP.sub [0, 1, 2] rfl) hK (va_recv hK hP (ci := 7) (q0 := 0) rfl rfl)) rfl rfl hl.1 rfl (lv_room (Nat.le_of_ble_eq_true rfl)) dX7_noticed_57 ⟨Nat.zero_le _, Nat.zero_le _⟩) (fun r5 hw => ?_)
        exact W.iret hx hb hr (fun t ht _ => ⟨_, rfl, hw, ht⟩) (fun _ h => absurd h List.not_mem_nil) dX7_noticed_60
      · replace hw := hw.2 c9
        refine lv_iconst (v := -1) hx hb dX7_noticed_23 (by decide) ?_
        exact W.iret hx hb hr (fun t ht _ => ⟨_, rfl, hw, ht⟩) (fun _ h => absurd h List.not_mem_nil) dX7_noticed_24
set_option maxHeartbeats 4000000 in
set_option maxRecDepth 100000 in
theorem c_X7_single (l : Launch) (D : va_G) (G : Nat → ClassId) (sz : Nat) (x_xo : Nat) (da : Nat) (k_da : Nat) (t_ta : Nat) (p_pl : Nat) (r_tr : Nat) (w_ro : Nat) (x_ash : Nat) (ami : Nat) (aki : Nat) (afi : Nat) (anw : Nat) (apa : Nat) (r_aor : Nat) (x_isKept : Int32) (cows : Int32) (tasters : Int32) (newest : Int32) (known : Int32) (milks : Nat → Int32) (mayBe : Int32) (bearer : Int32) (day : Int32) (draw : Int32) (r_size : Int32) (r_order : Nat → Int32) (x1 : Int32) (post : Int32 → Int32 → (Nat → Int32) → Prop) (hw : wp_X7_single cows milks mayBe r_size r_order x1 post) : Met l yX7_single wsX7_single ({ frames := 3, cells := 0, slots := 0, locals := 79 } : Room) (va_Pc [.ref x_xo, .int x1] (xM D G sz [(x_xo, .inr (7, [.ref da, .ref k_da, .int x_isKept, .ref t_ta, .ref p_pl, .ref r_tr, .ref w_ro, .ref x_ash])), (da, .inr (0, [.ref ami, .int cows, .ref aki, .ref afi, .int tasters, .ref anw, .ref apa, .int newest, .int known])), (ami, .inl (G 0, 8, .inl milks)), (anw, .inr (1, [.int mayBe, .int bearer, .int day, .int draw])), (r_tr, .inr (6, [.ref r_aor, .int r_size])), (r_aor, .inl (G 0, 8, .inl r_order))])) (va_Qi (fun r (u : Int32 × (Nat → Int32)) => post r u.1 u.2) (fun u t => xE D G (va_A [(x_xo, .inr (7, [.ref da, .ref k_da, .int x_isKept, .ref t_ta, .ref p_pl, .ref r_tr, .ref w_ro, .ref x_ash])), (da, .inr (0, [.ref ami, .int cows, .ref aki, .ref afi, .int tasters, .ref anw, .ref apa, .int newest, .int known])), (ami, .inl (G 0, 8, .inl milks)), (anw, .inr (1, [.int mayBe, .int bearer, .int day, .int draw])), (r_tr, .inr (6, [.ref r_aor, .int r_size])), (r_aor, .inl (G 0, 8, .inl r_order))] sz) [(x_xo, .inr (7, [.ref da, .ref k_da, .int x_isKept, .ref t_ta, .ref p_pl, .ref r_tr, .ref w_ro, .ref x_ash])), (da, .inr (0, [.ref ami, .int cows, .ref aki, .ref afi, .int tasters, .ref anw, .ref apa, .int newest, .int known])), (ami, .inl (G 0, 8, .inl milks)), (anw, .inr (1, [.int mayBe, .int bearer, .int day, .int draw])), (r_tr, .inr (6, [.ref r_aor, .int u.1])), (r_aor, .inl (G 0, 8, .inl (u.2)))] t) (va_A [(x_xo, .inr (7, [.ref da, .ref k_da, .int x_isKept, .ref t_ta, .ref p_pl, .ref r_tr, .ref w_ro, .ref x_ash])), (da, .inr (0, [.ref ami, .int cows, .ref aki, .ref afi, .int tasters, .ref anw, .ref apa, .int newest, .int known])), (ami, .inl (G 0, 8, .inl milks)), (anw, .inr (1, [.int mayBe, .int bearer, .int day, .int draw])), (r_tr, .inr (6, [.ref r_aor, .int r_size])), (r_aor, .inl (G 0, 8, .inl r_order))] sz)) 0 0 (va_A [(x_xo, .inr (7, [.ref da, .ref k_da, .int x_isKept, .ref t_ta, .ref p_pl, .ref r_tr, .ref w_ro, .ref x_ash])), (da, .inr (0, [.ref ami, .int cows, .ref aki, .ref afi, .int tasters, .ref anw, .ref apa, .int newest, .int known])), (ami, .inl (G 0, 8, .inl milks)), (anw, .inr (1, [.int mayBe, .int bearer, .int day, .int draw])), (r_tr, .inr (6, [.ref r_aor, .int r_size])), (r_aor, .inl (G 0, 8, .inl r_order))] sz) := by
  refine Met.ofW (cc := cX7_single) (maxL := 2) (ret := (some .int)) (by decide) rfl ?_
  intro p e s m args below meth c s₁ B hml hv
  obtain ⟨rfl, hsz, hP, hK, hD0⟩ := hv
  have hx := B.exec
  have hb := B.bytes
  have hr := B.returns
  have hts := atoms_spec (ws := wsX7_single) B.pre
  have hown : s.vm.findClass RX7 = some m.cls := findClass_of_methodNamed B.named
  have hlocks := B.notSynchronized
  subst hsz
  have hD := hD0.self (sz := s.heap.size)
  generalize hAe : va_A [(x_xo, .inr (7, [.ref da, .ref k_da, .int x_isKept, .ref t_ta, .ref p_pl, .ref r_tr, .ref w_ro, .ref x_ash])), (da, .inr (0, [.ref ami, .int cows, .ref aki, .ref afi, .int tasters, .ref anw, .ref apa, .int newest, .int known])), (ami, .inl (G 0, 8, .inl milks)), (anw, .inr (1, [.int mayBe, .int bearer, .int day, .int draw])), (r_tr, .inr (6, [.ref r_aor, .int r_size])), (r_aor, .inl (G 0, 8, .inl r_order))] s.heap.size = A at hD ⊢
  have hA : ∀ q : Nat, s.heap.size ≤ q → A q := fun q h => by rw [← hAe]; exact Or.inr h
  have hS : va_S A s.heap s.heap [] := va_S.rf
  have inX0 : ∀ w ∈ wsX00, w ∈ wsX7_single := by decide +kernel
  have inX1 : ∀ w ∈ wsX10, w ∈ wsX7_single := by decide +kernel
  have inX6 : ∀ w ∈ wsX60, w ∈ wsX7_single := by decide +kernel
  have inX7 : ∀ w ∈ wsX70, w ∈ wsX7_single := by decide +kernel
  have fl40 := hts (.fieldLink RX7 40 "NewsCow" "trials" "LNewsCow$Trials;") (by decide +kernel)
  have fl12 := hts (.fieldLink RX7 12 "NewsCow" "dairy" "LNewsCow$Dairy;") (by decide +kernel)
  have fl207 := hts (.fieldLink RX7 207 "NewsCow$Trials" "size" "I") (by decide +kernel)
  have fl208 := hts (.fieldLink RX7 208 "NewsCow$Trials" "order" "[I") (by decide +kernel)
  have fl66 := hts (.fieldLink RX7 66 "NewsCow$Dairy" "now" "LNewsCow$Moment;") (by decide +kernel)
  have fl74 := hts (.fieldLink RX7 74 "NewsCow$Moment" "mayBe" "I") (by decide +kernel)
  have hl := lv_entry ([.ref x_xo, .int x1] : List Value) (n := 2) (Nat.le_of_ble_eq_true rfl)
  rw [lg_entry_eq]
  generalize (lg_sl ([.ref x_xo, .int x1] : List Value) ++ List.replicate (2 - (lg_sl ([.ref x_xo, .int x1] : List Value)).length) Slot.unset).toArray = ls at hl ⊢
  have hl : lv_has ls 2 [(0, .ref x_xo), (1, .int x1)] := hl
  unfold wp_X7_single at hw
  refine lv_iload_n hx hb dX7_single_0 rfl (lv_at hl 1 rfl) ?_
  refine lv_bipush (v := -2) hx hb dX7_single_1 (by decide) ?_
  refine lv_icmp_ge (tgt := 8) hx hb dX7_single_3 (by decide) (fun c9 => ?_) (fun c9 => ?_)
  · replace hw := hw.1 c9
    refine lv_aload_n hx hb dX7_single_8 rfl (lv_at hl 0 rfl) ?_
    refine va_get (D := D) (ci := 7) (v := .ref r_tr) (C := RX7) (T := TX7) (N := 8) hx hb hts inX7 hown hK hP 0 rfl rfl 5 (by decide) fl40 (fun _ h9 => h9) rfl dX7_single_9 ?_
    refine lv_aload_n hx hb dX7_single_12 rfl (lv_at hl 0 rfl) ?_
    refine va_get (D := D) (ci := 7) (v := .ref da) (C := RX7) (T := TX7) (N := 8) hx hb hts inX7 hown hK hP 0 rfl rfl 0 (by decide) fl12 (fun _ h9 => h9) rfl dX7_single_13 ?_
    refine x_cMv (wr := [(x_xo, .inr (7, [.ref da, .ref k_da, .int x_isKept, .ref t_ta, .ref p_pl, .ref r_tr, .ref w_ro, .ref x_ash]))]) (va_runV (As := [.ref da]) (rest := []) ⟨hx, hb, hml, hown, hts⟩ (c_X6_arrange l D G _ r_tr r_aor da ami aki afi anw apa r_size r_order cows tasters newest known milks mayBe bearer day draw _ hw) (cwV 1 hts gX7_single_X6_arrange rfl rfl rfl (by decide +kernel) ⟨(Nat.le_of_ble_eq_true rfl), (Nat.le_of_ble_eq_true rfl)⟩) (xM_pv (hP.sub [4, 5, 1, 2, 3] rfl) hK (hD.sub [4, 5, 1, 2, 3] (by decide) rfl) (va_recv hK hP (ci := 6) (q0 := 4) rfl rfl)) rfl rfl hl.1 rfl (lv_room (Nat.le_of_ble_eq_true rfl)) dX7_single_16 ⟨Nat.zero_le _, Nat.zero_le _⟩) hP hD hS hA [4, 5, 1, 2, 3] [0] rfl rfl (by decide) (by decide) [0, 3, 4, 5, 1, 2] (fun u => [(x_xo, .inr (7, [.ref da, .ref k_da, .int x_isKept, .ref t_ta, .ref p_pl, .ref r_tr, .ref w_ro, .ref x_ash])), (da, .inr (0, [.ref ami, .int cows, .ref aki, .ref afi, .int tasters, .ref anw, .ref apa, .int newest, .int known])), (ami, .inl (G 0, 8, .inl milks)), (anw, .inr (1, [.int mayBe, .int bearer, .int day, .int draw])), (r_tr, .inr (6, [.ref r_aor, .int u.1])), (r_aor, .inl (G 0, 8, .inl (u.2)))]) (by decide) (fun u => rfl) (fun u H locs hw hP hD hS => ?_)
    obtain ⟨r_size_1, r_order_1⟩ := u
    try dsimp only at hw
    replace hP : va_P D vwCl [(x_xo, .inr (7, [.ref da, .ref k_da, .int x_isKept, .ref t_ta, .ref p_pl, .ref r_tr, .ref w_ro, .ref x_ash])), (da, .inr (0, [.ref ami, .int cows, .ref aki, .ref afi, .int tasters, .ref anw, .ref apa, .int newest, .int known])), (ami, .inl (G 0, 8, .inl milks)), (anw, .inr (1, [.int mayBe, .int bearer, .int day, .int draw])), (r_tr, .inr (6, [.ref r_aor, .int r_size_1])), (r_aor, .inl (G 0, 8, .inl r_order_1))] H := hP
    replace hD : va_D A [(x_xo, .inr (7, [.ref da, .ref k_da, .int x_isKept, .ref t_ta, .ref p_pl, .ref r_tr, .ref w_ro, .ref x_ash])), (da, .inr (0, [.ref ami, .int cows, .ref aki, .ref afi, .int tasters, .ref anw, .ref apa, .int newest, .int known])), (ami, .inl (G 0, 8, .inl milks)), (anw, .inr (1, [.int mayBe, .int bearer, .int day, .int draw])), (r_tr, .inr (6, [.ref r_aor, .int r_size_1])), (r_aor, .inl (G 0, 8, .inl r_order_1))] := hD
    refine lv_iload_n hx hb dX7_single_19 rfl (lv_at hl 1 rfl) ?_
    refine lv_if_ge (tgt := 61) hx hb dX7_single_20 (by decide) (fun c9 => ?_) (fun c9 => ?_)
    · replace hw := hw.1 c9
      refine lv_iload_n hx hb dX7_single_61 rfl (lv_at hl 1 rfl) ?_
      refine lv_aload_n hx hb dX7_single_62 rfl (lv_at hl 0 rfl) ?_
      refine va_get (D := D) (ci := 7) (v := .ref r_tr) (C := RX7) (T := TX7) (N := 8) hx hb hts inX7 hown hK hP 0 rfl rfl 5 (by decide) fl40 (fun _ h9 => h9) rfl dX7_single_63 ?_
      refine va_get (D := D) (ci := 6) (v := .int r_size_1) (C := RX6) (T := TX6) (N := 2) hx hb hts inX6 hown hK hP 4 rfl rfl 1 (by decide) fl207 (fun _ h9 => h9) rfl dX7_single_66 ?_
      refine lv_icmp_ge (tgt := 84) hx hb dX7_single_69 (by decide) (fun c9 => ?_) (fun c9 => ?_)
      · replace hw := hw.1 c9
        refine lv_bipush (v := -4) hx hb dX7_single_84 (by decide) ?_
        exact W.iret hx hb hr (x_mi (u := (r_size_1, r_order_1)) hP hK hD hS hw) hS.2.2 dX7_single_86
      · replace hw := hw.2 c9
        refine lv_aload_n hx hb dX7_single_72 rfl (lv_at hl 0 rfl) ?_
        refine va_get (D := D) (ci := 7) (v := .ref r_tr) (C := RX7) (T := TX7) (N := 8) hx hb hts inX7 hown hK hP 0 rfl rfl 5 (by decide) fl40 (fun _ h9 => h9) rfl dX7_single_73 ?_
        refine va_get (D := D) (ci := 6) (v := .ref r_aor) (C := RX6) (T := TX6) (N := 2) hx hb hts inX6 hown hK hP 4 rfl rfl 0 (by decide) fl208 (fun _ h9 => h9) rfl dX7_single_76 ?_
        refine lv_iload_n hx hb dX7_single_79 rfl (lv_at hl 1 rfl) ?_
        refine x_iald (j := x1.toNatClampNeg) hx hb hK hP 5 0 rfl rfl rfl hw.1 dX7_single_80 ?_
        replace hw := hw.2
        refine lv_goto (tgt := 86) hx hb dX7_single_81 (by decide) ?_
        exact W.iret hx hb hr (x_mi (u := (r_size_1, r_order_1)) hP hK hD hS hw) hS.2.2 dX7_single_86
    · replace hw := hw.2 c9
      refine lv_aload_n hx hb dX7_single_23 rfl (lv_at hl 0 rfl) ?_
      refine va_get (D := D) (ci := 7) (v := .ref r_tr) (C := RX7) (T := TX7) (N := 8) hx hb hts inX7 hown hK hP 0 rfl rfl 5 (by decide) fl40 (fun _ h9 => h9) rfl dX7_single_24 ?_
      refine lv_aload_n hx hb dX7_single_27 rfl (lv_at hl 0 rfl) ?_
      refine va_get (D := D) (ci := 7) (v := .ref da) (C := RX7) (T := TX7) (N := 8) hx hb hts inX7 hown hK hP 0 rfl rfl 0 (by decide) fl12 (fun _ h9 => h9) rfl dX7_single_28 ?_
      refine vp_callSi (W.runV (As := [.ref da]) (rest := []) ⟨hx, hb, hml, hown, hts⟩ (c_X6_allTrials l D G r_tr r_aor da ami aki afi anw apa r_size_1 r_order_1 cows tasters newest known milks _ hw) (cwV 1 hts gX7_single_X6_allTrials rfl rfl rfl (by decide +kernel) ⟨(Nat.le_of_ble_eq_true rfl), (Nat.le_of_ble_eq_true rfl)⟩) (xR_pv (hP.sub [4, 5, 1, 2] rfl) hK (va_recv hK hP (ci := 6) (q0 := 4) rfl rfl)) rfl rfl hl.1 rfl (lv_room (Nat.le_of_ble_eq_true rfl)) dX7_single_31 ⟨Nat.zero_le _, Nat.zero_le _⟩) (fun r2 hw => ?_)
      refine lv_i2l hx hb dX7_single_34 rfl ?_
      refine lv_aload_n hx hb dX7_single_35 rfl (lv_at hl 0 rfl) ?_
      refine va_get (D := D) (ci := 7) (v := .ref da) (C := RX7) (T := TX7) (N := 8) hx hb hts inX7 hown hK hP 0 rfl rfl 0 (by decide) fl12 (fun _ h9 => h9) rfl dX7_single_36 ?_
      refine lv_aload_n hx hb dX7_single_39 rfl (lv_at hl 0 rfl) ?_
      refine va_get (D := D) (ci := 7) (v := .ref da) (C := RX7) (T := TX7) (N := 8) hx hb hts inX7 hown hK hP 0 rfl rfl 0 (by decide) fl12 (fun _ h9 => h9) rfl dX7_single_40 ?_
      refine va_get (D := D) (ci := 0) (v := .ref anw) (C := RX0) (T := TX0) (N := 9) hx hb hts inX0 hown hK hP 1 rfl rfl 5 (by decide) fl66 (fun _ h9 => h9) rfl dX7_single_43 ?_
      refine va_get (D := D) (ci := 1) (v := .int mayBe) (C := RX1) (T := TX1) (N := 4) hx hb hts inX1 hown hK hP 3 rfl rfl 0 (by decide) fl74 (fun _ h9 => h9) rfl dX7_single_46 ?_
      refine vp_callSi (W.runV (As := [.int mayBe]) (rest := [.long (r2.toInt64)]) ⟨hx, hb, hml, hown, hts⟩ (c_X0_milkOf l D G da ami aki afi anw apa cows tasters newest known milks mayBe _ hw) (cwV 1 hts gX7_single_X0_milkOf rfl rfl rfl (by decide +kernel) ⟨(Nat.le_of_ble_eq_true rfl), (Nat.le_of_ble_eq_true rfl)⟩) (xR_pv (hP.sub [1, 2] rfl) hK (va_recv hK hP (ci := 0) (q0 := 1) rfl rfl)) rfl rfl hl.1 rfl (lv_room (Nat.le_of_ble_eq_true rfl)) dX7_single_49 ⟨Nat.zero_le _, Nat.zero_le _⟩) (fun r3 hw => ?_)
      refine lv_i2l hx hb dX7_single_52 rfl ?_
      refine lv_iconst (v := -1) hx hb dX7_single_53 (by decide) ?_
      refine lv_iload_n hx hb dX7_single_54 rfl (lv_at hl 1 rfl) ?_
      refine lv_isub hx hb dX7_single_55 ?_
      refine vp_callSl (W.runS (As := [.long (r2.toInt64), .long (r3.toInt64), .int ((-1 : Int32) - x1)]) (rest := []) ⟨hx, hb, hml, hown, hts⟩ (c_X7_fraction l D G (r2.toInt64) (r3.toInt64) ((-1 : Int32) - x1) _ hw) (va_cwS 3 hts gX7_single_X7_fraction rfl rfl rfl (by decide +kernel) ⟨(Nat.le_of_ble_eq_true rfl), (Nat.le_of_ble_eq_true rfl)⟩) (xR_ps (hP.sub [] rfl) hK) rfl rfl hl.1 rfl (lv_room (Nat.le_of_ble_eq_true rfl)) dX7_single_56 ⟨Nat.zero_le _, Nat.zero_le _⟩) (fun r4 hw => ?_)
      refine lv_l2i hx hb dX7_single_59 rfl ?_
      exact W.iret hx hb hr (x_mi (u := (r_size_1, r_order_1)) hP hK hD hS hw) hS.2.2 dX7_single_60
  · replace hw := hw.2 c9
    refine lv_iconst (v := -1) hx hb dX7_single_6 (by decide) ?_
    exact W.iret hx hb hr (x_mi (u := (r_size, r_order)) hP hK hD hS hw) hS.2.2 dX7_single_7
set_option maxHeartbeats 4000000 in
set_option maxRecDepth 100000 in
theorem c_X7_share (l : Launch) (D : va_G) (G : Nat → ClassId) (x_xo : Nat) (da : Nat) (k_da : Nat) (t_ta : Nat) (p_pl : Nat) (r_tr : Nat) (w_ro : Nat) (x_ash : Nat) (ami : Nat) (aki : Nat) (afi : Nat) (anw : Nat) (apa : Nat) (x_isKept : Int32) (cows : Int32) (tasters : Int32) (newest : Int32) (known : Int32) (milks : Nat → Int32) (x1 : Int32) (x2 : Int32) (x3 : Int32) (post : Int32 → Prop) (hw : wp_X7_share cows milks x1 x2 x3 post) : Met l yX7_share wsX7_share ({ frames := 4, cells := 0, slots := 0, locals := 102 } : Room) (va_Pc [.ref x_xo, .int x1, .int x2, .int x3] (xR D G [(x_xo, .inr (7, [.ref da, .ref k_da, .int x_isKept, .ref t_ta, .ref p_pl, .ref r_tr, .ref w_ro, .ref x_ash])), (da, .inr (0, [.ref ami, .int cows, .ref aki, .ref afi, .int tasters, .ref anw, .ref apa, .int newest, .int known])), (ami, .inl (G 0, 8, .inl milks))])) (vp_Si post) 0 0 (fun _ => False) := by
  refine Met.ofW (cc := cX7_share) (maxL := 4) (ret := (some .int)) (by decide) rfl ?_
  intro p e s m args below meth c s₁ B hml hv
  obtain ⟨rfl, hP, hK⟩ := hv
  have hx := B.exec
  have hb := B.bytes
  have hr := B.returns
  have hts := atoms_spec (ws := wsX7_share) B.pre
  have hown : s.vm.findClass RX7 = some m.cls := findClass_of_methodNamed B.named
  have hlocks := B.notSynchronized
  have hl := lv_entry ([.ref x_xo, .int x1, .int x2, .int x3] : List Value) (n := 4) (Nat.le_of_ble_eq_true rfl)
  rw [lg_entry_eq]
  generalize (lg_sl ([.ref x_xo, .int x1, .int x2, .int x3] : List Value) ++ List.replicate (4 - (lg_sl ([.ref x_xo, .int x1, .int x2, .int x3] : List Value)).length) Slot.unset).toArray = ls at hl ⊢
  have hl : lv_has ls 4 [(0, .ref x_xo), (1, .int x1), (2, .int x2), (3, .int x3)] := hl
  unfold wp_X7_share at hw
  refine lv_aload_n hx hb dX7_share_0 rfl (lv_at hl 0 rfl) ?_
  refine lv_iload_n hx hb dX7_share_1 rfl (lv_at hl 1 rfl) ?_
  refine vp_callSi (W.runV (As := [.int x1]) (rest := []) ⟨hx, hb, hml, hown, hts⟩ (c_X7_isCow l D G x_xo da k_da t_ta p_pl r_tr w_ro x_ash ami aki afi anw apa x_isKept cows tasters newest known x1 _ hw) (cwV 1 hts gX7_share_X7_isCow rfl rfl rfl (by decide +kernel) ⟨(Nat.le_of_ble_eq_true rfl), (Nat.le_of_ble_eq_true rfl)⟩) (xR_pv (hP.sub [0, 1] rfl) hK (va_recv hK hP (ci := 7) (q0 := 0) rfl rfl)) rfl rfl hl.1 rfl (lv_room (Nat.le_of_ble_eq_true rfl)) dX7_share_2 ⟨Nat.zero_le _, Nat.zero_le _⟩) (fun r1 hw => ?_)
  refine lv_if_eq (tgt := 23) hx hb dX7_share_5 (by decide) (fun c9 => ?_) (fun c9 => ?_)
  · replace hw := hw.1 c9
    refine lv_iconst (v := -1) hx hb dX7_share_23 (by decide) ?_
    exact W.iret hx hb hr (fun t ht _ => ⟨_, rfl, hw, ht⟩) (fun _ h => absurd h List.not_mem_nil) dX7_share_24
  · replace hw := hw.2 c9
    refine lv_aload_n hx hb dX7_share_8 rfl (lv_at hl 0 rfl) ?_
    refine lv_iload_n hx hb dX7_share_9 rfl (lv_at hl 2 rfl) ?_
    refine vp_callSi (W.runV (As := [.int x2]) (rest := []) ⟨hx, hb, hml, hown, hts⟩ (c_X7_isMix l D G x_xo da k_da t_ta p_pl r_tr w_ro x_ash ami aki afi anw apa x_isKept cows tasters newest known x2 _ hw) (cwV 1 hts gX7_share_X7_isMix rfl rfl rfl (by decide +kernel) ⟨(Nat.le_of_ble_eq_true rfl), (Nat.le_of_ble_eq_true rfl)⟩) (xR_pv (hP.sub [0, 1] rfl) hK (va_recv hK hP (ci := 7) (q0 := 0) rfl rfl)) rfl rfl hl.1 rfl (lv_room (Nat.le_of_ble_eq_true rfl)) dX7_share_10 ⟨Nat.zero_le _, Nat.zero_le _⟩) (fun r2 hw => ?_)
    refine lv_if_eq (tgt := 23) hx hb dX7_share_13 (by decide) (fun c9 => ?_) (fun c9 => ?_)
    · replace hw := hw.1 c9
      refine lv_iconst (v := -1) hx hb dX7_share_23 (by decide) ?_
      exact W.iret hx hb hr (fun t ht _ => ⟨_, rfl, hw, ht⟩) (fun _ h => absurd h List.not_mem_nil) dX7_share_24
    · replace hw := hw.2 c9
      refine lv_iload_n hx hb dX7_share_16 rfl (lv_at hl 3 rfl) ?_
      refine vp_callSi (W.runS (As := [.int x3]) (rest := []) ⟨hx, hb, hml, hown, hts⟩ (c_X7_isEither l D G x3 _ hw) (va_cwS 1 hts gX7_share_X7_isEither rfl rfl rfl (by decide +kernel) ⟨(Nat.le_of_ble_eq_true rfl), (Nat.le_of_ble_eq_true rfl)⟩) (xR_ps (hP.sub [] rfl) hK) rfl rfl hl.1 rfl (lv_room (Nat.le_of_ble_eq_true rfl)) dX7_share_17 ⟨Nat.zero_le _, Nat.zero_le _⟩) (fun r3 hw => ?_)
      refine lv_if_ne (tgt := 25) hx hb dX7_share_20 (by decide) (fun c9 => ?_) (fun c9 => ?_)
      · replace hw := hw.1 c9
        refine lv_aload_n hx hb dX7_share_25 rfl (lv_at hl 0 rfl) ?_
        refine lv_iconst (v := 1) hx hb dX7_share_26 (by decide) ?_
        refine lv_iload_n hx hb dX7_share_27 rfl (lv_at hl 1 rfl) ?_
        refine lv_ishl hx hb dX7_share_28 ?_
        refine lv_iload_n hx hb dX7_share_29 rfl (lv_at hl 2 rfl) ?_
        refine lv_iand hx hb dX7_share_30 ?_
        refine lv_iload_n hx hb dX7_share_31 rfl (lv_at hl 2 rfl) ?_
        refine lv_iload_n hx hb dX7_share_32 rfl (lv_at hl 3 rfl) ?_
        refine vp_callSi (W.runV (As := [.int (((1 : Int32) <<< (x1 &&& 31)) &&& x2), .int x2, .int x3]) (rest := []) ⟨hx, hb, hml, hown, hts⟩ (c_X7_milkFraction l D G x_xo da k_da t_ta p_pl r_tr w_ro x_ash ami aki afi anw apa x_isKept cows tasters newest known milks (((1 : Int32) <<< (x1 &&& 31)) &&& x2) x2 x3 _ hw) (cwV 3 hts gX7_share_X7_milkFraction rfl rfl rfl (by decide +kernel) ⟨(Nat.le_of_ble_eq_true rfl), (Nat.le_of_ble_eq_true rfl)⟩) (xR_pv (hP.sub [0, 1, 2] rfl) hK (va_recv hK hP (ci := 7) (q0 := 0) rfl rfl)) rfl rfl hl.1 rfl (lv_room (Nat.le_of_ble_eq_true rfl)) dX7_share_33 ⟨Nat.zero_le _, Nat.zero_le _⟩) (fun r4 hw => ?_)
        exact W.iret hx hb hr (fun t ht _ => ⟨_, rfl, hw, ht⟩) (fun _ h => absurd h List.not_mem_nil) dX7_share_36
      · replace hw := hw.2 c9
        refine lv_iconst (v := -1) hx hb dX7_share_23 (by decide) ?_
        exact W.iret hx hb hr (fun t ht _ => ⟨_, rfl, hw, ht⟩) (fun _ h => absurd h List.not_mem_nil) dX7_share_24
set_option maxHeartbeats 4000000 in
set_option maxRecDepth 100000 in
theorem c_X7_image (l : Launch) (D : va_G) (G : Nat → ClassId) (sz : Nat) (x_xo : Nat) (da : Nat) (k_da : Nat) (t_ta : Nat) (p_pl : Nat) (r_tr : Nat) (w_ro : Nat) (x_ash : Nat) (ami : Nat) (aki : Nat) (afi : Nat) (anw : Nat) (apa : Nat) (pq : Nat → Nat) (k_ami : Nat) (k_aki : Nat) (k_afi : Nat) (k_anw : Nat) (k_apa : Nat) (k_pq : Nat → Nat) (x_isKept : Int32) (cows : Int32) (tasters : Int32) (newest : Int32) (known : Int32) (milks : Nat → Int32) (kinds : Nat → Int32) (fines : Nat → Int32) (mayBe : Int32) (bearer : Int32) (day : Int32) (draw : Int32) (pm : Nat → Int32) (pb : Nat → Int32) (pd : Nat → Int32) (pw : Nat → Int32) (k_cows : Int32) (k_tasters : Int32) (k_newest : Int32) (k_known : Int32) (k_milks : Nat → Int32) (k_kinds : Nat → Int32) (k_fines : Nat → Int32) (k_mayBe : Int32) (k_bearer : Int32) (k_day : Int32) (k_draw : Int32) (k_pm : Nat → Int32) (k_pb : Nat → Int32) (k_pd : Nat → Int32) (k_pw : Nat → Int32) (post : Int32 → Int32 → Int32 → Int32 → Int32 → Int32 → (Nat → Int32) → (Nat → Int32) → (Nat → Int32) → Int32 → Int32 → Int32 → Int32 → (Nat → Int32) → (Nat → Int32) → (Nat → Int32) → (Nat → Int32) → Prop) (hw : wp_X7_image cows tasters newest known milks kinds fines mayBe bearer day draw pm pb pd pw k_milks k_kinds k_fines k_pm k_pb k_pd k_pw post) : Met l yX7_image wsX7_image ({ frames := 2, cells := 0, slots := 0, locals := 48 } : Room) (va_Pc [.ref x_xo] (xM D G sz [(x_xo, .inr (7, [.ref da, .ref k_da, .int x_isKept, .ref t_ta, .ref p_pl, .ref r_tr, .ref w_ro, .ref x_ash])), (da, .inr (0, [.ref ami, .int cows, .ref aki, .ref afi, .int tasters, .ref anw, .ref apa, .int newest, .int known])), (ami, .inl (G 0, 8, .inl milks)), (aki, .inl (G 0, 4, .inl kinds)), (afi, .inl (G 0, 4, .inl fines)), (anw, .inr (1, [.int mayBe, .int bearer, .int day, .int draw])), (apa, .inl (G 4, 8, .inr (.inr (.inr (.inr (fun k => some (pq k))))))), ((pq 0), .inr (1, [.int (pm 0), .int (pb 0), .int (pd 0), .int (pw 0)])), ((pq 1), .inr (1, [.int (pm 1), .int (pb 1), .int (pd 1), .int (pw 1)])), ((pq 2), .inr (1, [.int (pm 2), .int (pb 2), .int (pd 2), .int (pw 2)])), ((pq 3), .inr (1, [.int (pm 3), .int (pb 3), .int (pd 3), .int (pw 3)])), ((pq 4), .inr (1, [.int (pm 4), .int (pb 4), .int (pd 4), .int (pw 4)])), ((pq 5), .inr (1, [.int (pm 5), .int (pb 5), .int (pd 5), .int (pw 5)])), ((pq 6), .inr (1, [.int (pm 6), .int (pb 6), .int (pd 6), .int (pw 6)])), ((pq 7), .inr (1, [.int (pm 7), .int (pb 7), .int (pd 7), .int (pw 7)])), (k_da, .inr (0, [.ref k_ami, .int k_cows, .ref k_aki, .ref k_afi, .int k_tasters, .ref k_anw, .ref k_apa, .int k_newest, .int k_known])), (k_ami, .inl (G 0, 8, .inl k_milks)), (k_aki, .inl (G 0, 4, .inl k_kinds)), (k_afi, .inl (G 0, 4, .inl k_fines)), (k_anw, .inr (1, [.int k_mayBe, .int k_bearer, .int k_day, .int k_draw])), (k_apa, .inl (G 4, 8, .inr (.inr (.inr (.inr (fun k => some (k_pq k))))))), ((k_pq 0), .inr (1, [.int (k_pm 0), .int (k_pb 0), .int (k_pd 0), .int (k_pw 0)])), ((k_pq 1), .inr (1, [.int (k_pm 1), .int (k_pb 1), .int (k_pd 1), .int (k_pw 1)])), ((k_pq 2), .inr (1, [.int (k_pm 2), .int (k_pb 2), .int (k_pd 2), .int (k_pw 2)])), ((k_pq 3), .inr (1, [.int (k_pm 3), .int (k_pb 3), .int (k_pd 3), .int (k_pw 3)])), ((k_pq 4), .inr (1, [.int (k_pm 4), .int (k_pb 4), .int (k_pd 4), .int (k_pw 4)])), ((k_pq 5), .inr (1, [.int (k_pm 5), .int (k_pb 5), .int (k_pd 5), .int (k_pw 5)])), ((k_pq 6), .inr (1, [.int (k_pm 6), .int (k_pb 6), .int (k_pd 6), .int (k_pw 6)])), ((k_pq 7), .inr (1, [.int (k_pm 7), .int (k_pb 7), .int (k_pd 7), .int (k_pw 7)]))])) (va_Qi (fun r (u : Int32 × Int32 × Int32 × Int32 × Int32 × (Nat → Int32) × (Nat → Int32) × (Nat → Int32) × Int32 × Int32 × Int32 × Int32 × (Nat → Int32) × (Nat → Int32) × (Nat → Int32) × (Nat → Int32)) => post r u.1 u.2.1 u.2.2.1 u.2.2.2.1 u.2.2.2.2.1 u.2.2.2.2.2.1 u.2.2.2.2.2.2.1 u.2.2.2.2.2.2.2.1 u.2.2.2.2.2.2.2.2.1 u.2.2.2.2.2.2.2.2.2.1 u.2.2.2.2.2.2.2.2.2.2.1 u.2.2.2.2.2.2.2.2.2.2.2.1 u.2.2.2.2.2.2.2.2.2.2.2.2.1 u.2.2.2.2.2.2.2.2.2.2.2.2.2.1 u.2.2.2.2.2.2.2.2.2.2.2.2.2.2.1 u.2.2.2.2.2.2.2.2.2.2.2.2.2.2.2) (fun u t => xE D G (va_A [(x_xo, .inr (7, [.ref da, .ref k_da, .int x_isKept, .ref t_ta, .ref p_pl, .ref r_tr, .ref w_ro, .ref x_ash])), (da, .inr (0, [.ref ami, .int cows, .ref aki, .ref afi, .int tasters, .ref anw, .ref apa, .int newest, .int known])), (ami, .inl (G 0, 8, .inl milks)), (aki, .inl (G 0, 4, .inl kinds)), (afi, .inl (G 0, 4, .inl fines)), (anw, .inr (1, [.int mayBe, .int bearer, .int day, .int draw])), (apa, .inl (G 4, 8, .inr (.inr (.inr (.inr (fun k => some (pq k))))))), ((pq 0), .inr (1, [.int (pm 0), .int (pb 0), .int (pd 0), .int (pw 0)])), ((pq 1), .inr (1, [.int (pm 1), .int (pb 1), .int (pd 1), .int (pw 1)])), ((pq 2), .inr (1, [.int (pm 2), .int (pb 2), .int (pd 2), .int (pw 2)])), ((pq 3), .inr (1, [.int (pm 3), .int (pb 3), .int (pd 3), .int (pw 3)])), ((pq 4), .inr (1, [.int (pm 4), .int (pb 4), .int (pd 4), .int (pw 4)])), ((pq 5), .inr (1, [.int (pm 5), .int (pb 5), .int (pd 5), .int (pw 5)])), ((pq 6), .inr (1, [.int (pm 6), .int (pb 6), .int (pd 6), .int (pw 6)])), ((pq 7), .inr (1, [.int (pm 7), .int (pb 7), .int (pd 7), .int (pw 7)])), (k_da, .inr (0, [.ref k_ami, .int k_cows, .ref k_aki, .ref k_afi, .int k_tasters, .ref k_anw, .ref k_apa, .int k_newest, .int k_known])), (k_ami, .inl (G 0, 8, .inl k_milks)), (k_aki, .inl (G 0, 4, .inl k_kinds)), (k_afi, .inl (G 0, 4, .inl k_fines)), (k_anw, .inr (1, [.int k_mayBe, .int k_bearer, .int k_day, .int k_draw])), (k_apa, .inl (G 4, 8, .inr (.inr (.inr (.inr (fun k => some (k_pq k))))))), ((k_pq 0), .inr (1, [.int (k_pm 0), .int (k_pb 0), .int (k_pd 0), .int (k_pw 0)])), ((k_pq 1), .inr (1, [.int (k_pm 1), .int (k_pb 1), .int (k_pd 1), .int (k_pw 1)])), ((k_pq 2), .inr (1, [.int (k_pm 2), .int (k_pb 2), .int (k_pd 2), .int (k_pw 2)])), ((k_pq 3), .inr (1, [.int (k_pm 3), .int (k_pb 3), .int (k_pd 3), .int (k_pw 3)])), ((k_pq 4), .inr (1, [.int (k_pm 4), .int (k_pb 4), .int (k_pd 4), .int (k_pw 4)])), ((k_pq 5), .inr (1, [.int (k_pm 5), .int (k_pb 5), .int (k_pd 5), .int (k_pw 5)])), ((k_pq 6), .inr (1, [.int (k_pm 6), .int (k_pb 6), .int (k_pd 6), .int (k_pw 6)])), ((k_pq 7), .inr (1, [.int (k_pm 7), .int (k_pb 7), .int (k_pd 7), .int (k_pw 7)]))] sz) [(x_xo, .inr (7, [.ref da, .ref k_da, .int u.1, .ref t_ta, .ref p_pl, .ref r_tr, .ref w_ro, .ref x_ash])), (da, .inr (0, [.ref ami, .int cows, .ref aki, .ref afi, .int tasters, .ref anw, .ref apa, .int newest, .int known])), (ami, .inl (G 0, 8, .inl milks)), (aki, .inl (G 0, 4, .inl kinds)), (afi, .inl (G 0, 4, .inl fines)), (anw, .inr (1, [.int mayBe, .int bearer, .int day, .int draw])), (apa, .inl (G 4, 8, .inr (.inr (.inr (.inr (fun k => some (pq k))))))), ((pq 0), .inr (1, [.int (pm 0), .int (pb 0), .int (pd 0), .int (pw 0)])), ((pq 1), .inr (1, [.int (pm 1), .int (pb 1), .int (pd 1), .int (pw 1)])), ((pq 2), .inr (1, [.int (pm 2), .int (pb 2), .int (pd 2), .int (pw 2)])), ((pq 3), .inr (1, [.int (pm 3), .int (pb 3), .int (pd 3), .int (pw 3)])), ((pq 4), .inr (1, [.int (pm 4), .int (pb 4), .int (pd 4), .int (pw 4)])), ((pq 5), .inr (1, [.int (pm 5), .int (pb 5), .int (pd 5), .int (pw 5)])), ((pq 6), .inr (1, [.int (pm 6), .int (pb 6), .int (pd 6), .int (pw 6)])), ((pq 7), .inr (1, [.int (pm 7), .int (pb 7), .int (pd 7), .int (pw 7)])), (k_da, .inr (0, [.ref k_ami, .int u.2.1, .ref k_aki, .ref k_afi, .int u.2.2.1, .ref k_anw, .ref k_apa, .int u.2.2.2.1, .int u.2.2.2.2.1])), (k_ami, .inl (G 0, 8, .inl (u.2.2.2.2.2.1))), (k_aki, .inl (G 0, 4, .inl (u.2.2.2.2.2.2.1))), (k_afi, .inl (G 0, 4, .inl (u.2.2.2.2.2.2.2.1))), (k_anw, .inr (1, [.int u.2.2.2.2.2.2.2.2.1, .int u.2.2.2.2.2.2.2.2.2.1, .int u.2.2.2.2.2.2.2.2.2.2.1, .int u.2.2.2.2.2.2.2.2.2.2.2.1])), (k_apa, .inl (G 4, 8, .inr (.inr (.inr (.inr (fun k => some (k_pq k))))))), ((k_pq 0), .inr (1, [.int ((u.2.2.2.2.2.2.2.2.2.2.2.2.1) 0), .int ((u.2.2.2.2.2.2.2.2.2.2.2.2.2.1) 0), .int ((u.2.2.2.2.2.2.2.2.2.2.2.2.2.2.1) 0), .int ((u.2.2.2.2.2.2.2.2.2.2.2.2.2.2.2) 0)])), ((k_pq 1), .inr (1, [.int ((u.2.2.2.2.2.2.2.2.2.2.2.2.1) 1), .int ((u.2.2.2.2.2.2.2.2.2.2.2.2.2.1) 1), .int ((u.2.2.2.2.2.2.2.2.2.2.2.2.2.2.1) 1), .int ((u.2.2.2.2.2.2.2.2.2.2.2.2.2.2.2) 1)])), ((k_pq 2), .inr (1, [.int ((u.2.2.2.2.2.2.2.2.2.2.2.2.1) 2), .int ((u.2.2.2.2.2.2.2.2.2.2.2.2.2.1) 2), .int ((u.2.2.2.2.2.2.2.2.2.2.2.2.2.2.1) 2), .int ((u.2.2.2.2.2.2.2.2.2.2.2.2.2.2.2) 2)])), ((k_pq 3), .inr (1, [.int ((u.2.2.2.2.2.2.2.2.2.2.2.2.1) 3), .int ((u.2.2.2.2.2.2.2.2.2.2.2.2.2.1) 3), .int ((u.2.2.2.2.2.2.2.2.2.2.2.2.2.2.1) 3), .int ((u.2.2.2.2.2.2.2.2.2.2.2.2.2.2.2) 3)])), ((k_pq 4), .inr (1, [.int ((u.2.2.2.2.2.2.2.2.2.2.2.2.1) 4), .int ((u.2.2.2.2.2.2.2.2.2.2.2.2.2.1) 4), .int ((u.2.2.2.2.2.2.2.2.2.2.2.2.2.2.1) 4), .int ((u.2.2.2.2.2.2.2.2.2.2.2.2.2.2.2) 4)])), ((k_pq 5), .inr (1, [.int ((u.2.2.2.2.2.2.2.2.2.2.2.2.1) 5), .int ((u.2.2.2.2.2.2.2.2.2.2.2.2.2.1) 5), .int ((u.2.2.2.2.2.2.2.2.2.2.2.2.2.2.1) 5), .int ((u.2.2.2.2.2.2.2.2.2.2.2.2.2.2.2) 5)])), ((k_pq 6), .inr (1, [.int ((u.2.2.2.2.2.2.2.2.2.2.2.2.1) 6), .int ((u.2.2.2.2.2.2.2.2.2.2.2.2.2.1) 6), .int ((u.2.2.2.2.2.2.2.2.2.2.2.2.2.2.1) 6), .int ((u.2.2.2.2.2.2.2.2.2.2.2.2.2.2.2) 6)])), ((k_pq 7), .inr (1, [.int ((u.2.2.2.2.2.2.2.2.2.2.2.2.1) 7), .int ((u.2.2.2.2.2.2.2.2.2.2.2.2.2.1) 7), .int ((u.2.2.2.2.2.2.2.2.2.2.2.2.2.2.1) 7), .int ((u.2.2.2.2.2.2.2.2.2.2.2.2.2.2.2) 7)]))] t) (va_A [(x_xo, .inr (7, [.ref da, .ref k_da, .int x_isKept, .ref t_ta, .ref p_pl, .ref r_tr, .ref w_ro, .ref x_ash])), (da, .inr (0, [.ref ami, .int cows, .ref aki, .ref afi, .int tasters, .ref anw, .ref apa, .int newest, .int known])), (ami, .inl (G 0, 8, .inl milks)), (aki, .inl (G 0, 4, .inl kinds)), (afi, .inl (G 0, 4, .inl fines)), (anw, .inr (1, [.int mayBe, .int bearer, .int day, .int draw])), (apa, .inl (G 4, 8, .inr (.inr (.inr (.inr (fun k => some (pq k))))))), ((pq 0), .inr (1, [.int (pm 0), .int (pb 0), .int (pd 0), .int (pw 0)])), ((pq 1), .inr (1, [.int (pm 1), .int (pb 1), .int (pd 1), .int (pw 1)])), ((pq 2), .inr (1, [.int (pm 2), .int (pb 2), .int (pd 2), .int (pw 2)])), ((pq 3), .inr (1, [.int (pm 3), .int (pb 3), .int (pd 3), .int (pw 3)])), ((pq 4), .inr (1, [.int (pm 4), .int (pb 4), .int (pd 4), .int (pw 4)])), ((pq 5), .inr (1, [.int (pm 5), .int (pb 5), .int (pd 5), .int (pw 5)])), ((pq 6), .inr (1, [.int (pm 6), .int (pb 6), .int (pd 6), .int (pw 6)])), ((pq 7), .inr (1, [.int (pm 7), .int (pb 7), .int (pd 7), .int (pw 7)])), (k_da, .inr (0, [.ref k_ami, .int k_cows, .ref k_aki, .ref k_afi, .int k_tasters, .ref k_anw, .ref k_apa, .int k_newest, .int k_known])), (k_ami, .inl (G 0, 8, .inl k_milks)), (k_aki, .inl (G 0, 4, .inl k_kinds)), (k_afi, .inl (G 0, 4, .inl k_fines)), (k_anw, .inr (1, [.int k_mayBe, .int k_bearer, .int k_day, .int k_draw])), (k_apa, .inl (G 4, 8, .inr (.inr (.inr (.inr (fun k => some (k_pq k))))))), ((k_pq 0), .inr (1, [.int (k_pm 0), .int (k_pb 0), .int (k_pd 0), .int (k_pw 0)])), ((k_pq 1), .inr (1, [.int (k_pm 1), .int (k_pb 1), .int (k_pd 1), .int (k_pw 1)])), ((k_pq 2), .inr (1, [.int (k_pm 2), .int (k_pb 2), .int (k_pd 2), .int (k_pw 2)])), ((k_pq 3), .inr (1, [.int (k_pm 3), .int (k_pb 3), .int (k_pd 3), .int (k_pw 3)])), ((k_pq 4), .inr (1, [.int (k_pm 4), .int (k_pb 4), .int (k_pd 4), .int (k_pw 4)])), ((k_pq 5), .inr (1, [.int (k_pm 5), .int (k_pb 5), .int (k_pd 5), .int (k_pw 5)])), ((k_pq 6), .inr (1, [.int (k_pm 6), .int (k_pb 6), .int (k_pd 6), .int (k_pw 6)])), ((k_pq 7), .inr (1, [.int (k_pm 7), .int (k_pb 7), .int (k_pd 7), .int (k_pw 7)]))] sz)) 0 0 (va_A [(x_xo, .inr (7, [.ref da, .ref k_da, .int x_isKept, .ref t_ta, .ref p_pl, .ref r_tr, .ref w_ro, .ref x_ash])), (da, .inr (0, [.ref ami, .int cows, .ref aki, .ref afi, .int tasters, .ref anw, .ref apa, .int newest, .int known])), (ami, .inl (G 0, 8, .inl milks)), (aki, .inl (G 0, 4, .inl kinds)), (afi, .inl (G 0, 4, .inl fines)), (anw, .inr (1, [.int mayBe, .int bearer, .int day, .int draw])), (apa, .inl (G 4, 8, .inr (.inr (.inr (.inr (fun k => some (pq k))))))), ((pq 0), .inr (1, [.int (pm 0), .int (pb 0), .int (pd 0), .int (pw 0)])), ((pq 1), .inr (1, [.int (pm 1), .int (pb 1), .int (pd 1), .int (pw 1)])), ((pq 2), .inr (1, [.int (pm 2), .int (pb 2), .int (pd 2), .int (pw 2)])), ((pq 3), .inr (1, [.int (pm 3), .int (pb 3), .int (pd 3), .int (pw 3)])), ((pq 4), .inr (1, [.int (pm 4), .int (pb 4), .int (pd 4), .int (pw 4)])), ((pq 5), .inr (1, [.int (pm 5), .int (pb 5), .int (pd 5), .int (pw 5)])), ((pq 6), .inr (1, [.int (pm 6), .int (pb 6), .int (pd 6), .int (pw 6)])), ((pq 7), .inr (1, [.int (pm 7), .int (pb 7), .int (pd 7), .int (pw 7)])), (k_da, .inr (0, [.ref k_ami, .int k_cows, .ref k_aki, .ref k_afi, .int k_tasters, .ref k_anw, .ref k_apa, .int k_newest, .int k_known])), (k_ami, .inl (G 0, 8, .inl k_milks)), (k_aki, .inl (G 0, 4, .inl k_kinds)), (k_afi, .inl (G 0, 4, .inl k_fines)), (k_anw, .inr (1, [.int k_mayBe, .int k_bearer, .int k_day, .int k_draw])), (k_apa, .inl (G 4, 8, .inr (.inr (.inr (.inr (fun k => some (k_pq k))))))), ((k_pq 0), .inr (1, [.int (k_pm 0), .int (k_pb 0), .int (k_pd 0), .int (k_pw 0)])), ((k_pq 1), .inr (1, [.int (k_pm 1), .int (k_pb 1), .int (k_pd 1), .int (k_pw 1)])), ((k_pq 2), .inr (1, [.int (k_pm 2), .int (k_pb 2), .int (k_pd 2), .int (k_pw 2)])), ((k_pq 3), .inr (1, [.int (k_pm 3), .int (k_pb 3), .int (k_pd 3), .int (k_pw 3)])), ((k_pq 4), .inr (1, [.int (k_pm 4), .int (k_pb 4), .int (k_pd 4), .int (k_pw 4)])), ((k_pq 5), .inr (1, [.int (k_pm 5), .int (k_pb 5), .int (k_pd 5), .int (k_pw 5)])), ((k_pq 6), .inr (1, [.int (k_pm 6), .int (k_pb 6), .int (k_pd 6), .int (k_pw 6)])), ((k_pq 7), .inr (1, [.int (k_pm 7), .int (k_pb 7), .int (k_pd 7), .int (k_pw 7)]))] sz) := by
  refine Met.ofW (cc := cX7_image) (maxL := 1) (ret := (some .int)) (by decide) rfl ?_
  intro p e s m args below meth c s₁ B hml hv
  obtain ⟨rfl, hsz, hP, hK, hD0⟩ := hv
  have hx := B.exec
  have hb := B.bytes
  have hr := B.returns
  have hts := atoms_spec (ws := wsX7_image) B.pre
  have hown : s.vm.findClass RX7 = some m.cls := findClass_of_methodNamed B.named
  have hlocks := B.notSynchronized
  subst hsz
  have hD := hD0.self (sz := s.heap.size)
  generalize hAe : va_A [(x_xo, .inr (7, [.ref da, .ref k_da, .int x_isKept, .ref t_ta, .ref p_pl, .ref r_tr, .ref w_ro, .ref x_ash])), (da, .inr (0, [.ref ami, .int cows, .ref aki, .ref afi, .int tasters, .ref anw, .ref apa, .int newest, .int known])), (ami, .inl (G 0, 8, .inl milks)), (aki, .inl (G 0, 4, .inl kinds)), (afi, .inl (G 0, 4, .inl fines)), (anw, .inr (1, [.int mayBe, .int bearer, .int day, .int draw])), (apa, .inl (G 4, 8, .inr (.inr (.inr (.inr (fun k => some (pq k))))))), ((pq 0), .inr (1, [.int (pm 0), .int (pb 0), .int (pd 0), .int (pw 0)])), ((pq 1), .inr (1, [.int (pm 1), .int (pb 1), .int (pd 1), .int (pw 1)])), ((pq 2), .inr (1, [.int (pm 2), .int (pb 2), .int (pd 2), .int (pw 2)])), ((pq 3), .inr (1, [.int (pm 3), .int (pb 3), .int (pd 3), .int (pw 3)])), ((pq 4), .inr (1, [.int (pm 4), .int (pb 4), .int (pd 4), .int (pw 4)])), ((pq 5), .inr (1, [.int (pm 5), .int (pb 5), .int (pd 5), .int (pw 5)])), ((pq 6), .inr (1, [.int (pm 6), .int (pb 6), .int (pd 6), .int (pw 6)])), ((pq 7), .inr (1, [.int (pm 7), .int (pb 7), .int (pd 7), .int (pw 7)])), (k_da, .inr (0, [.ref k_ami, .int k_cows, .ref k_aki, .ref k_afi, .int k_tasters, .ref k_anw, .ref k_apa, .int k_newest, .int k_known])), (k_ami, .inl (G 0, 8, .inl k_milks)), (k_aki, .inl (G 0, 4, .inl k_kinds)), (k_afi, .inl (G 0, 4, .inl k_fines)), (k_anw, .inr (1, [.int k_mayBe, .int k_bearer, .int k_day, .int k_draw])), (k_apa, .inl (G 4, 8, .inr (.inr (.inr (.inr (fun k => some (k_pq k))))))), ((k_pq 0), .inr (1, [.int (k_pm 0), .int (k_pb 0), .int (k_pd 0), .int (k_pw 0)])), ((k_pq 1), .inr (1, [.int (k_pm 1), .int (k_pb 1), .int (k_pd 1), .int (k_pw 1)])), ((k_pq 2), .inr (1, [.int (k_pm 2), .int (k_pb 2), .int (k_pd 2), .int (k_pw 2)])), ((k_pq 3), .inr (1, [.int (k_pm 3), .int (k_pb 3), .int (k_pd 3), .int (k_pw 3)])), ((k_pq 4), .inr (1, [.int (k_pm 4), .int (k_pb 4), .int (k_pd 4), .int (k_pw 4)])), ((k_pq 5), .inr (1, [.int (k_pm 5), .int (k_pb 5), .int (k_pd 5), .int (k_pw 5)])), ((k_pq 6), .inr (1, [.int (k_pm 6), .int (k_pb 6), .int (k_pd 6), .int (k_pw 6)])), ((k_pq 7), .inr (1, [.int (k_pm 7), .int (k_pb 7), .int (k_pd 7), .int (k_pw 7)]))] s.heap.size = A at hD ⊢
  have hA : ∀ q : Nat, s.heap.size ≤ q → A q := fun q h => by rw [← hAe]; exact Or.inr h
  have hS : va_S A s.heap s.heap [] := va_S.rf
  have inX7 : ∀ w ∈ wsX70, w ∈ wsX7_image := by decide +kernel
  have fl16 := hts (.fieldLink RX7 16 "NewsCow" "kept" "LNewsCow$Dairy;") (by decide +kernel)
  have fl12 := hts (.fieldLink RX7 12 "NewsCow" "dairy" "LNewsCow$Dairy;") (by decide +kernel)
  have fl19 := hts (.fieldLink RX7 19 "NewsCow" "isKept" "Z") (by decide +kernel)
  have hl := lv_entry ([.ref x_xo] : List Value) (n := 1) (Nat.le_of_ble_eq_true rfl)
  rw [lg_entry_eq]
  generalize (lg_sl ([.ref x_xo] : List Value) ++ List.replicate (1 - (lg_sl ([.ref x_xo] : List Value)).length) Slot.unset).toArray = ls at hl ⊢
  have hl : lv_has ls 1 [(0, .ref x_xo)] := hl
  unfold wp_X7_image at hw
  refine lv_aload_n hx hb dX7_image_0 rfl (lv_at hl 0 rfl) ?_
  refine va_get (D := D) (ci := 7) (v := .ref k_da) (C := RX7) (T := TX7) (N := 8) hx hb hts inX7 hown hK hP 0 rfl rfl 1 (by decide) fl16 (fun _ h9 => h9) rfl dX7_image_1 ?_
  refine lv_aload_n hx hb dX7_image_4 rfl (lv_at hl 0 rfl) ?_
  refine va_get (D := D) (ci := 7) (v := .ref da) (C := RX7) (T := TX7) (N := 8) hx hb hts inX7 hown hK hP 0 rfl rfl 0 (by decide) fl12 (fun _ h9 => h9) rfl dX7_image_5 ?_
  refine x_cMv (wr := [(x_xo, .inr (7, [.ref da, .ref k_da, .int x_isKept, .ref t_ta, .ref p_pl, .ref r_tr, .ref w_ro, .ref x_ash]))]) (va_runV (As := [.ref da]) (rest := []) ⟨hx, hb, hml, hown, hts⟩ (c_X0_becomeLike l D G _ k_da k_ami k_aki k_afi k_anw k_apa k_pq da ami aki afi anw apa pq k_cows k_tasters k_newest k_known k_milks k_kinds k_fines k_mayBe k_bearer k_day k_draw k_pm k_pb k_pd k_pw cows tasters newest known milks kinds fines mayBe bearer day draw pm pb pd pw _ hw) (cwV 1 hts gX7_image_X0_becomeLike rfl rfl rfl (by decide +kernel) ⟨(Nat.le_of_ble_eq_true rfl), (Nat.le_of_ble_eq_true rfl)⟩) (xM_pv (hP.sub [15, 16, 17, 18, 19, 20, 21, 22, 23, 24, 25, 26, 27, 28, 1, 2, 3, 4, 5, 6, 7, 8, 9, 10, 11, 12, 13, 14] rfl) hK (hD.sub [15, 16, 17, 18, 19, 20, 21, 22, 23, 24, 25, 26, 27, 28, 1, 2, 3, 4, 5, 6, 7, 8, 9, 10, 11, 12, 13, 14] (by decide) rfl) (va_recv hK hP (ci := 0) (q0 := 15) rfl rfl)) rfl rfl hl.1 rfl (lv_room (Nat.le_of_ble_eq_true rfl)) dX7_image_8 ⟨Nat.zero_le _, Nat.zero_le _⟩) hP hD hS hA [15, 16, 17, 18, 19, 20, 21, 22, 23, 24, 25, 26, 27, 28, 1, 2, 3, 4, 5, 6, 7, 8, 9, 10, 11, 12, 13, 14] [0] rfl rfl (by decide) (by decide) [0, 15, 16, 17, 18, 19, 20, 21, 22, 23, 24, 25, 26, 27, 28, 1, 2, 3, 4, 5, 6, 7, 8, 9, 10, 11, 12, 13, 14] (fun u => [(x_xo, .inr (7, [.ref da, .ref k_da, .int x_isKept, .ref t_ta, .ref p_pl, .ref r_tr, .ref w_ro, .ref x_ash])), (da, .inr (0, [.ref ami, .int cows, .ref aki, .ref afi, .int tasters, .ref anw, .ref apa, .int newest, .int known])), (ami, .inl (G 0, 8, .inl milks)), (aki, .inl (G 0, 4, .inl kinds)), (afi, .inl (G 0, 4, .inl fines)), (anw, .inr (1, [.int mayBe, .int bearer, .int day, .int draw])), (apa, .inl (G 4, 8, .inr (.inr (.inr (.inr (fun k => some (pq k))))))), ((pq 0), .inr (1, [.int (pm 0), .int (pb 0), .int (pd 0), .int (pw 0)])), ((pq 1), .inr (1, [.int (pm 1), .int (pb 1), .int (pd 1), .int (pw 1)])), ((pq 2), .inr (1, [.int (pm 2), .int (pb 2), .int (pd 2), .int (pw 2)])), ((pq 3), .inr (1, [.int (pm 3), .int (pb 3), .int (pd 3), .int (pw 3)])), ((pq 4), .inr (1, [.int (pm 4), .int (pb 4), .int (pd 4), .int (pw 4)])), ((pq 5), .inr (1, [.int (pm 5), .int (pb 5), .int (pd 5), .int (pw 5)])), ((pq 6), .inr (1, [.int (pm 6), .int (pb 6), .int (pd 6), .int (pw 6)])), ((pq 7), .inr (1, [.int (pm 7), .int (pb 7), .int (pd 7), .int (pw 7)])), (k_da, .inr (0, [.ref k_ami, .int u.1, .ref k_aki, .ref k_afi, .int u.2.1, .ref k_anw, .ref k_apa, .int u.2.2.1, .int u.2.2.2.1])), (k_ami, .inl (G 0, 8, .inl (u.2.2.2.2.1))), (k_aki, .inl (G 0, 4, .inl (u.2.2.2.2.2.1))), (k_afi, .inl (G 0, 4, .inl (u.2.2.2.2.2.2.1))), (k_anw, .inr (1, [.int u.2.2.2.2.2.2.2.1, .int u.2.2.2.2.2.2.2.2.1, .int u.2.2.2.2.2.2.2.2.2.1, .int u.2.2.2.2.2.2.2.2.2.2.1])), (k_apa, .inl (G 4, 8, .inr (.inr (.inr (.inr (fun k => some (k_pq k))))))), ((k_pq 0), .inr (1, [.int ((u.2.2.2.2.2.2.2.2.2.2.2.1) 0), .int ((u.2.2.2.2.2.2.2.2.2.2.2.2.1) 0), .int ((u.2.2.2.2.2.2.2.2.2.2.2.2.2.1) 0), .int ((u.2.2.2.2.2.2.2.2.2.2.2.2.2.2) 0)])), ((k_pq 1), .inr (1, [.int ((u.2.2.2.2.2.2.2.2.2.2.2.1) 1), .int ((u.2.2.2.2.2.2.2.2.2.2.2.2.1) 1), .int ((u.2.2.2.2.2.2.2.2.2.2.2.2.2.1) 1), .int ((u.2.2.2.2.2.2.2.2.2.2.2.2.2.2) 1)])), ((k_pq 2), .inr (1, [.int ((u.2.2.2.2.2.2.2.2.2.2.2.1) 2), .int ((u.2.2.2.2.2.2.2.2.2.2.2.2.1) 2), .int ((u.2.2.2.2.2.2.2.2.2.2.2.2.2.1) 2), .int ((u.2.2.2.2.2.2.2.2.2.2.2.2.2.2) 2)])), ((k_pq 3), .inr (1, [.int ((u.2.2.2.2.2.2.2.2.2.2.2.1) 3), .int ((u.2.2.2.2.2.2.2.2.2.2.2.2.1) 3), .int ((u.2.2.2.2.2.2.2.2.2.2.2.2.2.1) 3), .int ((u.2.2.2.2.2.2.2.2.2.2.2.2.2.2) 3)])), ((k_pq 4), .inr (1, [.int ((u.2.2.2.2.2.2.2.2.2.2.2.1) 4), .int ((u.2.2.2.2.2.2.2.2.2.2.2.2.1) 4), .int ((u.2.2.2.2.2.2.2.2.2.2.2.2.2.1) 4), .int ((u.2.2.2.2.2.2.2.2.2.2.2.2.2.2) 4)])), ((k_pq 5), .inr (1, [.int ((u.2.2.2.2.2.2.2.2.2.2.2.1) 5), .int ((u.2.2.2.2.2.2.2.2.2.2.2.2.1) 5), .int ((u.2.2.2.2.2.2.2.2.2.2.2.2.2.1) 5), .int ((u.2.2.2.2.2.2.2.2.2.2.2.2.2.2) 5)])), ((k_pq 6), .inr (1, [.int ((u.2.2.2.2.2.2.2.2.2.2.2.1) 6), .int ((u.2.2.2.2.2.2.2.2.2.2.2.2.1) 6), .int ((u.2.2.2.2.2.2.2.2.2.2.2.2.2.1) 6), .int ((u.2.2.2.2.2.2.2.2.2.2.2.2.2.2) 6)])), ((k_pq 7), .inr (1, [.int ((u.2.2.2.2.2.2.2.2.2.2.2.1) 7), .int ((u.2.2.2.2.2.2.2.2.2.2.2.2.1) 7), .int ((u.2.2.2.2.2.2.2.2.2.2.2.2.2.1) 7), .int ((u.2.2.2.2.2.2.2.2.2.2.2.2.2.2) 7)]))]) (by decide) (fun u => rfl) (fun u H locs hw hP hD hS => ?_)
  obtain ⟨cows_1, tasters_1, newest_1, known_1, milks_1, kinds_1, fines_1, mayBe_1, bearer_1, day_1, draw_1, pm_1, pb_1, pd_1, pw_1⟩ := u
  try dsimp only at hw
  replace hP : va_P D vwCl [(x_xo, .inr (7, [.ref da, .ref k_da, .int x_isKept, .ref t_ta, .ref p_pl, .ref r_tr, .ref w_ro, .ref x_ash])), (da, .inr (0, [.ref ami, .int cows, .ref aki, .ref afi, .int tasters, .ref anw, .ref apa, .int newest, .int known])), (ami, .inl (G 0, 8, .inl milks)), (aki, .inl (G 0, 4, .inl kinds)), (afi, .inl (G 0, 4, .inl fines)), (anw, .inr (1, [.int mayBe, .int bearer, .int day, .int draw])), (apa, .inl (G 4, 8, .inr (.inr (.inr (.inr (fun k => some (pq k))))))), ((pq 0), .inr (1, [.int (pm 0), .int (pb 0), .int (pd 0), .int (pw 0)])), ((pq 1), .inr (1, [.int (pm 1), .int (pb 1), .int (pd 1), .int (pw 1)])), ((pq 2), .inr (1, [.int (pm 2), .int (pb 2), .int (pd 2), .int (pw 2)])), ((pq 3), .inr (1, [.int (pm 3), .int (pb 3), .int (pd 3), .int (pw 3)])), ((pq 4), .inr (1, [.int (pm 4), .int (pb 4), .int (pd 4), .int (pw 4)])), ((pq 5), .inr (1, [.int (pm 5), .int (pb 5), .int (pd 5), .int (pw 5)])), ((pq 6), .inr (1, [.int (pm 6), .int (pb 6), .int (pd 6), .int (pw 6)])), ((pq 7), .inr (1, [.int (pm 7), .int (pb 7), .int (pd 7), .int (pw 7)])), (k_da, .inr (0, [.ref k_ami, .int cows_1, .ref k_aki, .ref k_afi, .int tasters_1, .ref k_anw, .ref k_apa, .int newest_1, .int known_1])), (k_ami, .inl (G 0, 8, .inl milks_1)), (k_aki, .inl (G 0, 4, .inl kinds_1)), (k_afi, .inl (G 0, 4, .inl fines_1)), (k_anw, .inr (1, [.int mayBe_1, .int bearer_1, .int day_1, .int draw_1])), (k_apa, .inl (G 4, 8, .inr (.inr (.inr (.inr (fun k => some (k_pq k))))))), ((k_pq 0), .inr (1, [.int (pm_1 0), .int (pb_1 0), .int (pd_1 0), .int (pw_1 0)])), ((k_pq 1), .inr (1, [.int (pm_1 1), .int (pb_1 1), .int (pd_1 1), .int (pw_1 1)])), ((k_pq 2), .inr (1, [.int (pm_1 2), .int (pb_1 2), .int (pd_1 2), .int (pw_1 2)])), ((k_pq 3), .inr (1, [.int (pm_1 3), .int (pb_1 3), .int (pd_1 3), .int (pw_1 3)])), ((k_pq 4), .inr (1, [.int (pm_1 4), .int (pb_1 4), .int (pd_1 4), .int (pw_1 4)])), ((k_pq 5), .inr (1, [.int (pm_1 5), .int (pb_1 5), .int (pd_1 5), .int (pw_1 5)])), ((k_pq 6), .inr (1, [.int (pm_1 6), .int (pb_1 6), .int (pd_1 6), .int (pw_1 6)])), ((k_pq 7), .inr (1, [.int (pm_1 7), .int (pb_1 7), .int (pd_1 7), .int (pw_1 7)]))] H := hP
  replace hD : va_D A [(x_xo, .inr (7, [.ref da, .ref k_da, .int x_isKept, .ref t_ta, .ref p_pl, .ref r_tr, .ref w_ro, .ref x_ash])), (da, .inr (0, [.ref ami, .int cows, .ref aki, .ref afi, .int tasters, .ref anw, .ref apa, .int newest, .int known])), (ami, .inl (G 0, 8, .inl milks)), (aki, .inl (G 0, 4, .inl kinds)), (afi, .inl (G 0, 4, .inl fines)), (anw, .inr (1, [.int mayBe, .int bearer, .int day, .int draw])), (apa, .inl (G 4, 8, .inr (.inr (.inr (.inr (fun k => some (pq k))))))), ((pq 0), .inr (1, [.int (pm 0), .int (pb 0), .int (pd 0), .int (pw 0)])), ((pq 1), .inr (1, [.int (pm 1), .int (pb 1), .int (pd 1), .int (pw 1)])), ((pq 2), .inr (1, [.int (pm 2), .int (pb 2), .int (pd 2), .int (pw 2)])), ((pq 3), .inr (1, [.int (pm 3), .int (pb 3), .int (pd 3), .int (pw 3)])), ((pq 4), .inr (1, [.int (pm 4), .int (pb 4), .int (pd 4), .int (pw 4)])), ((pq 5), .inr (1, [.int (pm 5), .int (pb 5), .int (pd 5), .int (pw 5)])), ((pq 6), .inr (1, [.int (pm 6), .int (pb 6), .int (pd 6), .int (pw 6)])), ((pq 7), .inr (1, [.int (pm 7), .int (pb 7), .int (pd 7), .int (pw 7)])), (k_da, .inr (0, [.ref k_ami, .int cows_1, .ref k_aki, .ref k_afi, .int tasters_1, .ref k_anw, .ref k_apa, .int newest_1, .int known_1])), (k_ami, .inl (G 0, 8, .inl milks_1)), (k_aki, .inl (G 0, 4, .inl kinds_1)), (k_afi, .inl (G 0, 4, .inl fines_1)), (k_anw, .inr (1, [.int mayBe_1, .int bearer_1, .int day_1, .int draw_1])), (k_apa, .inl (G 4, 8, .inr (.inr (.inr (.inr (fun k => some (k_pq k))))))), ((k_pq 0), .inr (1, [.int (pm_1 0), .int (pb_1 0), .int (pd_1 0), .int (pw_1 0)])), ((k_pq 1), .inr (1, [.int (pm_1 1), .int (pb_1 1), .int (pd_1 1), .int (pw_1 1)])), ((k_pq 2), .inr (1, [.int (pm_1 2), .int (pb_1 2), .int (pd_1 2), .int (pw_1 2)])), ((k_pq 3), .inr (1, [.int (pm_1 3), .int (pb_1 3), .int (pd_1 3), .int (pw_1 3)])), ((k_pq 4), .inr (1, [.int (pm_1 4), .int (pb_1 4), .int (pd_1 4), .int (pw_1 4)])), ((k_pq 5), .inr (1, [.int (pm_1 5), .int (pb_1 5), .int (pd_1 5), .int (pw_1 5)])), ((k_pq 6), .inr (1, [.int (pm_1 6), .int (pb_1 6), .int (pd_1 6), .int (pw_1 6)])), ((k_pq 7), .inr (1, [.int (pm_1 7), .int (pb_1 7), .int (pd_1 7), .int (pw_1 7)]))] := hD
  refine lv_aload_n hx hb dX7_image_11 rfl (lv_at hl 0 rfl) ?_
  refine lv_iconst (v := 1) hx hb dX7_image_12 (by decide) ?_
  refine va_put (D := D) (ci := 7) (v := .int (1 : Int32)) (ty := .boolean) (C := RX7) (T := TX7) (N := 8) hx hb hts inX7 tyX7 tyX7_ok nmX7 hown hK hP hD hS 0 rfl rfl 2 (by decide) fl19 (fun _ h9 => h9) rfl (by decide +kernel) rfl rfl (Nat.le_of_ble_eq_true rfl) dX7_image_13 (fun H locs hP hD hS => ?_)
  replace hP : va_P D vwCl [(x_xo, .inr (7, [.ref da, .ref k_da, .int (1 : Int32), .ref t_ta, .ref p_pl, .ref r_tr, .ref w_ro, .ref x_ash])), (da, .inr (0, [.ref ami, .int cows, .ref aki, .ref afi, .int tasters, .ref anw, .ref apa, .int newest, .int known])), (ami, .inl (G 0, 8, .inl milks)), (aki, .inl (G 0, 4, .inl kinds)), (afi, .inl (G 0, 4, .inl fines)), (anw, .inr (1, [.int mayBe, .int bearer, .int day, .int draw])), (apa, .inl (G 4, 8, .inr (.inr (.inr (.inr (fun k => some (pq k))))))), ((pq 0), .inr (1, [.int (pm 0), .int (pb 0), .int (pd 0), .int (pw 0)])), ((pq 1), .inr (1, [.int (pm 1), .int (pb 1), .int (pd 1), .int (pw 1)])), ((pq 2), .inr (1, [.int (pm 2), .int (pb 2), .int (pd 2), .int (pw 2)])), ((pq 3), .inr (1, [.int (pm 3), .int (pb 3), .int (pd 3), .int (pw 3)])), ((pq 4), .inr (1, [.int (pm 4), .int (pb 4), .int (pd 4), .int (pw 4)])), ((pq 5), .inr (1, [.int (pm 5), .int (pb 5), .int (pd 5), .int (pw 5)])), ((pq 6), .inr (1, [.int (pm 6), .int (pb 6), .int (pd 6), .int (pw 6)])), ((pq 7), .inr (1, [.int (pm 7), .int (pb 7), .int (pd 7), .int (pw 7)])), (k_da, .inr (0, [.ref k_ami, .int cows_1, .ref k_aki, .ref k_afi, .int tasters_1, .ref k_anw, .ref k_apa, .int newest_1, .int known_1])), (k_ami, .inl (G 0, 8, .inl milks_1)), (k_aki, .inl (G 0, 4, .inl kinds_1)), (k_afi, .inl (G 0, 4, .inl fines_1)), (k_anw, .inr (1, [.int mayBe_1, .int bearer_1, .int day_1, .int draw_1])), (k_apa, .inl (G 4, 8, .inr (.inr (.inr (.inr (fun k => some (k_pq k))))))), ((k_pq 0), .inr (1, [.int (pm_1 0), .int (pb_1 0), .int (pd_1 0), .int (pw_1 0)])), ((k_pq 1), .inr (1, [.int (pm_1 1), .int (pb_1 1), .int (pd_1 1), .int (pw_1 1)])), ((k_pq 2), .inr (1, [.int (pm_1 2), .int (pb_1 2), .int (pd_1 2), .int (pw_1 2)])), ((k_pq 3), .inr (1, [.int (pm_1 3), .int (pb_1 3), .int (pd_1 3), .int (pw_1 3)])), ((k_pq 4), .inr (1, [.int (pm_1 4), .int (pb_1 4), .int (pd_1 4), .int (pw_1 4)])), ((k_pq 5), .inr (1, [.int (pm_1 5), .int (pb_1 5), .int (pd_1 5), .int (pw_1 5)])), ((k_pq 6), .inr (1, [.int (pm_1 6), .int (pb_1 6), .int (pd_1 6), .int (pw_1 6)])), ((k_pq 7), .inr (1, [.int (pm_1 7), .int (pb_1 7), .int (pd_1 7), .int (pw_1 7)]))] H := hP
  replace hD : va_D A [(x_xo, .inr (7, [.ref da, .ref k_da, .int (1 : Int32), .ref t_ta, .ref p_pl, .ref r_tr, .ref w_ro, .ref x_ash])), (da, .inr (0, [.ref ami, .int cows, .ref aki, .ref afi, .int tasters, .ref anw, .ref apa, .int newest, .int known])), (ami, .inl (G 0, 8, .inl milks)), (aki, .inl (G 0, 4, .inl kinds)), (afi, .inl (G 0, 4, .inl fines)), (anw, .inr (1, [.int mayBe, .int bearer, .int day, .int draw])), (apa, .inl (G 4, 8, .inr (.inr (.inr (.inr (fun k => some (pq k))))))), ((pq 0), .inr (1, [.int (pm 0), .int (pb 0), .int (pd 0), .int (pw 0)])), ((pq 1), .inr (1, [.int (pm 1), .int (pb 1), .int (pd 1), .int (pw 1)])), ((pq 2), .inr (1, [.int (pm 2), .int (pb 2), .int (pd 2), .int (pw 2)])), ((pq 3), .inr (1, [.int (pm 3), .int (pb 3), .int (pd 3), .int (pw 3)])), ((pq 4), .inr (1, [.int (pm 4), .int (pb 4), .int (pd 4), .int (pw 4)])), ((pq 5), .inr (1, [.int (pm 5), .int (pb 5), .int (pd 5), .int (pw 5)])), ((pq 6), .inr (1, [.int (pm 6), .int (pb 6), .int (pd 6), .int (pw 6)])), ((pq 7), .inr (1, [.int (pm 7), .int (pb 7), .int (pd 7), .int (pw 7)])), (k_da, .inr (0, [.ref k_ami, .int cows_1, .ref k_aki, .ref k_afi, .int tasters_1, .ref k_anw, .ref k_apa, .int newest_1, .int known_1])), (k_ami, .inl (G 0, 8, .inl milks_1)), (k_aki, .inl (G 0, 4, .inl kinds_1)), (k_afi, .inl (G 0, 4, .inl fines_1)), (k_anw, .inr (1, [.int mayBe_1, .int bearer_1, .int day_1, .int draw_1])), (k_apa, .inl (G 4, 8, .inr (.inr (.inr (.inr (fun k => some (k_pq k))))))), ((k_pq 0), .inr (1, [.int (pm_1 0), .int (pb_1 0), .int (pd_1 0), .int (pw_1 0)])), ((k_pq 1), .inr (1, [.int (pm_1 1), .int (pb_1 1), .int (pd_1 1), .int (pw_1 1)])), ((k_pq 2), .inr (1, [.int (pm_1 2), .int (pb_1 2), .int (pd_1 2), .int (pw_1 2)])), ((k_pq 3), .inr (1, [.int (pm_1 3), .int (pb_1 3), .int (pd_1 3), .int (pw_1 3)])), ((k_pq 4), .inr (1, [.int (pm_1 4), .int (pb_1 4), .int (pd_1 4), .int (pw_1 4)])), ((k_pq 5), .inr (1, [.int (pm_1 5), .int (pb_1 5), .int (pd_1 5), .int (pw_1 5)])), ((k_pq 6), .inr (1, [.int (pm_1 6), .int (pb_1 6), .int (pd_1 6), .int (pw_1 6)])), ((k_pq 7), .inr (1, [.int (pm_1 7), .int (pb_1 7), .int (pd_1 7), .int (pw_1 7)]))] := hD
  refine lv_iconst (v := 1) hx hb dX7_image_16 (by decide) ?_
  exact W.iret hx hb hr (x_mi (u := ((1 : Int32), cows_1, tasters_1, newest_1, known_1, milks_1, kinds_1, fines_1, mayBe_1, bearer_1, day_1, draw_1, pm_1, pb_1, pd_1, pw_1)) hP hK hD hS hw) hS.2.2 dX7_image_17
set_option maxHeartbeats 4000000 in
set_option maxRecDepth 100000 in
theorem c_X7_restore (l : Launch) (D : va_G) (G : Nat → ClassId) (sz : Nat) (x_xo : Nat) (da : Nat) (k_da : Nat) (t_ta : Nat) (p_pl : Nat) (r_tr : Nat) (w_ro : Nat) (x_ash : Nat) (ami : Nat) (aki : Nat) (afi : Nat) (anw : Nat) (apa : Nat) (pq : Nat → Nat) (k_ami : Nat) (k_aki : Nat) (k_afi : Nat) (k_anw : Nat) (k_apa : Nat) (k_pq : Nat → Nat) (x_isKept : Int32) (cows : Int32) (tasters : Int32) (newest : Int32) (known : Int32) (milks : Nat → Int32) (kinds : Nat → Int32) (fines : Nat → Int32) (mayBe : Int32) (bearer : Int32) (day : Int32) (draw : Int32) (pm : Nat → Int32) (pb : Nat → Int32) (pd : Nat → Int32) (pw : Nat → Int32) (k_cows : Int32) (k_tasters : Int32) (k_newest : Int32) (k_known : Int32) (k_milks : Nat → Int32) (k_kinds : Nat → Int32) (k_fines : Nat → Int32) (k_mayBe : Int32) (k_bearer : Int32) (k_day : Int32) (k_draw : Int32) (k_pm : Nat → Int32) (k_pb : Nat → Int32) (k_pd : Nat → Int32) (k_pw : Nat → Int32) (post : Int32 → Int32 → Int32 → Int32 → Int32 → (Nat → Int32) → (Nat → Int32) → (Nat → Int32) → Int32 → Int32 → Int32 → Int32 → (Nat → Int32) → (Nat → Int32) → (Nat → Int32) → (Nat → Int32) → Prop) (hw : wp_X7_restore x_isKept cows tasters newest known milks kinds fines mayBe bearer day draw pm pb pd pw k_cows k_tasters k_newest k_known k_milks k_kinds k_fines k_mayBe k_bearer k_day k_draw k_pm k_pb k_pd k_pw post) : Met l yX7_restore wsX7_restore ({ frames := 2, cells := 0, slots := 0, locals := 48 } : Room) (va_Pc [.ref x_xo] (xM D G sz [(x_xo, .inr (7, [.ref da, .ref k_da, .int x_isKept, .ref t_ta, .ref p_pl, .ref r_tr, .ref w_ro, .ref x_ash])), (da, .inr (0, [.ref ami, .int cows, .ref aki, .ref afi, .int tasters, .ref anw, .ref apa, .int newest, .int known])), (ami, .inl (G 0, 8, .inl milks)), (aki, .inl (G 0, 4, .inl kinds)), (afi, .inl (G 0, 4, .inl fines)), (anw, .inr (1, [.int mayBe, .int bearer, .int day, .int draw])), (apa, .inl (G 4, 8, .inr (.inr (.inr (.inr (fun k => some (pq k))))))), ((pq 0), .inr (1, [.int (pm 0), .int (pb 0), .int (pd 0), .int (pw 0)])), ((pq 1), .inr (1, [.int (pm 1), .int (pb 1), .int (pd 1), .int (pw 1)])), ((pq 2), .inr (1, [.int (pm 2), .int (pb 2), .int (pd 2), .int (pw 2)])), ((pq 3), .inr (1, [.int (pm 3), .int (pb 3), .int (pd 3), .int (pw 3)])), ((pq 4), .inr (1, [.int (pm 4), .int (pb 4), .int (pd 4), .int (pw 4)])), ((pq 5), .inr (1, [.int (pm 5), .int (pb 5), .int (pd 5), .int (pw 5)])), ((pq 6), .inr (1, [.int (pm 6), .int (pb 6), .int (pd 6), .int (pw 6)])), ((pq 7), .inr (1, [.int (pm 7), .int (pb 7), .int (pd 7), .int (pw 7)])), (k_da, .inr (0, [.ref k_ami, .int k_cows, .ref k_aki, .ref k_afi, .int k_tasters, .ref k_anw, .ref k_apa, .int k_newest, .int k_known])), (k_ami, .inl (G 0, 8, .inl k_milks)), (k_aki, .inl (G 0, 4, .inl k_kinds)), (k_afi, .inl (G 0, 4, .inl k_fines)), (k_anw, .inr (1, [.int k_mayBe, .int k_bearer, .int k_day, .int k_draw])), (k_apa, .inl (G 4, 8, .inr (.inr (.inr (.inr (fun k => some (k_pq k))))))), ((k_pq 0), .inr (1, [.int (k_pm 0), .int (k_pb 0), .int (k_pd 0), .int (k_pw 0)])), ((k_pq 1), .inr (1, [.int (k_pm 1), .int (k_pb 1), .int (k_pd 1), .int (k_pw 1)])), ((k_pq 2), .inr (1, [.int (k_pm 2), .int (k_pb 2), .int (k_pd 2), .int (k_pw 2)])), ((k_pq 3), .inr (1, [.int (k_pm 3), .int (k_pb 3), .int (k_pd 3), .int (k_pw 3)])), ((k_pq 4), .inr (1, [.int (k_pm 4), .int (k_pb 4), .int (k_pd 4), .int (k_pw 4)])), ((k_pq 5), .inr (1, [.int (k_pm 5), .int (k_pb 5), .int (k_pd 5), .int (k_pw 5)])), ((k_pq 6), .inr (1, [.int (k_pm 6), .int (k_pb 6), .int (k_pd 6), .int (k_pw 6)])), ((k_pq 7), .inr (1, [.int (k_pm 7), .int (k_pb 7), .int (k_pd 7), .int (k_pw 7)]))])) (va_Qi (fun r (u : Int32 × Int32 × Int32 × Int32 × (Nat → Int32) × (Nat → Int32) × (Nat → Int32) × Int32 × Int32 × Int32 × Int32 × (Nat → Int32) × (Nat → Int32) × (Nat → Int32) × (Nat → Int32)) => post r u.1 u.2.1 u.2.2.1 u.2.2.2.1 u.2.2.2.2.1 u.2.2.2.2.2.1 u.2.2.2.2.2.2.1 u.2.2.2.2.2.2.2.1 u.2.2.2.2.2.2.2.2.1 u.2.2.2.2.2.2.2.2.2.1 u.2.2.2.2.2.2.2.2.2.2.1 u.2.2.2.2.2.2.2.2.2.2.2.1 u.2.2.2.2.2.2.2.2.2.2.2.2.1 u.2.2.2.2.2.2.2.2.2.2.2.2.2.1 u.2.2.2.2.2.2.2.2.2.2.2.2.2.2) (fun u t => xE D G (va_A [(x_xo, .inr (7, [.ref da, .ref k_da, .int x_isKept, .ref t_ta, .ref p_pl, .ref r_tr, .ref w_ro, .ref x_ash])), (da, .inr (0, [.ref ami, .int cows, .ref aki, .ref afi, .int tasters, .ref anw, .ref apa, .int newest, .int known])), (ami, .inl (G 0, 8, .inl milks)), (aki, .inl (G 0, 4, .inl kinds)), (afi, .inl (G 0, 4, .inl fines)), (anw, .inr (1, [.int mayBe, .int bearer, .int day, .int draw])), (apa, .inl (G 4, 8, .inr (.inr (.inr (.inr (fun k => some (pq k))))))), ((pq 0), .inr (1, [.int (pm 0), .int (pb 0), .int (pd 0), .int (pw 0)])), ((pq 1), .inr (1, [.int (pm 1), .int (pb 1), .int (pd 1), .int (pw 1)])), ((pq 2), .inr (1, [.int (pm 2), .int (pb 2), .int (pd 2), .int (pw 2)])), ((pq 3), .inr (1, [.int (pm 3), .int (pb 3), .int (pd 3), .int (pw 3)])), ((pq 4), .inr (1, [.int (pm 4), .int (pb 4), .int (pd 4), .int (pw 4)])), ((pq 5), .inr (1, [.int (pm 5), .int (pb 5), .int (pd 5), .int (pw 5)])), ((pq 6), .inr (1, [.int (pm 6), .int (pb 6), .int (pd 6), .int (pw 6)])), ((pq 7), .inr (1, [.int (pm 7), .int (pb 7), .int (pd 7), .int (pw 7)])), (k_da, .inr (0, [.ref k_ami, .int k_cows, .ref k_aki, .ref k_afi, .int k_tasters, .ref k_anw, .ref k_apa, .int k_newest, .int k_known])), (k_ami, .inl (G 0, 8, .inl k_milks)), (k_aki, .inl (G 0, 4, .inl k_kinds)), (k_afi, .inl (G 0, 4, .inl k_fines)), (k_anw, .inr (1, [.int k_mayBe, .int k_bearer, .int k_day, .int k_draw])), (k_apa, .inl (G 4, 8, .inr (.inr (.inr (.inr (fun k => some (k_pq k))))))), ((k_pq 0), .inr (1, [.int (k_pm 0), .int (k_pb 0), .int (k_pd 0), .int (k_pw 0)])), ((k_pq 1), .inr (1, [.int (k_pm 1), .int (k_pb 1), .int (k_pd 1), .int (k_pw 1)])), ((k_pq 2), .inr (1, [.int (k_pm 2), .int (k_pb 2), .int (k_pd 2), .int (k_pw 2)])), ((k_pq 3), .inr (1, [.int (k_pm 3), .int (k_pb 3), .int (k_pd 3), .int (k_pw 3)])), ((k_pq 4), .inr (1, [.int (k_pm 4), .int (k_pb 4), .int (k_pd 4), .int (k_pw 4)])), ((k_pq 5), .inr (1, [.int (k_pm 5), .int (k_pb 5), .int (k_pd 5), .int (k_pw 5)])), ((k_pq 6), .inr (1, [.int (k_pm 6), .int (k_pb 6), .int (k_pd 6), .int (k_pw 6)])), ((k_pq 7), .inr (1, [.int (k_pm 7), .int (k_pb 7), .int (k_pd 7), .int (k_pw 7)]))] sz) [(x_xo, .inr (7, [.ref da, .ref k_da, .int x_isKept, .ref t_ta, .ref p_pl, .ref r_tr, .ref w_ro, .ref x_ash])), (da, .inr (0, [.ref ami, .int u.1, .ref aki, .ref afi, .int u.2.1, .ref anw, .ref apa, .int u.2.2.1, .int u.2.2.2.1])), (ami, .inl (G 0, 8, .inl (u.2.2.2.2.1))), (aki, .inl (G 0, 4, .inl (u.2.2.2.2.2.1))), (afi, .inl (G 0, 4, .inl (u.2.2.2.2.2.2.1))), (anw, .inr (1, [.int u.2.2.2.2.2.2.2.1, .int u.2.2.2.2.2.2.2.2.1, .int u.2.2.2.2.2.2.2.2.2.1, .int u.2.2.2.2.2.2.2.2.2.2.1])), (apa, .inl (G 4, 8, .inr (.inr (.inr (.inr (fun k => some (pq k))))))), ((pq 0), .inr (1, [.int ((u.2.2.2.2.2.2.2.2.2.2.2.1) 0), .int ((u.2.2.2.2.2.2.2.2.2.2.2.2.1) 0), .int ((u.2.2.2.2.2.2.2.2.2.2.2.2.2.1) 0), .int ((u.2.2.2.2.2.2.2.2.2.2.2.2.2.2) 0)])), ((pq 1), .inr (1, [.int ((u.2.2.2.2.2.2.2.2.2.2.2.1) 1), .int ((u.2.2.2.2.2.2.2.2.2.2.2.2.1) 1), .int ((u.2.2.2.2.2.2.2.2.2.2.2.2.2.1) 1), .int ((u.2.2.2.2.2.2.2.2.2.2.2.2.2.2) 1)])), ((pq 2), .inr (1, [.int ((u.2.2.2.2.2.2.2.2.2.2.2.1) 2), .int ((u.2.2.2.2.2.2.2.2.2.2.2.2.1) 2), .int ((u.2.2.2.2.2.2.2.2.2.2.2.2.2.1) 2), .int ((u.2.2.2.2.2.2.2.2.2.2.2.2.2.2) 2)])), ((pq 3), .inr (1, [.int ((u.2.2.2.2.2.2.2.2.2.2.2.1) 3), .int ((u.2.2.2.2.2.2.2.2.2.2.2.2.1) 3), .int ((u.2.2.2.2.2.2.2.2.2.2.2.2.2.1) 3), .int ((u.2.2.2.2.2.2.2.2.2.2.2.2.2.2) 3)])), ((pq 4), .inr (1, [.int ((u.2.2.2.2.2.2.2.2.2.2.2.1) 4), .int ((u.2.2.2.2.2.2.2.2.2.2.2.2.1) 4), .int ((u.2.2.2.2.2.2.2.2.2.2.2.2.2.1) 4), .int ((u.2.2.2.2.2.2.2.2.2.2.2.2.2.2) 4)])), ((pq 5), .inr (1, [.int ((u.2.2.2.2.2.2.2.2.2.2.2.1) 5), .int ((u.2.2.2.2.2.2.2.2.2.2.2.2.1) 5), .int ((u.2.2.2.2.2.2.2.2.2.2.2.2.2.1) 5), .int ((u.2.2.2.2.2.2.2.2.2.2.2.2.2.2) 5)])), ((pq 6), .inr (1, [.int ((u.2.2.2.2.2.2.2.2.2.2.2.1) 6), .int ((u.2.2.2.2.2.2.2.2.2.2.2.2.1) 6), .int ((u.2.2.2.2.2.2.2.2.2.2.2.2.2.1) 6), .int ((u.2.2.2.2.2.2.2.2.2.2.2.2.2.2) 6)])), ((pq 7), .inr (1, [.int ((u.2.2.2.2.2.2.2.2.2.2.2.1) 7), .int ((u.2.2.2.2.2.2.2.2.2.2.2.2.1) 7), .int ((u.2.2.2.2.2.2.2.2.2.2.2.2.2.1) 7), .int ((u.2.2.2.2.2.2.2.2.2.2.2.2.2.2) 7)])), (k_da, .inr (0, [.ref k_ami, .int k_cows, .ref k_aki, .ref k_afi, .int k_tasters, .ref k_anw, .ref k_apa, .int k_newest, .int k_known])), (k_ami, .inl (G 0, 8, .inl k_milks)), (k_aki, .inl (G 0, 4, .inl k_kinds)), (k_afi, .inl (G 0, 4, .inl k_fines)), (k_anw, .inr (1, [.int k_mayBe, .int k_bearer, .int k_day, .int k_draw])), (k_apa, .inl (G 4, 8, .inr (.inr (.inr (.inr (fun k => some (k_pq k))))))), ((k_pq 0), .inr (1, [.int (k_pm 0), .int (k_pb 0), .int (k_pd 0), .int (k_pw 0)])), ((k_pq 1), .inr (1, [.int (k_pm 1), .int (k_pb 1), .int (k_pd 1), .int (k_pw 1)])), ((k_pq 2), .inr (1, [.int (k_pm 2), .int (k_pb 2), .int (k_pd 2), .int (k_pw 2)])), ((k_pq 3), .inr (1, [.int (k_pm 3), .int (k_pb 3), .int (k_pd 3), .int (k_pw 3)])), ((k_pq 4), .inr (1, [.int (k_pm 4), .int (k_pb 4), .int (k_pd 4), .int (k_pw 4)])), ((k_pq 5), .inr (1, [.int (k_pm 5), .int (k_pb 5), .int (k_pd 5), .int (k_pw 5)])), ((k_pq 6), .inr (1, [.int (k_pm 6), .int (k_pb 6), .int (k_pd 6), .int (k_pw 6)])), ((k_pq 7), .inr (1, [.int (k_pm 7), .int (k_pb 7), .int (k_pd 7), .int (k_pw 7)]))] t) (va_A [(x_xo, .inr (7, [.ref da, .ref k_da, .int x_isKept, .ref t_ta, .ref p_pl, .ref r_tr, .ref w_ro, .ref x_ash])), (da, .inr (0, [.ref ami, .int cows, .ref aki, .ref afi, .int tasters, .ref anw, .ref apa, .int newest, .int known])), (ami, .inl (G 0, 8, .inl milks)), (aki, .inl (G 0, 4, .inl kinds)), (afi, .inl (G 0, 4, .inl fines)), (anw, .inr (1, [.int mayBe, .int bearer, .int day, .int draw])), (apa, .inl (G 4, 8, .inr (.inr (.inr (.inr (fun k => some (pq k))))))), ((pq 0), .inr (1, [.int (pm 0), .int (pb 0), .int (pd 0), .int (pw 0)])), ((pq 1), .inr (1, [.int (pm 1), .int (pb 1), .int (pd 1), .int (pw 1)])), ((pq 2), .inr (1, [.int (pm 2), .int (pb 2), .int (pd 2), .int (pw 2)])), ((pq 3), .inr (1, [.int (pm 3), .int (pb 3), .int (pd 3), .int (pw 3)])), ((pq 4), .inr (1, [.int (pm 4), .int (pb 4), .int (pd 4), .int (pw 4)])), ((pq 5), .inr (1, [.int (pm 5), .int (pb 5), .int (pd 5), .int (pw 5)])), ((pq 6), .inr (1, [.int (pm 6), .int (pb 6), .int (pd 6), .int (pw 6)])), ((pq 7), .inr (1, [.int (pm 7), .int (pb 7), .int (pd 7), .int (pw 7)])), (k_da, .inr (0, [.ref k_ami, .int k_cows, .ref k_aki, .ref k_afi, .int k_tasters, .ref k_anw, .ref k_apa, .int k_newest, .int k_known])), (k_ami, .inl (G 0, 8, .inl k_milks)), (k_aki, .inl (G 0, 4, .inl k_kinds)), (k_afi, .inl (G 0, 4, .inl k_fines)), (k_anw, .inr (1, [.int k_mayBe, .int k_bearer, .int k_day, .int k_draw])), (k_apa, .inl (G 4, 8, .inr (.inr (.inr (.inr (fun k => some (k_pq k))))))), ((k_pq 0), .inr (1, [.int (k_pm 0), .int (k_pb 0), .int (k_pd 0), .int (k_pw 0)])), ((k_pq 1), .inr (1, [.int (k_pm 1), .int (k_pb 1), .int (k_pd 1), .int (k_pw 1)])), ((k_pq 2), .inr (1, [.int (k_pm 2), .int (k_pb 2), .int (k_pd 2), .int (k_pw 2)])), ((k_pq 3), .inr (1, [.int (k_pm 3), .int (k_pb 3), .int (k_pd 3), .int (k_pw 3)])), ((k_pq 4), .inr (1, [.int (k_pm 4), .int (k_pb 4), .int (k_pd 4), .int (k_pw 4)])), ((k_pq 5), .inr (1, [.int (k_pm 5), .int (k_pb 5), .int (k_pd 5), .int (k_pw 5)])), ((k_pq 6), .inr (1, [.int (k_pm 6), .int (k_pb 6), .int (k_pd 6), .int (k_pw 6)])), ((k_pq 7), .inr (1, [.int (k_pm 7), .int (k_pb 7), .int (k_pd 7), .int (k_pw 7)]))] sz)) 0 0 (va_A [(x_xo, .inr (7, [.ref da, .ref k_da, .int x_isKept, .ref t_ta, .ref p_pl, .ref r_tr, .ref w_ro, .ref x_ash])), (da, .inr (0, [.ref ami, .int cows, .ref aki, .ref afi, .int tasters, .ref anw, .ref apa, .int newest, .int known])), (ami, .inl (G 0, 8, .inl milks)), (aki, .inl (G 0, 4, .inl kinds)), (afi, .inl (G 0, 4, .inl fines)), (anw, .inr (1, [.int mayBe, .int bearer, .int day, .int draw])), (apa, .inl (G 4, 8, .inr (.inr (.inr (.inr (fun k => some (pq k))))))), ((pq 0), .inr (1, [.int (pm 0), .int (pb 0), .int (pd 0), .int (pw 0)])), ((pq 1), .inr (1, [.int (pm 1), .int (pb 1), .int (pd 1), .int (pw 1)])), ((pq 2), .inr (1, [.int (pm 2), .int (pb 2), .int (pd 2), .int (pw 2)])), ((pq 3), .inr (1, [.int (pm 3), .int (pb 3), .int (pd 3), .int (pw 3)])), ((pq 4), .inr (1, [.int (pm 4), .int (pb 4), .int (pd 4), .int (pw 4)])), ((pq 5), .inr (1, [.int (pm 5), .int (pb 5), .int (pd 5), .int (pw 5)])), ((pq 6), .inr (1, [.int (pm 6), .int (pb 6), .int (pd 6), .int (pw 6)])), ((pq 7), .inr (1, [.int (pm 7), .int (pb 7), .int (pd 7), .int (pw 7)])), (k_da, .inr (0, [.ref k_ami, .int k_cows, .ref k_aki, .ref k_afi, .int k_tasters, .ref k_anw, .ref k_apa, .int k_newest, .int k_known])), (k_ami, .inl (G 0, 8, .inl k_milks)), (k_aki, .inl (G 0, 4, .inl k_kinds)), (k_afi, .inl (G 0, 4, .inl k_fines)), (k_anw, .inr (1, [.int k_mayBe, .int k_bearer, .int k_day, .int k_draw])), (k_apa, .inl (G 4, 8, .inr (.inr (.inr (.inr (fun k => some (k_pq k))))))), ((k_pq 0), .inr (1, [.int (k_pm 0), .int (k_pb 0), .int (k_pd 0), .int (k_pw 0)])), ((k_pq 1), .inr (1, [.int (k_pm 1), .int (k_pb 1), .int (k_pd 1), .int (k_pw 1)])), ((k_pq 2), .inr (1, [.int (k_pm 2), .int (k_pb 2), .int (k_pd 2), .int (k_pw 2)])), ((k_pq 3), .inr (1, [.int (k_pm 3), .int (k_pb 3), .int (k_pd 3), .int (k_pw 3)])), ((k_pq 4), .inr (1, [.int (k_pm 4), .int (k_pb 4), .int (k_pd 4), .int (k_pw 4)])), ((k_pq 5), .inr (1, [.int (k_pm 5), .int (k_pb 5), .int (k_pd 5), .int (k_pw 5)])), ((k_pq 6), .inr (1, [.int (k_pm 6), .int (k_pb 6), .int (k_pd 6), .int (k_pw 6)])), ((k_pq 7), .inr (1, [.int (k_pm 7), .int (k_pb 7), .int (k_pd 7), .int (k_pw 7)]))] sz) := by
  refine Met.ofW (cc := cX7_restore) (maxL := 1) (ret := (some .int)) (by decide) rfl ?_
  intro p e s m args below meth c s₁ B hml hv
  obtain ⟨rfl, hsz, hP, hK, hD0⟩ := hv
  have hx := B.exec
  have hb := B.bytes
  have hr := B.returns
  have hts := atoms_spec (ws := wsX7_restore) B.pre
  have hown : s.vm.findClass RX7 = some m.cls := findClass_of_methodNamed B.named
  have hlocks := B.notSynchronized
  subst hsz
  have hD := hD0.self (sz := s.heap.size)
  generalize hAe : va_A [(x_xo, .inr (7, [.ref da, .ref k_da, .int x_isKept, .ref t_ta, .ref p_pl, .ref r_tr, .ref w_ro, .ref x_ash])), (da, .inr (0, [.ref ami, .int cows, .ref aki, .ref afi, .int tasters, .ref anw, .ref apa, .int newest, .int known])), (ami, .inl (G 0, 8, .inl milks)), (aki, .inl (G 0, 4, .inl kinds)), (afi, .inl (G 0, 4, .inl fines)), (anw, .inr (1, [.int mayBe, .int bearer, .int day, .int draw])), (apa, .inl (G 4, 8, .inr (.inr (.inr (.inr (fun k => some (pq k))))))), ((pq 0), .inr (1, [.int (pm 0), .int (pb 0), .int (pd 0), .int (pw 0)])), ((pq 1), .inr (1, [.int (pm 1), .int (pb 1), .int (pd 1), .int (pw 1)])), ((pq 2), .inr (1, [.int (pm 2), .int (pb 2), .int (pd 2), .int (pw 2)])), ((pq 3), .inr (1, [.int (pm 3), .int (pb 3), .int (pd 3), .int (pw 3)])), ((pq 4), .inr (1, [.int (pm 4), .int (pb 4), .int (pd 4), .int (pw 4)])), ((pq 5), .inr (1, [.int (pm 5), .int (pb 5), .int (pd 5), .int (pw 5)])), ((pq 6), .inr (1, [.int (pm 6), .int (pb 6), .int (pd 6), .int (pw 6)])), ((pq 7), .inr (1, [.int (pm 7), .int (pb 7), .int (pd 7), .int (pw 7)])), (k_da, .inr (0, [.ref k_ami, .int k_cows, .ref k_aki, .ref k_afi, .int k_tasters, .ref k_anw, .ref k_apa, .int k_newest, .int k_known])), (k_ami, .inl (G 0, 8, .inl k_milks)), (k_aki, .inl (G 0, 4, .inl k_kinds)), (k_afi, .inl (G 0, 4, .inl k_fines)), (k_anw, .inr (1, [.int k_mayBe, .int k_bearer, .int k_day, .int k_draw])), (k_apa, .inl (G 4, 8, .inr (.inr (.inr (.inr (fun k => some (k_pq k))))))), ((k_pq 0), .inr (1, [.int (k_pm 0), .int (k_pb 0), .int (k_pd 0), .int (k_pw 0)])), ((k_pq 1), .inr (1, [.int (k_pm 1), .int (k_pb 1), .int (k_pd 1), .int (k_pw 1)])), ((k_pq 2), .inr (1, [.int (k_pm 2), .int (k_pb 2), .int (k_pd 2), .int (k_pw 2)])), ((k_pq 3), .inr (1, [.int (k_pm 3), .int (k_pb 3), .int (k_pd 3), .int (k_pw 3)])), ((k_pq 4), .inr (1, [.int (k_pm 4), .int (k_pb 4), .int (k_pd 4), .int (k_pw 4)])), ((k_pq 5), .inr (1, [.int (k_pm 5), .int (k_pb 5), .int (k_pd 5), .int (k_pw 5)])), ((k_pq 6), .inr (1, [.int (k_pm 6), .int (k_pb 6), .int (k_pd 6), .int (k_pw 6)])), ((k_pq 7), .inr (1, [.int (k_pm 7), .int (k_pb 7), .int (k_pd 7), .int (k_pw 7)]))] s.heap.size = A at hD ⊢
  have hA : ∀ q : Nat, s.heap.size ≤ q → A q := fun q h => by rw [← hAe]; exact Or.inr h
  have hS : va_S A s.heap s.heap [] := va_S.rf
  have inX7 : ∀ w ∈ wsX70, w ∈ wsX7_restore := by decide +kernel
  have fl19 := hts (.fieldLink RX7 19 "NewsCow" "isKept" "Z") (by decide +kernel)
  have fl12 := hts (.fieldLink RX7 12 "NewsCow" "dairy" "LNewsCow$Dairy;") (by decide +kernel)
  have fl16 := hts (.fieldLink RX7 16 "NewsCow" "kept" "LNewsCow$Dairy;") (by decide +kernel)
  have hl := lv_entry ([.ref x_xo] : List Value) (n := 1) (Nat.le_of_ble_eq_true rfl)
  rw [lg_entry_eq]
  generalize (lg_sl ([.ref x_xo] : List Value) ++ List.replicate (1 - (lg_sl ([.ref x_xo] : List Value)).length) Slot.unset).toArray = ls at hl ⊢
  have hl : lv_has ls 1 [(0, .ref x_xo)] := hl
  unfold wp_X7_restore at hw
  refine lv_aload_n hx hb dX7_restore_0 rfl (lv_at hl 0 rfl) ?_
  refine va_get (D := D) (ci := 7) (v := .int x_isKept) (C := RX7) (T := TX7) (N := 8) hx hb hts inX7 hown hK hP 0 rfl rfl 2 (by decide) fl19 (fun _ h9 => h9) rfl dX7_restore_1 ?_
  refine lv_if_ne (tgt := 10) hx hb dX7_restore_4 (by decide) (fun c9 => ?_) (fun c9 => ?_)
  · replace hw := hw.1 c9
    refine lv_aload_n hx hb dX7_restore_10 rfl (lv_at hl 0 rfl) ?_
    refine va_get (D := D) (ci := 7) (v := .ref da) (C := RX7) (T := TX7) (N := 8) hx hb hts inX7 hown hK hP 0 rfl rfl 0 (by decide) fl12 (fun _ h9 => h9) rfl dX7_restore_11 ?_
    refine lv_aload_n hx hb dX7_restore_14 rfl (lv_at hl 0 rfl) ?_
    refine va_get (D := D) (ci := 7) (v := .ref k_da) (C := RX7) (T := TX7) (N := 8) hx hb hts inX7 hown hK hP 0 rfl rfl 1 (by decide) fl16 (fun _ h9 => h9) rfl dX7_restore_15 ?_
    refine x_cMv (wr := [(x_xo, .inr (7, [.ref da, .ref k_da, .int x_isKept, .ref t_ta, .ref p_pl, .ref r_tr, .ref w_ro, .ref x_ash]))]) (va_runV (As := [.ref k_da]) (rest := []) ⟨hx, hb, hml, hown, hts⟩ (c_X0_becomeLike l D G _ da ami aki afi anw apa pq k_da k_ami k_aki k_afi k_anw k_apa k_pq cows tasters newest known milks kinds fines mayBe bearer day draw pm pb pd pw k_cows k_tasters k_newest k_known k_milks k_kinds k_fines k_mayBe k_bearer k_day k_draw k_pm k_pb k_pd k_pw _ hw) (cwV 1 hts gX7_restore_X0_becomeLike rfl rfl rfl (by decide +kernel) ⟨(Nat.le_of_ble_eq_true rfl), (Nat.le_of_ble_eq_true rfl)⟩) (xM_pv (hP.sub [1, 2, 3, 4, 5, 6, 7, 8, 9, 10, 11, 12, 13, 14, 15, 16, 17, 18, 19, 20, 21, 22, 23, 24, 25, 26, 27, 28] rfl) hK (hD.sub [1, 2, 3, 4, 5, 6, 7, 8, 9, 10, 11, 12, 13, 14, 15, 16, 17, 18, 19, 20, 21, 22, 23, 24, 25, 26, 27, 28] (by decide) rfl) (va_recv hK hP (ci := 0) (q0 := 1) rfl rfl)) rfl rfl hl.1 rfl (lv_room (Nat.le_of_ble_eq_true rfl)) dX7_restore_18 ⟨Nat.zero_le _, Nat.zero_le _⟩) hP hD hS hA [1, 2, 3, 4, 5, 6, 7, 8, 9, 10, 11, 12, 13, 14, 15, 16, 17, 18, 19, 20, 21, 22, 23, 24, 25, 26, 27, 28] [0] rfl rfl (by decide) (by decide) [0, 1, 2, 3, 4, 5, 6, 7, 8, 9, 10, 11, 12, 13, 14, 15, 16, 17, 18, 19, 20, 21, 22, 23, 24, 25, 26, 27, 28] (fun u => [(x_xo, .inr (7, [.ref da, .ref k_da, .int x_isKept, .ref t_ta, .ref p_pl, .ref r_tr, .ref w_ro, .ref x_ash])), (da, .inr (0, [.ref ami, .int u.1, .ref aki, .ref afi, .int u.2.1, .ref anw, .ref apa, .int u.2.2.1, .int u.2.2.2.1])), (ami, .inl (G 0, 8, .inl (u.2.2.2.2.1))), (aki, .inl (G 0, 4, .inl (u.2.2.2.2.2.1))), (afi, .inl (G 0, 4, .inl (u.2.2.2.2.2.2.1))), (anw, .inr (1, [.int u.2.2.2.2.2.2.2.1, .int u.2.2.2.2.2.2.2.2.1, .int u.2.2.2.2.2.2.2.2.2.1, .int u.2.2.2.2.2.2.2.2.2.2.1])), (apa, .inl (G 4, 8, .inr (.inr (.inr (.inr (fun k => some (pq k))))))), ((pq 0), .inr (1, [.int ((u.2.2.2.2.2.2.2.2.2.2.2.1) 0), .int ((u.2.2.2.2.2.2.2.2.2.2.2.2.1) 0), .int ((u.2.2.2.2.2.2.2.2.2.2.2.2.2.1) 0), .int ((u.2.2.2.2.2.2.2.2.2.2.2.2.2.2) 0)])), ((pq 1), .inr (1, [.int ((u.2.2.2.2.2.2.2.2.2.2.2.1) 1), .int ((u.2.2.2.2.2.2.2.2.2.2.2.2.1) 1), .int ((u.2.2.2.2.2.2.2.2.2.2.2.2.2.1) 1), .int ((u.2.2.2.2.2.2.2.2.2.2.2.2.2.2) 1)])), ((pq 2), .inr (1, [.int ((u.2.2.2.2.2.2.2.2.2.2.2.1) 2), .int ((u.2.2.2.2.2.2.2.2.2.2.2.2.1) 2), .int ((u.2.2.2.2.2.2.2.2.2.2.2.2.2.1) 2), .int ((u.2.2.2.2.2.2.2.2.2.2.2.2.2.2) 2)])), ((pq 3), .inr (1, [.int ((u.2.2.2.2.2.2.2.2.2.2.2.1) 3), .int ((u.2.2.2.2.2.2.2.2.2.2.2.2.1) 3), .int ((u.2.2.2.2.2.2.2.2.2.2.2.2.2.1) 3), .int ((u.2.2.2.2.2.2.2.2.2.2.2.2.2.2) 3)])), ((pq 4), .inr (1, [.int ((u.2.2.2.2.2.2.2.2.2.2.2.1) 4), .int ((u.2.2.2.2.2.2.2.2.2.2.2.2.1) 4), .int ((u.2.2.2.2.2.2.2.2.2.2.2.2.2.1) 4), .int ((u.2.2.2.2.2.2.2.2.2.2.2.2.2.2) 4)])), ((pq 5), .inr (1, [.int ((u.2.2.2.2.2.2.2.2.2.2.2.1) 5), .int ((u.2.2.2.2.2.2.2.2.2.2.2.2.1) 5), .int ((u.2.2.2.2.2.2.2.2.2.2.2.2.2.1) 5), .int ((u.2.2.2.2.2.2.2.2.2.2.2.2.2.2) 5)])), ((pq 6), .inr (1, [.int ((u.2.2.2.2.2.2.2.2.2.2.2.1) 6), .int ((u.2.2.2.2.2.2.2.2.2.2.2.2.1) 6), .int ((u.2.2.2.2.2.2.2.2.2.2.2.2.2.1) 6), .int ((u.2.2.2.2.2.2.2.2.2.2.2.2.2.2) 6)])), ((pq 7), .inr (1, [.int ((u.2.2.2.2.2.2.2.2.2.2.2.1) 7), .int ((u.2.2.2.2.2.2.2.2.2.2.2.2.1) 7), .int ((u.2.2.2.2.2.2.2.2.2.2.2.2.2.1) 7), .int ((u.2.2.2.2.2.2.2.2.2.2.2.2.2.2) 7)])), (k_da, .inr (0, [.ref k_ami, .int k_cows, .ref k_aki, .ref k_afi, .int k_tasters, .ref k_anw, .ref k_apa, .int k_newest, .int k_known])), (k_ami, .inl (G 0, 8, .inl k_milks)), (k_aki, .inl (G 0, 4, .inl k_kinds)), (k_afi, .inl (G 0, 4, .inl k_fines)), (k_anw, .inr (1, [.int k_mayBe, .int k_bearer, .int k_day, .int k_draw])), (k_apa, .inl (G 4, 8, .inr (.inr (.inr (.inr (fun k => some (k_pq k))))))), ((k_pq 0), .inr (1, [.int (k_pm 0), .int (k_pb 0), .int (k_pd 0), .int (k_pw 0)])), ((k_pq 1), .inr (1, [.int (k_pm 1), .int (k_pb 1), .int (k_pd 1), .int (k_pw 1)])), ((k_pq 2), .inr (1, [.int (k_pm 2), .int (k_pb 2), .int (k_pd 2), .int (k_pw 2)])), ((k_pq 3), .inr (1, [.int (k_pm 3), .int (k_pb 3), .int (k_pd 3), .int (k_pw 3)])), ((k_pq 4), .inr (1, [.int (k_pm 4), .int (k_pb 4), .int (k_pd 4), .int (k_pw 4)])), ((k_pq 5), .inr (1, [.int (k_pm 5), .int (k_pb 5), .int (k_pd 5), .int (k_pw 5)])), ((k_pq 6), .inr (1, [.int (k_pm 6), .int (k_pb 6), .int (k_pd 6), .int (k_pw 6)])), ((k_pq 7), .inr (1, [.int (k_pm 7), .int (k_pb 7), .int (k_pd 7), .int (k_pw 7)]))]) (by decide) (fun u => rfl) (fun u H locs hw hP hD hS => ?_)
    obtain ⟨cows_1, tasters_1, newest_1, known_1, milks_1, kinds_1, fines_1, mayBe_1, bearer_1, day_1, draw_1, pm_1, pb_1, pd_1, pw_1⟩ := u
    try dsimp only at hw
    replace hP : va_P D vwCl [(x_xo, .inr (7, [.ref da, .ref k_da, .int x_isKept, .ref t_ta, .ref p_pl, .ref r_tr, .ref w_ro, .ref x_ash])), (da, .inr (0, [.ref ami, .int cows_1, .ref aki, .ref afi, .int tasters_1, .ref anw, .ref apa, .int newest_1, .int known_1])), (ami, .inl (G 0, 8, .inl milks_1)), (aki, .inl (G 0, 4, .inl kinds_1)), (afi, .inl (G 0, 4, .inl fines_1)), (anw, .inr (1, [.int mayBe_1, .int bearer_1, .int day_1, .int draw_1])), (apa, .inl (G 4, 8, .inr (.inr (.inr (.inr (fun k => some (pq k))))))), ((pq 0), .inr (1, [.int (pm_1 0), .int (pb_1 0), .int (pd_1 0), .int (pw_1 0)])), ((pq 1), .inr (1, [.int (pm_1 1), .int (pb_1 1), .int (pd_1 1), .int (pw_1 1)])), ((pq 2), .inr (1, [.int (pm_1 2), .int (pb_1 2), .int (pd_1 2), .int (pw_1 2)])), ((pq 3), .inr (1, [.int (pm_1 3), .int (pb_1 3), .int (pd_1 3), .int (pw_1 3)])), ((pq 4), .inr (1, [.int (pm_1 4), .int (pb_1 4), .int (pd_1 4), .int (pw_1 4)])), ((pq 5), .inr (1, [.int (pm_1 5), .int (pb_1 5), .int (pd_1 5), .int (pw_1 5)])), ((pq 6), .inr (1, [.int (pm_1 6), .int (pb_1 6), .int (pd_1 6), .int (pw_1 6)])), ((pq 7), .inr (1, [.int (pm_1 7), .int (pb_1 7), .int (pd_1 7), .int (pw_1 7)])), (k_da, .inr (0, [.ref k_ami, .int k_cows, .ref k_aki, .ref k_afi, .int k_tasters, .ref k_anw, .ref k_apa, .int k_newest, .int k_known])), (k_ami, .inl (G 0, 8, .inl k_milks)), (k_aki, .inl (G 0, 4, .inl k_kinds)), (k_afi, .inl (G 0, 4, .inl k_fines)), (k_anw, .inr (1, [.int k_mayBe, .int k_bearer, .int k_day, .int k_draw])), (k_apa, .inl (G 4, 8, .inr (.inr (.inr (.inr (fun k => some (k_pq k))))))), ((k_pq 0), .inr (1, [.int (k_pm 0), .int (k_pb 0), .int (k_pd 0), .int (k_pw 0)])), ((k_pq 1), .inr (1, [.int (k_pm 1), .int (k_pb 1), .int (k_pd 1), .int (k_pw 1)])), ((k_pq 2), .inr (1, [.int (k_pm 2), .int (k_pb 2), .int (k_pd 2), .int (k_pw 2)])), ((k_pq 3), .inr (1, [.int (k_pm 3), .int (k_pb 3), .int (k_pd 3), .int (k_pw 3)])), ((k_pq 4), .inr (1, [.int (k_pm 4), .int (k_pb 4), .int (k_pd 4), .int (k_pw 4)])), ((k_pq 5), .inr (1, [.int (k_pm 5), .int (k_pb 5), .int (k_pd 5), .int (k_pw 5)])), ((k_pq 6), .inr (1, [.int (k_pm 6), .int (k_pb 6), .int (k_pd 6), .int (k_pw 6)])), ((k_pq 7), .inr (1, [.int (k_pm 7), .int (k_pb 7), .int (k_pd 7), .int (k_pw 7)]))] H := hP
    replace hD : va_D A [(x_xo, .inr (7, [.ref da, .ref k_da, .int x_isKept, .ref t_ta, .ref p_pl, .ref r_tr, .ref w_ro, .ref x_ash])), (da, .inr (0, [.ref ami, .int cows_1, .ref aki, .ref afi, .int tasters_1, .ref anw, .ref apa, .int newest_1, .int known_1])), (ami, .inl (G 0, 8, .inl milks_1)), (aki, .inl (G 0, 4, .inl kinds_1)), (afi, .inl (G 0, 4, .inl fines_1)), (anw, .inr (1, [.int mayBe_1, .int bearer_1, .int day_1, .int draw_1])), (apa, .inl (G 4, 8, .inr (.inr (.inr (.inr (fun k => some (pq k))))))), ((pq 0), .inr (1, [.int (pm_1 0), .int (pb_1 0), .int (pd_1 0), .int (pw_1 0)])), ((pq 1), .inr (1, [.int (pm_1 1), .int (pb_1 1), .int (pd_1 1), .int (pw_1 1)])), ((pq 2), .inr (1, [.int (pm_1 2), .int (pb_1 2), .int (pd_1 2), .int (pw_1 2)])), ((pq 3), .inr (1, [.int (pm_1 3), .int (pb_1 3), .int (pd_1 3), .int (pw_1 3)])), ((pq 4), .inr (1, [.int (pm_1 4), .int (pb_1 4), .int (pd_1 4), .int (pw_1 4)])), ((pq 5), .inr (1, [.int (pm_1 5), .int (pb_1 5), .int (pd_1 5), .int (pw_1 5)])), ((pq 6), .inr (1, [.int (pm_1 6), .int (pb_1 6), .int (pd_1 6), .int (pw_1 6)])), ((pq 7), .inr (1, [.int (pm_1 7), .int (pb_1 7), .int (pd_1 7), .int (pw_1 7)])), (k_da, .inr (0, [.ref k_ami, .int k_cows, .ref k_aki, .ref k_afi, .int k_tasters, .ref k_anw, .ref k_apa, .int k_newest, .int k_known])), (k_ami, .inl (G 0, 8, .inl k_milks)), (k_aki, .inl (G 0, 4, .inl k_kinds)), (k_afi, .inl (G 0, 4, .inl k_fines)), (k_anw, .inr (1, [.int k_mayBe, .int k_bearer, .int k_day, .int k_draw])), (k_apa, .inl (G 4, 8, .inr (.inr (.inr (.inr (fun k => some (k_pq k))))))), ((k_pq 0), .inr (1, [.int (k_pm 0), .int (k_pb 0), .int (k_pd 0), .int (k_pw 0)])), ((k_pq 1), .inr (1, [.int (k_pm 1), .int (k_pb 1), .int (k_pd 1), .int (k_pw 1)])), ((k_pq 2), .inr (1, [.int (k_pm 2), .int (k_pb 2), .int (k_pd 2), .int (k_pw 2)])), ((k_pq 3), .inr (1, [.int (k_pm 3), .int (k_pb 3), .int (k_pd 3), .int (k_pw 3)])), ((k_pq 4), .inr (1, [.int (k_pm 4), .int (k_pb 4), .int (k_pd 4), .int (k_pw 4)])), ((k_pq 5), .inr (1, [.int (k_pm 5), .int (k_pb 5), .int (k_pd 5), .int (k_pw 5)])), ((k_pq 6), .inr (1, [.int (k_pm 6), .int (k_pb 6), .int (k_pd 6), .int (k_pw 6)])), ((k_pq 7), .inr (1, [.int (k_pm 7), .int (k_pb 7), .int (k_pd 7), .int (k_pw 7)]))] := hD
    refine lv_iconst (v := 1) hx hb dX7_restore_21 (by decide) ?_
    exact W.iret hx hb hr (x_mi (u := (cows_1, tasters_1, newest_1, known_1, milks_1, kinds_1, fines_1, mayBe_1, bearer_1, day_1, draw_1, pm_1, pb_1, pd_1, pw_1)) hP hK hD hS hw) hS.2.2 dX7_restore_22
  · replace hw := hw.2 c9
    refine lv_bipush (v := -4) hx hb dX7_restore_7 (by decide) ?_
    exact W.iret hx hb hr (x_mi (u := (cows, tasters, newest, known, milks, kinds, fines, mayBe, bearer, day, draw, pm, pb, pd, pw)) hP hK hD hS hw) hS.2.2 dX7_restore_9
set_option maxHeartbeats 4000000 in
set_option maxRecDepth 100000 in
theorem c_X7_isSheet (l : Launch) (D : va_G) (G : Nat → ClassId) (x0 : Int32) (post : Int32 → Prop) (hw : wp_X7_isSheet x0 post) : Met l yX7_isSheet wsX7_isSheet ({ frames := 0, cells := 0, slots := 0, locals := 0 } : Room) (va_Pc [.int x0] (xR D G [])) (vp_Si post) 0 0 (fun _ => False) := by
  refine Met.ofW (cc := cX7_isSheet) (maxL := 1) (ret := (some .boolean)) (by decide) rfl ?_
  intro p e s m args below meth c s₁ B hml hv
  obtain ⟨rfl, hP, hK⟩ := hv
  have hx := B.exec
  have hb := B.bytes
  have hr := B.returns
  have hts := atoms_spec (ws := wsX7_isSheet) B.pre
  have hown : s.vm.findClass RX7 = some m.cls := findClass_of_methodNamed B.named
  have hlocks := B.notSynchronized
  have hl := lv_entry ([.int x0] : List Value) (n := 1) (Nat.le_of_ble_eq_true rfl)
  rw [lg_entry_eq]
  generalize (lg_sl ([.int x0] : List Value) ++ List.replicate (1 - (lg_sl ([.int x0] : List Value)).length) Slot.unset).toArray = ls at hl ⊢
  have hl : lv_has ls 1 [(0, .int x0)] := hl
  unfold wp_X7_isSheet at hw
  refine lv_iload_n hx hb dX7_isSheet_0 rfl (lv_at hl 0 rfl) ?_
  refine lv_if_lt (tgt := 13) hx hb dX7_isSheet_1 (by decide) (fun c9 => ?_) (fun c9 => ?_)
  · replace hw := hw.1 c9
    refine lv_iconst (v := 0) hx hb dX7_isSheet_13 (by decide) ?_
    exact W.zret hx hb hr rfl (fun t ht _ => ⟨_, rfl, hw, ht⟩) (fun _ h => absurd h List.not_mem_nil) dX7_isSheet_14
  · replace hw := hw.2 c9
    refine lv_iload_n hx hb dX7_isSheet_4 rfl (lv_at hl 0 rfl) ?_
    refine lv_iconst (v := 4) hx hb dX7_isSheet_5 (by decide) ?_
    refine lv_icmp_ge (tgt := 13) hx hb dX7_isSheet_6 (by decide) (fun c9 => ?_) (fun c9 => ?_)
    · replace hw := hw.1 c9
      refine lv_iconst (v := 0) hx hb dX7_isSheet_13 (by decide) ?_
      exact W.zret hx hb hr rfl (fun t ht _ => ⟨_, rfl, hw, ht⟩) (fun _ h => absurd h List.not_mem_nil) dX7_isSheet_14
    · replace hw := hw.2 c9
      refine lv_iconst (v := 1) hx hb dX7_isSheet_9 (by decide) ?_
      refine lv_goto (tgt := 14) hx hb dX7_isSheet_10 (by decide) ?_
      exact W.zret hx hb hr rfl (fun t ht _ => ⟨_, rfl, hw, ht⟩) (fun _ h => absurd h List.not_mem_nil) dX7_isSheet_14
set_option maxHeartbeats 4000000 in
set_option maxRecDepth 100000 in
theorem c_X7_isLaneOfSheet (l : Launch) (D : va_G) (G : Nat → ClassId) (x0 : Int32) (x1 : Int32) (post : Int32 → Prop) (hw : wp_X7_isLaneOfSheet x0 x1 post) : Met l yX7_isLaneOfSheet wsX7_isLaneOfSheet ({ frames := 1, cells := 0, slots := 0, locals := 20 } : Room) (va_Pc [.int x0, .int x1] (xR D G [])) (vp_Si post) 0 0 (fun _ => False) := by
  refine Met.ofW (cc := cX7_isLaneOfSheet) (maxL := 2) (ret := (some .boolean)) (by decide) rfl ?_
  intro p e s m args below meth c s₁ B hml hv
  obtain ⟨rfl, hP, hK⟩ := hv
  have hx := B.exec
  have hb := B.bytes
  have hr := B.returns
  have hts := atoms_spec (ws := wsX7_isLaneOfSheet) B.pre
  have hown : s.vm.findClass RX7 = some m.cls := findClass_of_methodNamed B.named
  have hlocks := B.notSynchronized
  have hl := lv_entry ([.int x0, .int x1] : List Value) (n := 2) (Nat.le_of_ble_eq_true rfl)
  rw [lg_entry_eq]
  generalize (lg_sl ([.int x0, .int x1] : List Value) ++ List.replicate (2 - (lg_sl ([.int x0, .int x1] : List Value)).length) Slot.unset).toArray = ls at hl ⊢
  have hl : lv_has ls 2 [(0, .int x0), (1, .int x1)] := hl
  unfold wp_X7_isLaneOfSheet at hw
  refine lv_iload_n hx hb dX7_isLaneOfSheet_0 rfl (lv_at hl 0 rfl) ?_
  refine vp_callSi (W.runS (As := [.int x0]) (rest := []) ⟨hx, hb, hml, hown, hts⟩ (c_X7_isSheet l D G x0 _ hw) (va_cwS 1 hts gX7_isLaneOfSheet_X7_isSheet rfl rfl rfl (by decide +kernel) ⟨(Nat.le_of_ble_eq_true rfl), (Nat.le_of_ble_eq_true rfl)⟩) (xR_ps (hP.sub [] rfl) hK) rfl rfl hl.1 rfl (lv_room (Nat.le_of_ble_eq_true rfl)) dX7_isLaneOfSheet_1 ⟨Nat.zero_le _, Nat.zero_le _⟩) (fun r1 hw => ?_)
  refine lv_if_eq (tgt := 20) hx hb dX7_isLaneOfSheet_4 (by decide) (fun c9 => ?_) (fun c9 => ?_)
  · replace hw := hw.1 c9
    refine lv_iconst (v := 0) hx hb dX7_isLaneOfSheet_20 (by decide) ?_
    exact W.zret hx hb hr rfl (fun t ht _ => ⟨_, rfl, hw, ht⟩) (fun _ h => absurd h List.not_mem_nil) dX7_isLaneOfSheet_21
  · replace hw := hw.2 c9
    refine lv_iload_n hx hb dX7_isLaneOfSheet_7 rfl (lv_at hl 1 rfl) ?_
    refine lv_if_lt (tgt := 20) hx hb dX7_isLaneOfSheet_8 (by decide) (fun c9 => ?_) (fun c9 => ?_)
    · replace hw := hw.1 c9
      refine lv_iconst (v := 0) hx hb dX7_isLaneOfSheet_20 (by decide) ?_
      exact W.zret hx hb hr rfl (fun t ht _ => ⟨_, rfl, hw, ht⟩) (fun _ h => absurd h List.not_mem_nil) dX7_isLaneOfSheet_21
    · replace hw := hw.2 c9
      refine lv_iload_n hx hb dX7_isLaneOfSheet_11 rfl (lv_at hl 1 rfl) ?_
      refine lv_iconst (v := 4) hx hb dX7_isLaneOfSheet_12 (by decide) ?_
      refine lv_icmp_ge (tgt := 20) hx hb dX7_isLaneOfSheet_13 (by decide) (fun c9 => ?_) (fun c9 => ?_)
      · replace hw := hw.1 c9
        refine lv_iconst (v := 0) hx hb dX7_isLaneOfSheet_20 (by decide) ?_
        exact W.zret hx hb hr rfl (fun t ht _ => ⟨_, rfl, hw, ht⟩) (fun _ h => absurd h List.not_mem_nil) dX7_isLaneOfSheet_21
      · replace hw := hw.2 c9
        refine lv_iconst (v := 1) hx hb dX7_isLaneOfSheet_16 (by decide) ?_
        refine lv_goto (tgt := 21) hx hb dX7_isLaneOfSheet_17 (by decide) ?_
        exact W.zret hx hb hr rfl (fun t ht _ => ⟨_, rfl, hw, ht⟩) (fun _ h => absurd h List.not_mem_nil) dX7_isLaneOfSheet_21
set_option maxHeartbeats 4000000 in
set_option maxRecDepth 100000 in
theorem c_X7_readRow (l : Launch) (D : va_G) (G : Nat → ClassId) (sz : Nat) (x_xo : Nat) (da : Nat) (k_da : Nat) (t_ta : Nat) (p_pl : Nat) (r_tr : Nat) (w_ro : Nat) (x_ash : Nat) (ami : Nat) (aki : Nat) (afi : Nat) (anw : Nat) (apa : Nat) (w_amx : Nat) (w_aan : Nat) (w_aag : Nat) (x_sq : Nat → Nat) (s_ait : Nat) (x_isKept : Int32) (cows : Int32) (tasters : Int32) (newest : Int32) (known : Int32) (w_pairs : Int32) (w_mixes : Nat → Int32) (w_answers : Nat → Int32) (s_lane : Int32) (s_size : Int32) (s_items : Nat → Int64) (x1 : Int32) (x2 : Int32) (x3 : Int32) (x4 : Int32) (post : Int32 → Int32 → (Nat → Int32) → (Nat → Int32) → Prop) (hw : wp_X7_readRow cows w_pairs w_mixes w_answers s_lane s_size s_items x1 x2 x3 x4 post) : Met l yX7_readRow wsX7_readRow ({ frames := 2, cells := 0, slots := 0, locals := 50 } : Room) (va_Pc [.ref x_xo, .int x1, .int x2, .int x3, .int x4] (xM D G sz [(x_xo, .inr (7, [.ref da, .ref k_da, .int x_isKept, .ref t_ta, .ref p_pl, .ref r_tr, .ref w_ro, .ref x_ash])), (da, .inr (0, [.ref ami, .int cows, .ref aki, .ref afi, .int tasters, .ref anw, .ref apa, .int newest, .int known])), (w_ro, .inr (3, [.ref w_amx, .ref w_aan, .int w_pairs, .ref w_aag])), (w_amx, .inl (G 0, 6, .inl w_mixes)), (w_aan, .inl (G 0, 6, .inl w_answers)), (x_ash, .inl (G 5, 4, .inr (.inr (.inr (.inr (fun k => some (x_sq k))))))), ((x_sq x1.toNatClampNeg), .inr (4, [.ref s_ait, .int s_lane, .int s_size])), (s_ait, .inl (G 1, 24, .inr (.inl s_items)))])) (va_Qi (fun r (u : Int32 × (Nat → Int32) × (Nat → Int32)) => post r u.1 u.2.1 u.2.2) (fun u t => xE D G (va_A [(x_xo, .inr (7, [.ref da, .ref k_da, .int x_isKept, .ref t_ta, .ref p_pl, .ref r_tr, .ref w_ro, .ref x_ash])), (da, .inr (0, [.ref ami, .int cows, .ref aki, .ref afi, .int tasters, .ref anw, .ref apa, .int newest, .int known])), (w_ro, .inr (3, [.ref w_amx, .ref w_aan, .int w_pairs, .ref w_aag])), (w_amx, .inl (G 0, 6, .inl w_mixes)), (w_aan, .inl (G 0, 6, .inl w_answers)), (x_ash, .inl (G 5, 4, .inr (.inr (.inr (.inr (fun k => some (x_sq k))))))), ((x_sq x1.toNatClampNeg), .inr (4, [.ref s_ait, .int s_lane, .int s_size])), (s_ait, .inl (G 1, 24, .inr (.inl s_items)))] sz) [(x_xo, .inr (7, [.ref da, .ref k_da, .int x_isKept, .ref t_ta, .ref p_pl, .ref r_tr, .ref w_ro, .ref x_ash])), (da, .inr (0, [.ref ami, .int cows, .ref aki, .ref afi, .int tasters, .ref anw, .ref apa, .int newest, .int known])), (w_ro, .inr (3, [.ref w_amx, .ref w_aan, .int u.1, .ref w_aag])), (w_amx, .inl (G 0, 6, .inl (u.2.1))), (w_aan, .inl (G 0, 6, .inl (u.2.2))), (x_ash, .inl (G 5, 4, .inr (.inr (.inr (.inr (fun k => some (x_sq k))))))), ((x_sq x1.toNatClampNeg), .inr (4, [.ref s_ait, .int s_lane, .int s_size])), (s_ait, .inl (G 1, 24, .inr (.inl s_items)))] t) (va_A [(x_xo, .inr (7, [.ref da, .ref k_da, .int x_isKept, .ref t_ta, .ref p_pl, .ref r_tr, .ref w_ro, .ref x_ash])), (da, .inr (0, [.ref ami, .int cows, .ref aki, .ref afi, .int tasters, .ref anw, .ref apa, .int newest, .int known])), (w_ro, .inr (3, [.ref w_amx, .ref w_aan, .int w_pairs, .ref w_aag])), (w_amx, .inl (G 0, 6, .inl w_mixes)), (w_aan, .inl (G 0, 6, .inl w_answers)), (x_ash, .inl (G 5, 4, .inr (.inr (.inr (.inr (fun k => some (x_sq k))))))), ((x_sq x1.toNatClampNeg), .inr (4, [.ref s_ait, .int s_lane, .int s_size])), (s_ait, .inl (G 1, 24, .inr (.inl s_items)))] sz)) 0 0 (va_A [(x_xo, .inr (7, [.ref da, .ref k_da, .int x_isKept, .ref t_ta, .ref p_pl, .ref r_tr, .ref w_ro, .ref x_ash])), (da, .inr (0, [.ref ami, .int cows, .ref aki, .ref afi, .int tasters, .ref anw, .ref apa, .int newest, .int known])), (w_ro, .inr (3, [.ref w_amx, .ref w_aan, .int w_pairs, .ref w_aag])), (w_amx, .inl (G 0, 6, .inl w_mixes)), (w_aan, .inl (G 0, 6, .inl w_answers)), (x_ash, .inl (G 5, 4, .inr (.inr (.inr (.inr (fun k => some (x_sq k))))))), ((x_sq x1.toNatClampNeg), .inr (4, [.ref s_ait, .int s_lane, .int s_size])), (s_ait, .inl (G 1, 24, .inr (.inl s_items)))] sz) := by
  refine Met.ofW (cc := cX7_readRow) (maxL := 6) (ret := (some .int)) (by decide) rfl ?_
  intro p e s m args below meth c s₁ B hml hv
  obtain ⟨rfl, hsz, hP, hK, hD0⟩ := hv
  have hx := B.exec
  have hb := B.bytes
  have hr := B.returns
  have hts := atoms_spec (ws := wsX7_readRow) B.pre
  have hown : s.vm.findClass RX7 = some m.cls := findClass_of_methodNamed B.named
  have hlocks := B.notSynchronized
  subst hsz
  have hD := hD0.self (sz := s.heap.size)
  generalize hAe : va_A [(x_xo, .inr (7, [.ref da, .ref k_da, .int x_isKept, .ref t_ta, .ref p_pl, .ref r_tr, .ref w_ro, .ref x_ash])), (da, .inr (0, [.ref ami, .int cows, .ref aki, .ref afi, .int tasters, .ref anw, .ref apa, .int newest, .int known])), (w_ro, .inr (3, [.ref w_amx, .ref w_aan, .int w_pairs, .ref w_aag])), (w_amx, .inl (G 0, 6, .inl w_mixes)), (w_aan, .inl (G 0, 6, .inl w_answers)), (x_ash, .inl (G 5, 4, .inr (.inr (.inr (.inr (fun k => some (x_sq k))))))), ((x_sq x1.toNatClampNeg), .inr (4, [.ref s_ait, .int s_lane, .int s_size])), (s_ait, .inl (G 1, 24, .inr (.inl s_items)))] s.heap.size = A at hD ⊢
  have hA : ∀ q : Nat, s.heap.size ≤ q → A q := fun q h => by rw [← hAe]; exact Or.inr h
  have hS : va_S A s.heap s.heap [] := va_S.rf
  have inX7 : ∀ w ∈ wsX70, w ∈ wsX7_readRow := by decide +kernel
  have fl53 := hts (.fieldLink RX7 53 "NewsCow" "sheets" "[LNewsCow$Sheet;") (by decide +kernel)
  have fl47 := hts (.fieldLink RX7 47 "NewsCow" "row" "LNewsCow$Row;") (by decide +kernel)
  have fl12 := hts (.fieldLink RX7 12 "NewsCow" "dairy" "LNewsCow$Dairy;") (by decide +kernel)
  have hl := lv_entry ([.ref x_xo, .int x1, .int x2, .int x3, .int x4] : List Value) (n := 6) (Nat.le_of_ble_eq_true rfl)
  rw [lg_entry_eq]
  generalize (lg_sl ([.ref x_xo, .int x1, .int x2, .int x3, .int x4] : List Value) ++ List.replicate (6 - (lg_sl ([.ref x_xo, .int x1, .int x2, .int x3, .int x4] : List Value)).length) Slot.unset).toArray = ls at hl ⊢
  have hl : lv_has ls 6 [(0, .ref x_xo), (1, .int x1), (2, .int x2), (3, .int x3), (4, .int x4)] := hl
  unfold wp_X7_readRow at hw
  refine lv_aload_n hx hb dX7_readRow_0 rfl (lv_at hl 0 rfl) ?_
  refine va_get (D := D) (ci := 7) (v := .ref x_ash) (C := RX7) (T := TX7) (N := 8) hx hb hts inX7 hown hK hP 0 rfl rfl 7 (by decide) fl53 (fun _ h9 => h9) rfl dX7_readRow_1 ?_
  refine lv_iload_n hx hb dX7_readRow_4 rfl (lv_at hl 1 rfl) ?_
  refine x_aldq (j := x1.toNatClampNeg) (b := (x_sq x1.toNatClampNeg)) hx hb hK hP 5 5 rfl rfl rfl rfl hw.1 dX7_readRow_5 ?_
  replace hw := hw.2
  refine lv_iload_n hx hb dX7_readRow_6 rfl (lv_at hl 2 rfl) ?_
  refine lv_iload_n hx hb dX7_readRow_7 rfl (lv_at hl 3 rfl) ?_
  refine lv_iconst (v := 2) hx hb dX7_readRow_8 (by decide) ?_
  refine lv_iload hx hb dX7_readRow_9 (lv_at hl 4 rfl) ?_
  refine lv_imul hx hb dX7_readRow_11 ?_
  refine vp_callSi (W.runV (As := [.int x2, .int x3, .int ((2 : Int32) * x4)]) (rest := []) ⟨hx, hb, hml, hown, hts⟩ (c_X4_refusal l D G (x_sq x1.toNatClampNeg) s_ait s_lane s_size x2 x3 ((2 : Int32) * x4) _ hw) (cwV 3 hts gX7_readRow_X4_refusal rfl rfl rfl (by decide +kernel) ⟨(Nat.le_of_ble_eq_true rfl), (Nat.le_of_ble_eq_true rfl)⟩) (xR_pv (hP.sub [6] rfl) hK (va_recv hK hP (ci := 4) (q0 := 6) rfl rfl)) rfl rfl hl.1 rfl (lv_room (Nat.le_of_ble_eq_true rfl)) dX7_readRow_12 ⟨Nat.zero_le _, Nat.zero_le _⟩) (fun r1 hw => ?_)
  refine lv_istore (lv' := [(5, .int r1), (0, .ref x_xo), (1, .int x1), (2, .int x2), (3, .int x3), (4, .int x4)]) hx hb dX7_readRow_15 hl (by decide) rfl (fun ls hl => ?_)
  refine lv_iload hx hb dX7_readRow_17 (lv_at hl 0 rfl) ?_
  refine lv_if_eq (tgt := 25) hx hb dX7_readRow_19 (by decide) (fun c9 => ?_) (fun c9 => ?_)
  · replace hw := hw.1 c9
    refine lv_aload_n hx hb dX7_readRow_25 rfl (lv_at hl 1 rfl) ?_
    refine va_get (D := D) (ci := 7) (v := .ref w_ro) (C := RX7) (T := TX7) (N := 8) hx hb hts inX7 hown hK hP 0 rfl rfl 6 (by decide) fl47 (fun _ h9 => h9) rfl dX7_readRow_26 ?_
    refine lv_aload_n hx hb dX7_readRow_29 rfl (lv_at hl 1 rfl) ?_
    refine va_get (D := D) (ci := 7) (v := .ref x_ash) (C := RX7) (T := TX7) (N := 8) hx hb hts inX7 hown hK hP 0 rfl rfl 7 (by decide) fl53 (fun _ h9 => h9) rfl dX7_readRow_30 ?_
    refine lv_iload_n hx hb dX7_readRow_33 rfl (lv_at hl 2 rfl) ?_
    refine x_aldq (j := x1.toNatClampNeg) (b := (x_sq x1.toNatClampNeg)) hx hb hK hP 5 5 rfl rfl rfl rfl hw.1 dX7_readRow_34 ?_
    replace hw := hw.2
    refine lv_iload_n hx hb dX7_readRow_35 rfl (lv_at hl 4 rfl) ?_
    refine lv_iload hx hb dX7_readRow_36 (lv_at hl 5 rfl) ?_
    refine lv_aload_n hx hb dX7_readRow_38 rfl (lv_at hl 1 rfl) ?_
    refine va_get (D := D) (ci := 7) (v := .ref da) (C := RX7) (T := TX7) (N := 8) hx hb hts inX7 hown hK hP 0 rfl rfl 0 (by decide) fl12 (fun _ h9 => h9) rfl dX7_readRow_39 ?_
    refine vp_callSi (W.runV (As := []) (rest := [.int x4, .int x3, .ref (x_sq x1.toNatClampNeg), .ref w_ro]) ⟨hx, hb, hml, hown, hts⟩ (c_X0_allCows l D G da ami aki afi anw apa cows tasters newest known _ hw) (cwV 0 hts gX7_readRow_X0_allCows rfl rfl rfl (by decide +kernel) ⟨(Nat.le_of_ble_eq_true rfl), (Nat.le_of_ble_eq_true rfl)⟩) (xR_pv (hP.sub [1] rfl) hK (va_recv hK hP (ci := 0) (q0 := 1) rfl rfl)) rfl rfl hl.1 rfl (lv_room (Nat.le_of_ble_eq_true rfl)) dX7_readRow_42 ⟨Nat.zero_le _, Nat.zero_le _⟩) (fun r2 hw => ?_)
    refine x_cMi (wr := [(x_xo, .inr (7, [.ref da, .ref k_da, .int x_isKept, .ref t_ta, .ref p_pl, .ref r_tr, .ref w_ro, .ref x_ash])), (da, .inr (0, [.ref ami, .int cows, .ref aki, .ref afi, .int tasters, .ref anw, .ref apa, .int newest, .int known])), (x_ash, .inl (G 5, 4, .inr (.inr (.inr (.inr (fun k => some (x_sq k)))))))]) (va_runV (As := [.ref (x_sq x1.toNatClampNeg), .int x3, .int x4, .int r2]) (rest := []) ⟨hx, hb, hml, hown, hts⟩ (c_X3_read l D G _ w_ro w_amx w_aan w_aag (x_sq x1.toNatClampNeg) s_ait w_pairs w_mixes w_answers s_lane s_size s_items x3 x4 r2 _ hw) (cwV 4 hts gX7_readRow_X3_read rfl rfl rfl (by decide +kernel) ⟨(Nat.le_of_ble_eq_true rfl), (Nat.le_of_ble_eq_true rfl)⟩) (xM_pv (hP.sub [2, 3, 4, 6, 7] rfl) hK (hD.sub [2, 3, 4, 6, 7] (by decide) rfl) (va_recv hK hP (ci := 3) (q0 := 2) rfl rfl)) rfl rfl hl.1 rfl (lv_room (Nat.le_of_ble_eq_true rfl)) dX7_readRow_45 ⟨Nat.zero_le _, Nat.zero_le _⟩) hP hD hS hA [2, 3, 4, 6, 7] [0, 1, 5] rfl rfl (by decide) (by decide) [0, 1, 3, 4, 5, 2, 6, 7] (fun u => [(x_xo, .inr (7, [.ref da, .ref k_da, .int x_isKept, .ref t_ta, .ref p_pl, .ref r_tr, .ref w_ro, .ref x_ash])), (da, .inr (0, [.ref ami, .int cows, .ref aki, .ref afi, .int tasters, .ref anw, .ref apa, .int newest, .int known])), (w_ro, .inr (3, [.ref w_amx, .ref w_aan, .int u.1, .ref w_aag])), (w_amx, .inl (G 0, 6, .inl (u.2.1))), (w_aan, .inl (G 0, 6, .inl (u.2.2))), (x_ash, .inl (G 5, 4, .inr (.inr (.inr (.inr (fun k => some (x_sq k))))))), ((x_sq x1.toNatClampNeg), .inr (4, [.ref s_ait, .int s_lane, .int s_size])), (s_ait, .inl (G 1, 24, .inr (.inl s_items)))]) (by decide) (fun u => rfl) (fun r3 u H locs hw hP hD hS => ?_)
    obtain ⟨w_pairs_3, w_mixes_3, w_answers_3⟩ := u
    try dsimp only at hw
    replace hP : va_P D vwCl [(x_xo, .inr (7, [.ref da, .ref k_da, .int x_isKept, .ref t_ta, .ref p_pl, .ref r_tr, .ref w_ro, .ref x_ash])), (da, .inr (0, [.ref ami, .int cows, .ref aki, .ref afi, .int tasters, .ref anw, .ref apa, .int newest, .int known])), (w_ro, .inr (3, [.ref w_amx, .ref w_aan, .int w_pairs_3, .ref w_aag])), (w_amx, .inl (G 0, 6, .inl w_mixes_3)), (w_aan, .inl (G 0, 6, .inl w_answers_3)), (x_ash, .inl (G 5, 4, .inr (.inr (.inr (.inr (fun k => some (x_sq k))))))), ((x_sq x1.toNatClampNeg), .inr (4, [.ref s_ait, .int s_lane, .int s_size])), (s_ait, .inl (G 1, 24, .inr (.inl s_items)))] H := hP
    replace hD : va_D A [(x_xo, .inr (7, [.ref da, .ref k_da, .int x_isKept, .ref t_ta, .ref p_pl, .ref r_tr, .ref w_ro, .ref x_ash])), (da, .inr (0, [.ref ami, .int cows, .ref aki, .ref afi, .int tasters, .ref anw, .ref apa, .int newest, .int known])), (w_ro, .inr (3, [.ref w_amx, .ref w_aan, .int w_pairs_3, .ref w_aag])), (w_amx, .inl (G 0, 6, .inl w_mixes_3)), (w_aan, .inl (G 0, 6, .inl w_answers_3)), (x_ash, .inl (G 5, 4, .inr (.inr (.inr (.inr (fun k => some (x_sq k))))))), ((x_sq x1.toNatClampNeg), .inr (4, [.ref s_ait, .int s_lane, .int s_size])), (s_ait, .inl (G 1, 24, .inr (.inl s_items)))] := hD
    refine lv_if_eq (tgt := 55) hx hb dX7_readRow_48 (by decide) (fun c9 => ?_) (fun c9 => ?_)
    · replace hw := hw.1 c9
      refine lv_bipush (v := -2) hx hb dX7_readRow_55 (by decide) ?_
      exact W.iret hx hb hr (x_mi (u := (w_pairs_3, w_mixes_3, w_answers_3)) hP hK hD hS hw) hS.2.2 dX7_readRow_57
    · replace hw := hw.2 c9
      refine lv_iconst (v := 0) hx hb dX7_readRow_51 (by decide) ?_
      refine lv_goto (tgt := 57) hx hb dX7_readRow_52 (by decide) ?_
      exact W.iret hx hb hr (x_mi (u := (w_pairs_3, w_mixes_3, w_answers_3)) hP hK hD hS hw) hS.2.2 dX7_readRow_57
  · replace hw := hw.2 c9
    refine lv_iload hx hb dX7_readRow_22 (lv_at hl 0 rfl) ?_
    exact W.iret hx hb hr (x_mi (u := (w_pairs, w_mixes, w_answers)) hP hK hD hS hw) hS.2.2 dX7_readRow_24
set_option maxHeartbeats 4000000 in
set_option maxRecDepth 100000 in
theorem c_X7_fits (l : Launch) (D : va_G) (G : Nat → ClassId) (sz : Nat) (x_xo : Nat) (da : Nat) (k_da : Nat) (t_ta : Nat) (p_pl : Nat) (r_tr : Nat) (w_ro : Nat) (x_ash : Nat) (ami : Nat) (aki : Nat) (afi : Nat) (anw : Nat) (apa : Nat) (w_amx : Nat) (w_aan : Nat) (w_aag : Nat) (x_sq : Nat → Nat) (s_ait : Nat) (x_isKept : Int32) (cows : Int32) (tasters : Int32) (newest : Int32) (known : Int32) (milks : Nat → Int32) (kinds : Nat → Int32) (fines : Nat → Int32) (mayBe : Int32) (bearer : Int32) (day : Int32) (draw : Int32) (w_pairs : Int32) (w_mixes : Nat → Int32) (w_answers : Nat → Int32) (s_lane : Int32) (s_size : Int32) (s_items : Nat → Int64) (x1 : Int32) (x2 : Int32) (x3 : Int32) (x4 : Int32) (x5 : Int32) (x6 : Int32) (post : Int32 → Int32 → (Nat → Int32) → (Nat → Int32) → Prop) (hw : wp_X7_fits cows tasters milks kinds fines day w_pairs w_mixes w_answers s_lane s_size s_items x1 x2 x3 x4 x5 x6 post) : Met l yX7_fits wsX7_fits ({ frames := 6, cells := 0, slots := 0, locals := 145 } : Room) (va_Pc [.ref x_xo, .int x1, .int x2, .int x3, .int x4, .int x5, .int x6] (xM D G sz [(x_xo, .inr (7, [.ref da, .ref k_da, .int x_isKept, .ref t_ta, .ref p_pl, .ref r_tr, .ref w_ro, .ref x_ash])), (da, .inr (0, [.ref ami, .int cows, .ref aki, .ref afi, .int tasters, .ref anw, .ref apa, .int newest, .int known])), (ami, .inl (G 0, 8, .inl milks)), (aki, .inl (G 0, 4, .inl kinds)), (afi, .inl (G 0, 4, .inl fines)), (anw, .inr (1, [.int mayBe, .int bearer, .int day, .int draw])), (w_ro, .inr (3, [.ref w_amx, .ref w_aan, .int w_pairs, .ref w_aag])), (w_amx, .inl (G 0, 6, .inl w_mixes)), (w_aan, .inl (G 0, 6, .inl w_answers)), (x_ash, .inl (G 5, 4, .inr (.inr (.inr (.inr (fun k => some (x_sq k))))))), ((x_sq x2.toNatClampNeg), .inr (4, [.ref s_ait, .int s_lane, .int s_size])), (s_ait, .inl (G 1, 24, .inr (.inl s_items)))])) (va_Qi (fun r (u : Int32 × (Nat → Int32) × (Nat → Int32)) => post r u.1 u.2.1 u.2.2) (fun u t => xE D G (va_A [(x_xo, .inr (7, [.ref da, .ref k_da, .int x_isKept, .ref t_ta, .ref p_pl, .ref r_tr, .ref w_ro, .ref x_ash])), (da, .inr (0, [.ref ami, .int cows, .ref aki, .ref afi, .int tasters, .ref anw, .ref apa, .int newest, .int known])), (ami, .inl (G 0, 8, .inl milks)), (aki, .inl (G 0, 4, .inl kinds)), (afi, .inl (G 0, 4, .inl fines)), (anw, .inr (1, [.int mayBe, .int bearer, .int day, .int draw])), (w_ro, .inr (3, [.ref w_amx, .ref w_aan, .int w_pairs, .ref w_aag])), (w_amx, .inl (G 0, 6, .inl w_mixes)), (w_aan, .inl (G 0, 6, .inl w_answers)), (x_ash, .inl (G 5, 4, .inr (.inr (.inr (.inr (fun k => some (x_sq k))))))), ((x_sq x2.toNatClampNeg), .inr (4, [.ref s_ait, .int s_lane, .int s_size])), (s_ait, .inl (G 1, 24, .inr (.inl s_items)))] sz) [(x_xo, .inr (7, [.ref da, .ref k_da, .int x_isKept, .ref t_ta, .ref p_pl, .ref r_tr, .ref w_ro, .ref x_ash])), (da, .inr (0, [.ref ami, .int cows, .ref aki, .ref afi, .int tasters, .ref anw, .ref apa, .int newest, .int known])), (ami, .inl (G 0, 8, .inl milks)), (aki, .inl (G 0, 4, .inl kinds)), (afi, .inl (G 0, 4, .inl fines)), (anw, .inr (1, [.int mayBe, .int bearer, .int day, .int draw])), (w_ro, .inr (3, [.ref w_amx, .ref w_aan, .int u.1, .ref w_aag])), (w_amx, .inl (G 0, 6, .inl (u.2.1))), (w_aan, .inl (G 0, 6, .inl (u.2.2))), (x_ash, .inl (G 5, 4, .inr (.inr (.inr (.inr (fun k => some (x_sq k))))))), ((x_sq x2.toNatClampNeg), .inr (4, [.ref s_ait, .int s_lane, .int s_size])), (s_ait, .inl (G 1, 24, .inr (.inl s_items)))] t) (va_A [(x_xo, .inr (7, [.ref da, .ref k_da, .int x_isKept, .ref t_ta, .ref p_pl, .ref r_tr, .ref w_ro, .ref x_ash])), (da, .inr (0, [.ref ami, .int cows, .ref aki, .ref afi, .int tasters, .ref anw, .ref apa, .int newest, .int known])), (ami, .inl (G 0, 8, .inl milks)), (aki, .inl (G 0, 4, .inl kinds)), (afi, .inl (G 0, 4, .inl fines)), (anw, .inr (1, [.int mayBe, .int bearer, .int day, .int draw])), (w_ro, .inr (3, [.ref w_amx, .ref w_aan, .int w_pairs, .ref w_aag])), (w_amx, .inl (G 0, 6, .inl w_mixes)), (w_aan, .inl (G 0, 6, .inl w_answers)), (x_ash, .inl (G 5, 4, .inr (.inr (.inr (.inr (fun k => some (x_sq k))))))), ((x_sq x2.toNatClampNeg), .inr (4, [.ref s_ait, .int s_lane, .int s_size])), (s_ait, .inl (G 1, 24, .inr (.inl s_items)))] sz)) 0 0 (va_A [(x_xo, .inr (7, [.ref da, .ref k_da, .int x_isKept, .ref t_ta, .ref p_pl, .ref r_tr, .ref w_ro, .ref x_ash])), (da, .inr (0, [.ref ami, .int cows, .ref aki, .ref afi, .int tasters, .ref anw, .ref apa, .int newest, .int known])), (ami, .inl (G 0, 8, .inl milks)), (aki, .inl (G 0, 4, .inl kinds)), (afi, .inl (G 0, 4, .inl fines)), (anw, .inr (1, [.int mayBe, .int bearer, .int day, .int draw])), (w_ro, .inr (3, [.ref w_amx, .ref w_aan, .int w_pairs, .ref w_aag])), (w_amx, .inl (G 0, 6, .inl w_mixes)), (w_aan, .inl (G 0, 6, .inl w_answers)), (x_ash, .inl (G 5, 4, .inr (.inr (.inr (.inr (fun k => some (x_sq k))))))), ((x_sq x2.toNatClampNeg), .inr (4, [.ref s_ait, .int s_lane, .int s_size])), (s_ait, .inl (G 1, 24, .inr (.inl s_items)))] sz) := by
  refine Met.ofW (cc := cX7_fits) (maxL := 10) (ret := (some .int)) (by decide) rfl ?_
  intro p e s m args below meth c s₁ B hml hv
  obtain ⟨rfl, hsz, hP, hK, hD0⟩ := hv
  have hx := B.exec
  have hb := B.bytes
  have hr := B.returns
  have hts := atoms_spec (ws := wsX7_fits) B.pre
  have hown : s.vm.findClass RX7 = some m.cls := findClass_of_methodNamed B.named
  have hlocks := B.notSynchronized
  subst hsz
  have hD := hD0.self (sz := s.heap.size)
  generalize hAe : va_A [(x_xo, .inr (7, [.ref da, .ref k_da, .int x_isKept, .ref t_ta, .ref p_pl, .ref r_tr, .ref w_ro, .ref x_ash])), (da, .inr (0, [.ref ami, .int cows, .ref aki, .ref afi, .int tasters, .ref anw, .ref apa, .int newest, .int known])), (ami, .inl (G 0, 8, .inl milks)), (aki, .inl (G 0, 4, .inl kinds)), (afi, .inl (G 0, 4, .inl fines)), (anw, .inr (1, [.int mayBe, .int bearer, .int day, .int draw])), (w_ro, .inr (3, [.ref w_amx, .ref w_aan, .int w_pairs, .ref w_aag])), (w_amx, .inl (G 0, 6, .inl w_mixes)), (w_aan, .inl (G 0, 6, .inl w_answers)), (x_ash, .inl (G 5, 4, .inr (.inr (.inr (.inr (fun k => some (x_sq k))))))), ((x_sq x2.toNatClampNeg), .inr (4, [.ref s_ait, .int s_lane, .int s_size])), (s_ait, .inl (G 1, 24, .inr (.inl s_items)))] s.heap.size = A at hD ⊢
  have hA : ∀ q : Nat, s.heap.size ≤ q → A q := fun q h => by rw [← hAe]; exact Or.inr h
  have hS : va_S A s.heap s.heap [] := va_S.rf
  have inX0 : ∀ w ∈ wsX00, w ∈ wsX7_fits := by decide +kernel
  have inX7 : ∀ w ∈ wsX70, w ∈ wsX7_fits := by decide +kernel
  have fl12 := hts (.fieldLink RX7 12 "NewsCow" "dairy" "LNewsCow$Dairy;") (by decide +kernel)
  have fl103 := hts (.fieldLink RX7 103 "NewsCow$Dairy" "kinds" "[I") (by decide +kernel)
  have fl106 := hts (.fieldLink RX7 106 "NewsCow$Dairy" "fines" "[I") (by decide +kernel)
  have fl47 := hts (.fieldLink RX7 47 "NewsCow" "row" "LNewsCow$Row;") (by decide +kernel)
  have hl := lv_entry ([.ref x_xo, .int x1, .int x2, .int x3, .int x4, .int x5, .int x6] : List Value) (n := 10) (Nat.le_of_ble_eq_true rfl)
  rw [lg_entry_eq]
  generalize (lg_sl ([.ref x_xo, .int x1, .int x2, .int x3, .int x4, .int x5, .int x6] : List Value) ++ List.replicate (10 - (lg_sl ([.ref x_xo, .int x1, .int x2, .int x3, .int x4, .int x5, .int x6] : List Value)).length) Slot.unset).toArray = ls at hl ⊢
  have hl : lv_has ls 10 [(0, .ref x_xo), (1, .int x1), (2, .int x2), (3, .int x3), (4, .int x4), (5, .int x5), (6, .int x6)] := hl
  unfold wp_X7_fits at hw
  refine lv_aload_n hx hb dX7_fits_0 rfl (lv_at hl 0 rfl) ?_
  refine lv_iload_n hx hb dX7_fits_1 rfl (lv_at hl 1 rfl) ?_
  refine vp_callSi (W.runV (As := [.int x1]) (rest := []) ⟨hx, hb, hml, hown, hts⟩ (c_X7_isTaster l D G x_xo da k_da t_ta p_pl r_tr w_ro x_ash ami aki afi anw apa x_isKept cows tasters newest known x1 _ hw) (cwV 1 hts gX7_fits_X7_isTaster rfl rfl rfl (by decide +kernel) ⟨(Nat.le_of_ble_eq_true rfl), (Nat.le_of_ble_eq_true rfl)⟩) (xR_pv (hP.sub [0, 1] rfl) hK (va_recv hK hP (ci := 7) (q0 := 0) rfl rfl)) rfl rfl hl.1 rfl (lv_room (Nat.le_of_ble_eq_true rfl)) dX7_fits_2 ⟨Nat.zero_le _, Nat.zero_le _⟩) (fun r1 hw => ?_)
  refine lv_if_eq (tgt := 40) hx hb dX7_fits_5 (by decide) (fun c9 => ?_) (fun c9 => ?_)
  · replace hw := hw.1 c9
    refine lv_iconst (v := -1) hx hb dX7_fits_40 (by decide) ?_
    exact W.iret hx hb hr (x_mi (u := (w_pairs, w_mixes, w_answers)) hP hK hD hS hw) hS.2.2 dX7_fits_41
  · replace hw := hw.2 c9
    refine lv_iload_n hx hb dX7_fits_8 rfl (lv_at hl 2 rfl) ?_
    refine lv_iload_n hx hb dX7_fits_9 rfl (lv_at hl 3 rfl) ?_
    refine vp_callSi (W.runS (As := [.int x2, .int x3]) (rest := []) ⟨hx, hb, hml, hown, hts⟩ (c_X7_isLaneOfSheet l D G x2 x3 _ hw) (va_cwS 2 hts gX7_fits_X7_isLaneOfSheet rfl rfl rfl (by decide +kernel) ⟨(Nat.le_of_ble_eq_true rfl), (Nat.le_of_ble_eq_true rfl)⟩) (xR_ps (hP.sub [] rfl) hK) rfl rfl hl.1 rfl (lv_room (Nat.le_of_ble_eq_true rfl)) dX7_fits_10 ⟨Nat.zero_le _, Nat.zero_le _⟩) (fun r2 hw => ?_)
    refine lv_if_eq (tgt := 40) hx hb dX7_fits_13 (by decide) (fun c9 => ?_) (fun c9 => ?_)
    · replace hw := hw.1 c9
      refine lv_iconst (v := -1) hx hb dX7_fits_40 (by decide) ?_
      exact W.iret hx hb hr (x_mi (u := (w_pairs, w_mixes, w_answers)) hP hK hD hS hw) hS.2.2 dX7_fits_41
    · replace hw := hw.2 c9
      refine lv_iload hx hb dX7_fits_16 (lv_at hl 5 rfl) ?_
      refine lv_iconst (v := 1) hx hb dX7_fits_18 (by decide) ?_
      refine lv_icmp_lt (tgt := 40) hx hb dX7_fits_19 (by decide) (fun c9 => ?_) (fun c9 => ?_)
      · replace hw := hw.1 c9
        refine lv_iconst (v := -1) hx hb dX7_fits_40 (by decide) ?_
        exact W.iret hx hb hr (x_mi (u := (w_pairs, w_mixes, w_answers)) hP hK hD hS hw) hS.2.2 dX7_fits_41
      · replace hw := hw.2 c9
        refine lv_iload hx hb dX7_fits_22 (lv_at hl 5 rfl) ?_
        refine lv_bipush (v := 6) hx hb dX7_fits_24 (by decide) ?_
        refine lv_icmp_gt (tgt := 40) hx hb dX7_fits_26 (by decide) (fun c9 => ?_) (fun c9 => ?_)
        · replace hw := hw.1 c9
          refine lv_iconst (v := -1) hx hb dX7_fits_40 (by decide) ?_
          exact W.iret hx hb hr (x_mi (u := (w_pairs, w_mixes, w_answers)) hP hK hD hS hw) hS.2.2 dX7_fits_41
        · replace hw := hw.2 c9
          refine lv_iload hx hb dX7_fits_29 (lv_at hl 6 rfl) ?_
          refine lv_if_lt (tgt := 40) hx hb dX7_fits_31 (by decide) (fun c9 => ?_) (fun c9 => ?_)
          · replace hw := hw.1 c9
            refine lv_iconst (v := -1) hx hb dX7_fits_40 (by decide) ?_
            exact W.iret hx hb hr (x_mi (u := (w_pairs, w_mixes, w_answers)) hP hK hD hS hw) hS.2.2 dX7_fits_41
          · replace hw := hw.2 c9
            refine lv_iload hx hb dX7_fits_34 (lv_at hl 6 rfl) ?_
            refine lv_iconst (v := 3) hx hb dX7_fits_36 (by decide) ?_
            refine lv_icmp_le (tgt := 42) hx hb dX7_fits_37 (by decide) (fun c9 => ?_) (fun c9 => ?_)
            · replace hw := hw.1 c9
              refine lv_aload_n hx hb dX7_fits_42 rfl (lv_at hl 0 rfl) ?_
              refine lv_iload_n hx hb dX7_fits_43 rfl (lv_at hl 2 rfl) ?_
              refine lv_iload_n hx hb dX7_fits_44 rfl (lv_at hl 3 rfl) ?_
              refine lv_iload hx hb dX7_fits_45 (lv_at hl 4 rfl) ?_
              refine lv_iload hx hb dX7_fits_47 (lv_at hl 5 rfl) ?_
              refine x_cMi (wr := [(ami, .inl (G 0, 8, .inl milks)), (aki, .inl (G 0, 4, .inl kinds)), (afi, .inl (G 0, 4, .inl fines)), (anw, .inr (1, [.int mayBe, .int bearer, .int day, .int draw]))]) (va_runV (As := [.int x2, .int x3, .int x4, .int x5]) (rest := []) ⟨hx, hb, hml, hown, hts⟩ (c_X7_readRow l D G _ x_xo da k_da t_ta p_pl r_tr w_ro x_ash ami aki afi anw apa w_amx w_aan w_aag x_sq s_ait x_isKept cows tasters newest known w_pairs w_mixes w_answers s_lane s_size s_items x2 x3 x4 x5 _ hw) (cwV 4 hts gX7_fits_X7_readRow rfl rfl rfl (by decide +kernel) ⟨(Nat.le_of_ble_eq_true rfl), (Nat.le_of_ble_eq_true rfl)⟩) (xM_pv (hP.sub [0, 1, 6, 7, 8, 9, 10, 11] rfl) hK (hD.sub [0, 1, 6, 7, 8, 9, 10, 11] (by decide) rfl) (va_recv hK hP (ci := 7) (q0 := 0) rfl rfl)) rfl rfl hl.1 rfl (lv_room (Nat.le_of_ble_eq_true rfl)) dX7_fits_49 ⟨Nat.zero_le _, Nat.zero_le _⟩) hP hD hS hA [0, 1, 6, 7, 8, 9, 10, 11] [2, 3, 4, 5] rfl rfl (by decide) (by decide) [4, 5, 0, 1, 2, 3, 6, 7, 8, 9, 10, 11] (fun u => [(x_xo, .inr (7, [.ref da, .ref k_da, .int x_isKept, .ref t_ta, .ref p_pl, .ref r_tr, .ref w_ro, .ref x_ash])), (da, .inr (0, [.ref ami, .int cows, .ref aki, .ref afi, .int tasters, .ref anw, .ref apa, .int newest, .int known])), (ami, .inl (G 0, 8, .inl milks)), (aki, .inl (G 0, 4, .inl kinds)), (afi, .inl (G 0, 4, .inl fines)), (anw, .inr (1, [.int mayBe, .int bearer, .int day, .int draw])), (w_ro, .inr (3, [.ref w_amx, .ref w_aan, .int u.1, .ref w_aag])), (w_amx, .inl (G 0, 6, .inl (u.2.1))), (w_aan, .inl (G 0, 6, .inl (u.2.2))), (x_ash, .inl (G 5, 4, .inr (.inr (.inr (.inr (fun k => some (x_sq k))))))), ((x_sq x2.toNatClampNeg), .inr (4, [.ref s_ait, .int s_lane, .int s_size])), (s_ait, .inl (G 1, 24, .inr (.inl s_items)))]) (by decide) (fun u => rfl) (fun r3 u H locs hw hP hD hS => ?_)
              obtain ⟨w_pairs_3, w_mixes_3, w_answers_3⟩ := u
              try dsimp only at hw
              replace hP : va_P D vwCl [(x_xo, .inr (7, [.ref da, .ref k_da, .int x_isKept, .ref t_ta, .ref p_pl, .ref r_tr, .ref w_ro, .ref x_ash])), (da, .inr (0, [.ref ami, .int cows, .ref aki, .ref afi, .int tasters, .ref anw, .ref apa, .int newest, .int known])), (ami, .inl (G 0, 8, .inl milks)), (aki, .inl (G 0, 4, .inl kinds)), (afi, .inl (G 0, 4, .inl fines)), (anw, .inr (1, [.int mayBe, .int bearer, .int day, .int draw])), (w_ro, .inr (3, [.ref w_amx, .ref w_aan, .int w_pairs_3, .ref w_aag])), (w_amx, .inl (G 0, 6, .inl w_mixes_3)), (w_aan, .inl (G 0, 6, .inl w_answers_3)), (x_ash, .inl (G 5, 4, .inr (.inr (.inr (.inr (fun k => some (x_sq k))))))), ((x_sq x2.toNatClampNeg), .inr (4, [.ref s_ait, .int s_lane, .int s_size])), (s_ait, .inl (G 1, 24, .inr (.inl s_items)))] H := hP
              replace hD : va_D A [(x_xo, .inr (7, [.ref da, .ref k_da, .int x_isKept, .ref t_ta, .ref p_pl, .ref r_tr, .ref w_ro, .ref x_ash])), (da, .inr (0, [.ref ami, .int cows, .ref aki, .ref afi, .int tasters, .ref anw, .ref apa, .int newest, .int known])), (ami, .inl (G 0, 8, .inl milks)), (aki, .inl (G 0, 4, .inl kinds)), (afi, .inl (G 0, 4, .inl fines)), (anw, .inr (1, [.int mayBe, .int bearer, .int day, .int draw])), (w_ro, .inr (3, [.ref w_amx, .ref w_aan, .int w_pairs_3, .ref w_aag])), (w_amx, .inl (G 0, 6, .inl w_mixes_3)), (w_aan, .inl (G 0, 6, .inl w_answers_3)), (x_ash, .inl (G 5, 4, .inr (.inr (.inr (.inr (fun k => some (x_sq k))))))), ((x_sq x2.toNatClampNeg), .inr (4, [.ref s_ait, .int s_lane, .int s_size])), (s_ait, .inl (G 1, 24, .inr (.inl s_items)))] := hD
              refine lv_istore (lv' := [(7, .int r3), (0, .ref x_xo), (1, .int x1), (2, .int x2), (3, .int x3), (4, .int x4), (5, .int x5), (6, .int x6)]) hx hb dX7_fits_52 hl (by decide) rfl (fun ls hl => ?_)
              refine lv_iload hx hb dX7_fits_54 (lv_at hl 0 rfl) ?_
              refine lv_if_eq (tgt := 62) hx hb dX7_fits_56 (by decide) (fun c9 => ?_) (fun c9 => ?_)
              · replace hw := hw.1 c9
                refine lv_aload_n hx hb dX7_fits_62 rfl (lv_at hl 1 rfl) ?_
                refine va_get (D := D) (ci := 7) (v := .ref da) (C := RX7) (T := TX7) (N := 8) hx hb hts inX7 hown hK hP 0 rfl rfl 0 (by decide) fl12 (fun _ h9 => h9) rfl dX7_fits_63 ?_
                refine va_get (D := D) (ci := 0) (v := .ref aki) (C := RX0) (T := TX0) (N := 9) hx hb hts inX0 hown hK hP 1 rfl rfl 2 (by decide) fl103 (fun _ h9 => h9) rfl dX7_fits_66 ?_
                refine lv_iload_n hx hb dX7_fits_69 rfl (lv_at hl 2 rfl) ?_
                refine x_iald (j := x1.toNatClampNeg) hx hb hK hP 3 0 rfl rfl rfl hw.1 dX7_fits_70 ?_
                replace hw := hw.2
                refine lv_istore (lv' := [(8, .int (kinds x1.toNatClampNeg)), (7, .int r3), (0, .ref x_xo), (1, .int x1), (2, .int x2), (3, .int x3), (4, .int x4), (5, .int x5), (6, .int x6)]) hx hb dX7_fits_71 hl (by decide) rfl (fun ls hl => ?_)
                refine lv_aload_n hx hb dX7_fits_73 rfl (lv_at hl 2 rfl) ?_
                refine va_get (D := D) (ci := 7) (v := .ref da) (C := RX7) (T := TX7) (N := 8) hx hb hts inX7 hown hK hP 0 rfl rfl 0 (by decide) fl12 (fun _ h9 => h9) rfl dX7_fits_74 ?_
                refine va_get (D := D) (ci := 0) (v := .ref afi) (C := RX0) (T := TX0) (N := 9) hx hb hts inX0 hown hK hP 1 rfl rfl 3 (by decide) fl106 (fun _ h9 => h9) rfl dX7_fits_77 ?_
                refine lv_iload_n hx hb dX7_fits_80 rfl (lv_at hl 3 rfl) ?_
                refine x_iald (j := x1.toNatClampNeg) hx hb hK hP 4 0 rfl rfl rfl hw.1 dX7_fits_81 ?_
                replace hw := hw.2
                refine lv_istore (lv' := [(9, .int (fines x1.toNatClampNeg)), (8, .int (kinds x1.toNatClampNeg)), (7, .int r3), (0, .ref x_xo), (1, .int x1), (2, .int x2), (3, .int x3), (4, .int x4), (5, .int x5), (6, .int x6)]) hx hb dX7_fits_82 hl (by decide) rfl (fun ls hl => ?_)
                refine lv_iload hx hb dX7_fits_84 (lv_at hl 9 rfl) ?_
                by_cases c0 : x6 = 0
                · replace hw := hw.1 c0
                  refine lv_tableIn (tgt := 112) (off := 26) hx hb dX7_fits_86 (by rw [c0]; decide) (by rw [c0]; decide) (by rw [c0]; decide) (by decide) ?_
                  refine lv_aload_n hx hb dX7_fits_112 rfl (lv_at hl 3 rfl) ?_
                  refine va_get (D := D) (ci := 7) (v := .ref w_ro) (C := RX7) (T := TX7) (N := 8) hx hb hts inX7 hown hK hP 0 rfl rfl 6 (by decide) fl47 (fun _ h9 => h9) rfl dX7_fits_113 ?_
                  refine lv_aload_n hx hb dX7_fits_116 rfl (lv_at hl 3 rfl) ?_
                  refine va_get (D := D) (ci := 7) (v := .ref da) (C := RX7) (T := TX7) (N := 8) hx hb hts inX7 hown hK hP 0 rfl rfl 0 (by decide) fl12 (fun _ h9 => h9) rfl dX7_fits_117 ?_
                  refine lv_iload hx hb dX7_fits_120 (lv_at hl 1 rfl) ?_
                  refine lv_iload hx hb dX7_fits_122 (lv_at hl 0 rfl) ?_
                  refine vp_callSi (W.runV (As := [.ref da, .int (kinds x1.toNatClampNeg), .int (fines x1.toNatClampNeg)]) (rest := []) ⟨hx, hb, hml, hown, hts⟩ (c_X3_fitting l D G w_ro w_amx w_aan w_aag da ami aki afi anw apa w_pairs_3 w_mixes_3 w_answers_3 cows tasters newest known milks mayBe bearer day draw (kinds x1.toNatClampNeg) (fines x1.toNatClampNeg) _ hw) (cwV 3 hts gX7_fits_X3_fitting rfl rfl rfl (by decide +kernel) ⟨(Nat.le_of_ble_eq_true rfl), (Nat.le_of_ble_eq_true rfl)⟩) (xR_pv (hP.sub [6, 7, 8, 1, 2, 5] rfl) hK (va_recv hK hP (ci := 3) (q0 := 6) rfl rfl)) rfl rfl hl.1 rfl (lv_room (Nat.le_of_ble_eq_true rfl)) dX7_fits_124 ⟨Nat.zero_le _, Nat.zero_le _⟩) (fun r4 hw => ?_)
                  exact W.iret hx hb hr (x_mi (u := (w_pairs_3, w_mixes_3, w_answers_3)) hP hK hD hS hw) hS.2.2 dX7_fits_127
                replace hw := hw.2 c0
                by_cases c1 : x6 = 1
                · replace hw := hw.1 c1
                  refine lv_tableIn (tgt := 128) (off := 42) hx hb dX7_fits_86 (by rw [c1]; decide) (by rw [c1]; decide) (by rw [c1]; decide) (by decide) ?_
                  refine lv_aload_n hx hb dX7_fits_128 rfl (lv_at hl 3 rfl) ?_
                  refine va_get (D := D) (ci := 7) (v := .ref w_ro) (C := RX7) (T := TX7) (N := 8) hx hb hts inX7 hown hK hP 0 rfl rfl 6 (by decide) fl47 (fun _ h9 => h9) rfl dX7_fits_129 ?_
                  refine lv_aload_n hx hb dX7_fits_132 rfl (lv_at hl 3 rfl) ?_
                  refine va_get (D := D) (ci := 7) (v := .ref da) (C := RX7) (T := TX7) (N := 8) hx hb hts inX7 hown hK hP 0 rfl rfl 0 (by decide) fl12 (fun _ h9 => h9) rfl dX7_fits_133 ?_
                  refine lv_iload hx hb dX7_fits_136 (lv_at hl 1 rfl) ?_
                  refine lv_iload hx hb dX7_fits_138 (lv_at hl 0 rfl) ?_
                  refine vp_callSi (W.runV (As := [.ref da, .int (kinds x1.toNatClampNeg), .int (fines x1.toNatClampNeg)]) (rest := []) ⟨hx, hb, hml, hown, hts⟩ (c_X3_fittingButOne l D G w_ro w_amx w_aan w_aag da ami aki afi anw apa w_pairs_3 w_mixes_3 w_answers_3 cows tasters newest known milks mayBe bearer day draw (kinds x1.toNatClampNeg) (fines x1.toNatClampNeg) _ hw) (cwV 3 hts gX7_fits_X3_fittingButOne rfl rfl rfl (by decide +kernel) ⟨(Nat.le_of_ble_eq_true rfl), (Nat.le_of_ble_eq_true rfl)⟩) (xR_pv (hP.sub [6, 7, 8, 1, 2, 5] rfl) hK (va_recv hK hP (ci := 3) (q0 := 6) rfl rfl)) rfl rfl hl.1 rfl (lv_room (Nat.le_of_ble_eq_true rfl)) dX7_fits_140 ⟨Nat.zero_le _, Nat.zero_le _⟩) (fun r5 hw => ?_)
                  exact W.iret hx hb hr (x_mi (u := (w_pairs_3, w_mixes_3, w_answers_3)) hP hK hD hS hw) hS.2.2 dX7_fits_143
                replace hw := hw.2 c1
                by_cases c2 : x6 = 2
                · replace hw := hw.1 c2
                  refine lv_tableIn (tgt := 144) (off := 58) hx hb dX7_fits_86 (by rw [c2]; decide) (by rw [c2]; decide) (by rw [c2]; decide) (by decide) ?_
                  refine lv_aload_n hx hb dX7_fits_144 rfl (lv_at hl 3 rfl) ?_
                  refine va_get (D := D) (ci := 7) (v := .ref w_ro) (C := RX7) (T := TX7) (N := 8) hx hb hts inX7 hown hK hP 0 rfl rfl 6 (by decide) fl47 (fun _ h9 => h9) rfl dX7_fits_145 ?_
                  refine lv_aload_n hx hb dX7_fits_148 rfl (lv_at hl 3 rfl) ?_
                  refine va_get (D := D) (ci := 7) (v := .ref da) (C := RX7) (T := TX7) (N := 8) hx hb hts inX7 hown hK hP 0 rfl rfl 0 (by decide) fl12 (fun _ h9 => h9) rfl dX7_fits_149 ?_
                  refine lv_iload hx hb dX7_fits_152 (lv_at hl 0 rfl) ?_
                  refine vp_callSi (W.runV (As := [.ref da, .int (fines x1.toNatClampNeg)]) (rest := []) ⟨hx, hb, hml, hown, hts⟩ (c_X3_kindsThatFit l D G w_ro w_amx w_aan w_aag da ami aki afi anw apa w_pairs_3 w_mixes_3 w_answers_3 cows tasters newest known milks mayBe bearer day draw (fines x1.toNatClampNeg) _ hw) (cwV 2 hts gX7_fits_X3_kindsThatFit rfl rfl rfl (by decide +kernel) ⟨(Nat.le_of_ble_eq_true rfl), (Nat.le_of_ble_eq_true rfl)⟩) (xR_pv (hP.sub [6, 7, 8, 1, 2, 5] rfl) hK (va_recv hK hP (ci := 3) (q0 := 6) rfl rfl)) rfl rfl hl.1 rfl (lv_room (Nat.le_of_ble_eq_true rfl)) dX7_fits_154 ⟨Nat.zero_le _, Nat.zero_le _⟩) (fun r6 hw => ?_)
                  exact W.iret hx hb hr (x_mi (u := (w_pairs_3, w_mixes_3, w_answers_3)) hP hK hD hS hw) hS.2.2 dX7_fits_157
                replace hw := hw.2 c2
                refine lv_tableOut (tgt := 158) hx hb dX7_fits_86 (x_sw0_2 c0 c1 c2) (by decide) ?_
                refine lv_aload_n hx hb dX7_fits_158 rfl (lv_at hl 3 rfl) ?_
                refine va_get (D := D) (ci := 7) (v := .ref w_ro) (C := RX7) (T := TX7) (N := 8) hx hb hts inX7 hown hK hP 0 rfl rfl 6 (by decide) fl47 (fun _ h9 => h9) rfl dX7_fits_159 ?_
                refine lv_aload_n hx hb dX7_fits_162 rfl (lv_at hl 3 rfl) ?_
                refine va_get (D := D) (ci := 7) (v := .ref da) (C := RX7) (T := TX7) (N := 8) hx hb hts inX7 hown hK hP 0 rfl rfl 0 (by decide) fl12 (fun _ h9 => h9) rfl dX7_fits_163 ?_
                refine lv_iload hx hb dX7_fits_166 (lv_at hl 1 rfl) ?_
                refine vp_callSi (W.runV (As := [.ref da, .int (kinds x1.toNatClampNeg)]) (rest := []) ⟨hx, hb, hml, hown, hts⟩ (c_X3_finesThatFit l D G w_ro w_amx w_aan w_aag da ami aki afi anw apa w_pairs_3 w_mixes_3 w_answers_3 cows tasters newest known milks mayBe bearer day draw (kinds x1.toNatClampNeg) _ hw) (cwV 2 hts gX7_fits_X3_finesThatFit rfl rfl rfl (by decide +kernel) ⟨(Nat.le_of_ble_eq_true rfl), (Nat.le_of_ble_eq_true rfl)⟩) (xR_pv (hP.sub [6, 7, 8, 1, 2, 5] rfl) hK (va_recv hK hP (ci := 3) (q0 := 6) rfl rfl)) rfl rfl hl.1 rfl (lv_room (Nat.le_of_ble_eq_true rfl)) dX7_fits_168 ⟨Nat.zero_le _, Nat.zero_le _⟩) (fun r7 hw => ?_)
                exact W.iret hx hb hr (x_mi (u := (w_pairs_3, w_mixes_3, w_answers_3)) hP hK hD hS hw) hS.2.2 dX7_fits_171
              · replace hw := hw.2 c9
                refine lv_iload hx hb dX7_fits_59 (lv_at hl 0 rfl) ?_
                exact W.iret hx hb hr (x_mi (u := (w_pairs_3, w_mixes_3, w_answers_3)) hP hK hD hS hw) hS.2.2 dX7_fits_61
            · replace hw := hw.2 c9
              refine lv_iconst (v := -1) hx hb dX7_fits_40 (by decide) ?_
              exact W.iret hx hb hr (x_mi (u := (w_pairs, w_mixes, w_answers)) hP hK hD hS hw) hS.2.2 dX7_fits_41
set_option maxHeartbeats 4000000 in
set_option maxRecDepth 100000 in
theorem c_X7_slips (l : Launch) (D : va_G) (G : Nat → ClassId) (sz : Nat) (x_xo : Nat) (da : Nat) (k_da : Nat) (t_ta : Nat) (p_pl : Nat) (r_tr : Nat) (w_ro : Nat) (x_ash : Nat) (ami : Nat) (aki : Nat) (afi : Nat) (anw : Nat) (apa : Nat) (w_amx : Nat) (w_aan : Nat) (w_aag : Nat) (x_sq : Nat → Nat) (s_ait : Nat) (x_isKept : Int32) (cows : Int32) (tasters : Int32) (newest : Int32) (known : Int32) (milks : Nat → Int32) (kinds : Nat → Int32) (fines : Nat → Int32) (mayBe : Int32) (bearer : Int32) (day : Int32) (draw : Int32) (w_pairs : Int32) (w_mixes : Nat → Int32) (w_answers : Nat → Int32) (w_agreed : Nat → Int32) (s_lane : Int32) (s_size : Int32) (s_items : Nat → Int64) (x1 : Int32) (x2 : Int32) (x3 : Int32) (x4 : Int32) (x5 : Int32) (x6 : Int32) (x7 : Int32) (x8 : Int32) (post : Int64 → Int32 → (Nat → Int32) → (Nat → Int32) → (Nat → Int32) → Prop) (hw : wp_X7_slips cows tasters milks kinds fines mayBe day w_pairs w_mixes w_answers w_agreed s_lane s_size s_items x1 x2 x3 x4 x5 x6 x7 x8 post) : Met l yX7_slips wsX7_slips ({ frames := 5, cells := 0, slots := 0, locals := 120 } : Room) (va_Pc [.ref x_xo, .int x1, .int x2, .int x3, .int x4, .int x5, .int x6, .int x7, .int x8] (xM D G sz [(x_xo, .inr (7, [.ref da, .ref k_da, .int x_isKept, .ref t_ta, .ref p_pl, .ref r_tr, .ref w_ro, .ref x_ash])), (da, .inr (0, [.ref ami, .int cows, .ref aki, .ref afi, .int tasters, .ref anw, .ref apa, .int newest, .int known])), (ami, .inl (G 0, 8, .inl milks)), (aki, .inl (G 0, 4, .inl kinds)), (afi, .inl (G 0, 4, .inl fines)), (anw, .inr (1, [.int mayBe, .int bearer, .int day, .int draw])), (w_ro, .inr (3, [.ref w_amx, .ref w_aan, .int w_pairs, .ref w_aag])), (w_amx, .inl (G 0, 6, .inl w_mixes)), (w_aan, .inl (G 0, 6, .inl w_answers)), (w_aag, .inl (G 0, 6, .inl w_agreed)), (x_ash, .inl (G 5, 4, .inr (.inr (.inr (.inr (fun k => some (x_sq k))))))), ((x_sq x4.toNatClampNeg), .inr (4, [.ref s_ait, .int s_lane, .int s_size])), (s_ait, .inl (G 1, 24, .inr (.inl s_items)))])) (va_Ql (fun r (u : Int32 × (Nat → Int32) × (Nat → Int32) × (Nat → Int32)) => post r u.1 u.2.1 u.2.2.1 u.2.2.2) (fun u t => xE D G (va_A [(x_xo, .inr (7, [.ref da, .ref k_da, .int x_isKept, .ref t_ta, .ref p_pl, .ref r_tr, .ref w_ro, .ref x_ash])), (da, .inr (0, [.ref ami, .int cows, .ref aki, .ref afi, .int tasters, .ref anw, .ref apa, .int newest, .int known])), (ami, .inl (G 0, 8, .inl milks)), (aki, .inl (G 0, 4, .inl kinds)), (afi, .inl (G 0, 4, .inl fines)), (anw, .inr (1, [.int mayBe, .int bearer, .int day, .int draw])), (w_ro, .inr (3, [.ref w_amx, .ref w_aan, .int w_pairs, .ref w_aag])), (w_amx, .inl (G 0, 6, .inl w_mixes)), (w_aan, .inl (G 0, 6, .inl w_answers)), (w_aag, .inl (G 0, 6, .inl w_agreed)), (x_ash, .inl (G 5, 4, .inr (.inr (.inr (.inr (fun k => some (x_sq k))))))), ((x_sq x4.toNatClampNeg), .inr (4, [.ref s_ait, .int s_lane, .int s_size])), (s_ait, .inl (G 1, 24, .inr (.inl s_items)))] sz) [(x_xo, .inr (7, [.ref da, .ref k_da, .int x_isKept, .ref t_ta, .ref p_pl, .ref r_tr, .ref w_ro, .ref x_ash])), (da, .inr (0, [.ref ami, .int cows, .ref aki, .ref afi, .int tasters, .ref anw, .ref apa, .int newest, .int known])), (ami, .inl (G 0, 8, .inl milks)), (aki, .inl (G 0, 4, .inl kinds)), (afi, .inl (G 0, 4, .inl fines)), (anw, .inr (1, [.int mayBe, .int bearer, .int day, .int draw])), (w_ro, .inr (3, [.ref w_amx, .ref w_aan, .int u.1, .ref w_aag])), (w_amx, .inl (G 0, 6, .inl (u.2.1))), (w_aan, .inl (G 0, 6, .inl (u.2.2.1))), (w_aag, .inl (G 0, 6, .inl (u.2.2.2))), (x_ash, .inl (G 5, 4, .inr (.inr (.inr (.inr (fun k => some (x_sq k))))))), ((x_sq x4.toNatClampNeg), .inr (4, [.ref s_ait, .int s_lane, .int s_size])), (s_ait, .inl (G 1, 24, .inr (.inl s_items)))] t) (va_A [(x_xo, .inr (7, [.ref da, .ref k_da, .int x_isKept, .ref t_ta, .ref p_pl, .ref r_tr, .ref w_ro, .ref x_ash])), (da, .inr (0, [.ref ami, .int cows, .ref aki, .ref afi, .int tasters, .ref anw, .ref apa, .int newest, .int known])), (ami, .inl (G 0, 8, .inl milks)), (aki, .inl (G 0, 4, .inl kinds)), (afi, .inl (G 0, 4, .inl fines)), (anw, .inr (1, [.int mayBe, .int bearer, .int day, .int draw])), (w_ro, .inr (3, [.ref w_amx, .ref w_aan, .int w_pairs, .ref w_aag])), (w_amx, .inl (G 0, 6, .inl w_mixes)), (w_aan, .inl (G 0, 6, .inl w_answers)), (w_aag, .inl (G 0, 6, .inl w_agreed)), (x_ash, .inl (G 5, 4, .inr (.inr (.inr (.inr (fun k => some (x_sq k))))))), ((x_sq x4.toNatClampNeg), .inr (4, [.ref s_ait, .int s_lane, .int s_size])), (s_ait, .inl (G 1, 24, .inr (.inl s_items)))] sz)) 0 0 (va_A [(x_xo, .inr (7, [.ref da, .ref k_da, .int x_isKept, .ref t_ta, .ref p_pl, .ref r_tr, .ref w_ro, .ref x_ash])), (da, .inr (0, [.ref ami, .int cows, .ref aki, .ref afi, .int tasters, .ref anw, .ref apa, .int newest, .int known])), (ami, .inl (G 0, 8, .inl milks)), (aki, .inl (G 0, 4, .inl kinds)), (afi, .inl (G 0, 4, .inl fines)), (anw, .inr (1, [.int mayBe, .int bearer, .int day, .int draw])), (w_ro, .inr (3, [.ref w_amx, .ref w_aan, .int w_pairs, .ref w_aag])), (w_amx, .inl (G 0, 6, .inl w_mixes)), (w_aan, .inl (G 0, 6, .inl w_answers)), (w_aag, .inl (G 0, 6, .inl w_agreed)), (x_ash, .inl (G 5, 4, .inr (.inr (.inr (.inr (fun k => some (x_sq k))))))), ((x_sq x4.toNatClampNeg), .inr (4, [.ref s_ait, .int s_lane, .int s_size])), (s_ait, .inl (G 1, 24, .inr (.inl s_items)))] sz) := by
  refine Met.ofW (cc := cX7_slips) (maxL := 11) (ret := (some .long)) (by decide) rfl ?_
  intro p e s m args below meth c s₁ B hml hv
  obtain ⟨rfl, hsz, hP, hK, hD0⟩ := hv
  have hx := B.exec
  have hb := B.bytes
  have hr := B.returns
  have hts := atoms_spec (ws := wsX7_slips) B.pre
  have hown : s.vm.findClass RX7 = some m.cls := findClass_of_methodNamed B.named
  have hlocks := B.notSynchronized
  subst hsz
  have hD := hD0.self (sz := s.heap.size)
  generalize hAe : va_A [(x_xo, .inr (7, [.ref da, .ref k_da, .int x_isKept, .ref t_ta, .ref p_pl, .ref r_tr, .ref w_ro, .ref x_ash])), (da, .inr (0, [.ref ami, .int cows, .ref aki, .ref afi, .int tasters, .ref anw, .ref apa, .int newest, .int known])), (ami, .inl (G 0, 8, .inl milks)), (aki, .inl (G 0, 4, .inl kinds)), (afi, .inl (G 0, 4, .inl fines)), (anw, .inr (1, [.int mayBe, .int bearer, .int day, .int draw])), (w_ro, .inr (3, [.ref w_amx, .ref w_aan, .int w_pairs, .ref w_aag])), (w_amx, .inl (G 0, 6, .inl w_mixes)), (w_aan, .inl (G 0, 6, .inl w_answers)), (w_aag, .inl (G 0, 6, .inl w_agreed)), (x_ash, .inl (G 5, 4, .inr (.inr (.inr (.inr (fun k => some (x_sq k))))))), ((x_sq x4.toNatClampNeg), .inr (4, [.ref s_ait, .int s_lane, .int s_size])), (s_ait, .inl (G 1, 24, .inr (.inl s_items)))] s.heap.size = A at hD ⊢
  have hA : ∀ q : Nat, s.heap.size ≤ q → A q := fun q h => by rw [← hAe]; exact Or.inr h
  have hS : va_S A s.heap s.heap [] := va_S.rf
  have inX0 : ∀ w ∈ wsX00, w ∈ wsX7_slips := by decide +kernel
  have inX1 : ∀ w ∈ wsX10, w ∈ wsX7_slips := by decide +kernel
  have inX7 : ∀ w ∈ wsX70, w ∈ wsX7_slips := by decide +kernel
  have fl47 := hts (.fieldLink RX7 47 "NewsCow" "row" "LNewsCow$Row;") (by decide +kernel)
  have fl12 := hts (.fieldLink RX7 12 "NewsCow" "dairy" "LNewsCow$Dairy;") (by decide +kernel)
  have fl103 := hts (.fieldLink RX7 103 "NewsCow$Dairy" "kinds" "[I") (by decide +kernel)
  have fl106 := hts (.fieldLink RX7 106 "NewsCow$Dairy" "fines" "[I") (by decide +kernel)
  have fl66 := hts (.fieldLink RX7 66 "NewsCow$Dairy" "now" "LNewsCow$Moment;") (by decide +kernel)
  have fl74 := hts (.fieldLink RX7 74 "NewsCow$Moment" "mayBe" "I") (by decide +kernel)
  have hl := lv_entry ([.ref x_xo, .int x1, .int x2, .int x3, .int x4, .int x5, .int x6, .int x7, .int x8] : List Value) (n := 11) (Nat.le_of_ble_eq_true rfl)
  rw [lg_entry_eq]
  generalize (lg_sl ([.ref x_xo, .int x1, .int x2, .int x3, .int x4, .int x5, .int x6, .int x7, .int x8] : List Value) ++ List.replicate (11 - (lg_sl ([.ref x_xo, .int x1, .int x2, .int x3, .int x4, .int x5, .int x6, .int x7, .int x8] : List Value)).length) Slot.unset).toArray = ls at hl ⊢
  have hl : lv_has ls 11 [(0, .ref x_xo), (1, .int x1), (2, .int x2), (3, .int x3), (4, .int x4), (5, .int x5), (6, .int x6), (7, .int x7), (8, .int x8)] := hl
  unfold wp_X7_slips at hw
  refine lv_aload_n hx hb dX7_slips_0 rfl (lv_at hl 0 rfl) ?_
  refine lv_iload_n hx hb dX7_slips_1 rfl (lv_at hl 1 rfl) ?_
  refine vp_callSi (W.runV (As := [.int x1]) (rest := []) ⟨hx, hb, hml, hown, hts⟩ (c_X7_isCow l D G x_xo da k_da t_ta p_pl r_tr w_ro x_ash ami aki afi anw apa x_isKept cows tasters newest known x1 _ hw) (cwV 1 hts gX7_slips_X7_isCow rfl rfl rfl (by decide +kernel) ⟨(Nat.le_of_ble_eq_true rfl), (Nat.le_of_ble_eq_true rfl)⟩) (xR_pv (hP.sub [0, 1] rfl) hK (va_recv hK hP (ci := 7) (q0 := 0) rfl rfl)) rfl rfl hl.1 rfl (lv_room (Nat.le_of_ble_eq_true rfl)) dX7_slips_2 ⟨Nat.zero_le _, Nat.zero_le _⟩) (fun r1 hw => ?_)
  refine lv_if_eq (tgt := 26) hx hb dX7_slips_5 (by decide) (fun c9 => ?_) (fun c9 => ?_)
  · replace hw := hw.1 c9
    refine lv_ldc2 (v := -1) hx hb hown (hts (.constantLong RX7 235 (-1)) (by decide +kernel)) dX7_slips_26 ?_
    exact W.lret hx hb hr (x_ml (u := (w_pairs, w_mixes, w_answers, w_agreed)) hP hK hD hS hw) hS.2.2 dX7_slips_29
  · replace hw := hw.2 c9
    refine lv_aload_n hx hb dX7_slips_8 rfl (lv_at hl 0 rfl) ?_
    refine lv_iload_n hx hb dX7_slips_9 rfl (lv_at hl 2 rfl) ?_
    refine vp_callSi (W.runV (As := [.int x2]) (rest := []) ⟨hx, hb, hml, hown, hts⟩ (c_X7_isTaster l D G x_xo da k_da t_ta p_pl r_tr w_ro x_ash ami aki afi anw apa x_isKept cows tasters newest known x2 _ hw) (cwV 1 hts gX7_slips_X7_isTaster rfl rfl rfl (by decide +kernel) ⟨(Nat.le_of_ble_eq_true rfl), (Nat.le_of_ble_eq_true rfl)⟩) (xR_pv (hP.sub [0, 1] rfl) hK (va_recv hK hP (ci := 7) (q0 := 0) rfl rfl)) rfl rfl hl.1 rfl (lv_room (Nat.le_of_ble_eq_true rfl)) dX7_slips_10 ⟨Nat.zero_le _, Nat.zero_le _⟩) (fun r2 hw => ?_)
    refine lv_if_eq (tgt := 26) hx hb dX7_slips_13 (by decide) (fun c9 => ?_) (fun c9 => ?_)
    · replace hw := hw.1 c9
      refine lv_ldc2 (v := -1) hx hb hown (hts (.constantLong RX7 235 (-1)) (by decide +kernel)) dX7_slips_26 ?_
      exact W.lret hx hb hr (x_ml (u := (w_pairs, w_mixes, w_answers, w_agreed)) hP hK hD hS hw) hS.2.2 dX7_slips_29
    · replace hw := hw.2 c9
      refine lv_iload_n hx hb dX7_slips_16 rfl (lv_at hl 3 rfl) ?_
      refine lv_if_lt (tgt := 26) hx hb dX7_slips_17 (by decide) (fun c9 => ?_) (fun c9 => ?_)
      · replace hw := hw.1 c9
        refine lv_ldc2 (v := -1) hx hb hown (hts (.constantLong RX7 235 (-1)) (by decide +kernel)) dX7_slips_26 ?_
        exact W.lret hx hb hr (x_ml (u := (w_pairs, w_mixes, w_answers, w_agreed)) hP hK hD hS hw) hS.2.2 dX7_slips_29
      · replace hw := hw.2 c9
        refine lv_iload_n hx hb dX7_slips_20 rfl (lv_at hl 3 rfl) ?_
        refine lv_bipush (v := 10) hx hb dX7_slips_21 (by decide) ?_
        refine lv_icmp_le (tgt := 30) hx hb dX7_slips_23 (by decide) (fun c9 => ?_) (fun c9 => ?_)
        · replace hw := hw.1 c9
          refine lv_iload hx hb dX7_slips_30 (lv_at hl 4 rfl) ?_
          refine lv_iload hx hb dX7_slips_32 (lv_at hl 5 rfl) ?_
          refine vp_callSi (W.runS (As := [.int x4, .int x5]) (rest := []) ⟨hx, hb, hml, hown, hts⟩ (c_X7_isLaneOfSheet l D G x4 x5 _ hw) (va_cwS 2 hts gX7_slips_X7_isLaneOfSheet rfl rfl rfl (by decide +kernel) ⟨(Nat.le_of_ble_eq_true rfl), (Nat.le_of_ble_eq_true rfl)⟩) (xR_ps (hP.sub [] rfl) hK) rfl rfl hl.1 rfl (lv_room (Nat.le_of_ble_eq_true rfl)) dX7_slips_34 ⟨Nat.zero_le _, Nat.zero_le _⟩) (fun r3 hw => ?_)
          refine lv_if_eq (tgt := 61) hx hb dX7_slips_37 (by decide) (fun c9 => ?_) (fun c9 => ?_)
          · replace hw := hw.1 c9
            refine lv_ldc2 (v := -1) hx hb hown (hts (.constantLong RX7 235 (-1)) (by decide +kernel)) dX7_slips_61 ?_
            exact W.lret hx hb hr (x_ml (u := (w_pairs, w_mixes, w_answers, w_agreed)) hP hK hD hS hw) hS.2.2 dX7_slips_64
          · replace hw := hw.2 c9
            refine lv_iload hx hb dX7_slips_40 (lv_at hl 7 rfl) ?_
            refine lv_iconst (v := 1) hx hb dX7_slips_42 (by decide) ?_
            refine lv_icmp_lt (tgt := 61) hx hb dX7_slips_43 (by decide) (fun c9 => ?_) (fun c9 => ?_)
            · replace hw := hw.1 c9
              refine lv_ldc2 (v := -1) hx hb hown (hts (.constantLong RX7 235 (-1)) (by decide +kernel)) dX7_slips_61 ?_
              exact W.lret hx hb hr (x_ml (u := (w_pairs, w_mixes, w_answers, w_agreed)) hP hK hD hS hw) hS.2.2 dX7_slips_64
            · replace hw := hw.2 c9
              refine lv_iload hx hb dX7_slips_46 (lv_at hl 7 rfl) ?_
              refine lv_bipush (v := 6) hx hb dX7_slips_48 (by decide) ?_
              refine lv_icmp_gt (tgt := 61) hx hb dX7_slips_50 (by decide) (fun c9 => ?_) (fun c9 => ?_)
              · replace hw := hw.1 c9
                refine lv_ldc2 (v := -1) hx hb hown (hts (.constantLong RX7 235 (-1)) (by decide +kernel)) dX7_slips_61 ?_
                exact W.lret hx hb hr (x_ml (u := (w_pairs, w_mixes, w_answers, w_agreed)) hP hK hD hS hw) hS.2.2 dX7_slips_64
              · replace hw := hw.2 c9
                refine lv_iload hx hb dX7_slips_53 (lv_at hl 8 rfl) ?_
                refine vp_callSi (W.runS (As := [.int x8]) (rest := []) ⟨hx, hb, hml, hown, hts⟩ (c_X7_isEither l D G x8 _ hw) (va_cwS 1 hts gX7_slips_X7_isEither rfl rfl rfl (by decide +kernel) ⟨(Nat.le_of_ble_eq_true rfl), (Nat.le_of_ble_eq_true rfl)⟩) (xR_ps (hP.sub [] rfl) hK) rfl rfl hl.1 rfl (lv_room (Nat.le_of_ble_eq_true rfl)) dX7_slips_55 ⟨Nat.zero_le _, Nat.zero_le _⟩) (fun r4 hw => ?_)
                refine lv_if_ne (tgt := 65) hx hb dX7_slips_58 (by decide) (fun c9 => ?_) (fun c9 => ?_)
                · replace hw := hw.1 c9
                  refine lv_aload_n hx hb dX7_slips_65 rfl (lv_at hl 0 rfl) ?_
                  refine lv_iload hx hb dX7_slips_66 (lv_at hl 4 rfl) ?_
                  refine lv_iload hx hb dX7_slips_68 (lv_at hl 5 rfl) ?_
                  refine lv_iload hx hb dX7_slips_70 (lv_at hl 6 rfl) ?_
                  refine lv_iload hx hb dX7_slips_72 (lv_at hl 7 rfl) ?_
                  refine x_cMi (wr := [(ami, .inl (G 0, 8, .inl milks)), (aki, .inl (G 0, 4, .inl kinds)), (afi, .inl (G 0, 4, .inl fines)), (anw, .inr (1, [.int mayBe, .int bearer, .int day, .int draw])), (w_aag, .inl (G 0, 6, .inl w_agreed))]) (va_runV (As := [.int x4, .int x5, .int x6, .int x7]) (rest := []) ⟨hx, hb, hml, hown, hts⟩ (c_X7_readRow l D G _ x_xo da k_da t_ta p_pl r_tr w_ro x_ash ami aki afi anw apa w_amx w_aan w_aag x_sq s_ait x_isKept cows tasters newest known w_pairs w_mixes w_answers s_lane s_size s_items x4 x5 x6 x7 _ hw) (cwV 4 hts gX7_slips_X7_readRow rfl rfl rfl (by decide +kernel) ⟨(Nat.le_of_ble_eq_true rfl), (Nat.le_of_ble_eq_true rfl)⟩) (xM_pv (hP.sub [0, 1, 6, 7, 8, 10, 11, 12] rfl) hK (hD.sub [0, 1, 6, 7, 8, 10, 11, 12] (by decide) rfl) (va_recv hK hP (ci := 7) (q0 := 0) rfl rfl)) rfl rfl hl.1 rfl (lv_room (Nat.le_of_ble_eq_true rfl)) dX7_slips_74 ⟨Nat.zero_le _, Nat.zero_le _⟩) hP hD hS hA [0, 1, 6, 7, 8, 10, 11, 12] [2, 3, 4, 5, 9] rfl rfl (by decide) (by decide) [5, 6, 0, 1, 2, 3, 7, 8, 9, 4, 10, 11, 12] (fun u => [(x_xo, .inr (7, [.ref da, .ref k_da, .int x_isKept, .ref t_ta, .ref p_pl, .ref r_tr, .ref w_ro, .ref x_ash])), (da, .inr (0, [.ref ami, .int cows, .ref aki, .ref afi, .int tasters, .ref anw, .ref apa, .int newest, .int known])), (ami, .inl (G 0, 8, .inl milks)), (aki, .inl (G 0, 4, .inl kinds)), (afi, .inl (G 0, 4, .inl fines)), (anw, .inr (1, [.int mayBe, .int bearer, .int day, .int draw])), (w_ro, .inr (3, [.ref w_amx, .ref w_aan, .int u.1, .ref w_aag])), (w_amx, .inl (G 0, 6, .inl (u.2.1))), (w_aan, .inl (G 0, 6, .inl (u.2.2))), (w_aag, .inl (G 0, 6, .inl w_agreed)), (x_ash, .inl (G 5, 4, .inr (.inr (.inr (.inr (fun k => some (x_sq k))))))), ((x_sq x4.toNatClampNeg), .inr (4, [.ref s_ait, .int s_lane, .int s_size])), (s_ait, .inl (G 1, 24, .inr (.inl s_items)))]) (by decide) (fun u => rfl) (fun r5 u H locs hw hP hD hS => ?_)
                  obtain ⟨w_pairs_5, w_mixes_5, w_answers_5⟩ := u
                  try dsimp only at hw
                  replace hP : va_P D vwCl [(x_xo, .inr (7, [.ref da, .ref k_da, .int x_isKept, .ref t_ta, .ref p_pl, .ref r_tr, .ref w_ro, .ref x_ash])), (da, .inr (0, [.ref ami, .int cows, .ref aki, .ref afi, .int tasters, .ref anw, .ref apa, .int newest, .int known])), (ami, .inl (G 0, 8, .inl milks)), (aki, .inl (G 0, 4, .inl kinds)), (afi, .inl (G 0, 4, .inl fines)), (anw, .inr (1, [.int mayBe, .int bearer, .int day, .int draw])), (w_ro, .inr (3, [.ref w_amx, .ref w_aan, .int w_pairs_5, .ref w_aag])), (w_amx, .inl (G 0, 6, .inl w_mixes_5)), (w_aan, .inl (G 0, 6, .inl w_answers_5)), (w_aag, .inl (G 0, 6, .inl w_agreed)), (x_ash, .inl (G 5, 4, .inr (.inr (.inr (.inr (fun k => some (x_sq k))))))), ((x_sq x4.toNatClampNeg), .inr (4, [.ref s_ait, .int s_lane, .int s_size])), (s_ait, .inl (G 1, 24, .inr (.inl s_items)))] H := hP
                  replace hD : va_D A [(x_xo, .inr (7, [.ref da, .ref k_da, .int x_isKept, .ref t_ta, .ref p_pl, .ref r_tr, .ref w_ro, .ref x_ash])), (da, .inr (0, [.ref ami, .int cows, .ref aki, .ref afi, .int tasters, .ref anw, .ref apa, .int newest, .int known])), (ami, .inl (G 0, 8, .inl milks)), (aki, .inl (G 0, 4, .inl kinds)), (afi, .inl (G 0, 4, .inl fines)), (anw, .inr (1, [.int mayBe, .int bearer, .int day, .int draw])), (w_ro, .inr (3, [.ref w_amx, .ref w_aan, .int w_pairs_5, .ref w_aag])), (w_amx, .inl (G 0, 6, .inl w_mixes_5)), (w_aan, .inl (G 0, 6, .inl w_answers_5)), (w_aag, .inl (G 0, 6, .inl w_agreed)), (x_ash, .inl (G 5, 4, .inr (.inr (.inr (.inr (fun k => some (x_sq k))))))), ((x_sq x4.toNatClampNeg), .inr (4, [.ref s_ait, .int s_lane, .int s_size])), (s_ait, .inl (G 1, 24, .inr (.inl s_items)))] := hD
                  refine lv_istore (lv' := [(9, .int r5), (0, .ref x_xo), (1, .int x1), (2, .int x2), (3, .int x3), (4, .int x4), (5, .int x5), (6, .int x6), (7, .int x7), (8, .int x8)]) hx hb dX7_slips_77 hl (by decide) rfl (fun ls hl => ?_)
                  refine lv_iload hx hb dX7_slips_79 (lv_at hl 0 rfl) ?_
                  refine lv_if_eq (tgt := 88) hx hb dX7_slips_81 (by decide) (fun c9 => ?_) (fun c9 => ?_)
                  · replace hw := hw.1 c9
                    refine lv_aload_n hx hb dX7_slips_88 rfl (lv_at hl 1 rfl) ?_
                    refine va_get (D := D) (ci := 7) (v := .ref w_ro) (C := RX7) (T := TX7) (N := 8) hx hb hts inX7 hown hK hP 0 rfl rfl 6 (by decide) fl47 (fun _ h9 => h9) rfl dX7_slips_89 ?_
                    refine lv_aload_n hx hb dX7_slips_92 rfl (lv_at hl 1 rfl) ?_
                    refine va_get (D := D) (ci := 7) (v := .ref da) (C := RX7) (T := TX7) (N := 8) hx hb hts inX7 hown hK hP 0 rfl rfl 0 (by decide) fl12 (fun _ h9 => h9) rfl dX7_slips_93 ?_
                    refine lv_aload_n hx hb dX7_slips_96 rfl (lv_at hl 1 rfl) ?_
                    refine va_get (D := D) (ci := 7) (v := .ref da) (C := RX7) (T := TX7) (N := 8) hx hb hts inX7 hown hK hP 0 rfl rfl 0 (by decide) fl12 (fun _ h9 => h9) rfl dX7_slips_97 ?_
                    refine va_get (D := D) (ci := 0) (v := .ref aki) (C := RX0) (T := TX0) (N := 9) hx hb hts inX0 hown hK hP 1 rfl rfl 2 (by decide) fl103 (fun _ h9 => h9) rfl dX7_slips_100 ?_
                    refine lv_iload_n hx hb dX7_slips_103 rfl (lv_at hl 3 rfl) ?_
                    refine x_iald (j := x2.toNatClampNeg) hx hb hK hP 3 0 rfl rfl rfl hw.1 dX7_slips_104 ?_
                    replace hw := hw.2
                    refine lv_aload_n hx hb dX7_slips_105 rfl (lv_at hl 1 rfl) ?_
                    refine va_get (D := D) (ci := 7) (v := .ref da) (C := RX7) (T := TX7) (N := 8) hx hb hts inX7 hown hK hP 0 rfl rfl 0 (by decide) fl12 (fun _ h9 => h9) rfl dX7_slips_106 ?_
                    refine va_get (D := D) (ci := 0) (v := .ref afi) (C := RX0) (T := TX0) (N := 9) hx hb hts inX0 hown hK hP 1 rfl rfl 3 (by decide) fl106 (fun _ h9 => h9) rfl dX7_slips_109 ?_
                    refine lv_iload_n hx hb dX7_slips_112 rfl (lv_at hl 3 rfl) ?_
                    refine x_iald (j := x2.toNatClampNeg) hx hb hK hP 4 0 rfl rfl rfl hw.1 dX7_slips_113 ?_
                    replace hw := hw.2
                    refine x_cMv (wr := [(x_xo, .inr (7, [.ref da, .ref k_da, .int x_isKept, .ref t_ta, .ref p_pl, .ref r_tr, .ref w_ro, .ref x_ash])), (aki, .inl (G 0, 4, .inl kinds)), (afi, .inl (G 0, 4, .inl fines)), (x_ash, .inl (G 5, 4, .inr (.inr (.inr (.inr (fun k => some (x_sq k))))))), ((x_sq x4.toNatClampNeg), .inr (4, [.ref s_ait, .int s_lane, .int s_size])), (s_ait, .inl (G 1, 24, .inr (.inl s_items)))]) (va_runV (As := [.ref da, .int (kinds x2.toNatClampNeg), .int (fines x2.toNatClampNeg)]) (rest := []) ⟨hx, hb, hml, hown, hts⟩ (c_X3_compare l D G _ w_ro w_amx w_aan w_aag da ami aki afi anw apa w_pairs_5 w_mixes_5 w_answers_5 w_agreed cows tasters newest known milks mayBe bearer day draw (kinds x2.toNatClampNeg) (fines x2.toNatClampNeg) _ hw) (cwV 3 hts gX7_slips_X3_compare rfl rfl rfl (by decide +kernel) ⟨(Nat.le_of_ble_eq_true rfl), (Nat.le_of_ble_eq_true rfl)⟩) (xM_pv (hP.sub [6, 7, 8, 9, 1, 2, 5] rfl) hK (hD.sub [6, 7, 8, 9, 1, 2, 5] (by decide) rfl) (va_recv hK hP (ci := 3) (q0 := 6) rfl rfl)) rfl rfl hl.1 rfl (lv_room (Nat.le_of_ble_eq_true rfl)) dX7_slips_114 ⟨Nat.zero_le _, Nat.zero_le _⟩) hP hD hS hA [6, 7, 8, 9, 1, 2, 5] [0, 3, 4, 10, 11, 12] rfl rfl (by decide) (by decide) [0, 10, 11, 1, 2, 12, 6, 7, 8, 9, 3, 4, 5] (fun u => [(x_xo, .inr (7, [.ref da, .ref k_da, .int x_isKept, .ref t_ta, .ref p_pl, .ref r_tr, .ref w_ro, .ref x_ash])), (da, .inr (0, [.ref ami, .int cows, .ref aki, .ref afi, .int tasters, .ref anw, .ref apa, .int newest, .int known])), (ami, .inl (G 0, 8, .inl milks)), (aki, .inl (G 0, 4, .inl kinds)), (afi, .inl (G 0, 4, .inl fines)), (anw, .inr (1, [.int mayBe, .int bearer, .int day, .int draw])), (w_ro, .inr (3, [.ref w_amx, .ref w_aan, .int w_pairs_5, .ref w_aag])), (w_amx, .inl (G 0, 6, .inl w_mixes_5)), (w_aan, .inl (G 0, 6, .inl w_answers_5)), (w_aag, .inl (G 0, 6, .inl u)), (x_ash, .inl (G 5, 4, .inr (.inr (.inr (.inr (fun k => some (x_sq k))))))), ((x_sq x4.toNatClampNeg), .inr (4, [.ref s_ait, .int s_lane, .int s_size])), (s_ait, .inl (G 1, 24, .inr (.inl s_items)))]) (by decide) (fun u => rfl) (fun u H locs hw hP hD hS => ?_)
                    obtain ⟨w_agreed_6, rfl⟩ : ∃ z, z = u := ⟨_, rfl⟩
                    try dsimp only at hw
                    replace hP : va_P D vwCl [(x_xo, .inr (7, [.ref da, .ref k_da, .int x_isKept, .ref t_ta, .ref p_pl, .ref r_tr, .ref w_ro, .ref x_ash])), (da, .inr (0, [.ref ami, .int cows, .ref aki, .ref afi, .int tasters, .ref anw, .ref apa, .int newest, .int known])), (ami, .inl (G 0, 8, .inl milks)), (aki, .inl (G 0, 4, .inl kinds)), (afi, .inl (G 0, 4, .inl fines)), (anw, .inr (1, [.int mayBe, .int bearer, .int day, .int draw])), (w_ro, .inr (3, [.ref w_amx, .ref w_aan, .int w_pairs_5, .ref w_aag])), (w_amx, .inl (G 0, 6, .inl w_mixes_5)), (w_aan, .inl (G 0, 6, .inl w_answers_5)), (w_aag, .inl (G 0, 6, .inl w_agreed_6)), (x_ash, .inl (G 5, 4, .inr (.inr (.inr (.inr (fun k => some (x_sq k))))))), ((x_sq x4.toNatClampNeg), .inr (4, [.ref s_ait, .int s_lane, .int s_size])), (s_ait, .inl (G 1, 24, .inr (.inl s_items)))] H := hP
                    replace hD : va_D A [(x_xo, .inr (7, [.ref da, .ref k_da, .int x_isKept, .ref t_ta, .ref p_pl, .ref r_tr, .ref w_ro, .ref x_ash])), (da, .inr (0, [.ref ami, .int cows, .ref aki, .ref afi, .int tasters, .ref anw, .ref apa, .int newest, .int known])), (ami, .inl (G 0, 8, .inl milks)), (aki, .inl (G 0, 4, .inl kinds)), (afi, .inl (G 0, 4, .inl fines)), (anw, .inr (1, [.int mayBe, .int bearer, .int day, .int draw])), (w_ro, .inr (3, [.ref w_amx, .ref w_aan, .int w_pairs_5, .ref w_aag])), (w_amx, .inl (G 0, 6, .inl w_mixes_5)), (w_aan, .inl (G 0, 6, .inl w_answers_5)), (w_aag, .inl (G 0, 6, .inl w_agreed_6)), (x_ash, .inl (G 5, 4, .inr (.inr (.inr (.inr (fun k => some (x_sq k))))))), ((x_sq x4.toNatClampNeg), .inr (4, [.ref s_ait, .int s_lane, .int s_size])), (s_ait, .inl (G 1, 24, .inr (.inl s_items)))] := hD
                    refine lv_aload_n hx hb dX7_slips_117 rfl (lv_at hl 1 rfl) ?_
                    refine va_get (D := D) (ci := 7) (v := .ref da) (C := RX7) (T := TX7) (N := 8) hx hb hts inX7 hown hK hP 0 rfl rfl 0 (by decide) fl12 (fun _ h9 => h9) rfl dX7_slips_118 ?_
                    refine va_get (D := D) (ci := 0) (v := .ref anw) (C := RX0) (T := TX0) (N := 9) hx hb hts inX0 hown hK hP 1 rfl rfl 5 (by decide) fl66 (fun _ h9 => h9) rfl dX7_slips_121 ?_
                    refine va_get (D := D) (ci := 1) (v := .int mayBe) (C := RX1) (T := TX1) (N := 4) hx hb hts inX1 hown hK hP 5 rfl rfl 0 (by decide) fl74 (fun _ h9 => h9) rfl dX7_slips_124 ?_
                    refine lv_istore (lv' := [(10, .int mayBe), (9, .int r5), (0, .ref x_xo), (1, .int x1), (2, .int x2), (3, .int x3), (4, .int x4), (5, .int x5), (6, .int x6), (7, .int x7), (8, .int x8)]) hx hb dX7_slips_127 hl (by decide) rfl (fun ls hl => ?_)
                    refine lv_aload_n hx hb dX7_slips_129 rfl (lv_at hl 2 rfl) ?_
                    refine va_get (D := D) (ci := 7) (v := .ref w_ro) (C := RX7) (T := TX7) (N := 8) hx hb hts inX7 hown hK hP 0 rfl rfl 6 (by decide) fl47 (fun _ h9 => h9) rfl dX7_slips_130 ?_
                    refine lv_aload_n hx hb dX7_slips_133 rfl (lv_at hl 2 rfl) ?_
                    refine va_get (D := D) (ci := 7) (v := .ref da) (C := RX7) (T := TX7) (N := 8) hx hb hts inX7 hown hK hP 0 rfl rfl 0 (by decide) fl12 (fun _ h9 => h9) rfl dX7_slips_134 ?_
                    refine lv_iconst (v := 1) hx hb dX7_slips_137 (by decide) ?_
                    refine lv_iload_n hx hb dX7_slips_138 rfl (lv_at hl 3 rfl) ?_
                    refine lv_ishl hx hb dX7_slips_139 ?_
                    refine lv_iload hx hb dX7_slips_140 (lv_at hl 0 rfl) ?_
                    refine lv_iand hx hb dX7_slips_142 ?_
                    refine lv_iload_n hx hb dX7_slips_143 rfl (lv_at hl 5 rfl) ?_
                    refine vp_callSl (W.runV (As := [.ref da, .int (((1 : Int32) <<< (x1 &&& 31)) &&& mayBe), .int x3]) (rest := []) ⟨hx, hb, hml, hown, hts⟩ (c_X3_weightOf l D G w_ro w_amx w_aan w_aag da ami aki afi anw apa w_pairs_5 w_agreed_6 cows tasters newest known milks (((1 : Int32) <<< (x1 &&& 31)) &&& mayBe) x3 _ hw) (cwV 3 hts gX7_slips_X3_weightOf rfl rfl rfl (by decide +kernel) ⟨(Nat.le_of_ble_eq_true rfl), (Nat.le_of_ble_eq_true rfl)⟩) (xR_pv (hP.sub [6, 9, 1, 2] rfl) hK (va_recv hK hP (ci := 3) (q0 := 6) rfl rfl)) rfl rfl hl.1 rfl (lv_room (Nat.le_of_ble_eq_true rfl)) dX7_slips_144 ⟨Nat.zero_le _, Nat.zero_le _⟩) (fun r7 hw => ?_)
                    refine lv_aload_n hx hb dX7_slips_147 rfl (lv_at hl 2 rfl) ?_
                    refine va_get (D := D) (ci := 7) (v := .ref w_ro) (C := RX7) (T := TX7) (N := 8) hx hb hts inX7 hown hK hP 0 rfl rfl 6 (by decide) fl47 (fun _ h9 => h9) rfl dX7_slips_148 ?_
                    refine lv_aload_n hx hb dX7_slips_151 rfl (lv_at hl 2 rfl) ?_
                    refine va_get (D := D) (ci := 7) (v := .ref da) (C := RX7) (T := TX7) (N := 8) hx hb hts inX7 hown hK hP 0 rfl rfl 0 (by decide) fl12 (fun _ h9 => h9) rfl dX7_slips_152 ?_
                    refine lv_iload hx hb dX7_slips_155 (lv_at hl 0 rfl) ?_
                    refine lv_iload_n hx hb dX7_slips_157 rfl (lv_at hl 5 rfl) ?_
                    refine vp_callSl (W.runV (As := [.ref da, .int mayBe, .int x3]) (rest := [.long r7]) ⟨hx, hb, hml, hown, hts⟩ (c_X3_weightOf l D G w_ro w_amx w_aan w_aag da ami aki afi anw apa w_pairs_5 w_agreed_6 cows tasters newest known milks mayBe x3 _ hw) (cwV 3 hts gX7_slips_X3_weightOf rfl rfl rfl (by decide +kernel) ⟨(Nat.le_of_ble_eq_true rfl), (Nat.le_of_ble_eq_true rfl)⟩) (xR_pv (hP.sub [6, 9, 1, 2] rfl) hK (va_recv hK hP (ci := 3) (q0 := 6) rfl rfl)) rfl rfl hl.1 rfl (lv_room (Nat.le_of_ble_eq_true rfl)) dX7_slips_158 ⟨Nat.zero_le _, Nat.zero_le _⟩) (fun r8 hw => ?_)
                    refine lv_iload hx hb dX7_slips_161 (lv_at hl 10 rfl) ?_
                    refine vp_callSl (W.runS (As := [.long r7, .long r8, .int x8]) (rest := []) ⟨hx, hb, hml, hown, hts⟩ (c_X7_fraction l D G r7 r8 x8 _ hw) (va_cwS 3 hts gX7_slips_X7_fraction rfl rfl rfl (by decide +kernel) ⟨(Nat.le_of_ble_eq_true rfl), (Nat.le_of_ble_eq_true rfl)⟩) (xR_ps (hP.sub [] rfl) hK) rfl rfl hl.1 rfl (lv_room (Nat.le_of_ble_eq_true rfl)) dX7_slips_163 ⟨Nat.zero_le _, Nat.zero_le _⟩) (fun r9 hw => ?_)
                    exact W.lret hx hb hr (x_ml (u := (w_pairs_5, w_mixes_5, w_answers_5, w_agreed_6)) hP hK hD hS hw) hS.2.2 dX7_slips_166
                  · replace hw := hw.2 c9
                    refine lv_iload hx hb dX7_slips_84 (lv_at hl 0 rfl) ?_
                    refine lv_i2l hx hb dX7_slips_86 rfl ?_
                    exact W.lret hx hb hr (x_ml (u := (w_pairs_5, w_mixes_5, w_answers_5, w_agreed)) hP hK hD hS hw) hS.2.2 dX7_slips_87
                · replace hw := hw.2 c9
                  refine lv_ldc2 (v := -1) hx hb hown (hts (.constantLong RX7 235 (-1)) (by decide +kernel)) dX7_slips_61 ?_
                  exact W.lret hx hb hr (x_ml (u := (w_pairs, w_mixes, w_answers, w_agreed)) hP hK hD hS hw) hS.2.2 dX7_slips_64
        · replace hw := hw.2 c9
          refine lv_ldc2 (v := -1) hx hb hown (hts (.constantLong RX7 235 (-1)) (by decide +kernel)) dX7_slips_26 ?_
          exact W.lret hx hb hr (x_ml (u := (w_pairs, w_mixes, w_answers, w_agreed)) hP hK hD hS hw) hS.2.2 dX7_slips_29
