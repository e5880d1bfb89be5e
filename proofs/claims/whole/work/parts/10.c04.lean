set_option maxHeartbeats 4000000 in
set_option maxRecDepth 100000 in
theorem c_X5_readTaster (l : Launch) (D : va_G) (G : Nat → ClassId) (sz : Nat) (t_ta : Nat) (t_ale : Nat) (t_ami : Nat) (t_aki : Nat) (t_afi : Nat) (kS : Nat) (vS : Nat) (t_size : Int32) (t_place : Int32) (t_cows : Int32) (t_bearer : Int32) (t_tasters : Int32) (t_letters : Nat → Int32) (t_kinds : Nat → Int32) (t_fines : Nat → Int32) (post : Int32 → Int32 → Int32 → (Nat → Int32) → (Nat → Int32) → Prop) (hw : wp_X5_readTaster t_size t_place t_tasters t_letters t_kinds t_fines post) : Met l yX5_readTaster wsX5_readTaster ({ frames := 4, cells := 0, slots := 0, locals := 91 } : Room) (va_Pc [.ref t_ta] (xMT D G kS vS sz [(t_ta, .inr (5, [.ref t_ale, .int t_size, .int t_place, .ref t_ami, .int t_cows, .int t_bearer, .ref t_aki, .ref t_afi, .int t_tasters])), (t_ale, .inl (G 3, 40, .inl t_letters)), (t_aki, .inl (G 0, 4, .inl t_kinds)), (t_afi, .inl (G 0, 4, .inl t_fines))])) (va_Qi (fun r (u : Int32 × Int32 × (Nat → Int32) × (Nat → Int32)) => post r u.1 u.2.1 u.2.2.1 u.2.2.2) (fun u t => xE D G (va_A [(t_ta, .inr (5, [.ref t_ale, .int t_size, .int t_place, .ref t_ami, .int t_cows, .int t_bearer, .ref t_aki, .ref t_afi, .int t_tasters])), (t_ale, .inl (G 3, 40, .inl t_letters)), (t_aki, .inl (G 0, 4, .inl t_kinds)), (t_afi, .inl (G 0, 4, .inl t_fines))] sz) [(t_ta, .inr (5, [.ref t_ale, .int t_size, .int u.1, .ref t_ami, .int t_cows, .int t_bearer, .ref t_aki, .ref t_afi, .int u.2.1])), (t_ale, .inl (G 3, 40, .inl t_letters)), (t_aki, .inl (G 0, 4, .inl (u.2.2.1))), (t_afi, .inl (G 0, 4, .inl (u.2.2.2)))] t) (va_A [(t_ta, .inr (5, [.ref t_ale, .int t_size, .int t_place, .ref t_ami, .int t_cows, .int t_bearer, .ref t_aki, .ref t_afi, .int t_tasters])), (t_ale, .inl (G 3, 40, .inl t_letters)), (t_aki, .inl (G 0, 4, .inl t_kinds)), (t_afi, .inl (G 0, 4, .inl t_fines))] sz)) 0 0 (va_A [(t_ta, .inr (5, [.ref t_ale, .int t_size, .int t_place, .ref t_ami, .int t_cows, .int t_bearer, .ref t_aki, .ref t_afi, .int t_tasters])), (t_ale, .inl (G 3, 40, .inl t_letters)), (t_aki, .inl (G 0, 4, .inl t_kinds)), (t_afi, .inl (G 0, 4, .inl t_fines))] sz) := by
  refine Met.ofW (cc := cX5_readTaster) (maxL := 2) (ret := (some .boolean)) (by decide) rfl ?_
  intro p e s m args below meth c s₁ B hml hv
  obtain ⟨rfl, hsz, hP, hK, hD0, hT⟩ := hv
  have hx := B.exec
  have hb := B.bytes
  have hr := B.returns
  have hts := atoms_spec (ws := wsX5_readTaster) B.pre
  have hown : s.vm.findClass RX5 = some m.cls := findClass_of_methodNamed B.named
  have hlocks := B.notSynchronized
  subst hsz
  have hD := hD0.self (sz := s.heap.size)
  generalize hAe : va_A [(t_ta, .inr (5, [.ref t_ale, .int t_size, .int t_place, .ref t_ami, .int t_cows, .int t_bearer, .ref t_aki, .ref t_afi, .int t_tasters])), (t_ale, .inl (G 3, 40, .inl t_letters)), (t_aki, .inl (G 0, 4, .inl t_kinds)), (t_afi, .inl (G 0, 4, .inl t_fines))] s.heap.size = A at hD hT ⊢
  have hA : ∀ q : Nat, s.heap.size ≤ q → A q := fun q h => by rw [← hAe]; exact Or.inr h
  have hS : va_S A s.heap s.heap [] := va_S.rf
  have inX5 : ∀ w ∈ wsX50, w ∈ wsX5_readTaster := by decide +kernel
  have fl19 := hts (.fieldLink RX5 19 "NewsCow$Tape" "place" "I") (by decide +kernel)
  have fl32 := hts (.fieldLink RX5 32 "NewsCow$Tape" "kinds" "[I") (by decide +kernel)
  have fl38 := hts (.fieldLink RX5 38 "NewsCow$Tape" "tasters" "I") (by decide +kernel)
  have fl35 := hts (.fieldLink RX5 35 "NewsCow$Tape" "fines" "[I") (by decide +kernel)
  have hl := lv_entry ([.ref t_ta] : List Value) (n := 2) (Nat.le_of_ble_eq_true rfl)
  rw [lg_entry_eq]
  generalize (lg_sl ([.ref t_ta] : List Value) ++ List.replicate (2 - (lg_sl ([.ref t_ta] : List Value)).length) Slot.unset).toArray = ls at hl ⊢
  have hl : lv_has ls 2 [(0, .ref t_ta)] := hl
  unfold wp_X5_readTaster at hw
  refine va_ldcS hx hb hown hT.1 dX5_readTaster_0 ?_
  refine lv_aload_n hx hb dX5_readTaster_2 rfl (lv_at hl 0 rfl) ?_
  refine x_cMi (wr := [(t_aki, .inl (G 0, 4, .inl t_kinds)), (t_afi, .inl (G 0, 4, .inl t_fines))]) (va_runV (As := []) (rest := [.ref kS]) ⟨hx, hb, hml, hown, hts⟩ (c_X5_ahead l D G _ t_ta t_ale t_ami t_aki t_afi t_size t_place t_cows t_bearer t_tasters t_letters _ hw) (cwV 0 hts gX5_readTaster_X5_ahead rfl rfl rfl (by decide +kernel) ⟨(Nat.le_of_ble_eq_true rfl), (Nat.le_of_ble_eq_true rfl)⟩) (xM_pv (hP.sub [0, 1] rfl) hK (hD.sub [0, 1] (by decide) rfl) (va_recv hK hP (ci := 5) (q0 := 0) rfl rfl)) rfl rfl hl.1 rfl (lv_room (Nat.le_of_ble_eq_true rfl)) dX5_readTaster_3 ⟨Nat.zero_le _, Nat.zero_le _⟩) hP hD hS hA [0, 1] [2, 3] rfl rfl (by decide) (by decide) [2, 3, 0, 1] (fun u => [(t_ta, .inr (5, [.ref t_ale, .int t_size, .int u, .ref t_ami, .int t_cows, .int t_bearer, .ref t_aki, .ref t_afi, .int t_tasters])), (t_ale, .inl (G 3, 40, .inl t_letters)), (t_aki, .inl (G 0, 4, .inl t_kinds)), (t_afi, .inl (G 0, 4, .inl t_fines))]) (by decide) (fun u => rfl) (fun r1 u H locs hw hP hD hS => ?_)
  obtain ⟨t_place_1, rfl⟩ : ∃ z, z = u := ⟨_, rfl⟩
  try dsimp only at hw
  replace hP : va_P D vwCl [(t_ta, .inr (5, [.ref t_ale, .int t_size, .int t_place_1, .ref t_ami, .int t_cows, .int t_bearer, .ref t_aki, .ref t_afi, .int t_tasters])), (t_ale, .inl (G 3, 40, .inl t_letters)), (t_aki, .inl (G 0, 4, .inl t_kinds)), (t_afi, .inl (G 0, 4, .inl t_fines))] H := hP
  replace hD : va_D A [(t_ta, .inr (5, [.ref t_ale, .int t_size, .int t_place_1, .ref t_ami, .int t_cows, .int t_bearer, .ref t_aki, .ref t_afi, .int t_tasters])), (t_ale, .inl (G 3, 40, .inl t_letters)), (t_aki, .inl (G 0, 4, .inl t_kinds)), (t_afi, .inl (G 0, 4, .inl t_fines))] := hD
  refine vp_callSi (W.runV (As := [.int r1]) (rest := []) ⟨hx, hb, hml, hown, hts⟩ (c_J0_indexOf_0f7a4 l D G kS vS r1 _ hw) (cwV 1 hts gX5_readTaster_J0_indexOf_0f7a4 rfl rfl rfl (by decide +kernel) ⟨(Nat.le_of_ble_eq_true rfl), (Nat.le_of_ble_eq_true rfl)⟩) (xRT_pv (hP.sub [] rfl) hK hT hS (vk_recv hT.2.1 (i := 0) (by decide) hS)) rfl rfl hl.1 rfl (lv_room (Nat.le_of_ble_eq_true rfl)) dX5_readTaster_6 ⟨Nat.zero_le _, Nat.zero_le _⟩) (fun r2 hw => ?_)
  refine lv_istore_n (lv' := [(1, .int r2), (0, .ref t_ta)]) hx hb dX5_readTaster_9 rfl hl (by decide) rfl (fun ls hl => ?_)
  refine lv_iload_n hx hb dX5_readTaster_10 rfl (lv_at hl 0 rfl) ?_
  refine lv_if_ge (tgt := 16) hx hb dX5_readTaster_11 (by decide) (fun c9 => ?_) (fun c9 => ?_)
  · replace hw := hw.1 c9
    refine lv_aload_n hx hb dX5_readTaster_16 rfl (lv_at hl 1 rfl) ?_
    refine lv_dup hx hb dX5_readTaster_17 rfl ?_
    refine va_get (D := D) (ci := 5) (v := .int t_place_1) (C := RX5) (T := TX5) (N := 9) hx hb hts inX5 hown hK hP 0 rfl rfl 2 (by decide) fl19 (fun _ h9 => h9) rfl dX5_readTaster_18 ?_
    refine lv_iconst (v := 1) hx hb dX5_readTaster_21 (by decide) ?_
    refine lv_iadd hx hb dX5_readTaster_22 ?_
    refine va_put (D := D) (ci := 5) (v := .int (t_place_1 + (1 : Int32))) (ty := .int) (C := RX5) (T := TX5) (N := 9) hx hb hts inX5 tyX5 tyX5_ok nmX5 hown hK hP hD hS 0 rfl rfl 2 (by decide) fl19 (fun _ h9 => h9) rfl (by decide +kernel) rfl rfl (Nat.le_of_ble_eq_true rfl) dX5_readTaster_23 (fun H locs hP hD hS => ?_)
    replace hP : va_P D vwCl [(t_ta, .inr (5, [.ref t_ale, .int t_size, .int (t_place_1 + (1 : Int32)), .ref t_ami, .int t_cows, .int t_bearer, .ref t_aki, .ref t_afi, .int t_tasters])), (t_ale, .inl (G 3, 40, .inl t_letters)), (t_aki, .inl (G 0, 4, .inl t_kinds)), (t_afi, .inl (G 0, 4, .inl t_fines))] H := hP
    replace hD : va_D A [(t_ta, .inr (5, [.ref t_ale, .int t_size, .int (t_place_1 + (1 : Int32)), .ref t_ami, .int t_cows, .int t_bearer, .ref t_aki, .ref t_afi, .int t_tasters])), (t_ale, .inl (G 3, 40, .inl t_letters)), (t_aki, .inl (G 0, 4, .inl t_kinds)), (t_afi, .inl (G 0, 4, .inl t_fines))] := hD
    refine lv_aload_n hx hb dX5_readTaster_26 rfl (lv_at hl 1 rfl) ?_
    refine x_cMi (wr := [(t_aki, .inl (G 0, 4, .inl t_kinds)), (t_afi, .inl (G 0, 4, .inl t_fines))]) (va_runV (As := []) (rest := []) ⟨hx, hb, hml, hown, hts⟩ (c_X5_ahead l D G _ t_ta t_ale t_ami t_aki t_afi t_size (t_place_1 + (1 : Int32)) t_cows t_bearer t_tasters t_letters _ hw) (cwV 0 hts gX5_readTaster_X5_ahead rfl rfl rfl (by decide +kernel) ⟨(Nat.le_of_ble_eq_true rfl), (Nat.le_of_ble_eq_true rfl)⟩) (xM_pv (hP.sub [0, 1] rfl) hK (hD.sub [0, 1] (by decide) rfl) (va_recv hK hP (ci := 5) (q0 := 0) rfl rfl)) rfl rfl hl.1 rfl (lv_room (Nat.le_of_ble_eq_true rfl)) dX5_readTaster_27 ⟨Nat.zero_le _, Nat.zero_le _⟩) hP hD hS hA [0, 1] [2, 3] rfl rfl (by decide) (by decide) [2, 3, 0, 1] (fun u => [(t_ta, .inr (5, [.ref t_ale, .int t_size, .int u, .ref t_ami, .int t_cows, .int t_bearer, .ref t_aki, .ref t_afi, .int t_tasters])), (t_ale, .inl (G 3, 40, .inl t_letters)), (t_aki, .inl (G 0, 4, .inl t_kinds)), (t_afi, .inl (G 0, 4, .inl t_fines))]) (by decide) (fun u => rfl) (fun r3 u H locs hw hP hD hS => ?_)
    obtain ⟨t_place_3, rfl⟩ : ∃ z, z = u := ⟨_, rfl⟩
    try dsimp only at hw
    replace hP : va_P D vwCl [(t_ta, .inr (5, [.ref t_ale, .int t_size, .int t_place_3, .ref t_ami, .int t_cows, .int t_bearer, .ref t_aki, .ref t_afi, .int t_tasters])), (t_ale, .inl (G 3, 40, .inl t_letters)), (t_aki, .inl (G 0, 4, .inl t_kinds)), (t_afi, .inl (G 0, 4, .inl t_fines))] H := hP
    replace hD : va_D A [(t_ta, .inr (5, [.ref t_ale, .int t_size, .int t_place_3, .ref t_ami, .int t_cows, .int t_bearer, .ref t_aki, .ref t_afi, .int t_tasters])), (t_ale, .inl (G 3, 40, .inl t_letters)), (t_aki, .inl (G 0, 4, .inl t_kinds)), (t_afi, .inl (G 0, 4, .inl t_fines))] := hD
    refine vp_callSi (W.runS (As := [.int r3]) (rest := []) ⟨hx, hb, hml, hown, hts⟩ (c_X5_isDigit l D G r3 _ hw) (va_cwS 1 hts gX5_readTaster_X5_isDigit rfl rfl rfl (by decide +kernel) ⟨(Nat.le_of_ble_eq_true rfl), (Nat.le_of_ble_eq_true rfl)⟩) (xR_ps (hP.sub [] rfl) hK) rfl rfl hl.1 rfl (lv_room (Nat.le_of_ble_eq_true rfl)) dX5_readTaster_30 ⟨Nat.zero_le _, Nat.zero_le _⟩) (fun r4 hw => ?_)
    refine lv_if_ne (tgt := 38) hx hb dX5_readTaster_33 (by decide) (fun c9 => ?_) (fun c9 => ?_)
    · replace hw := hw.1 c9
      refine lv_aload_n hx hb dX5_readTaster_38 rfl (lv_at hl 1 rfl) ?_
      refine va_get (D := D) (ci := 5) (v := .ref t_aki) (C := RX5) (T := TX5) (N := 9) hx hb hts inX5 hown hK hP 0 rfl rfl 6 (by decide) fl32 (fun _ h9 => h9) rfl dX5_readTaster_39 ?_
      refine lv_aload_n hx hb dX5_readTaster_42 rfl (lv_at hl 1 rfl) ?_
      refine va_get (D := D) (ci := 5) (v := .int t_tasters) (C := RX5) (T := TX5) (N := 9) hx hb hts inX5 hown hK hP 0 rfl rfl 8 (by decide) fl38 (fun _ h9 => h9) rfl dX5_readTaster_43 ?_
      refine lv_iload_n hx hb dX5_readTaster_46 rfl (lv_at hl 0 rfl) ?_
      refine x_iast (j := t_tasters.toNatClampNeg) hx hb hK hP hD hS 2 0 rfl rfl rfl hw.1 dX5_readTaster_47 (fun H locs hP hD hS => ?_)
      replace hw := hw.2
      replace hP : va_P D vwCl [(t_ta, .inr (5, [.ref t_ale, .int t_size, .int t_place_3, .ref t_ami, .int t_cows, .int t_bearer, .ref t_aki, .ref t_afi, .int t_tasters])), (t_ale, .inl (G 3, 40, .inl t_letters)), (t_aki, .inl (G 0, 4, .inl (upd t_kinds t_tasters.toNatClampNeg r2))), (t_afi, .inl (G 0, 4, .inl t_fines))] H := hP
      replace hD : va_D A [(t_ta, .inr (5, [.ref t_ale, .int t_size, .int t_place_3, .ref t_ami, .int t_cows, .int t_bearer, .ref t_aki, .ref t_afi, .int t_tasters])), (t_ale, .inl (G 3, 40, .inl t_letters)), (t_aki, .inl (G 0, 4, .inl (upd t_kinds t_tasters.toNatClampNeg r2))), (t_afi, .inl (G 0, 4, .inl t_fines))] := hD
      refine lv_aload_n hx hb dX5_readTaster_48 rfl (lv_at hl 1 rfl) ?_
      refine va_get (D := D) (ci := 5) (v := .ref t_afi) (C := RX5) (T := TX5) (N := 9) hx hb hts inX5 hown hK hP 0 rfl rfl 7 (by decide) fl35 (fun _ h9 => h9) rfl dX5_readTaster_49 ?_
      refine lv_aload_n hx hb dX5_readTaster_52 rfl (lv_at hl 1 rfl) ?_
      refine va_get (D := D) (ci := 5) (v := .int t_tasters) (C := RX5) (T := TX5) (N := 9) hx hb hts inX5 hown hK hP 0 rfl rfl 8 (by decide) fl38 (fun _ h9 => h9) rfl dX5_readTaster_53 ?_
      refine lv_aload_n hx hb dX5_readTaster_56 rfl (lv_at hl 1 rfl) ?_
      refine x_cMi (wr := [(t_aki, .inl (G 0, 4, .inl (upd t_kinds t_tasters.toNatClampNeg r2))), (t_afi, .inl (G 0, 4, .inl t_fines))]) (va_runV (As := []) (rest := [.int t_tasters, .ref t_afi]) ⟨hx, hb, hml, hown, hts⟩ (c_X5_ahead l D G _ t_ta t_ale t_ami t_aki t_afi t_size t_place_3 t_cows t_bearer t_tasters t_letters _ hw) (cwV 0 hts gX5_readTaster_X5_ahead rfl rfl rfl (by decide +kernel) ⟨(Nat.le_of_ble_eq_true rfl), (Nat.le_of_ble_eq_true rfl)⟩) (xM_pv (hP.sub [0, 1] rfl) hK (hD.sub [0, 1] (by decide) rfl) (va_recv hK hP (ci := 5) (q0 := 0) rfl rfl)) rfl rfl hl.1 rfl (lv_room (Nat.le_of_ble_eq_true rfl)) dX5_readTaster_57 ⟨Nat.zero_le _, Nat.zero_le _⟩) hP hD hS hA [0, 1] [2, 3] rfl rfl (by decide) (by decide) [2, 3, 0, 1] (fun u => [(t_ta, .inr (5, [.ref t_ale, .int t_size, .int u, .ref t_ami, .int t_cows, .int t_bearer, .ref t_aki, .ref t_afi, .int t_tasters])), (t_ale, .inl (G 3, 40, .inl t_letters)), (t_aki, .inl (G 0, 4, .inl (upd t_kinds t_tasters.toNatClampNeg r2))), (t_afi, .inl (G 0, 4, .inl t_fines))]) (by decide) (fun u => rfl) (fun r5 u H locs hw hP hD hS => ?_)
      obtain ⟨t_place_5, rfl⟩ : ∃ z, z = u := ⟨_, rfl⟩
      try dsimp only at hw
      replace hP : va_P D vwCl [(t_ta, .inr (5, [.ref t_ale, .int t_size, .int t_place_5, .ref t_ami, .int t_cows, .int t_bearer, .ref t_aki, .ref t_afi, .int t_tasters])), (t_ale, .inl (G 3, 40, .inl t_letters)), (t_aki, .inl (G 0, 4, .inl (upd t_kinds t_tasters.toNatClampNeg r2))), (t_afi, .inl (G 0, 4, .inl t_fines))] H := hP
      replace hD : va_D A [(t_ta, .inr (5, [.ref t_ale, .int t_size, .int t_place_5, .ref t_ami, .int t_cows, .int t_bearer, .ref t_aki, .ref t_afi, .int t_tasters])), (t_ale, .inl (G 3, 40, .inl t_letters)), (t_aki, .inl (G 0, 4, .inl (upd t_kinds t_tasters.toNatClampNeg r2))), (t_afi, .inl (G 0, 4, .inl t_fines))] := hD
      refine lv_bipush (v := 48) hx hb dX5_readTaster_60 (by decide) ?_
      refine lv_isub hx hb dX5_readTaster_62 ?_
      refine x_iast (j := t_tasters.toNatClampNeg) hx hb hK hP hD hS 3 0 rfl rfl rfl hw.1 dX5_readTaster_63 (fun H locs hP hD hS => ?_)
      replace hw := hw.2
      replace hP : va_P D vwCl [(t_ta, .inr (5, [.ref t_ale, .int t_size, .int t_place_5, .ref t_ami, .int t_cows, .int t_bearer, .ref t_aki, .ref t_afi, .int t_tasters])), (t_ale, .inl (G 3, 40, .inl t_letters)), (t_aki, .inl (G 0, 4, .inl (upd t_kinds t_tasters.toNatClampNeg r2))), (t_afi, .inl (G 0, 4, .inl (upd t_fines t_tasters.toNatClampNeg (r5 - (48 : Int32)))))] H := hP
      replace hD : va_D A [(t_ta, .inr (5, [.ref t_ale, .int t_size, .int t_place_5, .ref t_ami, .int t_cows, .int t_bearer, .ref t_aki, .ref t_afi, .int t_tasters])), (t_ale, .inl (G 3, 40, .inl t_letters)), (t_aki, .inl (G 0, 4, .inl (upd t_kinds t_tasters.toNatClampNeg r2))), (t_afi, .inl (G 0, 4, .inl (upd t_fines t_tasters.toNatClampNeg (r5 - (48 : Int32)))))] := hD
      refine lv_aload_n hx hb dX5_readTaster_64 rfl (lv_at hl 1 rfl) ?_
      refine lv_dup hx hb dX5_readTaster_65 rfl ?_
      refine va_get (D := D) (ci := 5) (v := .int t_tasters) (C := RX5) (T := TX5) (N := 9) hx hb hts inX5 hown hK hP 0 rfl rfl 8 (by decide) fl38 (fun _ h9 => h9) rfl dX5_readTaster_66 ?_
      refine lv_iconst (v := 1) hx hb dX5_readTaster_69 (by decide) ?_
      refine lv_iadd hx hb dX5_readTaster_70 ?_
      refine va_put (D := D) (ci := 5) (v := .int (t_tasters + (1 : Int32))) (ty := .int) (C := RX5) (T := TX5) (N := 9) hx hb hts inX5 tyX5 tyX5_ok nmX5 hown hK hP hD hS 0 rfl rfl 8 (by decide) fl38 (fun _ h9 => h9) rfl (by decide +kernel) rfl rfl (Nat.le_of_ble_eq_true rfl) dX5_readTaster_71 (fun H locs hP hD hS => ?_)
      replace hP : va_P D vwCl [(t_ta, .inr (5, [.ref t_ale, .int t_size, .int t_place_5, .ref t_ami, .int t_cows, .int t_bearer, .ref t_aki, .ref t_afi, .int (t_tasters + (1 : Int32))])), (t_ale, .inl (G 3, 40, .inl t_letters)), (t_aki, .inl (G 0, 4, .inl (upd t_kinds t_tasters.toNatClampNeg r2))), (t_afi, .inl (G 0, 4, .inl (upd t_fines t_tasters.toNatClampNeg (r5 - (48 : Int32)))))] H := hP
      replace hD : va_D A [(t_ta, .inr (5, [.ref t_ale, .int t_size, .int t_place_5, .ref t_ami, .int t_cows, .int t_bearer, .ref t_aki, .ref t_afi, .int (t_tasters + (1 : Int32))])), (t_ale, .inl (G 3, 40, .inl t_letters)), (t_aki, .inl (G 0, 4, .inl (upd t_kinds t_tasters.toNatClampNeg r2))), (t_afi, .inl (G 0, 4, .inl (upd t_fines t_tasters.toNatClampNeg (r5 - (48 : Int32)))))] := hD
      refine lv_aload_n hx hb dX5_readTaster_74 rfl (lv_at hl 1 rfl) ?_
      refine lv_dup hx hb dX5_readTaster_75 rfl ?_
      refine va_get (D := D) (ci := 5) (v := .int t_place_5) (C := RX5) (T := TX5) (N := 9) hx hb hts inX5 hown hK hP 0 rfl rfl 2 (by decide) fl19 (fun _ h9 => h9) rfl dX5_readTaster_76 ?_
      refine lv_iconst (v := 1) hx hb dX5_readTaster_79 (by decide) ?_
      refine lv_iadd hx hb dX5_readTaster_80 ?_
      refine va_put (D := D) (ci := 5) (v := .int (t_place_5 + (1 : Int32))) (ty := .int) (C := RX5) (T := TX5) (N := 9) hx hb hts inX5 tyX5 tyX5_ok nmX5 hown hK hP hD hS 0 rfl rfl 2 (by decide) fl19 (fun _ h9 => h9) rfl (by decide +kernel) rfl rfl (Nat.le_of_ble_eq_true rfl) dX5_readTaster_81 (fun H locs hP hD hS => ?_)
      replace hP : va_P D vwCl [(t_ta, .inr (5, [.ref t_ale, .int t_size, .int (t_place_5 + (1 : Int32)), .ref t_ami, .int t_cows, .int t_bearer, .ref t_aki, .ref t_afi, .int (t_tasters + (1 : Int32))])), (t_ale, .inl (G 3, 40, .inl t_letters)), (t_aki, .inl (G 0, 4, .inl (upd t_kinds t_tasters.toNatClampNeg r2))), (t_afi, .inl (G 0, 4, .inl (upd t_fines t_tasters.toNatClampNeg (r5 - (48 : Int32)))))] H := hP
      replace hD : va_D A [(t_ta, .inr (5, [.ref t_ale, .int t_size, .int (t_place_5 + (1 : Int32)), .ref t_ami, .int t_cows, .int t_bearer, .ref t_aki, .ref t_afi, .int (t_tasters + (1 : Int32))])), (t_ale, .inl (G 3, 40, .inl t_letters)), (t_aki, .inl (G 0, 4, .inl (upd t_kinds t_tasters.toNatClampNeg r2))), (t_afi, .inl (G 0, 4, .inl (upd t_fines t_tasters.toNatClampNeg (r5 - (48 : Int32)))))] := hD
      refine lv_iconst (v := 1) hx hb dX5_readTaster_84 (by decide) ?_
      exact W.zret hx hb hr rfl (x_mi (u := ((t_place_5 + (1 : Int32)), (t_tasters + (1 : Int32)), (upd t_kinds t_tasters.toNatClampNeg r2), (upd t_fines t_tasters.toNatClampNeg (r5 - (48 : Int32))))) hP hK hD hS hw) hS.2.2 dX5_readTaster_85
    · replace hw := hw.2 c9
      refine lv_iconst (v := 0) hx hb dX5_readTaster_36 (by decide) ?_
      exact W.zret hx hb hr rfl (x_mi (u := (t_place_3, t_tasters, t_kinds, t_fines)) hP hK hD hS hw) hS.2.2 dX5_readTaster_37
  · replace hw := hw.2 c9
    refine lv_iconst (v := 0) hx hb dX5_readTaster_14 (by decide) ?_
    exact W.zret hx hb hr rfl (x_mi (u := (t_place_1, t_tasters, t_kinds, t_fines)) hP hK hD hS hw) hS.2.2 dX5_readTaster_15
set_option maxHeartbeats 4000000 in
set_option maxRecDepth 100000 in
theorem c_X5_readTasters (l : Launch) (D : va_G) (G : Nat → ClassId) (sz : Nat) (t_ta : Nat) (t_ale : Nat) (t_ami : Nat) (t_aki : Nat) (t_afi : Nat) (kS : Nat) (vS : Nat) (t_size : Int32) (t_place : Int32) (t_cows : Int32) (t_bearer : Int32) (t_tasters : Int32) (t_letters : Nat → Int32) (t_kinds : Nat → Int32) (t_fines : Nat → Int32) (post : Int32 → Int32 → Int32 → (Nat → Int32) → (Nat → Int32) → Prop) (hw : wp_X5_readTasters t_size t_place t_tasters t_letters t_kinds t_fines post) : Met l yX5_readTasters wsX5_readTasters ({ frames := 5, cells := 0, slots := 0, locals := 112 } : Room) (va_Pc [.ref t_ta] (xMT D G kS vS sz [(t_ta, .inr (5, [.ref t_ale, .int t_size, .int t_place, .ref t_ami, .int t_cows, .int t_bearer, .ref t_aki, .ref t_afi, .int t_tasters])), (t_ale, .inl (G 3, 40, .inl t_letters)), (t_aki, .inl (G 0, 4, .inl t_kinds)), (t_afi, .inl (G 0, 4, .inl t_fines))])) (va_Qi (fun r (u : Int32 × Int32 × (Nat → Int32) × (Nat → Int32)) => post r u.1 u.2.1 u.2.2.1 u.2.2.2) (fun u t => xE D G (va_A [(t_ta, .inr (5, [.ref t_ale, .int t_size, .int t_place, .ref t_ami, .int t_cows, .int t_bearer, .ref t_aki, .ref t_afi, .int t_tasters])), (t_ale, .inl (G 3, 40, .inl t_letters)), (t_aki, .inl (G 0, 4, .inl t_kinds)), (t_afi, .inl (G 0, 4, .inl t_fines))] sz) [(t_ta, .inr (5, [.ref t_ale, .int t_size, .int u.1, .ref t_ami, .int t_cows, .int t_bearer, .ref t_aki, .ref t_afi, .int u.2.1])), (t_ale, .inl (G 3, 40, .inl t_letters)), (t_aki, .inl (G 0, 4, .inl (u.2.2.1))), (t_afi, .inl (G 0, 4, .inl (u.2.2.2)))] t) (va_A [(t_ta, .inr (5, [.ref t_ale, .int t_size, .int t_place, .ref t_ami, .int t_cows, .int t_bearer, .ref t_aki, .ref t_afi, .int t_tasters])), (t_ale, .inl (G 3, 40, .inl t_letters)), (t_aki, .inl (G 0, 4, .inl t_kinds)), (t_afi, .inl (G 0, 4, .inl t_fines))] sz)) 0 0 (va_A [(t_ta, .inr (5, [.ref t_ale, .int t_size, .int t_place, .ref t_ami, .int t_cows, .int t_bearer, .ref t_aki, .ref t_afi, .int t_tasters])), (t_ale, .inl (G 3, 40, .inl t_letters)), (t_aki, .inl (G 0, 4, .inl t_kinds)), (t_afi, .inl (G 0, 4, .inl t_fines))] sz) := by
  refine Met.ofW (cc := cX5_readTasters) (maxL := 2) (ret := (some .boolean)) (by decide) rfl ?_
  intro p e s m args below meth c s₁ B hml hv
  obtain ⟨rfl, hsz, hP, hK, hD0, hT⟩ := hv
  have hx := B.exec
  have hb := B.bytes
  have hr := B.returns
  have hts := atoms_spec (ws := wsX5_readTasters) B.pre
  have hown : s.vm.findClass RX5 = some m.cls := findClass_of_methodNamed B.named
  have hlocks := B.notSynchronized
  subst hsz
  have hD := hD0.self (sz := s.heap.size)
  generalize hAe : va_A [(t_ta, .inr (5, [.ref t_ale, .int t_size, .int t_place, .ref t_ami, .int t_cows, .int t_bearer, .ref t_aki, .ref t_afi, .int t_tasters])), (t_ale, .inl (G 3, 40, .inl t_letters)), (t_aki, .inl (G 0, 4, .inl t_kinds)), (t_afi, .inl (G 0, 4, .inl t_fines))] s.heap.size = A at hD hT ⊢
  have hA : ∀ q : Nat, s.heap.size ≤ q → A q := fun q h => by rw [← hAe]; exact Or.inr h
  have hS : va_S A s.heap s.heap [] := va_S.rf
  have inX5 : ∀ w ∈ wsX50, w ∈ wsX5_readTasters := by decide +kernel
  have fl19 := hts (.fieldLink RX5 19 "NewsCow$Tape" "place" "I") (by decide +kernel)
  have hl := lv_entry ([.ref t_ta] : List Value) (n := 2) (Nat.le_of_ble_eq_true rfl)
  rw [lg_entry_eq]
  generalize (lg_sl ([.ref t_ta] : List Value) ++ List.replicate (2 - (lg_sl ([.ref t_ta] : List Value)).length) Slot.unset).toArray = ls at hl ⊢
  have hl : lv_has ls 2 [(0, .ref t_ta)] := hl
  unfold wp_X5_readTasters at hw
  have L2 : ∀ (f2 : Nat) (x1 : Int32) (t_place : Int32) (t_tasters : Int32) (t_kinds : Nat → Int32) (t_fines : Nat → Int32) (H : Heap) (locs : List Loc) (ls : Array Slot), wp_X5_readTasters_L2 t_size t_letters post f2 t_place t_tasters t_kinds t_fines x1 → va_P D vwCl [(t_ta, .inr (5, [.ref t_ale, .int t_size, .int t_place, .ref t_ami, .int t_cows, .int t_bearer, .ref t_aki, .ref t_afi, .int t_tasters])), (t_ale, .inl (G 3, 40, .inl t_letters)), (t_aki, .inl (G 0, 4, .inl t_kinds)), (t_afi, .inl (G 0, 4, .inl t_fines))] H → va_D A [(t_ta, .inr (5, [.ref t_ale, .int t_size, .int t_place, .ref t_ami, .int t_cows, .int t_bearer, .ref t_aki, .ref t_afi, .int t_tasters])), (t_ale, .inl (G 3, 40, .inl t_letters)), (t_aki, .inl (G 0, 4, .inl t_kinds)), (t_afi, .inl (G 0, 4, .inl t_fines))] → va_S A s.heap H locs → lv_has ls 2 [(0, .ref t_ta), (1, .int x1)] → W p l e (headSpec wsX5_readTasters ({ frames := 5, cells := 0, slots := 0, locals := 112 } : Room)).room s m ([.ref t_ta] : List Value).toArray below meth c H locs 0 0 (MQ below (va_Qi (fun r (u : Int32 × Int32 × (Nat → Int32) × (Nat → Int32)) => post r u.1 u.2.1 u.2.2.1 u.2.2.2) (fun u t => xE D G A [(t_ta, .inr (5, [.ref t_ale, .int t_size, .int u.1, .ref t_ami, .int t_cows, .int t_bearer, .ref t_aki, .ref t_afi, .int u.2.1])), (t_ale, .inl (G 3, 40, .inl t_letters)), (t_aki, .inl (G 0, 4, .inl (u.2.2.1))), (t_afi, .inl (G 0, 4, .inl (u.2.2.2)))] t) A) ([.ref t_ta] : List Value).toArray s 0 0 A) (F0 m 2 ls []) := by
    intro f2
    induction f2 with
    | zero => intro x1 t_place t_tasters t_kinds t_fines H locs ls hw hP hD hS hl; exact (hw : False).elim
    | succ f2 ih2 =>
      intro x1 t_place t_tasters t_kinds t_fines H locs ls hw hP hD hS hl
      unfold wp_X5_readTasters_L2 at hw
      have J32 : ∀ (x1 : Int32) (t_place : Int32) (t_tasters : Int32) (t_kinds : Nat → Int32) (t_fines : Nat → Int32) (H : Heap) (locs : List Loc) (ls : Array Slot), wp_X5_readTasters_J32 t_size t_place t_tasters t_letters t_kinds t_fines x1 (wp_X5_readTasters_L2 t_size t_letters post f2) post → va_P D vwCl [(t_ta, .inr (5, [.ref t_ale, .int t_size, .int t_place, .ref t_ami, .int t_cows, .int t_bearer, .ref t_aki, .ref t_afi, .int t_tasters])), (t_ale, .inl (G 3, 40, .inl t_letters)), (t_aki, .inl (G 0, 4, .inl t_kinds)), (t_afi, .inl (G 0, 4, .inl t_fines))] H → va_D A [(t_ta, .inr (5, [.ref t_ale, .int t_size, .int t_place, .ref t_ami, .int t_cows, .int t_bearer, .ref t_aki, .ref t_afi, .int t_tasters])), (t_ale, .inl (G 3, 40, .inl t_letters)), (t_aki, .inl (G 0, 4, .inl t_kinds)), (t_afi, .inl (G 0, 4, .inl t_fines))] → va_S A s.heap H locs → lv_has ls 2 [(0, .ref t_ta), (1, .int x1)] → W p l e (headSpec wsX5_readTasters ({ frames := 5, cells := 0, slots := 0, locals := 112 } : Room)).room s m ([.ref t_ta] : List Value).toArray below meth c H locs 0 0 (MQ below (va_Qi (fun r (u : Int32 × Int32 × (Nat → Int32) × (Nat → Int32)) => post r u.1 u.2.1 u.2.2.1 u.2.2.2) (fun u t => xE D G A [(t_ta, .inr (5, [.ref t_ale, .int t_size, .int u.1, .ref t_ami, .int t_cows, .int t_bearer, .ref t_aki, .ref t_afi, .int u.2.1])), (t_ale, .inl (G 3, 40, .inl t_letters)), (t_aki, .inl (G 0, 4, .inl (u.2.2.1))), (t_afi, .inl (G 0, 4, .inl (u.2.2.2)))] t) A) ([.ref t_ta] : List Value).toArray s 0 0 A) (F0 m 32 ls []) := by
        intro x1 t_place t_tasters t_kinds t_fines H locs ls hw hP hD hS hl
        unfold wp_X5_readTasters_J32 at hw
        refine lv_aload_n hx hb dX5_readTasters_32 rfl (lv_at hl 0 rfl) ?_
        refine x_cMi (wr := []) (va_runV (As := []) (rest := []) ⟨hx, hb, hml, hown, hts⟩ (c_X5_readTaster l D G _ t_ta t_ale t_ami t_aki t_afi kS vS t_size t_place t_cows t_bearer t_tasters t_letters t_kinds t_fines _ hw) (cwV 0 hts gX5_readTasters_X5_readTaster rfl rfl rfl (by decide +kernel) ⟨(Nat.le_of_ble_eq_true rfl), (Nat.le_of_ble_eq_true rfl)⟩) (xMT_pv (hP.sub [0, 1, 2, 3] rfl) hK (hD.sub [0, 1, 2, 3] (by decide) rfl) hT hS (va_free hD hS hA [0, 1, 2, 3] rfl) (va_recv hK hP (ci := 5) (q0 := 0) rfl rfl)) rfl rfl hl.1 rfl (lv_room (Nat.le_of_ble_eq_true rfl)) dX5_readTasters_33 ⟨Nat.zero_le _, Nat.zero_le _⟩) hP hD hS hA [0, 1, 2, 3] [] rfl rfl (by decide) (by decide) [0, 1, 2, 3] (fun u => [(t_ta, .inr (5, [.ref t_ale, .int t_size, .int u.1, .ref t_ami, .int t_cows, .int t_bearer, .ref t_aki, .ref t_afi, .int u.2.1])), (t_ale, .inl (G 3, 40, .inl t_letters)), (t_aki, .inl (G 0, 4, .inl (u.2.2.1))), (t_afi, .inl (G 0, 4, .inl (u.2.2.2)))]) (by decide) (fun u => rfl) (fun r2 u H locs hw hP hD hS => ?_)
        obtain ⟨t_place_2, t_tasters_2, t_kinds_2, t_fines_2⟩ := u
        try dsimp only at hw
        replace hP : va_P D vwCl [(t_ta, .inr (5, [.ref t_ale, .int t_size, .int t_place_2, .ref t_ami, .int t_cows, .int t_bearer, .ref t_aki, .ref t_afi, .int t_tasters_2])), (t_ale, .inl (G 3, 40, .inl t_letters)), (t_aki, .inl (G 0, 4, .inl t_kinds_2)), (t_afi, .inl (G 0, 4, .inl t_fines_2))] H := hP
        replace hD : va_D A [(t_ta, .inr (5, [.ref t_ale, .int t_size, .int t_place_2, .ref t_ami, .int t_cows, .int t_bearer, .ref t_aki, .ref t_afi, .int t_tasters_2])), (t_ale, .inl (G 3, 40, .inl t_letters)), (t_aki, .inl (G 0, 4, .inl t_kinds_2)), (t_afi, .inl (G 0, 4, .inl t_fines_2))] := hD
        refine lv_if_ne (tgt := 41) hx hb dX5_readTasters_36 (by decide) (fun c9 => ?_) (fun c9 => ?_)
        · replace hw := hw.1 c9
          refine lv_iinc (v := (x1 + 1)) (lv' := [(1, .int (x1 + 1)), (0, .ref t_ta)]) hx hb dX5_readTasters_41 hl (k := 1) rfl (by first | rfl | decide) (by decide) rfl (fun ls hl => ?_)
          refine lv_goto (tgt := 2) hx hb dX5_readTasters_44 (by decide) ?_
          exact ih2 (x1 + 1) t_place_2 t_tasters_2 t_kinds_2 t_fines_2 _ _ _ hw hP hD hS (lv_sub hl [1, 0] rfl)
        · replace hw := hw.2 c9
          refine lv_iconst (v := 0) hx hb dX5_readTasters_39 (by decide) ?_
          exact W.zret hx hb hr rfl (x_mi (u := (t_place_2, t_tasters_2, t_kinds_2, t_fines_2)) hP hK hD hS hw) hS.2.2 dX5_readTasters_40
      refine lv_iload_n hx hb dX5_readTasters_2 rfl (lv_at hl 1 rfl) ?_
      refine lv_iconst (v := 4) hx hb dX5_readTasters_3 (by decide) ?_
      refine lv_icmp_ge (tgt := 47) hx hb dX5_readTasters_4 (by decide) (fun c9 => ?_) (fun c9 => ?_)
      · replace hw := hw.1 c9
        refine lv_iconst (v := 1) hx hb dX5_readTasters_47 (by decide) ?_
        exact W.zret hx hb hr rfl (x_mi (u := (t_place, t_tasters, t_kinds, t_fines)) hP hK hD hS hw) hS.2.2 dX5_readTasters_48
      · replace hw := hw.2 c9
        refine lv_iload_n hx hb dX5_readTasters_7 rfl (lv_at hl 1 rfl) ?_
        refine lv_if_le (tgt := 32) hx hb dX5_readTasters_8 (by decide) (fun c9 => ?_) (fun c9 => ?_)
        · replace hw := hw.1 c9
          exact J32 x1 t_place t_tasters t_kinds t_fines _ _ _ hw hP hD hS (lv_sub hl [0, 1] rfl)
        · replace hw := hw.2 c9
          refine lv_aload_n hx hb dX5_readTasters_11 rfl (lv_at hl 0 rfl) ?_
          refine x_cMi (wr := [(t_aki, .inl (G 0, 4, .inl t_kinds)), (t_afi, .inl (G 0, 4, .inl t_fines))]) (va_runV (As := []) (rest := []) ⟨hx, hb, hml, hown, hts⟩ (c_X5_ahead l D G _ t_ta t_ale t_ami t_aki t_afi t_size t_place t_cows t_bearer t_tasters t_letters _ hw) (cwV 0 hts gX5_readTasters_X5_ahead rfl rfl rfl (by decide +kernel) ⟨(Nat.le_of_ble_eq_true rfl), (Nat.le_of_ble_eq_true rfl)⟩) (xM_pv (hP.sub [0, 1] rfl) hK (hD.sub [0, 1] (by decide) rfl) (va_recv hK hP (ci := 5) (q0 := 0) rfl rfl)) rfl rfl hl.1 rfl (lv_room (Nat.le_of_ble_eq_true rfl)) dX5_readTasters_12 ⟨Nat.zero_le _, Nat.zero_le _⟩) hP hD hS hA [0, 1] [2, 3] rfl rfl (by decide) (by decide) [2, 3, 0, 1] (fun u => [(t_ta, .inr (5, [.ref t_ale, .int t_size, .int u, .ref t_ami, .int t_cows, .int t_bearer, .ref t_aki, .ref t_afi, .int t_tasters])), (t_ale, .inl (G 3, 40, .inl t_letters)), (t_aki, .inl (G 0, 4, .inl t_kinds)), (t_afi, .inl (G 0, 4, .inl t_fines))]) (by decide) (fun u => rfl) (fun r1 u H locs hw hP hD hS => ?_)
          obtain ⟨t_place_1, rfl⟩ : ∃ z, z = u := ⟨_, rfl⟩
          try dsimp only at hw
          replace hP : va_P D vwCl [(t_ta, .inr (5, [.ref t_ale, .int t_size, .int t_place_1, .ref t_ami, .int t_cows, .int t_bearer, .ref t_aki, .ref t_afi, .int t_tasters])), (t_ale, .inl (G 3, 40, .inl t_letters)), (t_aki, .inl (G 0, 4, .inl t_kinds)), (t_afi, .inl (G 0, 4, .inl t_fines))] H := hP
          replace hD : va_D A [(t_ta, .inr (5, [.ref t_ale, .int t_size, .int t_place_1, .ref t_ami, .int t_cows, .int t_bearer, .ref t_aki, .ref t_afi, .int t_tasters])), (t_ale, .inl (G 3, 40, .inl t_letters)), (t_aki, .inl (G 0, 4, .inl t_kinds)), (t_afi, .inl (G 0, 4, .inl t_fines))] := hD
          refine lv_bipush (v := 44) hx hb dX5_readTasters_15 (by decide) ?_
          refine lv_icmp_eq (tgt := 22) hx hb dX5_readTasters_17 (by decide) (fun c9 => ?_) (fun c9 => ?_)
          · replace hw := hw.1 c9
            refine lv_aload_n hx hb dX5_readTasters_22 rfl (lv_at hl 0 rfl) ?_
            refine lv_dup hx hb dX5_readTasters_23 rfl ?_
            refine va_get (D := D) (ci := 5) (v := .int t_place_1) (C := RX5) (T := TX5) (N := 9) hx hb hts inX5 hown hK hP 0 rfl rfl 2 (by decide) fl19 (fun _ h9 => h9) rfl dX5_readTasters_24 ?_
            refine lv_iconst (v := 1) hx hb dX5_readTasters_27 (by decide) ?_
            refine lv_iadd hx hb dX5_readTasters_28 ?_
            refine va_put (D := D) (ci := 5) (v := .int (t_place_1 + (1 : Int32))) (ty := .int) (C := RX5) (T := TX5) (N := 9) hx hb hts inX5 tyX5 tyX5_ok nmX5 hown hK hP hD hS 0 rfl rfl 2 (by decide) fl19 (fun _ h9 => h9) rfl (by decide +kernel) rfl rfl (Nat.le_of_ble_eq_true rfl) dX5_readTasters_29 (fun H locs hP hD hS => ?_)
            replace hP : va_P D vwCl [(t_ta, .inr (5, [.ref t_ale, .int t_size, .int (t_place_1 + (1 : Int32)), .ref t_ami, .int t_cows, .int t_bearer, .ref t_aki, .ref t_afi, .int t_tasters])), (t_ale, .inl (G 3, 40, .inl t_letters)), (t_aki, .inl (G 0, 4, .inl t_kinds)), (t_afi, .inl (G 0, 4, .inl t_fines))] H := hP
            replace hD : va_D A [(t_ta, .inr (5, [.ref t_ale, .int t_size, .int (t_place_1 + (1 : Int32)), .ref t_ami, .int t_cows, .int t_bearer, .ref t_aki, .ref t_afi, .int t_tasters])), (t_ale, .inl (G 3, 40, .inl t_letters)), (t_aki, .inl (G 0, 4, .inl t_kinds)), (t_afi, .inl (G 0, 4, .inl t_fines))] := hD
            exact J32 x1 (t_place_1 + (1 : Int32)) t_tasters t_kinds t_fines _ _ _ hw hP hD hS (lv_sub hl [0, 1] rfl)
          · replace hw := hw.2 c9
            refine lv_iconst (v := 1) hx hb dX5_readTasters_20 (by decide) ?_
            exact W.zret hx hb hr rfl (x_mi (u := (t_place_1, t_tasters, t_kinds, t_fines)) hP hK hD hS hw) hS.2.2 dX5_readTasters_21
  refine lv_iconst (v := 0) hx hb dX5_readTasters_0 (by decide) ?_
  refine lv_istore_n (lv' := [(1, .int (0 : Int32)), (0, .ref t_ta)]) hx hb dX5_readTasters_1 rfl hl (by decide) rfl (fun ls hl => ?_)
  obtain ⟨n, hw⟩ := hw
  exact L2 n (0 : Int32) t_place t_tasters t_kinds t_fines _ _ _ hw hP hD hS (lv_sub hl [1, 0] rfl)
set_option maxHeartbeats 4000000 in
set_option maxRecDepth 100000 in
theorem c_X5_readHerd (l : Launch) (D : va_G) (G : Nat → ClassId) (sz : Nat) (t_ta : Nat) (t_ale : Nat) (t_ami : Nat) (t_aki : Nat) (t_afi : Nat) (kS : Nat) (vS : Nat) (t_size : Int32) (t_place : Int32) (t_cows : Int32) (t_bearer : Int32) (t_tasters : Int32) (t_letters : Nat → Int32) (t_milks : Nat → Int32) (t_kinds : Nat → Int32) (t_fines : Nat → Int32) (post : Int32 → Int32 → Int32 → Int32 → Int32 → (Nat → Int32) → (Nat → Int32) → (Nat → Int32) → Prop) (hw : wp_X5_readHerd t_size t_letters t_milks t_kinds t_fines post) : Met l yX5_readHerd wsX5_readHerd ({ frames := 6, cells := 0, slots := 0, locals := 133 } : Room) (va_Pc [.ref t_ta] (xMT D G kS vS sz [(t_ta, .inr (5, [.ref t_ale, .int t_size, .int t_place, .ref t_ami, .int t_cows, .int t_bearer, .ref t_aki, .ref t_afi, .int t_tasters])), (t_ale, .inl (G 3, 40, .inl t_letters)), (t_ami, .inl (G 0, 8, .inl t_milks)), (t_aki, .inl (G 0, 4, .inl t_kinds)), (t_afi, .inl (G 0, 4, .inl t_fines))])) (va_Qi (fun r (u : Int32 × Int32 × Int32 × Int32 × (Nat → Int32) × (Nat → Int32) × (Nat → Int32)) => post r u.1 u.2.1 u.2.2.1 u.2.2.2.1 u.2.2.2.2.1 u.2.2.2.2.2.1 u.2.2.2.2.2.2) (fun u t => xE D G (va_A [(t_ta, .inr (5, [.ref t_ale, .int t_size, .int t_place, .ref t_ami, .int t_cows, .int t_bearer, .ref t_aki, .ref t_afi, .int t_tasters])), (t_ale, .inl (G 3, 40, .inl t_letters)), (t_ami, .inl (G 0, 8, .inl t_milks)), (t_aki, .inl (G 0, 4, .inl t_kinds)), (t_afi, .inl (G 0, 4, .inl t_fines))] sz) [(t_ta, .inr (5, [.ref t_ale, .int t_size, .int u.1, .ref t_ami, .int u.2.1, .int u.2.2.1, .ref t_aki, .ref t_afi, .int u.2.2.2.1])), (t_ale, .inl (G 3, 40, .inl t_letters)), (t_ami, .inl (G 0, 8, .inl (u.2.2.2.2.1))), (t_aki, .inl (G 0, 4, .inl (u.2.2.2.2.2.1))), (t_afi, .inl (G 0, 4, .inl (u.2.2.2.2.2.2)))] t) (va_A [(t_ta, .inr (5, [.ref t_ale, .int t_size, .int t_place, .ref t_ami, .int t_cows, .int t_bearer, .ref t_aki, .ref t_afi, .int t_tasters])), (t_ale, .inl (G 3, 40, .inl t_letters)), (t_ami, .inl (G 0, 8, .inl t_milks)), (t_aki, .inl (G 0, 4, .inl t_kinds)), (t_afi, .inl (G 0, 4, .inl t_fines))] sz)) 0 0 (va_A [(t_ta, .inr (5, [.ref t_ale, .int t_size, .int t_place, .ref t_ami, .int t_cows, .int t_bearer, .ref t_aki, .ref t_afi, .int t_tasters])), (t_ale, .inl (G 3, 40, .inl t_letters)), (t_ami, .inl (G 0, 8, .inl t_milks)), (t_aki, .inl (G 0, 4, .inl t_kinds)), (t_afi, .inl (G 0, 4, .inl t_fines))] sz) := by
  refine Met.ofW (cc := cX5_readHerd) (maxL := 1) (ret := (some .boolean)) (by decide) rfl ?_
  intro p e s m args below meth c s₁ B hml hv
  obtain ⟨rfl, hsz, hP, hK, hD0, hT⟩ := hv
  have hx := B.exec
  have hb := B.bytes
  have hr := B.returns
  have hts := atoms_spec (ws := wsX5_readHerd) B.pre
  have hown : s.vm.findClass RX5 = some m.cls := findClass_of_methodNamed B.named
  have hlocks := B.notSynchronized
  subst hsz
  have hD := hD0.self (sz := s.heap.size)
  generalize hAe : va_A [(t_ta, .inr (5, [.ref t_ale, .int t_size, .int t_place, .ref t_ami, .int t_cows, .int t_bearer, .ref t_aki, .ref t_afi, .int t_tasters])), (t_ale, .inl (G 3, 40, .inl t_letters)), (t_ami, .inl (G 0, 8, .inl t_milks)), (t_aki, .inl (G 0, 4, .inl t_kinds)), (t_afi, .inl (G 0, 4, .inl t_fines))] s.heap.size = A at hD hT ⊢
  have hA : ∀ q : Nat, s.heap.size ≤ q → A q := fun q h => by rw [← hAe]; exact Or.inr h
  have hS : va_S A s.heap s.heap [] := va_S.rf
  have inX5 : ∀ w ∈ wsX50, w ∈ wsX5_readHerd := by decide +kernel
  have fl19 := hts (.fieldLink RX5 19 "NewsCow$Tape" "place" "I") (by decide +kernel)
  have fl26 := hts (.fieldLink RX5 26 "NewsCow$Tape" "cows" "I") (by decide +kernel)
  have fl29 := hts (.fieldLink RX5 29 "NewsCow$Tape" "bearer" "I") (by decide +kernel)
  have fl38 := hts (.fieldLink RX5 38 "NewsCow$Tape" "tasters" "I") (by decide +kernel)
  have hl := lv_entry ([.ref t_ta] : List Value) (n := 1) (Nat.le_of_ble_eq_true rfl)
  rw [lg_entry_eq]
  generalize (lg_sl ([.ref t_ta] : List Value) ++ List.replicate (1 - (lg_sl ([.ref t_ta] : List Value)).length) Slot.unset).toArray = ls at hl ⊢
  have hl : lv_has ls 1 [(0, .ref t_ta)] := hl
  unfold wp_X5_readHerd at hw
  have J62 : ∀ (t_place : Int32) (t_cows : Int32) (t_bearer : Int32) (t_tasters : Int32) (t_milks : Nat → Int32) (t_kinds : Nat → Int32) (t_fines : Nat → Int32) (H : Heap) (locs : List Loc) (ls : Array Slot), wp_X5_readHerd_J62 t_size t_place t_cows t_bearer t_tasters t_letters t_milks t_kinds t_fines post → va_P D vwCl [(t_ta, .inr (5, [.ref t_ale, .int t_size, .int t_place, .ref t_ami, .int t_cows, .int t_bearer, .ref t_aki, .ref t_afi, .int t_tasters])), (t_ale, .inl (G 3, 40, .inl t_letters)), (t_ami, .inl (G 0, 8, .inl t_milks)), (t_aki, .inl (G 0, 4, .inl t_kinds)), (t_afi, .inl (G 0, 4, .inl t_fines))] H → va_D A [(t_ta, .inr (5, [.ref t_ale, .int t_size, .int t_place, .ref t_ami, .int t_cows, .int t_bearer, .ref t_aki, .ref t_afi, .int t_tasters])), (t_ale, .inl (G 3, 40, .inl t_letters)), (t_ami, .inl (G 0, 8, .inl t_milks)), (t_aki, .inl (G 0, 4, .inl t_kinds)), (t_afi, .inl (G 0, 4, .inl t_fines))] → va_S A s.heap H locs → lv_has ls 1 [(0, .ref t_ta)] → W p l e (headSpec wsX5_readHerd ({ frames := 6, cells := 0, slots := 0, locals := 133 } : Room)).room s m ([.ref t_ta] : List Value).toArray below meth c H locs 0 0 (MQ below (va_Qi (fun r (u : Int32 × Int32 × Int32 × Int32 × (Nat → Int32) × (Nat → Int32) × (Nat → Int32)) => post r u.1 u.2.1 u.2.2.1 u.2.2.2.1 u.2.2.2.2.1 u.2.2.2.2.2.1 u.2.2.2.2.2.2) (fun u t => xE D G A [(t_ta, .inr (5, [.ref t_ale, .int t_size, .int u.1, .ref t_ami, .int u.2.1, .int u.2.2.1, .ref t_aki, .ref t_afi, .int u.2.2.2.1])), (t_ale, .inl (G 3, 40, .inl t_letters)), (t_ami, .inl (G 0, 8, .inl (u.2.2.2.2.1))), (t_aki, .inl (G 0, 4, .inl (u.2.2.2.2.2.1))), (t_afi, .inl (G 0, 4, .inl (u.2.2.2.2.2.2)))] t) A) ([.ref t_ta] : List Value).toArray s 0 0 A) (F0 m 62 ls []) := by
    intro t_place t_cows t_bearer t_tasters t_milks t_kinds t_fines H locs ls hw hP hD hS hl
    unfold wp_X5_readHerd_J62 at hw
    refine lv_aload_n hx hb dX5_readHerd_62 rfl (lv_at hl 0 rfl) ?_
    refine x_cMi (wr := [(t_ami, .inl (G 0, 8, .inl t_milks)), (t_aki, .inl (G 0, 4, .inl t_kinds)), (t_afi, .inl (G 0, 4, .inl t_fines))]) (va_runV (As := []) (rest := []) ⟨hx, hb, hml, hown, hts⟩ (c_X5_ahead l D G _ t_ta t_ale t_ami t_aki t_afi t_size t_place t_cows t_bearer t_tasters t_letters _ hw) (cwV 0 hts gX5_readHerd_X5_ahead rfl rfl rfl (by decide +kernel) ⟨(Nat.le_of_ble_eq_true rfl), (Nat.le_of_ble_eq_true rfl)⟩) (xM_pv (hP.sub [0, 1] rfl) hK (hD.sub [0, 1] (by decide) rfl) (va_recv hK hP (ci := 5) (q0 := 0) rfl rfl)) rfl rfl hl.1 rfl (lv_room (Nat.le_of_ble_eq_true rfl)) dX5_readHerd_63 ⟨Nat.zero_le _, Nat.zero_le _⟩) hP hD hS hA [0, 1] [2, 3, 4] rfl rfl (by decide) (by decide) [3, 4, 0, 1, 2] (fun u => [(t_ta, .inr (5, [.ref t_ale, .int t_size, .int u, .ref t_ami, .int t_cows, .int t_bearer, .ref t_aki, .ref t_afi, .int t_tasters])), (t_ale, .inl (G 3, 40, .inl t_letters)), (t_ami, .inl (G 0, 8, .inl t_milks)), (t_aki, .inl (G 0, 4, .inl t_kinds)), (t_afi, .inl (G 0, 4, .inl t_fines))]) (by decide) (fun u => rfl) (fun r4 u H locs hw hP hD hS => ?_)
    obtain ⟨t_place_4, rfl⟩ : ∃ z, z = u := ⟨_, rfl⟩
    try dsimp only at hw
    replace hP : va_P D vwCl [(t_ta, .inr (5, [.ref t_ale, .int t_size, .int t_place_4, .ref t_ami, .int t_cows, .int t_bearer, .ref t_aki, .ref t_afi, .int t_tasters])), (t_ale, .inl (G 3, 40, .inl t_letters)), (t_ami, .inl (G 0, 8, .inl t_milks)), (t_aki, .inl (G 0, 4, .inl t_kinds)), (t_afi, .inl (G 0, 4, .inl t_fines))] H := hP
    replace hD : va_D A [(t_ta, .inr (5, [.ref t_ale, .int t_size, .int t_place_4, .ref t_ami, .int t_cows, .int t_bearer, .ref t_aki, .ref t_afi, .int t_tasters])), (t_ale, .inl (G 3, 40, .inl t_letters)), (t_ami, .inl (G 0, 8, .inl t_milks)), (t_aki, .inl (G 0, 4, .inl t_kinds)), (t_afi, .inl (G 0, 4, .inl t_fines))] := hD
    refine lv_if_ne (tgt := 73) hx hb dX5_readHerd_66 (by decide) (fun c9 => ?_) (fun c9 => ?_)
    · replace hw := hw.1 c9
      refine lv_iconst (v := 0) hx hb dX5_readHerd_73 (by decide) ?_
      exact W.zret hx hb hr rfl (x_mi (u := (t_place_4, t_cows, t_bearer, t_tasters, t_milks, t_kinds, t_fines)) hP hK hD hS hw) hS.2.2 dX5_readHerd_74
    · replace hw := hw.2 c9
      refine lv_iconst (v := 1) hx hb dX5_readHerd_69 (by decide) ?_
      refine lv_goto (tgt := 74) hx hb dX5_readHerd_70 (by decide) ?_
      exact W.zret hx hb hr rfl (x_mi (u := (t_place_4, t_cows, t_bearer, t_tasters, t_milks, t_kinds, t_fines)) hP hK hD hS hw) hS.2.2 dX5_readHerd_74
  refine lv_aload_n hx hb dX5_readHerd_0 rfl (lv_at hl 0 rfl) ?_
  refine lv_iconst (v := 0) hx hb dX5_readHerd_1 (by decide) ?_
  refine va_put (D := D) (ci := 5) (v := .int (0 : Int32)) (ty := .int) (C := RX5) (T := TX5) (N := 9) hx hb hts inX5 tyX5 tyX5_ok nmX5 hown hK hP hD hS 0 rfl rfl 2 (by decide) fl19 (fun _ h9 => h9) rfl (by decide +kernel) rfl rfl (Nat.le_of_ble_eq_true rfl) dX5_readHerd_2 (fun H locs hP hD hS => ?_)
  replace hP : va_P D vwCl [(t_ta, .inr (5, [.ref t_ale, .int t_size, .int (0 : Int32), .ref t_ami, .int t_cows, .int t_bearer, .ref t_aki, .ref t_afi, .int t_tasters])), (t_ale, .inl (G 3, 40, .inl t_letters)), (t_ami, .inl (G 0, 8, .inl t_milks)), (t_aki, .inl (G 0, 4, .inl t_kinds)), (t_afi, .inl (G 0, 4, .inl t_fines))] H := hP
  replace hD : va_D A [(t_ta, .inr (5, [.ref t_ale, .int t_size, .int (0 : Int32), .ref t_ami, .int t_cows, .int t_bearer, .ref t_aki, .ref t_afi, .int t_tasters])), (t_ale, .inl (G 3, 40, .inl t_letters)), (t_ami, .inl (G 0, 8, .inl t_milks)), (t_aki, .inl (G 0, 4, .inl t_kinds)), (t_afi, .inl (G 0, 4, .inl t_fines))] := hD
  refine lv_aload_n hx hb dX5_readHerd_5 rfl (lv_at hl 0 rfl) ?_
  refine lv_iconst (v := 0) hx hb dX5_readHerd_6 (by decide) ?_
  refine va_put (D := D) (ci := 5) (v := .int (0 : Int32)) (ty := .int) (C := RX5) (T := TX5) (N := 9) hx hb hts inX5 tyX5 tyX5_ok nmX5 hown hK hP hD hS 0 rfl rfl 4 (by decide) fl26 (fun _ h9 => h9) rfl (by decide +kernel) rfl rfl (Nat.le_of_ble_eq_true rfl) dX5_readHerd_7 (fun H locs hP hD hS => ?_)
  replace hP : va_P D vwCl [(t_ta, .inr (5, [.ref t_ale, .int t_size, .int (0 : Int32), .ref t_ami, .int (0 : Int32), .int t_bearer, .ref t_aki, .ref t_afi, .int t_tasters])), (t_ale, .inl (G 3, 40, .inl t_letters)), (t_ami, .inl (G 0, 8, .inl t_milks)), (t_aki, .inl (G 0, 4, .inl t_kinds)), (t_afi, .inl (G 0, 4, .inl t_fines))] H := hP
  replace hD : va_D A [(t_ta, .inr (5, [.ref t_ale, .int t_size, .int (0 : Int32), .ref t_ami, .int (0 : Int32), .int t_bearer, .ref t_aki, .ref t_afi, .int t_tasters])), (t_ale, .inl (G 3, 40, .inl t_letters)), (t_ami, .inl (G 0, 8, .inl t_milks)), (t_aki, .inl (G 0, 4, .inl t_kinds)), (t_afi, .inl (G 0, 4, .inl t_fines))] := hD
  refine lv_aload_n hx hb dX5_readHerd_10 rfl (lv_at hl 0 rfl) ?_
  refine lv_bipush (v := -4) hx hb dX5_readHerd_11 (by decide) ?_
  refine va_put (D := D) (ci := 5) (v := .int (-4 : Int32)) (ty := .int) (C := RX5) (T := TX5) (N := 9) hx hb hts inX5 tyX5 tyX5_ok nmX5 hown hK hP hD hS 0 rfl rfl 5 (by decide) fl29 (fun _ h9 => h9) rfl (by decide +kernel) rfl rfl (Nat.le_of_ble_eq_true rfl) dX5_readHerd_13 (fun H locs hP hD hS => ?_)
  replace hP : va_P D vwCl [(t_ta, .inr (5, [.ref t_ale, .int t_size, .int (0 : Int32), .ref t_ami, .int (0 : Int32), .int (-4 : Int32), .ref t_aki, .ref t_afi, .int t_tasters])), (t_ale, .inl (G 3, 40, .inl t_letters)), (t_ami, .inl (G 0, 8, .inl t_milks)), (t_aki, .inl (G 0, 4, .inl t_kinds)), (t_afi, .inl (G 0, 4, .inl t_fines))] H := hP
  replace hD : va_D A [(t_ta, .inr (5, [.ref t_ale, .int t_size, .int (0 : Int32), .ref t_ami, .int (0 : Int32), .int (-4 : Int32), .ref t_aki, .ref t_afi, .int t_tasters])), (t_ale, .inl (G 3, 40, .inl t_letters)), (t_ami, .inl (G 0, 8, .inl t_milks)), (t_aki, .inl (G 0, 4, .inl t_kinds)), (t_afi, .inl (G 0, 4, .inl t_fines))] := hD
  refine lv_aload_n hx hb dX5_readHerd_16 rfl (lv_at hl 0 rfl) ?_
  refine lv_iconst (v := 0) hx hb dX5_readHerd_17 (by decide) ?_
  refine va_put (D := D) (ci := 5) (v := .int (0 : Int32)) (ty := .int) (C := RX5) (T := TX5) (N := 9) hx hb hts inX5 tyX5 tyX5_ok nmX5 hown hK hP hD hS 0 rfl rfl 8 (by decide) fl38 (fun _ h9 => h9) rfl (by decide +kernel) rfl rfl (Nat.le_of_ble_eq_true rfl) dX5_readHerd_18 (fun H locs hP hD hS => ?_)
  replace hP : va_P D vwCl [(t_ta, .inr (5, [.ref t_ale, .int t_size, .int (0 : Int32), .ref t_ami, .int (0 : Int32), .int (-4 : Int32), .ref t_aki, .ref t_afi, .int (0 : Int32)])), (t_ale, .inl (G 3, 40, .inl t_letters)), (t_ami, .inl (G 0, 8, .inl t_milks)), (t_aki, .inl (G 0, 4, .inl t_kinds)), (t_afi, .inl (G 0, 4, .inl t_fines))] H := hP
  replace hD : va_D A [(t_ta, .inr (5, [.ref t_ale, .int t_size, .int (0 : Int32), .ref t_ami, .int (0 : Int32), .int (-4 : Int32), .ref t_aki, .ref t_afi, .int (0 : Int32)])), (t_ale, .inl (G 3, 40, .inl t_letters)), (t_ami, .inl (G 0, 8, .inl t_milks)), (t_aki, .inl (G 0, 4, .inl t_kinds)), (t_afi, .inl (G 0, 4, .inl t_fines))] := hD
  refine lv_aload_n hx hb dX5_readHerd_21 rfl (lv_at hl 0 rfl) ?_
  refine x_cMv (wr := [(t_aki, .inl (G 0, 4, .inl t_kinds)), (t_afi, .inl (G 0, 4, .inl t_fines))]) (va_runV (As := []) (rest := []) ⟨hx, hb, hml, hown, hts⟩ (c_X5_readCows l D G _ t_ta t_ale t_ami t_aki t_afi t_size (0 : Int32) (0 : Int32) (-4 : Int32) (0 : Int32) t_letters t_milks _ hw) (cwV 0 hts gX5_readHerd_X5_readCows rfl rfl rfl (by decide +kernel) ⟨(Nat.le_of_ble_eq_true rfl), (Nat.le_of_ble_eq_true rfl)⟩) (xM_pv (hP.sub [0, 1, 2] rfl) hK (hD.sub [0, 1, 2] (by decide) rfl) (va_recv hK hP (ci := 5) (q0 := 0) rfl rfl)) rfl rfl hl.1 rfl (lv_room (Nat.le_of_ble_eq_true rfl)) dX5_readHerd_22 ⟨Nat.zero_le _, Nat.zero_le _⟩) hP hD hS hA [0, 1, 2] [3, 4] rfl rfl (by decide) (by decide) [2, 3, 4, 0, 1] (fun u => [(t_ta, .inr (5, [.ref t_ale, .int t_size, .int u.1, .ref t_ami, .int u.2.1, .int u.2.2.1, .ref t_aki, .ref t_afi, .int (0 : Int32)])), (t_ale, .inl (G 3, 40, .inl t_letters)), (t_ami, .inl (G 0, 8, .inl (u.2.2.2))), (t_aki, .inl (G 0, 4, .inl t_kinds)), (t_afi, .inl (G 0, 4, .inl t_fines))]) (by decide) (fun u => rfl) (fun u H locs hw hP hD hS => ?_)
  obtain ⟨t_place_1, t_cows_1, t_bearer_1, t_milks_1⟩ := u
  try dsimp only at hw
  replace hP : va_P D vwCl [(t_ta, .inr (5, [.ref t_ale, .int t_size, .int t_place_1, .ref t_ami, .int t_cows_1, .int t_bearer_1, .ref t_aki, .ref t_afi, .int (0 : Int32)])), (t_ale, .inl (G 3, 40, .inl t_letters)), (t_ami, .inl (G 0, 8, .inl t_milks_1)), (t_aki, .inl (G 0, 4, .inl t_kinds)), (t_afi, .inl (G 0, 4, .inl t_fines))] H := hP
  replace hD : va_D A [(t_ta, .inr (5, [.ref t_ale, .int t_size, .int t_place_1, .ref t_ami, .int t_cows_1, .int t_bearer_1, .ref t_aki, .ref t_afi, .int (0 : Int32)])), (t_ale, .inl (G 3, 40, .inl t_letters)), (t_ami, .inl (G 0, 8, .inl t_milks_1)), (t_aki, .inl (G 0, 4, .inl t_kinds)), (t_afi, .inl (G 0, 4, .inl t_fines))] := hD
  refine lv_aload_n hx hb dX5_readHerd_25 rfl (lv_at hl 0 rfl) ?_
  refine va_get (D := D) (ci := 5) (v := .int t_cows_1) (C := RX5) (T := TX5) (N := 9) hx hb hts inX5 hown hK hP 0 rfl rfl 4 (by decide) fl26 (fun _ h9 => h9) rfl dX5_readHerd_26 ?_
  refine lv_if_ne (tgt := 34) hx hb dX5_readHerd_29 (by decide) (fun c9 => ?_) (fun c9 => ?_)
  · replace hw := hw.1 c9
    refine lv_aload_n hx hb dX5_readHerd_34 rfl (lv_at hl 0 rfl) ?_
    refine x_cMi (wr := [(t_ami, .inl (G 0, 8, .inl t_milks_1)), (t_aki, .inl (G 0, 4, .inl t_kinds)), (t_afi, .inl (G 0, 4, .inl t_fines))]) (va_runV (As := []) (rest := []) ⟨hx, hb, hml, hown, hts⟩ (c_X5_ahead l D G _ t_ta t_ale t_ami t_aki t_afi t_size t_place_1 t_cows_1 t_bearer_1 (0 : Int32) t_letters _ hw) (cwV 0 hts gX5_readHerd_X5_ahead rfl rfl rfl (by decide +kernel) ⟨(Nat.le_of_ble_eq_true rfl), (Nat.le_of_ble_eq_true rfl)⟩) (xM_pv (hP.sub [0, 1] rfl) hK (hD.sub [0, 1] (by decide) rfl) (va_recv hK hP (ci := 5) (q0 := 0) rfl rfl)) rfl rfl hl.1 rfl (lv_room (Nat.le_of_ble_eq_true rfl)) dX5_readHerd_35 ⟨Nat.zero_le _, Nat.zero_le _⟩) hP hD hS hA [0, 1] [2, 3, 4] rfl rfl (by decide) (by decide) [3, 4, 0, 1, 2] (fun u => [(t_ta, .inr (5, [.ref t_ale, .int t_size, .int u, .ref t_ami, .int t_cows_1, .int t_bearer_1, .ref t_aki, .ref t_afi, .int (0 : Int32)])), (t_ale, .inl (G 3, 40, .inl t_letters)), (t_ami, .inl (G 0, 8, .inl t_milks_1)), (t_aki, .inl (G 0, 4, .inl t_kinds)), (t_afi, .inl (G 0, 4, .inl t_fines))]) (by decide) (fun u => rfl) (fun r2 u H locs hw hP hD hS => ?_)
    obtain ⟨t_place_2, rfl⟩ : ∃ z, z = u := ⟨_, rfl⟩
    try dsimp only at hw
    replace hP : va_P D vwCl [(t_ta, .inr (5, [.ref t_ale, .int t_size, .int t_place_2, .ref t_ami, .int t_cows_1, .int t_bearer_1, .ref t_aki, .ref t_afi, .int (0 : Int32)])), (t_ale, .inl (G 3, 40, .inl t_letters)), (t_ami, .inl (G 0, 8, .inl t_milks_1)), (t_aki, .inl (G 0, 4, .inl t_kinds)), (t_afi, .inl (G 0, 4, .inl t_fines))] H := hP
    replace hD : va_D A [(t_ta, .inr (5, [.ref t_ale, .int t_size, .int t_place_2, .ref t_ami, .int t_cows_1, .int t_bearer_1, .ref t_aki, .ref t_afi, .int (0 : Int32)])), (t_ale, .inl (G 3, 40, .inl t_letters)), (t_ami, .inl (G 0, 8, .inl t_milks_1)), (t_aki, .inl (G 0, 4, .inl t_kinds)), (t_afi, .inl (G 0, 4, .inl t_fines))] := hD
    refine lv_bipush (v := 59) hx hb dX5_readHerd_38 (by decide) ?_
    refine lv_icmp_ne (tgt := 62) hx hb dX5_readHerd_40 (by decide) (fun c9 => ?_) (fun c9 => ?_)
    · replace hw := hw.1 c9
      exact J62 t_place_2 t_cows_1 t_bearer_1 (0 : Int32) t_milks_1 t_kinds t_fines _ _ _ hw hP hD hS (lv_sub hl [0] rfl)
    · replace hw := hw.2 c9
      refine lv_aload_n hx hb dX5_readHerd_43 rfl (lv_at hl 0 rfl) ?_
      refine lv_dup hx hb dX5_readHerd_44 rfl ?_
      refine va_get (D := D) (ci := 5) (v := .int t_place_2) (C := RX5) (T := TX5) (N := 9) hx hb hts inX5 hown hK hP 0 rfl rfl 2 (by decide) fl19 (fun _ h9 => h9) rfl dX5_readHerd_45 ?_
      refine lv_iconst (v := 1) hx hb dX5_readHerd_48 (by decide) ?_
      refine lv_iadd hx hb dX5_readHerd_49 ?_
      refine va_put (D := D) (ci := 5) (v := .int (t_place_2 + (1 : Int32))) (ty := .int) (C := RX5) (T := TX5) (N := 9) hx hb hts inX5 tyX5 tyX5_ok nmX5 hown hK hP hD hS 0 rfl rfl 2 (by decide) fl19 (fun _ h9 => h9) rfl (by decide +kernel) rfl rfl (Nat.le_of_ble_eq_true rfl) dX5_readHerd_50 (fun H locs hP hD hS => ?_)
      replace hP : va_P D vwCl [(t_ta, .inr (5, [.ref t_ale, .int t_size, .int (t_place_2 + (1 : Int32)), .ref t_ami, .int t_cows_1, .int t_bearer_1, .ref t_aki, .ref t_afi, .int (0 : Int32)])), (t_ale, .inl (G 3, 40, .inl t_letters)), (t_ami, .inl (G 0, 8, .inl t_milks_1)), (t_aki, .inl (G 0, 4, .inl t_kinds)), (t_afi, .inl (G 0, 4, .inl t_fines))] H := hP
      replace hD : va_D A [(t_ta, .inr (5, [.ref t_ale, .int t_size, .int (t_place_2 + (1 : Int32)), .ref t_ami, .int t_cows_1, .int t_bearer_1, .ref t_aki, .ref t_afi, .int (0 : Int32)])), (t_ale, .inl (G 3, 40, .inl t_letters)), (t_ami, .inl (G 0, 8, .inl t_milks_1)), (t_aki, .inl (G 0, 4, .inl t_kinds)), (t_afi, .inl (G 0, 4, .inl t_fines))] := hD
      refine lv_aload_n hx hb dX5_readHerd_53 rfl (lv_at hl 0 rfl) ?_
      refine x_cMi (wr := [(t_ami, .inl (G 0, 8, .inl t_milks_1))]) (va_runV (As := []) (rest := []) ⟨hx, hb, hml, hown, hts⟩ (c_X5_readTasters l D G _ t_ta t_ale t_ami t_aki t_afi kS vS t_size (t_place_2 + (1 : Int32)) t_cows_1 t_bearer_1 (0 : Int32) t_letters t_kinds t_fines _ hw) (cwV 0 hts gX5_readHerd_X5_readTasters rfl rfl rfl (by decide +kernel) ⟨(Nat.le_of_ble_eq_true rfl), (Nat.le_of_ble_eq_true rfl)⟩) (xMT_pv (hP.sub [0, 1, 3, 4] rfl) hK (hD.sub [0, 1, 3, 4] (by decide) rfl) hT hS (va_free hD hS hA [0, 1, 3, 4] rfl) (va_recv hK hP (ci := 5) (q0 := 0) rfl rfl)) rfl rfl hl.1 rfl (lv_room (Nat.le_of_ble_eq_true rfl)) dX5_readHerd_54 ⟨Nat.zero_le _, Nat.zero_le _⟩) hP hD hS hA [0, 1, 3, 4] [2] rfl rfl (by decide) (by decide) [1, 2, 0, 3, 4] (fun u => [(t_ta, .inr (5, [.ref t_ale, .int t_size, .int u.1, .ref t_ami, .int t_cows_1, .int t_bearer_1, .ref t_aki, .ref t_afi, .int u.2.1])), (t_ale, .inl (G 3, 40, .inl t_letters)), (t_ami, .inl (G 0, 8, .inl t_milks_1)), (t_aki, .inl (G 0, 4, .inl (u.2.2.1))), (t_afi, .inl (G 0, 4, .inl (u.2.2.2)))]) (by decide) (fun u => rfl) (fun r3 u H locs hw hP hD hS => ?_)
      obtain ⟨t_place_3, t_tasters_3, t_kinds_3, t_fines_3⟩ := u
      try dsimp only at hw
      replace hP : va_P D vwCl [(t_ta, .inr (5, [.ref t_ale, .int t_size, .int t_place_3, .ref t_ami, .int t_cows_1, .int t_bearer_1, .ref t_aki, .ref t_afi, .int t_tasters_3])), (t_ale, .inl (G 3, 40, .inl t_letters)), (t_ami, .inl (G 0, 8, .inl t_milks_1)), (t_aki, .inl (G 0, 4, .inl t_kinds_3)), (t_afi, .inl (G 0, 4, .inl t_fines_3))] H := hP
      replace hD : va_D A [(t_ta, .inr (5, [.ref t_ale, .int t_size, .int t_place_3, .ref t_ami, .int t_cows_1, .int t_bearer_1, .ref t_aki, .ref t_afi, .int t_tasters_3])), (t_ale, .inl (G 3, 40, .inl t_letters)), (t_ami, .inl (G 0, 8, .inl t_milks_1)), (t_aki, .inl (G 0, 4, .inl t_kinds_3)), (t_afi, .inl (G 0, 4, .inl t_fines_3))] := hD
      refine lv_if_ne (tgt := 62) hx hb dX5_readHerd_57 (by decide) (fun c9 => ?_) (fun c9 => ?_)
      · replace hw := hw.1 c9
        exact J62 t_place_3 t_cows_1 t_bearer_1 t_tasters_3 t_milks_1 t_kinds_3 t_fines_3 _ _ _ hw hP hD hS (lv_sub hl [0] rfl)
      · replace hw := hw.2 c9
        refine lv_iconst (v := 0) hx hb dX5_readHerd_60 (by decide) ?_
        exact W.zret hx hb hr rfl (x_mi (u := (t_place_3, t_cows_1, t_bearer_1, t_tasters_3, t_milks_1, t_kinds_3, t_fines_3)) hP hK hD hS hw) hS.2.2 dX5_readHerd_61
  · replace hw := hw.2 c9
    refine lv_iconst (v := 0) hx hb dX5_readHerd_32 (by decide) ?_
    exact W.zret hx hb hr rfl (x_mi (u := (t_place_1, t_cows_1, t_bearer_1, (0 : Int32), t_milks_1, t_kinds, t_fines)) hP hK hD hS hw) hS.2.2 dX5_readHerd_33
set_option maxHeartbeats 4000000 in
set_option maxRecDepth 100000 in
theorem c_X6_insert (l : Launch) (D : va_G) (G : Nat → ClassId) (sz : Nat) (r_tr : Nat) (r_aor : Nat) (da : Nat) (ami : Nat) (aki : Nat) (afi : Nat) (anw : Nat) (apa : Nat) (r_size : Int32) (r_order : Nat → Int32) (cows : Int32) (tasters : Int32) (newest : Int32) (known : Int32) (milks : Nat → Int32) (x2 : Int32) (post : Int32 → (Nat → Int32) → Prop) (hw : wp_X6_insert r_size r_order milks x2 post) : Met l yX6_insert wsX6_insert ({ frames := 0, cells := 0, slots := 0, locals := 0 } : Room) (va_Pc [.ref r_tr, .ref da, .int x2] (xM D G sz [(r_tr, .inr (6, [.ref r_aor, .int r_size])), (r_aor, .inl (G 0, 8, .inl r_order)), (da, .inr (0, [.ref ami, .int cows, .ref aki, .ref afi, .int tasters, .ref anw, .ref apa, .int newest, .int known])), (ami, .inl (G 0, 8, .inl milks))])) (va_Qv (fun (u : Int32 × (Nat → Int32)) => post u.1 u.2) (fun u t => xE D G (va_A [(r_tr, .inr (6, [.ref r_aor, .int r_size])), (r_aor, .inl (G 0, 8, .inl r_order)), (da, .inr (0, [.ref ami, .int cows, .ref aki, .ref afi, .int tasters, .ref anw, .ref apa, .int newest, .int known])), (ami, .inl (G 0, 8, .inl milks))] sz) [(r_tr, .inr (6, [.ref r_aor, .int u.1])), (r_aor, .inl (G 0, 8, .inl (u.2))), (da, .inr (0, [.ref ami, .int cows, .ref aki, .ref afi, .int tasters, .ref anw, .ref apa, .int newest, .int known])), (ami, .inl (G 0, 8, .inl milks))] t) (va_A [(r_tr, .inr (6, [.ref r_aor, .int r_size])), (r_aor, .inl (G 0, 8, .inl r_order)), (da, .inr (0, [.ref ami, .int cows, .ref aki, .ref afi, .int tasters, .ref anw, .ref apa, .int newest, .int known])), (ami, .inl (G 0, 8, .inl milks))] sz)) 0 0 (va_A [(r_tr, .inr (6, [.ref r_aor, .int r_size])), (r_aor, .inl (G 0, 8, .inl r_order)), (da, .inr (0, [.ref ami, .int cows, .ref aki, .ref afi, .int tasters, .ref anw, .ref apa, .int newest, .int known])), (ami, .inl (G 0, 8, .inl milks))] sz) := by
  refine Met.ofW (cc := cX6_insert) (maxL := 4) (ret := none) (by decide) rfl ?_
  intro p e s m args below meth c s₁ B hml hv
  obtain ⟨rfl, hsz, hP, hK, hD0⟩ := hv
  have hx := B.exec
  have hb := B.bytes
  have hr := B.returns
  have hts := atoms_spec (ws := wsX6_insert) B.pre
  have hown : s.vm.findClass RX6 = some m.cls := findClass_of_methodNamed B.named
  have hlocks := B.notSynchronized
  subst hsz
  have hD := hD0.self (sz := s.heap.size)
  generalize hAe : va_A [(r_tr, .inr (6, [.ref r_aor, .int r_size])), (r_aor, .inl (G 0, 8, .inl r_order)), (da, .inr (0, [.ref ami, .int cows, .ref aki, .ref afi, .int tasters, .ref anw, .ref apa, .int newest, .int known])), (ami, .inl (G 0, 8, .inl milks))] s.heap.size = A at hD ⊢
  have hA : ∀ q : Nat, s.heap.size ≤ q → A q := fun q h => by rw [← hAe]; exact Or.inr h
  have hS : va_S A s.heap s.heap [] := va_S.rf
  have inX0 : ∀ w ∈ wsX00, w ∈ wsX6_insert := by decide +kernel
  have inX6 : ∀ w ∈ wsX60, w ∈ wsX6_insert := by decide +kernel
  have fl15 := hts (.fieldLink RX6 15 "NewsCow$Trials" "size" "I") (by decide +kernel)
  have fl40 := hts (.fieldLink RX6 40 "NewsCow$Dairy" "milks" "[I") (by decide +kernel)
  have fl9 := hts (.fieldLink RX6 9 "NewsCow$Trials" "order" "[I") (by decide +kernel)
  have hl := lv_entry ([.ref r_tr, .ref da, .int x2] : List Value) (n := 4) (Nat.le_of_ble_eq_true rfl)
  rw [lg_entry_eq]
  generalize (lg_sl ([.ref r_tr, .ref da, .int x2] : List Value) ++ List.replicate (4 - (lg_sl ([.ref r_tr, .ref da, .int x2] : List Value)).length) Slot.unset).toArray = ls at hl ⊢
  have hl : lv_has ls 4 [(0, .ref r_tr), (1, .ref da), (2, .int x2)] := hl
  unfold wp_X6_insert at hw
  have J51 : ∀ (x3 : Int32) (r_order : Nat → Int32) (H : Heap) (locs : List Loc) (ls : Array Slot), wp_X6_insert_J51 r_size r_order x2 x3 post → va_P D vwCl [(r_tr, .inr (6, [.ref r_aor, .int r_size])), (r_aor, .inl (G 0, 8, .inl r_order)), (da, .inr (0, [.ref ami, .int cows, .ref aki, .ref afi, .int tasters, .ref anw, .ref apa, .int newest, .int known])), (ami, .inl (G 0, 8, .inl milks))] H → va_D A [(r_tr, .inr (6, [.ref r_aor, .int r_size])), (r_aor, .inl (G 0, 8, .inl r_order)), (da, .inr (0, [.ref ami, .int cows, .ref aki, .ref afi, .int tasters, .ref anw, .ref apa, .int newest, .int known])), (ami, .inl (G 0, 8, .inl milks))] → va_S A s.heap H locs → lv_has ls 4 [(0, .ref r_tr), (2, .int x2), (3, .int x3)] → W p l e (headSpec wsX6_insert ({ frames := 0, cells := 0, slots := 0, locals := 0 } : Room)).room s m ([.ref r_tr, .ref da, .int x2] : List Value).toArray below meth c H locs 0 0 (MQ below (va_Qv (fun (u : Int32 × (Nat → Int32)) => post u.1 u.2) (fun u t => xE D G A [(r_tr, .inr (6, [.ref r_aor, .int u.1])), (r_aor, .inl (G 0, 8, .inl (u.2))), (da, .inr (0, [.ref ami, .int cows, .ref aki, .ref afi, .int tasters, .ref anw, .ref apa, .int newest, .int known])), (ami, .inl (G 0, 8, .inl milks))] t) A) ([.ref r_tr, .ref da, .int x2] : List Value).toArray s 0 0 A) (F0 m 51 ls []) := by
    intro x3 r_order H locs ls hw hP hD hS hl
    unfold wp_X6_insert_J51 at hw
    refine lv_aload_n hx hb dX6_insert_51 rfl (lv_at hl 0 rfl) ?_
    refine va_get (D := D) (ci := 6) (v := .ref r_aor) (C := RX6) (T := TX6) (N := 2) hx hb hts inX6 hown hK hP 0 rfl rfl 0 (by decide) fl9 (fun _ h9 => h9) rfl dX6_insert_52 ?_
    refine lv_iload_n hx hb dX6_insert_55 rfl (lv_at hl 2 rfl) ?_
    refine lv_iload_n hx hb dX6_insert_56 rfl (lv_at hl 1 rfl) ?_
    refine x_iast (j := x3.toNatClampNeg) hx hb hK hP hD hS 1 0 rfl rfl rfl hw.1 dX6_insert_57 (fun H locs hP hD hS => ?_)
    replace hw := hw.2
    replace hP : va_P D vwCl [(r_tr, .inr (6, [.ref r_aor, .int r_size])), (r_aor, .inl (G 0, 8, .inl (upd r_order x3.toNatClampNeg x2))), (da, .inr (0, [.ref ami, .int cows, .ref aki, .ref afi, .int tasters, .ref anw, .ref apa, .int newest, .int known])), (ami, .inl (G 0, 8, .inl milks))] H := hP
    replace hD : va_D A [(r_tr, .inr (6, [.ref r_aor, .int r_size])), (r_aor, .inl (G 0, 8, .inl (upd r_order x3.toNatClampNeg x2))), (da, .inr (0, [.ref ami, .int cows, .ref aki, .ref afi, .int tasters, .ref anw, .ref apa, .int newest, .int known])), (ami, .inl (G 0, 8, .inl milks))] := hD
    refine lv_aload_n hx hb dX6_insert_58 rfl (lv_at hl 0 rfl) ?_
    refine lv_dup hx hb dX6_insert_59 rfl ?_
    refine va_get (D := D) (ci := 6) (v := .int r_size) (C := RX6) (T := TX6) (N := 2) hx hb hts inX6 hown hK hP 0 rfl rfl 1 (by decide) fl15 (fun _ h9 => h9) rfl dX6_insert_60 ?_
    refine lv_iconst (v := 1) hx hb dX6_insert_63 (by decide) ?_
    refine lv_iadd hx hb dX6_insert_64 ?_
    refine va_put (D := D) (ci := 6) (v := .int (r_size + (1 : Int32))) (ty := .int) (C := RX6) (T := TX6) (N := 2) hx hb hts inX6 tyX6 tyX6_ok nmX6 hown hK hP hD hS 0 rfl rfl 1 (by decide) fl15 (fun _ h9 => h9) rfl (by decide +kernel) rfl rfl (Nat.le_of_ble_eq_true rfl) dX6_insert_65 (fun H locs hP hD hS => ?_)
    replace hP : va_P D vwCl [(r_tr, .inr (6, [.ref r_aor, .int (r_size + (1 : Int32))])), (r_aor, .inl (G 0, 8, .inl (upd r_order x3.toNatClampNeg x2))), (da, .inr (0, [.ref ami, .int cows, .ref aki, .ref afi, .int tasters, .ref anw, .ref apa, .int newest, .int known])), (ami, .inl (G 0, 8, .inl milks))] H := hP
    replace hD : va_D A [(r_tr, .inr (6, [.ref r_aor, .int (r_size + (1 : Int32))])), (r_aor, .inl (G 0, 8, .inl (upd r_order x3.toNatClampNeg x2))), (da, .inr (0, [.ref ami, .int cows, .ref aki, .ref afi, .int tasters, .ref anw, .ref apa, .int newest, .int known])), (ami, .inl (G 0, 8, .inl milks))] := hD
    exact W.vret hx hb hr (x_mv (u := ((r_size + (1 : Int32)), (upd r_order x3.toNatClampNeg x2))) hP hK hD hS hw) hS.2.2 dX6_insert_68
  have L5 : ∀ (f5 : Nat) (x3 : Int32) (r_order : Nat → Int32) (H : Heap) (locs : List Loc) (ls : Array Slot), wp_X6_insert_L5 r_size milks x2 post f5 r_order x3 → va_P D vwCl [(r_tr, .inr (6, [.ref r_aor, .int r_size])), (r_aor, .inl (G 0, 8, .inl r_order)), (da, .inr (0, [.ref ami, .int cows, .ref aki, .ref afi, .int tasters, .ref anw, .ref apa, .int newest, .int known])), (ami, .inl (G 0, 8, .inl milks))] H → va_D A [(r_tr, .inr (6, [.ref r_aor, .int r_size])), (r_aor, .inl (G 0, 8, .inl r_order)), (da, .inr (0, [.ref ami, .int cows, .ref aki, .ref afi, .int tasters, .ref anw, .ref apa, .int newest, .int known])), (ami, .inl (G 0, 8, .inl milks))] → va_S A s.heap H locs → lv_has ls 4 [(0, .ref r_tr), (1, .ref da), (2, .int x2), (3, .int x3)] → W p l e (headSpec wsX6_insert ({ frames := 0, cells := 0, slots := 0, locals := 0 } : Room)).room s m ([.ref r_tr, .ref da, .int x2] : List Value).toArray below meth c H locs 0 0 (MQ below (va_Qv (fun (u : Int32 × (Nat → Int32)) => post u.1 u.2) (fun u t => xE D G A [(r_tr, .inr (6, [.ref r_aor, .int u.1])), (r_aor, .inl (G 0, 8, .inl (u.2))), (da, .inr (0, [.ref ami, .int cows, .ref aki, .ref afi, .int tasters, .ref anw, .ref apa, .int newest, .int known])), (ami, .inl (G 0, 8, .inl milks))] t) A) ([.ref r_tr, .ref da, .int x2] : List Value).toArray s 0 0 A) (F0 m 5 ls []) := by
    intro f5
    induction f5 with
    | zero => intro x3 r_order H locs ls hw hP hD hS hl; exact (hw : False).elim
    | succ f5 ih5 =>
      intro x3 r_order H locs ls hw hP hD hS hl
      unfold wp_X6_insert_L5 at hw
      refine lv_iload_n hx hb dX6_insert_5 rfl (lv_at hl 3 rfl) ?_
      refine lv_if_le (tgt := 51) hx hb dX6_insert_6 (by decide) (fun c9 => ?_) (fun c9 => ?_)
      · replace hw := hw.1 c9
        exact J51 x3 r_order _ _ _ hw hP hD hS (lv_sub hl [0, 2, 3] rfl)
      · replace hw := hw.2 c9
        refine lv_aload_n hx hb dX6_insert_9 rfl (lv_at hl 1 rfl) ?_
        refine va_get (D := D) (ci := 0) (v := .ref ami) (C := RX0) (T := TX0) (N := 9) hx hb hts inX0 hown hK hP 2 rfl rfl 0 (by decide) fl40 (fun _ h9 => h9) rfl dX6_insert_10 ?_
        refine lv_aload_n hx hb dX6_insert_13 rfl (lv_at hl 0 rfl) ?_
        refine va_get (D := D) (ci := 6) (v := .ref r_aor) (C := RX6) (T := TX6) (N := 2) hx hb hts inX6 hown hK hP 0 rfl rfl 0 (by decide) fl9 (fun _ h9 => h9) rfl dX6_insert_14 ?_
        refine lv_iload_n hx hb dX6_insert_17 rfl (lv_at hl 3 rfl) ?_
        refine lv_iconst (v := 1) hx hb dX6_insert_18 (by decide) ?_
        refine lv_isub hx hb dX6_insert_19 ?_
        refine x_iald (j := (x3 - (1 : Int32)).toNatClampNeg) hx hb hK hP 1 0 rfl rfl rfl hw.1 dX6_insert_20 ?_
        replace hw := hw.2
        refine x_iald (j := (r_order (x3 - (1 : Int32)).toNatClampNeg).toNatClampNeg) hx hb hK hP 3 0 rfl rfl rfl hw.1 dX6_insert_21 ?_
        replace hw := hw.2
        refine lv_aload_n hx hb dX6_insert_22 rfl (lv_at hl 1 rfl) ?_
        refine va_get (D := D) (ci := 0) (v := .ref ami) (C := RX0) (T := TX0) (N := 9) hx hb hts inX0 hown hK hP 2 rfl rfl 0 (by decide) fl40 (fun _ h9 => h9) rfl dX6_insert_23 ?_
        refine lv_iload_n hx hb dX6_insert_26 rfl (lv_at hl 2 rfl) ?_
        refine x_iald (j := x2.toNatClampNeg) hx hb hK hP 3 0 rfl rfl rfl hw.1 dX6_insert_27 ?_
        replace hw := hw.2
        refine lv_icmp_ge (tgt := 51) hx hb dX6_insert_28 (by decide) (fun c9 => ?_) (fun c9 => ?_)
        · replace hw := hw.1 c9
          exact J51 x3 r_order _ _ _ hw hP hD hS (lv_sub hl [0, 2, 3] rfl)
        · replace hw := hw.2 c9
          refine lv_aload_n hx hb dX6_insert_31 rfl (lv_at hl 0 rfl) ?_
          refine va_get (D := D) (ci := 6) (v := .ref r_aor) (C := RX6) (T := TX6) (N := 2) hx hb hts inX6 hown hK hP 0 rfl rfl 0 (by decide) fl9 (fun _ h9 => h9) rfl dX6_insert_32 ?_
          refine lv_iload_n hx hb dX6_insert_35 rfl (lv_at hl 3 rfl) ?_
          refine lv_aload_n hx hb dX6_insert_36 rfl (lv_at hl 0 rfl) ?_
          refine va_get (D := D) (ci := 6) (v := .ref r_aor) (C := RX6) (T := TX6) (N := 2) hx hb hts inX6 hown hK hP 0 rfl rfl 0 (by decide) fl9 (fun _ h9 => h9) rfl dX6_insert_37 ?_
          refine lv_iload_n hx hb dX6_insert_40 rfl (lv_at hl 3 rfl) ?_
          refine lv_iconst (v := 1) hx hb dX6_insert_41 (by decide) ?_
          refine lv_isub hx hb dX6_insert_42 ?_
          refine x_iald (j := (x3 - (1 : Int32)).toNatClampNeg) hx hb hK hP 1 0 rfl rfl rfl hw.1 dX6_insert_43 ?_
          replace hw := hw.2
          refine x_iast (j := x3.toNatClampNeg) hx hb hK hP hD hS 1 0 rfl rfl rfl hw.1 dX6_insert_44 (fun H locs hP hD hS => ?_)
          replace hw := hw.2
          replace hP : va_P D vwCl [(r_tr, .inr (6, [.ref r_aor, .int r_size])), (r_aor, .inl (G 0, 8, .inl (upd r_order x3.toNatClampNeg (r_order (x3 - (1 : Int32)).toNatClampNeg)))), (da, .inr (0, [.ref ami, .int cows, .ref aki, .ref afi, .int tasters, .ref anw, .ref apa, .int newest, .int known])), (ami, .inl (G 0, 8, .inl milks))] H := hP
          replace hD : va_D A [(r_tr, .inr (6, [.ref r_aor, .int r_size])), (r_aor, .inl (G 0, 8, .inl (upd r_order x3.toNatClampNeg (r_order (x3 - (1 : Int32)).toNatClampNeg)))), (da, .inr (0, [.ref ami, .int cows, .ref aki, .ref afi, .int tasters, .ref anw, .ref apa, .int newest, .int known])), (ami, .inl (G 0, 8, .inl milks))] := hD
          refine lv_iinc (v := (x3 + (-1))) (lv' := [(3, .int (x3 + (-1))), (0, .ref r_tr), (1, .ref da), (2, .int x2)]) hx hb dX6_insert_45 hl (k := 3) rfl (by first | rfl | decide) (by decide) rfl (fun ls hl => ?_)
          refine lv_goto (tgt := 5) hx hb dX6_insert_48 (by decide) ?_
          exact ih5 (x3 + (-1)) (upd r_order x3.toNatClampNeg (r_order (x3 - (1 : Int32)).toNatClampNeg)) _ _ _ hw hP hD hS (lv_sub hl [1, 2, 3, 0] rfl)
  refine lv_aload_n hx hb dX6_insert_0 rfl (lv_at hl 0 rfl) ?_
  refine va_get (D := D) (ci := 6) (v := .int r_size) (C := RX6) (T := TX6) (N := 2) hx hb hts inX6 hown hK hP 0 rfl rfl 1 (by decide) fl15 (fun _ h9 => h9) rfl dX6_insert_1 ?_
  refine lv_istore_n (lv' := [(3, .int r_size), (0, .ref r_tr), (1, .ref da), (2, .int x2)]) hx hb dX6_insert_4 rfl hl (by decide) rfl (fun ls hl => ?_)
  obtain ⟨n, hw⟩ := hw
  exact L5 n r_size r_order _ _ _ hw hP hD hS (lv_sub hl [1, 2, 3, 0] rfl)
set_option maxHeartbeats 4000000 in
set_option maxRecDepth 100000 in
theorem c_X6_sortLastTwo (l : Launch) (D : va_G) (G : Nat → ClassId) (sz : Nat) (r_tr : Nat) (r_aor : Nat) (r_size : Int32) (r_order : Nat → Int32) (post : (Nat → Int32) → Prop) (hw : wp_X6_sortLastTwo r_size r_order post) : Met l yX6_sortLastTwo wsX6_sortLastTwo ({ frames := 0, cells := 0, slots := 0, locals := 0 } : Room) (va_Pc [.ref r_tr] (xM D G sz [(r_tr, .inr (6, [.ref r_aor, .int r_size])), (r_aor, .inl (G 0, 8, .inl r_order))])) (va_Qv (fun (u : (Nat → Int32)) => post u) (fun u t => xE D G (va_A [(r_tr, .inr (6, [.ref r_aor, .int r_size])), (r_aor, .inl (G 0, 8, .inl r_order))] sz) [(r_tr, .inr (6, [.ref r_aor, .int r_size])), (r_aor, .inl (G 0, 8, .inl u))] t) (va_A [(r_tr, .inr (6, [.ref r_aor, .int r_size])), (r_aor, .inl (G 0, 8, .inl r_order))] sz)) 0 0 (va_A [(r_tr, .inr (6, [.ref r_aor, .int r_size])), (r_aor, .inl (G 0, 8, .inl r_order))] sz) := by
  refine Met.ofW (cc := cX6_sortLastTwo) (maxL := 2) (ret := none) (by decide) rfl ?_
  intro p e s m args below meth c s₁ B hml hv
  obtain ⟨rfl, hsz, hP, hK, hD0⟩ := hv
  have hx := B.exec
  have hb := B.bytes
  have hr := B.returns
  have hts := atoms_spec (ws := wsX6_sortLastTwo) B.pre
  have hown : s.vm.findClass RX6 = some m.cls := findClass_of_methodNamed B.named
  have hlocks := B.notSynchronized
  subst hsz
  have hD := hD0.self (sz := s.heap.size)
  generalize hAe : va_A [(r_tr, .inr (6, [.ref r_aor, .int r_size])), (r_aor, .inl (G 0, 8, .inl r_order))] s.heap.size = A at hD ⊢
  have hA : ∀ q : Nat, s.heap.size ≤ q → A q := fun q h => by rw [← hAe]; exact Or.inr h
  have hS : va_S A s.heap s.heap [] := va_S.rf
  have inX6 : ∀ w ∈ wsX60, w ∈ wsX6_sortLastTwo := by decide +kernel
  have fl15 := hts (.fieldLink RX6 15 "NewsCow$Trials" "size" "I") (by decide +kernel)
  have fl9 := hts (.fieldLink RX6 9 "NewsCow$Trials" "order" "[I") (by decide +kernel)
  have hl := lv_entry ([.ref r_tr] : List Value) (n := 2) (Nat.le_of_ble_eq_true rfl)
  rw [lg_entry_eq]
  generalize (lg_sl ([.ref r_tr] : List Value) ++ List.replicate (2 - (lg_sl ([.ref r_tr] : List Value)).length) Slot.unset).toArray = ls at hl ⊢
  have hl : lv_has ls 2 [(0, .ref r_tr)] := hl
  unfold wp_X6_sortLastTwo at hw
  refine lv_aload_n hx hb dX6_sortLastTwo_0 rfl (lv_at hl 0 rfl) ?_
  refine va_get (D := D) (ci := 6) (v := .int r_size) (C := RX6) (T := TX6) (N := 2) hx hb hts inX6 hown hK hP 0 rfl rfl 1 (by decide) fl15 (fun _ h9 => h9) rfl dX6_sortLastTwo_1 ?_
  refine lv_iconst (v := 2) hx hb dX6_sortLastTwo_4 (by decide) ?_
  refine lv_icmp_lt (tgt := 79) hx hb dX6_sortLastTwo_5 (by decide) (fun c9 => ?_) (fun c9 => ?_)
  · replace hw := hw.1 c9
    exact W.vret hx hb hr (x_mv (u := r_order) hP hK hD hS hw) hS.2.2 dX6_sortLastTwo_79
  · replace hw := hw.2 c9
    refine lv_aload_n hx hb dX6_sortLastTwo_8 rfl (lv_at hl 0 rfl) ?_
    refine va_get (D := D) (ci := 6) (v := .ref r_aor) (C := RX6) (T := TX6) (N := 2) hx hb hts inX6 hown hK hP 0 rfl rfl 0 (by decide) fl9 (fun _ h9 => h9) rfl dX6_sortLastTwo_9 ?_
    refine lv_aload_n hx hb dX6_sortLastTwo_12 rfl (lv_at hl 0 rfl) ?_
    refine va_get (D := D) (ci := 6) (v := .int r_size) (C := RX6) (T := TX6) (N := 2) hx hb hts inX6 hown hK hP 0 rfl rfl 1 (by decide) fl15 (fun _ h9 => h9) rfl dX6_sortLastTwo_13 ?_
    refine lv_iconst (v := 2) hx hb dX6_sortLastTwo_16 (by decide) ?_
    refine lv_isub hx hb dX6_sortLastTwo_17 ?_
    refine x_iald (j := (r_size - (2 : Int32)).toNatClampNeg) hx hb hK hP 1 0 rfl rfl rfl hw.1 dX6_sortLastTwo_18 ?_
    replace hw := hw.2
    refine lv_aload_n hx hb dX6_sortLastTwo_19 rfl (lv_at hl 0 rfl) ?_
    refine va_get (D := D) (ci := 6) (v := .ref r_aor) (C := RX6) (T := TX6) (N := 2) hx hb hts inX6 hown hK hP 0 rfl rfl 0 (by decide) fl9 (fun _ h9 => h9) rfl dX6_sortLastTwo_20 ?_
    refine lv_aload_n hx hb dX6_sortLastTwo_23 rfl (lv_at hl 0 rfl) ?_
    refine va_get (D := D) (ci := 6) (v := .int r_size) (C := RX6) (T := TX6) (N := 2) hx hb hts inX6 hown hK hP 0 rfl rfl 1 (by decide) fl15 (fun _ h9 => h9) rfl dX6_sortLastTwo_24 ?_
    refine lv_iconst (v := 1) hx hb dX6_sortLastTwo_27 (by decide) ?_
    refine lv_isub hx hb dX6_sortLastTwo_28 ?_
    refine x_iald (j := (r_size - (1 : Int32)).toNatClampNeg) hx hb hK hP 1 0 rfl rfl rfl hw.1 dX6_sortLastTwo_29 ?_
    replace hw := hw.2
    refine lv_icmp_le (tgt := 79) hx hb dX6_sortLastTwo_30 (by decide) (fun c9 => ?_) (fun c9 => ?_)
    · replace hw := hw.1 c9
      exact W.vret hx hb hr (x_mv (u := r_order) hP hK hD hS hw) hS.2.2 dX6_sortLastTwo_79
    · replace hw := hw.2 c9
      refine lv_aload_n hx hb dX6_sortLastTwo_33 rfl (lv_at hl 0 rfl) ?_
      refine va_get (D := D) (ci := 6) (v := .ref r_aor) (C := RX6) (T := TX6) (N := 2) hx hb hts inX6 hown hK hP 0 rfl rfl 0 (by decide) fl9 (fun _ h9 => h9) rfl dX6_sortLastTwo_34 ?_
      refine lv_aload_n hx hb dX6_sortLastTwo_37 rfl (lv_at hl 0 rfl) ?_
      refine va_get (D := D) (ci := 6) (v := .int r_size) (C := RX6) (T := TX6) (N := 2) hx hb hts inX6 hown hK hP 0 rfl rfl 1 (by decide) fl15 (fun _ h9 => h9) rfl dX6_sortLastTwo_38 ?_
      refine lv_iconst (v := 1) hx hb dX6_sortLastTwo_41 (by decide) ?_
      refine lv_isub hx hb dX6_sortLastTwo_42 ?_
      refine x_iald (j := (r_size - (1 : Int32)).toNatClampNeg) hx hb hK hP 1 0 rfl rfl rfl hw.1 dX6_sortLastTwo_43 ?_
      replace hw := hw.2
      refine lv_istore_n (lv' := [(1, .int (r_order (r_size - (1 : Int32)).toNatClampNeg)), (0, .ref r_tr)]) hx hb dX6_sortLastTwo_44 rfl hl (by decide) rfl (fun ls hl => ?_)
      refine lv_aload_n hx hb dX6_sortLastTwo_45 rfl (lv_at hl 1 rfl) ?_
      refine va_get (D := D) (ci := 6) (v := .ref r_aor) (C := RX6) (T := TX6) (N := 2) hx hb hts inX6 hown hK hP 0 rfl rfl 0 (by decide) fl9 (fun _ h9 => h9) rfl dX6_sortLastTwo_46 ?_
      refine lv_aload_n hx hb dX6_sortLastTwo_49 rfl (lv_at hl 1 rfl) ?_
      refine va_get (D := D) (ci := 6) (v := .int r_size) (C := RX6) (T := TX6) (N := 2) hx hb hts inX6 hown hK hP 0 rfl rfl 1 (by decide) fl15 (fun _ h9 => h9) rfl dX6_sortLastTwo_50 ?_
      refine lv_iconst (v := 1) hx hb dX6_sortLastTwo_53 (by decide) ?_
      refine lv_isub hx hb dX6_sortLastTwo_54 ?_
      refine lv_aload_n hx hb dX6_sortLastTwo_55 rfl (lv_at hl 1 rfl) ?_
      refine va_get (D := D) (ci := 6) (v := .ref r_aor) (C := RX6) (T := TX6) (N := 2) hx hb hts inX6 hown hK hP 0 rfl rfl 0 (by decide) fl9 (fun _ h9 => h9) rfl dX6_sortLastTwo_56 ?_
      refine lv_aload_n hx hb dX6_sortLastTwo_59 rfl (lv_at hl 1 rfl) ?_
      refine va_get (D := D) (ci := 6) (v := .int r_size) (C := RX6) (T := TX6) (N := 2) hx hb hts inX6 hown hK hP 0 rfl rfl 1 (by decide) fl15 (fun _ h9 => h9) rfl dX6_sortLastTwo_60 ?_
      refine lv_iconst (v := 2) hx hb dX6_sortLastTwo_63 (by decide) ?_
      refine lv_isub hx hb dX6_sortLastTwo_64 ?_
      refine x_iald (j := (r_size - (2 : Int32)).toNatClampNeg) hx hb hK hP 1 0 rfl rfl rfl hw.1 dX6_sortLastTwo_65 ?_
      replace hw := hw.2
      refine x_iast (j := (r_size - (1 : Int32)).toNatClampNeg) hx hb hK hP hD hS 1 0 rfl rfl rfl hw.1 dX6_sortLastTwo_66 (fun H locs hP hD hS => ?_)
      replace hw := hw.2
      replace hP : va_P D vwCl [(r_tr, .inr (6, [.ref r_aor, .int r_size])), (r_aor, .inl (G 0, 8, .inl (upd r_order (r_size - (1 : Int32)).toNatClampNeg (r_order (r_size - (2 : Int32)).toNatClampNeg))))] H := hP
      replace hD : va_D A [(r_tr, .inr (6, [.ref r_aor, .int r_size])), (r_aor, .inl (G 0, 8, .inl (upd r_order (r_size - (1 : Int32)).toNatClampNeg (r_order (r_size - (2 : Int32)).toNatClampNeg))))] := hD
      refine lv_aload_n hx hb dX6_sortLastTwo_67 rfl (lv_at hl 1 rfl) ?_
      refine va_get (D := D) (ci := 6) (v := .ref r_aor) (C := RX6) (T := TX6) (N := 2) hx hb hts inX6 hown hK hP 0 rfl rfl 0 (by decide) fl9 (fun _ h9 => h9) rfl dX6_sortLastTwo_68 ?_
      refine lv_aload_n hx hb dX6_sortLastTwo_71 rfl (lv_at hl 1 rfl) ?_
      refine va_get (D := D) (ci := 6) (v := .int r_size) (C := RX6) (T := TX6) (N := 2) hx hb hts inX6 hown hK hP 0 rfl rfl 1 (by decide) fl15 (fun _ h9 => h9) rfl dX6_sortLastTwo_72 ?_
      refine lv_iconst (v := 2) hx hb dX6_sortLastTwo_75 (by decide) ?_
      refine lv_isub hx hb dX6_sortLastTwo_76 ?_
      refine lv_iload_n hx hb dX6_sortLastTwo_77 rfl (lv_at hl 0 rfl) ?_
      refine x_iast (j := (r_size - (2 : Int32)).toNatClampNeg) hx hb hK hP hD hS 1 0 rfl rfl rfl hw.1 dX6_sortLastTwo_78 (fun H locs hP hD hS => ?_)
      replace hw := hw.2
      replace hP : va_P D vwCl [(r_tr, .inr (6, [.ref r_aor, .int r_size])), (r_aor, .inl (G 0, 8, .inl (upd (upd r_order (r_size - (1 : Int32)).toNatClampNeg (r_order (r_size - (2 : Int32)).toNatClampNeg)) (r_size - (2 : Int32)).toNatClampNeg (r_order (r_size - (1 : Int32)).toNatClampNeg))))] H := hP
      replace hD : va_D A [(r_tr, .inr (6, [.ref r_aor, .int r_size])), (r_aor, .inl (G 0, 8, .inl (upd (upd r_order (r_size - (1 : Int32)).toNatClampNeg (r_order (r_size - (2 : Int32)).toNatClampNeg)) (r_size - (2 : Int32)).toNatClampNeg (r_order (r_size - (1 : Int32)).toNatClampNeg))))] := hD
      exact W.vret hx hb hr (x_mv (u := (upd (upd r_order (r_size - (1 : Int32)).toNatClampNeg (r_order (r_size - (2 : Int32)).toNatClampNeg)) (r_size - (2 : Int32)).toNatClampNeg (r_order (r_size - (1 : Int32)).toNatClampNeg))) hP hK hD hS hw) hS.2.2 dX6_sortLastTwo_79
set_option maxHeartbeats 4000000 in
set_option maxRecDepth 100000 in
theorem c_X6_arrange (l : Launch) (D : va_G) (G : Nat → ClassId) (sz : Nat) (r_tr : Nat) (r_aor : Nat) (da : Nat) (ami : Nat) (aki : Nat) (afi : Nat) (anw : Nat) (apa : Nat) (r_size : Int32) (r_order : Nat → Int32) (cows : Int32) (tasters : Int32) (newest : Int32) (known : Int32) (milks : Nat → Int32) (mayBe : Int32) (bearer : Int32) (day : Int32) (draw : Int32) (post : Int32 → (Nat → Int32) → Prop) (hw : wp_X6_arrange r_order cows milks mayBe post) : Met l yX6_arrange wsX6_arrange ({ frames := 1, cells := 0, slots := 0, locals := 23 } : Room) (va_Pc [.ref r_tr, .ref da] (xM D G sz [(r_tr, .inr (6, [.ref r_aor, .int r_size])), (r_aor, .inl (G 0, 8, .inl r_order)), (da, .inr (0, [.ref ami, .int cows, .ref aki, .ref afi, .int tasters, .ref anw, .ref apa, .int newest, .int known])), (ami, .inl (G 0, 8, .inl milks)), (anw, .inr (1, [.int mayBe, .int bearer, .int day, .int draw]))])) (va_Qv (fun (u : Int32 × (Nat → Int32)) => post u.1 u.2) (fun u t => xE D G (va_A [(r_tr, .inr (6, [.ref r_aor, .int r_size])), (r_aor, .inl (G 0, 8, .inl r_order)), (da, .inr (0, [.ref ami, .int cows, .ref aki, .ref afi, .int tasters, .ref anw, .ref apa, .int newest, .int known])), (ami, .inl (G 0, 8, .inl milks)), (anw, .inr (1, [.int mayBe, .int bearer, .int day, .int draw]))] sz) [(r_tr, .inr (6, [.ref r_aor, .int u.1])), (r_aor, .inl (G 0, 8, .inl (u.2))), (da, .inr (0, [.ref ami, .int cows, .ref aki, .ref afi, .int tasters, .ref anw, .ref apa, .int newest, .int known])), (ami, .inl (G 0, 8, .inl milks)), (anw, .inr (1, [.int mayBe, .int bearer, .int day, .int draw]))] t) (va_A [(r_tr, .inr (6, [.ref r_aor, .int r_size])), (r_aor, .inl (G 0, 8, .inl r_order)), (da, .inr (0, [.ref ami, .int cows, .ref aki, .ref afi, .int tasters, .ref anw, .ref apa, .int newest, .int known])), (ami, .inl (G 0, 8, .inl milks)), (anw, .inr (1, [.int mayBe, .int bearer, .int day, .int draw]))] sz)) 0 0 (va_A [(r_tr, .inr (6, [.ref r_aor, .int r_size])), (r_aor, .inl (G 0, 8, .inl r_order)), (da, .inr (0, [.ref ami, .int cows, .ref aki, .ref afi, .int tasters, .ref anw, .ref apa, .int newest, .int known])), (ami, .inl (G 0, 8, .inl milks)), (anw, .inr (1, [.int mayBe, .int bearer, .int day, .int draw]))] sz) := by
  refine Met.ofW (cc := cX6_arrange) (maxL := 3) (ret := none) (by decide) rfl ?_
  intro p e s m args below meth c s₁ B hml hv
  obtain ⟨rfl, hsz, hP, hK, hD0⟩ := hv
  have hx := B.exec
  have hb := B.bytes
  have hr := B.returns
  have hts := atoms_spec (ws := wsX6_arrange) B.pre
  have hown : s.vm.findClass RX6 = some m.cls := findClass_of_methodNamed B.named
  have hlocks := B.notSynchronized
  subst hsz
  have hD := hD0.self (sz := s.heap.size)
  generalize hAe : va_A [(r_tr, .inr (6, [.ref r_aor, .int r_size])), (r_aor, .inl (G 0, 8, .inl r_order)), (da, .inr (0, [.ref ami, .int cows, .ref aki, .ref afi, .int tasters, .ref anw, .ref apa, .int newest, .int known])), (ami, .inl (G 0, 8, .inl milks)), (anw, .inr (1, [.int mayBe, .int bearer, .int day, .int draw]))] s.heap.size = A at hD ⊢
  have hA : ∀ q : Nat, s.heap.size ≤ q → A q := fun q h => by rw [← hAe]; exact Or.inr h
  have hS : va_S A s.heap s.heap [] := va_S.rf
  have inX0 : ∀ w ∈ wsX00, w ∈ wsX6_arrange := by decide +kernel
  have inX1 : ∀ w ∈ wsX10, w ∈ wsX6_arrange := by decide +kernel
  have inX6 : ∀ w ∈ wsX60, w ∈ wsX6_arrange := by decide +kernel
  have fl15 := hts (.fieldLink RX6 15 "NewsCow$Trials" "size" "I") (by decide +kernel)
  have fl19 := hts (.fieldLink RX6 19 "NewsCow$Dairy" "cows" "I") (by decide +kernel)
  have fl24 := hts (.fieldLink RX6 24 "NewsCow$Dairy" "now" "LNewsCow$Moment;") (by decide +kernel)
  have fl28 := hts (.fieldLink RX6 28 "NewsCow$Moment" "mayBe" "I") (by decide +kernel)
  have hl := lv_entry ([.ref r_tr, .ref da] : List Value) (n := 3) (Nat.le_of_ble_eq_true rfl)
  rw [lg_entry_eq]
  generalize (lg_sl ([.ref r_tr, .ref da] : List Value) ++ List.replicate (3 - (lg_sl ([.ref r_tr, .ref da] : List Value)).length) Slot.unset).toArray = ls at hl ⊢
  have hl : lv_has ls 3 [(0, .ref r_tr), (1, .ref da)] := hl
  unfold wp_X6_arrange at hw
  have L7 : ∀ (f7 : Nat) (x2 : Int32) (r_size : Int32) (r_order : Nat → Int32) (H : Heap) (locs : List Loc) (ls : Array Slot), wp_X6_arrange_L7 cows milks mayBe post f7 r_size r_order x2 → va_P D vwCl [(r_tr, .inr (6, [.ref r_aor, .int r_size])), (r_aor, .inl (G 0, 8, .inl r_order)), (da, .inr (0, [.ref ami, .int cows, .ref aki, .ref afi, .int tasters, .ref anw, .ref apa, .int newest, .int known])), (ami, .inl (G 0, 8, .inl milks)), (anw, .inr (1, [.int mayBe, .int bearer, .int day, .int draw]))] H → va_D A [(r_tr, .inr (6, [.ref r_aor, .int r_size])), (r_aor, .inl (G 0, 8, .inl r_order)), (da, .inr (0, [.ref ami, .int cows, .ref aki, .ref afi, .int tasters, .ref anw, .ref apa, .int newest, .int known])), (ami, .inl (G 0, 8, .inl milks)), (anw, .inr (1, [.int mayBe, .int bearer, .int day, .int draw]))] → va_S A s.heap H locs → lv_has ls 3 [(0, .ref r_tr), (1, .ref da), (2, .int x2)] → W p l e (headSpec wsX6_arrange ({ frames := 1, cells := 0, slots := 0, locals := 23 } : Room)).room s m ([.ref r_tr, .ref da] : List Value).toArray below meth c H locs 0 0 (MQ below (va_Qv (fun (u : Int32 × (Nat → Int32)) => post u.1 u.2) (fun u t => xE D G A [(r_tr, .inr (6, [.ref r_aor, .int u.1])), (r_aor, .inl (G 0, 8, .inl (u.2))), (da, .inr (0, [.ref ami, .int cows, .ref aki, .ref afi, .int tasters, .ref anw, .ref apa, .int newest, .int known])), (ami, .inl (G 0, 8, .inl milks)), (anw, .inr (1, [.int mayBe, .int bearer, .int day, .int draw]))] t) A) ([.ref r_tr, .ref da] : List Value).toArray s 0 0 A) (F0 m 7 ls []) := by
    intro f7
    induction f7 with
    | zero => intro x2 r_size r_order H locs ls hw hP hD hS hl; exact (hw : False).elim
    | succ f7 ih7 =>
      intro x2 r_size r_order H locs ls hw hP hD hS hl
      unfold wp_X6_arrange_L7 at hw
      refine lv_iload_n hx hb dX6_arrange_7 rfl (lv_at hl 2 rfl) ?_
      refine lv_aload_n hx hb dX6_arrange_8 rfl (lv_at hl 1 rfl) ?_
      refine va_get (D := D) (ci := 0) (v := .int cows) (C := RX0) (T := TX0) (N := 9) hx hb hts inX0 hown hK hP 2 rfl rfl 1 (by decide) fl19 (fun _ h9 => h9) rfl dX6_arrange_9 ?_
      refine lv_icmp_ge (tgt := 42) hx hb dX6_arrange_12 (by decide) (fun c9 => ?_) (fun c9 => ?_)
      · replace hw := hw.1 c9
        refine lv_aload_n hx hb dX6_arrange_42 rfl (lv_at hl 0 rfl) ?_
        refine x_cMv (wr := [(da, .inr (0, [.ref ami, .int cows, .ref aki, .ref afi, .int tasters, .ref anw, .ref apa, .int newest, .int known])), (ami, .inl (G 0, 8, .inl milks)), (anw, .inr (1, [.int mayBe, .int bearer, .int day, .int draw]))]) (va_runV (As := []) (rest := []) ⟨hx, hb, hml, hown, hts⟩ (c_X6_sortLastTwo l D G _ r_tr r_aor r_size r_order _ hw) (cwV 0 hts gX6_arrange_X6_sortLastTwo rfl rfl rfl (by decide +kernel) ⟨(Nat.le_of_ble_eq_true rfl), (Nat.le_of_ble_eq_true rfl)⟩) (xM_pv (hP.sub [0, 1] rfl) hK (hD.sub [0, 1] (by decide) rfl) (va_recv hK hP (ci := 6) (q0 := 0) rfl rfl)) rfl rfl hl.1 rfl (lv_room (Nat.le_of_ble_eq_true rfl)) dX6_arrange_43 ⟨Nat.zero_le _, Nat.zero_le _⟩) hP hD hS hA [0, 1] [2, 3, 4] rfl rfl (by decide) (by decide) [3, 4, 0, 1, 2] (fun u => [(r_tr, .inr (6, [.ref r_aor, .int r_size])), (r_aor, .inl (G 0, 8, .inl u)), (da, .inr (0, [.ref ami, .int cows, .ref aki, .ref afi, .int tasters, .ref anw, .ref apa, .int newest, .int known])), (ami, .inl (G 0, 8, .inl milks)), (anw, .inr (1, [.int mayBe, .int bearer, .int day, .int draw]))]) (by decide) (fun u => rfl) (fun u H locs hw hP hD hS => ?_)
        obtain ⟨r_order_1, rfl⟩ : ∃ z, z = u := ⟨_, rfl⟩
        try dsimp only at hw
        replace hP : va_P D vwCl [(r_tr, .inr (6, [.ref r_aor, .int r_size])), (r_aor, .inl (G 0, 8, .inl r_order_1)), (da, .inr (0, [.ref ami, .int cows, .ref aki, .ref afi, .int tasters, .ref anw, .ref apa, .int newest, .int known])), (ami, .inl (G 0, 8, .inl milks)), (anw, .inr (1, [.int mayBe, .int bearer, .int day, .int draw]))] H := hP
        replace hD : va_D A [(r_tr, .inr (6, [.ref r_aor, .int r_size])), (r_aor, .inl (G 0, 8, .inl r_order_1)), (da, .inr (0, [.ref ami, .int cows, .ref aki, .ref afi, .int tasters, .ref anw, .ref apa, .int newest, .int known])), (ami, .inl (G 0, 8, .inl milks)), (anw, .inr (1, [.int mayBe, .int bearer, .int day, .int draw]))] := hD
        exact W.vret hx hb hr (x_mv (u := (r_size, r_order_1)) hP hK hD hS hw) hS.2.2 dX6_arrange_46
      · replace hw := hw.2 c9
        refine lv_aload_n hx hb dX6_arrange_15 rfl (lv_at hl 1 rfl) ?_
        refine va_get (D := D) (ci := 0) (v := .ref anw) (C := RX0) (T := TX0) (N := 9) hx hb hts inX0 hown hK hP 2 rfl rfl 5 (by decide) fl24 (fun _ h9 => h9) rfl dX6_arrange_16 ?_
        refine va_get (D := D) (ci := 1) (v := .int mayBe) (C := RX1) (T := TX1) (N := 4) hx hb hts inX1 hown hK hP 4 rfl rfl 0 (by decide) fl28 (fun _ h9 => h9) rfl dX6_arrange_19 ?_
        refine lv_iload_n hx hb dX6_arrange_22 rfl (lv_at hl 2 rfl) ?_
        refine lv_ishr hx hb dX6_arrange_23 ?_
        refine lv_iconst (v := 1) hx hb dX6_arrange_24 (by decide) ?_
        refine lv_iand hx hb dX6_arrange_25 ?_
        refine lv_iconst (v := 1) hx hb dX6_arrange_26 (by decide) ?_
        refine lv_icmp_ne (tgt := 36) hx hb dX6_arrange_27 (by decide) (fun c9 => ?_) (fun c9 => ?_)
        · replace hw := hw.1 c9
          refine lv_iinc (v := (x2 + 1)) (lv' := [(2, .int (x2 + 1)), (0, .ref r_tr), (1, .ref da)]) hx hb dX6_arrange_36 hl (k := 2) rfl (by first | rfl | decide) (by decide) rfl (fun ls hl => ?_)
          refine lv_goto (tgt := 7) hx hb dX6_arrange_39 (by decide) ?_
          exact ih7 (x2 + 1) r_size r_order _ _ _ hw hP hD hS (lv_sub hl [1, 2, 0] rfl)
        · replace hw := hw.2 c9
          refine lv_aload_n hx hb dX6_arrange_30 rfl (lv_at hl 0 rfl) ?_
          refine lv_aload_n hx hb dX6_arrange_31 rfl (lv_at hl 1 rfl) ?_
          refine lv_iload_n hx hb dX6_arrange_32 rfl (lv_at hl 2 rfl) ?_
          refine x_cMv (wr := [(anw, .inr (1, [.int mayBe, .int bearer, .int day, .int draw]))]) (va_runV (As := [.ref da, .int x2]) (rest := []) ⟨hx, hb, hml, hown, hts⟩ (c_X6_insert l D G _ r_tr r_aor da ami aki afi anw apa r_size r_order cows tasters newest known milks x2 _ hw) (cwV 2 hts gX6_arrange_X6_insert rfl rfl rfl (by decide +kernel) ⟨(Nat.le_of_ble_eq_true rfl), (Nat.le_of_ble_eq_true rfl)⟩) (xM_pv (hP.sub [0, 1, 2, 3] rfl) hK (hD.sub [0, 1, 2, 3] (by decide) rfl) (va_recv hK hP (ci := 6) (q0 := 0) rfl rfl)) rfl rfl hl.1 rfl (lv_room (Nat.le_of_ble_eq_true rfl)) dX6_arrange_33 ⟨Nat.zero_le _, Nat.zero_le _⟩) hP hD hS hA [0, 1, 2, 3] [4] rfl rfl (by decide) (by decide) [1, 2, 3, 4, 0] (fun u => [(r_tr, .inr (6, [.ref r_aor, .int u.1])), (r_aor, .inl (G 0, 8, .inl (u.2))), (da, .inr (0, [.ref ami, .int cows, .ref aki, .ref afi, .int tasters, .ref anw, .ref apa, .int newest, .int known])), (ami, .inl (G 0, 8, .inl milks)), (anw, .inr (1, [.int mayBe, .int bearer, .int day, .int draw]))]) (by decide) (fun u => rfl) (fun u H locs hw hP hD hS => ?_)
          obtain ⟨r_size_2, r_order_2⟩ := u
          try dsimp only at hw
          replace hP : va_P D vwCl [(r_tr, .inr (6, [.ref r_aor, .int r_size_2])), (r_aor, .inl (G 0, 8, .inl r_order_2)), (da, .inr (0, [.ref ami, .int cows, .ref aki, .ref afi, .int tasters, .ref anw, .ref apa, .int newest, .int known])), (ami, .inl (G 0, 8, .inl milks)), (anw, .inr (1, [.int mayBe, .int bearer, .int day, .int draw]))] H := hP
          replace hD : va_D A [(r_tr, .inr (6, [.ref r_aor, .int r_size_2])), (r_aor, .inl (G 0, 8, .inl r_order_2)), (da, .inr (0, [.ref ami, .int cows, .ref aki, .ref afi, .int tasters, .ref anw, .ref apa, .int newest, .int known])), (ami, .inl (G 0, 8, .inl milks)), (anw, .inr (1, [.int mayBe, .int bearer, .int day, .int draw]))] := hD
          refine lv_iinc (v := (x2 + 1)) (lv' := [(2, .int (x2 + 1)), (0, .ref r_tr), (1, .ref da)]) hx hb dX6_arrange_36 hl (k := 2) rfl (by first | rfl | decide) (by decide) rfl (fun ls hl => ?_)
          refine lv_goto (tgt := 7) hx hb dX6_arrange_39 (by decide) ?_
          exact ih7 (x2 + 1) r_size_2 r_order_2 _ _ _ hw hP hD hS (lv_sub hl [1, 2, 0] rfl)
  refine lv_aload_n hx hb dX6_arrange_0 rfl (lv_at hl 0 rfl) ?_
  refine lv_iconst (v := 0) hx hb dX6_arrange_1 (by decide) ?_
  refine va_put (D := D) (ci := 6) (v := .int (0 : Int32)) (ty := .int) (C := RX6) (T := TX6) (N := 2) hx hb hts inX6 tyX6 tyX6_ok nmX6 hown hK hP hD hS 0 rfl rfl 1 (by decide) fl15 (fun _ h9 => h9) rfl (by decide +kernel) rfl rfl (Nat.le_of_ble_eq_true rfl) dX6_arrange_2 (fun H locs hP hD hS => ?_)
  replace hP : va_P D vwCl [(r_tr, .inr (6, [.ref r_aor, .int (0 : Int32)])), (r_aor, .inl (G 0, 8, .inl r_order)), (da, .inr (0, [.ref ami, .int cows, .ref aki, .ref afi, .int tasters, .ref anw, .ref apa, .int newest, .int known])), (ami, .inl (G 0, 8, .inl milks)), (anw, .inr (1, [.int mayBe, .int bearer, .int day, .int draw]))] H := hP
  replace hD : va_D A [(r_tr, .inr (6, [.ref r_aor, .int (0 : Int32)])), (r_aor, .inl (G 0, 8, .inl r_order)), (da, .inr (0, [.ref ami, .int cows, .ref aki, .ref afi, .int tasters, .ref anw, .ref apa, .int newest, .int known])), (ami, .inl (G 0, 8, .inl milks)), (anw, .inr (1, [.int mayBe, .int bearer, .int day, .int draw]))] := hD
  refine lv_iconst (v := 0) hx hb dX6_arrange_5 (by decide) ?_
  refine lv_istore_n (lv' := [(2, .int (0 : Int32)), (0, .ref r_tr), (1, .ref da)]) hx hb dX6_arrange_6 rfl hl (by decide) rfl (fun ls hl => ?_)
  obtain ⟨n, hw⟩ := hw
  exact L7 n (0 : Int32) (0 : Int32) r_order _ _ _ hw hP hD hS (lv_sub hl [1, 2, 0] rfl)
set_option maxHeartbeats 4000000 in
set_option maxRecDepth 100000 in
theorem c_X6_allTrials (l : Launch) (D : va_G) (G : Nat → ClassId) (r_tr : Nat) (r_aor : Nat) (da : Nat) (ami : Nat) (aki : Nat) (afi : Nat) (anw : Nat) (apa : Nat) (r_size : Int32) (r_order : Nat → Int32) (cows : Int32) (tasters : Int32) (newest : Int32) (known : Int32) (milks : Nat → Int32) (post : Int32 → Prop) (hw : wp_X6_allTrials r_size r_order milks post) : Met l yX6_allTrials wsX6_allTrials ({ frames := 1, cells := 0, slots := 0, locals := 21 } : Room) (va_Pc [.ref r_tr, .ref da] (xR D G [(r_tr, .inr (6, [.ref r_aor, .int r_size])), (r_aor, .inl (G 0, 8, .inl r_order)), (da, .inr (0, [.ref ami, .int cows, .ref aki, .ref afi, .int tasters, .ref anw, .ref apa, .int newest, .int known])), (ami, .inl (G 0, 8, .inl milks))])) (vp_Si post) 0 0 (fun _ => False) := by
  refine Met.ofW (cc := cX6_allTrials) (maxL := 4) (ret := (some .int)) (by decide) rfl ?_
  intro p e s m args below meth c s₁ B hml hv
  obtain ⟨rfl, hP, hK⟩ := hv
  have hx := B.exec
  have hb := B.bytes
  have hr := B.returns
  have hts := atoms_spec (ws := wsX6_allTrials) B.pre
  have hown : s.vm.findClass RX6 = some m.cls := findClass_of_methodNamed B.named
  have hlocks := B.notSynchronized
  have inX0 : ∀ w ∈ wsX00, w ∈ wsX6_allTrials := by decide +kernel
  have inX6 : ∀ w ∈ wsX60, w ∈ wsX6_allTrials := by decide +kernel
  have fl15 := hts (.fieldLink RX6 15 "NewsCow$Trials" "size" "I") (by decide +kernel)
  have fl40 := hts (.fieldLink RX6 40 "NewsCow$Dairy" "milks" "[I") (by decide +kernel)
  have fl9 := hts (.fieldLink RX6 9 "NewsCow$Trials" "order" "[I") (by decide +kernel)
  have hl := lv_entry ([.ref r_tr, .ref da] : List Value) (n := 4) (Nat.le_of_ble_eq_true rfl)
  rw [lg_entry_eq]
  generalize (lg_sl ([.ref r_tr, .ref da] : List Value) ++ List.replicate (4 - (lg_sl ([.ref r_tr, .ref da] : List Value)).length) Slot.unset).toArray = ls at hl ⊢
  have hl : lv_has ls 4 [(0, .ref r_tr), (1, .ref da)] := hl
  unfold wp_X6_allTrials at hw
  have L4 : ∀ (f4 : Nat) (x2 : Int32) (x3 : Int32) (ls : Array Slot), wp_X6_allTrials_L4 r_size r_order milks post f4 x2 x3 → lv_has ls 4 [(0, .ref r_tr), (1, .ref da), (2, .int x2), (3, .int x3)] → W p l e (headSpec wsX6_allTrials ({ frames := 1, cells := 0, slots := 0, locals := 21 } : Room)).room s m ([.ref r_tr, .ref da] : List Value).toArray below meth c s.heap [] 0 0 (MQ below (vp_Si post) ([.ref r_tr, .ref da] : List Value).toArray s 0 0 (fun _ => False)) (F0 m 4 ls []) := by
    intro f4
    induction f4 with
    | zero => intro x2 x3 ls hw hl; exact (hw : False).elim
    | succ f4 ih4 =>
      intro x2 x3 ls hw hl
      unfold wp_X6_allTrials_L4 at hw
      refine lv_iload_n hx hb dX6_allTrials_4 rfl (lv_at hl 3 rfl) ?_
      refine lv_aload_n hx hb dX6_allTrials_5 rfl (lv_at hl 0 rfl) ?_
      refine va_get (D := D) (ci := 6) (v := .int r_size) (C := RX6) (T := TX6) (N := 2) hx hb hts inX6 hown hK hP 0 rfl rfl 1 (by decide) fl15 (fun _ h9 => h9) rfl dX6_allTrials_6 ?_
      refine lv_icmp_ge (tgt := 45) hx hb dX6_allTrials_9 (by decide) (fun c9 => ?_) (fun c9 => ?_)
      · replace hw := hw.1 c9
        refine lv_iload_n hx hb dX6_allTrials_45 rfl (lv_at hl 2 rfl) ?_
        exact W.iret hx hb hr (fun t ht _ => ⟨_, rfl, hw, ht⟩) (fun _ h => absurd h List.not_mem_nil) dX6_allTrials_46
      · replace hw := hw.2 c9
        refine lv_iload_n hx hb dX6_allTrials_12 rfl (lv_at hl 2 rfl) ?_
        refine lv_aload_n hx hb dX6_allTrials_13 rfl (lv_at hl 1 rfl) ?_
        refine va_get (D := D) (ci := 0) (v := .ref ami) (C := RX0) (T := TX0) (N := 9) hx hb hts inX0 hown hK hP 2 rfl rfl 0 (by decide) fl40 (fun _ h9 => h9) rfl dX6_allTrials_14 ?_
        refine lv_aload_n hx hb dX6_allTrials_17 rfl (lv_at hl 0 rfl) ?_
        refine va_get (D := D) (ci := 6) (v := .ref r_aor) (C := RX6) (T := TX6) (N := 2) hx hb hts inX6 hown hK hP 0 rfl rfl 0 (by decide) fl9 (fun _ h9 => h9) rfl dX6_allTrials_18 ?_
        refine lv_iload_n hx hb dX6_allTrials_21 rfl (lv_at hl 3 rfl) ?_
        refine x_iald (j := x3.toNatClampNeg) hx hb hK hP 1 0 rfl rfl rfl hw.1 dX6_allTrials_22 ?_
        replace hw := hw.2
        refine x_iald (j := (r_order x3.toNatClampNeg).toNatClampNeg) hx hb hK hP 3 0 rfl rfl rfl hw.1 dX6_allTrials_23 ?_
        replace hw := hw.2
        refine lv_iload_n hx hb dX6_allTrials_24 rfl (lv_at hl 3 rfl) ?_
        refine lv_iconst (v := 1) hx hb dX6_allTrials_25 (by decide) ?_
        refine lv_iadd hx hb dX6_allTrials_26 ?_
        refine lv_aload_n hx hb dX6_allTrials_27 rfl (lv_at hl 0 rfl) ?_
        refine va_get (D := D) (ci := 6) (v := .int r_size) (C := RX6) (T := TX6) (N := 2) hx hb hts inX6 hown hK hP 0 rfl rfl 1 (by decide) fl15 (fun _ h9 => h9) rfl dX6_allTrials_28 ?_
        refine lv_iconst (v := 1) hx hb dX6_allTrials_31 (by decide) ?_
        refine lv_isub hx hb dX6_allTrials_32 ?_
        refine va_mmin hx hb (hml.trans hl.1.symm) hown (hts (.methodLink RX6 43 Lib.Math.min.name) (by decide +kernel)) (hts (.static Lib.Math.min.name) (by decide +kernel)) (hts (.initialized "java/lang/Math") (by decide +kernel)) (hts (.code Lib.Math.min.name Lib.Math.min.code 2 (some .int)) (by decide +kernel)) (Nat.le_of_ble_eq_true rfl) (Nat.le_of_ble_eq_true rfl) (Nat.zero_le _) (Nat.zero_le _) dX6_allTrials_33 ?_
        refine lv_imul hx hb dX6_allTrials_36 ?_
        refine lv_iadd hx hb dX6_allTrials_37 ?_
        refine lv_istore_n (lv' := [(2, .int (x2 + ((milks (r_order x3.toNatClampNeg).toNatClampNeg) * (if (r_size - (1 : Int32)) < (x3 + (1 : Int32)) then (r_size - (1 : Int32)) else (x3 + (1 : Int32)))))), (0, .ref r_tr), (1, .ref da), (3, .int x3)]) hx hb dX6_allTrials_38 rfl hl (by decide) rfl (fun ls hl => ?_)
        refine lv_iinc (v := (x3 + 1)) (lv' := [(3, .int (x3 + 1)), (2, .int (x2 + ((milks (r_order x3.toNatClampNeg).toNatClampNeg) * (if (r_size - (1 : Int32)) < (x3 + (1 : Int32)) then (r_size - (1 : Int32)) else (x3 + (1 : Int32)))))), (0, .ref r_tr), (1, .ref da)]) hx hb dX6_allTrials_39 hl (k := 3) rfl (by first | rfl | decide) (by decide) rfl (fun ls hl => ?_)
        refine lv_goto (tgt := 4) hx hb dX6_allTrials_42 (by decide) ?_
        exact ih4 (x2 + ((milks (r_order x3.toNatClampNeg).toNatClampNeg) * (if (r_size - (1 : Int32)) < (x3 + (1 : Int32)) then (r_size - (1 : Int32)) else (x3 + (1 : Int32))))) (x3 + 1) _ hw (lv_sub hl [2, 3, 1, 0] rfl)
  refine lv_iconst (v := 0) hx hb dX6_allTrials_0 (by decide) ?_
  refine lv_istore_n (lv' := [(2, .int (0 : Int32)), (0, .ref r_tr), (1, .ref da)]) hx hb dX6_allTrials_1 rfl hl (by decide) rfl (fun ls hl => ?_)
  refine lv_iconst (v := 0) hx hb dX6_allTrials_2 (by decide) ?_
  refine lv_istore_n (lv' := [(3, .int (0 : Int32)), (2, .int (0 : Int32)), (0, .ref r_tr), (1, .ref da)]) hx hb dX6_allTrials_3 rfl hl (by decide) rfl (fun ls hl => ?_)
  obtain ⟨n, hw⟩ := hw
  exact L4 n (0 : Int32) (0 : Int32) _ hw (lv_sub hl [2, 3, 1, 0] rfl)
set_option maxHeartbeats 4000000 in
set_option maxRecDepth 100000 in
theorem c_X7_cow (l : Launch) (D : va_G) (G : Nat → ClassId) (sz : Nat) (x_xo : Nat) (da : Nat) (k_da : Nat) (t_ta : Nat) (p_pl : Nat) (r_tr : Nat) (w_ro : Nat) (x_ash : Nat) (ami : Nat) (aki : Nat) (afi : Nat) (anw : Nat) (apa : Nat) (x_isKept : Int32) (cows : Int32) (tasters : Int32) (newest : Int32) (known : Int32) (milks : Nat → Int32) (mayBe : Int32) (bearer : Int32) (day : Int32) (draw : Int32) (x1 : Int32) (post : Int32 → Int32 → Int32 → (Nat → Int32) → Int32 → Prop) (hw : wp_X7_cow cows known milks mayBe x1 post) : Met l yX7_cow wsX7_cow ({ frames := 1, cells := 0, slots := 0, locals := 21 } : Room) (va_Pc [.ref x_xo, .int x1] (xM D G sz [(x_xo, .inr (7, [.ref da, .ref k_da, .int x_isKept, .ref t_ta, .ref p_pl, .ref r_tr, .ref w_ro, .ref x_ash])), (da, .inr (0, [.ref ami, .int cows, .ref aki, .ref afi, .int tasters, .ref anw, .ref apa, .int newest, .int known])), (ami, .inl (G 0, 8, .inl milks)), (anw, .inr (1, [.int mayBe, .int bearer, .int day, .int draw]))])) (va_Qi (fun r (u : Int32 × Int32 × (Nat → Int32) × Int32) => post r u.1 u.2.1 u.2.2.1 u.2.2.2) (fun u t => xE D G (va_A [(x_xo, .inr (7, [.ref da, .ref k_da, .int x_isKept, .ref t_ta, .ref p_pl, .ref r_tr, .ref w_ro, .ref x_ash])), (da, .inr (0, [.ref ami, .int cows, .ref aki, .ref afi, .int tasters, .ref anw, .ref apa, .int newest, .int known])), (ami, .inl (G 0, 8, .inl milks)), (anw, .inr (1, [.int mayBe, .int bearer, .int day, .int draw]))] sz) [(x_xo, .inr (7, [.ref da, .ref k_da, .int x_isKept, .ref t_ta, .ref p_pl, .ref r_tr, .ref w_ro, .ref x_ash])), (da, .inr (0, [.ref ami, .int u.1, .ref aki, .ref afi, .int tasters, .ref anw, .ref apa, .int newest, .int u.2.1])), (ami, .inl (G 0, 8, .inl (u.2.2.1))), (anw, .inr (1, [.int u.2.2.2, .int bearer, .int day, .int draw]))] t) (va_A [(x_xo, .inr (7, [.ref da, .ref k_da, .int x_isKept, .ref t_ta, .ref p_pl, .ref r_tr, .ref w_ro, .ref x_ash])), (da, .inr (0, [.ref ami, .int cows, .ref aki, .ref afi, .int tasters, .ref anw, .ref apa, .int newest, .int known])), (ami, .inl (G 0, 8, .inl milks)), (anw, .inr (1, [.int mayBe, .int bearer, .int day, .int draw]))] sz)) 0 0 (va_A [(x_xo, .inr (7, [.ref da, .ref k_da, .int x_isKept, .ref t_ta, .ref p_pl, .ref r_tr, .ref w_ro, .ref x_ash])), (da, .inr (0, [.ref ami, .int cows, .ref aki, .ref afi, .int tasters, .ref anw, .ref apa, .int newest, .int known])), (ami, .inl (G 0, 8, .inl milks)), (anw, .inr (1, [.int mayBe, .int bearer, .int day, .int draw]))] sz) := by
  refine Met.ofW (cc := cX7_cow) (maxL := 2) (ret := (some .int)) (by decide) rfl ?_
  intro p e s m args below meth c s₁ B hml hv
  obtain ⟨rfl, hsz, hP, hK, hD0⟩ := hv
  have hx := B.exec
  have hb := B.bytes
  have hr := B.returns
  have hts := atoms_spec (ws := wsX7_cow) B.pre
  have hown : s.vm.findClass RX7 = some m.cls := findClass_of_methodNamed B.named
  have hlocks := B.notSynchronized
  subst hsz
  have hD := hD0.self (sz := s.heap.size)
  generalize hAe : va_A [(x_xo, .inr (7, [.ref da, .ref k_da, .int x_isKept, .ref t_ta, .ref p_pl, .ref r_tr, .ref w_ro, .ref x_ash])), (da, .inr (0, [.ref ami, .int cows, .ref aki, .ref afi, .int tasters, .ref anw, .ref apa, .int newest, .int known])), (ami, .inl (G 0, 8, .inl milks)), (anw, .inr (1, [.int mayBe, .int bearer, .int day, .int draw]))] s.heap.size = A at hD ⊢
  have hA : ∀ q : Nat, s.heap.size ≤ q → A q := fun q h => by rw [← hAe]; exact Or.inr h
  have hS : va_S A s.heap s.heap [] := va_S.rf
  have inX0 : ∀ w ∈ wsX00, w ∈ wsX7_cow := by decide +kernel
  have inX1 : ∀ w ∈ wsX10, w ∈ wsX7_cow := by decide +kernel
  have inX7 : ∀ w ∈ wsX70, w ∈ wsX7_cow := by decide +kernel
  have fl12 := hts (.fieldLink RX7 12 "NewsCow" "dairy" "LNewsCow$Dairy;") (by decide +kernel)
  have fl58 := hts (.fieldLink RX7 58 "NewsCow$Dairy" "cows" "I") (by decide +kernel)
  have fl66 := hts (.fieldLink RX7 66 "NewsCow$Dairy" "now" "LNewsCow$Moment;") (by decide +kernel)
  have fl74 := hts (.fieldLink RX7 74 "NewsCow$Moment" "mayBe" "I") (by decide +kernel)
  have fl79 := hts (.fieldLink RX7 79 "NewsCow$Dairy" "known" "I") (by decide +kernel)
  have hl := lv_entry ([.ref x_xo, .int x1] : List Value) (n := 2) (Nat.le_of_ble_eq_true rfl)
  rw [lg_entry_eq]
  generalize (lg_sl ([.ref x_xo, .int x1] : List Value) ++ List.replicate (2 - (lg_sl ([.ref x_xo, .int x1] : List Value)).length) Slot.unset).toArray = ls at hl ⊢
  have hl : lv_has ls 2 [(0, .ref x_xo), (1, .int x1)] := hl
  unfold wp_X7_cow at hw
  refine lv_iload_n hx hb dX7_cow_0 rfl (lv_at hl 1 rfl) ?_
  refine lv_iconst (v := 1) hx hb dX7_cow_1 (by decide) ?_
  refine lv_icmp_lt (tgt := 11) hx hb dX7_cow_2 (by decide) (fun c9 => ?_) (fun c9 => ?_)
  · replace hw := hw.1 c9
    refine lv_iconst (v := -1) hx hb dX7_cow_11 (by decide) ?_
    exact W.iret hx hb hr (x_mi (u := (cows, known, milks, mayBe)) hP hK hD hS hw) hS.2.2 dX7_cow_12
  · replace hw := hw.2 c9
    refine lv_iload_n hx hb dX7_cow_5 rfl (lv_at hl 1 rfl) ?_
    refine lv_bipush (v := 9) hx hb dX7_cow_6 (by decide) ?_
    refine lv_icmp_le (tgt := 13) hx hb dX7_cow_8 (by decide) (fun c9 => ?_) (fun c9 => ?_)
    · replace hw := hw.1 c9
      refine lv_aload_n hx hb dX7_cow_13 rfl (lv_at hl 0 rfl) ?_
      refine va_get (D := D) (ci := 7) (v := .ref da) (C := RX7) (T := TX7) (N := 8) hx hb hts inX7 hown hK hP 0 rfl rfl 0 (by decide) fl12 (fun _ h9 => h9) rfl dX7_cow_14 ?_
      refine va_get (D := D) (ci := 0) (v := .int cows) (C := RX0) (T := TX0) (N := 9) hx hb hts inX0 hown hK hP 1 rfl rfl 1 (by decide) fl58 (fun _ h9 => h9) rfl dX7_cow_17 ?_
      refine lv_bipush (v := 8) hx hb dX7_cow_20 (by decide) ?_
      refine lv_icmp_lt (tgt := 28) hx hb dX7_cow_22 (by decide) (fun c9 => ?_) (fun c9 => ?_)
      · replace hw := hw.1 c9
        refine lv_aload_n hx hb dX7_cow_28 rfl (lv_at hl 0 rfl) ?_
        refine va_get (D := D) (ci := 7) (v := .ref da) (C := RX7) (T := TX7) (N := 8) hx hb hts inX7 hown hK hP 0 rfl rfl 0 (by decide) fl12 (fun _ h9 => h9) rfl dX7_cow_29 ?_
        refine lv_iload_n hx hb dX7_cow_32 rfl (lv_at hl 1 rfl) ?_
        refine x_cMv (wr := [(x_xo, .inr (7, [.ref da, .ref k_da, .int x_isKept, .ref t_ta, .ref p_pl, .ref r_tr, .ref w_ro, .ref x_ash])), (anw, .inr (1, [.int mayBe, .int bearer, .int day, .int draw]))]) (va_runV (As := [.int x1]) (rest := []) ⟨hx, hb, hml, hown, hts⟩ (c_X0_addCow l D G _ da ami aki afi anw apa cows tasters newest known milks x1 _ hw) (cwV 1 hts gX7_cow_X0_addCow rfl rfl rfl (by decide +kernel) ⟨(Nat.le_of_ble_eq_true rfl), (Nat.le_of_ble_eq_true rfl)⟩) (xM_pv (hP.sub [1, 2] rfl) hK (hD.sub [1, 2] (by decide) rfl) (va_recv hK hP (ci := 0) (q0 := 1) rfl rfl)) rfl rfl hl.1 rfl (lv_room (Nat.le_of_ble_eq_true rfl)) dX7_cow_33 ⟨Nat.zero_le _, Nat.zero_le _⟩) hP hD hS hA [1, 2] [0, 3] rfl rfl (by decide) (by decide) [0, 2, 3, 1] (fun u => [(x_xo, .inr (7, [.ref da, .ref k_da, .int x_isKept, .ref t_ta, .ref p_pl, .ref r_tr, .ref w_ro, .ref x_ash])), (da, .inr (0, [.ref ami, .int u.1, .ref aki, .ref afi, .int tasters, .ref anw, .ref apa, .int newest, .int known])), (ami, .inl (G 0, 8, .inl (u.2))), (anw, .inr (1, [.int mayBe, .int bearer, .int day, .int draw]))]) (by decide) (fun u => rfl) (fun u H locs hw hP hD hS => ?_)
        obtain ⟨cows_1, milks_1⟩ := u
        try dsimp only at hw
        replace hP : va_P D vwCl [(x_xo, .inr (7, [.ref da, .ref k_da, .int x_isKept, .ref t_ta, .ref p_pl, .ref r_tr, .ref w_ro, .ref x_ash])), (da, .inr (0, [.ref ami, .int cows_1, .ref aki, .ref afi, .int tasters, .ref anw, .ref apa, .int newest, .int known])), (ami, .inl (G 0, 8, .inl milks_1)), (anw, .inr (1, [.int mayBe, .int bearer, .int day, .int draw]))] H := hP
        replace hD : va_D A [(x_xo, .inr (7, [.ref da, .ref k_da, .int x_isKept, .ref t_ta, .ref p_pl, .ref r_tr, .ref w_ro, .ref x_ash])), (da, .inr (0, [.ref ami, .int cows_1, .ref aki, .ref afi, .int tasters, .ref anw, .ref apa, .int newest, .int known])), (ami, .inl (G 0, 8, .inl milks_1)), (anw, .inr (1, [.int mayBe, .int bearer, .int day, .int draw]))] := hD
        refine lv_aload_n hx hb dX7_cow_36 rfl (lv_at hl 0 rfl) ?_
        refine va_get (D := D) (ci := 7) (v := .ref da) (C := RX7) (T := TX7) (N := 8) hx hb hts inX7 hown hK hP 0 rfl rfl 0 (by decide) fl12 (fun _ h9 => h9) rfl dX7_cow_37 ?_
        refine va_get (D := D) (ci := 0) (v := .ref anw) (C := RX0) (T := TX0) (N := 9) hx hb hts inX0 hown hK hP 1 rfl rfl 5 (by decide) fl66 (fun _ h9 => h9) rfl dX7_cow_40 ?_
        refine lv_aload_n hx hb dX7_cow_43 rfl (lv_at hl 0 rfl) ?_
        refine va_get (D := D) (ci := 7) (v := .ref da) (C := RX7) (T := TX7) (N := 8) hx hb hts inX7 hown hK hP 0 rfl rfl 0 (by decide) fl12 (fun _ h9 => h9) rfl dX7_cow_44 ?_
        refine vp_callSi (W.runV (As := []) (rest := [.ref anw]) ⟨hx, hb, hml, hown, hts⟩ (c_X0_allCows l D G da ami aki afi anw apa cows_1 tasters newest known _ hw) (cwV 0 hts gX7_cow_X0_allCows rfl rfl rfl (by decide +kernel) ⟨(Nat.le_of_ble_eq_true rfl), (Nat.le_of_ble_eq_true rfl)⟩) (xR_pv (hP.sub [1] rfl) hK (va_recv hK hP (ci := 0) (q0 := 1) rfl rfl)) rfl rfl hl.1 rfl (lv_room (Nat.le_of_ble_eq_true rfl)) dX7_cow_47 ⟨Nat.zero_le _, Nat.zero_le _⟩) (fun r2 hw => ?_)
        refine va_put (D := D) (ci := 1) (v := .int r2) (ty := .int) (C := RX1) (T := TX1) (N := 4) hx hb hts inX1 tyX1 tyX1_ok nmX1 hown hK hP hD hS 3 rfl rfl 0 (by decide) fl74 (fun _ h9 => h9) rfl (by decide +kernel) rfl rfl (Nat.le_of_ble_eq_true rfl) dX7_cow_50 (fun H locs hP hD hS => ?_)
        replace hP : va_P D vwCl [(x_xo, .inr (7, [.ref da, .ref k_da, .int x_isKept, .ref t_ta, .ref p_pl, .ref r_tr, .ref w_ro, .ref x_ash])), (da, .inr (0, [.ref ami, .int cows_1, .ref aki, .ref afi, .int tasters, .ref anw, .ref apa, .int newest, .int known])), (ami, .inl (G 0, 8, .inl milks_1)), (anw, .inr (1, [.int r2, .int bearer, .int day, .int draw]))] H := hP
        replace hD : va_D A [(x_xo, .inr (7, [.ref da, .ref k_da, .int x_isKept, .ref t_ta, .ref p_pl, .ref r_tr, .ref w_ro, .ref x_ash])), (da, .inr (0, [.ref ami, .int cows_1, .ref aki, .ref afi, .int tasters, .ref anw, .ref apa, .int newest, .int known])), (ami, .inl (G 0, 8, .inl milks_1)), (anw, .inr (1, [.int r2, .int bearer, .int day, .int draw]))] := hD
        refine lv_aload_n hx hb dX7_cow_53 rfl (lv_at hl 0 rfl) ?_
        refine va_get (D := D) (ci := 7) (v := .ref da) (C := RX7) (T := TX7) (N := 8) hx hb hts inX7 hown hK hP 0 rfl rfl 0 (by decide) fl12 (fun _ h9 => h9) rfl dX7_cow_54 ?_
        refine lv_iconst (v := 0) hx hb dX7_cow_57 (by decide) ?_
        refine va_put (D := D) (ci := 0) (v := .int (0 : Int32)) (ty := .int) (C := RX0) (T := TX0) (N := 9) hx hb hts inX0 tyX0 tyX0_ok nmX0 hown hK hP hD hS 1 rfl rfl 8 (by decide) fl79 (fun _ h9 => h9) rfl (by decide +kernel) rfl rfl (Nat.le_of_ble_eq_true rfl) dX7_cow_58 (fun H locs hP hD hS => ?_)
        replace hP : va_P D vwCl [(x_xo, .inr (7, [.ref da, .ref k_da, .int x_isKept, .ref t_ta, .ref p_pl, .ref r_tr, .ref w_ro, .ref x_ash])), (da, .inr (0, [.ref ami, .int cows_1, .ref aki, .ref afi, .int tasters, .ref anw, .ref apa, .int newest, .int (0 : Int32)])), (ami, .inl (G 0, 8, .inl milks_1)), (anw, .inr (1, [.int r2, .int bearer, .int day, .int draw]))] H := hP
        replace hD : va_D A [(x_xo, .inr (7, [.ref da, .ref k_da, .int x_isKept, .ref t_ta, .ref p_pl, .ref r_tr, .ref w_ro, .ref x_ash])), (da, .inr (0, [.ref ami, .int cows_1, .ref aki, .ref afi, .int tasters, .ref anw, .ref apa, .int newest, .int (0 : Int32)])), (ami, .inl (G 0, 8, .inl milks_1)), (anw, .inr (1, [.int r2, .int bearer, .int day, .int draw]))] := hD
        refine lv_aload_n hx hb dX7_cow_61 rfl (lv_at hl 0 rfl) ?_
        refine va_get (D := D) (ci := 7) (v := .ref da) (C := RX7) (T := TX7) (N := 8) hx hb hts inX7 hown hK hP 0 rfl rfl 0 (by decide) fl12 (fun _ h9 => h9) rfl dX7_cow_62 ?_
        refine va_get (D := D) (ci := 0) (v := .int cows_1) (C := RX0) (T := TX0) (N := 9) hx hb hts inX0 hown hK hP 1 rfl rfl 1 (by decide) fl58 (fun _ h9 => h9) rfl dX7_cow_65 ?_
        refine lv_iconst (v := 1) hx hb dX7_cow_68 (by decide) ?_
        refine lv_isub hx hb dX7_cow_69 ?_
        exact W.iret hx hb hr (x_mi (u := (cows_1, (0 : Int32), milks_1, r2)) hP hK hD hS hw) hS.2.2 dX7_cow_70
      · replace hw := hw.2 c9
        refine lv_bipush (v := -3) hx hb dX7_cow_25 (by decide) ?_
        exact W.iret hx hb hr (x_mi (u := (cows, known, milks, mayBe)) hP hK hD hS hw) hS.2.2 dX7_cow_27
    · replace hw := hw.2 c9
      refine lv_iconst (v := -1) hx hb dX7_cow_11 (by decide) ?_
      exact W.iret hx hb hr (x_mi (u := (cows, known, milks, mayBe)) hP hK hD hS hw) hS.2.2 dX7_cow_12
set_option maxHeartbeats 4000000 in
set_option maxRecDepth 100000 in
theorem c_X7_taster (l : Launch) (D : va_G) (G : Nat → ClassId) (sz : Nat) (x_xo : Nat) (da : Nat) (k_da : Nat) (t_ta : Nat) (p_pl : Nat) (r_tr : Nat) (w_ro : Nat) (x_ash : Nat) (ami : Nat) (aki : Nat) (afi : Nat) (anw : Nat) (apa : Nat) (x_isKept : Int32) (cows : Int32) (tasters : Int32) (newest : Int32) (known : Int32) (kinds : Nat → Int32) (fines : Nat → Int32) (x1 : Int32) (x2 : Int32) (post : Int32 → Int32 → Int32 → (Nat → Int32) → (Nat → Int32) → Prop) (hw : wp_X7_taster tasters known kinds fines x1 x2 post) : Met l yX7_taster wsX7_taster ({ frames := 1, cells := 0, slots := 0, locals := 22 } : Room) (va_Pc [.ref x_xo, .int x1, .int x2] (xM D G sz [(x_xo, .inr (7, [.ref da, .ref k_da, .int x_isKept, .ref t_ta, .ref p_pl, .ref r_tr, .ref w_ro, .ref x_ash])), (da, .inr (0, [.ref ami, .int cows, .ref aki, .ref afi, .int tasters, .ref anw, .ref apa, .int newest, .int known])), (aki, .inl (G 0, 4, .inl kinds)), (afi, .inl (G 0, 4, .inl fines))])) (va_Qi (fun r (u : Int32 × Int32 × (Nat → Int32) × (Nat → Int32)) => post r u.1 u.2.1 u.2.2.1 u.2.2.2) (fun u t => xE D G (va_A [(x_xo, .inr (7, [.ref da, .ref k_da, .int x_isKept, .ref t_ta, .ref p_pl, .ref r_tr, .ref w_ro, .ref x_ash])), (da, .inr (0, [.ref ami, .int cows, .ref aki, .ref afi, .int tasters, .ref anw, .ref apa, .int newest, .int known])), (aki, .inl (G 0, 4, .inl kinds)), (afi, .inl (G 0, 4, .inl fines))] sz) [(x_xo, .inr (7, [.ref da, .ref k_da, .int x_isKept, .ref t_ta, .ref p_pl, .ref r_tr, .ref w_ro, .ref x_ash])), (da, .inr (0, [.ref ami, .int cows, .ref aki, .ref afi, .int u.1, .ref anw, .ref apa, .int newest, .int u.2.1])), (aki, .inl (G 0, 4, .inl (u.2.2.1))), (afi, .inl (G 0, 4, .inl (u.2.2.2)))] t) (va_A [(x_xo, .inr (7, [.ref da, .ref k_da, .int x_isKept, .ref t_ta, .ref p_pl, .ref r_tr, .ref w_ro, .ref x_ash])), (da, .inr (0, [.ref ami, .int cows, .ref aki, .ref afi, .int tasters, .ref anw, .ref apa, .int newest, .int known])), (aki, .inl (G 0, 4, .inl kinds)), (afi, .inl (G 0, 4, .inl fines))] sz)) 0 0 (va_A [(x_xo, .inr (7, [.ref da, .ref k_da, .int x_isKept, .ref t_ta, .ref p_pl, .ref r_tr, .ref w_ro, .ref x_ash])), (da, .inr (0, [.ref ami, .int cows, .ref aki, .ref afi, .int tasters, .ref anw, .ref apa, .int newest, .int known])), (aki, .inl (G 0, 4, .inl kinds)), (afi, .inl (G 0, 4, .inl fines))] sz) := by
  refine Met.ofW (cc := cX7_taster) (maxL := 3) (ret := (some .int)) (by decide) rfl ?_
  intro p e s m args below meth c s₁ B hml hv
  obtain ⟨rfl, hsz, hP, hK, hD0⟩ := hv
  have hx := B.exec
  have hb := B.bytes
  have hr := B.returns
  have hts := atoms_spec (ws := wsX7_taster) B.pre
  have hown : s.vm.findClass RX7 = some m.cls := findClass_of_methodNamed B.named
  have hlocks := B.notSynchronized
  subst hsz
  have hD := hD0.self (sz := s.heap.size)
  generalize hAe : va_A [(x_xo, .inr (7, [.ref da, .ref k_da, .int x_isKept, .ref t_ta, .ref p_pl, .ref r_tr, .ref w_ro, .ref x_ash])), (da, .inr (0, [.ref ami, .int cows, .ref aki, .ref afi, .int tasters, .ref anw, .ref apa, .int newest, .int known])), (aki, .inl (G 0, 4, .inl kinds)), (afi, .inl (G 0, 4, .inl fines))] s.heap.size = A at hD ⊢
  have hA : ∀ q : Nat, s.heap.size ≤ q → A q := fun q h => by rw [← hAe]; exact Or.inr h
  have hS : va_S A s.heap s.heap [] := va_S.rf
  have inX0 : ∀ w ∈ wsX00, w ∈ wsX7_taster := by decide +kernel
  have inX7 : ∀ w ∈ wsX70, w ∈ wsX7_taster := by decide +kernel
  have fl12 := hts (.fieldLink RX7 12 "NewsCow" "dairy" "LNewsCow$Dairy;") (by decide +kernel)
  have fl82 := hts (.fieldLink RX7 82 "NewsCow$Dairy" "tasters" "I") (by decide +kernel)
  have fl79 := hts (.fieldLink RX7 79 "NewsCow$Dairy" "known" "I") (by decide +kernel)
  have hl := lv_entry ([.ref x_xo, .int x1, .int x2] : List Value) (n := 3) (Nat.le_of_ble_eq_true rfl)
  rw [lg_entry_eq]
  generalize (lg_sl ([.ref x_xo, .int x1, .int x2] : List Value) ++ List.replicate (3 - (lg_sl ([.ref x_xo, .int x1, .int x2] : List Value)).length) Slot.unset).toArray = ls at hl ⊢
  have hl : lv_has ls 3 [(0, .ref x_xo), (1, .int x1), (2, .int x2)] := hl
  unfold wp_X7_taster at hw
  refine lv_iload_n hx hb dX7_taster_0 rfl (lv_at hl 1 rfl) ?_
  refine lv_if_lt (tgt := 20) hx hb dX7_taster_1 (by decide) (fun c9 => ?_) (fun c9 => ?_)
  · replace hw := hw.1 c9
    refine lv_iconst (v := -1) hx hb dX7_taster_20 (by decide) ?_
    exact W.iret hx hb hr (x_mi (u := (tasters, known, kinds, fines)) hP hK hD hS hw) hS.2.2 dX7_taster_21
  · replace hw := hw.2 c9
    refine lv_iload_n hx hb dX7_taster_4 rfl (lv_at hl 1 rfl) ?_
    refine lv_iconst (v := 5) hx hb dX7_taster_5 (by decide) ?_
    refine lv_icmp_ge (tgt := 20) hx hb dX7_taster_6 (by decide) (fun c9 => ?_) (fun c9 => ?_)
    · replace hw := hw.1 c9
      refine lv_iconst (v := -1) hx hb dX7_taster_20 (by decide) ?_
      exact W.iret hx hb hr (x_mi (u := (tasters, known, kinds, fines)) hP hK hD hS hw) hS.2.2 dX7_taster_21
    · replace hw := hw.2 c9
      refine lv_iload_n hx hb dX7_taster_9 rfl (lv_at hl 2 rfl) ?_
      refine lv_iconst (v := 1) hx hb dX7_taster_10 (by decide) ?_
      refine lv_icmp_lt (tgt := 20) hx hb dX7_taster_11 (by decide) (fun c9 => ?_) (fun c9 => ?_)
      · replace hw := hw.1 c9
        refine lv_iconst (v := -1) hx hb dX7_taster_20 (by decide) ?_
        exact W.iret hx hb hr (x_mi (u := (tasters, known, kinds, fines)) hP hK hD hS hw) hS.2.2 dX7_taster_21
      · replace hw := hw.2 c9
        refine lv_iload_n hx hb dX7_taster_14 rfl (lv_at hl 2 rfl) ?_
        refine lv_bipush (v := 9) hx hb dX7_taster_15 (by decide) ?_
        refine lv_icmp_le (tgt := 22) hx hb dX7_taster_17 (by decide) (fun c9 => ?_) (fun c9 => ?_)
        · replace hw := hw.1 c9
          refine lv_aload_n hx hb dX7_taster_22 rfl (lv_at hl 0 rfl) ?_
          refine va_get (D := D) (ci := 7) (v := .ref da) (C := RX7) (T := TX7) (N := 8) hx hb hts inX7 hown hK hP 0 rfl rfl 0 (by decide) fl12 (fun _ h9 => h9) rfl dX7_taster_23 ?_
          refine va_get (D := D) (ci := 0) (v := .int tasters) (C := RX0) (T := TX0) (N := 9) hx hb hts inX0 hown hK hP 1 rfl rfl 4 (by decide) fl82 (fun _ h9 => h9) rfl dX7_taster_26 ?_
          refine lv_iconst (v := 4) hx hb dX7_taster_29 (by decide) ?_
          refine lv_icmp_lt (tgt := 36) hx hb dX7_taster_30 (by decide) (fun c9 => ?_) (fun c9 => ?_)
          · replace hw := hw.1 c9
            refine lv_aload_n hx hb dX7_taster_36 rfl (lv_at hl 0 rfl) ?_
            refine va_get (D := D) (ci := 7) (v := .ref da) (C := RX7) (T := TX7) (N := 8) hx hb hts inX7 hown hK hP 0 rfl rfl 0 (by decide) fl12 (fun _ h9 => h9) rfl dX7_taster_37 ?_
            refine lv_iload_n hx hb dX7_taster_40 rfl (lv_at hl 1 rfl) ?_
            refine lv_iload_n hx hb dX7_taster_41 rfl (lv_at hl 2 rfl) ?_
            refine x_cMv (wr := [(x_xo, .inr (7, [.ref da, .ref k_da, .int x_isKept, .ref t_ta, .ref p_pl, .ref r_tr, .ref w_ro, .ref x_ash]))]) (va_runV (As := [.int x1, .int x2]) (rest := []) ⟨hx, hb, hml, hown, hts⟩ (c_X0_addTaster l D G _ da ami aki afi anw apa cows tasters newest known kinds fines x1 x2 _ hw) (cwV 2 hts gX7_taster_X0_addTaster rfl rfl rfl (by decide +kernel) ⟨(Nat.le_of_ble_eq_true rfl), (Nat.le_of_ble_eq_true rfl)⟩) (xM_pv (hP.sub [1, 2, 3] rfl) hK (hD.sub [1, 2, 3] (by decide) rfl) (va_recv hK hP (ci := 0) (q0 := 1) rfl rfl)) rfl rfl hl.1 rfl (lv_room (Nat.le_of_ble_eq_true rfl)) dX7_taster_42 ⟨Nat.zero_le _, Nat.zero_le _⟩) hP hD hS hA [1, 2, 3] [0] rfl rfl (by decide) (by decide) [0, 1, 2, 3] (fun u => [(x_xo, .inr (7, [.ref da, .ref k_da, .int x_isKept, .ref t_ta, .ref p_pl, .ref r_tr, .ref w_ro, .ref x_ash])), (da, .inr (0, [.ref ami, .int cows, .ref aki, .ref afi, .int u.1, .ref anw, .ref apa, .int newest, .int known])), (aki, .inl (G 0, 4, .inl (u.2.1))), (afi, .inl (G 0, 4, .inl (u.2.2)))]) (by decide) (fun u => rfl) (fun u H locs hw hP hD hS => ?_)
            obtain ⟨tasters_1, kinds_1, fines_1⟩ := u
            try dsimp only at hw
            replace hP : va_P D vwCl [(x_xo, .inr (7, [.ref da, .ref k_da, .int x_isKept, .ref t_ta, .ref p_pl, .ref r_tr, .ref w_ro, .ref x_ash])), (da, .inr (0, [.ref ami, .int cows, .ref aki, .ref afi, .int tasters_1, .ref anw, .ref apa, .int newest, .int known])), (aki, .inl (G 0, 4, .inl kinds_1)), (afi, .inl (G 0, 4, .inl fines_1))] H := hP
            replace hD : va_D A [(x_xo, .inr (7, [.ref da, .ref k_da, .int x_isKept, .ref t_ta, .ref p_pl, .ref r_tr, .ref w_ro, .ref x_ash])), (da, .inr (0, [.ref ami, .int cows, .ref aki, .ref afi, .int tasters_1, .ref anw, .ref apa, .int newest, .int known])), (aki, .inl (G 0, 4, .inl kinds_1)), (afi, .inl (G 0, 4, .inl fines_1))] := hD
            refine lv_aload_n hx hb dX7_taster_45 rfl (lv_at hl 0 rfl) ?_
            refine va_get (D := D) (ci := 7) (v := .ref da) (C := RX7) (T := TX7) (N := 8) hx hb hts inX7 hown hK hP 0 rfl rfl 0 (by decide) fl12 (fun _ h9 => h9) rfl dX7_taster_46 ?_
            refine lv_iconst (v := 0) hx hb dX7_taster_49 (by decide) ?_
            refine va_put (D := D) (ci := 0) (v := .int (0 : Int32)) (ty := .int) (C := RX0) (T := TX0) (N := 9) hx hb hts inX0 tyX0 tyX0_ok nmX0 hown hK hP hD hS 1 rfl rfl 8 (by decide) fl79 (fun _ h9 => h9) rfl (by decide +kernel) rfl rfl (Nat.le_of_ble_eq_true rfl) dX7_taster_50 (fun H locs hP hD hS => ?_)
            replace hP : va_P D vwCl [(x_xo, .inr (7, [.ref da, .ref k_da, .int x_isKept, .ref t_ta, .ref p_pl, .ref r_tr, .ref w_ro, .ref x_ash])), (da, .inr (0, [.ref ami, .int cows, .ref aki, .ref afi, .int tasters_1, .ref anw, .ref apa, .int newest, .int (0 : Int32)])), (aki, .inl (G 0, 4, .inl kinds_1)), (afi, .inl (G 0, 4, .inl fines_1))] H := hP
            replace hD : va_D A [(x_xo, .inr (7, [.ref da, .ref k_da, .int x_isKept, .ref t_ta, .ref p_pl, .ref r_tr, .ref w_ro, .ref x_ash])), (da, .inr (0, [.ref ami, .int cows, .ref aki, .ref afi, .int tasters_1, .ref anw, .ref apa, .int newest, .int (0 : Int32)])), (aki, .inl (G 0, 4, .inl kinds_1)), (afi, .inl (G 0, 4, .inl fines_1))] := hD
            refine lv_aload_n hx hb dX7_taster_53 rfl (lv_at hl 0 rfl) ?_
            refine va_get (D := D) (ci := 7) (v := .ref da) (C := RX7) (T := TX7) (N := 8) hx hb hts inX7 hown hK hP 0 rfl rfl 0 (by decide) fl12 (fun _ h9 => h9) rfl dX7_taster_54 ?_
            refine va_get (D := D) (ci := 0) (v := .int tasters_1) (C := RX0) (T := TX0) (N := 9) hx hb hts inX0 hown hK hP 1 rfl rfl 4 (by decide) fl82 (fun _ h9 => h9) rfl dX7_taster_57 ?_
            refine lv_iconst (v := 1) hx hb dX7_taster_60 (by decide) ?_
            refine lv_isub hx hb dX7_taster_61 ?_
            exact W.iret hx hb hr (x_mi (u := (tasters_1, (0 : Int32), kinds_1, fines_1)) hP hK hD hS hw) hS.2.2 dX7_taster_62
          · replace hw := hw.2 c9
            refine lv_bipush (v := -3) hx hb dX7_taster_33 (by decide) ?_
            exact W.iret hx hb hr (x_mi (u := (tasters, known, kinds, fines)) hP hK hD hS hw) hS.2.2 dX7_taster_35
        · replace hw := hw.2 c9
          refine lv_iconst (v := -1) hx hb dX7_taster_20 (by decide) ?_
          exact W.iret hx hb hr (x_mi (u := (tasters, known, kinds, fines)) hP hK hD hS hw) hS.2.2 dX7_taster_21
set_option maxHeartbeats 4000000 in
set_option maxRecDepth 100000 in
theorem c_X7_isCow (l : Launch) (D : va_G) (G : Nat → ClassId) (x_xo : Nat) (da : Nat) (k_da : Nat) (t_ta : Nat) (p_pl : Nat) (r_tr : Nat) (w_ro : Nat) (x_ash : Nat) (ami : Nat) (aki : Nat) (afi : Nat) (anw : Nat) (apa : Nat) (x_isKept : Int32) (cows : Int32) (tasters : Int32) (newest : Int32) (known : Int32) (x1 : Int32) (post : Int32 → Prop) (hw : wp_X7_isCow cows x1 post) : Met l yX7_isCow wsX7_isCow ({ frames := 0, cells := 0, slots := 0, locals := 0 } : Room) (va_Pc [.ref x_xo, .int x1] (xR D G [(x_xo, .inr (7, [.ref da, .ref k_da, .int x_isKept, .ref t_ta, .ref p_pl, .ref r_tr, .ref w_ro, .ref x_ash])), (da, .inr (0, [.ref ami, .int cows, .ref aki, .ref afi, .int tasters, .ref anw, .ref apa, .int newest, .int known]))])) (vp_Si post) 0 0 (fun _ => False) := by
  refine Met.ofW (cc := cX7_isCow) (maxL := 2) (ret := (some .boolean)) (by decide) rfl ?_
  intro p e s m args below meth c s₁ B hml hv
  obtain ⟨rfl, hP, hK⟩ := hv
  have hx := B.exec
  have hb := B.bytes
  have hr := B.returns
  have hts := atoms_spec (ws := wsX7_isCow) B.pre
  have hown : s.vm.findClass RX7 = some m.cls := findClass_of_methodNamed B.named
  have hlocks := B.notSynchronized
  have inX0 : ∀ w ∈ wsX00, w ∈ wsX7_isCow := by decide +kernel
  have inX7 : ∀ w ∈ wsX70, w ∈ wsX7_isCow := by decide +kernel
  have fl12 := hts (.fieldLink RX7 12 "NewsCow" "dairy" "LNewsCow$Dairy;") (by decide +kernel)
  have fl58 := hts (.fieldLink RX7 58 "NewsCow$Dairy" "cows" "I") (by decide +kernel)
  have hl := lv_entry ([.ref x_xo, .int x1] : List Value) (n := 2) (Nat.le_of_ble_eq_true rfl)
  rw [lg_entry_eq]
  generalize (lg_sl ([.ref x_xo, .int x1] : List Value) ++ List.replicate (2 - (lg_sl ([.ref x_xo, .int x1] : List Value)).length) Slot.unset).toArray = ls at hl ⊢
  have hl : lv_has ls 2 [(0, .ref x_xo), (1, .int x1)] := hl
  unfold wp_X7_isCow at hw
  refine lv_iload_n hx hb dX7_isCow_0 rfl (lv_at hl 1 rfl) ?_
  refine lv_if_lt (tgt := 19) hx hb dX7_isCow_1 (by decide) (fun c9 => ?_) (fun c9 => ?_)
  · replace hw := hw.1 c9
    refine lv_iconst (v := 0) hx hb dX7_isCow_19 (by decide) ?_
    exact W.zret hx hb hr rfl (fun t ht _ => ⟨_, rfl, hw, ht⟩) (fun _ h => absurd h List.not_mem_nil) dX7_isCow_20
  · replace hw := hw.2 c9
    refine lv_iload_n hx hb dX7_isCow_4 rfl (lv_at hl 1 rfl) ?_
    refine lv_aload_n hx hb dX7_isCow_5 rfl (lv_at hl 0 rfl) ?_
    refine va_get (D := D) (ci := 7) (v := .ref da) (C := RX7) (T := TX7) (N := 8) hx hb hts inX7 hown hK hP 0 rfl rfl 0 (by decide) fl12 (fun _ h9 => h9) rfl dX7_isCow_6 ?_
    refine va_get (D := D) (ci := 0) (v := .int cows) (C := RX0) (T := TX0) (N := 9) hx hb hts inX0 hown hK hP 1 rfl rfl 1 (by decide) fl58 (fun _ h9 => h9) rfl dX7_isCow_9 ?_
    refine lv_icmp_ge (tgt := 19) hx hb dX7_isCow_12 (by decide) (fun c9 => ?_) (fun c9 => ?_)
    · replace hw := hw.1 c9
      refine lv_iconst (v := 0) hx hb dX7_isCow_19 (by decide) ?_
      exact W.zret hx hb hr rfl (fun t ht _ => ⟨_, rfl, hw, ht⟩) (fun _ h => absurd h List.not_mem_nil) dX7_isCow_20
    · replace hw := hw.2 c9
      refine lv_iconst (v := 1) hx hb dX7_isCow_15 (by decide) ?_
      refine lv_goto (tgt := 20) hx hb dX7_isCow_16 (by decide) ?_
      exact W.zret hx hb hr rfl (fun t ht _ => ⟨_, rfl, hw, ht⟩) (fun _ h => absurd h List.not_mem_nil) dX7_isCow_20
set_option maxHeartbeats 4000000 in
set_option maxRecDepth 100000 in
theorem c_X7_milk (l : Launch) (D : va_G) (G : Nat → ClassId) (sz : Nat) (x_xo : Nat) (da : Nat) (k_da : Nat) (t_ta : Nat) (p_pl : Nat) (r_tr : Nat) (w_ro : Nat) (x_ash : Nat) (ami : Nat) (aki : Nat) (afi : Nat) (anw : Nat) (apa : Nat) (x_isKept : Int32) (cows : Int32) (tasters : Int32) (newest : Int32) (known : Int32) (milks : Nat → Int32) (x1 : Int32) (x2 : Int32) (post : Int32 → (Nat → Int32) → Prop) (hw : wp_X7_milk cows milks x1 x2 post) : Met l yX7_milk wsX7_milk ({ frames := 1, cells := 0, slots := 0, locals := 21 } : Room) (va_Pc [.ref x_xo, .int x1, .int x2] (xM D G sz [(x_xo, .inr (7, [.ref da, .ref k_da, .int x_isKept, .ref t_ta, .ref p_pl, .ref r_tr, .ref w_ro, .ref x_ash])), (da, .inr (0, [.ref ami, .int cows, .ref aki, .ref afi, .int tasters, .ref anw, .ref apa, .int newest, .int known])), (ami, .inl (G 0, 8, .inl milks))])) (va_Qi (fun r (u : (Nat → Int32)) => post r u) (fun u t => xE D G (va_A [(x_xo, .inr (7, [.ref da, .ref k_da, .int x_isKept, .ref t_ta, .ref p_pl, .ref r_tr, .ref w_ro, .ref x_ash])), (da, .inr (0, [.ref ami, .int cows, .ref aki, .ref afi, .int tasters, .ref anw, .ref apa, .int newest, .int known])), (ami, .inl (G 0, 8, .inl milks))] sz) [(x_xo, .inr (7, [.ref da, .ref k_da, .int x_isKept, .ref t_ta, .ref p_pl, .ref r_tr, .ref w_ro, .ref x_ash])), (da, .inr (0, [.ref ami, .int cows, .ref aki, .ref afi, .int tasters, .ref anw, .ref apa, .int newest, .int known])), (ami, .inl (G 0, 8, .inl u))] t) (va_A [(x_xo, .inr (7, [.ref da, .ref k_da, .int x_isKept, .ref t_ta, .ref p_pl, .ref r_tr, .ref w_ro, .ref x_ash])), (da, .inr (0, [.ref ami, .int cows, .ref aki, .ref afi, .int tasters, .ref anw, .ref apa, .int newest, .int known])), (ami, .inl (G 0, 8, .inl milks))] sz)) 0 0 (va_A [(x_xo, .inr (7, [.ref da, .ref k_da, .int x_isKept, .ref t_ta, .ref p_pl, .ref r_tr, .ref w_ro, .ref x_ash])), (da, .inr (0, [.ref ami, .int cows, .ref aki, .ref afi, .int tasters, .ref anw, .ref apa, .int newest, .int known])), (ami, .inl (G 0, 8, .inl milks))] sz) := by
  refine Met.ofW (cc := cX7_milk) (maxL := 4) (ret := (some .int)) (by decide) rfl ?_
  intro p e s m args below meth c s₁ B hml hv
  obtain ⟨rfl, hsz, hP, hK, hD0⟩ := hv
  have hx := B.exec
  have hb := B.bytes
  have hr := B.returns
  have hts := atoms_spec (ws := wsX7_milk) B.pre
  have hown : s.vm.findClass RX7 = some m.cls := findClass_of_methodNamed B.named
  have hlocks := B.notSynchronized
  subst hsz
  have hD := hD0.self (sz := s.heap.size)
  generalize hAe : va_A [(x_xo, .inr (7, [.ref da, .ref k_da, .int x_isKept, .ref t_ta, .ref p_pl, .ref r_tr, .ref w_ro, .ref x_ash])), (da, .inr (0, [.ref ami, .int cows, .ref aki, .ref afi, .int tasters, .ref anw, .ref apa, .int newest, .int known])), (ami, .inl (G 0, 8, .inl milks))] s.heap.size = A at hD ⊢
  have hA : ∀ q : Nat, s.heap.size ≤ q → A q := fun q h => by rw [← hAe]; exact Or.inr h
  have hS : va_S A s.heap s.heap [] := va_S.rf
  have inX0 : ∀ w ∈ wsX00, w ∈ wsX7_milk := by decide +kernel
  have inX7 : ∀ w ∈ wsX70, w ∈ wsX7_milk := by decide +kernel
  have fl12 := hts (.fieldLink RX7 12 "NewsCow" "dairy" "LNewsCow$Dairy;") (by decide +kernel)
  have fl93 := hts (.fieldLink RX7 93 "NewsCow$Dairy" "milks" "[I") (by decide +kernel)
  have hl := lv_entry ([.ref x_xo, .int x1, .int x2] : List Value) (n := 4) (Nat.le_of_ble_eq_true rfl)
  rw [lg_entry_eq]
  generalize (lg_sl ([.ref x_xo, .int x1, .int x2] : List Value) ++ List.replicate (4 - (lg_sl ([.ref x_xo, .int x1, .int x2] : List Value)).length) Slot.unset).toArray = ls at hl ⊢
  have hl : lv_has ls 4 [(0, .ref x_xo), (1, .int x1), (2, .int x2)] := hl
  unfold wp_X7_milk at hw
  refine lv_aload_n hx hb dX7_milk_0 rfl (lv_at hl 0 rfl) ?_
  refine lv_iload_n hx hb dX7_milk_1 rfl (lv_at hl 1 rfl) ?_
  refine vp_callSi (W.runV (As := [.int x1]) (rest := []) ⟨hx, hb, hml, hown, hts⟩ (c_X7_isCow l D G x_xo da k_da t_ta p_pl r_tr w_ro x_ash ami aki afi anw apa x_isKept cows tasters newest known x1 _ hw) (cwV 1 hts gX7_milk_X7_isCow rfl rfl rfl (by decide +kernel) ⟨(Nat.le_of_ble_eq_true rfl), (Nat.le_of_ble_eq_true rfl)⟩) (xR_pv (hP.sub [0, 1] rfl) hK (va_recv hK hP (ci := 7) (q0 := 0) rfl rfl)) rfl rfl hl.1 rfl (lv_room (Nat.le_of_ble_eq_true rfl)) dX7_milk_2 ⟨Nat.zero_le _, Nat.zero_le _⟩) (fun r1 hw => ?_)
  refine lv_if_eq (tgt := 19) hx hb dX7_milk_5 (by decide) (fun c9 => ?_) (fun c9 => ?_)
  · replace hw := hw.1 c9
    refine lv_iconst (v := -1) hx hb dX7_milk_19 (by decide) ?_
    exact W.iret hx hb hr (x_mi (u := milks) hP hK hD hS hw) hS.2.2 dX7_milk_20
  · replace hw := hw.2 c9
    refine lv_iload_n hx hb dX7_milk_8 rfl (lv_at hl 2 rfl) ?_
    refine lv_iconst (v := 1) hx hb dX7_milk_9 (by decide) ?_
    refine lv_icmp_lt (tgt := 19) hx hb dX7_milk_10 (by decide) (fun c9 => ?_) (fun c9 => ?_)
    · replace hw := hw.1 c9
      refine lv_iconst (v := -1) hx hb dX7_milk_19 (by decide) ?_
      exact W.iret hx hb hr (x_mi (u := milks) hP hK hD hS hw) hS.2.2 dX7_milk_20
    · replace hw := hw.2 c9
      refine lv_iload_n hx hb dX7_milk_13 rfl (lv_at hl 2 rfl) ?_
      refine lv_bipush (v := 9) hx hb dX7_milk_14 (by decide) ?_
      refine lv_icmp_le (tgt := 21) hx hb dX7_milk_16 (by decide) (fun c9 => ?_) (fun c9 => ?_)
      · replace hw := hw.1 c9
        refine lv_aload_n hx hb dX7_milk_21 rfl (lv_at hl 0 rfl) ?_
        refine va_get (D := D) (ci := 7) (v := .ref da) (C := RX7) (T := TX7) (N := 8) hx hb hts inX7 hown hK hP 0 rfl rfl 0 (by decide) fl12 (fun _ h9 => h9) rfl dX7_milk_22 ?_
        refine va_get (D := D) (ci := 0) (v := .ref ami) (C := RX0) (T := TX0) (N := 9) hx hb hts inX0 hown hK hP 1 rfl rfl 0 (by decide) fl93 (fun _ h9 => h9) rfl dX7_milk_25 ?_
        refine lv_iload_n hx hb dX7_milk_28 rfl (lv_at hl 1 rfl) ?_
        refine x_iald (j := x1.toNatClampNeg) hx hb hK hP 2 0 rfl rfl rfl hw.1 dX7_milk_29 ?_
        replace hw := hw.2
        refine lv_istore_n (lv' := [(3, .int (milks x1.toNatClampNeg)), (0, .ref x_xo), (1, .int x1), (2, .int x2)]) hx hb dX7_milk_30 rfl hl (by decide) rfl (fun ls hl => ?_)
        refine lv_aload_n hx hb dX7_milk_31 rfl (lv_at hl 1 rfl) ?_
        refine va_get (D := D) (ci := 7) (v := .ref da) (C := RX7) (T := TX7) (N := 8) hx hb hts inX7 hown hK hP 0 rfl rfl 0 (by decide) fl12 (fun _ h9 => h9) rfl dX7_milk_32 ?_
        refine va_get (D := D) (ci := 0) (v := .ref ami) (C := RX0) (T := TX0) (N := 9) hx hb hts inX0 hown hK hP 1 rfl rfl 0 (by decide) fl93 (fun _ h9 => h9) rfl dX7_milk_35 ?_
        refine lv_iload_n hx hb dX7_milk_38 rfl (lv_at hl 2 rfl) ?_
        refine lv_iload_n hx hb dX7_milk_39 rfl (lv_at hl 3 rfl) ?_
        refine x_iast (j := x1.toNatClampNeg) hx hb hK hP hD hS 2 0 rfl rfl rfl hw.1 dX7_milk_40 (fun H locs hP hD hS => ?_)
        replace hw := hw.2
        replace hP : va_P D vwCl [(x_xo, .inr (7, [.ref da, .ref k_da, .int x_isKept, .ref t_ta, .ref p_pl, .ref r_tr, .ref w_ro, .ref x_ash])), (da, .inr (0, [.ref ami, .int cows, .ref aki, .ref afi, .int tasters, .ref anw, .ref apa, .int newest, .int known])), (ami, .inl (G 0, 8, .inl (upd milks x1.toNatClampNeg x2)))] H := hP
        replace hD : va_D A [(x_xo, .inr (7, [.ref da, .ref k_da, .int x_isKept, .ref t_ta, .ref p_pl, .ref r_tr, .ref w_ro, .ref x_ash])), (da, .inr (0, [.ref ami, .int cows, .ref aki, .ref afi, .int tasters, .ref anw, .ref apa, .int newest, .int known])), (ami, .inl (G 0, 8, .inl (upd milks x1.toNatClampNeg x2)))] := hD
        refine lv_iload_n hx hb dX7_milk_41 rfl (lv_at hl 0 rfl) ?_
        exact W.iret hx hb hr (x_mi (u := (upd milks x1.toNatClampNeg x2)) hP hK hD hS hw) hS.2.2 dX7_milk_42
      · replace hw := hw.2 c9
        refine lv_iconst (v := -1) hx hb dX7_milk_19 (by decide) ?_
        exact W.iret hx hb hr (x_mi (u := milks) hP hK hD hS hw) hS.2.2 dX7_milk_20
set_option maxHeartbeats 4000000 in
set_option maxRecDepth 100000 in
theorem c_X7_isTaster (l : Launch) (D : va_G) (G : Nat → ClassId) (x_xo : Nat) (da : Nat) (k_da : Nat) (t_ta : Nat) (p_pl : Nat) (r_tr : Nat) (w_ro : Nat) (x_ash : Nat) (ami : Nat) (aki : Nat) (afi : Nat) (anw : Nat) (apa : Nat) (x_isKept : Int32) (cows : Int32) (tasters : Int32) (newest : Int32) (known : Int32) (x1 : Int32) (post : Int32 → Prop) (hw : wp_X7_isTaster tasters x1 post) : Met l yX7_isTaster wsX7_isTaster ({ frames := 0, cells := 0, slots := 0, locals := 0 } : Room) (va_Pc [.ref x_xo, .int x1] (xR D G [(x_xo, .inr (7, [.ref da, .ref k_da, .int x_isKept, .ref t_ta, .ref p_pl, .ref r_tr, .ref w_ro, .ref x_ash])), (da, .inr (0, [.ref ami, .int cows, .ref aki, .ref afi, .int tasters, .ref anw, .ref apa, .int newest, .int known]))])) (vp_Si post) 0 0 (fun _ => False) := by
  refine Met.ofW (cc := cX7_isTaster) (maxL := 2) (ret := (some .boolean)) (by decide) rfl ?_
  intro p e s m args below meth c s₁ B hml hv
  obtain ⟨rfl, hP, hK⟩ := hv
  have hx := B.exec
  have hb := B.bytes
  have hr := B.returns
  have hts := atoms_spec (ws := wsX7_isTaster) B.pre
  have hown : s.vm.findClass RX7 = some m.cls := findClass_of_methodNamed B.named
  have hlocks := B.notSynchronized
  have inX0 : ∀ w ∈ wsX00, w ∈ wsX7_isTaster := by decide +kernel
  have inX7 : ∀ w ∈ wsX70, w ∈ wsX7_isTaster := by decide +kernel
  have fl12 := hts (.fieldLink RX7 12 "NewsCow" "dairy" "LNewsCow$Dairy;") (by decide +kernel)
  have fl82 := hts (.fieldLink RX7 82 "NewsCow$Dairy" "tasters" "I") (by decide +kernel)
  have hl := lv_entry ([.ref x_xo, .int x1] : List Value) (n := 2) (Nat.le_of_ble_eq_true rfl)
  rw [lg_entry_eq]
  generalize (lg_sl ([.ref x_xo, .int x1] : List Value) ++ List.replicate (2 - (lg_sl ([.ref x_xo, .int x1] : List Value)).length) Slot.unset).toArray = ls at hl ⊢
  have hl : lv_has ls 2 [(0, .ref x_xo), (1, .int x1)] := hl
  unfold wp_X7_isTaster at hw
  refine lv_iload_n hx hb dX7_isTaster_0 rfl (lv_at hl 1 rfl) ?_
  refine lv_if_lt (tgt := 19) hx hb dX7_isTaster_1 (by decide) (fun c9 => ?_) (fun c9 => ?_)
  · replace hw := hw.1 c9
    refine lv_iconst (v := 0) hx hb dX7_isTaster_19 (by decide) ?_
    exact W.zret hx hb hr rfl (fun t ht _ => ⟨_, rfl, hw, ht⟩) (fun _ h => absurd h List.not_mem_nil) dX7_isTaster_20
  · replace hw := hw.2 c9
    refine lv_iload_n hx hb dX7_isTaster_4 rfl (lv_at hl 1 rfl) ?_
    refine lv_aload_n hx hb dX7_isTaster_5 rfl (lv_at hl 0 rfl) ?_
    refine va_get (D := D) (ci := 7) (v := .ref da) (C := RX7) (T := TX7) (N := 8) hx hb hts inX7 hown hK hP 0 rfl rfl 0 (by decide) fl12 (fun _ h9 => h9) rfl dX7_isTaster_6 ?_
    refine va_get (D := D) (ci := 0) (v := .int tasters) (C := RX0) (T := TX0) (N := 9) hx hb hts inX0 hown hK hP 1 rfl rfl 4 (by decide) fl82 (fun _ h9 => h9) rfl dX7_isTaster_9 ?_
    refine lv_icmp_ge (tgt := 19) hx hb dX7_isTaster_12 (by decide) (fun c9 => ?_) (fun c9 => ?_)
    · replace hw := hw.1 c9
      refine lv_iconst (v := 0) hx hb dX7_isTaster_19 (by decide) ?_
      exact W.zret hx hb hr rfl (fun t ht _ => ⟨_, rfl, hw, ht⟩) (fun _ h => absurd h List.not_mem_nil) dX7_isTaster_20
    · replace hw := hw.2 c9
      refine lv_iconst (v := 1) hx hb dX7_isTaster_15 (by decide) ?_
      refine lv_goto (tgt := 20) hx hb dX7_isTaster_16 (by decide) ?_
      exact W.zret hx hb hr rfl (fun t ht _ => ⟨_, rfl, hw, ht⟩) (fun _ h => absurd h List.not_mem_nil) dX7_isTaster_20
set_option maxHeartbeats 4000000 in
set_option maxRecDepth 100000 in
theorem c_X7_isEither (l : Launch) (D : va_G) (G : Nat → ClassId) (x0 : Int32) (post : Int32 → Prop) (hw : wp_X7_isEither x0 post) : Met l yX7_isEither wsX7_isEither ({ frames := 0, cells := 0, slots := 0, locals := 0 } : Room) (va_Pc [.int x0] (xR D G [])) (vp_Si post) 0 0 (fun _ => False) := by
  refine Met.ofW (cc := cX7_isEither) (maxL := 1) (ret := (some .boolean)) (by decide) rfl ?_
  intro p e s m args below meth c s₁ B hml hv
  obtain ⟨rfl, hP, hK⟩ := hv
  have hx := B.exec
  have hb := B.bytes
  have hr := B.returns
  have hts := atoms_spec (ws := wsX7_isEither) B.pre
  have hown : s.vm.findClass RX7 = some m.cls := findClass_of_methodNamed B.named
  have hlocks := B.notSynchronized
  have hl := lv_entry ([.int x0] : List Value) (n := 1) (Nat.le_of_ble_eq_true rfl)
  rw [lg_entry_eq]
  generalize (lg_sl ([.int x0] : List Value) ++ List.replicate (1 - (lg_sl ([.int x0] : List Value)).length) Slot.unset).toArray = ls at hl ⊢
  have hl : lv_has ls 1 [(0, .int x0)] := hl
  unfold wp_X7_isEither at hw
  refine lv_iload_n hx hb dX7_isEither_0 rfl (lv_at hl 0 rfl) ?_
  refine lv_if_eq (tgt := 9) hx hb dX7_isEither_1 (by decide) (fun c9 => ?_) (fun c9 => ?_)
  · replace hw := hw.1 c9
    refine lv_iconst (v := 1) hx hb dX7_isEither_9 (by decide) ?_
    refine lv_goto (tgt := 14) hx hb dX7_isEither_10 (by decide) ?_
    exact W.zret hx hb hr rfl (fun t ht _ => ⟨_, rfl, hw, ht⟩) (fun _ h => absurd h List.not_mem_nil) dX7_isEither_14
  · replace hw := hw.2 c9
    refine lv_iload_n hx hb dX7_isEither_4 rfl (lv_at hl 0 rfl) ?_
    refine lv_iconst (v := 1) hx hb dX7_isEither_5 (by decide) ?_
    refine lv_icmp_ne (tgt := 13) hx hb dX7_isEither_6 (by decide) (fun c9 => ?_) (fun c9 => ?_)
    · replace hw := hw.1 c9
      refine lv_iconst (v := 0) hx hb dX7_isEither_13 (by decide) ?_
      exact W.zret hx hb hr rfl (fun t ht _ => ⟨_, rfl, hw, ht⟩) (fun _ h => absurd h List.not_mem_nil) dX7_isEither_14
    · replace hw := hw.2 c9
      refine lv_iconst (v := 1) hx hb dX7_isEither_9 (by decide) ?_
      refine lv_goto (tgt := 14) hx hb dX7_isEither_10 (by decide) ?_
      exact W.zret hx hb hr rfl (fun t ht _ => ⟨_, rfl, hw, ht⟩) (fun _ h => absurd h List.not_mem_nil) dX7_isEither_14
set_option maxHeartbeats 4000000 in
set_option maxRecDepth 100000 in
theorem c_X7_at (l : Launch) (D : va_G) (G : Nat → ClassId) (x_xo : Nat) (da : Nat) (k_da : Nat) (t_ta : Nat) (p_pl : Nat) (r_tr : Nat) (w_ro : Nat) (x_ash : Nat) (ami : Nat) (aki : Nat) (afi : Nat) (anw : Nat) (apa : Nat) (x_isKept : Int32) (cows : Int32) (tasters : Int32) (newest : Int32) (known : Int32) (kinds : Nat → Int32) (fines : Nat → Int32) (x1 : Int32) (x2 : Int32) (post : Int32 → Prop) (hw : wp_X7_at tasters kinds fines x1 x2 post) : Met l yX7_at wsX7_at ({ frames := 1, cells := 0, slots := 0, locals := 21 } : Room) (va_Pc [.ref x_xo, .int x1, .int x2] (xR D G [(x_xo, .inr (7, [.ref da, .ref k_da, .int x_isKept, .ref t_ta, .ref p_pl, .ref r_tr, .ref w_ro, .ref x_ash])), (da, .inr (0, [.ref ami, .int cows, .ref aki, .ref afi, .int tasters, .ref anw, .ref apa, .int newest, .int known])), (aki, .inl (G 0, 4, .inl kinds)), (afi, .inl (G 0, 4, .inl fines))])) (vp_Si post) 0 0 (fun _ => False) := by
  refine Met.ofW (cc := cX7_at) (maxL := 3) (ret := (some .int)) (by decide) rfl ?_
  intro p e s m args below meth c s₁ B hml hv
  obtain ⟨rfl, hP, hK⟩ := hv
  have hx := B.exec
  have hb := B.bytes
  have hr := B.returns
  have hts := atoms_spec (ws := wsX7_at) B.pre
  have hown : s.vm.findClass RX7 = some m.cls := findClass_of_methodNamed B.named
  have hlocks := B.notSynchronized
  have inX0 : ∀ w ∈ wsX00, w ∈ wsX7_at := by decide +kernel
  have inX7 : ∀ w ∈ wsX70, w ∈ wsX7_at := by decide +kernel
  have fl12 := hts (.fieldLink RX7 12 "NewsCow" "dairy" "LNewsCow$Dairy;") (by decide +kernel)
  have fl106 := hts (.fieldLink RX7 106 "NewsCow$Dairy" "fines" "[I") (by decide +kernel)
  have fl103 := hts (.fieldLink RX7 103 "NewsCow$Dairy" "kinds" "[I") (by decide +kernel)
  have hl := lv_entry ([.ref x_xo, .int x1, .int x2] : List Value) (n := 3) (Nat.le_of_ble_eq_true rfl)
  rw [lg_entry_eq]
  generalize (lg_sl ([.ref x_xo, .int x1, .int x2] : List Value) ++ List.replicate (3 - (lg_sl ([.ref x_xo, .int x1, .int x2] : List Value)).length) Slot.unset).toArray = ls at hl ⊢
  have hl : lv_has ls 3 [(0, .ref x_xo), (1, .int x1), (2, .int x2)] := hl
  unfold wp_X7_at at hw
  refine lv_aload_n hx hb dX7_at_0 rfl (lv_at hl 0 rfl) ?_
  refine lv_iload_n hx hb dX7_at_1 rfl (lv_at hl 1 rfl) ?_
  refine vp_callSi (W.runV (As := [.int x1]) (rest := []) ⟨hx, hb, hml, hown, hts⟩ (c_X7_isTaster l D G x_xo da k_da t_ta p_pl r_tr w_ro x_ash ami aki afi anw apa x_isKept cows tasters newest known x1 _ hw) (cwV 1 hts gX7_at_X7_isTaster rfl rfl rfl (by decide +kernel) ⟨(Nat.le_of_ble_eq_true rfl), (Nat.le_of_ble_eq_true rfl)⟩) (xR_pv (hP.sub [0, 1] rfl) hK (va_recv hK hP (ci := 7) (q0 := 0) rfl rfl)) rfl rfl hl.1 rfl (lv_room (Nat.le_of_ble_eq_true rfl)) dX7_at_2 ⟨Nat.zero_le _, Nat.zero_le _⟩) (fun r1 hw => ?_)
  refine lv_if_eq (tgt := 15) hx hb dX7_at_5 (by decide) (fun c9 => ?_) (fun c9 => ?_)
  · replace hw := hw.1 c9
    refine lv_iconst (v := -1) hx hb dX7_at_15 (by decide) ?_
    exact W.iret hx hb hr (fun t ht _ => ⟨_, rfl, hw, ht⟩) (fun _ h => absurd h List.not_mem_nil) dX7_at_16
  · replace hw := hw.2 c9
    refine lv_iload_n hx hb dX7_at_8 rfl (lv_at hl 2 rfl) ?_
    refine vp_callSi (W.runS (As := [.int x2]) (rest := []) ⟨hx, hb, hml, hown, hts⟩ (c_X7_isEither l D G x2 _ hw) (va_cwS 1 hts gX7_at_X7_isEither rfl rfl rfl (by decide +kernel) ⟨(Nat.le_of_ble_eq_true rfl), (Nat.le_of_ble_eq_true rfl)⟩) (xR_ps (hP.sub [] rfl) hK) rfl rfl hl.1 rfl (lv_room (Nat.le_of_ble_eq_true rfl)) dX7_at_9 ⟨Nat.zero_le _, Nat.zero_le _⟩) (fun r2 hw => ?_)
    refine lv_if_ne (tgt := 17) hx hb dX7_at_12 (by decide) (fun c9 => ?_) (fun c9 => ?_)
    · replace hw := hw.1 c9
      refine lv_iload_n hx hb dX7_at_17 rfl (lv_at hl 2 rfl) ?_
      refine lv_if_ne (tgt := 33) hx hb dX7_at_18 (by decide) (fun c9 => ?_) (fun c9 => ?_)
      · replace hw := hw.1 c9
        refine lv_aload_n hx hb dX7_at_33 rfl (lv_at hl 0 rfl) ?_
        refine va_get (D := D) (ci := 7) (v := .ref da) (C := RX7) (T := TX7) (N := 8) hx hb hts inX7 hown hK hP 0 rfl rfl 0 (by decide) fl12 (fun _ h9 => h9) rfl dX7_at_34 ?_
        refine va_get (D := D) (ci := 0) (v := .ref afi) (C := RX0) (T := TX0) (N := 9) hx hb hts inX0 hown hK hP 1 rfl rfl 3 (by decide) fl106 (fun _ h9 => h9) rfl dX7_at_37 ?_
        refine lv_iload_n hx hb dX7_at_40 rfl (lv_at hl 1 rfl) ?_
        refine x_iald (j := x1.toNatClampNeg) hx hb hK hP 3 0 rfl rfl rfl hw.1 dX7_at_41 ?_
        replace hw := hw.2
        exact W.iret hx hb hr (fun t ht _ => ⟨_, rfl, hw, ht⟩) (fun _ h => absurd h List.not_mem_nil) dX7_at_42
      · replace hw := hw.2 c9
        refine lv_aload_n hx hb dX7_at_21 rfl (lv_at hl 0 rfl) ?_
        refine va_get (D := D) (ci := 7) (v := .ref da) (C := RX7) (T := TX7) (N := 8) hx hb hts inX7 hown hK hP 0 rfl rfl 0 (by decide) fl12 (fun _ h9 => h9) rfl dX7_at_22 ?_
        refine va_get (D := D) (ci := 0) (v := .ref aki) (C := RX0) (T := TX0) (N := 9) hx hb hts inX0 hown hK hP 1 rfl rfl 2 (by decide) fl103 (fun _ h9 => h9) rfl dX7_at_25 ?_
        refine lv_iload_n hx hb dX7_at_28 rfl (lv_at hl 1 rfl) ?_
        refine x_iald (j := x1.toNatClampNeg) hx hb hK hP 2 0 rfl rfl rfl hw.1 dX7_at_29 ?_
        replace hw := hw.2
        refine lv_goto (tgt := 42) hx hb dX7_at_30 (by decide) ?_
        exact W.iret hx hb hr (fun t ht _ => ⟨_, rfl, hw, ht⟩) (fun _ h => absurd h List.not_mem_nil) dX7_at_42
    · replace hw := hw.2 c9
      refine lv_iconst (v := -1) hx hb dX7_at_15 (by decide) ?_
      exact W.iret hx hb hr (fun t ht _ => ⟨_, rfl, hw, ht⟩) (fun _ h => absurd h List.not_mem_nil) dX7_at_16
set_option maxHeartbeats 4000000 in
set_option maxRecDepth 100000 in
theorem c_X7_of (l : Launch) (D : va_G) (G : Nat → ClassId) (x_xo : Nat) (da : Nat) (k_da : Nat) (t_ta : Nat) (p_pl : Nat) (r_tr : Nat) (w_ro : Nat) (x_ash : Nat) (ami : Nat) (aki : Nat) (afi : Nat) (anw : Nat) (apa : Nat) (x_isKept : Int32) (cows : Int32) (tasters : Int32) (newest : Int32) (known : Int32) (milks : Nat → Int32) (x1 : Int32) (post : Int32 → Prop) (hw : wp_X7_of cows milks x1 post) : Met l yX7_of wsX7_of ({ frames := 1, cells := 0, slots := 0, locals := 21 } : Room) (va_Pc [.ref x_xo, .int x1] (xR D G [(x_xo, .inr (7, [.ref da, .ref k_da, .int x_isKept, .ref t_ta, .ref p_pl, .ref r_tr, .ref w_ro, .ref x_ash])), (da, .inr (0, [.ref ami, .int cows, .ref aki, .ref afi, .int tasters, .ref anw, .ref apa, .int newest, .int known])), (ami, .inl (G 0, 8, .inl milks))])) (vp_Si post) 0 0 (fun _ => False) := by
  refine Met.ofW (cc := cX7_of) (maxL := 2) (ret := (some .int)) (by decide) rfl ?_
  intro p e s m args below meth c s₁ B hml hv
  obtain ⟨rfl, hP, hK⟩ := hv
  have hx := B.exec
  have hb := B.bytes
  have hr := B.returns
  have hts := atoms_spec (ws := wsX7_of) B.pre
  have hown : s.vm.findClass RX7 = some m.cls := findClass_of_methodNamed B.named
  have hlocks := B.notSynchronized
  have inX0 : ∀ w ∈ wsX00, w ∈ wsX7_of := by decide +kernel
  have inX7 : ∀ w ∈ wsX70, w ∈ wsX7_of := by decide +kernel
  have fl12 := hts (.fieldLink RX7 12 "NewsCow" "dairy" "LNewsCow$Dairy;") (by decide +kernel)
  have fl93 := hts (.fieldLink RX7 93 "NewsCow$Dairy" "milks" "[I") (by decide +kernel)
  have hl := lv_entry ([.ref x_xo, .int x1] : List Value) (n := 2) (Nat.le_of_ble_eq_true rfl)
  rw [lg_entry_eq]
  generalize (lg_sl ([.ref x_xo, .int x1] : List Value) ++ List.replicate (2 - (lg_sl ([.ref x_xo, .int x1] : List Value)).length) Slot.unset).toArray = ls at hl ⊢
  have hl : lv_has ls 2 [(0, .ref x_xo), (1, .int x1)] := hl
  unfold wp_X7_of at hw
  refine lv_aload_n hx hb dX7_of_0 rfl (lv_at hl 0 rfl) ?_
  refine lv_iload_n hx hb dX7_of_1 rfl (lv_at hl 1 rfl) ?_
  refine vp_callSi (W.runV (As := [.int x1]) (rest := []) ⟨hx, hb, hml, hown, hts⟩ (c_X7_isCow l D G x_xo da k_da t_ta p_pl r_tr w_ro x_ash ami aki afi anw apa x_isKept cows tasters newest known x1 _ hw) (cwV 1 hts gX7_of_X7_isCow rfl rfl rfl (by decide +kernel) ⟨(Nat.le_of_ble_eq_true rfl), (Nat.le_of_ble_eq_true rfl)⟩) (xR_pv (hP.sub [0, 1] rfl) hK (va_recv hK hP (ci := 7) (q0 := 0) rfl rfl)) rfl rfl hl.1 rfl (lv_room (Nat.le_of_ble_eq_true rfl)) dX7_of_2 ⟨Nat.zero_le _, Nat.zero_le _⟩) (fun r1 hw => ?_)
  refine lv_if_eq (tgt := 20) hx hb dX7_of_5 (by decide) (fun c9 => ?_) (fun c9 => ?_)
  · replace hw := hw.1 c9
    refine lv_iconst (v := -1) hx hb dX7_of_20 (by decide) ?_
    exact W.iret hx hb hr (fun t ht _ => ⟨_, rfl, hw, ht⟩) (fun _ h => absurd h List.not_mem_nil) dX7_of_21
  · replace hw := hw.2 c9
    refine lv_aload_n hx hb dX7_of_8 rfl (lv_at hl 0 rfl) ?_
    refine va_get (D := D) (ci := 7) (v := .ref da) (C := RX7) (T := TX7) (N := 8) hx hb hts inX7 hown hK hP 0 rfl rfl 0 (by decide) fl12 (fun _ h9 => h9) rfl dX7_of_9 ?_
    refine va_get (D := D) (ci := 0) (v := .ref ami) (C := RX0) (T := TX0) (N := 9) hx hb hts inX0 hown hK hP 1 rfl rfl 0 (by decide) fl93 (fun _ h9 => h9) rfl dX7_of_12 ?_
    refine lv_iload_n hx hb dX7_of_15 rfl (lv_at hl 1 rfl) ?_
    refine x_iald (j := x1.toNatClampNeg) hx hb hK hP 2 0 rfl rfl rfl hw.1 dX7_of_16 ?_
    replace hw := hw.2
    refine lv_goto (tgt := 21) hx hb dX7_of_17 (by decide) ?_
    exact W.iret hx hb hr (fun t ht _ => ⟨_, rfl, hw, ht⟩) (fun _ h => absurd h List.not_mem_nil) dX7_of_21
set_option maxHeartbeats 4000000 in
set_option maxRecDepth 100000 in
theorem c_X7_isMix (l : Launch) (D : va_G) (G : Nat → ClassId) (x_xo : Nat) (da : Nat) (k_da : Nat) (t_ta : Nat) (p_pl : Nat) (r_tr : Nat) (w_ro : Nat) (x_ash : Nat) (ami : Nat) (aki : Nat) (afi : Nat) (anw : Nat) (apa : Nat) (x_isKept : Int32) (cows : Int32) (tasters : Int32) (newest : Int32) (known : Int32) (x1 : Int32) (post : Int32 → Prop) (hw : wp_X7_isMix cows x1 post) : Met l yX7_isMix wsX7_isMix ({ frames := 1, cells := 0, slots := 0, locals := 20 } : Room) (va_Pc [.ref x_xo, .int x1] (xR D G [(x_xo, .inr (7, [.ref da, .ref k_da, .int x_isKept, .ref t_ta, .ref p_pl, .ref r_tr, .ref w_ro, .ref x_ash])), (da, .inr (0, [.ref ami, .int cows, .ref aki, .ref afi, .int tasters, .ref anw, .ref apa, .int newest, .int known]))])) (vp_Si post) 0 0 (fun _ => False) := by
  refine Met.ofW (cc := cX7_isMix) (maxL := 2) (ret := (some .boolean)) (by decide) rfl ?_
  intro p e s m args below meth c s₁ B hml hv
  obtain ⟨rfl, hP, hK⟩ := hv
  have hx := B.exec
  have hb := B.bytes
  have hr := B.returns
  have hts := atoms_spec (ws := wsX7_isMix) B.pre
  have hown : s.vm.findClass RX7 = some m.cls := findClass_of_methodNamed B.named
  have hlocks := B.notSynchronized
  have inX7 : ∀ w ∈ wsX70, w ∈ wsX7_isMix := by decide +kernel
  have fl12 := hts (.fieldLink RX7 12 "NewsCow" "dairy" "LNewsCow$Dairy;") (by decide +kernel)
  have hl := lv_entry ([.ref x_xo, .int x1] : List Value) (n := 2) (Nat.le_of_ble_eq_true rfl)
  rw [lg_entry_eq]
  generalize (lg_sl ([.ref x_xo, .int x1] : List Value) ++ List.replicate (2 - (lg_sl ([.ref x_xo, .int x1] : List Value)).length) Slot.unset).toArray = ls at hl ⊢
  have hl : lv_has ls 2 [(0, .ref x_xo), (1, .int x1)] := hl
  unfold wp_X7_isMix at hw
  refine lv_iload_n hx hb dX7_isMix_0 rfl (lv_at hl 1 rfl) ?_
  refine lv_iconst (v := 1) hx hb dX7_isMix_1 (by decide) ?_
  refine lv_icmp_lt (tgt := 20) hx hb dX7_isMix_2 (by decide) (fun c9 => ?_) (fun c9 => ?_)
  · replace hw := hw.1 c9
    refine lv_iconst (v := 0) hx hb dX7_isMix_20 (by decide) ?_
    exact W.zret hx hb hr rfl (fun t ht _ => ⟨_, rfl, hw, ht⟩) (fun _ h => absurd h List.not_mem_nil) dX7_isMix_21
  · replace hw := hw.2 c9
    refine lv_iload_n hx hb dX7_isMix_5 rfl (lv_at hl 1 rfl) ?_
    refine lv_aload_n hx hb dX7_isMix_6 rfl (lv_at hl 0 rfl) ?_
    refine va_get (D := D) (ci := 7) (v := .ref da) (C := RX7) (T := TX7) (N := 8) hx hb hts inX7 hown hK hP 0 rfl rfl 0 (by decide) fl12 (fun _ h9 => h9) rfl dX7_isMix_7 ?_
    refine vp_callSi (W.runV (As := []) (rest := [.int x1]) ⟨hx, hb, hml, hown, hts⟩ (c_X0_allCows l D G da ami aki afi anw apa cows tasters newest known _ hw) (cwV 0 hts gX7_isMix_X0_allCows rfl rfl rfl (by decide +kernel) ⟨(Nat.le_of_ble_eq_true rfl), (Nat.le_of_ble_eq_true rfl)⟩) (xR_pv (hP.sub [1] rfl) hK (va_recv hK hP (ci := 0) (q0 := 1) rfl rfl)) rfl rfl hl.1 rfl (lv_room (Nat.le_of_ble_eq_true rfl)) dX7_isMix_10 ⟨Nat.zero_le _, Nat.zero_le _⟩) (fun r1 hw => ?_)
    refine lv_icmp_gt (tgt := 20) hx hb dX7_isMix_13 (by decide) (fun c9 => ?_) (fun c9 => ?_)
    · replace hw := hw.1 c9
      refine lv_iconst (v := 0) hx hb dX7_isMix_20 (by decide) ?_
      exact W.zret hx hb hr rfl (fun t ht _ => ⟨_, rfl, hw, ht⟩) (fun _ h => absurd h List.not_mem_nil) dX7_isMix_21
    · replace hw := hw.2 c9
      refine lv_iconst (v := 1) hx hb dX7_isMix_16 (by decide) ?_
      refine lv_goto (tgt := 21) hx hb dX7_isMix_17 (by decide) ?_
      exact W.zret hx hb hr rfl (fun t ht _ => ⟨_, rfl, hw, ht⟩) (fun _ h => absurd h List.not_mem_nil) dX7_isMix_21
set_option maxHeartbeats 4000000 in
set_option maxRecDepth 100000 in
theorem c_X7_notices (l : Launch) (D : va_G) (G : Nat → ClassId) (x_xo : Nat) (da : Nat) (k_da : Nat) (t_ta : Nat) (p_pl : Nat) (r_tr : Nat) (w_ro : Nat) (x_ash : Nat) (ami : Nat) (aki : Nat) (afi : Nat) (anw : Nat) (apa : Nat) (x_isKept : Int32) (cows : Int32) (tasters : Int32) (newest : Int32) (known : Int32) (milks : Nat → Int32) (kinds : Nat → Int32) (fines : Nat → Int32) (mayBe : Int32) (bearer : Int32) (day : Int32) (draw : Int32) (x1 : Int32) (x2 : Int32) (x3 : Int32) (post : Int32 → Prop) (hw : wp_X7_notices cows tasters milks kinds fines day x1 x2 x3 post) : Met l yX7_notices wsX7_notices ({ frames := 4, cells := 0, slots := 0, locals := 93 } : Room) (va_Pc [.ref x_xo, .int x1, .int x2, .int x3] (xR D G [(x_xo, .inr (7, [.ref da, .ref k_da, .int x_isKept, .ref t_ta, .ref p_pl, .ref r_tr, .ref w_ro, .ref x_ash])), (da, .inr (0, [.ref ami, .int cows, .ref aki, .ref afi, .int tasters, .ref anw, .ref apa, .int newest, .int known])), (ami, .inl (G 0, 8, .inl milks)), (aki, .inl (G 0, 4, .inl kinds)), (afi, .inl (G 0, 4, .inl fines)), (anw, .inr (1, [.int mayBe, .int bearer, .int day, .int draw]))])) (vp_Si post) 0 0 (fun _ => False) := by
  refine Met.ofW (cc := cX7_notices) (maxL := 4) (ret := (some .int)) (by decide) rfl ?_
  intro p e s m args below meth c s₁ B hml hv
  obtain ⟨rfl, hP, hK⟩ := hv
  have hx := B.exec
  have hb := B.bytes
  have hr := B.returns
  have hts := atoms_spec (ws := wsX7_notices) B.pre
  have hown : s.vm.findClass RX7 = some m.cls := findClass_of_methodNamed B.named
  have hlocks := B.notSynchronized
  have inX7 : ∀ w ∈ wsX70, w ∈ wsX7_notices := by decide +kernel
  have fl12 := hts (.fieldLink RX7 12 "NewsCow" "dairy" "LNewsCow$Dairy;") (by decide +kernel)
  have hl := lv_entry ([.ref x_xo, .int x1, .int x2, .int x3] : List Value) (n := 4) (Nat.le_of_ble_eq_true rfl)
  rw [lg_entry_eq]
  generalize (lg_sl ([.ref x_xo, .int x1, .int x2, .int x3] : List Value) ++ List.replicate (4 - (lg_sl ([.ref x_xo, .int x1, .int x2, .int x3] : List Value)).length) Slot.unset).toArray = ls at hl ⊢
  have hl : lv_has ls 4 [(0, .ref x_xo), (1, .int x1), (2, .int x2), (3, .int x3)] := hl
  unfold wp_X7_notices at hw
  refine lv_aload_n hx hb dX7_notices_0 rfl (lv_at hl 0 rfl) ?_
  refine lv_iload_n hx hb dX7_notices_1 rfl (lv_at hl 1 rfl) ?_
  refine vp_callSi (W.runV (As := [.int x1]) (rest := []) ⟨hx, hb, hml, hown, hts⟩ (c_X7_isTaster l D G x_xo da k_da t_ta p_pl r_tr w_ro x_ash ami aki afi anw apa x_isKept cows tasters newest known x1 _ hw) (cwV 1 hts gX7_notices_X7_isTaster rfl rfl rfl (by decide +kernel) ⟨(Nat.le_of_ble_eq_true rfl), (Nat.le_of_ble_eq_true rfl)⟩) (xR_pv (hP.sub [0, 1] rfl) hK (va_recv hK hP (ci := 7) (q0 := 0) rfl rfl)) rfl rfl hl.1 rfl (lv_room (Nat.le_of_ble_eq_true rfl)) dX7_notices_2 ⟨Nat.zero_le _, Nat.zero_le _⟩) (fun r1 hw => ?_)
  refine lv_if_eq (tgt := 24) hx hb dX7_notices_5 (by decide) (fun c9 => ?_) (fun c9 => ?_)
  · replace hw := hw.1 c9
    refine lv_iconst (v := -1) hx hb dX7_notices_24 (by decide) ?_
    exact W.iret hx hb hr (fun t ht _ => ⟨_, rfl, hw, ht⟩) (fun _ h => absurd h List.not_mem_nil) dX7_notices_25
  · replace hw := hw.2 c9
    refine lv_aload_n hx hb dX7_notices_8 rfl (lv_at hl 0 rfl) ?_
    refine lv_iload_n hx hb dX7_notices_9 rfl (lv_at hl 2 rfl) ?_
    refine vp_callSi (W.runV (As := [.int x2]) (rest := []) ⟨hx, hb, hml, hown, hts⟩ (c_X7_isMix l D G x_xo da k_da t_ta p_pl r_tr w_ro x_ash ami aki afi anw apa x_isKept cows tasters newest known x2 _ hw) (cwV 1 hts gX7_notices_X7_isMix rfl rfl rfl (by decide +kernel) ⟨(Nat.le_of_ble_eq_true rfl), (Nat.le_of_ble_eq_true rfl)⟩) (xR_pv (hP.sub [0, 1] rfl) hK (va_recv hK hP (ci := 7) (q0 := 0) rfl rfl)) rfl rfl hl.1 rfl (lv_room (Nat.le_of_ble_eq_true rfl)) dX7_notices_10 ⟨Nat.zero_le _, Nat.zero_le _⟩) (fun r2 hw => ?_)
    refine lv_if_eq (tgt := 24) hx hb dX7_notices_13 (by decide) (fun c9 => ?_) (fun c9 => ?_)
    · replace hw := hw.1 c9
      refine lv_iconst (v := -1) hx hb dX7_notices_24 (by decide) ?_
      exact W.iret hx hb hr (fun t ht _ => ⟨_, rfl, hw, ht⟩) (fun _ h => absurd h List.not_mem_nil) dX7_notices_25
    · replace hw := hw.2 c9
      refine lv_aload_n hx hb dX7_notices_16 rfl (lv_at hl 0 rfl) ?_
      refine lv_iload_n hx hb dX7_notices_17 rfl (lv_at hl 3 rfl) ?_
      refine vp_callSi (W.runV (As := [.int x3]) (rest := []) ⟨hx, hb, hml, hown, hts⟩ (c_X7_isCow l D G x_xo da k_da t_ta p_pl r_tr w_ro x_ash ami aki afi anw apa x_isKept cows tasters newest known x3 _ hw) (cwV 1 hts gX7_notices_X7_isCow rfl rfl rfl (by decide +kernel) ⟨(Nat.le_of_ble_eq_true rfl), (Nat.le_of_ble_eq_true rfl)⟩) (xR_pv (hP.sub [0, 1] rfl) hK (va_recv hK hP (ci := 7) (q0 := 0) rfl rfl)) rfl rfl hl.1 rfl (lv_room (Nat.le_of_ble_eq_true rfl)) dX7_notices_18 ⟨Nat.zero_le _, Nat.zero_le _⟩) (fun r3 hw => ?_)
      refine lv_if_ne (tgt := 26) hx hb dX7_notices_21 (by decide) (fun c9 => ?_) (fun c9 => ?_)
      · replace hw := hw.1 c9
        refine lv_aload_n hx hb dX7_notices_26 rfl (lv_at hl 0 rfl) ?_
        refine va_get (D := D) (ci := 7) (v := .ref da) (C := RX7) (T := TX7) (N := 8) hx hb hts inX7 hown hK hP 0 rfl rfl 0 (by decide) fl12 (fun _ h9 => h9) rfl dX7_notices_27 ?_
        refine lv_iload_n hx hb dX7_notices_30 rfl (lv_at hl 1 rfl) ?_
        refine lv_iload_n hx hb dX7_notices_31 rfl (lv_at hl 2 rfl) ?_
        refine vp_callSi (W.runV (As := [.int x1, .int x2]) (rest := []) ⟨hx, hb, hml, hown, hts⟩ (c_X0_noticedBy l D G da ami aki afi anw apa cows tasters newest known milks kinds fines mayBe bearer day draw x1 x2 _ hw) (cwV 2 hts gX7_notices_X0_noticedBy rfl rfl rfl (by decide +kernel) ⟨(Nat.le_of_ble_eq_true rfl), (Nat.le_of_ble_eq_true rfl)⟩) (xR_pv (hP.sub [1, 2, 3, 4, 5] rfl) hK (va_recv hK hP (ci := 0) (q0 := 1) rfl rfl)) rfl rfl hl.1 rfl (lv_room (Nat.le_of_ble_eq_true rfl)) dX7_notices_32 ⟨Nat.zero_le _, Nat.zero_le _⟩) (fun r4 hw => ?_)
        refine lv_iload_n hx hb dX7_notices_35 rfl (lv_at hl 3 rfl) ?_
        refine lv_ishr hx hb dX7_notices_36 ?_
        refine lv_iconst (v := 1) hx hb dX7_notices_37 (by decide) ?_
        refine lv_iand hx hb dX7_notices_38 ?_
        exact W.iret hx hb hr (fun t ht _ => ⟨_, rfl, hw, ht⟩) (fun _ h => absurd h List.not_mem_nil) dX7_notices_39
      · replace hw := hw.2 c9
        refine lv_iconst (v := -1) hx hb dX7_notices_24 (by decide) ?_
        exact W.iret hx hb hr (fun t ht _ => ⟨_, rfl, hw, ht⟩) (fun _ h => absurd h List.not_mem_nil) dX7_notices_25
set_option maxHeartbeats 4000000 in
set_option maxRecDepth 100000 in
theorem c_X7_type (l : Launch) (D : va_G) (G : Nat → ClassId) (sz : Nat) (x_xo : Nat) (da : Nat) (k_da : Nat) (t_ta : Nat) (p_pl : Nat) (r_tr : Nat) (w_ro : Nat) (x_ash : Nat) (t_ale : Nat) (t_ami : Nat) (t_aki : Nat) (t_afi : Nat) (x_isKept : Int32) (t_size : Int32) (t_place : Int32) (t_cows : Int32) (t_bearer : Int32) (t_tasters : Int32) (t_letters : Nat → Int32) (x1 : Int32) (post : Int32 → Int32 → (Nat → Int32) → Prop) (hw : wp_X7_type t_size t_letters x1 post) : Met l yX7_type wsX7_type ({ frames := 1, cells := 0, slots := 0, locals := 21 } : Room) (va_Pc [.ref x_xo, .int x1] (xM D G sz [(x_xo, .inr (7, [.ref da, .ref k_da, .int x_isKept, .ref t_ta, .ref p_pl, .ref r_tr, .ref w_ro, .ref x_ash])), (t_ta, .inr (5, [.ref t_ale, .int t_size, .int t_place, .ref t_ami, .int t_cows, .int t_bearer, .ref t_aki, .ref t_afi, .int t_tasters])), (t_ale, .inl (G 3, 40, .inl t_letters))])) (va_Qi (fun r (u : Int32 × (Nat → Int32)) => post r u.1 u.2) (fun u t => xE D G (va_A [(x_xo, .inr (7, [.ref da, .ref k_da, .int x_isKept, .ref t_ta, .ref p_pl, .ref r_tr, .ref w_ro, .ref x_ash])), (t_ta, .inr (5, [.ref t_ale, .int t_size, .int t_place, .ref t_ami, .int t_cows, .int t_bearer, .ref t_aki, .ref t_afi, .int t_tasters])), (t_ale, .inl (G 3, 40, .inl t_letters))] sz) [(x_xo, .inr (7, [.ref da, .ref k_da, .int x_isKept, .ref t_ta, .ref p_pl, .ref r_tr, .ref w_ro, .ref x_ash])), (t_ta, .inr (5, [.ref t_ale, .int u.1, .int t_place, .ref t_ami, .int t_cows, .int t_bearer, .ref t_aki, .ref t_afi, .int t_tasters])), (t_ale, .inl (G 3, 40, .inl (u.2)))] t) (va_A [(x_xo, .inr (7, [.ref da, .ref k_da, .int x_isKept, .ref t_ta, .ref p_pl, .ref r_tr, .ref w_ro, .ref x_ash])), (t_ta, .inr (5, [.ref t_ale, .int t_size, .int t_place, .ref t_ami, .int t_cows, .int t_bearer, .ref t_aki, .ref t_afi, .int t_tasters])), (t_ale, .inl (G 3, 40, .inl t_letters))] sz)) 0 0 (va_A [(x_xo, .inr (7, [.ref da, .ref k_da, .int x_isKept, .ref t_ta, .ref p_pl, .ref r_tr, .ref w_ro, .ref x_ash])), (t_ta, .inr (5, [.ref t_ale, .int t_size, .int t_place, .ref t_ami, .int t_cows, .int t_bearer, .ref t_aki, .ref t_afi, .int t_tasters])), (t_ale, .inl (G 3, 40, .inl t_letters))] sz) := by
  refine Met.ofW (cc := cX7_type) (maxL := 2) (ret := (some .int)) (by decide) rfl ?_
  intro p e s m args below meth c s₁ B hml hv
  obtain ⟨rfl, hsz, hP, hK, hD0⟩ := hv
  have hx := B.exec
  have hb := B.bytes
  have hr := B.returns
  have hts := atoms_spec (ws := wsX7_type) B.pre
  have hown : s.vm.findClass RX7 = some m.cls := findClass_of_methodNamed B.named
  have hlocks := B.notSynchronized
  subst hsz
  have hD := hD0.self (sz := s.heap.size)
  generalize hAe : va_A [(x_xo, .inr (7, [.ref da, .ref k_da, .int x_isKept, .ref t_ta, .ref p_pl, .ref r_tr, .ref w_ro, .ref x_ash])), (t_ta, .inr (5, [.ref t_ale, .int t_size, .int t_place, .ref t_ami, .int t_cows, .int t_bearer, .ref t_aki, .ref t_afi, .int t_tasters])), (t_ale, .inl (G 3, 40, .inl t_letters))] s.heap.size = A at hD ⊢
  have hA : ∀ q : Nat, s.heap.size ≤ q → A q := fun q h => by rw [← hAe]; exact Or.inr h
  have hS : va_S A s.heap s.heap [] := va_S.rf
  have inX5 : ∀ w ∈ wsX50, w ∈ wsX7_type := by decide +kernel
  have inX7 : ∀ w ∈ wsX70, w ∈ wsX7_type := by decide +kernel
  have fl26 := hts (.fieldLink RX7 26 "NewsCow" "tape" "LNewsCow$Tape;") (by decide +kernel)
  have fl116 := hts (.fieldLink RX7 116 "NewsCow$Tape" "size" "I") (by decide +kernel)
  have hl := lv_entry ([.ref x_xo, .int x1] : List Value) (n := 2) (Nat.le_of_ble_eq_true rfl)
  rw [lg_entry_eq]
  generalize (lg_sl ([.ref x_xo, .int x1] : List Value) ++ List.replicate (2 - (lg_sl ([.ref x_xo, .int x1] : List Value)).length) Slot.unset).toArray = ls at hl ⊢
  have hl : lv_has ls 2 [(0, .ref x_xo), (1, .int x1)] := hl
  unfold wp_X7_type at hw
  refine lv_iload_n hx hb dX7_type_0 rfl (lv_at hl 1 rfl) ?_
  refine lv_bipush (v := 32) hx hb dX7_type_1 (by decide) ?_
  refine lv_icmp_lt (tgt := 12) hx hb dX7_type_3 (by decide) (fun c9 => ?_) (fun c9 => ?_)
  · replace hw := hw.1 c9
    refine lv_iconst (v := -1) hx hb dX7_type_12 (by decide) ?_
    exact W.iret hx hb hr (x_mi (u := (t_size, t_letters)) hP hK hD hS hw) hS.2.2 dX7_type_13
  · replace hw := hw.2 c9
    refine lv_iload_n hx hb dX7_type_6 rfl (lv_at hl 1 rfl) ?_
    refine lv_bipush (v := 126) hx hb dX7_type_7 (by decide) ?_
    refine lv_icmp_le (tgt := 14) hx hb dX7_type_9 (by decide) (fun c9 => ?_) (fun c9 => ?_)
    · replace hw := hw.1 c9
      refine lv_aload_n hx hb dX7_type_14 rfl (lv_at hl 0 rfl) ?_
      refine va_get (D := D) (ci := 7) (v := .ref t_ta) (C := RX7) (T := TX7) (N := 8) hx hb hts inX7 hown hK hP 0 rfl rfl 3 (by decide) fl26 (fun _ h9 => h9) rfl dX7_type_15 ?_
      refine va_get (D := D) (ci := 5) (v := .int t_size) (C := RX5) (T := TX5) (N := 9) hx hb hts inX5 hown hK hP 1 rfl rfl 1 (by decide) fl116 (fun _ h9 => h9) rfl dX7_type_18 ?_
      refine lv_bipush (v := 40) hx hb dX7_type_21 (by decide) ?_
      refine lv_icmp_lt (tgt := 29) hx hb dX7_type_23 (by decide) (fun c9 => ?_) (fun c9 => ?_)
      · replace hw := hw.1 c9
        refine lv_aload_n hx hb dX7_type_29 rfl (lv_at hl 0 rfl) ?_
        refine va_get (D := D) (ci := 7) (v := .ref t_ta) (C := RX7) (T := TX7) (N := 8) hx hb hts inX7 hown hK hP 0 rfl rfl 3 (by decide) fl26 (fun _ h9 => h9) rfl dX7_type_30 ?_
        refine lv_iload_n hx hb dX7_type_33 rfl (lv_at hl 1 rfl) ?_
        refine lv_i2c hx hb dX7_type_34 rfl ?_
        refine x_cMv (wr := [(x_xo, .inr (7, [.ref da, .ref k_da, .int x_isKept, .ref t_ta, .ref p_pl, .ref r_tr, .ref w_ro, .ref x_ash]))]) (va_runV (As := [.int ((x1.toUInt32 % 65536).toInt32)]) (rest := []) ⟨hx, hb, hml, hown, hts⟩ (c_X5_put l D G _ t_ta t_ale t_ami t_aki t_afi t_size t_place t_cows t_bearer t_tasters t_letters ((x1.toUInt32 % 65536).toInt32) _ hw) (cwV 1 hts gX7_type_X5_put rfl rfl rfl (by decide +kernel) ⟨(Nat.le_of_ble_eq_true rfl), (Nat.le_of_ble_eq_true rfl)⟩) (xM_pv (hP.sub [1, 2] rfl) hK (hD.sub [1, 2] (by decide) rfl) (va_recv hK hP (ci := 5) (q0 := 1) rfl rfl)) rfl rfl hl.1 rfl (lv_room (Nat.le_of_ble_eq_true rfl)) dX7_type_35 ⟨Nat.zero_le _, Nat.zero_le _⟩) hP hD hS hA [1, 2] [0] rfl rfl (by decide) (by decide) [0, 1, 2] (fun u => [(x_xo, .inr (7, [.ref da, .ref k_da, .int x_isKept, .ref t_ta, .ref p_pl, .ref r_tr, .ref w_ro, .ref x_ash])), (t_ta, .inr (5, [.ref t_ale, .int u.1, .int t_place, .ref t_ami, .int t_cows, .int t_bearer, .ref t_aki, .ref t_afi, .int t_tasters])), (t_ale, .inl (G 3, 40, .inl (u.2)))]) (by decide) (fun u => rfl) (fun u H locs hw hP hD hS => ?_)
        obtain ⟨t_size_1, t_letters_1⟩ := u
        try dsimp only at hw
        replace hP : va_P D vwCl [(x_xo, .inr (7, [.ref da, .ref k_da, .int x_isKept, .ref t_ta, .ref p_pl, .ref r_tr, .ref w_ro, .ref x_ash])), (t_ta, .inr (5, [.ref t_ale, .int t_size_1, .int t_place, .ref t_ami, .int t_cows, .int t_bearer, .ref t_aki, .ref t_afi, .int t_tasters])), (t_ale, .inl (G 3, 40, .inl t_letters_1))] H := hP
        replace hD : va_D A [(x_xo, .inr (7, [.ref da, .ref k_da, .int x_isKept, .ref t_ta, .ref p_pl, .ref r_tr, .ref w_ro, .ref x_ash])), (t_ta, .inr (5, [.ref t_ale, .int t_size_1, .int t_place, .ref t_ami, .int t_cows, .int t_bearer, .ref t_aki, .ref t_afi, .int t_tasters])), (t_ale, .inl (G 3, 40, .inl t_letters_1))] := hD
        refine lv_aload_n hx hb dX7_type_38 rfl (lv_at hl 0 rfl) ?_
        refine va_get (D := D) (ci := 7) (v := .ref t_ta) (C := RX7) (T := TX7) (N := 8) hx hb hts inX7 hown hK hP 0 rfl rfl 3 (by decide) fl26 (fun _ h9 => h9) rfl dX7_type_39 ?_
        refine va_get (D := D) (ci := 5) (v := .int t_size_1) (C := RX5) (T := TX5) (N := 9) hx hb hts inX5 hown hK hP 1 rfl rfl 1 (by decide) fl116 (fun _ h9 => h9) rfl dX7_type_42 ?_
        exact W.iret hx hb hr (x_mi (u := (t_size_1, t_letters_1)) hP hK hD hS hw) hS.2.2 dX7_type_45
      · replace hw := hw.2 c9
        refine lv_bipush (v := -3) hx hb dX7_type_26 (by decide) ?_
        exact W.iret hx hb hr (x_mi (u := (t_size, t_letters)) hP hK hD hS hw) hS.2.2 dX7_type_28
    · replace hw := hw.2 c9
      refine lv_iconst (v := -1) hx hb dX7_type_12 (by decide) ?_
      exact W.iret hx hb hr (x_mi (u := (t_size, t_letters)) hP hK hD hS hw) hS.2.2 dX7_type_13
set_option maxHeartbeats 4000000 in
set_option maxRecDepth 100000 in
theorem c_X7_herd (l : Launch) (D : va_G) (G : Nat → ClassId) (sz : Nat) (x_xo : Nat) (da : Nat) (k_da : Nat) (t_ta : Nat) (p_pl : Nat) (r_tr : Nat) (w_ro : Nat) (x_ash : Nat) (ami : Nat) (aki : Nat) (afi : Nat) (anw : Nat) (apa : Nat) (t_ale : Nat) (t_ami : Nat) (t_aki : Nat) (t_afi : Nat) (kS : Nat) (vS : Nat) (x_isKept : Int32) (cows : Int32) (tasters : Int32) (newest : Int32) (known : Int32) (milks : Nat → Int32) (kinds : Nat → Int32) (fines : Nat → Int32) (mayBe : Int32) (bearer : Int32) (day : Int32) (draw : Int32) (t_size : Int32) (t_place : Int32) (t_cows : Int32) (t_bearer : Int32) (t_tasters : Int32) (t_letters : Nat → Int32) (t_milks : Nat → Int32) (t_kinds : Nat → Int32) (t_fines : Nat → Int32) (post : Int32 → Int32 → Int32 → Int32 → (Nat → Int32) → (Nat → Int32) → (Nat → Int32) → Int32 → Int32 → Int32 → Int32 → Int32 → Int32 → Int32 → Int32 → (Nat → Int32) → (Nat → Int32) → (Nat → Int32) → Prop) (hw : wp_X7_herd cows tasters known milks kinds fines mayBe bearer day t_size t_letters t_milks t_kinds t_fines post) : Met l yX7_herd wsX7_herd ({ frames := 7, cells := 0, slots := 0, locals := 153 } : Room) (va_Pc [.ref x_xo] (xMT D G kS vS sz [(x_xo, .inr (7, [.ref da, .ref k_da, .int x_isKept, .ref t_ta, .ref p_pl, .ref r_tr, .ref w_ro, .ref x_ash])), (da, .inr (0, [.ref ami, .int cows, .ref aki, .ref afi, .int tasters, .ref anw, .ref apa, .int newest, .int known])), (ami, .inl (G 0, 8, .inl milks)), (aki, .inl (G 0, 4, .inl kinds)), (afi, .inl (G 0, 4, .inl fines)), (anw, .inr (1, [.int mayBe, .int bearer, .int day, .int draw])), (t_ta, .inr (5, [.ref t_ale, .int t_size, .int t_place, .ref t_ami, .int t_cows, .int t_bearer, .ref t_aki, .ref t_afi, .int t_tasters])), (t_ale, .inl (G 3, 40, .inl t_letters)), (t_ami, .inl (G 0, 8, .inl t_milks)), (t_aki, .inl (G 0, 4, .inl t_kinds)), (t_afi, .inl (G 0, 4, .inl t_fines))])) (va_Qi (fun r (u : Int32 × Int32 × Int32 × (Nat → Int32) × (Nat → Int32) × (Nat → Int32) × Int32 × Int32 × Int32 × Int32 × Int32 × Int32 × Int32 × Int32 × (Nat → Int32) × (Nat → Int32) × (Nat → Int32)) => post r u.1 u.2.1 u.2.2.1 u.2.2.2.1 u.2.2.2.2.1 u.2.2.2.2.2.1 u.2.2.2.2.2.2.1 u.2.2.2.2.2.2.2.1 u.2.2.2.2.2.2.2.2.1 u.2.2.2.2.2.2.2.2.2.1 u.2.2.2.2.2.2.2.2.2.2.1 u.2.2.2.2.2.2.2.2.2.2.2.1 u.2.2.2.2.2.2.2.2.2.2.2.2.1 u.2.2.2.2.2.2.2.2.2.2.2.2.2.1 u.2.2.2.2.2.2.2.2.2.2.2.2.2.2.1 u.2.2.2.2.2.2.2.2.2.2.2.2.2.2.2.1 u.2.2.2.2.2.2.2.2.2.2.2.2.2.2.2.2) (fun u t => xE D G (va_A [(x_xo, .inr (7, [.ref da, .ref k_da, .int x_isKept, .ref t_ta, .ref p_pl, .ref r_tr, .ref w_ro, .ref x_ash])), (da, .inr (0, [.ref ami, .int cows, .ref aki, .ref afi, .int tasters, .ref anw, .ref apa, .int newest, .int known])), (ami, .inl (G 0, 8, .inl milks)), (aki, .inl (G 0, 4, .inl kinds)), (afi, .inl (G 0, 4, .inl fines)), (anw, .inr (1, [.int mayBe, .int bearer, .int day, .int draw])), (t_ta, .inr (5, [.ref t_ale, .int t_size, .int t_place, .ref t_ami, .int t_cows, .int t_bearer, .ref t_aki, .ref t_afi, .int t_tasters])), (t_ale, .inl (G 3, 40, .inl t_letters)), (t_ami, .inl (G 0, 8, .inl t_milks)), (t_aki, .inl (G 0, 4, .inl t_kinds)), (t_afi, .inl (G 0, 4, .inl t_fines))] sz) [(x_xo, .inr (7, [.ref da, .ref k_da, .int x_isKept, .ref t_ta, .ref p_pl, .ref r_tr, .ref w_ro, .ref x_ash])), (da, .inr (0, [.ref ami, .int u.1, .ref aki, .ref afi, .int u.2.1, .ref anw, .ref apa, .int newest, .int u.2.2.1])), (ami, .inl (G 0, 8, .inl (u.2.2.2.1))), (aki, .inl (G 0, 4, .inl (u.2.2.2.2.1))), (afi, .inl (G 0, 4, .inl (u.2.2.2.2.2.1))), (anw, .inr (1, [.int u.2.2.2.2.2.2.1, .int u.2.2.2.2.2.2.2.1, .int u.2.2.2.2.2.2.2.2.1, .int draw])), (t_ta, .inr (5, [.ref t_ale, .int u.2.2.2.2.2.2.2.2.2.1, .int u.2.2.2.2.2.2.2.2.2.2.1, .ref t_ami, .int u.2.2.2.2.2.2.2.2.2.2.2.1, .int u.2.2.2.2.2.2.2.2.2.2.2.2.1, .ref t_aki, .ref t_afi, .int u.2.2.2.2.2.2.2.2.2.2.2.2.2.1])), (t_ale, .inl (G 3, 40, .inl t_letters)), (t_ami, .inl (G 0, 8, .inl (u.2.2.2.2.2.2.2.2.2.2.2.2.2.2.1))), (t_aki, .inl (G 0, 4, .inl (u.2.2.2.2.2.2.2.2.2.2.2.2.2.2.2.1))), (t_afi, .inl (G 0, 4, .inl (u.2.2.2.2.2.2.2.2.2.2.2.2.2.2.2.2)))] t) (va_A [(x_xo, .inr (7, [.ref da, .ref k_da, .int x_isKept, .ref t_ta, .ref p_pl, .ref r_tr, .ref w_ro, .ref x_ash])), (da, .inr (0, [.ref ami, .int cows, .ref aki, .ref afi, .int tasters, .ref anw, .ref apa, .int newest, .int known])), (ami, .inl (G 0, 8, .inl milks)), (aki, .inl (G 0, 4, .inl kinds)), (afi, .inl (G 0, 4, .inl fines)), (anw, .inr (1, [.int mayBe, .int bearer, .int day, .int draw])), (t_ta, .inr (5, [.ref t_ale, .int t_size, .int t_place, .ref t_ami, .int t_cows, .int t_bearer, .ref t_aki, .ref t_afi, .int t_tasters])), (t_ale, .inl (G 3, 40, .inl t_letters)), (t_ami, .inl (G 0, 8, .inl t_milks)), (t_aki, .inl (G 0, 4, .inl t_kinds)), (t_afi, .inl (G 0, 4, .inl t_fines))] sz)) 0 0 (va_A [(x_xo, .inr (7, [.ref da, .ref k_da, .int x_isKept, .ref t_ta, .ref p_pl, .ref r_tr, .ref w_ro, .ref x_ash])), (da, .inr (0, [.ref ami, .int cows, .ref aki, .ref afi, .int tasters, .ref anw, .ref apa, .int newest, .int known])), (ami, .inl (G 0, 8, .inl milks)), (aki, .inl (G 0, 4, .inl kinds)), (afi, .inl (G 0, 4, .inl fines)), (anw, .inr (1, [.int mayBe, .int bearer, .int day, .int draw])), (t_ta, .inr (5, [.ref t_ale, .int t_size, .int t_place, .ref t_ami, .int t_cows, .int t_bearer, .ref t_aki, .ref t_afi, .int t_tasters])), (t_ale, .inl (G 3, 40, .inl t_letters)), (t_ami, .inl (G 0, 8, .inl t_milks)), (t_aki, .inl (G 0, 4, .inl t_kinds)), (t_afi, .inl (G 0, 4, .inl t_fines))] sz) := by
  refine Met.ofW (cc := cX7_herd) (maxL := 2) (ret := (some .int)) (by decide) rfl ?_
  intro p e s m args below meth c s₁ B hml hv
  obtain ⟨rfl, hsz, hP, hK, hD0, hT⟩ := hv
  have hx := B.exec
  have hb := B.bytes
  have hr := B.returns
  have hts := atoms_spec (ws := wsX7_herd) B.pre
  have hown : s.vm.findClass RX7 = some m.cls := findClass_of_methodNamed B.named
  have hlocks := B.notSynchronized
  subst hsz
  have hD := hD0.self (sz := s.heap.size)
  generalize hAe : va_A [(x_xo, .inr (7, [.ref da, .ref k_da, .int x_isKept, .ref t_ta, .ref p_pl, .ref r_tr, .ref w_ro, .ref x_ash])), (da, .inr (0, [.ref ami, .int cows, .ref aki, .ref afi, .int tasters, .ref anw, .ref apa, .int newest, .int known])), (ami, .inl (G 0, 8, .inl milks)), (aki, .inl (G 0, 4, .inl kinds)), (afi, .inl (G 0, 4, .inl fines)), (anw, .inr (1, [.int mayBe, .int bearer, .int day, .int draw])), (t_ta, .inr (5, [.ref t_ale, .int t_size, .int t_place, .ref t_ami, .int t_cows, .int t_bearer, .ref t_aki, .ref t_afi, .int t_tasters])), (t_ale, .inl (G 3, 40, .inl t_letters)), (t_ami, .inl (G 0, 8, .inl t_milks)), (t_aki, .inl (G 0, 4, .inl t_kinds)), (t_afi, .inl (G 0, 4, .inl t_fines))] s.heap.size = A at hD hT ⊢
  have hA : ∀ q : Nat, s.heap.size ≤ q → A q := fun q h => by rw [← hAe]; exact Or.inr h
  have hS : va_S A s.heap s.heap [] := va_S.rf
  have inX0 : ∀ w ∈ wsX00, w ∈ wsX7_herd := by decide +kernel
  have inX5 : ∀ w ∈ wsX50, w ∈ wsX7_herd := by decide +kernel
  have inX7 : ∀ w ∈ wsX70, w ∈ wsX7_herd := by decide +kernel
  have fl26 := hts (.fieldLink RX7 26 "NewsCow" "tape" "LNewsCow$Tape;") (by decide +kernel)
  have fl116 := hts (.fieldLink RX7 116 "NewsCow$Tape" "size" "I") (by decide +kernel)
  have fl12 := hts (.fieldLink RX7 12 "NewsCow" "dairy" "LNewsCow$Dairy;") (by decide +kernel)
  have fl58 := hts (.fieldLink RX7 58 "NewsCow$Dairy" "cows" "I") (by decide +kernel)
  have fl127 := hts (.fieldLink RX7 127 "NewsCow$Tape" "place" "I") (by decide +kernel)
  have hl := lv_entry ([.ref x_xo] : List Value) (n := 2) (Nat.le_of_ble_eq_true rfl)
  rw [lg_entry_eq]
  generalize (lg_sl ([.ref x_xo] : List Value) ++ List.replicate (2 - (lg_sl ([.ref x_xo] : List Value)).length) Slot.unset).toArray = ls at hl ⊢
  have hl : lv_has ls 2 [(0, .ref x_xo)] := hl
  unfold wp_X7_herd at hw
  refine lv_aload_n hx hb dX7_herd_0 rfl (lv_at hl 0 rfl) ?_
  refine va_get (D := D) (ci := 7) (v := .ref t_ta) (C := RX7) (T := TX7) (N := 8) hx hb hts inX7 hown hK hP 0 rfl rfl 3 (by decide) fl26 (fun _ h9 => h9) rfl dX7_herd_1 ?_
  refine x_cMi (wr := [(x_xo, .inr (7, [.ref da, .ref k_da, .int x_isKept, .ref t_ta, .ref p_pl, .ref r_tr, .ref w_ro, .ref x_ash])), (da, .inr (0, [.ref ami, .int cows, .ref aki, .ref afi, .int tasters, .ref anw, .ref apa, .int newest, .int known])), (ami, .inl (G 0, 8, .inl milks)), (aki, .inl (G 0, 4, .inl kinds)), (afi, .inl (G 0, 4, .inl fines)), (anw, .inr (1, [.int mayBe, .int bearer, .int day, .int draw]))]) (va_runV (As := []) (rest := []) ⟨hx, hb, hml, hown, hts⟩ (c_X5_readHerd l D G _ t_ta t_ale t_ami t_aki t_afi kS vS t_size t_place t_cows t_bearer t_tasters t_letters t_milks t_kinds t_fines _ hw) (cwV 0 hts gX7_herd_X5_readHerd rfl rfl rfl (by decide +kernel) ⟨(Nat.le_of_ble_eq_true rfl), (Nat.le_of_ble_eq_true rfl)⟩) (xMT_pv (hP.sub [6, 7, 8, 9, 10] rfl) hK (hD.sub [6, 7, 8, 9, 10] (by decide) rfl) hT hS (va_free hD hS hA [6, 7, 8, 9, 10] rfl) (va_recv hK hP (ci := 5) (q0 := 6) rfl rfl)) rfl rfl hl.1 rfl (lv_room (Nat.le_of_ble_eq_true rfl)) dX7_herd_4 ⟨Nat.zero_le _, Nat.zero_le _⟩) hP hD hS hA [6, 7, 8, 9, 10] [0, 1, 2, 3, 4, 5] rfl rfl (by decide) (by decide) [0, 1, 2, 3, 4, 5, 6, 7, 8, 9, 10] (fun u => [(x_xo, .inr (7, [.ref da, .ref k_da, .int x_isKept, .ref t_ta, .ref p_pl, .ref r_tr, .ref w_ro, .ref x_ash])), (da, .inr (0, [.ref ami, .int cows, .ref aki, .ref afi, .int tasters, .ref anw, .ref apa, .int newest, .int known])), (ami, .inl (G 0, 8, .inl milks)), (aki, .inl (G 0, 4, .inl kinds)), (afi, .inl (G 0, 4, .inl fines)), (anw, .inr (1, [.int mayBe, .int bearer, .int day, .int draw])), (t_ta, .inr (5, [.ref t_ale, .int t_size, .int u.1, .ref t_ami, .int u.2.1, .int u.2.2.1, .ref t_aki, .ref t_afi, .int u.2.2.2.1])), (t_ale, .inl (G 3, 40, .inl t_letters)), (t_ami, .inl (G 0, 8, .inl (u.2.2.2.2.1))), (t_aki, .inl (G 0, 4, .inl (u.2.2.2.2.2.1))), (t_afi, .inl (G 0, 4, .inl (u.2.2.2.2.2.2)))]) (by decide) (fun u => rfl) (fun r1 u H locs hw hP hD hS => ?_)
  obtain ⟨t_place_1, t_cows_1, t_bearer_1, t_tasters_1, t_milks_1, t_kinds_1, t_fines_1⟩ := u
  try dsimp only at hw
  replace hP : va_P D vwCl [(x_xo, .inr (7, [.ref da, .ref k_da, .int x_isKept, .ref t_ta, .ref p_pl, .ref r_tr, .ref w_ro, .ref x_ash])), (da, .inr (0, [.ref ami, .int cows, .ref aki, .ref afi, .int tasters, .ref anw, .ref apa, .int newest, .int known])), (ami, .inl (G 0, 8, .inl milks)), (aki, .inl (G 0, 4, .inl kinds)), (afi, .inl (G 0, 4, .inl fines)), (anw, .inr (1, [.int mayBe, .int bearer, .int day, .int draw])), (t_ta, .inr (5, [.ref t_ale, .int t_size, .int t_place_1, .ref t_ami, .int t_cows_1, .int t_bearer_1, .ref t_aki, .ref t_afi, .int t_tasters_1])), (t_ale, .inl (G 3, 40, .inl t_letters)), (t_ami, .inl (G 0, 8, .inl t_milks_1)), (t_aki, .inl (G 0, 4, .inl t_kinds_1)), (t_afi, .inl (G 0, 4, .inl t_fines_1))] H := hP
  replace hD : va_D A [(x_xo, .inr (7, [.ref da, .ref k_da, .int x_isKept, .ref t_ta, .ref p_pl, .ref r_tr, .ref w_ro, .ref x_ash])), (da, .inr (0, [.ref ami, .int cows, .ref aki, .ref afi, .int tasters, .ref anw, .ref apa, .int newest, .int known])), (ami, .inl (G 0, 8, .inl milks)), (aki, .inl (G 0, 4, .inl kinds)), (afi, .inl (G 0, 4, .inl fines)), (anw, .inr (1, [.int mayBe, .int bearer, .int day, .int draw])), (t_ta, .inr (5, [.ref t_ale, .int t_size, .int t_place_1, .ref t_ami, .int t_cows_1, .int t_bearer_1, .ref t_aki, .ref t_afi, .int t_tasters_1])), (t_ale, .inl (G 3, 40, .inl t_letters)), (t_ami, .inl (G 0, 8, .inl t_milks_1)), (t_aki, .inl (G 0, 4, .inl t_kinds_1)), (t_afi, .inl (G 0, 4, .inl t_fines_1))] := hD
  refine lv_istore_n (lv' := [(1, .int r1), (0, .ref x_xo)]) hx hb dX7_herd_7 rfl hl (by decide) rfl (fun ls hl => ?_)
  refine lv_aload_n hx hb dX7_herd_8 rfl (lv_at hl 1 rfl) ?_
  refine va_get (D := D) (ci := 7) (v := .ref t_ta) (C := RX7) (T := TX7) (N := 8) hx hb hts inX7 hown hK hP 0 rfl rfl 3 (by decide) fl26 (fun _ h9 => h9) rfl dX7_herd_9 ?_
  refine lv_iconst (v := 0) hx hb dX7_herd_12 (by decide) ?_
  refine va_put (D := D) (ci := 5) (v := .int (0 : Int32)) (ty := .int) (C := RX5) (T := TX5) (N := 9) hx hb hts inX5 tyX5 tyX5_ok nmX5 hown hK hP hD hS 6 rfl rfl 1 (by decide) fl116 (fun _ h9 => h9) rfl (by decide +kernel) rfl rfl (Nat.le_of_ble_eq_true rfl) dX7_herd_13 (fun H locs hP hD hS => ?_)
  replace hP : va_P D vwCl [(x_xo, .inr (7, [.ref da, .ref k_da, .int x_isKept, .ref t_ta, .ref p_pl, .ref r_tr, .ref w_ro, .ref x_ash])), (da, .inr (0, [.ref ami, .int cows, .ref aki, .ref afi, .int tasters, .ref anw, .ref apa, .int newest, .int known])), (ami, .inl (G 0, 8, .inl milks)), (aki, .inl (G 0, 4, .inl kinds)), (afi, .inl (G 0, 4, .inl fines)), (anw, .inr (1, [.int mayBe, .int bearer, .int day, .int draw])), (t_ta, .inr (5, [.ref t_ale, .int (0 : Int32), .int t_place_1, .ref t_ami, .int t_cows_1, .int t_bearer_1, .ref t_aki, .ref t_afi, .int t_tasters_1])), (t_ale, .inl (G 3, 40, .inl t_letters)), (t_ami, .inl (G 0, 8, .inl t_milks_1)), (t_aki, .inl (G 0, 4, .inl t_kinds_1)), (t_afi, .inl (G 0, 4, .inl t_fines_1))] H := hP
  replace hD : va_D A [(x_xo, .inr (7, [.ref da, .ref k_da, .int x_isKept, .ref t_ta, .ref p_pl, .ref r_tr, .ref w_ro, .ref x_ash])), (da, .inr (0, [.ref ami, .int cows, .ref aki, .ref afi, .int tasters, .ref anw, .ref apa, .int newest, .int known])), (ami, .inl (G 0, 8, .inl milks)), (aki, .inl (G 0, 4, .inl kinds)), (afi, .inl (G 0, 4, .inl fines)), (anw, .inr (1, [.int mayBe, .int bearer, .int day, .int draw])), (t_ta, .inr (5, [.ref t_ale, .int (0 : Int32), .int t_place_1, .ref t_ami, .int t_cows_1, .int t_bearer_1, .ref t_aki, .ref t_afi, .int t_tasters_1])), (t_ale, .inl (G 3, 40, .inl t_letters)), (t_ami, .inl (G 0, 8, .inl t_milks_1)), (t_aki, .inl (G 0, 4, .inl t_kinds_1)), (t_afi, .inl (G 0, 4, .inl t_fines_1))] := hD
  refine lv_iload_n hx hb dX7_herd_16 rfl (lv_at hl 0 rfl) ?_
  refine lv_if_ne (tgt := 31) hx hb dX7_herd_17 (by decide) (fun c9 => ?_) (fun c9 => ?_)
  · replace hw := hw.1 c9
    refine lv_aload_n hx hb dX7_herd_31 rfl (lv_at hl 1 rfl) ?_
    refine va_get (D := D) (ci := 7) (v := .ref da) (C := RX7) (T := TX7) (N := 8) hx hb hts inX7 hown hK hP 0 rfl rfl 0 (by decide) fl12 (fun _ h9 => h9) rfl dX7_herd_32 ?_
    refine lv_aload_n hx hb dX7_herd_35 rfl (lv_at hl 1 rfl) ?_
    refine va_get (D := D) (ci := 7) (v := .ref t_ta) (C := RX7) (T := TX7) (N := 8) hx hb hts inX7 hown hK hP 0 rfl rfl 3 (by decide) fl26 (fun _ h9 => h9) rfl dX7_herd_36 ?_
    refine x_cMv (wr := [(x_xo, .inr (7, [.ref da, .ref k_da, .int x_isKept, .ref t_ta, .ref p_pl, .ref r_tr, .ref w_ro, .ref x_ash])), (t_ale, .inl (G 3, 40, .inl t_letters))]) (va_runV (As := [.ref t_ta]) (rest := []) ⟨hx, hb, hml, hown, hts⟩ (c_X0_settle l D G _ da ami aki afi anw apa t_ta t_ale t_ami t_aki t_afi cows tasters newest known milks kinds fines mayBe bearer day draw (0 : Int32) t_place_1 t_cows_1 t_bearer_1 t_tasters_1 t_milks_1 t_kinds_1 t_fines_1 _ hw) (cwV 1 hts gX7_herd_X0_settle rfl rfl rfl (by decide +kernel) ⟨(Nat.le_of_ble_eq_true rfl), (Nat.le_of_ble_eq_true rfl)⟩) (xM_pv (hP.sub [1, 2, 3, 4, 5, 6, 8, 9, 10] rfl) hK (hD.sub [1, 2, 3, 4, 5, 6, 8, 9, 10] (by decide) rfl) (va_recv hK hP (ci := 0) (q0 := 1) rfl rfl)) rfl rfl hl.1 rfl (lv_room (Nat.le_of_ble_eq_true rfl)) dX7_herd_39 ⟨Nat.zero_le _, Nat.zero_le _⟩) hP hD hS hA [1, 2, 3, 4, 5, 6, 8, 9, 10] [0, 7] rfl rfl (by decide) (by decide) [0, 2, 3, 4, 5, 6, 7, 1, 8, 9, 10] (fun u => [(x_xo, .inr (7, [.ref da, .ref k_da, .int x_isKept, .ref t_ta, .ref p_pl, .ref r_tr, .ref w_ro, .ref x_ash])), (da, .inr (0, [.ref ami, .int u.1, .ref aki, .ref afi, .int u.2.1, .ref anw, .ref apa, .int newest, .int u.2.2.1])), (ami, .inl (G 0, 8, .inl (u.2.2.2.1))), (aki, .inl (G 0, 4, .inl (u.2.2.2.2.1))), (afi, .inl (G 0, 4, .inl (u.2.2.2.2.2.1))), (anw, .inr (1, [.int u.2.2.2.2.2.2.1, .int u.2.2.2.2.2.2.2.1, .int u.2.2.2.2.2.2.2.2, .int draw])), (t_ta, .inr (5, [.ref t_ale, .int (0 : Int32), .int t_place_1, .ref t_ami, .int t_cows_1, .int t_bearer_1, .ref t_aki, .ref t_afi, .int t_tasters_1])), (t_ale, .inl (G 3, 40, .inl t_letters)), (t_ami, .inl (G 0, 8, .inl t_milks_1)), (t_aki, .inl (G 0, 4, .inl t_kinds_1)), (t_afi, .inl (G 0, 4, .inl t_fines_1))]) (by decide) (fun u => rfl) (fun u H locs hw hP hD hS => ?_)
    obtain ⟨cows_2, tasters_2, known_2, milks_2, kinds_2, fines_2, mayBe_2, bearer_2, day_2⟩ := u
    try dsimp only at hw
    replace hP : va_P D vwCl [(x_xo, .inr (7, [.ref da, .ref k_da, .int x_isKept, .ref t_ta, .ref p_pl, .ref r_tr, .ref w_ro, .ref x_ash])), (da, .inr (0, [.ref ami, .int cows_2, .ref aki, .ref afi, .int tasters_2, .ref anw, .ref apa, .int newest, .int known_2])), (ami, .inl (G 0, 8, .inl milks_2)), (aki, .inl (G 0, 4, .inl kinds_2)), (afi, .inl (G 0, 4, .inl fines_2)), (anw, .inr (1, [.int mayBe_2, .int bearer_2, .int day_2, .int draw])), (t_ta, .inr (5, [.ref t_ale, .int (0 : Int32), .int t_place_1, .ref t_ami, .int t_cows_1, .int t_bearer_1, .ref t_aki, .ref t_afi, .int t_tasters_1])), (t_ale, .inl (G 3, 40, .inl t_letters)), (t_ami, .inl (G 0, 8, .inl t_milks_1)), (t_aki, .inl (G 0, 4, .inl t_kinds_1)), (t_afi, .inl (G 0, 4, .inl t_fines_1))] H := hP
    replace hD : va_D A [(x_xo, .inr (7, [.ref da, .ref k_da, .int x_isKept, .ref t_ta, .ref p_pl, .ref r_tr, .ref w_ro, .ref x_ash])), (da, .inr (0, [.ref ami, .int cows_2, .ref aki, .ref afi, .int tasters_2, .ref anw, .ref apa, .int newest, .int known_2])), (ami, .inl (G 0, 8, .inl milks_2)), (aki, .inl (G 0, 4, .inl kinds_2)), (afi, .inl (G 0, 4, .inl fines_2)), (anw, .inr (1, [.int mayBe_2, .int bearer_2, .int day_2, .int draw])), (t_ta, .inr (5, [.ref t_ale, .int (0 : Int32), .int t_place_1, .ref t_ami, .int t_cows_1, .int t_bearer_1, .ref t_aki, .ref t_afi, .int t_tasters_1])), (t_ale, .inl (G 3, 40, .inl t_letters)), (t_ami, .inl (G 0, 8, .inl t_milks_1)), (t_aki, .inl (G 0, 4, .inl t_kinds_1)), (t_afi, .inl (G 0, 4, .inl t_fines_1))] := hD
    refine lv_aload_n hx hb dX7_herd_42 rfl (lv_at hl 1 rfl) ?_
    refine va_get (D := D) (ci := 7) (v := .ref da) (C := RX7) (T := TX7) (N := 8) hx hb hts inX7 hown hK hP 0 rfl rfl 0 (by decide) fl12 (fun _ h9 => h9) rfl dX7_herd_43 ?_
    refine va_get (D := D) (ci := 0) (v := .int cows_2) (C := RX0) (T := TX0) (N := 9) hx hb hts inX0 hown hK hP 1 rfl rfl 1 (by decide) fl58 (fun _ h9 => h9) rfl dX7_herd_46 ?_
    exact W.iret hx hb hr (x_mi (u := (cows_2, tasters_2, known_2, milks_2, kinds_2, fines_2, mayBe_2, bearer_2, day_2, (0 : Int32), t_place_1, t_cows_1, t_bearer_1, t_tasters_1, t_milks_1, t_kinds_1, t_fines_1)) hP hK hD hS hw) hS.2.2 dX7_herd_49
  · replace hw := hw.2 c9
    refine lv_bipush (v := -20) hx hb dX7_herd_20 (by decide) ?_
    refine lv_aload_n hx hb dX7_herd_22 rfl (lv_at hl 1 rfl) ?_
    refine va_get (D := D) (ci := 7) (v := .ref t_ta) (C := RX7) (T := TX7) (N := 8) hx hb hts inX7 hown hK hP 0 rfl rfl 3 (by decide) fl26 (fun _ h9 => h9) rfl dX7_herd_23 ?_
    refine va_get (D := D) (ci := 5) (v := .int t_place_1) (C := RX5) (T := TX5) (N := 9) hx hb hts inX5 hown hK hP 6 rfl rfl 2 (by decide) fl127 (fun _ h9 => h9) rfl dX7_herd_26 ?_
    refine lv_isub hx hb dX7_herd_29 ?_
    exact W.iret hx hb hr (x_mi (u := (cows, tasters, known, milks, kinds, fines, mayBe, bearer, day, (0 : Int32), t_place_1, t_cows_1, t_bearer_1, t_tasters_1, t_milks_1, t_kinds_1, t_fines_1)) hP hK hD hS hw) hS.2.2 dX7_herd_30
