set_option maxHeartbeats 4000000 in
set_option maxRecDepth 100000 in
theorem c_X8_drink (l : Launch) (D : va_G) (G : Nat → ClassId) (sz : Nat) (m_mo : Nat) (m_alane : Nat) (m_asize : Nat) (m_aitem : Nat) (m_atape : Nat) (m_anow : Nat) (m_atried : Nat) (m_aread : Nat) (m_akept : Nat) (m_anoticed : Nat) (m_aneeds : Nat) (m_aorder : Nat) (m_letters : Int32) (m_position : Int32) (m_number : Int32) (m_isKept : Int32) (m_many : Int32) (m_one : Int32) (m_two : Int32) (m_now : Nat → Int32) (x1 : Int32) (x2 : Int32) (post : Int32 → (Nat → Int32) → Prop) (hw : wp_X8_drink m_now x1 x2 post) : Met l yX8_drink wsX8_drink ({ frames := 5, cells := 0, slots := 0, locals := 119 } : Room) (va_Pc [.ref m_mo, .int x1, .int x2] (xM D G sz [(m_mo, .inr (8, [.ref m_alane, .ref m_asize, .ref m_aitem, .int m_letters, .ref m_atape, .int m_position, .int m_number, .ref m_anow, .ref m_atried, .ref m_aread, .ref m_akept, .int m_isKept, .ref m_anoticed, .ref m_aneeds, .ref m_aorder, .int m_many, .int m_one, .int m_two])), (m_anow, .inl (G 0, 55, .inl m_now))])) (va_Qi (fun r (u : (Nat → Int32)) => post r u) (fun u t => xE D G (va_A [(m_mo, .inr (8, [.ref m_alane, .ref m_asize, .ref m_aitem, .int m_letters, .ref m_atape, .int m_position, .int m_number, .ref m_anow, .ref m_atried, .ref m_aread, .ref m_akept, .int m_isKept, .ref m_anoticed, .ref m_aneeds, .ref m_aorder, .int m_many, .int m_one, .int m_two])), (m_anow, .inl (G 0, 55, .inl m_now))] sz) [(m_mo, .inr (8, [.ref m_alane, .ref m_asize, .ref m_aitem, .int m_letters, .ref m_atape, .int m_position, .int m_number, .ref m_anow, .ref m_atried, .ref m_aread, .ref m_akept, .int m_isKept, .ref m_anoticed, .ref m_aneeds, .ref m_aorder, .int m_many, .int m_one, .int m_two])), (m_anow, .inl (G 0, 55, .inl u))] t) (va_A [(m_mo, .inr (8, [.ref m_alane, .ref m_asize, .ref m_aitem, .int m_letters, .ref m_atape, .int m_position, .int m_number, .ref m_anow, .ref m_atried, .ref m_aread, .ref m_akept, .int m_isKept, .ref m_anoticed, .ref m_aneeds, .ref m_aorder, .int m_many, .int m_one, .int m_two])), (m_anow, .inl (G 0, 55, .inl m_now))] sz)) 0 0 (va_A [(m_mo, .inr (8, [.ref m_alane, .ref m_asize, .ref m_aitem, .int m_letters, .ref m_atape, .int m_position, .int m_number, .ref m_anow, .ref m_atried, .ref m_aread, .ref m_akept, .int m_isKept, .ref m_anoticed, .ref m_aneeds, .ref m_aorder, .int m_many, .int m_one, .int m_two])), (m_anow, .inl (G 0, 55, .inl m_now))] sz) := by
  refine Met.ofW (cc := cX8_drink) (maxL := 4) (ret := (some .int)) (by decide) rfl ?_
  intro p e s m args below meth c s₁ B hml hv
  obtain ⟨rfl, hsz, hP, hK, hD0⟩ := hv
  have hx := B.exec
  have hb := B.bytes
  have hr := B.returns
  have hts := atoms_spec (ws := wsX8_drink) B.pre
  have hown : s.vm.findClass RX8 = some m.cls := findClass_of_methodNamed B.named
  have hlocks := B.notSynchronized
  subst hsz
  have hD := hD0.self (sz := s.heap.size)
  generalize hAe : va_A [(m_mo, .inr (8, [.ref m_alane, .ref m_asize, .ref m_aitem, .int m_letters, .ref m_atape, .int m_position, .int m_number, .ref m_anow, .ref m_atried, .ref m_aread, .ref m_akept, .int m_isKept, .ref m_anoticed, .ref m_aneeds, .ref m_aorder, .int m_many, .int m_one, .int m_two])), (m_anow, .inl (G 0, 55, .inl m_now))] s.heap.size = A at hD ⊢
  have hA : ∀ q : Nat, s.heap.size ≤ q → A q := fun q h => by rw [← hAe]; exact Or.inr h
  have hS : va_S A s.heap s.heap [] := va_S.rf
  have inX8 : ∀ w ∈ wsX80, w ∈ wsX8_drink := by decide +kernel
  have fl23 := hts (.fieldLink RX8 23 "NewsCowModel" "now" "[I") (by decide +kernel)
  have hl := lv_entry ([.ref m_mo, .int x1, .int x2] : List Value) (n := 4) (Nat.le_of_ble_eq_true rfl)
  rw [lg_entry_eq]
  generalize (lg_sl ([.ref m_mo, .int x1, .int x2] : List Value) ++ List.replicate (4 - (lg_sl ([.ref m_mo, .int x1, .int x2] : List Value)).length) Slot.unset).toArray = ls at hl ⊢
  have hl : lv_has ls 4 [(0, .ref m_mo), (1, .int x1), (2, .int x2)] := hl
  unfold wp_X8_drink at hw
  refine lv_aload_n hx hb dX8_drink_0 rfl (lv_at hl 0 rfl) ?_
  refine lv_iload_n hx hb dX8_drink_1 rfl (lv_at hl 1 rfl) ?_
  refine vp_callSi (W.runV (As := [.int x1]) (rest := []) ⟨hx, hb, hml, hown, hts⟩ (c_X8_isTaster l D G m_mo m_alane m_asize m_aitem m_atape m_anow m_atried m_aread m_akept m_anoticed m_aneeds m_aorder m_letters m_position m_number m_isKept m_many m_one m_two m_now x1 _ hw) (cwV 1 hts gX8_drink_X8_isTaster rfl rfl rfl (by decide +kernel) ⟨(Nat.le_of_ble_eq_true rfl), (Nat.le_of_ble_eq_true rfl)⟩) (xR_pv (hP.sub [0, 1] rfl) hK (va_recv hK hP (ci := 8) (q0 := 0) rfl rfl)) rfl rfl hl.1 rfl (lv_room (Nat.le_of_ble_eq_true rfl)) dX8_drink_2 ⟨Nat.zero_le _, Nat.zero_le _⟩) (fun r1 hw => ?_)
  refine lv_if_eq (tgt := 16) hx hb dX8_drink_5 (by decide) (fun c9 => ?_) (fun c9 => ?_)
  · replace hw := hw.1 c9
    refine lv_iconst (v := -1) hx hb dX8_drink_16 (by decide) ?_
    exact W.iret hx hb hr (x_mi (u := m_now) hP hK hD hS hw) hS.2.2 dX8_drink_17
  · replace hw := hw.2 c9
    refine lv_aload_n hx hb dX8_drink_8 rfl (lv_at hl 0 rfl) ?_
    refine lv_iload_n hx hb dX8_drink_9 rfl (lv_at hl 2 rfl) ?_
    refine vp_callSi (W.runV (As := [.int x2]) (rest := []) ⟨hx, hb, hml, hown, hts⟩ (c_X8_isMix l D G m_mo m_alane m_asize m_aitem m_atape m_anow m_atried m_aread m_akept m_anoticed m_aneeds m_aorder m_letters m_position m_number m_isKept m_many m_one m_two m_now x2 _ hw) (cwV 1 hts gX8_drink_X8_isMix rfl rfl rfl (by decide +kernel) ⟨(Nat.le_of_ble_eq_true rfl), (Nat.le_of_ble_eq_true rfl)⟩) (xR_pv (hP.sub [0, 1] rfl) hK (va_recv hK hP (ci := 8) (q0 := 0) rfl rfl)) rfl rfl hl.1 rfl (lv_room (Nat.le_of_ble_eq_true rfl)) dX8_drink_10 ⟨Nat.zero_le _, Nat.zero_le _⟩) (fun r2 hw => ?_)
    refine lv_if_ne (tgt := 18) hx hb dX8_drink_13 (by decide) (fun c9 => ?_) (fun c9 => ?_)
    · replace hw := hw.1 c9
      refine lv_aload_n hx hb dX8_drink_18 rfl (lv_at hl 0 rfl) ?_
      refine va_get (D := D) (ci := 8) (v := .ref m_anow) (C := RX8) (T := TX8) (N := 18) hx hb hts inX8 hown hK hP 0 rfl rfl 7 (by decide) fl23 (fun _ h9 => h9) rfl dX8_drink_19 ?_
      refine lv_iconst (v := 0) hx hb dX8_drink_22 (by decide) ?_
      refine x_iald (j := 0) hx hb hK hP 1 0 rfl rfl (by decide) (x_in (by decide)) dX8_drink_23 ?_
      refine lv_sipush (v := 9999) hx hb dX8_drink_24 (by decide) ?_
      refine lv_icmp_ne (tgt := 33) hx hb dX8_drink_27 (by decide) (fun c9 => ?_) (fun c9 => ?_)
      · replace hw := hw.1 c9
        refine lv_aload_n hx hb dX8_drink_33 rfl (lv_at hl 0 rfl) ?_
        refine va_get (D := D) (ci := 8) (v := .ref m_anow) (C := RX8) (T := TX8) (N := 18) hx hb hts inX8 hown hK hP 0 rfl rfl 7 (by decide) fl23 (fun _ h9 => h9) rfl dX8_drink_34 ?_
        refine lv_iconst (v := 3) hx hb dX8_drink_37 (by decide) ?_
        refine x_iald (j := 3) hx hb hK hP 1 0 rfl rfl (by decide) (x_in (by decide)) dX8_drink_38 ?_
        refine lv_bipush (v := -4) hx hb dX8_drink_39 (by decide) ?_
        refine lv_icmp_ne (tgt := 47) hx hb dX8_drink_41 (by decide) (fun c9 => ?_) (fun c9 => ?_)
        · replace hw := hw.1 c9
          refine lv_aload_n hx hb dX8_drink_47 rfl (lv_at hl 0 rfl) ?_
          refine x_cMv (wr := []) (va_runV (As := []) (rest := []) ⟨hx, hb, hml, hown, hts⟩ (c_X8_note l D G _ m_mo m_alane m_asize m_aitem m_atape m_anow m_atried m_aread m_akept m_anoticed m_aneeds m_aorder m_letters m_position m_number m_isKept m_many m_one m_two m_now _ hw) (cwV 0 hts gX8_drink_X8_note rfl rfl rfl (by decide +kernel) ⟨(Nat.le_of_ble_eq_true rfl), (Nat.le_of_ble_eq_true rfl)⟩) (xM_pv (hP.sub [0, 1] rfl) hK (hD.sub [0, 1] (by decide) rfl) (va_recv hK hP (ci := 8) (q0 := 0) rfl rfl)) rfl rfl hl.1 rfl (lv_room (Nat.le_of_ble_eq_true rfl)) dX8_drink_48 ⟨Nat.zero_le _, Nat.zero_le _⟩) hP hD hS hA [0, 1] [] rfl rfl (by decide) (by decide) [0, 1] (fun u => [(m_mo, .inr (8, [.ref m_alane, .ref m_asize, .ref m_aitem, .int m_letters, .ref m_atape, .int m_position, .int m_number, .ref m_anow, .ref m_atried, .ref m_aread, .ref m_akept, .int m_isKept, .ref m_anoticed, .ref m_aneeds, .ref m_aorder, .int m_many, .int m_one, .int m_two])), (m_anow, .inl (G 0, 55, .inl u))]) (by decide) (fun u => rfl) (fun u H locs hw hP hD hS => ?_)
          obtain ⟨m_now_3, rfl⟩ : ∃ z, z = u := ⟨_, rfl⟩
          try dsimp only at hw
          replace hP : va_P D vwCl [(m_mo, .inr (8, [.ref m_alane, .ref m_asize, .ref m_aitem, .int m_letters, .ref m_atape, .int m_position, .int m_number, .ref m_anow, .ref m_atried, .ref m_aread, .ref m_akept, .int m_isKept, .ref m_anoticed, .ref m_aneeds, .ref m_aorder, .int m_many, .int m_one, .int m_two])), (m_anow, .inl (G 0, 55, .inl m_now_3))] H := hP
          replace hD : va_D A [(m_mo, .inr (8, [.ref m_alane, .ref m_asize, .ref m_aitem, .int m_letters, .ref m_atape, .int m_position, .int m_number, .ref m_anow, .ref m_atried, .ref m_aread, .ref m_akept, .int m_isKept, .ref m_anoticed, .ref m_aneeds, .ref m_aorder, .int m_many, .int m_one, .int m_two])), (m_anow, .inl (G 0, 55, .inl m_now_3))] := hD
          refine lv_aload_n hx hb dX8_drink_51 rfl (lv_at hl 0 rfl) ?_
          refine va_get (D := D) (ci := 8) (v := .ref m_anow) (C := RX8) (T := TX8) (N := 18) hx hb hts inX8 hown hK hP 0 rfl rfl 7 (by decide) fl23 (fun _ h9 => h9) rfl dX8_drink_52 ?_
          refine lv_iload_n hx hb dX8_drink_55 rfl (lv_at hl 1 rfl) ?_
          refine lv_iload_n hx hb dX8_drink_56 rfl (lv_at hl 2 rfl) ?_
          refine lv_aload_n hx hb dX8_drink_57 rfl (lv_at hl 0 rfl) ?_
          refine va_get (D := D) (ci := 8) (v := .ref m_anow) (C := RX8) (T := TX8) (N := 18) hx hb hts inX8 hown hK hP 0 rfl rfl 7 (by decide) fl23 (fun _ h9 => h9) rfl dX8_drink_58 ?_
          refine lv_iconst (v := 3) hx hb dX8_drink_61 (by decide) ?_
          refine x_iald (j := 3) hx hb hK hP 1 0 rfl rfl (by decide) (x_in (by decide)) dX8_drink_62 ?_
          refine vp_callSi (W.runS (As := [.ref m_anow, .int x1, .int x2, .int (m_now_3 3)]) (rest := []) ⟨hx, hb, hml, hown, hts⟩ (c_X8_noticesIn l D G m_anow m_now_3 x1 x2 (m_now_3 3) _ hw) (va_cwS 4 hts gX8_drink_X8_noticesIn rfl rfl rfl (by decide +kernel) ⟨(Nat.le_of_ble_eq_true rfl), (Nat.le_of_ble_eq_true rfl)⟩) (xR_ps (hP.sub [1] rfl) hK) rfl rfl hl.1 rfl (lv_room (Nat.le_of_ble_eq_true rfl)) dX8_drink_63 ⟨Nat.zero_le _, Nat.zero_le _⟩) (fun r4 hw => ?_)
          refine lv_istore_n (lv' := [(3, .int r4), (0, .ref m_mo), (1, .int x1), (2, .int x2)]) hx hb dX8_drink_66 rfl hl (by decide) rfl (fun ls hl => ?_)
          refine lv_aload_n hx hb dX8_drink_67 rfl (lv_at hl 1 rfl) ?_
          refine lv_iload_n hx hb dX8_drink_68 rfl (lv_at hl 2 rfl) ?_
          refine lv_iload_n hx hb dX8_drink_69 rfl (lv_at hl 3 rfl) ?_
          refine lv_iload_n hx hb dX8_drink_70 rfl (lv_at hl 0 rfl) ?_
          refine x_cMv (wr := []) (va_runV (As := [.int x1, .int x2, .int r4]) (rest := []) ⟨hx, hb, hml, hown, hts⟩ (c_X8_answers l D G _ m_mo m_alane m_asize m_aitem m_atape m_anow m_atried m_aread m_akept m_anoticed m_aneeds m_aorder m_letters m_position m_number m_isKept m_many m_one m_two m_now_3 x1 x2 r4 _ hw) (cwV 3 hts gX8_drink_X8_answers rfl rfl rfl (by decide +kernel) ⟨(Nat.le_of_ble_eq_true rfl), (Nat.le_of_ble_eq_true rfl)⟩) (xM_pv (hP.sub [0, 1] rfl) hK (hD.sub [0, 1] (by decide) rfl) (va_recv hK hP (ci := 8) (q0 := 0) rfl rfl)) rfl rfl hl.1 rfl (lv_room (Nat.le_of_ble_eq_true rfl)) dX8_drink_71 ⟨Nat.zero_le _, Nat.zero_le _⟩) hP hD hS hA [0, 1] [] rfl rfl (by decide) (by decide) [0, 1] (fun u => [(m_mo, .inr (8, [.ref m_alane, .ref m_asize, .ref m_aitem, .int m_letters, .ref m_atape, .int m_position, .int m_number, .ref m_anow, .ref m_atried, .ref m_aread, .ref m_akept, .int m_isKept, .ref m_anoticed, .ref m_aneeds, .ref m_aorder, .int m_many, .int m_one, .int m_two])), (m_anow, .inl (G 0, 55, .inl u))]) (by decide) (fun u => rfl) (fun u H locs hw hP hD hS => ?_)
          obtain ⟨m_now_5, rfl⟩ : ∃ z, z = u := ⟨_, rfl⟩
          try dsimp only at hw
          replace hP : va_P D vwCl [(m_mo, .inr (8, [.ref m_alane, .ref m_asize, .ref m_aitem, .int m_letters, .ref m_atape, .int m_position, .int m_number, .ref m_anow, .ref m_atried, .ref m_aread, .ref m_akept, .int m_isKept, .ref m_anoticed, .ref m_aneeds, .ref m_aorder, .int m_many, .int m_one, .int m_two])), (m_anow, .inl (G 0, 55, .inl m_now_5))] H := hP
          replace hD : va_D A [(m_mo, .inr (8, [.ref m_alane, .ref m_asize, .ref m_aitem, .int m_letters, .ref m_atape, .int m_position, .int m_number, .ref m_anow, .ref m_atried, .ref m_aread, .ref m_akept, .int m_isKept, .ref m_anoticed, .ref m_aneeds, .ref m_aorder, .int m_many, .int m_one, .int m_two])), (m_anow, .inl (G 0, 55, .inl m_now_5))] := hD
          refine lv_iload_n hx hb dX8_drink_74 rfl (lv_at hl 0 rfl) ?_
          refine lv_if_eq (tgt := 82) hx hb dX8_drink_75 (by decide) (fun c9 => ?_) (fun c9 => ?_)
          · replace hw := hw.1 c9
            refine lv_iconst (v := 0) hx hb dX8_drink_82 (by decide) ?_
            exact W.iret hx hb hr (x_mi (u := m_now_5) hP hK hD hS hw) hS.2.2 dX8_drink_83
          · replace hw := hw.2 c9
            refine lv_iconst (v := 1) hx hb dX8_drink_78 (by decide) ?_
            refine lv_goto (tgt := 83) hx hb dX8_drink_79 (by decide) ?_
            exact W.iret hx hb hr (x_mi (u := m_now_5) hP hK hD hS hw) hS.2.2 dX8_drink_83
        · replace hw := hw.2 c9
          refine lv_bipush (v := -2) hx hb dX8_drink_44 (by decide) ?_
          exact W.iret hx hb hr (x_mi (u := m_now) hP hK hD hS hw) hS.2.2 dX8_drink_46
      · replace hw := hw.2 c9
        refine lv_bipush (v := -3) hx hb dX8_drink_30 (by decide) ?_
        exact W.iret hx hb hr (x_mi (u := m_now) hP hK hD hS hw) hS.2.2 dX8_drink_32
    · replace hw := hw.2 c9
      refine lv_iconst (v := -1) hx hb dX8_drink_16 (by decide) ?_
      exact W.iret hx hb hr (x_mi (u := m_now) hP hK hD hS hw) hS.2.2 dX8_drink_17
set_option maxHeartbeats 4000000 in
set_option maxRecDepth 100000 in
theorem c_X8_forget (l : Launch) (D : va_G) (G : Nat → ClassId) (sz : Nat) (m_mo : Nat) (m_alane : Nat) (m_asize : Nat) (m_aitem : Nat) (m_atape : Nat) (m_anow : Nat) (m_atried : Nat) (m_aread : Nat) (m_akept : Nat) (m_anoticed : Nat) (m_aneeds : Nat) (m_aorder : Nat) (m_letters : Int32) (m_position : Int32) (m_number : Int32) (m_isKept : Int32) (m_many : Int32) (m_one : Int32) (m_two : Int32) (m_now : Nat → Int32) (post : Int32 → (Nat → Int32) → Prop) (hw : wp_X8_forget m_now post) : Met l yX8_forget wsX8_forget ({ frames := 2, cells := 0, slots := 0, locals := 45 } : Room) (va_Pc [.ref m_mo] (xM D G sz [(m_mo, .inr (8, [.ref m_alane, .ref m_asize, .ref m_aitem, .int m_letters, .ref m_atape, .int m_position, .int m_number, .ref m_anow, .ref m_atried, .ref m_aread, .ref m_akept, .int m_isKept, .ref m_anoticed, .ref m_aneeds, .ref m_aorder, .int m_many, .int m_one, .int m_two])), (m_anow, .inl (G 0, 55, .inl m_now))])) (va_Qi (fun r (u : (Nat → Int32)) => post r u) (fun u t => xE D G (va_A [(m_mo, .inr (8, [.ref m_alane, .ref m_asize, .ref m_aitem, .int m_letters, .ref m_atape, .int m_position, .int m_number, .ref m_anow, .ref m_atried, .ref m_aread, .ref m_akept, .int m_isKept, .ref m_anoticed, .ref m_aneeds, .ref m_aorder, .int m_many, .int m_one, .int m_two])), (m_anow, .inl (G 0, 55, .inl m_now))] sz) [(m_mo, .inr (8, [.ref m_alane, .ref m_asize, .ref m_aitem, .int m_letters, .ref m_atape, .int m_position, .int m_number, .ref m_anow, .ref m_atried, .ref m_aread, .ref m_akept, .int m_isKept, .ref m_anoticed, .ref m_aneeds, .ref m_aorder, .int m_many, .int m_one, .int m_two])), (m_anow, .inl (G 0, 55, .inl u))] t) (va_A [(m_mo, .inr (8, [.ref m_alane, .ref m_asize, .ref m_aitem, .int m_letters, .ref m_atape, .int m_position, .int m_number, .ref m_anow, .ref m_atried, .ref m_aread, .ref m_akept, .int m_isKept, .ref m_anoticed, .ref m_aneeds, .ref m_aorder, .int m_many, .int m_one, .int m_two])), (m_anow, .inl (G 0, 55, .inl m_now))] sz)) 0 0 (va_A [(m_mo, .inr (8, [.ref m_alane, .ref m_asize, .ref m_aitem, .int m_letters, .ref m_atape, .int m_position, .int m_number, .ref m_anow, .ref m_atried, .ref m_aread, .ref m_akept, .int m_isKept, .ref m_anoticed, .ref m_aneeds, .ref m_aorder, .int m_many, .int m_one, .int m_two])), (m_anow, .inl (G 0, 55, .inl m_now))] sz) := by
  refine Met.ofW (cc := cX8_forget) (maxL := 1) (ret := (some .int)) (by decide) rfl ?_
  intro p e s m args below meth c s₁ B hml hv
  obtain ⟨rfl, hsz, hP, hK, hD0⟩ := hv
  have hx := B.exec
  have hb := B.bytes
  have hr := B.returns
  have hts := atoms_spec (ws := wsX8_forget) B.pre
  have hown : s.vm.findClass RX8 = some m.cls := findClass_of_methodNamed B.named
  have hlocks := B.notSynchronized
  subst hsz
  have hD := hD0.self (sz := s.heap.size)
  generalize hAe : va_A [(m_mo, .inr (8, [.ref m_alane, .ref m_asize, .ref m_aitem, .int m_letters, .ref m_atape, .int m_position, .int m_number, .ref m_anow, .ref m_atried, .ref m_aread, .ref m_akept, .int m_isKept, .ref m_anoticed, .ref m_aneeds, .ref m_aorder, .int m_many, .int m_one, .int m_two])), (m_anow, .inl (G 0, 55, .inl m_now))] s.heap.size = A at hD ⊢
  have hA : ∀ q : Nat, s.heap.size ≤ q → A q := fun q h => by rw [← hAe]; exact Or.inr h
  have hS : va_S A s.heap s.heap [] := va_S.rf
  have inX8 : ∀ w ∈ wsX80, w ∈ wsX8_forget := by decide +kernel
  have fl23 := hts (.fieldLink RX8 23 "NewsCowModel" "now" "[I") (by decide +kernel)
  have hl := lv_entry ([.ref m_mo] : List Value) (n := 1) (Nat.le_of_ble_eq_true rfl)
  rw [lg_entry_eq]
  generalize (lg_sl ([.ref m_mo] : List Value) ++ List.replicate (1 - (lg_sl ([.ref m_mo] : List Value)).length) Slot.unset).toArray = ls at hl ⊢
  have hl : lv_has ls 1 [(0, .ref m_mo)] := hl
  unfold wp_X8_forget at hw
  refine lv_aload_n hx hb dX8_forget_0 rfl (lv_at hl 0 rfl) ?_
  refine va_get (D := D) (ci := 8) (v := .ref m_anow) (C := RX8) (T := TX8) (N := 18) hx hb hts inX8 hown hK hP 0 rfl rfl 7 (by decide) fl23 (fun _ h9 => h9) rfl dX8_forget_1 ?_
  refine lv_iconst (v := 2) hx hb dX8_forget_4 (by decide) ?_
  refine x_iald (j := 2) hx hb hK hP 1 0 rfl rfl (by decide) (x_in (by decide)) dX8_forget_5 ?_
  refine lv_aload_n hx hb dX8_forget_6 rfl (lv_at hl 0 rfl) ?_
  refine va_get (D := D) (ci := 8) (v := .ref m_anow) (C := RX8) (T := TX8) (N := 18) hx hb hts inX8 hown hK hP 0 rfl rfl 7 (by decide) fl23 (fun _ h9 => h9) rfl dX8_forget_7 ?_
  refine vp_callSi (W.runS (As := [.ref m_anow]) (rest := [.int (m_now 2)]) ⟨hx, hb, hml, hown, hts⟩ (c_X8_allOf l D G m_anow m_now _ hw) (va_cwS 1 hts gX8_forget_X8_allOf rfl rfl rfl (by decide +kernel) ⟨(Nat.le_of_ble_eq_true rfl), (Nat.le_of_ble_eq_true rfl)⟩) (xR_ps (hP.sub [1] rfl) hK) rfl rfl hl.1 rfl (lv_room (Nat.le_of_ble_eq_true rfl)) dX8_forget_10 ⟨Nat.zero_le _, Nat.zero_le _⟩) (fun r1 hw => ?_)
  refine lv_icmp_ne (tgt := 19) hx hb dX8_forget_13 (by decide) (fun c9 => ?_) (fun c9 => ?_)
  · replace hw := hw.1 c9
    refine lv_aload_n hx hb dX8_forget_19 rfl (lv_at hl 0 rfl) ?_
    refine x_cMv (wr := []) (va_runV (As := []) (rest := []) ⟨hx, hb, hml, hown, hts⟩ (c_X8_note l D G _ m_mo m_alane m_asize m_aitem m_atape m_anow m_atried m_aread m_akept m_anoticed m_aneeds m_aorder m_letters m_position m_number m_isKept m_many m_one m_two m_now _ hw) (cwV 0 hts gX8_forget_X8_note rfl rfl rfl (by decide +kernel) ⟨(Nat.le_of_ble_eq_true rfl), (Nat.le_of_ble_eq_true rfl)⟩) (xM_pv (hP.sub [0, 1] rfl) hK (hD.sub [0, 1] (by decide) rfl) (va_recv hK hP (ci := 8) (q0 := 0) rfl rfl)) rfl rfl hl.1 rfl (lv_room (Nat.le_of_ble_eq_true rfl)) dX8_forget_20 ⟨Nat.zero_le _, Nat.zero_le _⟩) hP hD hS hA [0, 1] [] rfl rfl (by decide) (by decide) [0, 1] (fun u => [(m_mo, .inr (8, [.ref m_alane, .ref m_asize, .ref m_aitem, .int m_letters, .ref m_atape, .int m_position, .int m_number, .ref m_anow, .ref m_atried, .ref m_aread, .ref m_akept, .int m_isKept, .ref m_anoticed, .ref m_aneeds, .ref m_aorder, .int m_many, .int m_one, .int m_two])), (m_anow, .inl (G 0, 55, .inl u))]) (by decide) (fun u => rfl) (fun u H locs hw hP hD hS => ?_)
    obtain ⟨m_now_2, rfl⟩ : ∃ z, z = u := ⟨_, rfl⟩
    try dsimp only at hw
    replace hP : va_P D vwCl [(m_mo, .inr (8, [.ref m_alane, .ref m_asize, .ref m_aitem, .int m_letters, .ref m_atape, .int m_position, .int m_number, .ref m_anow, .ref m_atried, .ref m_aread, .ref m_akept, .int m_isKept, .ref m_anoticed, .ref m_aneeds, .ref m_aorder, .int m_many, .int m_one, .int m_two])), (m_anow, .inl (G 0, 55, .inl m_now_2))] H := hP
    replace hD : va_D A [(m_mo, .inr (8, [.ref m_alane, .ref m_asize, .ref m_aitem, .int m_letters, .ref m_atape, .int m_position, .int m_number, .ref m_anow, .ref m_atried, .ref m_aread, .ref m_akept, .int m_isKept, .ref m_anoticed, .ref m_aneeds, .ref m_aorder, .int m_many, .int m_one, .int m_two])), (m_anow, .inl (G 0, 55, .inl m_now_2))] := hD
    refine lv_aload_n hx hb dX8_forget_23 rfl (lv_at hl 0 rfl) ?_
    refine va_get (D := D) (ci := 8) (v := .ref m_anow) (C := RX8) (T := TX8) (N := 18) hx hb hts inX8 hown hK hP 0 rfl rfl 7 (by decide) fl23 (fun _ h9 => h9) rfl dX8_forget_24 ?_
    refine lv_iconst (v := 2) hx hb dX8_forget_27 (by decide) ?_
    refine lv_aload_n hx hb dX8_forget_28 rfl (lv_at hl 0 rfl) ?_
    refine va_get (D := D) (ci := 8) (v := .ref m_anow) (C := RX8) (T := TX8) (N := 18) hx hb hts inX8 hown hK hP 0 rfl rfl 7 (by decide) fl23 (fun _ h9 => h9) rfl dX8_forget_29 ?_
    refine vp_callSi (W.runS (As := [.ref m_anow]) (rest := [.int (2 : Int32), .ref m_anow]) ⟨hx, hb, hml, hown, hts⟩ (c_X8_allOf l D G m_anow m_now_2 _ hw) (va_cwS 1 hts gX8_forget_X8_allOf rfl rfl rfl (by decide +kernel) ⟨(Nat.le_of_ble_eq_true rfl), (Nat.le_of_ble_eq_true rfl)⟩) (xR_ps (hP.sub [1] rfl) hK) rfl rfl hl.1 rfl (lv_room (Nat.le_of_ble_eq_true rfl)) dX8_forget_32 ⟨Nat.zero_le _, Nat.zero_le _⟩) (fun r3 hw => ?_)
    refine x_iast (j := 2) hx hb hK hP hD hS 1 0 rfl rfl (by decide) (x_in (by decide)) dX8_forget_35 (fun H locs hP hD hS => ?_)
    replace hP : va_P D vwCl [(m_mo, .inr (8, [.ref m_alane, .ref m_asize, .ref m_aitem, .int m_letters, .ref m_atape, .int m_position, .int m_number, .ref m_anow, .ref m_atried, .ref m_aread, .ref m_akept, .int m_isKept, .ref m_anoticed, .ref m_aneeds, .ref m_aorder, .int m_many, .int m_one, .int m_two])), (m_anow, .inl (G 0, 55, .inl (upd m_now_2 2 r3)))] H := hP
    replace hD : va_D A [(m_mo, .inr (8, [.ref m_alane, .ref m_asize, .ref m_aitem, .int m_letters, .ref m_atape, .int m_position, .int m_number, .ref m_anow, .ref m_atried, .ref m_aread, .ref m_akept, .int m_isKept, .ref m_anoticed, .ref m_aneeds, .ref m_aorder, .int m_many, .int m_one, .int m_two])), (m_anow, .inl (G 0, 55, .inl (upd m_now_2 2 r3)))] := hD
    refine lv_aload_n hx hb dX8_forget_36 rfl (lv_at hl 0 rfl) ?_
    refine va_get (D := D) (ci := 8) (v := .ref m_anow) (C := RX8) (T := TX8) (N := 18) hx hb hts inX8 hown hK hP 0 rfl rfl 7 (by decide) fl23 (fun _ h9 => h9) rfl dX8_forget_37 ?_
    refine lv_iconst (v := 4) hx hb dX8_forget_40 (by decide) ?_
    refine x_iald (j := 4) hx hb hK hP 1 0 rfl rfl (by decide) (x_in (by decide)) dX8_forget_41 ?_
    exact W.iret hx hb hr (x_mi (u := (upd m_now_2 2 r3)) hP hK hD hS hw) hS.2.2 dX8_forget_42
  · replace hw := hw.2 c9
    refine lv_bipush (v := -2) hx hb dX8_forget_16 (by decide) ?_
    exact W.iret hx hb hr (x_mi (u := m_now) hP hK hD hS hw) hS.2.2 dX8_forget_18
set_option maxHeartbeats 4000000 in
set_option maxRecDepth 100000 in
theorem c_X8_bear (l : Launch) (D : va_G) (G : Nat → ClassId) (sz : Nat) (m_mo : Nat) (m_alane : Nat) (m_asize : Nat) (m_aitem : Nat) (m_atape : Nat) (m_anow : Nat) (m_atried : Nat) (m_aread : Nat) (m_akept : Nat) (m_anoticed : Nat) (m_aneeds : Nat) (m_aorder : Nat) (m_letters : Int32) (m_position : Int32) (m_number : Int32) (m_isKept : Int32) (m_many : Int32) (m_one : Int32) (m_two : Int32) (m_now : Nat → Int32) (x1 : Int32) (post : Int32 → (Nat → Int32) → Prop) (hw : wp_X8_bear m_now x1 post) : Met l yX8_bear wsX8_bear ({ frames := 2, cells := 0, slots := 0, locals := 45 } : Room) (va_Pc [.ref m_mo, .int x1] (xM D G sz [(m_mo, .inr (8, [.ref m_alane, .ref m_asize, .ref m_aitem, .int m_letters, .ref m_atape, .int m_position, .int m_number, .ref m_anow, .ref m_atried, .ref m_aread, .ref m_akept, .int m_isKept, .ref m_anoticed, .ref m_aneeds, .ref m_aorder, .int m_many, .int m_one, .int m_two])), (m_anow, .inl (G 0, 55, .inl m_now))])) (va_Qi (fun r (u : (Nat → Int32)) => post r u) (fun u t => xE D G (va_A [(m_mo, .inr (8, [.ref m_alane, .ref m_asize, .ref m_aitem, .int m_letters, .ref m_atape, .int m_position, .int m_number, .ref m_anow, .ref m_atried, .ref m_aread, .ref m_akept, .int m_isKept, .ref m_anoticed, .ref m_aneeds, .ref m_aorder, .int m_many, .int m_one, .int m_two])), (m_anow, .inl (G 0, 55, .inl m_now))] sz) [(m_mo, .inr (8, [.ref m_alane, .ref m_asize, .ref m_aitem, .int m_letters, .ref m_atape, .int m_position, .int m_number, .ref m_anow, .ref m_atried, .ref m_aread, .ref m_akept, .int m_isKept, .ref m_anoticed, .ref m_aneeds, .ref m_aorder, .int m_many, .int m_one, .int m_two])), (m_anow, .inl (G 0, 55, .inl u))] t) (va_A [(m_mo, .inr (8, [.ref m_alane, .ref m_asize, .ref m_aitem, .int m_letters, .ref m_atape, .int m_position, .int m_number, .ref m_anow, .ref m_atried, .ref m_aread, .ref m_akept, .int m_isKept, .ref m_anoticed, .ref m_aneeds, .ref m_aorder, .int m_many, .int m_one, .int m_two])), (m_anow, .inl (G 0, 55, .inl m_now))] sz)) 0 0 (va_A [(m_mo, .inr (8, [.ref m_alane, .ref m_asize, .ref m_aitem, .int m_letters, .ref m_atape, .int m_position, .int m_number, .ref m_anow, .ref m_atried, .ref m_aread, .ref m_akept, .int m_isKept, .ref m_anoticed, .ref m_aneeds, .ref m_aorder, .int m_many, .int m_one, .int m_two])), (m_anow, .inl (G 0, 55, .inl m_now))] sz) := by
  refine Met.ofW (cc := cX8_bear) (maxL := 3) (ret := (some .int)) (by decide) rfl ?_
  intro p e s m args below meth c s₁ B hml hv
  obtain ⟨rfl, hsz, hP, hK, hD0⟩ := hv
  have hx := B.exec
  have hb := B.bytes
  have hr := B.returns
  have hts := atoms_spec (ws := wsX8_bear) B.pre
  have hown : s.vm.findClass RX8 = some m.cls := findClass_of_methodNamed B.named
  have hlocks := B.notSynchronized
  subst hsz
  have hD := hD0.self (sz := s.heap.size)
  generalize hAe : va_A [(m_mo, .inr (8, [.ref m_alane, .ref m_asize, .ref m_aitem, .int m_letters, .ref m_atape, .int m_position, .int m_number, .ref m_anow, .ref m_atried, .ref m_aread, .ref m_akept, .int m_isKept, .ref m_anoticed, .ref m_aneeds, .ref m_aorder, .int m_many, .int m_one, .int m_two])), (m_anow, .inl (G 0, 55, .inl m_now))] s.heap.size = A at hD ⊢
  have hA : ∀ q : Nat, s.heap.size ≤ q → A q := fun q h => by rw [← hAe]; exact Or.inr h
  have hS : va_S A s.heap s.heap [] := va_S.rf
  have inX8 : ∀ w ∈ wsX80, w ∈ wsX8_bear := by decide +kernel
  have fl23 := hts (.fieldLink RX8 23 "NewsCowModel" "now" "[I") (by decide +kernel)
  have hl := lv_entry ([.ref m_mo, .int x1] : List Value) (n := 3) (Nat.le_of_ble_eq_true rfl)
  rw [lg_entry_eq]
  generalize (lg_sl ([.ref m_mo, .int x1] : List Value) ++ List.replicate (3 - (lg_sl ([.ref m_mo, .int x1] : List Value)).length) Slot.unset).toArray = ls at hl ⊢
  have hl : lv_has ls 3 [(0, .ref m_mo), (1, .int x1)] := hl
  unfold wp_X8_bear at hw
  have J16 : ∀ (H : Heap) (locs : List Loc) (ls : Array Slot), wp_X8_bear_J16 m_now x1 post → va_P D vwCl [(m_mo, .inr (8, [.ref m_alane, .ref m_asize, .ref m_aitem, .int m_letters, .ref m_atape, .int m_position, .int m_number, .ref m_anow, .ref m_atried, .ref m_aread, .ref m_akept, .int m_isKept, .ref m_anoticed, .ref m_aneeds, .ref m_aorder, .int m_many, .int m_one, .int m_two])), (m_anow, .inl (G 0, 55, .inl m_now))] H → va_D A [(m_mo, .inr (8, [.ref m_alane, .ref m_asize, .ref m_aitem, .int m_letters, .ref m_atape, .int m_position, .int m_number, .ref m_anow, .ref m_atried, .ref m_aread, .ref m_akept, .int m_isKept, .ref m_anoticed, .ref m_aneeds, .ref m_aorder, .int m_many, .int m_one, .int m_two])), (m_anow, .inl (G 0, 55, .inl m_now))] → va_S A s.heap H locs → lv_has ls 3 [(0, .ref m_mo), (1, .int x1)] → W p l e (headSpec wsX8_bear ({ frames := 2, cells := 0, slots := 0, locals := 45 } : Room)).room s m ([.ref m_mo, .int x1] : List Value).toArray below meth c H locs 0 0 (MQ below (va_Qi (fun r (u : (Nat → Int32)) => post r u) (fun u t => xE D G A [(m_mo, .inr (8, [.ref m_alane, .ref m_asize, .ref m_aitem, .int m_letters, .ref m_atape, .int m_position, .int m_number, .ref m_anow, .ref m_atried, .ref m_aread, .ref m_akept, .int m_isKept, .ref m_anoticed, .ref m_aneeds, .ref m_aorder, .int m_many, .int m_one, .int m_two])), (m_anow, .inl (G 0, 55, .inl u))] t) A) ([.ref m_mo, .int x1] : List Value).toArray s 0 0 A) (F0 m 16 ls []) := by
    intro H locs ls hw hP hD hS hl
    unfold wp_X8_bear_J16 at hw
    refine lv_aload_n hx hb dX8_bear_16 rfl (lv_at hl 0 rfl) ?_
    refine va_get (D := D) (ci := 8) (v := .ref m_anow) (C := RX8) (T := TX8) (N := 18) hx hb hts inX8 hown hK hP 0 rfl rfl 7 (by decide) fl23 (fun _ h9 => h9) rfl dX8_bear_17 ?_
    refine lv_iconst (v := 3) hx hb dX8_bear_20 (by decide) ?_
    refine x_iald (j := 3) hx hb hK hP 1 0 rfl rfl (by decide) (x_in (by decide)) dX8_bear_21 ?_
    refine lv_istore_n (lv' := [(2, .int (m_now 3)), (0, .ref m_mo), (1, .int x1)]) hx hb dX8_bear_22 rfl hl (by decide) rfl (fun ls hl => ?_)
    refine lv_iload_n hx hb dX8_bear_23 rfl (lv_at hl 0 rfl) ?_
    refine lv_iload_n hx hb dX8_bear_24 rfl (lv_at hl 2 rfl) ?_
    refine lv_icmp_ne (tgt := 31) hx hb dX8_bear_25 (by decide) (fun c9 => ?_) (fun c9 => ?_)
    · replace hw := hw.1 c9
      refine lv_aload_n hx hb dX8_bear_31 rfl (lv_at hl 1 rfl) ?_
      refine x_cMv (wr := []) (va_runV (As := []) (rest := []) ⟨hx, hb, hml, hown, hts⟩ (c_X8_note l D G _ m_mo m_alane m_asize m_aitem m_atape m_anow m_atried m_aread m_akept m_anoticed m_aneeds m_aorder m_letters m_position m_number m_isKept m_many m_one m_two m_now _ hw) (cwV 0 hts gX8_bear_X8_note rfl rfl rfl (by decide +kernel) ⟨(Nat.le_of_ble_eq_true rfl), (Nat.le_of_ble_eq_true rfl)⟩) (xM_pv (hP.sub [0, 1] rfl) hK (hD.sub [0, 1] (by decide) rfl) (va_recv hK hP (ci := 8) (q0 := 0) rfl rfl)) rfl rfl hl.1 rfl (lv_room (Nat.le_of_ble_eq_true rfl)) dX8_bear_32 ⟨Nat.zero_le _, Nat.zero_le _⟩) hP hD hS hA [0, 1] [] rfl rfl (by decide) (by decide) [0, 1] (fun u => [(m_mo, .inr (8, [.ref m_alane, .ref m_asize, .ref m_aitem, .int m_letters, .ref m_atape, .int m_position, .int m_number, .ref m_anow, .ref m_atried, .ref m_aread, .ref m_akept, .int m_isKept, .ref m_anoticed, .ref m_aneeds, .ref m_aorder, .int m_many, .int m_one, .int m_two])), (m_anow, .inl (G 0, 55, .inl u))]) (by decide) (fun u => rfl) (fun u H locs hw hP hD hS => ?_)
      obtain ⟨m_now_2, rfl⟩ : ∃ z, z = u := ⟨_, rfl⟩
      try dsimp only at hw
      replace hP : va_P D vwCl [(m_mo, .inr (8, [.ref m_alane, .ref m_asize, .ref m_aitem, .int m_letters, .ref m_atape, .int m_position, .int m_number, .ref m_anow, .ref m_atried, .ref m_aread, .ref m_akept, .int m_isKept, .ref m_anoticed, .ref m_aneeds, .ref m_aorder, .int m_many, .int m_one, .int m_two])), (m_anow, .inl (G 0, 55, .inl m_now_2))] H := hP
      replace hD : va_D A [(m_mo, .inr (8, [.ref m_alane, .ref m_asize, .ref m_aitem, .int m_letters, .ref m_atape, .int m_position, .int m_number, .ref m_anow, .ref m_atried, .ref m_aread, .ref m_akept, .int m_isKept, .ref m_anoticed, .ref m_aneeds, .ref m_aorder, .int m_many, .int m_one, .int m_two])), (m_anow, .inl (G 0, 55, .inl m_now_2))] := hD
      refine lv_aload_n hx hb dX8_bear_35 rfl (lv_at hl 1 rfl) ?_
      refine va_get (D := D) (ci := 8) (v := .ref m_anow) (C := RX8) (T := TX8) (N := 18) hx hb hts inX8 hown hK hP 0 rfl rfl 7 (by decide) fl23 (fun _ h9 => h9) rfl dX8_bear_36 ?_
      refine lv_iconst (v := 3) hx hb dX8_bear_39 (by decide) ?_
      refine lv_iload_n hx hb dX8_bear_40 rfl (lv_at hl 2 rfl) ?_
      refine x_iast (j := 3) hx hb hK hP hD hS 1 0 rfl rfl (by decide) (x_in (by decide)) dX8_bear_41 (fun H locs hP hD hS => ?_)
      replace hP : va_P D vwCl [(m_mo, .inr (8, [.ref m_alane, .ref m_asize, .ref m_aitem, .int m_letters, .ref m_atape, .int m_position, .int m_number, .ref m_anow, .ref m_atried, .ref m_aread, .ref m_akept, .int m_isKept, .ref m_anoticed, .ref m_aneeds, .ref m_aorder, .int m_many, .int m_one, .int m_two])), (m_anow, .inl (G 0, 55, .inl (upd m_now_2 3 x1)))] H := hP
      replace hD : va_D A [(m_mo, .inr (8, [.ref m_alane, .ref m_asize, .ref m_aitem, .int m_letters, .ref m_atape, .int m_position, .int m_number, .ref m_anow, .ref m_atried, .ref m_aread, .ref m_akept, .int m_isKept, .ref m_anoticed, .ref m_aneeds, .ref m_aorder, .int m_many, .int m_one, .int m_two])), (m_anow, .inl (G 0, 55, .inl (upd m_now_2 3 x1)))] := hD
      refine lv_iload_n hx hb dX8_bear_42 rfl (lv_at hl 0 rfl) ?_
      exact W.iret hx hb hr (x_mi (u := (upd m_now_2 3 x1)) hP hK hD hS hw) hS.2.2 dX8_bear_43
    · replace hw := hw.2 c9
      refine lv_bipush (v := -2) hx hb dX8_bear_28 (by decide) ?_
      exact W.iret hx hb hr (x_mi (u := m_now) hP hK hD hS hw) hS.2.2 dX8_bear_30
  refine lv_iload_n hx hb dX8_bear_0 rfl (lv_at hl 1 rfl) ?_
  refine lv_bipush (v := -4) hx hb dX8_bear_1 (by decide) ?_
  refine lv_icmp_eq (tgt := 16) hx hb dX8_bear_3 (by decide) (fun c9 => ?_) (fun c9 => ?_)
  · replace hw := hw.1 c9
    exact J16  _ _ _ hw hP hD hS (lv_sub hl [0, 1] rfl)
  · replace hw := hw.2 c9
    refine lv_aload_n hx hb dX8_bear_6 rfl (lv_at hl 0 rfl) ?_
    refine lv_iload_n hx hb dX8_bear_7 rfl (lv_at hl 1 rfl) ?_
    refine vp_callSi (W.runV (As := [.int x1]) (rest := []) ⟨hx, hb, hml, hown, hts⟩ (c_X8_isCow l D G m_mo m_alane m_asize m_aitem m_atape m_anow m_atried m_aread m_akept m_anoticed m_aneeds m_aorder m_letters m_position m_number m_isKept m_many m_one m_two m_now x1 _ hw) (cwV 1 hts gX8_bear_X8_isCow rfl rfl rfl (by decide +kernel) ⟨(Nat.le_of_ble_eq_true rfl), (Nat.le_of_ble_eq_true rfl)⟩) (xR_pv (hP.sub [0, 1] rfl) hK (va_recv hK hP (ci := 8) (q0 := 0) rfl rfl)) rfl rfl hl.1 rfl (lv_room (Nat.le_of_ble_eq_true rfl)) dX8_bear_8 ⟨Nat.zero_le _, Nat.zero_le _⟩) (fun r1 hw => ?_)
    refine lv_if_ne (tgt := 16) hx hb dX8_bear_11 (by decide) (fun c9 => ?_) (fun c9 => ?_)
    · replace hw := hw.1 c9
      exact J16  _ _ _ hw hP hD hS (lv_sub hl [0, 1] rfl)
    · replace hw := hw.2 c9
      refine lv_iconst (v := -1) hx hb dX8_bear_14 (by decide) ?_
      exact W.iret hx hb hr (x_mi (u := m_now) hP hK hD hS hw) hS.2.2 dX8_bear_15
set_option maxHeartbeats 4000000 in
set_option maxRecDepth 100000 in
theorem c_X8_drift (l : Launch) (D : va_G) (G : Nat → ClassId) (sz : Nat) (m_mo : Nat) (m_alane : Nat) (m_asize : Nat) (m_aitem : Nat) (m_atape : Nat) (m_anow : Nat) (m_atried : Nat) (m_aread : Nat) (m_akept : Nat) (m_anoticed : Nat) (m_aneeds : Nat) (m_aorder : Nat) (m_letters : Int32) (m_position : Int32) (m_number : Int32) (m_isKept : Int32) (m_many : Int32) (m_one : Int32) (m_two : Int32) (m_now : Nat → Int32) (x1 : Int32) (post : Int32 → (Nat → Int32) → Prop) (hw : wp_X8_drift m_now x1 post) : Met l yX8_drift wsX8_drift ({ frames := 5, cells := 0, slots := 0, locals := 119 } : Room) (va_Pc [.ref m_mo, .int x1] (xM D G sz [(m_mo, .inr (8, [.ref m_alane, .ref m_asize, .ref m_aitem, .int m_letters, .ref m_atape, .int m_position, .int m_number, .ref m_anow, .ref m_atried, .ref m_aread, .ref m_akept, .int m_isKept, .ref m_anoticed, .ref m_aneeds, .ref m_aorder, .int m_many, .int m_one, .int m_two])), (m_anow, .inl (G 0, 55, .inl m_now))])) (va_Qi (fun r (u : (Nat → Int32)) => post r u) (fun u t => xE D G (va_A [(m_mo, .inr (8, [.ref m_alane, .ref m_asize, .ref m_aitem, .int m_letters, .ref m_atape, .int m_position, .int m_number, .ref m_anow, .ref m_atried, .ref m_aread, .ref m_akept, .int m_isKept, .ref m_anoticed, .ref m_aneeds, .ref m_aorder, .int m_many, .int m_one, .int m_two])), (m_anow, .inl (G 0, 55, .inl m_now))] sz) [(m_mo, .inr (8, [.ref m_alane, .ref m_asize, .ref m_aitem, .int m_letters, .ref m_atape, .int m_position, .int m_number, .ref m_anow, .ref m_atried, .ref m_aread, .ref m_akept, .int m_isKept, .ref m_anoticed, .ref m_aneeds, .ref m_aorder, .int m_many, .int m_one, .int m_two])), (m_anow, .inl (G 0, 55, .inl u))] t) (va_A [(m_mo, .inr (8, [.ref m_alane, .ref m_asize, .ref m_aitem, .int m_letters, .ref m_atape, .int m_position, .int m_number, .ref m_anow, .ref m_atried, .ref m_aread, .ref m_akept, .int m_isKept, .ref m_anoticed, .ref m_aneeds, .ref m_aorder, .int m_many, .int m_one, .int m_two])), (m_anow, .inl (G 0, 55, .inl m_now))] sz)) 0 0 (va_A [(m_mo, .inr (8, [.ref m_alane, .ref m_asize, .ref m_aitem, .int m_letters, .ref m_atape, .int m_position, .int m_number, .ref m_anow, .ref m_atried, .ref m_aread, .ref m_akept, .int m_isKept, .ref m_anoticed, .ref m_aneeds, .ref m_aorder, .int m_many, .int m_one, .int m_two])), (m_anow, .inl (G 0, 55, .inl m_now))] sz) := by
  refine Met.ofW (cc := cX8_drift) (maxL := 5) (ret := (some .int)) (by decide) rfl ?_
  intro p e s m args below meth c s₁ B hml hv
  obtain ⟨rfl, hsz, hP, hK, hD0⟩ := hv
  have hx := B.exec
  have hb := B.bytes
  have hr := B.returns
  have hts := atoms_spec (ws := wsX8_drift) B.pre
  have hown : s.vm.findClass RX8 = some m.cls := findClass_of_methodNamed B.named
  have hlocks := B.notSynchronized
  subst hsz
  have hD := hD0.self (sz := s.heap.size)
  generalize hAe : va_A [(m_mo, .inr (8, [.ref m_alane, .ref m_asize, .ref m_aitem, .int m_letters, .ref m_atape, .int m_position, .int m_number, .ref m_anow, .ref m_atried, .ref m_aread, .ref m_akept, .int m_isKept, .ref m_anoticed, .ref m_aneeds, .ref m_aorder, .int m_many, .int m_one, .int m_two])), (m_anow, .inl (G 0, 55, .inl m_now))] s.heap.size = A at hD ⊢
  have hA : ∀ q : Nat, s.heap.size ≤ q → A q := fun q h => by rw [← hAe]; exact Or.inr h
  have hS : va_S A s.heap s.heap [] := va_S.rf
  have inX8 : ∀ w ∈ wsX80, w ∈ wsX8_drift := by decide +kernel
  have fl23 := hts (.fieldLink RX8 23 "NewsCowModel" "now" "[I") (by decide +kernel)
  have hl := lv_entry ([.ref m_mo, .int x1] : List Value) (n := 5) (Nat.le_of_ble_eq_true rfl)
  rw [lg_entry_eq]
  generalize (lg_sl ([.ref m_mo, .int x1] : List Value) ++ List.replicate (5 - (lg_sl ([.ref m_mo, .int x1] : List Value)).length) Slot.unset).toArray = ls at hl ⊢
  have hl : lv_has ls 5 [(0, .ref m_mo), (1, .int x1)] := hl
  unfold wp_X8_drift at hw
  have L31 : ∀ (f31 : Nat) (x2 : Int32) (m_now : Nat → Int32) (H : Heap) (locs : List Loc) (ls : Array Slot), wp_X8_drift_L31 x1 post f31 m_now x2 → va_P D vwCl [(m_mo, .inr (8, [.ref m_alane, .ref m_asize, .ref m_aitem, .int m_letters, .ref m_atape, .int m_position, .int m_number, .ref m_anow, .ref m_atried, .ref m_aread, .ref m_akept, .int m_isKept, .ref m_anoticed, .ref m_aneeds, .ref m_aorder, .int m_many, .int m_one, .int m_two])), (m_anow, .inl (G 0, 55, .inl m_now))] H → va_D A [(m_mo, .inr (8, [.ref m_alane, .ref m_asize, .ref m_aitem, .int m_letters, .ref m_atape, .int m_position, .int m_number, .ref m_anow, .ref m_atried, .ref m_aread, .ref m_akept, .int m_isKept, .ref m_anoticed, .ref m_aneeds, .ref m_aorder, .int m_many, .int m_one, .int m_two])), (m_anow, .inl (G 0, 55, .inl m_now))] → va_S A s.heap H locs → lv_has ls 5 [(0, .ref m_mo), (1, .int x1), (2, .int x2)] → W p l e (headSpec wsX8_drift ({ frames := 5, cells := 0, slots := 0, locals := 119 } : Room)).room s m ([.ref m_mo, .int x1] : List Value).toArray below meth c H locs 0 0 (MQ below (va_Qi (fun r (u : (Nat → Int32)) => post r u) (fun u t => xE D G A [(m_mo, .inr (8, [.ref m_alane, .ref m_asize, .ref m_aitem, .int m_letters, .ref m_atape, .int m_position, .int m_number, .ref m_anow, .ref m_atried, .ref m_aread, .ref m_akept, .int m_isKept, .ref m_anoticed, .ref m_aneeds, .ref m_aorder, .int m_many, .int m_one, .int m_two])), (m_anow, .inl (G 0, 55, .inl u))] t) A) ([.ref m_mo, .int x1] : List Value).toArray s 0 0 A) (F0 m 31 ls []) := by
    intro f31
    induction f31 with
    | zero => intro x2 m_now H locs ls hw hP hD hS hl; exact (hw : False).elim
    | succ f31 ih31 =>
      intro x2 m_now H locs ls hw hP hD hS hl
      unfold wp_X8_drift_L31 at hw
      refine lv_iload_n hx hb dX8_drift_31 rfl (lv_at hl 2 rfl) ?_
      refine lv_iload_n hx hb dX8_drift_32 rfl (lv_at hl 1 rfl) ?_
      refine lv_icmp_ge (tgt := 159) hx hb dX8_drift_33 (by decide) (fun c9 => ?_) (fun c9 => ?_)
      · replace hw := hw.1 c9
        refine lv_aload_n hx hb dX8_drift_159 rfl (lv_at hl 0 rfl) ?_
        refine va_get (D := D) (ci := 8) (v := .ref m_anow) (C := RX8) (T := TX8) (N := 18) hx hb hts inX8 hown hK hP 0 rfl rfl 7 (by decide) fl23 (fun _ h9 => h9) rfl dX8_drift_160 ?_
        refine lv_iconst (v := 2) hx hb dX8_drift_163 (by decide) ?_
        refine x_iald (j := 2) hx hb hK hP 1 0 rfl rfl (by decide) (x_in (by decide)) dX8_drift_164 ?_
        exact W.iret hx hb hr (x_mi (u := m_now) hP hK hD hS hw) hS.2.2 dX8_drift_165
      · replace hw := hw.2 c9
        refine lv_aload_n hx hb dX8_drift_36 rfl (lv_at hl 0 rfl) ?_
        refine x_cMv (wr := []) (va_runV (As := []) (rest := []) ⟨hx, hb, hml, hown, hts⟩ (c_X8_note l D G _ m_mo m_alane m_asize m_aitem m_atape m_anow m_atried m_aread m_akept m_anoticed m_aneeds m_aorder m_letters m_position m_number m_isKept m_many m_one m_two m_now _ hw) (cwV 0 hts gX8_drift_X8_note rfl rfl rfl (by decide +kernel) ⟨(Nat.le_of_ble_eq_true rfl), (Nat.le_of_ble_eq_true rfl)⟩) (xM_pv (hP.sub [0, 1] rfl) hK (hD.sub [0, 1] (by decide) rfl) (va_recv hK hP (ci := 8) (q0 := 0) rfl rfl)) rfl rfl hl.1 rfl (lv_room (Nat.le_of_ble_eq_true rfl)) dX8_drift_37 ⟨Nat.zero_le _, Nat.zero_le _⟩) hP hD hS hA [0, 1] [] rfl rfl (by decide) (by decide) [0, 1] (fun u => [(m_mo, .inr (8, [.ref m_alane, .ref m_asize, .ref m_aitem, .int m_letters, .ref m_atape, .int m_position, .int m_number, .ref m_anow, .ref m_atried, .ref m_aread, .ref m_akept, .int m_isKept, .ref m_anoticed, .ref m_aneeds, .ref m_aorder, .int m_many, .int m_one, .int m_two])), (m_anow, .inl (G 0, 55, .inl u))]) (by decide) (fun u => rfl) (fun u H locs hw hP hD hS => ?_)
        obtain ⟨m_now_2, rfl⟩ : ∃ z, z = u := ⟨_, rfl⟩
        try dsimp only at hw
        replace hP : va_P D vwCl [(m_mo, .inr (8, [.ref m_alane, .ref m_asize, .ref m_aitem, .int m_letters, .ref m_atape, .int m_position, .int m_number, .ref m_anow, .ref m_atried, .ref m_aread, .ref m_akept, .int m_isKept, .ref m_anoticed, .ref m_aneeds, .ref m_aorder, .int m_many, .int m_one, .int m_two])), (m_anow, .inl (G 0, 55, .inl m_now_2))] H := hP
        replace hD : va_D A [(m_mo, .inr (8, [.ref m_alane, .ref m_asize, .ref m_aitem, .int m_letters, .ref m_atape, .int m_position, .int m_number, .ref m_anow, .ref m_atried, .ref m_aread, .ref m_akept, .int m_isKept, .ref m_anoticed, .ref m_aneeds, .ref m_aorder, .int m_many, .int m_one, .int m_two])), (m_anow, .inl (G 0, 55, .inl m_now_2))] := hD
        refine lv_aload_n hx hb dX8_drift_40 rfl (lv_at hl 0 rfl) ?_
        refine va_get (D := D) (ci := 8) (v := .ref m_anow) (C := RX8) (T := TX8) (N := 18) hx hb hts inX8 hown hK hP 0 rfl rfl 7 (by decide) fl23 (fun _ h9 => h9) rfl dX8_drift_41 ?_
        refine lv_iconst (v := 1) hx hb dX8_drift_44 (by decide) ?_
        refine lv_aload_n hx hb dX8_drift_45 rfl (lv_at hl 0 rfl) ?_
        refine va_get (D := D) (ci := 8) (v := .ref m_anow) (C := RX8) (T := TX8) (N := 18) hx hb hts inX8 hown hK hP 0 rfl rfl 7 (by decide) fl23 (fun _ h9 => h9) rfl dX8_drift_46 ?_
        refine lv_iconst (v := 1) hx hb dX8_drift_49 (by decide) ?_
        refine x_iald (j := 1) hx hb hK hP 1 0 rfl rfl (by decide) (x_in (by decide)) dX8_drift_50 ?_
        refine lv_i2l hx hb dX8_drift_51 rfl ?_
        refine lv_ldc2 (v := 1103515245) hx hb hown (hts (.constantLong RX8 132 (1103515245)) (by decide +kernel)) dX8_drift_52 ?_
        refine lv_lmul hx hb dX8_drift_55 ?_
        refine lv_ldc2 (v := 12345) hx hb hown (hts (.constantLong RX8 134 (12345)) (by decide +kernel)) dX8_drift_56 ?_
        refine lv_ladd hx hb dX8_drift_59 ?_
        refine lv_ldc2 (v := 2147483648) hx hb hown (hts (.constantLong RX8 136 (2147483648)) (by decide +kernel)) dX8_drift_60 ?_
        refine lv_lrem hx hb dX8_drift_63 (by decide) ?_
        refine lv_l2i hx hb dX8_drift_64 rfl ?_
        refine x_iast (j := 1) hx hb hK hP hD hS 1 0 rfl rfl (by decide) (x_in (by decide)) dX8_drift_65 (fun H locs hP hD hS => ?_)
        replace hP : va_P D vwCl [(m_mo, .inr (8, [.ref m_alane, .ref m_asize, .ref m_aitem, .int m_letters, .ref m_atape, .int m_position, .int m_number, .ref m_anow, .ref m_atried, .ref m_aread, .ref m_akept, .int m_isKept, .ref m_anoticed, .ref m_aneeds, .ref m_aorder, .int m_many, .int m_one, .int m_two])), (m_anow, .inl (G 0, 55, .inl (upd m_now_2 1 ((((((m_now_2 1).toInt64) * (1103515245 : Int64)) + (12345 : Int64)) - ((((m_now_2 1).toInt64) * (1103515245 : Int64)) + (12345 : Int64)) / (2147483648 : Int64) * (2147483648 : Int64)).toInt32))))] H := hP
        replace hD : va_D A [(m_mo, .inr (8, [.ref m_alane, .ref m_asize, .ref m_aitem, .int m_letters, .ref m_atape, .int m_position, .int m_number, .ref m_anow, .ref m_atried, .ref m_aread, .ref m_akept, .int m_isKept, .ref m_anoticed, .ref m_aneeds, .ref m_aorder, .int m_many, .int m_one, .int m_two])), (m_anow, .inl (G 0, 55, .inl (upd m_now_2 1 ((((((m_now_2 1).toInt64) * (1103515245 : Int64)) + (12345 : Int64)) - ((((m_now_2 1).toInt64) * (1103515245 : Int64)) + (12345 : Int64)) / (2147483648 : Int64) * (2147483648 : Int64)).toInt32))))] := hD
        refine lv_aload_n hx hb dX8_drift_66 rfl (lv_at hl 0 rfl) ?_
        refine va_get (D := D) (ci := 8) (v := .ref m_anow) (C := RX8) (T := TX8) (N := 18) hx hb hts inX8 hown hK hP 0 rfl rfl 7 (by decide) fl23 (fun _ h9 => h9) rfl dX8_drift_67 ?_
        refine lv_iconst (v := 1) hx hb dX8_drift_70 (by decide) ?_
        refine x_iald (j := 1) hx hb hK hP 1 0 rfl rfl (by decide) (x_in (by decide)) dX8_drift_71 ?_
        refine lv_sipush (v := 128) hx hb dX8_drift_72 (by decide) ?_
        refine lv_idiv hx hb dX8_drift_75 (by decide) ?_
        refine lv_iconst (v := 1) hx hb dX8_drift_76 (by decide) ?_
        refine lv_aload_n hx hb dX8_drift_77 rfl (lv_at hl 0 rfl) ?_
        refine va_get (D := D) (ci := 8) (v := .ref m_anow) (C := RX8) (T := TX8) (N := 18) hx hb hts inX8 hown hK hP 0 rfl rfl 7 (by decide) fl23 (fun _ h9 => h9) rfl dX8_drift_78 ?_
        refine lv_iconst (v := 4) hx hb dX8_drift_81 (by decide) ?_
        refine x_iald (j := 4) hx hb hK hP 1 0 rfl rfl (by decide) (x_in (by decide)) dX8_drift_82 ?_
        refine lv_ishl hx hb dX8_drift_83 ?_
        refine lv_irem hx hb dX8_drift_84 hw.1 ?_
        replace hw := hw.2
        refine lv_istore_n (lv' := [(3, .int ((((upd m_now_2 1 ((((((m_now_2 1).toInt64) * (1103515245 : Int64)) + (12345 : Int64)) - ((((m_now_2 1).toInt64) * (1103515245 : Int64)) + (12345 : Int64)) / (2147483648 : Int64) * (2147483648 : Int64)).toInt32)) 1) / (128 : Int32)) - (((upd m_now_2 1 ((((((m_now_2 1).toInt64) * (1103515245 : Int64)) + (12345 : Int64)) - ((((m_now_2 1).toInt64) * (1103515245 : Int64)) + (12345 : Int64)) / (2147483648 : Int64) * (2147483648 : Int64)).toInt32)) 1) / (128 : Int32)) / ((1 : Int32) <<< (((upd m_now_2 1 ((((((m_now_2 1).toInt64) * (1103515245 : Int64)) + (12345 : Int64)) - ((((m_now_2 1).toInt64) * (1103515245 : Int64)) + (12345 : Int64)) / (2147483648 : Int64) * (2147483648 : Int64)).toInt32)) 4) &&& 31)) * ((1 : Int32) <<< (((upd m_now_2 1 ((((((m_now_2 1).toInt64) * (1103515245 : Int64)) + (12345 : Int64)) - ((((m_now_2 1).toInt64) * (1103515245 : Int64)) + (12345 : Int64)) / (2147483648 : Int64) * (2147483648 : Int64)).toInt32)) 4) &&& 31)))), (0, .ref m_mo), (1, .int x1), (2, .int x2)]) hx hb dX8_drift_85 rfl hl (by decide) rfl (fun ls hl => ?_)
        refine lv_aload_n hx hb dX8_drift_86 rfl (lv_at hl 1 rfl) ?_
        refine va_get (D := D) (ci := 8) (v := .ref m_anow) (C := RX8) (T := TX8) (N := 18) hx hb hts inX8 hown hK hP 0 rfl rfl 7 (by decide) fl23 (fun _ h9 => h9) rfl dX8_drift_87 ?_
        refine lv_bipush (v := 13) hx hb dX8_drift_90 (by decide) ?_
        refine x_iald (j := 13) hx hb hK hP 1 0 rfl rfl (by decide) (x_in (by decide)) dX8_drift_92 ?_
        refine lv_if_le (tgt := 153) hx hb dX8_drift_93 (by decide) (fun c9 => ?_) (fun c9 => ?_)
        · replace hw := hw.1 c9
          refine lv_iinc (v := (x2 + 1)) (lv' := [(2, .int (x2 + 1)), (3, .int ((((upd m_now_2 1 ((((((m_now_2 1).toInt64) * (1103515245 : Int64)) + (12345 : Int64)) - ((((m_now_2 1).toInt64) * (1103515245 : Int64)) + (12345 : Int64)) / (2147483648 : Int64) * (2147483648 : Int64)).toInt32)) 1) / (128 : Int32)) - (((upd m_now_2 1 ((((((m_now_2 1).toInt64) * (1103515245 : Int64)) + (12345 : Int64)) - ((((m_now_2 1).toInt64) * (1103515245 : Int64)) + (12345 : Int64)) / (2147483648 : Int64) * (2147483648 : Int64)).toInt32)) 1) / (128 : Int32)) / ((1 : Int32) <<< (((upd m_now_2 1 ((((((m_now_2 1).toInt64) * (1103515245 : Int64)) + (12345 : Int64)) - ((((m_now_2 1).toInt64) * (1103515245 : Int64)) + (12345 : Int64)) / (2147483648 : Int64) * (2147483648 : Int64)).toInt32)) 4) &&& 31)) * ((1 : Int32) <<< (((upd m_now_2 1 ((((((m_now_2 1).toInt64) * (1103515245 : Int64)) + (12345 : Int64)) - ((((m_now_2 1).toInt64) * (1103515245 : Int64)) + (12345 : Int64)) / (2147483648 : Int64) * (2147483648 : Int64)).toInt32)) 4) &&& 31)))), (0, .ref m_mo), (1, .int x1)]) hx hb dX8_drift_153 hl (k := 3) rfl (by first | rfl | decide) (by decide) rfl (fun ls hl => ?_)
          refine lv_goto (tgt := 31) hx hb dX8_drift_156 (by decide) ?_
          exact ih31 (x2 + 1) (upd m_now_2 1 ((((((m_now_2 1).toInt64) * (1103515245 : Int64)) + (12345 : Int64)) - ((((m_now_2 1).toInt64) * (1103515245 : Int64)) + (12345 : Int64)) / (2147483648 : Int64) * (2147483648 : Int64)).toInt32)) _ _ _ hw hP hD hS (lv_sub hl [2, 3, 0] rfl)
        · replace hw := hw.2 c9
          refine lv_iload_n hx hb dX8_drift_96 rfl (lv_at hl 0 rfl) ?_
          refine lv_if_le (tgt := 153) hx hb dX8_drift_97 (by decide) (fun c9 => ?_) (fun c9 => ?_)
          · replace hw := hw.1 c9
            refine lv_iinc (v := (x2 + 1)) (lv' := [(2, .int (x2 + 1)), (3, .int ((((upd m_now_2 1 ((((((m_now_2 1).toInt64) * (1103515245 : Int64)) + (12345 : Int64)) - ((((m_now_2 1).toInt64) * (1103515245 : Int64)) + (12345 : Int64)) / (2147483648 : Int64) * (2147483648 : Int64)).toInt32)) 1) / (128 : Int32)) - (((upd m_now_2 1 ((((((m_now_2 1).toInt64) * (1103515245 : Int64)) + (12345 : Int64)) - ((((m_now_2 1).toInt64) * (1103515245 : Int64)) + (12345 : Int64)) / (2147483648 : Int64) * (2147483648 : Int64)).toInt32)) 1) / (128 : Int32)) / ((1 : Int32) <<< (((upd m_now_2 1 ((((((m_now_2 1).toInt64) * (1103515245 : Int64)) + (12345 : Int64)) - ((((m_now_2 1).toInt64) * (1103515245 : Int64)) + (12345 : Int64)) / (2147483648 : Int64) * (2147483648 : Int64)).toInt32)) 4) &&& 31)) * ((1 : Int32) <<< (((upd m_now_2 1 ((((((m_now_2 1).toInt64) * (1103515245 : Int64)) + (12345 : Int64)) - ((((m_now_2 1).toInt64) * (1103515245 : Int64)) + (12345 : Int64)) / (2147483648 : Int64) * (2147483648 : Int64)).toInt32)) 4) &&& 31)))), (0, .ref m_mo), (1, .int x1)]) hx hb dX8_drift_153 hl (k := 3) rfl (by first | rfl | decide) (by decide) rfl (fun ls hl => ?_)
            refine lv_goto (tgt := 31) hx hb dX8_drift_156 (by decide) ?_
            exact ih31 (x2 + 1) (upd m_now_2 1 ((((((m_now_2 1).toInt64) * (1103515245 : Int64)) + (12345 : Int64)) - ((((m_now_2 1).toInt64) * (1103515245 : Int64)) + (12345 : Int64)) / (2147483648 : Int64) * (2147483648 : Int64)).toInt32)) _ _ _ hw hP hD hS (lv_sub hl [2, 3, 0] rfl)
          · replace hw := hw.2 c9
            refine lv_aload_n hx hb dX8_drift_100 rfl (lv_at hl 1 rfl) ?_
            refine va_get (D := D) (ci := 8) (v := .ref m_anow) (C := RX8) (T := TX8) (N := 18) hx hb hts inX8 hown hK hP 0 rfl rfl 7 (by decide) fl23 (fun _ h9 => h9) rfl dX8_drift_101 ?_
            refine lv_iconst (v := 3) hx hb dX8_drift_104 (by decide) ?_
            refine x_iald (j := 3) hx hb hK hP 1 0 rfl rfl (by decide) (x_in (by decide)) dX8_drift_105 ?_
            refine lv_bipush (v := -4) hx hb dX8_drift_106 (by decide) ?_
            refine lv_icmp_eq (tgt := 153) hx hb dX8_drift_108 (by decide) (fun c9 => ?_) (fun c9 => ?_)
            · replace hw := hw.1 c9
              refine lv_iinc (v := (x2 + 1)) (lv' := [(2, .int (x2 + 1)), (3, .int ((((upd m_now_2 1 ((((((m_now_2 1).toInt64) * (1103515245 : Int64)) + (12345 : Int64)) - ((((m_now_2 1).toInt64) * (1103515245 : Int64)) + (12345 : Int64)) / (2147483648 : Int64) * (2147483648 : Int64)).toInt32)) 1) / (128 : Int32)) - (((upd m_now_2 1 ((((((m_now_2 1).toInt64) * (1103515245 : Int64)) + (12345 : Int64)) - ((((m_now_2 1).toInt64) * (1103515245 : Int64)) + (12345 : Int64)) / (2147483648 : Int64) * (2147483648 : Int64)).toInt32)) 1) / (128 : Int32)) / ((1 : Int32) <<< (((upd m_now_2 1 ((((((m_now_2 1).toInt64) * (1103515245 : Int64)) + (12345 : Int64)) - ((((m_now_2 1).toInt64) * (1103515245 : Int64)) + (12345 : Int64)) / (2147483648 : Int64) * (2147483648 : Int64)).toInt32)) 4) &&& 31)) * ((1 : Int32) <<< (((upd m_now_2 1 ((((((m_now_2 1).toInt64) * (1103515245 : Int64)) + (12345 : Int64)) - ((((m_now_2 1).toInt64) * (1103515245 : Int64)) + (12345 : Int64)) / (2147483648 : Int64) * (2147483648 : Int64)).toInt32)) 4) &&& 31)))), (0, .ref m_mo), (1, .int x1)]) hx hb dX8_drift_153 hl (k := 3) rfl (by first | rfl | decide) (by decide) rfl (fun ls hl => ?_)
              refine lv_goto (tgt := 31) hx hb dX8_drift_156 (by decide) ?_
              exact ih31 (x2 + 1) (upd m_now_2 1 ((((((m_now_2 1).toInt64) * (1103515245 : Int64)) + (12345 : Int64)) - ((((m_now_2 1).toInt64) * (1103515245 : Int64)) + (12345 : Int64)) / (2147483648 : Int64) * (2147483648 : Int64)).toInt32)) _ _ _ hw hP hD hS (lv_sub hl [2, 3, 0] rfl)
            · replace hw := hw.2 c9
              refine lv_aload_n hx hb dX8_drift_111 rfl (lv_at hl 1 rfl) ?_
              refine va_get (D := D) (ci := 8) (v := .ref m_anow) (C := RX8) (T := TX8) (N := 18) hx hb hts inX8 hown hK hP 0 rfl rfl 7 (by decide) fl23 (fun _ h9 => h9) rfl dX8_drift_112 ?_
              refine lv_iconst (v := 1) hx hb dX8_drift_115 (by decide) ?_
              refine x_iald (j := 1) hx hb hK hP 1 0 rfl rfl (by decide) (x_in (by decide)) dX8_drift_116 ?_
              refine lv_ldc (v := 65536) hx hb hown (hts (.constant RX8 138 (65536)) (by decide +kernel)) dX8_drift_117 ?_
              refine lv_idiv hx hb dX8_drift_119 (by decide) ?_
              refine lv_aload_n hx hb dX8_drift_120 rfl (lv_at hl 1 rfl) ?_
              refine va_get (D := D) (ci := 8) (v := .ref m_anow) (C := RX8) (T := TX8) (N := 18) hx hb hts inX8 hown hK hP 0 rfl rfl 7 (by decide) fl23 (fun _ h9 => h9) rfl dX8_drift_121 ?_
              refine lv_bipush (v := 13) hx hb dX8_drift_124 (by decide) ?_
              refine x_iald (j := 13) hx hb hK hP 1 0 rfl rfl (by decide) (x_in (by decide)) dX8_drift_126 ?_
              refine lv_irem hx hb dX8_drift_127 hw.1 ?_
              replace hw := hw.2
              refine lv_istore (lv' := [(4, .int ((((upd m_now_2 1 ((((((m_now_2 1).toInt64) * (1103515245 : Int64)) + (12345 : Int64)) - ((((m_now_2 1).toInt64) * (1103515245 : Int64)) + (12345 : Int64)) / (2147483648 : Int64) * (2147483648 : Int64)).toInt32)) 1) / (65536 : Int32)) - (((upd m_now_2 1 ((((((m_now_2 1).toInt64) * (1103515245 : Int64)) + (12345 : Int64)) - ((((m_now_2 1).toInt64) * (1103515245 : Int64)) + (12345 : Int64)) / (2147483648 : Int64) * (2147483648 : Int64)).toInt32)) 1) / (65536 : Int32)) / ((upd m_now_2 1 ((((((m_now_2 1).toInt64) * (1103515245 : Int64)) + (12345 : Int64)) - ((((m_now_2 1).toInt64) * (1103515245 : Int64)) + (12345 : Int64)) / (2147483648 : Int64) * (2147483648 : Int64)).toInt32)) 13) * ((upd m_now_2 1 ((((((m_now_2 1).toInt64) * (1103515245 : Int64)) + (12345 : Int64)) - ((((m_now_2 1).toInt64) * (1103515245 : Int64)) + (12345 : Int64)) / (2147483648 : Int64) * (2147483648 : Int64)).toInt32)) 13))), (3, .int ((((upd m_now_2 1 ((((((m_now_2 1).toInt64) * (1103515245 : Int64)) + (12345 : Int64)) - ((((m_now_2 1).toInt64) * (1103515245 : Int64)) + (12345 : Int64)) / (2147483648 : Int64) * (2147483648 : Int64)).toInt32)) 1) / (128 : Int32)) - (((upd m_now_2 1 ((((((m_now_2 1).toInt64) * (1103515245 : Int64)) + (12345 : Int64)) - ((((m_now_2 1).toInt64) * (1103515245 : Int64)) + (12345 : Int64)) / (2147483648 : Int64) * (2147483648 : Int64)).toInt32)) 1) / (128 : Int32)) / ((1 : Int32) <<< (((upd m_now_2 1 ((((((m_now_2 1).toInt64) * (1103515245 : Int64)) + (12345 : Int64)) - ((((m_now_2 1).toInt64) * (1103515245 : Int64)) + (12345 : Int64)) / (2147483648 : Int64) * (2147483648 : Int64)).toInt32)) 4) &&& 31)) * ((1 : Int32) <<< (((upd m_now_2 1 ((((((m_now_2 1).toInt64) * (1103515245 : Int64)) + (12345 : Int64)) - ((((m_now_2 1).toInt64) * (1103515245 : Int64)) + (12345 : Int64)) / (2147483648 : Int64) * (2147483648 : Int64)).toInt32)) 4) &&& 31)))), (0, .ref m_mo), (1, .int x1), (2, .int x2)]) hx hb dX8_drift_128 hl (by decide) rfl (fun ls hl => ?_)
              refine lv_aload_n hx hb dX8_drift_130 rfl (lv_at hl 2 rfl) ?_
              refine lv_iload hx hb dX8_drift_131 (lv_at hl 0 rfl) ?_
              refine lv_iload_n hx hb dX8_drift_133 rfl (lv_at hl 1 rfl) ?_
              refine lv_aload_n hx hb dX8_drift_134 rfl (lv_at hl 2 rfl) ?_
              refine va_get (D := D) (ci := 8) (v := .ref m_anow) (C := RX8) (T := TX8) (N := 18) hx hb hts inX8 hown hK hP 0 rfl rfl 7 (by decide) fl23 (fun _ h9 => h9) rfl dX8_drift_135 ?_
              refine lv_iload hx hb dX8_drift_138 (lv_at hl 0 rfl) ?_
              refine lv_iload_n hx hb dX8_drift_140 rfl (lv_at hl 1 rfl) ?_
              refine lv_aload_n hx hb dX8_drift_141 rfl (lv_at hl 2 rfl) ?_
              refine va_get (D := D) (ci := 8) (v := .ref m_anow) (C := RX8) (T := TX8) (N := 18) hx hb hts inX8 hown hK hP 0 rfl rfl 7 (by decide) fl23 (fun _ h9 => h9) rfl dX8_drift_142 ?_
              refine lv_iconst (v := 3) hx hb dX8_drift_145 (by decide) ?_
              refine x_iald (j := 3) hx hb hK hP 1 0 rfl rfl (by decide) (x_in (by decide)) dX8_drift_146 ?_
              refine vp_callSi (W.runS (As := [.ref m_anow, .int ((((upd m_now_2 1 ((((((m_now_2 1).toInt64) * (1103515245 : Int64)) + (12345 : Int64)) - ((((m_now_2 1).toInt64) * (1103515245 : Int64)) + (12345 : Int64)) / (2147483648 : Int64) * (2147483648 : Int64)).toInt32)) 1) / (65536 : Int32)) - (((upd m_now_2 1 ((((((m_now_2 1).toInt64) * (1103515245 : Int64)) + (12345 : Int64)) - ((((m_now_2 1).toInt64) * (1103515245 : Int64)) + (12345 : Int64)) / (2147483648 : Int64) * (2147483648 : Int64)).toInt32)) 1) / (65536 : Int32)) / ((upd m_now_2 1 ((((((m_now_2 1).toInt64) * (1103515245 : Int64)) + (12345 : Int64)) - ((((m_now_2 1).toInt64) * (1103515245 : Int64)) + (12345 : Int64)) / (2147483648 : Int64) * (2147483648 : Int64)).toInt32)) 13) * ((upd m_now_2 1 ((((((m_now_2 1).toInt64) * (1103515245 : Int64)) + (12345 : Int64)) - ((((m_now_2 1).toInt64) * (1103515245 : Int64)) + (12345 : Int64)) / (2147483648 : Int64) * (2147483648 : Int64)).toInt32)) 13)), .int ((((upd m_now_2 1 ((((((m_now_2 1).toInt64) * (1103515245 : Int64)) + (12345 : Int64)) - ((((m_now_2 1).toInt64) * (1103515245 : Int64)) + (12345 : Int64)) / (2147483648 : Int64) * (2147483648 : Int64)).toInt32)) 1) / (128 : Int32)) - (((upd m_now_2 1 ((((((m_now_2 1).toInt64) * (1103515245 : Int64)) + (12345 : Int64)) - ((((m_now_2 1).toInt64) * (1103515245 : Int64)) + (12345 : Int64)) / (2147483648 : Int64) * (2147483648 : Int64)).toInt32)) 1) / (128 : Int32)) / ((1 : Int32) <<< (((upd m_now_2 1 ((((((m_now_2 1).toInt64) * (1103515245 : Int64)) + (12345 : Int64)) - ((((m_now_2 1).toInt64) * (1103515245 : Int64)) + (12345 : Int64)) / (2147483648 : Int64) * (2147483648 : Int64)).toInt32)) 4) &&& 31)) * ((1 : Int32) <<< (((upd m_now_2 1 ((((((m_now_2 1).toInt64) * (1103515245 : Int64)) + (12345 : Int64)) - ((((m_now_2 1).toInt64) * (1103515245 : Int64)) + (12345 : Int64)) / (2147483648 : Int64) * (2147483648 : Int64)).toInt32)) 4) &&& 31))), .int ((upd m_now_2 1 ((((((m_now_2 1).toInt64) * (1103515245 : Int64)) + (12345 : Int64)) - ((((m_now_2 1).toInt64) * (1103515245 : Int64)) + (12345 : Int64)) / (2147483648 : Int64) * (2147483648 : Int64)).toInt32)) 3)]) (rest := [.int ((((upd m_now_2 1 ((((((m_now_2 1).toInt64) * (1103515245 : Int64)) + (12345 : Int64)) - ((((m_now_2 1).toInt64) * (1103515245 : Int64)) + (12345 : Int64)) / (2147483648 : Int64) * (2147483648 : Int64)).toInt32)) 1) / (128 : Int32)) - (((upd m_now_2 1 ((((((m_now_2 1).toInt64) * (1103515245 : Int64)) + (12345 : Int64)) - ((((m_now_2 1).toInt64) * (1103515245 : Int64)) + (12345 : Int64)) / (2147483648 : Int64) * (2147483648 : Int64)).toInt32)) 1) / (128 : Int32)) / ((1 : Int32) <<< (((upd m_now_2 1 ((((((m_now_2 1).toInt64) * (1103515245 : Int64)) + (12345 : Int64)) - ((((m_now_2 1).toInt64) * (1103515245 : Int64)) + (12345 : Int64)) / (2147483648 : Int64) * (2147483648 : Int64)).toInt32)) 4) &&& 31)) * ((1 : Int32) <<< (((upd m_now_2 1 ((((((m_now_2 1).toInt64) * (1103515245 : Int64)) + (12345 : Int64)) - ((((m_now_2 1).toInt64) * (1103515245 : Int64)) + (12345 : Int64)) / (2147483648 : Int64) * (2147483648 : Int64)).toInt32)) 4) &&& 31))), .int ((((upd m_now_2 1 ((((((m_now_2 1).toInt64) * (1103515245 : Int64)) + (12345 : Int64)) - ((((m_now_2 1).toInt64) * (1103515245 : Int64)) + (12345 : Int64)) / (2147483648 : Int64) * (2147483648 : Int64)).toInt32)) 1) / (65536 : Int32)) - (((upd m_now_2 1 ((((((m_now_2 1).toInt64) * (1103515245 : Int64)) + (12345 : Int64)) - ((((m_now_2 1).toInt64) * (1103515245 : Int64)) + (12345 : Int64)) / (2147483648 : Int64) * (2147483648 : Int64)).toInt32)) 1) / (65536 : Int32)) / ((upd m_now_2 1 ((((((m_now_2 1).toInt64) * (1103515245 : Int64)) + (12345 : Int64)) - ((((m_now_2 1).toInt64) * (1103515245 : Int64)) + (12345 : Int64)) / (2147483648 : Int64) * (2147483648 : Int64)).toInt32)) 13) * ((upd m_now_2 1 ((((((m_now_2 1).toInt64) * (1103515245 : Int64)) + (12345 : Int64)) - ((((m_now_2 1).toInt64) * (1103515245 : Int64)) + (12345 : Int64)) / (2147483648 : Int64) * (2147483648 : Int64)).toInt32)) 13)), .ref m_mo]) ⟨hx, hb, hml, hown, hts⟩ (c_X8_noticesIn l D G m_anow (upd m_now_2 1 ((((((m_now_2 1).toInt64) * (1103515245 : Int64)) + (12345 : Int64)) - ((((m_now_2 1).toInt64) * (1103515245 : Int64)) + (12345 : Int64)) / (2147483648 : Int64) * (2147483648 : Int64)).toInt32)) ((((upd m_now_2 1 ((((((m_now_2 1).toInt64) * (1103515245 : Int64)) + (12345 : Int64)) - ((((m_now_2 1).toInt64) * (1103515245 : Int64)) + (12345 : Int64)) / (2147483648 : Int64) * (2147483648 : Int64)).toInt32)) 1) / (65536 : Int32)) - (((upd m_now_2 1 ((((((m_now_2 1).toInt64) * (1103515245 : Int64)) + (12345 : Int64)) - ((((m_now_2 1).toInt64) * (1103515245 : Int64)) + (12345 : Int64)) / (2147483648 : Int64) * (2147483648 : Int64)).toInt32)) 1) / (65536 : Int32)) / ((upd m_now_2 1 ((((((m_now_2 1).toInt64) * (1103515245 : Int64)) + (12345 : Int64)) - ((((m_now_2 1).toInt64) * (1103515245 : Int64)) + (12345 : Int64)) / (2147483648 : Int64) * (2147483648 : Int64)).toInt32)) 13) * ((upd m_now_2 1 ((((((m_now_2 1).toInt64) * (1103515245 : Int64)) + (12345 : Int64)) - ((((m_now_2 1).toInt64) * (1103515245 : Int64)) + (12345 : Int64)) / (2147483648 : Int64) * (2147483648 : Int64)).toInt32)) 13)) ((((upd m_now_2 1 ((((((m_now_2 1).toInt64) * (1103515245 : Int64)) + (12345 : Int64)) - ((((m_now_2 1).toInt64) * (1103515245 : Int64)) + (12345 : Int64)) / (2147483648 : Int64) * (2147483648 : Int64)).toInt32)) 1) / (128 : Int32)) - (((upd m_now_2 1 ((((((m_now_2 1).toInt64) * (1103515245 : Int64)) + (12345 : Int64)) - ((((m_now_2 1).toInt64) * (1103515245 : Int64)) + (12345 : Int64)) / (2147483648 : Int64) * (2147483648 : Int64)).toInt32)) 1) / (128 : Int32)) / ((1 : Int32) <<< (((upd m_now_2 1 ((((((m_now_2 1).toInt64) * (1103515245 : Int64)) + (12345 : Int64)) - ((((m_now_2 1).toInt64) * (1103515245 : Int64)) + (12345 : Int64)) / (2147483648 : Int64) * (2147483648 : Int64)).toInt32)) 4) &&& 31)) * ((1 : Int32) <<< (((upd m_now_2 1 ((((((m_now_2 1).toInt64) * (1103515245 : Int64)) + (12345 : Int64)) - ((((m_now_2 1).toInt64) * (1103515245 : Int64)) + (12345 : Int64)) / (2147483648 : Int64) * (2147483648 : Int64)).toInt32)) 4) &&& 31))) ((upd m_now_2 1 ((((((m_now_2 1).toInt64) * (1103515245 : Int64)) + (12345 : Int64)) - ((((m_now_2 1).toInt64) * (1103515245 : Int64)) + (12345 : Int64)) / (2147483648 : Int64) * (2147483648 : Int64)).toInt32)) 3) _ hw) (va_cwS 4 hts gX8_drift_X8_noticesIn rfl rfl rfl (by decide +kernel) ⟨(Nat.le_of_ble_eq_true rfl), (Nat.le_of_ble_eq_true rfl)⟩) (xR_ps (hP.sub [1] rfl) hK) rfl rfl hl.1 rfl (lv_room (Nat.le_of_ble_eq_true rfl)) dX8_drift_147 ⟨Nat.zero_le _, Nat.zero_le _⟩) (fun r3 hw => ?_)
              refine x_cMv (wr := []) (va_runV (As := [.int ((((upd m_now_2 1 ((((((m_now_2 1).toInt64) * (1103515245 : Int64)) + (12345 : Int64)) - ((((m_now_2 1).toInt64) * (1103515245 : Int64)) + (12345 : Int64)) / (2147483648 : Int64) * (2147483648 : Int64)).toInt32)) 1) / (65536 : Int32)) - (((upd m_now_2 1 ((((((m_now_2 1).toInt64) * (1103515245 : Int64)) + (12345 : Int64)) - ((((m_now_2 1).toInt64) * (1103515245 : Int64)) + (12345 : Int64)) / (2147483648 : Int64) * (2147483648 : Int64)).toInt32)) 1) / (65536 : Int32)) / ((upd m_now_2 1 ((((((m_now_2 1).toInt64) * (1103515245 : Int64)) + (12345 : Int64)) - ((((m_now_2 1).toInt64) * (1103515245 : Int64)) + (12345 : Int64)) / (2147483648 : Int64) * (2147483648 : Int64)).toInt32)) 13) * ((upd m_now_2 1 ((((((m_now_2 1).toInt64) * (1103515245 : Int64)) + (12345 : Int64)) - ((((m_now_2 1).toInt64) * (1103515245 : Int64)) + (12345 : Int64)) / (2147483648 : Int64) * (2147483648 : Int64)).toInt32)) 13)), .int ((((upd m_now_2 1 ((((((m_now_2 1).toInt64) * (1103515245 : Int64)) + (12345 : Int64)) - ((((m_now_2 1).toInt64) * (1103515245 : Int64)) + (12345 : Int64)) / (2147483648 : Int64) * (2147483648 : Int64)).toInt32)) 1) / (128 : Int32)) - (((upd m_now_2 1 ((((((m_now_2 1).toInt64) * (1103515245 : Int64)) + (12345 : Int64)) - ((((m_now_2 1).toInt64) * (1103515245 : Int64)) + (12345 : Int64)) / (2147483648 : Int64) * (2147483648 : Int64)).toInt32)) 1) / (128 : Int32)) / ((1 : Int32) <<< (((upd m_now_2 1 ((((((m_now_2 1).toInt64) * (1103515245 : Int64)) + (12345 : Int64)) - ((((m_now_2 1).toInt64) * (1103515245 : Int64)) + (12345 : Int64)) / (2147483648 : Int64) * (2147483648 : Int64)).toInt32)) 4) &&& 31)) * ((1 : Int32) <<< (((upd m_now_2 1 ((((((m_now_2 1).toInt64) * (1103515245 : Int64)) + (12345 : Int64)) - ((((m_now_2 1).toInt64) * (1103515245 : Int64)) + (12345 : Int64)) / (2147483648 : Int64) * (2147483648 : Int64)).toInt32)) 4) &&& 31))), .int r3]) (rest := []) ⟨hx, hb, hml, hown, hts⟩ (c_X8_answers l D G _ m_mo m_alane m_asize m_aitem m_atape m_anow m_atried m_aread m_akept m_anoticed m_aneeds m_aorder m_letters m_position m_number m_isKept m_many m_one m_two (upd m_now_2 1 ((((((m_now_2 1).toInt64) * (1103515245 : Int64)) + (12345 : Int64)) - ((((m_now_2 1).toInt64) * (1103515245 : Int64)) + (12345 : Int64)) / (2147483648 : Int64) * (2147483648 : Int64)).toInt32)) ((((upd m_now_2 1 ((((((m_now_2 1).toInt64) * (1103515245 : Int64)) + (12345 : Int64)) - ((((m_now_2 1).toInt64) * (1103515245 : Int64)) + (12345 : Int64)) / (2147483648 : Int64) * (2147483648 : Int64)).toInt32)) 1) / (65536 : Int32)) - (((upd m_now_2 1 ((((((m_now_2 1).toInt64) * (1103515245 : Int64)) + (12345 : Int64)) - ((((m_now_2 1).toInt64) * (1103515245 : Int64)) + (12345 : Int64)) / (2147483648 : Int64) * (2147483648 : Int64)).toInt32)) 1) / (65536 : Int32)) / ((upd m_now_2 1 ((((((m_now_2 1).toInt64) * (1103515245 : Int64)) + (12345 : Int64)) - ((((m_now_2 1).toInt64) * (1103515245 : Int64)) + (12345 : Int64)) / (2147483648 : Int64) * (2147483648 : Int64)).toInt32)) 13) * ((upd m_now_2 1 ((((((m_now_2 1).toInt64) * (1103515245 : Int64)) + (12345 : Int64)) - ((((m_now_2 1).toInt64) * (1103515245 : Int64)) + (12345 : Int64)) / (2147483648 : Int64) * (2147483648 : Int64)).toInt32)) 13)) ((((upd m_now_2 1 ((((((m_now_2 1).toInt64) * (1103515245 : Int64)) + (12345 : Int64)) - ((((m_now_2 1).toInt64) * (1103515245 : Int64)) + (12345 : Int64)) / (2147483648 : Int64) * (2147483648 : Int64)).toInt32)) 1) / (128 : Int32)) - (((upd m_now_2 1 ((((((m_now_2 1).toInt64) * (1103515245 : Int64)) + (12345 : Int64)) - ((((m_now_2 1).toInt64) * (1103515245 : Int64)) + (12345 : Int64)) / (2147483648 : Int64) * (2147483648 : Int64)).toInt32)) 1) / (128 : Int32)) / ((1 : Int32) <<< (((upd m_now_2 1 ((((((m_now_2 1).toInt64) * (1103515245 : Int64)) + (12345 : Int64)) - ((((m_now_2 1).toInt64) * (1103515245 : Int64)) + (12345 : Int64)) / (2147483648 : Int64) * (2147483648 : Int64)).toInt32)) 4) &&& 31)) * ((1 : Int32) <<< (((upd m_now_2 1 ((((((m_now_2 1).toInt64) * (1103515245 : Int64)) + (12345 : Int64)) - ((((m_now_2 1).toInt64) * (1103515245 : Int64)) + (12345 : Int64)) / (2147483648 : Int64) * (2147483648 : Int64)).toInt32)) 4) &&& 31))) r3 _ hw) (cwV 3 hts gX8_drift_X8_answers rfl rfl rfl (by decide +kernel) ⟨(Nat.le_of_ble_eq_true rfl), (Nat.le_of_ble_eq_true rfl)⟩) (xM_pv (hP.sub [0, 1] rfl) hK (hD.sub [0, 1] (by decide) rfl) (va_recv hK hP (ci := 8) (q0 := 0) rfl rfl)) rfl rfl hl.1 rfl (lv_room (Nat.le_of_ble_eq_true rfl)) dX8_drift_150 ⟨Nat.zero_le _, Nat.zero_le _⟩) hP hD hS hA [0, 1] [] rfl rfl (by decide) (by decide) [0, 1] (fun u => [(m_mo, .inr (8, [.ref m_alane, .ref m_asize, .ref m_aitem, .int m_letters, .ref m_atape, .int m_position, .int m_number, .ref m_anow, .ref m_atried, .ref m_aread, .ref m_akept, .int m_isKept, .ref m_anoticed, .ref m_aneeds, .ref m_aorder, .int m_many, .int m_one, .int m_two])), (m_anow, .inl (G 0, 55, .inl u))]) (by decide) (fun u => rfl) (fun u H locs hw hP hD hS => ?_)
              obtain ⟨m_now_4, rfl⟩ : ∃ z, z = u := ⟨_, rfl⟩
              try dsimp only at hw
              replace hP : va_P D vwCl [(m_mo, .inr (8, [.ref m_alane, .ref m_asize, .ref m_aitem, .int m_letters, .ref m_atape, .int m_position, .int m_number, .ref m_anow, .ref m_atried, .ref m_aread, .ref m_akept, .int m_isKept, .ref m_anoticed, .ref m_aneeds, .ref m_aorder, .int m_many, .int m_one, .int m_two])), (m_anow, .inl (G 0, 55, .inl m_now_4))] H := hP
              replace hD : va_D A [(m_mo, .inr (8, [.ref m_alane, .ref m_asize, .ref m_aitem, .int m_letters, .ref m_atape, .int m_position, .int m_number, .ref m_anow, .ref m_atried, .ref m_aread, .ref m_akept, .int m_isKept, .ref m_anoticed, .ref m_aneeds, .ref m_aorder, .int m_many, .int m_one, .int m_two])), (m_anow, .inl (G 0, 55, .inl m_now_4))] := hD
              refine lv_iinc (v := (x2 + 1)) (lv' := [(2, .int (x2 + 1)), (4, .int ((((upd m_now_2 1 ((((((m_now_2 1).toInt64) * (1103515245 : Int64)) + (12345 : Int64)) - ((((m_now_2 1).toInt64) * (1103515245 : Int64)) + (12345 : Int64)) / (2147483648 : Int64) * (2147483648 : Int64)).toInt32)) 1) / (65536 : Int32)) - (((upd m_now_2 1 ((((((m_now_2 1).toInt64) * (1103515245 : Int64)) + (12345 : Int64)) - ((((m_now_2 1).toInt64) * (1103515245 : Int64)) + (12345 : Int64)) / (2147483648 : Int64) * (2147483648 : Int64)).toInt32)) 1) / (65536 : Int32)) / ((upd m_now_2 1 ((((((m_now_2 1).toInt64) * (1103515245 : Int64)) + (12345 : Int64)) - ((((m_now_2 1).toInt64) * (1103515245 : Int64)) + (12345 : Int64)) / (2147483648 : Int64) * (2147483648 : Int64)).toInt32)) 13) * ((upd m_now_2 1 ((((((m_now_2 1).toInt64) * (1103515245 : Int64)) + (12345 : Int64)) - ((((m_now_2 1).toInt64) * (1103515245 : Int64)) + (12345 : Int64)) / (2147483648 : Int64) * (2147483648 : Int64)).toInt32)) 13))), (3, .int ((((upd m_now_2 1 ((((((m_now_2 1).toInt64) * (1103515245 : Int64)) + (12345 : Int64)) - ((((m_now_2 1).toInt64) * (1103515245 : Int64)) + (12345 : Int64)) / (2147483648 : Int64) * (2147483648 : Int64)).toInt32)) 1) / (128 : Int32)) - (((upd m_now_2 1 ((((((m_now_2 1).toInt64) * (1103515245 : Int64)) + (12345 : Int64)) - ((((m_now_2 1).toInt64) * (1103515245 : Int64)) + (12345 : Int64)) / (2147483648 : Int64) * (2147483648 : Int64)).toInt32)) 1) / (128 : Int32)) / ((1 : Int32) <<< (((upd m_now_2 1 ((((((m_now_2 1).toInt64) * (1103515245 : Int64)) + (12345 : Int64)) - ((((m_now_2 1).toInt64) * (1103515245 : Int64)) + (12345 : Int64)) / (2147483648 : Int64) * (2147483648 : Int64)).toInt32)) 4) &&& 31)) * ((1 : Int32) <<< (((upd m_now_2 1 ((((((m_now_2 1).toInt64) * (1103515245 : Int64)) + (12345 : Int64)) - ((((m_now_2 1).toInt64) * (1103515245 : Int64)) + (12345 : Int64)) / (2147483648 : Int64) * (2147483648 : Int64)).toInt32)) 4) &&& 31)))), (0, .ref m_mo), (1, .int x1)]) hx hb dX8_drift_153 hl (k := 4) rfl (by first | rfl | decide) (by decide) rfl (fun ls hl => ?_)
              refine lv_goto (tgt := 31) hx hb dX8_drift_156 (by decide) ?_
              exact ih31 (x2 + 1) m_now_4 _ _ _ hw hP hD hS (lv_sub hl [3, 4, 0] rfl)
  refine lv_iload_n hx hb dX8_drift_0 rfl (lv_at hl 1 rfl) ?_
  refine lv_iconst (v := 1) hx hb dX8_drift_1 (by decide) ?_
  refine lv_bipush (v := 40) hx hb dX8_drift_2 (by decide) ?_
  refine vp_callSi (W.runS (As := [.int x1, .int (1 : Int32), .int (40 : Int32)]) (rest := []) ⟨hx, hb, hml, hown, hts⟩ (c_X8_in l D G x1 (1 : Int32) (40 : Int32) _ hw) (va_cwS 3 hts gX8_drift_X8_in rfl rfl rfl (by decide +kernel) ⟨(Nat.le_of_ble_eq_true rfl), (Nat.le_of_ble_eq_true rfl)⟩) (xR_ps (hP.sub [] rfl) hK) rfl rfl hl.1 rfl (lv_room (Nat.le_of_ble_eq_true rfl)) dX8_drift_4 ⟨Nat.zero_le _, Nat.zero_le _⟩) (fun r1 hw => ?_)
  refine lv_if_ne (tgt := 12) hx hb dX8_drift_7 (by decide) (fun c9 => ?_) (fun c9 => ?_)
  · replace hw := hw.1 c9
    refine lv_aload_n hx hb dX8_drift_12 rfl (lv_at hl 0 rfl) ?_
    refine va_get (D := D) (ci := 8) (v := .ref m_anow) (C := RX8) (T := TX8) (N := 18) hx hb hts inX8 hown hK hP 0 rfl rfl 7 (by decide) fl23 (fun _ h9 => h9) rfl dX8_drift_13 ?_
    refine lv_iconst (v := 0) hx hb dX8_drift_16 (by decide) ?_
    refine x_iald (j := 0) hx hb hK hP 1 0 rfl rfl (by decide) (x_in (by decide)) dX8_drift_17 ?_
    refine lv_iload_n hx hb dX8_drift_18 rfl (lv_at hl 1 rfl) ?_
    refine lv_iadd hx hb dX8_drift_19 ?_
    refine lv_sipush (v := 9999) hx hb dX8_drift_20 (by decide) ?_
    refine lv_icmp_le (tgt := 29) hx hb dX8_drift_23 (by decide) (fun c9 => ?_) (fun c9 => ?_)
    · replace hw := hw.1 c9
      refine lv_iconst (v := 0) hx hb dX8_drift_29 (by decide) ?_
      refine lv_istore_n (lv' := [(2, .int (0 : Int32)), (0, .ref m_mo), (1, .int x1)]) hx hb dX8_drift_30 rfl hl (by decide) rfl (fun ls hl => ?_)
      obtain ⟨n, hw⟩ := hw
      exact L31 n (0 : Int32) m_now _ _ _ hw hP hD hS (lv_sub hl [1, 2, 0] rfl)
    · replace hw := hw.2 c9
      refine lv_bipush (v := -3) hx hb dX8_drift_26 (by decide) ?_
      exact W.iret hx hb hr (x_mi (u := m_now) hP hK hD hS hw) hS.2.2 dX8_drift_28
  · replace hw := hw.2 c9
    refine lv_iconst (v := -1) hx hb dX8_drift_10 (by decide) ?_
    exact W.iret hx hb hr (x_mi (u := m_now) hP hK hD hS hw) hS.2.2 dX8_drift_11
set_option maxHeartbeats 4000000 in
set_option maxRecDepth 100000 in
theorem c_X8_undo (l : Launch) (D : va_G) (G : Nat → ClassId) (sz : Nat) (m_mo : Nat) (m_alane : Nat) (m_asize : Nat) (m_aitem : Nat) (m_atape : Nat) (m_anow : Nat) (m_atried : Nat) (m_aread : Nat) (m_akept : Nat) (m_anoticed : Nat) (m_aneeds : Nat) (m_aorder : Nat) (m_letters : Int32) (m_position : Int32) (m_number : Int32) (m_isKept : Int32) (m_many : Int32) (m_one : Int32) (m_two : Int32) (m_now : Nat → Int32) (post : Int32 → (Nat → Int32) → Prop) (hw : wp_X8_undo m_now post) : Met l yX8_undo wsX8_undo ({ frames := 1, cells := 0, slots := 0, locals := 25 } : Room) (va_Pc [.ref m_mo] (xM D G sz [(m_mo, .inr (8, [.ref m_alane, .ref m_asize, .ref m_aitem, .int m_letters, .ref m_atape, .int m_position, .int m_number, .ref m_anow, .ref m_atried, .ref m_aread, .ref m_akept, .int m_isKept, .ref m_anoticed, .ref m_aneeds, .ref m_aorder, .int m_many, .int m_one, .int m_two])), (m_anow, .inl (G 0, 55, .inl m_now))])) (va_Qi (fun r (u : (Nat → Int32)) => post r u) (fun u t => xE D G (va_A [(m_mo, .inr (8, [.ref m_alane, .ref m_asize, .ref m_aitem, .int m_letters, .ref m_atape, .int m_position, .int m_number, .ref m_anow, .ref m_atried, .ref m_aread, .ref m_akept, .int m_isKept, .ref m_anoticed, .ref m_aneeds, .ref m_aorder, .int m_many, .int m_one, .int m_two])), (m_anow, .inl (G 0, 55, .inl m_now))] sz) [(m_mo, .inr (8, [.ref m_alane, .ref m_asize, .ref m_aitem, .int m_letters, .ref m_atape, .int m_position, .int m_number, .ref m_anow, .ref m_atried, .ref m_aread, .ref m_akept, .int m_isKept, .ref m_anoticed, .ref m_aneeds, .ref m_aorder, .int m_many, .int m_one, .int m_two])), (m_anow, .inl (G 0, 55, .inl u))] t) (va_A [(m_mo, .inr (8, [.ref m_alane, .ref m_asize, .ref m_aitem, .int m_letters, .ref m_atape, .int m_position, .int m_number, .ref m_anow, .ref m_atried, .ref m_aread, .ref m_akept, .int m_isKept, .ref m_anoticed, .ref m_aneeds, .ref m_aorder, .int m_many, .int m_one, .int m_two])), (m_anow, .inl (G 0, 55, .inl m_now))] sz)) 0 0 (va_A [(m_mo, .inr (8, [.ref m_alane, .ref m_asize, .ref m_aitem, .int m_letters, .ref m_atape, .int m_position, .int m_number, .ref m_anow, .ref m_atried, .ref m_aread, .ref m_akept, .int m_isKept, .ref m_anoticed, .ref m_aneeds, .ref m_aorder, .int m_many, .int m_one, .int m_two])), (m_anow, .inl (G 0, 55, .inl m_now))] sz) := by
  refine Met.ofW (cc := cX8_undo) (maxL := 1) (ret := (some .int)) (by decide) rfl ?_
  intro p e s m args below meth c s₁ B hml hv
  obtain ⟨rfl, hsz, hP, hK, hD0⟩ := hv
  have hx := B.exec
  have hb := B.bytes
  have hr := B.returns
  have hts := atoms_spec (ws := wsX8_undo) B.pre
  have hown : s.vm.findClass RX8 = some m.cls := findClass_of_methodNamed B.named
  have hlocks := B.notSynchronized
  subst hsz
  have hD := hD0.self (sz := s.heap.size)
  generalize hAe : va_A [(m_mo, .inr (8, [.ref m_alane, .ref m_asize, .ref m_aitem, .int m_letters, .ref m_atape, .int m_position, .int m_number, .ref m_anow, .ref m_atried, .ref m_aread, .ref m_akept, .int m_isKept, .ref m_anoticed, .ref m_aneeds, .ref m_aorder, .int m_many, .int m_one, .int m_two])), (m_anow, .inl (G 0, 55, .inl m_now))] s.heap.size = A at hD ⊢
  have hA : ∀ q : Nat, s.heap.size ≤ q → A q := fun q h => by rw [← hAe]; exact Or.inr h
  have hS : va_S A s.heap s.heap [] := va_S.rf
  have inX8 : ∀ w ∈ wsX80, w ∈ wsX8_undo := by decide +kernel
  have fl23 := hts (.fieldLink RX8 23 "NewsCowModel" "now" "[I") (by decide +kernel)
  have hl := lv_entry ([.ref m_mo] : List Value) (n := 1) (Nat.le_of_ble_eq_true rfl)
  rw [lg_entry_eq]
  generalize (lg_sl ([.ref m_mo] : List Value) ++ List.replicate (1 - (lg_sl ([.ref m_mo] : List Value)).length) Slot.unset).toArray = ls at hl ⊢
  have hl : lv_has ls 1 [(0, .ref m_mo)] := hl
  unfold wp_X8_undo at hw
  refine lv_aload_n hx hb dX8_undo_0 rfl (lv_at hl 0 rfl) ?_
  refine va_get (D := D) (ci := 8) (v := .ref m_anow) (C := RX8) (T := TX8) (N := 18) hx hb hts inX8 hown hK hP 0 rfl rfl 7 (by decide) fl23 (fun _ h9 => h9) rfl dX8_undo_1 ?_
  refine lv_bipush (v := 22) hx hb dX8_undo_4 (by decide) ?_
  refine x_iald (j := 22) hx hb hK hP 1 0 rfl rfl (by decide) (x_in (by decide)) dX8_undo_6 ?_
  refine lv_if_ne (tgt := 13) hx hb dX8_undo_7 (by decide) (fun c9 => ?_) (fun c9 => ?_)
  · replace hw := hw.1 c9
    refine lv_aload_n hx hb dX8_undo_13 rfl (lv_at hl 0 rfl) ?_
    refine va_get (D := D) (ci := 8) (v := .ref m_anow) (C := RX8) (T := TX8) (N := 18) hx hb hts inX8 hown hK hP 0 rfl rfl 7 (by decide) fl23 (fun _ h9 => h9) rfl dX8_undo_14 ?_
    refine lv_bipush (v := 22) hx hb dX8_undo_17 (by decide) ?_
    refine lv_dup2_11 hx hb dX8_undo_19 rfl rfl ?_
    refine x_iald (j := 22) hx hb hK hP 1 0 rfl rfl (by decide) (x_in (by decide)) dX8_undo_20 ?_
    refine lv_iconst (v := 1) hx hb dX8_undo_21 (by decide) ?_
    refine lv_isub hx hb dX8_undo_22 ?_
    refine x_iast (j := 22) hx hb hK hP hD hS 1 0 rfl rfl (by decide) (x_in (by decide)) dX8_undo_23 (fun H locs hP hD hS => ?_)
    replace hP : va_P D vwCl [(m_mo, .inr (8, [.ref m_alane, .ref m_asize, .ref m_aitem, .int m_letters, .ref m_atape, .int m_position, .int m_number, .ref m_anow, .ref m_atried, .ref m_aread, .ref m_akept, .int m_isKept, .ref m_anoticed, .ref m_aneeds, .ref m_aorder, .int m_many, .int m_one, .int m_two])), (m_anow, .inl (G 0, 55, .inl (upd m_now 22 ((m_now 22) - (1 : Int32)))))] H := hP
    replace hD : va_D A [(m_mo, .inr (8, [.ref m_alane, .ref m_asize, .ref m_aitem, .int m_letters, .ref m_atape, .int m_position, .int m_number, .ref m_anow, .ref m_atried, .ref m_aread, .ref m_akept, .int m_isKept, .ref m_anoticed, .ref m_aneeds, .ref m_aorder, .int m_many, .int m_one, .int m_two])), (m_anow, .inl (G 0, 55, .inl (upd m_now 22 ((m_now 22) - (1 : Int32)))))] := hD
    refine lv_aload_n hx hb dX8_undo_24 rfl (lv_at hl 0 rfl) ?_
    refine va_get (D := D) (ci := 8) (v := .ref m_anow) (C := RX8) (T := TX8) (N := 18) hx hb hts inX8 hown hK hP 0 rfl rfl 7 (by decide) fl23 (fun _ h9 => h9) rfl dX8_undo_25 ?_
    refine lv_bipush (v := 23) hx hb dX8_undo_28 (by decide) ?_
    refine lv_iconst (v := 4) hx hb dX8_undo_30 (by decide) ?_
    refine lv_aload_n hx hb dX8_undo_31 rfl (lv_at hl 0 rfl) ?_
    refine va_get (D := D) (ci := 8) (v := .ref m_anow) (C := RX8) (T := TX8) (N := 18) hx hb hts inX8 hown hK hP 0 rfl rfl 7 (by decide) fl23 (fun _ h9 => h9) rfl dX8_undo_32 ?_
    refine lv_bipush (v := 22) hx hb dX8_undo_35 (by decide) ?_
    refine x_iald (j := 22) hx hb hK hP 1 0 rfl rfl (by decide) (x_in (by decide)) dX8_undo_37 ?_
    refine lv_imul hx hb dX8_undo_38 ?_
    refine lv_iadd hx hb dX8_undo_39 ?_
    refine lv_aload_n hx hb dX8_undo_40 rfl (lv_at hl 0 rfl) ?_
    refine va_get (D := D) (ci := 8) (v := .ref m_anow) (C := RX8) (T := TX8) (N := 18) hx hb hts inX8 hown hK hP 0 rfl rfl 7 (by decide) fl23 (fun _ h9 => h9) rfl dX8_undo_41 ?_
    refine lv_iconst (v := 0) hx hb dX8_undo_44 (by decide) ?_
    refine lv_iconst (v := 4) hx hb dX8_undo_45 (by decide) ?_
    refine x_cMv (wr := [(m_mo, .inr (8, [.ref m_alane, .ref m_asize, .ref m_aitem, .int m_letters, .ref m_atape, .int m_position, .int m_number, .ref m_anow, .ref m_atried, .ref m_aread, .ref m_akept, .int m_isKept, .ref m_anoticed, .ref m_aneeds, .ref m_aorder, .int m_many, .int m_one, .int m_two]))]) (va_runS (As := [.ref m_anow, .int ((23 : Int32) + ((4 : Int32) * ((upd m_now 22 ((m_now 22) - (1 : Int32))) 22))), .ref m_anow, .int (0 : Int32), .int (4 : Int32)]) (rest := []) ⟨hx, hb, hml, hown, hts⟩ (c_X8_bringS l D G _ m_anow (upd m_now 22 ((m_now 22) - (1 : Int32))) ((23 : Int32) + ((4 : Int32) * ((upd m_now 22 ((m_now 22) - (1 : Int32))) 22))) (0 : Int32) (4 : Int32) _ hw) (va_cwS 5 hts gX8_undo_X8_bring rfl rfl rfl (by decide +kernel) ⟨(Nat.le_of_ble_eq_true rfl), (Nat.le_of_ble_eq_true rfl)⟩) (xM_ps (hP.sub [1] rfl) hK (hD.sub [1] (by decide) rfl)) rfl rfl hl.1 rfl (lv_room (Nat.le_of_ble_eq_true rfl)) dX8_undo_46 ⟨Nat.zero_le _, Nat.zero_le _⟩) hP hD hS hA [1] [0] rfl rfl (by decide) (by decide) [0, 1] (fun u => [(m_mo, .inr (8, [.ref m_alane, .ref m_asize, .ref m_aitem, .int m_letters, .ref m_atape, .int m_position, .int m_number, .ref m_anow, .ref m_atried, .ref m_aread, .ref m_akept, .int m_isKept, .ref m_anoticed, .ref m_aneeds, .ref m_aorder, .int m_many, .int m_one, .int m_two])), (m_anow, .inl (G 0, 55, .inl u))]) (by decide) (fun u => rfl) (fun u H locs hw hP hD hS => ?_)
    obtain ⟨v0_1, rfl⟩ : ∃ z, z = u := ⟨_, rfl⟩
    try dsimp only at hw
    replace hP : va_P D vwCl [(m_mo, .inr (8, [.ref m_alane, .ref m_asize, .ref m_aitem, .int m_letters, .ref m_atape, .int m_position, .int m_number, .ref m_anow, .ref m_atried, .ref m_aread, .ref m_akept, .int m_isKept, .ref m_anoticed, .ref m_aneeds, .ref m_aorder, .int m_many, .int m_one, .int m_two])), (m_anow, .inl (G 0, 55, .inl v0_1))] H := hP
    replace hD : va_D A [(m_mo, .inr (8, [.ref m_alane, .ref m_asize, .ref m_aitem, .int m_letters, .ref m_atape, .int m_position, .int m_number, .ref m_anow, .ref m_atried, .ref m_aread, .ref m_akept, .int m_isKept, .ref m_anoticed, .ref m_aneeds, .ref m_aorder, .int m_many, .int m_one, .int m_two])), (m_anow, .inl (G 0, 55, .inl v0_1))] := hD
    refine lv_aload_n hx hb dX8_undo_49 rfl (lv_at hl 0 rfl) ?_
    refine va_get (D := D) (ci := 8) (v := .ref m_anow) (C := RX8) (T := TX8) (N := 18) hx hb hts inX8 hown hK hP 0 rfl rfl 7 (by decide) fl23 (fun _ h9 => h9) rfl dX8_undo_50 ?_
    refine lv_bipush (v := 22) hx hb dX8_undo_53 (by decide) ?_
    refine x_iald (j := 22) hx hb hK hP 1 0 rfl rfl (by decide) (x_in (by decide)) dX8_undo_55 ?_
    exact W.iret hx hb hr (x_mi (u := v0_1) hP hK hD hS hw) hS.2.2 dX8_undo_56
  · replace hw := hw.2 c9
    refine lv_bipush (v := -4) hx hb dX8_undo_10 (by decide) ?_
    exact W.iret hx hb hr (x_mi (u := m_now) hP hK hD hS hw) hS.2.2 dX8_undo_12
set_option maxHeartbeats 4000000 in
set_option maxRecDepth 100000 in
theorem c_X8_seed (l : Launch) (D : va_G) (G : Nat → ClassId) (sz : Nat) (m_mo : Nat) (m_alane : Nat) (m_asize : Nat) (m_aitem : Nat) (m_atape : Nat) (m_anow : Nat) (m_atried : Nat) (m_aread : Nat) (m_akept : Nat) (m_anoticed : Nat) (m_aneeds : Nat) (m_aorder : Nat) (m_letters : Int32) (m_position : Int32) (m_number : Int32) (m_isKept : Int32) (m_many : Int32) (m_one : Int32) (m_two : Int32) (m_now : Nat → Int32) (x1 : Int32) (post : Int32 → (Nat → Int32) → Prop) (hw : wp_X8_seed m_now x1 post) : Met l yX8_seed wsX8_seed ({ frames := 0, cells := 0, slots := 0, locals := 0 } : Room) (va_Pc [.ref m_mo, .int x1] (xM D G sz [(m_mo, .inr (8, [.ref m_alane, .ref m_asize, .ref m_aitem, .int m_letters, .ref m_atape, .int m_position, .int m_number, .ref m_anow, .ref m_atried, .ref m_aread, .ref m_akept, .int m_isKept, .ref m_anoticed, .ref m_aneeds, .ref m_aorder, .int m_many, .int m_one, .int m_two])), (m_anow, .inl (G 0, 55, .inl m_now))])) (va_Qi (fun r (u : (Nat → Int32)) => post r u) (fun u t => xE D G (va_A [(m_mo, .inr (8, [.ref m_alane, .ref m_asize, .ref m_aitem, .int m_letters, .ref m_atape, .int m_position, .int m_number, .ref m_anow, .ref m_atried, .ref m_aread, .ref m_akept, .int m_isKept, .ref m_anoticed, .ref m_aneeds, .ref m_aorder, .int m_many, .int m_one, .int m_two])), (m_anow, .inl (G 0, 55, .inl m_now))] sz) [(m_mo, .inr (8, [.ref m_alane, .ref m_asize, .ref m_aitem, .int m_letters, .ref m_atape, .int m_position, .int m_number, .ref m_anow, .ref m_atried, .ref m_aread, .ref m_akept, .int m_isKept, .ref m_anoticed, .ref m_aneeds, .ref m_aorder, .int m_many, .int m_one, .int m_two])), (m_anow, .inl (G 0, 55, .inl u))] t) (va_A [(m_mo, .inr (8, [.ref m_alane, .ref m_asize, .ref m_aitem, .int m_letters, .ref m_atape, .int m_position, .int m_number, .ref m_anow, .ref m_atried, .ref m_aread, .ref m_akept, .int m_isKept, .ref m_anoticed, .ref m_aneeds, .ref m_aorder, .int m_many, .int m_one, .int m_two])), (m_anow, .inl (G 0, 55, .inl m_now))] sz)) 0 0 (va_A [(m_mo, .inr (8, [.ref m_alane, .ref m_asize, .ref m_aitem, .int m_letters, .ref m_atape, .int m_position, .int m_number, .ref m_anow, .ref m_atried, .ref m_aread, .ref m_akept, .int m_isKept, .ref m_anoticed, .ref m_aneeds, .ref m_aorder, .int m_many, .int m_one, .int m_two])), (m_anow, .inl (G 0, 55, .inl m_now))] sz) := by
  refine Met.ofW (cc := cX8_seed) (maxL := 3) (ret := (some .int)) (by decide) rfl ?_
  intro p e s m args below meth c s₁ B hml hv
  obtain ⟨rfl, hsz, hP, hK, hD0⟩ := hv
  have hx := B.exec
  have hb := B.bytes
  have hr := B.returns
  have hts := atoms_spec (ws := wsX8_seed) B.pre
  have hown : s.vm.findClass RX8 = some m.cls := findClass_of_methodNamed B.named
  have hlocks := B.notSynchronized
  subst hsz
  have hD := hD0.self (sz := s.heap.size)
  generalize hAe : va_A [(m_mo, .inr (8, [.ref m_alane, .ref m_asize, .ref m_aitem, .int m_letters, .ref m_atape, .int m_position, .int m_number, .ref m_anow, .ref m_atried, .ref m_aread, .ref m_akept, .int m_isKept, .ref m_anoticed, .ref m_aneeds, .ref m_aorder, .int m_many, .int m_one, .int m_two])), (m_anow, .inl (G 0, 55, .inl m_now))] s.heap.size = A at hD ⊢
  have hA : ∀ q : Nat, s.heap.size ≤ q → A q := fun q h => by rw [← hAe]; exact Or.inr h
  have hS : va_S A s.heap s.heap [] := va_S.rf
  have inX8 : ∀ w ∈ wsX80, w ∈ wsX8_seed := by decide +kernel
  have fl23 := hts (.fieldLink RX8 23 "NewsCowModel" "now" "[I") (by decide +kernel)
  have hl := lv_entry ([.ref m_mo, .int x1] : List Value) (n := 3) (Nat.le_of_ble_eq_true rfl)
  rw [lg_entry_eq]
  generalize (lg_sl ([.ref m_mo, .int x1] : List Value) ++ List.replicate (3 - (lg_sl ([.ref m_mo, .int x1] : List Value)).length) Slot.unset).toArray = ls at hl ⊢
  have hl : lv_has ls 3 [(0, .ref m_mo), (1, .int x1)] := hl
  unfold wp_X8_seed at hw
  refine lv_iload_n hx hb dX8_seed_0 rfl (lv_at hl 1 rfl) ?_
  refine lv_if_ge (tgt := 6) hx hb dX8_seed_1 (by decide) (fun c9 => ?_) (fun c9 => ?_)
  · replace hw := hw.1 c9
    refine lv_aload_n hx hb dX8_seed_6 rfl (lv_at hl 0 rfl) ?_
    refine va_get (D := D) (ci := 8) (v := .ref m_anow) (C := RX8) (T := TX8) (N := 18) hx hb hts inX8 hown hK hP 0 rfl rfl 7 (by decide) fl23 (fun _ h9 => h9) rfl dX8_seed_7 ?_
    refine lv_iconst (v := 1) hx hb dX8_seed_10 (by decide) ?_
    refine x_iald (j := 1) hx hb hK hP 1 0 rfl rfl (by decide) (x_in (by decide)) dX8_seed_11 ?_
    refine lv_istore_n (lv' := [(2, .int (m_now 1)), (0, .ref m_mo), (1, .int x1)]) hx hb dX8_seed_12 rfl hl (by decide) rfl (fun ls hl => ?_)
    refine lv_aload_n hx hb dX8_seed_13 rfl (lv_at hl 1 rfl) ?_
    refine va_get (D := D) (ci := 8) (v := .ref m_anow) (C := RX8) (T := TX8) (N := 18) hx hb hts inX8 hown hK hP 0 rfl rfl 7 (by decide) fl23 (fun _ h9 => h9) rfl dX8_seed_14 ?_
    refine lv_iconst (v := 1) hx hb dX8_seed_17 (by decide) ?_
    refine lv_iload_n hx hb dX8_seed_18 rfl (lv_at hl 2 rfl) ?_
    refine x_iast (j := 1) hx hb hK hP hD hS 1 0 rfl rfl (by decide) (x_in (by decide)) dX8_seed_19 (fun H locs hP hD hS => ?_)
    replace hP : va_P D vwCl [(m_mo, .inr (8, [.ref m_alane, .ref m_asize, .ref m_aitem, .int m_letters, .ref m_atape, .int m_position, .int m_number, .ref m_anow, .ref m_atried, .ref m_aread, .ref m_akept, .int m_isKept, .ref m_anoticed, .ref m_aneeds, .ref m_aorder, .int m_many, .int m_one, .int m_two])), (m_anow, .inl (G 0, 55, .inl (upd m_now 1 x1)))] H := hP
    replace hD : va_D A [(m_mo, .inr (8, [.ref m_alane, .ref m_asize, .ref m_aitem, .int m_letters, .ref m_atape, .int m_position, .int m_number, .ref m_anow, .ref m_atried, .ref m_aread, .ref m_akept, .int m_isKept, .ref m_anoticed, .ref m_aneeds, .ref m_aorder, .int m_many, .int m_one, .int m_two])), (m_anow, .inl (G 0, 55, .inl (upd m_now 1 x1)))] := hD
    refine lv_iload_n hx hb dX8_seed_20 rfl (lv_at hl 0 rfl) ?_
    exact W.iret hx hb hr (x_mi (u := (upd m_now 1 x1)) hP hK hD hS hw) hS.2.2 dX8_seed_21
  · replace hw := hw.2 c9
    refine lv_iconst (v := -1) hx hb dX8_seed_4 (by decide) ?_
    exact W.iret hx hb hr (x_mi (u := m_now) hP hK hD hS hw) hS.2.2 dX8_seed_5
set_option maxHeartbeats 4000000 in
set_option maxRecDepth 100000 in
theorem c_X8_tells (l : Launch) (D : va_G) (G : Nat → ClassId) (m_mo : Nat) (m_alane : Nat) (m_asize : Nat) (m_aitem : Nat) (m_atape : Nat) (m_anow : Nat) (m_atried : Nat) (m_aread : Nat) (m_akept : Nat) (m_anoticed : Nat) (m_aneeds : Nat) (m_aorder : Nat) (m_letters : Int32) (m_position : Int32) (m_number : Int32) (m_isKept : Int32) (m_many : Int32) (m_one : Int32) (m_two : Int32) (m_now : Nat → Int32) (x1 : Int32) (x2 : Int32) (post : Int32 → Prop) (hw : wp_X8_tells m_now x1 x2 post) : Met l yX8_tells wsX8_tells ({ frames := 4, cells := 0, slots := 0, locals := 95 } : Room) (va_Pc [.ref m_mo, .int x1, .int x2] (xR D G [(m_mo, .inr (8, [.ref m_alane, .ref m_asize, .ref m_aitem, .int m_letters, .ref m_atape, .int m_position, .int m_number, .ref m_anow, .ref m_atried, .ref m_aread, .ref m_akept, .int m_isKept, .ref m_anoticed, .ref m_aneeds, .ref m_aorder, .int m_many, .int m_one, .int m_two])), (m_anow, .inl (G 0, 55, .inl m_now))])) (vp_Si post) 0 0 (fun _ => False) := by
  refine Met.ofW (cc := cX8_tells) (maxL := 3) (ret := (some .int)) (by decide) rfl ?_
  intro p e s m args below meth c s₁ B hml hv
  obtain ⟨rfl, hP, hK⟩ := hv
  have hx := B.exec
  have hb := B.bytes
  have hr := B.returns
  have hts := atoms_spec (ws := wsX8_tells) B.pre
  have hown : s.vm.findClass RX8 = some m.cls := findClass_of_methodNamed B.named
  have hlocks := B.notSynchronized
  have inX8 : ∀ w ∈ wsX80, w ∈ wsX8_tells := by decide +kernel
  have fl23 := hts (.fieldLink RX8 23 "NewsCowModel" "now" "[I") (by decide +kernel)
  have hl := lv_entry ([.ref m_mo, .int x1, .int x2] : List Value) (n := 3) (Nat.le_of_ble_eq_true rfl)
  rw [lg_entry_eq]
  generalize (lg_sl ([.ref m_mo, .int x1, .int x2] : List Value) ++ List.replicate (3 - (lg_sl ([.ref m_mo, .int x1, .int x2] : List Value)).length) Slot.unset).toArray = ls at hl ⊢
  have hl : lv_has ls 3 [(0, .ref m_mo), (1, .int x1), (2, .int x2)] := hl
  unfold wp_X8_tells at hw
  refine lv_aload_n hx hb dX8_tells_0 rfl (lv_at hl 0 rfl) ?_
  refine lv_iload_n hx hb dX8_tells_1 rfl (lv_at hl 1 rfl) ?_
  refine vp_callSi (W.runV (As := [.int x1]) (rest := []) ⟨hx, hb, hml, hown, hts⟩ (c_X8_isTaster l D G m_mo m_alane m_asize m_aitem m_atape m_anow m_atried m_aread m_akept m_anoticed m_aneeds m_aorder m_letters m_position m_number m_isKept m_many m_one m_two m_now x1 _ hw) (cwV 1 hts gX8_tells_X8_isTaster rfl rfl rfl (by decide +kernel) ⟨(Nat.le_of_ble_eq_true rfl), (Nat.le_of_ble_eq_true rfl)⟩) (xR_pv (hP.sub [0, 1] rfl) hK (va_recv hK hP (ci := 8) (q0 := 0) rfl rfl)) rfl rfl hl.1 rfl (lv_room (Nat.le_of_ble_eq_true rfl)) dX8_tells_2 ⟨Nat.zero_le _, Nat.zero_le _⟩) (fun r1 hw => ?_)
  refine lv_if_eq (tgt := 16) hx hb dX8_tells_5 (by decide) (fun c9 => ?_) (fun c9 => ?_)
  · replace hw := hw.1 c9
    refine lv_iconst (v := -1) hx hb dX8_tells_16 (by decide) ?_
    exact W.iret hx hb hr (fun t ht _ => ⟨_, rfl, hw, ht⟩) (fun _ h => absurd h List.not_mem_nil) dX8_tells_17
  · replace hw := hw.2 c9
    refine lv_aload_n hx hb dX8_tells_8 rfl (lv_at hl 0 rfl) ?_
    refine lv_iload_n hx hb dX8_tells_9 rfl (lv_at hl 2 rfl) ?_
    refine vp_callSi (W.runV (As := [.int x2]) (rest := []) ⟨hx, hb, hml, hown, hts⟩ (c_X8_isMix l D G m_mo m_alane m_asize m_aitem m_atape m_anow m_atried m_aread m_akept m_anoticed m_aneeds m_aorder m_letters m_position m_number m_isKept m_many m_one m_two m_now x2 _ hw) (cwV 1 hts gX8_tells_X8_isMix rfl rfl rfl (by decide +kernel) ⟨(Nat.le_of_ble_eq_true rfl), (Nat.le_of_ble_eq_true rfl)⟩) (xR_pv (hP.sub [0, 1] rfl) hK (va_recv hK hP (ci := 8) (q0 := 0) rfl rfl)) rfl rfl hl.1 rfl (lv_room (Nat.le_of_ble_eq_true rfl)) dX8_tells_10 ⟨Nat.zero_le _, Nat.zero_le _⟩) (fun r2 hw => ?_)
    refine lv_if_ne (tgt := 18) hx hb dX8_tells_13 (by decide) (fun c9 => ?_) (fun c9 => ?_)
    · replace hw := hw.1 c9
      refine lv_aload_n hx hb dX8_tells_18 rfl (lv_at hl 0 rfl) ?_
      refine va_get (D := D) (ci := 8) (v := .ref m_anow) (C := RX8) (T := TX8) (N := 18) hx hb hts inX8 hown hK hP 0 rfl rfl 7 (by decide) fl23 (fun _ h9 => h9) rfl dX8_tells_19 ?_
      refine lv_iload_n hx hb dX8_tells_22 rfl (lv_at hl 1 rfl) ?_
      refine lv_iload_n hx hb dX8_tells_23 rfl (lv_at hl 2 rfl) ?_
      refine vp_callSi (W.runS (As := [.ref m_anow, .int x1, .int x2]) (rest := []) ⟨hx, hb, hml, hown, hts⟩ (c_X8_noticedBy l D G m_anow m_now x1 x2 _ hw) (va_cwS 3 hts gX8_tells_X8_noticedBy rfl rfl rfl (by decide +kernel) ⟨(Nat.le_of_ble_eq_true rfl), (Nat.le_of_ble_eq_true rfl)⟩) (xR_ps (hP.sub [1] rfl) hK) rfl rfl hl.1 rfl (lv_room (Nat.le_of_ble_eq_true rfl)) dX8_tells_24 ⟨Nat.zero_le _, Nat.zero_le _⟩) (fun r3 hw => ?_)
      refine lv_aload_n hx hb dX8_tells_27 rfl (lv_at hl 0 rfl) ?_
      refine va_get (D := D) (ci := 8) (v := .ref m_anow) (C := RX8) (T := TX8) (N := 18) hx hb hts inX8 hown hK hP 0 rfl rfl 7 (by decide) fl23 (fun _ h9 => h9) rfl dX8_tells_28 ?_
      refine lv_iconst (v := 2) hx hb dX8_tells_31 (by decide) ?_
      refine x_iald (j := 2) hx hb hK hP 1 0 rfl rfl (by decide) (x_in (by decide)) dX8_tells_32 ?_
      refine lv_iand hx hb dX8_tells_33 ?_
      exact W.iret hx hb hr (fun t ht _ => ⟨_, rfl, hw, ht⟩) (fun _ h => absurd h List.not_mem_nil) dX8_tells_34
    · replace hw := hw.2 c9
      refine lv_iconst (v := -1) hx hb dX8_tells_16 (by decide) ?_
      exact W.iret hx hb hr (fun t ht _ => ⟨_, rfl, hw, ht⟩) (fun _ h => absurd h List.not_mem_nil) dX8_tells_17
set_option maxHeartbeats 4000000 in
set_option maxRecDepth 100000 in
theorem c_X8_layNoticed (l : Launch) (D : va_G) (G : Nat → ClassId) (sz : Nat) (m_mo : Nat) (m_alane : Nat) (m_asize : Nat) (m_aitem : Nat) (m_atape : Nat) (m_anow : Nat) (m_atried : Nat) (m_aread : Nat) (m_akept : Nat) (m_anoticed : Nat) (m_aneeds : Nat) (m_aorder : Nat) (m_letters : Int32) (m_position : Int32) (m_number : Int32) (m_isKept : Int32) (m_many : Int32) (m_one : Int32) (m_two : Int32) (m_now : Nat → Int32) (m_noticed : Nat → Int32) (x1 : Int32) (post : (Nat → Int32) → Prop) (hw : wp_X8_layNoticed m_now m_noticed x1 post) : Met l yX8_layNoticed wsX8_layNoticed ({ frames := 4, cells := 0, slots := 0, locals := 95 } : Room) (va_Pc [.ref m_mo, .int x1] (xM D G sz [(m_mo, .inr (8, [.ref m_alane, .ref m_asize, .ref m_aitem, .int m_letters, .ref m_atape, .int m_position, .int m_number, .ref m_anow, .ref m_atried, .ref m_aread, .ref m_akept, .int m_isKept, .ref m_anoticed, .ref m_aneeds, .ref m_aorder, .int m_many, .int m_one, .int m_two])), (m_anow, .inl (G 0, 55, .inl m_now)), (m_anoticed, .inl (G 0, 256, .inl m_noticed))])) (va_Qv (fun (u : (Nat → Int32)) => post u) (fun u t => xE D G (va_A [(m_mo, .inr (8, [.ref m_alane, .ref m_asize, .ref m_aitem, .int m_letters, .ref m_atape, .int m_position, .int m_number, .ref m_anow, .ref m_atried, .ref m_aread, .ref m_akept, .int m_isKept, .ref m_anoticed, .ref m_aneeds, .ref m_aorder, .int m_many, .int m_one, .int m_two])), (m_anow, .inl (G 0, 55, .inl m_now)), (m_anoticed, .inl (G 0, 256, .inl m_noticed))] sz) [(m_mo, .inr (8, [.ref m_alane, .ref m_asize, .ref m_aitem, .int m_letters, .ref m_atape, .int m_position, .int m_number, .ref m_anow, .ref m_atried, .ref m_aread, .ref m_akept, .int m_isKept, .ref m_anoticed, .ref m_aneeds, .ref m_aorder, .int m_many, .int m_one, .int m_two])), (m_anow, .inl (G 0, 55, .inl m_now)), (m_anoticed, .inl (G 0, 256, .inl u))] t) (va_A [(m_mo, .inr (8, [.ref m_alane, .ref m_asize, .ref m_aitem, .int m_letters, .ref m_atape, .int m_position, .int m_number, .ref m_anow, .ref m_atried, .ref m_aread, .ref m_akept, .int m_isKept, .ref m_anoticed, .ref m_aneeds, .ref m_aorder, .int m_many, .int m_one, .int m_two])), (m_anow, .inl (G 0, 55, .inl m_now)), (m_anoticed, .inl (G 0, 256, .inl m_noticed))] sz)) 0 0 (va_A [(m_mo, .inr (8, [.ref m_alane, .ref m_asize, .ref m_aitem, .int m_letters, .ref m_atape, .int m_position, .int m_number, .ref m_anow, .ref m_atried, .ref m_aread, .ref m_akept, .int m_isKept, .ref m_anoticed, .ref m_aneeds, .ref m_aorder, .int m_many, .int m_one, .int m_two])), (m_anow, .inl (G 0, 55, .inl m_now)), (m_anoticed, .inl (G 0, 256, .inl m_noticed))] sz) := by
  refine Met.ofW (cc := cX8_layNoticed) (maxL := 3) (ret := none) (by decide) rfl ?_
  intro p e s m args below meth c s₁ B hml hv
  obtain ⟨rfl, hsz, hP, hK, hD0⟩ := hv
  have hx := B.exec
  have hb := B.bytes
  have hr := B.returns
  have hts := atoms_spec (ws := wsX8_layNoticed) B.pre
  have hown : s.vm.findClass RX8 = some m.cls := findClass_of_methodNamed B.named
  have hlocks := B.notSynchronized
  subst hsz
  have hD := hD0.self (sz := s.heap.size)
  generalize hAe : va_A [(m_mo, .inr (8, [.ref m_alane, .ref m_asize, .ref m_aitem, .int m_letters, .ref m_atape, .int m_position, .int m_number, .ref m_anow, .ref m_atried, .ref m_aread, .ref m_akept, .int m_isKept, .ref m_anoticed, .ref m_aneeds, .ref m_aorder, .int m_many, .int m_one, .int m_two])), (m_anow, .inl (G 0, 55, .inl m_now)), (m_anoticed, .inl (G 0, 256, .inl m_noticed))] s.heap.size = A at hD ⊢
  have hA : ∀ q : Nat, s.heap.size ≤ q → A q := fun q h => by rw [← hAe]; exact Or.inr h
  have hS : va_S A s.heap s.heap [] := va_S.rf
  have inX8 : ∀ w ∈ wsX80, w ∈ wsX8_layNoticed := by decide +kernel
  have fl23 := hts (.fieldLink RX8 23 "NewsCowModel" "now" "[I") (by decide +kernel)
  have fl35 := hts (.fieldLink RX8 35 "NewsCowModel" "noticed" "[I") (by decide +kernel)
  have hl := lv_entry ([.ref m_mo, .int x1] : List Value) (n := 3) (Nat.le_of_ble_eq_true rfl)
  rw [lg_entry_eq]
  generalize (lg_sl ([.ref m_mo, .int x1] : List Value) ++ List.replicate (3 - (lg_sl ([.ref m_mo, .int x1] : List Value)).length) Slot.unset).toArray = ls at hl ⊢
  have hl : lv_has ls 3 [(0, .ref m_mo), (1, .int x1)] := hl
  unfold wp_X8_layNoticed at hw
  have L2 : ∀ (f2 : Nat) (x2 : Int32) (m_noticed : Nat → Int32) (H : Heap) (locs : List Loc) (ls : Array Slot), wp_X8_layNoticed_L2 m_now x1 post f2 m_noticed x2 → va_P D vwCl [(m_mo, .inr (8, [.ref m_alane, .ref m_asize, .ref m_aitem, .int m_letters, .ref m_atape, .int m_position, .int m_number, .ref m_anow, .ref m_atried, .ref m_aread, .ref m_akept, .int m_isKept, .ref m_anoticed, .ref m_aneeds, .ref m_aorder, .int m_many, .int m_one, .int m_two])), (m_anow, .inl (G 0, 55, .inl m_now)), (m_anoticed, .inl (G 0, 256, .inl m_noticed))] H → va_D A [(m_mo, .inr (8, [.ref m_alane, .ref m_asize, .ref m_aitem, .int m_letters, .ref m_atape, .int m_position, .int m_number, .ref m_anow, .ref m_atried, .ref m_aread, .ref m_akept, .int m_isKept, .ref m_anoticed, .ref m_aneeds, .ref m_aorder, .int m_many, .int m_one, .int m_two])), (m_anow, .inl (G 0, 55, .inl m_now)), (m_anoticed, .inl (G 0, 256, .inl m_noticed))] → va_S A s.heap H locs → lv_has ls 3 [(0, .ref m_mo), (1, .int x1), (2, .int x2)] → W p l e (headSpec wsX8_layNoticed ({ frames := 4, cells := 0, slots := 0, locals := 95 } : Room)).room s m ([.ref m_mo, .int x1] : List Value).toArray below meth c H locs 0 0 (MQ below (va_Qv (fun (u : (Nat → Int32)) => post u) (fun u t => xE D G A [(m_mo, .inr (8, [.ref m_alane, .ref m_asize, .ref m_aitem, .int m_letters, .ref m_atape, .int m_position, .int m_number, .ref m_anow, .ref m_atried, .ref m_aread, .ref m_akept, .int m_isKept, .ref m_anoticed, .ref m_aneeds, .ref m_aorder, .int m_many, .int m_one, .int m_two])), (m_anow, .inl (G 0, 55, .inl m_now)), (m_anoticed, .inl (G 0, 256, .inl u))] t) A) ([.ref m_mo, .int x1] : List Value).toArray s 0 0 A) (F0 m 2 ls []) := by
    intro f2
    induction f2 with
    | zero => intro x2 m_noticed H locs ls hw hP hD hS hl; exact (hw : False).elim
    | succ f2 ih2 =>
      intro x2 m_noticed H locs ls hw hP hD hS hl
      unfold wp_X8_layNoticed_L2 at hw
      refine lv_iload_n hx hb dX8_layNoticed_2 rfl (lv_at hl 2 rfl) ?_
      refine lv_aload_n hx hb dX8_layNoticed_3 rfl (lv_at hl 0 rfl) ?_
      refine va_get (D := D) (ci := 8) (v := .ref m_anow) (C := RX8) (T := TX8) (N := 18) hx hb hts inX8 hown hK hP 0 rfl rfl 7 (by decide) fl23 (fun _ h9 => h9) rfl dX8_layNoticed_4 ?_
      refine vp_callSi (W.runS (As := [.ref m_anow]) (rest := [.int x2]) ⟨hx, hb, hml, hown, hts⟩ (c_X8_allOf l D G m_anow m_now _ hw) (va_cwS 1 hts gX8_layNoticed_X8_allOf rfl rfl rfl (by decide +kernel) ⟨(Nat.le_of_ble_eq_true rfl), (Nat.le_of_ble_eq_true rfl)⟩) (xR_ps (hP.sub [1] rfl) hK) rfl rfl hl.1 rfl (lv_room (Nat.le_of_ble_eq_true rfl)) dX8_layNoticed_7 ⟨Nat.zero_le _, Nat.zero_le _⟩) (fun r1 hw => ?_)
      refine lv_icmp_gt (tgt := 34) hx hb dX8_layNoticed_10 (by decide) (fun c9 => ?_) (fun c9 => ?_)
      · replace hw := hw.1 c9
        exact W.vret hx hb hr (x_mv (u := m_noticed) hP hK hD hS hw) hS.2.2 dX8_layNoticed_34
      · replace hw := hw.2 c9
        refine lv_aload_n hx hb dX8_layNoticed_13 rfl (lv_at hl 0 rfl) ?_
        refine va_get (D := D) (ci := 8) (v := .ref m_anoticed) (C := RX8) (T := TX8) (N := 18) hx hb hts inX8 hown hK hP 0 rfl rfl 12 (by decide) fl35 (fun _ h9 => h9) rfl dX8_layNoticed_14 ?_
        refine lv_iload_n hx hb dX8_layNoticed_17 rfl (lv_at hl 2 rfl) ?_
        refine lv_aload_n hx hb dX8_layNoticed_18 rfl (lv_at hl 0 rfl) ?_
        refine va_get (D := D) (ci := 8) (v := .ref m_anow) (C := RX8) (T := TX8) (N := 18) hx hb hts inX8 hown hK hP 0 rfl rfl 7 (by decide) fl23 (fun _ h9 => h9) rfl dX8_layNoticed_19 ?_
        refine lv_iload_n hx hb dX8_layNoticed_22 rfl (lv_at hl 1 rfl) ?_
        refine lv_iload_n hx hb dX8_layNoticed_23 rfl (lv_at hl 2 rfl) ?_
        refine vp_callSi (W.runS (As := [.ref m_anow, .int x1, .int x2]) (rest := [.int x2, .ref m_anoticed]) ⟨hx, hb, hml, hown, hts⟩ (c_X8_noticedBy l D G m_anow m_now x1 x2 _ hw) (va_cwS 3 hts gX8_layNoticed_X8_noticedBy rfl rfl rfl (by decide +kernel) ⟨(Nat.le_of_ble_eq_true rfl), (Nat.le_of_ble_eq_true rfl)⟩) (xR_ps (hP.sub [1] rfl) hK) rfl rfl hl.1 rfl (lv_room (Nat.le_of_ble_eq_true rfl)) dX8_layNoticed_24 ⟨Nat.zero_le _, Nat.zero_le _⟩) (fun r2 hw => ?_)
        refine x_iast (j := x2.toNatClampNeg) hx hb hK hP hD hS 2 0 rfl rfl rfl hw.1 dX8_layNoticed_27 (fun H locs hP hD hS => ?_)
        replace hw := hw.2
        replace hP : va_P D vwCl [(m_mo, .inr (8, [.ref m_alane, .ref m_asize, .ref m_aitem, .int m_letters, .ref m_atape, .int m_position, .int m_number, .ref m_anow, .ref m_atried, .ref m_aread, .ref m_akept, .int m_isKept, .ref m_anoticed, .ref m_aneeds, .ref m_aorder, .int m_many, .int m_one, .int m_two])), (m_anow, .inl (G 0, 55, .inl m_now)), (m_anoticed, .inl (G 0, 256, .inl (upd m_noticed x2.toNatClampNeg r2)))] H := hP
        replace hD : va_D A [(m_mo, .inr (8, [.ref m_alane, .ref m_asize, .ref m_aitem, .int m_letters, .ref m_atape, .int m_position, .int m_number, .ref m_anow, .ref m_atried, .ref m_aread, .ref m_akept, .int m_isKept, .ref m_anoticed, .ref m_aneeds, .ref m_aorder, .int m_many, .int m_one, .int m_two])), (m_anow, .inl (G 0, 55, .inl m_now)), (m_anoticed, .inl (G 0, 256, .inl (upd m_noticed x2.toNatClampNeg r2)))] := hD
        refine lv_iinc (v := (x2 + 1)) (lv' := [(2, .int (x2 + 1)), (0, .ref m_mo), (1, .int x1)]) hx hb dX8_layNoticed_28 hl (k := 2) rfl (by first | rfl | decide) (by decide) rfl (fun ls hl => ?_)
        refine lv_goto (tgt := 2) hx hb dX8_layNoticed_31 (by decide) ?_
        exact ih2 (x2 + 1) (upd m_noticed x2.toNatClampNeg r2) _ _ _ hw hP hD hS (lv_sub hl [1, 2, 0] rfl)
  refine lv_iconst (v := 1) hx hb dX8_layNoticed_0 (by decide) ?_
  refine lv_istore_n (lv' := [(2, .int (1 : Int32)), (0, .ref m_mo), (1, .int x1)]) hx hb dX8_layNoticed_1 rfl hl (by decide) rfl (fun ls hl => ?_)
  obtain ⟨n, hw⟩ := hw
  exact L2 n (1 : Int32) m_noticed _ _ _ hw hP hD hS (lv_sub hl [1, 2, 0] rfl)
set_option maxHeartbeats 4000000 in
set_option maxRecDepth 100000 in
theorem c_X8_needBy (l : Launch) (D : va_G) (G : Nat → ClassId) (m_mo : Nat) (m_alane : Nat) (m_asize : Nat) (m_aitem : Nat) (m_atape : Nat) (m_anow : Nat) (m_atried : Nat) (m_aread : Nat) (m_akept : Nat) (m_anoticed : Nat) (m_aneeds : Nat) (m_aorder : Nat) (m_letters : Int32) (m_position : Int32) (m_number : Int32) (m_isKept : Int32) (m_many : Int32) (m_one : Int32) (m_two : Int32) (m_noticed : Nat → Int32) (m_needs : Nat → Int32) (x1 : Int32) (x2 : Int32) (post : Int32 → Prop) (hw : wp_X8_needBy m_noticed m_needs x1 x2 post) : Met l yX8_needBy wsX8_needBy ({ frames := 0, cells := 0, slots := 0, locals := 0 } : Room) (va_Pc [.ref m_mo, .int x1, .int x2] (xR D G [(m_mo, .inr (8, [.ref m_alane, .ref m_asize, .ref m_aitem, .int m_letters, .ref m_atape, .int m_position, .int m_number, .ref m_anow, .ref m_atried, .ref m_aread, .ref m_akept, .int m_isKept, .ref m_anoticed, .ref m_aneeds, .ref m_aorder, .int m_many, .int m_one, .int m_two])), (m_anoticed, .inl (G 0, 256, .inl m_noticed)), (m_aneeds, .inl (G 0, 256, .inl m_needs))])) (vp_Si post) 0 0 (fun _ => False) := by
  refine Met.ofW (cc := cX8_needBy) (maxL := 5) (ret := (some .int)) (by decide) rfl ?_
  intro p e s m args below meth c s₁ B hml hv
  obtain ⟨rfl, hP, hK⟩ := hv
  have hx := B.exec
  have hb := B.bytes
  have hr := B.returns
  have hts := atoms_spec (ws := wsX8_needBy) B.pre
  have hown : s.vm.findClass RX8 = some m.cls := findClass_of_methodNamed B.named
  have hlocks := B.notSynchronized
  have inX8 : ∀ w ∈ wsX80, w ∈ wsX8_needBy := by decide +kernel
  have fl35 := hts (.fieldLink RX8 35 "NewsCowModel" "noticed" "[I") (by decide +kernel)
  have fl38 := hts (.fieldLink RX8 38 "NewsCowModel" "needs" "[I") (by decide +kernel)
  have hl := lv_entry ([.ref m_mo, .int x1, .int x2] : List Value) (n := 5) (Nat.le_of_ble_eq_true rfl)
  rw [lg_entry_eq]
  generalize (lg_sl ([.ref m_mo, .int x1, .int x2] : List Value) ++ List.replicate (5 - (lg_sl ([.ref m_mo, .int x1, .int x2] : List Value)).length) Slot.unset).toArray = ls at hl ⊢
  have hl : lv_has ls 5 [(0, .ref m_mo), (1, .int x1), (2, .int x2)] := hl
  unfold wp_X8_needBy at hw
  refine lv_iload_n hx hb dX8_needBy_0 rfl (lv_at hl 1 rfl) ?_
  refine lv_aload_n hx hb dX8_needBy_1 rfl (lv_at hl 0 rfl) ?_
  refine va_get (D := D) (ci := 8) (v := .ref m_anoticed) (C := RX8) (T := TX8) (N := 18) hx hb hts inX8 hown hK hP 0 rfl rfl 12 (by decide) fl35 (fun _ h9 => h9) rfl dX8_needBy_2 ?_
  refine lv_iload_n hx hb dX8_needBy_5 rfl (lv_at hl 2 rfl) ?_
  refine x_iald (j := x2.toNatClampNeg) hx hb hK hP 1 0 rfl rfl rfl hw.1 dX8_needBy_6 ?_
  replace hw := hw.2
  refine lv_iand hx hb dX8_needBy_7 ?_
  refine lv_istore_n (lv' := [(3, .int (x1 &&& (m_noticed x2.toNatClampNeg))), (0, .ref m_mo), (1, .int x1), (2, .int x2)]) hx hb dX8_needBy_8 rfl hl (by decide) rfl (fun ls hl => ?_)
  refine lv_iload_n hx hb dX8_needBy_9 rfl (lv_at hl 2 rfl) ?_
  refine lv_aload_n hx hb dX8_needBy_10 rfl (lv_at hl 1 rfl) ?_
  refine va_get (D := D) (ci := 8) (v := .ref m_anoticed) (C := RX8) (T := TX8) (N := 18) hx hb hts inX8 hown hK hP 0 rfl rfl 12 (by decide) fl35 (fun _ h9 => h9) rfl dX8_needBy_11 ?_
  refine lv_iload_n hx hb dX8_needBy_14 rfl (lv_at hl 3 rfl) ?_
  refine x_iald (j := x2.toNatClampNeg) hx hb hK hP 1 0 rfl rfl rfl hw.1 dX8_needBy_15 ?_
  replace hw := hw.2
  refine lv_iconst (v := -1) hx hb dX8_needBy_16 (by decide) ?_
  refine lv_ixor hx hb dX8_needBy_17 ?_
  refine lv_iand hx hb dX8_needBy_18 ?_
  refine lv_istore (lv' := [(4, .int (x1 &&& ((m_noticed x2.toNatClampNeg) ^^^ (-1 : Int32)))), (3, .int (x1 &&& (m_noticed x2.toNatClampNeg))), (0, .ref m_mo), (1, .int x1), (2, .int x2)]) hx hb dX8_needBy_19 hl (by decide) rfl (fun ls hl => ?_)
  refine lv_iload_n hx hb dX8_needBy_21 rfl (lv_at hl 1 rfl) ?_
  refine lv_if_eq (tgt := 30) hx hb dX8_needBy_22 (by decide) (fun c9 => ?_) (fun c9 => ?_)
  · replace hw := hw.1 c9
    refine lv_bipush (v := 99) hx hb dX8_needBy_30 (by decide) ?_
    exact W.iret hx hb hr (fun t ht _ => ⟨_, rfl, hw, ht⟩) (fun _ h => absurd h List.not_mem_nil) dX8_needBy_32
  · replace hw := hw.2 c9
    refine lv_iload hx hb dX8_needBy_25 (lv_at hl 0 rfl) ?_
    refine lv_if_ne (tgt := 33) hx hb dX8_needBy_27 (by decide) (fun c9 => ?_) (fun c9 => ?_)
    · replace hw := hw.1 c9
      refine lv_iconst (v := 1) hx hb dX8_needBy_33 (by decide) ?_
      refine lv_aload_n hx hb dX8_needBy_34 rfl (lv_at hl 2 rfl) ?_
      refine va_get (D := D) (ci := 8) (v := .ref m_aneeds) (C := RX8) (T := TX8) (N := 18) hx hb hts inX8 hown hK hP 0 rfl rfl 13 (by decide) fl38 (fun _ h9 => h9) rfl dX8_needBy_35 ?_
      refine lv_iload_n hx hb dX8_needBy_38 rfl (lv_at hl 1 rfl) ?_
      refine x_iald (j := (x1 &&& (m_noticed x2.toNatClampNeg)).toNatClampNeg) hx hb hK hP 2 0 rfl rfl rfl hw.1 dX8_needBy_39 ?_
      replace hw := hw.2
      refine lv_aload_n hx hb dX8_needBy_40 rfl (lv_at hl 2 rfl) ?_
      refine va_get (D := D) (ci := 8) (v := .ref m_aneeds) (C := RX8) (T := TX8) (N := 18) hx hb hts inX8 hown hK hP 0 rfl rfl 13 (by decide) fl38 (fun _ h9 => h9) rfl dX8_needBy_41 ?_
      refine lv_iload hx hb dX8_needBy_44 (lv_at hl 0 rfl) ?_
      refine x_iald (j := (x1 &&& ((m_noticed x2.toNatClampNeg) ^^^ (-1 : Int32))).toNatClampNeg) hx hb hK hP 2 0 rfl rfl rfl hw.1 dX8_needBy_46 ?_
      replace hw := hw.2
      refine lv_icmp_le (tgt := 59) hx hb dX8_needBy_47 (by decide) (fun c9 => ?_) (fun c9 => ?_)
      · replace hw := hw.1 c9
        refine lv_aload_n hx hb dX8_needBy_59 rfl (lv_at hl 2 rfl) ?_
        refine va_get (D := D) (ci := 8) (v := .ref m_aneeds) (C := RX8) (T := TX8) (N := 18) hx hb hts inX8 hown hK hP 0 rfl rfl 13 (by decide) fl38 (fun _ h9 => h9) rfl dX8_needBy_60 ?_
        refine lv_iload hx hb dX8_needBy_63 (lv_at hl 0 rfl) ?_
        refine x_iald (j := (x1 &&& ((m_noticed x2.toNatClampNeg) ^^^ (-1 : Int32))).toNatClampNeg) hx hb hK hP 2 0 rfl rfl rfl hw.1 dX8_needBy_65 ?_
        replace hw := hw.2
        refine lv_iadd hx hb dX8_needBy_66 ?_
        exact W.iret hx hb hr (fun t ht _ => ⟨_, rfl, hw, ht⟩) (fun _ h => absurd h List.not_mem_nil) dX8_needBy_67
      · replace hw := hw.2 c9
        refine lv_aload_n hx hb dX8_needBy_50 rfl (lv_at hl 2 rfl) ?_
        refine va_get (D := D) (ci := 8) (v := .ref m_aneeds) (C := RX8) (T := TX8) (N := 18) hx hb hts inX8 hown hK hP 0 rfl rfl 13 (by decide) fl38 (fun _ h9 => h9) rfl dX8_needBy_51 ?_
        refine lv_iload_n hx hb dX8_needBy_54 rfl (lv_at hl 1 rfl) ?_
        refine x_iald (j := (x1 &&& (m_noticed x2.toNatClampNeg)).toNatClampNeg) hx hb hK hP 2 0 rfl rfl rfl hw.1 dX8_needBy_55 ?_
        replace hw := hw.2
        refine lv_goto (tgt := 66) hx hb dX8_needBy_56 (by decide) ?_
        refine lv_iadd hx hb dX8_needBy_66 ?_
        exact W.iret hx hb hr (fun t ht _ => ⟨_, rfl, hw, ht⟩) (fun _ h => absurd h List.not_mem_nil) dX8_needBy_67
    · replace hw := hw.2 c9
      refine lv_bipush (v := 99) hx hb dX8_needBy_30 (by decide) ?_
      exact W.iret hx hb hr (fun t ht _ => ⟨_, rfl, hw, ht⟩) (fun _ h => absurd h List.not_mem_nil) dX8_needBy_32
set_option maxHeartbeats 4000000 in
set_option maxRecDepth 100000 in
theorem c_X8_layNeeds (l : Launch) (D : va_G) (G : Nat → ClassId) (sz : Nat) (m_mo : Nat) (m_alane : Nat) (m_asize : Nat) (m_aitem : Nat) (m_atape : Nat) (m_anow : Nat) (m_atried : Nat) (m_aread : Nat) (m_akept : Nat) (m_anoticed : Nat) (m_aneeds : Nat) (m_aorder : Nat) (m_letters : Int32) (m_position : Int32) (m_number : Int32) (m_isKept : Int32) (m_many : Int32) (m_one : Int32) (m_two : Int32) (m_now : Nat → Int32) (m_noticed : Nat → Int32) (m_needs : Nat → Int32) (post : (Nat → Int32) → Prop) (hw : wp_X8_layNeeds m_now m_noticed m_needs post) : Met l yX8_layNeeds wsX8_layNeeds ({ frames := 1, cells := 0, slots := 0, locals := 24 } : Room) (va_Pc [.ref m_mo] (xM D G sz [(m_mo, .inr (8, [.ref m_alane, .ref m_asize, .ref m_aitem, .int m_letters, .ref m_atape, .int m_position, .int m_number, .ref m_anow, .ref m_atried, .ref m_aread, .ref m_akept, .int m_isKept, .ref m_anoticed, .ref m_aneeds, .ref m_aorder, .int m_many, .int m_one, .int m_two])), (m_anow, .inl (G 0, 55, .inl m_now)), (m_anoticed, .inl (G 0, 256, .inl m_noticed)), (m_aneeds, .inl (G 0, 256, .inl m_needs))])) (va_Qv (fun (u : (Nat → Int32)) => post u) (fun u t => xE D G (va_A [(m_mo, .inr (8, [.ref m_alane, .ref m_asize, .ref m_aitem, .int m_letters, .ref m_atape, .int m_position, .int m_number, .ref m_anow, .ref m_atried, .ref m_aread, .ref m_akept, .int m_isKept, .ref m_anoticed, .ref m_aneeds, .ref m_aorder, .int m_many, .int m_one, .int m_two])), (m_anow, .inl (G 0, 55, .inl m_now)), (m_anoticed, .inl (G 0, 256, .inl m_noticed)), (m_aneeds, .inl (G 0, 256, .inl m_needs))] sz) [(m_mo, .inr (8, [.ref m_alane, .ref m_asize, .ref m_aitem, .int m_letters, .ref m_atape, .int m_position, .int m_number, .ref m_anow, .ref m_atried, .ref m_aread, .ref m_akept, .int m_isKept, .ref m_anoticed, .ref m_aneeds, .ref m_aorder, .int m_many, .int m_one, .int m_two])), (m_anow, .inl (G 0, 55, .inl m_now)), (m_anoticed, .inl (G 0, 256, .inl m_noticed)), (m_aneeds, .inl (G 0, 256, .inl u))] t) (va_A [(m_mo, .inr (8, [.ref m_alane, .ref m_asize, .ref m_aitem, .int m_letters, .ref m_atape, .int m_position, .int m_number, .ref m_anow, .ref m_atried, .ref m_aread, .ref m_akept, .int m_isKept, .ref m_anoticed, .ref m_aneeds, .ref m_aorder, .int m_many, .int m_one, .int m_two])), (m_anow, .inl (G 0, 55, .inl m_now)), (m_anoticed, .inl (G 0, 256, .inl m_noticed)), (m_aneeds, .inl (G 0, 256, .inl m_needs))] sz)) 0 0 (va_A [(m_mo, .inr (8, [.ref m_alane, .ref m_asize, .ref m_aitem, .int m_letters, .ref m_atape, .int m_position, .int m_number, .ref m_anow, .ref m_atried, .ref m_aread, .ref m_akept, .int m_isKept, .ref m_anoticed, .ref m_aneeds, .ref m_aorder, .int m_many, .int m_one, .int m_two])), (m_anow, .inl (G 0, 55, .inl m_now)), (m_anoticed, .inl (G 0, 256, .inl m_noticed)), (m_aneeds, .inl (G 0, 256, .inl m_needs))] sz) := by
  refine Met.ofW (cc := cX8_layNeeds) (maxL := 5) (ret := none) (by decide) rfl ?_
  intro p e s m args below meth c s₁ B hml hv
  obtain ⟨rfl, hsz, hP, hK, hD0⟩ := hv
  have hx := B.exec
  have hb := B.bytes
  have hr := B.returns
  have hts := atoms_spec (ws := wsX8_layNeeds) B.pre
  have hown : s.vm.findClass RX8 = some m.cls := findClass_of_methodNamed B.named
  have hlocks := B.notSynchronized
  subst hsz
  have hD := hD0.self (sz := s.heap.size)
  generalize hAe : va_A [(m_mo, .inr (8, [.ref m_alane, .ref m_asize, .ref m_aitem, .int m_letters, .ref m_atape, .int m_position, .int m_number, .ref m_anow, .ref m_atried, .ref m_aread, .ref m_akept, .int m_isKept, .ref m_anoticed, .ref m_aneeds, .ref m_aorder, .int m_many, .int m_one, .int m_two])), (m_anow, .inl (G 0, 55, .inl m_now)), (m_anoticed, .inl (G 0, 256, .inl m_noticed)), (m_aneeds, .inl (G 0, 256, .inl m_needs))] s.heap.size = A at hD ⊢
  have hA : ∀ q : Nat, s.heap.size ≤ q → A q := fun q h => by rw [← hAe]; exact Or.inr h
  have hS : va_S A s.heap s.heap [] := va_S.rf
  have inX8 : ∀ w ∈ wsX80, w ∈ wsX8_layNeeds := by decide +kernel
  have fl23 := hts (.fieldLink RX8 23 "NewsCowModel" "now" "[I") (by decide +kernel)
  have fl38 := hts (.fieldLink RX8 38 "NewsCowModel" "needs" "[I") (by decide +kernel)
  have hl := lv_entry ([.ref m_mo] : List Value) (n := 5) (Nat.le_of_ble_eq_true rfl)
  rw [lg_entry_eq]
  generalize (lg_sl ([.ref m_mo] : List Value) ++ List.replicate (5 - (lg_sl ([.ref m_mo] : List Value)).length) Slot.unset).toArray = ls at hl ⊢
  have hl : lv_has ls 5 [(0, .ref m_mo)] := hl
  unfold wp_X8_layNeeds at hw
  have L2 : ∀ (f2 : Nat) (x1 : Int32) (m_needs : Nat → Int32) (H : Heap) (locs : List Loc) (ls : Array Slot), wp_X8_layNeeds_L2 m_now m_noticed post f2 m_needs x1 → va_P D vwCl [(m_mo, .inr (8, [.ref m_alane, .ref m_asize, .ref m_aitem, .int m_letters, .ref m_atape, .int m_position, .int m_number, .ref m_anow, .ref m_atried, .ref m_aread, .ref m_akept, .int m_isKept, .ref m_anoticed, .ref m_aneeds, .ref m_aorder, .int m_many, .int m_one, .int m_two])), (m_anow, .inl (G 0, 55, .inl m_now)), (m_anoticed, .inl (G 0, 256, .inl m_noticed)), (m_aneeds, .inl (G 0, 256, .inl m_needs))] H → va_D A [(m_mo, .inr (8, [.ref m_alane, .ref m_asize, .ref m_aitem, .int m_letters, .ref m_atape, .int m_position, .int m_number, .ref m_anow, .ref m_atried, .ref m_aread, .ref m_akept, .int m_isKept, .ref m_anoticed, .ref m_aneeds, .ref m_aorder, .int m_many, .int m_one, .int m_two])), (m_anow, .inl (G 0, 55, .inl m_now)), (m_anoticed, .inl (G 0, 256, .inl m_noticed)), (m_aneeds, .inl (G 0, 256, .inl m_needs))] → va_S A s.heap H locs → lv_has ls 5 [(0, .ref m_mo), (1, .int x1)] → W p l e (headSpec wsX8_layNeeds ({ frames := 1, cells := 0, slots := 0, locals := 24 } : Room)).room s m ([.ref m_mo] : List Value).toArray below meth c H locs 0 0 (MQ below (va_Qv (fun (u : (Nat → Int32)) => post u) (fun u t => xE D G A [(m_mo, .inr (8, [.ref m_alane, .ref m_asize, .ref m_aitem, .int m_letters, .ref m_atape, .int m_position, .int m_number, .ref m_anow, .ref m_atried, .ref m_aread, .ref m_akept, .int m_isKept, .ref m_anoticed, .ref m_aneeds, .ref m_aorder, .int m_many, .int m_one, .int m_two])), (m_anow, .inl (G 0, 55, .inl m_now)), (m_anoticed, .inl (G 0, 256, .inl m_noticed)), (m_aneeds, .inl (G 0, 256, .inl u))] t) A) ([.ref m_mo] : List Value).toArray s 0 0 A) (F0 m 2 ls []) := by
    intro f2
    induction f2 with
    | zero => intro x1 m_needs H locs ls hw hP hD hS hl; exact (hw : False).elim
    | succ f2 ih2 =>
      intro x1 m_needs H locs ls hw hP hD hS hl
      unfold wp_X8_layNeeds_L2 at hw
      have J76 : ∀ (x1 : Int32) (x2 : Int32) (m_needs : Nat → Int32) (H : Heap) (locs : List Loc) (ls : Array Slot), wp_X8_layNeeds_J76 m_needs x1 x2 (wp_X8_layNeeds_L2 m_now m_noticed post f2) post → va_P D vwCl [(m_mo, .inr (8, [.ref m_alane, .ref m_asize, .ref m_aitem, .int m_letters, .ref m_atape, .int m_position, .int m_number, .ref m_anow, .ref m_atried, .ref m_aread, .ref m_akept, .int m_isKept, .ref m_anoticed, .ref m_aneeds, .ref m_aorder, .int m_many, .int m_one, .int m_two])), (m_anow, .inl (G 0, 55, .inl m_now)), (m_anoticed, .inl (G 0, 256, .inl m_noticed)), (m_aneeds, .inl (G 0, 256, .inl m_needs))] H → va_D A [(m_mo, .inr (8, [.ref m_alane, .ref m_asize, .ref m_aitem, .int m_letters, .ref m_atape, .int m_position, .int m_number, .ref m_anow, .ref m_atried, .ref m_aread, .ref m_akept, .int m_isKept, .ref m_anoticed, .ref m_aneeds, .ref m_aorder, .int m_many, .int m_one, .int m_two])), (m_anow, .inl (G 0, 55, .inl m_now)), (m_anoticed, .inl (G 0, 256, .inl m_noticed)), (m_aneeds, .inl (G 0, 256, .inl m_needs))] → va_S A s.heap H locs → lv_has ls 5 [(0, .ref m_mo), (1, .int x1), (2, .int x2)] → W p l e (headSpec wsX8_layNeeds ({ frames := 1, cells := 0, slots := 0, locals := 24 } : Room)).room s m ([.ref m_mo] : List Value).toArray below meth c H locs 0 0 (MQ below (va_Qv (fun (u : (Nat → Int32)) => post u) (fun u t => xE D G A [(m_mo, .inr (8, [.ref m_alane, .ref m_asize, .ref m_aitem, .int m_letters, .ref m_atape, .int m_position, .int m_number, .ref m_anow, .ref m_atried, .ref m_aread, .ref m_akept, .int m_isKept, .ref m_anoticed, .ref m_aneeds, .ref m_aorder, .int m_many, .int m_one, .int m_two])), (m_anow, .inl (G 0, 55, .inl m_now)), (m_anoticed, .inl (G 0, 256, .inl m_noticed)), (m_aneeds, .inl (G 0, 256, .inl u))] t) A) ([.ref m_mo] : List Value).toArray s 0 0 A) (F0 m 76 ls []) := by
        intro x1 x2 m_needs H locs ls hw hP hD hS hl
        unfold wp_X8_layNeeds_J76 at hw
        refine lv_aload_n hx hb dX8_layNeeds_76 rfl (lv_at hl 0 rfl) ?_
        refine va_get (D := D) (ci := 8) (v := .ref m_aneeds) (C := RX8) (T := TX8) (N := 18) hx hb hts inX8 hown hK hP 0 rfl rfl 13 (by decide) fl38 (fun _ h9 => h9) rfl dX8_layNeeds_77 ?_
        refine lv_iload_n hx hb dX8_layNeeds_80 rfl (lv_at hl 1 rfl) ?_
        refine lv_iload_n hx hb dX8_layNeeds_81 rfl (lv_at hl 2 rfl) ?_
        refine x_iast (j := x1.toNatClampNeg) hx hb hK hP hD hS 3 0 rfl rfl rfl hw.1 dX8_layNeeds_82 (fun H locs hP hD hS => ?_)
        replace hw := hw.2
        replace hP : va_P D vwCl [(m_mo, .inr (8, [.ref m_alane, .ref m_asize, .ref m_aitem, .int m_letters, .ref m_atape, .int m_position, .int m_number, .ref m_anow, .ref m_atried, .ref m_aread, .ref m_akept, .int m_isKept, .ref m_anoticed, .ref m_aneeds, .ref m_aorder, .int m_many, .int m_one, .int m_two])), (m_anow, .inl (G 0, 55, .inl m_now)), (m_anoticed, .inl (G 0, 256, .inl m_noticed)), (m_aneeds, .inl (G 0, 256, .inl (upd m_needs x1.toNatClampNeg x2)))] H := hP
        replace hD : va_D A [(m_mo, .inr (8, [.ref m_alane, .ref m_asize, .ref m_aitem, .int m_letters, .ref m_atape, .int m_position, .int m_number, .ref m_anow, .ref m_atried, .ref m_aread, .ref m_akept, .int m_isKept, .ref m_anoticed, .ref m_aneeds, .ref m_aorder, .int m_many, .int m_one, .int m_two])), (m_anow, .inl (G 0, 55, .inl m_now)), (m_anoticed, .inl (G 0, 256, .inl m_noticed)), (m_aneeds, .inl (G 0, 256, .inl (upd m_needs x1.toNatClampNeg x2)))] := hD
        refine lv_iinc (v := (x1 + 1)) (lv' := [(1, .int (x1 + 1)), (0, .ref m_mo), (2, .int x2)]) hx hb dX8_layNeeds_83 hl (k := 1) rfl (by first | rfl | decide) (by decide) rfl (fun ls hl => ?_)
        refine lv_goto (tgt := 2) hx hb dX8_layNeeds_86 (by decide) ?_
        exact ih2 (x1 + 1) (upd m_needs x1.toNatClampNeg x2) _ _ _ hw hP hD hS (lv_sub hl [1, 0] rfl)
      have L30 : ∀ (f30 : Nat) (x1 : Int32) (x2 : Int32) (x3 : Int32) (m_needs : Nat → Int32) (H : Heap) (locs : List Loc) (ls : Array Slot), wp_X8_layNeeds_L30 m_now m_noticed m_needs x1 (wp_X8_layNeeds_L2 m_now m_noticed post f2) post f30 x2 x3 → va_P D vwCl [(m_mo, .inr (8, [.ref m_alane, .ref m_asize, .ref m_aitem, .int m_letters, .ref m_atape, .int m_position, .int m_number, .ref m_anow, .ref m_atried, .ref m_aread, .ref m_akept, .int m_isKept, .ref m_anoticed, .ref m_aneeds, .ref m_aorder, .int m_many, .int m_one, .int m_two])), (m_anow, .inl (G 0, 55, .inl m_now)), (m_anoticed, .inl (G 0, 256, .inl m_noticed)), (m_aneeds, .inl (G 0, 256, .inl m_needs))] H → va_D A [(m_mo, .inr (8, [.ref m_alane, .ref m_asize, .ref m_aitem, .int m_letters, .ref m_atape, .int m_position, .int m_number, .ref m_anow, .ref m_atried, .ref m_aread, .ref m_akept, .int m_isKept, .ref m_anoticed, .ref m_aneeds, .ref m_aorder, .int m_many, .int m_one, .int m_two])), (m_anow, .inl (G 0, 55, .inl m_now)), (m_anoticed, .inl (G 0, 256, .inl m_noticed)), (m_aneeds, .inl (G 0, 256, .inl m_needs))] → va_S A s.heap H locs → lv_has ls 5 [(0, .ref m_mo), (1, .int x1), (2, .int x2), (3, .int x3)] → W p l e (headSpec wsX8_layNeeds ({ frames := 1, cells := 0, slots := 0, locals := 24 } : Room)).room s m ([.ref m_mo] : List Value).toArray below meth c H locs 0 0 (MQ below (va_Qv (fun (u : (Nat → Int32)) => post u) (fun u t => xE D G A [(m_mo, .inr (8, [.ref m_alane, .ref m_asize, .ref m_aitem, .int m_letters, .ref m_atape, .int m_position, .int m_number, .ref m_anow, .ref m_atried, .ref m_aread, .ref m_akept, .int m_isKept, .ref m_anoticed, .ref m_aneeds, .ref m_aorder, .int m_many, .int m_one, .int m_two])), (m_anow, .inl (G 0, 55, .inl m_now)), (m_anoticed, .inl (G 0, 256, .inl m_noticed)), (m_aneeds, .inl (G 0, 256, .inl u))] t) A) ([.ref m_mo] : List Value).toArray s 0 0 A) (F0 m 30 ls []) := by
        intro f30
        induction f30 with
        | zero => intro x1 x2 x3 m_needs H locs ls hw hP hD hS hl; exact (hw : False).elim
        | succ f30 ih30 =>
          intro x1 x2 x3 m_needs H locs ls hw hP hD hS hl
          unfold wp_X8_layNeeds_L30 at hw
          refine lv_iload_n hx hb dX8_layNeeds_30 rfl (lv_at hl 3 rfl) ?_
          refine lv_aload_n hx hb dX8_layNeeds_31 rfl (lv_at hl 0 rfl) ?_
          refine va_get (D := D) (ci := 8) (v := .ref m_anow) (C := RX8) (T := TX8) (N := 18) hx hb hts inX8 hown hK hP 0 rfl rfl 7 (by decide) fl23 (fun _ h9 => h9) rfl dX8_layNeeds_32 ?_
          refine vp_callSi (W.runS (As := [.ref m_anow]) (rest := [.int x3]) ⟨hx, hb, hml, hown, hts⟩ (c_X8_allOf l D G m_anow m_now _ hw) (va_cwS 1 hts gX8_layNeeds_X8_allOf rfl rfl rfl (by decide +kernel) ⟨(Nat.le_of_ble_eq_true rfl), (Nat.le_of_ble_eq_true rfl)⟩) (xR_ps (hP.sub [1] rfl) hK) rfl rfl hl.1 rfl (lv_room (Nat.le_of_ble_eq_true rfl)) dX8_layNeeds_35 ⟨Nat.zero_le _, Nat.zero_le _⟩) (fun r3 hw => ?_)
          refine lv_icmp_gt (tgt := 76) hx hb dX8_layNeeds_38 (by decide) (fun c9 => ?_) (fun c9 => ?_)
          · replace hw := hw.1 c9
            exact J76 x1 x2 m_needs _ _ _ hw hP hD hS (lv_sub hl [0, 1, 2] rfl)
          · replace hw := hw.2 c9
            refine lv_iload_n hx hb dX8_layNeeds_41 rfl (lv_at hl 1 rfl) ?_
            refine vp_callSi (W.runS (As := [.int x1]) (rest := []) ⟨hx, hb, hml, hown, hts⟩ (c_X8_bits l D G x1 _ hw) (va_cwS 1 hts gX8_layNeeds_X8_bits rfl rfl rfl (by decide +kernel) ⟨(Nat.le_of_ble_eq_true rfl), (Nat.le_of_ble_eq_true rfl)⟩) (xR_ps (hP.sub [] rfl) hK) rfl rfl hl.1 rfl (lv_room (Nat.le_of_ble_eq_true rfl)) dX8_layNeeds_42 ⟨Nat.zero_le _, Nat.zero_le _⟩) (fun r4 hw => ?_)
            refine lv_iconst (v := 1) hx hb dX8_layNeeds_45 (by decide) ?_
            refine lv_icmp_le (tgt := 76) hx hb dX8_layNeeds_46 (by decide) (fun c9 => ?_) (fun c9 => ?_)
            · replace hw := hw.1 c9
              exact J76 x1 x2 m_needs _ _ _ hw hP hD hS (lv_sub hl [0, 1, 2] rfl)
            · replace hw := hw.2 c9
              refine lv_aload_n hx hb dX8_layNeeds_49 rfl (lv_at hl 0 rfl) ?_
              refine lv_iload_n hx hb dX8_layNeeds_50 rfl (lv_at hl 1 rfl) ?_
              refine lv_iload_n hx hb dX8_layNeeds_51 rfl (lv_at hl 3 rfl) ?_
              refine vp_callSi (W.runV (As := [.int x1, .int x3]) (rest := []) ⟨hx, hb, hml, hown, hts⟩ (c_X8_needBy l D G m_mo m_alane m_asize m_aitem m_atape m_anow m_atried m_aread m_akept m_anoticed m_aneeds m_aorder m_letters m_position m_number m_isKept m_many m_one m_two m_noticed m_needs x1 x3 _ hw) (cwV 2 hts gX8_layNeeds_X8_needBy rfl rfl rfl (by decide +kernel) ⟨(Nat.le_of_ble_eq_true rfl), (Nat.le_of_ble_eq_true rfl)⟩) (xR_pv (hP.sub [0, 2, 3] rfl) hK (va_recv hK hP (ci := 8) (q0 := 0) rfl rfl)) rfl rfl hl.1 rfl (lv_room (Nat.le_of_ble_eq_true rfl)) dX8_layNeeds_52 ⟨Nat.zero_le _, Nat.zero_le _⟩) (fun r5 hw => ?_)
              refine lv_istore (lv' := [(4, .int r5), (0, .ref m_mo), (1, .int x1), (2, .int x2), (3, .int x3)]) hx hb dX8_layNeeds_55 hl (by decide) rfl (fun ls hl => ?_)
              refine lv_iload hx hb dX8_layNeeds_57 (lv_at hl 0 rfl) ?_
              refine lv_iload_n hx hb dX8_layNeeds_59 rfl (lv_at hl 3 rfl) ?_
              refine lv_icmp_ge (tgt := 68) hx hb dX8_layNeeds_60 (by decide) (fun c9 => ?_) (fun c9 => ?_)
              · replace hw := hw.1 c9
                refine lv_iload_n hx hb dX8_layNeeds_68 rfl (lv_at hl 3 rfl) ?_
                refine lv_istore_n (lv' := [(2, .int x2), (4, .int r5), (0, .ref m_mo), (1, .int x1), (3, .int x3)]) hx hb dX8_layNeeds_69 rfl hl (by decide) rfl (fun ls hl => ?_)
                refine lv_iinc (v := (x3 + 1)) (lv' := [(3, .int (x3 + 1)), (2, .int x2), (4, .int r5), (0, .ref m_mo), (1, .int x1)]) hx hb dX8_layNeeds_70 hl (k := 4) rfl (by first | rfl | decide) (by decide) rfl (fun ls hl => ?_)
                refine lv_goto (tgt := 30) hx hb dX8_layNeeds_73 (by decide) ?_
                exact ih30 x1 x2 (x3 + 1) m_needs _ _ _ hw hP hD hS (lv_sub hl [3, 4, 1, 0] rfl)
              · replace hw := hw.2 c9
                refine lv_iload hx hb dX8_layNeeds_63 (lv_at hl 0 rfl) ?_
                refine lv_goto (tgt := 69) hx hb dX8_layNeeds_65 (by decide) ?_
                refine lv_istore_n (lv' := [(2, .int r5), (4, .int r5), (0, .ref m_mo), (1, .int x1), (3, .int x3)]) hx hb dX8_layNeeds_69 rfl hl (by decide) rfl (fun ls hl => ?_)
                refine lv_iinc (v := (x3 + 1)) (lv' := [(3, .int (x3 + 1)), (2, .int r5), (4, .int r5), (0, .ref m_mo), (1, .int x1)]) hx hb dX8_layNeeds_70 hl (k := 4) rfl (by first | rfl | decide) (by decide) rfl (fun ls hl => ?_)
                refine lv_goto (tgt := 30) hx hb dX8_layNeeds_73 (by decide) ?_
                exact ih30 x1 r5 (x3 + 1) m_needs _ _ _ hw hP hD hS (lv_sub hl [3, 4, 1, 0] rfl)
      refine lv_iload_n hx hb dX8_layNeeds_2 rfl (lv_at hl 1 rfl) ?_
      refine lv_aload_n hx hb dX8_layNeeds_3 rfl (lv_at hl 0 rfl) ?_
      refine va_get (D := D) (ci := 8) (v := .ref m_anow) (C := RX8) (T := TX8) (N := 18) hx hb hts inX8 hown hK hP 0 rfl rfl 7 (by decide) fl23 (fun _ h9 => h9) rfl dX8_layNeeds_4 ?_
      refine vp_callSi (W.runS (As := [.ref m_anow]) (rest := [.int x1]) ⟨hx, hb, hml, hown, hts⟩ (c_X8_allOf l D G m_anow m_now _ hw) (va_cwS 1 hts gX8_layNeeds_X8_allOf rfl rfl rfl (by decide +kernel) ⟨(Nat.le_of_ble_eq_true rfl), (Nat.le_of_ble_eq_true rfl)⟩) (xR_ps (hP.sub [1] rfl) hK) rfl rfl hl.1 rfl (lv_room (Nat.le_of_ble_eq_true rfl)) dX8_layNeeds_7 ⟨Nat.zero_le _, Nat.zero_le _⟩) (fun r1 hw => ?_)
      refine lv_icmp_gt (tgt := 89) hx hb dX8_layNeeds_10 (by decide) (fun c9 => ?_) (fun c9 => ?_)
      · replace hw := hw.1 c9
        exact W.vret hx hb hr (x_mv (u := m_needs) hP hK hD hS hw) hS.2.2 dX8_layNeeds_89
      · replace hw := hw.2 c9
        refine lv_iload_n hx hb dX8_layNeeds_13 rfl (lv_at hl 1 rfl) ?_
        refine vp_callSi (W.runS (As := [.int x1]) (rest := []) ⟨hx, hb, hml, hown, hts⟩ (c_X8_bits l D G x1 _ hw) (va_cwS 1 hts gX8_layNeeds_X8_bits rfl rfl rfl (by decide +kernel) ⟨(Nat.le_of_ble_eq_true rfl), (Nat.le_of_ble_eq_true rfl)⟩) (xR_ps (hP.sub [] rfl) hK) rfl rfl hl.1 rfl (lv_room (Nat.le_of_ble_eq_true rfl)) dX8_layNeeds_14 ⟨Nat.zero_le _, Nat.zero_le _⟩) (fun r2 hw => ?_)
        refine lv_iconst (v := 2) hx hb dX8_layNeeds_17 (by decide) ?_
        refine lv_icmp_ge (tgt := 25) hx hb dX8_layNeeds_18 (by decide) (fun c9 => ?_) (fun c9 => ?_)
        · replace hw := hw.1 c9
          refine lv_bipush (v := 99) hx hb dX8_layNeeds_25 (by decide) ?_
          refine lv_istore_n (lv' := [(2, .int (99 : Int32)), (0, .ref m_mo), (1, .int x1)]) hx hb dX8_layNeeds_27 rfl hl (by decide) rfl (fun ls hl => ?_)
          refine lv_iconst (v := 1) hx hb dX8_layNeeds_28 (by decide) ?_
          refine lv_istore_n (lv' := [(3, .int (1 : Int32)), (2, .int (99 : Int32)), (0, .ref m_mo), (1, .int x1)]) hx hb dX8_layNeeds_29 rfl hl (by decide) rfl (fun ls hl => ?_)
          obtain ⟨n, hw⟩ := hw
          exact L30 n x1 (99 : Int32) (1 : Int32) m_needs _ _ _ hw hP hD hS (lv_sub hl [2, 3, 1, 0] rfl)
        · replace hw := hw.2 c9
          refine lv_iconst (v := 0) hx hb dX8_layNeeds_21 (by decide) ?_
          refine lv_goto (tgt := 27) hx hb dX8_layNeeds_22 (by decide) ?_
          refine lv_istore_n (lv' := [(2, .int (0 : Int32)), (0, .ref m_mo), (1, .int x1)]) hx hb dX8_layNeeds_27 rfl hl (by decide) rfl (fun ls hl => ?_)
          refine lv_iconst (v := 1) hx hb dX8_layNeeds_28 (by decide) ?_
          refine lv_istore_n (lv' := [(3, .int (1 : Int32)), (2, .int (0 : Int32)), (0, .ref m_mo), (1, .int x1)]) hx hb dX8_layNeeds_29 rfl hl (by decide) rfl (fun ls hl => ?_)
          obtain ⟨n, hw⟩ := hw
          exact L30 n x1 (0 : Int32) (1 : Int32) m_needs _ _ _ hw hP hD hS (lv_sub hl [2, 3, 1, 0] rfl)
  refine lv_iconst (v := 0) hx hb dX8_layNeeds_0 (by decide) ?_
  refine lv_istore_n (lv' := [(1, .int (0 : Int32)), (0, .ref m_mo)]) hx hb dX8_layNeeds_1 rfl hl (by decide) rfl (fun ls hl => ?_)
  obtain ⟨n, hw⟩ := hw
  exact L2 n (0 : Int32) m_needs _ _ _ hw hP hD hS (lv_sub hl [1, 0] rfl)
set_option maxHeartbeats 4000000 in
set_option maxRecDepth 100000 in
theorem c_X8_fewest (l : Launch) (D : va_G) (G : Nat → ClassId) (sz : Nat) (m_mo : Nat) (m_alane : Nat) (m_asize : Nat) (m_aitem : Nat) (m_atape : Nat) (m_anow : Nat) (m_atried : Nat) (m_aread : Nat) (m_akept : Nat) (m_anoticed : Nat) (m_aneeds : Nat) (m_aorder : Nat) (m_letters : Int32) (m_position : Int32) (m_number : Int32) (m_isKept : Int32) (m_many : Int32) (m_one : Int32) (m_two : Int32) (m_now : Nat → Int32) (m_noticed : Nat → Int32) (m_needs : Nat → Int32) (x1 : Int32) (post : Int32 → (Nat → Int32) → (Nat → Int32) → Prop) (hw : wp_X8_fewest m_now m_noticed m_needs x1 post) : Met l yX8_fewest wsX8_fewest ({ frames := 5, cells := 0, slots := 0, locals := 117 } : Room) (va_Pc [.ref m_mo, .int x1] (xM D G sz [(m_mo, .inr (8, [.ref m_alane, .ref m_asize, .ref m_aitem, .int m_letters, .ref m_atape, .int m_position, .int m_number, .ref m_anow, .ref m_atried, .ref m_aread, .ref m_akept, .int m_isKept, .ref m_anoticed, .ref m_aneeds, .ref m_aorder, .int m_many, .int m_one, .int m_two])), (m_anow, .inl (G 0, 55, .inl m_now)), (m_anoticed, .inl (G 0, 256, .inl m_noticed)), (m_aneeds, .inl (G 0, 256, .inl m_needs))])) (va_Qi (fun r (u : (Nat → Int32) × (Nat → Int32)) => post r u.1 u.2) (fun u t => xE D G (va_A [(m_mo, .inr (8, [.ref m_alane, .ref m_asize, .ref m_aitem, .int m_letters, .ref m_atape, .int m_position, .int m_number, .ref m_anow, .ref m_atried, .ref m_aread, .ref m_akept, .int m_isKept, .ref m_anoticed, .ref m_aneeds, .ref m_aorder, .int m_many, .int m_one, .int m_two])), (m_anow, .inl (G 0, 55, .inl m_now)), (m_anoticed, .inl (G 0, 256, .inl m_noticed)), (m_aneeds, .inl (G 0, 256, .inl m_needs))] sz) [(m_mo, .inr (8, [.ref m_alane, .ref m_asize, .ref m_aitem, .int m_letters, .ref m_atape, .int m_position, .int m_number, .ref m_anow, .ref m_atried, .ref m_aread, .ref m_akept, .int m_isKept, .ref m_anoticed, .ref m_aneeds, .ref m_aorder, .int m_many, .int m_one, .int m_two])), (m_anow, .inl (G 0, 55, .inl m_now)), (m_anoticed, .inl (G 0, 256, .inl (u.1))), (m_aneeds, .inl (G 0, 256, .inl (u.2)))] t) (va_A [(m_mo, .inr (8, [.ref m_alane, .ref m_asize, .ref m_aitem, .int m_letters, .ref m_atape, .int m_position, .int m_number, .ref m_anow, .ref m_atried, .ref m_aread, .ref m_akept, .int m_isKept, .ref m_anoticed, .ref m_aneeds, .ref m_aorder, .int m_many, .int m_one, .int m_two])), (m_anow, .inl (G 0, 55, .inl m_now)), (m_anoticed, .inl (G 0, 256, .inl m_noticed)), (m_aneeds, .inl (G 0, 256, .inl m_needs))] sz)) 0 0 (va_A [(m_mo, .inr (8, [.ref m_alane, .ref m_asize, .ref m_aitem, .int m_letters, .ref m_atape, .int m_position, .int m_number, .ref m_anow, .ref m_atried, .ref m_aread, .ref m_akept, .int m_isKept, .ref m_anoticed, .ref m_aneeds, .ref m_aorder, .int m_many, .int m_one, .int m_two])), (m_anow, .inl (G 0, 55, .inl m_now)), (m_anoticed, .inl (G 0, 256, .inl m_noticed)), (m_aneeds, .inl (G 0, 256, .inl m_needs))] sz) := by
  refine Met.ofW (cc := cX8_fewest) (maxL := 2) (ret := (some .int)) (by decide) rfl ?_
  intro p e s m args below meth c s₁ B hml hv
  obtain ⟨rfl, hsz, hP, hK, hD0⟩ := hv
  have hx := B.exec
  have hb := B.bytes
  have hr := B.returns
  have hts := atoms_spec (ws := wsX8_fewest) B.pre
  have hown : s.vm.findClass RX8 = some m.cls := findClass_of_methodNamed B.named
  have hlocks := B.notSynchronized
  subst hsz
  have hD := hD0.self (sz := s.heap.size)
  generalize hAe : va_A [(m_mo, .inr (8, [.ref m_alane, .ref m_asize, .ref m_aitem, .int m_letters, .ref m_atape, .int m_position, .int m_number, .ref m_anow, .ref m_atried, .ref m_aread, .ref m_akept, .int m_isKept, .ref m_anoticed, .ref m_aneeds, .ref m_aorder, .int m_many, .int m_one, .int m_two])), (m_anow, .inl (G 0, 55, .inl m_now)), (m_anoticed, .inl (G 0, 256, .inl m_noticed)), (m_aneeds, .inl (G 0, 256, .inl m_needs))] s.heap.size = A at hD ⊢
  have hA : ∀ q : Nat, s.heap.size ≤ q → A q := fun q h => by rw [← hAe]; exact Or.inr h
  have hS : va_S A s.heap s.heap [] := va_S.rf
  have inX8 : ∀ w ∈ wsX80, w ∈ wsX8_fewest := by decide +kernel
  have fl38 := hts (.fieldLink RX8 38 "NewsCowModel" "needs" "[I") (by decide +kernel)
  have fl23 := hts (.fieldLink RX8 23 "NewsCowModel" "now" "[I") (by decide +kernel)
  have hl := lv_entry ([.ref m_mo, .int x1] : List Value) (n := 2) (Nat.le_of_ble_eq_true rfl)
  rw [lg_entry_eq]
  generalize (lg_sl ([.ref m_mo, .int x1] : List Value) ++ List.replicate (2 - (lg_sl ([.ref m_mo, .int x1] : List Value)).length) Slot.unset).toArray = ls at hl ⊢
  have hl : lv_has ls 2 [(0, .ref m_mo), (1, .int x1)] := hl
  unfold wp_X8_fewest at hw
  refine lv_aload_n hx hb dX8_fewest_0 rfl (lv_at hl 0 rfl) ?_
  refine lv_iload_n hx hb dX8_fewest_1 rfl (lv_at hl 1 rfl) ?_
  refine vp_callSi (W.runV (As := [.int x1]) (rest := []) ⟨hx, hb, hml, hown, hts⟩ (c_X8_isTaster l D G m_mo m_alane m_asize m_aitem m_atape m_anow m_atried m_aread m_akept m_anoticed m_aneeds m_aorder m_letters m_position m_number m_isKept m_many m_one m_two m_now x1 _ hw) (cwV 1 hts gX8_fewest_X8_isTaster rfl rfl rfl (by decide +kernel) ⟨(Nat.le_of_ble_eq_true rfl), (Nat.le_of_ble_eq_true rfl)⟩) (xR_pv (hP.sub [0, 1] rfl) hK (va_recv hK hP (ci := 8) (q0 := 0) rfl rfl)) rfl rfl hl.1 rfl (lv_room (Nat.le_of_ble_eq_true rfl)) dX8_fewest_2 ⟨Nat.zero_le _, Nat.zero_le _⟩) (fun r1 hw => ?_)
  refine lv_if_ne (tgt := 10) hx hb dX8_fewest_5 (by decide) (fun c9 => ?_) (fun c9 => ?_)
  · replace hw := hw.1 c9
    refine lv_aload_n hx hb dX8_fewest_10 rfl (lv_at hl 0 rfl) ?_
    refine lv_iload_n hx hb dX8_fewest_11 rfl (lv_at hl 1 rfl) ?_
    refine x_cMv (wr := [(m_aneeds, .inl (G 0, 256, .inl m_needs))]) (va_runV (As := [.int x1]) (rest := []) ⟨hx, hb, hml, hown, hts⟩ (c_X8_layNoticed l D G _ m_mo m_alane m_asize m_aitem m_atape m_anow m_atried m_aread m_akept m_anoticed m_aneeds m_aorder m_letters m_position m_number m_isKept m_many m_one m_two m_now m_noticed x1 _ hw) (cwV 1 hts gX8_fewest_X8_layNoticed rfl rfl rfl (by decide +kernel) ⟨(Nat.le_of_ble_eq_true rfl), (Nat.le_of_ble_eq_true rfl)⟩) (xM_pv (hP.sub [0, 1, 2] rfl) hK (hD.sub [0, 1, 2] (by decide) rfl) (va_recv hK hP (ci := 8) (q0 := 0) rfl rfl)) rfl rfl hl.1 rfl (lv_room (Nat.le_of_ble_eq_true rfl)) dX8_fewest_12 ⟨Nat.zero_le _, Nat.zero_le _⟩) hP hD hS hA [0, 1, 2] [3] rfl rfl (by decide) (by decide) [1, 2, 3, 0] (fun u => [(m_mo, .inr (8, [.ref m_alane, .ref m_asize, .ref m_aitem, .int m_letters, .ref m_atape, .int m_position, .int m_number, .ref m_anow, .ref m_atried, .ref m_aread, .ref m_akept, .int m_isKept, .ref m_anoticed, .ref m_aneeds, .ref m_aorder, .int m_many, .int m_one, .int m_two])), (m_anow, .inl (G 0, 55, .inl m_now)), (m_anoticed, .inl (G 0, 256, .inl u)), (m_aneeds, .inl (G 0, 256, .inl m_needs))]) (by decide) (fun u => rfl) (fun u H locs hw hP hD hS => ?_)
    obtain ⟨m_noticed_2, rfl⟩ : ∃ z, z = u := ⟨_, rfl⟩
    try dsimp only at hw
    replace hP : va_P D vwCl [(m_mo, .inr (8, [.ref m_alane, .ref m_asize, .ref m_aitem, .int m_letters, .ref m_atape, .int m_position, .int m_number, .ref m_anow, .ref m_atried, .ref m_aread, .ref m_akept, .int m_isKept, .ref m_anoticed, .ref m_aneeds, .ref m_aorder, .int m_many, .int m_one, .int m_two])), (m_anow, .inl (G 0, 55, .inl m_now)), (m_anoticed, .inl (G 0, 256, .inl m_noticed_2)), (m_aneeds, .inl (G 0, 256, .inl m_needs))] H := hP
    replace hD : va_D A [(m_mo, .inr (8, [.ref m_alane, .ref m_asize, .ref m_aitem, .int m_letters, .ref m_atape, .int m_position, .int m_number, .ref m_anow, .ref m_atried, .ref m_aread, .ref m_akept, .int m_isKept, .ref m_anoticed, .ref m_aneeds, .ref m_aorder, .int m_many, .int m_one, .int m_two])), (m_anow, .inl (G 0, 55, .inl m_now)), (m_anoticed, .inl (G 0, 256, .inl m_noticed_2)), (m_aneeds, .inl (G 0, 256, .inl m_needs))] := hD
    refine lv_aload_n hx hb dX8_fewest_15 rfl (lv_at hl 0 rfl) ?_
    refine x_cMv (wr := []) (va_runV (As := []) (rest := []) ⟨hx, hb, hml, hown, hts⟩ (c_X8_layNeeds l D G _ m_mo m_alane m_asize m_aitem m_atape m_anow m_atried m_aread m_akept m_anoticed m_aneeds m_aorder m_letters m_position m_number m_isKept m_many m_one m_two m_now m_noticed_2 m_needs _ hw) (cwV 0 hts gX8_fewest_X8_layNeeds rfl rfl rfl (by decide +kernel) ⟨(Nat.le_of_ble_eq_true rfl), (Nat.le_of_ble_eq_true rfl)⟩) (xM_pv (hP.sub [0, 1, 2, 3] rfl) hK (hD.sub [0, 1, 2, 3] (by decide) rfl) (va_recv hK hP (ci := 8) (q0 := 0) rfl rfl)) rfl rfl hl.1 rfl (lv_room (Nat.le_of_ble_eq_true rfl)) dX8_fewest_16 ⟨Nat.zero_le _, Nat.zero_le _⟩) hP hD hS hA [0, 1, 2, 3] [] rfl rfl (by decide) (by decide) [0, 1, 2, 3] (fun u => [(m_mo, .inr (8, [.ref m_alane, .ref m_asize, .ref m_aitem, .int m_letters, .ref m_atape, .int m_position, .int m_number, .ref m_anow, .ref m_atried, .ref m_aread, .ref m_akept, .int m_isKept, .ref m_anoticed, .ref m_aneeds, .ref m_aorder, .int m_many, .int m_one, .int m_two])), (m_anow, .inl (G 0, 55, .inl m_now)), (m_anoticed, .inl (G 0, 256, .inl m_noticed_2)), (m_aneeds, .inl (G 0, 256, .inl u))]) (by decide) (fun u => rfl) (fun u H locs hw hP hD hS => ?_)
    obtain ⟨m_needs_3, rfl⟩ : ∃ z, z = u := ⟨_, rfl⟩
    try dsimp only at hw
    replace hP : va_P D vwCl [(m_mo, .inr (8, [.ref m_alane, .ref m_asize, .ref m_aitem, .int m_letters, .ref m_atape, .int m_position, .int m_number, .ref m_anow, .ref m_atried, .ref m_aread, .ref m_akept, .int m_isKept, .ref m_anoticed, .ref m_aneeds, .ref m_aorder, .int m_many, .int m_one, .int m_two])), (m_anow, .inl (G 0, 55, .inl m_now)), (m_anoticed, .inl (G 0, 256, .inl m_noticed_2)), (m_aneeds, .inl (G 0, 256, .inl m_needs_3))] H := hP
    replace hD : va_D A [(m_mo, .inr (8, [.ref m_alane, .ref m_asize, .ref m_aitem, .int m_letters, .ref m_atape, .int m_position, .int m_number, .ref m_anow, .ref m_atried, .ref m_aread, .ref m_akept, .int m_isKept, .ref m_anoticed, .ref m_aneeds, .ref m_aorder, .int m_many, .int m_one, .int m_two])), (m_anow, .inl (G 0, 55, .inl m_now)), (m_anoticed, .inl (G 0, 256, .inl m_noticed_2)), (m_aneeds, .inl (G 0, 256, .inl m_needs_3))] := hD
    refine lv_aload_n hx hb dX8_fewest_19 rfl (lv_at hl 0 rfl) ?_
    refine va_get (D := D) (ci := 8) (v := .ref m_aneeds) (C := RX8) (T := TX8) (N := 18) hx hb hts inX8 hown hK hP 0 rfl rfl 13 (by decide) fl38 (fun _ h9 => h9) rfl dX8_fewest_20 ?_
    refine lv_aload_n hx hb dX8_fewest_23 rfl (lv_at hl 0 rfl) ?_
    refine va_get (D := D) (ci := 8) (v := .ref m_anow) (C := RX8) (T := TX8) (N := 18) hx hb hts inX8 hown hK hP 0 rfl rfl 7 (by decide) fl23 (fun _ h9 => h9) rfl dX8_fewest_24 ?_
    refine lv_iconst (v := 2) hx hb dX8_fewest_27 (by decide) ?_
    refine x_iald (j := 2) hx hb hK hP 1 0 rfl rfl (by decide) (x_in (by decide)) dX8_fewest_28 ?_
    refine x_iald (j := (m_now 2).toNatClampNeg) hx hb hK hP 3 0 rfl rfl rfl hw.1 dX8_fewest_29 ?_
    replace hw := hw.2
    refine lv_bipush (v := 99) hx hb dX8_fewest_30 (by decide) ?_
    refine lv_icmp_lt (tgt := 40) hx hb dX8_fewest_32 (by decide) (fun c9 => ?_) (fun c9 => ?_)
    · replace hw := hw.1 c9
      refine lv_aload_n hx hb dX8_fewest_40 rfl (lv_at hl 0 rfl) ?_
      refine va_get (D := D) (ci := 8) (v := .ref m_aneeds) (C := RX8) (T := TX8) (N := 18) hx hb hts inX8 hown hK hP 0 rfl rfl 13 (by decide) fl38 (fun _ h9 => h9) rfl dX8_fewest_41 ?_
      refine lv_aload_n hx hb dX8_fewest_44 rfl (lv_at hl 0 rfl) ?_
      refine va_get (D := D) (ci := 8) (v := .ref m_anow) (C := RX8) (T := TX8) (N := 18) hx hb hts inX8 hown hK hP 0 rfl rfl 7 (by decide) fl23 (fun _ h9 => h9) rfl dX8_fewest_45 ?_
      refine lv_iconst (v := 2) hx hb dX8_fewest_48 (by decide) ?_
      refine x_iald (j := 2) hx hb hK hP 1 0 rfl rfl (by decide) (x_in (by decide)) dX8_fewest_49 ?_
      refine x_iald (j := (m_now 2).toNatClampNeg) hx hb hK hP 3 0 rfl rfl rfl hw.1 dX8_fewest_50 ?_
      replace hw := hw.2
      exact W.iret hx hb hr (x_mi (u := (m_noticed_2, m_needs_3)) hP hK hD hS hw) hS.2.2 dX8_fewest_51
    · replace hw := hw.2 c9
      refine lv_bipush (v := -4) hx hb dX8_fewest_35 (by decide) ?_
      refine lv_goto (tgt := 51) hx hb dX8_fewest_37 (by decide) ?_
      exact W.iret hx hb hr (x_mi (u := (m_noticed_2, m_needs_3)) hP hK hD hS hw) hS.2.2 dX8_fewest_51
  · replace hw := hw.2 c9
    refine lv_iconst (v := -1) hx hb dX8_fewest_8 (by decide) ?_
    exact W.iret hx hb hr (x_mi (u := (m_noticed, m_needs)) hP hK hD hS hw) hS.2.2 dX8_fewest_9
set_option maxHeartbeats 4000000 in
set_option maxRecDepth 100000 in
theorem c_X8_next (l : Launch) (D : va_G) (G : Nat → ClassId) (sz : Nat) (m_mo : Nat) (m_alane : Nat) (m_asize : Nat) (m_aitem : Nat) (m_atape : Nat) (m_anow : Nat) (m_atried : Nat) (m_aread : Nat) (m_akept : Nat) (m_anoticed : Nat) (m_aneeds : Nat) (m_aorder : Nat) (m_letters : Int32) (m_position : Int32) (m_number : Int32) (m_isKept : Int32) (m_many : Int32) (m_one : Int32) (m_two : Int32) (m_now : Nat → Int32) (m_noticed : Nat → Int32) (m_needs : Nat → Int32) (x1 : Int32) (post : Int32 → (Nat → Int32) → (Nat → Int32) → Prop) (hw : wp_X8_next m_now m_noticed m_needs x1 post) : Met l yX8_next wsX8_next ({ frames := 5, cells := 0, slots := 0, locals := 117 } : Room) (va_Pc [.ref m_mo, .int x1] (xM D G sz [(m_mo, .inr (8, [.ref m_alane, .ref m_asize, .ref m_aitem, .int m_letters, .ref m_atape, .int m_position, .int m_number, .ref m_anow, .ref m_atried, .ref m_aread, .ref m_akept, .int m_isKept, .ref m_anoticed, .ref m_aneeds, .ref m_aorder, .int m_many, .int m_one, .int m_two])), (m_anow, .inl (G 0, 55, .inl m_now)), (m_anoticed, .inl (G 0, 256, .inl m_noticed)), (m_aneeds, .inl (G 0, 256, .inl m_needs))])) (va_Qi (fun r (u : (Nat → Int32) × (Nat → Int32)) => post r u.1 u.2) (fun u t => xE D G (va_A [(m_mo, .inr (8, [.ref m_alane, .ref m_asize, .ref m_aitem, .int m_letters, .ref m_atape, .int m_position, .int m_number, .ref m_anow, .ref m_atried, .ref m_aread, .ref m_akept, .int m_isKept, .ref m_anoticed, .ref m_aneeds, .ref m_aorder, .int m_many, .int m_one, .int m_two])), (m_anow, .inl (G 0, 55, .inl m_now)), (m_anoticed, .inl (G 0, 256, .inl m_noticed)), (m_aneeds, .inl (G 0, 256, .inl m_needs))] sz) [(m_mo, .inr (8, [.ref m_alane, .ref m_asize, .ref m_aitem, .int m_letters, .ref m_atape, .int m_position, .int m_number, .ref m_anow, .ref m_atried, .ref m_aread, .ref m_akept, .int m_isKept, .ref m_anoticed, .ref m_aneeds, .ref m_aorder, .int m_many, .int m_one, .int m_two])), (m_anow, .inl (G 0, 55, .inl m_now)), (m_anoticed, .inl (G 0, 256, .inl (u.1))), (m_aneeds, .inl (G 0, 256, .inl (u.2)))] t) (va_A [(m_mo, .inr (8, [.ref m_alane, .ref m_asize, .ref m_aitem, .int m_letters, .ref m_atape, .int m_position, .int m_number, .ref m_anow, .ref m_atried, .ref m_aread, .ref m_akept, .int m_isKept, .ref m_anoticed, .ref m_aneeds, .ref m_aorder, .int m_many, .int m_one, .int m_two])), (m_anow, .inl (G 0, 55, .inl m_now)), (m_anoticed, .inl (G 0, 256, .inl m_noticed)), (m_aneeds, .inl (G 0, 256, .inl m_needs))] sz)) 0 0 (va_A [(m_mo, .inr (8, [.ref m_alane, .ref m_asize, .ref m_aitem, .int m_letters, .ref m_atape, .int m_position, .int m_number, .ref m_anow, .ref m_atried, .ref m_aread, .ref m_akept, .int m_isKept, .ref m_anoticed, .ref m_aneeds, .ref m_aorder, .int m_many, .int m_one, .int m_two])), (m_anow, .inl (G 0, 55, .inl m_now)), (m_anoticed, .inl (G 0, 256, .inl m_noticed)), (m_aneeds, .inl (G 0, 256, .inl m_needs))] sz) := by
  refine Met.ofW (cc := cX8_next) (maxL := 4) (ret := (some .int)) (by decide) rfl ?_
  intro p e s m args below meth c s₁ B hml hv
  obtain ⟨rfl, hsz, hP, hK, hD0⟩ := hv
  have hx := B.exec
  have hb := B.bytes
  have hr := B.returns
  have hts := atoms_spec (ws := wsX8_next) B.pre
  have hown : s.vm.findClass RX8 = some m.cls := findClass_of_methodNamed B.named
  have hlocks := B.notSynchronized
  subst hsz
  have hD := hD0.self (sz := s.heap.size)
  generalize hAe : va_A [(m_mo, .inr (8, [.ref m_alane, .ref m_asize, .ref m_aitem, .int m_letters, .ref m_atape, .int m_position, .int m_number, .ref m_anow, .ref m_atried, .ref m_aread, .ref m_akept, .int m_isKept, .ref m_anoticed, .ref m_aneeds, .ref m_aorder, .int m_many, .int m_one, .int m_two])), (m_anow, .inl (G 0, 55, .inl m_now)), (m_anoticed, .inl (G 0, 256, .inl m_noticed)), (m_aneeds, .inl (G 0, 256, .inl m_needs))] s.heap.size = A at hD ⊢
  have hA : ∀ q : Nat, s.heap.size ≤ q → A q := fun q h => by rw [← hAe]; exact Or.inr h
  have hS : va_S A s.heap s.heap [] := va_S.rf
  have inX8 : ∀ w ∈ wsX80, w ∈ wsX8_next := by decide +kernel
  have fl38 := hts (.fieldLink RX8 38 "NewsCowModel" "needs" "[I") (by decide +kernel)
  have fl23 := hts (.fieldLink RX8 23 "NewsCowModel" "now" "[I") (by decide +kernel)
  have hl := lv_entry ([.ref m_mo, .int x1] : List Value) (n := 4) (Nat.le_of_ble_eq_true rfl)
  rw [lg_entry_eq]
  generalize (lg_sl ([.ref m_mo, .int x1] : List Value) ++ List.replicate (4 - (lg_sl ([.ref m_mo, .int x1] : List Value)).length) Slot.unset).toArray = ls at hl ⊢
  have hl : lv_has ls 4 [(0, .ref m_mo), (1, .int x1)] := hl
  unfold wp_X8_next at hw
  have L33 : ∀ (f33 : Nat) (x2 : Int32) (x3 : Int32) (m_noticed : Nat → Int32) (m_needs : Nat → Int32) (H : Heap) (locs : List Loc) (ls : Array Slot), wp_X8_next_L33 m_now m_noticed m_needs x2 post f33 x3 → va_P D vwCl [(m_mo, .inr (8, [.ref m_alane, .ref m_asize, .ref m_aitem, .int m_letters, .ref m_atape, .int m_position, .int m_number, .ref m_anow, .ref m_atried, .ref m_aread, .ref m_akept, .int m_isKept, .ref m_anoticed, .ref m_aneeds, .ref m_aorder, .int m_many, .int m_one, .int m_two])), (m_anow, .inl (G 0, 55, .inl m_now)), (m_anoticed, .inl (G 0, 256, .inl m_noticed)), (m_aneeds, .inl (G 0, 256, .inl m_needs))] H → va_D A [(m_mo, .inr (8, [.ref m_alane, .ref m_asize, .ref m_aitem, .int m_letters, .ref m_atape, .int m_position, .int m_number, .ref m_anow, .ref m_atried, .ref m_aread, .ref m_akept, .int m_isKept, .ref m_anoticed, .ref m_aneeds, .ref m_aorder, .int m_many, .int m_one, .int m_two])), (m_anow, .inl (G 0, 55, .inl m_now)), (m_anoticed, .inl (G 0, 256, .inl m_noticed)), (m_aneeds, .inl (G 0, 256, .inl m_needs))] → va_S A s.heap H locs → lv_has ls 4 [(0, .ref m_mo), (2, .int x2), (3, .int x3)] → W p l e (headSpec wsX8_next ({ frames := 5, cells := 0, slots := 0, locals := 117 } : Room)).room s m ([.ref m_mo, .int x1] : List Value).toArray below meth c H locs 0 0 (MQ below (va_Qi (fun r (u : (Nat → Int32) × (Nat → Int32)) => post r u.1 u.2) (fun u t => xE D G A [(m_mo, .inr (8, [.ref m_alane, .ref m_asize, .ref m_aitem, .int m_letters, .ref m_atape, .int m_position, .int m_number, .ref m_anow, .ref m_atried, .ref m_aread, .ref m_akept, .int m_isKept, .ref m_anoticed, .ref m_aneeds, .ref m_aorder, .int m_many, .int m_one, .int m_two])), (m_anow, .inl (G 0, 55, .inl m_now)), (m_anoticed, .inl (G 0, 256, .inl (u.1))), (m_aneeds, .inl (G 0, 256, .inl (u.2)))] t) A) ([.ref m_mo, .int x1] : List Value).toArray s 0 0 A) (F0 m 33 ls []) := by
    intro f33
    induction f33 with
    | zero => intro x2 x3 m_noticed m_needs H locs ls hw hP hD hS hl; exact (hw : False).elim
    | succ f33 ih33 =>
      intro x2 x3 m_noticed m_needs H locs ls hw hP hD hS hl
      unfold wp_X8_next_L33 at hw
      refine lv_iload_n hx hb dX8_next_33 rfl (lv_at hl 2 rfl) ?_
      refine lv_aload_n hx hb dX8_next_34 rfl (lv_at hl 0 rfl) ?_
      refine va_get (D := D) (ci := 8) (v := .ref m_anow) (C := RX8) (T := TX8) (N := 18) hx hb hts inX8 hown hK hP 0 rfl rfl 7 (by decide) fl23 (fun _ h9 => h9) rfl dX8_next_35 ?_
      refine vp_callSi (W.runS (As := [.ref m_anow]) (rest := [.int x3]) ⟨hx, hb, hml, hown, hts⟩ (c_X8_allOf l D G m_anow m_now _ hw) (va_cwS 1 hts gX8_next_X8_allOf rfl rfl rfl (by decide +kernel) ⟨(Nat.le_of_ble_eq_true rfl), (Nat.le_of_ble_eq_true rfl)⟩) (xR_ps (hP.sub [1] rfl) hK) rfl rfl hl.1 rfl (lv_room (Nat.le_of_ble_eq_true rfl)) dX8_next_38 ⟨Nat.zero_le _, Nat.zero_le _⟩) (fun r4 hw => ?_)
      refine lv_icmp_gt (tgt := 77) hx hb dX8_next_41 (by decide) (fun c9 => ?_) (fun c9 => ?_)
      · replace hw := hw.1 c9
        refine lv_bipush (v := -4) hx hb dX8_next_77 (by decide) ?_
        exact W.iret hx hb hr (x_mi (u := (m_noticed, m_needs)) hP hK hD hS hw) hS.2.2 dX8_next_79
      · replace hw := hw.2 c9
        refine lv_iload_n hx hb dX8_next_44 rfl (lv_at hl 1 rfl) ?_
        refine lv_if_le (tgt := 77) hx hb dX8_next_45 (by decide) (fun c9 => ?_) (fun c9 => ?_)
        · replace hw := hw.1 c9
          refine lv_bipush (v := -4) hx hb dX8_next_77 (by decide) ?_
          exact W.iret hx hb hr (x_mi (u := (m_noticed, m_needs)) hP hK hD hS hw) hS.2.2 dX8_next_79
        · replace hw := hw.2 c9
          refine lv_iload_n hx hb dX8_next_48 rfl (lv_at hl 1 rfl) ?_
          refine lv_bipush (v := 99) hx hb dX8_next_49 (by decide) ?_
          refine lv_icmp_ge (tgt := 77) hx hb dX8_next_51 (by decide) (fun c9 => ?_) (fun c9 => ?_)
          · replace hw := hw.1 c9
            refine lv_bipush (v := -4) hx hb dX8_next_77 (by decide) ?_
            exact W.iret hx hb hr (x_mi (u := (m_noticed, m_needs)) hP hK hD hS hw) hS.2.2 dX8_next_79
          · replace hw := hw.2 c9
            refine lv_aload_n hx hb dX8_next_54 rfl (lv_at hl 0 rfl) ?_
            refine lv_aload_n hx hb dX8_next_55 rfl (lv_at hl 0 rfl) ?_
            refine va_get (D := D) (ci := 8) (v := .ref m_anow) (C := RX8) (T := TX8) (N := 18) hx hb hts inX8 hown hK hP 0 rfl rfl 7 (by decide) fl23 (fun _ h9 => h9) rfl dX8_next_56 ?_
            refine lv_iconst (v := 2) hx hb dX8_next_59 (by decide) ?_
            refine x_iald (j := 2) hx hb hK hP 1 0 rfl rfl (by decide) (x_in (by decide)) dX8_next_60 ?_
            refine lv_iload_n hx hb dX8_next_61 rfl (lv_at hl 2 rfl) ?_
            refine vp_callSi (W.runV (As := [.int (m_now 2), .int x3]) (rest := []) ⟨hx, hb, hml, hown, hts⟩ (c_X8_needBy l D G m_mo m_alane m_asize m_aitem m_atape m_anow m_atried m_aread m_akept m_anoticed m_aneeds m_aorder m_letters m_position m_number m_isKept m_many m_one m_two m_noticed m_needs (m_now 2) x3 _ hw) (cwV 2 hts gX8_next_X8_needBy rfl rfl rfl (by decide +kernel) ⟨(Nat.le_of_ble_eq_true rfl), (Nat.le_of_ble_eq_true rfl)⟩) (xR_pv (hP.sub [0, 2, 3] rfl) hK (va_recv hK hP (ci := 8) (q0 := 0) rfl rfl)) rfl rfl hl.1 rfl (lv_room (Nat.le_of_ble_eq_true rfl)) dX8_next_62 ⟨Nat.zero_le _, Nat.zero_le _⟩) (fun r5 hw => ?_)
            refine lv_iload_n hx hb dX8_next_65 rfl (lv_at hl 1 rfl) ?_
            refine lv_icmp_ne (tgt := 71) hx hb dX8_next_66 (by decide) (fun c9 => ?_) (fun c9 => ?_)
            · replace hw := hw.1 c9
              refine lv_iinc (v := (x3 + 1)) (lv' := [(3, .int (x3 + 1)), (0, .ref m_mo), (2, .int x2)]) hx hb dX8_next_71 hl (k := 2) rfl (by first | rfl | decide) (by decide) rfl (fun ls hl => ?_)
              refine lv_goto (tgt := 33) hx hb dX8_next_74 (by decide) ?_
              exact ih33 x2 (x3 + 1) m_noticed m_needs _ _ _ hw hP hD hS (lv_sub hl [1, 2, 0] rfl)
            · replace hw := hw.2 c9
              refine lv_iload_n hx hb dX8_next_69 rfl (lv_at hl 2 rfl) ?_
              exact W.iret hx hb hr (x_mi (u := (m_noticed, m_needs)) hP hK hD hS hw) hS.2.2 dX8_next_70
  refine lv_aload_n hx hb dX8_next_0 rfl (lv_at hl 0 rfl) ?_
  refine lv_iload_n hx hb dX8_next_1 rfl (lv_at hl 1 rfl) ?_
  refine vp_callSi (W.runV (As := [.int x1]) (rest := []) ⟨hx, hb, hml, hown, hts⟩ (c_X8_isTaster l D G m_mo m_alane m_asize m_aitem m_atape m_anow m_atried m_aread m_akept m_anoticed m_aneeds m_aorder m_letters m_position m_number m_isKept m_many m_one m_two m_now x1 _ hw) (cwV 1 hts gX8_next_X8_isTaster rfl rfl rfl (by decide +kernel) ⟨(Nat.le_of_ble_eq_true rfl), (Nat.le_of_ble_eq_true rfl)⟩) (xR_pv (hP.sub [0, 1] rfl) hK (va_recv hK hP (ci := 8) (q0 := 0) rfl rfl)) rfl rfl hl.1 rfl (lv_room (Nat.le_of_ble_eq_true rfl)) dX8_next_2 ⟨Nat.zero_le _, Nat.zero_le _⟩) (fun r1 hw => ?_)
  refine lv_if_ne (tgt := 10) hx hb dX8_next_5 (by decide) (fun c9 => ?_) (fun c9 => ?_)
  · replace hw := hw.1 c9
    refine lv_aload_n hx hb dX8_next_10 rfl (lv_at hl 0 rfl) ?_
    refine lv_iload_n hx hb dX8_next_11 rfl (lv_at hl 1 rfl) ?_
    refine x_cMv (wr := [(m_aneeds, .inl (G 0, 256, .inl m_needs))]) (va_runV (As := [.int x1]) (rest := []) ⟨hx, hb, hml, hown, hts⟩ (c_X8_layNoticed l D G _ m_mo m_alane m_asize m_aitem m_atape m_anow m_atried m_aread m_akept m_anoticed m_aneeds m_aorder m_letters m_position m_number m_isKept m_many m_one m_two m_now m_noticed x1 _ hw) (cwV 1 hts gX8_next_X8_layNoticed rfl rfl rfl (by decide +kernel) ⟨(Nat.le_of_ble_eq_true rfl), (Nat.le_of_ble_eq_true rfl)⟩) (xM_pv (hP.sub [0, 1, 2] rfl) hK (hD.sub [0, 1, 2] (by decide) rfl) (va_recv hK hP (ci := 8) (q0 := 0) rfl rfl)) rfl rfl hl.1 rfl (lv_room (Nat.le_of_ble_eq_true rfl)) dX8_next_12 ⟨Nat.zero_le _, Nat.zero_le _⟩) hP hD hS hA [0, 1, 2] [3] rfl rfl (by decide) (by decide) [1, 2, 3, 0] (fun u => [(m_mo, .inr (8, [.ref m_alane, .ref m_asize, .ref m_aitem, .int m_letters, .ref m_atape, .int m_position, .int m_number, .ref m_anow, .ref m_atried, .ref m_aread, .ref m_akept, .int m_isKept, .ref m_anoticed, .ref m_aneeds, .ref m_aorder, .int m_many, .int m_one, .int m_two])), (m_anow, .inl (G 0, 55, .inl m_now)), (m_anoticed, .inl (G 0, 256, .inl u)), (m_aneeds, .inl (G 0, 256, .inl m_needs))]) (by decide) (fun u => rfl) (fun u H locs hw hP hD hS => ?_)
    obtain ⟨m_noticed_2, rfl⟩ : ∃ z, z = u := ⟨_, rfl⟩
    try dsimp only at hw
    replace hP : va_P D vwCl [(m_mo, .inr (8, [.ref m_alane, .ref m_asize, .ref m_aitem, .int m_letters, .ref m_atape, .int m_position, .int m_number, .ref m_anow, .ref m_atried, .ref m_aread, .ref m_akept, .int m_isKept, .ref m_anoticed, .ref m_aneeds, .ref m_aorder, .int m_many, .int m_one, .int m_two])), (m_anow, .inl (G 0, 55, .inl m_now)), (m_anoticed, .inl (G 0, 256, .inl m_noticed_2)), (m_aneeds, .inl (G 0, 256, .inl m_needs))] H := hP
    replace hD : va_D A [(m_mo, .inr (8, [.ref m_alane, .ref m_asize, .ref m_aitem, .int m_letters, .ref m_atape, .int m_position, .int m_number, .ref m_anow, .ref m_atried, .ref m_aread, .ref m_akept, .int m_isKept, .ref m_anoticed, .ref m_aneeds, .ref m_aorder, .int m_many, .int m_one, .int m_two])), (m_anow, .inl (G 0, 55, .inl m_now)), (m_anoticed, .inl (G 0, 256, .inl m_noticed_2)), (m_aneeds, .inl (G 0, 256, .inl m_needs))] := hD
    refine lv_aload_n hx hb dX8_next_15 rfl (lv_at hl 0 rfl) ?_
    refine x_cMv (wr := []) (va_runV (As := []) (rest := []) ⟨hx, hb, hml, hown, hts⟩ (c_X8_layNeeds l D G _ m_mo m_alane m_asize m_aitem m_atape m_anow m_atried m_aread m_akept m_anoticed m_aneeds m_aorder m_letters m_position m_number m_isKept m_many m_one m_two m_now m_noticed_2 m_needs _ hw) (cwV 0 hts gX8_next_X8_layNeeds rfl rfl rfl (by decide +kernel) ⟨(Nat.le_of_ble_eq_true rfl), (Nat.le_of_ble_eq_true rfl)⟩) (xM_pv (hP.sub [0, 1, 2, 3] rfl) hK (hD.sub [0, 1, 2, 3] (by decide) rfl) (va_recv hK hP (ci := 8) (q0 := 0) rfl rfl)) rfl rfl hl.1 rfl (lv_room (Nat.le_of_ble_eq_true rfl)) dX8_next_16 ⟨Nat.zero_le _, Nat.zero_le _⟩) hP hD hS hA [0, 1, 2, 3] [] rfl rfl (by decide) (by decide) [0, 1, 2, 3] (fun u => [(m_mo, .inr (8, [.ref m_alane, .ref m_asize, .ref m_aitem, .int m_letters, .ref m_atape, .int m_position, .int m_number, .ref m_anow, .ref m_atried, .ref m_aread, .ref m_akept, .int m_isKept, .ref m_anoticed, .ref m_aneeds, .ref m_aorder, .int m_many, .int m_one, .int m_two])), (m_anow, .inl (G 0, 55, .inl m_now)), (m_anoticed, .inl (G 0, 256, .inl m_noticed_2)), (m_aneeds, .inl (G 0, 256, .inl u))]) (by decide) (fun u => rfl) (fun u H locs hw hP hD hS => ?_)
    obtain ⟨m_needs_3, rfl⟩ : ∃ z, z = u := ⟨_, rfl⟩
    try dsimp only at hw
    replace hP : va_P D vwCl [(m_mo, .inr (8, [.ref m_alane, .ref m_asize, .ref m_aitem, .int m_letters, .ref m_atape, .int m_position, .int m_number, .ref m_anow, .ref m_atried, .ref m_aread, .ref m_akept, .int m_isKept, .ref m_anoticed, .ref m_aneeds, .ref m_aorder, .int m_many, .int m_one, .int m_two])), (m_anow, .inl (G 0, 55, .inl m_now)), (m_anoticed, .inl (G 0, 256, .inl m_noticed_2)), (m_aneeds, .inl (G 0, 256, .inl m_needs_3))] H := hP
    replace hD : va_D A [(m_mo, .inr (8, [.ref m_alane, .ref m_asize, .ref m_aitem, .int m_letters, .ref m_atape, .int m_position, .int m_number, .ref m_anow, .ref m_atried, .ref m_aread, .ref m_akept, .int m_isKept, .ref m_anoticed, .ref m_aneeds, .ref m_aorder, .int m_many, .int m_one, .int m_two])), (m_anow, .inl (G 0, 55, .inl m_now)), (m_anoticed, .inl (G 0, 256, .inl m_noticed_2)), (m_aneeds, .inl (G 0, 256, .inl m_needs_3))] := hD
    refine lv_aload_n hx hb dX8_next_19 rfl (lv_at hl 0 rfl) ?_
    refine va_get (D := D) (ci := 8) (v := .ref m_aneeds) (C := RX8) (T := TX8) (N := 18) hx hb hts inX8 hown hK hP 0 rfl rfl 13 (by decide) fl38 (fun _ h9 => h9) rfl dX8_next_20 ?_
    refine lv_aload_n hx hb dX8_next_23 rfl (lv_at hl 0 rfl) ?_
    refine va_get (D := D) (ci := 8) (v := .ref m_anow) (C := RX8) (T := TX8) (N := 18) hx hb hts inX8 hown hK hP 0 rfl rfl 7 (by decide) fl23 (fun _ h9 => h9) rfl dX8_next_24 ?_
    refine lv_iconst (v := 2) hx hb dX8_next_27 (by decide) ?_
    refine x_iald (j := 2) hx hb hK hP 1 0 rfl rfl (by decide) (x_in (by decide)) dX8_next_28 ?_
    refine x_iald (j := (m_now 2).toNatClampNeg) hx hb hK hP 3 0 rfl rfl rfl hw.1 dX8_next_29 ?_
    replace hw := hw.2
    refine lv_istore_n (lv' := [(2, .int (m_needs_3 (m_now 2).toNatClampNeg)), (0, .ref m_mo), (1, .int x1)]) hx hb dX8_next_30 rfl hl (by decide) rfl (fun ls hl => ?_)
    refine lv_iconst (v := 1) hx hb dX8_next_31 (by decide) ?_
    refine lv_istore_n (lv' := [(3, .int (1 : Int32)), (2, .int (m_needs_3 (m_now 2).toNatClampNeg)), (0, .ref m_mo), (1, .int x1)]) hx hb dX8_next_32 rfl hl (by decide) rfl (fun ls hl => ?_)
    obtain ⟨n, hw⟩ := hw
    exact L33 n (m_needs_3 (m_now 2).toNatClampNeg) (1 : Int32) m_noticed_2 m_needs_3 _ _ _ hw hP hD hS (lv_sub hl [2, 1, 0] rfl)
  · replace hw := hw.2 c9
    refine lv_iconst (v := -1) hx hb dX8_next_8 (by decide) ?_
    exact W.iret hx hb hr (x_mi (u := (m_noticed, m_needs)) hP hK hD hS hw) hS.2.2 dX8_next_9
set_option maxHeartbeats 4000000 in
set_option maxRecDepth 100000 in
theorem c_X8_isKnown (l : Launch) (D : va_G) (G : Nat → ClassId) (m_mo : Nat) (m_alane : Nat) (m_asize : Nat) (m_aitem : Nat) (m_atape : Nat) (m_anow : Nat) (m_atried : Nat) (m_aread : Nat) (m_akept : Nat) (m_anoticed : Nat) (m_aneeds : Nat) (m_aorder : Nat) (m_letters : Int32) (m_position : Int32) (m_number : Int32) (m_isKept : Int32) (m_many : Int32) (m_one : Int32) (m_two : Int32) (m_now : Nat → Int32) (m_noticed : Nat → Int32) (x1 : Int32) (x2 : Int32) (post : Int32 → Prop) (hw : wp_X8_isKnown m_now m_noticed x1 x2 post) : Met l yX8_isKnown wsX8_isKnown ({ frames := 1, cells := 0, slots := 0, locals := 22 } : Room) (va_Pc [.ref m_mo, .int x1, .int x2] (xR D G [(m_mo, .inr (8, [.ref m_alane, .ref m_asize, .ref m_aitem, .int m_letters, .ref m_atape, .int m_position, .int m_number, .ref m_anow, .ref m_atried, .ref m_aread, .ref m_akept, .int m_isKept, .ref m_anoticed, .ref m_aneeds, .ref m_aorder, .int m_many, .int m_one, .int m_two])), (m_anow, .inl (G 0, 55, .inl m_now)), (m_anoticed, .inl (G 0, 256, .inl m_noticed))])) (vp_Si post) 0 0 (fun _ => False) := by
  refine Met.ofW (cc := cX8_isKnown) (maxL := 6) (ret := (some .boolean)) (by decide) rfl ?_
  intro p e s m args below meth c s₁ B hml hv
  obtain ⟨rfl, hP, hK⟩ := hv
  have hx := B.exec
  have hb := B.bytes
  have hr := B.returns
  have hts := atoms_spec (ws := wsX8_isKnown) B.pre
  have hown : s.vm.findClass RX8 = some m.cls := findClass_of_methodNamed B.named
  have hlocks := B.notSynchronized
  have inX8 : ∀ w ∈ wsX80, w ∈ wsX8_isKnown := by decide +kernel
  have fl23 := hts (.fieldLink RX8 23 "NewsCowModel" "now" "[I") (by decide +kernel)
  have fl35 := hts (.fieldLink RX8 35 "NewsCowModel" "noticed" "[I") (by decide +kernel)
  have hl := lv_entry ([.ref m_mo, .int x1, .int x2] : List Value) (n := 6) (Nat.le_of_ble_eq_true rfl)
  rw [lg_entry_eq]
  generalize (lg_sl ([.ref m_mo, .int x1, .int x2] : List Value) ++ List.replicate (6 - (lg_sl ([.ref m_mo, .int x1, .int x2] : List Value)).length) Slot.unset).toArray = ls at hl ⊢
  have hl : lv_has ls 6 [(0, .ref m_mo), (1, .int x1), (2, .int x2)] := hl
  unfold wp_X8_isKnown at hw
  have J37 : ∀ (x3 : Int32) (x4 : Int32) (k0 : Int32) (ls : Array Slot), wp_X8_isKnown_J37 x3 x4 k0 post → lv_has ls 6 [(3, .int x3), (4, .int x4)] → W p l e (headSpec wsX8_isKnown ({ frames := 1, cells := 0, slots := 0, locals := 22 } : Room)).room s m ([.ref m_mo, .int x1, .int x2] : List Value).toArray below meth c s.heap [] 0 0 (MQ below (vp_Si post) ([.ref m_mo, .int x1, .int x2] : List Value).toArray s 0 0 (fun _ => False)) (F0 m 37 ls [.int k0]) := by
    intro x3 x4 k0 ls hw hl
    unfold wp_X8_isKnown_J37 at hw
    refine lv_istore (lv' := [(5, .int k0), (3, .int x3), (4, .int x4)]) hx hb dX8_isKnown_37 hl (by decide) rfl (fun ls hl => ?_)
    refine lv_iload_n hx hb dX8_isKnown_39 rfl (lv_at hl 1 rfl) ?_
    refine lv_iload hx hb dX8_isKnown_40 (lv_at hl 2 rfl) ?_
    refine lv_iand hx hb dX8_isKnown_42 ?_
    refine lv_iload hx hb dX8_isKnown_43 (lv_at hl 0 rfl) ?_
    refine lv_iand hx hb dX8_isKnown_45 ?_
    refine vp_callSi (W.runS (As := [.int ((x3 &&& x4) &&& k0)]) (rest := []) ⟨hx, hb, hml, hown, hts⟩ (c_X8_bits l D G ((x3 &&& x4) &&& k0) _ hw) (va_cwS 1 hts gX8_isKnown_X8_bits rfl rfl rfl (by decide +kernel) ⟨(Nat.le_of_ble_eq_true rfl), (Nat.le_of_ble_eq_true rfl)⟩) (xR_ps (hP.sub [] rfl) hK) rfl rfl hl.1 rfl (lv_room (Nat.le_of_ble_eq_true rfl)) dX8_isKnown_46 ⟨Nat.zero_le _, Nat.zero_le _⟩) (fun r1 hw => ?_)
    refine lv_iconst (v := 2) hx hb dX8_isKnown_49 (by decide) ?_
    refine lv_icmp_ge (tgt := 107) hx hb dX8_isKnown_50 (by decide) (fun c9 => ?_) (fun c9 => ?_)
    · replace hw := hw.1 c9
      refine lv_iconst (v := 0) hx hb dX8_isKnown_107 (by decide) ?_
      exact W.zret hx hb hr rfl (fun t ht _ => ⟨_, rfl, hw, ht⟩) (fun _ h => absurd h List.not_mem_nil) dX8_isKnown_108
    · replace hw := hw.2 c9
      refine lv_iload_n hx hb dX8_isKnown_53 rfl (lv_at hl 1 rfl) ?_
      refine lv_iload hx hb dX8_isKnown_54 (lv_at hl 2 rfl) ?_
      refine lv_iand hx hb dX8_isKnown_56 ?_
      refine lv_iload hx hb dX8_isKnown_57 (lv_at hl 0 rfl) ?_
      refine lv_iconst (v := -1) hx hb dX8_isKnown_59 (by decide) ?_
      refine lv_ixor hx hb dX8_isKnown_60 ?_
      refine lv_iand hx hb dX8_isKnown_61 ?_
      refine vp_callSi (W.runS (As := [.int ((x3 &&& x4) &&& (k0 ^^^ (-1 : Int32)))]) (rest := []) ⟨hx, hb, hml, hown, hts⟩ (c_X8_bits l D G ((x3 &&& x4) &&& (k0 ^^^ (-1 : Int32))) _ hw) (va_cwS 1 hts gX8_isKnown_X8_bits rfl rfl rfl (by decide +kernel) ⟨(Nat.le_of_ble_eq_true rfl), (Nat.le_of_ble_eq_true rfl)⟩) (xR_ps (hP.sub [] rfl) hK) rfl rfl hl.1 rfl (lv_room (Nat.le_of_ble_eq_true rfl)) dX8_isKnown_62 ⟨Nat.zero_le _, Nat.zero_le _⟩) (fun r2 hw => ?_)
      refine lv_iconst (v := 2) hx hb dX8_isKnown_65 (by decide) ?_
      refine lv_icmp_ge (tgt := 107) hx hb dX8_isKnown_66 (by decide) (fun c9 => ?_) (fun c9 => ?_)
      · replace hw := hw.1 c9
        refine lv_iconst (v := 0) hx hb dX8_isKnown_107 (by decide) ?_
        exact W.zret hx hb hr rfl (fun t ht _ => ⟨_, rfl, hw, ht⟩) (fun _ h => absurd h List.not_mem_nil) dX8_isKnown_108
      · replace hw := hw.2 c9
        refine lv_iload_n hx hb dX8_isKnown_69 rfl (lv_at hl 1 rfl) ?_
        refine lv_iload hx hb dX8_isKnown_70 (lv_at hl 2 rfl) ?_
        refine lv_iconst (v := -1) hx hb dX8_isKnown_72 (by decide) ?_
        refine lv_ixor hx hb dX8_isKnown_73 ?_
        refine lv_iand hx hb dX8_isKnown_74 ?_
        refine lv_iload hx hb dX8_isKnown_75 (lv_at hl 0 rfl) ?_
        refine lv_iand hx hb dX8_isKnown_77 ?_
        refine vp_callSi (W.runS (As := [.int ((x3 &&& (x4 ^^^ (-1 : Int32))) &&& k0)]) (rest := []) ⟨hx, hb, hml, hown, hts⟩ (c_X8_bits l D G ((x3 &&& (x4 ^^^ (-1 : Int32))) &&& k0) _ hw) (va_cwS 1 hts gX8_isKnown_X8_bits rfl rfl rfl (by decide +kernel) ⟨(Nat.le_of_ble_eq_true rfl), (Nat.le_of_ble_eq_true rfl)⟩) (xR_ps (hP.sub [] rfl) hK) rfl rfl hl.1 rfl (lv_room (Nat.le_of_ble_eq_true rfl)) dX8_isKnown_78 ⟨Nat.zero_le _, Nat.zero_le _⟩) (fun r3 hw => ?_)
        refine lv_iconst (v := 2) hx hb dX8_isKnown_81 (by decide) ?_
        refine lv_icmp_ge (tgt := 107) hx hb dX8_isKnown_82 (by decide) (fun c9 => ?_) (fun c9 => ?_)
        · replace hw := hw.1 c9
          refine lv_iconst (v := 0) hx hb dX8_isKnown_107 (by decide) ?_
          exact W.zret hx hb hr rfl (fun t ht _ => ⟨_, rfl, hw, ht⟩) (fun _ h => absurd h List.not_mem_nil) dX8_isKnown_108
        · replace hw := hw.2 c9
          refine lv_iload_n hx hb dX8_isKnown_85 rfl (lv_at hl 1 rfl) ?_
          refine lv_iload hx hb dX8_isKnown_86 (lv_at hl 2 rfl) ?_
          refine lv_iconst (v := -1) hx hb dX8_isKnown_88 (by decide) ?_
          refine lv_ixor hx hb dX8_isKnown_89 ?_
          refine lv_iand hx hb dX8_isKnown_90 ?_
          refine lv_iload hx hb dX8_isKnown_91 (lv_at hl 0 rfl) ?_
          refine lv_iconst (v := -1) hx hb dX8_isKnown_93 (by decide) ?_
          refine lv_ixor hx hb dX8_isKnown_94 ?_
          refine lv_iand hx hb dX8_isKnown_95 ?_
          refine vp_callSi (W.runS (As := [.int ((x3 &&& (x4 ^^^ (-1 : Int32))) &&& (k0 ^^^ (-1 : Int32)))]) (rest := []) ⟨hx, hb, hml, hown, hts⟩ (c_X8_bits l D G ((x3 &&& (x4 ^^^ (-1 : Int32))) &&& (k0 ^^^ (-1 : Int32))) _ hw) (va_cwS 1 hts gX8_isKnown_X8_bits rfl rfl rfl (by decide +kernel) ⟨(Nat.le_of_ble_eq_true rfl), (Nat.le_of_ble_eq_true rfl)⟩) (xR_ps (hP.sub [] rfl) hK) rfl rfl hl.1 rfl (lv_room (Nat.le_of_ble_eq_true rfl)) dX8_isKnown_96 ⟨Nat.zero_le _, Nat.zero_le _⟩) (fun r4 hw => ?_)
          refine lv_iconst (v := 2) hx hb dX8_isKnown_99 (by decide) ?_
          refine lv_icmp_ge (tgt := 107) hx hb dX8_isKnown_100 (by decide) (fun c9 => ?_) (fun c9 => ?_)
          · replace hw := hw.1 c9
            refine lv_iconst (v := 0) hx hb dX8_isKnown_107 (by decide) ?_
            exact W.zret hx hb hr rfl (fun t ht _ => ⟨_, rfl, hw, ht⟩) (fun _ h => absurd h List.not_mem_nil) dX8_isKnown_108
          · replace hw := hw.2 c9
            refine lv_iconst (v := 1) hx hb dX8_isKnown_103 (by decide) ?_
            refine lv_goto (tgt := 108) hx hb dX8_isKnown_104 (by decide) ?_
            exact W.zret hx hb hr rfl (fun t ht _ => ⟨_, rfl, hw, ht⟩) (fun _ h => absurd h List.not_mem_nil) dX8_isKnown_108
  have J21 : ∀ (x3 : Int32) (k0 : Int32) (ls : Array Slot), wp_X8_isKnown_J21 m_noticed x2 x3 k0 post → lv_has ls 6 [(0, .ref m_mo), (2, .int x2), (3, .int x3)] → W p l e (headSpec wsX8_isKnown ({ frames := 1, cells := 0, slots := 0, locals := 22 } : Room)).room s m ([.ref m_mo, .int x1, .int x2] : List Value).toArray below meth c s.heap [] 0 0 (MQ below (vp_Si post) ([.ref m_mo, .int x1, .int x2] : List Value).toArray s 0 0 (fun _ => False)) (F0 m 21 ls [.int k0]) := by
    intro x3 k0 ls hw hl
    unfold wp_X8_isKnown_J21 at hw
    refine lv_istore (lv' := [(4, .int k0), (0, .ref m_mo), (2, .int x2), (3, .int x3)]) hx hb dX8_isKnown_21 hl (by decide) rfl (fun ls hl => ?_)
    refine lv_iload_n hx hb dX8_isKnown_23 rfl (lv_at hl 2 rfl) ?_
    refine lv_if_ne (tgt := 31) hx hb dX8_isKnown_24 (by decide) (fun c9 => ?_) (fun c9 => ?_)
    · replace hw := hw.1 c9
      refine lv_aload_n hx hb dX8_isKnown_31 rfl (lv_at hl 1 rfl) ?_
      refine va_get (D := D) (ci := 8) (v := .ref m_anoticed) (C := RX8) (T := TX8) (N := 18) hx hb hts inX8 hown hK hP 0 rfl rfl 12 (by decide) fl35 (fun _ h9 => h9) rfl dX8_isKnown_32 ?_
      refine lv_iload_n hx hb dX8_isKnown_35 rfl (lv_at hl 2 rfl) ?_
      refine x_iald (j := x2.toNatClampNeg) hx hb hK hP 2 0 rfl rfl rfl hw.1 dX8_isKnown_36 ?_
      replace hw := hw.2
      exact J37 x3 k0 (m_noticed x2.toNatClampNeg) _ hw (lv_sub hl [3, 0] rfl)
    · replace hw := hw.2 c9
      refine lv_iconst (v := 0) hx hb dX8_isKnown_27 (by decide) ?_
      refine lv_goto (tgt := 37) hx hb dX8_isKnown_28 (by decide) ?_
      exact J37 x3 k0 (0 : Int32) _ hw (lv_sub hl [3, 0] rfl)
  refine lv_aload_n hx hb dX8_isKnown_0 rfl (lv_at hl 0 rfl) ?_
  refine va_get (D := D) (ci := 8) (v := .ref m_anow) (C := RX8) (T := TX8) (N := 18) hx hb hts inX8 hown hK hP 0 rfl rfl 7 (by decide) fl23 (fun _ h9 => h9) rfl dX8_isKnown_1 ?_
  refine lv_iconst (v := 2) hx hb dX8_isKnown_4 (by decide) ?_
  refine x_iald (j := 2) hx hb hK hP 1 0 rfl rfl (by decide) (x_in (by decide)) dX8_isKnown_5 ?_
  refine lv_istore_n (lv' := [(3, .int (m_now 2)), (0, .ref m_mo), (1, .int x1), (2, .int x2)]) hx hb dX8_isKnown_6 rfl hl (by decide) rfl (fun ls hl => ?_)
  refine lv_iload_n hx hb dX8_isKnown_7 rfl (lv_at hl 2 rfl) ?_
  refine lv_if_ne (tgt := 15) hx hb dX8_isKnown_8 (by decide) (fun c9 => ?_) (fun c9 => ?_)
  · replace hw := hw.1 c9
    refine lv_aload_n hx hb dX8_isKnown_15 rfl (lv_at hl 1 rfl) ?_
    refine va_get (D := D) (ci := 8) (v := .ref m_anoticed) (C := RX8) (T := TX8) (N := 18) hx hb hts inX8 hown hK hP 0 rfl rfl 12 (by decide) fl35 (fun _ h9 => h9) rfl dX8_isKnown_16 ?_
    refine lv_iload_n hx hb dX8_isKnown_19 rfl (lv_at hl 2 rfl) ?_
    refine x_iald (j := x1.toNatClampNeg) hx hb hK hP 2 0 rfl rfl rfl hw.1 dX8_isKnown_20 ?_
    replace hw := hw.2
    exact J21 (m_now 2) (m_noticed x1.toNatClampNeg) _ hw (lv_sub hl [1, 3, 0] rfl)
  · replace hw := hw.2 c9
    refine lv_iconst (v := 0) hx hb dX8_isKnown_11 (by decide) ?_
    refine lv_goto (tgt := 21) hx hb dX8_isKnown_12 (by decide) ?_
    exact J21 (m_now 2) (0 : Int32) _ hw (lv_sub hl [1, 3, 0] rfl)
set_option maxHeartbeats 4000000 in
set_option maxRecDepth 100000 in
theorem c_X8_layOnce (l : Launch) (D : va_G) (G : Nat → ClassId) (sz : Nat) (m_mo : Nat) (m_alane : Nat) (m_asize : Nat) (m_aitem : Nat) (m_atape : Nat) (m_anow : Nat) (m_atried : Nat) (m_aread : Nat) (m_akept : Nat) (m_anoticed : Nat) (m_aneeds : Nat) (m_aorder : Nat) (m_letters : Int32) (m_position : Int32) (m_number : Int32) (m_isKept : Int32) (m_many : Int32) (m_one : Int32) (m_two : Int32) (m_now : Nat → Int32) (m_noticed : Nat → Int32) (x1 : Int32) (post : Int32 → Int32 → Int32 → (Nat → Int32) → Prop) (hw : wp_X8_layOnce m_now m_noticed x1 post) : Met l yX8_layOnce wsX8_layOnce ({ frames := 5, cells := 0, slots := 0, locals := 117 } : Room) (va_Pc [.ref m_mo, .int x1] (xM D G sz [(m_mo, .inr (8, [.ref m_alane, .ref m_asize, .ref m_aitem, .int m_letters, .ref m_atape, .int m_position, .int m_number, .ref m_anow, .ref m_atried, .ref m_aread, .ref m_akept, .int m_isKept, .ref m_anoticed, .ref m_aneeds, .ref m_aorder, .int m_many, .int m_one, .int m_two])), (m_anow, .inl (G 0, 55, .inl m_now)), (m_anoticed, .inl (G 0, 256, .inl m_noticed))])) (va_Qv (fun (u : Int32 × Int32 × Int32 × (Nat → Int32)) => post u.1 u.2.1 u.2.2.1 u.2.2.2) (fun u t => xE D G (va_A [(m_mo, .inr (8, [.ref m_alane, .ref m_asize, .ref m_aitem, .int m_letters, .ref m_atape, .int m_position, .int m_number, .ref m_anow, .ref m_atried, .ref m_aread, .ref m_akept, .int m_isKept, .ref m_anoticed, .ref m_aneeds, .ref m_aorder, .int m_many, .int m_one, .int m_two])), (m_anow, .inl (G 0, 55, .inl m_now)), (m_anoticed, .inl (G 0, 256, .inl m_noticed))] sz) [(m_mo, .inr (8, [.ref m_alane, .ref m_asize, .ref m_aitem, .int m_letters, .ref m_atape, .int m_position, .int m_number, .ref m_anow, .ref m_atried, .ref m_aread, .ref m_akept, .int m_isKept, .ref m_anoticed, .ref m_aneeds, .ref m_aorder, .int u.1, .int u.2.1, .int u.2.2.1])), (m_anow, .inl (G 0, 55, .inl m_now)), (m_anoticed, .inl (G 0, 256, .inl (u.2.2.2)))] t) (va_A [(m_mo, .inr (8, [.ref m_alane, .ref m_asize, .ref m_aitem, .int m_letters, .ref m_atape, .int m_position, .int m_number, .ref m_anow, .ref m_atried, .ref m_aread, .ref m_akept, .int m_isKept, .ref m_anoticed, .ref m_aneeds, .ref m_aorder, .int m_many, .int m_one, .int m_two])), (m_anow, .inl (G 0, 55, .inl m_now)), (m_anoticed, .inl (G 0, 256, .inl m_noticed))] sz)) 0 0 (va_A [(m_mo, .inr (8, [.ref m_alane, .ref m_asize, .ref m_aitem, .int m_letters, .ref m_atape, .int m_position, .int m_number, .ref m_anow, .ref m_atried, .ref m_aread, .ref m_akept, .int m_isKept, .ref m_anoticed, .ref m_aneeds, .ref m_aorder, .int m_many, .int m_one, .int m_two])), (m_anow, .inl (G 0, 55, .inl m_now)), (m_anoticed, .inl (G 0, 256, .inl m_noticed))] sz) := by
  refine Met.ofW (cc := cX8_layOnce) (maxL := 4) (ret := none) (by decide) rfl ?_
  intro p e s m args below meth c s₁ B hml hv
  obtain ⟨rfl, hsz, hP, hK, hD0⟩ := hv
  have hx := B.exec
  have hb := B.bytes
  have hr := B.returns
  have hts := atoms_spec (ws := wsX8_layOnce) B.pre
  have hown : s.vm.findClass RX8 = some m.cls := findClass_of_methodNamed B.named
  have hlocks := B.notSynchronized
  subst hsz
  have hD := hD0.self (sz := s.heap.size)
  generalize hAe : va_A [(m_mo, .inr (8, [.ref m_alane, .ref m_asize, .ref m_aitem, .int m_letters, .ref m_atape, .int m_position, .int m_number, .ref m_anow, .ref m_atried, .ref m_aread, .ref m_akept, .int m_isKept, .ref m_anoticed, .ref m_aneeds, .ref m_aorder, .int m_many, .int m_one, .int m_two])), (m_anow, .inl (G 0, 55, .inl m_now)), (m_anoticed, .inl (G 0, 256, .inl m_noticed))] s.heap.size = A at hD ⊢
  have hA : ∀ q : Nat, s.heap.size ≤ q → A q := fun q h => by rw [← hAe]; exact Or.inr h
  have hS : va_S A s.heap s.heap [] := va_S.rf
  have inX8 : ∀ w ∈ wsX80, w ∈ wsX8_layOnce := by decide +kernel
  have fl153 := hts (.fieldLink RX8 153 "NewsCowModel" "many" "I") (by decide +kernel)
  have fl156 := hts (.fieldLink RX8 156 "NewsCowModel" "one" "I") (by decide +kernel)
  have fl159 := hts (.fieldLink RX8 159 "NewsCowModel" "two" "I") (by decide +kernel)
  have fl23 := hts (.fieldLink RX8 23 "NewsCowModel" "now" "[I") (by decide +kernel)
  have hl := lv_entry ([.ref m_mo, .int x1] : List Value) (n := 4) (Nat.le_of_ble_eq_true rfl)
  rw [lg_entry_eq]
  generalize (lg_sl ([.ref m_mo, .int x1] : List Value) ++ List.replicate (4 - (lg_sl ([.ref m_mo, .int x1] : List Value)).length) Slot.unset).toArray = ls at hl ⊢
  have hl : lv_has ls 4 [(0, .ref m_mo), (1, .int x1)] := hl
  unfold wp_X8_layOnce at hw
  have L85 : ∀ (f85 : Nat) (x2 : Int32) (m_many : Int32) (m_one : Int32) (m_two : Int32) (m_noticed : Nat → Int32) (H : Heap) (locs : List Loc) (ls : Array Slot), wp_X8_layOnce_L85 m_now m_noticed post f85 m_many m_one m_two x2 → va_P D vwCl [(m_mo, .inr (8, [.ref m_alane, .ref m_asize, .ref m_aitem, .int m_letters, .ref m_atape, .int m_position, .int m_number, .ref m_anow, .ref m_atried, .ref m_aread, .ref m_akept, .int m_isKept, .ref m_anoticed, .ref m_aneeds, .ref m_aorder, .int m_many, .int m_one, .int m_two])), (m_anow, .inl (G 0, 55, .inl m_now)), (m_anoticed, .inl (G 0, 256, .inl m_noticed))] H → va_D A [(m_mo, .inr (8, [.ref m_alane, .ref m_asize, .ref m_aitem, .int m_letters, .ref m_atape, .int m_position, .int m_number, .ref m_anow, .ref m_atried, .ref m_aread, .ref m_akept, .int m_isKept, .ref m_anoticed, .ref m_aneeds, .ref m_aorder, .int m_many, .int m_one, .int m_two])), (m_anow, .inl (G 0, 55, .inl m_now)), (m_anoticed, .inl (G 0, 256, .inl m_noticed))] → va_S A s.heap H locs → lv_has ls 4 [(0, .ref m_mo), (2, .int x2)] → W p l e (headSpec wsX8_layOnce ({ frames := 5, cells := 0, slots := 0, locals := 117 } : Room)).room s m ([.ref m_mo, .int x1] : List Value).toArray below meth c H locs 0 0 (MQ below (va_Qv (fun (u : Int32 × Int32 × Int32 × (Nat → Int32)) => post u.1 u.2.1 u.2.2.1 u.2.2.2) (fun u t => xE D G A [(m_mo, .inr (8, [.ref m_alane, .ref m_asize, .ref m_aitem, .int m_letters, .ref m_atape, .int m_position, .int m_number, .ref m_anow, .ref m_atried, .ref m_aread, .ref m_akept, .int m_isKept, .ref m_anoticed, .ref m_aneeds, .ref m_aorder, .int u.1, .int u.2.1, .int u.2.2.1])), (m_anow, .inl (G 0, 55, .inl m_now)), (m_anoticed, .inl (G 0, 256, .inl (u.2.2.2)))] t) A) ([.ref m_mo, .int x1] : List Value).toArray s 0 0 A) (F0 m 85 ls []) := by
    intro f85
    induction f85 with
    | zero => intro x2 m_many m_one m_two m_noticed H locs ls hw hP hD hS hl; exact (hw : False).elim
    | succ f85 ih85 =>
      intro x2 m_many m_one m_two m_noticed H locs ls hw hP hD hS hl
      unfold wp_X8_layOnce_L85 at hw
      have L109 : ∀ (f109 : Nat) (x2 : Int32) (x3 : Int32) (m_many : Int32) (m_one : Int32) (m_two : Int32) (m_noticed : Nat → Int32) (H : Heap) (locs : List Loc) (ls : Array Slot), wp_X8_layOnce_L109 m_now m_noticed x2 (wp_X8_layOnce_L85 m_now m_noticed post f85) post f109 m_many m_one m_two x3 → va_P D vwCl [(m_mo, .inr (8, [.ref m_alane, .ref m_asize, .ref m_aitem, .int m_letters, .ref m_atape, .int m_position, .int m_number, .ref m_anow, .ref m_atried, .ref m_aread, .ref m_akept, .int m_isKept, .ref m_anoticed, .ref m_aneeds, .ref m_aorder, .int m_many, .int m_one, .int m_two])), (m_anow, .inl (G 0, 55, .inl m_now)), (m_anoticed, .inl (G 0, 256, .inl m_noticed))] H → va_D A [(m_mo, .inr (8, [.ref m_alane, .ref m_asize, .ref m_aitem, .int m_letters, .ref m_atape, .int m_position, .int m_number, .ref m_anow, .ref m_atried, .ref m_aread, .ref m_akept, .int m_isKept, .ref m_anoticed, .ref m_aneeds, .ref m_aorder, .int m_many, .int m_one, .int m_two])), (m_anow, .inl (G 0, 55, .inl m_now)), (m_anoticed, .inl (G 0, 256, .inl m_noticed))] → va_S A s.heap H locs → lv_has ls 4 [(0, .ref m_mo), (2, .int x2), (3, .int x3)] → W p l e (headSpec wsX8_layOnce ({ frames := 5, cells := 0, slots := 0, locals := 117 } : Room)).room s m ([.ref m_mo, .int x1] : List Value).toArray below meth c H locs 0 0 (MQ below (va_Qv (fun (u : Int32 × Int32 × Int32 × (Nat → Int32)) => post u.1 u.2.1 u.2.2.1 u.2.2.2) (fun u t => xE D G A [(m_mo, .inr (8, [.ref m_alane, .ref m_asize, .ref m_aitem, .int m_letters, .ref m_atape, .int m_position, .int m_number, .ref m_anow, .ref m_atried, .ref m_aread, .ref m_akept, .int m_isKept, .ref m_anoticed, .ref m_aneeds, .ref m_aorder, .int u.1, .int u.2.1, .int u.2.2.1])), (m_anow, .inl (G 0, 55, .inl m_now)), (m_anoticed, .inl (G 0, 256, .inl (u.2.2.2)))] t) A) ([.ref m_mo, .int x1] : List Value).toArray s 0 0 A) (F0 m 109 ls []) := by
        intro f109
        induction f109 with
        | zero => intro x2 x3 m_many m_one m_two m_noticed H locs ls hw hP hD hS hl; exact (hw : False).elim
        | succ f109 ih109 =>
          intro x2 x3 m_many m_one m_two m_noticed H locs ls hw hP hD hS hl
          unfold wp_X8_layOnce_L109 at hw
          refine lv_iload_n hx hb dX8_layOnce_109 rfl (lv_at hl 2 rfl) ?_
          refine lv_aload_n hx hb dX8_layOnce_110 rfl (lv_at hl 0 rfl) ?_
          refine va_get (D := D) (ci := 8) (v := .ref m_anow) (C := RX8) (T := TX8) (N := 18) hx hb hts inX8 hown hK hP 0 rfl rfl 7 (by decide) fl23 (fun _ h9 => h9) rfl dX8_layOnce_111 ?_
          refine vp_callSi (W.runS (As := [.ref m_anow]) (rest := [.int x3]) ⟨hx, hb, hml, hown, hts⟩ (c_X8_allOf l D G m_anow m_now _ hw) (va_cwS 1 hts gX8_layOnce_X8_allOf rfl rfl rfl (by decide +kernel) ⟨(Nat.le_of_ble_eq_true rfl), (Nat.le_of_ble_eq_true rfl)⟩) (xR_ps (hP.sub [1] rfl) hK) rfl rfl hl.1 rfl (lv_room (Nat.le_of_ble_eq_true rfl)) dX8_layOnce_114 ⟨Nat.zero_le _, Nat.zero_le _⟩) (fun r6 hw => ?_)
          refine lv_icmp_gt (tgt := 159) hx hb dX8_layOnce_117 (by decide) (fun c9 => ?_) (fun c9 => ?_)
          · replace hw := hw.1 c9
            refine lv_iinc (v := (x2 + 1)) (lv' := [(2, .int (x2 + 1)), (0, .ref m_mo), (3, .int x3)]) hx hb dX8_layOnce_159 hl (k := 1) rfl (by first | rfl | decide) (by decide) rfl (fun ls hl => ?_)
            refine lv_goto (tgt := 85) hx hb dX8_layOnce_162 (by decide) ?_
            exact ih85 (x2 + 1) m_many m_one m_two m_noticed _ _ _ hw hP hD hS (lv_sub hl [1, 0] rfl)
          · replace hw := hw.2 c9
            refine lv_aload_n hx hb dX8_layOnce_120 rfl (lv_at hl 0 rfl) ?_
            refine va_get (D := D) (ci := 8) (v := .int m_many) (C := RX8) (T := TX8) (N := 18) hx hb hts inX8 hown hK hP 0 rfl rfl 15 (by decide) fl153 (fun _ h9 => h9) rfl dX8_layOnce_121 ?_
            refine lv_bipush (v := -4) hx hb dX8_layOnce_124 (by decide) ?_
            refine lv_icmp_ne (tgt := 159) hx hb dX8_layOnce_126 (by decide) (fun c9 => ?_) (fun c9 => ?_)
            · replace hw := hw.1 c9
              refine lv_iinc (v := (x2 + 1)) (lv' := [(2, .int (x2 + 1)), (0, .ref m_mo), (3, .int x3)]) hx hb dX8_layOnce_159 hl (k := 1) rfl (by first | rfl | decide) (by decide) rfl (fun ls hl => ?_)
              refine lv_goto (tgt := 85) hx hb dX8_layOnce_162 (by decide) ?_
              exact ih85 (x2 + 1) m_many m_one m_two m_noticed _ _ _ hw hP hD hS (lv_sub hl [1, 0] rfl)
            · replace hw := hw.2 c9
              refine lv_aload_n hx hb dX8_layOnce_129 rfl (lv_at hl 0 rfl) ?_
              refine lv_iload_n hx hb dX8_layOnce_130 rfl (lv_at hl 1 rfl) ?_
              refine lv_iload_n hx hb dX8_layOnce_131 rfl (lv_at hl 2 rfl) ?_
              refine vp_callSi (W.runV (As := [.int x2, .int x3]) (rest := []) ⟨hx, hb, hml, hown, hts⟩ (c_X8_isKnown l D G m_mo m_alane m_asize m_aitem m_atape m_anow m_atried m_aread m_akept m_anoticed m_aneeds m_aorder m_letters m_position m_number m_isKept m_many m_one m_two m_now m_noticed x2 x3 _ hw) (cwV 2 hts gX8_layOnce_X8_isKnown rfl rfl rfl (by decide +kernel) ⟨(Nat.le_of_ble_eq_true rfl), (Nat.le_of_ble_eq_true rfl)⟩) (xR_pv (hP.sub [0, 1, 2] rfl) hK (va_recv hK hP (ci := 8) (q0 := 0) rfl rfl)) rfl rfl hl.1 rfl (lv_room (Nat.le_of_ble_eq_true rfl)) dX8_layOnce_132 ⟨Nat.zero_le _, Nat.zero_le _⟩) (fun r7 hw => ?_)
              refine lv_if_eq (tgt := 153) hx hb dX8_layOnce_135 (by decide) (fun c9 => ?_) (fun c9 => ?_)
              · replace hw := hw.1 c9
                refine lv_iinc (v := (x3 + 1)) (lv' := [(3, .int (x3 + 1)), (0, .ref m_mo), (2, .int x2)]) hx hb dX8_layOnce_153 hl (k := 2) rfl (by first | rfl | decide) (by decide) rfl (fun ls hl => ?_)
                refine lv_goto (tgt := 109) hx hb dX8_layOnce_156 (by decide) ?_
                exact ih109 x2 (x3 + 1) m_many m_one m_two m_noticed _ _ _ hw hP hD hS (lv_sub hl [1, 2, 0] rfl)
              · replace hw := hw.2 c9
                refine lv_aload_n hx hb dX8_layOnce_138 rfl (lv_at hl 0 rfl) ?_
                refine lv_iconst (v := 2) hx hb dX8_layOnce_139 (by decide) ?_
                refine va_put (D := D) (ci := 8) (v := .int (2 : Int32)) (ty := .int) (C := RX8) (T := TX8) (N := 18) hx hb hts inX8 tyX8 tyX8_ok nmX8 hown hK hP hD hS 0 rfl rfl 15 (by decide) fl153 (fun _ h9 => h9) rfl (by decide +kernel) rfl rfl (Nat.le_of_ble_eq_true rfl) dX8_layOnce_140 (fun H locs hP hD hS => ?_)
                replace hP : va_P D vwCl [(m_mo, .inr (8, [.ref m_alane, .ref m_asize, .ref m_aitem, .int m_letters, .ref m_atape, .int m_position, .int m_number, .ref m_anow, .ref m_atried, .ref m_aread, .ref m_akept, .int m_isKept, .ref m_anoticed, .ref m_aneeds, .ref m_aorder, .int (2 : Int32), .int m_one, .int m_two])), (m_anow, .inl (G 0, 55, .inl m_now)), (m_anoticed, .inl (G 0, 256, .inl m_noticed))] H := hP
                replace hD : va_D A [(m_mo, .inr (8, [.ref m_alane, .ref m_asize, .ref m_aitem, .int m_letters, .ref m_atape, .int m_position, .int m_number, .ref m_anow, .ref m_atried, .ref m_aread, .ref m_akept, .int m_isKept, .ref m_anoticed, .ref m_aneeds, .ref m_aorder, .int (2 : Int32), .int m_one, .int m_two])), (m_anow, .inl (G 0, 55, .inl m_now)), (m_anoticed, .inl (G 0, 256, .inl m_noticed))] := hD
                refine lv_aload_n hx hb dX8_layOnce_143 rfl (lv_at hl 0 rfl) ?_
                refine lv_iload_n hx hb dX8_layOnce_144 rfl (lv_at hl 1 rfl) ?_
                refine va_put (D := D) (ci := 8) (v := .int x2) (ty := .int) (C := RX8) (T := TX8) (N := 18) hx hb hts inX8 tyX8 tyX8_ok nmX8 hown hK hP hD hS 0 rfl rfl 16 (by decide) fl156 (fun _ h9 => h9) rfl (by decide +kernel) rfl rfl (Nat.le_of_ble_eq_true rfl) dX8_layOnce_145 (fun H locs hP hD hS => ?_)
                replace hP : va_P D vwCl [(m_mo, .inr (8, [.ref m_alane, .ref m_asize, .ref m_aitem, .int m_letters, .ref m_atape, .int m_position, .int m_number, .ref m_anow, .ref m_atried, .ref m_aread, .ref m_akept, .int m_isKept, .ref m_anoticed, .ref m_aneeds, .ref m_aorder, .int (2 : Int32), .int x2, .int m_two])), (m_anow, .inl (G 0, 55, .inl m_now)), (m_anoticed, .inl (G 0, 256, .inl m_noticed))] H := hP
                replace hD : va_D A [(m_mo, .inr (8, [.ref m_alane, .ref m_asize, .ref m_aitem, .int m_letters, .ref m_atape, .int m_position, .int m_number, .ref m_anow, .ref m_atried, .ref m_aread, .ref m_akept, .int m_isKept, .ref m_anoticed, .ref m_aneeds, .ref m_aorder, .int (2 : Int32), .int x2, .int m_two])), (m_anow, .inl (G 0, 55, .inl m_now)), (m_anoticed, .inl (G 0, 256, .inl m_noticed))] := hD
                refine lv_aload_n hx hb dX8_layOnce_148 rfl (lv_at hl 0 rfl) ?_
                refine lv_iload_n hx hb dX8_layOnce_149 rfl (lv_at hl 2 rfl) ?_
                refine va_put (D := D) (ci := 8) (v := .int x3) (ty := .int) (C := RX8) (T := TX8) (N := 18) hx hb hts inX8 tyX8 tyX8_ok nmX8 hown hK hP hD hS 0 rfl rfl 17 (by decide) fl159 (fun _ h9 => h9) rfl (by decide +kernel) rfl rfl (Nat.le_of_ble_eq_true rfl) dX8_layOnce_150 (fun H locs hP hD hS => ?_)
                replace hP : va_P D vwCl [(m_mo, .inr (8, [.ref m_alane, .ref m_asize, .ref m_aitem, .int m_letters, .ref m_atape, .int m_position, .int m_number, .ref m_anow, .ref m_atried, .ref m_aread, .ref m_akept, .int m_isKept, .ref m_anoticed, .ref m_aneeds, .ref m_aorder, .int (2 : Int32), .int x2, .int x3])), (m_anow, .inl (G 0, 55, .inl m_now)), (m_anoticed, .inl (G 0, 256, .inl m_noticed))] H := hP
                replace hD : va_D A [(m_mo, .inr (8, [.ref m_alane, .ref m_asize, .ref m_aitem, .int m_letters, .ref m_atape, .int m_position, .int m_number, .ref m_anow, .ref m_atried, .ref m_aread, .ref m_akept, .int m_isKept, .ref m_anoticed, .ref m_aneeds, .ref m_aorder, .int (2 : Int32), .int x2, .int x3])), (m_anow, .inl (G 0, 55, .inl m_now)), (m_anoticed, .inl (G 0, 256, .inl m_noticed))] := hD
                refine lv_iinc (v := (x3 + 1)) (lv' := [(3, .int (x3 + 1)), (0, .ref m_mo), (2, .int x2)]) hx hb dX8_layOnce_153 hl (k := 2) rfl (by first | rfl | decide) (by decide) rfl (fun ls hl => ?_)
                refine lv_goto (tgt := 109) hx hb dX8_layOnce_156 (by decide) ?_
                exact ih109 x2 (x3 + 1) (2 : Int32) x2 x3 m_noticed _ _ _ hw hP hD hS (lv_sub hl [1, 2, 0] rfl)
      refine lv_iload_n hx hb dX8_layOnce_85 rfl (lv_at hl 1 rfl) ?_
      refine lv_aload_n hx hb dX8_layOnce_86 rfl (lv_at hl 0 rfl) ?_
      refine va_get (D := D) (ci := 8) (v := .ref m_anow) (C := RX8) (T := TX8) (N := 18) hx hb hts inX8 hown hK hP 0 rfl rfl 7 (by decide) fl23 (fun _ h9 => h9) rfl dX8_layOnce_87 ?_
      refine vp_callSi (W.runS (As := [.ref m_anow]) (rest := [.int x2]) ⟨hx, hb, hml, hown, hts⟩ (c_X8_allOf l D G m_anow m_now _ hw) (va_cwS 1 hts gX8_layOnce_X8_allOf rfl rfl rfl (by decide +kernel) ⟨(Nat.le_of_ble_eq_true rfl), (Nat.le_of_ble_eq_true rfl)⟩) (xR_ps (hP.sub [1] rfl) hK) rfl rfl hl.1 rfl (lv_room (Nat.le_of_ble_eq_true rfl)) dX8_layOnce_90 ⟨Nat.zero_le _, Nat.zero_le _⟩) (fun r5 hw => ?_)
      refine lv_icmp_gt (tgt := 165) hx hb dX8_layOnce_93 (by decide) (fun c9 => ?_) (fun c9 => ?_)
      · replace hw := hw.1 c9
        exact W.vret hx hb hr (x_mv (u := (m_many, m_one, m_two, m_noticed)) hP hK hD hS hw) hS.2.2 dX8_layOnce_165
      · replace hw := hw.2 c9
        refine lv_aload_n hx hb dX8_layOnce_96 rfl (lv_at hl 0 rfl) ?_
        refine va_get (D := D) (ci := 8) (v := .int m_many) (C := RX8) (T := TX8) (N := 18) hx hb hts inX8 hown hK hP 0 rfl rfl 15 (by decide) fl153 (fun _ h9 => h9) rfl dX8_layOnce_97 ?_
        refine lv_bipush (v := -4) hx hb dX8_layOnce_100 (by decide) ?_
        refine lv_icmp_ne (tgt := 165) hx hb dX8_layOnce_102 (by decide) (fun c9 => ?_) (fun c9 => ?_)
        · replace hw := hw.1 c9
          exact W.vret hx hb hr (x_mv (u := (m_many, m_one, m_two, m_noticed)) hP hK hD hS hw) hS.2.2 dX8_layOnce_165
        · replace hw := hw.2 c9
          refine lv_iload_n hx hb dX8_layOnce_105 rfl (lv_at hl 1 rfl) ?_
          refine lv_iconst (v := 1) hx hb dX8_layOnce_106 (by decide) ?_
          refine lv_iadd hx hb dX8_layOnce_107 ?_
          refine lv_istore_n (lv' := [(3, .int (x2 + (1 : Int32))), (0, .ref m_mo), (2, .int x2)]) hx hb dX8_layOnce_108 rfl hl (by decide) rfl (fun ls hl => ?_)
          obtain ⟨n, hw⟩ := hw
          exact L109 n x2 (x2 + (1 : Int32)) m_many m_one m_two m_noticed _ _ _ hw hP hD hS (lv_sub hl [1, 2, 0] rfl)
  have L38 : ∀ (f38 : Nat) (x2 : Int32) (m_many : Int32) (m_one : Int32) (m_two : Int32) (m_noticed : Nat → Int32) (H : Heap) (locs : List Loc) (ls : Array Slot), wp_X8_layOnce_L38 m_two m_now m_noticed post f38 m_many m_one x2 → va_P D vwCl [(m_mo, .inr (8, [.ref m_alane, .ref m_asize, .ref m_aitem, .int m_letters, .ref m_atape, .int m_position, .int m_number, .ref m_anow, .ref m_atried, .ref m_aread, .ref m_akept, .int m_isKept, .ref m_anoticed, .ref m_aneeds, .ref m_aorder, .int m_many, .int m_one, .int m_two])), (m_anow, .inl (G 0, 55, .inl m_now)), (m_anoticed, .inl (G 0, 256, .inl m_noticed))] H → va_D A [(m_mo, .inr (8, [.ref m_alane, .ref m_asize, .ref m_aitem, .int m_letters, .ref m_atape, .int m_position, .int m_number, .ref m_anow, .ref m_atried, .ref m_aread, .ref m_akept, .int m_isKept, .ref m_anoticed, .ref m_aneeds, .ref m_aorder, .int m_many, .int m_one, .int m_two])), (m_anow, .inl (G 0, 55, .inl m_now)), (m_anoticed, .inl (G 0, 256, .inl m_noticed))] → va_S A s.heap H locs → lv_has ls 4 [(0, .ref m_mo), (2, .int x2)] → W p l e (headSpec wsX8_layOnce ({ frames := 5, cells := 0, slots := 0, locals := 117 } : Room)).room s m ([.ref m_mo, .int x1] : List Value).toArray below meth c H locs 0 0 (MQ below (va_Qv (fun (u : Int32 × Int32 × Int32 × (Nat → Int32)) => post u.1 u.2.1 u.2.2.1 u.2.2.2) (fun u t => xE D G A [(m_mo, .inr (8, [.ref m_alane, .ref m_asize, .ref m_aitem, .int m_letters, .ref m_atape, .int m_position, .int m_number, .ref m_anow, .ref m_atried, .ref m_aread, .ref m_akept, .int m_isKept, .ref m_anoticed, .ref m_aneeds, .ref m_aorder, .int u.1, .int u.2.1, .int u.2.2.1])), (m_anow, .inl (G 0, 55, .inl m_now)), (m_anoticed, .inl (G 0, 256, .inl (u.2.2.2)))] t) A) ([.ref m_mo, .int x1] : List Value).toArray s 0 0 A) (F0 m 38 ls []) := by
    intro f38
    induction f38 with
    | zero => intro x2 m_many m_one m_two m_noticed H locs ls hw hP hD hS hl; exact (hw : False).elim
    | succ f38 ih38 =>
      intro x2 m_many m_one m_two m_noticed H locs ls hw hP hD hS hl
      unfold wp_X8_layOnce_L38 at hw
      refine lv_iload_n hx hb dX8_layOnce_38 rfl (lv_at hl 1 rfl) ?_
      refine lv_aload_n hx hb dX8_layOnce_39 rfl (lv_at hl 0 rfl) ?_
      refine va_get (D := D) (ci := 8) (v := .ref m_anow) (C := RX8) (T := TX8) (N := 18) hx hb hts inX8 hown hK hP 0 rfl rfl 7 (by decide) fl23 (fun _ h9 => h9) rfl dX8_layOnce_40 ?_
      refine vp_callSi (W.runS (As := [.ref m_anow]) (rest := [.int x2]) ⟨hx, hb, hml, hown, hts⟩ (c_X8_allOf l D G m_anow m_now _ hw) (va_cwS 1 hts gX8_layOnce_X8_allOf rfl rfl rfl (by decide +kernel) ⟨(Nat.le_of_ble_eq_true rfl), (Nat.le_of_ble_eq_true rfl)⟩) (xR_ps (hP.sub [1] rfl) hK) rfl rfl hl.1 rfl (lv_room (Nat.le_of_ble_eq_true rfl)) dX8_layOnce_43 ⟨Nat.zero_le _, Nat.zero_le _⟩) (fun r3 hw => ?_)
      refine lv_icmp_gt (tgt := 83) hx hb dX8_layOnce_46 (by decide) (fun c9 => ?_) (fun c9 => ?_)
      · replace hw := hw.1 c9
        refine lv_iconst (v := 1) hx hb dX8_layOnce_83 (by decide) ?_
        refine lv_istore_n (lv' := [(2, .int (1 : Int32)), (0, .ref m_mo)]) hx hb dX8_layOnce_84 rfl hl (by decide) rfl (fun ls hl => ?_)
        obtain ⟨n, hw⟩ := hw
        exact L85 n (1 : Int32) m_many m_one m_two m_noticed _ _ _ hw hP hD hS (lv_sub hl [1, 0] rfl)
      · replace hw := hw.2 c9
        refine lv_aload_n hx hb dX8_layOnce_49 rfl (lv_at hl 0 rfl) ?_
        refine va_get (D := D) (ci := 8) (v := .int m_many) (C := RX8) (T := TX8) (N := 18) hx hb hts inX8 hown hK hP 0 rfl rfl 15 (by decide) fl153 (fun _ h9 => h9) rfl dX8_layOnce_50 ?_
        refine lv_bipush (v := -4) hx hb dX8_layOnce_53 (by decide) ?_
        refine lv_icmp_ne (tgt := 83) hx hb dX8_layOnce_55 (by decide) (fun c9 => ?_) (fun c9 => ?_)
        · replace hw := hw.1 c9
          refine lv_iconst (v := 1) hx hb dX8_layOnce_83 (by decide) ?_
          refine lv_istore_n (lv' := [(2, .int (1 : Int32)), (0, .ref m_mo)]) hx hb dX8_layOnce_84 rfl hl (by decide) rfl (fun ls hl => ?_)
          obtain ⟨n, hw⟩ := hw
          exact L85 n (1 : Int32) m_many m_one m_two m_noticed _ _ _ hw hP hD hS (lv_sub hl [1, 0] rfl)
        · replace hw := hw.2 c9
          refine lv_aload_n hx hb dX8_layOnce_58 rfl (lv_at hl 0 rfl) ?_
          refine lv_iload_n hx hb dX8_layOnce_59 rfl (lv_at hl 1 rfl) ?_
          refine lv_iconst (v := 0) hx hb dX8_layOnce_60 (by decide) ?_
          refine vp_callSi (W.runV (As := [.int x2, .int (0 : Int32)]) (rest := []) ⟨hx, hb, hml, hown, hts⟩ (c_X8_isKnown l D G m_mo m_alane m_asize m_aitem m_atape m_anow m_atried m_aread m_akept m_anoticed m_aneeds m_aorder m_letters m_position m_number m_isKept m_many m_one m_two m_now m_noticed x2 (0 : Int32) _ hw) (cwV 2 hts gX8_layOnce_X8_isKnown rfl rfl rfl (by decide +kernel) ⟨(Nat.le_of_ble_eq_true rfl), (Nat.le_of_ble_eq_true rfl)⟩) (xR_pv (hP.sub [0, 1, 2] rfl) hK (va_recv hK hP (ci := 8) (q0 := 0) rfl rfl)) rfl rfl hl.1 rfl (lv_room (Nat.le_of_ble_eq_true rfl)) dX8_layOnce_61 ⟨Nat.zero_le _, Nat.zero_le _⟩) (fun r4 hw => ?_)
          refine lv_if_eq (tgt := 77) hx hb dX8_layOnce_64 (by decide) (fun c9 => ?_) (fun c9 => ?_)
          · replace hw := hw.1 c9
            refine lv_iinc (v := (x2 + 1)) (lv' := [(2, .int (x2 + 1)), (0, .ref m_mo)]) hx hb dX8_layOnce_77 hl (k := 1) rfl (by first | rfl | decide) (by decide) rfl (fun ls hl => ?_)
            refine lv_goto (tgt := 38) hx hb dX8_layOnce_80 (by decide) ?_
            exact ih38 (x2 + 1) m_many m_one m_two m_noticed _ _ _ hw hP hD hS (lv_sub hl [1, 0] rfl)
          · replace hw := hw.2 c9
            refine lv_aload_n hx hb dX8_layOnce_67 rfl (lv_at hl 0 rfl) ?_
            refine lv_iconst (v := 1) hx hb dX8_layOnce_68 (by decide) ?_
            refine va_put (D := D) (ci := 8) (v := .int (1 : Int32)) (ty := .int) (C := RX8) (T := TX8) (N := 18) hx hb hts inX8 tyX8 tyX8_ok nmX8 hown hK hP hD hS 0 rfl rfl 15 (by decide) fl153 (fun _ h9 => h9) rfl (by decide +kernel) rfl rfl (Nat.le_of_ble_eq_true rfl) dX8_layOnce_69 (fun H locs hP hD hS => ?_)
            replace hP : va_P D vwCl [(m_mo, .inr (8, [.ref m_alane, .ref m_asize, .ref m_aitem, .int m_letters, .ref m_atape, .int m_position, .int m_number, .ref m_anow, .ref m_atried, .ref m_aread, .ref m_akept, .int m_isKept, .ref m_anoticed, .ref m_aneeds, .ref m_aorder, .int (1 : Int32), .int m_one, .int m_two])), (m_anow, .inl (G 0, 55, .inl m_now)), (m_anoticed, .inl (G 0, 256, .inl m_noticed))] H := hP
            replace hD : va_D A [(m_mo, .inr (8, [.ref m_alane, .ref m_asize, .ref m_aitem, .int m_letters, .ref m_atape, .int m_position, .int m_number, .ref m_anow, .ref m_atried, .ref m_aread, .ref m_akept, .int m_isKept, .ref m_anoticed, .ref m_aneeds, .ref m_aorder, .int (1 : Int32), .int m_one, .int m_two])), (m_anow, .inl (G 0, 55, .inl m_now)), (m_anoticed, .inl (G 0, 256, .inl m_noticed))] := hD
            refine lv_aload_n hx hb dX8_layOnce_72 rfl (lv_at hl 0 rfl) ?_
            refine lv_iload_n hx hb dX8_layOnce_73 rfl (lv_at hl 1 rfl) ?_
            refine va_put (D := D) (ci := 8) (v := .int x2) (ty := .int) (C := RX8) (T := TX8) (N := 18) hx hb hts inX8 tyX8 tyX8_ok nmX8 hown hK hP hD hS 0 rfl rfl 16 (by decide) fl156 (fun _ h9 => h9) rfl (by decide +kernel) rfl rfl (Nat.le_of_ble_eq_true rfl) dX8_layOnce_74 (fun H locs hP hD hS => ?_)
            replace hP : va_P D vwCl [(m_mo, .inr (8, [.ref m_alane, .ref m_asize, .ref m_aitem, .int m_letters, .ref m_atape, .int m_position, .int m_number, .ref m_anow, .ref m_atried, .ref m_aread, .ref m_akept, .int m_isKept, .ref m_anoticed, .ref m_aneeds, .ref m_aorder, .int (1 : Int32), .int x2, .int m_two])), (m_anow, .inl (G 0, 55, .inl m_now)), (m_anoticed, .inl (G 0, 256, .inl m_noticed))] H := hP
            replace hD : va_D A [(m_mo, .inr (8, [.ref m_alane, .ref m_asize, .ref m_aitem, .int m_letters, .ref m_atape, .int m_position, .int m_number, .ref m_anow, .ref m_atried, .ref m_aread, .ref m_akept, .int m_isKept, .ref m_anoticed, .ref m_aneeds, .ref m_aorder, .int (1 : Int32), .int x2, .int m_two])), (m_anow, .inl (G 0, 55, .inl m_now)), (m_anoticed, .inl (G 0, 256, .inl m_noticed))] := hD
            refine lv_iinc (v := (x2 + 1)) (lv' := [(2, .int (x2 + 1)), (0, .ref m_mo)]) hx hb dX8_layOnce_77 hl (k := 1) rfl (by first | rfl | decide) (by decide) rfl (fun ls hl => ?_)
            refine lv_goto (tgt := 38) hx hb dX8_layOnce_80 (by decide) ?_
            exact ih38 (x2 + 1) (1 : Int32) x2 m_two m_noticed _ _ _ hw hP hD hS (lv_sub hl [1, 0] rfl)
  have J21 : ∀ (k0 : Int32) (m_noticed : Nat → Int32) (H : Heap) (locs : List Loc) (ls : Array Slot), wp_X8_layOnce_J21 m_now m_noticed k0 post → va_P D vwCl [(m_mo, .inr (8, [.ref m_alane, .ref m_asize, .ref m_aitem, .int m_letters, .ref m_atape, .int m_position, .int m_number, .ref m_anow, .ref m_atried, .ref m_aread, .ref m_akept, .int m_isKept, .ref m_anoticed, .ref m_aneeds, .ref m_aorder, .int m_many, .int m_one, .int m_two])), (m_anow, .inl (G 0, 55, .inl m_now)), (m_anoticed, .inl (G 0, 256, .inl m_noticed))] H → va_D A [(m_mo, .inr (8, [.ref m_alane, .ref m_asize, .ref m_aitem, .int m_letters, .ref m_atape, .int m_position, .int m_number, .ref m_anow, .ref m_atried, .ref m_aread, .ref m_akept, .int m_isKept, .ref m_anoticed, .ref m_aneeds, .ref m_aorder, .int m_many, .int m_one, .int m_two])), (m_anow, .inl (G 0, 55, .inl m_now)), (m_anoticed, .inl (G 0, 256, .inl m_noticed))] → va_S A s.heap H locs → lv_has ls 4 [(0, .ref m_mo)] → W p l e (headSpec wsX8_layOnce ({ frames := 5, cells := 0, slots := 0, locals := 117 } : Room)).room s m ([.ref m_mo, .int x1] : List Value).toArray below meth c H locs 0 0 (MQ below (va_Qv (fun (u : Int32 × Int32 × Int32 × (Nat → Int32)) => post u.1 u.2.1 u.2.2.1 u.2.2.2) (fun u t => xE D G A [(m_mo, .inr (8, [.ref m_alane, .ref m_asize, .ref m_aitem, .int m_letters, .ref m_atape, .int m_position, .int m_number, .ref m_anow, .ref m_atried, .ref m_aread, .ref m_akept, .int m_isKept, .ref m_anoticed, .ref m_aneeds, .ref m_aorder, .int u.1, .int u.2.1, .int u.2.2.1])), (m_anow, .inl (G 0, 55, .inl m_now)), (m_anoticed, .inl (G 0, 256, .inl (u.2.2.2)))] t) A) ([.ref m_mo, .int x1] : List Value).toArray s 0 0 A) (F0 m 21 ls [.int k0, .ref m_mo]) := by
    intro k0 m_noticed H locs ls hw hP hD hS hl
    unfold wp_X8_layOnce_J21 at hw
    refine va_put (D := D) (ci := 8) (v := .int k0) (ty := .int) (C := RX8) (T := TX8) (N := 18) hx hb hts inX8 tyX8 tyX8_ok nmX8 hown hK hP hD hS 0 rfl rfl 15 (by decide) fl153 (fun _ h9 => h9) rfl (by decide +kernel) rfl rfl (Nat.le_of_ble_eq_true rfl) dX8_layOnce_21 (fun H locs hP hD hS => ?_)
    replace hP : va_P D vwCl [(m_mo, .inr (8, [.ref m_alane, .ref m_asize, .ref m_aitem, .int m_letters, .ref m_atape, .int m_position, .int m_number, .ref m_anow, .ref m_atried, .ref m_aread, .ref m_akept, .int m_isKept, .ref m_anoticed, .ref m_aneeds, .ref m_aorder, .int k0, .int m_one, .int m_two])), (m_anow, .inl (G 0, 55, .inl m_now)), (m_anoticed, .inl (G 0, 256, .inl m_noticed))] H := hP
    replace hD : va_D A [(m_mo, .inr (8, [.ref m_alane, .ref m_asize, .ref m_aitem, .int m_letters, .ref m_atape, .int m_position, .int m_number, .ref m_anow, .ref m_atried, .ref m_aread, .ref m_akept, .int m_isKept, .ref m_anoticed, .ref m_aneeds, .ref m_aorder, .int k0, .int m_one, .int m_two])), (m_anow, .inl (G 0, 55, .inl m_now)), (m_anoticed, .inl (G 0, 256, .inl m_noticed))] := hD
    refine lv_aload_n hx hb dX8_layOnce_24 rfl (lv_at hl 0 rfl) ?_
    refine lv_bipush (v := -4) hx hb dX8_layOnce_25 (by decide) ?_
    refine va_put (D := D) (ci := 8) (v := .int (-4 : Int32)) (ty := .int) (C := RX8) (T := TX8) (N := 18) hx hb hts inX8 tyX8 tyX8_ok nmX8 hown hK hP hD hS 0 rfl rfl 16 (by decide) fl156 (fun _ h9 => h9) rfl (by decide +kernel) rfl rfl (Nat.le_of_ble_eq_true rfl) dX8_layOnce_27 (fun H locs hP hD hS => ?_)
    replace hP : va_P D vwCl [(m_mo, .inr (8, [.ref m_alane, .ref m_asize, .ref m_aitem, .int m_letters, .ref m_atape, .int m_position, .int m_number, .ref m_anow, .ref m_atried, .ref m_aread, .ref m_akept, .int m_isKept, .ref m_anoticed, .ref m_aneeds, .ref m_aorder, .int k0, .int (-4 : Int32), .int m_two])), (m_anow, .inl (G 0, 55, .inl m_now)), (m_anoticed, .inl (G 0, 256, .inl m_noticed))] H := hP
    replace hD : va_D A [(m_mo, .inr (8, [.ref m_alane, .ref m_asize, .ref m_aitem, .int m_letters, .ref m_atape, .int m_position, .int m_number, .ref m_anow, .ref m_atried, .ref m_aread, .ref m_akept, .int m_isKept, .ref m_anoticed, .ref m_aneeds, .ref m_aorder, .int k0, .int (-4 : Int32), .int m_two])), (m_anow, .inl (G 0, 55, .inl m_now)), (m_anoticed, .inl (G 0, 256, .inl m_noticed))] := hD
    refine lv_aload_n hx hb dX8_layOnce_30 rfl (lv_at hl 0 rfl) ?_
    refine lv_bipush (v := -4) hx hb dX8_layOnce_31 (by decide) ?_
    refine va_put (D := D) (ci := 8) (v := .int (-4 : Int32)) (ty := .int) (C := RX8) (T := TX8) (N := 18) hx hb hts inX8 tyX8 tyX8_ok nmX8 hown hK hP hD hS 0 rfl rfl 17 (by decide) fl159 (fun _ h9 => h9) rfl (by decide +kernel) rfl rfl (Nat.le_of_ble_eq_true rfl) dX8_layOnce_33 (fun H locs hP hD hS => ?_)
    replace hP : va_P D vwCl [(m_mo, .inr (8, [.ref m_alane, .ref m_asize, .ref m_aitem, .int m_letters, .ref m_atape, .int m_position, .int m_number, .ref m_anow, .ref m_atried, .ref m_aread, .ref m_akept, .int m_isKept, .ref m_anoticed, .ref m_aneeds, .ref m_aorder, .int k0, .int (-4 : Int32), .int (-4 : Int32)])), (m_anow, .inl (G 0, 55, .inl m_now)), (m_anoticed, .inl (G 0, 256, .inl m_noticed))] H := hP
    replace hD : va_D A [(m_mo, .inr (8, [.ref m_alane, .ref m_asize, .ref m_aitem, .int m_letters, .ref m_atape, .int m_position, .int m_number, .ref m_anow, .ref m_atried, .ref m_aread, .ref m_akept, .int m_isKept, .ref m_anoticed, .ref m_aneeds, .ref m_aorder, .int k0, .int (-4 : Int32), .int (-4 : Int32)])), (m_anow, .inl (G 0, 55, .inl m_now)), (m_anoticed, .inl (G 0, 256, .inl m_noticed))] := hD
    refine lv_iconst (v := 1) hx hb dX8_layOnce_36 (by decide) ?_
    refine lv_istore_n (lv' := [(2, .int (1 : Int32)), (0, .ref m_mo)]) hx hb dX8_layOnce_37 rfl hl (by decide) rfl (fun ls hl => ?_)
    obtain ⟨n, hw⟩ := hw
    exact L38 n (1 : Int32) k0 (-4 : Int32) (-4 : Int32) m_noticed _ _ _ hw hP hD hS (lv_sub hl [1, 0] rfl)
  refine lv_aload_n hx hb dX8_layOnce_0 rfl (lv_at hl 0 rfl) ?_
  refine lv_iload_n hx hb dX8_layOnce_1 rfl (lv_at hl 1 rfl) ?_
  refine x_cMv (wr := []) (va_runV (As := [.int x1]) (rest := []) ⟨hx, hb, hml, hown, hts⟩ (c_X8_layNoticed l D G _ m_mo m_alane m_asize m_aitem m_atape m_anow m_atried m_aread m_akept m_anoticed m_aneeds m_aorder m_letters m_position m_number m_isKept m_many m_one m_two m_now m_noticed x1 _ hw) (cwV 1 hts gX8_layOnce_X8_layNoticed rfl rfl rfl (by decide +kernel) ⟨(Nat.le_of_ble_eq_true rfl), (Nat.le_of_ble_eq_true rfl)⟩) (xM_pv (hP.sub [0, 1, 2] rfl) hK (hD.sub [0, 1, 2] (by decide) rfl) (va_recv hK hP (ci := 8) (q0 := 0) rfl rfl)) rfl rfl hl.1 rfl (lv_room (Nat.le_of_ble_eq_true rfl)) dX8_layOnce_2 ⟨Nat.zero_le _, Nat.zero_le _⟩) hP hD hS hA [0, 1, 2] [] rfl rfl (by decide) (by decide) [0, 1, 2] (fun u => [(m_mo, .inr (8, [.ref m_alane, .ref m_asize, .ref m_aitem, .int m_letters, .ref m_atape, .int m_position, .int m_number, .ref m_anow, .ref m_atried, .ref m_aread, .ref m_akept, .int m_isKept, .ref m_anoticed, .ref m_aneeds, .ref m_aorder, .int m_many, .int m_one, .int m_two])), (m_anow, .inl (G 0, 55, .inl m_now)), (m_anoticed, .inl (G 0, 256, .inl u))]) (by decide) (fun u => rfl) (fun u H locs hw hP hD hS => ?_)
  obtain ⟨m_noticed_1, rfl⟩ : ∃ z, z = u := ⟨_, rfl⟩
  try dsimp only at hw
  replace hP : va_P D vwCl [(m_mo, .inr (8, [.ref m_alane, .ref m_asize, .ref m_aitem, .int m_letters, .ref m_atape, .int m_position, .int m_number, .ref m_anow, .ref m_atried, .ref m_aread, .ref m_akept, .int m_isKept, .ref m_anoticed, .ref m_aneeds, .ref m_aorder, .int m_many, .int m_one, .int m_two])), (m_anow, .inl (G 0, 55, .inl m_now)), (m_anoticed, .inl (G 0, 256, .inl m_noticed_1))] H := hP
  replace hD : va_D A [(m_mo, .inr (8, [.ref m_alane, .ref m_asize, .ref m_aitem, .int m_letters, .ref m_atape, .int m_position, .int m_number, .ref m_anow, .ref m_atried, .ref m_aread, .ref m_akept, .int m_isKept, .ref m_anoticed, .ref m_aneeds, .ref m_aorder, .int m_many, .int m_one, .int m_two])), (m_anow, .inl (G 0, 55, .inl m_now)), (m_anoticed, .inl (G 0, 256, .inl m_noticed_1))] := hD
  refine lv_aload_n hx hb dX8_layOnce_5 rfl (lv_at hl 0 rfl) ?_
  refine lv_aload_n hx hb dX8_layOnce_6 rfl (lv_at hl 0 rfl) ?_
  refine lv_iconst (v := 0) hx hb dX8_layOnce_7 (by decide) ?_
  refine lv_iconst (v := 0) hx hb dX8_layOnce_8 (by decide) ?_
  refine vp_callSi (W.runV (As := [.int (0 : Int32), .int (0 : Int32)]) (rest := [.ref m_mo]) ⟨hx, hb, hml, hown, hts⟩ (c_X8_isKnown l D G m_mo m_alane m_asize m_aitem m_atape m_anow m_atried m_aread m_akept m_anoticed m_aneeds m_aorder m_letters m_position m_number m_isKept m_many m_one m_two m_now m_noticed_1 (0 : Int32) (0 : Int32) _ hw) (cwV 2 hts gX8_layOnce_X8_isKnown rfl rfl rfl (by decide +kernel) ⟨(Nat.le_of_ble_eq_true rfl), (Nat.le_of_ble_eq_true rfl)⟩) (xR_pv (hP.sub [0, 1, 2] rfl) hK (va_recv hK hP (ci := 8) (q0 := 0) rfl rfl)) rfl rfl hl.1 rfl (lv_room (Nat.le_of_ble_eq_true rfl)) dX8_layOnce_9 ⟨Nat.zero_le _, Nat.zero_le _⟩) (fun r2 hw => ?_)
  refine lv_if_eq (tgt := 19) hx hb dX8_layOnce_12 (by decide) (fun c9 => ?_) (fun c9 => ?_)
  · replace hw := hw.1 c9
    refine lv_bipush (v := -4) hx hb dX8_layOnce_19 (by decide) ?_
    exact J21 (-4 : Int32) m_noticed_1 _ _ _ hw hP hD hS (lv_sub hl [0] rfl)
  · replace hw := hw.2 c9
    refine lv_iconst (v := 0) hx hb dX8_layOnce_15 (by decide) ?_
    refine lv_goto (tgt := 21) hx hb dX8_layOnce_16 (by decide) ?_
    exact J21 (0 : Int32) m_noticed_1 _ _ _ hw hP hD hS (lv_sub hl [0] rfl)
set_option maxHeartbeats 4000000 in
set_option maxRecDepth 100000 in
theorem c_X8_once (l : Launch) (D : va_G) (G : Nat → ClassId) (sz : Nat) (m_mo : Nat) (m_alane : Nat) (m_asize : Nat) (m_aitem : Nat) (m_atape : Nat) (m_anow : Nat) (m_atried : Nat) (m_aread : Nat) (m_akept : Nat) (m_anoticed : Nat) (m_aneeds : Nat) (m_aorder : Nat) (m_letters : Int32) (m_position : Int32) (m_number : Int32) (m_isKept : Int32) (m_many : Int32) (m_one : Int32) (m_two : Int32) (m_now : Nat → Int32) (m_noticed : Nat → Int32) (x1 : Int32) (x2 : Int32) (post : Int32 → Int32 → Int32 → Int32 → (Nat → Int32) → Prop) (hw : wp_X8_once m_many m_one m_two m_now m_noticed x1 x2 post) : Met l yX8_once wsX8_once ({ frames := 6, cells := 0, slots := 0, locals := 140 } : Room) (va_Pc [.ref m_mo, .int x1, .int x2] (xM D G sz [(m_mo, .inr (8, [.ref m_alane, .ref m_asize, .ref m_aitem, .int m_letters, .ref m_atape, .int m_position, .int m_number, .ref m_anow, .ref m_atried, .ref m_aread, .ref m_akept, .int m_isKept, .ref m_anoticed, .ref m_aneeds, .ref m_aorder, .int m_many, .int m_one, .int m_two])), (m_anow, .inl (G 0, 55, .inl m_now)), (m_anoticed, .inl (G 0, 256, .inl m_noticed))])) (va_Qi (fun r (u : Int32 × Int32 × Int32 × (Nat → Int32)) => post r u.1 u.2.1 u.2.2.1 u.2.2.2) (fun u t => xE D G (va_A [(m_mo, .inr (8, [.ref m_alane, .ref m_asize, .ref m_aitem, .int m_letters, .ref m_atape, .int m_position, .int m_number, .ref m_anow, .ref m_atried, .ref m_aread, .ref m_akept, .int m_isKept, .ref m_anoticed, .ref m_aneeds, .ref m_aorder, .int m_many, .int m_one, .int m_two])), (m_anow, .inl (G 0, 55, .inl m_now)), (m_anoticed, .inl (G 0, 256, .inl m_noticed))] sz) [(m_mo, .inr (8, [.ref m_alane, .ref m_asize, .ref m_aitem, .int m_letters, .ref m_atape, .int m_position, .int m_number, .ref m_anow, .ref m_atried, .ref m_aread, .ref m_akept, .int m_isKept, .ref m_anoticed, .ref m_aneeds, .ref m_aorder, .int u.1, .int u.2.1, .int u.2.2.1])), (m_anow, .inl (G 0, 55, .inl m_now)), (m_anoticed, .inl (G 0, 256, .inl (u.2.2.2)))] t) (va_A [(m_mo, .inr (8, [.ref m_alane, .ref m_asize, .ref m_aitem, .int m_letters, .ref m_atape, .int m_position, .int m_number, .ref m_anow, .ref m_atried, .ref m_aread, .ref m_akept, .int m_isKept, .ref m_anoticed, .ref m_aneeds, .ref m_aorder, .int m_many, .int m_one, .int m_two])), (m_anow, .inl (G 0, 55, .inl m_now)), (m_anoticed, .inl (G 0, 256, .inl m_noticed))] sz)) 0 0 (va_A [(m_mo, .inr (8, [.ref m_alane, .ref m_asize, .ref m_aitem, .int m_letters, .ref m_atape, .int m_position, .int m_number, .ref m_anow, .ref m_atried, .ref m_aread, .ref m_akept, .int m_isKept, .ref m_anoticed, .ref m_aneeds, .ref m_aorder, .int m_many, .int m_one, .int m_two])), (m_anow, .inl (G 0, 55, .inl m_now)), (m_anoticed, .inl (G 0, 256, .inl m_noticed))] sz) := by
  refine Met.ofW (cc := cX8_once) (maxL := 3) (ret := (some .int)) (by decide) rfl ?_
  intro p e s m args below meth c s₁ B hml hv
  obtain ⟨rfl, hsz, hP, hK, hD0⟩ := hv
  have hx := B.exec
  have hb := B.bytes
  have hr := B.returns
  have hts := atoms_spec (ws := wsX8_once) B.pre
  have hown : s.vm.findClass RX8 = some m.cls := findClass_of_methodNamed B.named
  have hlocks := B.notSynchronized
  subst hsz
  have hD := hD0.self (sz := s.heap.size)
  generalize hAe : va_A [(m_mo, .inr (8, [.ref m_alane, .ref m_asize, .ref m_aitem, .int m_letters, .ref m_atape, .int m_position, .int m_number, .ref m_anow, .ref m_atried, .ref m_aread, .ref m_akept, .int m_isKept, .ref m_anoticed, .ref m_aneeds, .ref m_aorder, .int m_many, .int m_one, .int m_two])), (m_anow, .inl (G 0, 55, .inl m_now)), (m_anoticed, .inl (G 0, 256, .inl m_noticed))] s.heap.size = A at hD ⊢
  have hA : ∀ q : Nat, s.heap.size ≤ q → A q := fun q h => by rw [← hAe]; exact Or.inr h
  have hS : va_S A s.heap s.heap [] := va_S.rf
  have inX8 : ∀ w ∈ wsX80, w ∈ wsX8_once := by decide +kernel
  have fl159 := hts (.fieldLink RX8 159 "NewsCowModel" "two" "I") (by decide +kernel)
  have fl156 := hts (.fieldLink RX8 156 "NewsCowModel" "one" "I") (by decide +kernel)
  have fl153 := hts (.fieldLink RX8 153 "NewsCowModel" "many" "I") (by decide +kernel)
  have hl := lv_entry ([.ref m_mo, .int x1, .int x2] : List Value) (n := 3) (Nat.le_of_ble_eq_true rfl)
  rw [lg_entry_eq]
  generalize (lg_sl ([.ref m_mo, .int x1, .int x2] : List Value) ++ List.replicate (3 - (lg_sl ([.ref m_mo, .int x1, .int x2] : List Value)).length) Slot.unset).toArray = ls at hl ⊢
  have hl : lv_has ls 3 [(0, .ref m_mo), (1, .int x1), (2, .int x2)] := hl
  unfold wp_X8_once at hw
  refine lv_aload_n hx hb dX8_once_0 rfl (lv_at hl 0 rfl) ?_
  refine lv_iload_n hx hb dX8_once_1 rfl (lv_at hl 1 rfl) ?_
  refine vp_callSi (W.runV (As := [.int x1]) (rest := []) ⟨hx, hb, hml, hown, hts⟩ (c_X8_isTaster l D G m_mo m_alane m_asize m_aitem m_atape m_anow m_atried m_aread m_akept m_anoticed m_aneeds m_aorder m_letters m_position m_number m_isKept m_many m_one m_two m_now x1 _ hw) (cwV 1 hts gX8_once_X8_isTaster rfl rfl rfl (by decide +kernel) ⟨(Nat.le_of_ble_eq_true rfl), (Nat.le_of_ble_eq_true rfl)⟩) (xR_pv (hP.sub [0, 1] rfl) hK (va_recv hK hP (ci := 8) (q0 := 0) rfl rfl)) rfl rfl hl.1 rfl (lv_room (Nat.le_of_ble_eq_true rfl)) dX8_once_2 ⟨Nat.zero_le _, Nat.zero_le _⟩) (fun r1 hw => ?_)
  refine lv_if_eq (tgt := 13) hx hb dX8_once_5 (by decide) (fun c9 => ?_) (fun c9 => ?_)
  · replace hw := hw.1 c9
    refine lv_iconst (v := -1) hx hb dX8_once_13 (by decide) ?_
    exact W.iret hx hb hr (x_mi (u := (m_many, m_one, m_two, m_noticed)) hP hK hD hS hw) hS.2.2 dX8_once_14
  · replace hw := hw.2 c9
    refine lv_iload_n hx hb dX8_once_8 rfl (lv_at hl 2 rfl) ?_
    refine lv_iconst (v := -1) hx hb dX8_once_9 (by decide) ?_
    refine lv_icmp_ge (tgt := 15) hx hb dX8_once_10 (by decide) (fun c9 => ?_) (fun c9 => ?_)
    · replace hw := hw.1 c9
      refine lv_aload_n hx hb dX8_once_15 rfl (lv_at hl 0 rfl) ?_
      refine lv_iload_n hx hb dX8_once_16 rfl (lv_at hl 1 rfl) ?_
      refine x_cMv (wr := []) (va_runV (As := [.int x1]) (rest := []) ⟨hx, hb, hml, hown, hts⟩ (c_X8_layOnce l D G _ m_mo m_alane m_asize m_aitem m_atape m_anow m_atried m_aread m_akept m_anoticed m_aneeds m_aorder m_letters m_position m_number m_isKept m_many m_one m_two m_now m_noticed x1 _ hw) (cwV 1 hts gX8_once_X8_layOnce rfl rfl rfl (by decide +kernel) ⟨(Nat.le_of_ble_eq_true rfl), (Nat.le_of_ble_eq_true rfl)⟩) (xM_pv (hP.sub [0, 1, 2] rfl) hK (hD.sub [0, 1, 2] (by decide) rfl) (va_recv hK hP (ci := 8) (q0 := 0) rfl rfl)) rfl rfl hl.1 rfl (lv_room (Nat.le_of_ble_eq_true rfl)) dX8_once_17 ⟨Nat.zero_le _, Nat.zero_le _⟩) hP hD hS hA [0, 1, 2] [] rfl rfl (by decide) (by decide) [0, 1, 2] (fun u => [(m_mo, .inr (8, [.ref m_alane, .ref m_asize, .ref m_aitem, .int m_letters, .ref m_atape, .int m_position, .int m_number, .ref m_anow, .ref m_atried, .ref m_aread, .ref m_akept, .int m_isKept, .ref m_anoticed, .ref m_aneeds, .ref m_aorder, .int u.1, .int u.2.1, .int u.2.2.1])), (m_anow, .inl (G 0, 55, .inl m_now)), (m_anoticed, .inl (G 0, 256, .inl (u.2.2.2)))]) (by decide) (fun u => rfl) (fun u H locs hw hP hD hS => ?_)
      obtain ⟨m_many_2, m_one_2, m_two_2, m_noticed_2⟩ := u
      try dsimp only at hw
      replace hP : va_P D vwCl [(m_mo, .inr (8, [.ref m_alane, .ref m_asize, .ref m_aitem, .int m_letters, .ref m_atape, .int m_position, .int m_number, .ref m_anow, .ref m_atried, .ref m_aread, .ref m_akept, .int m_isKept, .ref m_anoticed, .ref m_aneeds, .ref m_aorder, .int m_many_2, .int m_one_2, .int m_two_2])), (m_anow, .inl (G 0, 55, .inl m_now)), (m_anoticed, .inl (G 0, 256, .inl m_noticed_2))] H := hP
      replace hD : va_D A [(m_mo, .inr (8, [.ref m_alane, .ref m_asize, .ref m_aitem, .int m_letters, .ref m_atape, .int m_position, .int m_number, .ref m_anow, .ref m_atried, .ref m_aread, .ref m_akept, .int m_isKept, .ref m_anoticed, .ref m_aneeds, .ref m_aorder, .int m_many_2, .int m_one_2, .int m_two_2])), (m_anow, .inl (G 0, 55, .inl m_now)), (m_anoticed, .inl (G 0, 256, .inl m_noticed_2))] := hD
      refine lv_iload_n hx hb dX8_once_20 rfl (lv_at hl 2 rfl) ?_
      refine lv_iconst (v := -1) hx hb dX8_once_21 (by decide) ?_
      refine lv_icmp_ne (tgt := 32) hx hb dX8_once_22 (by decide) (fun c9 => ?_) (fun c9 => ?_)
      · replace hw := hw.1 c9
        refine lv_iload_n hx hb dX8_once_32 rfl (lv_at hl 2 rfl) ?_
        refine lv_if_ne (tgt := 43) hx hb dX8_once_33 (by decide) (fun c9 => ?_) (fun c9 => ?_)
        · replace hw := hw.1 c9
          refine lv_iload_n hx hb dX8_once_43 rfl (lv_at hl 2 rfl) ?_
          refine lv_iconst (v := 1) hx hb dX8_once_44 (by decide) ?_
          refine lv_icmp_ne (tgt := 55) hx hb dX8_once_45 (by decide) (fun c9 => ?_) (fun c9 => ?_)
          · replace hw := hw.1 c9
            refine lv_bipush (v := -4) hx hb dX8_once_55 (by decide) ?_
            exact W.iret hx hb hr (x_mi (u := (m_many_2, m_one_2, m_two_2, m_noticed_2)) hP hK hD hS hw) hS.2.2 dX8_once_57
          · replace hw := hw.2 c9
            refine lv_aload_n hx hb dX8_once_48 rfl (lv_at hl 0 rfl) ?_
            refine va_get (D := D) (ci := 8) (v := .int m_two_2) (C := RX8) (T := TX8) (N := 18) hx hb hts inX8 hown hK hP 0 rfl rfl 17 (by decide) fl159 (fun _ h9 => h9) rfl dX8_once_49 ?_
            refine lv_goto (tgt := 57) hx hb dX8_once_52 (by decide) ?_
            exact W.iret hx hb hr (x_mi (u := (m_many_2, m_one_2, m_two_2, m_noticed_2)) hP hK hD hS hw) hS.2.2 dX8_once_57
        · replace hw := hw.2 c9
          refine lv_aload_n hx hb dX8_once_36 rfl (lv_at hl 0 rfl) ?_
          refine va_get (D := D) (ci := 8) (v := .int m_one_2) (C := RX8) (T := TX8) (N := 18) hx hb hts inX8 hown hK hP 0 rfl rfl 16 (by decide) fl156 (fun _ h9 => h9) rfl dX8_once_37 ?_
          refine lv_goto (tgt := 57) hx hb dX8_once_40 (by decide) ?_
          exact W.iret hx hb hr (x_mi (u := (m_many_2, m_one_2, m_two_2, m_noticed_2)) hP hK hD hS hw) hS.2.2 dX8_once_57
      · replace hw := hw.2 c9
        refine lv_aload_n hx hb dX8_once_25 rfl (lv_at hl 0 rfl) ?_
        refine va_get (D := D) (ci := 8) (v := .int m_many_2) (C := RX8) (T := TX8) (N := 18) hx hb hts inX8 hown hK hP 0 rfl rfl 15 (by decide) fl153 (fun _ h9 => h9) rfl dX8_once_26 ?_
        refine lv_goto (tgt := 57) hx hb dX8_once_29 (by decide) ?_
        exact W.iret hx hb hr (x_mi (u := (m_many_2, m_one_2, m_two_2, m_noticed_2)) hP hK hD hS hw) hS.2.2 dX8_once_57
    · replace hw := hw.2 c9
      refine lv_iconst (v := -1) hx hb dX8_once_13 (by decide) ?_
      exact W.iret hx hb hr (x_mi (u := (m_many, m_one, m_two, m_noticed)) hP hK hD hS hw) hS.2.2 dX8_once_14
