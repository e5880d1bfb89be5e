set_option maxHeartbeats 4000000 in
set_option maxRecDepth 100000 in
theorem c_X8_item (l : Launch) (D : va_G) (G : Nat → ClassId) (sz : Nat) (m_mo : Nat) (m_alane : Nat) (m_asize : Nat) (m_aitem : Nat) (m_atape : Nat) (m_anow : Nat) (m_atried : Nat) (m_aread : Nat) (m_akept : Nat) (m_anoticed : Nat) (m_aneeds : Nat) (m_aorder : Nat) (m_letters : Int32) (m_position : Int32) (m_number : Int32) (m_isKept : Int32) (m_many : Int32) (m_one : Int32) (m_two : Int32) (m_lane : Nat → Int32) (m_size : Nat → Int32) (m_item : Nat → Int64) (x1 : Int32) (x2 : Int32) (x3 : Int32) (x4 : Int64) (post : Int32 → (Nat → Int64) → Prop) (hw : wp_X8_item m_lane m_size m_item x1 x2 x3 x4 post) : Met l yX8_item wsX8_item ({ frames := 2, cells := 0, slots := 0, locals := 46 } : Room) (va_Pc [.ref m_mo, .int x1, .int x2, .int x3, .long x4] (xM D G sz [(m_mo, .inr (8, [.ref m_alane, .ref m_asize, .ref m_aitem, .int m_letters, .ref m_atape, .int m_position, .int m_number, .ref m_anow, .ref m_atried, .ref m_aread, .ref m_akept, .int m_isKept, .ref m_anoticed, .ref m_aneeds, .ref m_aorder, .int m_many, .int m_one, .int m_two])), (m_alane, .inl (G 0, 4, .inl m_lane)), (m_asize, .inl (G 0, 4, .inl m_size)), (m_aitem, .inl (G 1, 96, .inr (.inl m_item)))])) (va_Qi (fun r (u : (Nat → Int64)) => post r u) (fun u t => xE D G (va_A [(m_mo, .inr (8, [.ref m_alane, .ref m_asize, .ref m_aitem, .int m_letters, .ref m_atape, .int m_position, .int m_number, .ref m_anow, .ref m_atried, .ref m_aread, .ref m_akept, .int m_isKept, .ref m_anoticed, .ref m_aneeds, .ref m_aorder, .int m_many, .int m_one, .int m_two])), (m_alane, .inl (G 0, 4, .inl m_lane)), (m_asize, .inl (G 0, 4, .inl m_size)), (m_aitem, .inl (G 1, 96, .inr (.inl m_item)))] sz) [(m_mo, .inr (8, [.ref m_alane, .ref m_asize, .ref m_aitem, .int m_letters, .ref m_atape, .int m_position, .int m_number, .ref m_anow, .ref m_atried, .ref m_aread, .ref m_akept, .int m_isKept, .ref m_anoticed, .ref m_aneeds, .ref m_aorder, .int m_many, .int m_one, .int m_two])), (m_alane, .inl (G 0, 4, .inl m_lane)), (m_asize, .inl (G 0, 4, .inl m_size)), (m_aitem, .inl (G 1, 96, .inr (.inl u)))] t) (va_A [(m_mo, .inr (8, [.ref m_alane, .ref m_asize, .ref m_aitem, .int m_letters, .ref m_atape, .int m_position, .int m_number, .ref m_anow, .ref m_atried, .ref m_aread, .ref m_akept, .int m_isKept, .ref m_anoticed, .ref m_aneeds, .ref m_aorder, .int m_many, .int m_one, .int m_two])), (m_alane, .inl (G 0, 4, .inl m_lane)), (m_asize, .inl (G 0, 4, .inl m_size)), (m_aitem, .inl (G 1, 96, .inr (.inl m_item)))] sz)) 0 0 (va_A [(m_mo, .inr (8, [.ref m_alane, .ref m_asize, .ref m_aitem, .int m_letters, .ref m_atape, .int m_position, .int m_number, .ref m_anow, .ref m_atried, .ref m_aread, .ref m_akept, .int m_isKept, .ref m_anoticed, .ref m_aneeds, .ref m_aorder, .int m_many, .int m_one, .int m_two])), (m_alane, .inl (G 0, 4, .inl m_lane)), (m_asize, .inl (G 0, 4, .inl m_size)), (m_aitem, .inl (G 1, 96, .inr (.inl m_item)))] sz) := by
  refine Met.ofW (cc := cX8_item) (maxL := 7) (ret := (some .int)) (by decide) rfl ?_
  intro p e s m args below meth c s₁ B hml hv
  obtain ⟨rfl, hsz, hP, hK, hD0⟩ := hv
  have hx := B.exec
  have hb := B.bytes
  have hr := B.returns
  have hts := atoms_spec (ws := wsX8_item) B.pre
  have hown : s.vm.findClass RX8 = some m.cls := findClass_of_methodNamed B.named
  have hlocks := B.notSynchronized
  subst hsz
  have hD := hD0.self (sz := s.heap.size)
  generalize hAe : va_A [(m_mo, .inr (8, [.ref m_alane, .ref m_asize, .ref m_aitem, .int m_letters, .ref m_atape, .int m_position, .int m_number, .ref m_anow, .ref m_atried, .ref m_aread, .ref m_akept, .int m_isKept, .ref m_anoticed, .ref m_aneeds, .ref m_aorder, .int m_many, .int m_one, .int m_two])), (m_alane, .inl (G 0, 4, .inl m_lane)), (m_asize, .inl (G 0, 4, .inl m_size)), (m_aitem, .inl (G 1, 96, .inr (.inl m_item)))] s.heap.size = A at hD ⊢
  have hA : ∀ q : Nat, s.heap.size ≤ q → A q := fun q h => by rw [← hAe]; exact Or.inr h
  have hS : va_S A s.heap s.heap [] := va_S.rf
  have inX8 : ∀ w ∈ wsX80, w ∈ wsX8_item := by decide +kernel
  have fl16 := hts (.fieldLink RX8 16 "NewsCowModel" "item" "[J") (by decide +kernel)
  have hl := lv_entry ([.ref m_mo, .int x1, .int x2, .int x3, .long x4] : List Value) (n := 7) (Nat.le_of_ble_eq_true rfl)
  rw [lg_entry_eq]
  generalize (lg_sl ([.ref m_mo, .int x1, .int x2, .int x3, .long x4] : List Value) ++ List.replicate (7 - (lg_sl ([.ref m_mo, .int x1, .int x2, .int x3, .long x4] : List Value)).length) Slot.unset).toArray = ls at hl ⊢
  have hl : lv_has ls 7 [(0, .ref m_mo), (1, .int x1), (2, .int x2), (3, .int x3), (4, .long x4)] := hl
  unfold wp_X8_item at hw
  refine lv_iload_n hx hb dX8_item_0 rfl (lv_at hl 1 rfl) ?_
  refine vp_callSi (W.runS (As := [.int x1]) (rest := []) ⟨hx, hb, hml, hown, hts⟩ (c_X8_isSheet l D G x1 _ hw) (va_cwS 1 hts gX8_item_X8_isSheet rfl rfl rfl (by decide +kernel) ⟨(Nat.le_of_ble_eq_true rfl), (Nat.le_of_ble_eq_true rfl)⟩) (xR_ps (hP.sub [] rfl) hK) rfl rfl hl.1 rfl (lv_room (Nat.le_of_ble_eq_true rfl)) dX8_item_1 ⟨Nat.zero_le _, Nat.zero_le _⟩) (fun r1 hw => ?_)
  refine lv_if_eq (tgt := 16) hx hb dX8_item_4 (by decide) (fun c9 => ?_) (fun c9 => ?_)
  · replace hw := hw.1 c9
    refine lv_iconst (v := -1) hx hb dX8_item_16 (by decide) ?_
    exact W.iret hx hb hr (x_mi (u := m_item) hP hK hD hS hw) hS.2.2 dX8_item_17
  · replace hw := hw.2 c9
    refine lv_iload_n hx hb dX8_item_7 rfl (lv_at hl 2 rfl) ?_
    refine lv_iconst (v := 0) hx hb dX8_item_8 (by decide) ?_
    refine lv_iconst (v := 3) hx hb dX8_item_9 (by decide) ?_
    refine vp_callSi (W.runS (As := [.int x2, .int (0 : Int32), .int (3 : Int32)]) (rest := []) ⟨hx, hb, hml, hown, hts⟩ (c_X8_in l D G x2 (0 : Int32) (3 : Int32) _ hw) (va_cwS 3 hts gX8_item_X8_in rfl rfl rfl (by decide +kernel) ⟨(Nat.le_of_ble_eq_true rfl), (Nat.le_of_ble_eq_true rfl)⟩) (xR_ps (hP.sub [] rfl) hK) rfl rfl hl.1 rfl (lv_room (Nat.le_of_ble_eq_true rfl)) dX8_item_10 ⟨Nat.zero_le _, Nat.zero_le _⟩) (fun r2 hw => ?_)
    refine lv_if_ne (tgt := 18) hx hb dX8_item_13 (by decide) (fun c9 => ?_) (fun c9 => ?_)
    · replace hw := hw.1 c9
      refine lv_aload_n hx hb dX8_item_18 rfl (lv_at hl 0 rfl) ?_
      refine lv_iload_n hx hb dX8_item_19 rfl (lv_at hl 1 rfl) ?_
      refine lv_iload_n hx hb dX8_item_20 rfl (lv_at hl 2 rfl) ?_
      refine lv_iload_n hx hb dX8_item_21 rfl (lv_at hl 3 rfl) ?_
      refine lv_iconst (v := 1) hx hb dX8_item_22 (by decide) ?_
      refine vp_callSi (W.runV (As := [.int x1, .int x2, .int x3, .int (1 : Int32)]) (rest := []) ⟨hx, hb, hml, hown, hts⟩ (c_X8_wrong l D G m_mo m_alane m_asize m_aitem m_atape m_anow m_atried m_aread m_akept m_anoticed m_aneeds m_aorder m_letters m_position m_number m_isKept m_many m_one m_two m_lane m_size x1 x2 x3 (1 : Int32) _ hw) (cwV 4 hts gX8_item_X8_wrong rfl rfl rfl (by decide +kernel) ⟨(Nat.le_of_ble_eq_true rfl), (Nat.le_of_ble_eq_true rfl)⟩) (xR_pv (hP.sub [0, 1, 2] rfl) hK (va_recv hK hP (ci := 8) (q0 := 0) rfl rfl)) rfl rfl hl.1 rfl (lv_room (Nat.le_of_ble_eq_true rfl)) dX8_item_23 ⟨Nat.zero_le _, Nat.zero_le _⟩) (fun r3 hw => ?_)
      refine lv_istore (lv' := [(6, .int r3), (0, .ref m_mo), (1, .int x1), (2, .int x2), (3, .int x3), (4, .long x4)]) hx hb dX8_item_26 hl (by decide) rfl (fun ls hl => ?_)
      refine lv_iload hx hb dX8_item_28 (lv_at hl 0 rfl) ?_
      refine lv_if_eq (tgt := 36) hx hb dX8_item_30 (by decide) (fun c9 => ?_) (fun c9 => ?_)
      · replace hw := hw.1 c9
        refine lv_aload_n hx hb dX8_item_36 rfl (lv_at hl 1 rfl) ?_
        refine va_get (D := D) (ci := 8) (v := .ref m_aitem) (C := RX8) (T := TX8) (N := 18) hx hb hts inX8 hown hK hP 0 rfl rfl 2 (by decide) fl16 (fun _ h9 => h9) rfl dX8_item_37 ?_
        refine lv_bipush (v := 24) hx hb dX8_item_40 (by decide) ?_
        refine lv_iload_n hx hb dX8_item_42 rfl (lv_at hl 2 rfl) ?_
        refine lv_imul hx hb dX8_item_43 ?_
        refine lv_iload_n hx hb dX8_item_44 rfl (lv_at hl 4 rfl) ?_
        refine lv_iadd hx hb dX8_item_45 ?_
        refine lv_iload_n hx hb dX8_item_46 rfl (lv_at hl 3 rfl) ?_
        refine lv_if_ne (tgt := 58) hx hb dX8_item_47 (by decide) (fun c9 => ?_) (fun c9 => ?_)
        · replace hw := hw.1 c9
          refine lv_iload_n hx hb dX8_item_58 rfl (lv_at hl 3 rfl) ?_
          refine lv_iconst (v := 1) hx hb dX8_item_59 (by decide) ?_
          refine lv_icmp_ne (tgt := 71) hx hb dX8_item_60 (by decide) (fun c9 => ?_) (fun c9 => ?_)
          · replace hw := hw.1 c9
            refine lv_iload_n hx hb dX8_item_71 rfl (lv_at hl 3 rfl) ?_
            refine lv_iconst (v := 2) hx hb dX8_item_72 (by decide) ?_
            refine lv_icmp_ne (tgt := 83) hx hb dX8_item_73 (by decide) (fun c9 => ?_) (fun c9 => ?_)
            · replace hw := hw.1 c9
              refine lv_lload hx hb dX8_item_83 (lv_at hl 5 rfl) ?_
              refine x_last (j := (((24 : Int32) * x1) + x3).toNatClampNeg) hx hb hK hP hD hS 3 1 rfl rfl rfl hw.1 dX8_item_85 (fun H locs hP hD hS => ?_)
              replace hw := hw.2
              replace hP : va_P D vwCl [(m_mo, .inr (8, [.ref m_alane, .ref m_asize, .ref m_aitem, .int m_letters, .ref m_atape, .int m_position, .int m_number, .ref m_anow, .ref m_atried, .ref m_aread, .ref m_akept, .int m_isKept, .ref m_anoticed, .ref m_aneeds, .ref m_aorder, .int m_many, .int m_one, .int m_two])), (m_alane, .inl (G 0, 4, .inl m_lane)), (m_asize, .inl (G 0, 4, .inl m_size)), (m_aitem, .inl (G 1, 96, .inr (.inl (vp_updL m_item (((24 : Int32) * x1) + x3).toNatClampNeg x4))))] H := hP
              replace hD : va_D A [(m_mo, .inr (8, [.ref m_alane, .ref m_asize, .ref m_aitem, .int m_letters, .ref m_atape, .int m_position, .int m_number, .ref m_anow, .ref m_atried, .ref m_aread, .ref m_akept, .int m_isKept, .ref m_anoticed, .ref m_aneeds, .ref m_aorder, .int m_many, .int m_one, .int m_two])), (m_alane, .inl (G 0, 4, .inl m_lane)), (m_asize, .inl (G 0, 4, .inl m_size)), (m_aitem, .inl (G 1, 96, .inr (.inl (vp_updL m_item (((24 : Int32) * x1) + x3).toNatClampNeg x4))))] := hD
              refine lv_iconst (v := 1) hx hb dX8_item_86 (by decide) ?_
              exact W.iret hx hb hr (x_mi (u := (vp_updL m_item (((24 : Int32) * x1) + x3).toNatClampNeg x4)) hP hK hD hS hw) hS.2.2 dX8_item_87
            · replace hw := hw.2 c9
              refine lv_lload hx hb dX8_item_76 (lv_at hl 5 rfl) ?_
              refine lv_l2i hx hb dX8_item_78 rfl ?_
              refine lv_i2l hx hb dX8_item_79 rfl ?_
              refine lv_goto (tgt := 85) hx hb dX8_item_80 (by decide) ?_
              refine x_last (j := (((24 : Int32) * x1) + x3).toNatClampNeg) hx hb hK hP hD hS 3 1 rfl rfl rfl hw.1 dX8_item_85 (fun H locs hP hD hS => ?_)
              replace hw := hw.2
              replace hP : va_P D vwCl [(m_mo, .inr (8, [.ref m_alane, .ref m_asize, .ref m_aitem, .int m_letters, .ref m_atape, .int m_position, .int m_number, .ref m_anow, .ref m_atried, .ref m_aread, .ref m_akept, .int m_isKept, .ref m_anoticed, .ref m_aneeds, .ref m_aorder, .int m_many, .int m_one, .int m_two])), (m_alane, .inl (G 0, 4, .inl m_lane)), (m_asize, .inl (G 0, 4, .inl m_size)), (m_aitem, .inl (G 1, 96, .inr (.inl (vp_updL m_item (((24 : Int32) * x1) + x3).toNatClampNeg ((x4.toInt32).toInt64)))))] H := hP
              replace hD : va_D A [(m_mo, .inr (8, [.ref m_alane, .ref m_asize, .ref m_aitem, .int m_letters, .ref m_atape, .int m_position, .int m_number, .ref m_anow, .ref m_atried, .ref m_aread, .ref m_akept, .int m_isKept, .ref m_anoticed, .ref m_aneeds, .ref m_aorder, .int m_many, .int m_one, .int m_two])), (m_alane, .inl (G 0, 4, .inl m_lane)), (m_asize, .inl (G 0, 4, .inl m_size)), (m_aitem, .inl (G 1, 96, .inr (.inl (vp_updL m_item (((24 : Int32) * x1) + x3).toNatClampNeg ((x4.toInt32).toInt64)))))] := hD
              refine lv_iconst (v := 1) hx hb dX8_item_86 (by decide) ?_
              exact W.iret hx hb hr (x_mi (u := (vp_updL m_item (((24 : Int32) * x1) + x3).toNatClampNeg ((x4.toInt32).toInt64))) hP hK hD hS hw) hS.2.2 dX8_item_87
          · replace hw := hw.2 c9
            refine lv_lload hx hb dX8_item_63 (lv_at hl 5 rfl) ?_
            refine lv_l2i hx hb dX8_item_65 rfl ?_
            refine lv_i2s hx hb dX8_item_66 rfl ?_
            refine lv_i2l hx hb dX8_item_67 rfl ?_
            refine lv_goto (tgt := 85) hx hb dX8_item_68 (by decide) ?_
            refine x_last (j := (((24 : Int32) * x1) + x3).toNatClampNeg) hx hb hK hP hD hS 3 1 rfl rfl rfl hw.1 dX8_item_85 (fun H locs hP hD hS => ?_)
            replace hw := hw.2
            replace hP : va_P D vwCl [(m_mo, .inr (8, [.ref m_alane, .ref m_asize, .ref m_aitem, .int m_letters, .ref m_atape, .int m_position, .int m_number, .ref m_anow, .ref m_atried, .ref m_aread, .ref m_akept, .int m_isKept, .ref m_anoticed, .ref m_aneeds, .ref m_aorder, .int m_many, .int m_one, .int m_two])), (m_alane, .inl (G 0, 4, .inl m_lane)), (m_asize, .inl (G 0, 4, .inl m_size)), (m_aitem, .inl (G 1, 96, .inr (.inl (vp_updL m_item (((24 : Int32) * x1) + x3).toNatClampNeg (((x4.toInt32).toInt16.toInt32).toInt64)))))] H := hP
            replace hD : va_D A [(m_mo, .inr (8, [.ref m_alane, .ref m_asize, .ref m_aitem, .int m_letters, .ref m_atape, .int m_position, .int m_number, .ref m_anow, .ref m_atried, .ref m_aread, .ref m_akept, .int m_isKept, .ref m_anoticed, .ref m_aneeds, .ref m_aorder, .int m_many, .int m_one, .int m_two])), (m_alane, .inl (G 0, 4, .inl m_lane)), (m_asize, .inl (G 0, 4, .inl m_size)), (m_aitem, .inl (G 1, 96, .inr (.inl (vp_updL m_item (((24 : Int32) * x1) + x3).toNatClampNeg (((x4.toInt32).toInt16.toInt32).toInt64)))))] := hD
            refine lv_iconst (v := 1) hx hb dX8_item_86 (by decide) ?_
            exact W.iret hx hb hr (x_mi (u := (vp_updL m_item (((24 : Int32) * x1) + x3).toNatClampNeg (((x4.toInt32).toInt16.toInt32).toInt64))) hP hK hD hS hw) hS.2.2 dX8_item_87
        · replace hw := hw.2 c9
          refine lv_lload hx hb dX8_item_50 (lv_at hl 5 rfl) ?_
          refine lv_l2i hx hb dX8_item_52 rfl ?_
          refine lv_i2b hx hb dX8_item_53 rfl ?_
          refine lv_i2l hx hb dX8_item_54 rfl ?_
          refine lv_goto (tgt := 85) hx hb dX8_item_55 (by decide) ?_
          refine x_last (j := (((24 : Int32) * x1) + x3).toNatClampNeg) hx hb hK hP hD hS 3 1 rfl rfl rfl hw.1 dX8_item_85 (fun H locs hP hD hS => ?_)
          replace hw := hw.2
          replace hP : va_P D vwCl [(m_mo, .inr (8, [.ref m_alane, .ref m_asize, .ref m_aitem, .int m_letters, .ref m_atape, .int m_position, .int m_number, .ref m_anow, .ref m_atried, .ref m_aread, .ref m_akept, .int m_isKept, .ref m_anoticed, .ref m_aneeds, .ref m_aorder, .int m_many, .int m_one, .int m_two])), (m_alane, .inl (G 0, 4, .inl m_lane)), (m_asize, .inl (G 0, 4, .inl m_size)), (m_aitem, .inl (G 1, 96, .inr (.inl (vp_updL m_item (((24 : Int32) * x1) + x3).toNatClampNeg (((x4.toInt32).toInt8.toInt32).toInt64)))))] H := hP
          replace hD : va_D A [(m_mo, .inr (8, [.ref m_alane, .ref m_asize, .ref m_aitem, .int m_letters, .ref m_atape, .int m_position, .int m_number, .ref m_anow, .ref m_atried, .ref m_aread, .ref m_akept, .int m_isKept, .ref m_anoticed, .ref m_aneeds, .ref m_aorder, .int m_many, .int m_one, .int m_two])), (m_alane, .inl (G 0, 4, .inl m_lane)), (m_asize, .inl (G 0, 4, .inl m_size)), (m_aitem, .inl (G 1, 96, .inr (.inl (vp_updL m_item (((24 : Int32) * x1) + x3).toNatClampNeg (((x4.toInt32).toInt8.toInt32).toInt64)))))] := hD
          refine lv_iconst (v := 1) hx hb dX8_item_86 (by decide) ?_
          exact W.iret hx hb hr (x_mi (u := (vp_updL m_item (((24 : Int32) * x1) + x3).toNatClampNeg (((x4.toInt32).toInt8.toInt32).toInt64))) hP hK hD hS hw) hS.2.2 dX8_item_87
      · replace hw := hw.2 c9
        refine lv_iload hx hb dX8_item_33 (lv_at hl 0 rfl) ?_
        exact W.iret hx hb hr (x_mi (u := m_item) hP hK hD hS hw) hS.2.2 dX8_item_35
    · replace hw := hw.2 c9
      refine lv_iconst (v := -1) hx hb dX8_item_16 (by decide) ?_
      exact W.iret hx hb hr (x_mi (u := m_item) hP hK hD hS hw) hS.2.2 dX8_item_17
set_option maxHeartbeats 4000000 in
set_option maxRecDepth 100000 in
theorem c_X8_copy (l : Launch) (D : va_G) (G : Nat → ClassId) (sz : Nat) (m_mo : Nat) (m_alane : Nat) (m_asize : Nat) (m_aitem : Nat) (m_atape : Nat) (m_anow : Nat) (m_atried : Nat) (m_aread : Nat) (m_akept : Nat) (m_anoticed : Nat) (m_aneeds : Nat) (m_aorder : Nat) (m_letters : Int32) (m_position : Int32) (m_number : Int32) (m_isKept : Int32) (m_many : Int32) (m_one : Int32) (m_two : Int32) (m_lane : Nat → Int32) (m_size : Nat → Int32) (m_item : Nat → Int64) (x1 : Int32) (x2 : Int32) (x3 : Int32) (x4 : Int32) (x5 : Int32) (post : Int32 → (Nat → Int64) → Prop) (hw : wp_X8_copy m_lane m_size m_item x1 x2 x3 x4 x5 post) : Met l yX8_copy wsX8_copy ({ frames := 2, cells := 0, slots := 0, locals := 42 } : Room) (va_Pc [.ref m_mo, .int x1, .int x2, .int x3, .int x4, .int x5] (xM D G sz [(m_mo, .inr (8, [.ref m_alane, .ref m_asize, .ref m_aitem, .int m_letters, .ref m_atape, .int m_position, .int m_number, .ref m_anow, .ref m_atried, .ref m_aread, .ref m_akept, .int m_isKept, .ref m_anoticed, .ref m_aneeds, .ref m_aorder, .int m_many, .int m_one, .int m_two])), (m_alane, .inl (G 0, 4, .inl m_lane)), (m_asize, .inl (G 0, 4, .inl m_size)), (m_aitem, .inl (G 1, 96, .inr (.inl m_item)))])) (va_Qi (fun r (u : (Nat → Int64)) => post r u) (fun u t => xE D G (va_A [(m_mo, .inr (8, [.ref m_alane, .ref m_asize, .ref m_aitem, .int m_letters, .ref m_atape, .int m_position, .int m_number, .ref m_anow, .ref m_atried, .ref m_aread, .ref m_akept, .int m_isKept, .ref m_anoticed, .ref m_aneeds, .ref m_aorder, .int m_many, .int m_one, .int m_two])), (m_alane, .inl (G 0, 4, .inl m_lane)), (m_asize, .inl (G 0, 4, .inl m_size)), (m_aitem, .inl (G 1, 96, .inr (.inl m_item)))] sz) [(m_mo, .inr (8, [.ref m_alane, .ref m_asize, .ref m_aitem, .int m_letters, .ref m_atape, .int m_position, .int m_number, .ref m_anow, .ref m_atried, .ref m_aread, .ref m_akept, .int m_isKept, .ref m_anoticed, .ref m_aneeds, .ref m_aorder, .int m_many, .int m_one, .int m_two])), (m_alane, .inl (G 0, 4, .inl m_lane)), (m_asize, .inl (G 0, 4, .inl m_size)), (m_aitem, .inl (G 1, 96, .inr (.inl u)))] t) (va_A [(m_mo, .inr (8, [.ref m_alane, .ref m_asize, .ref m_aitem, .int m_letters, .ref m_atape, .int m_position, .int m_number, .ref m_anow, .ref m_atried, .ref m_aread, .ref m_akept, .int m_isKept, .ref m_anoticed, .ref m_aneeds, .ref m_aorder, .int m_many, .int m_one, .int m_two])), (m_alane, .inl (G 0, 4, .inl m_lane)), (m_asize, .inl (G 0, 4, .inl m_size)), (m_aitem, .inl (G 1, 96, .inr (.inl m_item)))] sz)) 0 0 (va_A [(m_mo, .inr (8, [.ref m_alane, .ref m_asize, .ref m_aitem, .int m_letters, .ref m_atape, .int m_position, .int m_number, .ref m_anow, .ref m_atried, .ref m_aread, .ref m_akept, .int m_isKept, .ref m_anoticed, .ref m_aneeds, .ref m_aorder, .int m_many, .int m_one, .int m_two])), (m_alane, .inl (G 0, 4, .inl m_lane)), (m_asize, .inl (G 0, 4, .inl m_size)), (m_aitem, .inl (G 1, 96, .inr (.inl m_item)))] sz) := by
  refine Met.ofW (cc := cX8_copy) (maxL := 9) (ret := (some .int)) (by decide) rfl ?_
  intro p e s m args below meth c s₁ B hml hv
  obtain ⟨rfl, hsz, hP, hK, hD0⟩ := hv
  have hx := B.exec
  have hb := B.bytes
  have hr := B.returns
  have hts := atoms_spec (ws := wsX8_copy) B.pre
  have hown : s.vm.findClass RX8 = some m.cls := findClass_of_methodNamed B.named
  have hlocks := B.notSynchronized
  subst hsz
  have hD := hD0.self (sz := s.heap.size)
  generalize hAe : va_A [(m_mo, .inr (8, [.ref m_alane, .ref m_asize, .ref m_aitem, .int m_letters, .ref m_atape, .int m_position, .int m_number, .ref m_anow, .ref m_atried, .ref m_aread, .ref m_akept, .int m_isKept, .ref m_anoticed, .ref m_aneeds, .ref m_aorder, .int m_many, .int m_one, .int m_two])), (m_alane, .inl (G 0, 4, .inl m_lane)), (m_asize, .inl (G 0, 4, .inl m_size)), (m_aitem, .inl (G 1, 96, .inr (.inl m_item)))] s.heap.size = A at hD ⊢
  have hA : ∀ q : Nat, s.heap.size ≤ q → A q := fun q h => by rw [← hAe]; exact Or.inr h
  have hS : va_S A s.heap s.heap [] := va_S.rf
  have inX8 : ∀ w ∈ wsX80, w ∈ wsX8_copy := by decide +kernel
  have fl7 := hts (.fieldLink RX8 7 "NewsCowModel" "lane" "[I") (by decide +kernel)
  have fl13 := hts (.fieldLink RX8 13 "NewsCowModel" "size" "[I") (by decide +kernel)
  have fl16 := hts (.fieldLink RX8 16 "NewsCowModel" "item" "[J") (by decide +kernel)
  have hl := lv_entry ([.ref m_mo, .int x1, .int x2, .int x3, .int x4, .int x5] : List Value) (n := 9) (Nat.le_of_ble_eq_true rfl)
  rw [lg_entry_eq]
  generalize (lg_sl ([.ref m_mo, .int x1, .int x2, .int x3, .int x4, .int x5] : List Value) ++ List.replicate (9 - (lg_sl ([.ref m_mo, .int x1, .int x2, .int x3, .int x4, .int x5] : List Value)).length) Slot.unset).toArray = ls at hl ⊢
  have hl : lv_has ls 9 [(0, .ref m_mo), (1, .int x1), (2, .int x2), (3, .int x3), (4, .int x4), (5, .int x5)] := hl
  unfold wp_X8_copy at hw
  have L110 : ∀ (f110 : Nat) (x6 : Int32) (x7 : Int32) (m_item : Nat → Int64) (H : Heap) (locs : List Loc) (ls : Array Slot), wp_X8_copy_L110 x1 x2 x3 x4 x5 x6 post f110 m_item x7 → va_P D vwCl [(m_mo, .inr (8, [.ref m_alane, .ref m_asize, .ref m_aitem, .int m_letters, .ref m_atape, .int m_position, .int m_number, .ref m_anow, .ref m_atried, .ref m_aread, .ref m_akept, .int m_isKept, .ref m_anoticed, .ref m_aneeds, .ref m_aorder, .int m_many, .int m_one, .int m_two])), (m_alane, .inl (G 0, 4, .inl m_lane)), (m_asize, .inl (G 0, 4, .inl m_size)), (m_aitem, .inl (G 1, 96, .inr (.inl m_item)))] H → va_D A [(m_mo, .inr (8, [.ref m_alane, .ref m_asize, .ref m_aitem, .int m_letters, .ref m_atape, .int m_position, .int m_number, .ref m_anow, .ref m_atried, .ref m_aread, .ref m_akept, .int m_isKept, .ref m_anoticed, .ref m_aneeds, .ref m_aorder, .int m_many, .int m_one, .int m_two])), (m_alane, .inl (G 0, 4, .inl m_lane)), (m_asize, .inl (G 0, 4, .inl m_size)), (m_aitem, .inl (G 1, 96, .inr (.inl m_item)))] → va_S A s.heap H locs → lv_has ls 9 [(0, .ref m_mo), (1, .int x1), (2, .int x2), (3, .int x3), (4, .int x4), (5, .int x5), (6, .int x6), (7, .int x7)] → W p l e (headSpec wsX8_copy ({ frames := 2, cells := 0, slots := 0, locals := 42 } : Room)).room s m ([.ref m_mo, .int x1, .int x2, .int x3, .int x4, .int x5] : List Value).toArray below meth c H locs 0 0 (MQ below (va_Qi (fun r (u : (Nat → Int64)) => post r u) (fun u t => xE D G A [(m_mo, .inr (8, [.ref m_alane, .ref m_asize, .ref m_aitem, .int m_letters, .ref m_atape, .int m_position, .int m_number, .ref m_anow, .ref m_atried, .ref m_aread, .ref m_akept, .int m_isKept, .ref m_anoticed, .ref m_aneeds, .ref m_aorder, .int m_many, .int m_one, .int m_two])), (m_alane, .inl (G 0, 4, .inl m_lane)), (m_asize, .inl (G 0, 4, .inl m_size)), (m_aitem, .inl (G 1, 96, .inr (.inl u)))] t) A) ([.ref m_mo, .int x1, .int x2, .int x3, .int x4, .int x5] : List Value).toArray s 0 0 A) (F0 m 110 ls []) := by
    intro f110
    induction f110 with
    | zero => intro x6 x7 m_item H locs ls hw hP hD hS hl; exact (hw : False).elim
    | succ f110 ih110 =>
      intro x6 x7 m_item H locs ls hw hP hD hS hl
      unfold wp_X8_copy_L110 at hw
      have J134 : ∀ (x6 : Int32) (x7 : Int32) (k0 : Int32) (m_item : Nat → Int64) (H : Heap) (locs : List Loc) (ls : Array Slot), wp_X8_copy_J134 m_item x1 x2 x3 x4 x7 k0 (wp_X8_copy_L110 x1 x2 x3 x4 x5 x6 post f110) post → va_P D vwCl [(m_mo, .inr (8, [.ref m_alane, .ref m_asize, .ref m_aitem, .int m_letters, .ref m_atape, .int m_position, .int m_number, .ref m_anow, .ref m_atried, .ref m_aread, .ref m_akept, .int m_isKept, .ref m_anoticed, .ref m_aneeds, .ref m_aorder, .int m_many, .int m_one, .int m_two])), (m_alane, .inl (G 0, 4, .inl m_lane)), (m_asize, .inl (G 0, 4, .inl m_size)), (m_aitem, .inl (G 1, 96, .inr (.inl m_item)))] H → va_D A [(m_mo, .inr (8, [.ref m_alane, .ref m_asize, .ref m_aitem, .int m_letters, .ref m_atape, .int m_position, .int m_number, .ref m_anow, .ref m_atried, .ref m_aread, .ref m_akept, .int m_isKept, .ref m_anoticed, .ref m_aneeds, .ref m_aorder, .int m_many, .int m_one, .int m_two])), (m_alane, .inl (G 0, 4, .inl m_lane)), (m_asize, .inl (G 0, 4, .inl m_size)), (m_aitem, .inl (G 1, 96, .inr (.inl m_item)))] → va_S A s.heap H locs → lv_has ls 9 [(0, .ref m_mo), (1, .int x1), (2, .int x2), (3, .int x3), (4, .int x4), (5, .int x5), (6, .int x6), (7, .int x7)] → W p l e (headSpec wsX8_copy ({ frames := 2, cells := 0, slots := 0, locals := 42 } : Room)).room s m ([.ref m_mo, .int x1, .int x2, .int x3, .int x4, .int x5] : List Value).toArray below meth c H locs 0 0 (MQ below (va_Qi (fun r (u : (Nat → Int64)) => post r u) (fun u t => xE D G A [(m_mo, .inr (8, [.ref m_alane, .ref m_asize, .ref m_aitem, .int m_letters, .ref m_atape, .int m_position, .int m_number, .ref m_anow, .ref m_atried, .ref m_aread, .ref m_akept, .int m_isKept, .ref m_anoticed, .ref m_aneeds, .ref m_aorder, .int m_many, .int m_one, .int m_two])), (m_alane, .inl (G 0, 4, .inl m_lane)), (m_asize, .inl (G 0, 4, .inl m_size)), (m_aitem, .inl (G 1, 96, .inr (.inl u)))] t) A) ([.ref m_mo, .int x1, .int x2, .int x3, .int x4, .int x5] : List Value).toArray s 0 0 A) (F0 m 134 ls [.int k0]) := by
        intro x6 x7 k0 m_item H locs ls hw hP hD hS hl
        unfold wp_X8_copy_J134 at hw
        refine lv_istore (lv' := [(8, .int k0), (0, .ref m_mo), (1, .int x1), (2, .int x2), (3, .int x3), (4, .int x4), (5, .int x5), (6, .int x6), (7, .int x7)]) hx hb dX8_copy_134 hl (by decide) rfl (fun ls hl => ?_)
        refine lv_aload_n hx hb dX8_copy_136 rfl (lv_at hl 1 rfl) ?_
        refine va_get (D := D) (ci := 8) (v := .ref m_aitem) (C := RX8) (T := TX8) (N := 18) hx hb hts inX8 hown hK hP 0 rfl rfl 2 (by decide) fl16 (fun _ h9 => h9) rfl dX8_copy_137 ?_
        refine lv_bipush (v := 24) hx hb dX8_copy_140 (by decide) ?_
        refine lv_iload_n hx hb dX8_copy_142 rfl (lv_at hl 4 rfl) ?_
        refine lv_imul hx hb dX8_copy_143 ?_
        refine lv_iload hx hb dX8_copy_144 (lv_at hl 5 rfl) ?_
        refine lv_iadd hx hb dX8_copy_146 ?_
        refine lv_iload hx hb dX8_copy_147 (lv_at hl 0 rfl) ?_
        refine lv_iadd hx hb dX8_copy_149 ?_
        refine lv_aload_n hx hb dX8_copy_150 rfl (lv_at hl 1 rfl) ?_
        refine va_get (D := D) (ci := 8) (v := .ref m_aitem) (C := RX8) (T := TX8) (N := 18) hx hb hts inX8 hown hK hP 0 rfl rfl 2 (by decide) fl16 (fun _ h9 => h9) rfl dX8_copy_151 ?_
        refine lv_bipush (v := 24) hx hb dX8_copy_154 (by decide) ?_
        refine lv_iload_n hx hb dX8_copy_156 rfl (lv_at hl 2 rfl) ?_
        refine lv_imul hx hb dX8_copy_157 ?_
        refine lv_iload_n hx hb dX8_copy_158 rfl (lv_at hl 3 rfl) ?_
        refine lv_iadd hx hb dX8_copy_159 ?_
        refine lv_iload hx hb dX8_copy_160 (lv_at hl 0 rfl) ?_
        refine lv_iadd hx hb dX8_copy_162 ?_
        refine x_lald (j := ((((24 : Int32) * x1) + x2) + k0).toNatClampNeg) hx hb hK hP 3 1 rfl rfl rfl hw.1 dX8_copy_163 ?_
        replace hw := hw.2
        refine x_last (j := ((((24 : Int32) * x3) + x4) + k0).toNatClampNeg) hx hb hK hP hD hS 3 1 rfl rfl rfl hw.1 dX8_copy_164 (fun H locs hP hD hS => ?_)
        replace hw := hw.2
        replace hP : va_P D vwCl [(m_mo, .inr (8, [.ref m_alane, .ref m_asize, .ref m_aitem, .int m_letters, .ref m_atape, .int m_position, .int m_number, .ref m_anow, .ref m_atried, .ref m_aread, .ref m_akept, .int m_isKept, .ref m_anoticed, .ref m_aneeds, .ref m_aorder, .int m_many, .int m_one, .int m_two])), (m_alane, .inl (G 0, 4, .inl m_lane)), (m_asize, .inl (G 0, 4, .inl m_size)), (m_aitem, .inl (G 1, 96, .inr (.inl (vp_updL m_item ((((24 : Int32) * x3) + x4) + k0).toNatClampNeg (m_item ((((24 : Int32) * x1) + x2) + k0).toNatClampNeg)))))] H := hP
        replace hD : va_D A [(m_mo, .inr (8, [.ref m_alane, .ref m_asize, .ref m_aitem, .int m_letters, .ref m_atape, .int m_position, .int m_number, .ref m_anow, .ref m_atried, .ref m_aread, .ref m_akept, .int m_isKept, .ref m_anoticed, .ref m_aneeds, .ref m_aorder, .int m_many, .int m_one, .int m_two])), (m_alane, .inl (G 0, 4, .inl m_lane)), (m_asize, .inl (G 0, 4, .inl m_size)), (m_aitem, .inl (G 1, 96, .inr (.inl (vp_updL m_item ((((24 : Int32) * x3) + x4) + k0).toNatClampNeg (m_item ((((24 : Int32) * x1) + x2) + k0).toNatClampNeg)))))] := hD
        refine lv_iinc (v := (x7 + 1)) (lv' := [(7, .int (x7 + 1)), (8, .int k0), (0, .ref m_mo), (1, .int x1), (2, .int x2), (3, .int x3), (4, .int x4), (5, .int x5), (6, .int x6)]) hx hb dX8_copy_165 hl (k := 8) rfl (by first | rfl | decide) (by decide) rfl (fun ls hl => ?_)
        refine lv_goto (tgt := 110) hx hb dX8_copy_168 (by decide) ?_
        exact ih110 x6 (x7 + 1) (vp_updL m_item ((((24 : Int32) * x3) + x4) + k0).toNatClampNeg (m_item ((((24 : Int32) * x1) + x2) + k0).toNatClampNeg)) _ _ _ hw hP hD hS (lv_sub hl [2, 3, 4, 5, 6, 7, 8, 0] rfl)
      refine lv_iload hx hb dX8_copy_110 (lv_at hl 7 rfl) ?_
      refine lv_iload hx hb dX8_copy_112 (lv_at hl 5 rfl) ?_
      refine lv_icmp_ge (tgt := 171) hx hb dX8_copy_114 (by decide) (fun c9 => ?_) (fun c9 => ?_)
      · replace hw := hw.1 c9
        refine lv_iload hx hb dX8_copy_171 (lv_at hl 5 rfl) ?_
        exact W.iret hx hb hr (x_mi (u := m_item) hP hK hD hS hw) hS.2.2 dX8_copy_173
      · replace hw := hw.2 c9
        refine lv_iload hx hb dX8_copy_117 (lv_at hl 6 rfl) ?_
        refine lv_if_eq (tgt := 132) hx hb dX8_copy_119 (by decide) (fun c9 => ?_) (fun c9 => ?_)
        · replace hw := hw.1 c9
          refine lv_iload hx hb dX8_copy_132 (lv_at hl 7 rfl) ?_
          exact J134 x6 x7 x7 m_item _ _ _ hw hP hD hS (lv_sub hl [0, 1, 2, 3, 4, 5, 6, 7] rfl)
        · replace hw := hw.2 c9
          refine lv_iload hx hb dX8_copy_122 (lv_at hl 5 rfl) ?_
          refine lv_iconst (v := 1) hx hb dX8_copy_124 (by decide) ?_
          refine lv_isub hx hb dX8_copy_125 ?_
          refine lv_iload hx hb dX8_copy_126 (lv_at hl 7 rfl) ?_
          refine lv_isub hx hb dX8_copy_128 ?_
          refine lv_goto (tgt := 134) hx hb dX8_copy_129 (by decide) ?_
          exact J134 x6 x7 ((x5 - (1 : Int32)) - x7) m_item _ _ _ hw hP hD hS (lv_sub hl [0, 1, 2, 3, 4, 5, 6, 7] rfl)
  refine lv_iload_n hx hb dX8_copy_0 rfl (lv_at hl 1 rfl) ?_
  refine vp_callSi (W.runS (As := [.int x1]) (rest := []) ⟨hx, hb, hml, hown, hts⟩ (c_X8_isSheet l D G x1 _ hw) (va_cwS 1 hts gX8_copy_X8_isSheet rfl rfl rfl (by decide +kernel) ⟨(Nat.le_of_ble_eq_true rfl), (Nat.le_of_ble_eq_true rfl)⟩) (xR_ps (hP.sub [] rfl) hK) rfl rfl hl.1 rfl (lv_room (Nat.le_of_ble_eq_true rfl)) dX8_copy_1 ⟨Nat.zero_le _, Nat.zero_le _⟩) (fun r1 hw => ?_)
  refine lv_if_eq (tgt := 14) hx hb dX8_copy_4 (by decide) (fun c9 => ?_) (fun c9 => ?_)
  · replace hw := hw.1 c9
    refine lv_iconst (v := -1) hx hb dX8_copy_14 (by decide) ?_
    exact W.iret hx hb hr (x_mi (u := m_item) hP hK hD hS hw) hS.2.2 dX8_copy_15
  · replace hw := hw.2 c9
    refine lv_iload_n hx hb dX8_copy_7 rfl (lv_at hl 3 rfl) ?_
    refine vp_callSi (W.runS (As := [.int x3]) (rest := []) ⟨hx, hb, hml, hown, hts⟩ (c_X8_isSheet l D G x3 _ hw) (va_cwS 1 hts gX8_copy_X8_isSheet rfl rfl rfl (by decide +kernel) ⟨(Nat.le_of_ble_eq_true rfl), (Nat.le_of_ble_eq_true rfl)⟩) (xR_ps (hP.sub [] rfl) hK) rfl rfl hl.1 rfl (lv_room (Nat.le_of_ble_eq_true rfl)) dX8_copy_8 ⟨Nat.zero_le _, Nat.zero_le _⟩) (fun r2 hw => ?_)
    refine lv_if_ne (tgt := 16) hx hb dX8_copy_11 (by decide) (fun c9 => ?_) (fun c9 => ?_)
    · replace hw := hw.1 c9
      refine lv_aload_n hx hb dX8_copy_16 rfl (lv_at hl 0 rfl) ?_
      refine va_get (D := D) (ci := 8) (v := .ref m_alane) (C := RX8) (T := TX8) (N := 18) hx hb hts inX8 hown hK hP 0 rfl rfl 0 (by decide) fl7 (fun _ h9 => h9) rfl dX8_copy_17 ?_
      refine lv_iload_n hx hb dX8_copy_20 rfl (lv_at hl 1 rfl) ?_
      refine x_iald (j := x1.toNatClampNeg) hx hb hK hP 1 0 rfl rfl rfl hw.1 dX8_copy_21 ?_
      replace hw := hw.2
      refine lv_if_lt (tgt := 34) hx hb dX8_copy_22 (by decide) (fun c9 => ?_) (fun c9 => ?_)
      · replace hw := hw.1 c9
        refine lv_bipush (v := -11) hx hb dX8_copy_34 (by decide) ?_
        exact W.iret hx hb hr (x_mi (u := m_item) hP hK hD hS hw) hS.2.2 dX8_copy_36
      · replace hw := hw.2 c9
        refine lv_aload_n hx hb dX8_copy_25 rfl (lv_at hl 0 rfl) ?_
        refine va_get (D := D) (ci := 8) (v := .ref m_alane) (C := RX8) (T := TX8) (N := 18) hx hb hts inX8 hown hK hP 0 rfl rfl 0 (by decide) fl7 (fun _ h9 => h9) rfl dX8_copy_26 ?_
        refine lv_iload_n hx hb dX8_copy_29 rfl (lv_at hl 3 rfl) ?_
        refine x_iald (j := x3.toNatClampNeg) hx hb hK hP 1 0 rfl rfl rfl hw.1 dX8_copy_30 ?_
        replace hw := hw.2
        refine lv_if_ge (tgt := 37) hx hb dX8_copy_31 (by decide) (fun c9 => ?_) (fun c9 => ?_)
        · replace hw := hw.1 c9
          refine lv_aload_n hx hb dX8_copy_37 rfl (lv_at hl 0 rfl) ?_
          refine va_get (D := D) (ci := 8) (v := .ref m_alane) (C := RX8) (T := TX8) (N := 18) hx hb hts inX8 hown hK hP 0 rfl rfl 0 (by decide) fl7 (fun _ h9 => h9) rfl dX8_copy_38 ?_
          refine lv_iload_n hx hb dX8_copy_41 rfl (lv_at hl 1 rfl) ?_
          refine x_iald (j := x1.toNatClampNeg) hx hb hK hP 1 0 rfl rfl rfl hw.1 dX8_copy_42 ?_
          replace hw := hw.2
          refine lv_aload_n hx hb dX8_copy_43 rfl (lv_at hl 0 rfl) ?_
          refine va_get (D := D) (ci := 8) (v := .ref m_alane) (C := RX8) (T := TX8) (N := 18) hx hb hts inX8 hown hK hP 0 rfl rfl 0 (by decide) fl7 (fun _ h9 => h9) rfl dX8_copy_44 ?_
          refine lv_iload_n hx hb dX8_copy_47 rfl (lv_at hl 3 rfl) ?_
          refine x_iald (j := x3.toNatClampNeg) hx hb hK hP 1 0 rfl rfl rfl hw.1 dX8_copy_48 ?_
          replace hw := hw.2
          refine lv_icmp_eq (tgt := 55) hx hb dX8_copy_49 (by decide) (fun c9 => ?_) (fun c9 => ?_)
          · replace hw := hw.1 c9
            refine lv_iload_n hx hb dX8_copy_55 rfl (lv_at hl 2 rfl) ?_
            refine lv_iload hx hb dX8_copy_56 (lv_at hl 5 rfl) ?_
            refine lv_aload_n hx hb dX8_copy_58 rfl (lv_at hl 0 rfl) ?_
            refine va_get (D := D) (ci := 8) (v := .ref m_asize) (C := RX8) (T := TX8) (N := 18) hx hb hts inX8 hown hK hP 0 rfl rfl 1 (by decide) fl13 (fun _ h9 => h9) rfl dX8_copy_59 ?_
            refine lv_iload_n hx hb dX8_copy_62 rfl (lv_at hl 1 rfl) ?_
            refine x_iald (j := x1.toNatClampNeg) hx hb hK hP 2 0 rfl rfl rfl hw.1 dX8_copy_63 ?_
            replace hw := hw.2
            refine vp_callSi (W.runS (As := [.int x2, .int x5, .int (m_size x1.toNatClampNeg)]) (rest := []) ⟨hx, hb, hml, hown, hts⟩ (c_X8_isPart l D G x2 x5 (m_size x1.toNatClampNeg) _ hw) (va_cwS 3 hts gX8_copy_X8_isPart rfl rfl rfl (by decide +kernel) ⟨(Nat.le_of_ble_eq_true rfl), (Nat.le_of_ble_eq_true rfl)⟩) (xR_ps (hP.sub [] rfl) hK) rfl rfl hl.1 rfl (lv_room (Nat.le_of_ble_eq_true rfl)) dX8_copy_64 ⟨Nat.zero_le _, Nat.zero_le _⟩) (fun r3 hw => ?_)
            refine lv_if_eq (tgt := 86) hx hb dX8_copy_67 (by decide) (fun c9 => ?_) (fun c9 => ?_)
            · replace hw := hw.1 c9
              refine lv_bipush (v := -13) hx hb dX8_copy_86 (by decide) ?_
              exact W.iret hx hb hr (x_mi (u := m_item) hP hK hD hS hw) hS.2.2 dX8_copy_88
            · replace hw := hw.2 c9
              refine lv_iload hx hb dX8_copy_70 (lv_at hl 4 rfl) ?_
              refine lv_iload hx hb dX8_copy_72 (lv_at hl 5 rfl) ?_
              refine lv_aload_n hx hb dX8_copy_74 rfl (lv_at hl 0 rfl) ?_
              refine va_get (D := D) (ci := 8) (v := .ref m_asize) (C := RX8) (T := TX8) (N := 18) hx hb hts inX8 hown hK hP 0 rfl rfl 1 (by decide) fl13 (fun _ h9 => h9) rfl dX8_copy_75 ?_
              refine lv_iload_n hx hb dX8_copy_78 rfl (lv_at hl 3 rfl) ?_
              refine x_iald (j := x3.toNatClampNeg) hx hb hK hP 2 0 rfl rfl rfl hw.1 dX8_copy_79 ?_
              replace hw := hw.2
              refine vp_callSi (W.runS (As := [.int x4, .int x5, .int (m_size x3.toNatClampNeg)]) (rest := []) ⟨hx, hb, hml, hown, hts⟩ (c_X8_isPart l D G x4 x5 (m_size x3.toNatClampNeg) _ hw) (va_cwS 3 hts gX8_copy_X8_isPart rfl rfl rfl (by decide +kernel) ⟨(Nat.le_of_ble_eq_true rfl), (Nat.le_of_ble_eq_true rfl)⟩) (xR_ps (hP.sub [] rfl) hK) rfl rfl hl.1 rfl (lv_room (Nat.le_of_ble_eq_true rfl)) dX8_copy_80 ⟨Nat.zero_le _, Nat.zero_le _⟩) (fun r4 hw => ?_)
              refine lv_if_ne (tgt := 89) hx hb dX8_copy_83 (by decide) (fun c9 => ?_) (fun c9 => ?_)
              · replace hw := hw.1 c9
                refine lv_iload_n hx hb dX8_copy_89 rfl (lv_at hl 1 rfl) ?_
                refine lv_iload_n hx hb dX8_copy_90 rfl (lv_at hl 3 rfl) ?_
                refine lv_icmp_ne (tgt := 104) hx hb dX8_copy_91 (by decide) (fun c9 => ?_) (fun c9 => ?_)
                · replace hw := hw.1 c9
                  refine lv_iconst (v := 0) hx hb dX8_copy_104 (by decide) ?_
                  refine lv_istore (lv' := [(6, .int (0 : Int32)), (0, .ref m_mo), (1, .int x1), (2, .int x2), (3, .int x3), (4, .int x4), (5, .int x5)]) hx hb dX8_copy_105 hl (by decide) rfl (fun ls hl => ?_)
                  refine lv_iconst (v := 0) hx hb dX8_copy_107 (by decide) ?_
                  refine lv_istore (lv' := [(7, .int (0 : Int32)), (6, .int (0 : Int32)), (0, .ref m_mo), (1, .int x1), (2, .int x2), (3, .int x3), (4, .int x4), (5, .int x5)]) hx hb dX8_copy_108 hl (by decide) rfl (fun ls hl => ?_)
                  obtain ⟨n, hw⟩ := hw
                  exact L110 n (0 : Int32) (0 : Int32) m_item _ _ _ hw hP hD hS (lv_sub hl [2, 3, 4, 5, 6, 7, 1, 0] rfl)
                · replace hw := hw.2 c9
                  refine lv_iload hx hb dX8_copy_94 (lv_at hl 4 rfl) ?_
                  refine lv_iload_n hx hb dX8_copy_96 rfl (lv_at hl 2 rfl) ?_
                  refine lv_icmp_le (tgt := 104) hx hb dX8_copy_97 (by decide) (fun c9 => ?_) (fun c9 => ?_)
                  · replace hw := hw.1 c9
                    refine lv_iconst (v := 0) hx hb dX8_copy_104 (by decide) ?_
                    refine lv_istore (lv' := [(6, .int (0 : Int32)), (0, .ref m_mo), (1, .int x1), (2, .int x2), (3, .int x3), (4, .int x4), (5, .int x5)]) hx hb dX8_copy_105 hl (by decide) rfl (fun ls hl => ?_)
                    refine lv_iconst (v := 0) hx hb dX8_copy_107 (by decide) ?_
                    refine lv_istore (lv' := [(7, .int (0 : Int32)), (6, .int (0 : Int32)), (0, .ref m_mo), (1, .int x1), (2, .int x2), (3, .int x3), (4, .int x4), (5, .int x5)]) hx hb dX8_copy_108 hl (by decide) rfl (fun ls hl => ?_)
                    obtain ⟨n, hw⟩ := hw
                    exact L110 n (0 : Int32) (0 : Int32) m_item _ _ _ hw hP hD hS (lv_sub hl [2, 3, 4, 5, 6, 7, 1, 0] rfl)
                  · replace hw := hw.2 c9
                    refine lv_iconst (v := 1) hx hb dX8_copy_100 (by decide) ?_
                    refine lv_goto (tgt := 105) hx hb dX8_copy_101 (by decide) ?_
                    refine lv_istore (lv' := [(6, .int (1 : Int32)), (0, .ref m_mo), (1, .int x1), (2, .int x2), (3, .int x3), (4, .int x4), (5, .int x5)]) hx hb dX8_copy_105 hl (by decide) rfl (fun ls hl => ?_)
                    refine lv_iconst (v := 0) hx hb dX8_copy_107 (by decide) ?_
                    refine lv_istore (lv' := [(7, .int (0 : Int32)), (6, .int (1 : Int32)), (0, .ref m_mo), (1, .int x1), (2, .int x2), (3, .int x3), (4, .int x4), (5, .int x5)]) hx hb dX8_copy_108 hl (by decide) rfl (fun ls hl => ?_)
                    obtain ⟨n, hw⟩ := hw
                    exact L110 n (1 : Int32) (0 : Int32) m_item _ _ _ hw hP hD hS (lv_sub hl [2, 3, 4, 5, 6, 7, 1, 0] rfl)
              · replace hw := hw.2 c9
                refine lv_bipush (v := -13) hx hb dX8_copy_86 (by decide) ?_
                exact W.iret hx hb hr (x_mi (u := m_item) hP hK hD hS hw) hS.2.2 dX8_copy_88
          · replace hw := hw.2 c9
            refine lv_bipush (v := -12) hx hb dX8_copy_52 (by decide) ?_
            exact W.iret hx hb hr (x_mi (u := m_item) hP hK hD hS hw) hS.2.2 dX8_copy_54
        · replace hw := hw.2 c9
          refine lv_bipush (v := -11) hx hb dX8_copy_34 (by decide) ?_
          exact W.iret hx hb hr (x_mi (u := m_item) hP hK hD hS hw) hS.2.2 dX8_copy_36
    · replace hw := hw.2 c9
      refine lv_iconst (v := -1) hx hb dX8_copy_14 (by decide) ?_
      exact W.iret hx hb hr (x_mi (u := m_item) hP hK hD hS hw) hS.2.2 dX8_copy_15
