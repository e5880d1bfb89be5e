set_option maxHeartbeats 4000000 in
set_option maxRecDepth 100000 in
theorem c_X8_next (l : Launch) (D : va_G) (G : Nat → ClassId) (sz : Nat) (m_mo : Nat) (m_alane : Nat) (m_asize : Nat) (m_aitem : Nat) (m_atape : Nat) (m_anow : Nat) (m_atried : Nat) (m_aread : Nat) (m_akept : Nat) (m_anoticed : Nat) (m_aneeds : Nat) (m_aorder : Nat) (m_letters : Int32) (m_position : Int32) (m_number : Int32) (m_isKept : Int32) (m_many : Int32) (m_one : Int32) (m_two : Int32) (m_now : Nat → Int32) (m_noticed : Nat → Int32) (m_needs : Nat → Int32) (x1 : Int32) (post : Int32 → (Nat → Int32) → (Nat → Int32) → Prop) (hw : wp_X8_next m_now m_noticed m_needs x1 post) : Met l yX8_next wsX8_next ({ frames := 5, cells := 0, slots := 0, locals := 117 } : Room) (va_Pc [.ref m_mo, .int x1] (xM D G sz [(m_mo, .inr (8, [.ref m_alane, .ref m_asize, .ref m_aitem, .int m_letters, .ref m_atape, .int m_position, .int m_number, .ref m_anow, .ref m_atried, .ref m_aread, .ref m_akept, .int m_isKept, .ref m_anoticed, .ref m_aneeds, .ref m_aorder, .int m_many, .int m_one, .int m_two])), (m_anow, .inl (G 0, 55, .inl m_now)), (m_anoticed, .inl (G 0, 256, .inl m_noticed)), (m_aneeds, .inl (G 0, 256, .inl m_needs))])) (va_Qi (fun r (u : (Nat → Int32) × (Nat → Int32)) => post r u.1 u.2) (fun u t => xE D G (va_A [(m_mo, .inr (8, [.ref m_alane, .ref m_asize, .ref m_aitem, .int m_letters, .ref m_atape, .int m_position, .int m_number, .ref m_anow, .ref m_atried, .ref m_aread, .ref m_akept, .int m_isKept, .ref m_anoticed, .ref m_aneeds, .ref m_aorder, .int m_many, .int m_one, .int m_two])), (m_anow, .inl (G 0, 55, .inl m_now)), (m_anoticed, .inl (G 0, 256, .inl m_noticed)), (m_aneeds, .inl (G 0, 256, .inl m_needs))] sz) [(m_mo, .inr (8, [.ref m_alane, .ref m_asize, .ref m_aitem, .int m_letters, .ref m_atape, .int m_position, .int m_number, .ref m_anow, .ref m_atried, .ref m_aread, .ref m_akept, .int m_isKept, .ref m_anoticed, .ref m_aneeds, .ref m_aorder, .int m_many, .int m_one, .int m_two])), (m_anow, .inl (G 0, 55, .inl m_now)), (m_anoticed, .inl (G 0, 256, .inl (u.1))), (m_aneeds, .inl (G 0, 256, .inl (u.2)))] t) (va_A [(m_mo, .inr (8, [.ref m_alane, .ref m_asize, .ref m_aitem, .int m_letters, .ref m_atape, .int m_position, .int m_number, .ref m_anow, .ref m_atried, .ref m_aread, .ref m_akept, .int m_isKept, .ref m_anoticed, .ref m_aneeds, .ref m_aorder, .int m_many, .int m_one, .int m_two])), (m_anow, .inl (G 0, 55, .inl m_now)), (m_anoticed, .inl (G 0, 256, .inl m_noticed)), (m_aneeds, .inl (G 0, 256, .inl m_needs))] sz)) 0 0 (va_A [(m_mo, .inr (8, [.ref m_alane, .ref m_asize, .ref m_aitem, .int m_letters, .ref m_atape, .int m_position, .int m_number, .ref m_anow, .ref m_atried, .ref m_aread, .ref m_akept, .int m_isKept, .ref m_anoticed, .ref m_aneeds, .ref m_aorder, .int m_many, .int m_one, .int m_two])), (m_anow, .inl (G 0, 55, .inl m_now)), (m_anoticed, .inl (G 0, 256, .inl m_noticed)), (m_aneeds, .inl (G 0, 256, .inl m_needs))] sz) := by
  refine Met.ofW (cc := cX8_next) (maxL := 4) (ret := (some .int)) (by decide) rfl ?_
  intro p e s m args below meth c s₁ B hml hv
  obtain ⟨rfl, hsz, hP, hK, hD0⟩ := hv
  have hx := B.exec
  have hb := B.bytes
  have hr := B.returns
  have hts := atoms_spec (ws := wsX8_next) B.pre
  have hown : s.vm.findClass RX8 = some m.cls := findClass_of_methodNamed B.named
  have hlocks := B.notSynchronized
  subst hsz
  have hD := hD0.self (sz := s.heap.size)
  generalize hAe : va_A [(m_mo, .inr (8, [.ref m_alane, .ref m_asize, .ref m_aitem, .int m_letters, .ref m_atape, .int m_position, .int m_number, .ref m_anow, .ref m_atried, .ref m_aread, .ref m_akept, .int m_isKept, .ref m_anoticed, .ref m_aneeds, .ref m_aorder, .int m_many, .int m_one, .int m_two])), (m_anow, .inl (G 0, 55, .inl m_now)), (m_anoticed, .inl (G 0, 256, .inl m_noticed)), (m_aneeds, .inl (G 0, 256, .inl m_needs))] s.heap.size = A at hD ⊢
  have hA : ∀ q : Nat, s.heap.size ≤ q → A q := fun q h => by rw [← hAe]; exact Or.inr h
  have hS : va_S A s.heap s.heap [] := va_S.rf
  have inX8 : ∀ w ∈ wsX80, w ∈ wsX8_next := by decide +kernel
  have fl38 := hts (.fieldLink RX8 38 "NewsCowModel" "needs" "[I") (by decide +kernel)
  have fl23 := hts (.fieldLink RX8 23 "NewsCowModel" "now" "[I") (by decide +kernel)
  have hl := lv_entry ([.ref m_mo, .int x1] : List Value) (n := 4) (Nat.le_of_ble_eq_true rfl)
  rw [lg_entry_eq]
  generalize (lg_sl ([.ref m_mo, .int x1] : List Value) ++ List.replicate (4 - (lg_sl ([.ref m_mo, .int x1] : List Value)).length) Slot.unset).toArray = ls at hl ⊢
  have hl : lv_has ls 4 [(0, .ref m_mo), (1, .int x1)] := hl
  unfold wp_X8_next at hw
  have L33 : ∀ (f33 : Nat) (x2 : Int32) (x3 : Int32) (m_noticed : Nat → Int32) (m_needs : Nat → Int32) (H : Heap) (locs : List Loc) (ls : Array Slot), wp_X8_next_L33 m_now m_noticed m_needs x2 post f33 x3 → va_P D vwCl [(m_mo, .inr (8, [.ref m_alane, .ref m_asize, .ref m_aitem, .int m_letters, .ref m_atape, .int m_position, .int m_number, .ref m_anow, .ref m_atried, .ref m_aread, .ref m_akept, .int m_isKept, .ref m_anoticed, .ref m_aneeds, .ref m_aorder, .int m_many, .int m_one, .int m_two])), (m_anow, .inl (G 0, 55, .inl m_now)), (m_anoticed, .inl (G 0, 256, .inl m_noticed)), (m_aneeds, .inl (G 0, 256, .inl m_needs))] H → va_D A [(m_mo, .inr (8, [.ref m_alane, .ref m_asize, .ref m_aitem, .int m_letters, .ref m_atape, .int m_position, .int m_number, .ref m_anow, .ref m_atried, .ref m_aread, .ref m_akept, .int m_isKept, .ref m_anoticed, .ref m_aneeds, .ref m_aorder, .int m_many, .int m_one, .int m_two])), (m_anow, .inl (G 0, 55, .inl m_now)), (m_anoticed, .inl (G 0, 256, .inl m_noticed)), (m_aneeds, .inl (G 0, 256, .inl m_needs))] → va_S A s.heap H locs → lv_has ls 4 [(0, .ref m_mo), (2, .int x2), (3, .int x3)] → W p l e (headSpec wsX8_next ({ frames := 5, cells := 0, slots := 0, locals := 117 } : Room)).room s m ([.ref m_mo, .int x1] : List Value).toArray below meth c H locs 0 0 (MQ below (va_Qi (fun r (u : (Nat → Int32) × (Nat → Int32)) => post r u.1 u.2) (fun u t => xE D G A [(m_mo, .inr (8, [.ref m_alane, .ref m_asize, .ref m_aitem, .int m_letters, .ref m_atape, .int m_position, .int m_number, .ref m_anow, .ref m_atried, .ref m_aread, .ref m_akept, .int m_isKept, .ref m_anoticed, .ref m_aneeds, .ref m_aorder, .int m_many, .int m_one, .int m_two])), (m_anow, .inl (G 0, 55, .inl m_now)), (m_anoticed, .inl (G 0, 256, .inl (u.1))), (m_aneeds, .inl (G 0, 256, .inl (u.2)))] t) A) ([.ref m_mo, .int x1] : List Value).toArray s 0 0 A) (F0 m 33 ls []) := by
    intro f33
    induction f33 with
    | zero => intro x2 x3 m_noticed m_needs H locs ls hw hP hD hS hl; exact (hw : False).elim
    | succ f33 ih33 =>
      intro x2 x3 m_noticed m_needs H locs ls hw hP hD hS hl
      unfold wp_X8_next_L33 at hw
      refine lv_iload_n hx hb dX8_next_33 rfl (lv_at hl 2 rfl) ?_
      refine lv_aload_n hx hb dX8_next_34 rfl (lv_at hl 0 rfl) ?_
      refine va_get (D := D) (ci := 8) (v := .ref m_anow) (C := RX8) (T := TX8) (N := 18) hx hb hts inX8 hown hK hP 0 rfl rfl 7 (by decide) fl23 (fun _ h9 => h9) rfl dX8_next_35 ?_
      refine vp_callSi (W.runS (As := [.ref m_anow]) (rest := [.int x3]) ⟨hx, hb, hml, hown, hts⟩ (c_X8_allOf l D G m_anow m_now _ hw) (va_cwS 1 hts gX8_next_X8_allOf rfl rfl rfl (by decide +kernel) ⟨(Nat.le_of_ble_eq_true rfl), (Nat.le_of_ble_eq_true rfl)⟩) (xR_ps (hP.sub [1] rfl) hK) rfl rfl hl.1 rfl (lv_room (Nat.le_of_ble_eq_true rfl)) dX8_next_38 ⟨Nat.zero_le _, Nat.zero_le _⟩) (fun r4 hw => ?_)
      refine lv_icmp_gt (tgt := 77) hx hb dX8_next_41 (by decide) (fun c9 => ?_) (fun c9 => ?_)
      · replace hw := hw.1 c9
        refine lv_bipush (v := -4) hx hb dX8_next_77 (by decide) ?_
        exact W.iret hx hb hr (x_mi (u := (m_noticed, m_needs)) hP hK hD hS hw) hS.2.2 dX8_next_79
      · replace hw := hw.2 c9
        refine lv_iload_n hx hb dX8_next_44 rfl (lv_at hl 1 rfl) ?_
        refine lv_if_le (tgt := 77) hx hb dX8_next_45 (by decide) (fun c9 => ?_) (fun c9 => ?_)
        · replace hw := hw.1 c9
          refine lv_bipush (v := -4) hx hb dX8_next_77 (by decide) ?_
          exact W.iret hx hb hr (x_mi (u := (m_noticed, m_needs)) hP hK hD hS hw) hS.2.2 dX8_next_79
        · replace hw := hw.2 c9
          refine lv_iload_n hx hb dX8_next_48 rfl (lv_at hl 1 rfl) ?_
          refine lv_bipush (v := 99) hx hb dX8_next_49 (by decide) ?_
          refine lv_icmp_ge (tgt := 77) hx hb dX8_next_51 (by decide) (fun c9 => ?_) (fun c9 => ?_)
          · replace hw := hw.1 c9
            refine lv_bipush (v := -4) hx hb dX8_next_77 (by decide) ?_
            exact W.iret hx hb hr (x_mi (u := (m_noticed, m_needs)) hP hK hD hS hw) hS.2.2 dX8_next_79
          · replace hw := hw.2 c9
            refine lv_aload_n hx hb dX8_next_54 rfl (lv_at hl 0 rfl) ?_
            refine lv_aload_n hx hb dX8_next_55 rfl (lv_at hl 0 rfl) ?_
            refine va_get (D := D) (ci := 8) (v := .ref m_anow) (C := RX8) (T := TX8) (N := 18) hx hb hts inX8 hown hK hP 0 rfl rfl 7 (by decide) fl23 (fun _ h9 => h9) rfl dX8_next_56 ?_
            refine lv_iconst (v := 2) hx hb dX8_next_59 (by decide) ?_
            refine x_iald (j := 2) hx hb hK hP 1 0 rfl rfl (by decide) (x_in (by decide)) dX8_next_60 ?_
            refine lv_iload_n hx hb dX8_next_61 rfl (lv_at hl 2 rfl) ?_
            refine vp_callSi (W.runV (As := [.int (m_now 2), .int x3]) (rest := []) ⟨hx, hb, hml, hown, hts⟩ (c_X8_needBy l D G m_mo m_alane m_asize m_aitem m_atape m_anow m_atried m_aread m_akept m_anoticed m_aneeds m_aorder m_letters m_position m_number m_isKept m_many m_one m_two m_noticed m_needs (m_now 2) x3 _ hw) (cwV 2 hts gX8_next_X8_needBy rfl rfl rfl (by decide +kernel) ⟨(Nat.le_of_ble_eq_true rfl), (Nat.le_of_ble_eq_true rfl)⟩) (xR_pv (hP.sub [0, 2, 3] rfl) hK (va_recv hK hP (ci := 8) (q0 := 0) rfl rfl)) rfl rfl hl.1 rfl (lv_room (Nat.le_of_ble_eq_true rfl)) dX8_next_62 ⟨Nat.zero_le _, Nat.zero_le _⟩) (fun r5 hw => ?_)
            refine lv_iload_n hx hb dX8_next_65 rfl (lv_at hl 1 rfl) ?_
            refine lv_icmp_ne (tgt := 71) hx hb dX8_next_66 (by decide) (fun c9 => ?_) (fun c9 => ?_)
            · replace hw := hw.1 c9
              refine lv_iinc (v := (x3 + 1)) (lv' := [(3, .int (x3 + 1)), (0, .ref m_mo), (2, .int x2)]) hx hb dX8_next_71 hl (k := 2) rfl (by first | rfl | decide) (by decide) rfl (fun ls hl => ?_)
              refine lv_goto (tgt := 33) hx hb dX8_next_74 (by decide) ?_
              exact ih33 x2 (x3 + 1) m_noticed m_needs _ _ _ hw hP hD hS (lv_sub hl [1, 2, 0] rfl)
            · replace hw := hw.2 c9
              refine lv_iload_n hx hb dX8_next_69 rfl (lv_at hl 2 rfl) ?_
              exact W.iret hx hb hr (x_mi (u := (m_noticed, m_needs)) hP hK hD hS hw) hS.2.2 dX8_next_70
  refine lv_aload_n hx hb dX8_next_0 rfl (lv_at hl 0 rfl) ?_
  refine lv_iload_n hx hb dX8_next_1 rfl (lv_at hl 1 rfl) ?_
  refine vp_callSi (W.runV (As := [.int x1]) (rest := []) ⟨hx, hb, hml, hown, hts⟩ (c_X8_isTaster l D G m_mo m_alane m_asize m_aitem m_atape m_anow m_atried m_aread m_akept m_anoticed m_aneeds m_aorder m_letters m_position m_number m_isKept m_many m_one m_two m_now x1 _ hw) (cwV 1 hts gX8_next_X8_isTaster rfl rfl rfl (by decide +kernel) ⟨(Nat.le_of_ble_eq_true rfl), (Nat.le_of_ble_eq_true rfl)⟩) (xR_pv (hP.sub [0, 1] rfl) hK (va_recv hK hP (ci := 8) (q0 := 0) rfl rfl)) rfl rfl hl.1 rfl (lv_room (Nat.le_of_ble_eq_true rfl)) dX8_next_2 ⟨Nat.zero_le _, Nat.zero_le _⟩) (fun r1 hw => ?_)
  refine lv_if_ne (tgt := 10) hx hb dX8_next_5 (by decide) (fun c9 => ?_) (fun c9 => ?_)
  · replace hw := hw.1 c9
    refine lv_aload_n hx hb dX8_next_10 rfl (lv_at hl 0 rfl) ?_
    refine lv_iload_n hx hb dX8_next_11 rfl (lv_at hl 1 rfl) ?_
    refine x_cMv (wr := [(m_aneeds, .inl (G 0, 256, .inl m_needs))]) (va_runV (As := [.int x1]) (rest := []) ⟨hx, hb, hml, hown, hts⟩ (c_X8_layNoticed l D G _ m_mo m_alane m_asize m_aitem m_atape m_anow m_atried m_aread m_akept m_anoticed m_aneeds m_aorder m_letters m_position m_number m_isKept m_many m_one m_two m_now m_noticed x1 _ hw) (cwV 1 hts gX8_next_X8_layNoticed rfl rfl rfl (by decide +kernel) ⟨(Nat.le_of_ble_eq_true rfl), (Nat.le_of_ble_eq_true rfl)⟩) (xM_pv (hP.sub [0, 1, 2] rfl) hK (hD.sub [0, 1, 2] (by decide) rfl) (va_recv hK hP (ci := 8) (q0 := 0) rfl rfl)) rfl rfl hl.1 rfl (lv_room (Nat.le_of_ble_eq_true rfl)) dX8_next_12 ⟨Nat.zero_le _, Nat.zero_le _⟩) hP hD hS hA [0, 1, 2] [3] rfl rfl (by decide) (by decide) [1, 2, 3, 0] (fun u => [(m_mo, .inr (8, [.ref m_alane, .ref m_asize, .ref m_aitem, .int m_letters, .ref m_atape, .int m_position, .int m_number, .ref m_anow, .ref m_atried, .ref m_aread, .ref m_akept, .int m_isKept, .ref m_anoticed, .ref m_aneeds, .ref m_aorder, .int m_many, .int m_one, .int m_two])), (m_anow, .inl (G 0, 55, .inl m_now)), (m_anoticed, .inl (G 0, 256, .inl u)), (m_aneeds, .inl (G 0, 256, .inl m_needs))]) (by decide) (fun u => rfl) (fun u H locs hw hP hD hS => ?_)
    obtain ⟨m_noticed_2, rfl⟩ : ∃ z, z = u := ⟨_, rfl⟩
    try dsimp only at hw
    replace hP : va_P D vwCl [(m_mo, .inr (8, [.ref m_alane, .ref m_asize, .ref m_aitem, .int m_letters, .ref m_atape, .int m_position, .int m_number, .ref m_anow, .ref m_atried, .ref m_aread, .ref m_akept, .int m_isKept, .ref m_anoticed, .ref m_aneeds, .ref m_aorder, .int m_many, .int m_one, .int m_two])), (m_anow, .inl (G 0, 55, .inl m_now)), (m_anoticed, .inl (G 0, 256, .inl m_noticed_2)), (m_aneeds, .inl (G 0, 256, .inl m_needs))] H := hP
    replace hD : va_D A [(m_mo, .inr (8, [.ref m_alane, .ref m_asize, .ref m_aitem, .int m_letters, .ref m_atape, .int m_position, .int m_number, .ref m_anow, .ref m_atried, .ref m_aread, .ref m_akept, .int m_isKept, .ref m_anoticed, .ref m_aneeds, .ref m_aorder, .int m_many, .int m_one, .int m_two])), (m_anow, .inl (G 0, 55, .inl m_now)), (m_anoticed, .inl (G 0, 256, .inl m_noticed_2)), (m_aneeds, .inl (G 0, 256, .inl m_needs))] := hD
    refine lv_aload_n hx hb dX8_next_15 rfl (lv_at hl 0 rfl) ?_
    refine x_cMv (wr := []) (va_runV (As := []) (rest := []) ⟨hx, hb, hml, hown, hts⟩ (c_X8_layNeeds l D G _ m_mo m_alane m_asize m_aitem m_atape m_anow m_atried m_aread m_akept m_anoticed m_aneeds m_aorder m_letters m_position m_number m_isKept m_many m_one m_two m_now m_noticed_2 m_needs _ hw) (cwV 0 hts gX8_next_X8_layNeeds rfl rfl rfl (by decide +kernel) ⟨(Nat.le_of_ble_eq_true rfl), (Nat.le_of_ble_eq_true rfl)⟩) (xM_pv (hP.sub [0, 1, 2, 3] rfl) hK (hD.sub [0, 1, 2, 3] (by decide) rfl) (va_recv hK hP (ci := 8) (q0 := 0) rfl rfl)) rfl rfl hl.1 rfl (lv_room (Nat.le_of_ble_eq_true rfl)) dX8_next_16 ⟨Nat.zero_le _, Nat.zero_le _⟩) hP hD hS hA [0, 1, 2, 3] [] rfl rfl (by decide) (by decide) [0, 1, 2, 3] (fun u => [(m_mo, .inr (8, [.ref m_alane, .ref m_asize, .ref m_aitem, .int m_letters, .ref m_atape, .int m_position, .int m_number, .ref m_anow, .ref m_atried, .ref m_aread, .ref m_akept, .int m_isKept, .ref m_anoticed, .ref m_aneeds, .ref m_aorder, .int m_many, .int m_one, .int m_two])), (m_anow, .inl (G 0, 55, .inl m_now)), (m_anoticed, .inl (G 0, 256, .inl m_noticed_2)), (m_aneeds, .inl (G 0, 256, .inl u))]) (by decide) (fun u => rfl) (fun u H locs hw hP hD hS => ?_)
    obtain ⟨m_needs_3, rfl⟩ : ∃ z, z = u := ⟨_, rfl⟩
    try dsimp only at hw
    replace hP : va_P D vwCl [(m_mo, .inr (8, [.ref m_alane, .ref m_asize, .ref m_aitem, .int m_letters, .ref m_atape, .int m_position, .int m_number, .ref m_anow, .ref m_atried, .ref m_aread, .ref m_akept, .int m_isKept, .ref m_anoticed, .ref m_aneeds, .ref m_aorder, .int m_many, .int m_one, .int m_two])), (m_anow, .inl (G 0, 55, .inl m_now)), (m_anoticed, .inl (G 0, 256, .inl m_noticed_2)), (m_aneeds, .inl (G 0, 256, .inl m_needs_3))] H := hP
    replace hD : va_D A [(m_mo, .inr (8, [.ref m_alane, .ref m_asize, .ref m_aitem, .int m_letters, .ref m_atape, .int m_position, .int m_number, .ref m_anow, .ref m_atried, .ref m_aread, .ref m_akept, .int m_isKept, .ref m_anoticed, .ref m_aneeds, .ref m_aorder, .int m_many, .int m_one, .int m_two])), (m_anow, .inl (G 0, 55, .inl m_now)), (m_anoticed, .inl (G 0, 256, .inl m_noticed_2)), (m_aneeds, .inl (G 0, 256, .inl m_needs_3))] := hD
    refine lv_aload_n hx hb dX8_next_19 rfl (lv_at hl 0 rfl) ?_
    refine va_get (D := D) (ci := 8) (v := .ref m_aneeds) (C := RX8) (T := TX8) (N := 18) hx hb hts inX8 hown hK hP 0 rfl rfl 13 (by decide) fl38 (fun _ h9 => h9) rfl dX8_next_20 ?_
    refine lv_aload_n hx hb dX8_next_23 rfl (lv_at hl 0 rfl) ?_
    refine va_get (D := D) (ci := 8) (v := .ref m_anow) (C := RX8) (T := TX8) (N := 18) hx hb hts inX8 hown hK hP 0 rfl rfl 7 (by decide) fl23 (fun _ h9 => h9) rfl dX8_next_24 ?_
    refine lv_iconst (v := 2) hx hb dX8_next_27 (by decide) ?_
    refine x_iald (j := 2) hx hb hK hP 1 0 rfl rfl (by decide) (x_in (by decide)) dX8_next_28 ?_
    refine x_iald (j := (m_now 2).toNatClampNeg) hx hb hK hP 3 0 rfl rfl rfl hw.1 dX8_next_29 ?_
    replace hw := hw.2
    refine lv_istore_n (lv' := [(2, .int (m_needs_3 (m_now 2).toNatClampNeg)), (0, .ref m_mo), (1, .int x1)]) hx hb dX8_next_30 rfl hl (by decide) rfl (fun ls hl => ?_)
    refine lv_iconst (v := 1) hx hb dX8_next_31 (by decide) ?_
    refine lv_istore_n (lv' := [(3, .int (1 : Int32)), (2, .int (m_needs_3 (m_now 2).toNatClampNeg)), (0, .ref m_mo), (1, .int x1)]) hx hb dX8_next_32 rfl hl (by decide) rfl (fun ls hl => ?_)
    obtain ⟨n, hw⟩ := hw
    exact L33 n (m_needs_3 (m_now 2).toNatClampNeg) (1 : Int32) m_noticed_2 m_needs_3 _ _ _ hw hP hD hS (lv_sub hl [2, 1, 0] rfl)
  · replace hw := hw.2 c9
    refine lv_iconst (v := -1) hx hb dX8_next_8 (by decide) ?_
    exact W.iret hx hb hr (x_mi (u := (m_noticed, m_needs)) hP hK hD hS hw) hS.2.2 dX8_next_9
set_option maxHeartbeats 4000000 in
set_option maxRecDepth 100000 in
theorem c_X8_isKnown (l : Launch) (D : va_G) (G : Nat → ClassId) (m_mo : Nat) (m_alane : Nat) (m_asize : Nat) (m_aitem : Nat) (m_atape : Nat) (m_anow : Nat) (m_atried : Nat) (m_aread : Nat) (m_akept : Nat) (m_anoticed : Nat) (m_aneeds : Nat) (m_aorder : Nat) (m_letters : Int32) (m_position : Int32) (m_number : Int32) (m_isKept : Int32) (m_many : Int32) (m_one : Int32) (m_two : Int32) (m_now : Nat → Int32) (m_noticed : Nat → Int32) (x1 : Int32) (x2 : Int32) (post : Int32 → Prop) (hw : wp_X8_isKnown m_now m_noticed x1 x2 post) : Met l yX8_isKnown wsX8_isKnown ({ frames := 1, cells := 0, slots := 0, locals := 22 } : Room) (va_Pc [.ref m_mo, .int x1, .int x2] (xR D G [(m_mo, .inr (8, [.ref m_alane, .ref m_asize, .ref m_aitem, .int m_letters, .ref m_atape, .int m_position, .int m_number, .ref m_anow, .ref m_atried, .ref m_aread, .ref m_akept, .int m_isKept, .ref m_anoticed, .ref m_aneeds, .ref m_aorder, .int m_many, .int m_one, .int m_two])), (m_anow, .inl (G 0, 55, .inl m_now)), (m_anoticed, .inl (G 0, 256, .inl m_noticed))])) (vp_Si post) 0 0 (fun _ => False) := by
  refine Met.ofW (cc := cX8_isKnown) (maxL := 6) (ret := (some .boolean)) (by decide) rfl ?_
  intro p e s m args below meth c s₁ B hml hv
  obtain ⟨rfl, hP, hK⟩ := hv
  have hx := B.exec
  have hb := B.bytes
  have hr := B.returns
  have hts := atoms_spec (ws := wsX8_isKnown) B.pre
  have hown : s.vm.findClass RX8 = some m.cls := findClass_of_methodNamed B.named
  have hlocks := B.notSynchronized
  have inX8 : ∀ w ∈ wsX80, w ∈ wsX8_isKnown := by decide +kernel
  have fl23 := hts (.fieldLink RX8 23 "NewsCowModel" "now" "[I") (by decide +kernel)
  have fl35 := hts (.fieldLink RX8 35 "NewsCowModel" "noticed" "[I") (by decide +kernel)
  have hl := lv_entry ([.ref m_mo, .int x1, .int x2] : List Value) (n := 6) (Nat.le_of_ble_eq_true rfl)
  rw [lg_entry_eq]
  generalize (lg_sl ([.ref m_mo, .int x1, .int x2] : List Value) ++ List.replicate (6 - (lg_sl ([.ref m_mo, .int x1, .int x2] : List Value)).length) Slot.unset).toArray = ls at hl ⊢
  have hl : lv_has ls 6 [(0, .ref m_mo), (1, .int x1), (2, .int x2)] := hl
  unfold wp_X8_isKnown at hw
  have J37 : ∀ (x3 : Int32) (x4 : Int32) (k0 : Int32) (ls : Array Slot), wp_X8_isKnown_J37 x3 x4 k0 post → lv_has ls 6 [(3, .int x3), (4, .int x4)] → W p l e (headSpec wsX8_isKnown ({ frames := 1, cells := 0, slots := 0, locals := 22 } : Room)).room s m ([.ref m_mo, .int x1, .int x2] : List Value).toArray below meth c s.heap [] 0 0 (MQ below (vp_Si post) ([.ref m_mo, .int x1, .int x2] : List Value).toArray s 0 0 (fun _ => False)) (F0 m 37 ls [.int k0]) := by
    intro x3 x4 k0 ls hw hl
    unfold wp_X8_isKnown_J37 at hw
    refine lv_istore (lv' := [(5, .int k0), (3, .int x3), (4, .int x4)]) hx hb dX8_isKnown_37 hl (by decide) rfl (fun ls hl => ?_)
    refine lv_iload_n hx hb dX8_isKnown_39 rfl (lv_at hl 1 rfl) ?_
    refine lv_iload hx hb dX8_isKnown_40 (lv_at hl 2 rfl) ?_
    refine lv_iand hx hb dX8_isKnown_42 ?_
    refine lv_iload hx hb dX8_isKnown_43 (lv_at hl 0 rfl) ?_
    refine lv_iand hx hb dX8_isKnown_45 ?_
    refine vp_callSi (W.runS (As := [.int ((x3 &&& x4) &&& k0)]) (rest := []) ⟨hx, hb, hml, hown, hts⟩ (c_X8_bits l D G ((x3 &&& x4) &&& k0) _ hw) (va_cwS 1 hts gX8_isKnown_X8_bits rfl rfl rfl (by decide +kernel) ⟨(Nat.le_of_ble_eq_true rfl), (Nat.le_of_ble_eq_true rfl)⟩) (xR_ps (hP.sub [] rfl) hK) rfl rfl hl.1 rfl (lv_room (Nat.le_of_ble_eq_true rfl)) dX8_isKnown_46 ⟨Nat.zero_le _, Nat.zero_le _⟩) (fun r1 hw => ?_)
    refine lv_iconst (v := 2) hx hb dX8_isKnown_49 (by decide) ?_
    refine lv_icmp_ge (tgt := 107) hx hb dX8_isKnown_50 (by decide) (fun c9 => ?_) (fun c9 => ?_)
    · replace hw := hw.1 c9
      refine lv_iconst (v := 0) hx hb dX8_isKnown_107 (by decide) ?_
      exact W.zret hx hb hr rfl (fun t ht _ => ⟨_, rfl, hw, ht⟩) (fun _ h => absurd h List.not_mem_nil) dX8_isKnown_108
    · replace hw := hw.2 c9
      refine lv_iload_n hx hb dX8_isKnown_53 rfl (lv_at hl 1 rfl) ?_
      refine lv_iload hx hb dX8_isKnown_54 (lv_at hl 2 rfl) ?_
      refine lv_iand hx hb dX8_isKnown_56 ?_
      refine lv_iload hx hb dX8_isKnown_57 (lv_at hl 0 rfl) ?_
      refine lv_iconst (v := -1) hx hb dX8_isKnown_59 (by decide) ?_
      refine lv_ixor hx hb dX8_isKnown_60 ?_
      refine lv_iand hx hb dX8_isKnown_61 ?_
      refine vp_callSi (W.runS (As := [.int ((x3 &&& x4) &&& (k0 ^^^ (-1 : Int32)))]) (rest := []) ⟨hx, hb, hml, hown, hts⟩ (c_X8_bits l D G ((x3 &&& x4) &&& (k0 ^^^ (-1 : Int32))) _ hw) (va_cwS 1 hts gX8_isKnown_X8_bits rfl rfl rfl (by decide +kernel) ⟨(Nat.le_of_ble_eq_true rfl), (Nat.le_of_ble_eq_true rfl)⟩) (xR_ps (hP.sub [] rfl) hK) rfl rfl hl.1 rfl (lv_room (Nat.le_of_ble_eq_true rfl)) dX8_isKnown_62 ⟨Nat.zero_le _, Nat.zero_le _⟩) (fun r2 hw => ?_)
      refine lv_iconst (v := 2) hx hb dX8_isKnown_65 (by decide) ?_
      refine lv_icmp_ge (tgt := 107) hx hb dX8_isKnown_66 (by decide) (fun c9 => ?_) (fun c9 => ?_)
      · replace hw := hw.1 c9
        refine lv_iconst (v := 0) hx hb dX8_isKnown_107 (by decide) ?_
        exact W.zret hx hb hr rfl (fun t ht _ => ⟨_, rfl, hw, ht⟩) (fun _ h => absurd h List.not_mem_nil) dX8_isKnown_108
      · replace hw := hw.2 c9
        refine lv_iload_n hx hb dX8_isKnown_69 rfl (lv_at hl 1 rfl) ?_
        refine lv_iload hx hb dX8_isKnown_70 (lv_at hl 2 rfl) ?_
        refine lv_iconst (v := -1) hx hb dX8_isKnown_72 (by decide) ?_
        refine lv_ixor hx hb dX8_isKnown_73 ?_
        refine lv_iand hx hb dX8_isKnown_74 ?_
        refine lv_iload hx hb dX8_isKnown_75 (lv_at hl 0 rfl) ?_
        refine lv_iand hx hb dX8_isKnown_77 ?_
        refine vp_callSi (W.runS (As := [.int ((x3 &&& (x4 ^^^ (-1 : Int32))) &&& k0)]) (rest := []) ⟨hx, hb, hml, hown, hts⟩ (c_X8_bits l D G ((x3 &&& (x4 ^^^ (-1 : Int32))) &&& k0) _ hw) (va_cwS 1 hts gX8_isKnown_X8_bits rfl rfl rfl (by decide +kernel) ⟨(Nat.le_of_ble_eq_true rfl), (Nat.le_of_ble_eq_true rfl)⟩) (xR_ps (hP.sub [] rfl) hK) rfl rfl hl.1 rfl (lv_room (Nat.le_of_ble_eq_true rfl)) dX8_isKnown_78 ⟨Nat.zero_le _, Nat.zero_le _⟩) (fun r3 hw => ?_)
        refine lv_iconst (v := 2) hx hb dX8_isKnown_81 (by decide) ?_
        refine lv_icmp_ge (tgt := 107) hx hb dX8_isKnown_82 (by decide) (fun c9 => ?_) (fun c9 => ?_)
        · replace hw := hw.1 c9
          refine lv_iconst (v := 0) hx hb dX8_isKnown_107 (by decide) ?_
          exact W.zret hx hb hr rfl (fun t ht _ => ⟨_, rfl, hw, ht⟩) (fun _ h => absurd h List.not_mem_nil) dX8_isKnown_108
        · replace hw := hw.2 c9
          refine lv_iload_n hx hb dX8_isKnown_85 rfl (lv_at hl 1 rfl) ?_
          refine lv_iload hx hb dX8_isKnown_86 (lv_at hl 2 rfl) ?_
          refine lv_iconst (v := -1) hx hb dX8_isKnown_88 (by decide) ?_
          refine lv_ixor hx hb dX8_isKnown_89 ?_
          refine lv_iand hx hb dX8_isKnown_90 ?_
          refine lv_iload hx hb dX8_isKnown_91 (lv_at hl 0 rfl) ?_
          refine lv_iconst (v := -1) hx hb dX8_isKnown_93 (by decide) ?_
          refine lv_ixor hx hb dX8_isKnown_94 ?_
          refine lv_iand hx hb dX8_isKnown_95 ?_
          refine vp_callSi (W.runS (As := [.int ((x3 &&& (x4 ^^^ (-1 : Int32))) &&& (k0 ^^^ (-1 : Int32)))]) (rest := []) ⟨hx, hb, hml, hown, hts⟩ (c_X8_bits l D G ((x3 &&& (x4 ^^^ (-1 : Int32))) &&& (k0 ^^^ (-1 : Int32))) _ hw) (va_cwS 1 hts gX8_isKnown_X8_bits rfl rfl rfl (by decide +kernel) ⟨(Nat.le_of_ble_eq_true rfl), (Nat.le_of_ble_eq_true rfl)⟩) (xR_ps (hP.sub [] rfl) hK) rfl rfl hl.1 rfl (lv_room (Nat.le_of_ble_eq_true rfl)) dX8_isKnown_96 ⟨Nat.zero_le _, Nat.zero_le _⟩) (fun r4 hw => ?_)
          refine lv_iconst (v := 2) hx hb dX8_isKnown_99 (by decide) ?_
          refine lv_icmp_ge (tgt := 107) hx hb dX8_isKnown_100 (by decide) (fun c9 => ?_) (fun c9 => ?_)
          · replace hw := hw.1 c9
            refine lv_iconst (v := 0) hx hb dX8_isKnown_107 (by decide) ?_
            exact W.zret hx hb hr rfl (fun t ht _ => ⟨_, rfl, hw, ht⟩) (fun _ h => absurd h List.not_mem_nil) dX8_isKnown_108
          · replace hw := hw.2 c9
            refine lv_iconst (v := 1) hx hb dX8_isKnown_103 (by decide) ?_
            refine lv_goto (tgt := 108) hx hb dX8_isKnown_104 (by decide) ?_
            exact W.zret hx hb hr rfl (fun t ht _ => ⟨_, rfl, hw, ht⟩) (fun _ h => absurd h List.not_mem_nil) dX8_isKnown_108
  have J21 : ∀ (x3 : Int32) (k0 : Int32) (ls : Array Slot), wp_X8_isKnown_J21 m_noticed x2 x3 k0 post → lv_has ls 6 [(0, .ref m_mo), (2, .int x2), (3, .int x3)] → W p l e (headSpec wsX8_isKnown ({ frames := 1, cells := 0, slots := 0, locals := 22 } : Room)).room s m ([.ref m_mo, .int x1, .int x2] : List Value).toArray below meth c s.heap [] 0 0 (MQ below (vp_Si post) ([.ref m_mo, .int x1, .int x2] : List Value).toArray s 0 0 (fun _ => False)) (F0 m 21 ls [.int k0]) := by
    intro x3 k0 ls hw hl
    unfold wp_X8_isKnown_J21 at hw
    refine lv_istore (lv' := [(4, .int k0), (0, .ref m_mo), (2, .int x2), (3, .int x3)]) hx hb dX8_isKnown_21 hl (by decide) rfl (fun ls hl => ?_)
    refine lv_iload_n hx hb dX8_isKnown_23 rfl (lv_at hl 2 rfl) ?_
    refine lv_if_ne (tgt := 31) hx hb dX8_isKnown_24 (by decide) (fun c9 => ?_) (fun c9 => ?_)
    · replace hw := hw.1 c9
      refine lv_aload_n hx hb dX8_isKnown_31 rfl (lv_at hl 1 rfl) ?_
      refine va_get (D := D) (ci := 8) (v := .ref m_anoticed) (C := RX8) (T := TX8) (N := 18) hx hb hts inX8 hown hK hP 0 rfl rfl 12 (by decide) fl35 (fun _ h9 => h9) rfl dX8_isKnown_32 ?_
      refine lv_iload_n hx hb dX8_isKnown_35 rfl (lv_at hl 2 rfl) ?_
      refine x_iald (j := x2.toNatClampNeg) hx hb hK hP 2 0 rfl rfl rfl hw.1 dX8_isKnown_36 ?_
      replace hw := hw.2
      exact J37 x3 k0 (m_noticed x2.toNatClampNeg) _ hw (lv_sub hl [3, 0] rfl)
    · replace hw := hw.2 c9
      refine lv_iconst (v := 0) hx hb dX8_isKnown_27 (by decide) ?_
      refine lv_goto (tgt := 37) hx hb dX8_isKnown_28 (by decide) ?_
      exact J37 x3 k0 (0 : Int32) _ hw (lv_sub hl [3, 0] rfl)
  refine lv_aload_n hx hb dX8_isKnown_0 rfl (lv_at hl 0 rfl) ?_
  refine va_get (D := D) (ci := 8) (v := .ref m_anow) (C := RX8) (T := TX8) (N := 18) hx hb hts inX8 hown hK hP 0 rfl rfl 7 (by decide) fl23 (fun _ h9 => h9) rfl dX8_isKnown_1 ?_
  refine lv_iconst (v := 2) hx hb dX8_isKnown_4 (by decide) ?_
  refine x_iald (j := 2) hx hb hK hP 1 0 rfl rfl (by decide) (x_in (by decide)) dX8_isKnown_5 ?_
  refine lv_istore_n (lv' := [(3, .int (m_now 2)), (0, .ref m_mo), (1, .int x1), (2, .int x2)]) hx hb dX8_isKnown_6 rfl hl (by decide) rfl (fun ls hl => ?_)
  refine lv_iload_n hx hb dX8_isKnown_7 rfl (lv_at hl 2 rfl) ?_
  refine lv_if_ne (tgt := 15) hx hb dX8_isKnown_8 (by decide) (fun c9 => ?_) (fun c9 => ?_)
  · replace hw := hw.1 c9
    refine lv_aload_n hx hb dX8_isKnown_15 rfl (lv_at hl 1 rfl) ?_
    refine va_get (D := D) (ci := 8) (v := .ref m_anoticed) (C := RX8) (T := TX8) (N := 18) hx hb hts inX8 hown hK hP 0 rfl rfl 12 (by decide) fl35 (fun _ h9 => h9) rfl dX8_isKnown_16 ?_
    refine lv_iload_n hx hb dX8_isKnown_19 rfl (lv_at hl 2 rfl) ?_
    refine x_iald (j := x1.toNatClampNeg) hx hb hK hP 2 0 rfl rfl rfl hw.1 dX8_isKnown_20 ?_
    replace hw := hw.2
    exact J21 (m_now 2) (m_noticed x1.toNatClampNeg) _ hw (lv_sub hl [1, 3, 0] rfl)
  · replace hw := hw.2 c9
    refine lv_iconst (v := 0) hx hb dX8_isKnown_11 (by decide) ?_
    refine lv_goto (tgt := 21) hx hb dX8_isKnown_12 (by decide) ?_
    exact J21 (m_now 2) (0 : Int32) _ hw (lv_sub hl [1, 3, 0] rfl)
set_option maxHeartbeats 4000000 in
set_option maxRecDepth 100000 in
theorem c_X8_layOnce (l : Launch) (D : va_G) (G : Nat → ClassId) (sz : Nat) (m_mo : Nat) (m_alane : Nat) (m_asize : Nat) (m_aitem : Nat) (m_atape : Nat) (m_anow : Nat) (m_atried : Nat) (m_aread : Nat) (m_akept : Nat) (m_anoticed : Nat) (m_aneeds : Nat) (m_aorder : Nat) (m_letters : Int32) (m_position : Int32) (m_number : Int32) (m_isKept : Int32) (m_many : Int32) (m_one : Int32) (m_two : Int32) (m_now : Nat → Int32) (m_noticed : Nat → Int32) (x1 : Int32) (post : Int32 → Int32 → Int32 → (Nat → Int32) → Prop) (hw : wp_X8_layOnce m_now m_noticed x1 post) : Met l yX8_layOnce wsX8_layOnce ({ frames := 5, cells := 0, slots := 0, locals := 117 } : Room) (va_Pc [.ref m_mo, .int x1] (xM D G sz [(m_mo, .inr (8, [.ref m_alane, .ref m_asize, .ref m_aitem, .int m_letters, .ref m_atape, .int m_position, .int m_number, .ref m_anow, .ref m_atried, .ref m_aread, .ref m_akept, .int m_isKept, .ref m_anoticed, .ref m_aneeds, .ref m_aorder, .int m_many, .int m_one, .int m_two])), (m_anow, .inl (G 0, 55, .inl m_now)), (m_anoticed, .inl (G 0, 256, .inl m_noticed))])) (va_Qv (fun (u : Int32 × Int32 × Int32 × (Nat → Int32)) => post u.1 u.2.1 u.2.2.1 u.2.2.2) (fun u t => xE D G (va_A [(m_mo, .inr (8, [.ref m_alane, .ref m_asize, .ref m_aitem, .int m_letters, .ref m_atape, .int m_position, .int m_number, .ref m_anow, .ref m_atried, .ref m_aread, .ref m_akept, .int m_isKept, .ref m_anoticed, .ref m_aneeds, .ref m_aorder, .int m_many, .int m_one, .int m_two])), (m_anow, .inl (G 0, 55, .inl m_now)), (m_anoticed, .inl (G 0, 256, .inl m_noticed))] sz) [(m_mo, .inr (8, [.ref m_alane, .ref m_asize, .ref m_aitem, .int m_letters, .ref m_atape, .int m_position, .int m_number, .ref m_anow, .ref m_atried, .ref m_aread, .ref m_akept, .int m_isKept, .ref m_anoticed, .ref m_aneeds, .ref m_aorder, .int u.1, .int u.2.1, .int u.2.2.1])), (m_anow, .inl (G 0, 55, .inl m_now)), (m_anoticed, .inl (G 0, 256, .inl (u.2.2.2)))] t) (va_A [(m_mo, .inr (8, [.ref m_alane, .ref m_asize, .ref m_aitem, .int m_letters, .ref m_atape, .int m_position, .int m_number, .ref m_anow, .ref m_atried, .ref m_aread, .ref m_akept, .int m_isKept, .ref m_anoticed, .ref m_aneeds, .ref m_aorder, .int m_many, .int m_one, .int m_two])), (m_anow, .inl (G 0, 55, .inl m_now)), (m_anoticed, .inl (G 0, 256, .inl m_noticed))] sz)) 0 0 (va_A [(m_mo, .inr (8, [.ref m_alane, .ref m_asize, .ref m_aitem, .int m_letters, .ref m_atape, .int m_position, .int m_number, .ref m_anow, .ref m_atried, .ref m_aread, .ref m_akept, .int m_isKept, .ref m_anoticed, .ref m_aneeds, .ref m_aorder, .int m_many, .int m_one, .int m_two])), (m_anow, .inl (G 0, 55, .inl m_now)), (m_anoticed, .inl (G 0, 256, .inl m_noticed))] sz) := by
  refine Met.ofW (cc := cX8_layOnce) (maxL := 4) (ret := none) (by decide) rfl ?_
  intro p e s m args below meth c s₁ B hml hv
  obtain ⟨rfl, hsz, hP, hK, hD0⟩ := hv
  have hx := B.exec
  have hb := B.bytes
  have hr := B.returns
  have hts := atoms_spec (ws := wsX8_layOnce) B.pre
  have hown : s.vm.findClass RX8 = some m.cls := findClass_of_methodNamed B.named
  have hlocks := B.notSynchronized
  subst hsz
  have hD := hD0.self (sz := s.heap.size)
  generalize hAe : va_A [(m_mo, .inr (8, [.ref m_alane, .ref m_asize, .ref m_aitem, .int m_letters, .ref m_atape, .int m_position, .int m_number, .ref m_anow, .ref m_atried, .ref m_aread, .ref m_akept, .int m_isKept, .ref m_anoticed, .ref m_aneeds, .ref m_aorder, .int m_many, .int m_one, .int m_two])), (m_anow, .inl (G 0, 55, .inl m_now)), (m_anoticed, .inl (G 0, 256, .inl m_noticed))] s.heap.size = A at hD ⊢
  have hA : ∀ q : Nat, s.heap.size ≤ q → A q := fun q h => by rw [← hAe]; exact Or.inr h
  have hS : va_S A s.heap s.heap [] := va_S.rf
  have inX8 : ∀ w ∈ wsX80, w ∈ wsX8_layOnce := by decide +kernel
  have fl153 := hts (.fieldLink RX8 153 "NewsCowModel" "many" "I") (by decide +kernel)
  have fl156 := hts (.fieldLink RX8 156 "NewsCowModel" "one" "I") (by decide +kernel)
  have fl159 := hts (.fieldLink RX8 159 "NewsCowModel" "two" "I") (by decide +kernel)
  have fl23 := hts (.fieldLink RX8 23 "NewsCowModel" "now" "[I") (by decide +kernel)
  have hl := lv_entry ([.ref m_mo, .int x1] : List Value) (n := 4) (Nat.le_of_ble_eq_true rfl)
  rw [lg_entry_eq]
  generalize (lg_sl ([.ref m_mo, .int x1] : List Value) ++ List.replicate (4 - (lg_sl ([.ref m_mo, .int x1] : List Value)).length) Slot.unset).toArray = ls at hl ⊢
  have hl : lv_has ls 4 [(0, .ref m_mo), (1, .int x1)] := hl
  unfold wp_X8_layOnce at hw
  have L85 : ∀ (f85 : Nat) (x2 : Int32) (m_many : Int32) (m_one : Int32) (m_two : Int32) (m_noticed : Nat → Int32) (H : Heap) (locs : List Loc) (ls : Array Slot), wp_X8_layOnce_L85 m_now m_noticed post f85 m_many m_one m_two x2 → va_P D vwCl [(m_mo, .inr (8, [.ref m_alane, .ref m_asize, .ref m_aitem, .int m_letters, .ref m_atape, .int m_position, .int m_number, .ref m_anow, .ref m_atried, .ref m_aread, .ref m_akept, .int m_isKept, .ref m_anoticed, .ref m_aneeds, .ref m_aorder, .int m_many, .int m_one, .int m_two])), (m_anow, .inl (G 0, 55, .inl m_now)), (m_anoticed, .inl (G 0, 256, .inl m_noticed))] H → va_D A [(m_mo, .inr (8, [.ref m_alane, .ref m_asize, .ref m_aitem, .int m_letters, .ref m_atape, .int m_position, .int m_number, .ref m_anow, .ref m_atried, .ref m_aread, .ref m_akept, .int m_isKept, .ref m_anoticed, .ref m_aneeds, .ref m_aorder, .int m_many, .int m_one, .int m_two])), (m_anow, .inl (G 0, 55, .inl m_now)), (m_anoticed, .inl (G 0, 256, .inl m_noticed))] → va_S A s.heap H locs → lv_has ls 4 [(0, .ref m_mo), (2, .int x2)] → W p l e (headSpec wsX8_layOnce ({ frames := 5, cells := 0, slots := 0, locals := 117 } : Room)).room s m ([.ref m_mo, .int x1] : List Value).toArray below meth c H locs 0 0 (MQ below (va_Qv (fun (u : Int32 × Int32 × Int32 × (Nat → Int32)) => post u.1 u.2.1 u.2.2.1 u.2.2.2) (fun u t => xE D G A [(m_mo, .inr (8, [.ref m_alane, .ref m_asize, .ref m_aitem, .int m_letters, .ref m_atape, .int m_position, .int m_number, .ref m_anow, .ref m_atried, .ref m_aread, .ref m_akept, .int m_isKept, .ref m_anoticed, .ref m_aneeds, .ref m_aorder, .int u.1, .int u.2.1, .int u.2.2.1])), (m_anow, .inl (G 0, 55, .inl m_now)), (m_anoticed, .inl (G 0, 256, .inl (u.2.2.2)))] t) A) ([.ref m_mo, .int x1] : List Value).toArray s 0 0 A) (F0 m 85 ls []) := by
    intro f85
    induction f85 with
    | zero => intro x2 m_many m_one m_two m_noticed H locs ls hw hP hD hS hl; exact (hw : False).elim
    | succ f85 ih85 =>
      intro x2 m_many m_one m_two m_noticed H locs ls hw hP hD hS hl
      unfold wp_X8_layOnce_L85 at hw
      have L109 : ∀ (f109 : Nat) (x2 : Int32) (x3 : Int32) (m_many : Int32) (m_one : Int32) (m_two : Int32) (m_noticed : Nat → Int32) (H : Heap) (locs : List Loc) (ls : Array Slot), wp_X8_layOnce_L109 m_now m_noticed x2 (wp_X8_layOnce_L85 m_now m_noticed post f85) post f109 m_many m_one m_two x3 → va_P D vwCl [(m_mo, .inr (8, [.ref m_alane, .ref m_asize, .ref m_aitem, .int m_letters, .ref m_atape, .int m_position, .int m_number, .ref m_anow, .ref m_atried, .ref m_aread, .ref m_akept, .int m_isKept, .ref m_anoticed, .ref m_aneeds, .ref m_aorder, .int m_many, .int m_one, .int m_two])), (m_anow, .inl (G 0, 55, .inl m_now)), (m_anoticed, .inl (G 0, 256, .inl m_noticed))] H → va_D A [(m_mo, .inr (8, [.ref m_alane, .ref m_asize, .ref m_aitem, .int m_letters, .ref m_atape, .int m_position, .int m_number, .ref m_anow, .ref m_atried, .ref m_aread, .ref m_akept, .int m_isKept, .ref m_anoticed, .ref m_aneeds, .ref m_aorder, .int m_many, .int m_one, .int m_two])), (m_anow, .inl (G 0, 55, .inl m_now)), (m_anoticed, .inl (G 0, 256, .inl m_noticed))] → va_S A s.heap H locs → lv_has ls 4 [(0, .ref m_mo), (2, .int x2), (3, .int x3)] → W p l e (headSpec wsX8_layOnce ({ frames := 5, cells := 0, slots := 0, locals := 117 } : Room)).room s m ([.ref m_mo, .int x1] : List Value).toArray below meth c H locs 0 0 (MQ below (va_Qv (fun (u : Int32 × Int32 × Int32 × (Nat → Int32)) => post u.1 u.2.1 u.2.2.1 u.2.2.2) (fun u t => xE D G A [(m_mo, .inr (8, [.ref m_alane, .ref m_asize, .ref m_aitem, .int m_letters, .ref m_atape, .int m_position, .int m_number, .ref m_anow, .ref m_atried, .ref m_aread, .ref m_akept, .int m_isKept, .ref m_anoticed, .ref m_aneeds, .ref m_aorder, .int u.1, .int u.2.1, .int u.2.2.1])), (m_anow, .inl (G 0, 55, .inl m_now)), (m_anoticed, .inl (G 0, 256, .inl (u.2.2.2)))] t) A) ([.ref m_mo, .int x1] : List Value).toArray s 0 0 A) (F0 m 109 ls []) := by
        intro f109
        induction f109 with
        | zero => intro x2 x3 m_many m_one m_two m_noticed H locs ls hw hP hD hS hl; exact (hw : False).elim
        | succ f109 ih109 =>
          intro x2 x3 m_many m_one m_two m_noticed H locs ls hw hP hD hS hl
          unfold wp_X8_layOnce_L109 at hw
          refine lv_iload_n hx hb dX8_layOnce_109 rfl (lv_at hl 2 rfl) ?_
          refine lv_aload_n hx hb dX8_layOnce_110 rfl (lv_at hl 0 rfl) ?_
          refine va_get (D := D) (ci := 8) (v := .ref m_anow) (C := RX8) (T := TX8) (N := 18) hx hb hts inX8 hown hK hP 0 rfl rfl 7 (by decide) fl23 (fun _ h9 => h9) rfl dX8_layOnce_111 ?_
          refine vp_callSi (W.runS (As := [.ref m_anow]) (rest := [.int x3]) ⟨hx, hb, hml, hown, hts⟩ (c_X8_allOf l D G m_anow m_now _ hw) (va_cwS 1 hts gX8_layOnce_X8_allOf rfl rfl rfl (by decide +kernel) ⟨(Nat.le_of_ble_eq_true rfl), (Nat.le_of_ble_eq_true rfl)⟩) (xR_ps (hP.sub [1] rfl) hK) rfl rfl hl.1 rfl (lv_room (Nat.le_of_ble_eq_true rfl)) dX8_layOnce_114 ⟨Nat.zero_le _, Nat.zero_le _⟩) (fun r6 hw => ?_)
          refine lv_icmp_gt (tgt := 159) hx hb dX8_layOnce_117 (by decide) (fun c9 => ?_) (fun c9 => ?_)
          · replace hw := hw.1 c9
            refine lv_iinc (v := (x2 + 1)) (lv' := [(2, .int (x2 + 1)), (0, .ref m_mo), (3, .int x3)]) hx hb dX8_layOnce_159 hl (k := 1) rfl (by first | rfl | decide) (by decide) rfl (fun ls hl => ?_)
            refine lv_goto (tgt := 85) hx hb dX8_layOnce_162 (by decide) ?_
            exact ih85 (x2 + 1) m_many m_one m_two m_noticed _ _ _ hw hP hD hS (lv_sub hl [1, 0] rfl)
          · replace hw := hw.2 c9
            refine lv_aload_n hx hb dX8_layOnce_120 rfl (lv_at hl 0 rfl) ?_
            refine va_get (D := D) (ci := 8) (v := .int m_many) (C := RX8) (T := TX8) (N := 18) hx hb hts inX8 hown hK hP 0 rfl rfl 15 (by decide) fl153 (fun _ h9 => h9) rfl dX8_layOnce_121 ?_
            refine lv_bipush (v := -4) hx hb dX8_layOnce_124 (by decide) ?_
            refine lv_icmp_ne (tgt := 159) hx hb dX8_layOnce_126 (by decide) (fun c9 => ?_) (fun c9 => ?_)
            · replace hw := hw.1 c9
              refine lv_iinc (v := (x2 + 1)) (lv' := [(2, .int (x2 + 1)), (0, .ref m_mo), (3, .int x3)]) hx hb dX8_layOnce_159 hl (k := 1) rfl (by first | rfl | decide) (by decide) rfl (fun ls hl => ?_)
              refine lv_goto (tgt := 85) hx hb dX8_layOnce_162 (by decide) ?_
              exact ih85 (x2 + 1) m_many m_one m_two m_noticed _ _ _ hw hP hD hS (lv_sub hl [1, 0] rfl)
            · replace hw := hw.2 c9
              refine lv_aload_n hx hb dX8_layOnce_129 rfl (lv_at hl 0 rfl) ?_
              refine lv_iload_n hx hb dX8_layOnce_130 rfl (lv_at hl 1 rfl) ?_
              refine lv_iload_n hx hb dX8_layOnce_131 rfl (lv_at hl 2 rfl) ?_
              refine vp_callSi (W.runV (As := [.int x2, .int x3]) (rest := []) ⟨hx, hb, hml, hown, hts⟩ (c_X8_isKnown l D G m_mo m_alane m_asize m_aitem m_atape m_anow m_atried m_aread m_akept m_anoticed m_aneeds m_aorder m_letters m_position m_number m_isKept m_many m_one m_two m_now m_noticed x2 x3 _ hw) (cwV 2 hts gX8_layOnce_X8_isKnown rfl rfl rfl (by decide +kernel) ⟨(Nat.le_of_ble_eq_true rfl), (Nat.le_of_ble_eq_true rfl)⟩) (xR_pv (hP.sub [0, 1, 2] rfl) hK (va_recv hK hP (ci := 8) (q0 := 0) rfl rfl)) rfl rfl hl.1 rfl (lv_room (Nat.le_of_ble_eq_true rfl)) dX8_layOnce_132 ⟨Nat.zero_le _, Nat.zero_le _⟩) (fun r7 hw => ?_)
              refine lv_if_eq (tgt := 153) hx hb dX8_layOnce_135 (by decide) (fun c9 => ?_) (fun c9 => ?_)
              · replace hw := hw.1 c9
                refine lv_iinc (v := (x3 + 1)) (lv' := [(3, .int (x3 + 1)), (0, .ref m_mo), (2, .int x2)]) hx hb dX8_layOnce_153 hl (k := 2) rfl (by first | rfl | decide) (by decide) rfl (fun ls hl => ?_)
                refine lv_goto (tgt := 109) hx hb dX8_layOnce_156 (by decide) ?_
                exact ih109 x2 (x3 + 1) m_many m_one m_two m_noticed _ _ _ hw hP hD hS (lv_sub hl [1, 2, 0] rfl)
              · replace hw := hw.2 c9
                refine lv_aload_n hx hb dX8_layOnce_138 rfl (lv_at hl 0 rfl) ?_
                refine lv_iconst (v := 2) hx hb dX8_layOnce_139 (by decide) ?_
                refine va_put (D := D) (ci := 8) (v := .int (2 : Int32)) (ty := .int) (C := RX8) (T := TX8) (N := 18) hx hb hts inX8 tyX8 tyX8_ok nmX8 hown hK hP hD hS 0 rfl rfl 15 (by decide) fl153 (fun _ h9 => h9) rfl (by decide +kernel) rfl rfl (Nat.le_of_ble_eq_true rfl) dX8_layOnce_140 (fun H locs hP hD hS => ?_)
                replace hP : va_P D vwCl [(m_mo, .inr (8, [.ref m_alane, .ref m_asize, .ref m_aitem, .int m_letters, .ref m_atape, .int m_position, .int m_number, .ref m_anow, .ref m_atried, .ref m_aread, .ref m_akept, .int m_isKept, .ref m_anoticed, .ref m_aneeds, .ref m_aorder, .int (2 : Int32), .int m_one, .int m_two])), (m_anow, .inl (G 0, 55, .inl m_now)), (m_anoticed, .inl (G 0, 256, .inl m_noticed))] H := hP
                replace hD : va_D A [(m_mo, .inr (8, [.ref m_alane, .ref m_asize, .ref m_aitem, .int m_letters, .ref m_atape, .int m_position, .int m_number, .ref m_anow, .ref m_atried, .ref m_aread, .ref m_akept, .int m_isKept, .ref m_anoticed, .ref m_aneeds, .ref m_aorder, .int (2 : Int32), .int m_one, .int m_two])), (m_anow, .inl (G 0, 55, .inl m_now)), (m_anoticed, .inl (G 0, 256, .inl m_noticed))] := hD
                refine lv_aload_n hx hb dX8_layOnce_143 rfl (lv_at hl 0 rfl) ?_
                refine lv_iload_n hx hb dX8_layOnce_144 rfl (lv_at hl 1 rfl) ?_
                refine va_put (D := D) (ci := 8) (v := .int x2) (ty := .int) (C := RX8) (T := TX8) (N := 18) hx hb hts inX8 tyX8 tyX8_ok nmX8 hown hK hP hD hS 0 rfl rfl 16 (by decide) fl156 (fun _ h9 => h9) rfl (by decide +kernel) rfl rfl (Nat.le_of_ble_eq_true rfl) dX8_layOnce_145 (fun H locs hP hD hS => ?_)
                replace hP : va_P D vwCl [(m_mo, .inr (8, [.ref m_alane, .ref m_asize, .ref m_aitem, .int m_letters, .ref m_atape, .int m_position, .int m_number, .ref m_anow, .ref m_atried, .ref m_aread, .ref m_akept, .int m_isKept, .ref m_anoticed, .ref m_aneeds, .ref m_aorder, .int (2 : Int32), .int x2, .int m_two])), (m_anow, .inl (G 0, 55, .inl m_now)), (m_anoticed, .inl (G 0, 256, .inl m_noticed))] H := hP
                replace hD : va_D A [(m_mo, .inr (8, [.ref m_alane, .ref m_asize, .ref m_aitem, .int m_letters, .ref m_atape, .int m_position, .int m_number, .ref m_anow, .ref m_atried, .ref m_aread, .ref m_akept, .int m_isKept, .ref m_anoticed, .ref m_aneeds, .ref m_aorder, .int (2 : Int32), .int x2, .int m_two])), (m_anow, .inl (G 0, 55, .inl m_now)), (m_anoticed, .inl (G 0, 256, .inl m_noticed))] := hD
                refine lv_aload_n hx hb dX8_layOnce_148 rfl (lv_at hl 0 rfl) ?_
                refine lv_iload_n hx hb dX8_layOnce_149 rfl (lv_at hl 2 rfl) ?_
                refine va_put (D := D) (ci := 8) (v := .int x3) (ty := .int) (C := RX8) (T := TX8) (N := 18) hx hb hts inX8 tyX8 tyX8_ok nmX8 hown hK hP hD hS 0 rfl rfl 17 (by decide) fl159 (fun _ h9 => h9) rfl (by decide +kernel) rfl rfl (Nat.le_of_ble_eq_true rfl) dX8_layOnce_150 (fun H locs hP hD hS => ?_)
                replace hP : va_P D vwCl [(m_mo, .inr (8, [.ref m_alane, .ref m_asize, .ref m_aitem, .int m_letters, .ref m_atape, .int m_position, .int m_number, .ref m_anow, .ref m_atried, .ref m_aread, .ref m_akept, .int m_isKept, .ref m_anoticed, .ref m_aneeds, .ref m_aorder, .int (2 : Int32), .int x2, .int x3])), (m_anow, .inl (G 0, 55, .inl m_now)), (m_anoticed, .inl (G 0, 256, .inl m_noticed))] H := hP
                replace hD : va_D A [(m_mo, .inr (8, [.ref m_alane, .ref m_asize, .ref m_aitem, .int m_letters, .ref m_atape, .int m_position, .int m_number, .ref m_anow, .ref m_atried, .ref m_aread, .ref m_akept, .int m_isKept, .ref m_anoticed, .ref m_aneeds, .ref m_aorder, .int (2 : Int32), .int x2, .int x3])), (m_anow, .inl (G 0, 55, .inl m_now)), (m_anoticed, .inl (G 0, 256, .inl m_noticed))] := hD
                refine lv_iinc (v := (x3 + 1)) (lv' := [(3, .int (x3 + 1)), (0, .ref m_mo), (2, .int x2)]) hx hb dX8_layOnce_153 hl (k := 2) rfl (by first | rfl | decide) (by decide) rfl (fun ls hl => ?_)
                refine lv_goto (tgt := 109) hx hb dX8_layOnce_156 (by decide) ?_
                exact ih109 x2 (x3 + 1) (2 : Int32) x2 x3 m_noticed _ _ _ hw hP hD hS (lv_sub hl [1, 2, 0] rfl)
      refine lv_iload_n hx hb dX8_layOnce_85 rfl (lv_at hl 1 rfl) ?_
      refine lv_aload_n hx hb dX8_layOnce_86 rfl (lv_at hl 0 rfl) ?_
      refine va_get (D := D) (ci := 8) (v := .ref m_anow) (C := RX8) (T := TX8) (N := 18) hx hb hts inX8 hown hK hP 0 rfl rfl 7 (by decide) fl23 (fun _ h9 => h9) rfl dX8_layOnce_87 ?_
      refine vp_callSi (W.runS (As := [.ref m_anow]) (rest := [.int x2]) ⟨hx, hb, hml, hown, hts⟩ (c_X8_allOf l D G m_anow m_now _ hw) (va_cwS 1 hts gX8_layOnce_X8_allOf rfl rfl rfl (by decide +kernel) ⟨(Nat.le_of_ble_eq_true rfl), (Nat.le_of_ble_eq_true rfl)⟩) (xR_ps (hP.sub [1] rfl) hK) rfl rfl hl.1 rfl (lv_room (Nat.le_of_ble_eq_true rfl)) dX8_layOnce_90 ⟨Nat.zero_le _, Nat.zero_le _⟩) (fun r5 hw => ?_)
      refine lv_icmp_gt (tgt := 165) hx hb dX8_layOnce_93 (by decide) (fun c9 => ?_) (fun c9 => ?_)
      · replace hw := hw.1 c9
        exact W.vret hx hb hr (x_mv (u := (m_many, m_one, m_two, m_noticed)) hP hK hD hS hw) hS.2.2 dX8_layOnce_165
      · replace hw := hw.2 c9
        refine lv_aload_n hx hb dX8_layOnce_96 rfl (lv_at hl 0 rfl) ?_
        refine va_get (D := D) (ci := 8) (v := .int m_many) (C := RX8) (T := TX8) (N := 18) hx hb hts inX8 hown hK hP 0 rfl rfl 15 (by decide) fl153 (fun _ h9 => h9) rfl dX8_layOnce_97 ?_
        refine lv_bipush (v := -4) hx hb dX8_layOnce_100 (by decide) ?_
        refine lv_icmp_ne (tgt := 165) hx hb dX8_layOnce_102 (by decide) (fun c9 => ?_) (fun c9 => ?_)
        · replace hw := hw.1 c9
          exact W.vret hx hb hr (x_mv (u := (m_many, m_one, m_two, m_noticed)) hP hK hD hS hw) hS.2.2 dX8_layOnce_165
        · replace hw := hw.2 c9
          refine lv_iload_n hx hb dX8_layOnce_105 rfl (lv_at hl 1 rfl) ?_
          refine lv_iconst (v := 1) hx hb dX8_layOnce_106 (by decide) ?_
          refine lv_iadd hx hb dX8_layOnce_107 ?_
          refine lv_istore_n (lv' := [(3, .int (x2 + (1 : Int32))), (0, .ref m_mo), (2, .int x2)]) hx hb dX8_layOnce_108 rfl hl (by decide) rfl (fun ls hl => ?_)
          obtain ⟨n, hw⟩ := hw
          exact L109 n x2 (x2 + (1 : Int32)) m_many m_one m_two m_noticed _ _ _ hw hP hD hS (lv_sub hl [1, 2, 0] rfl)
  have L38 : ∀ (f38 : Nat) (x2 : Int32) (m_many : Int32) (m_one : Int32) (m_two : Int32) (m_noticed : Nat → Int32) (H : Heap) (locs : List Loc) (ls : Array Slot), wp_X8_layOnce_L38 m_two m_now m_noticed post f38 m_many m_one x2 → va_P D vwCl [(m_mo, .inr (8, [.ref m_alane, .ref m_asize, .ref m_aitem, .int m_letters, .ref m_atape, .int m_position, .int m_number, .ref m_anow, .ref m_atried, .ref m_aread, .ref m_akept, .int m_isKept, .ref m_anoticed, .ref m_aneeds, .ref m_aorder, .int m_many, .int m_one, .int m_two])), (m_anow, .inl (G 0, 55, .inl m_now)), (m_anoticed, .inl (G 0, 256, .inl m_noticed))] H → va_D A [(m_mo, .inr (8, [.ref m_alane, .ref m_asize, .ref m_aitem, .int m_letters, .ref m_atape, .int m_position, .int m_number, .ref m_anow, .ref m_atried, .ref m_aread, .ref m_akept, .int m_isKept, .ref m_anoticed, .ref m_aneeds, .ref m_aorder, .int m_many, .int m_one, .int m_two])), (m_anow, .inl (G 0, 55, .inl m_now)), (m_anoticed, .inl (G 0, 256, .inl m_noticed))] → va_S A s.heap H locs → lv_has ls 4 [(0, .ref m_mo), (2, .int x2)] → W p l e (headSpec wsX8_layOnce ({ frames := 5, cells := 0, slots := 0, locals := 117 } : Room)).room s m ([.ref m_mo, .int x1] : List Value).toArray below meth c H locs 0 0 (MQ below (va_Qv (fun (u : Int32 × Int32 × Int32 × (Nat → Int32)) => post u.1 u.2.1 u.2.2.1 u.2.2.2) (fun u t => xE D G A [(m_mo, .inr (8, [.ref m_alane, .ref m_asize, .ref m_aitem, .int m_letters, .ref m_atape, .int m_position, .int m_number, .ref m_anow, .ref m_atried, .ref m_aread, .ref m_akept, .int m_isKept, .ref m_anoticed, .ref m_aneeds, .ref m_aorder, .int u.1, .int u.2.1, .int u.2.2.1])), (m_anow, .inl (G 0, 55, .inl m_now)), (m_anoticed, .inl (G 0, 256, .inl (u.2.2.2)))] t) A) ([.ref m_mo, .int x1] : List Value).toArray s 0 0 A) (F0 m 38 ls []) := by
    intro f38
    induction f38 with
    | zero => intro x2 m_many m_one m_two m_noticed H locs ls hw hP hD hS hl; exact (hw : False).elim
    | succ f38 ih38 =>
      intro x2 m_many m_one m_two m_noticed H locs ls hw hP hD hS hl
      unfold wp_X8_layOnce_L38 at hw
      refine lv_iload_n hx hb dX8_layOnce_38 rfl (lv_at hl 1 rfl) ?_
      refine lv_aload_n hx hb dX8_layOnce_39 rfl (lv_at hl 0 rfl) ?_
      refine va_get (D := D) (ci := 8) (v := .ref m_anow) (C := RX8) (T := TX8) (N := 18) hx hb hts inX8 hown hK hP 0 rfl rfl 7 (by decide) fl23 (fun _ h9 => h9) rfl dX8_layOnce_40 ?_
      refine vp_callSi (W.runS (As := [.ref m_anow]) (rest := [.int x2]) ⟨hx, hb, hml, hown, hts⟩ (c_X8_allOf l D G m_anow m_now _ hw) (va_cwS 1 hts gX8_layOnce_X8_allOf rfl rfl rfl (by decide +kernel) ⟨(Nat.le_of_ble_eq_true rfl), (Nat.le_of_ble_eq_true rfl)⟩) (xR_ps (hP.sub [1] rfl) hK) rfl rfl hl.1 rfl (lv_room (Nat.le_of_ble_eq_true rfl)) dX8_layOnce_43 ⟨Nat.zero_le _, Nat.zero_le _⟩) (fun r3 hw => ?_)
      refine lv_icmp_gt (tgt := 83) hx hb dX8_layOnce_46 (by decide) (fun c9 => ?_) (fun c9 => ?_)
      · replace hw := hw.1 c9
        refine lv_iconst (v := 1) hx hb dX8_layOnce_83 (by decide) ?_
        refine lv_istore_n (lv' := [(2, .int (1 : Int32)), (0, .ref m_mo)]) hx hb dX8_layOnce_84 rfl hl (by decide) rfl (fun ls hl => ?_)
        obtain ⟨n, hw⟩ := hw
        exact L85 n (1 : Int32) m_many m_one m_two m_noticed _ _ _ hw hP hD hS (lv_sub hl [1, 0] rfl)
      · replace hw := hw.2 c9
        refine lv_aload_n hx hb dX8_layOnce_49 rfl (lv_at hl 0 rfl) ?_
        refine va_get (D := D) (ci := 8) (v := .int m_many) (C := RX8) (T := TX8) (N := 18) hx hb hts inX8 hown hK hP 0 rfl rfl 15 (by decide) fl153 (fun _ h9 => h9) rfl dX8_layOnce_50 ?_
        refine lv_bipush (v := -4) hx hb dX8_layOnce_53 (by decide) ?_
        refine lv_icmp_ne (tgt := 83) hx hb dX8_layOnce_55 (by decide) (fun c9 => ?_) (fun c9 => ?_)
        · replace hw := hw.1 c9
          refine lv_iconst (v := 1) hx hb dX8_layOnce_83 (by decide) ?_
          refine lv_istore_n (lv' := [(2, .int (1 : Int32)), (0, .ref m_mo)]) hx hb dX8_layOnce_84 rfl hl (by decide) rfl (fun ls hl => ?_)
          obtain ⟨n, hw⟩ := hw
          exact L85 n (1 : Int32) m_many m_one m_two m_noticed _ _ _ hw hP hD hS (lv_sub hl [1, 0] rfl)
        · replace hw := hw.2 c9
          refine lv_aload_n hx hb dX8_layOnce_58 rfl (lv_at hl 0 rfl) ?_
          refine lv_iload_n hx hb dX8_layOnce_59 rfl (lv_at hl 1 rfl) ?_
          refine lv_iconst (v := 0) hx hb dX8_layOnce_60 (by decide) ?_
          refine vp_callSi (W.runV (As := [.int x2, .int (0 : Int32)]) (rest := []) ⟨hx, hb, hml, hown, hts⟩ (c_X8_isKnown l D G m_mo m_alane m_asize m_aitem m_atape m_anow m_atried m_aread m_akept m_anoticed m_aneeds m_aorder m_letters m_position m_number m_isKept m_many m_one m_two m_now m_noticed x2 (0 : Int32) _ hw) (cwV 2 hts gX8_layOnce_X8_isKnown rfl rfl rfl (by decide +kernel) ⟨(Nat.le_of_ble_eq_true rfl), (Nat.le_of_ble_eq_true rfl)⟩) (xR_pv (hP.sub [0, 1, 2] rfl) hK (va_recv hK hP (ci := 8) (q0 := 0) rfl rfl)) rfl rfl hl.1 rfl (lv_room (Nat.le_of_ble_eq_true rfl)) dX8_layOnce_61 ⟨Nat.zero_le _, Nat.zero_le _⟩) (fun r4 hw => ?_)
          refine lv_if_eq (tgt := 77) hx hb dX8_layOnce_64 (by decide) (fun c9 => ?_) (fun c9 => ?_)
          · replace hw := hw.1 c9
            refine lv_iinc (v := (x2 + 1)) (lv' := [(2, .int (x2 + 1)), (0, .ref m_mo)]) hx hb dX8_layOnce_77 hl (k := 1) rfl (by first | rfl | decide) (by decide) rfl (fun ls hl => ?_)
            refine lv_goto (tgt := 38) hx hb dX8_layOnce_80 (by decide) ?_
            exact ih38 (x2 + 1) m_many m_one m_two m_noticed _ _ _ hw hP hD hS (lv_sub hl [1, 0] rfl)
          · replace hw := hw.2 c9
            refine lv_aload_n hx hb dX8_layOnce_67 rfl (lv_at hl 0 rfl) ?_
            refine lv_iconst (v := 1) hx hb dX8_layOnce_68 (by decide) ?_
            refine va_put (D := D) (ci := 8) (v := .int (1 : Int32)) (ty := .int) (C := RX8) (T := TX8) (N := 18) hx hb hts inX8 tyX8 tyX8_ok nmX8 hown hK hP hD hS 0 rfl rfl 15 (by decide) fl153 (fun _ h9 => h9) rfl (by decide +kernel) rfl rfl (Nat.le_of_ble_eq_true rfl) dX8_layOnce_69 (fun H locs hP hD hS => ?_)
            replace hP : va_P D vwCl [(m_mo, .inr (8, [.ref m_alane, .ref m_asize, .ref m_aitem, .int m_letters, .ref m_atape, .int m_position, .int m_number, .ref m_anow, .ref m_atried, .ref m_aread, .ref m_akept, .int m_isKept, .ref m_anoticed, .ref m_aneeds, .ref m_aorder, .int (1 : Int32), .int m_one, .int m_two])), (m_anow, .inl (G 0, 55, .inl m_now)), (m_anoticed, .inl (G 0, 256, .inl m_noticed))] H := hP
            replace hD : va_D A [(m_mo, .inr (8, [.ref m_alane, .ref m_asize, .ref m_aitem, .int m_letters, .ref m_atape, .int m_position, .int m_number, .ref m_anow, .ref m_atried, .ref m_aread, .ref m_akept, .int m_isKept, .ref m_anoticed, .ref m_aneeds, .ref m_aorder, .int (1 : Int32), .int m_one, .int m_two])), (m_anow, .inl (G 0, 55, .inl m_now)), (m_anoticed, .inl (G 0, 256, .inl m_noticed))] := hD
            refine lv_aload_n hx hb dX8_layOnce_72 rfl (lv_at hl 0 rfl) ?_
            refine lv_iload_n hx hb dX8_layOnce_73 rfl (lv_at hl 1 rfl) ?_
            refine va_put (D := D) (ci := 8) (v := .int x2) (ty := .int) (C := RX8) (T := TX8) (N := 18) hx hb hts inX8 tyX8 tyX8_ok nmX8 hown hK hP hD hS 0 rfl rfl 16 (by decide) fl156 (fun _ h9 => h9) rfl (by decide +kernel) rfl rfl (Nat.le_of_ble_eq_true rfl) dX8_layOnce_74 (fun H locs hP hD hS => ?_)
            replace hP : va_P D vwCl [(m_mo, .inr (8, [.ref m_alane, .ref m_asize, .ref m_aitem, .int m_letters, .ref m_atape, .int m_position, .int m_number, .ref m_anow, .ref m_atried, .ref m_aread, .ref m_akept, .int m_isKept, .ref m_anoticed, .ref m_aneeds, .ref m_aorder, .int (1 : Int32), .int x2, .int m_two])), (m_anow, .inl (G 0, 55, .inl m_now)), (m_anoticed, .inl (G 0, 256, .inl m_noticed))] H := hP
            replace hD : va_D A [(m_mo, .inr (8, [.ref m_alane, .ref m_asize, .ref m_aitem, .int m_letters, .ref m_atape, .int m_position, .int m_number, .ref m_anow, .ref m_atried, .ref m_aread, .ref m_akept, .int m_isKept, .ref m_anoticed, .ref m_aneeds, .ref m_aorder, .int (1 : Int32), .int x2, .int m_two])), (m_anow, .inl (G 0, 55, .inl m_now)), (m_anoticed, .inl (G 0, 256, .inl m_noticed))] := hD
            refine lv_iinc (v := (x2 + 1)) (lv' := [(2, .int (x2 + 1)), (0, .ref m_mo)]) hx hb dX8_layOnce_77 hl (k := 1) rfl (by first | rfl | decide) (by decide) rfl (fun ls hl => ?_)
            refine lv_goto (tgt := 38) hx hb dX8_layOnce_80 (by decide) ?_
            exact ih38 (x2 + 1) (1 : Int32) x2 m_two m_noticed _ _ _ hw hP hD hS (lv_sub hl [1, 0] rfl)
  have J21 : ∀ (k0 : Int32) (m_noticed : Nat → Int32) (H : Heap) (locs : List Loc) (ls : Array Slot), wp_X8_layOnce_J21 m_now m_noticed k0 post → va_P D vwCl [(m_mo, .inr (8, [.ref m_alane, .ref m_asize, .ref m_aitem, .int m_letters, .ref m_atape, .int m_position, .int m_number, .ref m_anow, .ref m_atried, .ref m_aread, .ref m_akept, .int m_isKept, .ref m_anoticed, .ref m_aneeds, .ref m_aorder, .int m_many, .int m_one, .int m_two])), (m_anow, .inl (G 0, 55, .inl m_now)), (m_anoticed, .inl (G 0, 256, .inl m_noticed))] H → va_D A [(m_mo, .inr (8, [.ref m_alane, .ref m_asize, .ref m_aitem, .int m_letters, .ref m_atape, .int m_position, .int m_number, .ref m_anow, .ref m_atried, .ref m_aread, .ref m_akept, .int m_isKept, .ref m_anoticed, .ref m_aneeds, .ref m_aorder, .int m_many, .int m_one, .int m_two])), (m_anow, .inl (G 0, 55, .inl m_now)), (m_anoticed, .inl (G 0, 256, .inl m_noticed))] → va_S A s.heap H locs → lv_has ls 4 [(0, .ref m_mo)] → W p l e (headSpec wsX8_layOnce ({ frames := 5, cells := 0, slots := 0, locals := 117 } : Room)).room s m ([.ref m_mo, .int x1] : List Value).toArray below meth c H locs 0 0 (MQ below (va_Qv (fun (u : Int32 × Int32 × Int32 × (Nat → Int32)) => post u.1 u.2.1 u.2.2.1 u.2.2.2) (fun u t => xE D G A [(m_mo, .inr (8, [.ref m_alane, .ref m_asize, .ref m_aitem, .int m_letters, .ref m_atape, .int m_position, .int m_number, .ref m_anow, .ref m_atried, .ref m_aread, .ref m_akept, .int m_isKept, .ref m_anoticed, .ref m_aneeds, .ref m_aorder, .int u.1, .int u.2.1, .int u.2.2.1])), (m_anow, .inl (G 0, 55, .inl m_now)), (m_anoticed, .inl (G 0, 256, .inl (u.2.2.2)))] t) A) ([.ref m_mo, .int x1] : List Value).toArray s 0 0 A) (F0 m 21 ls [.int k0, .ref m_mo]) := by
    intro k0 m_noticed H locs ls hw hP hD hS hl
    unfold wp_X8_layOnce_J21 at hw
    refine va_put (D := D) (ci := 8) (v := .int k0) (ty := .int) (C := RX8) (T := TX8) (N := 18) hx hb hts inX8 tyX8 tyX8_ok nmX8 hown hK hP hD hS 0 rfl rfl 15 (by decide) fl153 (fun _ h9 => h9) rfl (by decide +kernel) rfl rfl (Nat.le_of_ble_eq_true rfl) dX8_layOnce_21 (fun H locs hP hD hS => ?_)
    replace hP : va_P D vwCl [(m_mo, .inr (8, [.ref m_alane, .ref m_asize, .ref m_aitem, .int m_letters, .ref m_atape, .int m_position, .int m_number, .ref m_anow, .ref m_atried, .ref m_aread, .ref m_akept, .int m_isKept, .ref m_anoticed, .ref m_aneeds, .ref m_aorder, .int k0, .int m_one, .int m_two])), (m_anow, .inl (G 0, 55, .inl m_now)), (m_anoticed, .inl (G 0, 256, .inl m_noticed))] H := hP
    replace hD : va_D A [(m_mo, .inr (8, [.ref m_alane, .ref m_asize, .ref m_aitem, .int m_letters, .ref m_atape, .int m_position, .int m_number, .ref m_anow, .ref m_atried, .ref m_aread, .ref m_akept, .int m_isKept, .ref m_anoticed, .ref m_aneeds, .ref m_aorder, .int k0, .int m_one, .int m_two])), (m_anow, .inl (G 0, 55, .inl m_now)), (m_anoticed, .inl (G 0, 256, .inl m_noticed))] := hD
    refine lv_aload_n hx hb dX8_layOnce_24 rfl (lv_at hl 0 rfl) ?_
    refine lv_bipush (v := -4) hx hb dX8_layOnce_25 (by decide) ?_
    refine va_put (D := D) (ci := 8) (v := .int (-4 : Int32)) (ty := .int) (C := RX8) (T := TX8) (N := 18) hx hb hts inX8 tyX8 tyX8_ok nmX8 hown hK hP hD hS 0 rfl rfl 16 (by decide) fl156 (fun _ h9 => h9) rfl (by decide +kernel) rfl rfl (Nat.le_of_ble_eq_true rfl) dX8_layOnce_27 (fun H locs hP hD hS => ?_)
    replace hP : va_P D vwCl [(m_mo, .inr (8, [.ref m_alane, .ref m_asize, .ref m_aitem, .int m_letters, .ref m_atape, .int m_position, .int m_number, .ref m_anow, .ref m_atried, .ref m_aread, .ref m_akept, .int m_isKept, .ref m_anoticed, .ref m_aneeds, .ref m_aorder, .int k0, .int (-4 : Int32), .int m_two])), (m_anow, .inl (G 0, 55, .inl m_now)), (m_anoticed, .inl (G 0, 256, .inl m_noticed))] H := hP
    replace hD : va_D A [(m_mo, .inr (8, [.ref m_alane, .ref m_asize, .ref m_aitem, .int m_letters, .ref m_atape, .int m_position, .int m_number, .ref m_anow, .ref m_atried, .ref m_aread, .ref m_akept, .int m_isKept, .ref m_anoticed, .ref m_aneeds, .ref m_aorder, .int k0, .int (-4 : Int32), .int m_two])), (m_anow, .inl (G 0, 55, .inl m_now)), (m_anoticed, .inl (G 0, 256, .inl m_noticed))] := hD
    refine lv_aload_n hx hb dX8_layOnce_30 rfl (lv_at hl 0 rfl) ?_
    refine lv_bipush (v := -4) hx hb dX8_layOnce_31 (by decide) ?_
    refine va_put (D := D) (ci := 8) (v := .int (-4 : Int32)) (ty := .int) (C := RX8) (T := TX8) (N := 18) hx hb hts inX8 tyX8 tyX8_ok nmX8 hown hK hP hD hS 0 rfl rfl 17 (by decide) fl159 (fun _ h9 => h9) rfl (by decide +kernel) rfl rfl (Nat.le_of_ble_eq_true rfl) dX8_layOnce_33 (fun H locs hP hD hS => ?_)
    replace hP : va_P D vwCl [(m_mo, .inr (8, [.ref m_alane, .ref m_asize, .ref m_aitem, .int m_letters, .ref m_atape, .int m_position, .int m_number, .ref m_anow, .ref m_atried, .ref m_aread, .ref m_akept, .int m_isKept, .ref m_anoticed, .ref m_aneeds, .ref m_aorder, .int k0, .int (-4 : Int32), .int (-4 : Int32)])), (m_anow, .inl (G 0, 55, .inl m_now)), (m_anoticed, .inl (G 0, 256, .inl m_noticed))] H := hP
    replace hD : va_D A [(m_mo, .inr (8, [.ref m_alane, .ref m_asize, .ref m_aitem, .int m_letters, .ref m_atape, .int m_position, .int m_number, .ref m_anow, .ref m_atried, .ref m_aread, .ref m_akept, .int m_isKept, .ref m_anoticed, .ref m_aneeds, .ref m_aorder, .int k0, .int (-4 : Int32), .int (-4 : Int32)])), (m_anow, .inl (G 0, 55, .inl m_now)), (m_anoticed, .inl (G 0, 256, .inl m_noticed))] := hD
    refine lv_iconst (v := 1) hx hb dX8_layOnce_36 (by decide) ?_
    refine lv_istore_n (lv' := [(2, .int (1 : Int32)), (0, .ref m_mo)]) hx hb dX8_layOnce_37 rfl hl (by decide) rfl (fun ls hl => ?_)
    obtain ⟨n, hw⟩ := hw
    exact L38 n (1 : Int32) k0 (-4 : Int32) (-4 : Int32) m_noticed _ _ _ hw hP hD hS (lv_sub hl [1, 0] rfl)
  refine lv_aload_n hx hb dX8_layOnce_0 rfl (lv_at hl 0 rfl) ?_
  refine lv_iload_n hx hb dX8_layOnce_1 rfl (lv_at hl 1 rfl) ?_
  refine x_cMv (wr := []) (va_runV (As := [.int x1]) (rest := []) ⟨hx, hb, hml, hown, hts⟩ (c_X8_layNoticed l D G _ m_mo m_alane m_asize m_aitem m_atape m_anow m_atried m_aread m_akept m_anoticed m_aneeds m_aorder m_letters m_position m_number m_isKept m_many m_one m_two m_now m_noticed x1 _ hw) (cwV 1 hts gX8_layOnce_X8_layNoticed rfl rfl rfl (by decide +kernel) ⟨(Nat.le_of_ble_eq_true rfl), (Nat.le_of_ble_eq_true rfl)⟩) (xM_pv (hP.sub [0, 1, 2] rfl) hK (hD.sub [0, 1, 2] (by decide) rfl) (va_recv hK hP (ci := 8) (q0 := 0) rfl rfl)) rfl rfl hl.1 rfl (lv_room (Nat.le_of_ble_eq_true rfl)) dX8_layOnce_2 ⟨Nat.zero_le _, Nat.zero_le _⟩) hP hD hS hA [0, 1, 2] [] rfl rfl (by decide) (by decide) [0, 1, 2] (fun u => [(m_mo, .inr (8, [.ref m_alane, .ref m_asize, .ref m_aitem, .int m_letters, .ref m_atape, .int m_position, .int m_number, .ref m_anow, .ref m_atried, .ref m_aread, .ref m_akept, .int m_isKept, .ref m_anoticed, .ref m_aneeds, .ref m_aorder, .int m_many, .int m_one, .int m_two])), (m_anow, .inl (G 0, 55, .inl m_now)), (m_anoticed, .inl (G 0, 256, .inl u))]) (by decide) (fun u => rfl) (fun u H locs hw hP hD hS => ?_)
  obtain ⟨m_noticed_1, rfl⟩ : ∃ z, z = u := ⟨_, rfl⟩
  try dsimp only at hw
  replace hP : va_P D vwCl [(m_mo, .inr (8, [.ref m_alane, .ref m_asize, .ref m_aitem, .int m_letters, .ref m_atape, .int m_position, .int m_number, .ref m_anow, .ref m_atried, .ref m_aread, .ref m_akept, .int m_isKept, .ref m_anoticed, .ref m_aneeds, .ref m_aorder, .int m_many, .int m_one, .int m_two])), (m_anow, .inl (G 0, 55, .inl m_now)), (m_anoticed, .inl (G 0, 256, .inl m_noticed_1))] H := hP
  replace hD : va_D A [(m_mo, .inr (8, [.ref m_alane, .ref m_asize, .ref m_aitem, .int m_letters, .ref m_atape, .int m_position, .int m_number, .ref m_anow, .ref m_atried, .ref m_aread, .ref m_akept, .int m_isKept, .ref m_anoticed, .ref m_aneeds, .ref m_aorder, .int m_many, .int m_one, .int m_two])), (m_anow, .inl (G 0, 55, .inl m_now)), (m_anoticed, .inl (G 0, 256, .inl m_noticed_1))] := hD
  refine lv_aload_n hx hb dX8_layOnce_5 rfl (lv_at hl 0 rfl) ?_
  refine lv_aload_n hx hb dX8_layOnce_6 rfl (lv_at hl 0 rfl) ?_
  refine lv_iconst (v := 0) hx hb dX8_layOnce_7 (by decide) ?_
  refine lv_iconst (v := 0) hx hb dX8_layOnce_8 (by decide) ?_
  refine vp_callSi (W.runV (As := [.int (0 : Int32), .int (0 : Int32)]) (rest := [.ref m_mo]) ⟨hx, hb, hml, hown, hts⟩ (c_X8_isKnown l D G m_mo m_alane m_asize m_aitem m_atape m_anow m_atried m_aread m_akept m_anoticed m_aneeds m_aorder m_letters m_position m_number m_isKept m_many m_one m_two m_now m_noticed_1 (0 : Int32) (0 : Int32) _ hw) (cwV 2 hts gX8_layOnce_X8_isKnown rfl rfl rfl (by decide +kernel) ⟨(Nat.le_of_ble_eq_true rfl), (Nat.le_of_ble_eq_true rfl)⟩) (xR_pv (hP.sub [0, 1, 2] rfl) hK (va_recv hK hP (ci := 8) (q0 := 0) rfl rfl)) rfl rfl hl.1 rfl (lv_room (Nat.le_of_ble_eq_true rfl)) dX8_layOnce_9 ⟨Nat.zero_le _, Nat.zero_le _⟩) (fun r2 hw => ?_)
  refine lv_if_eq (tgt := 19) hx hb dX8_layOnce_12 (by decide) (fun c9 => ?_) (fun c9 => ?_)
  · replace hw := hw.1 c9
    refine lv_bipush (v := -4) hx hb dX8_layOnce_19 (by decide) ?_
    exact J21 (-4 : Int32) m_noticed_1 _ _ _ hw hP hD hS (lv_sub hl [0] rfl)
  · replace hw := hw.2 c9
    refine lv_iconst (v := 0) hx hb dX8_layOnce_15 (by decide) ?_
    refine lv_goto (tgt := 21) hx hb dX8_layOnce_16 (by decide) ?_
    exact J21 (0 : Int32) m_noticed_1 _ _ _ hw hP hD hS (lv_sub hl [0] rfl)
set_option maxHeartbeats 4000000 in
set_option maxRecDepth 100000 in
theorem c_X8_once (l : Launch) (D : va_G) (G : Nat → ClassId) (sz : Nat) (m_mo : Nat) (m_alane : Nat) (m_asize : Nat) (m_aitem : Nat) (m_atape : Nat) (m_anow : Nat) (m_atried : Nat) (m_aread : Nat) (m_akept : Nat) (m_anoticed : Nat) (m_aneeds : Nat) (m_aorder : Nat) (m_letters : Int32) (m_position : Int32) (m_number : Int32) (m_isKept : Int32) (m_many : Int32) (m_one : Int32) (m_two : Int32) (m_now : Nat → Int32) (m_noticed : Nat → Int32) (x1 : Int32) (x2 : Int32) (post : Int32 → Int32 → Int32 → Int32 → (Nat → Int32) → Prop) (hw : wp_X8_once m_many m_one m_two m_now m_noticed x1 x2 post) : Met l yX8_once wsX8_once ({ frames := 6, cells := 0, slots := 0, locals := 140 } : Room) (va_Pc [.ref m_mo, .int x1, .int x2] (xM D G sz [(m_mo, .inr (8, [.ref m_alane, .ref m_asize, .ref m_aitem, .int m_letters, .ref m_atape, .int m_position, .int m_number, .ref m_anow, .ref m_atried, .ref m_aread, .ref m_akept, .int m_isKept, .ref m_anoticed, .ref m_aneeds, .ref m_aorder, .int m_many, .int m_one, .int m_two])), (m_anow, .inl (G 0, 55, .inl m_now)), (m_anoticed, .inl (G 0, 256, .inl m_noticed))])) (va_Qi (fun r (u : Int32 × Int32 × Int32 × (Nat → Int32)) => post r u.1 u.2.1 u.2.2.1 u.2.2.2) (fun u t => xE D G (va_A [(m_mo, .inr (8, [.ref m_alane, .ref m_asize, .ref m_aitem, .int m_letters, .ref m_atape, .int m_position, .int m_number, .ref m_anow, .ref m_atried, .ref m_aread, .ref m_akept, .int m_isKept, .ref m_anoticed, .ref m_aneeds, .ref m_aorder, .int m_many, .int m_one, .int m_two])), (m_anow, .inl (G 0, 55, .inl m_now)), (m_anoticed, .inl (G 0, 256, .inl m_noticed))] sz) [(m_mo, .inr (8, [.ref m_alane, .ref m_asize, .ref m_aitem, .int m_letters, .ref m_atape, .int m_position, .int m_number, .ref m_anow, .ref m_atried, .ref m_aread, .ref m_akept, .int m_isKept, .ref m_anoticed, .ref m_aneeds, .ref m_aorder, .int u.1, .int u.2.1, .int u.2.2.1])), (m_anow, .inl (G 0, 55, .inl m_now)), (m_anoticed, .inl (G 0, 256, .inl (u.2.2.2)))] t) (va_A [(m_mo, .inr (8, [.ref m_alane, .ref m_asize, .ref m_aitem, .int m_letters, .ref m_atape, .int m_position, .int m_number, .ref m_anow, .ref m_atried, .ref m_aread, .ref m_akept, .int m_isKept, .ref m_anoticed, .ref m_aneeds, .ref m_aorder, .int m_many, .int m_one, .int m_two])), (m_anow, .inl (G 0, 55, .inl m_now)), (m_anoticed, .inl (G 0, 256, .inl m_noticed))] sz)) 0 0 (va_A [(m_mo, .inr (8, [.ref m_alane, .ref m_asize, .ref m_aitem, .int m_letters, .ref m_atape, .int m_position, .int m_number, .ref m_anow, .ref m_atried, .ref m_aread, .ref m_akept, .int m_isKept, .ref m_anoticed, .ref m_aneeds, .ref m_aorder, .int m_many, .int m_one, .int m_two])), (m_anow, .inl (G 0, 55, .inl m_now)), (m_anoticed, .inl (G 0, 256, .inl m_noticed))] sz) := by
  refine Met.ofW (cc := cX8_once) (maxL := 3) (ret := (some .int)) (by decide) rfl ?_
  intro p e s m args below meth c s₁ B hml hv
  obtain ⟨rfl, hsz, hP, hK, hD0⟩ := hv
  have hx := B.exec
  have hb := B.bytes
  have hr := B.returns
  have hts := atoms_spec (ws := wsX8_once) B.pre
  have hown : s.vm.findClass RX8 = some m.cls := findClass_of_methodNamed B.named
  have hlocks := B.notSynchronized
  subst hsz
  have hD := hD0.self (sz := s.heap.size)
  generalize hAe : va_A [(m_mo, .inr (8, [.ref m_alane, .ref m_asize, .ref m_aitem, .int m_letters, .ref m_atape, .int m_position, .int m_number, .ref m_anow, .ref m_atried, .ref m_aread, .ref m_akept, .int m_isKept, .ref m_anoticed, .ref m_aneeds, .ref m_aorder, .int m_many, .int m_one, .int m_two])), (m_anow, .inl (G 0, 55, .inl m_now)), (m_anoticed, .inl (G 0, 256, .inl m_noticed))] s.heap.size = A at hD ⊢
  have hA : ∀ q : Nat, s.heap.size ≤ q → A q := fun q h => by rw [← hAe]; exact Or.inr h
  have hS : va_S A s.heap s.heap [] := va_S.rf
  have inX8 : ∀ w ∈ wsX80, w ∈ wsX8_once := by decide +kernel
  have fl159 := hts (.fieldLink RX8 159 "NewsCowModel" "two" "I") (by decide +kernel)
  have fl156 := hts (.fieldLink RX8 156 "NewsCowModel" "one" "I") (by decide +kernel)
  have fl153 := hts (.fieldLink RX8 153 "NewsCowModel" "many" "I") (by decide +kernel)
  have hl := lv_entry ([.ref m_mo, .int x1, .int x2] : List Value) (n := 3) (Nat.le_of_ble_eq_true rfl)
  rw [lg_entry_eq]
  generalize (lg_sl ([.ref m_mo, .int x1, .int x2] : List Value) ++ List.replicate (3 - (lg_sl ([.ref m_mo, .int x1, .int x2] : List Value)).length) Slot.unset).toArray = ls at hl ⊢
  have hl : lv_has ls 3 [(0, .ref m_mo), (1, .int x1), (2, .int x2)] := hl
  unfold wp_X8_once at hw
  refine lv_aload_n hx hb dX8_once_0 rfl (lv_at hl 0 rfl) ?_
  refine lv_iload_n hx hb dX8_once_1 rfl (lv_at hl 1 rfl) ?_
  refine vp_callSi (W.runV (As := [.int x1]) (rest := []) ⟨hx, hb, hml, hown, hts⟩ (c_X8_isTaster l D G m_mo m_alane m_asize m_aitem m_atape m_anow m_atried m_aread m_akept m_anoticed m_aneeds m_aorder m_letters m_position m_number m_isKept m_many m_one m_two m_now x1 _ hw) (cwV 1 hts gX8_once_X8_isTaster rfl rfl rfl (by decide +kernel) ⟨(Nat.le_of_ble_eq_true rfl), (Nat.le_of_ble_eq_true rfl)⟩) (xR_pv (hP.sub [0, 1] rfl) hK (va_recv hK hP (ci := 8) (q0 := 0) rfl rfl)) rfl rfl hl.1 rfl (lv_room (Nat.le_of_ble_eq_true rfl)) dX8_once_2 ⟨Nat.zero_le _, Nat.zero_le _⟩) (fun r1 hw => ?_)
  refine lv_if_eq (tgt := 13) hx hb dX8_once_5 (by decide) (fun c9 => ?_) (fun c9 => ?_)
  · replace hw := hw.1 c9
    refine lv_iconst (v := -1) hx hb dX8_once_13 (by decide) ?_
    exact W.iret hx hb hr (x_mi (u := (m_many, m_one, m_two, m_noticed)) hP hK hD hS hw) hS.2.2 dX8_once_14
  · replace hw := hw.2 c9
    refine lv_iload_n hx hb dX8_once_8 rfl (lv_at hl 2 rfl) ?_
    refine lv_iconst (v := -1) hx hb dX8_once_9 (by decide) ?_
    refine lv_icmp_ge (tgt := 15) hx hb dX8_once_10 (by decide) (fun c9 => ?_) (fun c9 => ?_)
    · replace hw := hw.1 c9
      refine lv_aload_n hx hb dX8_once_15 rfl (lv_at hl 0 rfl) ?_
      refine lv_iload_n hx hb dX8_once_16 rfl (lv_at hl 1 rfl) ?_
      refine x_cMv (wr := []) (va_runV (As := [.int x1]) (rest := []) ⟨hx, hb, hml, hown, hts⟩ (c_X8_layOnce l D G _ m_mo m_alane m_asize m_aitem m_atape m_anow m_atried m_aread m_akept m_anoticed m_aneeds m_aorder m_letters m_position m_number m_isKept m_many m_one m_two m_now m_noticed x1 _ hw) (cwV 1 hts gX8_once_X8_layOnce rfl rfl rfl (by decide +kernel) ⟨(Nat.le_of_ble_eq_true rfl), (Nat.le_of_ble_eq_true rfl)⟩) (xM_pv (hP.sub [0, 1, 2] rfl) hK (hD.sub [0, 1, 2] (by decide) rfl) (va_recv hK hP (ci := 8) (q0 := 0) rfl rfl)) rfl rfl hl.1 rfl (lv_room (Nat.le_of_ble_eq_true rfl)) dX8_once_17 ⟨Nat.zero_le _, Nat.zero_le _⟩) hP hD hS hA [0, 1, 2] [] rfl rfl (by decide) (by decide) [0, 1, 2] (fun u => [(m_mo, .inr (8, [.ref m_alane, .ref m_asize, .ref m_aitem, .int m_letters, .ref m_atape, .int m_position, .int m_number, .ref m_anow, .ref m_atried, .ref m_aread, .ref m_akept, .int m_isKept, .ref m_anoticed, .ref m_aneeds, .ref m_aorder, .int u.1, .int u.2.1, .int u.2.2.1])), (m_anow, .inl (G 0, 55, .inl m_now)), (m_anoticed, .inl (G 0, 256, .inl (u.2.2.2)))]) (by decide) (fun u => rfl) (fun u H locs hw hP hD hS => ?_)
      obtain ⟨m_many_2, m_one_2, m_two_2, m_noticed_2⟩ := u
      try dsimp only at hw
      replace hP : va_P D vwCl [(m_mo, .inr (8, [.ref m_alane, .ref m_asize, .ref m_aitem, .int m_letters, .ref m_atape, .int m_position, .int m_number, .ref m_anow, .ref m_atried, .ref m_aread, .ref m_akept, .int m_isKept, .ref m_anoticed, .ref m_aneeds, .ref m_aorder, .int m_many_2, .int m_one_2, .int m_two_2])), (m_anow, .inl (G 0, 55, .inl m_now)), (m_anoticed, .inl (G 0, 256, .inl m_noticed_2))] H := hP
      replace hD : va_D A [(m_mo, .inr (8, [.ref m_alane, .ref m_asize, .ref m_aitem, .int m_letters, .ref m_atape, .int m_position, .int m_number, .ref m_anow, .ref m_atried, .ref m_aread, .ref m_akept, .int m_isKept, .ref m_anoticed, .ref m_aneeds, .ref m_aorder, .int m_many_2, .int m_one_2, .int m_two_2])), (m_anow, .inl (G 0, 55, .inl m_now)), (m_anoticed, .inl (G 0, 256, .inl m_noticed_2))] := hD
      refine lv_iload_n hx hb dX8_once_20 rfl (lv_at hl 2 rfl) ?_
      refine lv_iconst (v := -1) hx hb dX8_once_21 (by decide) ?_
      refine lv_icmp_ne (tgt := 32) hx hb dX8_once_22 (by decide) (fun c9 => ?_) (fun c9 => ?_)
      · replace hw := hw.1 c9
        refine lv_iload_n hx hb dX8_once_32 rfl (lv_at hl 2 rfl) ?_
        refine lv_if_ne (tgt := 43) hx hb dX8_once_33 (by decide) (fun c9 => ?_) (fun c9 => ?_)
        · replace hw := hw.1 c9
          refine lv_iload_n hx hb dX8_once_43 rfl (lv_at hl 2 rfl) ?_
          refine lv_iconst (v := 1) hx hb dX8_once_44 (by decide) ?_
          refine lv_icmp_ne (tgt := 55) hx hb dX8_once_45 (by decide) (fun c9 => ?_) (fun c9 => ?_)
          · replace hw := hw.1 c9
            refine lv_bipush (v := -4) hx hb dX8_once_55 (by decide) ?_
            exact W.iret hx hb hr (x_mi (u := (m_many_2, m_one_2, m_two_2, m_noticed_2)) hP hK hD hS hw) hS.2.2 dX8_once_57
          · replace hw := hw.2 c9
            refine lv_aload_n hx hb dX8_once_48 rfl (lv_at hl 0 rfl) ?_
            refine va_get (D := D) (ci := 8) (v := .int m_two_2) (C := RX8) (T := TX8) (N := 18) hx hb hts inX8 hown hK hP 0 rfl rfl 17 (by decide) fl159 (fun _ h9 => h9) rfl dX8_once_49 ?_
            refine lv_goto (tgt := 57) hx hb dX8_once_52 (by decide) ?_
            exact W.iret hx hb hr (x_mi (u := (m_many_2, m_one_2, m_two_2, m_noticed_2)) hP hK hD hS hw) hS.2.2 dX8_once_57
        · replace hw := hw.2 c9
          refine lv_aload_n hx hb dX8_once_36 rfl (lv_at hl 0 rfl) ?_
          refine va_get (D := D) (ci := 8) (v := .int m_one_2) (C := RX8) (T := TX8) (N := 18) hx hb hts inX8 hown hK hP 0 rfl rfl 16 (by decide) fl156 (fun _ h9 => h9) rfl dX8_once_37 ?_
          refine lv_goto (tgt := 57) hx hb dX8_once_40 (by decide) ?_
          exact W.iret hx hb hr (x_mi (u := (m_many_2, m_one_2, m_two_2, m_noticed_2)) hP hK hD hS hw) hS.2.2 dX8_once_57
      · replace hw := hw.2 c9
        refine lv_aload_n hx hb dX8_once_25 rfl (lv_at hl 0 rfl) ?_
        refine va_get (D := D) (ci := 8) (v := .int m_many_2) (C := RX8) (T := TX8) (N := 18) hx hb hts inX8 hown hK hP 0 rfl rfl 15 (by decide) fl153 (fun _ h9 => h9) rfl dX8_once_26 ?_
        refine lv_goto (tgt := 57) hx hb dX8_once_29 (by decide) ?_
        exact W.iret hx hb hr (x_mi (u := (m_many_2, m_one_2, m_two_2, m_noticed_2)) hP hK hD hS hw) hS.2.2 dX8_once_57
    · replace hw := hw.2 c9
      refine lv_iconst (v := -1) hx hb dX8_once_13 (by decide) ?_
      exact W.iret hx hb hr (x_mi (u := (m_many, m_one, m_two, m_noticed)) hP hK hD hS hw) hS.2.2 dX8_once_14
set_option maxHeartbeats 4000000 in
set_option maxRecDepth 100000 in
theorem c_X8_halves (l : Launch) (D : va_G) (G : Nat → ClassId) (m_mo : Nat) (m_alane : Nat) (m_asize : Nat) (m_aitem : Nat) (m_atape : Nat) (m_anow : Nat) (m_atried : Nat) (m_aread : Nat) (m_akept : Nat) (m_anoticed : Nat) (m_aneeds : Nat) (m_aorder : Nat) (m_letters : Int32) (m_position : Int32) (m_number : Int32) (m_isKept : Int32) (m_many : Int32) (m_one : Int32) (m_two : Int32) (m_now : Nat → Int32) (x1 : Int32) (x2 : Int32) (post : Int32 → Prop) (hw : wp_X8_halves m_now x1 x2 post) : Met l yX8_halves wsX8_halves ({ frames := 4, cells := 0, slots := 0, locals := 95 } : Room) (va_Pc [.ref m_mo, .int x1, .int x2] (xR D G [(m_mo, .inr (8, [.ref m_alane, .ref m_asize, .ref m_aitem, .int m_letters, .ref m_atape, .int m_position, .int m_number, .ref m_anow, .ref m_atried, .ref m_aread, .ref m_akept, .int m_isKept, .ref m_anoticed, .ref m_aneeds, .ref m_aorder, .int m_many, .int m_one, .int m_two])), (m_anow, .inl (G 0, 55, .inl m_now))])) (vp_Si post) 0 0 (fun _ => False) := by
  refine Met.ofW (cc := cX8_halves) (maxL := 9) (ret := (some .int)) (by decide) rfl ?_
  intro p e s m args below meth c s₁ B hml hv
  obtain ⟨rfl, hP, hK⟩ := hv
  have hx := B.exec
  have hb := B.bytes
  have hr := B.returns
  have hts := atoms_spec (ws := wsX8_halves) B.pre
  have hown : s.vm.findClass RX8 = some m.cls := findClass_of_methodNamed B.named
  have hlocks := B.notSynchronized
  have inX8 : ∀ w ∈ wsX80, w ∈ wsX8_halves := by decide +kernel
  have fl23 := hts (.fieldLink RX8 23 "NewsCowModel" "now" "[I") (by decide +kernel)
  have hl := lv_entry ([.ref m_mo, .int x1, .int x2] : List Value) (n := 9) (Nat.le_of_ble_eq_true rfl)
  rw [lg_entry_eq]
  generalize (lg_sl ([.ref m_mo, .int x1, .int x2] : List Value) ++ List.replicate (9 - (lg_sl ([.ref m_mo, .int x1, .int x2] : List Value)).length) Slot.unset).toArray = ls at hl ⊢
  have hl : lv_has ls 9 [(0, .ref m_mo), (1, .int x1), (2, .int x2)] := hl
  unfold wp_X8_halves at hw
  have L48 : ∀ (f48 : Nat) (x3 : Int32) (x4 : Int32) (x5 : Int32) (x6 : Int32) (ls : Array Slot), wp_X8_halves_L48 m_now x1 x2 x3 post f48 x4 x5 x6 → lv_has ls 9 [(0, .ref m_mo), (1, .int x1), (2, .int x2), (3, .int x3), (4, .int x4), (5, .int x5), (6, .int x6)] → W p l e (headSpec wsX8_halves ({ frames := 4, cells := 0, slots := 0, locals := 95 } : Room)).room s m ([.ref m_mo, .int x1, .int x2] : List Value).toArray below meth c s.heap [] 0 0 (MQ below (vp_Si post) ([.ref m_mo, .int x1, .int x2] : List Value).toArray s 0 0 (fun _ => False)) (F0 m 48 ls []) := by
    intro f48
    induction f48 with
    | zero => intro x3 x4 x5 x6 ls hw hl; exact (hw : False).elim
    | succ f48 ih48 =>
      intro x3 x4 x5 x6 ls hw hl
      unfold wp_X8_halves_L48 at hw
      have J116 : ∀ (x3 : Int32) (x5 : Int32) (x6 : Int32) (x8 : Int32) (k0 : Int32) (ls : Array Slot), wp_X8_halves_J116 x5 x6 x8 k0 (wp_X8_halves_L48 m_now x1 x2 x3 post f48) post → lv_has ls 9 [(0, .ref m_mo), (1, .int x1), (2, .int x2), (3, .int x3), (5, .int x5), (6, .int x6), (8, .int x8)] → W p l e (headSpec wsX8_halves ({ frames := 4, cells := 0, slots := 0, locals := 95 } : Room)).room s m ([.ref m_mo, .int x1, .int x2] : List Value).toArray below meth c s.heap [] 0 0 (MQ below (vp_Si post) ([.ref m_mo, .int x1, .int x2] : List Value).toArray s 0 0 (fun _ => False)) (F0 m 116 ls [.int k0]) := by
        intro x3 x5 x6 x8 k0 ls hw hl
        unfold wp_X8_halves_J116 at hw
        refine lv_istore (lv' := [(4, .int k0), (0, .ref m_mo), (1, .int x1), (2, .int x2), (3, .int x3), (5, .int x5), (6, .int x6), (8, .int x8)]) hx hb dX8_halves_116 hl (by decide) rfl (fun ls hl => ?_)
        refine lv_iload hx hb dX8_halves_118 (lv_at hl 7 rfl) ?_
        refine lv_iload hx hb dX8_halves_120 (lv_at hl 5 rfl) ?_
        refine lv_icmp_ge (tgt := 130) hx hb dX8_halves_122 (by decide) (fun c9 => ?_) (fun c9 => ?_)
        · replace hw := hw.1 c9
          refine lv_iload hx hb dX8_halves_130 (lv_at hl 5 rfl) ?_
          refine lv_istore (lv' := [(5, .int x5), (4, .int k0), (0, .ref m_mo), (1, .int x1), (2, .int x2), (3, .int x3), (6, .int x6), (8, .int x8)]) hx hb dX8_halves_132 hl (by decide) rfl (fun ls hl => ?_)
          refine lv_iinc (v := (x6 + 1)) (lv' := [(6, .int (x6 + 1)), (5, .int x5), (4, .int k0), (0, .ref m_mo), (1, .int x1), (2, .int x2), (3, .int x3), (8, .int x8)]) hx hb dX8_halves_134 hl (k := 6) rfl (by first | rfl | decide) (by decide) rfl (fun ls hl => ?_)
          refine lv_goto (tgt := 48) hx hb dX8_halves_137 (by decide) ?_
          exact ih48 x3 k0 x5 (x6 + 1) _ hw (lv_sub hl [3, 4, 5, 6, 2, 1, 0] rfl)
        · replace hw := hw.2 c9
          refine lv_iload hx hb dX8_halves_125 (lv_at hl 7 rfl) ?_
          refine lv_goto (tgt := 132) hx hb dX8_halves_127 (by decide) ?_
          refine lv_istore (lv' := [(5, .int x8), (4, .int k0), (0, .ref m_mo), (1, .int x1), (2, .int x2), (3, .int x3), (6, .int x6), (8, .int x8)]) hx hb dX8_halves_132 hl (by decide) rfl (fun ls hl => ?_)
          refine lv_iinc (v := (x6 + 1)) (lv' := [(6, .int (x6 + 1)), (5, .int x8), (4, .int k0), (0, .ref m_mo), (1, .int x1), (2, .int x2), (3, .int x3), (8, .int x8)]) hx hb dX8_halves_134 hl (k := 6) rfl (by first | rfl | decide) (by decide) rfl (fun ls hl => ?_)
          refine lv_goto (tgt := 48) hx hb dX8_halves_137 (by decide) ?_
          exact ih48 x3 k0 x8 (x6 + 1) _ hw (lv_sub hl [3, 4, 5, 6, 2, 1, 0] rfl)
      have J100 : ∀ (x3 : Int32) (x4 : Int32) (x5 : Int32) (x6 : Int32) (k0 : Int32) (ls : Array Slot), wp_X8_halves_J100 x4 x5 x6 k0 (wp_X8_halves_L48 m_now x1 x2 x3 post f48) post → lv_has ls 9 [(0, .ref m_mo), (1, .int x1), (2, .int x2), (3, .int x3), (4, .int x4), (5, .int x5), (6, .int x6)] → W p l e (headSpec wsX8_halves ({ frames := 4, cells := 0, slots := 0, locals := 95 } : Room)).room s m ([.ref m_mo, .int x1, .int x2] : List Value).toArray below meth c s.heap [] 0 0 (MQ below (vp_Si post) ([.ref m_mo, .int x1, .int x2] : List Value).toArray s 0 0 (fun _ => False)) (F0 m 100 ls [.int k0]) := by
        intro x3 x4 x5 x6 k0 ls hw hl
        unfold wp_X8_halves_J100 at hw
        refine lv_istore (lv' := [(8, .int k0), (0, .ref m_mo), (1, .int x1), (2, .int x2), (3, .int x3), (4, .int x4), (5, .int x5), (6, .int x6)]) hx hb dX8_halves_100 hl (by decide) rfl (fun ls hl => ?_)
        refine lv_iload hx hb dX8_halves_102 (lv_at hl 0 rfl) ?_
        refine lv_iload hx hb dX8_halves_104 (lv_at hl 6 rfl) ?_
        refine lv_icmp_ge (tgt := 114) hx hb dX8_halves_106 (by decide) (fun c9 => ?_) (fun c9 => ?_)
        · replace hw := hw.1 c9
          refine lv_iload hx hb dX8_halves_114 (lv_at hl 5 rfl) ?_
          exact J116 x3 x5 x6 k0 x4 _ hw (lv_sub hl [1, 2, 3, 4, 6, 7, 0] rfl)
        · replace hw := hw.2 c9
          refine lv_iload hx hb dX8_halves_109 (lv_at hl 7 rfl) ?_
          refine lv_goto (tgt := 116) hx hb dX8_halves_111 (by decide) ?_
          exact J116 x3 x5 x6 k0 x6 _ hw (lv_sub hl [1, 2, 3, 4, 6, 7, 0] rfl)
      refine lv_iload hx hb dX8_halves_48 (lv_at hl 6 rfl) ?_
      refine lv_aload_n hx hb dX8_halves_50 rfl (lv_at hl 0 rfl) ?_
      refine va_get (D := D) (ci := 8) (v := .ref m_anow) (C := RX8) (T := TX8) (N := 18) hx hb hts inX8 hown hK hP 0 rfl rfl 7 (by decide) fl23 (fun _ h9 => h9) rfl dX8_halves_51 ?_
      refine vp_callSi (W.runS (As := [.ref m_anow]) (rest := [.int x6]) ⟨hx, hb, hml, hown, hts⟩ (c_X8_allOf l D G m_anow m_now _ hw) (va_cwS 1 hts gX8_halves_X8_allOf rfl rfl rfl (by decide +kernel) ⟨(Nat.le_of_ble_eq_true rfl), (Nat.le_of_ble_eq_true rfl)⟩) (xR_ps (hP.sub [1] rfl) hK) rfl rfl hl.1 rfl (lv_room (Nat.le_of_ble_eq_true rfl)) dX8_halves_54 ⟨Nat.zero_le _, Nat.zero_le _⟩) (fun r4 hw => ?_)
      refine lv_icmp_gt (tgt := 140) hx hb dX8_halves_57 (by decide) (fun c9 => ?_) (fun c9 => ?_)
      · replace hw := hw.1 c9
        refine lv_iload_n hx hb dX8_halves_140 rfl (lv_at hl 2 rfl) ?_
        refine lv_if_ne (tgt := 149) hx hb dX8_halves_141 (by decide) (fun c9 => ?_) (fun c9 => ?_)
        · replace hw := hw.1 c9
          refine lv_iload hx hb dX8_halves_149 (lv_at hl 5 rfl) ?_
          exact W.iret hx hb hr (fun t ht _ => ⟨_, rfl, hw, ht⟩) (fun _ h => absurd h List.not_mem_nil) dX8_halves_151
        · replace hw := hw.2 c9
          refine lv_iload hx hb dX8_halves_144 (lv_at hl 4 rfl) ?_
          refine lv_goto (tgt := 151) hx hb dX8_halves_146 (by decide) ?_
          exact W.iret hx hb hr (fun t ht _ => ⟨_, rfl, hw, ht⟩) (fun _ h => absurd h List.not_mem_nil) dX8_halves_151
      · replace hw := hw.2 c9
        refine lv_aload_n hx hb dX8_halves_60 rfl (lv_at hl 0 rfl) ?_
        refine va_get (D := D) (ci := 8) (v := .ref m_anow) (C := RX8) (T := TX8) (N := 18) hx hb hts inX8 hown hK hP 0 rfl rfl 7 (by decide) fl23 (fun _ h9 => h9) rfl dX8_halves_61 ?_
        refine lv_iconst (v := 2) hx hb dX8_halves_64 (by decide) ?_
        refine x_iald (j := 2) hx hb hK hP 1 0 rfl rfl (by decide) (x_in (by decide)) dX8_halves_65 ?_
        refine lv_aload_n hx hb dX8_halves_66 rfl (lv_at hl 0 rfl) ?_
        refine va_get (D := D) (ci := 8) (v := .ref m_anow) (C := RX8) (T := TX8) (N := 18) hx hb hts inX8 hown hK hP 0 rfl rfl 7 (by decide) fl23 (fun _ h9 => h9) rfl dX8_halves_67 ?_
        refine lv_iload_n hx hb dX8_halves_70 rfl (lv_at hl 1 rfl) ?_
        refine lv_iload hx hb dX8_halves_71 (lv_at hl 6 rfl) ?_
        refine vp_callSi (W.runS (As := [.ref m_anow, .int x1, .int x6]) (rest := [.int (m_now 2)]) ⟨hx, hb, hml, hown, hts⟩ (c_X8_noticedBy l D G m_anow m_now x1 x6 _ hw) (va_cwS 3 hts gX8_halves_X8_noticedBy rfl rfl rfl (by decide +kernel) ⟨(Nat.le_of_ble_eq_true rfl), (Nat.le_of_ble_eq_true rfl)⟩) (xR_ps (hP.sub [1] rfl) hK) rfl rfl hl.1 rfl (lv_room (Nat.le_of_ble_eq_true rfl)) dX8_halves_73 ⟨Nat.zero_le _, Nat.zero_le _⟩) (fun r5 hw => ?_)
        refine lv_iand hx hb dX8_halves_76 ?_
        refine vp_callSi (W.runS (As := [.int ((m_now 2) &&& r5)]) (rest := []) ⟨hx, hb, hml, hown, hts⟩ (c_X8_bits l D G ((m_now 2) &&& r5) _ hw) (va_cwS 1 hts gX8_halves_X8_bits rfl rfl rfl (by decide +kernel) ⟨(Nat.le_of_ble_eq_true rfl), (Nat.le_of_ble_eq_true rfl)⟩) (xR_ps (hP.sub [] rfl) hK) rfl rfl hl.1 rfl (lv_room (Nat.le_of_ble_eq_true rfl)) dX8_halves_77 ⟨Nat.zero_le _, Nat.zero_le _⟩) (fun r6 hw => ?_)
        refine lv_istore (lv' := [(7, .int r6), (0, .ref m_mo), (1, .int x1), (2, .int x2), (3, .int x3), (4, .int x4), (5, .int x5), (6, .int x6)]) hx hb dX8_halves_80 hl (by decide) rfl (fun ls hl => ?_)
        refine lv_iload hx hb dX8_halves_82 (lv_at hl 0 rfl) ?_
        refine lv_iload_n hx hb dX8_halves_84 rfl (lv_at hl 4 rfl) ?_
        refine lv_iload hx hb dX8_halves_85 (lv_at hl 0 rfl) ?_
        refine lv_isub hx hb dX8_halves_87 ?_
        refine lv_icmp_le (tgt := 96) hx hb dX8_halves_88 (by decide) (fun c9 => ?_) (fun c9 => ?_)
        · replace hw := hw.1 c9
          refine lv_iload_n hx hb dX8_halves_96 rfl (lv_at hl 4 rfl) ?_
          refine lv_iload hx hb dX8_halves_97 (lv_at hl 0 rfl) ?_
          refine lv_isub hx hb dX8_halves_99 ?_
          exact J100 x3 x4 x5 x6 (x3 - r6) _ hw (lv_sub hl [1, 2, 3, 4, 5, 6, 7] rfl)
        · replace hw := hw.2 c9
          refine lv_iload hx hb dX8_halves_91 (lv_at hl 0 rfl) ?_
          refine lv_goto (tgt := 100) hx hb dX8_halves_93 (by decide) ?_
          exact J100 x3 x4 x5 x6 r6 _ hw (lv_sub hl [1, 2, 3, 4, 5, 6, 7] rfl)
  refine lv_aload_n hx hb dX8_halves_0 rfl (lv_at hl 0 rfl) ?_
  refine lv_iload_n hx hb dX8_halves_1 rfl (lv_at hl 1 rfl) ?_
  refine vp_callSi (W.runV (As := [.int x1]) (rest := []) ⟨hx, hb, hml, hown, hts⟩ (c_X8_isTaster l D G m_mo m_alane m_asize m_aitem m_atape m_anow m_atried m_aread m_akept m_anoticed m_aneeds m_aorder m_letters m_position m_number m_isKept m_many m_one m_two m_now x1 _ hw) (cwV 1 hts gX8_halves_X8_isTaster rfl rfl rfl (by decide +kernel) ⟨(Nat.le_of_ble_eq_true rfl), (Nat.le_of_ble_eq_true rfl)⟩) (xR_pv (hP.sub [0, 1] rfl) hK (va_recv hK hP (ci := 8) (q0 := 0) rfl rfl)) rfl rfl hl.1 rfl (lv_room (Nat.le_of_ble_eq_true rfl)) dX8_halves_2 ⟨Nat.zero_le _, Nat.zero_le _⟩) (fun r1 hw => ?_)
  refine lv_if_eq (tgt := 17) hx hb dX8_halves_5 (by decide) (fun c9 => ?_) (fun c9 => ?_)
  · replace hw := hw.1 c9
    refine lv_iconst (v := -1) hx hb dX8_halves_17 (by decide) ?_
    exact W.iret hx hb hr (fun t ht _ => ⟨_, rfl, hw, ht⟩) (fun _ h => absurd h List.not_mem_nil) dX8_halves_18
  · replace hw := hw.2 c9
    refine lv_iload_n hx hb dX8_halves_8 rfl (lv_at hl 2 rfl) ?_
    refine lv_iconst (v := 0) hx hb dX8_halves_9 (by decide) ?_
    refine lv_iconst (v := 1) hx hb dX8_halves_10 (by decide) ?_
    refine vp_callSi (W.runS (As := [.int x2, .int (0 : Int32), .int (1 : Int32)]) (rest := []) ⟨hx, hb, hml, hown, hts⟩ (c_X8_in l D G x2 (0 : Int32) (1 : Int32) _ hw) (va_cwS 3 hts gX8_halves_X8_in rfl rfl rfl (by decide +kernel) ⟨(Nat.le_of_ble_eq_true rfl), (Nat.le_of_ble_eq_true rfl)⟩) (xR_ps (hP.sub [] rfl) hK) rfl rfl hl.1 rfl (lv_room (Nat.le_of_ble_eq_true rfl)) dX8_halves_11 ⟨Nat.zero_le _, Nat.zero_le _⟩) (fun r2 hw => ?_)
    refine lv_if_ne (tgt := 19) hx hb dX8_halves_14 (by decide) (fun c9 => ?_) (fun c9 => ?_)
    · replace hw := hw.1 c9
      refine lv_aload_n hx hb dX8_halves_19 rfl (lv_at hl 0 rfl) ?_
      refine va_get (D := D) (ci := 8) (v := .ref m_anow) (C := RX8) (T := TX8) (N := 18) hx hb hts inX8 hown hK hP 0 rfl rfl 7 (by decide) fl23 (fun _ h9 => h9) rfl dX8_halves_20 ?_
      refine lv_iconst (v := 2) hx hb dX8_halves_23 (by decide) ?_
      refine x_iald (j := 2) hx hb hK hP 1 0 rfl rfl (by decide) (x_in (by decide)) dX8_halves_24 ?_
      refine vp_callSi (W.runS (As := [.int (m_now 2)]) (rest := []) ⟨hx, hb, hml, hown, hts⟩ (c_X8_bits l D G (m_now 2) _ hw) (va_cwS 1 hts gX8_halves_X8_bits rfl rfl rfl (by decide +kernel) ⟨(Nat.le_of_ble_eq_true rfl), (Nat.le_of_ble_eq_true rfl)⟩) (xR_ps (hP.sub [] rfl) hK) rfl rfl hl.1 rfl (lv_room (Nat.le_of_ble_eq_true rfl)) dX8_halves_25 ⟨Nat.zero_le _, Nat.zero_le _⟩) (fun r3 hw => ?_)
      refine lv_istore_n (lv' := [(3, .int r3), (0, .ref m_mo), (1, .int x1), (2, .int x2)]) hx hb dX8_halves_28 rfl hl (by decide) rfl (fun ls hl => ?_)
      refine lv_iload_n hx hb dX8_halves_29 rfl (lv_at hl 0 rfl) ?_
      refine lv_iconst (v := 2) hx hb dX8_halves_30 (by decide) ?_
      refine lv_icmp_ge (tgt := 37) hx hb dX8_halves_31 (by decide) (fun c9 => ?_) (fun c9 => ?_)
      · replace hw := hw.1 c9
        refine lv_bipush (v := -4) hx hb dX8_halves_37 (by decide) ?_
        refine lv_istore (lv' := [(4, .int (-4 : Int32)), (3, .int r3), (0, .ref m_mo), (1, .int x1), (2, .int x2)]) hx hb dX8_halves_39 hl (by decide) rfl (fun ls hl => ?_)
        refine lv_bipush (v := 99) hx hb dX8_halves_41 (by decide) ?_
        refine lv_istore (lv' := [(5, .int (99 : Int32)), (4, .int (-4 : Int32)), (3, .int r3), (0, .ref m_mo), (1, .int x1), (2, .int x2)]) hx hb dX8_halves_43 hl (by decide) rfl (fun ls hl => ?_)
        refine lv_iconst (v := 1) hx hb dX8_halves_45 (by decide) ?_
        refine lv_istore (lv' := [(6, .int (1 : Int32)), (5, .int (99 : Int32)), (4, .int (-4 : Int32)), (3, .int r3), (0, .ref m_mo), (1, .int x1), (2, .int x2)]) hx hb dX8_halves_46 hl (by decide) rfl (fun ls hl => ?_)
        obtain ⟨n, hw⟩ := hw
        exact L48 n r3 (-4 : Int32) (99 : Int32) (1 : Int32) _ hw (lv_sub hl [4, 5, 6, 3, 2, 1, 0] rfl)
      · replace hw := hw.2 c9
        refine lv_bipush (v := -4) hx hb dX8_halves_34 (by decide) ?_
        exact W.iret hx hb hr (fun t ht _ => ⟨_, rfl, hw, ht⟩) (fun _ h => absurd h List.not_mem_nil) dX8_halves_36
    · replace hw := hw.2 c9
      refine lv_iconst (v := -1) hx hb dX8_halves_17 (by decide) ?_
      exact W.iret hx hb hr (fun t ht _ => ⟨_, rfl, hw, ht⟩) (fun _ h => absurd h List.not_mem_nil) dX8_halves_18
set_option maxHeartbeats 4000000 in
set_option maxRecDepth 100000 in
theorem c_X8_part (l : Launch) (D : va_G) (G : Nat → ClassId) (x0 : Int64) (x2 : Int64) (x4 : Int32) (post : Int64 → Prop) (hw : wp_X8_part x0 x2 x4 post) : Met l yX8_part wsX8_part ({ frames := 0, cells := 0, slots := 0, locals := 0 } : Room) (va_Pc [.long x0, .long x2, .int x4] (xR D G [])) (vp_Sl post) 0 0 (fun _ => False) := by
  refine Met.ofW (cc := cX8_part) (maxL := 11) (ret := (some .long)) (by decide) rfl ?_
  intro p e s m args below meth c s₁ B hml hv
  obtain ⟨rfl, hP, hK⟩ := hv
  have hx := B.exec
  have hb := B.bytes
  have hr := B.returns
  have hts := atoms_spec (ws := wsX8_part) B.pre
  have hown : s.vm.findClass RX8 = some m.cls := findClass_of_methodNamed B.named
  have hlocks := B.notSynchronized
  have hl := lv_entry ([.long x0, .long x2, .int x4] : List Value) (n := 11) (Nat.le_of_ble_eq_true rfl)
  rw [lg_entry_eq]
  generalize (lg_sl ([.long x0, .long x2, .int x4] : List Value) ++ List.replicate (11 - (lg_sl ([.long x0, .long x2, .int x4] : List Value)).length) Slot.unset).toArray = ls at hl ⊢
  have hl : lv_has ls 11 [(0, .long x0), (2, .long x2), (4, .int x4)] := hl
  unfold wp_X8_part at hw
  have L6 : ∀ (f6 : Nat) (x5 : Int64) (x7 : Int64) (ls : Array Slot), wp_X8_part_L6 x0 x2 x4 post f6 x5 x7 → lv_has ls 11 [(0, .long x0), (2, .long x2), (4, .int x4), (5, .long x5), (7, .long x7)] → W p l e (headSpec wsX8_part ({ frames := 0, cells := 0, slots := 0, locals := 0 } : Room)).room s m ([.long x0, .long x2, .int x4] : List Value).toArray below meth c s.heap [] 0 0 (MQ below (vp_Sl post) ([.long x0, .long x2, .int x4] : List Value).toArray s 0 0 (fun _ => False)) (F0 m 6 ls []) := by
    intro f6
    induction f6 with
    | zero => intro x5 x7 ls hw hl; exact (hw : False).elim
    | succ f6 ih6 =>
      intro x5 x7 ls hw hl
      unfold wp_X8_part_L6 at hw
      refine lv_lload hx hb dX8_part_6 (lv_at hl 4 rfl) ?_
      refine lv_lconst (v := 0) hx hb dX8_part_8 (by decide) ?_
      refine W.lcmp hx hb dX8_part_9 ?_
      refine lv_if_le (tgt := 31) hx hb dX8_part_10 (by decide) (fun c9 => ?_) (fun c9 => ?_)
      · replace hw := hw.1 c9
        refine lv_iload hx hb dX8_part_31 (lv_at hl 2 rfl) ?_
        refine lv_if_ne (tgt := 40) hx hb dX8_part_33 (by decide) (fun c9 => ?_) (fun c9 => ?_)
        · replace hw := hw.1 c9
          refine lv_lload_n hx hb dX8_part_40 rfl (lv_at hl 1 rfl) ?_
          refine lv_lload hx hb dX8_part_41 (lv_at hl 3 rfl) ?_
          refine lv_ldiv hx hb dX8_part_43 hw.1 ?_
          replace hw := hw.2
          exact W.lret hx hb hr (fun t ht _ => ⟨_, rfl, hw, ht⟩) (fun _ h => absurd h List.not_mem_nil) dX8_part_44
        · replace hw := hw.2 c9
          refine lv_lload_n hx hb dX8_part_36 rfl (lv_at hl 0 rfl) ?_
          refine lv_goto (tgt := 41) hx hb dX8_part_37 (by decide) ?_
          refine lv_lload hx hb dX8_part_41 (lv_at hl 3 rfl) ?_
          refine lv_ldiv hx hb dX8_part_43 hw.1 ?_
          replace hw := hw.2
          exact W.lret hx hb hr (fun t ht _ => ⟨_, rfl, hw, ht⟩) (fun _ h => absurd h List.not_mem_nil) dX8_part_44
      · replace hw := hw.2 c9
        refine lv_lload hx hb dX8_part_13 (lv_at hl 3 rfl) ?_
        refine lv_lload hx hb dX8_part_15 (lv_at hl 4 rfl) ?_
        refine lv_lrem hx hb dX8_part_17 hw.1 ?_
        replace hw := hw.2
        refine lv_lstore (lv' := [(9, .long (x5 - x5 / x7 * x7)), (0, .long x0), (2, .long x2), (4, .int x4), (5, .long x5), (7, .long x7)]) hx hb dX8_part_18 hl (by decide) rfl (fun ls hl => ?_)
        refine lv_lload hx hb dX8_part_20 (lv_at hl 5 rfl) ?_
        refine lv_lstore (lv' := [(5, .long x7), (9, .long (x5 - x5 / x7 * x7)), (0, .long x0), (2, .long x2), (4, .int x4), (7, .long x7)]) hx hb dX8_part_22 hl (by decide) rfl (fun ls hl => ?_)
        refine lv_lload hx hb dX8_part_24 (lv_at hl 1 rfl) ?_
        refine lv_lstore (lv' := [(7, .long (x5 - x5 / x7 * x7)), (5, .long x7), (9, .long (x5 - x5 / x7 * x7)), (0, .long x0), (2, .long x2), (4, .int x4)]) hx hb dX8_part_26 hl (by decide) rfl (fun ls hl => ?_)
        refine lv_goto (tgt := 6) hx hb dX8_part_28 (by decide) ?_
        exact ih6 x7 (x5 - x5 / x7 * x7) _ hw (lv_sub hl [3, 4, 5, 1, 0] rfl)
  refine lv_lload_n hx hb dX8_part_0 rfl (lv_at hl 0 rfl) ?_
  refine lv_lstore (lv' := [(5, .long x0), (0, .long x0), (2, .long x2), (4, .int x4)]) hx hb dX8_part_1 hl (by decide) rfl (fun ls hl => ?_)
  refine lv_lload_n hx hb dX8_part_3 rfl (lv_at hl 2 rfl) ?_
  refine lv_lstore (lv' := [(7, .long x2), (5, .long x0), (0, .long x0), (2, .long x2), (4, .int x4)]) hx hb dX8_part_4 hl (by decide) rfl (fun ls hl => ?_)
  obtain ⟨n, hw⟩ := hw
  exact L6 n x0 x2 _ hw (lv_sub hl [2, 3, 4, 1, 0] rfl)
set_option maxHeartbeats 4000000 in
set_option maxRecDepth 100000 in
theorem c_X8_likely (l : Launch) (D : va_G) (G : Nat → ClassId) (m_mo : Nat) (m_alane : Nat) (m_asize : Nat) (m_aitem : Nat) (m_atape : Nat) (m_anow : Nat) (m_atried : Nat) (m_aread : Nat) (m_akept : Nat) (m_anoticed : Nat) (m_aneeds : Nat) (m_aorder : Nat) (m_letters : Int32) (m_position : Int32) (m_number : Int32) (m_isKept : Int32) (m_many : Int32) (m_one : Int32) (m_two : Int32) (m_now : Nat → Int32) (x1 : Int32) (x2 : Int32) (post : Int32 → Prop) (hw : wp_X8_likely m_now x1 x2 post) : Met l yX8_likely wsX8_likely ({ frames := 2, cells := 0, slots := 0, locals := 44 } : Room) (va_Pc [.ref m_mo, .int x1, .int x2] (xR D G [(m_mo, .inr (8, [.ref m_alane, .ref m_asize, .ref m_aitem, .int m_letters, .ref m_atape, .int m_position, .int m_number, .ref m_anow, .ref m_atried, .ref m_aread, .ref m_akept, .int m_isKept, .ref m_anoticed, .ref m_aneeds, .ref m_aorder, .int m_many, .int m_one, .int m_two])), (m_anow, .inl (G 0, 55, .inl m_now))])) (vp_Si post) 0 0 (fun _ => False) := by
  refine Met.ofW (cc := cX8_likely) (maxL := 4) (ret := (some .int)) (by decide) rfl ?_
  intro p e s m args below meth c s₁ B hml hv
  obtain ⟨rfl, hP, hK⟩ := hv
  have hx := B.exec
  have hb := B.bytes
  have hr := B.returns
  have hts := atoms_spec (ws := wsX8_likely) B.pre
  have hown : s.vm.findClass RX8 = some m.cls := findClass_of_methodNamed B.named
  have hlocks := B.notSynchronized
  have inX8 : ∀ w ∈ wsX80, w ∈ wsX8_likely := by decide +kernel
  have fl23 := hts (.fieldLink RX8 23 "NewsCowModel" "now" "[I") (by decide +kernel)
  have hl := lv_entry ([.ref m_mo, .int x1, .int x2] : List Value) (n := 4) (Nat.le_of_ble_eq_true rfl)
  rw [lg_entry_eq]
  generalize (lg_sl ([.ref m_mo, .int x1, .int x2] : List Value) ++ List.replicate (4 - (lg_sl ([.ref m_mo, .int x1, .int x2] : List Value)).length) Slot.unset).toArray = ls at hl ⊢
  have hl : lv_has ls 4 [(0, .ref m_mo), (1, .int x1), (2, .int x2)] := hl
  unfold wp_X8_likely at hw
  have J44 : ∀ (k0 : Int32) (ls : Array Slot), wp_X8_likely_J44 m_now x2 k0 post → lv_has ls 4 [(0, .ref m_mo), (2, .int x2)] → W p l e (headSpec wsX8_likely ({ frames := 2, cells := 0, slots := 0, locals := 44 } : Room)).room s m ([.ref m_mo, .int x1, .int x2] : List Value).toArray below meth c s.heap [] 0 0 (MQ below (vp_Si post) ([.ref m_mo, .int x1, .int x2] : List Value).toArray s 0 0 (fun _ => False)) (F0 m 44 ls [.int k0]) := by
    intro k0 ls hw hl
    unfold wp_X8_likely_J44 at hw
    refine lv_istore_n (lv' := [(3, .int k0), (0, .ref m_mo), (2, .int x2)]) hx hb dX8_likely_44 rfl hl (by decide) rfl (fun ls hl => ?_)
    refine lv_iload_n hx hb dX8_likely_45 rfl (lv_at hl 0 rfl) ?_
    refine lv_i2l hx hb dX8_likely_46 rfl ?_
    refine lv_iload_n hx hb dX8_likely_47 rfl (lv_at hl 0 rfl) ?_
    refine lv_if_ne (tgt := 55) hx hb dX8_likely_48 (by decide) (fun c9 => ?_) (fun c9 => ?_)
    · replace hw := hw.1 c9
      refine lv_aload_n hx hb dX8_likely_55 rfl (lv_at hl 1 rfl) ?_
      refine va_get (D := D) (ci := 8) (v := .ref m_anow) (C := RX8) (T := TX8) (N := 18) hx hb hts inX8 hown hK hP 0 rfl rfl 7 (by decide) fl23 (fun _ h9 => h9) rfl dX8_likely_56 ?_
      refine lv_aload_n hx hb dX8_likely_59 rfl (lv_at hl 1 rfl) ?_
      refine va_get (D := D) (ci := 8) (v := .ref m_anow) (C := RX8) (T := TX8) (N := 18) hx hb hts inX8 hown hK hP 0 rfl rfl 7 (by decide) fl23 (fun _ h9 => h9) rfl dX8_likely_60 ?_
      refine lv_iconst (v := 2) hx hb dX8_likely_63 (by decide) ?_
      refine x_iald (j := 2) hx hb hK hP 1 0 rfl rfl (by decide) (x_in (by decide)) dX8_likely_64 ?_
      refine vp_callSi (W.runS (As := [.ref m_anow, .int (m_now 2)]) (rest := [.long (k0.toInt64)]) ⟨hx, hb, hml, hown, hts⟩ (c_X8_milkOf l D G m_anow m_now (m_now 2) _ hw) (va_cwS 2 hts gX8_likely_X8_milkOf rfl rfl rfl (by decide +kernel) ⟨(Nat.le_of_ble_eq_true rfl), (Nat.le_of_ble_eq_true rfl)⟩) (xR_ps (hP.sub [1] rfl) hK) rfl rfl hl.1 rfl (lv_room (Nat.le_of_ble_eq_true rfl)) dX8_likely_65 ⟨Nat.zero_le _, Nat.zero_le _⟩) (fun r4 hw => ?_)
      refine lv_i2l hx hb dX8_likely_68 rfl ?_
      refine lv_iload_n hx hb dX8_likely_69 rfl (lv_at hl 2 rfl) ?_
      refine vp_callSl (W.runS (As := [.long (k0.toInt64), .long (r4.toInt64), .int x2]) (rest := []) ⟨hx, hb, hml, hown, hts⟩ (c_X8_part l D G (k0.toInt64) (r4.toInt64) x2 _ hw) (va_cwS 3 hts gX8_likely_X8_part rfl rfl rfl (by decide +kernel) ⟨(Nat.le_of_ble_eq_true rfl), (Nat.le_of_ble_eq_true rfl)⟩) (xR_ps (hP.sub [] rfl) hK) rfl rfl hl.1 rfl (lv_room (Nat.le_of_ble_eq_true rfl)) dX8_likely_70 ⟨Nat.zero_le _, Nat.zero_le _⟩) (fun r5 hw => ?_)
      refine lv_l2i hx hb dX8_likely_73 rfl ?_
      exact W.iret hx hb hr (fun t ht _ => ⟨_, rfl, hw, ht⟩) (fun _ h => absurd h List.not_mem_nil) dX8_likely_74
    · replace hw := hw.2 c9
      refine lv_lconst (v := 1) hx hb dX8_likely_51 (by decide) ?_
      refine lv_goto (tgt := 69) hx hb dX8_likely_52 (by decide) ?_
      refine lv_iload_n hx hb dX8_likely_69 rfl (lv_at hl 2 rfl) ?_
      refine vp_callSl (W.runS (As := [.long (k0.toInt64), .long (1 : Int64), .int x2]) (rest := []) ⟨hx, hb, hml, hown, hts⟩ (c_X8_part l D G (k0.toInt64) (1 : Int64) x2 _ hw) (va_cwS 3 hts gX8_likely_X8_part rfl rfl rfl (by decide +kernel) ⟨(Nat.le_of_ble_eq_true rfl), (Nat.le_of_ble_eq_true rfl)⟩) (xR_ps (hP.sub [] rfl) hK) rfl rfl hl.1 rfl (lv_room (Nat.le_of_ble_eq_true rfl)) dX8_likely_70 ⟨Nat.zero_le _, Nat.zero_le _⟩) (fun r6 hw => ?_)
      refine lv_l2i hx hb dX8_likely_73 rfl ?_
      exact W.iret hx hb hr (fun t ht _ => ⟨_, rfl, hw, ht⟩) (fun _ h => absurd h List.not_mem_nil) dX8_likely_74
  refine lv_aload_n hx hb dX8_likely_0 rfl (lv_at hl 0 rfl) ?_
  refine lv_iload_n hx hb dX8_likely_1 rfl (lv_at hl 1 rfl) ?_
  refine vp_callSi (W.runV (As := [.int x1]) (rest := []) ⟨hx, hb, hml, hown, hts⟩ (c_X8_isCow l D G m_mo m_alane m_asize m_aitem m_atape m_anow m_atried m_aread m_akept m_anoticed m_aneeds m_aorder m_letters m_position m_number m_isKept m_many m_one m_two m_now x1 _ hw) (cwV 1 hts gX8_likely_X8_isCow rfl rfl rfl (by decide +kernel) ⟨(Nat.le_of_ble_eq_true rfl), (Nat.le_of_ble_eq_true rfl)⟩) (xR_pv (hP.sub [0, 1] rfl) hK (va_recv hK hP (ci := 8) (q0 := 0) rfl rfl)) rfl rfl hl.1 rfl (lv_room (Nat.le_of_ble_eq_true rfl)) dX8_likely_2 ⟨Nat.zero_le _, Nat.zero_le _⟩) (fun r1 hw => ?_)
  refine lv_if_eq (tgt := 17) hx hb dX8_likely_5 (by decide) (fun c9 => ?_) (fun c9 => ?_)
  · replace hw := hw.1 c9
    refine lv_iconst (v := -1) hx hb dX8_likely_17 (by decide) ?_
    exact W.iret hx hb hr (fun t ht _ => ⟨_, rfl, hw, ht⟩) (fun _ h => absurd h List.not_mem_nil) dX8_likely_18
  · replace hw := hw.2 c9
    refine lv_iload_n hx hb dX8_likely_8 rfl (lv_at hl 2 rfl) ?_
    refine lv_iconst (v := 0) hx hb dX8_likely_9 (by decide) ?_
    refine lv_iconst (v := 1) hx hb dX8_likely_10 (by decide) ?_
    refine vp_callSi (W.runS (As := [.int x2, .int (0 : Int32), .int (1 : Int32)]) (rest := []) ⟨hx, hb, hml, hown, hts⟩ (c_X8_in l D G x2 (0 : Int32) (1 : Int32) _ hw) (va_cwS 3 hts gX8_likely_X8_in rfl rfl rfl (by decide +kernel) ⟨(Nat.le_of_ble_eq_true rfl), (Nat.le_of_ble_eq_true rfl)⟩) (xR_ps (hP.sub [] rfl) hK) rfl rfl hl.1 rfl (lv_room (Nat.le_of_ble_eq_true rfl)) dX8_likely_11 ⟨Nat.zero_le _, Nat.zero_le _⟩) (fun r2 hw => ?_)
    refine lv_if_ne (tgt := 19) hx hb dX8_likely_14 (by decide) (fun c9 => ?_) (fun c9 => ?_)
    · replace hw := hw.1 c9
      refine lv_aload_n hx hb dX8_likely_19 rfl (lv_at hl 0 rfl) ?_
      refine va_get (D := D) (ci := 8) (v := .ref m_anow) (C := RX8) (T := TX8) (N := 18) hx hb hts inX8 hown hK hP 0 rfl rfl 7 (by decide) fl23 (fun _ h9 => h9) rfl dX8_likely_20 ?_
      refine lv_iconst (v := 2) hx hb dX8_likely_23 (by decide) ?_
      refine x_iald (j := 2) hx hb hK hP 1 0 rfl rfl (by decide) (x_in (by decide)) dX8_likely_24 ?_
      refine lv_iload_n hx hb dX8_likely_25 rfl (lv_at hl 1 rfl) ?_
      refine vp_callSi (W.runS (As := [.int (m_now 2), .int x1]) (rest := []) ⟨hx, hb, hml, hown, hts⟩ (c_X8_has l D G (m_now 2) x1 _ hw) (va_cwS 2 hts gX8_likely_X8_has rfl rfl rfl (by decide +kernel) ⟨(Nat.le_of_ble_eq_true rfl), (Nat.le_of_ble_eq_true rfl)⟩) (xR_ps (hP.sub [] rfl) hK) rfl rfl hl.1 rfl (lv_room (Nat.le_of_ble_eq_true rfl)) dX8_likely_26 ⟨Nat.zero_le _, Nat.zero_le _⟩) (fun r3 hw => ?_)
      refine lv_if_eq (tgt := 43) hx hb dX8_likely_29 (by decide) (fun c9 => ?_) (fun c9 => ?_)
      · replace hw := hw.1 c9
        refine lv_iconst (v := 0) hx hb dX8_likely_43 (by decide) ?_
        exact J44 (0 : Int32) _ hw (lv_sub hl [0, 2] rfl)
      · replace hw := hw.2 c9
        refine lv_aload_n hx hb dX8_likely_32 rfl (lv_at hl 0 rfl) ?_
        refine va_get (D := D) (ci := 8) (v := .ref m_anow) (C := RX8) (T := TX8) (N := 18) hx hb hts inX8 hown hK hP 0 rfl rfl 7 (by decide) fl23 (fun _ h9 => h9) rfl dX8_likely_33 ?_
        refine lv_iconst (v := 5) hx hb dX8_likely_36 (by decide) ?_
        refine lv_iload_n hx hb dX8_likely_37 rfl (lv_at hl 1 rfl) ?_
        refine lv_iadd hx hb dX8_likely_38 ?_
        refine x_iald (j := ((5 : Int32) + x1).toNatClampNeg) hx hb hK hP 1 0 rfl rfl rfl hw.1 dX8_likely_39 ?_
        replace hw := hw.2
        refine lv_goto (tgt := 44) hx hb dX8_likely_40 (by decide) ?_
        exact J44 (m_now ((5 : Int32) + x1).toNatClampNeg) _ hw (lv_sub hl [0, 2] rfl)
    · replace hw := hw.2 c9
      refine lv_iconst (v := -1) hx hb dX8_likely_17 (by decide) ?_
      exact W.iret hx hb hr (fun t ht _ => ⟨_, rfl, hw, ht⟩) (fun _ h => absurd h List.not_mem_nil) dX8_likely_18
set_option maxHeartbeats 4000000 in
set_option maxRecDepth 100000 in
theorem c_X8_noticed (l : Launch) (D : va_G) (G : Nat → ClassId) (m_mo : Nat) (m_alane : Nat) (m_asize : Nat) (m_aitem : Nat) (m_atape : Nat) (m_anow : Nat) (m_atried : Nat) (m_aread : Nat) (m_akept : Nat) (m_anoticed : Nat) (m_aneeds : Nat) (m_aorder : Nat) (m_letters : Int32) (m_position : Int32) (m_number : Int32) (m_isKept : Int32) (m_many : Int32) (m_one : Int32) (m_two : Int32) (m_now : Nat → Int32) (x1 : Int32) (x2 : Int32) (x3 : Int32) (post : Int32 → Prop) (hw : wp_X8_noticed m_now x1 x2 x3 post) : Met l yX8_noticed wsX8_noticed ({ frames := 4, cells := 0, slots := 0, locals := 95 } : Room) (va_Pc [.ref m_mo, .int x1, .int x2, .int x3] (xR D G [(m_mo, .inr (8, [.ref m_alane, .ref m_asize, .ref m_aitem, .int m_letters, .ref m_atape, .int m_position, .int m_number, .ref m_anow, .ref m_atried, .ref m_aread, .ref m_akept, .int m_isKept, .ref m_anoticed, .ref m_aneeds, .ref m_aorder, .int m_many, .int m_one, .int m_two])), (m_anow, .inl (G 0, 55, .inl m_now))])) (vp_Si post) 0 0 (fun _ => False) := by
  refine Met.ofW (cc := cX8_noticed) (maxL := 5) (ret := (some .int)) (by decide) rfl ?_
  intro p e s m args below meth c s₁ B hml hv
  obtain ⟨rfl, hP, hK⟩ := hv
  have hx := B.exec
  have hb := B.bytes
  have hr := B.returns
  have hts := atoms_spec (ws := wsX8_noticed) B.pre
  have hown : s.vm.findClass RX8 = some m.cls := findClass_of_methodNamed B.named
  have hlocks := B.notSynchronized
  have inX8 : ∀ w ∈ wsX80, w ∈ wsX8_noticed := by decide +kernel
  have fl23 := hts (.fieldLink RX8 23 "NewsCowModel" "now" "[I") (by decide +kernel)
  have hl := lv_entry ([.ref m_mo, .int x1, .int x2, .int x3] : List Value) (n := 5) (Nat.le_of_ble_eq_true rfl)
  rw [lg_entry_eq]
  generalize (lg_sl ([.ref m_mo, .int x1, .int x2, .int x3] : List Value) ++ List.replicate (5 - (lg_sl ([.ref m_mo, .int x1, .int x2, .int x3] : List Value)).length) Slot.unset).toArray = ls at hl ⊢
  have hl : lv_has ls 5 [(0, .ref m_mo), (1, .int x1), (2, .int x2), (3, .int x3)] := hl
  unfold wp_X8_noticed at hw
  refine lv_aload_n hx hb dX8_noticed_0 rfl (lv_at hl 0 rfl) ?_
  refine lv_iload_n hx hb dX8_noticed_1 rfl (lv_at hl 1 rfl) ?_
  refine vp_callSi (W.runV (As := [.int x1]) (rest := []) ⟨hx, hb, hml, hown, hts⟩ (c_X8_isTaster l D G m_mo m_alane m_asize m_aitem m_atape m_anow m_atried m_aread m_akept m_anoticed m_aneeds m_aorder m_letters m_position m_number m_isKept m_many m_one m_two m_now x1 _ hw) (cwV 1 hts gX8_noticed_X8_isTaster rfl rfl rfl (by decide +kernel) ⟨(Nat.le_of_ble_eq_true rfl), (Nat.le_of_ble_eq_true rfl)⟩) (xR_pv (hP.sub [0, 1] rfl) hK (va_recv hK hP (ci := 8) (q0 := 0) rfl rfl)) rfl rfl hl.1 rfl (lv_room (Nat.le_of_ble_eq_true rfl)) dX8_noticed_2 ⟨Nat.zero_le _, Nat.zero_le _⟩) (fun r1 hw => ?_)
  refine lv_if_eq (tgt := 25) hx hb dX8_noticed_5 (by decide) (fun c9 => ?_) (fun c9 => ?_)
  · replace hw := hw.1 c9
    refine lv_iconst (v := -1) hx hb dX8_noticed_25 (by decide) ?_
    exact W.iret hx hb hr (fun t ht _ => ⟨_, rfl, hw, ht⟩) (fun _ h => absurd h List.not_mem_nil) dX8_noticed_26
  · replace hw := hw.2 c9
    refine lv_aload_n hx hb dX8_noticed_8 rfl (lv_at hl 0 rfl) ?_
    refine lv_iload_n hx hb dX8_noticed_9 rfl (lv_at hl 2 rfl) ?_
    refine vp_callSi (W.runV (As := [.int x2]) (rest := []) ⟨hx, hb, hml, hown, hts⟩ (c_X8_isMix l D G m_mo m_alane m_asize m_aitem m_atape m_anow m_atried m_aread m_akept m_anoticed m_aneeds m_aorder m_letters m_position m_number m_isKept m_many m_one m_two m_now x2 _ hw) (cwV 1 hts gX8_noticed_X8_isMix rfl rfl rfl (by decide +kernel) ⟨(Nat.le_of_ble_eq_true rfl), (Nat.le_of_ble_eq_true rfl)⟩) (xR_pv (hP.sub [0, 1] rfl) hK (va_recv hK hP (ci := 8) (q0 := 0) rfl rfl)) rfl rfl hl.1 rfl (lv_room (Nat.le_of_ble_eq_true rfl)) dX8_noticed_10 ⟨Nat.zero_le _, Nat.zero_le _⟩) (fun r2 hw => ?_)
    refine lv_if_eq (tgt := 25) hx hb dX8_noticed_13 (by decide) (fun c9 => ?_) (fun c9 => ?_)
    · replace hw := hw.1 c9
      refine lv_iconst (v := -1) hx hb dX8_noticed_25 (by decide) ?_
      exact W.iret hx hb hr (fun t ht _ => ⟨_, rfl, hw, ht⟩) (fun _ h => absurd h List.not_mem_nil) dX8_noticed_26
    · replace hw := hw.2 c9
      refine lv_iload_n hx hb dX8_noticed_16 rfl (lv_at hl 3 rfl) ?_
      refine lv_iconst (v := 0) hx hb dX8_noticed_17 (by decide) ?_
      refine lv_iconst (v := 1) hx hb dX8_noticed_18 (by decide) ?_
      refine vp_callSi (W.runS (As := [.int x3, .int (0 : Int32), .int (1 : Int32)]) (rest := []) ⟨hx, hb, hml, hown, hts⟩ (c_X8_in l D G x3 (0 : Int32) (1 : Int32) _ hw) (va_cwS 3 hts gX8_noticed_X8_in rfl rfl rfl (by decide +kernel) ⟨(Nat.le_of_ble_eq_true rfl), (Nat.le_of_ble_eq_true rfl)⟩) (xR_ps (hP.sub [] rfl) hK) rfl rfl hl.1 rfl (lv_room (Nat.le_of_ble_eq_true rfl)) dX8_noticed_19 ⟨Nat.zero_le _, Nat.zero_le _⟩) (fun r3 hw => ?_)
      refine lv_if_ne (tgt := 27) hx hb dX8_noticed_22 (by decide) (fun c9 => ?_) (fun c9 => ?_)
      · replace hw := hw.1 c9
        refine lv_aload_n hx hb dX8_noticed_27 rfl (lv_at hl 0 rfl) ?_
        refine va_get (D := D) (ci := 8) (v := .ref m_anow) (C := RX8) (T := TX8) (N := 18) hx hb hts inX8 hown hK hP 0 rfl rfl 7 (by decide) fl23 (fun _ h9 => h9) rfl dX8_noticed_28 ?_
        refine lv_aload_n hx hb dX8_noticed_31 rfl (lv_at hl 0 rfl) ?_
        refine va_get (D := D) (ci := 8) (v := .ref m_anow) (C := RX8) (T := TX8) (N := 18) hx hb hts inX8 hown hK hP 0 rfl rfl 7 (by decide) fl23 (fun _ h9 => h9) rfl dX8_noticed_32 ?_
        refine lv_iconst (v := 2) hx hb dX8_noticed_35 (by decide) ?_
        refine x_iald (j := 2) hx hb hK hP 1 0 rfl rfl (by decide) (x_in (by decide)) dX8_noticed_36 ?_
        refine lv_aload_n hx hb dX8_noticed_37 rfl (lv_at hl 0 rfl) ?_
        refine va_get (D := D) (ci := 8) (v := .ref m_anow) (C := RX8) (T := TX8) (N := 18) hx hb hts inX8 hown hK hP 0 rfl rfl 7 (by decide) fl23 (fun _ h9 => h9) rfl dX8_noticed_38 ?_
        refine lv_iload_n hx hb dX8_noticed_41 rfl (lv_at hl 1 rfl) ?_
        refine lv_iload_n hx hb dX8_noticed_42 rfl (lv_at hl 2 rfl) ?_
        refine vp_callSi (W.runS (As := [.ref m_anow, .int x1, .int x2]) (rest := [.int (m_now 2), .ref m_anow]) ⟨hx, hb, hml, hown, hts⟩ (c_X8_noticedBy l D G m_anow m_now x1 x2 _ hw) (va_cwS 3 hts gX8_noticed_X8_noticedBy rfl rfl rfl (by decide +kernel) ⟨(Nat.le_of_ble_eq_true rfl), (Nat.le_of_ble_eq_true rfl)⟩) (xR_ps (hP.sub [1] rfl) hK) rfl rfl hl.1 rfl (lv_room (Nat.le_of_ble_eq_true rfl)) dX8_noticed_43 ⟨Nat.zero_le _, Nat.zero_le _⟩) (fun r4 hw => ?_)
        refine lv_iand hx hb dX8_noticed_46 ?_
        refine vp_callSi (W.runS (As := [.ref m_anow, .int ((m_now 2) &&& r4)]) (rest := []) ⟨hx, hb, hml, hown, hts⟩ (c_X8_milkOf l D G m_anow m_now ((m_now 2) &&& r4) _ hw) (va_cwS 2 hts gX8_noticed_X8_milkOf rfl rfl rfl (by decide +kernel) ⟨(Nat.le_of_ble_eq_true rfl), (Nat.le_of_ble_eq_true rfl)⟩) (xR_ps (hP.sub [1] rfl) hK) rfl rfl hl.1 rfl (lv_room (Nat.le_of_ble_eq_true rfl)) dX8_noticed_47 ⟨Nat.zero_le _, Nat.zero_le _⟩) (fun r5 hw => ?_)
        refine lv_istore (lv' := [(4, .int r5), (0, .ref m_mo), (1, .int x1), (2, .int x2), (3, .int x3)]) hx hb dX8_noticed_50 hl (by decide) rfl (fun ls hl => ?_)
        refine lv_iload hx hb dX8_noticed_52 (lv_at hl 0 rfl) ?_
        refine lv_i2l hx hb dX8_noticed_54 rfl ?_
        refine lv_iload hx hb dX8_noticed_55 (lv_at hl 0 rfl) ?_
        refine lv_if_ne (tgt := 64) hx hb dX8_noticed_57 (by decide) (fun c9 => ?_) (fun c9 => ?_)
        · replace hw := hw.1 c9
          refine lv_aload_n hx hb dX8_noticed_64 rfl (lv_at hl 1 rfl) ?_
          refine va_get (D := D) (ci := 8) (v := .ref m_anow) (C := RX8) (T := TX8) (N := 18) hx hb hts inX8 hown hK hP 0 rfl rfl 7 (by decide) fl23 (fun _ h9 => h9) rfl dX8_noticed_65 ?_
          refine lv_aload_n hx hb dX8_noticed_68 rfl (lv_at hl 1 rfl) ?_
          refine va_get (D := D) (ci := 8) (v := .ref m_anow) (C := RX8) (T := TX8) (N := 18) hx hb hts inX8 hown hK hP 0 rfl rfl 7 (by decide) fl23 (fun _ h9 => h9) rfl dX8_noticed_69 ?_
          refine lv_iconst (v := 2) hx hb dX8_noticed_72 (by decide) ?_
          refine x_iald (j := 2) hx hb hK hP 1 0 rfl rfl (by decide) (x_in (by decide)) dX8_noticed_73 ?_
          refine vp_callSi (W.runS (As := [.ref m_anow, .int (m_now 2)]) (rest := [.long (r5.toInt64)]) ⟨hx, hb, hml, hown, hts⟩ (c_X8_milkOf l D G m_anow m_now (m_now 2) _ hw) (va_cwS 2 hts gX8_noticed_X8_milkOf rfl rfl rfl (by decide +kernel) ⟨(Nat.le_of_ble_eq_true rfl), (Nat.le_of_ble_eq_true rfl)⟩) (xR_ps (hP.sub [1] rfl) hK) rfl rfl hl.1 rfl (lv_room (Nat.le_of_ble_eq_true rfl)) dX8_noticed_74 ⟨Nat.zero_le _, Nat.zero_le _⟩) (fun r6 hw => ?_)
          refine lv_i2l hx hb dX8_noticed_77 rfl ?_
          refine lv_iload_n hx hb dX8_noticed_78 rfl (lv_at hl 4 rfl) ?_
          refine vp_callSl (W.runS (As := [.long (r5.toInt64), .long (r6.toInt64), .int x3]) (rest := []) ⟨hx, hb, hml, hown, hts⟩ (c_X8_part l D G (r5.toInt64) (r6.toInt64) x3 _ hw) (va_cwS 3 hts gX8_noticed_X8_part rfl rfl rfl (by decide +kernel) ⟨(Nat.le_of_ble_eq_true rfl), (Nat.le_of_ble_eq_true rfl)⟩) (xR_ps (hP.sub [] rfl) hK) rfl rfl hl.1 rfl (lv_room (Nat.le_of_ble_eq_true rfl)) dX8_noticed_79 ⟨Nat.zero_le _, Nat.zero_le _⟩) (fun r7 hw => ?_)
          refine lv_l2i hx hb dX8_noticed_82 rfl ?_
          exact W.iret hx hb hr (fun t ht _ => ⟨_, rfl, hw, ht⟩) (fun _ h => absurd h List.not_mem_nil) dX8_noticed_83
        · replace hw := hw.2 c9
          refine lv_lconst (v := 1) hx hb dX8_noticed_60 (by decide) ?_
          refine lv_goto (tgt := 78) hx hb dX8_noticed_61 (by decide) ?_
          refine lv_iload_n hx hb dX8_noticed_78 rfl (lv_at hl 4 rfl) ?_
          refine vp_callSl (W.runS (As := [.long (r5.toInt64), .long (1 : Int64), .int x3]) (rest := []) ⟨hx, hb, hml, hown, hts⟩ (c_X8_part l D G (r5.toInt64) (1 : Int64) x3 _ hw) (va_cwS 3 hts gX8_noticed_X8_part rfl rfl rfl (by decide +kernel) ⟨(Nat.le_of_ble_eq_true rfl), (Nat.le_of_ble_eq_true rfl)⟩) (xR_ps (hP.sub [] rfl) hK) rfl rfl hl.1 rfl (lv_room (Nat.le_of_ble_eq_true rfl)) dX8_noticed_79 ⟨Nat.zero_le _, Nat.zero_le _⟩) (fun r8 hw => ?_)
          refine lv_l2i hx hb dX8_noticed_82 rfl ?_
          exact W.iret hx hb hr (fun t ht _ => ⟨_, rfl, hw, ht⟩) (fun _ h => absurd h List.not_mem_nil) dX8_noticed_83
      · replace hw := hw.2 c9
        refine lv_iconst (v := -1) hx hb dX8_noticed_25 (by decide) ?_
        exact W.iret hx hb hr (fun t ht _ => ⟨_, rfl, hw, ht⟩) (fun _ h => absurd h List.not_mem_nil) dX8_noticed_26
set_option maxHeartbeats 4000000 in
set_option maxRecDepth 100000 in
theorem c_X8_layOrder (l : Launch) (D : va_G) (G : Nat → ClassId) (sz : Nat) (m_mo : Nat) (m_alane : Nat) (m_asize : Nat) (m_aitem : Nat) (m_atape : Nat) (m_anow : Nat) (m_atried : Nat) (m_aread : Nat) (m_akept : Nat) (m_anoticed : Nat) (m_aneeds : Nat) (m_aorder : Nat) (m_letters : Int32) (m_position : Int32) (m_number : Int32) (m_isKept : Int32) (m_many : Int32) (m_one : Int32) (m_two : Int32) (m_now : Nat → Int32) (m_order : Nat → Int32) (post : Int32 → (Nat → Int32) → Prop) (hw : wp_X8_layOrder m_now m_order post) : Met l yX8_layOrder wsX8_layOrder ({ frames := 1, cells := 0, slots := 0, locals := 22 } : Room) (va_Pc [.ref m_mo] (xM D G sz [(m_mo, .inr (8, [.ref m_alane, .ref m_asize, .ref m_aitem, .int m_letters, .ref m_atape, .int m_position, .int m_number, .ref m_anow, .ref m_atried, .ref m_aread, .ref m_akept, .int m_isKept, .ref m_anoticed, .ref m_aneeds, .ref m_aorder, .int m_many, .int m_one, .int m_two])), (m_anow, .inl (G 0, 55, .inl m_now)), (m_aorder, .inl (G 0, 8, .inl m_order))])) (va_Qi (fun r (u : (Nat → Int32)) => post r u) (fun u t => xE D G (va_A [(m_mo, .inr (8, [.ref m_alane, .ref m_asize, .ref m_aitem, .int m_letters, .ref m_atape, .int m_position, .int m_number, .ref m_anow, .ref m_atried, .ref m_aread, .ref m_akept, .int m_isKept, .ref m_anoticed, .ref m_aneeds, .ref m_aorder, .int m_many, .int m_one, .int m_two])), (m_anow, .inl (G 0, 55, .inl m_now)), (m_aorder, .inl (G 0, 8, .inl m_order))] sz) [(m_mo, .inr (8, [.ref m_alane, .ref m_asize, .ref m_aitem, .int m_letters, .ref m_atape, .int m_position, .int m_number, .ref m_anow, .ref m_atried, .ref m_aread, .ref m_akept, .int m_isKept, .ref m_anoticed, .ref m_aneeds, .ref m_aorder, .int m_many, .int m_one, .int m_two])), (m_anow, .inl (G 0, 55, .inl m_now)), (m_aorder, .inl (G 0, 8, .inl u))] t) (va_A [(m_mo, .inr (8, [.ref m_alane, .ref m_asize, .ref m_aitem, .int m_letters, .ref m_atape, .int m_position, .int m_number, .ref m_anow, .ref m_atried, .ref m_aread, .ref m_akept, .int m_isKept, .ref m_anoticed, .ref m_aneeds, .ref m_aorder, .int m_many, .int m_one, .int m_two])), (m_anow, .inl (G 0, 55, .inl m_now)), (m_aorder, .inl (G 0, 8, .inl m_order))] sz)) 0 0 (va_A [(m_mo, .inr (8, [.ref m_alane, .ref m_asize, .ref m_aitem, .int m_letters, .ref m_atape, .int m_position, .int m_number, .ref m_anow, .ref m_atried, .ref m_aread, .ref m_akept, .int m_isKept, .ref m_anoticed, .ref m_aneeds, .ref m_aorder, .int m_many, .int m_one, .int m_two])), (m_anow, .inl (G 0, 55, .inl m_now)), (m_aorder, .inl (G 0, 8, .inl m_order))] sz) := by
  refine Met.ofW (cc := cX8_layOrder) (maxL := 7) (ret := (some .int)) (by decide) rfl ?_
  intro p e s m args below meth c s₁ B hml hv
  obtain ⟨rfl, hsz, hP, hK, hD0⟩ := hv
  have hx := B.exec
  have hb := B.bytes
  have hr := B.returns
  have hts := atoms_spec (ws := wsX8_layOrder) B.pre
  have hown : s.vm.findClass RX8 = some m.cls := findClass_of_methodNamed B.named
  have hlocks := B.notSynchronized
  subst hsz
  have hD := hD0.self (sz := s.heap.size)
  generalize hAe : va_A [(m_mo, .inr (8, [.ref m_alane, .ref m_asize, .ref m_aitem, .int m_letters, .ref m_atape, .int m_position, .int m_number, .ref m_anow, .ref m_atried, .ref m_aread, .ref m_akept, .int m_isKept, .ref m_anoticed, .ref m_aneeds, .ref m_aorder, .int m_many, .int m_one, .int m_two])), (m_anow, .inl (G 0, 55, .inl m_now)), (m_aorder, .inl (G 0, 8, .inl m_order))] s.heap.size = A at hD ⊢
  have hA : ∀ q : Nat, s.heap.size ≤ q → A q := fun q h => by rw [← hAe]; exact Or.inr h
  have hS : va_S A s.heap s.heap [] := va_S.rf
  have inX8 : ∀ w ∈ wsX80, w ∈ wsX8_layOrder := by decide +kernel
  have fl23 := hts (.fieldLink RX8 23 "NewsCowModel" "now" "[I") (by decide +kernel)
  have fl41 := hts (.fieldLink RX8 41 "NewsCowModel" "order" "[I") (by decide +kernel)
  have hl := lv_entry ([.ref m_mo] : List Value) (n := 7) (Nat.le_of_ble_eq_true rfl)
  rw [lg_entry_eq]
  generalize (lg_sl ([.ref m_mo] : List Value) ++ List.replicate (7 - (lg_sl ([.ref m_mo] : List Value)).length) Slot.unset).toArray = ls at hl ⊢
  have hl : lv_has ls 7 [(0, .ref m_mo)] := hl
  unfold wp_X8_layOrder at hw
  have L14 : ∀ (f14 : Nat) (x1 : Int32) (x2 : Int32) (x3 : Int32) (m_order : Nat → Int32) (H : Heap) (locs : List Loc) (ls : Array Slot), wp_X8_layOrder_L14 m_now x2 post f14 m_order x1 x3 → va_P D vwCl [(m_mo, .inr (8, [.ref m_alane, .ref m_asize, .ref m_aitem, .int m_letters, .ref m_atape, .int m_position, .int m_number, .ref m_anow, .ref m_atried, .ref m_aread, .ref m_akept, .int m_isKept, .ref m_anoticed, .ref m_aneeds, .ref m_aorder, .int m_many, .int m_one, .int m_two])), (m_anow, .inl (G 0, 55, .inl m_now)), (m_aorder, .inl (G 0, 8, .inl m_order))] H → va_D A [(m_mo, .inr (8, [.ref m_alane, .ref m_asize, .ref m_aitem, .int m_letters, .ref m_atape, .int m_position, .int m_number, .ref m_anow, .ref m_atried, .ref m_aread, .ref m_akept, .int m_isKept, .ref m_anoticed, .ref m_aneeds, .ref m_aorder, .int m_many, .int m_one, .int m_two])), (m_anow, .inl (G 0, 55, .inl m_now)), (m_aorder, .inl (G 0, 8, .inl m_order))] → va_S A s.heap H locs → lv_has ls 7 [(0, .ref m_mo), (1, .int x1), (2, .int x2), (3, .int x3)] → W p l e (headSpec wsX8_layOrder ({ frames := 1, cells := 0, slots := 0, locals := 22 } : Room)).room s m ([.ref m_mo] : List Value).toArray below meth c H locs 0 0 (MQ below (va_Qi (fun r (u : (Nat → Int32)) => post r u) (fun u t => xE D G A [(m_mo, .inr (8, [.ref m_alane, .ref m_asize, .ref m_aitem, .int m_letters, .ref m_atape, .int m_position, .int m_number, .ref m_anow, .ref m_atried, .ref m_aread, .ref m_akept, .int m_isKept, .ref m_anoticed, .ref m_aneeds, .ref m_aorder, .int m_many, .int m_one, .int m_two])), (m_anow, .inl (G 0, 55, .inl m_now)), (m_aorder, .inl (G 0, 8, .inl u))] t) A) ([.ref m_mo] : List Value).toArray s 0 0 A) (F0 m 14 ls []) := by
    intro f14
    induction f14 with
    | zero => intro x1 x2 x3 m_order H locs ls hw hP hD hS hl; exact (hw : False).elim
    | succ f14 ih14 =>
      intro x1 x2 x3 m_order H locs ls hw hP hD hS hl
      unfold wp_X8_layOrder_L14 at hw
      have L26 : ∀ (f26 : Nat) (x1 : Int32) (x2 : Int32) (x3 : Int32) (x4 : Int32) (x5 : Int32) (m_order : Nat → Int32) (H : Heap) (locs : List Loc) (ls : Array Slot), wp_X8_layOrder_L26 m_now m_order x1 x2 x3 (wp_X8_layOrder_L14 m_now x2 post f14) post f26 x4 x5 → va_P D vwCl [(m_mo, .inr (8, [.ref m_alane, .ref m_asize, .ref m_aitem, .int m_letters, .ref m_atape, .int m_position, .int m_number, .ref m_anow, .ref m_atried, .ref m_aread, .ref m_akept, .int m_isKept, .ref m_anoticed, .ref m_aneeds, .ref m_aorder, .int m_many, .int m_one, .int m_two])), (m_anow, .inl (G 0, 55, .inl m_now)), (m_aorder, .inl (G 0, 8, .inl m_order))] H → va_D A [(m_mo, .inr (8, [.ref m_alane, .ref m_asize, .ref m_aitem, .int m_letters, .ref m_atape, .int m_position, .int m_number, .ref m_anow, .ref m_atried, .ref m_aread, .ref m_akept, .int m_isKept, .ref m_anoticed, .ref m_aneeds, .ref m_aorder, .int m_many, .int m_one, .int m_two])), (m_anow, .inl (G 0, 55, .inl m_now)), (m_aorder, .inl (G 0, 8, .inl m_order))] → va_S A s.heap H locs → lv_has ls 7 [(0, .ref m_mo), (1, .int x1), (2, .int x2), (3, .int x3), (4, .int x4), (5, .int x5)] → W p l e (headSpec wsX8_layOrder ({ frames := 1, cells := 0, slots := 0, locals := 22 } : Room)).room s m ([.ref m_mo] : List Value).toArray below meth c H locs 0 0 (MQ below (va_Qi (fun r (u : (Nat → Int32)) => post r u) (fun u t => xE D G A [(m_mo, .inr (8, [.ref m_alane, .ref m_asize, .ref m_aitem, .int m_letters, .ref m_atape, .int m_position, .int m_number, .ref m_anow, .ref m_atried, .ref m_aread, .ref m_akept, .int m_isKept, .ref m_anoticed, .ref m_aneeds, .ref m_aorder, .int m_many, .int m_one, .int m_two])), (m_anow, .inl (G 0, 55, .inl m_now)), (m_aorder, .inl (G 0, 8, .inl u))] t) A) ([.ref m_mo] : List Value).toArray s 0 0 A) (F0 m 26 ls []) := by
        intro f26
        induction f26 with
        | zero => intro x1 x2 x3 x4 x5 m_order H locs ls hw hP hD hS hl; exact (hw : False).elim
        | succ f26 ih26 =>
          intro x1 x2 x3 x4 x5 m_order H locs ls hw hP hD hS hl
          unfold wp_X8_layOrder_L26 at hw
          have J77 : ∀ (x1 : Int32) (x2 : Int32) (x3 : Int32) (x4 : Int32) (x5 : Int32) (k0 : Int32) (m_order : Nat → Int32) (H : Heap) (locs : List Loc) (ls : Array Slot), wp_X8_layOrder_J77 x1 x4 x5 k0 (wp_X8_layOrder_L26 m_now m_order x1 x2 x3 (wp_X8_layOrder_L14 m_now x2 post f14) post f26) post → va_P D vwCl [(m_mo, .inr (8, [.ref m_alane, .ref m_asize, .ref m_aitem, .int m_letters, .ref m_atape, .int m_position, .int m_number, .ref m_anow, .ref m_atried, .ref m_aread, .ref m_akept, .int m_isKept, .ref m_anoticed, .ref m_aneeds, .ref m_aorder, .int m_many, .int m_one, .int m_two])), (m_anow, .inl (G 0, 55, .inl m_now)), (m_aorder, .inl (G 0, 8, .inl m_order))] H → va_D A [(m_mo, .inr (8, [.ref m_alane, .ref m_asize, .ref m_aitem, .int m_letters, .ref m_atape, .int m_position, .int m_number, .ref m_anow, .ref m_atried, .ref m_aread, .ref m_akept, .int m_isKept, .ref m_anoticed, .ref m_aneeds, .ref m_aorder, .int m_many, .int m_one, .int m_two])), (m_anow, .inl (G 0, 55, .inl m_now)), (m_aorder, .inl (G 0, 8, .inl m_order))] → va_S A s.heap H locs → lv_has ls 7 [(0, .ref m_mo), (1, .int x1), (2, .int x2), (3, .int x3), (4, .int x4), (5, .int x5)] → W p l e (headSpec wsX8_layOrder ({ frames := 1, cells := 0, slots := 0, locals := 22 } : Room)).room s m ([.ref m_mo] : List Value).toArray below meth c H locs 0 0 (MQ below (va_Qi (fun r (u : (Nat → Int32)) => post r u) (fun u t => xE D G A [(m_mo, .inr (8, [.ref m_alane, .ref m_asize, .ref m_aitem, .int m_letters, .ref m_atape, .int m_position, .int m_number, .ref m_anow, .ref m_atried, .ref m_aread, .ref m_akept, .int m_isKept, .ref m_anoticed, .ref m_aneeds, .ref m_aorder, .int m_many, .int m_one, .int m_two])), (m_anow, .inl (G 0, 55, .inl m_now)), (m_aorder, .inl (G 0, 8, .inl u))] t) A) ([.ref m_mo] : List Value).toArray s 0 0 A) (F0 m 77 ls [.int k0]) := by
            intro x1 x2 x3 x4 x5 k0 m_order H locs ls hw hP hD hS hl
            unfold wp_X8_layOrder_J77 at hw
            refine lv_istore (lv' := [(6, .int k0), (0, .ref m_mo), (1, .int x1), (2, .int x2), (3, .int x3), (4, .int x4), (5, .int x5)]) hx hb dX8_layOrder_77 hl (by decide) rfl (fun ls hl => ?_)
            refine lv_iload_n hx hb dX8_layOrder_79 rfl (lv_at hl 2 rfl) ?_
            refine lv_iload hx hb dX8_layOrder_80 (lv_at hl 6 rfl) ?_
            refine vp_callSi (W.runS (As := [.int x1, .int x5]) (rest := []) ⟨hx, hb, hml, hown, hts⟩ (c_X8_has l D G x1 x5 _ hw) (va_cwS 2 hts gX8_layOrder_X8_has rfl rfl rfl (by decide +kernel) ⟨(Nat.le_of_ble_eq_true rfl), (Nat.le_of_ble_eq_true rfl)⟩) (xR_ps (hP.sub [] rfl) hK) rfl rfl hl.1 rfl (lv_room (Nat.le_of_ble_eq_true rfl)) dX8_layOrder_82 ⟨Nat.zero_le _, Nat.zero_le _⟩) (fun r2 hw => ?_)
            refine lv_if_eq (tgt := 98) hx hb dX8_layOrder_85 (by decide) (fun c9 => ?_) (fun c9 => ?_)
            · replace hw := hw.1 c9
              refine lv_iload hx hb dX8_layOrder_98 (lv_at hl 5 rfl) ?_
              refine lv_istore (lv' := [(4, .int x4), (6, .int k0), (0, .ref m_mo), (1, .int x1), (2, .int x2), (3, .int x3), (5, .int x5)]) hx hb dX8_layOrder_100 hl (by decide) rfl (fun ls hl => ?_)
              refine lv_iinc (v := (x5 + 1)) (lv' := [(5, .int (x5 + 1)), (4, .int x4), (6, .int k0), (0, .ref m_mo), (1, .int x1), (2, .int x2), (3, .int x3)]) hx hb dX8_layOrder_102 hl (k := 6) rfl (by first | rfl | decide) (by decide) rfl (fun ls hl => ?_)
              refine lv_goto (tgt := 26) hx hb dX8_layOrder_105 (by decide) ?_
              exact ih26 x1 x2 x3 x4 (x5 + 1) m_order _ _ _ hw hP hD hS (lv_sub hl [3, 4, 5, 6, 1, 0] rfl)
            · replace hw := hw.2 c9
              refine lv_iload hx hb dX8_layOrder_88 (lv_at hl 0 rfl) ?_
              refine lv_if_eq (tgt := 98) hx hb dX8_layOrder_90 (by decide) (fun c9 => ?_) (fun c9 => ?_)
              · replace hw := hw.1 c9
                refine lv_iload hx hb dX8_layOrder_98 (lv_at hl 5 rfl) ?_
                refine lv_istore (lv' := [(4, .int x4), (6, .int k0), (0, .ref m_mo), (1, .int x1), (2, .int x2), (3, .int x3), (5, .int x5)]) hx hb dX8_layOrder_100 hl (by decide) rfl (fun ls hl => ?_)
                refine lv_iinc (v := (x5 + 1)) (lv' := [(5, .int (x5 + 1)), (4, .int x4), (6, .int k0), (0, .ref m_mo), (1, .int x1), (2, .int x2), (3, .int x3)]) hx hb dX8_layOrder_102 hl (k := 6) rfl (by first | rfl | decide) (by decide) rfl (fun ls hl => ?_)
                refine lv_goto (tgt := 26) hx hb dX8_layOrder_105 (by decide) ?_
                exact ih26 x1 x2 x3 x4 (x5 + 1) m_order _ _ _ hw hP hD hS (lv_sub hl [3, 4, 5, 6, 1, 0] rfl)
              · replace hw := hw.2 c9
                refine lv_iload hx hb dX8_layOrder_93 (lv_at hl 6 rfl) ?_
                refine lv_goto (tgt := 100) hx hb dX8_layOrder_95 (by decide) ?_
                refine lv_istore (lv' := [(4, .int x5), (6, .int k0), (0, .ref m_mo), (1, .int x1), (2, .int x2), (3, .int x3), (5, .int x5)]) hx hb dX8_layOrder_100 hl (by decide) rfl (fun ls hl => ?_)
                refine lv_iinc (v := (x5 + 1)) (lv' := [(5, .int (x5 + 1)), (4, .int x5), (6, .int k0), (0, .ref m_mo), (1, .int x1), (2, .int x2), (3, .int x3)]) hx hb dX8_layOrder_102 hl (k := 6) rfl (by first | rfl | decide) (by decide) rfl (fun ls hl => ?_)
                refine lv_goto (tgt := 26) hx hb dX8_layOrder_105 (by decide) ?_
                exact ih26 x1 x2 x3 x5 (x5 + 1) m_order _ _ _ hw hP hD hS (lv_sub hl [3, 4, 5, 6, 1, 0] rfl)
          have J76 : ∀ (x1 : Int32) (x2 : Int32) (x3 : Int32) (x4 : Int32) (x5 : Int32) (m_order : Nat → Int32) (H : Heap) (locs : List Loc) (ls : Array Slot), wp_X8_layOrder_J76 x1 x4 x5 (wp_X8_layOrder_L26 m_now m_order x1 x2 x3 (wp_X8_layOrder_L14 m_now x2 post f14) post f26) post → va_P D vwCl [(m_mo, .inr (8, [.ref m_alane, .ref m_asize, .ref m_aitem, .int m_letters, .ref m_atape, .int m_position, .int m_number, .ref m_anow, .ref m_atried, .ref m_aread, .ref m_akept, .int m_isKept, .ref m_anoticed, .ref m_aneeds, .ref m_aorder, .int m_many, .int m_one, .int m_two])), (m_anow, .inl (G 0, 55, .inl m_now)), (m_aorder, .inl (G 0, 8, .inl m_order))] H → va_D A [(m_mo, .inr (8, [.ref m_alane, .ref m_asize, .ref m_aitem, .int m_letters, .ref m_atape, .int m_position, .int m_number, .ref m_anow, .ref m_atried, .ref m_aread, .ref m_akept, .int m_isKept, .ref m_anoticed, .ref m_aneeds, .ref m_aorder, .int m_many, .int m_one, .int m_two])), (m_anow, .inl (G 0, 55, .inl m_now)), (m_aorder, .inl (G 0, 8, .inl m_order))] → va_S A s.heap H locs → lv_has ls 7 [(0, .ref m_mo), (1, .int x1), (2, .int x2), (3, .int x3), (4, .int x4), (5, .int x5)] → W p l e (headSpec wsX8_layOrder ({ frames := 1, cells := 0, slots := 0, locals := 22 } : Room)).room s m ([.ref m_mo] : List Value).toArray below meth c H locs 0 0 (MQ below (va_Qi (fun r (u : (Nat → Int32)) => post r u) (fun u t => xE D G A [(m_mo, .inr (8, [.ref m_alane, .ref m_asize, .ref m_aitem, .int m_letters, .ref m_atape, .int m_position, .int m_number, .ref m_anow, .ref m_atried, .ref m_aread, .ref m_akept, .int m_isKept, .ref m_anoticed, .ref m_aneeds, .ref m_aorder, .int m_many, .int m_one, .int m_two])), (m_anow, .inl (G 0, 55, .inl m_now)), (m_aorder, .inl (G 0, 8, .inl u))] t) A) ([.ref m_mo] : List Value).toArray s 0 0 A) (F0 m 76 ls []) := by
            intro x1 x2 x3 x4 x5 m_order H locs ls hw hP hD hS hl
            unfold wp_X8_layOrder_J76 at hw
            refine lv_iconst (v := 0) hx hb dX8_layOrder_76 (by decide) ?_
            exact J77 x1 x2 x3 x4 x5 (0 : Int32) m_order _ _ _ hw hP hD hS (lv_sub hl [0, 1, 2, 3, 4, 5] rfl)
          have J72 : ∀ (x1 : Int32) (x2 : Int32) (x3 : Int32) (x4 : Int32) (x5 : Int32) (m_order : Nat → Int32) (H : Heap) (locs : List Loc) (ls : Array Slot), wp_X8_layOrder_J72 x1 x4 x5 (wp_X8_layOrder_L26 m_now m_order x1 x2 x3 (wp_X8_layOrder_L14 m_now x2 post f14) post f26) post → va_P D vwCl [(m_mo, .inr (8, [.ref m_alane, .ref m_asize, .ref m_aitem, .int m_letters, .ref m_atape, .int m_position, .int m_number, .ref m_anow, .ref m_atried, .ref m_aread, .ref m_akept, .int m_isKept, .ref m_anoticed, .ref m_aneeds, .ref m_aorder, .int m_many, .int m_one, .int m_two])), (m_anow, .inl (G 0, 55, .inl m_now)), (m_aorder, .inl (G 0, 8, .inl m_order))] H → va_D A [(m_mo, .inr (8, [.ref m_alane, .ref m_asize, .ref m_aitem, .int m_letters, .ref m_atape, .int m_position, .int m_number, .ref m_anow, .ref m_atried, .ref m_aread, .ref m_akept, .int m_isKept, .ref m_anoticed, .ref m_aneeds, .ref m_aorder, .int m_many, .int m_one, .int m_two])), (m_anow, .inl (G 0, 55, .inl m_now)), (m_aorder, .inl (G 0, 8, .inl m_order))] → va_S A s.heap H locs → lv_has ls 7 [(0, .ref m_mo), (1, .int x1), (2, .int x2), (3, .int x3), (4, .int x4), (5, .int x5)] → W p l e (headSpec wsX8_layOrder ({ frames := 1, cells := 0, slots := 0, locals := 22 } : Room)).room s m ([.ref m_mo] : List Value).toArray below meth c H locs 0 0 (MQ below (va_Qi (fun r (u : (Nat → Int32)) => post r u) (fun u t => xE D G A [(m_mo, .inr (8, [.ref m_alane, .ref m_asize, .ref m_aitem, .int m_letters, .ref m_atape, .int m_position, .int m_number, .ref m_anow, .ref m_atried, .ref m_aread, .ref m_akept, .int m_isKept, .ref m_anoticed, .ref m_aneeds, .ref m_aorder, .int m_many, .int m_one, .int m_two])), (m_anow, .inl (G 0, 55, .inl m_now)), (m_aorder, .inl (G 0, 8, .inl u))] t) A) ([.ref m_mo] : List Value).toArray s 0 0 A) (F0 m 72 ls []) := by
            intro x1 x2 x3 x4 x5 m_order H locs ls hw hP hD hS hl
            unfold wp_X8_layOrder_J72 at hw
            refine lv_iconst (v := 1) hx hb dX8_layOrder_72 (by decide) ?_
            refine lv_goto (tgt := 77) hx hb dX8_layOrder_73 (by decide) ?_
            exact J77 x1 x2 x3 x4 x5 (1 : Int32) m_order _ _ _ hw hP hD hS (lv_sub hl [0, 1, 2, 3, 4, 5] rfl)
          refine lv_iload hx hb dX8_layOrder_26 (lv_at hl 5 rfl) ?_
          refine lv_aload_n hx hb dX8_layOrder_28 rfl (lv_at hl 0 rfl) ?_
          refine va_get (D := D) (ci := 8) (v := .ref m_anow) (C := RX8) (T := TX8) (N := 18) hx hb hts inX8 hown hK hP 0 rfl rfl 7 (by decide) fl23 (fun _ h9 => h9) rfl dX8_layOrder_29 ?_
          refine lv_iconst (v := 4) hx hb dX8_layOrder_32 (by decide) ?_
          refine x_iald (j := 4) hx hb hK hP 1 0 rfl rfl (by decide) (x_in (by decide)) dX8_layOrder_33 ?_
          refine lv_icmp_ge (tgt := 108) hx hb dX8_layOrder_34 (by decide) (fun c9 => ?_) (fun c9 => ?_)
          · replace hw := hw.1 c9
            refine lv_aload_n hx hb dX8_layOrder_108 rfl (lv_at hl 0 rfl) ?_
            refine va_get (D := D) (ci := 8) (v := .ref m_aorder) (C := RX8) (T := TX8) (N := 18) hx hb hts inX8 hown hK hP 0 rfl rfl 14 (by decide) fl41 (fun _ h9 => h9) rfl dX8_layOrder_109 ?_
            refine lv_iload_n hx hb dX8_layOrder_112 rfl (lv_at hl 3 rfl) ?_
            refine lv_iload hx hb dX8_layOrder_113 (lv_at hl 4 rfl) ?_
            refine x_iast (j := x3.toNatClampNeg) hx hb hK hP hD hS 2 0 rfl rfl rfl hw.1 dX8_layOrder_115 (fun H locs hP hD hS => ?_)
            replace hw := hw.2
            replace hP : va_P D vwCl [(m_mo, .inr (8, [.ref m_alane, .ref m_asize, .ref m_aitem, .int m_letters, .ref m_atape, .int m_position, .int m_number, .ref m_anow, .ref m_atried, .ref m_aread, .ref m_akept, .int m_isKept, .ref m_anoticed, .ref m_aneeds, .ref m_aorder, .int m_many, .int m_one, .int m_two])), (m_anow, .inl (G 0, 55, .inl m_now)), (m_aorder, .inl (G 0, 8, .inl (upd m_order x3.toNatClampNeg x4)))] H := hP
            replace hD : va_D A [(m_mo, .inr (8, [.ref m_alane, .ref m_asize, .ref m_aitem, .int m_letters, .ref m_atape, .int m_position, .int m_number, .ref m_anow, .ref m_atried, .ref m_aread, .ref m_akept, .int m_isKept, .ref m_anoticed, .ref m_aneeds, .ref m_aorder, .int m_many, .int m_one, .int m_two])), (m_anow, .inl (G 0, 55, .inl m_now)), (m_aorder, .inl (G 0, 8, .inl (upd m_order x3.toNatClampNeg x4)))] := hD
            refine lv_iload_n hx hb dX8_layOrder_116 rfl (lv_at hl 1 rfl) ?_
            refine lv_iconst (v := 1) hx hb dX8_layOrder_117 (by decide) ?_
            refine lv_iload hx hb dX8_layOrder_118 (lv_at hl 4 rfl) ?_
            refine lv_ishl hx hb dX8_layOrder_120 ?_
            refine lv_iconst (v := -1) hx hb dX8_layOrder_121 (by decide) ?_
            refine lv_ixor hx hb dX8_layOrder_122 ?_
            refine lv_iand hx hb dX8_layOrder_123 ?_
            refine lv_istore_n (lv' := [(1, .int (x1 &&& (((1 : Int32) <<< (x4 &&& 31)) ^^^ (-1 : Int32)))), (0, .ref m_mo), (2, .int x2), (3, .int x3), (4, .int x4), (5, .int x5)]) hx hb dX8_layOrder_124 rfl hl (by decide) rfl (fun ls hl => ?_)
            refine lv_iinc (v := (x3 + 1)) (lv' := [(3, .int (x3 + 1)), (1, .int (x1 &&& (((1 : Int32) <<< (x4 &&& 31)) ^^^ (-1 : Int32)))), (0, .ref m_mo), (2, .int x2), (4, .int x4), (5, .int x5)]) hx hb dX8_layOrder_125 hl (k := 3) rfl (by first | rfl | decide) (by decide) rfl (fun ls hl => ?_)
            refine lv_goto (tgt := 14) hx hb dX8_layOrder_128 (by decide) ?_
            exact ih14 (x1 &&& (((1 : Int32) <<< (x4 &&& 31)) ^^^ (-1 : Int32))) x2 (x3 + 1) (upd m_order x3.toNatClampNeg x4) _ _ _ hw hP hD hS (lv_sub hl [2, 1, 3, 0] rfl)
          · replace hw := hw.2 c9
            refine lv_iload hx hb dX8_layOrder_37 (lv_at hl 4 rfl) ?_
            refine lv_bipush (v := -4) hx hb dX8_layOrder_39 (by decide) ?_
            refine lv_icmp_eq (tgt := 72) hx hb dX8_layOrder_41 (by decide) (fun c9 => ?_) (fun c9 => ?_)
            · replace hw := hw.1 c9
              exact J72 x1 x2 x3 x4 x5 m_order _ _ _ hw hP hD hS (lv_sub hl [0, 1, 2, 3, 4, 5] rfl)
            · replace hw := hw.2 c9
              refine lv_iload_n hx hb dX8_layOrder_44 rfl (lv_at hl 3 rfl) ?_
              refine lv_iload_n hx hb dX8_layOrder_45 rfl (lv_at hl 2 rfl) ?_
              refine lv_iconst (v := 2) hx hb dX8_layOrder_46 (by decide) ?_
              refine lv_isub hx hb dX8_layOrder_47 ?_
              refine lv_icmp_ge (tgt := 76) hx hb dX8_layOrder_48 (by decide) (fun c9 => ?_) (fun c9 => ?_)
              · replace hw := hw.1 c9
                exact J76 x1 x2 x3 x4 x5 m_order _ _ _ hw hP hD hS (lv_sub hl [0, 1, 2, 3, 4, 5] rfl)
              · replace hw := hw.2 c9
                refine lv_aload_n hx hb dX8_layOrder_51 rfl (lv_at hl 0 rfl) ?_
                refine va_get (D := D) (ci := 8) (v := .ref m_anow) (C := RX8) (T := TX8) (N := 18) hx hb hts inX8 hown hK hP 0 rfl rfl 7 (by decide) fl23 (fun _ h9 => h9) rfl dX8_layOrder_52 ?_
                refine lv_iconst (v := 5) hx hb dX8_layOrder_55 (by decide) ?_
                refine lv_iload hx hb dX8_layOrder_56 (lv_at hl 5 rfl) ?_
                refine lv_iadd hx hb dX8_layOrder_58 ?_
                refine x_iald (j := ((5 : Int32) + x5).toNatClampNeg) hx hb hK hP 1 0 rfl rfl rfl hw.1 dX8_layOrder_59 ?_
                replace hw := hw.2
                refine lv_aload_n hx hb dX8_layOrder_60 rfl (lv_at hl 0 rfl) ?_
                refine va_get (D := D) (ci := 8) (v := .ref m_anow) (C := RX8) (T := TX8) (N := 18) hx hb hts inX8 hown hK hP 0 rfl rfl 7 (by decide) fl23 (fun _ h9 => h9) rfl dX8_layOrder_61 ?_
                refine lv_iconst (v := 5) hx hb dX8_layOrder_64 (by decide) ?_
                refine lv_iload hx hb dX8_layOrder_65 (lv_at hl 4 rfl) ?_
                refine lv_iadd hx hb dX8_layOrder_67 ?_
                refine x_iald (j := ((5 : Int32) + x4).toNatClampNeg) hx hb hK hP 1 0 rfl rfl rfl hw.1 dX8_layOrder_68 ?_
                replace hw := hw.2
                refine lv_icmp_le (tgt := 76) hx hb dX8_layOrder_69 (by decide) (fun c9 => ?_) (fun c9 => ?_)
                · replace hw := hw.1 c9
                  exact J76 x1 x2 x3 x4 x5 m_order _ _ _ hw hP hD hS (lv_sub hl [0, 1, 2, 3, 4, 5] rfl)
                · replace hw := hw.2 c9
                  exact J72 x1 x2 x3 x4 x5 m_order _ _ _ hw hP hD hS (lv_sub hl [0, 1, 2, 3, 4, 5] rfl)
      refine lv_iload_n hx hb dX8_layOrder_14 rfl (lv_at hl 3 rfl) ?_
      refine lv_iload_n hx hb dX8_layOrder_15 rfl (lv_at hl 2 rfl) ?_
      refine lv_icmp_ge (tgt := 131) hx hb dX8_layOrder_16 (by decide) (fun c9 => ?_) (fun c9 => ?_)
      · replace hw := hw.1 c9
        refine lv_iload_n hx hb dX8_layOrder_131 rfl (lv_at hl 2 rfl) ?_
        exact W.iret hx hb hr (x_mi (u := m_order) hP hK hD hS hw) hS.2.2 dX8_layOrder_132
      · replace hw := hw.2 c9
        refine lv_bipush (v := -4) hx hb dX8_layOrder_19 (by decide) ?_
        refine lv_istore (lv' := [(4, .int (-4 : Int32)), (0, .ref m_mo), (1, .int x1), (2, .int x2), (3, .int x3)]) hx hb dX8_layOrder_21 hl (by decide) rfl (fun ls hl => ?_)
        refine lv_iconst (v := 0) hx hb dX8_layOrder_23 (by decide) ?_
        refine lv_istore (lv' := [(5, .int (0 : Int32)), (4, .int (-4 : Int32)), (0, .ref m_mo), (1, .int x1), (2, .int x2), (3, .int x3)]) hx hb dX8_layOrder_24 hl (by decide) rfl (fun ls hl => ?_)
        obtain ⟨n, hw⟩ := hw
        exact L26 n x1 x2 x3 (-4 : Int32) (0 : Int32) m_order _ _ _ hw hP hD hS (lv_sub hl [2, 3, 4, 5, 1, 0] rfl)
  refine lv_aload_n hx hb dX8_layOrder_0 rfl (lv_at hl 0 rfl) ?_
  refine va_get (D := D) (ci := 8) (v := .ref m_anow) (C := RX8) (T := TX8) (N := 18) hx hb hts inX8 hown hK hP 0 rfl rfl 7 (by decide) fl23 (fun _ h9 => h9) rfl dX8_layOrder_1 ?_
  refine lv_iconst (v := 2) hx hb dX8_layOrder_4 (by decide) ?_
  refine x_iald (j := 2) hx hb hK hP 1 0 rfl rfl (by decide) (x_in (by decide)) dX8_layOrder_5 ?_
  refine lv_istore_n (lv' := [(1, .int (m_now 2)), (0, .ref m_mo)]) hx hb dX8_layOrder_6 rfl hl (by decide) rfl (fun ls hl => ?_)
  refine lv_iload_n hx hb dX8_layOrder_7 rfl (lv_at hl 0 rfl) ?_
  refine vp_callSi (W.runS (As := [.int (m_now 2)]) (rest := []) ⟨hx, hb, hml, hown, hts⟩ (c_X8_bits l D G (m_now 2) _ hw) (va_cwS 1 hts gX8_layOrder_X8_bits rfl rfl rfl (by decide +kernel) ⟨(Nat.le_of_ble_eq_true rfl), (Nat.le_of_ble_eq_true rfl)⟩) (xR_ps (hP.sub [] rfl) hK) rfl rfl hl.1 rfl (lv_room (Nat.le_of_ble_eq_true rfl)) dX8_layOrder_8 ⟨Nat.zero_le _, Nat.zero_le _⟩) (fun r1 hw => ?_)
  refine lv_istore_n (lv' := [(2, .int r1), (1, .int (m_now 2)), (0, .ref m_mo)]) hx hb dX8_layOrder_11 rfl hl (by decide) rfl (fun ls hl => ?_)
  refine lv_iconst (v := 0) hx hb dX8_layOrder_12 (by decide) ?_
  refine lv_istore_n (lv' := [(3, .int (0 : Int32)), (2, .int r1), (1, .int (m_now 2)), (0, .ref m_mo)]) hx hb dX8_layOrder_13 rfl hl (by decide) rfl (fun ls hl => ?_)
  obtain ⟨n, hw⟩ := hw
  exact L14 n (m_now 2) r1 (0 : Int32) m_order _ _ _ hw hP hD hS (lv_sub hl [3, 2, 1, 0] rfl)
set_option maxHeartbeats 4000000 in
set_option maxRecDepth 100000 in
theorem c_X8_single (l : Launch) (D : va_G) (G : Nat → ClassId) (sz : Nat) (m_mo : Nat) (m_alane : Nat) (m_asize : Nat) (m_aitem : Nat) (m_atape : Nat) (m_anow : Nat) (m_atried : Nat) (m_aread : Nat) (m_akept : Nat) (m_anoticed : Nat) (m_aneeds : Nat) (m_aorder : Nat) (m_letters : Int32) (m_position : Int32) (m_number : Int32) (m_isKept : Int32) (m_many : Int32) (m_one : Int32) (m_two : Int32) (m_now : Nat → Int32) (m_order : Nat → Int32) (x1 : Int32) (post : Int32 → (Nat → Int32) → Prop) (hw : wp_X8_single m_now m_order x1 post) : Met l yX8_single wsX8_single ({ frames := 2, cells := 0, slots := 0, locals := 48 } : Room) (va_Pc [.ref m_mo, .int x1] (xM D G sz [(m_mo, .inr (8, [.ref m_alane, .ref m_asize, .ref m_aitem, .int m_letters, .ref m_atape, .int m_position, .int m_number, .ref m_anow, .ref m_atried, .ref m_aread, .ref m_akept, .int m_isKept, .ref m_anoticed, .ref m_aneeds, .ref m_aorder, .int m_many, .int m_one, .int m_two])), (m_anow, .inl (G 0, 55, .inl m_now)), (m_aorder, .inl (G 0, 8, .inl m_order))])) (va_Qi (fun r (u : (Nat → Int32)) => post r u) (fun u t => xE D G (va_A [(m_mo, .inr (8, [.ref m_alane, .ref m_asize, .ref m_aitem, .int m_letters, .ref m_atape, .int m_position, .int m_number, .ref m_anow, .ref m_atried, .ref m_aread, .ref m_akept, .int m_isKept, .ref m_anoticed, .ref m_aneeds, .ref m_aorder, .int m_many, .int m_one, .int m_two])), (m_anow, .inl (G 0, 55, .inl m_now)), (m_aorder, .inl (G 0, 8, .inl m_order))] sz) [(m_mo, .inr (8, [.ref m_alane, .ref m_asize, .ref m_aitem, .int m_letters, .ref m_atape, .int m_position, .int m_number, .ref m_anow, .ref m_atried, .ref m_aread, .ref m_akept, .int m_isKept, .ref m_anoticed, .ref m_aneeds, .ref m_aorder, .int m_many, .int m_one, .int m_two])), (m_anow, .inl (G 0, 55, .inl m_now)), (m_aorder, .inl (G 0, 8, .inl u))] t) (va_A [(m_mo, .inr (8, [.ref m_alane, .ref m_asize, .ref m_aitem, .int m_letters, .ref m_atape, .int m_position, .int m_number, .ref m_anow, .ref m_atried, .ref m_aread, .ref m_akept, .int m_isKept, .ref m_anoticed, .ref m_aneeds, .ref m_aorder, .int m_many, .int m_one, .int m_two])), (m_anow, .inl (G 0, 55, .inl m_now)), (m_aorder, .inl (G 0, 8, .inl m_order))] sz)) 0 0 (va_A [(m_mo, .inr (8, [.ref m_alane, .ref m_asize, .ref m_aitem, .int m_letters, .ref m_atape, .int m_position, .int m_number, .ref m_anow, .ref m_atried, .ref m_aread, .ref m_akept, .int m_isKept, .ref m_anoticed, .ref m_aneeds, .ref m_aorder, .int m_many, .int m_one, .int m_two])), (m_anow, .inl (G 0, 55, .inl m_now)), (m_aorder, .inl (G 0, 8, .inl m_order))] sz) := by
  refine Met.ofW (cc := cX8_single) (maxL := 5) (ret := (some .int)) (by decide) rfl ?_
  intro p e s m args below meth c s₁ B hml hv
  obtain ⟨rfl, hsz, hP, hK, hD0⟩ := hv
  have hx := B.exec
  have hb := B.bytes
  have hr := B.returns
  have hts := atoms_spec (ws := wsX8_single) B.pre
  have hown : s.vm.findClass RX8 = some m.cls := findClass_of_methodNamed B.named
  have hlocks := B.notSynchronized
  subst hsz
  have hD := hD0.self (sz := s.heap.size)
  generalize hAe : va_A [(m_mo, .inr (8, [.ref m_alane, .ref m_asize, .ref m_aitem, .int m_letters, .ref m_atape, .int m_position, .int m_number, .ref m_anow, .ref m_atried, .ref m_aread, .ref m_akept, .int m_isKept, .ref m_anoticed, .ref m_aneeds, .ref m_aorder, .int m_many, .int m_one, .int m_two])), (m_anow, .inl (G 0, 55, .inl m_now)), (m_aorder, .inl (G 0, 8, .inl m_order))] s.heap.size = A at hD ⊢
  have hA : ∀ q : Nat, s.heap.size ≤ q → A q := fun q h => by rw [← hAe]; exact Or.inr h
  have hS : va_S A s.heap s.heap [] := va_S.rf
  have inX8 : ∀ w ∈ wsX80, w ∈ wsX8_single := by decide +kernel
  have fl41 := hts (.fieldLink RX8 41 "NewsCowModel" "order" "[I") (by decide +kernel)
  have fl23 := hts (.fieldLink RX8 23 "NewsCowModel" "now" "[I") (by decide +kernel)
  have hl := lv_entry ([.ref m_mo, .int x1] : List Value) (n := 5) (Nat.le_of_ble_eq_true rfl)
  rw [lg_entry_eq]
  generalize (lg_sl ([.ref m_mo, .int x1] : List Value) ++ List.replicate (5 - (lg_sl ([.ref m_mo, .int x1] : List Value)).length) Slot.unset).toArray = ls at hl ⊢
  have hl : lv_has ls 5 [(0, .ref m_mo), (1, .int x1)] := hl
  unfold wp_X8_single at hw
  have J110 : ∀ (k0 : Int64) (k1 : Int64) (m_order : Nat → Int32) (H : Heap) (locs : List Loc) (ls : Array Slot), wp_X8_single_J110 m_order x1 k0 k1 post → va_P D vwCl [(m_mo, .inr (8, [.ref m_alane, .ref m_asize, .ref m_aitem, .int m_letters, .ref m_atape, .int m_position, .int m_number, .ref m_anow, .ref m_atried, .ref m_aread, .ref m_akept, .int m_isKept, .ref m_anoticed, .ref m_aneeds, .ref m_aorder, .int m_many, .int m_one, .int m_two])), (m_anow, .inl (G 0, 55, .inl m_now)), (m_aorder, .inl (G 0, 8, .inl m_order))] H → va_D A [(m_mo, .inr (8, [.ref m_alane, .ref m_asize, .ref m_aitem, .int m_letters, .ref m_atape, .int m_position, .int m_number, .ref m_anow, .ref m_atried, .ref m_aread, .ref m_akept, .int m_isKept, .ref m_anoticed, .ref m_aneeds, .ref m_aorder, .int m_many, .int m_one, .int m_two])), (m_anow, .inl (G 0, 55, .inl m_now)), (m_aorder, .inl (G 0, 8, .inl m_order))] → va_S A s.heap H locs → lv_has ls 5 [(1, .int x1)] → W p l e (headSpec wsX8_single ({ frames := 2, cells := 0, slots := 0, locals := 48 } : Room)).room s m ([.ref m_mo, .int x1] : List Value).toArray below meth c H locs 0 0 (MQ below (va_Qi (fun r (u : (Nat → Int32)) => post r u) (fun u t => xE D G A [(m_mo, .inr (8, [.ref m_alane, .ref m_asize, .ref m_aitem, .int m_letters, .ref m_atape, .int m_position, .int m_number, .ref m_anow, .ref m_atried, .ref m_aread, .ref m_akept, .int m_isKept, .ref m_anoticed, .ref m_aneeds, .ref m_aorder, .int m_many, .int m_one, .int m_two])), (m_anow, .inl (G 0, 55, .inl m_now)), (m_aorder, .inl (G 0, 8, .inl u))] t) A) ([.ref m_mo, .int x1] : List Value).toArray s 0 0 A) (F0 m 110 ls [.long k0, .long k1]) := by
    intro k0 k1 m_order H locs ls hw hP hD hS hl
    unfold wp_X8_single_J110 at hw
    refine lv_iconst (v := -1) hx hb dX8_single_110 (by decide) ?_
    refine lv_iload_n hx hb dX8_single_111 rfl (lv_at hl 0 rfl) ?_
    refine lv_isub hx hb dX8_single_112 ?_
    refine vp_callSl (W.runS (As := [.long k1, .long k0, .int ((-1 : Int32) - x1)]) (rest := []) ⟨hx, hb, hml, hown, hts⟩ (c_X8_part l D G k1 k0 ((-1 : Int32) - x1) _ hw) (va_cwS 3 hts gX8_single_X8_part rfl rfl rfl (by decide +kernel) ⟨(Nat.le_of_ble_eq_true rfl), (Nat.le_of_ble_eq_true rfl)⟩) (xR_ps (hP.sub [] rfl) hK) rfl rfl hl.1 rfl (lv_room (Nat.le_of_ble_eq_true rfl)) dX8_single_113 ⟨Nat.zero_le _, Nat.zero_le _⟩) (fun r3 hw => ?_)
    refine lv_l2i hx hb dX8_single_116 rfl ?_
    exact W.iret hx hb hr (x_mi (u := m_order) hP hK hD hS hw) hS.2.2 dX8_single_117
  have L39 : ∀ (f39 : Nat) (x2 : Int32) (x3 : Int32) (x4 : Int32) (m_order : Nat → Int32) (H : Heap) (locs : List Loc) (ls : Array Slot), wp_X8_single_L39 m_now m_order x1 x2 post f39 x3 x4 → va_P D vwCl [(m_mo, .inr (8, [.ref m_alane, .ref m_asize, .ref m_aitem, .int m_letters, .ref m_atape, .int m_position, .int m_number, .ref m_anow, .ref m_atried, .ref m_aread, .ref m_akept, .int m_isKept, .ref m_anoticed, .ref m_aneeds, .ref m_aorder, .int m_many, .int m_one, .int m_two])), (m_anow, .inl (G 0, 55, .inl m_now)), (m_aorder, .inl (G 0, 8, .inl m_order))] H → va_D A [(m_mo, .inr (8, [.ref m_alane, .ref m_asize, .ref m_aitem, .int m_letters, .ref m_atape, .int m_position, .int m_number, .ref m_anow, .ref m_atried, .ref m_aread, .ref m_akept, .int m_isKept, .ref m_anoticed, .ref m_aneeds, .ref m_aorder, .int m_many, .int m_one, .int m_two])), (m_anow, .inl (G 0, 55, .inl m_now)), (m_aorder, .inl (G 0, 8, .inl m_order))] → va_S A s.heap H locs → lv_has ls 5 [(0, .ref m_mo), (1, .int x1), (2, .int x2), (3, .int x3), (4, .int x4)] → W p l e (headSpec wsX8_single ({ frames := 2, cells := 0, slots := 0, locals := 48 } : Room)).room s m ([.ref m_mo, .int x1] : List Value).toArray below meth c H locs 0 0 (MQ below (va_Qi (fun r (u : (Nat → Int32)) => post r u) (fun u t => xE D G A [(m_mo, .inr (8, [.ref m_alane, .ref m_asize, .ref m_aitem, .int m_letters, .ref m_atape, .int m_position, .int m_number, .ref m_anow, .ref m_atried, .ref m_aread, .ref m_akept, .int m_isKept, .ref m_anoticed, .ref m_aneeds, .ref m_aorder, .int m_many, .int m_one, .int m_two])), (m_anow, .inl (G 0, 55, .inl m_now)), (m_aorder, .inl (G 0, 8, .inl u))] t) A) ([.ref m_mo, .int x1] : List Value).toArray s 0 0 A) (F0 m 39 ls []) := by
    intro f39
    induction f39 with
    | zero => intro x2 x3 x4 m_order H locs ls hw hP hD hS hl; exact (hw : False).elim
    | succ f39 ih39 =>
      intro x2 x3 x4 m_order H locs ls hw hP hD hS hl
      unfold wp_X8_single_L39 at hw
      have J77 : ∀ (x2 : Int32) (x4 : Int32) (k0 : Int32) (k1 : Int32) (k2 : Int32) (m_order : Nat → Int32) (H : Heap) (locs : List Loc) (ls : Array Slot), wp_X8_single_J77 x4 k0 k1 k2 (wp_X8_single_L39 m_now m_order x1 x2 post f39) post → va_P D vwCl [(m_mo, .inr (8, [.ref m_alane, .ref m_asize, .ref m_aitem, .int m_letters, .ref m_atape, .int m_position, .int m_number, .ref m_anow, .ref m_atried, .ref m_aread, .ref m_akept, .int m_isKept, .ref m_anoticed, .ref m_aneeds, .ref m_aorder, .int m_many, .int m_one, .int m_two])), (m_anow, .inl (G 0, 55, .inl m_now)), (m_aorder, .inl (G 0, 8, .inl m_order))] H → va_D A [(m_mo, .inr (8, [.ref m_alane, .ref m_asize, .ref m_aitem, .int m_letters, .ref m_atape, .int m_position, .int m_number, .ref m_anow, .ref m_atried, .ref m_aread, .ref m_akept, .int m_isKept, .ref m_anoticed, .ref m_aneeds, .ref m_aorder, .int m_many, .int m_one, .int m_two])), (m_anow, .inl (G 0, 55, .inl m_now)), (m_aorder, .inl (G 0, 8, .inl m_order))] → va_S A s.heap H locs → lv_has ls 5 [(0, .ref m_mo), (1, .int x1), (2, .int x2), (4, .int x4)] → W p l e (headSpec wsX8_single ({ frames := 2, cells := 0, slots := 0, locals := 48 } : Room)).room s m ([.ref m_mo, .int x1] : List Value).toArray below meth c H locs 0 0 (MQ below (va_Qi (fun r (u : (Nat → Int32)) => post r u) (fun u t => xE D G A [(m_mo, .inr (8, [.ref m_alane, .ref m_asize, .ref m_aitem, .int m_letters, .ref m_atape, .int m_position, .int m_number, .ref m_anow, .ref m_atried, .ref m_aread, .ref m_akept, .int m_isKept, .ref m_anoticed, .ref m_aneeds, .ref m_aorder, .int m_many, .int m_one, .int m_two])), (m_anow, .inl (G 0, 55, .inl m_now)), (m_aorder, .inl (G 0, 8, .inl u))] t) A) ([.ref m_mo, .int x1] : List Value).toArray s 0 0 A) (F0 m 77 ls [.int k0, .int k1, .int k2]) := by
        intro x2 x4 k0 k1 k2 m_order H locs ls hw hP hD hS hl
        unfold wp_X8_single_J77 at hw
        refine lv_imul hx hb dX8_single_77 ?_
        refine lv_iadd hx hb dX8_single_78 ?_
        refine lv_istore_n (lv' := [(3, .int (k2 + (k1 * k0))), (0, .ref m_mo), (1, .int x1), (2, .int x2), (4, .int x4)]) hx hb dX8_single_79 rfl hl (by decide) rfl (fun ls hl => ?_)
        refine lv_iinc (v := (x4 + 1)) (lv' := [(4, .int (x4 + 1)), (3, .int (k2 + (k1 * k0))), (0, .ref m_mo), (1, .int x1), (2, .int x2)]) hx hb dX8_single_80 hl (k := 4) rfl (by first | rfl | decide) (by decide) rfl (fun ls hl => ?_)
        refine lv_goto (tgt := 39) hx hb dX8_single_83 (by decide) ?_
        exact ih39 x2 (k2 + (k1 * k0)) (x4 + 1) m_order _ _ _ hw hP hD hS (lv_sub hl [2, 3, 4, 1, 0] rfl)
      refine lv_iload hx hb dX8_single_39 (lv_at hl 4 rfl) ?_
      refine lv_iload_n hx hb dX8_single_41 rfl (lv_at hl 2 rfl) ?_
      refine lv_icmp_ge (tgt := 86) hx hb dX8_single_42 (by decide) (fun c9 => ?_) (fun c9 => ?_)
      · replace hw := hw.1 c9
        refine lv_iload_n hx hb dX8_single_86 rfl (lv_at hl 3 rfl) ?_
        refine lv_i2l hx hb dX8_single_87 rfl ?_
        refine lv_iload_n hx hb dX8_single_88 rfl (lv_at hl 3 rfl) ?_
        refine lv_if_ne (tgt := 96) hx hb dX8_single_89 (by decide) (fun c9 => ?_) (fun c9 => ?_)
        · replace hw := hw.1 c9
          refine lv_aload_n hx hb dX8_single_96 rfl (lv_at hl 0 rfl) ?_
          refine va_get (D := D) (ci := 8) (v := .ref m_anow) (C := RX8) (T := TX8) (N := 18) hx hb hts inX8 hown hK hP 0 rfl rfl 7 (by decide) fl23 (fun _ h9 => h9) rfl dX8_single_97 ?_
          refine lv_aload_n hx hb dX8_single_100 rfl (lv_at hl 0 rfl) ?_
          refine va_get (D := D) (ci := 8) (v := .ref m_anow) (C := RX8) (T := TX8) (N := 18) hx hb hts inX8 hown hK hP 0 rfl rfl 7 (by decide) fl23 (fun _ h9 => h9) rfl dX8_single_101 ?_
          refine lv_iconst (v := 2) hx hb dX8_single_104 (by decide) ?_
          refine x_iald (j := 2) hx hb hK hP 1 0 rfl rfl (by decide) (x_in (by decide)) dX8_single_105 ?_
          refine vp_callSi (W.runS (As := [.ref m_anow, .int (m_now 2)]) (rest := [.long (x3.toInt64)]) ⟨hx, hb, hml, hown, hts⟩ (c_X8_milkOf l D G m_anow m_now (m_now 2) _ hw) (va_cwS 2 hts gX8_single_X8_milkOf rfl rfl rfl (by decide +kernel) ⟨(Nat.le_of_ble_eq_true rfl), (Nat.le_of_ble_eq_true rfl)⟩) (xR_ps (hP.sub [1] rfl) hK) rfl rfl hl.1 rfl (lv_room (Nat.le_of_ble_eq_true rfl)) dX8_single_106 ⟨Nat.zero_le _, Nat.zero_le _⟩) (fun r2 hw => ?_)
          refine lv_i2l hx hb dX8_single_109 rfl ?_
          exact J110 (r2.toInt64) (x3.toInt64) m_order _ _ _ hw hP hD hS (lv_sub hl [1] rfl)
        · replace hw := hw.2 c9
          refine lv_lconst (v := 1) hx hb dX8_single_92 (by decide) ?_
          refine lv_goto (tgt := 110) hx hb dX8_single_93 (by decide) ?_
          exact J110 (1 : Int64) (x3.toInt64) m_order _ _ _ hw hP hD hS (lv_sub hl [1] rfl)
      · replace hw := hw.2 c9
        refine lv_iload_n hx hb dX8_single_45 rfl (lv_at hl 3 rfl) ?_
        refine lv_aload_n hx hb dX8_single_46 rfl (lv_at hl 0 rfl) ?_
        refine va_get (D := D) (ci := 8) (v := .ref m_anow) (C := RX8) (T := TX8) (N := 18) hx hb hts inX8 hown hK hP 0 rfl rfl 7 (by decide) fl23 (fun _ h9 => h9) rfl dX8_single_47 ?_
        refine lv_iconst (v := 5) hx hb dX8_single_50 (by decide) ?_
        refine lv_aload_n hx hb dX8_single_51 rfl (lv_at hl 0 rfl) ?_
        refine va_get (D := D) (ci := 8) (v := .ref m_aorder) (C := RX8) (T := TX8) (N := 18) hx hb hts inX8 hown hK hP 0 rfl rfl 14 (by decide) fl41 (fun _ h9 => h9) rfl dX8_single_52 ?_
        refine lv_iload hx hb dX8_single_55 (lv_at hl 4 rfl) ?_
        refine x_iald (j := x4.toNatClampNeg) hx hb hK hP 2 0 rfl rfl rfl hw.1 dX8_single_57 ?_
        replace hw := hw.2
        refine lv_iadd hx hb dX8_single_58 ?_
        refine x_iald (j := ((5 : Int32) + (m_order x4.toNatClampNeg)).toNatClampNeg) hx hb hK hP 1 0 rfl rfl rfl hw.1 dX8_single_59 ?_
        replace hw := hw.2
        refine lv_iload hx hb dX8_single_60 (lv_at hl 4 rfl) ?_
        refine lv_iload_n hx hb dX8_single_62 rfl (lv_at hl 2 rfl) ?_
        refine lv_iconst (v := 1) hx hb dX8_single_63 (by decide) ?_
        refine lv_isub hx hb dX8_single_64 ?_
        refine lv_icmp_ge (tgt := 75) hx hb dX8_single_65 (by decide) (fun c9 => ?_) (fun c9 => ?_)
        · replace hw := hw.1 c9
          refine lv_iload hx hb dX8_single_75 (lv_at hl 4 rfl) ?_
          exact J77 x2 x4 x4 (m_now ((5 : Int32) + (m_order x4.toNatClampNeg)).toNatClampNeg) x3 m_order _ _ _ hw hP hD hS (lv_sub hl [0, 1, 2, 4] rfl)
        · replace hw := hw.2 c9
          refine lv_iload hx hb dX8_single_68 (lv_at hl 4 rfl) ?_
          refine lv_iconst (v := 1) hx hb dX8_single_70 (by decide) ?_
          refine lv_iadd hx hb dX8_single_71 ?_
          refine lv_goto (tgt := 77) hx hb dX8_single_72 (by decide) ?_
          exact J77 x2 x4 (x4 + (1 : Int32)) (m_now ((5 : Int32) + (m_order x4.toNatClampNeg)).toNatClampNeg) x3 m_order _ _ _ hw hP hD hS (lv_sub hl [0, 1, 2, 4] rfl)
  refine lv_iload_n hx hb dX8_single_0 rfl (lv_at hl 1 rfl) ?_
  refine lv_bipush (v := -2) hx hb dX8_single_1 (by decide) ?_
  refine lv_icmp_ge (tgt := 8) hx hb dX8_single_3 (by decide) (fun c9 => ?_) (fun c9 => ?_)
  · replace hw := hw.1 c9
    refine lv_aload_n hx hb dX8_single_8 rfl (lv_at hl 0 rfl) ?_
    refine x_cMi (wr := []) (va_runV (As := []) (rest := []) ⟨hx, hb, hml, hown, hts⟩ (c_X8_layOrder l D G _ m_mo m_alane m_asize m_aitem m_atape m_anow m_atried m_aread m_akept m_anoticed m_aneeds m_aorder m_letters m_position m_number m_isKept m_many m_one m_two m_now m_order _ hw) (cwV 0 hts gX8_single_X8_layOrder rfl rfl rfl (by decide +kernel) ⟨(Nat.le_of_ble_eq_true rfl), (Nat.le_of_ble_eq_true rfl)⟩) (xM_pv (hP.sub [0, 1, 2] rfl) hK (hD.sub [0, 1, 2] (by decide) rfl) (va_recv hK hP (ci := 8) (q0 := 0) rfl rfl)) rfl rfl hl.1 rfl (lv_room (Nat.le_of_ble_eq_true rfl)) dX8_single_9 ⟨Nat.zero_le _, Nat.zero_le _⟩) hP hD hS hA [0, 1, 2] [] rfl rfl (by decide) (by decide) [0, 1, 2] (fun u => [(m_mo, .inr (8, [.ref m_alane, .ref m_asize, .ref m_aitem, .int m_letters, .ref m_atape, .int m_position, .int m_number, .ref m_anow, .ref m_atried, .ref m_aread, .ref m_akept, .int m_isKept, .ref m_anoticed, .ref m_aneeds, .ref m_aorder, .int m_many, .int m_one, .int m_two])), (m_anow, .inl (G 0, 55, .inl m_now)), (m_aorder, .inl (G 0, 8, .inl u))]) (by decide) (fun u => rfl) (fun r1 u H locs hw hP hD hS => ?_)
    obtain ⟨m_order_1, rfl⟩ : ∃ z, z = u := ⟨_, rfl⟩
    try dsimp only at hw
    replace hP : va_P D vwCl [(m_mo, .inr (8, [.ref m_alane, .ref m_asize, .ref m_aitem, .int m_letters, .ref m_atape, .int m_position, .int m_number, .ref m_anow, .ref m_atried, .ref m_aread, .ref m_akept, .int m_isKept, .ref m_anoticed, .ref m_aneeds, .ref m_aorder, .int m_many, .int m_one, .int m_two])), (m_anow, .inl (G 0, 55, .inl m_now)), (m_aorder, .inl (G 0, 8, .inl m_order_1))] H := hP
    replace hD : va_D A [(m_mo, .inr (8, [.ref m_alane, .ref m_asize, .ref m_aitem, .int m_letters, .ref m_atape, .int m_position, .int m_number, .ref m_anow, .ref m_atried, .ref m_aread, .ref m_akept, .int m_isKept, .ref m_anoticed, .ref m_aneeds, .ref m_aorder, .int m_many, .int m_one, .int m_two])), (m_anow, .inl (G 0, 55, .inl m_now)), (m_aorder, .inl (G 0, 8, .inl m_order_1))] := hD
    refine lv_istore_n (lv' := [(2, .int r1), (0, .ref m_mo), (1, .int x1)]) hx hb dX8_single_12 rfl hl (by decide) rfl (fun ls hl => ?_)
    refine lv_iload_n hx hb dX8_single_13 rfl (lv_at hl 2 rfl) ?_
    refine lv_if_lt (tgt := 34) hx hb dX8_single_14 (by decide) (fun c9 => ?_) (fun c9 => ?_)
    · replace hw := hw.1 c9
      refine lv_iconst (v := 0) hx hb dX8_single_34 (by decide) ?_
      refine lv_istore_n (lv' := [(3, .int (0 : Int32)), (2, .int r1), (0, .ref m_mo), (1, .int x1)]) hx hb dX8_single_35 rfl hl (by decide) rfl (fun ls hl => ?_)
      refine lv_iconst (v := 0) hx hb dX8_single_36 (by decide) ?_
      refine lv_istore (lv' := [(4, .int (0 : Int32)), (3, .int (0 : Int32)), (2, .int r1), (0, .ref m_mo), (1, .int x1)]) hx hb dX8_single_37 hl (by decide) rfl (fun ls hl => ?_)
      obtain ⟨n, hw⟩ := hw
      exact L39 n r1 (0 : Int32) (0 : Int32) m_order_1 _ _ _ hw hP hD hS (lv_sub hl [3, 4, 2, 1, 0] rfl)
    · replace hw := hw.2 c9
      refine lv_iload_n hx hb dX8_single_17 rfl (lv_at hl 2 rfl) ?_
      refine lv_iload_n hx hb dX8_single_18 rfl (lv_at hl 0 rfl) ?_
      refine lv_icmp_ge (tgt := 31) hx hb dX8_single_19 (by decide) (fun c9 => ?_) (fun c9 => ?_)
      · replace hw := hw.1 c9
        refine lv_bipush (v := -4) hx hb dX8_single_31 (by decide) ?_
        exact W.iret hx hb hr (x_mi (u := m_order_1) hP hK hD hS hw) hS.2.2 dX8_single_33
      · replace hw := hw.2 c9
        refine lv_aload_n hx hb dX8_single_22 rfl (lv_at hl 1 rfl) ?_
        refine va_get (D := D) (ci := 8) (v := .ref m_aorder) (C := RX8) (T := TX8) (N := 18) hx hb hts inX8 hown hK hP 0 rfl rfl 14 (by decide) fl41 (fun _ h9 => h9) rfl dX8_single_23 ?_
        refine lv_iload_n hx hb dX8_single_26 rfl (lv_at hl 2 rfl) ?_
        refine x_iald (j := x1.toNatClampNeg) hx hb hK hP 2 0 rfl rfl rfl hw.1 dX8_single_27 ?_
        replace hw := hw.2
        refine lv_goto (tgt := 33) hx hb dX8_single_28 (by decide) ?_
        exact W.iret hx hb hr (x_mi (u := m_order_1) hP hK hD hS hw) hS.2.2 dX8_single_33
  · replace hw := hw.2 c9
    refine lv_iconst (v := -1) hx hb dX8_single_6 (by decide) ?_
    exact W.iret hx hb hr (x_mi (u := m_order) hP hK hD hS hw) hS.2.2 dX8_single_7
set_option maxHeartbeats 4000000 in
set_option maxRecDepth 100000 in
theorem c_X8_share (l : Launch) (D : va_G) (G : Nat → ClassId) (m_mo : Nat) (m_alane : Nat) (m_asize : Nat) (m_aitem : Nat) (m_atape : Nat) (m_anow : Nat) (m_atried : Nat) (m_aread : Nat) (m_akept : Nat) (m_anoticed : Nat) (m_aneeds : Nat) (m_aorder : Nat) (m_letters : Int32) (m_position : Int32) (m_number : Int32) (m_isKept : Int32) (m_many : Int32) (m_one : Int32) (m_two : Int32) (m_now : Nat → Int32) (x1 : Int32) (x2 : Int32) (x3 : Int32) (post : Int32 → Prop) (hw : wp_X8_share m_now x1 x2 x3 post) : Met l yX8_share wsX8_share ({ frames := 2, cells := 0, slots := 0, locals := 44 } : Room) (va_Pc [.ref m_mo, .int x1, .int x2, .int x3] (xR D G [(m_mo, .inr (8, [.ref m_alane, .ref m_asize, .ref m_aitem, .int m_letters, .ref m_atape, .int m_position, .int m_number, .ref m_anow, .ref m_atried, .ref m_aread, .ref m_akept, .int m_isKept, .ref m_anoticed, .ref m_aneeds, .ref m_aorder, .int m_many, .int m_one, .int m_two])), (m_anow, .inl (G 0, 55, .inl m_now))])) (vp_Si post) 0 0 (fun _ => False) := by
  refine Met.ofW (cc := cX8_share) (maxL := 5) (ret := (some .int)) (by decide) rfl ?_
  intro p e s m args below meth c s₁ B hml hv
  obtain ⟨rfl, hP, hK⟩ := hv
  have hx := B.exec
  have hb := B.bytes
  have hr := B.returns
  have hts := atoms_spec (ws := wsX8_share) B.pre
  have hown : s.vm.findClass RX8 = some m.cls := findClass_of_methodNamed B.named
  have hlocks := B.notSynchronized
  have inX8 : ∀ w ∈ wsX80, w ∈ wsX8_share := by decide +kernel
  have fl23 := hts (.fieldLink RX8 23 "NewsCowModel" "now" "[I") (by decide +kernel)
  have hl := lv_entry ([.ref m_mo, .int x1, .int x2, .int x3] : List Value) (n := 5) (Nat.le_of_ble_eq_true rfl)
  rw [lg_entry_eq]
  generalize (lg_sl ([.ref m_mo, .int x1, .int x2, .int x3] : List Value) ++ List.replicate (5 - (lg_sl ([.ref m_mo, .int x1, .int x2, .int x3] : List Value)).length) Slot.unset).toArray = ls at hl ⊢
  have hl : lv_has ls 5 [(0, .ref m_mo), (1, .int x1), (2, .int x2), (3, .int x3)] := hl
  unfold wp_X8_share at hw
  have J47 : ∀ (k0 : Int32) (ls : Array Slot), wp_X8_share_J47 m_now x2 x3 k0 post → lv_has ls 5 [(0, .ref m_mo), (2, .int x2), (3, .int x3)] → W p l e (headSpec wsX8_share ({ frames := 2, cells := 0, slots := 0, locals := 44 } : Room)).room s m ([.ref m_mo, .int x1, .int x2, .int x3] : List Value).toArray below meth c s.heap [] 0 0 (MQ below (vp_Si post) ([.ref m_mo, .int x1, .int x2, .int x3] : List Value).toArray s 0 0 (fun _ => False)) (F0 m 47 ls [.int k0]) := by
    intro k0 ls hw hl
    unfold wp_X8_share_J47 at hw
    refine lv_istore (lv' := [(4, .int k0), (0, .ref m_mo), (2, .int x2), (3, .int x3)]) hx hb dX8_share_47 hl (by decide) rfl (fun ls hl => ?_)
    refine lv_iload hx hb dX8_share_49 (lv_at hl 0 rfl) ?_
    refine lv_i2l hx hb dX8_share_51 rfl ?_
    refine lv_iload hx hb dX8_share_52 (lv_at hl 0 rfl) ?_
    refine lv_if_ne (tgt := 61) hx hb dX8_share_54 (by decide) (fun c9 => ?_) (fun c9 => ?_)
    · replace hw := hw.1 c9
      refine lv_aload_n hx hb dX8_share_61 rfl (lv_at hl 1 rfl) ?_
      refine va_get (D := D) (ci := 8) (v := .ref m_anow) (C := RX8) (T := TX8) (N := 18) hx hb hts inX8 hown hK hP 0 rfl rfl 7 (by decide) fl23 (fun _ h9 => h9) rfl dX8_share_62 ?_
      refine lv_iload_n hx hb dX8_share_65 rfl (lv_at hl 2 rfl) ?_
      refine vp_callSi (W.runS (As := [.ref m_anow, .int x2]) (rest := [.long (k0.toInt64)]) ⟨hx, hb, hml, hown, hts⟩ (c_X8_milkOf l D G m_anow m_now x2 _ hw) (va_cwS 2 hts gX8_share_X8_milkOf rfl rfl rfl (by decide +kernel) ⟨(Nat.le_of_ble_eq_true rfl), (Nat.le_of_ble_eq_true rfl)⟩) (xR_ps (hP.sub [1] rfl) hK) rfl rfl hl.1 rfl (lv_room (Nat.le_of_ble_eq_true rfl)) dX8_share_66 ⟨Nat.zero_le _, Nat.zero_le _⟩) (fun r5 hw => ?_)
      refine lv_i2l hx hb dX8_share_69 rfl ?_
      refine lv_iload_n hx hb dX8_share_70 rfl (lv_at hl 3 rfl) ?_
      refine vp_callSl (W.runS (As := [.long (k0.toInt64), .long (r5.toInt64), .int x3]) (rest := []) ⟨hx, hb, hml, hown, hts⟩ (c_X8_part l D G (k0.toInt64) (r5.toInt64) x3 _ hw) (va_cwS 3 hts gX8_share_X8_part rfl rfl rfl (by decide +kernel) ⟨(Nat.le_of_ble_eq_true rfl), (Nat.le_of_ble_eq_true rfl)⟩) (xR_ps (hP.sub [] rfl) hK) rfl rfl hl.1 rfl (lv_room (Nat.le_of_ble_eq_true rfl)) dX8_share_71 ⟨Nat.zero_le _, Nat.zero_le _⟩) (fun r6 hw => ?_)
      refine lv_l2i hx hb dX8_share_74 rfl ?_
      exact W.iret hx hb hr (fun t ht _ => ⟨_, rfl, hw, ht⟩) (fun _ h => absurd h List.not_mem_nil) dX8_share_75
    · replace hw := hw.2 c9
      refine lv_lconst (v := 1) hx hb dX8_share_57 (by decide) ?_
      refine lv_goto (tgt := 70) hx hb dX8_share_58 (by decide) ?_
      refine lv_iload_n hx hb dX8_share_70 rfl (lv_at hl 3 rfl) ?_
      refine vp_callSl (W.runS (As := [.long (k0.toInt64), .long (1 : Int64), .int x3]) (rest := []) ⟨hx, hb, hml, hown, hts⟩ (c_X8_part l D G (k0.toInt64) (1 : Int64) x3 _ hw) (va_cwS 3 hts gX8_share_X8_part rfl rfl rfl (by decide +kernel) ⟨(Nat.le_of_ble_eq_true rfl), (Nat.le_of_ble_eq_true rfl)⟩) (xR_ps (hP.sub [] rfl) hK) rfl rfl hl.1 rfl (lv_room (Nat.le_of_ble_eq_true rfl)) dX8_share_71 ⟨Nat.zero_le _, Nat.zero_le _⟩) (fun r7 hw => ?_)
      refine lv_l2i hx hb dX8_share_74 rfl ?_
      exact W.iret hx hb hr (fun t ht _ => ⟨_, rfl, hw, ht⟩) (fun _ h => absurd h List.not_mem_nil) dX8_share_75
  refine lv_aload_n hx hb dX8_share_0 rfl (lv_at hl 0 rfl) ?_
  refine lv_iload_n hx hb dX8_share_1 rfl (lv_at hl 1 rfl) ?_
  refine vp_callSi (W.runV (As := [.int x1]) (rest := []) ⟨hx, hb, hml, hown, hts⟩ (c_X8_isCow l D G m_mo m_alane m_asize m_aitem m_atape m_anow m_atried m_aread m_akept m_anoticed m_aneeds m_aorder m_letters m_position m_number m_isKept m_many m_one m_two m_now x1 _ hw) (cwV 1 hts gX8_share_X8_isCow rfl rfl rfl (by decide +kernel) ⟨(Nat.le_of_ble_eq_true rfl), (Nat.le_of_ble_eq_true rfl)⟩) (xR_pv (hP.sub [0, 1] rfl) hK (va_recv hK hP (ci := 8) (q0 := 0) rfl rfl)) rfl rfl hl.1 rfl (lv_room (Nat.le_of_ble_eq_true rfl)) dX8_share_2 ⟨Nat.zero_le _, Nat.zero_le _⟩) (fun r1 hw => ?_)
  refine lv_if_eq (tgt := 25) hx hb dX8_share_5 (by decide) (fun c9 => ?_) (fun c9 => ?_)
  · replace hw := hw.1 c9
    refine lv_iconst (v := -1) hx hb dX8_share_25 (by decide) ?_
    exact W.iret hx hb hr (fun t ht _ => ⟨_, rfl, hw, ht⟩) (fun _ h => absurd h List.not_mem_nil) dX8_share_26
  · replace hw := hw.2 c9
    refine lv_aload_n hx hb dX8_share_8 rfl (lv_at hl 0 rfl) ?_
    refine lv_iload_n hx hb dX8_share_9 rfl (lv_at hl 2 rfl) ?_
    refine vp_callSi (W.runV (As := [.int x2]) (rest := []) ⟨hx, hb, hml, hown, hts⟩ (c_X8_isMix l D G m_mo m_alane m_asize m_aitem m_atape m_anow m_atried m_aread m_akept m_anoticed m_aneeds m_aorder m_letters m_position m_number m_isKept m_many m_one m_two m_now x2 _ hw) (cwV 1 hts gX8_share_X8_isMix rfl rfl rfl (by decide +kernel) ⟨(Nat.le_of_ble_eq_true rfl), (Nat.le_of_ble_eq_true rfl)⟩) (xR_pv (hP.sub [0, 1] rfl) hK (va_recv hK hP (ci := 8) (q0 := 0) rfl rfl)) rfl rfl hl.1 rfl (lv_room (Nat.le_of_ble_eq_true rfl)) dX8_share_10 ⟨Nat.zero_le _, Nat.zero_le _⟩) (fun r2 hw => ?_)
    refine lv_if_eq (tgt := 25) hx hb dX8_share_13 (by decide) (fun c9 => ?_) (fun c9 => ?_)
    · replace hw := hw.1 c9
      refine lv_iconst (v := -1) hx hb dX8_share_25 (by decide) ?_
      exact W.iret hx hb hr (fun t ht _ => ⟨_, rfl, hw, ht⟩) (fun _ h => absurd h List.not_mem_nil) dX8_share_26
    · replace hw := hw.2 c9
      refine lv_iload_n hx hb dX8_share_16 rfl (lv_at hl 3 rfl) ?_
      refine lv_iconst (v := 0) hx hb dX8_share_17 (by decide) ?_
      refine lv_iconst (v := 1) hx hb dX8_share_18 (by decide) ?_
      refine vp_callSi (W.runS (As := [.int x3, .int (0 : Int32), .int (1 : Int32)]) (rest := []) ⟨hx, hb, hml, hown, hts⟩ (c_X8_in l D G x3 (0 : Int32) (1 : Int32) _ hw) (va_cwS 3 hts gX8_share_X8_in rfl rfl rfl (by decide +kernel) ⟨(Nat.le_of_ble_eq_true rfl), (Nat.le_of_ble_eq_true rfl)⟩) (xR_ps (hP.sub [] rfl) hK) rfl rfl hl.1 rfl (lv_room (Nat.le_of_ble_eq_true rfl)) dX8_share_19 ⟨Nat.zero_le _, Nat.zero_le _⟩) (fun r3 hw => ?_)
      refine lv_if_ne (tgt := 27) hx hb dX8_share_22 (by decide) (fun c9 => ?_) (fun c9 => ?_)
      · replace hw := hw.1 c9
        refine lv_iload_n hx hb dX8_share_27 rfl (lv_at hl 2 rfl) ?_
        refine lv_iload_n hx hb dX8_share_28 rfl (lv_at hl 1 rfl) ?_
        refine vp_callSi (W.runS (As := [.int x2, .int x1]) (rest := []) ⟨hx, hb, hml, hown, hts⟩ (c_X8_has l D G x2 x1 _ hw) (va_cwS 2 hts gX8_share_X8_has rfl rfl rfl (by decide +kernel) ⟨(Nat.le_of_ble_eq_true rfl), (Nat.le_of_ble_eq_true rfl)⟩) (xR_ps (hP.sub [] rfl) hK) rfl rfl hl.1 rfl (lv_room (Nat.le_of_ble_eq_true rfl)) dX8_share_29 ⟨Nat.zero_le _, Nat.zero_le _⟩) (fun r4 hw => ?_)
        refine lv_if_eq (tgt := 46) hx hb dX8_share_32 (by decide) (fun c9 => ?_) (fun c9 => ?_)
        · replace hw := hw.1 c9
          refine lv_iconst (v := 0) hx hb dX8_share_46 (by decide) ?_
          exact J47 (0 : Int32) _ hw (lv_sub hl [0, 2, 3] rfl)
        · replace hw := hw.2 c9
          refine lv_aload_n hx hb dX8_share_35 rfl (lv_at hl 0 rfl) ?_
          refine va_get (D := D) (ci := 8) (v := .ref m_anow) (C := RX8) (T := TX8) (N := 18) hx hb hts inX8 hown hK hP 0 rfl rfl 7 (by decide) fl23 (fun _ h9 => h9) rfl dX8_share_36 ?_
          refine lv_iconst (v := 5) hx hb dX8_share_39 (by decide) ?_
          refine lv_iload_n hx hb dX8_share_40 rfl (lv_at hl 1 rfl) ?_
          refine lv_iadd hx hb dX8_share_41 ?_
          refine x_iald (j := ((5 : Int32) + x1).toNatClampNeg) hx hb hK hP 1 0 rfl rfl rfl hw.1 dX8_share_42 ?_
          replace hw := hw.2
          refine lv_goto (tgt := 47) hx hb dX8_share_43 (by decide) ?_
          exact J47 (m_now ((5 : Int32) + x1).toNatClampNeg) _ hw (lv_sub hl [0, 2, 3] rfl)
      · replace hw := hw.2 c9
        refine lv_iconst (v := -1) hx hb dX8_share_25 (by decide) ?_
        exact W.iret hx hb hr (fun t ht _ => ⟨_, rfl, hw, ht⟩) (fun _ h => absurd h List.not_mem_nil) dX8_share_26
set_option maxHeartbeats 4000000 in
set_option maxRecDepth 100000 in
theorem c_X8_image (l : Launch) (D : va_G) (G : Nat → ClassId) (sz : Nat) (m_mo : Nat) (m_alane : Nat) (m_asize : Nat) (m_aitem : Nat) (m_atape : Nat) (m_anow : Nat) (m_atried : Nat) (m_aread : Nat) (m_akept : Nat) (m_anoticed : Nat) (m_aneeds : Nat) (m_aorder : Nat) (m_letters : Int32) (m_position : Int32) (m_number : Int32) (m_isKept : Int32) (m_many : Int32) (m_one : Int32) (m_two : Int32) (m_now : Nat → Int32) (m_kept : Nat → Int32) (post : Int32 → Int32 → (Nat → Int32) → Prop) (hw : wp_X8_image m_now m_kept post) : Met l yX8_image wsX8_image ({ frames := 1, cells := 0, slots := 0, locals := 25 } : Room) (va_Pc [.ref m_mo] (xM D G sz [(m_mo, .inr (8, [.ref m_alane, .ref m_asize, .ref m_aitem, .int m_letters, .ref m_atape, .int m_position, .int m_number, .ref m_anow, .ref m_atried, .ref m_aread, .ref m_akept, .int m_isKept, .ref m_anoticed, .ref m_aneeds, .ref m_aorder, .int m_many, .int m_one, .int m_two])), (m_anow, .inl (G 0, 55, .inl m_now)), (m_akept, .inl (G 0, 55, .inl m_kept))])) (va_Qi (fun r (u : Int32 × (Nat → Int32)) => post r u.1 u.2) (fun u t => xE D G (va_A [(m_mo, .inr (8, [.ref m_alane, .ref m_asize, .ref m_aitem, .int m_letters, .ref m_atape, .int m_position, .int m_number, .ref m_anow, .ref m_atried, .ref m_aread, .ref m_akept, .int m_isKept, .ref m_anoticed, .ref m_aneeds, .ref m_aorder, .int m_many, .int m_one, .int m_two])), (m_anow, .inl (G 0, 55, .inl m_now)), (m_akept, .inl (G 0, 55, .inl m_kept))] sz) [(m_mo, .inr (8, [.ref m_alane, .ref m_asize, .ref m_aitem, .int m_letters, .ref m_atape, .int m_position, .int m_number, .ref m_anow, .ref m_atried, .ref m_aread, .ref m_akept, .int u.1, .ref m_anoticed, .ref m_aneeds, .ref m_aorder, .int m_many, .int m_one, .int m_two])), (m_anow, .inl (G 0, 55, .inl m_now)), (m_akept, .inl (G 0, 55, .inl (u.2)))] t) (va_A [(m_mo, .inr (8, [.ref m_alane, .ref m_asize, .ref m_aitem, .int m_letters, .ref m_atape, .int m_position, .int m_number, .ref m_anow, .ref m_atried, .ref m_aread, .ref m_akept, .int m_isKept, .ref m_anoticed, .ref m_aneeds, .ref m_aorder, .int m_many, .int m_one, .int m_two])), (m_anow, .inl (G 0, 55, .inl m_now)), (m_akept, .inl (G 0, 55, .inl m_kept))] sz)) 0 0 (va_A [(m_mo, .inr (8, [.ref m_alane, .ref m_asize, .ref m_aitem, .int m_letters, .ref m_atape, .int m_position, .int m_number, .ref m_anow, .ref m_atried, .ref m_aread, .ref m_akept, .int m_isKept, .ref m_anoticed, .ref m_aneeds, .ref m_aorder, .int m_many, .int m_one, .int m_two])), (m_anow, .inl (G 0, 55, .inl m_now)), (m_akept, .inl (G 0, 55, .inl m_kept))] sz) := by
  refine Met.ofW (cc := cX8_image) (maxL := 1) (ret := (some .int)) (by decide) rfl ?_
  intro p e s m args below meth c s₁ B hml hv
  obtain ⟨rfl, hsz, hP, hK, hD0⟩ := hv
  have hx := B.exec
  have hb := B.bytes
  have hr := B.returns
  have hts := atoms_spec (ws := wsX8_image) B.pre
  have hown : s.vm.findClass RX8 = some m.cls := findClass_of_methodNamed B.named
  have hlocks := B.notSynchronized
  subst hsz
  have hD := hD0.self (sz := s.heap.size)
  generalize hAe : va_A [(m_mo, .inr (8, [.ref m_alane, .ref m_asize, .ref m_aitem, .int m_letters, .ref m_atape, .int m_position, .int m_number, .ref m_anow, .ref m_atried, .ref m_aread, .ref m_akept, .int m_isKept, .ref m_anoticed, .ref m_aneeds, .ref m_aorder, .int m_many, .int m_one, .int m_two])), (m_anow, .inl (G 0, 55, .inl m_now)), (m_akept, .inl (G 0, 55, .inl m_kept))] s.heap.size = A at hD ⊢
  have hA : ∀ q : Nat, s.heap.size ≤ q → A q := fun q h => by rw [← hAe]; exact Or.inr h
  have hS : va_S A s.heap s.heap [] := va_S.rf
  have inX8 : ∀ w ∈ wsX80, w ∈ wsX8_image := by decide +kernel
  have fl23 := hts (.fieldLink RX8 23 "NewsCowModel" "now" "[I") (by decide +kernel)
  have fl32 := hts (.fieldLink RX8 32 "NewsCowModel" "kept" "[I") (by decide +kernel)
  have fl172 := hts (.fieldLink RX8 172 "NewsCowModel" "isKept" "Z") (by decide +kernel)
  have hl := lv_entry ([.ref m_mo] : List Value) (n := 1) (Nat.le_of_ble_eq_true rfl)
  rw [lg_entry_eq]
  generalize (lg_sl ([.ref m_mo] : List Value) ++ List.replicate (1 - (lg_sl ([.ref m_mo] : List Value)).length) Slot.unset).toArray = ls at hl ⊢
  have hl : lv_has ls 1 [(0, .ref m_mo)] := hl
  unfold wp_X8_image at hw
  refine lv_aload_n hx hb dX8_image_0 rfl (lv_at hl 0 rfl) ?_
  refine va_get (D := D) (ci := 8) (v := .ref m_anow) (C := RX8) (T := TX8) (N := 18) hx hb hts inX8 hown hK hP 0 rfl rfl 7 (by decide) fl23 (fun _ h9 => h9) rfl dX8_image_1 ?_
  refine lv_iconst (v := 0) hx hb dX8_image_4 (by decide) ?_
  refine lv_aload_n hx hb dX8_image_5 rfl (lv_at hl 0 rfl) ?_
  refine va_get (D := D) (ci := 8) (v := .ref m_akept) (C := RX8) (T := TX8) (N := 18) hx hb hts inX8 hown hK hP 0 rfl rfl 10 (by decide) fl32 (fun _ h9 => h9) rfl dX8_image_6 ?_
  refine lv_iconst (v := 0) hx hb dX8_image_9 (by decide) ?_
  refine lv_bipush (v := 55) hx hb dX8_image_10 (by decide) ?_
  refine x_cMv (wr := [(m_mo, .inr (8, [.ref m_alane, .ref m_asize, .ref m_aitem, .int m_letters, .ref m_atape, .int m_position, .int m_number, .ref m_anow, .ref m_atried, .ref m_aread, .ref m_akept, .int m_isKept, .ref m_anoticed, .ref m_aneeds, .ref m_aorder, .int m_many, .int m_one, .int m_two]))]) (va_runS (As := [.ref m_anow, .int (0 : Int32), .ref m_akept, .int (0 : Int32), .int (55 : Int32)]) (rest := []) ⟨hx, hb, hml, hown, hts⟩ (c_X8_bring l D G _ m_anow m_akept m_now m_kept (0 : Int32) (0 : Int32) (55 : Int32) _ hw) (va_cwS 5 hts gX8_image_X8_bring rfl rfl rfl (by decide +kernel) ⟨(Nat.le_of_ble_eq_true rfl), (Nat.le_of_ble_eq_true rfl)⟩) (xM_ps (hP.sub [1, 2] rfl) hK (hD.sub [1, 2] (by decide) rfl)) rfl rfl hl.1 rfl (lv_room (Nat.le_of_ble_eq_true rfl)) dX8_image_12 ⟨Nat.zero_le _, Nat.zero_le _⟩) hP hD hS hA [1, 2] [0] rfl rfl (by decide) (by decide) [0, 1, 2] (fun u => [(m_mo, .inr (8, [.ref m_alane, .ref m_asize, .ref m_aitem, .int m_letters, .ref m_atape, .int m_position, .int m_number, .ref m_anow, .ref m_atried, .ref m_aread, .ref m_akept, .int m_isKept, .ref m_anoticed, .ref m_aneeds, .ref m_aorder, .int m_many, .int m_one, .int m_two])), (m_anow, .inl (G 0, 55, .inl m_now)), (m_akept, .inl (G 0, 55, .inl u))]) (by decide) (fun u => rfl) (fun u H locs hw hP hD hS => ?_)
  obtain ⟨v2_1, rfl⟩ : ∃ z, z = u := ⟨_, rfl⟩
  try dsimp only at hw
  replace hP : va_P D vwCl [(m_mo, .inr (8, [.ref m_alane, .ref m_asize, .ref m_aitem, .int m_letters, .ref m_atape, .int m_position, .int m_number, .ref m_anow, .ref m_atried, .ref m_aread, .ref m_akept, .int m_isKept, .ref m_anoticed, .ref m_aneeds, .ref m_aorder, .int m_many, .int m_one, .int m_two])), (m_anow, .inl (G 0, 55, .inl m_now)), (m_akept, .inl (G 0, 55, .inl v2_1))] H := hP
  replace hD : va_D A [(m_mo, .inr (8, [.ref m_alane, .ref m_asize, .ref m_aitem, .int m_letters, .ref m_atape, .int m_position, .int m_number, .ref m_anow, .ref m_atried, .ref m_aread, .ref m_akept, .int m_isKept, .ref m_anoticed, .ref m_aneeds, .ref m_aorder, .int m_many, .int m_one, .int m_two])), (m_anow, .inl (G 0, 55, .inl m_now)), (m_akept, .inl (G 0, 55, .inl v2_1))] := hD
  refine lv_aload_n hx hb dX8_image_15 rfl (lv_at hl 0 rfl) ?_
  refine lv_iconst (v := 1) hx hb dX8_image_16 (by decide) ?_
  refine va_put (D := D) (ci := 8) (v := .int (1 : Int32)) (ty := .boolean) (C := RX8) (T := TX8) (N := 18) hx hb hts inX8 tyX8 tyX8_ok nmX8 hown hK hP hD hS 0 rfl rfl 11 (by decide) fl172 (fun _ h9 => h9) rfl (by decide +kernel) rfl rfl (Nat.le_of_ble_eq_true rfl) dX8_image_17 (fun H locs hP hD hS => ?_)
  replace hP : va_P D vwCl [(m_mo, .inr (8, [.ref m_alane, .ref m_asize, .ref m_aitem, .int m_letters, .ref m_atape, .int m_position, .int m_number, .ref m_anow, .ref m_atried, .ref m_aread, .ref m_akept, .int (1 : Int32), .ref m_anoticed, .ref m_aneeds, .ref m_aorder, .int m_many, .int m_one, .int m_two])), (m_anow, .inl (G 0, 55, .inl m_now)), (m_akept, .inl (G 0, 55, .inl v2_1))] H := hP
  replace hD : va_D A [(m_mo, .inr (8, [.ref m_alane, .ref m_asize, .ref m_aitem, .int m_letters, .ref m_atape, .int m_position, .int m_number, .ref m_anow, .ref m_atried, .ref m_aread, .ref m_akept, .int (1 : Int32), .ref m_anoticed, .ref m_aneeds, .ref m_aorder, .int m_many, .int m_one, .int m_two])), (m_anow, .inl (G 0, 55, .inl m_now)), (m_akept, .inl (G 0, 55, .inl v2_1))] := hD
  refine lv_iconst (v := 1) hx hb dX8_image_20 (by decide) ?_
  exact W.iret hx hb hr (x_mi (u := ((1 : Int32), v2_1)) hP hK hD hS hw) hS.2.2 dX8_image_21
set_option maxHeartbeats 4000000 in
set_option maxRecDepth 100000 in
theorem c_X8_restore (l : Launch) (D : va_G) (G : Nat → ClassId) (sz : Nat) (m_mo : Nat) (m_alane : Nat) (m_asize : Nat) (m_aitem : Nat) (m_atape : Nat) (m_anow : Nat) (m_atried : Nat) (m_aread : Nat) (m_akept : Nat) (m_anoticed : Nat) (m_aneeds : Nat) (m_aorder : Nat) (m_letters : Int32) (m_position : Int32) (m_number : Int32) (m_isKept : Int32) (m_many : Int32) (m_one : Int32) (m_two : Int32) (m_now : Nat → Int32) (m_kept : Nat → Int32) (post : Int32 → (Nat → Int32) → Prop) (hw : wp_X8_restore m_isKept m_now m_kept post) : Met l yX8_restore wsX8_restore ({ frames := 1, cells := 0, slots := 0, locals := 25 } : Room) (va_Pc [.ref m_mo] (xM D G sz [(m_mo, .inr (8, [.ref m_alane, .ref m_asize, .ref m_aitem, .int m_letters, .ref m_atape, .int m_position, .int m_number, .ref m_anow, .ref m_atried, .ref m_aread, .ref m_akept, .int m_isKept, .ref m_anoticed, .ref m_aneeds, .ref m_aorder, .int m_many, .int m_one, .int m_two])), (m_anow, .inl (G 0, 55, .inl m_now)), (m_akept, .inl (G 0, 55, .inl m_kept))])) (va_Qi (fun r (u : (Nat → Int32)) => post r u) (fun u t => xE D G (va_A [(m_mo, .inr (8, [.ref m_alane, .ref m_asize, .ref m_aitem, .int m_letters, .ref m_atape, .int m_position, .int m_number, .ref m_anow, .ref m_atried, .ref m_aread, .ref m_akept, .int m_isKept, .ref m_anoticed, .ref m_aneeds, .ref m_aorder, .int m_many, .int m_one, .int m_two])), (m_anow, .inl (G 0, 55, .inl m_now)), (m_akept, .inl (G 0, 55, .inl m_kept))] sz) [(m_mo, .inr (8, [.ref m_alane, .ref m_asize, .ref m_aitem, .int m_letters, .ref m_atape, .int m_position, .int m_number, .ref m_anow, .ref m_atried, .ref m_aread, .ref m_akept, .int m_isKept, .ref m_anoticed, .ref m_aneeds, .ref m_aorder, .int m_many, .int m_one, .int m_two])), (m_anow, .inl (G 0, 55, .inl u)), (m_akept, .inl (G 0, 55, .inl m_kept))] t) (va_A [(m_mo, .inr (8, [.ref m_alane, .ref m_asize, .ref m_aitem, .int m_letters, .ref m_atape, .int m_position, .int m_number, .ref m_anow, .ref m_atried, .ref m_aread, .ref m_akept, .int m_isKept, .ref m_anoticed, .ref m_aneeds, .ref m_aorder, .int m_many, .int m_one, .int m_two])), (m_anow, .inl (G 0, 55, .inl m_now)), (m_akept, .inl (G 0, 55, .inl m_kept))] sz)) 0 0 (va_A [(m_mo, .inr (8, [.ref m_alane, .ref m_asize, .ref m_aitem, .int m_letters, .ref m_atape, .int m_position, .int m_number, .ref m_anow, .ref m_atried, .ref m_aread, .ref m_akept, .int m_isKept, .ref m_anoticed, .ref m_aneeds, .ref m_aorder, .int m_many, .int m_one, .int m_two])), (m_anow, .inl (G 0, 55, .inl m_now)), (m_akept, .inl (G 0, 55, .inl m_kept))] sz) := by
  refine Met.ofW (cc := cX8_restore) (maxL := 1) (ret := (some .int)) (by decide) rfl ?_
  intro p e s m args below meth c s₁ B hml hv
  obtain ⟨rfl, hsz, hP, hK, hD0⟩ := hv
  have hx := B.exec
  have hb := B.bytes
  have hr := B.returns
  have hts := atoms_spec (ws := wsX8_restore) B.pre
  have hown : s.vm.findClass RX8 = some m.cls := findClass_of_methodNamed B.named
  have hlocks := B.notSynchronized
  subst hsz
  have hD := hD0.self (sz := s.heap.size)
  generalize hAe : va_A [(m_mo, .inr (8, [.ref m_alane, .ref m_asize, .ref m_aitem, .int m_letters, .ref m_atape, .int m_position, .int m_number, .ref m_anow, .ref m_atried, .ref m_aread, .ref m_akept, .int m_isKept, .ref m_anoticed, .ref m_aneeds, .ref m_aorder, .int m_many, .int m_one, .int m_two])), (m_anow, .inl (G 0, 55, .inl m_now)), (m_akept, .inl (G 0, 55, .inl m_kept))] s.heap.size = A at hD ⊢
  have hA : ∀ q : Nat, s.heap.size ≤ q → A q := fun q h => by rw [← hAe]; exact Or.inr h
  have hS : va_S A s.heap s.heap [] := va_S.rf
  have inX8 : ∀ w ∈ wsX80, w ∈ wsX8_restore := by decide +kernel
  have fl172 := hts (.fieldLink RX8 172 "NewsCowModel" "isKept" "Z") (by decide +kernel)
  have fl32 := hts (.fieldLink RX8 32 "NewsCowModel" "kept" "[I") (by decide +kernel)
  have fl23 := hts (.fieldLink RX8 23 "NewsCowModel" "now" "[I") (by decide +kernel)
  have hl := lv_entry ([.ref m_mo] : List Value) (n := 1) (Nat.le_of_ble_eq_true rfl)
  rw [lg_entry_eq]
  generalize (lg_sl ([.ref m_mo] : List Value) ++ List.replicate (1 - (lg_sl ([.ref m_mo] : List Value)).length) Slot.unset).toArray = ls at hl ⊢
  have hl : lv_has ls 1 [(0, .ref m_mo)] := hl
  unfold wp_X8_restore at hw
  refine lv_aload_n hx hb dX8_restore_0 rfl (lv_at hl 0 rfl) ?_
  refine va_get (D := D) (ci := 8) (v := .int m_isKept) (C := RX8) (T := TX8) (N := 18) hx hb hts inX8 hown hK hP 0 rfl rfl 11 (by decide) fl172 (fun _ h9 => h9) rfl dX8_restore_1 ?_
  refine lv_if_ne (tgt := 10) hx hb dX8_restore_4 (by decide) (fun c9 => ?_) (fun c9 => ?_)
  · replace hw := hw.1 c9
    refine lv_aload_n hx hb dX8_restore_10 rfl (lv_at hl 0 rfl) ?_
    refine va_get (D := D) (ci := 8) (v := .ref m_akept) (C := RX8) (T := TX8) (N := 18) hx hb hts inX8 hown hK hP 0 rfl rfl 10 (by decide) fl32 (fun _ h9 => h9) rfl dX8_restore_11 ?_
    refine lv_iconst (v := 0) hx hb dX8_restore_14 (by decide) ?_
    refine lv_aload_n hx hb dX8_restore_15 rfl (lv_at hl 0 rfl) ?_
    refine va_get (D := D) (ci := 8) (v := .ref m_anow) (C := RX8) (T := TX8) (N := 18) hx hb hts inX8 hown hK hP 0 rfl rfl 7 (by decide) fl23 (fun _ h9 => h9) rfl dX8_restore_16 ?_
    refine lv_iconst (v := 0) hx hb dX8_restore_19 (by decide) ?_
    refine lv_bipush (v := 55) hx hb dX8_restore_20 (by decide) ?_
    refine x_cMv (wr := [(m_mo, .inr (8, [.ref m_alane, .ref m_asize, .ref m_aitem, .int m_letters, .ref m_atape, .int m_position, .int m_number, .ref m_anow, .ref m_atried, .ref m_aread, .ref m_akept, .int m_isKept, .ref m_anoticed, .ref m_aneeds, .ref m_aorder, .int m_many, .int m_one, .int m_two]))]) (va_runS (As := [.ref m_akept, .int (0 : Int32), .ref m_anow, .int (0 : Int32), .int (55 : Int32)]) (rest := []) ⟨hx, hb, hml, hown, hts⟩ (c_X8_bring l D G _ m_akept m_anow m_kept m_now (0 : Int32) (0 : Int32) (55 : Int32) _ hw) (va_cwS 5 hts gX8_restore_X8_bring rfl rfl rfl (by decide +kernel) ⟨(Nat.le_of_ble_eq_true rfl), (Nat.le_of_ble_eq_true rfl)⟩) (xM_ps (hP.sub [2, 1] rfl) hK (hD.sub [2, 1] (by decide) rfl)) rfl rfl hl.1 rfl (lv_room (Nat.le_of_ble_eq_true rfl)) dX8_restore_22 ⟨Nat.zero_le _, Nat.zero_le _⟩) hP hD hS hA [2, 1] [0] rfl rfl (by decide) (by decide) [0, 2, 1] (fun u => [(m_mo, .inr (8, [.ref m_alane, .ref m_asize, .ref m_aitem, .int m_letters, .ref m_atape, .int m_position, .int m_number, .ref m_anow, .ref m_atried, .ref m_aread, .ref m_akept, .int m_isKept, .ref m_anoticed, .ref m_aneeds, .ref m_aorder, .int m_many, .int m_one, .int m_two])), (m_anow, .inl (G 0, 55, .inl u)), (m_akept, .inl (G 0, 55, .inl m_kept))]) (by decide) (fun u => rfl) (fun u H locs hw hP hD hS => ?_)
    obtain ⟨v2_1, rfl⟩ : ∃ z, z = u := ⟨_, rfl⟩
    try dsimp only at hw
    replace hP : va_P D vwCl [(m_mo, .inr (8, [.ref m_alane, .ref m_asize, .ref m_aitem, .int m_letters, .ref m_atape, .int m_position, .int m_number, .ref m_anow, .ref m_atried, .ref m_aread, .ref m_akept, .int m_isKept, .ref m_anoticed, .ref m_aneeds, .ref m_aorder, .int m_many, .int m_one, .int m_two])), (m_anow, .inl (G 0, 55, .inl v2_1)), (m_akept, .inl (G 0, 55, .inl m_kept))] H := hP
    replace hD : va_D A [(m_mo, .inr (8, [.ref m_alane, .ref m_asize, .ref m_aitem, .int m_letters, .ref m_atape, .int m_position, .int m_number, .ref m_anow, .ref m_atried, .ref m_aread, .ref m_akept, .int m_isKept, .ref m_anoticed, .ref m_aneeds, .ref m_aorder, .int m_many, .int m_one, .int m_two])), (m_anow, .inl (G 0, 55, .inl v2_1)), (m_akept, .inl (G 0, 55, .inl m_kept))] := hD
    refine lv_iconst (v := 1) hx hb dX8_restore_25 (by decide) ?_
    exact W.iret hx hb hr (x_mi (u := v2_1) hP hK hD hS hw) hS.2.2 dX8_restore_26
  · replace hw := hw.2 c9
    refine lv_bipush (v := -4) hx hb dX8_restore_7 (by decide) ?_
    exact W.iret hx hb hr (x_mi (u := m_now) hP hK hD hS hw) hS.2.2 dX8_restore_9
set_option maxHeartbeats 4000000 in
set_option maxRecDepth 100000 in
theorem c_X8_isSheet (l : Launch) (D : va_G) (G : Nat → ClassId) (x0 : Int32) (post : Int32 → Prop) (hw : wp_X8_isSheet x0 post) : Met l yX8_isSheet wsX8_isSheet ({ frames := 1, cells := 0, slots := 0, locals := 22 } : Room) (va_Pc [.int x0] (xR D G [])) (vp_Si post) 0 0 (fun _ => False) := by
  refine Met.ofW (cc := cX8_isSheet) (maxL := 1) (ret := (some .boolean)) (by decide) rfl ?_
  intro p e s m args below meth c s₁ B hml hv
  obtain ⟨rfl, hP, hK⟩ := hv
  have hx := B.exec
  have hb := B.bytes
  have hr := B.returns
  have hts := atoms_spec (ws := wsX8_isSheet) B.pre
  have hown : s.vm.findClass RX8 = some m.cls := findClass_of_methodNamed B.named
  have hlocks := B.notSynchronized
  have hl := lv_entry ([.int x0] : List Value) (n := 1) (Nat.le_of_ble_eq_true rfl)
  rw [lg_entry_eq]
  generalize (lg_sl ([.int x0] : List Value) ++ List.replicate (1 - (lg_sl ([.int x0] : List Value)).length) Slot.unset).toArray = ls at hl ⊢
  have hl : lv_has ls 1 [(0, .int x0)] := hl
  unfold wp_X8_isSheet at hw
  refine lv_iload_n hx hb dX8_isSheet_0 rfl (lv_at hl 0 rfl) ?_
  refine lv_iconst (v := 0) hx hb dX8_isSheet_1 (by decide) ?_
  refine lv_iconst (v := 3) hx hb dX8_isSheet_2 (by decide) ?_
  refine vp_callSi (W.runS (As := [.int x0, .int (0 : Int32), .int (3 : Int32)]) (rest := []) ⟨hx, hb, hml, hown, hts⟩ (c_X8_in l D G x0 (0 : Int32) (3 : Int32) _ hw) (va_cwS 3 hts gX8_isSheet_X8_in rfl rfl rfl (by decide +kernel) ⟨(Nat.le_of_ble_eq_true rfl), (Nat.le_of_ble_eq_true rfl)⟩) (xR_ps (hP.sub [] rfl) hK) rfl rfl hl.1 rfl (lv_room (Nat.le_of_ble_eq_true rfl)) dX8_isSheet_3 ⟨Nat.zero_le _, Nat.zero_le _⟩) (fun r1 hw => ?_)
  exact W.zret hx hb hr hw.1 (fun t ht _ => ⟨_, rfl, hw.2, ht⟩) (fun _ h => absurd h List.not_mem_nil) dX8_isSheet_6
