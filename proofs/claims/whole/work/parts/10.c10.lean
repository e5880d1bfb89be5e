set_option maxHeartbeats 4000000 in
set_option maxRecDepth 100000 in
theorem c_X8_isPart (l : Launch) (D : va_G) (G : Nat → ClassId) (x0 : Int32) (x1 : Int32) (x2 : Int32) (post : Int32 → Prop) (hw : wp_X8_isPart x0 x1 x2 post) : Met l yX8_isPart wsX8_isPart ({ frames := 0, cells := 0, slots := 0, locals := 0 } : Room) (va_Pc [.int x0, .int x1, .int x2] (xR D G [])) (vp_Si post) 0 0 (fun _ => False) := by
  refine Met.ofW (cc := cX8_isPart) (maxL := 3) (ret := (some .boolean)) (by decide) rfl ?_
  intro p e s m args below meth c s₁ B hml hv
  obtain ⟨rfl, hP, hK⟩ := hv
  have hx := B.exec
  have hb := B.bytes
  have hr := B.returns
  have hts := atoms_spec (ws := wsX8_isPart) B.pre
  have hown : s.vm.findClass RX8 = some m.cls := findClass_of_methodNamed B.named
  have hlocks := B.notSynchronized
  have hl := lv_entry ([.int x0, .int x1, .int x2] : List Value) (n := 3) (Nat.le_of_ble_eq_true rfl)
  rw [lg_entry_eq]
  generalize (lg_sl ([.int x0, .int x1, .int x2] : List Value) ++ List.replicate (3 - (lg_sl ([.int x0, .int x1, .int x2] : List Value)).length) Slot.unset).toArray = ls at hl ⊢
  have hl : lv_has ls 3 [(0, .int x0), (1, .int x1), (2, .int x2)] := hl
  unfold wp_X8_isPart at hw
  refine lv_iload_n hx hb dX8_isPart_0 rfl (lv_at hl 1 rfl) ?_
  refine lv_if_lt (tgt := 24) hx hb dX8_isPart_1 (by decide) (fun c9 => ?_) (fun c9 => ?_)
  · replace hw := hw.1 c9
    refine lv_iconst (v := 0) hx hb dX8_isPart_24 (by decide) ?_
    exact W.zret hx hb hr rfl (fun t ht _ => ⟨_, rfl, hw, ht⟩) (fun _ h => absurd h List.not_mem_nil) dX8_isPart_25
  · replace hw := hw.2 c9
    refine lv_iload_n hx hb dX8_isPart_4 rfl (lv_at hl 0 rfl) ?_
    refine lv_if_lt (tgt := 24) hx hb dX8_isPart_5 (by decide) (fun c9 => ?_) (fun c9 => ?_)
    · replace hw := hw.1 c9
      refine lv_iconst (v := 0) hx hb dX8_isPart_24 (by decide) ?_
      exact W.zret hx hb hr rfl (fun t ht _ => ⟨_, rfl, hw, ht⟩) (fun _ h => absurd h List.not_mem_nil) dX8_isPart_25
    · replace hw := hw.2 c9
      refine lv_iload_n hx hb dX8_isPart_8 rfl (lv_at hl 1 rfl) ?_
      refine lv_iload_n hx hb dX8_isPart_9 rfl (lv_at hl 2 rfl) ?_
      refine lv_icmp_gt (tgt := 24) hx hb dX8_isPart_10 (by decide) (fun c9 => ?_) (fun c9 => ?_)
      · replace hw := hw.1 c9
        refine lv_iconst (v := 0) hx hb dX8_isPart_24 (by decide) ?_
        exact W.zret hx hb hr rfl (fun t ht _ => ⟨_, rfl, hw, ht⟩) (fun _ h => absurd h List.not_mem_nil) dX8_isPart_25
      · replace hw := hw.2 c9
        refine lv_iload_n hx hb dX8_isPart_13 rfl (lv_at hl 0 rfl) ?_
        refine lv_iload_n hx hb dX8_isPart_14 rfl (lv_at hl 2 rfl) ?_
        refine lv_iload_n hx hb dX8_isPart_15 rfl (lv_at hl 1 rfl) ?_
        refine lv_isub hx hb dX8_isPart_16 ?_
        refine lv_icmp_gt (tgt := 24) hx hb dX8_isPart_17 (by decide) (fun c9 => ?_) (fun c9 => ?_)
        · replace hw := hw.1 c9
          refine lv_iconst (v := 0) hx hb dX8_isPart_24 (by decide) ?_
          exact W.zret hx hb hr rfl (fun t ht _ => ⟨_, rfl, hw, ht⟩) (fun _ h => absurd h List.not_mem_nil) dX8_isPart_25
        · replace hw := hw.2 c9
          refine lv_iconst (v := 1) hx hb dX8_isPart_20 (by decide) ?_
          refine lv_goto (tgt := 25) hx hb dX8_isPart_21 (by decide) ?_
          exact W.zret hx hb hr rfl (fun t ht _ => ⟨_, rfl, hw, ht⟩) (fun _ h => absurd h List.not_mem_nil) dX8_isPart_25
set_option maxHeartbeats 4000000 in
set_option maxRecDepth 100000 in
theorem c_X8_wrong (l : Launch) (D : va_G) (G : Nat → ClassId) (m_mo : Nat) (m_alane : Nat) (m_asize : Nat) (m_aitem : Nat) (m_atape : Nat) (m_anow : Nat) (m_atried : Nat) (m_aread : Nat) (m_akept : Nat) (m_anoticed : Nat) (m_aneeds : Nat) (m_aorder : Nat) (m_letters : Int32) (m_position : Int32) (m_number : Int32) (m_isKept : Int32) (m_many : Int32) (m_one : Int32) (m_two : Int32) (m_lane : Nat → Int32) (m_size : Nat → Int32) (x1 : Int32) (x2 : Int32) (x3 : Int32) (x4 : Int32) (post : Int32 → Prop) (hw : wp_X8_wrong m_lane m_size x1 x2 x3 x4 post) : Met l yX8_wrong wsX8_wrong ({ frames := 1, cells := 0, slots := 0, locals := 22 } : Room) (va_Pc [.ref m_mo, .int x1, .int x2, .int x3, .int x4] (xR D G [(m_mo, .inr (8, [.ref m_alane, .ref m_asize, .ref m_aitem, .int m_letters, .ref m_atape, .int m_position, .int m_number, .ref m_anow, .ref m_atried, .ref m_aread, .ref m_akept, .int m_isKept, .ref m_anoticed, .ref m_aneeds, .ref m_aorder, .int m_many, .int m_one, .int m_two])), (m_alane, .inl (G 0, 4, .inl m_lane)), (m_asize, .inl (G 0, 4, .inl m_size))])) (vp_Si post) 0 0 (fun _ => False) := by
  refine Met.ofW (cc := cX8_wrong) (maxL := 5) (ret := (some .int)) (by decide) rfl ?_
  intro p e s m args below meth c s₁ B hml hv
  obtain ⟨rfl, hP, hK⟩ := hv
  have hx := B.exec
  have hb := B.bytes
  have hr := B.returns
  have hts := atoms_spec (ws := wsX8_wrong) B.pre
  have hown : s.vm.findClass RX8 = some m.cls := findClass_of_methodNamed B.named
  have hlocks := B.notSynchronized
  have inX8 : ∀ w ∈ wsX80, w ∈ wsX8_wrong := by decide +kernel
  have fl7 := hts (.fieldLink RX8 7 "NewsCowModel" "lane" "[I") (by decide +kernel)
  have fl13 := hts (.fieldLink RX8 13 "NewsCowModel" "size" "[I") (by decide +kernel)
  have hl := lv_entry ([.ref m_mo, .int x1, .int x2, .int x3, .int x4] : List Value) (n := 5) (Nat.le_of_ble_eq_true rfl)
  rw [lg_entry_eq]
  generalize (lg_sl ([.ref m_mo, .int x1, .int x2, .int x3, .int x4] : List Value) ++ List.replicate (5 - (lg_sl ([.ref m_mo, .int x1, .int x2, .int x3, .int x4] : List Value)).length) Slot.unset).toArray = ls at hl ⊢
  have hl : lv_has ls 5 [(0, .ref m_mo), (1, .int x1), (2, .int x2), (3, .int x3), (4, .int x4)] := hl
  unfold wp_X8_wrong at hw
  refine lv_aload_n hx hb dX8_wrong_0 rfl (lv_at hl 0 rfl) ?_
  refine va_get (D := D) (ci := 8) (v := .ref m_alane) (C := RX8) (T := TX8) (N := 18) hx hb hts inX8 hown hK hP 0 rfl rfl 0 (by decide) fl7 (fun _ h9 => h9) rfl dX8_wrong_1 ?_
  refine lv_iload_n hx hb dX8_wrong_4 rfl (lv_at hl 1 rfl) ?_
  refine x_iald (j := x1.toNatClampNeg) hx hb hK hP 1 0 rfl rfl rfl hw.1 dX8_wrong_5 ?_
  replace hw := hw.2
  refine lv_if_ge (tgt := 14) hx hb dX8_wrong_6 (by decide) (fun c9 => ?_) (fun c9 => ?_)
  · replace hw := hw.1 c9
    refine lv_aload_n hx hb dX8_wrong_14 rfl (lv_at hl 0 rfl) ?_
    refine va_get (D := D) (ci := 8) (v := .ref m_alane) (C := RX8) (T := TX8) (N := 18) hx hb hts inX8 hown hK hP 0 rfl rfl 0 (by decide) fl7 (fun _ h9 => h9) rfl dX8_wrong_15 ?_
    refine lv_iload_n hx hb dX8_wrong_18 rfl (lv_at hl 1 rfl) ?_
    refine x_iald (j := x1.toNatClampNeg) hx hb hK hP 1 0 rfl rfl rfl hw.1 dX8_wrong_19 ?_
    replace hw := hw.2
    refine lv_iload_n hx hb dX8_wrong_20 rfl (lv_at hl 2 rfl) ?_
    refine lv_icmp_eq (tgt := 29) hx hb dX8_wrong_21 (by decide) (fun c9 => ?_) (fun c9 => ?_)
    · replace hw := hw.1 c9
      refine lv_iload_n hx hb dX8_wrong_29 rfl (lv_at hl 3 rfl) ?_
      refine lv_iload hx hb dX8_wrong_30 (lv_at hl 4 rfl) ?_
      refine lv_aload_n hx hb dX8_wrong_32 rfl (lv_at hl 0 rfl) ?_
      refine va_get (D := D) (ci := 8) (v := .ref m_asize) (C := RX8) (T := TX8) (N := 18) hx hb hts inX8 hown hK hP 0 rfl rfl 1 (by decide) fl13 (fun _ h9 => h9) rfl dX8_wrong_33 ?_
      refine lv_iload_n hx hb dX8_wrong_36 rfl (lv_at hl 1 rfl) ?_
      refine x_iald (j := x1.toNatClampNeg) hx hb hK hP 2 0 rfl rfl rfl hw.1 dX8_wrong_37 ?_
      replace hw := hw.2
      refine vp_callSi (W.runS (As := [.int x3, .int x4, .int (m_size x1.toNatClampNeg)]) (rest := []) ⟨hx, hb, hml, hown, hts⟩ (c_X8_isPart l D G x3 x4 (m_size x1.toNatClampNeg) _ hw) (va_cwS 3 hts gX8_wrong_X8_isPart rfl rfl rfl (by decide +kernel) ⟨(Nat.le_of_ble_eq_true rfl), (Nat.le_of_ble_eq_true rfl)⟩) (xR_ps (hP.sub [] rfl) hK) rfl rfl hl.1 rfl (lv_room (Nat.le_of_ble_eq_true rfl)) dX8_wrong_38 ⟨Nat.zero_le _, Nat.zero_le _⟩) (fun r1 hw => ?_)
      refine lv_if_eq (tgt := 48) hx hb dX8_wrong_41 (by decide) (fun c9 => ?_) (fun c9 => ?_)
      · replace hw := hw.1 c9
        refine lv_bipush (v := -13) hx hb dX8_wrong_48 (by decide) ?_
        exact W.iret hx hb hr (fun t ht _ => ⟨_, rfl, hw, ht⟩) (fun _ h => absurd h List.not_mem_nil) dX8_wrong_50
      · replace hw := hw.2 c9
        refine lv_iconst (v := 0) hx hb dX8_wrong_44 (by decide) ?_
        refine lv_goto (tgt := 50) hx hb dX8_wrong_45 (by decide) ?_
        exact W.iret hx hb hr (fun t ht _ => ⟨_, rfl, hw, ht⟩) (fun _ h => absurd h List.not_mem_nil) dX8_wrong_50
    · replace hw := hw.2 c9
      refine lv_bipush (v := -12) hx hb dX8_wrong_24 (by decide) ?_
      refine lv_goto (tgt := 50) hx hb dX8_wrong_26 (by decide) ?_
      exact W.iret hx hb hr (fun t ht _ => ⟨_, rfl, hw, ht⟩) (fun _ h => absurd h List.not_mem_nil) dX8_wrong_50
  · replace hw := hw.2 c9
    refine lv_bipush (v := -11) hx hb dX8_wrong_9 (by decide) ?_
    refine lv_goto (tgt := 50) hx hb dX8_wrong_11 (by decide) ?_
    exact W.iret hx hb hr (fun t ht _ => ⟨_, rfl, hw, ht⟩) (fun _ h => absurd h List.not_mem_nil) dX8_wrong_50
set_option maxHeartbeats 4000000 in
set_option maxRecDepth 100000 in
theorem c_X8_wrongPairs (l : Launch) (D : va_G) (G : Nat → ClassId) (m_mo : Nat) (m_alane : Nat) (m_asize : Nat) (m_aitem : Nat) (m_atape : Nat) (m_anow : Nat) (m_atried : Nat) (m_aread : Nat) (m_akept : Nat) (m_anoticed : Nat) (m_aneeds : Nat) (m_aorder : Nat) (m_letters : Int32) (m_position : Int32) (m_number : Int32) (m_isKept : Int32) (m_many : Int32) (m_one : Int32) (m_two : Int32) (m_lane : Nat → Int32) (m_size : Nat → Int32) (m_item : Nat → Int64) (m_now : Nat → Int32) (x1 : Int32) (x2 : Int32) (x3 : Int32) (x4 : Int32) (post : Int32 → Prop) (hw : wp_X8_wrongPairs m_lane m_size m_item m_now x1 x2 x3 x4 post) : Met l yX8_wrongPairs wsX8_wrongPairs ({ frames := 2, cells := 0, slots := 0, locals := 46 } : Room) (va_Pc [.ref m_mo, .int x1, .int x2, .int x3, .int x4] (xR D G [(m_mo, .inr (8, [.ref m_alane, .ref m_asize, .ref m_aitem, .int m_letters, .ref m_atape, .int m_position, .int m_number, .ref m_anow, .ref m_atried, .ref m_aread, .ref m_akept, .int m_isKept, .ref m_anoticed, .ref m_aneeds, .ref m_aorder, .int m_many, .int m_one, .int m_two])), (m_alane, .inl (G 0, 4, .inl m_lane)), (m_asize, .inl (G 0, 4, .inl m_size)), (m_aitem, .inl (G 1, 96, .inr (.inl m_item))), (m_anow, .inl (G 0, 55, .inl m_now))])) (vp_Si post) 0 0 (fun _ => False) := by
  refine Met.ofW (cc := cX8_wrongPairs) (maxL := 12) (ret := (some .int)) (by decide) rfl ?_
  intro p e s m args below meth c s₁ B hml hv
  obtain ⟨rfl, hP, hK⟩ := hv
  have hx := B.exec
  have hb := B.bytes
  have hr := B.returns
  have hts := atoms_spec (ws := wsX8_wrongPairs) B.pre
  have hown : s.vm.findClass RX8 = some m.cls := findClass_of_methodNamed B.named
  have hlocks := B.notSynchronized
  have inX8 : ∀ w ∈ wsX80, w ∈ wsX8_wrongPairs := by decide +kernel
  have fl16 := hts (.fieldLink RX8 16 "NewsCowModel" "item" "[J") (by decide +kernel)
  have fl23 := hts (.fieldLink RX8 23 "NewsCowModel" "now" "[I") (by decide +kernel)
  have hl := lv_entry ([.ref m_mo, .int x1, .int x2, .int x3, .int x4] : List Value) (n := 12) (Nat.le_of_ble_eq_true rfl)
  rw [lg_entry_eq]
  generalize (lg_sl ([.ref m_mo, .int x1, .int x2, .int x3, .int x4] : List Value) ++ List.replicate (12 - (lg_sl ([.ref m_mo, .int x1, .int x2, .int x3, .int x4] : List Value)).length) Slot.unset).toArray = ls at hl ⊢
  have hl : lv_has ls 12 [(0, .ref m_mo), (1, .int x1), (2, .int x2), (3, .int x3), (4, .int x4)] := hl
  unfold wp_X8_wrongPairs at hw
  have J122 : ∀ (x5 : Int32) (x6 : Int32) (ls : Array Slot), wp_X8_wrongPairs_J122 x5 x6 post → lv_has ls 12 [(5, .int x5), (6, .int x6)] → W p l e (headSpec wsX8_wrongPairs ({ frames := 2, cells := 0, slots := 0, locals := 46 } : Room)).room s m ([.ref m_mo, .int x1, .int x2, .int x3, .int x4] : List Value).toArray below meth c s.heap [] 0 0 (MQ below (vp_Si post) ([.ref m_mo, .int x1, .int x2, .int x3, .int x4] : List Value).toArray s 0 0 (fun _ => False)) (F0 m 122 ls []) := by
    intro x5 x6 ls hw hl
    unfold wp_X8_wrongPairs_J122 at hw
    refine lv_iload hx hb dX8_wrongPairs_122 (lv_at hl 0 rfl) ?_
    refine lv_if_eq (tgt := 132) hx hb dX8_wrongPairs_124 (by decide) (fun c9 => ?_) (fun c9 => ?_)
    · replace hw := hw.1 c9
      refine lv_iload hx hb dX8_wrongPairs_132 (lv_at hl 1 rfl) ?_
      refine lv_if_eq (tgt := 141) hx hb dX8_wrongPairs_134 (by decide) (fun c9 => ?_) (fun c9 => ?_)
      · replace hw := hw.1 c9
        refine lv_bipush (v := -2) hx hb dX8_wrongPairs_141 (by decide) ?_
        exact W.iret hx hb hr (fun t ht _ => ⟨_, rfl, hw, ht⟩) (fun _ h => absurd h List.not_mem_nil) dX8_wrongPairs_143
      · replace hw := hw.2 c9
        refine lv_iconst (v := 0) hx hb dX8_wrongPairs_137 (by decide) ?_
        refine lv_goto (tgt := 143) hx hb dX8_wrongPairs_138 (by decide) ?_
        exact W.iret hx hb hr (fun t ht _ => ⟨_, rfl, hw, ht⟩) (fun _ h => absurd h List.not_mem_nil) dX8_wrongPairs_143
    · replace hw := hw.2 c9
      refine lv_iload hx hb dX8_wrongPairs_127 (lv_at hl 0 rfl) ?_
      refine lv_goto (tgt := 143) hx hb dX8_wrongPairs_129 (by decide) ?_
      exact W.iret hx hb hr (fun t ht _ => ⟨_, rfl, hw, ht⟩) (fun _ h => absurd h List.not_mem_nil) dX8_wrongPairs_143
  have L19 : ∀ (f19 : Nat) (x5 : Int32) (x6 : Int32) (x7 : Int32) (ls : Array Slot), wp_X8_wrongPairs_L19 m_item m_now x1 x3 x4 x5 post f19 x6 x7 → lv_has ls 12 [(0, .ref m_mo), (1, .int x1), (3, .int x3), (4, .int x4), (5, .int x5), (6, .int x6), (7, .int x7)] → W p l e (headSpec wsX8_wrongPairs ({ frames := 2, cells := 0, slots := 0, locals := 46 } : Room)).room s m ([.ref m_mo, .int x1, .int x2, .int x3, .int x4] : List Value).toArray below meth c s.heap [] 0 0 (MQ below (vp_Si post) ([.ref m_mo, .int x1, .int x2, .int x3, .int x4] : List Value).toArray s 0 0 (fun _ => False)) (F0 m 19 ls []) := by
    intro f19
    induction f19 with
    | zero => intro x5 x6 x7 ls hw hl; exact (hw : False).elim
    | succ f19 ih19 =>
      intro x5 x6 x7 ls hw hl
      unfold wp_X8_wrongPairs_L19 at hw
      refine lv_iload hx hb dX8_wrongPairs_19 (lv_at hl 6 rfl) ?_
      refine lv_iload hx hb dX8_wrongPairs_21 (lv_at hl 3 rfl) ?_
      refine lv_icmp_ge (tgt := 122) hx hb dX8_wrongPairs_23 (by decide) (fun c9 => ?_) (fun c9 => ?_)
      · replace hw := hw.1 c9
        exact J122 x5 x6 _ hw (lv_sub hl [4, 5] rfl)
      · replace hw := hw.2 c9
        refine lv_iload hx hb dX8_wrongPairs_26 (lv_at hl 4 rfl) ?_
        refine lv_if_ne (tgt := 122) hx hb dX8_wrongPairs_28 (by decide) (fun c9 => ?_) (fun c9 => ?_)
        · replace hw := hw.1 c9
          exact J122 x5 x6 _ hw (lv_sub hl [4, 5] rfl)
        · replace hw := hw.2 c9
          refine lv_aload_n hx hb dX8_wrongPairs_31 rfl (lv_at hl 0 rfl) ?_
          refine va_get (D := D) (ci := 8) (v := .ref m_aitem) (C := RX8) (T := TX8) (N := 18) hx hb hts inX8 hown hK hP 0 rfl rfl 2 (by decide) fl16 (fun _ h9 => h9) rfl dX8_wrongPairs_32 ?_
          refine lv_bipush (v := 24) hx hb dX8_wrongPairs_35 (by decide) ?_
          refine lv_iload_n hx hb dX8_wrongPairs_37 rfl (lv_at hl 1 rfl) ?_
          refine lv_imul hx hb dX8_wrongPairs_38 ?_
          refine lv_iload_n hx hb dX8_wrongPairs_39 rfl (lv_at hl 2 rfl) ?_
          refine lv_iadd hx hb dX8_wrongPairs_40 ?_
          refine lv_iconst (v := 2) hx hb dX8_wrongPairs_41 (by decide) ?_
          refine lv_iload hx hb dX8_wrongPairs_42 (lv_at hl 6 rfl) ?_
          refine lv_imul hx hb dX8_wrongPairs_44 ?_
          refine lv_iadd hx hb dX8_wrongPairs_45 ?_
          refine x_lald (j := ((((24 : Int32) * x1) + x3) + ((2 : Int32) * x7)).toNatClampNeg) hx hb hK hP 3 1 rfl rfl rfl hw.1 dX8_wrongPairs_46 ?_
          replace hw := hw.2
          refine lv_lstore (lv' := [(8, .long (m_item ((((24 : Int32) * x1) + x3) + ((2 : Int32) * x7)).toNatClampNeg)), (0, .ref m_mo), (1, .int x1), (3, .int x3), (4, .int x4), (5, .int x5), (6, .int x6), (7, .int x7)]) hx hb dX8_wrongPairs_47 hl (by decide) rfl (fun ls hl => ?_)
          refine lv_aload_n hx hb dX8_wrongPairs_49 rfl (lv_at hl 1 rfl) ?_
          refine va_get (D := D) (ci := 8) (v := .ref m_aitem) (C := RX8) (T := TX8) (N := 18) hx hb hts inX8 hown hK hP 0 rfl rfl 2 (by decide) fl16 (fun _ h9 => h9) rfl dX8_wrongPairs_50 ?_
          refine lv_bipush (v := 24) hx hb dX8_wrongPairs_53 (by decide) ?_
          refine lv_iload_n hx hb dX8_wrongPairs_55 rfl (lv_at hl 2 rfl) ?_
          refine lv_imul hx hb dX8_wrongPairs_56 ?_
          refine lv_iload_n hx hb dX8_wrongPairs_57 rfl (lv_at hl 3 rfl) ?_
          refine lv_iadd hx hb dX8_wrongPairs_58 ?_
          refine lv_iconst (v := 2) hx hb dX8_wrongPairs_59 (by decide) ?_
          refine lv_iload hx hb dX8_wrongPairs_60 (lv_at hl 7 rfl) ?_
          refine lv_imul hx hb dX8_wrongPairs_62 ?_
          refine lv_iadd hx hb dX8_wrongPairs_63 ?_
          refine lv_iconst (v := 1) hx hb dX8_wrongPairs_64 (by decide) ?_
          refine lv_iadd hx hb dX8_wrongPairs_65 ?_
          refine x_lald (j := (((((24 : Int32) * x1) + x3) + ((2 : Int32) * x7)) + (1 : Int32)).toNatClampNeg) hx hb hK hP 3 1 rfl rfl rfl hw.1 dX8_wrongPairs_66 ?_
          replace hw := hw.2
          refine lv_lstore (lv' := [(10, .long (m_item (((((24 : Int32) * x1) + x3) + ((2 : Int32) * x7)) + (1 : Int32)).toNatClampNeg)), (8, .long (m_item ((((24 : Int32) * x1) + x3) + ((2 : Int32) * x7)).toNatClampNeg)), (0, .ref m_mo), (1, .int x1), (3, .int x3), (4, .int x4), (5, .int x5), (6, .int x6), (7, .int x7)]) hx hb dX8_wrongPairs_67 hl (by decide) rfl (fun ls hl => ?_)
          refine lv_iload hx hb dX8_wrongPairs_69 (lv_at hl 7 rfl) ?_
          refine lv_if_eq (tgt := 113) hx hb dX8_wrongPairs_71 (by decide) (fun c9 => ?_) (fun c9 => ?_)
          · replace hw := hw.1 c9
            refine lv_iconst (v := 0) hx hb dX8_wrongPairs_113 (by decide) ?_
            refine lv_istore (lv' := [(6, .int (0 : Int32)), (10, .long (m_item (((((24 : Int32) * x1) + x3) + ((2 : Int32) * x7)) + (1 : Int32)).toNatClampNeg)), (8, .long (m_item ((((24 : Int32) * x1) + x3) + ((2 : Int32) * x7)).toNatClampNeg)), (0, .ref m_mo), (1, .int x1), (3, .int x3), (4, .int x4), (5, .int x5), (7, .int x7)]) hx hb dX8_wrongPairs_114 hl (by decide) rfl (fun ls hl => ?_)
            refine lv_iinc (v := (x7 + 1)) (lv' := [(7, .int (x7 + 1)), (6, .int (0 : Int32)), (10, .long (m_item (((((24 : Int32) * x1) + x3) + ((2 : Int32) * x7)) + (1 : Int32)).toNatClampNeg)), (8, .long (m_item ((((24 : Int32) * x1) + x3) + ((2 : Int32) * x7)).toNatClampNeg)), (0, .ref m_mo), (1, .int x1), (3, .int x3), (4, .int x4), (5, .int x5)]) hx hb dX8_wrongPairs_116 hl (k := 8) rfl (by first | rfl | decide) (by decide) rfl (fun ls hl => ?_)
            refine lv_goto (tgt := 19) hx hb dX8_wrongPairs_119 (by decide) ?_
            exact ih19 x5 (0 : Int32) (x7 + 1) _ hw (lv_sub hl [4, 5, 6, 7, 8, 1, 0] rfl)
          · replace hw := hw.2 c9
            refine lv_lload hx hb dX8_wrongPairs_74 (lv_at hl 1 rfl) ?_
            refine lv_lconst (v := 1) hx hb dX8_wrongPairs_76 (by decide) ?_
            refine W.lcmp hx hb dX8_wrongPairs_77 ?_
            refine lv_if_lt (tgt := 113) hx hb dX8_wrongPairs_78 (by decide) (fun c9 => ?_) (fun c9 => ?_)
            · replace hw := hw.1 c9
              refine lv_iconst (v := 0) hx hb dX8_wrongPairs_113 (by decide) ?_
              refine lv_istore (lv' := [(6, .int (0 : Int32)), (10, .long (m_item (((((24 : Int32) * x1) + x3) + ((2 : Int32) * x7)) + (1 : Int32)).toNatClampNeg)), (8, .long (m_item ((((24 : Int32) * x1) + x3) + ((2 : Int32) * x7)).toNatClampNeg)), (0, .ref m_mo), (1, .int x1), (3, .int x3), (4, .int x4), (5, .int x5), (7, .int x7)]) hx hb dX8_wrongPairs_114 hl (by decide) rfl (fun ls hl => ?_)
              refine lv_iinc (v := (x7 + 1)) (lv' := [(7, .int (x7 + 1)), (6, .int (0 : Int32)), (10, .long (m_item (((((24 : Int32) * x1) + x3) + ((2 : Int32) * x7)) + (1 : Int32)).toNatClampNeg)), (8, .long (m_item ((((24 : Int32) * x1) + x3) + ((2 : Int32) * x7)).toNatClampNeg)), (0, .ref m_mo), (1, .int x1), (3, .int x3), (4, .int x4), (5, .int x5)]) hx hb dX8_wrongPairs_116 hl (k := 8) rfl (by first | rfl | decide) (by decide) rfl (fun ls hl => ?_)
              refine lv_goto (tgt := 19) hx hb dX8_wrongPairs_119 (by decide) ?_
              exact ih19 x5 (0 : Int32) (x7 + 1) _ hw (lv_sub hl [4, 5, 6, 7, 8, 1, 0] rfl)
            · replace hw := hw.2 c9
              refine lv_lload hx hb dX8_wrongPairs_81 (lv_at hl 1 rfl) ?_
              refine lv_aload_n hx hb dX8_wrongPairs_83 rfl (lv_at hl 2 rfl) ?_
              refine va_get (D := D) (ci := 8) (v := .ref m_anow) (C := RX8) (T := TX8) (N := 18) hx hb hts inX8 hown hK hP 0 rfl rfl 7 (by decide) fl23 (fun _ h9 => h9) rfl dX8_wrongPairs_84 ?_
              refine vp_callSi (W.runS (As := [.ref m_anow]) (rest := [.long (m_item ((((24 : Int32) * x1) + x3) + ((2 : Int32) * x7)).toNatClampNeg)]) ⟨hx, hb, hml, hown, hts⟩ (c_X8_allOf l D G m_anow m_now _ hw) (va_cwS 1 hts gX8_wrongPairs_X8_allOf rfl rfl rfl (by decide +kernel) ⟨(Nat.le_of_ble_eq_true rfl), (Nat.le_of_ble_eq_true rfl)⟩) (xR_ps (hP.sub [4] rfl) hK) rfl rfl hl.1 rfl (lv_room (Nat.le_of_ble_eq_true rfl)) dX8_wrongPairs_87 ⟨Nat.zero_le _, Nat.zero_le _⟩) (fun r2 hw => ?_)
              refine lv_i2l hx hb dX8_wrongPairs_90 rfl ?_
              refine W.lcmp hx hb dX8_wrongPairs_91 ?_
              refine lv_if_gt (tgt := 113) hx hb dX8_wrongPairs_92 (by decide) (fun c9 => ?_) (fun c9 => ?_)
              · replace hw := hw.1 c9
                refine lv_iconst (v := 0) hx hb dX8_wrongPairs_113 (by decide) ?_
                refine lv_istore (lv' := [(6, .int (0 : Int32)), (10, .long (m_item (((((24 : Int32) * x1) + x3) + ((2 : Int32) * x7)) + (1 : Int32)).toNatClampNeg)), (8, .long (m_item ((((24 : Int32) * x1) + x3) + ((2 : Int32) * x7)).toNatClampNeg)), (0, .ref m_mo), (1, .int x1), (3, .int x3), (4, .int x4), (5, .int x5), (7, .int x7)]) hx hb dX8_wrongPairs_114 hl (by decide) rfl (fun ls hl => ?_)
                refine lv_iinc (v := (x7 + 1)) (lv' := [(7, .int (x7 + 1)), (6, .int (0 : Int32)), (10, .long (m_item (((((24 : Int32) * x1) + x3) + ((2 : Int32) * x7)) + (1 : Int32)).toNatClampNeg)), (8, .long (m_item ((((24 : Int32) * x1) + x3) + ((2 : Int32) * x7)).toNatClampNeg)), (0, .ref m_mo), (1, .int x1), (3, .int x3), (4, .int x4), (5, .int x5)]) hx hb dX8_wrongPairs_116 hl (k := 8) rfl (by first | rfl | decide) (by decide) rfl (fun ls hl => ?_)
                refine lv_goto (tgt := 19) hx hb dX8_wrongPairs_119 (by decide) ?_
                exact ih19 x5 (0 : Int32) (x7 + 1) _ hw (lv_sub hl [4, 5, 6, 7, 8, 1, 0] rfl)
              · replace hw := hw.2 c9
                refine lv_lload hx hb dX8_wrongPairs_95 (lv_at hl 0 rfl) ?_
                refine lv_lconst (v := 0) hx hb dX8_wrongPairs_97 (by decide) ?_
                refine W.lcmp hx hb dX8_wrongPairs_98 ?_
                refine lv_if_lt (tgt := 113) hx hb dX8_wrongPairs_99 (by decide) (fun c9 => ?_) (fun c9 => ?_)
                · replace hw := hw.1 c9
                  refine lv_iconst (v := 0) hx hb dX8_wrongPairs_113 (by decide) ?_
                  refine lv_istore (lv' := [(6, .int (0 : Int32)), (10, .long (m_item (((((24 : Int32) * x1) + x3) + ((2 : Int32) * x7)) + (1 : Int32)).toNatClampNeg)), (8, .long (m_item ((((24 : Int32) * x1) + x3) + ((2 : Int32) * x7)).toNatClampNeg)), (0, .ref m_mo), (1, .int x1), (3, .int x3), (4, .int x4), (5, .int x5), (7, .int x7)]) hx hb dX8_wrongPairs_114 hl (by decide) rfl (fun ls hl => ?_)
                  refine lv_iinc (v := (x7 + 1)) (lv' := [(7, .int (x7 + 1)), (6, .int (0 : Int32)), (10, .long (m_item (((((24 : Int32) * x1) + x3) + ((2 : Int32) * x7)) + (1 : Int32)).toNatClampNeg)), (8, .long (m_item ((((24 : Int32) * x1) + x3) + ((2 : Int32) * x7)).toNatClampNeg)), (0, .ref m_mo), (1, .int x1), (3, .int x3), (4, .int x4), (5, .int x5)]) hx hb dX8_wrongPairs_116 hl (k := 8) rfl (by first | rfl | decide) (by decide) rfl (fun ls hl => ?_)
                  refine lv_goto (tgt := 19) hx hb dX8_wrongPairs_119 (by decide) ?_
                  exact ih19 x5 (0 : Int32) (x7 + 1) _ hw (lv_sub hl [4, 5, 6, 7, 8, 1, 0] rfl)
                · replace hw := hw.2 c9
                  refine lv_lload hx hb dX8_wrongPairs_102 (lv_at hl 0 rfl) ?_
                  refine lv_lconst (v := 1) hx hb dX8_wrongPairs_104 (by decide) ?_
                  refine W.lcmp hx hb dX8_wrongPairs_105 ?_
                  refine lv_if_gt (tgt := 113) hx hb dX8_wrongPairs_106 (by decide) (fun c9 => ?_) (fun c9 => ?_)
                  · replace hw := hw.1 c9
                    refine lv_iconst (v := 0) hx hb dX8_wrongPairs_113 (by decide) ?_
                    refine lv_istore (lv' := [(6, .int (0 : Int32)), (10, .long (m_item (((((24 : Int32) * x1) + x3) + ((2 : Int32) * x7)) + (1 : Int32)).toNatClampNeg)), (8, .long (m_item ((((24 : Int32) * x1) + x3) + ((2 : Int32) * x7)).toNatClampNeg)), (0, .ref m_mo), (1, .int x1), (3, .int x3), (4, .int x4), (5, .int x5), (7, .int x7)]) hx hb dX8_wrongPairs_114 hl (by decide) rfl (fun ls hl => ?_)
                    refine lv_iinc (v := (x7 + 1)) (lv' := [(7, .int (x7 + 1)), (6, .int (0 : Int32)), (10, .long (m_item (((((24 : Int32) * x1) + x3) + ((2 : Int32) * x7)) + (1 : Int32)).toNatClampNeg)), (8, .long (m_item ((((24 : Int32) * x1) + x3) + ((2 : Int32) * x7)).toNatClampNeg)), (0, .ref m_mo), (1, .int x1), (3, .int x3), (4, .int x4), (5, .int x5)]) hx hb dX8_wrongPairs_116 hl (k := 8) rfl (by first | rfl | decide) (by decide) rfl (fun ls hl => ?_)
                    refine lv_goto (tgt := 19) hx hb dX8_wrongPairs_119 (by decide) ?_
                    exact ih19 x5 (0 : Int32) (x7 + 1) _ hw (lv_sub hl [4, 5, 6, 7, 8, 1, 0] rfl)
                  · replace hw := hw.2 c9
                    refine lv_iconst (v := 1) hx hb dX8_wrongPairs_109 (by decide) ?_
                    refine lv_goto (tgt := 114) hx hb dX8_wrongPairs_110 (by decide) ?_
                    refine lv_istore (lv' := [(6, .int (1 : Int32)), (10, .long (m_item (((((24 : Int32) * x1) + x3) + ((2 : Int32) * x7)) + (1 : Int32)).toNatClampNeg)), (8, .long (m_item ((((24 : Int32) * x1) + x3) + ((2 : Int32) * x7)).toNatClampNeg)), (0, .ref m_mo), (1, .int x1), (3, .int x3), (4, .int x4), (5, .int x5), (7, .int x7)]) hx hb dX8_wrongPairs_114 hl (by decide) rfl (fun ls hl => ?_)
                    refine lv_iinc (v := (x7 + 1)) (lv' := [(7, .int (x7 + 1)), (6, .int (1 : Int32)), (10, .long (m_item (((((24 : Int32) * x1) + x3) + ((2 : Int32) * x7)) + (1 : Int32)).toNatClampNeg)), (8, .long (m_item ((((24 : Int32) * x1) + x3) + ((2 : Int32) * x7)).toNatClampNeg)), (0, .ref m_mo), (1, .int x1), (3, .int x3), (4, .int x4), (5, .int x5)]) hx hb dX8_wrongPairs_116 hl (k := 8) rfl (by first | rfl | decide) (by decide) rfl (fun ls hl => ?_)
                    refine lv_goto (tgt := 19) hx hb dX8_wrongPairs_119 (by decide) ?_
                    exact ih19 x5 (1 : Int32) (x7 + 1) _ hw (lv_sub hl [4, 5, 6, 7, 8, 1, 0] rfl)
  refine lv_aload_n hx hb dX8_wrongPairs_0 rfl (lv_at hl 0 rfl) ?_
  refine lv_iload_n hx hb dX8_wrongPairs_1 rfl (lv_at hl 1 rfl) ?_
  refine lv_iload_n hx hb dX8_wrongPairs_2 rfl (lv_at hl 2 rfl) ?_
  refine lv_iload_n hx hb dX8_wrongPairs_3 rfl (lv_at hl 3 rfl) ?_
  refine lv_iconst (v := 2) hx hb dX8_wrongPairs_4 (by decide) ?_
  refine lv_iload hx hb dX8_wrongPairs_5 (lv_at hl 4 rfl) ?_
  refine lv_imul hx hb dX8_wrongPairs_7 ?_
  refine vp_callSi (W.runV (As := [.int x1, .int x2, .int x3, .int ((2 : Int32) * x4)]) (rest := []) ⟨hx, hb, hml, hown, hts⟩ (c_X8_wrong l D G m_mo m_alane m_asize m_aitem m_atape m_anow m_atried m_aread m_akept m_anoticed m_aneeds m_aorder m_letters m_position m_number m_isKept m_many m_one m_two m_lane m_size x1 x2 x3 ((2 : Int32) * x4) _ hw) (cwV 4 hts gX8_wrongPairs_X8_wrong rfl rfl rfl (by decide +kernel) ⟨(Nat.le_of_ble_eq_true rfl), (Nat.le_of_ble_eq_true rfl)⟩) (xR_pv (hP.sub [0, 1, 2] rfl) hK (va_recv hK hP (ci := 8) (q0 := 0) rfl rfl)) rfl rfl hl.1 rfl (lv_room (Nat.le_of_ble_eq_true rfl)) dX8_wrongPairs_8 ⟨Nat.zero_le _, Nat.zero_le _⟩) (fun r1 hw => ?_)
  refine lv_istore (lv' := [(5, .int r1), (0, .ref m_mo), (1, .int x1), (2, .int x2), (3, .int x3), (4, .int x4)]) hx hb dX8_wrongPairs_11 hl (by decide) rfl (fun ls hl => ?_)
  refine lv_iconst (v := 1) hx hb dX8_wrongPairs_13 (by decide) ?_
  refine lv_istore (lv' := [(6, .int (1 : Int32)), (5, .int r1), (0, .ref m_mo), (1, .int x1), (2, .int x2), (3, .int x3), (4, .int x4)]) hx hb dX8_wrongPairs_14 hl (by decide) rfl (fun ls hl => ?_)
  refine lv_iconst (v := 0) hx hb dX8_wrongPairs_16 (by decide) ?_
  refine lv_istore (lv' := [(7, .int (0 : Int32)), (6, .int (1 : Int32)), (5, .int r1), (0, .ref m_mo), (1, .int x1), (2, .int x2), (3, .int x3), (4, .int x4)]) hx hb dX8_wrongPairs_17 hl (by decide) rfl (fun ls hl => ?_)
  obtain ⟨n, hw⟩ := hw
  exact L19 n r1 (1 : Int32) (0 : Int32) _ hw (lv_sub hl [3, 4, 6, 7, 2, 1, 0] rfl)
set_option maxHeartbeats 4000000 in
set_option maxRecDepth 100000 in
theorem c_X8_liesN (l : Launch) (D : va_G) (G : Nat → ClassId) (m_mo : Nat) (m_alane : Nat) (m_asize : Nat) (m_aitem : Nat) (m_atape : Nat) (m_anow : Nat) (m_atried : Nat) (m_aread : Nat) (m_akept : Nat) (m_anoticed : Nat) (m_aneeds : Nat) (m_aorder : Nat) (m_letters : Int32) (m_position : Int32) (m_number : Int32) (m_isKept : Int32) (m_many : Int32) (m_one : Int32) (m_two : Int32) (m_item : Nat → Int64) (m_now : Nat → Int32) (x2 : Int32) (x3 : Int32) (x4 : Int32) (x5 : Int32) (x6 : Int32) (post : Int32 → Prop) (hw : wp_X8_liesN m_item m_now x2 x3 x4 x5 x6 post) : Met l yX8_lies wsX8_lies ({ frames := 3, cells := 0, slots := 0, locals := 71 } : Room) (va_Pc [.ref m_mo, .ref m_anow, .int x2, .int x3, .int x4, .int x5, .int x6] (xR D G [(m_mo, .inr (8, [.ref m_alane, .ref m_asize, .ref m_aitem, .int m_letters, .ref m_atape, .int m_position, .int m_number, .ref m_anow, .ref m_atried, .ref m_aread, .ref m_akept, .int m_isKept, .ref m_anoticed, .ref m_aneeds, .ref m_aorder, .int m_many, .int m_one, .int m_two])), (m_aitem, .inl (G 1, 96, .inr (.inl m_item))), (m_anow, .inl (G 0, 55, .inl m_now))])) (vp_Si post) 0 0 (fun _ => False) := by
  refine Met.ofW (cc := cX8_lies) (maxL := 10) (ret := (some .int)) (by decide) rfl ?_
  intro p e s m args below meth c s₁ B hml hv
  obtain ⟨rfl, hP, hK⟩ := hv
  have hx := B.exec
  have hb := B.bytes
  have hr := B.returns
  have hts := atoms_spec (ws := wsX8_lies) B.pre
  have hown : s.vm.findClass RX8 = some m.cls := findClass_of_methodNamed B.named
  have hlocks := B.notSynchronized
  have inX8 : ∀ w ∈ wsX80, w ∈ wsX8_lies := by decide +kernel
  have fl16 := hts (.fieldLink RX8 16 "NewsCowModel" "item" "[J") (by decide +kernel)
  have hl := lv_entry ([.ref m_mo, .ref m_anow, .int x2, .int x3, .int x4, .int x5, .int x6] : List Value) (n := 10) (Nat.le_of_ble_eq_true rfl)
  rw [lg_entry_eq]
  generalize (lg_sl ([.ref m_mo, .ref m_anow, .int x2, .int x3, .int x4, .int x5, .int x6] : List Value) ++ List.replicate (10 - (lg_sl ([.ref m_mo, .ref m_anow, .int x2, .int x3, .int x4, .int x5, .int x6] : List Value)).length) Slot.unset).toArray = ls at hl ⊢
  have hl : lv_has ls 10 [(0, .ref m_mo), (1, .ref m_anow), (2, .int x2), (3, .int x3), (4, .int x4), (5, .int x5), (6, .int x6)] := hl
  unfold wp_X8_liesN at hw
  have L6 : ∀ (f6 : Nat) (x7 : Int32) (x8 : Int32) (ls : Array Slot), wp_X8_liesN_L6 m_item m_now x2 x3 x4 x5 x6 post f6 x7 x8 → lv_has ls 10 [(0, .ref m_mo), (1, .ref m_anow), (2, .int x2), (3, .int x3), (4, .int x4), (5, .int x5), (6, .int x6), (7, .int x7), (8, .int x8)] → W p l e (headSpec wsX8_lies ({ frames := 3, cells := 0, slots := 0, locals := 71 } : Room)).room s m ([.ref m_mo, .ref m_anow, .int x2, .int x3, .int x4, .int x5, .int x6] : List Value).toArray below meth c s.heap [] 0 0 (MQ below (vp_Si post) ([.ref m_mo, .ref m_anow, .int x2, .int x3, .int x4, .int x5, .int x6] : List Value).toArray s 0 0 (fun _ => False)) (F0 m 6 ls []) := by
    intro f6
    induction f6 with
    | zero => intro x7 x8 ls hw hl; exact (hw : False).elim
    | succ f6 ih6 =>
      intro x7 x8 ls hw hl
      unfold wp_X8_liesN_L6 at hw
      have J73 : ∀ (x8 : Int32) (k0 : Int32) (k1 : Int32) (k2 : Int32) (ls : Array Slot), wp_X8_liesN_J73 x8 k0 k1 k2 (wp_X8_liesN_L6 m_item m_now x2 x3 x4 x5 x6 post f6) post → lv_has ls 10 [(0, .ref m_mo), (1, .ref m_anow), (2, .int x2), (3, .int x3), (4, .int x4), (5, .int x5), (6, .int x6), (8, .int x8)] → W p l e (headSpec wsX8_lies ({ frames := 3, cells := 0, slots := 0, locals := 71 } : Room)).room s m ([.ref m_mo, .ref m_anow, .int x2, .int x3, .int x4, .int x5, .int x6] : List Value).toArray below meth c s.heap [] 0 0 (MQ below (vp_Si post) ([.ref m_mo, .ref m_anow, .int x2, .int x3, .int x4, .int x5, .int x6] : List Value).toArray s 0 0 (fun _ => False)) (F0 m 73 ls [.int k0, .int k1, .int k2]) := by
        intro x8 k0 k1 k2 ls hw hl
        unfold wp_X8_liesN_J73 at hw
        refine lv_icmp_ne (tgt := 80) hx hb dX8_lies_73 (by decide) (fun c9 => ?_) (fun c9 => ?_)
        · replace hw := hw.1 c9
          refine lv_iconst (v := 1) hx hb dX8_lies_80 (by decide) ?_
          refine lv_iadd hx hb dX8_lies_81 ?_
          refine lv_istore (lv' := [(7, .int (k2 + (1 : Int32))), (0, .ref m_mo), (1, .ref m_anow), (2, .int x2), (3, .int x3), (4, .int x4), (5, .int x5), (6, .int x6), (8, .int x8)]) hx hb dX8_lies_82 hl (by decide) rfl (fun ls hl => ?_)
          refine lv_iinc (v := (x8 + 1)) (lv' := [(8, .int (x8 + 1)), (7, .int (k2 + (1 : Int32))), (0, .ref m_mo), (1, .ref m_anow), (2, .int x2), (3, .int x3), (4, .int x4), (5, .int x5), (6, .int x6)]) hx hb dX8_lies_84 hl (k := 8) rfl (by first | rfl | decide) (by decide) rfl (fun ls hl => ?_)
          refine lv_goto (tgt := 6) hx hb dX8_lies_87 (by decide) ?_
          exact ih6 (k2 + (1 : Int32)) (x8 + 1) _ hw (lv_sub hl [2, 3, 4, 5, 6, 7, 8, 1, 0] rfl)
        · replace hw := hw.2 c9
          refine lv_iconst (v := 0) hx hb dX8_lies_76 (by decide) ?_
          refine lv_goto (tgt := 81) hx hb dX8_lies_77 (by decide) ?_
          refine lv_iadd hx hb dX8_lies_81 ?_
          refine lv_istore (lv' := [(7, .int (k2 + (0 : Int32))), (0, .ref m_mo), (1, .ref m_anow), (2, .int x2), (3, .int x3), (4, .int x4), (5, .int x5), (6, .int x6), (8, .int x8)]) hx hb dX8_lies_82 hl (by decide) rfl (fun ls hl => ?_)
          refine lv_iinc (v := (x8 + 1)) (lv' := [(8, .int (x8 + 1)), (7, .int (k2 + (0 : Int32))), (0, .ref m_mo), (1, .ref m_anow), (2, .int x2), (3, .int x3), (4, .int x4), (5, .int x5), (6, .int x6)]) hx hb dX8_lies_84 hl (k := 8) rfl (by first | rfl | decide) (by decide) rfl (fun ls hl => ?_)
          refine lv_goto (tgt := 6) hx hb dX8_lies_87 (by decide) ?_
          exact ih6 (k2 + (0 : Int32)) (x8 + 1) _ hw (lv_sub hl [2, 3, 4, 5, 6, 7, 8, 1, 0] rfl)
      refine lv_iload hx hb dX8_lies_6 (lv_at hl 8 rfl) ?_
      refine lv_iload hx hb dX8_lies_8 (lv_at hl 5 rfl) ?_
      refine lv_icmp_ge (tgt := 90) hx hb dX8_lies_10 (by decide) (fun c9 => ?_) (fun c9 => ?_)
      · replace hw := hw.1 c9
        refine lv_iload hx hb dX8_lies_90 (lv_at hl 7 rfl) ?_
        exact W.iret hx hb hr (fun t ht _ => ⟨_, rfl, hw, ht⟩) (fun _ h => absurd h List.not_mem_nil) dX8_lies_92
      · replace hw := hw.2 c9
        refine lv_aload_n hx hb dX8_lies_13 rfl (lv_at hl 0 rfl) ?_
        refine va_get (D := D) (ci := 8) (v := .ref m_aitem) (C := RX8) (T := TX8) (N := 18) hx hb hts inX8 hown hK hP 0 rfl rfl 2 (by decide) fl16 (fun _ h9 => h9) rfl dX8_lies_14 ?_
        refine lv_bipush (v := 24) hx hb dX8_lies_17 (by decide) ?_
        refine lv_iload_n hx hb dX8_lies_19 rfl (lv_at hl 3 rfl) ?_
        refine lv_imul hx hb dX8_lies_20 ?_
        refine lv_iload hx hb dX8_lies_21 (lv_at hl 4 rfl) ?_
        refine lv_iadd hx hb dX8_lies_23 ?_
        refine lv_iconst (v := 2) hx hb dX8_lies_24 (by decide) ?_
        refine lv_iload hx hb dX8_lies_25 (lv_at hl 8 rfl) ?_
        refine lv_imul hx hb dX8_lies_27 ?_
        refine lv_iadd hx hb dX8_lies_28 ?_
        refine x_lald (j := ((((24 : Int32) * x3) + x4) + ((2 : Int32) * x8)).toNatClampNeg) hx hb hK hP 1 1 rfl rfl rfl hw.1 dX8_lies_29 ?_
        replace hw := hw.2
        refine lv_l2i hx hb dX8_lies_30 rfl ?_
        refine lv_istore (lv' := [(9, .int ((m_item ((((24 : Int32) * x3) + x4) + ((2 : Int32) * x8)).toNatClampNeg).toInt32)), (0, .ref m_mo), (1, .ref m_anow), (2, .int x2), (3, .int x3), (4, .int x4), (5, .int x5), (6, .int x6), (7, .int x7), (8, .int x8)]) hx hb dX8_lies_31 hl (by decide) rfl (fun ls hl => ?_)
        refine lv_iload hx hb dX8_lies_33 (lv_at hl 8 rfl) ?_
        refine lv_aload_n hx hb dX8_lies_35 rfl (lv_at hl 2 rfl) ?_
        refine lv_iload_n hx hb dX8_lies_36 rfl (lv_at hl 3 rfl) ?_
        refine lv_iload hx hb dX8_lies_37 (lv_at hl 0 rfl) ?_
        refine lv_iload hx hb dX8_lies_39 (lv_at hl 7 rfl) ?_
        refine vp_callSi (W.runS (As := [.ref m_anow, .int x2, .int ((m_item ((((24 : Int32) * x3) + x4) + ((2 : Int32) * x8)).toNatClampNeg).toInt32), .int x6]) (rest := [.int x7]) ⟨hx, hb, hml, hown, hts⟩ (c_X8_noticesIn l D G m_anow m_now x2 ((m_item ((((24 : Int32) * x3) + x4) + ((2 : Int32) * x8)).toNatClampNeg).toInt32) x6 _ hw) (va_cwS 4 hts gX8_lies_X8_noticesIn rfl rfl rfl (by decide +kernel) ⟨(Nat.le_of_ble_eq_true rfl), (Nat.le_of_ble_eq_true rfl)⟩) (xR_ps (hP.sub [2] rfl) hK) rfl rfl hl.1 rfl (lv_room (Nat.le_of_ble_eq_true rfl)) dX8_lies_41 ⟨Nat.zero_le _, Nat.zero_le _⟩) (fun r1 hw => ?_)
        refine lv_aload_n hx hb dX8_lies_44 rfl (lv_at hl 1 rfl) ?_
        refine va_get (D := D) (ci := 8) (v := .ref m_aitem) (C := RX8) (T := TX8) (N := 18) hx hb hts inX8 hown hK hP 0 rfl rfl 2 (by decide) fl16 (fun _ h9 => h9) rfl dX8_lies_45 ?_
        refine lv_bipush (v := 24) hx hb dX8_lies_48 (by decide) ?_
        refine lv_iload_n hx hb dX8_lies_50 rfl (lv_at hl 4 rfl) ?_
        refine lv_imul hx hb dX8_lies_51 ?_
        refine lv_iload hx hb dX8_lies_52 (lv_at hl 5 rfl) ?_
        refine lv_iadd hx hb dX8_lies_54 ?_
        refine lv_iconst (v := 2) hx hb dX8_lies_55 (by decide) ?_
        refine lv_iload hx hb dX8_lies_56 (lv_at hl 9 rfl) ?_
        refine lv_imul hx hb dX8_lies_58 ?_
        refine lv_iadd hx hb dX8_lies_59 ?_
        refine lv_iconst (v := 1) hx hb dX8_lies_60 (by decide) ?_
        refine lv_iadd hx hb dX8_lies_61 ?_
        refine x_lald (j := (((((24 : Int32) * x3) + x4) + ((2 : Int32) * x8)) + (1 : Int32)).toNatClampNeg) hx hb hK hP 1 1 rfl rfl rfl hw.1 dX8_lies_62 ?_
        replace hw := hw.2
        refine lv_lconst (v := 1) hx hb dX8_lies_63 (by decide) ?_
        refine W.lcmp hx hb dX8_lies_64 ?_
        refine lv_if_ne (tgt := 72) hx hb dX8_lies_65 (by decide) (fun c9 => ?_) (fun c9 => ?_)
        · replace hw := hw.1 c9
          refine lv_iconst (v := 0) hx hb dX8_lies_72 (by decide) ?_
          exact J73 x8 (0 : Int32) r1 x7 _ hw (lv_sub hl [1, 2, 3, 4, 5, 6, 7, 9] rfl)
        · replace hw := hw.2 c9
          refine lv_iconst (v := 1) hx hb dX8_lies_68 (by decide) ?_
          refine lv_goto (tgt := 73) hx hb dX8_lies_69 (by decide) ?_
          exact J73 x8 (1 : Int32) r1 x7 _ hw (lv_sub hl [1, 2, 3, 4, 5, 6, 7, 9] rfl)
  refine lv_iconst (v := 0) hx hb dX8_lies_0 (by decide) ?_
  refine lv_istore (lv' := [(7, .int (0 : Int32)), (0, .ref m_mo), (1, .ref m_anow), (2, .int x2), (3, .int x3), (4, .int x4), (5, .int x5), (6, .int x6)]) hx hb dX8_lies_1 hl (by decide) rfl (fun ls hl => ?_)
  refine lv_iconst (v := 0) hx hb dX8_lies_3 (by decide) ?_
  refine lv_istore (lv' := [(8, .int (0 : Int32)), (7, .int (0 : Int32)), (0, .ref m_mo), (1, .ref m_anow), (2, .int x2), (3, .int x3), (4, .int x4), (5, .int x5), (6, .int x6)]) hx hb dX8_lies_4 hl (by decide) rfl (fun ls hl => ?_)
  obtain ⟨n, hw⟩ := hw
  exact L6 n (0 : Int32) (0 : Int32) _ hw (lv_sub hl [2, 3, 4, 5, 6, 7, 8, 1, 0] rfl)
set_option maxHeartbeats 4000000 in
set_option maxRecDepth 100000 in
theorem c_X8_liesT (l : Launch) (D : va_G) (G : Nat → ClassId) (m_mo : Nat) (m_alane : Nat) (m_asize : Nat) (m_aitem : Nat) (m_atape : Nat) (m_anow : Nat) (m_atried : Nat) (m_aread : Nat) (m_akept : Nat) (m_anoticed : Nat) (m_aneeds : Nat) (m_aorder : Nat) (m_letters : Int32) (m_position : Int32) (m_number : Int32) (m_isKept : Int32) (m_many : Int32) (m_one : Int32) (m_two : Int32) (m_item : Nat → Int64) (m_tried : Nat → Int32) (x2 : Int32) (x3 : Int32) (x4 : Int32) (x5 : Int32) (x6 : Int32) (post : Int32 → Prop) (hw : wp_X8_liesT m_item m_tried x2 x3 x4 x5 x6 post) : Met l yX8_lies wsX8_lies ({ frames := 3, cells := 0, slots := 0, locals := 71 } : Room) (va_Pc [.ref m_mo, .ref m_atried, .int x2, .int x3, .int x4, .int x5, .int x6] (xR D G [(m_mo, .inr (8, [.ref m_alane, .ref m_asize, .ref m_aitem, .int m_letters, .ref m_atape, .int m_position, .int m_number, .ref m_anow, .ref m_atried, .ref m_aread, .ref m_akept, .int m_isKept, .ref m_anoticed, .ref m_aneeds, .ref m_aorder, .int m_many, .int m_one, .int m_two])), (m_aitem, .inl (G 1, 96, .inr (.inl m_item))), (m_atried, .inl (G 0, 55, .inl m_tried))])) (vp_Si post) 0 0 (fun _ => False) := by
  refine Met.ofW (cc := cX8_lies) (maxL := 10) (ret := (some .int)) (by decide) rfl ?_
  intro p e s m args below meth c s₁ B hml hv
  obtain ⟨rfl, hP, hK⟩ := hv
  have hx := B.exec
  have hb := B.bytes
  have hr := B.returns
  have hts := atoms_spec (ws := wsX8_lies) B.pre
  have hown : s.vm.findClass RX8 = some m.cls := findClass_of_methodNamed B.named
  have hlocks := B.notSynchronized
  have inX8 : ∀ w ∈ wsX80, w ∈ wsX8_lies := by decide +kernel
  have fl16 := hts (.fieldLink RX8 16 "NewsCowModel" "item" "[J") (by decide +kernel)
  have hl := lv_entry ([.ref m_mo, .ref m_atried, .int x2, .int x3, .int x4, .int x5, .int x6] : List Value) (n := 10) (Nat.le_of_ble_eq_true rfl)
  rw [lg_entry_eq]
  generalize (lg_sl ([.ref m_mo, .ref m_atried, .int x2, .int x3, .int x4, .int x5, .int x6] : List Value) ++ List.replicate (10 - (lg_sl ([.ref m_mo, .ref m_atried, .int x2, .int x3, .int x4, .int x5, .int x6] : List Value)).length) Slot.unset).toArray = ls at hl ⊢
  have hl : lv_has ls 10 [(0, .ref m_mo), (1, .ref m_atried), (2, .int x2), (3, .int x3), (4, .int x4), (5, .int x5), (6, .int x6)] := hl
  unfold wp_X8_liesT at hw
  have L6 : ∀ (f6 : Nat) (x7 : Int32) (x8 : Int32) (ls : Array Slot), wp_X8_liesT_L6 m_item m_tried x2 x3 x4 x5 x6 post f6 x7 x8 → lv_has ls 10 [(0, .ref m_mo), (1, .ref m_atried), (2, .int x2), (3, .int x3), (4, .int x4), (5, .int x5), (6, .int x6), (7, .int x7), (8, .int x8)] → W p l e (headSpec wsX8_lies ({ frames := 3, cells := 0, slots := 0, locals := 71 } : Room)).room s m ([.ref m_mo, .ref m_atried, .int x2, .int x3, .int x4, .int x5, .int x6] : List Value).toArray below meth c s.heap [] 0 0 (MQ below (vp_Si post) ([.ref m_mo, .ref m_atried, .int x2, .int x3, .int x4, .int x5, .int x6] : List Value).toArray s 0 0 (fun _ => False)) (F0 m 6 ls []) := by
    intro f6
    induction f6 with
    | zero => intro x7 x8 ls hw hl; exact (hw : False).elim
    | succ f6 ih6 =>
      intro x7 x8 ls hw hl
      unfold wp_X8_liesT_L6 at hw
      have J73 : ∀ (x8 : Int32) (k0 : Int32) (k1 : Int32) (k2 : Int32) (ls : Array Slot), wp_X8_liesT_J73 x8 k0 k1 k2 (wp_X8_liesT_L6 m_item m_tried x2 x3 x4 x5 x6 post f6) post → lv_has ls 10 [(0, .ref m_mo), (1, .ref m_atried), (2, .int x2), (3, .int x3), (4, .int x4), (5, .int x5), (6, .int x6), (8, .int x8)] → W p l e (headSpec wsX8_lies ({ frames := 3, cells := 0, slots := 0, locals := 71 } : Room)).room s m ([.ref m_mo, .ref m_atried, .int x2, .int x3, .int x4, .int x5, .int x6] : List Value).toArray below meth c s.heap [] 0 0 (MQ below (vp_Si post) ([.ref m_mo, .ref m_atried, .int x2, .int x3, .int x4, .int x5, .int x6] : List Value).toArray s 0 0 (fun _ => False)) (F0 m 73 ls [.int k0, .int k1, .int k2]) := by
        intro x8 k0 k1 k2 ls hw hl
        unfold wp_X8_liesT_J73 at hw
        refine lv_icmp_ne (tgt := 80) hx hb dX8_lies_73 (by decide) (fun c9 => ?_) (fun c9 => ?_)
        · replace hw := hw.1 c9
          refine lv_iconst (v := 1) hx hb dX8_lies_80 (by decide) ?_
          refine lv_iadd hx hb dX8_lies_81 ?_
          refine lv_istore (lv' := [(7, .int (k2 + (1 : Int32))), (0, .ref m_mo), (1, .ref m_atried), (2, .int x2), (3, .int x3), (4, .int x4), (5, .int x5), (6, .int x6), (8, .int x8)]) hx hb dX8_lies_82 hl (by decide) rfl (fun ls hl => ?_)
          refine lv_iinc (v := (x8 + 1)) (lv' := [(8, .int (x8 + 1)), (7, .int (k2 + (1 : Int32))), (0, .ref m_mo), (1, .ref m_atried), (2, .int x2), (3, .int x3), (4, .int x4), (5, .int x5), (6, .int x6)]) hx hb dX8_lies_84 hl (k := 8) rfl (by first | rfl | decide) (by decide) rfl (fun ls hl => ?_)
          refine lv_goto (tgt := 6) hx hb dX8_lies_87 (by decide) ?_
          exact ih6 (k2 + (1 : Int32)) (x8 + 1) _ hw (lv_sub hl [2, 3, 4, 5, 6, 7, 8, 1, 0] rfl)
        · replace hw := hw.2 c9
          refine lv_iconst (v := 0) hx hb dX8_lies_76 (by decide) ?_
          refine lv_goto (tgt := 81) hx hb dX8_lies_77 (by decide) ?_
          refine lv_iadd hx hb dX8_lies_81 ?_
          refine lv_istore (lv' := [(7, .int (k2 + (0 : Int32))), (0, .ref m_mo), (1, .ref m_atried), (2, .int x2), (3, .int x3), (4, .int x4), (5, .int x5), (6, .int x6), (8, .int x8)]) hx hb dX8_lies_82 hl (by decide) rfl (fun ls hl => ?_)
          refine lv_iinc (v := (x8 + 1)) (lv' := [(8, .int (x8 + 1)), (7, .int (k2 + (0 : Int32))), (0, .ref m_mo), (1, .ref m_atried), (2, .int x2), (3, .int x3), (4, .int x4), (5, .int x5), (6, .int x6)]) hx hb dX8_lies_84 hl (k := 8) rfl (by first | rfl | decide) (by decide) rfl (fun ls hl => ?_)
          refine lv_goto (tgt := 6) hx hb dX8_lies_87 (by decide) ?_
          exact ih6 (k2 + (0 : Int32)) (x8 + 1) _ hw (lv_sub hl [2, 3, 4, 5, 6, 7, 8, 1, 0] rfl)
      refine lv_iload hx hb dX8_lies_6 (lv_at hl 8 rfl) ?_
      refine lv_iload hx hb dX8_lies_8 (lv_at hl 5 rfl) ?_
      refine lv_icmp_ge (tgt := 90) hx hb dX8_lies_10 (by decide) (fun c9 => ?_) (fun c9 => ?_)
      · replace hw := hw.1 c9
        refine lv_iload hx hb dX8_lies_90 (lv_at hl 7 rfl) ?_
        exact W.iret hx hb hr (fun t ht _ => ⟨_, rfl, hw, ht⟩) (fun _ h => absurd h List.not_mem_nil) dX8_lies_92
      · replace hw := hw.2 c9
        refine lv_aload_n hx hb dX8_lies_13 rfl (lv_at hl 0 rfl) ?_
        refine va_get (D := D) (ci := 8) (v := .ref m_aitem) (C := RX8) (T := TX8) (N := 18) hx hb hts inX8 hown hK hP 0 rfl rfl 2 (by decide) fl16 (fun _ h9 => h9) rfl dX8_lies_14 ?_
        refine lv_bipush (v := 24) hx hb dX8_lies_17 (by decide) ?_
        refine lv_iload_n hx hb dX8_lies_19 rfl (lv_at hl 3 rfl) ?_
        refine lv_imul hx hb dX8_lies_20 ?_
        refine lv_iload hx hb dX8_lies_21 (lv_at hl 4 rfl) ?_
        refine lv_iadd hx hb dX8_lies_23 ?_
        refine lv_iconst (v := 2) hx hb dX8_lies_24 (by decide) ?_
        refine lv_iload hx hb dX8_lies_25 (lv_at hl 8 rfl) ?_
        refine lv_imul hx hb dX8_lies_27 ?_
        refine lv_iadd hx hb dX8_lies_28 ?_
        refine x_lald (j := ((((24 : Int32) * x3) + x4) + ((2 : Int32) * x8)).toNatClampNeg) hx hb hK hP 1 1 rfl rfl rfl hw.1 dX8_lies_29 ?_
        replace hw := hw.2
        refine lv_l2i hx hb dX8_lies_30 rfl ?_
        refine lv_istore (lv' := [(9, .int ((m_item ((((24 : Int32) * x3) + x4) + ((2 : Int32) * x8)).toNatClampNeg).toInt32)), (0, .ref m_mo), (1, .ref m_atried), (2, .int x2), (3, .int x3), (4, .int x4), (5, .int x5), (6, .int x6), (7, .int x7), (8, .int x8)]) hx hb dX8_lies_31 hl (by decide) rfl (fun ls hl => ?_)
        refine lv_iload hx hb dX8_lies_33 (lv_at hl 8 rfl) ?_
        refine lv_aload_n hx hb dX8_lies_35 rfl (lv_at hl 2 rfl) ?_
        refine lv_iload_n hx hb dX8_lies_36 rfl (lv_at hl 3 rfl) ?_
        refine lv_iload hx hb dX8_lies_37 (lv_at hl 0 rfl) ?_
        refine lv_iload hx hb dX8_lies_39 (lv_at hl 7 rfl) ?_
        refine vp_callSi (W.runS (As := [.ref m_atried, .int x2, .int ((m_item ((((24 : Int32) * x3) + x4) + ((2 : Int32) * x8)).toNatClampNeg).toInt32), .int x6]) (rest := [.int x7]) ⟨hx, hb, hml, hown, hts⟩ (c_X8_noticesIn l D G m_atried m_tried x2 ((m_item ((((24 : Int32) * x3) + x4) + ((2 : Int32) * x8)).toNatClampNeg).toInt32) x6 _ hw) (va_cwS 4 hts gX8_lies_X8_noticesIn rfl rfl rfl (by decide +kernel) ⟨(Nat.le_of_ble_eq_true rfl), (Nat.le_of_ble_eq_true rfl)⟩) (xR_ps (hP.sub [2] rfl) hK) rfl rfl hl.1 rfl (lv_room (Nat.le_of_ble_eq_true rfl)) dX8_lies_41 ⟨Nat.zero_le _, Nat.zero_le _⟩) (fun r1 hw => ?_)
        refine lv_aload_n hx hb dX8_lies_44 rfl (lv_at hl 1 rfl) ?_
        refine va_get (D := D) (ci := 8) (v := .ref m_aitem) (C := RX8) (T := TX8) (N := 18) hx hb hts inX8 hown hK hP 0 rfl rfl 2 (by decide) fl16 (fun _ h9 => h9) rfl dX8_lies_45 ?_
        refine lv_bipush (v := 24) hx hb dX8_lies_48 (by decide) ?_
        refine lv_iload_n hx hb dX8_lies_50 rfl (lv_at hl 4 rfl) ?_
        refine lv_imul hx hb dX8_lies_51 ?_
        refine lv_iload hx hb dX8_lies_52 (lv_at hl 5 rfl) ?_
        refine lv_iadd hx hb dX8_lies_54 ?_
        refine lv_iconst (v := 2) hx hb dX8_lies_55 (by decide) ?_
        refine lv_iload hx hb dX8_lies_56 (lv_at hl 9 rfl) ?_
        refine lv_imul hx hb dX8_lies_58 ?_
        refine lv_iadd hx hb dX8_lies_59 ?_
        refine lv_iconst (v := 1) hx hb dX8_lies_60 (by decide) ?_
        refine lv_iadd hx hb dX8_lies_61 ?_
        refine x_lald (j := (((((24 : Int32) * x3) + x4) + ((2 : Int32) * x8)) + (1 : Int32)).toNatClampNeg) hx hb hK hP 1 1 rfl rfl rfl hw.1 dX8_lies_62 ?_
        replace hw := hw.2
        refine lv_lconst (v := 1) hx hb dX8_lies_63 (by decide) ?_
        refine W.lcmp hx hb dX8_lies_64 ?_
        refine lv_if_ne (tgt := 72) hx hb dX8_lies_65 (by decide) (fun c9 => ?_) (fun c9 => ?_)
        · replace hw := hw.1 c9
          refine lv_iconst (v := 0) hx hb dX8_lies_72 (by decide) ?_
          exact J73 x8 (0 : Int32) r1 x7 _ hw (lv_sub hl [1, 2, 3, 4, 5, 6, 7, 9] rfl)
        · replace hw := hw.2 c9
          refine lv_iconst (v := 1) hx hb dX8_lies_68 (by decide) ?_
          refine lv_goto (tgt := 73) hx hb dX8_lies_69 (by decide) ?_
          exact J73 x8 (1 : Int32) r1 x7 _ hw (lv_sub hl [1, 2, 3, 4, 5, 6, 7, 9] rfl)
  refine lv_iconst (v := 0) hx hb dX8_lies_0 (by decide) ?_
  refine lv_istore (lv' := [(7, .int (0 : Int32)), (0, .ref m_mo), (1, .ref m_atried), (2, .int x2), (3, .int x3), (4, .int x4), (5, .int x5), (6, .int x6)]) hx hb dX8_lies_1 hl (by decide) rfl (fun ls hl => ?_)
  refine lv_iconst (v := 0) hx hb dX8_lies_3 (by decide) ?_
  refine lv_istore (lv' := [(8, .int (0 : Int32)), (7, .int (0 : Int32)), (0, .ref m_mo), (1, .ref m_atried), (2, .int x2), (3, .int x3), (4, .int x4), (5, .int x5), (6, .int x6)]) hx hb dX8_lies_4 hl (by decide) rfl (fun ls hl => ?_)
  obtain ⟨n, hw⟩ := hw
  exact L6 n (0 : Int32) (0 : Int32) _ hw (lv_sub hl [2, 3, 4, 5, 6, 7, 8, 1, 0] rfl)
set_option maxHeartbeats 4000000 in
set_option maxRecDepth 100000 in
theorem c_X8_fitByN (l : Launch) (D : va_G) (G : Nat → ClassId) (m_mo : Nat) (m_alane : Nat) (m_asize : Nat) (m_aitem : Nat) (m_atape : Nat) (m_anow : Nat) (m_atried : Nat) (m_aread : Nat) (m_akept : Nat) (m_anoticed : Nat) (m_aneeds : Nat) (m_aorder : Nat) (m_letters : Int32) (m_position : Int32) (m_number : Int32) (m_isKept : Int32) (m_many : Int32) (m_one : Int32) (m_two : Int32) (m_item : Nat → Int64) (m_now : Nat → Int32) (x2 : Int32) (x3 : Int32) (x4 : Int32) (x5 : Int32) (x6 : Int32) (post : Int32 → Prop) (hw : wp_X8_fitByN m_item m_now x2 x3 x4 x5 x6 post) : Met l yX8_fitBy wsX8_fitBy ({ frames := 4, cells := 0, slots := 0, locals := 100 } : Room) (va_Pc [.ref m_mo, .ref m_anow, .int x2, .int x3, .int x4, .int x5, .int x6] (xR D G [(m_mo, .inr (8, [.ref m_alane, .ref m_asize, .ref m_aitem, .int m_letters, .ref m_atape, .int m_position, .int m_number, .ref m_anow, .ref m_atried, .ref m_aread, .ref m_akept, .int m_isKept, .ref m_anoticed, .ref m_aneeds, .ref m_aorder, .int m_many, .int m_one, .int m_two])), (m_aitem, .inl (G 1, 96, .inr (.inl m_item))), (m_anow, .inl (G 0, 55, .inl m_now))])) (vp_Si post) 0 0 (fun _ => False) := by
  refine Met.ofW (cc := cX8_fitBy) (maxL := 9) (ret := (some .int)) (by decide) rfl ?_
  intro p e s m args below meth c s₁ B hml hv
  obtain ⟨rfl, hP, hK⟩ := hv
  have hx := B.exec
  have hb := B.bytes
  have hr := B.returns
  have hts := atoms_spec (ws := wsX8_fitBy) B.pre
  have hown : s.vm.findClass RX8 = some m.cls := findClass_of_methodNamed B.named
  have hlocks := B.notSynchronized
  have inX8 : ∀ w ∈ wsX80, w ∈ wsX8_fitBy := by decide +kernel
  have fl23 := hts (.fieldLink RX8 23 "NewsCowModel" "now" "[I") (by decide +kernel)
  have hl := lv_entry ([.ref m_mo, .ref m_anow, .int x2, .int x3, .int x4, .int x5, .int x6] : List Value) (n := 9) (Nat.le_of_ble_eq_true rfl)
  rw [lg_entry_eq]
  generalize (lg_sl ([.ref m_mo, .ref m_anow, .int x2, .int x3, .int x4, .int x5, .int x6] : List Value) ++ List.replicate (9 - (lg_sl ([.ref m_mo, .ref m_anow, .int x2, .int x3, .int x4, .int x5, .int x6] : List Value)).length) Slot.unset).toArray = ls at hl ⊢
  have hl : lv_has ls 9 [(0, .ref m_mo), (1, .ref m_anow), (2, .int x2), (3, .int x3), (4, .int x4), (5, .int x5), (6, .int x6)] := hl
  unfold wp_X8_fitByN at hw
  have L6 : ∀ (f6 : Nat) (x7 : Int32) (x8 : Int32) (ls : Array Slot), wp_X8_fitByN_L6 m_item m_now x2 x3 x4 x5 x6 post f6 x7 x8 → lv_has ls 9 [(0, .ref m_mo), (1, .ref m_anow), (2, .int x2), (3, .int x3), (4, .int x4), (5, .int x5), (6, .int x6), (7, .int x7), (8, .int x8)] → W p l e (headSpec wsX8_fitBy ({ frames := 4, cells := 0, slots := 0, locals := 100 } : Room)).room s m ([.ref m_mo, .ref m_anow, .int x2, .int x3, .int x4, .int x5, .int x6] : List Value).toArray below meth c s.heap [] 0 0 (MQ below (vp_Si post) ([.ref m_mo, .ref m_anow, .int x2, .int x3, .int x4, .int x5, .int x6] : List Value).toArray s 0 0 (fun _ => False)) (F0 m 6 ls []) := by
    intro f6
    induction f6 with
    | zero => intro x7 x8 ls hw hl; exact (hw : False).elim
    | succ f6 ih6 =>
      intro x7 x8 ls hw hl
      unfold wp_X8_fitByN_L6 at hw
      refine lv_iload hx hb dX8_fitBy_6 (lv_at hl 8 rfl) ?_
      refine lv_aload_n hx hb dX8_fitBy_8 rfl (lv_at hl 0 rfl) ?_
      refine va_get (D := D) (ci := 8) (v := .ref m_anow) (C := RX8) (T := TX8) (N := 18) hx hb hts inX8 hown hK hP 0 rfl rfl 7 (by decide) fl23 (fun _ h9 => h9) rfl dX8_fitBy_9 ?_
      refine lv_iconst (v := 4) hx hb dX8_fitBy_12 (by decide) ?_
      refine x_iald (j := 4) hx hb hK hP 2 0 rfl rfl (by decide) (x_in (by decide)) dX8_fitBy_13 ?_
      refine lv_icmp_ge (tgt := 54) hx hb dX8_fitBy_14 (by decide) (fun c9 => ?_) (fun c9 => ?_)
      · replace hw := hw.1 c9
        refine lv_iload hx hb dX8_fitBy_54 (lv_at hl 7 rfl) ?_
        exact W.iret hx hb hr (fun t ht _ => ⟨_, rfl, hw, ht⟩) (fun _ h => absurd h List.not_mem_nil) dX8_fitBy_56
      · replace hw := hw.2 c9
        refine lv_iload hx hb dX8_fitBy_17 (lv_at hl 7 rfl) ?_
        refine lv_aload_n hx hb dX8_fitBy_19 rfl (lv_at hl 0 rfl) ?_
        refine lv_aload_n hx hb dX8_fitBy_20 rfl (lv_at hl 1 rfl) ?_
        refine lv_iload_n hx hb dX8_fitBy_21 rfl (lv_at hl 2 rfl) ?_
        refine lv_iload_n hx hb dX8_fitBy_22 rfl (lv_at hl 3 rfl) ?_
        refine lv_iload hx hb dX8_fitBy_23 (lv_at hl 4 rfl) ?_
        refine lv_iload hx hb dX8_fitBy_25 (lv_at hl 5 rfl) ?_
        refine lv_iload hx hb dX8_fitBy_27 (lv_at hl 8 rfl) ?_
        refine vp_callSi (W.runV (As := [.ref m_anow, .int x2, .int x3, .int x4, .int x5, .int x8]) (rest := [.int x7]) ⟨hx, hb, hml, hown, hts⟩ (c_X8_liesN l D G m_mo m_alane m_asize m_aitem m_atape m_anow m_atried m_aread m_akept m_anoticed m_aneeds m_aorder m_letters m_position m_number m_isKept m_many m_one m_two m_item m_now x2 x3 x4 x5 x8 _ hw) (cwV 6 hts gX8_fitBy_X8_lies rfl rfl rfl (by decide +kernel) ⟨(Nat.le_of_ble_eq_true rfl), (Nat.le_of_ble_eq_true rfl)⟩) (xR_pv (hP.sub [0, 1, 2] rfl) hK (va_recv hK hP (ci := 8) (q0 := 0) rfl rfl)) rfl rfl hl.1 rfl (lv_room (Nat.le_of_ble_eq_true rfl)) dX8_fitBy_29 ⟨Nat.zero_le _, Nat.zero_le _⟩) (fun r1 hw => ?_)
        refine lv_iload hx hb dX8_fitBy_32 (lv_at hl 6 rfl) ?_
        refine lv_icmp_gt (tgt := 44) hx hb dX8_fitBy_34 (by decide) (fun c9 => ?_) (fun c9 => ?_)
        · replace hw := hw.1 c9
          refine lv_iconst (v := 0) hx hb dX8_fitBy_44 (by decide) ?_
          refine lv_ior hx hb dX8_fitBy_45 ?_
          refine lv_istore (lv' := [(7, .int (x7 ||| (0 : Int32))), (0, .ref m_mo), (1, .ref m_anow), (2, .int x2), (3, .int x3), (4, .int x4), (5, .int x5), (6, .int x6), (8, .int x8)]) hx hb dX8_fitBy_46 hl (by decide) rfl (fun ls hl => ?_)
          refine lv_iinc (v := (x8 + 1)) (lv' := [(8, .int (x8 + 1)), (7, .int (x7 ||| (0 : Int32))), (0, .ref m_mo), (1, .ref m_anow), (2, .int x2), (3, .int x3), (4, .int x4), (5, .int x5), (6, .int x6)]) hx hb dX8_fitBy_48 hl (k := 8) rfl (by first | rfl | decide) (by decide) rfl (fun ls hl => ?_)
          refine lv_goto (tgt := 6) hx hb dX8_fitBy_51 (by decide) ?_
          exact ih6 (x7 ||| (0 : Int32)) (x8 + 1) _ hw (lv_sub hl [2, 3, 4, 5, 6, 7, 8, 1, 0] rfl)
        · replace hw := hw.2 c9
          refine lv_iconst (v := 1) hx hb dX8_fitBy_37 (by decide) ?_
          refine lv_iload hx hb dX8_fitBy_38 (lv_at hl 8 rfl) ?_
          refine lv_ishl hx hb dX8_fitBy_40 ?_
          refine lv_goto (tgt := 45) hx hb dX8_fitBy_41 (by decide) ?_
          refine lv_ior hx hb dX8_fitBy_45 ?_
          refine lv_istore (lv' := [(7, .int (x7 ||| ((1 : Int32) <<< (x8 &&& 31)))), (0, .ref m_mo), (1, .ref m_anow), (2, .int x2), (3, .int x3), (4, .int x4), (5, .int x5), (6, .int x6), (8, .int x8)]) hx hb dX8_fitBy_46 hl (by decide) rfl (fun ls hl => ?_)
          refine lv_iinc (v := (x8 + 1)) (lv' := [(8, .int (x8 + 1)), (7, .int (x7 ||| ((1 : Int32) <<< (x8 &&& 31)))), (0, .ref m_mo), (1, .ref m_anow), (2, .int x2), (3, .int x3), (4, .int x4), (5, .int x5), (6, .int x6)]) hx hb dX8_fitBy_48 hl (k := 8) rfl (by first | rfl | decide) (by decide) rfl (fun ls hl => ?_)
          refine lv_goto (tgt := 6) hx hb dX8_fitBy_51 (by decide) ?_
          exact ih6 (x7 ||| ((1 : Int32) <<< (x8 &&& 31))) (x8 + 1) _ hw (lv_sub hl [2, 3, 4, 5, 6, 7, 8, 1, 0] rfl)
  refine lv_iconst (v := 0) hx hb dX8_fitBy_0 (by decide) ?_
  refine lv_istore (lv' := [(7, .int (0 : Int32)), (0, .ref m_mo), (1, .ref m_anow), (2, .int x2), (3, .int x3), (4, .int x4), (5, .int x5), (6, .int x6)]) hx hb dX8_fitBy_1 hl (by decide) rfl (fun ls hl => ?_)
  refine lv_iconst (v := 0) hx hb dX8_fitBy_3 (by decide) ?_
  refine lv_istore (lv' := [(8, .int (0 : Int32)), (7, .int (0 : Int32)), (0, .ref m_mo), (1, .ref m_anow), (2, .int x2), (3, .int x3), (4, .int x4), (5, .int x5), (6, .int x6)]) hx hb dX8_fitBy_4 hl (by decide) rfl (fun ls hl => ?_)
  obtain ⟨n, hw⟩ := hw
  exact L6 n (0 : Int32) (0 : Int32) _ hw (lv_sub hl [2, 3, 4, 5, 6, 7, 8, 1, 0] rfl)
set_option maxHeartbeats 4000000 in
set_option maxRecDepth 100000 in
theorem c_X8_fitByT (l : Launch) (D : va_G) (G : Nat → ClassId) (m_mo : Nat) (m_alane : Nat) (m_asize : Nat) (m_aitem : Nat) (m_atape : Nat) (m_anow : Nat) (m_atried : Nat) (m_aread : Nat) (m_akept : Nat) (m_anoticed : Nat) (m_aneeds : Nat) (m_aorder : Nat) (m_letters : Int32) (m_position : Int32) (m_number : Int32) (m_isKept : Int32) (m_many : Int32) (m_one : Int32) (m_two : Int32) (m_item : Nat → Int64) (m_now : Nat → Int32) (m_tried : Nat → Int32) (x2 : Int32) (x3 : Int32) (x4 : Int32) (x5 : Int32) (x6 : Int32) (post : Int32 → Prop) (hw : wp_X8_fitByT m_item m_now m_tried x2 x3 x4 x5 x6 post) : Met l yX8_fitBy wsX8_fitBy ({ frames := 4, cells := 0, slots := 0, locals := 100 } : Room) (va_Pc [.ref m_mo, .ref m_atried, .int x2, .int x3, .int x4, .int x5, .int x6] (xR D G [(m_mo, .inr (8, [.ref m_alane, .ref m_asize, .ref m_aitem, .int m_letters, .ref m_atape, .int m_position, .int m_number, .ref m_anow, .ref m_atried, .ref m_aread, .ref m_akept, .int m_isKept, .ref m_anoticed, .ref m_aneeds, .ref m_aorder, .int m_many, .int m_one, .int m_two])), (m_aitem, .inl (G 1, 96, .inr (.inl m_item))), (m_anow, .inl (G 0, 55, .inl m_now)), (m_atried, .inl (G 0, 55, .inl m_tried))])) (vp_Si post) 0 0 (fun _ => False) := by
  refine Met.ofW (cc := cX8_fitBy) (maxL := 9) (ret := (some .int)) (by decide) rfl ?_
  intro p e s m args below meth c s₁ B hml hv
  obtain ⟨rfl, hP, hK⟩ := hv
  have hx := B.exec
  have hb := B.bytes
  have hr := B.returns
  have hts := atoms_spec (ws := wsX8_fitBy) B.pre
  have hown : s.vm.findClass RX8 = some m.cls := findClass_of_methodNamed B.named
  have hlocks := B.notSynchronized
  have inX8 : ∀ w ∈ wsX80, w ∈ wsX8_fitBy := by decide +kernel
  have fl23 := hts (.fieldLink RX8 23 "NewsCowModel" "now" "[I") (by decide +kernel)
  have hl := lv_entry ([.ref m_mo, .ref m_atried, .int x2, .int x3, .int x4, .int x5, .int x6] : List Value) (n := 9) (Nat.le_of_ble_eq_true rfl)
  rw [lg_entry_eq]
  generalize (lg_sl ([.ref m_mo, .ref m_atried, .int x2, .int x3, .int x4, .int x5, .int x6] : List Value) ++ List.replicate (9 - (lg_sl ([.ref m_mo, .ref m_atried, .int x2, .int x3, .int x4, .int x5, .int x6] : List Value)).length) Slot.unset).toArray = ls at hl ⊢
  have hl : lv_has ls 9 [(0, .ref m_mo), (1, .ref m_atried), (2, .int x2), (3, .int x3), (4, .int x4), (5, .int x5), (6, .int x6)] := hl
  unfold wp_X8_fitByT at hw
  have L6 : ∀ (f6 : Nat) (x7 : Int32) (x8 : Int32) (ls : Array Slot), wp_X8_fitByT_L6 m_item m_now m_tried x2 x3 x4 x5 x6 post f6 x7 x8 → lv_has ls 9 [(0, .ref m_mo), (1, .ref m_atried), (2, .int x2), (3, .int x3), (4, .int x4), (5, .int x5), (6, .int x6), (7, .int x7), (8, .int x8)] → W p l e (headSpec wsX8_fitBy ({ frames := 4, cells := 0, slots := 0, locals := 100 } : Room)).room s m ([.ref m_mo, .ref m_atried, .int x2, .int x3, .int x4, .int x5, .int x6] : List Value).toArray below meth c s.heap [] 0 0 (MQ below (vp_Si post) ([.ref m_mo, .ref m_atried, .int x2, .int x3, .int x4, .int x5, .int x6] : List Value).toArray s 0 0 (fun _ => False)) (F0 m 6 ls []) := by
    intro f6
    induction f6 with
    | zero => intro x7 x8 ls hw hl; exact (hw : False).elim
    | succ f6 ih6 =>
      intro x7 x8 ls hw hl
      unfold wp_X8_fitByT_L6 at hw
      refine lv_iload hx hb dX8_fitBy_6 (lv_at hl 8 rfl) ?_
      refine lv_aload_n hx hb dX8_fitBy_8 rfl (lv_at hl 0 rfl) ?_
      refine va_get (D := D) (ci := 8) (v := .ref m_anow) (C := RX8) (T := TX8) (N := 18) hx hb hts inX8 hown hK hP 0 rfl rfl 7 (by decide) fl23 (fun _ h9 => h9) rfl dX8_fitBy_9 ?_
      refine lv_iconst (v := 4) hx hb dX8_fitBy_12 (by decide) ?_
      refine x_iald (j := 4) hx hb hK hP 2 0 rfl rfl (by decide) (x_in (by decide)) dX8_fitBy_13 ?_
      refine lv_icmp_ge (tgt := 54) hx hb dX8_fitBy_14 (by decide) (fun c9 => ?_) (fun c9 => ?_)
      · replace hw := hw.1 c9
        refine lv_iload hx hb dX8_fitBy_54 (lv_at hl 7 rfl) ?_
        exact W.iret hx hb hr (fun t ht _ => ⟨_, rfl, hw, ht⟩) (fun _ h => absurd h List.not_mem_nil) dX8_fitBy_56
      · replace hw := hw.2 c9
        refine lv_iload hx hb dX8_fitBy_17 (lv_at hl 7 rfl) ?_
        refine lv_aload_n hx hb dX8_fitBy_19 rfl (lv_at hl 0 rfl) ?_
        refine lv_aload_n hx hb dX8_fitBy_20 rfl (lv_at hl 1 rfl) ?_
        refine lv_iload_n hx hb dX8_fitBy_21 rfl (lv_at hl 2 rfl) ?_
        refine lv_iload_n hx hb dX8_fitBy_22 rfl (lv_at hl 3 rfl) ?_
        refine lv_iload hx hb dX8_fitBy_23 (lv_at hl 4 rfl) ?_
        refine lv_iload hx hb dX8_fitBy_25 (lv_at hl 5 rfl) ?_
        refine lv_iload hx hb dX8_fitBy_27 (lv_at hl 8 rfl) ?_
        refine vp_callSi (W.runV (As := [.ref m_atried, .int x2, .int x3, .int x4, .int x5, .int x8]) (rest := [.int x7]) ⟨hx, hb, hml, hown, hts⟩ (c_X8_liesT l D G m_mo m_alane m_asize m_aitem m_atape m_anow m_atried m_aread m_akept m_anoticed m_aneeds m_aorder m_letters m_position m_number m_isKept m_many m_one m_two m_item m_tried x2 x3 x4 x5 x8 _ hw) (cwV 6 hts gX8_fitBy_X8_lies rfl rfl rfl (by decide +kernel) ⟨(Nat.le_of_ble_eq_true rfl), (Nat.le_of_ble_eq_true rfl)⟩) (xR_pv (hP.sub [0, 1, 3] rfl) hK (va_recv hK hP (ci := 8) (q0 := 0) rfl rfl)) rfl rfl hl.1 rfl (lv_room (Nat.le_of_ble_eq_true rfl)) dX8_fitBy_29 ⟨Nat.zero_le _, Nat.zero_le _⟩) (fun r1 hw => ?_)
        refine lv_iload hx hb dX8_fitBy_32 (lv_at hl 6 rfl) ?_
        refine lv_icmp_gt (tgt := 44) hx hb dX8_fitBy_34 (by decide) (fun c9 => ?_) (fun c9 => ?_)
        · replace hw := hw.1 c9
          refine lv_iconst (v := 0) hx hb dX8_fitBy_44 (by decide) ?_
          refine lv_ior hx hb dX8_fitBy_45 ?_
          refine lv_istore (lv' := [(7, .int (x7 ||| (0 : Int32))), (0, .ref m_mo), (1, .ref m_atried), (2, .int x2), (3, .int x3), (4, .int x4), (5, .int x5), (6, .int x6), (8, .int x8)]) hx hb dX8_fitBy_46 hl (by decide) rfl (fun ls hl => ?_)
          refine lv_iinc (v := (x8 + 1)) (lv' := [(8, .int (x8 + 1)), (7, .int (x7 ||| (0 : Int32))), (0, .ref m_mo), (1, .ref m_atried), (2, .int x2), (3, .int x3), (4, .int x4), (5, .int x5), (6, .int x6)]) hx hb dX8_fitBy_48 hl (k := 8) rfl (by first | rfl | decide) (by decide) rfl (fun ls hl => ?_)
          refine lv_goto (tgt := 6) hx hb dX8_fitBy_51 (by decide) ?_
          exact ih6 (x7 ||| (0 : Int32)) (x8 + 1) _ hw (lv_sub hl [2, 3, 4, 5, 6, 7, 8, 1, 0] rfl)
        · replace hw := hw.2 c9
          refine lv_iconst (v := 1) hx hb dX8_fitBy_37 (by decide) ?_
          refine lv_iload hx hb dX8_fitBy_38 (lv_at hl 8 rfl) ?_
          refine lv_ishl hx hb dX8_fitBy_40 ?_
          refine lv_goto (tgt := 45) hx hb dX8_fitBy_41 (by decide) ?_
          refine lv_ior hx hb dX8_fitBy_45 ?_
          refine lv_istore (lv' := [(7, .int (x7 ||| ((1 : Int32) <<< (x8 &&& 31)))), (0, .ref m_mo), (1, .ref m_atried), (2, .int x2), (3, .int x3), (4, .int x4), (5, .int x5), (6, .int x6), (8, .int x8)]) hx hb dX8_fitBy_46 hl (by decide) rfl (fun ls hl => ?_)
          refine lv_iinc (v := (x8 + 1)) (lv' := [(8, .int (x8 + 1)), (7, .int (x7 ||| ((1 : Int32) <<< (x8 &&& 31)))), (0, .ref m_mo), (1, .ref m_atried), (2, .int x2), (3, .int x3), (4, .int x4), (5, .int x5), (6, .int x6)]) hx hb dX8_fitBy_48 hl (k := 8) rfl (by first | rfl | decide) (by decide) rfl (fun ls hl => ?_)
          refine lv_goto (tgt := 6) hx hb dX8_fitBy_51 (by decide) ?_
          exact ih6 (x7 ||| ((1 : Int32) <<< (x8 &&& 31))) (x8 + 1) _ hw (lv_sub hl [2, 3, 4, 5, 6, 7, 8, 1, 0] rfl)
  refine lv_iconst (v := 0) hx hb dX8_fitBy_0 (by decide) ?_
  refine lv_istore (lv' := [(7, .int (0 : Int32)), (0, .ref m_mo), (1, .ref m_atried), (2, .int x2), (3, .int x3), (4, .int x4), (5, .int x5), (6, .int x6)]) hx hb dX8_fitBy_1 hl (by decide) rfl (fun ls hl => ?_)
  refine lv_iconst (v := 0) hx hb dX8_fitBy_3 (by decide) ?_
  refine lv_istore (lv' := [(8, .int (0 : Int32)), (7, .int (0 : Int32)), (0, .ref m_mo), (1, .ref m_atried), (2, .int x2), (3, .int x3), (4, .int x4), (5, .int x5), (6, .int x6)]) hx hb dX8_fitBy_4 hl (by decide) rfl (fun ls hl => ?_)
  obtain ⟨n, hw⟩ := hw
  exact L6 n (0 : Int32) (0 : Int32) _ hw (lv_sub hl [2, 3, 4, 5, 6, 7, 8, 1, 0] rfl)
set_option maxHeartbeats 4000000 in
set_option maxRecDepth 100000 in
theorem c_X8_fits (l : Launch) (D : va_G) (G : Nat → ClassId) (sz : Nat) (m_mo : Nat) (m_alane : Nat) (m_asize : Nat) (m_aitem : Nat) (m_atape : Nat) (m_anow : Nat) (m_atried : Nat) (m_aread : Nat) (m_akept : Nat) (m_anoticed : Nat) (m_aneeds : Nat) (m_aorder : Nat) (m_letters : Int32) (m_position : Int32) (m_number : Int32) (m_isKept : Int32) (m_many : Int32) (m_one : Int32) (m_two : Int32) (m_lane : Nat → Int32) (m_size : Nat → Int32) (m_item : Nat → Int64) (m_now : Nat → Int32) (m_tried : Nat → Int32) (x1 : Int32) (x2 : Int32) (x3 : Int32) (x4 : Int32) (x5 : Int32) (x6 : Int32) (post : Int32 → (Nat → Int32) → Prop) (hw : wp_X8_fits m_lane m_size m_item m_now m_tried x1 x2 x3 x4 x5 x6 post) : Met l yX8_fits wsX8_fits ({ frames := 5, cells := 0, slots := 0, locals := 128 } : Room) (va_Pc [.ref m_mo, .int x1, .int x2, .int x3, .int x4, .int x5, .int x6] (xM D G sz [(m_mo, .inr (8, [.ref m_alane, .ref m_asize, .ref m_aitem, .int m_letters, .ref m_atape, .int m_position, .int m_number, .ref m_anow, .ref m_atried, .ref m_aread, .ref m_akept, .int m_isKept, .ref m_anoticed, .ref m_aneeds, .ref m_aorder, .int m_many, .int m_one, .int m_two])), (m_alane, .inl (G 0, 4, .inl m_lane)), (m_asize, .inl (G 0, 4, .inl m_size)), (m_aitem, .inl (G 1, 96, .inr (.inl m_item))), (m_anow, .inl (G 0, 55, .inl m_now)), (m_atried, .inl (G 0, 55, .inl m_tried))])) (va_Qi (fun r (u : (Nat → Int32)) => post r u) (fun u t => xE D G (va_A [(m_mo, .inr (8, [.ref m_alane, .ref m_asize, .ref m_aitem, .int m_letters, .ref m_atape, .int m_position, .int m_number, .ref m_anow, .ref m_atried, .ref m_aread, .ref m_akept, .int m_isKept, .ref m_anoticed, .ref m_aneeds, .ref m_aorder, .int m_many, .int m_one, .int m_two])), (m_alane, .inl (G 0, 4, .inl m_lane)), (m_asize, .inl (G 0, 4, .inl m_size)), (m_aitem, .inl (G 1, 96, .inr (.inl m_item))), (m_anow, .inl (G 0, 55, .inl m_now)), (m_atried, .inl (G 0, 55, .inl m_tried))] sz) [(m_mo, .inr (8, [.ref m_alane, .ref m_asize, .ref m_aitem, .int m_letters, .ref m_atape, .int m_position, .int m_number, .ref m_anow, .ref m_atried, .ref m_aread, .ref m_akept, .int m_isKept, .ref m_anoticed, .ref m_aneeds, .ref m_aorder, .int m_many, .int m_one, .int m_two])), (m_alane, .inl (G 0, 4, .inl m_lane)), (m_asize, .inl (G 0, 4, .inl m_size)), (m_aitem, .inl (G 1, 96, .inr (.inl m_item))), (m_anow, .inl (G 0, 55, .inl m_now)), (m_atried, .inl (G 0, 55, .inl u))] t) (va_A [(m_mo, .inr (8, [.ref m_alane, .ref m_asize, .ref m_aitem, .int m_letters, .ref m_atape, .int m_position, .int m_number, .ref m_anow, .ref m_atried, .ref m_aread, .ref m_akept, .int m_isKept, .ref m_anoticed, .ref m_aneeds, .ref m_aorder, .int m_many, .int m_one, .int m_two])), (m_alane, .inl (G 0, 4, .inl m_lane)), (m_asize, .inl (G 0, 4, .inl m_size)), (m_aitem, .inl (G 1, 96, .inr (.inl m_item))), (m_anow, .inl (G 0, 55, .inl m_now)), (m_atried, .inl (G 0, 55, .inl m_tried))] sz)) 0 0 (va_A [(m_mo, .inr (8, [.ref m_alane, .ref m_asize, .ref m_aitem, .int m_letters, .ref m_atape, .int m_position, .int m_number, .ref m_anow, .ref m_atried, .ref m_aread, .ref m_akept, .int m_isKept, .ref m_anoticed, .ref m_aneeds, .ref m_aorder, .int m_many, .int m_one, .int m_two])), (m_alane, .inl (G 0, 4, .inl m_lane)), (m_asize, .inl (G 0, 4, .inl m_size)), (m_aitem, .inl (G 1, 96, .inr (.inl m_item))), (m_anow, .inl (G 0, 55, .inl m_now)), (m_atried, .inl (G 0, 55, .inl m_tried))] sz) := by
  refine Met.ofW (cc := cX8_fits) (maxL := 10) (ret := (some .int)) (by decide) rfl ?_
  intro p e s m args below meth c s₁ B hml hv
  obtain ⟨rfl, hsz, hP, hK, hD0⟩ := hv
  have hx := B.exec
  have hb := B.bytes
  have hr := B.returns
  have hts := atoms_spec (ws := wsX8_fits) B.pre
  have hown : s.vm.findClass RX8 = some m.cls := findClass_of_methodNamed B.named
  have hlocks := B.notSynchronized
  subst hsz
  have hD := hD0.self (sz := s.heap.size)
  generalize hAe : va_A [(m_mo, .inr (8, [.ref m_alane, .ref m_asize, .ref m_aitem, .int m_letters, .ref m_atape, .int m_position, .int m_number, .ref m_anow, .ref m_atried, .ref m_aread, .ref m_akept, .int m_isKept, .ref m_anoticed, .ref m_aneeds, .ref m_aorder, .int m_many, .int m_one, .int m_two])), (m_alane, .inl (G 0, 4, .inl m_lane)), (m_asize, .inl (G 0, 4, .inl m_size)), (m_aitem, .inl (G 1, 96, .inr (.inl m_item))), (m_anow, .inl (G 0, 55, .inl m_now)), (m_atried, .inl (G 0, 55, .inl m_tried))] s.heap.size = A at hD ⊢
  have hA : ∀ q : Nat, s.heap.size ≤ q → A q := fun q h => by rw [← hAe]; exact Or.inr h
  have hS : va_S A s.heap s.heap [] := va_S.rf
  have inX8 : ∀ w ∈ wsX80, w ∈ wsX8_fits := by decide +kernel
  have fl23 := hts (.fieldLink RX8 23 "NewsCowModel" "now" "[I") (by decide +kernel)
  have fl26 := hts (.fieldLink RX8 26 "NewsCowModel" "tried" "[I") (by decide +kernel)
  have hl := lv_entry ([.ref m_mo, .int x1, .int x2, .int x3, .int x4, .int x5, .int x6] : List Value) (n := 10) (Nat.le_of_ble_eq_true rfl)
  rw [lg_entry_eq]
  generalize (lg_sl ([.ref m_mo, .int x1, .int x2, .int x3, .int x4, .int x5, .int x6] : List Value) ++ List.replicate (10 - (lg_sl ([.ref m_mo, .int x1, .int x2, .int x3, .int x4, .int x5, .int x6] : List Value)).length) Slot.unset).toArray = ls at hl ⊢
  have hl : lv_has ls 10 [(0, .ref m_mo), (1, .int x1), (2, .int x2), (3, .int x3), (4, .int x4), (5, .int x5), (6, .int x6)] := hl
  unfold wp_X8_fits at hw
  have L99 : ∀ (f99 : Nat) (x8 : Int32) (x9 : Int32) (m_tried : Nat → Int32) (H : Heap) (locs : List Loc) (ls : Array Slot), wp_X8_fits_L99 m_item m_now x1 x2 x4 x5 x6 post f99 m_tried x8 x9 → va_P D vwCl [(m_mo, .inr (8, [.ref m_alane, .ref m_asize, .ref m_aitem, .int m_letters, .ref m_atape, .int m_position, .int m_number, .ref m_anow, .ref m_atried, .ref m_aread, .ref m_akept, .int m_isKept, .ref m_anoticed, .ref m_aneeds, .ref m_aorder, .int m_many, .int m_one, .int m_two])), (m_alane, .inl (G 0, 4, .inl m_lane)), (m_asize, .inl (G 0, 4, .inl m_size)), (m_aitem, .inl (G 1, 96, .inr (.inl m_item))), (m_anow, .inl (G 0, 55, .inl m_now)), (m_atried, .inl (G 0, 55, .inl m_tried))] H → va_D A [(m_mo, .inr (8, [.ref m_alane, .ref m_asize, .ref m_aitem, .int m_letters, .ref m_atape, .int m_position, .int m_number, .ref m_anow, .ref m_atried, .ref m_aread, .ref m_akept, .int m_isKept, .ref m_anoticed, .ref m_aneeds, .ref m_aorder, .int m_many, .int m_one, .int m_two])), (m_alane, .inl (G 0, 4, .inl m_lane)), (m_asize, .inl (G 0, 4, .inl m_size)), (m_aitem, .inl (G 1, 96, .inr (.inl m_item))), (m_anow, .inl (G 0, 55, .inl m_now)), (m_atried, .inl (G 0, 55, .inl m_tried))] → va_S A s.heap H locs → lv_has ls 10 [(0, .ref m_mo), (1, .int x1), (2, .int x2), (4, .int x4), (5, .int x5), (6, .int x6), (8, .int x8), (9, .int x9)] → W p l e (headSpec wsX8_fits ({ frames := 5, cells := 0, slots := 0, locals := 128 } : Room)).room s m ([.ref m_mo, .int x1, .int x2, .int x3, .int x4, .int x5, .int x6] : List Value).toArray below meth c H locs 0 0 (MQ below (va_Qi (fun r (u : (Nat → Int32)) => post r u) (fun u t => xE D G A [(m_mo, .inr (8, [.ref m_alane, .ref m_asize, .ref m_aitem, .int m_letters, .ref m_atape, .int m_position, .int m_number, .ref m_anow, .ref m_atried, .ref m_aread, .ref m_akept, .int m_isKept, .ref m_anoticed, .ref m_aneeds, .ref m_aorder, .int m_many, .int m_one, .int m_two])), (m_alane, .inl (G 0, 4, .inl m_lane)), (m_asize, .inl (G 0, 4, .inl m_size)), (m_aitem, .inl (G 1, 96, .inr (.inl m_item))), (m_anow, .inl (G 0, 55, .inl m_now)), (m_atried, .inl (G 0, 55, .inl u))] t) A) ([.ref m_mo, .int x1, .int x2, .int x3, .int x4, .int x5, .int x6] : List Value).toArray s 0 0 A) (F0 m 99 ls []) := by
    intro f99
    induction f99 with
    | zero => intro x8 x9 m_tried H locs ls hw hP hD hS hl; exact (hw : False).elim
    | succ f99 ih99 =>
      intro x8 x9 m_tried H locs ls hw hP hD hS hl
      unfold wp_X8_fits_L99 at hw
      have J148 : ∀ (x8 : Int32) (x9 : Int32) (k0 : Int32) (m_tried : Nat → Int32) (H : Heap) (locs : List Loc) (ls : Array Slot), wp_X8_fits_J148 m_item m_now m_tried x1 x2 x4 x5 x8 x9 k0 (wp_X8_fits_L99 m_item m_now x1 x2 x4 x5 x6 post f99) post → va_P D vwCl [(m_mo, .inr (8, [.ref m_alane, .ref m_asize, .ref m_aitem, .int m_letters, .ref m_atape, .int m_position, .int m_number, .ref m_anow, .ref m_atried, .ref m_aread, .ref m_akept, .int m_isKept, .ref m_anoticed, .ref m_aneeds, .ref m_aorder, .int m_many, .int m_one, .int m_two])), (m_alane, .inl (G 0, 4, .inl m_lane)), (m_asize, .inl (G 0, 4, .inl m_size)), (m_aitem, .inl (G 1, 96, .inr (.inl m_item))), (m_anow, .inl (G 0, 55, .inl m_now)), (m_atried, .inl (G 0, 55, .inl m_tried))] H → va_D A [(m_mo, .inr (8, [.ref m_alane, .ref m_asize, .ref m_aitem, .int m_letters, .ref m_atape, .int m_position, .int m_number, .ref m_anow, .ref m_atried, .ref m_aread, .ref m_akept, .int m_isKept, .ref m_anoticed, .ref m_aneeds, .ref m_aorder, .int m_many, .int m_one, .int m_two])), (m_alane, .inl (G 0, 4, .inl m_lane)), (m_asize, .inl (G 0, 4, .inl m_size)), (m_aitem, .inl (G 1, 96, .inr (.inl m_item))), (m_anow, .inl (G 0, 55, .inl m_now)), (m_atried, .inl (G 0, 55, .inl m_tried))] → va_S A s.heap H locs → lv_has ls 10 [(0, .ref m_mo), (1, .int x1), (2, .int x2), (4, .int x4), (5, .int x5), (6, .int x6), (8, .int x8), (9, .int x9)] → W p l e (headSpec wsX8_fits ({ frames := 5, cells := 0, slots := 0, locals := 128 } : Room)).room s m ([.ref m_mo, .int x1, .int x2, .int x3, .int x4, .int x5, .int x6] : List Value).toArray below meth c H locs 0 0 (MQ below (va_Qi (fun r (u : (Nat → Int32)) => post r u) (fun u t => xE D G A [(m_mo, .inr (8, [.ref m_alane, .ref m_asize, .ref m_aitem, .int m_letters, .ref m_atape, .int m_position, .int m_number, .ref m_anow, .ref m_atried, .ref m_aread, .ref m_akept, .int m_isKept, .ref m_anoticed, .ref m_aneeds, .ref m_aorder, .int m_many, .int m_one, .int m_two])), (m_alane, .inl (G 0, 4, .inl m_lane)), (m_asize, .inl (G 0, 4, .inl m_size)), (m_aitem, .inl (G 1, 96, .inr (.inl m_item))), (m_anow, .inl (G 0, 55, .inl m_now)), (m_atried, .inl (G 0, 55, .inl u))] t) A) ([.ref m_mo, .int x1, .int x2, .int x3, .int x4, .int x5, .int x6] : List Value).toArray s 0 0 A) (F0 m 148 ls [.int k0, .ref m_atried]) := by
        intro x8 x9 k0 m_tried H locs ls hw hP hD hS hl
        unfold wp_X8_fits_J148 at hw
        refine lv_iload_n hx hb dX8_fits_148 rfl (lv_at hl 1 rfl) ?_
        refine lv_iadd hx hb dX8_fits_149 ?_
        refine lv_iload hx hb dX8_fits_150 (lv_at hl 7 rfl) ?_
        refine x_iast (j := (k0 + x1).toNatClampNeg) hx hb hK hP hD hS 5 0 rfl rfl rfl hw.1 dX8_fits_152 (fun H locs hP hD hS => ?_)
        replace hw := hw.2
        replace hP : va_P D vwCl [(m_mo, .inr (8, [.ref m_alane, .ref m_asize, .ref m_aitem, .int m_letters, .ref m_atape, .int m_position, .int m_number, .ref m_anow, .ref m_atried, .ref m_aread, .ref m_akept, .int m_isKept, .ref m_anoticed, .ref m_aneeds, .ref m_aorder, .int m_many, .int m_one, .int m_two])), (m_alane, .inl (G 0, 4, .inl m_lane)), (m_asize, .inl (G 0, 4, .inl m_size)), (m_aitem, .inl (G 1, 96, .inr (.inl m_item))), (m_anow, .inl (G 0, 55, .inl m_now)), (m_atried, .inl (G 0, 55, .inl (upd m_tried (k0 + x1).toNatClampNeg x9)))] H := hP
        replace hD : va_D A [(m_mo, .inr (8, [.ref m_alane, .ref m_asize, .ref m_aitem, .int m_letters, .ref m_atape, .int m_position, .int m_number, .ref m_anow, .ref m_atried, .ref m_aread, .ref m_akept, .int m_isKept, .ref m_anoticed, .ref m_aneeds, .ref m_aorder, .int m_many, .int m_one, .int m_two])), (m_alane, .inl (G 0, 4, .inl m_lane)), (m_asize, .inl (G 0, 4, .inl m_size)), (m_aitem, .inl (G 1, 96, .inr (.inl m_item))), (m_anow, .inl (G 0, 55, .inl m_now)), (m_atried, .inl (G 0, 55, .inl (upd m_tried (k0 + x1).toNatClampNeg x9)))] := hD
        refine lv_iload hx hb dX8_fits_153 (lv_at hl 6 rfl) ?_
        refine lv_aload_n hx hb dX8_fits_155 rfl (lv_at hl 0 rfl) ?_
        refine lv_aload_n hx hb dX8_fits_156 rfl (lv_at hl 0 rfl) ?_
        refine va_get (D := D) (ci := 8) (v := .ref m_atried) (C := RX8) (T := TX8) (N := 18) hx hb hts inX8 hown hK hP 0 rfl rfl 8 (by decide) fl26 (fun _ h9 => h9) rfl dX8_fits_157 ?_
        refine lv_iload_n hx hb dX8_fits_160 rfl (lv_at hl 1 rfl) ?_
        refine lv_iload_n hx hb dX8_fits_161 rfl (lv_at hl 2 rfl) ?_
        refine lv_iload hx hb dX8_fits_162 (lv_at hl 3 rfl) ?_
        refine lv_iload hx hb dX8_fits_164 (lv_at hl 4 rfl) ?_
        refine lv_iconst (v := 0) hx hb dX8_fits_166 (by decide) ?_
        refine vp_callSi (W.runV (As := [.ref m_atried, .int x1, .int x2, .int x4, .int x5, .int (0 : Int32)]) (rest := [.int x8]) ⟨hx, hb, hml, hown, hts⟩ (c_X8_fitByT l D G m_mo m_alane m_asize m_aitem m_atape m_anow m_atried m_aread m_akept m_anoticed m_aneeds m_aorder m_letters m_position m_number m_isKept m_many m_one m_two m_item m_now (upd m_tried (k0 + x1).toNatClampNeg x9) x1 x2 x4 x5 (0 : Int32) _ hw) (cwV 6 hts gX8_fits_X8_fitBy rfl rfl rfl (by decide +kernel) ⟨(Nat.le_of_ble_eq_true rfl), (Nat.le_of_ble_eq_true rfl)⟩) (xR_pv (hP.sub [0, 3, 4, 5] rfl) hK (va_recv hK hP (ci := 8) (q0 := 0) rfl rfl)) rfl rfl hl.1 rfl (lv_room (Nat.le_of_ble_eq_true rfl)) dX8_fits_167 ⟨Nat.zero_le _, Nat.zero_le _⟩) (fun r9 hw => ?_)
        refine lv_if_eq (tgt := 180) hx hb dX8_fits_170 (by decide) (fun c9 => ?_) (fun c9 => ?_)
        · replace hw := hw.1 c9
          refine lv_iconst (v := 0) hx hb dX8_fits_180 (by decide) ?_
          refine lv_ior hx hb dX8_fits_181 ?_
          refine lv_istore (lv' := [(8, .int (x8 ||| (0 : Int32))), (0, .ref m_mo), (1, .int x1), (2, .int x2), (4, .int x4), (5, .int x5), (6, .int x6), (9, .int x9)]) hx hb dX8_fits_182 hl (by decide) rfl (fun ls hl => ?_)
          refine lv_iinc (v := (x9 + 1)) (lv' := [(9, .int (x9 + 1)), (8, .int (x8 ||| (0 : Int32))), (0, .ref m_mo), (1, .int x1), (2, .int x2), (4, .int x4), (5, .int x5), (6, .int x6)]) hx hb dX8_fits_184 hl (k := 7) rfl (by first | rfl | decide) (by decide) rfl (fun ls hl => ?_)
          refine lv_goto (tgt := 99) hx hb dX8_fits_187 (by decide) ?_
          exact ih99 (x8 ||| (0 : Int32)) (x9 + 1) (upd m_tried (k0 + x1).toNatClampNeg x9) _ _ _ hw hP hD hS (lv_sub hl [2, 3, 4, 5, 6, 7, 1, 0] rfl)
        · replace hw := hw.2 c9
          refine lv_iconst (v := 1) hx hb dX8_fits_173 (by decide) ?_
          refine lv_iload hx hb dX8_fits_174 (lv_at hl 7 rfl) ?_
          refine lv_ishl hx hb dX8_fits_176 ?_
          refine lv_goto (tgt := 181) hx hb dX8_fits_177 (by decide) ?_
          refine lv_ior hx hb dX8_fits_181 ?_
          refine lv_istore (lv' := [(8, .int (x8 ||| ((1 : Int32) <<< (x9 &&& 31)))), (0, .ref m_mo), (1, .int x1), (2, .int x2), (4, .int x4), (5, .int x5), (6, .int x6), (9, .int x9)]) hx hb dX8_fits_182 hl (by decide) rfl (fun ls hl => ?_)
          refine lv_iinc (v := (x9 + 1)) (lv' := [(9, .int (x9 + 1)), (8, .int (x8 ||| ((1 : Int32) <<< (x9 &&& 31)))), (0, .ref m_mo), (1, .int x1), (2, .int x2), (4, .int x4), (5, .int x5), (6, .int x6)]) hx hb dX8_fits_184 hl (k := 7) rfl (by first | rfl | decide) (by decide) rfl (fun ls hl => ?_)
          refine lv_goto (tgt := 99) hx hb dX8_fits_187 (by decide) ?_
          exact ih99 (x8 ||| ((1 : Int32) <<< (x9 &&& 31))) (x9 + 1) (upd m_tried (k0 + x1).toNatClampNeg x9) _ _ _ hw hP hD hS (lv_sub hl [2, 3, 4, 5, 6, 7, 1, 0] rfl)
      have J113 : ∀ (x8 : Int32) (x9 : Int32) (k0 : Int32) (k1 : Int32) (m_tried : Nat → Int32) (H : Heap) (locs : List Loc) (ls : Array Slot), wp_X8_fits_J113 m_item m_now m_tried x1 x2 x4 x5 x6 x8 x9 k0 k1 (wp_X8_fits_L99 m_item m_now x1 x2 x4 x5 x6 post f99) post → va_P D vwCl [(m_mo, .inr (8, [.ref m_alane, .ref m_asize, .ref m_aitem, .int m_letters, .ref m_atape, .int m_position, .int m_number, .ref m_anow, .ref m_atried, .ref m_aread, .ref m_akept, .int m_isKept, .ref m_anoticed, .ref m_aneeds, .ref m_aorder, .int m_many, .int m_one, .int m_two])), (m_alane, .inl (G 0, 4, .inl m_lane)), (m_asize, .inl (G 0, 4, .inl m_size)), (m_aitem, .inl (G 1, 96, .inr (.inl m_item))), (m_anow, .inl (G 0, 55, .inl m_now)), (m_atried, .inl (G 0, 55, .inl m_tried))] H → va_D A [(m_mo, .inr (8, [.ref m_alane, .ref m_asize, .ref m_aitem, .int m_letters, .ref m_atape, .int m_position, .int m_number, .ref m_anow, .ref m_atried, .ref m_aread, .ref m_akept, .int m_isKept, .ref m_anoticed, .ref m_aneeds, .ref m_aorder, .int m_many, .int m_one, .int m_two])), (m_alane, .inl (G 0, 4, .inl m_lane)), (m_asize, .inl (G 0, 4, .inl m_size)), (m_aitem, .inl (G 1, 96, .inr (.inl m_item))), (m_anow, .inl (G 0, 55, .inl m_now)), (m_atried, .inl (G 0, 55, .inl m_tried))] → va_S A s.heap H locs → lv_has ls 10 [(0, .ref m_mo), (1, .int x1), (2, .int x2), (4, .int x4), (5, .int x5), (6, .int x6), (8, .int x8), (9, .int x9)] → W p l e (headSpec wsX8_fits ({ frames := 5, cells := 0, slots := 0, locals := 128 } : Room)).room s m ([.ref m_mo, .int x1, .int x2, .int x3, .int x4, .int x5, .int x6] : List Value).toArray below meth c H locs 0 0 (MQ below (va_Qi (fun r (u : (Nat → Int32)) => post r u) (fun u t => xE D G A [(m_mo, .inr (8, [.ref m_alane, .ref m_asize, .ref m_aitem, .int m_letters, .ref m_atape, .int m_position, .int m_number, .ref m_anow, .ref m_atried, .ref m_aread, .ref m_akept, .int m_isKept, .ref m_anoticed, .ref m_aneeds, .ref m_aorder, .int m_many, .int m_one, .int m_two])), (m_alane, .inl (G 0, 4, .inl m_lane)), (m_asize, .inl (G 0, 4, .inl m_size)), (m_aitem, .inl (G 1, 96, .inr (.inl m_item))), (m_anow, .inl (G 0, 55, .inl m_now)), (m_atried, .inl (G 0, 55, .inl u))] t) A) ([.ref m_mo, .int x1, .int x2, .int x3, .int x4, .int x5, .int x6] : List Value).toArray s 0 0 A) (F0 m 113 ls [.int k0, .int k1]) := by
        intro x8 x9 k0 k1 m_tried H locs ls hw hP hD hS hl
        unfold wp_X8_fits_J113 at hw
        refine lv_icmp_gt (tgt := 190) hx hb dX8_fits_113 (by decide) (fun c9 => ?_) (fun c9 => ?_)
        · replace hw := hw.1 c9
          refine lv_iload hx hb dX8_fits_190 (lv_at hl 6 rfl) ?_
          exact W.iret hx hb hr (x_mi (u := m_tried) hP hK hD hS hw) hS.2.2 dX8_fits_192
        · replace hw := hw.2 c9
          refine lv_aload_n hx hb dX8_fits_116 rfl (lv_at hl 0 rfl) ?_
          refine va_get (D := D) (ci := 8) (v := .ref m_anow) (C := RX8) (T := TX8) (N := 18) hx hb hts inX8 hown hK hP 0 rfl rfl 7 (by decide) fl23 (fun _ h9 => h9) rfl dX8_fits_117 ?_
          refine lv_iconst (v := 0) hx hb dX8_fits_120 (by decide) ?_
          refine lv_aload_n hx hb dX8_fits_121 rfl (lv_at hl 0 rfl) ?_
          refine va_get (D := D) (ci := 8) (v := .ref m_atried) (C := RX8) (T := TX8) (N := 18) hx hb hts inX8 hown hK hP 0 rfl rfl 8 (by decide) fl26 (fun _ h9 => h9) rfl dX8_fits_122 ?_
          refine lv_iconst (v := 0) hx hb dX8_fits_125 (by decide) ?_
          refine lv_bipush (v := 55) hx hb dX8_fits_126 (by decide) ?_
          refine x_cMv (wr := [(m_mo, .inr (8, [.ref m_alane, .ref m_asize, .ref m_aitem, .int m_letters, .ref m_atape, .int m_position, .int m_number, .ref m_anow, .ref m_atried, .ref m_aread, .ref m_akept, .int m_isKept, .ref m_anoticed, .ref m_aneeds, .ref m_aorder, .int m_many, .int m_one, .int m_two])), (m_alane, .inl (G 0, 4, .inl m_lane)), (m_asize, .inl (G 0, 4, .inl m_size)), (m_aitem, .inl (G 1, 96, .inr (.inl m_item)))]) (va_runS (As := [.ref m_anow, .int (0 : Int32), .ref m_atried, .int (0 : Int32), .int (55 : Int32)]) (rest := []) ⟨hx, hb, hml, hown, hts⟩ (c_X8_bring l D G _ m_anow m_atried m_now m_tried (0 : Int32) (0 : Int32) (55 : Int32) _ hw) (va_cwS 5 hts gX8_fits_X8_bring rfl rfl rfl (by decide +kernel) ⟨(Nat.le_of_ble_eq_true rfl), (Nat.le_of_ble_eq_true rfl)⟩) (xM_ps (hP.sub [4, 5] rfl) hK (hD.sub [4, 5] (by decide) rfl)) rfl rfl hl.1 rfl (lv_room (Nat.le_of_ble_eq_true rfl)) dX8_fits_128 ⟨Nat.zero_le _, Nat.zero_le _⟩) hP hD hS hA [4, 5] [0, 1, 2, 3] rfl rfl (by decide) (by decide) [0, 1, 2, 3, 4, 5] (fun u => [(m_mo, .inr (8, [.ref m_alane, .ref m_asize, .ref m_aitem, .int m_letters, .ref m_atape, .int m_position, .int m_number, .ref m_anow, .ref m_atried, .ref m_aread, .ref m_akept, .int m_isKept, .ref m_anoticed, .ref m_aneeds, .ref m_aorder, .int m_many, .int m_one, .int m_two])), (m_alane, .inl (G 0, 4, .inl m_lane)), (m_asize, .inl (G 0, 4, .inl m_size)), (m_aitem, .inl (G 1, 96, .inr (.inl m_item))), (m_anow, .inl (G 0, 55, .inl m_now)), (m_atried, .inl (G 0, 55, .inl u))]) (by decide) (fun u => rfl) (fun u H locs hw hP hD hS => ?_)
          obtain ⟨v2_8, rfl⟩ : ∃ z, z = u := ⟨_, rfl⟩
          try dsimp only at hw
          replace hP : va_P D vwCl [(m_mo, .inr (8, [.ref m_alane, .ref m_asize, .ref m_aitem, .int m_letters, .ref m_atape, .int m_position, .int m_number, .ref m_anow, .ref m_atried, .ref m_aread, .ref m_akept, .int m_isKept, .ref m_anoticed, .ref m_aneeds, .ref m_aorder, .int m_many, .int m_one, .int m_two])), (m_alane, .inl (G 0, 4, .inl m_lane)), (m_asize, .inl (G 0, 4, .inl m_size)), (m_aitem, .inl (G 1, 96, .inr (.inl m_item))), (m_anow, .inl (G 0, 55, .inl m_now)), (m_atried, .inl (G 0, 55, .inl v2_8))] H := hP
          replace hD : va_D A [(m_mo, .inr (8, [.ref m_alane, .ref m_asize, .ref m_aitem, .int m_letters, .ref m_atape, .int m_position, .int m_number, .ref m_anow, .ref m_atried, .ref m_aread, .ref m_akept, .int m_isKept, .ref m_anoticed, .ref m_aneeds, .ref m_aorder, .int m_many, .int m_one, .int m_two])), (m_alane, .inl (G 0, 4, .inl m_lane)), (m_asize, .inl (G 0, 4, .inl m_size)), (m_aitem, .inl (G 1, 96, .inr (.inl m_item))), (m_anow, .inl (G 0, 55, .inl m_now)), (m_atried, .inl (G 0, 55, .inl v2_8))] := hD
          refine lv_aload_n hx hb dX8_fits_131 rfl (lv_at hl 0 rfl) ?_
          refine va_get (D := D) (ci := 8) (v := .ref m_atried) (C := RX8) (T := TX8) (N := 18) hx hb hts inX8 hown hK hP 0 rfl rfl 8 (by decide) fl26 (fun _ h9 => h9) rfl dX8_fits_132 ?_
          refine lv_iload hx hb dX8_fits_135 (lv_at hl 5 rfl) ?_
          refine lv_iconst (v := 2) hx hb dX8_fits_137 (by decide) ?_
          refine lv_icmp_ne (tgt := 146) hx hb dX8_fits_138 (by decide) (fun c9 => ?_) (fun c9 => ?_)
          · replace hw := hw.1 c9
            refine lv_bipush (v := 18) hx hb dX8_fits_146 (by decide) ?_
            exact J148 x8 x9 (18 : Int32) v2_8 _ _ _ hw hP hD hS (lv_sub hl [0, 1, 2, 3, 4, 5, 6, 7] rfl)
          · replace hw := hw.2 c9
            refine lv_bipush (v := 14) hx hb dX8_fits_141 (by decide) ?_
            refine lv_goto (tgt := 148) hx hb dX8_fits_143 (by decide) ?_
            exact J148 x8 x9 (14 : Int32) v2_8 _ _ _ hw hP hD hS (lv_sub hl [0, 1, 2, 3, 4, 5, 6, 7] rfl)
      refine lv_iload hx hb dX8_fits_99 (lv_at hl 7 rfl) ?_
      refine lv_iload hx hb dX8_fits_101 (lv_at hl 5 rfl) ?_
      refine lv_iconst (v := 2) hx hb dX8_fits_103 (by decide) ?_
      refine lv_icmp_ne (tgt := 111) hx hb dX8_fits_104 (by decide) (fun c9 => ?_) (fun c9 => ?_)
      · replace hw := hw.1 c9
        refine lv_bipush (v := 9) hx hb dX8_fits_111 (by decide) ?_
        exact J113 x8 x9 (9 : Int32) x9 m_tried _ _ _ hw hP hD hS (lv_sub hl [0, 1, 2, 3, 4, 5, 6, 7] rfl)
      · replace hw := hw.2 c9
        refine lv_iconst (v := 4) hx hb dX8_fits_107 (by decide) ?_
        refine lv_goto (tgt := 113) hx hb dX8_fits_108 (by decide) ?_
        exact J113 x8 x9 (4 : Int32) x9 m_tried _ _ _ hw hP hD hS (lv_sub hl [0, 1, 2, 3, 4, 5, 6, 7] rfl)
  refine lv_aload_n hx hb dX8_fits_0 rfl (lv_at hl 0 rfl) ?_
  refine lv_iload_n hx hb dX8_fits_1 rfl (lv_at hl 1 rfl) ?_
  refine vp_callSi (W.runV (As := [.int x1]) (rest := []) ⟨hx, hb, hml, hown, hts⟩ (c_X8_isTaster l D G m_mo m_alane m_asize m_aitem m_atape m_anow m_atried m_aread m_akept m_anoticed m_aneeds m_aorder m_letters m_position m_number m_isKept m_many m_one m_two m_now x1 _ hw) (cwV 1 hts gX8_fits_X8_isTaster rfl rfl rfl (by decide +kernel) ⟨(Nat.le_of_ble_eq_true rfl), (Nat.le_of_ble_eq_true rfl)⟩) (xR_pv (hP.sub [0, 4] rfl) hK (va_recv hK hP (ci := 8) (q0 := 0) rfl rfl)) rfl rfl hl.1 rfl (lv_room (Nat.le_of_ble_eq_true rfl)) dX8_fits_2 ⟨Nat.zero_le _, Nat.zero_le _⟩) (fun r1 hw => ?_)
  refine lv_if_eq (tgt := 45) hx hb dX8_fits_5 (by decide) (fun c9 => ?_) (fun c9 => ?_)
  · replace hw := hw.1 c9
    refine lv_iconst (v := -1) hx hb dX8_fits_45 (by decide) ?_
    exact W.iret hx hb hr (x_mi (u := m_tried) hP hK hD hS hw) hS.2.2 dX8_fits_46
  · replace hw := hw.2 c9
    refine lv_iload_n hx hb dX8_fits_8 rfl (lv_at hl 2 rfl) ?_
    refine vp_callSi (W.runS (As := [.int x2]) (rest := []) ⟨hx, hb, hml, hown, hts⟩ (c_X8_isSheet l D G x2 _ hw) (va_cwS 1 hts gX8_fits_X8_isSheet rfl rfl rfl (by decide +kernel) ⟨(Nat.le_of_ble_eq_true rfl), (Nat.le_of_ble_eq_true rfl)⟩) (xR_ps (hP.sub [] rfl) hK) rfl rfl hl.1 rfl (lv_room (Nat.le_of_ble_eq_true rfl)) dX8_fits_9 ⟨Nat.zero_le _, Nat.zero_le _⟩) (fun r2 hw => ?_)
    refine lv_if_eq (tgt := 45) hx hb dX8_fits_12 (by decide) (fun c9 => ?_) (fun c9 => ?_)
    · replace hw := hw.1 c9
      refine lv_iconst (v := -1) hx hb dX8_fits_45 (by decide) ?_
      exact W.iret hx hb hr (x_mi (u := m_tried) hP hK hD hS hw) hS.2.2 dX8_fits_46
    · replace hw := hw.2 c9
      refine lv_iload_n hx hb dX8_fits_15 rfl (lv_at hl 3 rfl) ?_
      refine lv_iconst (v := 0) hx hb dX8_fits_16 (by decide) ?_
      refine lv_iconst (v := 3) hx hb dX8_fits_17 (by decide) ?_
      refine vp_callSi (W.runS (As := [.int x3, .int (0 : Int32), .int (3 : Int32)]) (rest := []) ⟨hx, hb, hml, hown, hts⟩ (c_X8_in l D G x3 (0 : Int32) (3 : Int32) _ hw) (va_cwS 3 hts gX8_fits_X8_in rfl rfl rfl (by decide +kernel) ⟨(Nat.le_of_ble_eq_true rfl), (Nat.le_of_ble_eq_true rfl)⟩) (xR_ps (hP.sub [] rfl) hK) rfl rfl hl.1 rfl (lv_room (Nat.le_of_ble_eq_true rfl)) dX8_fits_18 ⟨Nat.zero_le _, Nat.zero_le _⟩) (fun r3 hw => ?_)
      refine lv_if_eq (tgt := 45) hx hb dX8_fits_21 (by decide) (fun c9 => ?_) (fun c9 => ?_)
      · replace hw := hw.1 c9
        refine lv_iconst (v := -1) hx hb dX8_fits_45 (by decide) ?_
        exact W.iret hx hb hr (x_mi (u := m_tried) hP hK hD hS hw) hS.2.2 dX8_fits_46
      · replace hw := hw.2 c9
        refine lv_iload hx hb dX8_fits_24 (lv_at hl 5 rfl) ?_
        refine lv_iconst (v := 1) hx hb dX8_fits_26 (by decide) ?_
        refine lv_bipush (v := 6) hx hb dX8_fits_27 (by decide) ?_
        refine vp_callSi (W.runS (As := [.int x5, .int (1 : Int32), .int (6 : Int32)]) (rest := []) ⟨hx, hb, hml, hown, hts⟩ (c_X8_in l D G x5 (1 : Int32) (6 : Int32) _ hw) (va_cwS 3 hts gX8_fits_X8_in rfl rfl rfl (by decide +kernel) ⟨(Nat.le_of_ble_eq_true rfl), (Nat.le_of_ble_eq_true rfl)⟩) (xR_ps (hP.sub [] rfl) hK) rfl rfl hl.1 rfl (lv_room (Nat.le_of_ble_eq_true rfl)) dX8_fits_29 ⟨Nat.zero_le _, Nat.zero_le _⟩) (fun r4 hw => ?_)
        refine lv_if_eq (tgt := 45) hx hb dX8_fits_32 (by decide) (fun c9 => ?_) (fun c9 => ?_)
        · replace hw := hw.1 c9
          refine lv_iconst (v := -1) hx hb dX8_fits_45 (by decide) ?_
          exact W.iret hx hb hr (x_mi (u := m_tried) hP hK hD hS hw) hS.2.2 dX8_fits_46
        · replace hw := hw.2 c9
          refine lv_iload hx hb dX8_fits_35 (lv_at hl 6 rfl) ?_
          refine lv_iconst (v := 0) hx hb dX8_fits_37 (by decide) ?_
          refine lv_iconst (v := 3) hx hb dX8_fits_38 (by decide) ?_
          refine vp_callSi (W.runS (As := [.int x6, .int (0 : Int32), .int (3 : Int32)]) (rest := []) ⟨hx, hb, hml, hown, hts⟩ (c_X8_in l D G x6 (0 : Int32) (3 : Int32) _ hw) (va_cwS 3 hts gX8_fits_X8_in rfl rfl rfl (by decide +kernel) ⟨(Nat.le_of_ble_eq_true rfl), (Nat.le_of_ble_eq_true rfl)⟩) (xR_ps (hP.sub [] rfl) hK) rfl rfl hl.1 rfl (lv_room (Nat.le_of_ble_eq_true rfl)) dX8_fits_39 ⟨Nat.zero_le _, Nat.zero_le _⟩) (fun r5 hw => ?_)
          refine lv_if_ne (tgt := 47) hx hb dX8_fits_42 (by decide) (fun c9 => ?_) (fun c9 => ?_)
          · replace hw := hw.1 c9
            refine lv_aload_n hx hb dX8_fits_47 rfl (lv_at hl 0 rfl) ?_
            refine lv_iload_n hx hb dX8_fits_48 rfl (lv_at hl 2 rfl) ?_
            refine lv_iload_n hx hb dX8_fits_49 rfl (lv_at hl 3 rfl) ?_
            refine lv_iload hx hb dX8_fits_50 (lv_at hl 4 rfl) ?_
            refine lv_iload hx hb dX8_fits_52 (lv_at hl 5 rfl) ?_
            refine vp_callSi (W.runV (As := [.int x2, .int x3, .int x4, .int x5]) (rest := []) ⟨hx, hb, hml, hown, hts⟩ (c_X8_wrongPairs l D G m_mo m_alane m_asize m_aitem m_atape m_anow m_atried m_aread m_akept m_anoticed m_aneeds m_aorder m_letters m_position m_number m_isKept m_many m_one m_two m_lane m_size m_item m_now x2 x3 x4 x5 _ hw) (cwV 4 hts gX8_fits_X8_wrongPairs rfl rfl rfl (by decide +kernel) ⟨(Nat.le_of_ble_eq_true rfl), (Nat.le_of_ble_eq_true rfl)⟩) (xR_pv (hP.sub [0, 1, 2, 3, 4] rfl) hK (va_recv hK hP (ci := 8) (q0 := 0) rfl rfl)) rfl rfl hl.1 rfl (lv_room (Nat.le_of_ble_eq_true rfl)) dX8_fits_54 ⟨Nat.zero_le _, Nat.zero_le _⟩) (fun r6 hw => ?_)
            refine lv_istore (lv' := [(7, .int r6), (0, .ref m_mo), (1, .int x1), (2, .int x2), (3, .int x3), (4, .int x4), (5, .int x5), (6, .int x6)]) hx hb dX8_fits_57 hl (by decide) rfl (fun ls hl => ?_)
            refine lv_iload hx hb dX8_fits_59 (lv_at hl 0 rfl) ?_
            refine lv_if_eq (tgt := 67) hx hb dX8_fits_61 (by decide) (fun c9 => ?_) (fun c9 => ?_)
            · replace hw := hw.1 c9
              refine lv_iload hx hb dX8_fits_67 (lv_at hl 7 rfl) ?_
              refine lv_iconst (v := 2) hx hb dX8_fits_69 (by decide) ?_
              refine lv_icmp_ge (tgt := 90) hx hb dX8_fits_70 (by decide) (fun c9 => ?_) (fun c9 => ?_)
              · replace hw := hw.1 c9
                refine lv_iconst (v := 0) hx hb dX8_fits_90 (by decide) ?_
                refine lv_istore (lv' := [(8, .int (0 : Int32)), (7, .int r6), (0, .ref m_mo), (1, .int x1), (2, .int x2), (3, .int x3), (4, .int x4), (5, .int x5), (6, .int x6)]) hx hb dX8_fits_91 hl (by decide) rfl (fun ls hl => ?_)
                refine lv_iload hx hb dX8_fits_93 (lv_at hl 8 rfl) ?_
                refine lv_iconst (v := 2) hx hb dX8_fits_95 (by decide) ?_
                refine lv_isub hx hb dX8_fits_96 ?_
                refine lv_istore (lv' := [(9, .int (x6 - (2 : Int32))), (8, .int (0 : Int32)), (7, .int r6), (0, .ref m_mo), (1, .int x1), (2, .int x2), (3, .int x3), (4, .int x4), (5, .int x5), (6, .int x6)]) hx hb dX8_fits_97 hl (by decide) rfl (fun ls hl => ?_)
                obtain ⟨n, hw⟩ := hw
                exact L99 n (0 : Int32) (x6 - (2 : Int32)) m_tried _ _ _ hw hP hD hS (lv_sub hl [3, 4, 5, 7, 8, 9, 1, 0] rfl)
              · replace hw := hw.2 c9
                refine lv_aload_n hx hb dX8_fits_73 rfl (lv_at hl 1 rfl) ?_
                refine lv_aload_n hx hb dX8_fits_74 rfl (lv_at hl 1 rfl) ?_
                refine va_get (D := D) (ci := 8) (v := .ref m_anow) (C := RX8) (T := TX8) (N := 18) hx hb hts inX8 hown hK hP 0 rfl rfl 7 (by decide) fl23 (fun _ h9 => h9) rfl dX8_fits_75 ?_
                refine lv_iload_n hx hb dX8_fits_78 rfl (lv_at hl 2 rfl) ?_
                refine lv_iload_n hx hb dX8_fits_79 rfl (lv_at hl 3 rfl) ?_
                refine lv_iload hx hb dX8_fits_80 (lv_at hl 5 rfl) ?_
                refine lv_iload hx hb dX8_fits_82 (lv_at hl 6 rfl) ?_
                refine lv_iload hx hb dX8_fits_84 (lv_at hl 7 rfl) ?_
                refine vp_callSi (W.runV (As := [.ref m_anow, .int x1, .int x2, .int x4, .int x5, .int x6]) (rest := []) ⟨hx, hb, hml, hown, hts⟩ (c_X8_fitByN l D G m_mo m_alane m_asize m_aitem m_atape m_anow m_atried m_aread m_akept m_anoticed m_aneeds m_aorder m_letters m_position m_number m_isKept m_many m_one m_two m_item m_now x1 x2 x4 x5 x6 _ hw) (cwV 6 hts gX8_fits_X8_fitBy rfl rfl rfl (by decide +kernel) ⟨(Nat.le_of_ble_eq_true rfl), (Nat.le_of_ble_eq_true rfl)⟩) (xR_pv (hP.sub [0, 3, 4] rfl) hK (va_recv hK hP (ci := 8) (q0 := 0) rfl rfl)) rfl rfl hl.1 rfl (lv_room (Nat.le_of_ble_eq_true rfl)) dX8_fits_86 ⟨Nat.zero_le _, Nat.zero_le _⟩) (fun r7 hw => ?_)
                exact W.iret hx hb hr (x_mi (u := m_tried) hP hK hD hS hw) hS.2.2 dX8_fits_89
            · replace hw := hw.2 c9
              refine lv_iload hx hb dX8_fits_64 (lv_at hl 0 rfl) ?_
              exact W.iret hx hb hr (x_mi (u := m_tried) hP hK hD hS hw) hS.2.2 dX8_fits_66
          · replace hw := hw.2 c9
            refine lv_iconst (v := -1) hx hb dX8_fits_45 (by decide) ?_
            exact W.iret hx hb hr (x_mi (u := m_tried) hP hK hD hS hw) hS.2.2 dX8_fits_46
set_option maxHeartbeats 4000000 in
set_option maxRecDepth 100000 in
theorem c_X8_slips (l : Launch) (D : va_G) (G : Nat → ClassId) (m_mo : Nat) (m_alane : Nat) (m_asize : Nat) (m_aitem : Nat) (m_atape : Nat) (m_anow : Nat) (m_atried : Nat) (m_aread : Nat) (m_akept : Nat) (m_anoticed : Nat) (m_aneeds : Nat) (m_aorder : Nat) (m_letters : Int32) (m_position : Int32) (m_number : Int32) (m_isKept : Int32) (m_many : Int32) (m_one : Int32) (m_two : Int32) (m_lane : Nat → Int32) (m_size : Nat → Int32) (m_item : Nat → Int64) (m_now : Nat → Int32) (x1 : Int32) (x2 : Int32) (x3 : Int32) (x4 : Int32) (x5 : Int32) (x6 : Int32) (x7 : Int32) (x8 : Int32) (post : Int64 → Prop) (hw : wp_X8_slips m_lane m_size m_item m_now x1 x2 x3 x4 x5 x6 x7 x8 post) : Met l yX8_slips wsX8_slips ({ frames := 4, cells := 0, slots := 0, locals := 100 } : Room) (va_Pc [.ref m_mo, .int x1, .int x2, .int x3, .int x4, .int x5, .int x6, .int x7, .int x8] (xR D G [(m_mo, .inr (8, [.ref m_alane, .ref m_asize, .ref m_aitem, .int m_letters, .ref m_atape, .int m_position, .int m_number, .ref m_anow, .ref m_atried, .ref m_aread, .ref m_akept, .int m_isKept, .ref m_anoticed, .ref m_aneeds, .ref m_aorder, .int m_many, .int m_one, .int m_two])), (m_alane, .inl (G 0, 4, .inl m_lane)), (m_asize, .inl (G 0, 4, .inl m_size)), (m_aitem, .inl (G 1, 96, .inr (.inl m_item))), (m_anow, .inl (G 0, 55, .inl m_now))])) (vp_Sl post) 0 0 (fun _ => False) := by
  refine Met.ofW (cc := cX8_slips) (maxL := 19) (ret := (some .long)) (by decide) rfl ?_
  intro p e s m args below meth c s₁ B hml hv
  obtain ⟨rfl, hP, hK⟩ := hv
  have hx := B.exec
  have hb := B.bytes
  have hr := B.returns
  have hts := atoms_spec (ws := wsX8_slips) B.pre
  have hown : s.vm.findClass RX8 = some m.cls := findClass_of_methodNamed B.named
  have hlocks := B.notSynchronized
  have inX8 : ∀ w ∈ wsX80, w ∈ wsX8_slips := by decide +kernel
  have fl23 := hts (.fieldLink RX8 23 "NewsCowModel" "now" "[I") (by decide +kernel)
  have hl := lv_entry ([.ref m_mo, .int x1, .int x2, .int x3, .int x4, .int x5, .int x6, .int x7, .int x8] : List Value) (n := 19) (Nat.le_of_ble_eq_true rfl)
  rw [lg_entry_eq]
  generalize (lg_sl ([.ref m_mo, .int x1, .int x2, .int x3, .int x4, .int x5, .int x6, .int x7, .int x8] : List Value) ++ List.replicate (19 - (lg_sl ([.ref m_mo, .int x1, .int x2, .int x3, .int x4, .int x5, .int x6, .int x7, .int x8] : List Value)).length) Slot.unset).toArray = ls at hl ⊢
  have hl : lv_has ls 19 [(0, .ref m_mo), (1, .int x1), (2, .int x2), (3, .int x3), (4, .int x4), (5, .int x5), (6, .int x6), (7, .int x7), (8, .int x8)] := hl
  unfold wp_X8_slips at hw
  have L101 : ∀ (f101 : Nat) (x10 : Int64) (x12 : Int64) (x14 : Int32) (ls : Array Slot), wp_X8_slips_L101 m_item m_now x1 x2 x3 x4 x6 x7 x8 post f101 x10 x12 x14 → lv_has ls 19 [(0, .ref m_mo), (1, .int x1), (2, .int x2), (3, .int x3), (4, .int x4), (6, .int x6), (7, .int x7), (8, .int x8), (10, .long x10), (12, .long x12), (14, .int x14)] → W p l e (headSpec wsX8_slips ({ frames := 4, cells := 0, slots := 0, locals := 100 } : Room)).room s m ([.ref m_mo, .int x1, .int x2, .int x3, .int x4, .int x5, .int x6, .int x7, .int x8] : List Value).toArray below meth c s.heap [] 0 0 (MQ below (vp_Sl post) ([.ref m_mo, .int x1, .int x2, .int x3, .int x4, .int x5, .int x6, .int x7, .int x8] : List Value).toArray s 0 0 (fun _ => False)) (F0 m 101 ls []) := by
    intro f101
    induction f101 with
    | zero => intro x10 x12 x14 ls hw hl; exact (hw : False).elim
    | succ f101 ih101 =>
      intro x10 x12 x14 ls hw hl
      unfold wp_X8_slips_L101 at hw
      have J212 : ∀ (x12 : Int64) (x14 : Int32) (x16 : Int64) (k0 : Int64) (ls : Array Slot), wp_X8_slips_J212 x12 x14 x16 k0 (wp_X8_slips_L101 m_item m_now x1 x2 x3 x4 x6 x7 x8 post f101) post → lv_has ls 19 [(0, .ref m_mo), (1, .int x1), (2, .int x2), (3, .int x3), (4, .int x4), (6, .int x6), (7, .int x7), (8, .int x8), (12, .long x12), (14, .int x14), (16, .long x16)] → W p l e (headSpec wsX8_slips ({ frames := 4, cells := 0, slots := 0, locals := 100 } : Room)).room s m ([.ref m_mo, .int x1, .int x2, .int x3, .int x4, .int x5, .int x6, .int x7, .int x8] : List Value).toArray below meth c s.heap [] 0 0 (MQ below (vp_Sl post) ([.ref m_mo, .int x1, .int x2, .int x3, .int x4, .int x5, .int x6, .int x7, .int x8] : List Value).toArray s 0 0 (fun _ => False)) (F0 m 212 ls [.long k0]) := by
        intro x12 x14 x16 k0 ls hw hl
        unfold wp_X8_slips_J212 at hw
        refine lv_lstore (lv' := [(10, .long k0), (0, .ref m_mo), (1, .int x1), (2, .int x2), (3, .int x3), (4, .int x4), (6, .int x6), (7, .int x7), (8, .int x8), (12, .long x12), (14, .int x14), (16, .long x16)]) hx hb dX8_slips_212 hl (by decide) rfl (fun ls hl => ?_)
        refine lv_lload hx hb dX8_slips_214 (lv_at hl 9 rfl) ?_
        refine lv_lload hx hb dX8_slips_216 (lv_at hl 11 rfl) ?_
        refine lv_ladd hx hb dX8_slips_218 ?_
        refine lv_lstore (lv' := [(12, .long (x12 + x16)), (10, .long k0), (0, .ref m_mo), (1, .int x1), (2, .int x2), (3, .int x3), (4, .int x4), (6, .int x6), (7, .int x7), (8, .int x8), (14, .int x14), (16, .long x16)]) hx hb dX8_slips_219 hl (by decide) rfl (fun ls hl => ?_)
        refine lv_iinc (v := (x14 + 1)) (lv' := [(14, .int (x14 + 1)), (12, .long (x12 + x16)), (10, .long k0), (0, .ref m_mo), (1, .int x1), (2, .int x2), (3, .int x3), (4, .int x4), (6, .int x6), (7, .int x7), (8, .int x8), (16, .long x16)]) hx hb dX8_slips_221 hl (k := 10) rfl (by first | rfl | decide) (by decide) rfl (fun ls hl => ?_)
        refine lv_goto (tgt := 101) hx hb dX8_slips_224 (by decide) ?_
        exact ih101 k0 (x12 + x16) (x14 + 1) _ hw (lv_sub hl [3, 4, 5, 6, 7, 8, 9, 10, 2, 1, 0] rfl)
      have L164 : ∀ (f164 : Nat) (x10 : Int64) (x12 : Int64) (x14 : Int32) (x15 : Int32) (x16 : Int64) (x18 : Int32) (ls : Array Slot), wp_X8_slips_L164 x1 x3 x7 x10 x12 x14 x15 (wp_X8_slips_L101 m_item m_now x1 x2 x3 x4 x6 x7 x8 post f101) post f164 x16 x18 → lv_has ls 19 [(0, .ref m_mo), (1, .int x1), (2, .int x2), (3, .int x3), (4, .int x4), (6, .int x6), (7, .int x7), (8, .int x8), (10, .long x10), (12, .long x12), (14, .int x14), (15, .int x15), (16, .long x16), (18, .int x18)] → W p l e (headSpec wsX8_slips ({ frames := 4, cells := 0, slots := 0, locals := 100 } : Room)).room s m ([.ref m_mo, .int x1, .int x2, .int x3, .int x4, .int x5, .int x6, .int x7, .int x8] : List Value).toArray below meth c s.heap [] 0 0 (MQ below (vp_Sl post) ([.ref m_mo, .int x1, .int x2, .int x3, .int x4, .int x5, .int x6, .int x7, .int x8] : List Value).toArray s 0 0 (fun _ => False)) (F0 m 164 ls []) := by
        intro f164
        induction f164 with
        | zero => intro x10 x12 x14 x15 x16 x18 ls hw hl; exact (hw : False).elim
        | succ f164 ih164 =>
          intro x10 x12 x14 x15 x16 x18 ls hw hl
          unfold wp_X8_slips_L164 at hw
          refine lv_iload hx hb dX8_slips_164 (lv_at hl 13 rfl) ?_
          refine lv_iload hx hb dX8_slips_166 (lv_at hl 6 rfl) ?_
          refine lv_icmp_ge (tgt := 199) hx hb dX8_slips_168 (by decide) (fun c9 => ?_) (fun c9 => ?_)
          · replace hw := hw.1 c9
            refine lv_iload hx hb dX8_slips_199 (lv_at hl 10 rfl) ?_
            refine lv_iload_n hx hb dX8_slips_201 rfl (lv_at hl 1 rfl) ?_
            refine lv_icmp_ne (tgt := 210) hx hb dX8_slips_202 (by decide) (fun c9 => ?_) (fun c9 => ?_)
            · replace hw := hw.1 c9
              refine lv_lload hx hb dX8_slips_210 (lv_at hl 8 rfl) ?_
              exact J212 x12 x14 x16 x10 _ hw (lv_sub hl [0, 1, 2, 3, 4, 5, 6, 7, 9, 10, 12] rfl)
            · replace hw := hw.2 c9
              refine lv_lload hx hb dX8_slips_205 (lv_at hl 12 rfl) ?_
              refine lv_goto (tgt := 212) hx hb dX8_slips_207 (by decide) ?_
              exact J212 x12 x14 x16 x16 _ hw (lv_sub hl [0, 1, 2, 3, 4, 5, 6, 7, 9, 10, 12] rfl)
          · replace hw := hw.2 c9
            refine lv_lload hx hb dX8_slips_171 (lv_at hl 12 rfl) ?_
            refine lv_iload hx hb dX8_slips_173 (lv_at hl 13 rfl) ?_
            refine lv_iload hx hb dX8_slips_175 (lv_at hl 11 rfl) ?_
            refine lv_icmp_ge (tgt := 185) hx hb dX8_slips_177 (by decide) (fun c9 => ?_) (fun c9 => ?_)
            · replace hw := hw.1 c9
              refine lv_bipush (v := 10) hx hb dX8_slips_185 (by decide) ?_
              refine lv_iload_n hx hb dX8_slips_187 rfl (lv_at hl 3 rfl) ?_
              refine lv_isub hx hb dX8_slips_188 ?_
              refine lv_i2l hx hb dX8_slips_189 rfl ?_
              refine lv_lmul hx hb dX8_slips_190 ?_
              refine lv_lstore (lv' := [(16, .long (x16 * (((10 : Int32) - x3).toInt64))), (0, .ref m_mo), (1, .int x1), (2, .int x2), (3, .int x3), (4, .int x4), (6, .int x6), (7, .int x7), (8, .int x8), (10, .long x10), (12, .long x12), (14, .int x14), (15, .int x15), (18, .int x18)]) hx hb dX8_slips_191 hl (by decide) rfl (fun ls hl => ?_)
              refine lv_iinc (v := (x18 + 1)) (lv' := [(18, .int (x18 + 1)), (16, .long (x16 * (((10 : Int32) - x3).toInt64))), (0, .ref m_mo), (1, .int x1), (2, .int x2), (3, .int x3), (4, .int x4), (6, .int x6), (7, .int x7), (8, .int x8), (10, .long x10), (12, .long x12), (14, .int x14), (15, .int x15)]) hx hb dX8_slips_193 hl (k := 13) rfl (by first | rfl | decide) (by decide) rfl (fun ls hl => ?_)
              refine lv_goto (tgt := 164) hx hb dX8_slips_196 (by decide) ?_
              exact ih164 x10 x12 x14 x15 (x16 * (((10 : Int32) - x3).toInt64)) (x18 + 1) _ hw (lv_sub hl [2, 3, 4, 5, 6, 7, 8, 9, 10, 11, 12, 13, 1, 0] rfl)
            · replace hw := hw.2 c9
              refine lv_iload_n hx hb dX8_slips_180 rfl (lv_at hl 3 rfl) ?_
              refine lv_i2l hx hb dX8_slips_181 rfl ?_
              refine lv_goto (tgt := 190) hx hb dX8_slips_182 (by decide) ?_
              refine lv_lmul hx hb dX8_slips_190 ?_
              refine lv_lstore (lv' := [(16, .long (x16 * (x3.toInt64))), (0, .ref m_mo), (1, .int x1), (2, .int x2), (3, .int x3), (4, .int x4), (6, .int x6), (7, .int x7), (8, .int x8), (10, .long x10), (12, .long x12), (14, .int x14), (15, .int x15), (18, .int x18)]) hx hb dX8_slips_191 hl (by decide) rfl (fun ls hl => ?_)
              refine lv_iinc (v := (x18 + 1)) (lv' := [(18, .int (x18 + 1)), (16, .long (x16 * (x3.toInt64))), (0, .ref m_mo), (1, .int x1), (2, .int x2), (3, .int x3), (4, .int x4), (6, .int x6), (7, .int x7), (8, .int x8), (10, .long x10), (12, .long x12), (14, .int x14), (15, .int x15)]) hx hb dX8_slips_193 hl (k := 13) rfl (by first | rfl | decide) (by decide) rfl (fun ls hl => ?_)
              refine lv_goto (tgt := 164) hx hb dX8_slips_196 (by decide) ?_
              exact ih164 x10 x12 x14 x15 (x16 * (x3.toInt64)) (x18 + 1) _ hw (lv_sub hl [2, 3, 4, 5, 6, 7, 8, 9, 10, 11, 12, 13, 1, 0] rfl)
      refine lv_iload hx hb dX8_slips_101 (lv_at hl 10 rfl) ?_
      refine lv_aload_n hx hb dX8_slips_103 rfl (lv_at hl 0 rfl) ?_
      refine va_get (D := D) (ci := 8) (v := .ref m_anow) (C := RX8) (T := TX8) (N := 18) hx hb hts inX8 hown hK hP 0 rfl rfl 7 (by decide) fl23 (fun _ h9 => h9) rfl dX8_slips_104 ?_
      refine lv_iconst (v := 4) hx hb dX8_slips_107 (by decide) ?_
      refine x_iald (j := 4) hx hb hK hP 4 0 rfl rfl (by decide) (x_in (by decide)) dX8_slips_108 ?_
      refine lv_icmp_ge (tgt := 227) hx hb dX8_slips_109 (by decide) (fun c9 => ?_) (fun c9 => ?_)
      · replace hw := hw.1 c9
        refine lv_lload hx hb dX8_slips_227 (lv_at hl 8 rfl) ?_
        refine lv_lload hx hb dX8_slips_229 (lv_at hl 8 rfl) ?_
        refine lv_lconst (v := 0) hx hb dX8_slips_231 (by decide) ?_
        refine W.lcmp hx hb dX8_slips_232 ?_
        refine lv_if_ne (tgt := 240) hx hb dX8_slips_233 (by decide) (fun c9 => ?_) (fun c9 => ?_)
        · replace hw := hw.1 c9
          refine lv_lload hx hb dX8_slips_240 (lv_at hl 9 rfl) ?_
          refine lv_iload hx hb dX8_slips_242 (lv_at hl 7 rfl) ?_
          refine vp_callSl (W.runS (As := [.long x10, .long x12, .int x8]) (rest := []) ⟨hx, hb, hml, hown, hts⟩ (c_X8_part l D G x10 x12 x8 _ hw) (va_cwS 3 hts gX8_slips_X8_part rfl rfl rfl (by decide +kernel) ⟨(Nat.le_of_ble_eq_true rfl), (Nat.le_of_ble_eq_true rfl)⟩) (xR_ps (hP.sub [] rfl) hK) rfl rfl hl.1 rfl (lv_room (Nat.le_of_ble_eq_true rfl)) dX8_slips_244 ⟨Nat.zero_le _, Nat.zero_le _⟩) (fun r9 hw => ?_)
          exact W.lret hx hb hr (fun t ht _ => ⟨_, rfl, hw, ht⟩) (fun _ h => absurd h List.not_mem_nil) dX8_slips_247
        · replace hw := hw.2 c9
          refine lv_lconst (v := 1) hx hb dX8_slips_236 (by decide) ?_
          refine lv_goto (tgt := 242) hx hb dX8_slips_237 (by decide) ?_
          refine lv_iload hx hb dX8_slips_242 (lv_at hl 7 rfl) ?_
          refine vp_callSl (W.runS (As := [.long x10, .long (1 : Int64), .int x8]) (rest := []) ⟨hx, hb, hml, hown, hts⟩ (c_X8_part l D G x10 (1 : Int64) x8 _ hw) (va_cwS 3 hts gX8_slips_X8_part rfl rfl rfl (by decide +kernel) ⟨(Nat.le_of_ble_eq_true rfl), (Nat.le_of_ble_eq_true rfl)⟩) (xR_ps (hP.sub [] rfl) hK) rfl rfl hl.1 rfl (lv_room (Nat.le_of_ble_eq_true rfl)) dX8_slips_244 ⟨Nat.zero_le _, Nat.zero_le _⟩) (fun r10 hw => ?_)
          exact W.lret hx hb hr (fun t ht _ => ⟨_, rfl, hw, ht⟩) (fun _ h => absurd h List.not_mem_nil) dX8_slips_247
      · replace hw := hw.2 c9
        refine lv_aload_n hx hb dX8_slips_112 rfl (lv_at hl 0 rfl) ?_
        refine lv_aload_n hx hb dX8_slips_113 rfl (lv_at hl 0 rfl) ?_
        refine va_get (D := D) (ci := 8) (v := .ref m_anow) (C := RX8) (T := TX8) (N := 18) hx hb hts inX8 hown hK hP 0 rfl rfl 7 (by decide) fl23 (fun _ h9 => h9) rfl dX8_slips_114 ?_
        refine lv_iload_n hx hb dX8_slips_117 rfl (lv_at hl 2 rfl) ?_
        refine lv_iload hx hb dX8_slips_118 (lv_at hl 4 rfl) ?_
        refine lv_iload hx hb dX8_slips_120 (lv_at hl 5 rfl) ?_
        refine lv_iload hx hb dX8_slips_122 (lv_at hl 6 rfl) ?_
        refine lv_iload hx hb dX8_slips_124 (lv_at hl 10 rfl) ?_
        refine vp_callSi (W.runV (As := [.ref m_anow, .int x2, .int x4, .int x6, .int x7, .int x14]) (rest := []) ⟨hx, hb, hml, hown, hts⟩ (c_X8_liesN l D G m_mo m_alane m_asize m_aitem m_atape m_anow m_atried m_aread m_akept m_anoticed m_aneeds m_aorder m_letters m_position m_number m_isKept m_many m_one m_two m_item m_now x2 x4 x6 x7 x14 _ hw) (cwV 6 hts gX8_slips_X8_lies rfl rfl rfl (by decide +kernel) ⟨(Nat.le_of_ble_eq_true rfl), (Nat.le_of_ble_eq_true rfl)⟩) (xR_pv (hP.sub [0, 3, 4] rfl) hK (va_recv hK hP (ci := 8) (q0 := 0) rfl rfl)) rfl rfl hl.1 rfl (lv_room (Nat.le_of_ble_eq_true rfl)) dX8_slips_126 ⟨Nat.zero_le _, Nat.zero_le _⟩) (fun r11 hw => ?_)
        refine lv_istore (lv' := [(15, .int r11), (0, .ref m_mo), (1, .int x1), (2, .int x2), (3, .int x3), (4, .int x4), (6, .int x6), (7, .int x7), (8, .int x8), (10, .long x10), (12, .long x12), (14, .int x14)]) hx hb dX8_slips_129 hl (by decide) rfl (fun ls hl => ?_)
        refine lv_aload_n hx hb dX8_slips_131 rfl (lv_at hl 1 rfl) ?_
        refine va_get (D := D) (ci := 8) (v := .ref m_anow) (C := RX8) (T := TX8) (N := 18) hx hb hts inX8 hown hK hP 0 rfl rfl 7 (by decide) fl23 (fun _ h9 => h9) rfl dX8_slips_132 ?_
        refine lv_iconst (v := 2) hx hb dX8_slips_135 (by decide) ?_
        refine x_iald (j := 2) hx hb hK hP 4 0 rfl rfl (by decide) (x_in (by decide)) dX8_slips_136 ?_
        refine lv_iload hx hb dX8_slips_137 (lv_at hl 11 rfl) ?_
        refine vp_callSi (W.runS (As := [.int (m_now 2), .int x14]) (rest := []) ⟨hx, hb, hml, hown, hts⟩ (c_X8_has l D G (m_now 2) x14 _ hw) (va_cwS 2 hts gX8_slips_X8_has rfl rfl rfl (by decide +kernel) ⟨(Nat.le_of_ble_eq_true rfl), (Nat.le_of_ble_eq_true rfl)⟩) (xR_ps (hP.sub [] rfl) hK) rfl rfl hl.1 rfl (lv_room (Nat.le_of_ble_eq_true rfl)) dX8_slips_139 ⟨Nat.zero_le _, Nat.zero_le _⟩) (fun r12 hw => ?_)
        refine lv_if_eq (tgt := 158) hx hb dX8_slips_142 (by decide) (fun c9 => ?_) (fun c9 => ?_)
        · replace hw := hw.1 c9
          refine lv_lconst (v := 0) hx hb dX8_slips_158 (by decide) ?_
          refine lv_lstore (lv' := [(16, .long (0 : Int64)), (15, .int r11), (0, .ref m_mo), (1, .int x1), (2, .int x2), (3, .int x3), (4, .int x4), (6, .int x6), (7, .int x7), (8, .int x8), (10, .long x10), (12, .long x12), (14, .int x14)]) hx hb dX8_slips_159 hl (by decide) rfl (fun ls hl => ?_)
          refine lv_iconst (v := 0) hx hb dX8_slips_161 (by decide) ?_
          refine lv_istore (lv' := [(18, .int (0 : Int32)), (16, .long (0 : Int64)), (15, .int r11), (0, .ref m_mo), (1, .int x1), (2, .int x2), (3, .int x3), (4, .int x4), (6, .int x6), (7, .int x7), (8, .int x8), (10, .long x10), (12, .long x12), (14, .int x14)]) hx hb dX8_slips_162 hl (by decide) rfl (fun ls hl => ?_)
          obtain ⟨n, hw⟩ := hw
          exact L164 n x10 x12 x14 r11 (0 : Int64) (0 : Int32) _ hw (lv_sub hl [3, 4, 5, 6, 7, 8, 9, 10, 11, 12, 13, 2, 1, 0] rfl)
        · replace hw := hw.2 c9
          refine lv_aload_n hx hb dX8_slips_145 rfl (lv_at hl 1 rfl) ?_
          refine va_get (D := D) (ci := 8) (v := .ref m_anow) (C := RX8) (T := TX8) (N := 18) hx hb hts inX8 hown hK hP 0 rfl rfl 7 (by decide) fl23 (fun _ h9 => h9) rfl dX8_slips_146 ?_
          refine lv_iconst (v := 5) hx hb dX8_slips_149 (by decide) ?_
          refine lv_iload hx hb dX8_slips_150 (lv_at hl 11 rfl) ?_
          refine lv_iadd hx hb dX8_slips_152 ?_
          refine x_iald (j := ((5 : Int32) + x14).toNatClampNeg) hx hb hK hP 4 0 rfl rfl rfl hw.1 dX8_slips_153 ?_
          replace hw := hw.2
          refine lv_i2l hx hb dX8_slips_154 rfl ?_
          refine lv_goto (tgt := 159) hx hb dX8_slips_155 (by decide) ?_
          refine lv_lstore (lv' := [(16, .long ((m_now ((5 : Int32) + x14).toNatClampNeg).toInt64)), (15, .int r11), (0, .ref m_mo), (1, .int x1), (2, .int x2), (3, .int x3), (4, .int x4), (6, .int x6), (7, .int x7), (8, .int x8), (10, .long x10), (12, .long x12), (14, .int x14)]) hx hb dX8_slips_159 hl (by decide) rfl (fun ls hl => ?_)
          refine lv_iconst (v := 0) hx hb dX8_slips_161 (by decide) ?_
          refine lv_istore (lv' := [(18, .int (0 : Int32)), (16, .long ((m_now ((5 : Int32) + x14).toNatClampNeg).toInt64)), (15, .int r11), (0, .ref m_mo), (1, .int x1), (2, .int x2), (3, .int x3), (4, .int x4), (6, .int x6), (7, .int x7), (8, .int x8), (10, .long x10), (12, .long x12), (14, .int x14)]) hx hb dX8_slips_162 hl (by decide) rfl (fun ls hl => ?_)
          obtain ⟨n, hw⟩ := hw
          exact L164 n x10 x12 x14 r11 ((m_now ((5 : Int32) + x14).toNatClampNeg).toInt64) (0 : Int32) _ hw (lv_sub hl [3, 4, 5, 6, 7, 8, 9, 10, 11, 12, 13, 2, 1, 0] rfl)
  refine lv_aload_n hx hb dX8_slips_0 rfl (lv_at hl 0 rfl) ?_
  refine lv_iload_n hx hb dX8_slips_1 rfl (lv_at hl 1 rfl) ?_
  refine vp_callSi (W.runV (As := [.int x1]) (rest := []) ⟨hx, hb, hml, hown, hts⟩ (c_X8_isCow l D G m_mo m_alane m_asize m_aitem m_atape m_anow m_atried m_aread m_akept m_anoticed m_aneeds m_aorder m_letters m_position m_number m_isKept m_many m_one m_two m_now x1 _ hw) (cwV 1 hts gX8_slips_X8_isCow rfl rfl rfl (by decide +kernel) ⟨(Nat.le_of_ble_eq_true rfl), (Nat.le_of_ble_eq_true rfl)⟩) (xR_pv (hP.sub [0, 4] rfl) hK (va_recv hK hP (ci := 8) (q0 := 0) rfl rfl)) rfl rfl hl.1 rfl (lv_room (Nat.le_of_ble_eq_true rfl)) dX8_slips_2 ⟨Nat.zero_le _, Nat.zero_le _⟩) (fun r1 hw => ?_)
  refine lv_if_eq (tgt := 65) hx hb dX8_slips_5 (by decide) (fun c9 => ?_) (fun c9 => ?_)
  · replace hw := hw.1 c9
    refine lv_ldc2 (v := -1) hx hb hown (hts (.constantLong RX8 196 (-1)) (by decide +kernel)) dX8_slips_65 ?_
    exact W.lret hx hb hr (fun t ht _ => ⟨_, rfl, hw, ht⟩) (fun _ h => absurd h List.not_mem_nil) dX8_slips_68
  · replace hw := hw.2 c9
    refine lv_aload_n hx hb dX8_slips_8 rfl (lv_at hl 0 rfl) ?_
    refine lv_iload_n hx hb dX8_slips_9 rfl (lv_at hl 2 rfl) ?_
    refine vp_callSi (W.runV (As := [.int x2]) (rest := []) ⟨hx, hb, hml, hown, hts⟩ (c_X8_isTaster l D G m_mo m_alane m_asize m_aitem m_atape m_anow m_atried m_aread m_akept m_anoticed m_aneeds m_aorder m_letters m_position m_number m_isKept m_many m_one m_two m_now x2 _ hw) (cwV 1 hts gX8_slips_X8_isTaster rfl rfl rfl (by decide +kernel) ⟨(Nat.le_of_ble_eq_true rfl), (Nat.le_of_ble_eq_true rfl)⟩) (xR_pv (hP.sub [0, 4] rfl) hK (va_recv hK hP (ci := 8) (q0 := 0) rfl rfl)) rfl rfl hl.1 rfl (lv_room (Nat.le_of_ble_eq_true rfl)) dX8_slips_10 ⟨Nat.zero_le _, Nat.zero_le _⟩) (fun r2 hw => ?_)
    refine lv_if_eq (tgt := 65) hx hb dX8_slips_13 (by decide) (fun c9 => ?_) (fun c9 => ?_)
    · replace hw := hw.1 c9
      refine lv_ldc2 (v := -1) hx hb hown (hts (.constantLong RX8 196 (-1)) (by decide +kernel)) dX8_slips_65 ?_
      exact W.lret hx hb hr (fun t ht _ => ⟨_, rfl, hw, ht⟩) (fun _ h => absurd h List.not_mem_nil) dX8_slips_68
    · replace hw := hw.2 c9
      refine lv_iload_n hx hb dX8_slips_16 rfl (lv_at hl 3 rfl) ?_
      refine lv_iconst (v := 0) hx hb dX8_slips_17 (by decide) ?_
      refine lv_bipush (v := 10) hx hb dX8_slips_18 (by decide) ?_
      refine vp_callSi (W.runS (As := [.int x3, .int (0 : Int32), .int (10 : Int32)]) (rest := []) ⟨hx, hb, hml, hown, hts⟩ (c_X8_in l D G x3 (0 : Int32) (10 : Int32) _ hw) (va_cwS 3 hts gX8_slips_X8_in rfl rfl rfl (by decide +kernel) ⟨(Nat.le_of_ble_eq_true rfl), (Nat.le_of_ble_eq_true rfl)⟩) (xR_ps (hP.sub [] rfl) hK) rfl rfl hl.1 rfl (lv_room (Nat.le_of_ble_eq_true rfl)) dX8_slips_20 ⟨Nat.zero_le _, Nat.zero_le _⟩) (fun r3 hw => ?_)
      refine lv_if_eq (tgt := 65) hx hb dX8_slips_23 (by decide) (fun c9 => ?_) (fun c9 => ?_)
      · replace hw := hw.1 c9
        refine lv_ldc2 (v := -1) hx hb hown (hts (.constantLong RX8 196 (-1)) (by decide +kernel)) dX8_slips_65 ?_
        exact W.lret hx hb hr (fun t ht _ => ⟨_, rfl, hw, ht⟩) (fun _ h => absurd h List.not_mem_nil) dX8_slips_68
      · replace hw := hw.2 c9
        refine lv_iload hx hb dX8_slips_26 (lv_at hl 4 rfl) ?_
        refine vp_callSi (W.runS (As := [.int x4]) (rest := []) ⟨hx, hb, hml, hown, hts⟩ (c_X8_isSheet l D G x4 _ hw) (va_cwS 1 hts gX8_slips_X8_isSheet rfl rfl rfl (by decide +kernel) ⟨(Nat.le_of_ble_eq_true rfl), (Nat.le_of_ble_eq_true rfl)⟩) (xR_ps (hP.sub [] rfl) hK) rfl rfl hl.1 rfl (lv_room (Nat.le_of_ble_eq_true rfl)) dX8_slips_28 ⟨Nat.zero_le _, Nat.zero_le _⟩) (fun r4 hw => ?_)
        refine lv_if_eq (tgt := 65) hx hb dX8_slips_31 (by decide) (fun c9 => ?_) (fun c9 => ?_)
        · replace hw := hw.1 c9
          refine lv_ldc2 (v := -1) hx hb hown (hts (.constantLong RX8 196 (-1)) (by decide +kernel)) dX8_slips_65 ?_
          exact W.lret hx hb hr (fun t ht _ => ⟨_, rfl, hw, ht⟩) (fun _ h => absurd h List.not_mem_nil) dX8_slips_68
        · replace hw := hw.2 c9
          refine lv_iload hx hb dX8_slips_34 (lv_at hl 5 rfl) ?_
          refine lv_iconst (v := 0) hx hb dX8_slips_36 (by decide) ?_
          refine lv_iconst (v := 3) hx hb dX8_slips_37 (by decide) ?_
          refine vp_callSi (W.runS (As := [.int x5, .int (0 : Int32), .int (3 : Int32)]) (rest := []) ⟨hx, hb, hml, hown, hts⟩ (c_X8_in l D G x5 (0 : Int32) (3 : Int32) _ hw) (va_cwS 3 hts gX8_slips_X8_in rfl rfl rfl (by decide +kernel) ⟨(Nat.le_of_ble_eq_true rfl), (Nat.le_of_ble_eq_true rfl)⟩) (xR_ps (hP.sub [] rfl) hK) rfl rfl hl.1 rfl (lv_room (Nat.le_of_ble_eq_true rfl)) dX8_slips_38 ⟨Nat.zero_le _, Nat.zero_le _⟩) (fun r5 hw => ?_)
          refine lv_if_eq (tgt := 65) hx hb dX8_slips_41 (by decide) (fun c9 => ?_) (fun c9 => ?_)
          · replace hw := hw.1 c9
            refine lv_ldc2 (v := -1) hx hb hown (hts (.constantLong RX8 196 (-1)) (by decide +kernel)) dX8_slips_65 ?_
            exact W.lret hx hb hr (fun t ht _ => ⟨_, rfl, hw, ht⟩) (fun _ h => absurd h List.not_mem_nil) dX8_slips_68
          · replace hw := hw.2 c9
            refine lv_iload hx hb dX8_slips_44 (lv_at hl 7 rfl) ?_
            refine lv_iconst (v := 1) hx hb dX8_slips_46 (by decide) ?_
            refine lv_bipush (v := 6) hx hb dX8_slips_47 (by decide) ?_
            refine vp_callSi (W.runS (As := [.int x7, .int (1 : Int32), .int (6 : Int32)]) (rest := []) ⟨hx, hb, hml, hown, hts⟩ (c_X8_in l D G x7 (1 : Int32) (6 : Int32) _ hw) (va_cwS 3 hts gX8_slips_X8_in rfl rfl rfl (by decide +kernel) ⟨(Nat.le_of_ble_eq_true rfl), (Nat.le_of_ble_eq_true rfl)⟩) (xR_ps (hP.sub [] rfl) hK) rfl rfl hl.1 rfl (lv_room (Nat.le_of_ble_eq_true rfl)) dX8_slips_49 ⟨Nat.zero_le _, Nat.zero_le _⟩) (fun r6 hw => ?_)
            refine lv_if_eq (tgt := 65) hx hb dX8_slips_52 (by decide) (fun c9 => ?_) (fun c9 => ?_)
            · replace hw := hw.1 c9
              refine lv_ldc2 (v := -1) hx hb hown (hts (.constantLong RX8 196 (-1)) (by decide +kernel)) dX8_slips_65 ?_
              exact W.lret hx hb hr (fun t ht _ => ⟨_, rfl, hw, ht⟩) (fun _ h => absurd h List.not_mem_nil) dX8_slips_68
            · replace hw := hw.2 c9
              refine lv_iload hx hb dX8_slips_55 (lv_at hl 8 rfl) ?_
              refine lv_iconst (v := 0) hx hb dX8_slips_57 (by decide) ?_
              refine lv_iconst (v := 1) hx hb dX8_slips_58 (by decide) ?_
              refine vp_callSi (W.runS (As := [.int x8, .int (0 : Int32), .int (1 : Int32)]) (rest := []) ⟨hx, hb, hml, hown, hts⟩ (c_X8_in l D G x8 (0 : Int32) (1 : Int32) _ hw) (va_cwS 3 hts gX8_slips_X8_in rfl rfl rfl (by decide +kernel) ⟨(Nat.le_of_ble_eq_true rfl), (Nat.le_of_ble_eq_true rfl)⟩) (xR_ps (hP.sub [] rfl) hK) rfl rfl hl.1 rfl (lv_room (Nat.le_of_ble_eq_true rfl)) dX8_slips_59 ⟨Nat.zero_le _, Nat.zero_le _⟩) (fun r7 hw => ?_)
              refine lv_if_ne (tgt := 69) hx hb dX8_slips_62 (by decide) (fun c9 => ?_) (fun c9 => ?_)
              · replace hw := hw.1 c9
                refine lv_aload_n hx hb dX8_slips_69 rfl (lv_at hl 0 rfl) ?_
                refine lv_iload hx hb dX8_slips_70 (lv_at hl 4 rfl) ?_
                refine lv_iload hx hb dX8_slips_72 (lv_at hl 5 rfl) ?_
                refine lv_iload hx hb dX8_slips_74 (lv_at hl 6 rfl) ?_
                refine lv_iload hx hb dX8_slips_76 (lv_at hl 7 rfl) ?_
                refine vp_callSi (W.runV (As := [.int x4, .int x5, .int x6, .int x7]) (rest := []) ⟨hx, hb, hml, hown, hts⟩ (c_X8_wrongPairs l D G m_mo m_alane m_asize m_aitem m_atape m_anow m_atried m_aread m_akept m_anoticed m_aneeds m_aorder m_letters m_position m_number m_isKept m_many m_one m_two m_lane m_size m_item m_now x4 x5 x6 x7 _ hw) (cwV 4 hts gX8_slips_X8_wrongPairs rfl rfl rfl (by decide +kernel) ⟨(Nat.le_of_ble_eq_true rfl), (Nat.le_of_ble_eq_true rfl)⟩) (xR_pv (hP.sub [0, 1, 2, 3, 4] rfl) hK (va_recv hK hP (ci := 8) (q0 := 0) rfl rfl)) rfl rfl hl.1 rfl (lv_room (Nat.le_of_ble_eq_true rfl)) dX8_slips_78 ⟨Nat.zero_le _, Nat.zero_le _⟩) (fun r8 hw => ?_)
                refine lv_istore (lv' := [(9, .int r8), (0, .ref m_mo), (1, .int x1), (2, .int x2), (3, .int x3), (4, .int x4), (5, .int x5), (6, .int x6), (7, .int x7), (8, .int x8)]) hx hb dX8_slips_81 hl (by decide) rfl (fun ls hl => ?_)
                refine lv_iload hx hb dX8_slips_83 (lv_at hl 0 rfl) ?_
                refine lv_if_eq (tgt := 92) hx hb dX8_slips_85 (by decide) (fun c9 => ?_) (fun c9 => ?_)
                · replace hw := hw.1 c9
                  refine lv_lconst (v := 0) hx hb dX8_slips_92 (by decide) ?_
                  refine lv_lstore (lv' := [(10, .long (0 : Int64)), (9, .int r8), (0, .ref m_mo), (1, .int x1), (2, .int x2), (3, .int x3), (4, .int x4), (5, .int x5), (6, .int x6), (7, .int x7), (8, .int x8)]) hx hb dX8_slips_93 hl (by decide) rfl (fun ls hl => ?_)
                  refine lv_lconst (v := 0) hx hb dX8_slips_95 (by decide) ?_
                  refine lv_lstore (lv' := [(12, .long (0 : Int64)), (10, .long (0 : Int64)), (9, .int r8), (0, .ref m_mo), (1, .int x1), (2, .int x2), (3, .int x3), (4, .int x4), (5, .int x5), (6, .int x6), (7, .int x7), (8, .int x8)]) hx hb dX8_slips_96 hl (by decide) rfl (fun ls hl => ?_)
                  refine lv_iconst (v := 0) hx hb dX8_slips_98 (by decide) ?_
                  refine lv_istore (lv' := [(14, .int (0 : Int32)), (12, .long (0 : Int64)), (10, .long (0 : Int64)), (9, .int r8), (0, .ref m_mo), (1, .int x1), (2, .int x2), (3, .int x3), (4, .int x4), (5, .int x5), (6, .int x6), (7, .int x7), (8, .int x8)]) hx hb dX8_slips_99 hl (by decide) rfl (fun ls hl => ?_)
                  obtain ⟨n, hw⟩ := hw
                  exact L101 n (0 : Int64) (0 : Int64) (0 : Int32) _ hw (lv_sub hl [4, 5, 6, 7, 8, 10, 11, 12, 2, 1, 0] rfl)
                · replace hw := hw.2 c9
                  refine lv_iload hx hb dX8_slips_88 (lv_at hl 0 rfl) ?_
                  refine lv_i2l hx hb dX8_slips_90 rfl ?_
                  exact W.lret hx hb hr (fun t ht _ => ⟨_, rfl, hw, ht⟩) (fun _ h => absurd h List.not_mem_nil) dX8_slips_91
              · replace hw := hw.2 c9
                refine lv_ldc2 (v := -1) hx hb hown (hts (.constantLong RX8 196 (-1)) (by decide +kernel)) dX8_slips_65 ?_
                exact W.lret hx hb hr (fun t ht _ => ⟨_, rfl, hw, ht⟩) (fun _ h => absurd h List.not_mem_nil) dX8_slips_68
set_option maxHeartbeats 4000000 in
set_option maxRecDepth 100000 in
theorem c_X8_cutTo (l : Launch) (D : va_G) (G : Nat → ClassId) (x0 : Int32) (x1 : Int64) (post : Int64 → Prop) (hw : wp_X8_cutTo x0 x1 post) : Met l yX8_cutTo wsX8_cutTo ({ frames := 0, cells := 0, slots := 0, locals := 0 } : Room) (va_Pc [.int x0, .long x1] (xR D G [])) (vp_Sl post) 0 0 (fun _ => False) := by
  refine Met.ofW (cc := cX8_cutTo) (maxL := 3) (ret := (some .long)) (by decide) rfl ?_
  intro p e s m args below meth c s₁ B hml hv
  obtain ⟨rfl, hP, hK⟩ := hv
  have hx := B.exec
  have hb := B.bytes
  have hr := B.returns
  have hts := atoms_spec (ws := wsX8_cutTo) B.pre
  have hown : s.vm.findClass RX8 = some m.cls := findClass_of_methodNamed B.named
  have hlocks := B.notSynchronized
  have hl := lv_entry ([.int x0, .long x1] : List Value) (n := 3) (Nat.le_of_ble_eq_true rfl)
  rw [lg_entry_eq]
  generalize (lg_sl ([.int x0, .long x1] : List Value) ++ List.replicate (3 - (lg_sl ([.int x0, .long x1] : List Value)).length) Slot.unset).toArray = ls at hl ⊢
  have hl : lv_has ls 3 [(0, .int x0), (1, .long x1)] := hl
  unfold wp_X8_cutTo at hw
  refine lv_iload_n hx hb dX8_cutTo_0 rfl (lv_at hl 0 rfl) ?_
  refine lv_if_ne (tgt := 11) hx hb dX8_cutTo_1 (by decide) (fun c9 => ?_) (fun c9 => ?_)
  · replace hw := hw.1 c9
    refine lv_iload_n hx hb dX8_cutTo_11 rfl (lv_at hl 0 rfl) ?_
    refine lv_iconst (v := 1) hx hb dX8_cutTo_12 (by decide) ?_
    refine lv_icmp_ne (tgt := 23) hx hb dX8_cutTo_13 (by decide) (fun c9 => ?_) (fun c9 => ?_)
    · replace hw := hw.1 c9
      refine lv_iload_n hx hb dX8_cutTo_23 rfl (lv_at hl 0 rfl) ?_
      refine lv_iconst (v := 2) hx hb dX8_cutTo_24 (by decide) ?_
      refine lv_icmp_ne (tgt := 34) hx hb dX8_cutTo_25 (by decide) (fun c9 => ?_) (fun c9 => ?_)
      · replace hw := hw.1 c9
        refine lv_lload_n hx hb dX8_cutTo_34 rfl (lv_at hl 1 rfl) ?_
        exact W.lret hx hb hr (fun t ht _ => ⟨_, rfl, hw, ht⟩) (fun _ h => absurd h List.not_mem_nil) dX8_cutTo_35
      · replace hw := hw.2 c9
        refine lv_lload_n hx hb dX8_cutTo_28 rfl (lv_at hl 1 rfl) ?_
        refine lv_l2i hx hb dX8_cutTo_29 rfl ?_
        refine lv_i2l hx hb dX8_cutTo_30 rfl ?_
        refine lv_goto (tgt := 35) hx hb dX8_cutTo_31 (by decide) ?_
        exact W.lret hx hb hr (fun t ht _ => ⟨_, rfl, hw, ht⟩) (fun _ h => absurd h List.not_mem_nil) dX8_cutTo_35
    · replace hw := hw.2 c9
      refine lv_lload_n hx hb dX8_cutTo_16 rfl (lv_at hl 1 rfl) ?_
      refine lv_l2i hx hb dX8_cutTo_17 rfl ?_
      refine lv_i2s hx hb dX8_cutTo_18 rfl ?_
      refine lv_i2l hx hb dX8_cutTo_19 rfl ?_
      refine lv_goto (tgt := 35) hx hb dX8_cutTo_20 (by decide) ?_
      exact W.lret hx hb hr (fun t ht _ => ⟨_, rfl, hw, ht⟩) (fun _ h => absurd h List.not_mem_nil) dX8_cutTo_35
  · replace hw := hw.2 c9
    refine lv_lload_n hx hb dX8_cutTo_4 rfl (lv_at hl 1 rfl) ?_
    refine lv_l2i hx hb dX8_cutTo_5 rfl ?_
    refine lv_i2b hx hb dX8_cutTo_6 rfl ?_
    refine lv_i2l hx hb dX8_cutTo_7 rfl ?_
    refine lv_goto (tgt := 35) hx hb dX8_cutTo_8 (by decide) ?_
    exact W.lret hx hb hr (fun t ht _ => ⟨_, rfl, hw, ht⟩) (fun _ h => absurd h List.not_mem_nil) dX8_cutTo_35
set_option maxHeartbeats 4000000 in
set_option maxRecDepth 100000 in
theorem c_X8_film (l : Launch) (D : va_G) (G : Nat → ClassId) (sz : Nat) (m_mo : Nat) (m_alane : Nat) (m_asize : Nat) (m_aitem : Nat) (m_atape : Nat) (m_anow : Nat) (m_atried : Nat) (m_aread : Nat) (m_akept : Nat) (m_anoticed : Nat) (m_aneeds : Nat) (m_aorder : Nat) (m_letters : Int32) (m_position : Int32) (m_number : Int32) (m_isKept : Int32) (m_many : Int32) (m_one : Int32) (m_two : Int32) (m_lane : Nat → Int32) (m_size : Nat → Int32) (m_item : Nat → Int64) (m_now : Nat → Int32) (x1 : Int32) (x2 : Int32) (x3 : Int32) (x4 : Int32) (x5 : Int32) (post : Int32 → (Nat → Int64) → Prop) (hw : wp_X8_film m_lane m_size m_item m_now x1 x2 x3 x4 x5 post) : Met l yX8_film wsX8_film ({ frames := 4, cells := 0, slots := 0, locals := 95 } : Room) (va_Pc [.ref m_mo, .int x1, .int x2, .int x3, .int x4, .int x5] (xM D G sz [(m_mo, .inr (8, [.ref m_alane, .ref m_asize, .ref m_aitem, .int m_letters, .ref m_atape, .int m_position, .int m_number, .ref m_anow, .ref m_atried, .ref m_aread, .ref m_akept, .int m_isKept, .ref m_anoticed, .ref m_aneeds, .ref m_aorder, .int m_many, .int m_one, .int m_two])), (m_alane, .inl (G 0, 4, .inl m_lane)), (m_asize, .inl (G 0, 4, .inl m_size)), (m_aitem, .inl (G 1, 96, .inr (.inl m_item))), (m_anow, .inl (G 0, 55, .inl m_now))])) (va_Qi (fun r (u : (Nat → Int64)) => post r u) (fun u t => xE D G (va_A [(m_mo, .inr (8, [.ref m_alane, .ref m_asize, .ref m_aitem, .int m_letters, .ref m_atape, .int m_position, .int m_number, .ref m_anow, .ref m_atried, .ref m_aread, .ref m_akept, .int m_isKept, .ref m_anoticed, .ref m_aneeds, .ref m_aorder, .int m_many, .int m_one, .int m_two])), (m_alane, .inl (G 0, 4, .inl m_lane)), (m_asize, .inl (G 0, 4, .inl m_size)), (m_aitem, .inl (G 1, 96, .inr (.inl m_item))), (m_anow, .inl (G 0, 55, .inl m_now))] sz) [(m_mo, .inr (8, [.ref m_alane, .ref m_asize, .ref m_aitem, .int m_letters, .ref m_atape, .int m_position, .int m_number, .ref m_anow, .ref m_atried, .ref m_aread, .ref m_akept, .int m_isKept, .ref m_anoticed, .ref m_aneeds, .ref m_aorder, .int m_many, .int m_one, .int m_two])), (m_alane, .inl (G 0, 4, .inl m_lane)), (m_asize, .inl (G 0, 4, .inl m_size)), (m_aitem, .inl (G 1, 96, .inr (.inl u))), (m_anow, .inl (G 0, 55, .inl m_now))] t) (va_A [(m_mo, .inr (8, [.ref m_alane, .ref m_asize, .ref m_aitem, .int m_letters, .ref m_atape, .int m_position, .int m_number, .ref m_anow, .ref m_atried, .ref m_aread, .ref m_akept, .int m_isKept, .ref m_anoticed, .ref m_aneeds, .ref m_aorder, .int m_many, .int m_one, .int m_two])), (m_alane, .inl (G 0, 4, .inl m_lane)), (m_asize, .inl (G 0, 4, .inl m_size)), (m_aitem, .inl (G 1, 96, .inr (.inl m_item))), (m_anow, .inl (G 0, 55, .inl m_now))] sz)) 0 0 (va_A [(m_mo, .inr (8, [.ref m_alane, .ref m_asize, .ref m_aitem, .int m_letters, .ref m_atape, .int m_position, .int m_number, .ref m_anow, .ref m_atried, .ref m_aread, .ref m_akept, .int m_isKept, .ref m_anoticed, .ref m_aneeds, .ref m_aorder, .int m_many, .int m_one, .int m_two])), (m_alane, .inl (G 0, 4, .inl m_lane)), (m_asize, .inl (G 0, 4, .inl m_size)), (m_aitem, .inl (G 1, 96, .inr (.inl m_item))), (m_anow, .inl (G 0, 55, .inl m_now))] sz) := by
  refine Met.ofW (cc := cX8_film) (maxL := 8) (ret := (some .int)) (by decide) rfl ?_
  intro p e s m args below meth c s₁ B hml hv
  obtain ⟨rfl, hsz, hP, hK, hD0⟩ := hv
  have hx := B.exec
  have hb := B.bytes
  have hr := B.returns
  have hts := atoms_spec (ws := wsX8_film) B.pre
  have hown : s.vm.findClass RX8 = some m.cls := findClass_of_methodNamed B.named
  have hlocks := B.notSynchronized
  subst hsz
  have hD := hD0.self (sz := s.heap.size)
  generalize hAe : va_A [(m_mo, .inr (8, [.ref m_alane, .ref m_asize, .ref m_aitem, .int m_letters, .ref m_atape, .int m_position, .int m_number, .ref m_anow, .ref m_atried, .ref m_aread, .ref m_akept, .int m_isKept, .ref m_anoticed, .ref m_aneeds, .ref m_aorder, .int m_many, .int m_one, .int m_two])), (m_alane, .inl (G 0, 4, .inl m_lane)), (m_asize, .inl (G 0, 4, .inl m_size)), (m_aitem, .inl (G 1, 96, .inr (.inl m_item))), (m_anow, .inl (G 0, 55, .inl m_now))] s.heap.size = A at hD ⊢
  have hA : ∀ q : Nat, s.heap.size ≤ q → A q := fun q h => by rw [← hAe]; exact Or.inr h
  have hS : va_S A s.heap s.heap [] := va_S.rf
  have inX8 : ∀ w ∈ wsX80, w ∈ wsX8_film := by decide +kernel
  have fl23 := hts (.fieldLink RX8 23 "NewsCowModel" "now" "[I") (by decide +kernel)
  have fl16 := hts (.fieldLink RX8 16 "NewsCowModel" "item" "[J") (by decide +kernel)
  have hl := lv_entry ([.ref m_mo, .int x1, .int x2, .int x3, .int x4, .int x5] : List Value) (n := 8) (Nat.le_of_ble_eq_true rfl)
  rw [lg_entry_eq]
  generalize (lg_sl ([.ref m_mo, .int x1, .int x2, .int x3, .int x4, .int x5] : List Value) ++ List.replicate (8 - (lg_sl ([.ref m_mo, .int x1, .int x2, .int x3, .int x4, .int x5] : List Value)).length) Slot.unset).toArray = ls at hl ⊢
  have hl : lv_has ls 8 [(0, .ref m_mo), (1, .int x1), (2, .int x2), (3, .int x3), (4, .int x4), (5, .int x5)] := hl
  unfold wp_X8_film at hw
  have L71 : ∀ (f71 : Nat) (x7 : Int32) (m_item : Nat → Int64) (H : Heap) (locs : List Loc) (ls : Array Slot), wp_X8_film_L71 m_now x1 x2 x3 x4 x5 post f71 m_item x7 → va_P D vwCl [(m_mo, .inr (8, [.ref m_alane, .ref m_asize, .ref m_aitem, .int m_letters, .ref m_atape, .int m_position, .int m_number, .ref m_anow, .ref m_atried, .ref m_aread, .ref m_akept, .int m_isKept, .ref m_anoticed, .ref m_aneeds, .ref m_aorder, .int m_many, .int m_one, .int m_two])), (m_alane, .inl (G 0, 4, .inl m_lane)), (m_asize, .inl (G 0, 4, .inl m_size)), (m_aitem, .inl (G 1, 96, .inr (.inl m_item))), (m_anow, .inl (G 0, 55, .inl m_now))] H → va_D A [(m_mo, .inr (8, [.ref m_alane, .ref m_asize, .ref m_aitem, .int m_letters, .ref m_atape, .int m_position, .int m_number, .ref m_anow, .ref m_atried, .ref m_aread, .ref m_akept, .int m_isKept, .ref m_anoticed, .ref m_aneeds, .ref m_aorder, .int m_many, .int m_one, .int m_two])), (m_alane, .inl (G 0, 4, .inl m_lane)), (m_asize, .inl (G 0, 4, .inl m_size)), (m_aitem, .inl (G 1, 96, .inr (.inl m_item))), (m_anow, .inl (G 0, 55, .inl m_now))] → va_S A s.heap H locs → lv_has ls 8 [(0, .ref m_mo), (1, .int x1), (2, .int x2), (3, .int x3), (4, .int x4), (5, .int x5), (7, .int x7)] → W p l e (headSpec wsX8_film ({ frames := 4, cells := 0, slots := 0, locals := 95 } : Room)).room s m ([.ref m_mo, .int x1, .int x2, .int x3, .int x4, .int x5] : List Value).toArray below meth c H locs 0 0 (MQ below (va_Qi (fun r (u : (Nat → Int64)) => post r u) (fun u t => xE D G A [(m_mo, .inr (8, [.ref m_alane, .ref m_asize, .ref m_aitem, .int m_letters, .ref m_atape, .int m_position, .int m_number, .ref m_anow, .ref m_atried, .ref m_aread, .ref m_akept, .int m_isKept, .ref m_anoticed, .ref m_aneeds, .ref m_aorder, .int m_many, .int m_one, .int m_two])), (m_alane, .inl (G 0, 4, .inl m_lane)), (m_asize, .inl (G 0, 4, .inl m_size)), (m_aitem, .inl (G 1, 96, .inr (.inl u))), (m_anow, .inl (G 0, 55, .inl m_now))] t) A) ([.ref m_mo, .int x1, .int x2, .int x3, .int x4, .int x5] : List Value).toArray s 0 0 A) (F0 m 71 ls []) := by
    intro f71
    induction f71 with
    | zero => intro x7 m_item H locs ls hw hP hD hS hl; exact (hw : False).elim
    | succ f71 ih71 =>
      intro x7 m_item H locs ls hw hP hD hS hl
      unfold wp_X8_film_L71 at hw
      refine lv_iload hx hb dX8_film_71 (lv_at hl 6 rfl) ?_
      refine lv_iload_n hx hb dX8_film_73 rfl (lv_at hl 2 rfl) ?_
      refine lv_icmp_ge (tgt := 123) hx hb dX8_film_74 (by decide) (fun c9 => ?_) (fun c9 => ?_)
      · replace hw := hw.1 c9
        refine lv_iload_n hx hb dX8_film_123 rfl (lv_at hl 2 rfl) ?_
        exact W.iret hx hb hr (x_mi (u := m_item) hP hK hD hS hw) hS.2.2 dX8_film_124
      · replace hw := hw.2 c9
        refine lv_aload_n hx hb dX8_film_77 rfl (lv_at hl 0 rfl) ?_
        refine va_get (D := D) (ci := 8) (v := .ref m_aitem) (C := RX8) (T := TX8) (N := 18) hx hb hts inX8 hown hK hP 0 rfl rfl 2 (by decide) fl16 (fun _ h9 => h9) rfl dX8_film_78 ?_
        refine lv_bipush (v := 24) hx hb dX8_film_81 (by decide) ?_
        refine lv_iload_n hx hb dX8_film_83 rfl (lv_at hl 3 rfl) ?_
        refine lv_imul hx hb dX8_film_84 ?_
        refine lv_iload hx hb dX8_film_85 (lv_at hl 5 rfl) ?_
        refine lv_iadd hx hb dX8_film_87 ?_
        refine lv_iload hx hb dX8_film_88 (lv_at hl 6 rfl) ?_
        refine lv_iadd hx hb dX8_film_90 ?_
        refine lv_iload hx hb dX8_film_91 (lv_at hl 4 rfl) ?_
        refine lv_aload_n hx hb dX8_film_93 rfl (lv_at hl 0 rfl) ?_
        refine va_get (D := D) (ci := 8) (v := .ref m_anow) (C := RX8) (T := TX8) (N := 18) hx hb hts inX8 hown hK hP 0 rfl rfl 7 (by decide) fl23 (fun _ h9 => h9) rfl dX8_film_94 ?_
        refine lv_iload_n hx hb dX8_film_97 rfl (lv_at hl 1 rfl) ?_
        refine lv_iload hx hb dX8_film_98 (lv_at hl 6 rfl) ?_
        refine lv_iconst (v := 1) hx hb dX8_film_100 (by decide) ?_
        refine lv_iadd hx hb dX8_film_101 ?_
        refine vp_callSi (W.runS (As := [.ref m_anow, .int x1, .int (x7 + (1 : Int32))]) (rest := [.int x4, .int ((((24 : Int32) * x3) + x5) + x7), .ref m_aitem]) ⟨hx, hb, hml, hown, hts⟩ (c_X8_noticedBy l D G m_anow m_now x1 (x7 + (1 : Int32)) _ hw) (va_cwS 3 hts gX8_film_X8_noticedBy rfl rfl rfl (by decide +kernel) ⟨(Nat.le_of_ble_eq_true rfl), (Nat.le_of_ble_eq_true rfl)⟩) (xR_ps (hP.sub [4] rfl) hK) rfl rfl hl.1 rfl (lv_room (Nat.le_of_ble_eq_true rfl)) dX8_film_102 ⟨Nat.zero_le _, Nat.zero_le _⟩) (fun r7 hw => ?_)
        refine lv_aload_n hx hb dX8_film_105 rfl (lv_at hl 0 rfl) ?_
        refine va_get (D := D) (ci := 8) (v := .ref m_anow) (C := RX8) (T := TX8) (N := 18) hx hb hts inX8 hown hK hP 0 rfl rfl 7 (by decide) fl23 (fun _ h9 => h9) rfl dX8_film_106 ?_
        refine lv_iconst (v := 2) hx hb dX8_film_109 (by decide) ?_
        refine x_iald (j := 2) hx hb hK hP 4 0 rfl rfl (by decide) (x_in (by decide)) dX8_film_110 ?_
        refine lv_iand hx hb dX8_film_111 ?_
        refine lv_i2l hx hb dX8_film_112 rfl ?_
        refine vp_callSl (W.runS (As := [.int x4, .long ((r7 &&& (m_now 2)).toInt64)]) (rest := [.int ((((24 : Int32) * x3) + x5) + x7), .ref m_aitem]) ⟨hx, hb, hml, hown, hts⟩ (c_X8_cutTo l D G x4 ((r7 &&& (m_now 2)).toInt64) _ hw) (va_cwS 2 hts gX8_film_X8_cutTo rfl rfl rfl (by decide +kernel) ⟨(Nat.le_of_ble_eq_true rfl), (Nat.le_of_ble_eq_true rfl)⟩) (xR_ps (hP.sub [] rfl) hK) rfl rfl hl.1 rfl (lv_room (Nat.le_of_ble_eq_true rfl)) dX8_film_113 ⟨Nat.zero_le _, Nat.zero_le _⟩) (fun r8 hw => ?_)
        refine x_last (j := ((((24 : Int32) * x3) + x5) + x7).toNatClampNeg) hx hb hK hP hD hS 3 1 rfl rfl rfl hw.1 dX8_film_116 (fun H locs hP hD hS => ?_)
        replace hw := hw.2
        replace hP : va_P D vwCl [(m_mo, .inr (8, [.ref m_alane, .ref m_asize, .ref m_aitem, .int m_letters, .ref m_atape, .int m_position, .int m_number, .ref m_anow, .ref m_atried, .ref m_aread, .ref m_akept, .int m_isKept, .ref m_anoticed, .ref m_aneeds, .ref m_aorder, .int m_many, .int m_one, .int m_two])), (m_alane, .inl (G 0, 4, .inl m_lane)), (m_asize, .inl (G 0, 4, .inl m_size)), (m_aitem, .inl (G 1, 96, .inr (.inl (vp_updL m_item ((((24 : Int32) * x3) + x5) + x7).toNatClampNeg r8)))), (m_anow, .inl (G 0, 55, .inl m_now))] H := hP
        replace hD : va_D A [(m_mo, .inr (8, [.ref m_alane, .ref m_asize, .ref m_aitem, .int m_letters, .ref m_atape, .int m_position, .int m_number, .ref m_anow, .ref m_atried, .ref m_aread, .ref m_akept, .int m_isKept, .ref m_anoticed, .ref m_aneeds, .ref m_aorder, .int m_many, .int m_one, .int m_two])), (m_alane, .inl (G 0, 4, .inl m_lane)), (m_asize, .inl (G 0, 4, .inl m_size)), (m_aitem, .inl (G 1, 96, .inr (.inl (vp_updL m_item ((((24 : Int32) * x3) + x5) + x7).toNatClampNeg r8)))), (m_anow, .inl (G 0, 55, .inl m_now))] := hD
        refine lv_iinc (v := (x7 + 1)) (lv' := [(7, .int (x7 + 1)), (0, .ref m_mo), (1, .int x1), (2, .int x2), (3, .int x3), (4, .int x4), (5, .int x5)]) hx hb dX8_film_117 hl (k := 6) rfl (by first | rfl | decide) (by decide) rfl (fun ls hl => ?_)
        refine lv_goto (tgt := 71) hx hb dX8_film_120 (by decide) ?_
        exact ih71 (x7 + 1) (vp_updL m_item ((((24 : Int32) * x3) + x5) + x7).toNatClampNeg r8) _ _ _ hw hP hD hS (lv_sub hl [1, 2, 3, 4, 5, 6, 0] rfl)
  refine lv_aload_n hx hb dX8_film_0 rfl (lv_at hl 0 rfl) ?_
  refine lv_iload_n hx hb dX8_film_1 rfl (lv_at hl 1 rfl) ?_
  refine vp_callSi (W.runV (As := [.int x1]) (rest := []) ⟨hx, hb, hml, hown, hts⟩ (c_X8_isTaster l D G m_mo m_alane m_asize m_aitem m_atape m_anow m_atried m_aread m_akept m_anoticed m_aneeds m_aorder m_letters m_position m_number m_isKept m_many m_one m_two m_now x1 _ hw) (cwV 1 hts gX8_film_X8_isTaster rfl rfl rfl (by decide +kernel) ⟨(Nat.le_of_ble_eq_true rfl), (Nat.le_of_ble_eq_true rfl)⟩) (xR_pv (hP.sub [0, 4] rfl) hK (va_recv hK hP (ci := 8) (q0 := 0) rfl rfl)) rfl rfl hl.1 rfl (lv_room (Nat.le_of_ble_eq_true rfl)) dX8_film_2 ⟨Nat.zero_le _, Nat.zero_le _⟩) (fun r1 hw => ?_)
  refine lv_if_eq (tgt := 46) hx hb dX8_film_5 (by decide) (fun c9 => ?_) (fun c9 => ?_)
  · replace hw := hw.1 c9
    refine lv_iconst (v := -1) hx hb dX8_film_46 (by decide) ?_
    exact W.iret hx hb hr (x_mi (u := m_item) hP hK hD hS hw) hS.2.2 dX8_film_47
  · replace hw := hw.2 c9
    refine lv_iload_n hx hb dX8_film_8 rfl (lv_at hl 2 rfl) ?_
    refine lv_iconst (v := 1) hx hb dX8_film_9 (by decide) ?_
    refine lv_bipush (v := 24) hx hb dX8_film_10 (by decide) ?_
    refine vp_callSi (W.runS (As := [.int x2, .int (1 : Int32), .int (24 : Int32)]) (rest := []) ⟨hx, hb, hml, hown, hts⟩ (c_X8_in l D G x2 (1 : Int32) (24 : Int32) _ hw) (va_cwS 3 hts gX8_film_X8_in rfl rfl rfl (by decide +kernel) ⟨(Nat.le_of_ble_eq_true rfl), (Nat.le_of_ble_eq_true rfl)⟩) (xR_ps (hP.sub [] rfl) hK) rfl rfl hl.1 rfl (lv_room (Nat.le_of_ble_eq_true rfl)) dX8_film_12 ⟨Nat.zero_le _, Nat.zero_le _⟩) (fun r2 hw => ?_)
    refine lv_if_eq (tgt := 46) hx hb dX8_film_15 (by decide) (fun c9 => ?_) (fun c9 => ?_)
    · replace hw := hw.1 c9
      refine lv_iconst (v := -1) hx hb dX8_film_46 (by decide) ?_
      exact W.iret hx hb hr (x_mi (u := m_item) hP hK hD hS hw) hS.2.2 dX8_film_47
    · replace hw := hw.2 c9
      refine lv_iload_n hx hb dX8_film_18 rfl (lv_at hl 2 rfl) ?_
      refine lv_aload_n hx hb dX8_film_19 rfl (lv_at hl 0 rfl) ?_
      refine va_get (D := D) (ci := 8) (v := .ref m_anow) (C := RX8) (T := TX8) (N := 18) hx hb hts inX8 hown hK hP 0 rfl rfl 7 (by decide) fl23 (fun _ h9 => h9) rfl dX8_film_20 ?_
      refine vp_callSi (W.runS (As := [.ref m_anow]) (rest := [.int x2]) ⟨hx, hb, hml, hown, hts⟩ (c_X8_allOf l D G m_anow m_now _ hw) (va_cwS 1 hts gX8_film_X8_allOf rfl rfl rfl (by decide +kernel) ⟨(Nat.le_of_ble_eq_true rfl), (Nat.le_of_ble_eq_true rfl)⟩) (xR_ps (hP.sub [4] rfl) hK) rfl rfl hl.1 rfl (lv_room (Nat.le_of_ble_eq_true rfl)) dX8_film_23 ⟨Nat.zero_le _, Nat.zero_le _⟩) (fun r3 hw => ?_)
      refine lv_icmp_gt (tgt := 46) hx hb dX8_film_26 (by decide) (fun c9 => ?_) (fun c9 => ?_)
      · replace hw := hw.1 c9
        refine lv_iconst (v := -1) hx hb dX8_film_46 (by decide) ?_
        exact W.iret hx hb hr (x_mi (u := m_item) hP hK hD hS hw) hS.2.2 dX8_film_47
      · replace hw := hw.2 c9
        refine lv_iload_n hx hb dX8_film_29 rfl (lv_at hl 3 rfl) ?_
        refine vp_callSi (W.runS (As := [.int x3]) (rest := []) ⟨hx, hb, hml, hown, hts⟩ (c_X8_isSheet l D G x3 _ hw) (va_cwS 1 hts gX8_film_X8_isSheet rfl rfl rfl (by decide +kernel) ⟨(Nat.le_of_ble_eq_true rfl), (Nat.le_of_ble_eq_true rfl)⟩) (xR_ps (hP.sub [] rfl) hK) rfl rfl hl.1 rfl (lv_room (Nat.le_of_ble_eq_true rfl)) dX8_film_30 ⟨Nat.zero_le _, Nat.zero_le _⟩) (fun r4 hw => ?_)
        refine lv_if_eq (tgt := 46) hx hb dX8_film_33 (by decide) (fun c9 => ?_) (fun c9 => ?_)
        · replace hw := hw.1 c9
          refine lv_iconst (v := -1) hx hb dX8_film_46 (by decide) ?_
          exact W.iret hx hb hr (x_mi (u := m_item) hP hK hD hS hw) hS.2.2 dX8_film_47
        · replace hw := hw.2 c9
          refine lv_iload hx hb dX8_film_36 (lv_at hl 4 rfl) ?_
          refine lv_iconst (v := 0) hx hb dX8_film_38 (by decide) ?_
          refine lv_iconst (v := 3) hx hb dX8_film_39 (by decide) ?_
          refine vp_callSi (W.runS (As := [.int x4, .int (0 : Int32), .int (3 : Int32)]) (rest := []) ⟨hx, hb, hml, hown, hts⟩ (c_X8_in l D G x4 (0 : Int32) (3 : Int32) _ hw) (va_cwS 3 hts gX8_film_X8_in rfl rfl rfl (by decide +kernel) ⟨(Nat.le_of_ble_eq_true rfl), (Nat.le_of_ble_eq_true rfl)⟩) (xR_ps (hP.sub [] rfl) hK) rfl rfl hl.1 rfl (lv_room (Nat.le_of_ble_eq_true rfl)) dX8_film_40 ⟨Nat.zero_le _, Nat.zero_le _⟩) (fun r5 hw => ?_)
          refine lv_if_ne (tgt := 48) hx hb dX8_film_43 (by decide) (fun c9 => ?_) (fun c9 => ?_)
          · replace hw := hw.1 c9
            refine lv_aload_n hx hb dX8_film_48 rfl (lv_at hl 0 rfl) ?_
            refine lv_iload_n hx hb dX8_film_49 rfl (lv_at hl 3 rfl) ?_
            refine lv_iload hx hb dX8_film_50 (lv_at hl 4 rfl) ?_
            refine lv_iload hx hb dX8_film_52 (lv_at hl 5 rfl) ?_
            refine lv_iload_n hx hb dX8_film_54 rfl (lv_at hl 2 rfl) ?_
            refine vp_callSi (W.runV (As := [.int x3, .int x4, .int x5, .int x2]) (rest := []) ⟨hx, hb, hml, hown, hts⟩ (c_X8_wrong l D G m_mo m_alane m_asize m_aitem m_atape m_anow m_atried m_aread m_akept m_anoticed m_aneeds m_aorder m_letters m_position m_number m_isKept m_many m_one m_two m_lane m_size x3 x4 x5 x2 _ hw) (cwV 4 hts gX8_film_X8_wrong rfl rfl rfl (by decide +kernel) ⟨(Nat.le_of_ble_eq_true rfl), (Nat.le_of_ble_eq_true rfl)⟩) (xR_pv (hP.sub [0, 1, 2] rfl) hK (va_recv hK hP (ci := 8) (q0 := 0) rfl rfl)) rfl rfl hl.1 rfl (lv_room (Nat.le_of_ble_eq_true rfl)) dX8_film_55 ⟨Nat.zero_le _, Nat.zero_le _⟩) (fun r6 hw => ?_)
            refine lv_istore (lv' := [(6, .int r6), (0, .ref m_mo), (1, .int x1), (2, .int x2), (3, .int x3), (4, .int x4), (5, .int x5)]) hx hb dX8_film_58 hl (by decide) rfl (fun ls hl => ?_)
            refine lv_iload hx hb dX8_film_60 (lv_at hl 0 rfl) ?_
            refine lv_if_eq (tgt := 68) hx hb dX8_film_62 (by decide) (fun c9 => ?_) (fun c9 => ?_)
            · replace hw := hw.1 c9
              refine lv_iconst (v := 0) hx hb dX8_film_68 (by decide) ?_
              refine lv_istore (lv' := [(7, .int (0 : Int32)), (6, .int r6), (0, .ref m_mo), (1, .int x1), (2, .int x2), (3, .int x3), (4, .int x4), (5, .int x5)]) hx hb dX8_film_69 hl (by decide) rfl (fun ls hl => ?_)
              obtain ⟨n, hw⟩ := hw
              exact L71 n (0 : Int32) m_item _ _ _ hw hP hD hS (lv_sub hl [2, 3, 4, 5, 6, 7, 0] rfl)
            · replace hw := hw.2 c9
              refine lv_iload hx hb dX8_film_65 (lv_at hl 0 rfl) ?_
              exact W.iret hx hb hr (x_mi (u := m_item) hP hK hD hS hw) hS.2.2 dX8_film_67
          · replace hw := hw.2 c9
            refine lv_iconst (v := -1) hx hb dX8_film_46 (by decide) ?_
            exact W.iret hx hb hr (x_mi (u := m_item) hP hK hD hS hw) hS.2.2 dX8_film_47
set_option maxHeartbeats 4000000 in
set_option maxRecDepth 100000 in
theorem c_X8_sheet (l : Launch) (D : va_G) (G : Nat → ClassId) (sz : Nat) (m_mo : Nat) (m_alane : Nat) (m_asize : Nat) (m_aitem : Nat) (m_atape : Nat) (m_anow : Nat) (m_atried : Nat) (m_aread : Nat) (m_akept : Nat) (m_anoticed : Nat) (m_aneeds : Nat) (m_aorder : Nat) (m_letters : Int32) (m_position : Int32) (m_number : Int32) (m_isKept : Int32) (m_many : Int32) (m_one : Int32) (m_two : Int32) (m_lane : Nat → Int32) (m_size : Nat → Int32) (m_item : Nat → Int64) (x1 : Int32) (x2 : Int32) (x3 : Int32) (post : Int32 → (Nat → Int32) → (Nat → Int32) → (Nat → Int64) → Prop) (hw : wp_X8_sheet m_lane m_size m_item x1 x2 x3 post) : Met l yX8_sheet wsX8_sheet ({ frames := 2, cells := 0, slots := 0, locals := 42 } : Room) (va_Pc [.ref m_mo, .int x1, .int x2, .int x3] (xM D G sz [(m_mo, .inr (8, [.ref m_alane, .ref m_asize, .ref m_aitem, .int m_letters, .ref m_atape, .int m_position, .int m_number, .ref m_anow, .ref m_atried, .ref m_aread, .ref m_akept, .int m_isKept, .ref m_anoticed, .ref m_aneeds, .ref m_aorder, .int m_many, .int m_one, .int m_two])), (m_alane, .inl (G 0, 4, .inl m_lane)), (m_asize, .inl (G 0, 4, .inl m_size)), (m_aitem, .inl (G 1, 96, .inr (.inl m_item)))])) (va_Qi (fun r (u : (Nat → Int32) × (Nat → Int32) × (Nat → Int64)) => post r u.1 u.2.1 u.2.2) (fun u t => xE D G (va_A [(m_mo, .inr (8, [.ref m_alane, .ref m_asize, .ref m_aitem, .int m_letters, .ref m_atape, .int m_position, .int m_number, .ref m_anow, .ref m_atried, .ref m_aread, .ref m_akept, .int m_isKept, .ref m_anoticed, .ref m_aneeds, .ref m_aorder, .int m_many, .int m_one, .int m_two])), (m_alane, .inl (G 0, 4, .inl m_lane)), (m_asize, .inl (G 0, 4, .inl m_size)), (m_aitem, .inl (G 1, 96, .inr (.inl m_item)))] sz) [(m_mo, .inr (8, [.ref m_alane, .ref m_asize, .ref m_aitem, .int m_letters, .ref m_atape, .int m_position, .int m_number, .ref m_anow, .ref m_atried, .ref m_aread, .ref m_akept, .int m_isKept, .ref m_anoticed, .ref m_aneeds, .ref m_aorder, .int m_many, .int m_one, .int m_two])), (m_alane, .inl (G 0, 4, .inl (u.1))), (m_asize, .inl (G 0, 4, .inl (u.2.1))), (m_aitem, .inl (G 1, 96, .inr (.inl (u.2.2))))] t) (va_A [(m_mo, .inr (8, [.ref m_alane, .ref m_asize, .ref m_aitem, .int m_letters, .ref m_atape, .int m_position, .int m_number, .ref m_anow, .ref m_atried, .ref m_aread, .ref m_akept, .int m_isKept, .ref m_anoticed, .ref m_aneeds, .ref m_aorder, .int m_many, .int m_one, .int m_two])), (m_alane, .inl (G 0, 4, .inl m_lane)), (m_asize, .inl (G 0, 4, .inl m_size)), (m_aitem, .inl (G 1, 96, .inr (.inl m_item)))] sz)) 0 0 (va_A [(m_mo, .inr (8, [.ref m_alane, .ref m_asize, .ref m_aitem, .int m_letters, .ref m_atape, .int m_position, .int m_number, .ref m_anow, .ref m_atried, .ref m_aread, .ref m_akept, .int m_isKept, .ref m_anoticed, .ref m_aneeds, .ref m_aorder, .int m_many, .int m_one, .int m_two])), (m_alane, .inl (G 0, 4, .inl m_lane)), (m_asize, .inl (G 0, 4, .inl m_size)), (m_aitem, .inl (G 1, 96, .inr (.inl m_item)))] sz) := by
  refine Met.ofW (cc := cX8_sheet) (maxL := 5) (ret := (some .int)) (by decide) rfl ?_
  intro p e s m args below meth c s₁ B hml hv
  obtain ⟨rfl, hsz, hP, hK, hD0⟩ := hv
  have hx := B.exec
  have hb := B.bytes
  have hr := B.returns
  have hts := atoms_spec (ws := wsX8_sheet) B.pre
  have hown : s.vm.findClass RX8 = some m.cls := findClass_of_methodNamed B.named
  have hlocks := B.notSynchronized
  subst hsz
  have hD := hD0.self (sz := s.heap.size)
  generalize hAe : va_A [(m_mo, .inr (8, [.ref m_alane, .ref m_asize, .ref m_aitem, .int m_letters, .ref m_atape, .int m_position, .int m_number, .ref m_anow, .ref m_atried, .ref m_aread, .ref m_akept, .int m_isKept, .ref m_anoticed, .ref m_aneeds, .ref m_aorder, .int m_many, .int m_one, .int m_two])), (m_alane, .inl (G 0, 4, .inl m_lane)), (m_asize, .inl (G 0, 4, .inl m_size)), (m_aitem, .inl (G 1, 96, .inr (.inl m_item)))] s.heap.size = A at hD ⊢
  have hA : ∀ q : Nat, s.heap.size ≤ q → A q := fun q h => by rw [← hAe]; exact Or.inr h
  have hS : va_S A s.heap s.heap [] := va_S.rf
  have inX8 : ∀ w ∈ wsX80, w ∈ wsX8_sheet := by decide +kernel
  have fl7 := hts (.fieldLink RX8 7 "NewsCowModel" "lane" "[I") (by decide +kernel)
  have fl13 := hts (.fieldLink RX8 13 "NewsCowModel" "size" "[I") (by decide +kernel)
  have fl16 := hts (.fieldLink RX8 16 "NewsCowModel" "item" "[J") (by decide +kernel)
  have hl := lv_entry ([.ref m_mo, .int x1, .int x2, .int x3] : List Value) (n := 5) (Nat.le_of_ble_eq_true rfl)
  rw [lg_entry_eq]
  generalize (lg_sl ([.ref m_mo, .int x1, .int x2, .int x3] : List Value) ++ List.replicate (5 - (lg_sl ([.ref m_mo, .int x1, .int x2, .int x3] : List Value)).length) Slot.unset).toArray = ls at hl ⊢
  have hl : lv_has ls 5 [(0, .ref m_mo), (1, .int x1), (2, .int x2), (3, .int x3)] := hl
  unfold wp_X8_sheet at hw
  have L48 : ∀ (f48 : Nat) (x4 : Int32) (m_lane : Nat → Int32) (m_size : Nat → Int32) (m_item : Nat → Int64) (H : Heap) (locs : List Loc) (ls : Array Slot), wp_X8_sheet_L48 m_lane m_size x1 x3 post f48 m_item x4 → va_P D vwCl [(m_mo, .inr (8, [.ref m_alane, .ref m_asize, .ref m_aitem, .int m_letters, .ref m_atape, .int m_position, .int m_number, .ref m_anow, .ref m_atried, .ref m_aread, .ref m_akept, .int m_isKept, .ref m_anoticed, .ref m_aneeds, .ref m_aorder, .int m_many, .int m_one, .int m_two])), (m_alane, .inl (G 0, 4, .inl m_lane)), (m_asize, .inl (G 0, 4, .inl m_size)), (m_aitem, .inl (G 1, 96, .inr (.inl m_item)))] H → va_D A [(m_mo, .inr (8, [.ref m_alane, .ref m_asize, .ref m_aitem, .int m_letters, .ref m_atape, .int m_position, .int m_number, .ref m_anow, .ref m_atried, .ref m_aread, .ref m_akept, .int m_isKept, .ref m_anoticed, .ref m_aneeds, .ref m_aorder, .int m_many, .int m_one, .int m_two])), (m_alane, .inl (G 0, 4, .inl m_lane)), (m_asize, .inl (G 0, 4, .inl m_size)), (m_aitem, .inl (G 1, 96, .inr (.inl m_item)))] → va_S A s.heap H locs → lv_has ls 5 [(0, .ref m_mo), (1, .int x1), (3, .int x3), (4, .int x4)] → W p l e (headSpec wsX8_sheet ({ frames := 2, cells := 0, slots := 0, locals := 42 } : Room)).room s m ([.ref m_mo, .int x1, .int x2, .int x3] : List Value).toArray below meth c H locs 0 0 (MQ below (va_Qi (fun r (u : (Nat → Int32) × (Nat → Int32) × (Nat → Int64)) => post r u.1 u.2.1 u.2.2) (fun u t => xE D G A [(m_mo, .inr (8, [.ref m_alane, .ref m_asize, .ref m_aitem, .int m_letters, .ref m_atape, .int m_position, .int m_number, .ref m_anow, .ref m_atried, .ref m_aread, .ref m_akept, .int m_isKept, .ref m_anoticed, .ref m_aneeds, .ref m_aorder, .int m_many, .int m_one, .int m_two])), (m_alane, .inl (G 0, 4, .inl (u.1))), (m_asize, .inl (G 0, 4, .inl (u.2.1))), (m_aitem, .inl (G 1, 96, .inr (.inl (u.2.2))))] t) A) ([.ref m_mo, .int x1, .int x2, .int x3] : List Value).toArray s 0 0 A) (F0 m 48 ls []) := by
    intro f48
    induction f48 with
    | zero => intro x4 m_lane m_size m_item H locs ls hw hP hD hS hl; exact (hw : False).elim
    | succ f48 ih48 =>
      intro x4 m_lane m_size m_item H locs ls hw hP hD hS hl
      unfold wp_X8_sheet_L48 at hw
      refine lv_iload hx hb dX8_sheet_48 (lv_at hl 3 rfl) ?_
      refine lv_bipush (v := 24) hx hb dX8_sheet_50 (by decide) ?_
      refine lv_icmp_ge (tgt := 74) hx hb dX8_sheet_52 (by decide) (fun c9 => ?_) (fun c9 => ?_)
      · replace hw := hw.1 c9
        refine lv_iload_n hx hb dX8_sheet_74 rfl (lv_at hl 2 rfl) ?_
        exact W.iret hx hb hr (x_mi (u := (m_lane, m_size, m_item)) hP hK hD hS hw) hS.2.2 dX8_sheet_75
      · replace hw := hw.2 c9
        refine lv_aload_n hx hb dX8_sheet_55 rfl (lv_at hl 0 rfl) ?_
        refine va_get (D := D) (ci := 8) (v := .ref m_aitem) (C := RX8) (T := TX8) (N := 18) hx hb hts inX8 hown hK hP 0 rfl rfl 2 (by decide) fl16 (fun _ h9 => h9) rfl dX8_sheet_56 ?_
        refine lv_bipush (v := 24) hx hb dX8_sheet_59 (by decide) ?_
        refine lv_iload_n hx hb dX8_sheet_61 rfl (lv_at hl 1 rfl) ?_
        refine lv_imul hx hb dX8_sheet_62 ?_
        refine lv_iload hx hb dX8_sheet_63 (lv_at hl 3 rfl) ?_
        refine lv_iadd hx hb dX8_sheet_65 ?_
        refine lv_lconst (v := 0) hx hb dX8_sheet_66 (by decide) ?_
        refine x_last (j := (((24 : Int32) * x1) + x4).toNatClampNeg) hx hb hK hP hD hS 3 1 rfl rfl rfl hw.1 dX8_sheet_67 (fun H locs hP hD hS => ?_)
        replace hw := hw.2
        replace hP : va_P D vwCl [(m_mo, .inr (8, [.ref m_alane, .ref m_asize, .ref m_aitem, .int m_letters, .ref m_atape, .int m_position, .int m_number, .ref m_anow, .ref m_atried, .ref m_aread, .ref m_akept, .int m_isKept, .ref m_anoticed, .ref m_aneeds, .ref m_aorder, .int m_many, .int m_one, .int m_two])), (m_alane, .inl (G 0, 4, .inl m_lane)), (m_asize, .inl (G 0, 4, .inl m_size)), (m_aitem, .inl (G 1, 96, .inr (.inl (vp_updL m_item (((24 : Int32) * x1) + x4).toNatClampNeg (0 : Int64)))))] H := hP
        replace hD : va_D A [(m_mo, .inr (8, [.ref m_alane, .ref m_asize, .ref m_aitem, .int m_letters, .ref m_atape, .int m_position, .int m_number, .ref m_anow, .ref m_atried, .ref m_aread, .ref m_akept, .int m_isKept, .ref m_anoticed, .ref m_aneeds, .ref m_aorder, .int m_many, .int m_one, .int m_two])), (m_alane, .inl (G 0, 4, .inl m_lane)), (m_asize, .inl (G 0, 4, .inl m_size)), (m_aitem, .inl (G 1, 96, .inr (.inl (vp_updL m_item (((24 : Int32) * x1) + x4).toNatClampNeg (0 : Int64)))))] := hD
        refine lv_iinc (v := (x4 + 1)) (lv' := [(4, .int (x4 + 1)), (0, .ref m_mo), (1, .int x1), (3, .int x3)]) hx hb dX8_sheet_68 hl (k := 3) rfl (by first | rfl | decide) (by decide) rfl (fun ls hl => ?_)
        refine lv_goto (tgt := 48) hx hb dX8_sheet_71 (by decide) ?_
        exact ih48 (x4 + 1) m_lane m_size (vp_updL m_item (((24 : Int32) * x1) + x4).toNatClampNeg (0 : Int64)) _ _ _ hw hP hD hS (lv_sub hl [1, 2, 3, 0] rfl)
  refine lv_iload_n hx hb dX8_sheet_0 rfl (lv_at hl 1 rfl) ?_
  refine vp_callSi (W.runS (As := [.int x1]) (rest := []) ⟨hx, hb, hml, hown, hts⟩ (c_X8_isSheet l D G x1 _ hw) (va_cwS 1 hts gX8_sheet_X8_isSheet rfl rfl rfl (by decide +kernel) ⟨(Nat.le_of_ble_eq_true rfl), (Nat.le_of_ble_eq_true rfl)⟩) (xR_ps (hP.sub [] rfl) hK) rfl rfl hl.1 rfl (lv_room (Nat.le_of_ble_eq_true rfl)) dX8_sheet_1 ⟨Nat.zero_le _, Nat.zero_le _⟩) (fun r1 hw => ?_)
  refine lv_if_eq (tgt := 22) hx hb dX8_sheet_4 (by decide) (fun c9 => ?_) (fun c9 => ?_)
  · replace hw := hw.1 c9
    refine lv_iconst (v := -1) hx hb dX8_sheet_22 (by decide) ?_
    exact W.iret hx hb hr (x_mi (u := (m_lane, m_size, m_item)) hP hK hD hS hw) hS.2.2 dX8_sheet_23
  · replace hw := hw.2 c9
    refine lv_iload_n hx hb dX8_sheet_7 rfl (lv_at hl 2 rfl) ?_
    refine lv_iconst (v := 0) hx hb dX8_sheet_8 (by decide) ?_
    refine lv_iconst (v := 3) hx hb dX8_sheet_9 (by decide) ?_
    refine vp_callSi (W.runS (As := [.int x2, .int (0 : Int32), .int (3 : Int32)]) (rest := []) ⟨hx, hb, hml, hown, hts⟩ (c_X8_in l D G x2 (0 : Int32) (3 : Int32) _ hw) (va_cwS 3 hts gX8_sheet_X8_in rfl rfl rfl (by decide +kernel) ⟨(Nat.le_of_ble_eq_true rfl), (Nat.le_of_ble_eq_true rfl)⟩) (xR_ps (hP.sub [] rfl) hK) rfl rfl hl.1 rfl (lv_room (Nat.le_of_ble_eq_true rfl)) dX8_sheet_10 ⟨Nat.zero_le _, Nat.zero_le _⟩) (fun r2 hw => ?_)
    refine lv_if_eq (tgt := 22) hx hb dX8_sheet_13 (by decide) (fun c9 => ?_) (fun c9 => ?_)
    · replace hw := hw.1 c9
      refine lv_iconst (v := -1) hx hb dX8_sheet_22 (by decide) ?_
      exact W.iret hx hb hr (x_mi (u := (m_lane, m_size, m_item)) hP hK hD hS hw) hS.2.2 dX8_sheet_23
    · replace hw := hw.2 c9
      refine lv_iload_n hx hb dX8_sheet_16 rfl (lv_at hl 3 rfl) ?_
      refine lv_bipush (v := 24) hx hb dX8_sheet_17 (by decide) ?_
      refine lv_icmp_le (tgt := 24) hx hb dX8_sheet_19 (by decide) (fun c9 => ?_) (fun c9 => ?_)
      · replace hw := hw.1 c9
        refine lv_iload_n hx hb dX8_sheet_24 rfl (lv_at hl 3 rfl) ?_
        refine lv_if_ge (tgt := 31) hx hb dX8_sheet_25 (by decide) (fun c9 => ?_) (fun c9 => ?_)
        · replace hw := hw.1 c9
          refine lv_aload_n hx hb dX8_sheet_31 rfl (lv_at hl 0 rfl) ?_
          refine va_get (D := D) (ci := 8) (v := .ref m_alane) (C := RX8) (T := TX8) (N := 18) hx hb hts inX8 hown hK hP 0 rfl rfl 0 (by decide) fl7 (fun _ h9 => h9) rfl dX8_sheet_32 ?_
          refine lv_iload_n hx hb dX8_sheet_35 rfl (lv_at hl 1 rfl) ?_
          refine lv_iload_n hx hb dX8_sheet_36 rfl (lv_at hl 2 rfl) ?_
          refine x_iast (j := x1.toNatClampNeg) hx hb hK hP hD hS 1 0 rfl rfl rfl hw.1 dX8_sheet_37 (fun H locs hP hD hS => ?_)
          replace hw := hw.2
          replace hP : va_P D vwCl [(m_mo, .inr (8, [.ref m_alane, .ref m_asize, .ref m_aitem, .int m_letters, .ref m_atape, .int m_position, .int m_number, .ref m_anow, .ref m_atried, .ref m_aread, .ref m_akept, .int m_isKept, .ref m_anoticed, .ref m_aneeds, .ref m_aorder, .int m_many, .int m_one, .int m_two])), (m_alane, .inl (G 0, 4, .inl (upd m_lane x1.toNatClampNeg x2))), (m_asize, .inl (G 0, 4, .inl m_size)), (m_aitem, .inl (G 1, 96, .inr (.inl m_item)))] H := hP
          replace hD : va_D A [(m_mo, .inr (8, [.ref m_alane, .ref m_asize, .ref m_aitem, .int m_letters, .ref m_atape, .int m_position, .int m_number, .ref m_anow, .ref m_atried, .ref m_aread, .ref m_akept, .int m_isKept, .ref m_anoticed, .ref m_aneeds, .ref m_aorder, .int m_many, .int m_one, .int m_two])), (m_alane, .inl (G 0, 4, .inl (upd m_lane x1.toNatClampNeg x2))), (m_asize, .inl (G 0, 4, .inl m_size)), (m_aitem, .inl (G 1, 96, .inr (.inl m_item)))] := hD
          refine lv_aload_n hx hb dX8_sheet_38 rfl (lv_at hl 0 rfl) ?_
          refine va_get (D := D) (ci := 8) (v := .ref m_asize) (C := RX8) (T := TX8) (N := 18) hx hb hts inX8 hown hK hP 0 rfl rfl 1 (by decide) fl13 (fun _ h9 => h9) rfl dX8_sheet_39 ?_
          refine lv_iload_n hx hb dX8_sheet_42 rfl (lv_at hl 1 rfl) ?_
          refine lv_iload_n hx hb dX8_sheet_43 rfl (lv_at hl 3 rfl) ?_
          refine x_iast (j := x1.toNatClampNeg) hx hb hK hP hD hS 2 0 rfl rfl rfl hw.1 dX8_sheet_44 (fun H locs hP hD hS => ?_)
          replace hw := hw.2
          replace hP : va_P D vwCl [(m_mo, .inr (8, [.ref m_alane, .ref m_asize, .ref m_aitem, .int m_letters, .ref m_atape, .int m_position, .int m_number, .ref m_anow, .ref m_atried, .ref m_aread, .ref m_akept, .int m_isKept, .ref m_anoticed, .ref m_aneeds, .ref m_aorder, .int m_many, .int m_one, .int m_two])), (m_alane, .inl (G 0, 4, .inl (upd m_lane x1.toNatClampNeg x2))), (m_asize, .inl (G 0, 4, .inl (upd m_size x1.toNatClampNeg x3))), (m_aitem, .inl (G 1, 96, .inr (.inl m_item)))] H := hP
          replace hD : va_D A [(m_mo, .inr (8, [.ref m_alane, .ref m_asize, .ref m_aitem, .int m_letters, .ref m_atape, .int m_position, .int m_number, .ref m_anow, .ref m_atried, .ref m_aread, .ref m_akept, .int m_isKept, .ref m_anoticed, .ref m_aneeds, .ref m_aorder, .int m_many, .int m_one, .int m_two])), (m_alane, .inl (G 0, 4, .inl (upd m_lane x1.toNatClampNeg x2))), (m_asize, .inl (G 0, 4, .inl (upd m_size x1.toNatClampNeg x3))), (m_aitem, .inl (G 1, 96, .inr (.inl m_item)))] := hD
          refine lv_iconst (v := 0) hx hb dX8_sheet_45 (by decide) ?_
          refine lv_istore (lv' := [(4, .int (0 : Int32)), (0, .ref m_mo), (1, .int x1), (2, .int x2), (3, .int x3)]) hx hb dX8_sheet_46 hl (by decide) rfl (fun ls hl => ?_)
          obtain ⟨n, hw⟩ := hw
          exact L48 n (0 : Int32) (upd m_lane x1.toNatClampNeg x2) (upd m_size x1.toNatClampNeg x3) m_item _ _ _ hw hP hD hS (lv_sub hl [1, 2, 4, 0] rfl)
        · replace hw := hw.2 c9
          refine lv_bipush (v := -14) hx hb dX8_sheet_28 (by decide) ?_
          exact W.iret hx hb hr (x_mi (u := (m_lane, m_size, m_item)) hP hK hD hS hw) hS.2.2 dX8_sheet_30
      · replace hw := hw.2 c9
        refine lv_iconst (v := -1) hx hb dX8_sheet_22 (by decide) ?_
        exact W.iret hx hb hr (x_mi (u := (m_lane, m_size, m_item)) hP hK hD hS hw) hS.2.2 dX8_sheet_23
set_option maxHeartbeats 4000000 in
set_option maxRecDepth 100000 in
theorem c_X8_drop (l : Launch) (D : va_G) (G : Nat → ClassId) (sz : Nat) (m_mo : Nat) (m_alane : Nat) (m_asize : Nat) (m_aitem : Nat) (m_atape : Nat) (m_anow : Nat) (m_atried : Nat) (m_aread : Nat) (m_akept : Nat) (m_anoticed : Nat) (m_aneeds : Nat) (m_aorder : Nat) (m_letters : Int32) (m_position : Int32) (m_number : Int32) (m_isKept : Int32) (m_many : Int32) (m_one : Int32) (m_two : Int32) (m_lane : Nat → Int32) (m_size : Nat → Int32) (x1 : Int32) (post : Int32 → (Nat → Int32) → Prop) (hw : wp_X8_drop m_lane m_size x1 post) : Met l yX8_drop wsX8_drop ({ frames := 2, cells := 0, slots := 0, locals := 42 } : Room) (va_Pc [.ref m_mo, .int x1] (xM D G sz [(m_mo, .inr (8, [.ref m_alane, .ref m_asize, .ref m_aitem, .int m_letters, .ref m_atape, .int m_position, .int m_number, .ref m_anow, .ref m_atried, .ref m_aread, .ref m_akept, .int m_isKept, .ref m_anoticed, .ref m_aneeds, .ref m_aorder, .int m_many, .int m_one, .int m_two])), (m_alane, .inl (G 0, 4, .inl m_lane)), (m_asize, .inl (G 0, 4, .inl m_size))])) (va_Qi (fun r (u : (Nat → Int32)) => post r u) (fun u t => xE D G (va_A [(m_mo, .inr (8, [.ref m_alane, .ref m_asize, .ref m_aitem, .int m_letters, .ref m_atape, .int m_position, .int m_number, .ref m_anow, .ref m_atried, .ref m_aread, .ref m_akept, .int m_isKept, .ref m_anoticed, .ref m_aneeds, .ref m_aorder, .int m_many, .int m_one, .int m_two])), (m_alane, .inl (G 0, 4, .inl m_lane)), (m_asize, .inl (G 0, 4, .inl m_size))] sz) [(m_mo, .inr (8, [.ref m_alane, .ref m_asize, .ref m_aitem, .int m_letters, .ref m_atape, .int m_position, .int m_number, .ref m_anow, .ref m_atried, .ref m_aread, .ref m_akept, .int m_isKept, .ref m_anoticed, .ref m_aneeds, .ref m_aorder, .int m_many, .int m_one, .int m_two])), (m_alane, .inl (G 0, 4, .inl u)), (m_asize, .inl (G 0, 4, .inl m_size))] t) (va_A [(m_mo, .inr (8, [.ref m_alane, .ref m_asize, .ref m_aitem, .int m_letters, .ref m_atape, .int m_position, .int m_number, .ref m_anow, .ref m_atried, .ref m_aread, .ref m_akept, .int m_isKept, .ref m_anoticed, .ref m_aneeds, .ref m_aorder, .int m_many, .int m_one, .int m_two])), (m_alane, .inl (G 0, 4, .inl m_lane)), (m_asize, .inl (G 0, 4, .inl m_size))] sz)) 0 0 (va_A [(m_mo, .inr (8, [.ref m_alane, .ref m_asize, .ref m_aitem, .int m_letters, .ref m_atape, .int m_position, .int m_number, .ref m_anow, .ref m_atried, .ref m_aread, .ref m_akept, .int m_isKept, .ref m_anoticed, .ref m_aneeds, .ref m_aorder, .int m_many, .int m_one, .int m_two])), (m_alane, .inl (G 0, 4, .inl m_lane)), (m_asize, .inl (G 0, 4, .inl m_size))] sz) := by
  refine Met.ofW (cc := cX8_drop) (maxL := 2) (ret := (some .int)) (by decide) rfl ?_
  intro p e s m args below meth c s₁ B hml hv
  obtain ⟨rfl, hsz, hP, hK, hD0⟩ := hv
  have hx := B.exec
  have hb := B.bytes
  have hr := B.returns
  have hts := atoms_spec (ws := wsX8_drop) B.pre
  have hown : s.vm.findClass RX8 = some m.cls := findClass_of_methodNamed B.named
  have hlocks := B.notSynchronized
  subst hsz
  have hD := hD0.self (sz := s.heap.size)
  generalize hAe : va_A [(m_mo, .inr (8, [.ref m_alane, .ref m_asize, .ref m_aitem, .int m_letters, .ref m_atape, .int m_position, .int m_number, .ref m_anow, .ref m_atried, .ref m_aread, .ref m_akept, .int m_isKept, .ref m_anoticed, .ref m_aneeds, .ref m_aorder, .int m_many, .int m_one, .int m_two])), (m_alane, .inl (G 0, 4, .inl m_lane)), (m_asize, .inl (G 0, 4, .inl m_size))] s.heap.size = A at hD ⊢
  have hA : ∀ q : Nat, s.heap.size ≤ q → A q := fun q h => by rw [← hAe]; exact Or.inr h
  have hS : va_S A s.heap s.heap [] := va_S.rf
  have inX8 : ∀ w ∈ wsX80, w ∈ wsX8_drop := by decide +kernel
  have fl7 := hts (.fieldLink RX8 7 "NewsCowModel" "lane" "[I") (by decide +kernel)
  have fl13 := hts (.fieldLink RX8 13 "NewsCowModel" "size" "[I") (by decide +kernel)
  have hl := lv_entry ([.ref m_mo, .int x1] : List Value) (n := 2) (Nat.le_of_ble_eq_true rfl)
  rw [lg_entry_eq]
  generalize (lg_sl ([.ref m_mo, .int x1] : List Value) ++ List.replicate (2 - (lg_sl ([.ref m_mo, .int x1] : List Value)).length) Slot.unset).toArray = ls at hl ⊢
  have hl : lv_has ls 2 [(0, .ref m_mo), (1, .int x1)] := hl
  unfold wp_X8_drop at hw
  refine lv_iload_n hx hb dX8_drop_0 rfl (lv_at hl 1 rfl) ?_
  refine vp_callSi (W.runS (As := [.int x1]) (rest := []) ⟨hx, hb, hml, hown, hts⟩ (c_X8_isSheet l D G x1 _ hw) (va_cwS 1 hts gX8_drop_X8_isSheet rfl rfl rfl (by decide +kernel) ⟨(Nat.le_of_ble_eq_true rfl), (Nat.le_of_ble_eq_true rfl)⟩) (xR_ps (hP.sub [] rfl) hK) rfl rfl hl.1 rfl (lv_room (Nat.le_of_ble_eq_true rfl)) dX8_drop_1 ⟨Nat.zero_le _, Nat.zero_le _⟩) (fun r1 hw => ?_)
  refine lv_if_ne (tgt := 9) hx hb dX8_drop_4 (by decide) (fun c9 => ?_) (fun c9 => ?_)
  · replace hw := hw.1 c9
    refine lv_aload_n hx hb dX8_drop_9 rfl (lv_at hl 0 rfl) ?_
    refine va_get (D := D) (ci := 8) (v := .ref m_alane) (C := RX8) (T := TX8) (N := 18) hx hb hts inX8 hown hK hP 0 rfl rfl 0 (by decide) fl7 (fun _ h9 => h9) rfl dX8_drop_10 ?_
    refine lv_iload_n hx hb dX8_drop_13 rfl (lv_at hl 1 rfl) ?_
    refine x_iald (j := x1.toNatClampNeg) hx hb hK hP 1 0 rfl rfl rfl hw.1 dX8_drop_14 ?_
    replace hw := hw.2
    refine lv_if_ge (tgt := 21) hx hb dX8_drop_15 (by decide) (fun c9 => ?_) (fun c9 => ?_)
    · replace hw := hw.1 c9
      refine lv_aload_n hx hb dX8_drop_21 rfl (lv_at hl 0 rfl) ?_
      refine va_get (D := D) (ci := 8) (v := .ref m_alane) (C := RX8) (T := TX8) (N := 18) hx hb hts inX8 hown hK hP 0 rfl rfl 0 (by decide) fl7 (fun _ h9 => h9) rfl dX8_drop_22 ?_
      refine lv_iload_n hx hb dX8_drop_25 rfl (lv_at hl 1 rfl) ?_
      refine lv_iconst (v := -1) hx hb dX8_drop_26 (by decide) ?_
      refine x_iast (j := x1.toNatClampNeg) hx hb hK hP hD hS 1 0 rfl rfl rfl hw.1 dX8_drop_27 (fun H locs hP hD hS => ?_)
      replace hw := hw.2
      replace hP : va_P D vwCl [(m_mo, .inr (8, [.ref m_alane, .ref m_asize, .ref m_aitem, .int m_letters, .ref m_atape, .int m_position, .int m_number, .ref m_anow, .ref m_atried, .ref m_aread, .ref m_akept, .int m_isKept, .ref m_anoticed, .ref m_aneeds, .ref m_aorder, .int m_many, .int m_one, .int m_two])), (m_alane, .inl (G 0, 4, .inl (upd m_lane x1.toNatClampNeg (-1 : Int32)))), (m_asize, .inl (G 0, 4, .inl m_size))] H := hP
      replace hD : va_D A [(m_mo, .inr (8, [.ref m_alane, .ref m_asize, .ref m_aitem, .int m_letters, .ref m_atape, .int m_position, .int m_number, .ref m_anow, .ref m_atried, .ref m_aread, .ref m_akept, .int m_isKept, .ref m_anoticed, .ref m_aneeds, .ref m_aorder, .int m_many, .int m_one, .int m_two])), (m_alane, .inl (G 0, 4, .inl (upd m_lane x1.toNatClampNeg (-1 : Int32)))), (m_asize, .inl (G 0, 4, .inl m_size))] := hD
      refine lv_aload_n hx hb dX8_drop_28 rfl (lv_at hl 0 rfl) ?_
      refine va_get (D := D) (ci := 8) (v := .ref m_asize) (C := RX8) (T := TX8) (N := 18) hx hb hts inX8 hown hK hP 0 rfl rfl 1 (by decide) fl13 (fun _ h9 => h9) rfl dX8_drop_29 ?_
      refine lv_iload_n hx hb dX8_drop_32 rfl (lv_at hl 1 rfl) ?_
      refine x_iald (j := x1.toNatClampNeg) hx hb hK hP 2 0 rfl rfl rfl hw.1 dX8_drop_33 ?_
      replace hw := hw.2
      exact W.iret hx hb hr (x_mi (u := (upd m_lane x1.toNatClampNeg (-1 : Int32))) hP hK hD hS hw) hS.2.2 dX8_drop_34
    · replace hw := hw.2 c9
      refine lv_bipush (v := -11) hx hb dX8_drop_18 (by decide) ?_
      exact W.iret hx hb hr (x_mi (u := m_lane) hP hK hD hS hw) hS.2.2 dX8_drop_20
  · replace hw := hw.2 c9
    refine lv_iconst (v := -1) hx hb dX8_drop_7 (by decide) ?_
    exact W.iret hx hb hr (x_mi (u := m_lane) hP hK hD hS hw) hS.2.2 dX8_drop_8
