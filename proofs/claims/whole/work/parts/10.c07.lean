set_option maxHeartbeats 4000000 in
set_option maxRecDepth 100000 in
theorem c_X8_addCow (l : Launch) (D : va_G) (G : Nat → ClassId) (sz : Nat) (av0 : Nat) (v0 : Nat → Int32) (x1 : Int32) (post : Int32 → (Nat → Int32) → Prop) (hw : wp_X8_addCow v0 x1 post) : Met l yX8_addCow wsX8_addCow ({ frames := 1, cells := 0, slots := 0, locals := 20 } : Room) (va_Pc [.ref av0, .int x1] (xM D G sz [(av0, .inl (G 0, 55, .inl v0))])) (va_Qi (fun r (u : (Nat → Int32)) => post r u) (fun u t => xE D G (va_A [(av0, .inl (G 0, 55, .inl v0))] sz) [(av0, .inl (G 0, 55, .inl u))] t) (va_A [(av0, .inl (G 0, 55, .inl v0))] sz)) 0 0 (va_A [(av0, .inl (G 0, 55, .inl v0))] sz) := by
  refine Met.ofW (cc := cX8_addCow) (maxL := 3) (ret := (some .int)) (by decide) rfl ?_
  intro p e s m args below meth c s₁ B hml hv
  obtain ⟨rfl, hsz, hP, hK, hD0⟩ := hv
  have hx := B.exec
  have hb := B.bytes
  have hr := B.returns
  have hts := atoms_spec (ws := wsX8_addCow) B.pre
  have hown : s.vm.findClass RX8 = some m.cls := findClass_of_methodNamed B.named
  have hlocks := B.notSynchronized
  subst hsz
  have hD := hD0.self (sz := s.heap.size)
  generalize hAe : va_A [(av0, .inl (G 0, 55, .inl v0))] s.heap.size = A at hD ⊢
  have hA : ∀ q : Nat, s.heap.size ≤ q → A q := fun q h => by rw [← hAe]; exact Or.inr h
  have hS : va_S A s.heap s.heap [] := va_S.rf
  have hl := lv_entry ([.ref av0, .int x1] : List Value) (n := 3) (Nat.le_of_ble_eq_true rfl)
  rw [lg_entry_eq]
  generalize (lg_sl ([.ref av0, .int x1] : List Value) ++ List.replicate (3 - (lg_sl ([.ref av0, .int x1] : List Value)).length) Slot.unset).toArray = ls at hl ⊢
  have hl : lv_has ls 3 [(0, .ref av0), (1, .int x1)] := hl
  unfold wp_X8_addCow at hw
  refine lv_aload_n hx hb dX8_addCow_0 rfl (lv_at hl 0 rfl) ?_
  refine lv_iconst (v := 4) hx hb dX8_addCow_1 (by decide) ?_
  refine x_iald (j := 4) hx hb hK hP 0 0 rfl rfl (by decide) (x_in (by decide)) dX8_addCow_2 ?_
  refine lv_istore_n (lv' := [(2, .int (v0 4)), (0, .ref av0), (1, .int x1)]) hx hb dX8_addCow_3 rfl hl (by decide) rfl (fun ls hl => ?_)
  refine lv_aload_n hx hb dX8_addCow_4 rfl (lv_at hl 1 rfl) ?_
  refine lv_iconst (v := 5) hx hb dX8_addCow_5 (by decide) ?_
  refine lv_iload_n hx hb dX8_addCow_6 rfl (lv_at hl 0 rfl) ?_
  refine lv_iadd hx hb dX8_addCow_7 ?_
  refine lv_iload_n hx hb dX8_addCow_8 rfl (lv_at hl 2 rfl) ?_
  refine x_iast (j := ((5 : Int32) + (v0 4)).toNatClampNeg) hx hb hK hP hD hS 0 0 rfl rfl rfl hw.1 dX8_addCow_9 (fun H locs hP hD hS => ?_)
  replace hw := hw.2
  replace hP : va_P D vwCl [(av0, .inl (G 0, 55, .inl (upd v0 ((5 : Int32) + (v0 4)).toNatClampNeg x1)))] H := hP
  replace hD : va_D A [(av0, .inl (G 0, 55, .inl (upd v0 ((5 : Int32) + (v0 4)).toNatClampNeg x1)))] := hD
  refine lv_aload_n hx hb dX8_addCow_10 rfl (lv_at hl 1 rfl) ?_
  refine lv_iconst (v := 4) hx hb dX8_addCow_11 (by decide) ?_
  refine lv_dup2_11 hx hb dX8_addCow_12 rfl rfl ?_
  refine x_iald (j := 4) hx hb hK hP 0 0 rfl rfl (by decide) (x_in (by decide)) dX8_addCow_13 ?_
  refine lv_iconst (v := 1) hx hb dX8_addCow_14 (by decide) ?_
  refine lv_iadd hx hb dX8_addCow_15 ?_
  refine x_iast (j := 4) hx hb hK hP hD hS 0 0 rfl rfl (by decide) (x_in (by decide)) dX8_addCow_16 (fun H locs hP hD hS => ?_)
  replace hP : va_P D vwCl [(av0, .inl (G 0, 55, .inl (upd (upd v0 ((5 : Int32) + (v0 4)).toNatClampNeg x1) 4 (((upd v0 ((5 : Int32) + (v0 4)).toNatClampNeg x1) 4) + (1 : Int32)))))] H := hP
  replace hD : va_D A [(av0, .inl (G 0, 55, .inl (upd (upd v0 ((5 : Int32) + (v0 4)).toNatClampNeg x1) 4 (((upd v0 ((5 : Int32) + (v0 4)).toNatClampNeg x1) 4) + (1 : Int32)))))] := hD
  refine lv_aload_n hx hb dX8_addCow_17 rfl (lv_at hl 1 rfl) ?_
  refine lv_iconst (v := 2) hx hb dX8_addCow_18 (by decide) ?_
  refine lv_aload_n hx hb dX8_addCow_19 rfl (lv_at hl 1 rfl) ?_
  refine vp_callSi (W.runS (As := [.ref av0]) (rest := [.int (2 : Int32), .ref av0]) ⟨hx, hb, hml, hown, hts⟩ (c_X8_allOf l D G av0 (upd (upd v0 ((5 : Int32) + (v0 4)).toNatClampNeg x1) 4 (((upd v0 ((5 : Int32) + (v0 4)).toNatClampNeg x1) 4) + (1 : Int32))) _ hw) (va_cwS 1 hts gX8_addCow_X8_allOf rfl rfl rfl (by decide +kernel) ⟨(Nat.le_of_ble_eq_true rfl), (Nat.le_of_ble_eq_true rfl)⟩) (xR_ps (hP.sub [0] rfl) hK) rfl rfl hl.1 rfl (lv_room (Nat.le_of_ble_eq_true rfl)) dX8_addCow_20 ⟨Nat.zero_le _, Nat.zero_le _⟩) (fun r1 hw => ?_)
  refine x_iast (j := 2) hx hb hK hP hD hS 0 0 rfl rfl (by decide) (x_in (by decide)) dX8_addCow_23 (fun H locs hP hD hS => ?_)
  replace hP : va_P D vwCl [(av0, .inl (G 0, 55, .inl (upd (upd (upd v0 ((5 : Int32) + (v0 4)).toNatClampNeg x1) 4 (((upd v0 ((5 : Int32) + (v0 4)).toNatClampNeg x1) 4) + (1 : Int32))) 2 r1)))] H := hP
  replace hD : va_D A [(av0, .inl (G 0, 55, .inl (upd (upd (upd v0 ((5 : Int32) + (v0 4)).toNatClampNeg x1) 4 (((upd v0 ((5 : Int32) + (v0 4)).toNatClampNeg x1) 4) + (1 : Int32))) 2 r1)))] := hD
  refine lv_iload_n hx hb dX8_addCow_24 rfl (lv_at hl 0 rfl) ?_
  exact W.iret hx hb hr (x_mi (u := (upd (upd (upd v0 ((5 : Int32) + (v0 4)).toNatClampNeg x1) 4 (((upd v0 ((5 : Int32) + (v0 4)).toNatClampNeg x1) 4) + (1 : Int32))) 2 r1)) hP hK hD hS hw) hS.2.2 dX8_addCow_25
set_option maxHeartbeats 4000000 in
set_option maxRecDepth 100000 in
theorem c_X8_addTaster (l : Launch) (D : va_G) (G : Nat → ClassId) (sz : Nat) (av0 : Nat) (v0 : Nat → Int32) (x1 : Int32) (x2 : Int32) (post : Int32 → (Nat → Int32) → Prop) (hw : wp_X8_addTaster v0 x1 x2 post) : Met l yX8_addTaster wsX8_addTaster ({ frames := 0, cells := 0, slots := 0, locals := 0 } : Room) (va_Pc [.ref av0, .int x1, .int x2] (xM D G sz [(av0, .inl (G 0, 55, .inl v0))])) (va_Qi (fun r (u : (Nat → Int32)) => post r u) (fun u t => xE D G (va_A [(av0, .inl (G 0, 55, .inl v0))] sz) [(av0, .inl (G 0, 55, .inl u))] t) (va_A [(av0, .inl (G 0, 55, .inl v0))] sz)) 0 0 (va_A [(av0, .inl (G 0, 55, .inl v0))] sz) := by
  refine Met.ofW (cc := cX8_addTaster) (maxL := 4) (ret := (some .int)) (by decide) rfl ?_
  intro p e s m args below meth c s₁ B hml hv
  obtain ⟨rfl, hsz, hP, hK, hD0⟩ := hv
  have hx := B.exec
  have hb := B.bytes
  have hr := B.returns
  have hts := atoms_spec (ws := wsX8_addTaster) B.pre
  have hown : s.vm.findClass RX8 = some m.cls := findClass_of_methodNamed B.named
  have hlocks := B.notSynchronized
  subst hsz
  have hD := hD0.self (sz := s.heap.size)
  generalize hAe : va_A [(av0, .inl (G 0, 55, .inl v0))] s.heap.size = A at hD ⊢
  have hA : ∀ q : Nat, s.heap.size ≤ q → A q := fun q h => by rw [← hAe]; exact Or.inr h
  have hS : va_S A s.heap s.heap [] := va_S.rf
  have hl := lv_entry ([.ref av0, .int x1, .int x2] : List Value) (n := 4) (Nat.le_of_ble_eq_true rfl)
  rw [lg_entry_eq]
  generalize (lg_sl ([.ref av0, .int x1, .int x2] : List Value) ++ List.replicate (4 - (lg_sl ([.ref av0, .int x1, .int x2] : List Value)).length) Slot.unset).toArray = ls at hl ⊢
  have hl : lv_has ls 4 [(0, .ref av0), (1, .int x1), (2, .int x2)] := hl
  unfold wp_X8_addTaster at hw
  refine lv_aload_n hx hb dX8_addTaster_0 rfl (lv_at hl 0 rfl) ?_
  refine lv_bipush (v := 13) hx hb dX8_addTaster_1 (by decide) ?_
  refine x_iald (j := 13) hx hb hK hP 0 0 rfl rfl (by decide) (x_in (by decide)) dX8_addTaster_3 ?_
  refine lv_istore_n (lv' := [(3, .int (v0 13)), (0, .ref av0), (1, .int x1), (2, .int x2)]) hx hb dX8_addTaster_4 rfl hl (by decide) rfl (fun ls hl => ?_)
  refine lv_aload_n hx hb dX8_addTaster_5 rfl (lv_at hl 1 rfl) ?_
  refine lv_bipush (v := 14) hx hb dX8_addTaster_6 (by decide) ?_
  refine lv_iload_n hx hb dX8_addTaster_8 rfl (lv_at hl 0 rfl) ?_
  refine lv_iadd hx hb dX8_addTaster_9 ?_
  refine lv_iload_n hx hb dX8_addTaster_10 rfl (lv_at hl 2 rfl) ?_
  refine x_iast (j := ((14 : Int32) + (v0 13)).toNatClampNeg) hx hb hK hP hD hS 0 0 rfl rfl rfl hw.1 dX8_addTaster_11 (fun H locs hP hD hS => ?_)
  replace hw := hw.2
  replace hP : va_P D vwCl [(av0, .inl (G 0, 55, .inl (upd v0 ((14 : Int32) + (v0 13)).toNatClampNeg x1)))] H := hP
  replace hD : va_D A [(av0, .inl (G 0, 55, .inl (upd v0 ((14 : Int32) + (v0 13)).toNatClampNeg x1)))] := hD
  refine lv_aload_n hx hb dX8_addTaster_12 rfl (lv_at hl 1 rfl) ?_
  refine lv_bipush (v := 18) hx hb dX8_addTaster_13 (by decide) ?_
  refine lv_iload_n hx hb dX8_addTaster_15 rfl (lv_at hl 0 rfl) ?_
  refine lv_iadd hx hb dX8_addTaster_16 ?_
  refine lv_iload_n hx hb dX8_addTaster_17 rfl (lv_at hl 3 rfl) ?_
  refine x_iast (j := ((18 : Int32) + (v0 13)).toNatClampNeg) hx hb hK hP hD hS 0 0 rfl rfl rfl hw.1 dX8_addTaster_18 (fun H locs hP hD hS => ?_)
  replace hw := hw.2
  replace hP : va_P D vwCl [(av0, .inl (G 0, 55, .inl (upd (upd v0 ((14 : Int32) + (v0 13)).toNatClampNeg x1) ((18 : Int32) + (v0 13)).toNatClampNeg x2)))] H := hP
  replace hD : va_D A [(av0, .inl (G 0, 55, .inl (upd (upd v0 ((14 : Int32) + (v0 13)).toNatClampNeg x1) ((18 : Int32) + (v0 13)).toNatClampNeg x2)))] := hD
  refine lv_aload_n hx hb dX8_addTaster_19 rfl (lv_at hl 1 rfl) ?_
  refine lv_bipush (v := 13) hx hb dX8_addTaster_20 (by decide) ?_
  refine lv_dup2_11 hx hb dX8_addTaster_22 rfl rfl ?_
  refine x_iald (j := 13) hx hb hK hP 0 0 rfl rfl (by decide) (x_in (by decide)) dX8_addTaster_23 ?_
  refine lv_iconst (v := 1) hx hb dX8_addTaster_24 (by decide) ?_
  refine lv_iadd hx hb dX8_addTaster_25 ?_
  refine x_iast (j := 13) hx hb hK hP hD hS 0 0 rfl rfl (by decide) (x_in (by decide)) dX8_addTaster_26 (fun H locs hP hD hS => ?_)
  replace hP : va_P D vwCl [(av0, .inl (G 0, 55, .inl (upd (upd (upd v0 ((14 : Int32) + (v0 13)).toNatClampNeg x1) ((18 : Int32) + (v0 13)).toNatClampNeg x2) 13 (((upd (upd v0 ((14 : Int32) + (v0 13)).toNatClampNeg x1) ((18 : Int32) + (v0 13)).toNatClampNeg x2) 13) + (1 : Int32)))))] H := hP
  replace hD : va_D A [(av0, .inl (G 0, 55, .inl (upd (upd (upd v0 ((14 : Int32) + (v0 13)).toNatClampNeg x1) ((18 : Int32) + (v0 13)).toNatClampNeg x2) 13 (((upd (upd v0 ((14 : Int32) + (v0 13)).toNatClampNeg x1) ((18 : Int32) + (v0 13)).toNatClampNeg x2) 13) + (1 : Int32)))))] := hD
  refine lv_iload_n hx hb dX8_addTaster_27 rfl (lv_at hl 0 rfl) ?_
  exact W.iret hx hb hr (x_mi (u := (upd (upd (upd v0 ((14 : Int32) + (v0 13)).toNatClampNeg x1) ((18 : Int32) + (v0 13)).toNatClampNeg x2) 13 (((upd (upd v0 ((14 : Int32) + (v0 13)).toNatClampNeg x1) ((18 : Int32) + (v0 13)).toNatClampNeg x2) 13) + (1 : Int32)))) hP hK hD hS hw) hS.2.2 dX8_addTaster_28
set_option maxHeartbeats 4000000 in
set_option maxRecDepth 100000 in
theorem c_X8_cow (l : Launch) (D : va_G) (G : Nat → ClassId) (sz : Nat) (m_mo : Nat) (m_alane : Nat) (m_asize : Nat) (m_aitem : Nat) (m_atape : Nat) (m_anow : Nat) (m_atried : Nat) (m_aread : Nat) (m_akept : Nat) (m_anoticed : Nat) (m_aneeds : Nat) (m_aorder : Nat) (m_letters : Int32) (m_position : Int32) (m_number : Int32) (m_isKept : Int32) (m_many : Int32) (m_one : Int32) (m_two : Int32) (m_now : Nat → Int32) (x1 : Int32) (post : Int32 → (Nat → Int32) → Prop) (hw : wp_X8_cow m_now x1 post) : Met l yX8_cow wsX8_cow ({ frames := 2, cells := 0, slots := 0, locals := 42 } : Room) (va_Pc [.ref m_mo, .int x1] (xM D G sz [(m_mo, .inr (8, [.ref m_alane, .ref m_asize, .ref m_aitem, .int m_letters, .ref m_atape, .int m_position, .int m_number, .ref m_anow, .ref m_atried, .ref m_aread, .ref m_akept, .int m_isKept, .ref m_anoticed, .ref m_aneeds, .ref m_aorder, .int m_many, .int m_one, .int m_two])), (m_anow, .inl (G 0, 55, .inl m_now))])) (va_Qi (fun r (u : (Nat → Int32)) => post r u) (fun u t => xE D G (va_A [(m_mo, .inr (8, [.ref m_alane, .ref m_asize, .ref m_aitem, .int m_letters, .ref m_atape, .int m_position, .int m_number, .ref m_anow, .ref m_atried, .ref m_aread, .ref m_akept, .int m_isKept, .ref m_anoticed, .ref m_aneeds, .ref m_aorder, .int m_many, .int m_one, .int m_two])), (m_anow, .inl (G 0, 55, .inl m_now))] sz) [(m_mo, .inr (8, [.ref m_alane, .ref m_asize, .ref m_aitem, .int m_letters, .ref m_atape, .int m_position, .int m_number, .ref m_anow, .ref m_atried, .ref m_aread, .ref m_akept, .int m_isKept, .ref m_anoticed, .ref m_aneeds, .ref m_aorder, .int m_many, .int m_one, .int m_two])), (m_anow, .inl (G 0, 55, .inl u))] t) (va_A [(m_mo, .inr (8, [.ref m_alane, .ref m_asize, .ref m_aitem, .int m_letters, .ref m_atape, .int m_position, .int m_number, .ref m_anow, .ref m_atried, .ref m_aread, .ref m_akept, .int m_isKept, .ref m_anoticed, .ref m_aneeds, .ref m_aorder, .int m_many, .int m_one, .int m_two])), (m_anow, .inl (G 0, 55, .inl m_now))] sz)) 0 0 (va_A [(m_mo, .inr (8, [.ref m_alane, .ref m_asize, .ref m_aitem, .int m_letters, .ref m_atape, .int m_position, .int m_number, .ref m_anow, .ref m_atried, .ref m_aread, .ref m_akept, .int m_isKept, .ref m_anoticed, .ref m_aneeds, .ref m_aorder, .int m_many, .int m_one, .int m_two])), (m_anow, .inl (G 0, 55, .inl m_now))] sz) := by
  refine Met.ofW (cc := cX8_cow) (maxL := 2) (ret := (some .int)) (by decide) rfl ?_
  intro p e s m args below meth c s₁ B hml hv
  obtain ⟨rfl, hsz, hP, hK, hD0⟩ := hv
  have hx := B.exec
  have hb := B.bytes
  have hr := B.returns
  have hts := atoms_spec (ws := wsX8_cow) B.pre
  have hown : s.vm.findClass RX8 = some m.cls := findClass_of_methodNamed B.named
  have hlocks := B.notSynchronized
  subst hsz
  have hD := hD0.self (sz := s.heap.size)
  generalize hAe : va_A [(m_mo, .inr (8, [.ref m_alane, .ref m_asize, .ref m_aitem, .int m_letters, .ref m_atape, .int m_position, .int m_number, .ref m_anow, .ref m_atried, .ref m_aread, .ref m_akept, .int m_isKept, .ref m_anoticed, .ref m_aneeds, .ref m_aorder, .int m_many, .int m_one, .int m_two])), (m_anow, .inl (G 0, 55, .inl m_now))] s.heap.size = A at hD ⊢
  have hA : ∀ q : Nat, s.heap.size ≤ q → A q := fun q h => by rw [← hAe]; exact Or.inr h
  have hS : va_S A s.heap s.heap [] := va_S.rf
  have inX8 : ∀ w ∈ wsX80, w ∈ wsX8_cow := by decide +kernel
  have fl23 := hts (.fieldLink RX8 23 "NewsCowModel" "now" "[I") (by decide +kernel)
  have hl := lv_entry ([.ref m_mo, .int x1] : List Value) (n := 2) (Nat.le_of_ble_eq_true rfl)
  rw [lg_entry_eq]
  generalize (lg_sl ([.ref m_mo, .int x1] : List Value) ++ List.replicate (2 - (lg_sl ([.ref m_mo, .int x1] : List Value)).length) Slot.unset).toArray = ls at hl ⊢
  have hl : lv_has ls 2 [(0, .ref m_mo), (1, .int x1)] := hl
  unfold wp_X8_cow at hw
  refine lv_iload_n hx hb dX8_cow_0 rfl (lv_at hl 1 rfl) ?_
  refine lv_iconst (v := 1) hx hb dX8_cow_1 (by decide) ?_
  refine lv_bipush (v := 9) hx hb dX8_cow_2 (by decide) ?_
  refine vp_callSi (W.runS (As := [.int x1, .int (1 : Int32), .int (9 : Int32)]) (rest := []) ⟨hx, hb, hml, hown, hts⟩ (c_X8_in l D G x1 (1 : Int32) (9 : Int32) _ hw) (va_cwS 3 hts gX8_cow_X8_in rfl rfl rfl (by decide +kernel) ⟨(Nat.le_of_ble_eq_true rfl), (Nat.le_of_ble_eq_true rfl)⟩) (xR_ps (hP.sub [] rfl) hK) rfl rfl hl.1 rfl (lv_room (Nat.le_of_ble_eq_true rfl)) dX8_cow_4 ⟨Nat.zero_le _, Nat.zero_le _⟩) (fun r1 hw => ?_)
  refine lv_if_ne (tgt := 12) hx hb dX8_cow_7 (by decide) (fun c9 => ?_) (fun c9 => ?_)
  · replace hw := hw.1 c9
    refine lv_aload_n hx hb dX8_cow_12 rfl (lv_at hl 0 rfl) ?_
    refine va_get (D := D) (ci := 8) (v := .ref m_anow) (C := RX8) (T := TX8) (N := 18) hx hb hts inX8 hown hK hP 0 rfl rfl 7 (by decide) fl23 (fun _ h9 => h9) rfl dX8_cow_13 ?_
    refine lv_iconst (v := 4) hx hb dX8_cow_16 (by decide) ?_
    refine x_iald (j := 4) hx hb hK hP 1 0 rfl rfl (by decide) (x_in (by decide)) dX8_cow_17 ?_
    refine lv_bipush (v := 8) hx hb dX8_cow_18 (by decide) ?_
    refine lv_icmp_ne (tgt := 26) hx hb dX8_cow_20 (by decide) (fun c9 => ?_) (fun c9 => ?_)
    · replace hw := hw.1 c9
      refine lv_aload_n hx hb dX8_cow_26 rfl (lv_at hl 0 rfl) ?_
      refine va_get (D := D) (ci := 8) (v := .ref m_anow) (C := RX8) (T := TX8) (N := 18) hx hb hts inX8 hown hK hP 0 rfl rfl 7 (by decide) fl23 (fun _ h9 => h9) rfl dX8_cow_27 ?_
      refine lv_bipush (v := 22) hx hb dX8_cow_30 (by decide) ?_
      refine lv_iconst (v := 0) hx hb dX8_cow_32 (by decide) ?_
      refine x_iast (j := 22) hx hb hK hP hD hS 1 0 rfl rfl (by decide) (x_in (by decide)) dX8_cow_33 (fun H locs hP hD hS => ?_)
      replace hP : va_P D vwCl [(m_mo, .inr (8, [.ref m_alane, .ref m_asize, .ref m_aitem, .int m_letters, .ref m_atape, .int m_position, .int m_number, .ref m_anow, .ref m_atried, .ref m_aread, .ref m_akept, .int m_isKept, .ref m_anoticed, .ref m_aneeds, .ref m_aorder, .int m_many, .int m_one, .int m_two])), (m_anow, .inl (G 0, 55, .inl (upd m_now 22 (0 : Int32))))] H := hP
      replace hD : va_D A [(m_mo, .inr (8, [.ref m_alane, .ref m_asize, .ref m_aitem, .int m_letters, .ref m_atape, .int m_position, .int m_number, .ref m_anow, .ref m_atried, .ref m_aread, .ref m_akept, .int m_isKept, .ref m_anoticed, .ref m_aneeds, .ref m_aorder, .int m_many, .int m_one, .int m_two])), (m_anow, .inl (G 0, 55, .inl (upd m_now 22 (0 : Int32))))] := hD
      refine lv_aload_n hx hb dX8_cow_34 rfl (lv_at hl 0 rfl) ?_
      refine va_get (D := D) (ci := 8) (v := .ref m_anow) (C := RX8) (T := TX8) (N := 18) hx hb hts inX8 hown hK hP 0 rfl rfl 7 (by decide) fl23 (fun _ h9 => h9) rfl dX8_cow_35 ?_
      refine lv_iload_n hx hb dX8_cow_38 rfl (lv_at hl 1 rfl) ?_
      refine x_cMi (wr := [(m_mo, .inr (8, [.ref m_alane, .ref m_asize, .ref m_aitem, .int m_letters, .ref m_atape, .int m_position, .int m_number, .ref m_anow, .ref m_atried, .ref m_aread, .ref m_akept, .int m_isKept, .ref m_anoticed, .ref m_aneeds, .ref m_aorder, .int m_many, .int m_one, .int m_two]))]) (va_runS (As := [.ref m_anow, .int x1]) (rest := []) ⟨hx, hb, hml, hown, hts⟩ (c_X8_addCow l D G _ m_anow (upd m_now 22 (0 : Int32)) x1 _ hw) (va_cwS 2 hts gX8_cow_X8_addCow rfl rfl rfl (by decide +kernel) ⟨(Nat.le_of_ble_eq_true rfl), (Nat.le_of_ble_eq_true rfl)⟩) (xM_ps (hP.sub [1] rfl) hK (hD.sub [1] (by decide) rfl)) rfl rfl hl.1 rfl (lv_room (Nat.le_of_ble_eq_true rfl)) dX8_cow_39 ⟨Nat.zero_le _, Nat.zero_le _⟩) hP hD hS hA [1] [0] rfl rfl (by decide) (by decide) [0, 1] (fun u => [(m_mo, .inr (8, [.ref m_alane, .ref m_asize, .ref m_aitem, .int m_letters, .ref m_atape, .int m_position, .int m_number, .ref m_anow, .ref m_atried, .ref m_aread, .ref m_akept, .int m_isKept, .ref m_anoticed, .ref m_aneeds, .ref m_aorder, .int m_many, .int m_one, .int m_two])), (m_anow, .inl (G 0, 55, .inl u))]) (by decide) (fun u => rfl) (fun r2 u H locs hw hP hD hS => ?_)
      obtain ⟨v0_2, rfl⟩ : ∃ z, z = u := ⟨_, rfl⟩
      try dsimp only at hw
      replace hP : va_P D vwCl [(m_mo, .inr (8, [.ref m_alane, .ref m_asize, .ref m_aitem, .int m_letters, .ref m_atape, .int m_position, .int m_number, .ref m_anow, .ref m_atried, .ref m_aread, .ref m_akept, .int m_isKept, .ref m_anoticed, .ref m_aneeds, .ref m_aorder, .int m_many, .int m_one, .int m_two])), (m_anow, .inl (G 0, 55, .inl v0_2))] H := hP
      replace hD : va_D A [(m_mo, .inr (8, [.ref m_alane, .ref m_asize, .ref m_aitem, .int m_letters, .ref m_atape, .int m_position, .int m_number, .ref m_anow, .ref m_atried, .ref m_aread, .ref m_akept, .int m_isKept, .ref m_anoticed, .ref m_aneeds, .ref m_aorder, .int m_many, .int m_one, .int m_two])), (m_anow, .inl (G 0, 55, .inl v0_2))] := hD
      exact W.iret hx hb hr (x_mi (u := v0_2) hP hK hD hS hw) hS.2.2 dX8_cow_42
    · replace hw := hw.2 c9
      refine lv_bipush (v := -3) hx hb dX8_cow_23 (by decide) ?_
      exact W.iret hx hb hr (x_mi (u := m_now) hP hK hD hS hw) hS.2.2 dX8_cow_25
  · replace hw := hw.2 c9
    refine lv_iconst (v := -1) hx hb dX8_cow_10 (by decide) ?_
    exact W.iret hx hb hr (x_mi (u := m_now) hP hK hD hS hw) hS.2.2 dX8_cow_11
set_option maxHeartbeats 4000000 in
set_option maxRecDepth 100000 in
theorem c_X8_taster (l : Launch) (D : va_G) (G : Nat → ClassId) (sz : Nat) (m_mo : Nat) (m_alane : Nat) (m_asize : Nat) (m_aitem : Nat) (m_atape : Nat) (m_anow : Nat) (m_atried : Nat) (m_aread : Nat) (m_akept : Nat) (m_anoticed : Nat) (m_aneeds : Nat) (m_aorder : Nat) (m_letters : Int32) (m_position : Int32) (m_number : Int32) (m_isKept : Int32) (m_many : Int32) (m_one : Int32) (m_two : Int32) (m_now : Nat → Int32) (x1 : Int32) (x2 : Int32) (post : Int32 → (Nat → Int32) → Prop) (hw : wp_X8_taster m_now x1 x2 post) : Met l yX8_taster wsX8_taster ({ frames := 1, cells := 0, slots := 0, locals := 23 } : Room) (va_Pc [.ref m_mo, .int x1, .int x2] (xM D G sz [(m_mo, .inr (8, [.ref m_alane, .ref m_asize, .ref m_aitem, .int m_letters, .ref m_atape, .int m_position, .int m_number, .ref m_anow, .ref m_atried, .ref m_aread, .ref m_akept, .int m_isKept, .ref m_anoticed, .ref m_aneeds, .ref m_aorder, .int m_many, .int m_one, .int m_two])), (m_anow, .inl (G 0, 55, .inl m_now))])) (va_Qi (fun r (u : (Nat → Int32)) => post r u) (fun u t => xE D G (va_A [(m_mo, .inr (8, [.ref m_alane, .ref m_asize, .ref m_aitem, .int m_letters, .ref m_atape, .int m_position, .int m_number, .ref m_anow, .ref m_atried, .ref m_aread, .ref m_akept, .int m_isKept, .ref m_anoticed, .ref m_aneeds, .ref m_aorder, .int m_many, .int m_one, .int m_two])), (m_anow, .inl (G 0, 55, .inl m_now))] sz) [(m_mo, .inr (8, [.ref m_alane, .ref m_asize, .ref m_aitem, .int m_letters, .ref m_atape, .int m_position, .int m_number, .ref m_anow, .ref m_atried, .ref m_aread, .ref m_akept, .int m_isKept, .ref m_anoticed, .ref m_aneeds, .ref m_aorder, .int m_many, .int m_one, .int m_two])), (m_anow, .inl (G 0, 55, .inl u))] t) (va_A [(m_mo, .inr (8, [.ref m_alane, .ref m_asize, .ref m_aitem, .int m_letters, .ref m_atape, .int m_position, .int m_number, .ref m_anow, .ref m_atried, .ref m_aread, .ref m_akept, .int m_isKept, .ref m_anoticed, .ref m_aneeds, .ref m_aorder, .int m_many, .int m_one, .int m_two])), (m_anow, .inl (G 0, 55, .inl m_now))] sz)) 0 0 (va_A [(m_mo, .inr (8, [.ref m_alane, .ref m_asize, .ref m_aitem, .int m_letters, .ref m_atape, .int m_position, .int m_number, .ref m_anow, .ref m_atried, .ref m_aread, .ref m_akept, .int m_isKept, .ref m_anoticed, .ref m_aneeds, .ref m_aorder, .int m_many, .int m_one, .int m_two])), (m_anow, .inl (G 0, 55, .inl m_now))] sz) := by
  refine Met.ofW (cc := cX8_taster) (maxL := 3) (ret := (some .int)) (by decide) rfl ?_
  intro p e s m args below meth c s₁ B hml hv
  obtain ⟨rfl, hsz, hP, hK, hD0⟩ := hv
  have hx := B.exec
  have hb := B.bytes
  have hr := B.returns
  have hts := atoms_spec (ws := wsX8_taster) B.pre
  have hown : s.vm.findClass RX8 = some m.cls := findClass_of_methodNamed B.named
  have hlocks := B.notSynchronized
  subst hsz
  have hD := hD0.self (sz := s.heap.size)
  generalize hAe : va_A [(m_mo, .inr (8, [.ref m_alane, .ref m_asize, .ref m_aitem, .int m_letters, .ref m_atape, .int m_position, .int m_number, .ref m_anow, .ref m_atried, .ref m_aread, .ref m_akept, .int m_isKept, .ref m_anoticed, .ref m_aneeds, .ref m_aorder, .int m_many, .int m_one, .int m_two])), (m_anow, .inl (G 0, 55, .inl m_now))] s.heap.size = A at hD ⊢
  have hA : ∀ q : Nat, s.heap.size ≤ q → A q := fun q h => by rw [← hAe]; exact Or.inr h
  have hS : va_S A s.heap s.heap [] := va_S.rf
  have inX8 : ∀ w ∈ wsX80, w ∈ wsX8_taster := by decide +kernel
  have fl23 := hts (.fieldLink RX8 23 "NewsCowModel" "now" "[I") (by decide +kernel)
  have hl := lv_entry ([.ref m_mo, .int x1, .int x2] : List Value) (n := 3) (Nat.le_of_ble_eq_true rfl)
  rw [lg_entry_eq]
  generalize (lg_sl ([.ref m_mo, .int x1, .int x2] : List Value) ++ List.replicate (3 - (lg_sl ([.ref m_mo, .int x1, .int x2] : List Value)).length) Slot.unset).toArray = ls at hl ⊢
  have hl : lv_has ls 3 [(0, .ref m_mo), (1, .int x1), (2, .int x2)] := hl
  unfold wp_X8_taster at hw
  refine lv_iload_n hx hb dX8_taster_0 rfl (lv_at hl 1 rfl) ?_
  refine lv_iconst (v := 0) hx hb dX8_taster_1 (by decide) ?_
  refine lv_iconst (v := 4) hx hb dX8_taster_2 (by decide) ?_
  refine vp_callSi (W.runS (As := [.int x1, .int (0 : Int32), .int (4 : Int32)]) (rest := []) ⟨hx, hb, hml, hown, hts⟩ (c_X8_in l D G x1 (0 : Int32) (4 : Int32) _ hw) (va_cwS 3 hts gX8_taster_X8_in rfl rfl rfl (by decide +kernel) ⟨(Nat.le_of_ble_eq_true rfl), (Nat.le_of_ble_eq_true rfl)⟩) (xR_ps (hP.sub [] rfl) hK) rfl rfl hl.1 rfl (lv_room (Nat.le_of_ble_eq_true rfl)) dX8_taster_3 ⟨Nat.zero_le _, Nat.zero_le _⟩) (fun r1 hw => ?_)
  refine lv_if_eq (tgt := 19) hx hb dX8_taster_6 (by decide) (fun c9 => ?_) (fun c9 => ?_)
  · replace hw := hw.1 c9
    refine lv_iconst (v := -1) hx hb dX8_taster_19 (by decide) ?_
    exact W.iret hx hb hr (x_mi (u := m_now) hP hK hD hS hw) hS.2.2 dX8_taster_20
  · replace hw := hw.2 c9
    refine lv_iload_n hx hb dX8_taster_9 rfl (lv_at hl 2 rfl) ?_
    refine lv_iconst (v := 1) hx hb dX8_taster_10 (by decide) ?_
    refine lv_bipush (v := 9) hx hb dX8_taster_11 (by decide) ?_
    refine vp_callSi (W.runS (As := [.int x2, .int (1 : Int32), .int (9 : Int32)]) (rest := []) ⟨hx, hb, hml, hown, hts⟩ (c_X8_in l D G x2 (1 : Int32) (9 : Int32) _ hw) (va_cwS 3 hts gX8_taster_X8_in rfl rfl rfl (by decide +kernel) ⟨(Nat.le_of_ble_eq_true rfl), (Nat.le_of_ble_eq_true rfl)⟩) (xR_ps (hP.sub [] rfl) hK) rfl rfl hl.1 rfl (lv_room (Nat.le_of_ble_eq_true rfl)) dX8_taster_13 ⟨Nat.zero_le _, Nat.zero_le _⟩) (fun r2 hw => ?_)
    refine lv_if_ne (tgt := 21) hx hb dX8_taster_16 (by decide) (fun c9 => ?_) (fun c9 => ?_)
    · replace hw := hw.1 c9
      refine lv_aload_n hx hb dX8_taster_21 rfl (lv_at hl 0 rfl) ?_
      refine va_get (D := D) (ci := 8) (v := .ref m_anow) (C := RX8) (T := TX8) (N := 18) hx hb hts inX8 hown hK hP 0 rfl rfl 7 (by decide) fl23 (fun _ h9 => h9) rfl dX8_taster_22 ?_
      refine lv_bipush (v := 13) hx hb dX8_taster_25 (by decide) ?_
      refine x_iald (j := 13) hx hb hK hP 1 0 rfl rfl (by decide) (x_in (by decide)) dX8_taster_27 ?_
      refine lv_iconst (v := 4) hx hb dX8_taster_28 (by decide) ?_
      refine lv_icmp_ne (tgt := 35) hx hb dX8_taster_29 (by decide) (fun c9 => ?_) (fun c9 => ?_)
      · replace hw := hw.1 c9
        refine lv_aload_n hx hb dX8_taster_35 rfl (lv_at hl 0 rfl) ?_
        refine va_get (D := D) (ci := 8) (v := .ref m_anow) (C := RX8) (T := TX8) (N := 18) hx hb hts inX8 hown hK hP 0 rfl rfl 7 (by decide) fl23 (fun _ h9 => h9) rfl dX8_taster_36 ?_
        refine lv_bipush (v := 22) hx hb dX8_taster_39 (by decide) ?_
        refine lv_iconst (v := 0) hx hb dX8_taster_41 (by decide) ?_
        refine x_iast (j := 22) hx hb hK hP hD hS 1 0 rfl rfl (by decide) (x_in (by decide)) dX8_taster_42 (fun H locs hP hD hS => ?_)
        replace hP : va_P D vwCl [(m_mo, .inr (8, [.ref m_alane, .ref m_asize, .ref m_aitem, .int m_letters, .ref m_atape, .int m_position, .int m_number, .ref m_anow, .ref m_atried, .ref m_aread, .ref m_akept, .int m_isKept, .ref m_anoticed, .ref m_aneeds, .ref m_aorder, .int m_many, .int m_one, .int m_two])), (m_anow, .inl (G 0, 55, .inl (upd m_now 22 (0 : Int32))))] H := hP
        replace hD : va_D A [(m_mo, .inr (8, [.ref m_alane, .ref m_asize, .ref m_aitem, .int m_letters, .ref m_atape, .int m_position, .int m_number, .ref m_anow, .ref m_atried, .ref m_aread, .ref m_akept, .int m_isKept, .ref m_anoticed, .ref m_aneeds, .ref m_aorder, .int m_many, .int m_one, .int m_two])), (m_anow, .inl (G 0, 55, .inl (upd m_now 22 (0 : Int32))))] := hD
        refine lv_aload_n hx hb dX8_taster_43 rfl (lv_at hl 0 rfl) ?_
        refine va_get (D := D) (ci := 8) (v := .ref m_anow) (C := RX8) (T := TX8) (N := 18) hx hb hts inX8 hown hK hP 0 rfl rfl 7 (by decide) fl23 (fun _ h9 => h9) rfl dX8_taster_44 ?_
        refine lv_iload_n hx hb dX8_taster_47 rfl (lv_at hl 1 rfl) ?_
        refine lv_iload_n hx hb dX8_taster_48 rfl (lv_at hl 2 rfl) ?_
        refine x_cMi (wr := [(m_mo, .inr (8, [.ref m_alane, .ref m_asize, .ref m_aitem, .int m_letters, .ref m_atape, .int m_position, .int m_number, .ref m_anow, .ref m_atried, .ref m_aread, .ref m_akept, .int m_isKept, .ref m_anoticed, .ref m_aneeds, .ref m_aorder, .int m_many, .int m_one, .int m_two]))]) (va_runS (As := [.ref m_anow, .int x1, .int x2]) (rest := []) ⟨hx, hb, hml, hown, hts⟩ (c_X8_addTaster l D G _ m_anow (upd m_now 22 (0 : Int32)) x1 x2 _ hw) (va_cwS 3 hts gX8_taster_X8_addTaster rfl rfl rfl (by decide +kernel) ⟨(Nat.le_of_ble_eq_true rfl), (Nat.le_of_ble_eq_true rfl)⟩) (xM_ps (hP.sub [1] rfl) hK (hD.sub [1] (by decide) rfl)) rfl rfl hl.1 rfl (lv_room (Nat.le_of_ble_eq_true rfl)) dX8_taster_49 ⟨Nat.zero_le _, Nat.zero_le _⟩) hP hD hS hA [1] [0] rfl rfl (by decide) (by decide) [0, 1] (fun u => [(m_mo, .inr (8, [.ref m_alane, .ref m_asize, .ref m_aitem, .int m_letters, .ref m_atape, .int m_position, .int m_number, .ref m_anow, .ref m_atried, .ref m_aread, .ref m_akept, .int m_isKept, .ref m_anoticed, .ref m_aneeds, .ref m_aorder, .int m_many, .int m_one, .int m_two])), (m_anow, .inl (G 0, 55, .inl u))]) (by decide) (fun u => rfl) (fun r3 u H locs hw hP hD hS => ?_)
        obtain ⟨v0_3, rfl⟩ : ∃ z, z = u := ⟨_, rfl⟩
        try dsimp only at hw
        replace hP : va_P D vwCl [(m_mo, .inr (8, [.ref m_alane, .ref m_asize, .ref m_aitem, .int m_letters, .ref m_atape, .int m_position, .int m_number, .ref m_anow, .ref m_atried, .ref m_aread, .ref m_akept, .int m_isKept, .ref m_anoticed, .ref m_aneeds, .ref m_aorder, .int m_many, .int m_one, .int m_two])), (m_anow, .inl (G 0, 55, .inl v0_3))] H := hP
        replace hD : va_D A [(m_mo, .inr (8, [.ref m_alane, .ref m_asize, .ref m_aitem, .int m_letters, .ref m_atape, .int m_position, .int m_number, .ref m_anow, .ref m_atried, .ref m_aread, .ref m_akept, .int m_isKept, .ref m_anoticed, .ref m_aneeds, .ref m_aorder, .int m_many, .int m_one, .int m_two])), (m_anow, .inl (G 0, 55, .inl v0_3))] := hD
        exact W.iret hx hb hr (x_mi (u := v0_3) hP hK hD hS hw) hS.2.2 dX8_taster_52
      · replace hw := hw.2 c9
        refine lv_bipush (v := -3) hx hb dX8_taster_32 (by decide) ?_
        exact W.iret hx hb hr (x_mi (u := m_now) hP hK hD hS hw) hS.2.2 dX8_taster_34
    · replace hw := hw.2 c9
      refine lv_iconst (v := -1) hx hb dX8_taster_19 (by decide) ?_
      exact W.iret hx hb hr (x_mi (u := m_now) hP hK hD hS hw) hS.2.2 dX8_taster_20
set_option maxHeartbeats 4000000 in
set_option maxRecDepth 100000 in
theorem c_X8_milk (l : Launch) (D : va_G) (G : Nat → ClassId) (sz : Nat) (m_mo : Nat) (m_alane : Nat) (m_asize : Nat) (m_aitem : Nat) (m_atape : Nat) (m_anow : Nat) (m_atried : Nat) (m_aread : Nat) (m_akept : Nat) (m_anoticed : Nat) (m_aneeds : Nat) (m_aorder : Nat) (m_letters : Int32) (m_position : Int32) (m_number : Int32) (m_isKept : Int32) (m_many : Int32) (m_one : Int32) (m_two : Int32) (m_now : Nat → Int32) (x1 : Int32) (x2 : Int32) (post : Int32 → (Nat → Int32) → Prop) (hw : wp_X8_milk m_now x1 x2 post) : Met l yX8_milk wsX8_milk ({ frames := 2, cells := 0, slots := 0, locals := 43 } : Room) (va_Pc [.ref m_mo, .int x1, .int x2] (xM D G sz [(m_mo, .inr (8, [.ref m_alane, .ref m_asize, .ref m_aitem, .int m_letters, .ref m_atape, .int m_position, .int m_number, .ref m_anow, .ref m_atried, .ref m_aread, .ref m_akept, .int m_isKept, .ref m_anoticed, .ref m_aneeds, .ref m_aorder, .int m_many, .int m_one, .int m_two])), (m_anow, .inl (G 0, 55, .inl m_now))])) (va_Qi (fun r (u : (Nat → Int32)) => post r u) (fun u t => xE D G (va_A [(m_mo, .inr (8, [.ref m_alane, .ref m_asize, .ref m_aitem, .int m_letters, .ref m_atape, .int m_position, .int m_number, .ref m_anow, .ref m_atried, .ref m_aread, .ref m_akept, .int m_isKept, .ref m_anoticed, .ref m_aneeds, .ref m_aorder, .int m_many, .int m_one, .int m_two])), (m_anow, .inl (G 0, 55, .inl m_now))] sz) [(m_mo, .inr (8, [.ref m_alane, .ref m_asize, .ref m_aitem, .int m_letters, .ref m_atape, .int m_position, .int m_number, .ref m_anow, .ref m_atried, .ref m_aread, .ref m_akept, .int m_isKept, .ref m_anoticed, .ref m_aneeds, .ref m_aorder, .int m_many, .int m_one, .int m_two])), (m_anow, .inl (G 0, 55, .inl u))] t) (va_A [(m_mo, .inr (8, [.ref m_alane, .ref m_asize, .ref m_aitem, .int m_letters, .ref m_atape, .int m_position, .int m_number, .ref m_anow, .ref m_atried, .ref m_aread, .ref m_akept, .int m_isKept, .ref m_anoticed, .ref m_aneeds, .ref m_aorder, .int m_many, .int m_one, .int m_two])), (m_anow, .inl (G 0, 55, .inl m_now))] sz)) 0 0 (va_A [(m_mo, .inr (8, [.ref m_alane, .ref m_asize, .ref m_aitem, .int m_letters, .ref m_atape, .int m_position, .int m_number, .ref m_anow, .ref m_atried, .ref m_aread, .ref m_akept, .int m_isKept, .ref m_anoticed, .ref m_aneeds, .ref m_aorder, .int m_many, .int m_one, .int m_two])), (m_anow, .inl (G 0, 55, .inl m_now))] sz) := by
  refine Met.ofW (cc := cX8_milk) (maxL := 4) (ret := (some .int)) (by decide) rfl ?_
  intro p e s m args below meth c s₁ B hml hv
  obtain ⟨rfl, hsz, hP, hK, hD0⟩ := hv
  have hx := B.exec
  have hb := B.bytes
  have hr := B.returns
  have hts := atoms_spec (ws := wsX8_milk) B.pre
  have hown : s.vm.findClass RX8 = some m.cls := findClass_of_methodNamed B.named
  have hlocks := B.notSynchronized
  subst hsz
  have hD := hD0.self (sz := s.heap.size)
  generalize hAe : va_A [(m_mo, .inr (8, [.ref m_alane, .ref m_asize, .ref m_aitem, .int m_letters, .ref m_atape, .int m_position, .int m_number, .ref m_anow, .ref m_atried, .ref m_aread, .ref m_akept, .int m_isKept, .ref m_anoticed, .ref m_aneeds, .ref m_aorder, .int m_many, .int m_one, .int m_two])), (m_anow, .inl (G 0, 55, .inl m_now))] s.heap.size = A at hD ⊢
  have hA : ∀ q : Nat, s.heap.size ≤ q → A q := fun q h => by rw [← hAe]; exact Or.inr h
  have hS : va_S A s.heap s.heap [] := va_S.rf
  have inX8 : ∀ w ∈ wsX80, w ∈ wsX8_milk := by decide +kernel
  have fl23 := hts (.fieldLink RX8 23 "NewsCowModel" "now" "[I") (by decide +kernel)
  have hl := lv_entry ([.ref m_mo, .int x1, .int x2] : List Value) (n := 4) (Nat.le_of_ble_eq_true rfl)
  rw [lg_entry_eq]
  generalize (lg_sl ([.ref m_mo, .int x1, .int x2] : List Value) ++ List.replicate (4 - (lg_sl ([.ref m_mo, .int x1, .int x2] : List Value)).length) Slot.unset).toArray = ls at hl ⊢
  have hl : lv_has ls 4 [(0, .ref m_mo), (1, .int x1), (2, .int x2)] := hl
  unfold wp_X8_milk at hw
  refine lv_aload_n hx hb dX8_milk_0 rfl (lv_at hl 0 rfl) ?_
  refine lv_iload_n hx hb dX8_milk_1 rfl (lv_at hl 1 rfl) ?_
  refine vp_callSi (W.runV (As := [.int x1]) (rest := []) ⟨hx, hb, hml, hown, hts⟩ (c_X8_isCow l D G m_mo m_alane m_asize m_aitem m_atape m_anow m_atried m_aread m_akept m_anoticed m_aneeds m_aorder m_letters m_position m_number m_isKept m_many m_one m_two m_now x1 _ hw) (cwV 1 hts gX8_milk_X8_isCow rfl rfl rfl (by decide +kernel) ⟨(Nat.le_of_ble_eq_true rfl), (Nat.le_of_ble_eq_true rfl)⟩) (xR_pv (hP.sub [0, 1] rfl) hK (va_recv hK hP (ci := 8) (q0 := 0) rfl rfl)) rfl rfl hl.1 rfl (lv_room (Nat.le_of_ble_eq_true rfl)) dX8_milk_2 ⟨Nat.zero_le _, Nat.zero_le _⟩) (fun r1 hw => ?_)
  refine lv_if_eq (tgt := 18) hx hb dX8_milk_5 (by decide) (fun c9 => ?_) (fun c9 => ?_)
  · replace hw := hw.1 c9
    refine lv_iconst (v := -1) hx hb dX8_milk_18 (by decide) ?_
    exact W.iret hx hb hr (x_mi (u := m_now) hP hK hD hS hw) hS.2.2 dX8_milk_19
  · replace hw := hw.2 c9
    refine lv_iload_n hx hb dX8_milk_8 rfl (lv_at hl 2 rfl) ?_
    refine lv_iconst (v := 1) hx hb dX8_milk_9 (by decide) ?_
    refine lv_bipush (v := 9) hx hb dX8_milk_10 (by decide) ?_
    refine vp_callSi (W.runS (As := [.int x2, .int (1 : Int32), .int (9 : Int32)]) (rest := []) ⟨hx, hb, hml, hown, hts⟩ (c_X8_in l D G x2 (1 : Int32) (9 : Int32) _ hw) (va_cwS 3 hts gX8_milk_X8_in rfl rfl rfl (by decide +kernel) ⟨(Nat.le_of_ble_eq_true rfl), (Nat.le_of_ble_eq_true rfl)⟩) (xR_ps (hP.sub [] rfl) hK) rfl rfl hl.1 rfl (lv_room (Nat.le_of_ble_eq_true rfl)) dX8_milk_12 ⟨Nat.zero_le _, Nat.zero_le _⟩) (fun r2 hw => ?_)
    refine lv_if_ne (tgt := 20) hx hb dX8_milk_15 (by decide) (fun c9 => ?_) (fun c9 => ?_)
    · replace hw := hw.1 c9
      refine lv_aload_n hx hb dX8_milk_20 rfl (lv_at hl 0 rfl) ?_
      refine va_get (D := D) (ci := 8) (v := .ref m_anow) (C := RX8) (T := TX8) (N := 18) hx hb hts inX8 hown hK hP 0 rfl rfl 7 (by decide) fl23 (fun _ h9 => h9) rfl dX8_milk_21 ?_
      refine lv_iconst (v := 5) hx hb dX8_milk_24 (by decide) ?_
      refine lv_iload_n hx hb dX8_milk_25 rfl (lv_at hl 1 rfl) ?_
      refine lv_iadd hx hb dX8_milk_26 ?_
      refine x_iald (j := ((5 : Int32) + x1).toNatClampNeg) hx hb hK hP 1 0 rfl rfl rfl hw.1 dX8_milk_27 ?_
      replace hw := hw.2
      refine lv_istore_n (lv' := [(3, .int (m_now ((5 : Int32) + x1).toNatClampNeg)), (0, .ref m_mo), (1, .int x1), (2, .int x2)]) hx hb dX8_milk_28 rfl hl (by decide) rfl (fun ls hl => ?_)
      refine lv_aload_n hx hb dX8_milk_29 rfl (lv_at hl 1 rfl) ?_
      refine va_get (D := D) (ci := 8) (v := .ref m_anow) (C := RX8) (T := TX8) (N := 18) hx hb hts inX8 hown hK hP 0 rfl rfl 7 (by decide) fl23 (fun _ h9 => h9) rfl dX8_milk_30 ?_
      refine lv_iconst (v := 5) hx hb dX8_milk_33 (by decide) ?_
      refine lv_iload_n hx hb dX8_milk_34 rfl (lv_at hl 2 rfl) ?_
      refine lv_iadd hx hb dX8_milk_35 ?_
      refine lv_iload_n hx hb dX8_milk_36 rfl (lv_at hl 3 rfl) ?_
      refine x_iast (j := ((5 : Int32) + x1).toNatClampNeg) hx hb hK hP hD hS 1 0 rfl rfl rfl hw.1 dX8_milk_37 (fun H locs hP hD hS => ?_)
      replace hw := hw.2
      replace hP : va_P D vwCl [(m_mo, .inr (8, [.ref m_alane, .ref m_asize, .ref m_aitem, .int m_letters, .ref m_atape, .int m_position, .int m_number, .ref m_anow, .ref m_atried, .ref m_aread, .ref m_akept, .int m_isKept, .ref m_anoticed, .ref m_aneeds, .ref m_aorder, .int m_many, .int m_one, .int m_two])), (m_anow, .inl (G 0, 55, .inl (upd m_now ((5 : Int32) + x1).toNatClampNeg x2)))] H := hP
      replace hD : va_D A [(m_mo, .inr (8, [.ref m_alane, .ref m_asize, .ref m_aitem, .int m_letters, .ref m_atape, .int m_position, .int m_number, .ref m_anow, .ref m_atried, .ref m_aread, .ref m_akept, .int m_isKept, .ref m_anoticed, .ref m_aneeds, .ref m_aorder, .int m_many, .int m_one, .int m_two])), (m_anow, .inl (G 0, 55, .inl (upd m_now ((5 : Int32) + x1).toNatClampNeg x2)))] := hD
      refine lv_iload_n hx hb dX8_milk_38 rfl (lv_at hl 0 rfl) ?_
      exact W.iret hx hb hr (x_mi (u := (upd m_now ((5 : Int32) + x1).toNatClampNeg x2)) hP hK hD hS hw) hS.2.2 dX8_milk_39
    · replace hw := hw.2 c9
      refine lv_iconst (v := -1) hx hb dX8_milk_18 (by decide) ?_
      exact W.iret hx hb hr (x_mi (u := m_now) hP hK hD hS hw) hS.2.2 dX8_milk_19
set_option maxHeartbeats 4000000 in
set_option maxRecDepth 100000 in
theorem c_X8_at (l : Launch) (D : va_G) (G : Nat → ClassId) (m_mo : Nat) (m_alane : Nat) (m_asize : Nat) (m_aitem : Nat) (m_atape : Nat) (m_anow : Nat) (m_atried : Nat) (m_aread : Nat) (m_akept : Nat) (m_anoticed : Nat) (m_aneeds : Nat) (m_aorder : Nat) (m_letters : Int32) (m_position : Int32) (m_number : Int32) (m_isKept : Int32) (m_many : Int32) (m_one : Int32) (m_two : Int32) (m_now : Nat → Int32) (x1 : Int32) (x2 : Int32) (post : Int32 → Prop) (hw : wp_X8_at m_now x1 x2 post) : Met l yX8_at wsX8_at ({ frames := 2, cells := 0, slots := 0, locals := 43 } : Room) (va_Pc [.ref m_mo, .int x1, .int x2] (xR D G [(m_mo, .inr (8, [.ref m_alane, .ref m_asize, .ref m_aitem, .int m_letters, .ref m_atape, .int m_position, .int m_number, .ref m_anow, .ref m_atried, .ref m_aread, .ref m_akept, .int m_isKept, .ref m_anoticed, .ref m_aneeds, .ref m_aorder, .int m_many, .int m_one, .int m_two])), (m_anow, .inl (G 0, 55, .inl m_now))])) (vp_Si post) 0 0 (fun _ => False) := by
  refine Met.ofW (cc := cX8_at) (maxL := 3) (ret := (some .int)) (by decide) rfl ?_
  intro p e s m args below meth c s₁ B hml hv
  obtain ⟨rfl, hP, hK⟩ := hv
  have hx := B.exec
  have hb := B.bytes
  have hr := B.returns
  have hts := atoms_spec (ws := wsX8_at) B.pre
  have hown : s.vm.findClass RX8 = some m.cls := findClass_of_methodNamed B.named
  have hlocks := B.notSynchronized
  have inX8 : ∀ w ∈ wsX80, w ∈ wsX8_at := by decide +kernel
  have fl23 := hts (.fieldLink RX8 23 "NewsCowModel" "now" "[I") (by decide +kernel)
  have hl := lv_entry ([.ref m_mo, .int x1, .int x2] : List Value) (n := 3) (Nat.le_of_ble_eq_true rfl)
  rw [lg_entry_eq]
  generalize (lg_sl ([.ref m_mo, .int x1, .int x2] : List Value) ++ List.replicate (3 - (lg_sl ([.ref m_mo, .int x1, .int x2] : List Value)).length) Slot.unset).toArray = ls at hl ⊢
  have hl : lv_has ls 3 [(0, .ref m_mo), (1, .int x1), (2, .int x2)] := hl
  unfold wp_X8_at at hw
  refine lv_aload_n hx hb dX8_at_0 rfl (lv_at hl 0 rfl) ?_
  refine lv_iload_n hx hb dX8_at_1 rfl (lv_at hl 1 rfl) ?_
  refine vp_callSi (W.runV (As := [.int x1]) (rest := []) ⟨hx, hb, hml, hown, hts⟩ (c_X8_isTaster l D G m_mo m_alane m_asize m_aitem m_atape m_anow m_atried m_aread m_akept m_anoticed m_aneeds m_aorder m_letters m_position m_number m_isKept m_many m_one m_two m_now x1 _ hw) (cwV 1 hts gX8_at_X8_isTaster rfl rfl rfl (by decide +kernel) ⟨(Nat.le_of_ble_eq_true rfl), (Nat.le_of_ble_eq_true rfl)⟩) (xR_pv (hP.sub [0, 1] rfl) hK (va_recv hK hP (ci := 8) (q0 := 0) rfl rfl)) rfl rfl hl.1 rfl (lv_room (Nat.le_of_ble_eq_true rfl)) dX8_at_2 ⟨Nat.zero_le _, Nat.zero_le _⟩) (fun r1 hw => ?_)
  refine lv_if_ne (tgt := 10) hx hb dX8_at_5 (by decide) (fun c9 => ?_) (fun c9 => ?_)
  · replace hw := hw.1 c9
    refine lv_iload_n hx hb dX8_at_10 rfl (lv_at hl 2 rfl) ?_
    refine lv_if_ne (tgt := 26) hx hb dX8_at_11 (by decide) (fun c9 => ?_) (fun c9 => ?_)
    · replace hw := hw.1 c9
      refine lv_iload_n hx hb dX8_at_26 rfl (lv_at hl 2 rfl) ?_
      refine lv_iconst (v := 1) hx hb dX8_at_27 (by decide) ?_
      refine lv_icmp_ne (tgt := 43) hx hb dX8_at_28 (by decide) (fun c9 => ?_) (fun c9 => ?_)
      · replace hw := hw.1 c9
        refine lv_iconst (v := -1) hx hb dX8_at_43 (by decide) ?_
        exact W.iret hx hb hr (fun t ht _ => ⟨_, rfl, hw, ht⟩) (fun _ h => absurd h List.not_mem_nil) dX8_at_44
      · replace hw := hw.2 c9
        refine lv_aload_n hx hb dX8_at_31 rfl (lv_at hl 0 rfl) ?_
        refine va_get (D := D) (ci := 8) (v := .ref m_anow) (C := RX8) (T := TX8) (N := 18) hx hb hts inX8 hown hK hP 0 rfl rfl 7 (by decide) fl23 (fun _ h9 => h9) rfl dX8_at_32 ?_
        refine lv_bipush (v := 18) hx hb dX8_at_35 (by decide) ?_
        refine lv_iload_n hx hb dX8_at_37 rfl (lv_at hl 1 rfl) ?_
        refine lv_iadd hx hb dX8_at_38 ?_
        refine x_iald (j := ((18 : Int32) + x1).toNatClampNeg) hx hb hK hP 1 0 rfl rfl rfl hw.1 dX8_at_39 ?_
        replace hw := hw.2
        refine lv_goto (tgt := 44) hx hb dX8_at_40 (by decide) ?_
        exact W.iret hx hb hr (fun t ht _ => ⟨_, rfl, hw, ht⟩) (fun _ h => absurd h List.not_mem_nil) dX8_at_44
    · replace hw := hw.2 c9
      refine lv_aload_n hx hb dX8_at_14 rfl (lv_at hl 0 rfl) ?_
      refine va_get (D := D) (ci := 8) (v := .ref m_anow) (C := RX8) (T := TX8) (N := 18) hx hb hts inX8 hown hK hP 0 rfl rfl 7 (by decide) fl23 (fun _ h9 => h9) rfl dX8_at_15 ?_
      refine lv_bipush (v := 14) hx hb dX8_at_18 (by decide) ?_
      refine lv_iload_n hx hb dX8_at_20 rfl (lv_at hl 1 rfl) ?_
      refine lv_iadd hx hb dX8_at_21 ?_
      refine x_iald (j := ((14 : Int32) + x1).toNatClampNeg) hx hb hK hP 1 0 rfl rfl rfl hw.1 dX8_at_22 ?_
      replace hw := hw.2
      refine lv_goto (tgt := 44) hx hb dX8_at_23 (by decide) ?_
      exact W.iret hx hb hr (fun t ht _ => ⟨_, rfl, hw, ht⟩) (fun _ h => absurd h List.not_mem_nil) dX8_at_44
  · replace hw := hw.2 c9
    refine lv_iconst (v := -1) hx hb dX8_at_8 (by decide) ?_
    exact W.iret hx hb hr (fun t ht _ => ⟨_, rfl, hw, ht⟩) (fun _ h => absurd h List.not_mem_nil) dX8_at_9
set_option maxHeartbeats 4000000 in
set_option maxRecDepth 100000 in
theorem c_X8_of (l : Launch) (D : va_G) (G : Nat → ClassId) (m_mo : Nat) (m_alane : Nat) (m_asize : Nat) (m_aitem : Nat) (m_atape : Nat) (m_anow : Nat) (m_atried : Nat) (m_aread : Nat) (m_akept : Nat) (m_anoticed : Nat) (m_aneeds : Nat) (m_aorder : Nat) (m_letters : Int32) (m_position : Int32) (m_number : Int32) (m_isKept : Int32) (m_many : Int32) (m_one : Int32) (m_two : Int32) (m_now : Nat → Int32) (x1 : Int32) (post : Int32 → Prop) (hw : wp_X8_of m_now x1 post) : Met l yX8_of wsX8_of ({ frames := 2, cells := 0, slots := 0, locals := 43 } : Room) (va_Pc [.ref m_mo, .int x1] (xR D G [(m_mo, .inr (8, [.ref m_alane, .ref m_asize, .ref m_aitem, .int m_letters, .ref m_atape, .int m_position, .int m_number, .ref m_anow, .ref m_atried, .ref m_aread, .ref m_akept, .int m_isKept, .ref m_anoticed, .ref m_aneeds, .ref m_aorder, .int m_many, .int m_one, .int m_two])), (m_anow, .inl (G 0, 55, .inl m_now))])) (vp_Si post) 0 0 (fun _ => False) := by
  refine Met.ofW (cc := cX8_of) (maxL := 2) (ret := (some .int)) (by decide) rfl ?_
  intro p e s m args below meth c s₁ B hml hv
  obtain ⟨rfl, hP, hK⟩ := hv
  have hx := B.exec
  have hb := B.bytes
  have hr := B.returns
  have hts := atoms_spec (ws := wsX8_of) B.pre
  have hown : s.vm.findClass RX8 = some m.cls := findClass_of_methodNamed B.named
  have hlocks := B.notSynchronized
  have inX8 : ∀ w ∈ wsX80, w ∈ wsX8_of := by decide +kernel
  have fl23 := hts (.fieldLink RX8 23 "NewsCowModel" "now" "[I") (by decide +kernel)
  have hl := lv_entry ([.ref m_mo, .int x1] : List Value) (n := 2) (Nat.le_of_ble_eq_true rfl)
  rw [lg_entry_eq]
  generalize (lg_sl ([.ref m_mo, .int x1] : List Value) ++ List.replicate (2 - (lg_sl ([.ref m_mo, .int x1] : List Value)).length) Slot.unset).toArray = ls at hl ⊢
  have hl : lv_has ls 2 [(0, .ref m_mo), (1, .int x1)] := hl
  unfold wp_X8_of at hw
  refine lv_aload_n hx hb dX8_of_0 rfl (lv_at hl 0 rfl) ?_
  refine lv_iload_n hx hb dX8_of_1 rfl (lv_at hl 1 rfl) ?_
  refine vp_callSi (W.runV (As := [.int x1]) (rest := []) ⟨hx, hb, hml, hown, hts⟩ (c_X8_isCow l D G m_mo m_alane m_asize m_aitem m_atape m_anow m_atried m_aread m_akept m_anoticed m_aneeds m_aorder m_letters m_position m_number m_isKept m_many m_one m_two m_now x1 _ hw) (cwV 1 hts gX8_of_X8_isCow rfl rfl rfl (by decide +kernel) ⟨(Nat.le_of_ble_eq_true rfl), (Nat.le_of_ble_eq_true rfl)⟩) (xR_pv (hP.sub [0, 1] rfl) hK (va_recv hK hP (ci := 8) (q0 := 0) rfl rfl)) rfl rfl hl.1 rfl (lv_room (Nat.le_of_ble_eq_true rfl)) dX8_of_2 ⟨Nat.zero_le _, Nat.zero_le _⟩) (fun r1 hw => ?_)
  refine lv_if_eq (tgt := 19) hx hb dX8_of_5 (by decide) (fun c9 => ?_) (fun c9 => ?_)
  · replace hw := hw.1 c9
    refine lv_iconst (v := -1) hx hb dX8_of_19 (by decide) ?_
    exact W.iret hx hb hr (fun t ht _ => ⟨_, rfl, hw, ht⟩) (fun _ h => absurd h List.not_mem_nil) dX8_of_20
  · replace hw := hw.2 c9
    refine lv_aload_n hx hb dX8_of_8 rfl (lv_at hl 0 rfl) ?_
    refine va_get (D := D) (ci := 8) (v := .ref m_anow) (C := RX8) (T := TX8) (N := 18) hx hb hts inX8 hown hK hP 0 rfl rfl 7 (by decide) fl23 (fun _ h9 => h9) rfl dX8_of_9 ?_
    refine lv_iconst (v := 5) hx hb dX8_of_12 (by decide) ?_
    refine lv_iload_n hx hb dX8_of_13 rfl (lv_at hl 1 rfl) ?_
    refine lv_iadd hx hb dX8_of_14 ?_
    refine x_iald (j := ((5 : Int32) + x1).toNatClampNeg) hx hb hK hP 1 0 rfl rfl rfl hw.1 dX8_of_15 ?_
    replace hw := hw.2
    refine lv_goto (tgt := 20) hx hb dX8_of_16 (by decide) ?_
    exact W.iret hx hb hr (fun t ht _ => ⟨_, rfl, hw, ht⟩) (fun _ h => absurd h List.not_mem_nil) dX8_of_20
set_option maxHeartbeats 4000000 in
set_option maxRecDepth 100000 in
theorem c_X8_milkOf (l : Launch) (D : va_G) (G : Nat → ClassId) (av0 : Nat) (v0 : Nat → Int32) (x1 : Int32) (post : Int32 → Prop) (hw : wp_X8_milkOf v0 x1 post) : Met l yX8_milkOf wsX8_milkOf ({ frames := 1, cells := 0, slots := 0, locals := 21 } : Room) (va_Pc [.ref av0, .int x1] (xR D G [(av0, .inl (G 0, 55, .inl v0))])) (vp_Si post) 0 0 (fun _ => False) := by
  refine Met.ofW (cc := cX8_milkOf) (maxL := 4) (ret := (some .int)) (by decide) rfl ?_
  intro p e s m args below meth c s₁ B hml hv
  obtain ⟨rfl, hP, hK⟩ := hv
  have hx := B.exec
  have hb := B.bytes
  have hr := B.returns
  have hts := atoms_spec (ws := wsX8_milkOf) B.pre
  have hown : s.vm.findClass RX8 = some m.cls := findClass_of_methodNamed B.named
  have hlocks := B.notSynchronized
  have hl := lv_entry ([.ref av0, .int x1] : List Value) (n := 4) (Nat.le_of_ble_eq_true rfl)
  rw [lg_entry_eq]
  generalize (lg_sl ([.ref av0, .int x1] : List Value) ++ List.replicate (4 - (lg_sl ([.ref av0, .int x1] : List Value)).length) Slot.unset).toArray = ls at hl ⊢
  have hl : lv_has ls 4 [(0, .ref av0), (1, .int x1)] := hl
  unfold wp_X8_milkOf at hw
  have L4 : ∀ (f4 : Nat) (x2 : Int32) (x3 : Int32) (ls : Array Slot), wp_X8_milkOf_L4 v0 x1 post f4 x2 x3 → lv_has ls 4 [(0, .ref av0), (1, .int x1), (2, .int x2), (3, .int x3)] → W p l e (headSpec wsX8_milkOf ({ frames := 1, cells := 0, slots := 0, locals := 21 } : Room)).room s m ([.ref av0, .int x1] : List Value).toArray below meth c s.heap [] 0 0 (MQ below (vp_Si post) ([.ref av0, .int x1] : List Value).toArray s 0 0 (fun _ => False)) (F0 m 4 ls []) := by
    intro f4
    induction f4 with
    | zero => intro x2 x3 ls hw hl; exact (hw : False).elim
    | succ f4 ih4 =>
      intro x2 x3 ls hw hl
      unfold wp_X8_milkOf_L4 at hw
      refine lv_iload_n hx hb dX8_milkOf_4 rfl (lv_at hl 3 rfl) ?_
      refine lv_aload_n hx hb dX8_milkOf_5 rfl (lv_at hl 0 rfl) ?_
      refine lv_iconst (v := 4) hx hb dX8_milkOf_6 (by decide) ?_
      refine x_iald (j := 4) hx hb hK hP 0 0 rfl rfl (by decide) (x_in (by decide)) dX8_milkOf_7 ?_
      refine lv_icmp_ge (tgt := 37) hx hb dX8_milkOf_8 (by decide) (fun c9 => ?_) (fun c9 => ?_)
      · replace hw := hw.1 c9
        refine lv_iload_n hx hb dX8_milkOf_37 rfl (lv_at hl 2 rfl) ?_
        exact W.iret hx hb hr (fun t ht _ => ⟨_, rfl, hw, ht⟩) (fun _ h => absurd h List.not_mem_nil) dX8_milkOf_38
      · replace hw := hw.2 c9
        refine lv_iload_n hx hb dX8_milkOf_11 rfl (lv_at hl 2 rfl) ?_
        refine lv_iload_n hx hb dX8_milkOf_12 rfl (lv_at hl 1 rfl) ?_
        refine lv_iload_n hx hb dX8_milkOf_13 rfl (lv_at hl 3 rfl) ?_
        refine vp_callSi (W.runS (As := [.int x1, .int x3]) (rest := [.int x2]) ⟨hx, hb, hml, hown, hts⟩ (c_X8_has l D G x1 x3 _ hw) (va_cwS 2 hts gX8_milkOf_X8_has rfl rfl rfl (by decide +kernel) ⟨(Nat.le_of_ble_eq_true rfl), (Nat.le_of_ble_eq_true rfl)⟩) (xR_ps (hP.sub [] rfl) hK) rfl rfl hl.1 rfl (lv_room (Nat.le_of_ble_eq_true rfl)) dX8_milkOf_14 ⟨Nat.zero_le _, Nat.zero_le _⟩) (fun r1 hw => ?_)
        refine lv_if_eq (tgt := 28) hx hb dX8_milkOf_17 (by decide) (fun c9 => ?_) (fun c9 => ?_)
        · replace hw := hw.1 c9
          refine lv_iconst (v := 0) hx hb dX8_milkOf_28 (by decide) ?_
          refine lv_iadd hx hb dX8_milkOf_29 ?_
          refine lv_istore_n (lv' := [(2, .int (x2 + (0 : Int32))), (0, .ref av0), (1, .int x1), (3, .int x3)]) hx hb dX8_milkOf_30 rfl hl (by decide) rfl (fun ls hl => ?_)
          refine lv_iinc (v := (x3 + 1)) (lv' := [(3, .int (x3 + 1)), (2, .int (x2 + (0 : Int32))), (0, .ref av0), (1, .int x1)]) hx hb dX8_milkOf_31 hl (k := 3) rfl (by first | rfl | decide) (by decide) rfl (fun ls hl => ?_)
          refine lv_goto (tgt := 4) hx hb dX8_milkOf_34 (by decide) ?_
          exact ih4 (x2 + (0 : Int32)) (x3 + 1) _ hw (lv_sub hl [2, 3, 1, 0] rfl)
        · replace hw := hw.2 c9
          refine lv_aload_n hx hb dX8_milkOf_20 rfl (lv_at hl 0 rfl) ?_
          refine lv_iconst (v := 5) hx hb dX8_milkOf_21 (by decide) ?_
          refine lv_iload_n hx hb dX8_milkOf_22 rfl (lv_at hl 3 rfl) ?_
          refine lv_iadd hx hb dX8_milkOf_23 ?_
          refine x_iald (j := ((5 : Int32) + x3).toNatClampNeg) hx hb hK hP 0 0 rfl rfl rfl hw.1 dX8_milkOf_24 ?_
          replace hw := hw.2
          refine lv_goto (tgt := 29) hx hb dX8_milkOf_25 (by decide) ?_
          refine lv_iadd hx hb dX8_milkOf_29 ?_
          refine lv_istore_n (lv' := [(2, .int (x2 + (v0 ((5 : Int32) + x3).toNatClampNeg))), (0, .ref av0), (1, .int x1), (3, .int x3)]) hx hb dX8_milkOf_30 rfl hl (by decide) rfl (fun ls hl => ?_)
          refine lv_iinc (v := (x3 + 1)) (lv' := [(3, .int (x3 + 1)), (2, .int (x2 + (v0 ((5 : Int32) + x3).toNatClampNeg))), (0, .ref av0), (1, .int x1)]) hx hb dX8_milkOf_31 hl (k := 3) rfl (by first | rfl | decide) (by decide) rfl (fun ls hl => ?_)
          refine lv_goto (tgt := 4) hx hb dX8_milkOf_34 (by decide) ?_
          exact ih4 (x2 + (v0 ((5 : Int32) + x3).toNatClampNeg)) (x3 + 1) _ hw (lv_sub hl [2, 3, 1, 0] rfl)
  refine lv_iconst (v := 0) hx hb dX8_milkOf_0 (by decide) ?_
  refine lv_istore_n (lv' := [(2, .int (0 : Int32)), (0, .ref av0), (1, .int x1)]) hx hb dX8_milkOf_1 rfl hl (by decide) rfl (fun ls hl => ?_)
  refine lv_iconst (v := 0) hx hb dX8_milkOf_2 (by decide) ?_
  refine lv_istore_n (lv' := [(3, .int (0 : Int32)), (2, .int (0 : Int32)), (0, .ref av0), (1, .int x1)]) hx hb dX8_milkOf_3 rfl hl (by decide) rfl (fun ls hl => ?_)
  obtain ⟨n, hw⟩ := hw
  exact L4 n (0 : Int32) (0 : Int32) _ hw (lv_sub hl [2, 3, 1, 0] rfl)
set_option maxHeartbeats 4000000 in
set_option maxRecDepth 100000 in
theorem c_X8_noticesIn (l : Launch) (D : va_G) (G : Nat → ClassId) (av0 : Nat) (v0 : Nat → Int32) (x1 : Int32) (x2 : Int32) (x3 : Int32) (post : Int32 → Prop) (hw : wp_X8_noticesIn v0 x1 x2 x3 post) : Met l yX8_noticesIn wsX8_noticesIn ({ frames := 2, cells := 0, slots := 0, locals := 44 } : Room) (va_Pc [.ref av0, .int x1, .int x2, .int x3] (xR D G [(av0, .inl (G 0, 55, .inl v0))])) (vp_Si post) 0 0 (fun _ => False) := by
  refine Met.ofW (cc := cX8_noticesIn) (maxL := 8) (ret := (some .boolean)) (by decide) rfl ?_
  intro p e s m args below meth c s₁ B hml hv
  obtain ⟨rfl, hP, hK⟩ := hv
  have hx := B.exec
  have hb := B.bytes
  have hr := B.returns
  have hts := atoms_spec (ws := wsX8_noticesIn) B.pre
  have hown : s.vm.findClass RX8 = some m.cls := findClass_of_methodNamed B.named
  have hlocks := B.notSynchronized
  have hl := lv_entry ([.ref av0, .int x1, .int x2, .int x3] : List Value) (n := 8) (Nat.le_of_ble_eq_true rfl)
  rw [lg_entry_eq]
  generalize (lg_sl ([.ref av0, .int x1, .int x2, .int x3] : List Value) ++ List.replicate (8 - (lg_sl ([.ref av0, .int x1, .int x2, .int x3] : List Value)).length) Slot.unset).toArray = ls at hl ⊢
  have hl : lv_has ls 8 [(0, .ref av0), (1, .int x1), (2, .int x2), (3, .int x3)] := hl
  unfold wp_X8_noticesIn at hw
  have J147 : ∀ (k0 : Int32) (k1 : Int32) (ls : Array Slot), wp_X8_noticesIn_J147 k0 k1 post → lv_has ls 8 [] → W p l e (headSpec wsX8_noticesIn ({ frames := 2, cells := 0, slots := 0, locals := 44 } : Room)).room s m ([.ref av0, .int x1, .int x2, .int x3] : List Value).toArray below meth c s.heap [] 0 0 (MQ below (vp_Si post) ([.ref av0, .int x1, .int x2, .int x3] : List Value).toArray s 0 0 (fun _ => False)) (F0 m 147 ls [.int k0, .int k1]) := by
    intro k0 k1 ls hw hl
    unfold wp_X8_noticesIn_J147 at hw
    refine lv_icmp_ne (tgt := 154) hx hb dX8_noticesIn_147 (by decide) (fun c9 => ?_) (fun c9 => ?_)
    · replace hw := hw.1 c9
      refine lv_iconst (v := 0) hx hb dX8_noticesIn_154 (by decide) ?_
      exact W.zret hx hb hr rfl (fun t ht _ => ⟨_, rfl, hw, ht⟩) (fun _ h => absurd h List.not_mem_nil) dX8_noticesIn_155
    · replace hw := hw.2 c9
      refine lv_iconst (v := 1) hx hb dX8_noticesIn_150 (by decide) ?_
      refine lv_goto (tgt := 155) hx hb dX8_noticesIn_151 (by decide) ?_
      exact W.zret hx hb hr rfl (fun t ht _ => ⟨_, rfl, hw, ht⟩) (fun _ h => absurd h List.not_mem_nil) dX8_noticesIn_155
  have J70 : ∀ (x4 : Int32) (x5 : Int32) (x6 : Int32) (k0 : Int32) (ls : Array Slot), wp_X8_noticesIn_J70 v0 x4 x5 x6 k0 post → lv_has ls 8 [(0, .ref av0), (4, .int x4), (5, .int x5), (6, .int x6)] → W p l e (headSpec wsX8_noticesIn ({ frames := 2, cells := 0, slots := 0, locals := 44 } : Room)).room s m ([.ref av0, .int x1, .int x2, .int x3] : List Value).toArray below meth c s.heap [] 0 0 (MQ below (vp_Si post) ([.ref av0, .int x1, .int x2, .int x3] : List Value).toArray s 0 0 (fun _ => False)) (F0 m 70 ls [.int k0]) := by
    intro x4 x5 x6 k0 ls hw hl
    unfold wp_X8_noticesIn_J70 at hw
    refine lv_istore (lv' := [(7, .int k0), (0, .ref av0), (4, .int x4), (5, .int x5), (6, .int x6)]) hx hb dX8_noticesIn_70 hl (by decide) rfl (fun ls hl => ?_)
    refine lv_iload hx hb dX8_noticesIn_72 (lv_at hl 2 rfl) ?_
    by_cases c0 : x4 = 0
    · replace hw := hw.1 c0
      refine lv_tableIn (tgt := 104) (off := 30) hx hb dX8_noticesIn_74 (by rw [c0]; decide) (by rw [c0]; decide) (by rw [c0]; decide) (by decide) ?_
      refine lv_iload hx hb dX8_noticesIn_104 (lv_at hl 3 rfl) ?_
      exact W.zret hx hb hr hw.1 (fun t ht _ => ⟨_, rfl, hw.2, ht⟩) (fun _ h => absurd h List.not_mem_nil) dX8_noticesIn_106
    replace hw := hw.2 c0
    by_cases c1 : x4 = 1
    · replace hw := hw.1 c1
      refine lv_tableIn (tgt := 107) (off := 33) hx hb dX8_noticesIn_74 (by rw [c1]; decide) (by rw [c1]; decide) (by rw [c1]; decide) (by decide) ?_
      refine lv_iload hx hb dX8_noticesIn_107 (lv_at hl 4 rfl) ?_
      exact W.zret hx hb hr hw.1 (fun t ht _ => ⟨_, rfl, hw.2, ht⟩) (fun _ h => absurd h List.not_mem_nil) dX8_noticesIn_109
    replace hw := hw.2 c1
    by_cases c2 : x4 = 2
    · replace hw := hw.1 c2
      refine lv_tableIn (tgt := 110) (off := 36) hx hb dX8_noticesIn_74 (by rw [c2]; decide) (by rw [c2]; decide) (by rw [c2]; decide) (by decide) ?_
      refine lv_iload hx hb dX8_noticesIn_110 (lv_at hl 0 rfl) ?_
      exact W.zret hx hb hr hw.1 (fun t ht _ => ⟨_, rfl, hw.2, ht⟩) (fun _ h => absurd h List.not_mem_nil) dX8_noticesIn_112
    replace hw := hw.2 c2
    by_cases c3 : x4 = 3
    · replace hw := hw.1 c3
      refine lv_tableIn (tgt := 113) (off := 39) hx hb dX8_noticesIn_74 (by rw [c3]; decide) (by rw [c3]; decide) (by rw [c3]; decide) (by decide) ?_
      refine lv_iload hx hb dX8_noticesIn_113 (lv_at hl 4 rfl) ?_
      refine lv_if_eq (tgt := 130) hx hb dX8_noticesIn_115 (by decide) (fun c9 => ?_) (fun c9 => ?_)
      · replace hw := hw.1 c9
        refine lv_iconst (v := 0) hx hb dX8_noticesIn_130 (by decide) ?_
        exact W.zret hx hb hr rfl (fun t ht _ => ⟨_, rfl, hw, ht⟩) (fun _ h => absurd h List.not_mem_nil) dX8_noticesIn_131
      · replace hw := hw.2 c9
        refine lv_aload_n hx hb dX8_noticesIn_118 rfl (lv_at hl 1 rfl) ?_
        refine lv_iconst (v := 0) hx hb dX8_noticesIn_119 (by decide) ?_
        refine x_iald (j := 0) hx hb hK hP 0 0 rfl rfl (by decide) (x_in (by decide)) dX8_noticesIn_120 ?_
        refine lv_iconst (v := 3) hx hb dX8_noticesIn_121 (by decide) ?_
        refine lv_irem hx hb dX8_noticesIn_122 (by decide) ?_
        refine lv_if_eq (tgt := 130) hx hb dX8_noticesIn_123 (by decide) (fun c9 => ?_) (fun c9 => ?_)
        · replace hw := hw.1 c9
          refine lv_iconst (v := 0) hx hb dX8_noticesIn_130 (by decide) ?_
          exact W.zret hx hb hr rfl (fun t ht _ => ⟨_, rfl, hw, ht⟩) (fun _ h => absurd h List.not_mem_nil) dX8_noticesIn_131
        · replace hw := hw.2 c9
          refine lv_iconst (v := 1) hx hb dX8_noticesIn_126 (by decide) ?_
          refine lv_goto (tgt := 131) hx hb dX8_noticesIn_127 (by decide) ?_
          exact W.zret hx hb hr rfl (fun t ht _ => ⟨_, rfl, hw, ht⟩) (fun _ h => absurd h List.not_mem_nil) dX8_noticesIn_131
    replace hw := hw.2 c3
    refine lv_tableOut (tgt := 132) hx hb dX8_noticesIn_74 (x_sw0_3 c0 c1 c2 c3) (by decide) ?_
    refine lv_iload hx hb dX8_noticesIn_132 (lv_at hl 0 rfl) ?_
    refine lv_aload_n hx hb dX8_noticesIn_134 rfl (lv_at hl 1 rfl) ?_
    refine lv_iconst (v := 0) hx hb dX8_noticesIn_135 (by decide) ?_
    refine x_iald (j := 0) hx hb hK hP 0 0 rfl rfl (by decide) (x_in (by decide)) dX8_noticesIn_136 ?_
    refine lv_iconst (v := 2) hx hb dX8_noticesIn_137 (by decide) ?_
    refine lv_irem hx hb dX8_noticesIn_138 (by decide) ?_
    refine lv_if_ne (tgt := 146) hx hb dX8_noticesIn_139 (by decide) (fun c9 => ?_) (fun c9 => ?_)
    · replace hw := hw.1 c9
      refine lv_iconst (v := 0) hx hb dX8_noticesIn_146 (by decide) ?_
      exact J147 (0 : Int32) k0 _ hw (lv_sub hl [] rfl)
    · replace hw := hw.2 c9
      refine lv_iconst (v := 1) hx hb dX8_noticesIn_142 (by decide) ?_
      refine lv_goto (tgt := 147) hx hb dX8_noticesIn_143 (by decide) ?_
      exact J147 (1 : Int32) k0 _ hw (lv_sub hl [] rfl)
  have J65 : ∀ (x4 : Int32) (x5 : Int32) (x6 : Int32) (ls : Array Slot), wp_X8_noticesIn_J65 v0 x4 x5 x6 post → lv_has ls 8 [(0, .ref av0), (4, .int x4), (5, .int x5), (6, .int x6)] → W p l e (headSpec wsX8_noticesIn ({ frames := 2, cells := 0, slots := 0, locals := 44 } : Room)).room s m ([.ref av0, .int x1, .int x2, .int x3] : List Value).toArray below meth c s.heap [] 0 0 (MQ below (vp_Si post) ([.ref av0, .int x1, .int x2, .int x3] : List Value).toArray s 0 0 (fun _ => False)) (F0 m 65 ls []) := by
    intro x4 x5 x6 ls hw hl
    unfold wp_X8_noticesIn_J65 at hw
    refine lv_iconst (v := 1) hx hb dX8_noticesIn_65 (by decide) ?_
    refine lv_goto (tgt := 70) hx hb dX8_noticesIn_66 (by decide) ?_
    exact J70 x4 x5 x6 (1 : Int32) _ hw (lv_sub hl [0, 1, 2, 3] rfl)
  have J45 : ∀ (x4 : Int32) (x5 : Int32) (k0 : Int32) (ls : Array Slot), wp_X8_noticesIn_J45 v0 x1 x2 x4 x5 k0 post → lv_has ls 8 [(0, .ref av0), (1, .int x1), (2, .int x2), (4, .int x4), (5, .int x5)] → W p l e (headSpec wsX8_noticesIn ({ frames := 2, cells := 0, slots := 0, locals := 44 } : Room)).room s m ([.ref av0, .int x1, .int x2, .int x3] : List Value).toArray below meth c s.heap [] 0 0 (MQ below (vp_Si post) ([.ref av0, .int x1, .int x2, .int x3] : List Value).toArray s 0 0 (fun _ => False)) (F0 m 45 ls [.int k0]) := by
    intro x4 x5 k0 ls hw hl
    unfold wp_X8_noticesIn_J45 at hw
    refine lv_istore (lv' := [(6, .int k0), (0, .ref av0), (1, .int x1), (2, .int x2), (4, .int x4), (5, .int x5)]) hx hb dX8_noticesIn_45 hl (by decide) rfl (fun ls hl => ?_)
    refine lv_iload hx hb dX8_noticesIn_47 (lv_at hl 5 rfl) ?_
    refine lv_if_ne (tgt := 65) hx hb dX8_noticesIn_49 (by decide) (fun c9 => ?_) (fun c9 => ?_)
    · replace hw := hw.1 c9
      exact J65 x4 x5 k0 _ hw (lv_sub hl [1, 4, 5, 0] rfl)
    · replace hw := hw.2 c9
      refine lv_iload_n hx hb dX8_noticesIn_52 rfl (lv_at hl 3 rfl) ?_
      refine vp_callSi (W.runS (As := [.int x2]) (rest := []) ⟨hx, hb, hml, hown, hts⟩ (c_X8_bits l D G x2 _ hw) (va_cwS 1 hts gX8_noticesIn_X8_bits rfl rfl rfl (by decide +kernel) ⟨(Nat.le_of_ble_eq_true rfl), (Nat.le_of_ble_eq_true rfl)⟩) (xR_ps (hP.sub [] rfl) hK) rfl rfl hl.1 rfl (lv_room (Nat.le_of_ble_eq_true rfl)) dX8_noticesIn_53 ⟨Nat.zero_le _, Nat.zero_le _⟩) (fun r3 hw => ?_)
      refine lv_aload_n hx hb dX8_noticesIn_56 rfl (lv_at hl 1 rfl) ?_
      refine lv_bipush (v := 18) hx hb dX8_noticesIn_57 (by decide) ?_
      refine lv_iload_n hx hb dX8_noticesIn_59 rfl (lv_at hl 2 rfl) ?_
      refine lv_iadd hx hb dX8_noticesIn_60 ?_
      refine x_iald (j := ((18 : Int32) + x1).toNatClampNeg) hx hb hK hP 0 0 rfl rfl rfl hw.1 dX8_noticesIn_61 ?_
      replace hw := hw.2
      refine lv_icmp_le (tgt := 69) hx hb dX8_noticesIn_62 (by decide) (fun c9 => ?_) (fun c9 => ?_)
      · replace hw := hw.1 c9
        refine lv_iconst (v := 0) hx hb dX8_noticesIn_69 (by decide) ?_
        exact J70 x4 x5 k0 (0 : Int32) _ hw (lv_sub hl [1, 4, 5, 0] rfl)
      · replace hw := hw.2 c9
        exact J65 x4 x5 k0 _ hw (lv_sub hl [1, 4, 5, 0] rfl)
  have J44 : ∀ (x4 : Int32) (x5 : Int32) (ls : Array Slot), wp_X8_noticesIn_J44 v0 x1 x2 x4 x5 post → lv_has ls 8 [(0, .ref av0), (1, .int x1), (2, .int x2), (4, .int x4), (5, .int x5)] → W p l e (headSpec wsX8_noticesIn ({ frames := 2, cells := 0, slots := 0, locals := 44 } : Room)).room s m ([.ref av0, .int x1, .int x2, .int x3] : List Value).toArray below meth c s.heap [] 0 0 (MQ below (vp_Si post) ([.ref av0, .int x1, .int x2, .int x3] : List Value).toArray s 0 0 (fun _ => False)) (F0 m 44 ls []) := by
    intro x4 x5 ls hw hl
    unfold wp_X8_noticesIn_J44 at hw
    refine lv_iconst (v := 0) hx hb dX8_noticesIn_44 (by decide) ?_
    exact J45 x4 x5 (0 : Int32) _ hw (lv_sub hl [0, 1, 2, 3, 4] rfl)
  refine lv_aload_n hx hb dX8_noticesIn_0 rfl (lv_at hl 0 rfl) ?_
  refine lv_bipush (v := 14) hx hb dX8_noticesIn_1 (by decide) ?_
  refine lv_iload_n hx hb dX8_noticesIn_3 rfl (lv_at hl 1 rfl) ?_
  refine lv_iadd hx hb dX8_noticesIn_4 ?_
  refine x_iald (j := ((14 : Int32) + x1).toNatClampNeg) hx hb hK hP 0 0 rfl rfl rfl hw.1 dX8_noticesIn_5 ?_
  replace hw := hw.2
  refine lv_istore (lv' := [(4, .int (v0 ((14 : Int32) + x1).toNatClampNeg)), (0, .ref av0), (1, .int x1), (2, .int x2), (3, .int x3)]) hx hb dX8_noticesIn_6 hl (by decide) rfl (fun ls hl => ?_)
  refine lv_iload_n hx hb dX8_noticesIn_8 rfl (lv_at hl 3 rfl) ?_
  refine lv_iload_n hx hb dX8_noticesIn_9 rfl (lv_at hl 4 rfl) ?_
  refine vp_callSi (W.runS (As := [.int x2, .int x3]) (rest := []) ⟨hx, hb, hml, hown, hts⟩ (c_X8_has l D G x2 x3 _ hw) (va_cwS 2 hts gX8_noticesIn_X8_has rfl rfl rfl (by decide +kernel) ⟨(Nat.le_of_ble_eq_true rfl), (Nat.le_of_ble_eq_true rfl)⟩) (xR_ps (hP.sub [] rfl) hK) rfl rfl hl.1 rfl (lv_room (Nat.le_of_ble_eq_true rfl)) dX8_noticesIn_10 ⟨Nat.zero_le _, Nat.zero_le _⟩) (fun r1 hw => ?_)
  refine lv_istore (lv' := [(5, .int r1), (4, .int (v0 ((14 : Int32) + x1).toNatClampNeg)), (0, .ref av0), (1, .int x1), (2, .int x2), (3, .int x3)]) hx hb dX8_noticesIn_13 hl (by decide) rfl (fun ls hl => ?_)
  refine lv_iload hx hb dX8_noticesIn_15 (lv_at hl 0 rfl) ?_
  refine lv_if_eq (tgt := 44) hx hb dX8_noticesIn_17 (by decide) (fun c9 => ?_) (fun c9 => ?_)
  · replace hw := hw.1 c9
    exact J44 (v0 ((14 : Int32) + x1).toNatClampNeg) r1 _ hw (lv_sub hl [2, 3, 4, 1, 0] rfl)
  · replace hw := hw.2 c9
    refine lv_aload_n hx hb dX8_noticesIn_20 rfl (lv_at hl 2 rfl) ?_
    refine lv_iconst (v := 5) hx hb dX8_noticesIn_21 (by decide) ?_
    refine lv_iload_n hx hb dX8_noticesIn_22 rfl (lv_at hl 5 rfl) ?_
    refine lv_iadd hx hb dX8_noticesIn_23 ?_
    refine x_iald (j := ((5 : Int32) + x3).toNatClampNeg) hx hb hK hP 0 0 rfl rfl rfl hw.1 dX8_noticesIn_24 ?_
    replace hw := hw.2
    refine lv_aload_n hx hb dX8_noticesIn_25 rfl (lv_at hl 2 rfl) ?_
    refine lv_bipush (v := 18) hx hb dX8_noticesIn_26 (by decide) ?_
    refine lv_iload_n hx hb dX8_noticesIn_28 rfl (lv_at hl 3 rfl) ?_
    refine lv_iadd hx hb dX8_noticesIn_29 ?_
    refine x_iald (j := ((18 : Int32) + x1).toNatClampNeg) hx hb hK hP 0 0 rfl rfl rfl hw.1 dX8_noticesIn_30 ?_
    replace hw := hw.2
    refine lv_imul hx hb dX8_noticesIn_31 ?_
    refine lv_aload_n hx hb dX8_noticesIn_32 rfl (lv_at hl 2 rfl) ?_
    refine lv_iload_n hx hb dX8_noticesIn_33 rfl (lv_at hl 4 rfl) ?_
    refine vp_callSi (W.runS (As := [.ref av0, .int x2]) (rest := [.int ((v0 ((5 : Int32) + x3).toNatClampNeg) * (v0 ((18 : Int32) + x1).toNatClampNeg))]) ⟨hx, hb, hml, hown, hts⟩ (c_X8_milkOf l D G av0 v0 x2 _ hw) (va_cwS 2 hts gX8_noticesIn_X8_milkOf rfl rfl rfl (by decide +kernel) ⟨(Nat.le_of_ble_eq_true rfl), (Nat.le_of_ble_eq_true rfl)⟩) (xR_ps (hP.sub [0] rfl) hK) rfl rfl hl.1 rfl (lv_room (Nat.le_of_ble_eq_true rfl)) dX8_noticesIn_34 ⟨Nat.zero_le _, Nat.zero_le _⟩) (fun r2 hw => ?_)
    refine lv_icmp_lt (tgt := 44) hx hb dX8_noticesIn_37 (by decide) (fun c9 => ?_) (fun c9 => ?_)
    · replace hw := hw.1 c9
      exact J44 (v0 ((14 : Int32) + x1).toNatClampNeg) r1 _ hw (lv_sub hl [2, 3, 4, 1, 0] rfl)
    · replace hw := hw.2 c9
      refine lv_iconst (v := 1) hx hb dX8_noticesIn_40 (by decide) ?_
      refine lv_goto (tgt := 45) hx hb dX8_noticesIn_41 (by decide) ?_
      exact J45 (v0 ((14 : Int32) + x1).toNatClampNeg) r1 (1 : Int32) _ hw (lv_sub hl [2, 3, 4, 1, 0] rfl)
set_option maxHeartbeats 4000000 in
set_option maxRecDepth 100000 in
theorem c_X8_notices (l : Launch) (D : va_G) (G : Nat → ClassId) (m_mo : Nat) (m_alane : Nat) (m_asize : Nat) (m_aitem : Nat) (m_atape : Nat) (m_anow : Nat) (m_atried : Nat) (m_aread : Nat) (m_akept : Nat) (m_anoticed : Nat) (m_aneeds : Nat) (m_aorder : Nat) (m_letters : Int32) (m_position : Int32) (m_number : Int32) (m_isKept : Int32) (m_many : Int32) (m_one : Int32) (m_two : Int32) (m_now : Nat → Int32) (x1 : Int32) (x2 : Int32) (x3 : Int32) (post : Int32 → Prop) (hw : wp_X8_notices m_now x1 x2 x3 post) : Met l yX8_notices wsX8_notices ({ frames := 3, cells := 0, slots := 0, locals := 71 } : Room) (va_Pc [.ref m_mo, .int x1, .int x2, .int x3] (xR D G [(m_mo, .inr (8, [.ref m_alane, .ref m_asize, .ref m_aitem, .int m_letters, .ref m_atape, .int m_position, .int m_number, .ref m_anow, .ref m_atried, .ref m_aread, .ref m_akept, .int m_isKept, .ref m_anoticed, .ref m_aneeds, .ref m_aorder, .int m_many, .int m_one, .int m_two])), (m_anow, .inl (G 0, 55, .inl m_now))])) (vp_Si post) 0 0 (fun _ => False) := by
  refine Met.ofW (cc := cX8_notices) (maxL := 4) (ret := (some .int)) (by decide) rfl ?_
  intro p e s m args below meth c s₁ B hml hv
  obtain ⟨rfl, hP, hK⟩ := hv
  have hx := B.exec
  have hb := B.bytes
  have hr := B.returns
  have hts := atoms_spec (ws := wsX8_notices) B.pre
  have hown : s.vm.findClass RX8 = some m.cls := findClass_of_methodNamed B.named
  have hlocks := B.notSynchronized
  have inX8 : ∀ w ∈ wsX80, w ∈ wsX8_notices := by decide +kernel
  have fl23 := hts (.fieldLink RX8 23 "NewsCowModel" "now" "[I") (by decide +kernel)
  have hl := lv_entry ([.ref m_mo, .int x1, .int x2, .int x3] : List Value) (n := 4) (Nat.le_of_ble_eq_true rfl)
  rw [lg_entry_eq]
  generalize (lg_sl ([.ref m_mo, .int x1, .int x2, .int x3] : List Value) ++ List.replicate (4 - (lg_sl ([.ref m_mo, .int x1, .int x2, .int x3] : List Value)).length) Slot.unset).toArray = ls at hl ⊢
  have hl : lv_has ls 4 [(0, .ref m_mo), (1, .int x1), (2, .int x2), (3, .int x3)] := hl
  unfold wp_X8_notices at hw
  refine lv_aload_n hx hb dX8_notices_0 rfl (lv_at hl 0 rfl) ?_
  refine lv_iload_n hx hb dX8_notices_1 rfl (lv_at hl 1 rfl) ?_
  refine vp_callSi (W.runV (As := [.int x1]) (rest := []) ⟨hx, hb, hml, hown, hts⟩ (c_X8_isTaster l D G m_mo m_alane m_asize m_aitem m_atape m_anow m_atried m_aread m_akept m_anoticed m_aneeds m_aorder m_letters m_position m_number m_isKept m_many m_one m_two m_now x1 _ hw) (cwV 1 hts gX8_notices_X8_isTaster rfl rfl rfl (by decide +kernel) ⟨(Nat.le_of_ble_eq_true rfl), (Nat.le_of_ble_eq_true rfl)⟩) (xR_pv (hP.sub [0, 1] rfl) hK (va_recv hK hP (ci := 8) (q0 := 0) rfl rfl)) rfl rfl hl.1 rfl (lv_room (Nat.le_of_ble_eq_true rfl)) dX8_notices_2 ⟨Nat.zero_le _, Nat.zero_le _⟩) (fun r1 hw => ?_)
  refine lv_if_eq (tgt := 24) hx hb dX8_notices_5 (by decide) (fun c9 => ?_) (fun c9 => ?_)
  · replace hw := hw.1 c9
    refine lv_iconst (v := -1) hx hb dX8_notices_24 (by decide) ?_
    exact W.iret hx hb hr (fun t ht _ => ⟨_, rfl, hw, ht⟩) (fun _ h => absurd h List.not_mem_nil) dX8_notices_25
  · replace hw := hw.2 c9
    refine lv_aload_n hx hb dX8_notices_8 rfl (lv_at hl 0 rfl) ?_
    refine lv_iload_n hx hb dX8_notices_9 rfl (lv_at hl 2 rfl) ?_
    refine vp_callSi (W.runV (As := [.int x2]) (rest := []) ⟨hx, hb, hml, hown, hts⟩ (c_X8_isMix l D G m_mo m_alane m_asize m_aitem m_atape m_anow m_atried m_aread m_akept m_anoticed m_aneeds m_aorder m_letters m_position m_number m_isKept m_many m_one m_two m_now x2 _ hw) (cwV 1 hts gX8_notices_X8_isMix rfl rfl rfl (by decide +kernel) ⟨(Nat.le_of_ble_eq_true rfl), (Nat.le_of_ble_eq_true rfl)⟩) (xR_pv (hP.sub [0, 1] rfl) hK (va_recv hK hP (ci := 8) (q0 := 0) rfl rfl)) rfl rfl hl.1 rfl (lv_room (Nat.le_of_ble_eq_true rfl)) dX8_notices_10 ⟨Nat.zero_le _, Nat.zero_le _⟩) (fun r2 hw => ?_)
    refine lv_if_eq (tgt := 24) hx hb dX8_notices_13 (by decide) (fun c9 => ?_) (fun c9 => ?_)
    · replace hw := hw.1 c9
      refine lv_iconst (v := -1) hx hb dX8_notices_24 (by decide) ?_
      exact W.iret hx hb hr (fun t ht _ => ⟨_, rfl, hw, ht⟩) (fun _ h => absurd h List.not_mem_nil) dX8_notices_25
    · replace hw := hw.2 c9
      refine lv_aload_n hx hb dX8_notices_16 rfl (lv_at hl 0 rfl) ?_
      refine lv_iload_n hx hb dX8_notices_17 rfl (lv_at hl 3 rfl) ?_
      refine vp_callSi (W.runV (As := [.int x3]) (rest := []) ⟨hx, hb, hml, hown, hts⟩ (c_X8_isCow l D G m_mo m_alane m_asize m_aitem m_atape m_anow m_atried m_aread m_akept m_anoticed m_aneeds m_aorder m_letters m_position m_number m_isKept m_many m_one m_two m_now x3 _ hw) (cwV 1 hts gX8_notices_X8_isCow rfl rfl rfl (by decide +kernel) ⟨(Nat.le_of_ble_eq_true rfl), (Nat.le_of_ble_eq_true rfl)⟩) (xR_pv (hP.sub [0, 1] rfl) hK (va_recv hK hP (ci := 8) (q0 := 0) rfl rfl)) rfl rfl hl.1 rfl (lv_room (Nat.le_of_ble_eq_true rfl)) dX8_notices_18 ⟨Nat.zero_le _, Nat.zero_le _⟩) (fun r3 hw => ?_)
      refine lv_if_ne (tgt := 26) hx hb dX8_notices_21 (by decide) (fun c9 => ?_) (fun c9 => ?_)
      · replace hw := hw.1 c9
        refine lv_aload_n hx hb dX8_notices_26 rfl (lv_at hl 0 rfl) ?_
        refine va_get (D := D) (ci := 8) (v := .ref m_anow) (C := RX8) (T := TX8) (N := 18) hx hb hts inX8 hown hK hP 0 rfl rfl 7 (by decide) fl23 (fun _ h9 => h9) rfl dX8_notices_27 ?_
        refine lv_iload_n hx hb dX8_notices_30 rfl (lv_at hl 1 rfl) ?_
        refine lv_iload_n hx hb dX8_notices_31 rfl (lv_at hl 2 rfl) ?_
        refine lv_iload_n hx hb dX8_notices_32 rfl (lv_at hl 3 rfl) ?_
        refine vp_callSi (W.runS (As := [.ref m_anow, .int x1, .int x2, .int x3]) (rest := []) ⟨hx, hb, hml, hown, hts⟩ (c_X8_noticesIn l D G m_anow m_now x1 x2 x3 _ hw) (va_cwS 4 hts gX8_notices_X8_noticesIn rfl rfl rfl (by decide +kernel) ⟨(Nat.le_of_ble_eq_true rfl), (Nat.le_of_ble_eq_true rfl)⟩) (xR_ps (hP.sub [1] rfl) hK) rfl rfl hl.1 rfl (lv_room (Nat.le_of_ble_eq_true rfl)) dX8_notices_33 ⟨Nat.zero_le _, Nat.zero_le _⟩) (fun r4 hw => ?_)
        refine lv_if_eq (tgt := 43) hx hb dX8_notices_36 (by decide) (fun c9 => ?_) (fun c9 => ?_)
        · replace hw := hw.1 c9
          refine lv_iconst (v := 0) hx hb dX8_notices_43 (by decide) ?_
          exact W.iret hx hb hr (fun t ht _ => ⟨_, rfl, hw, ht⟩) (fun _ h => absurd h List.not_mem_nil) dX8_notices_44
        · replace hw := hw.2 c9
          refine lv_iconst (v := 1) hx hb dX8_notices_39 (by decide) ?_
          refine lv_goto (tgt := 44) hx hb dX8_notices_40 (by decide) ?_
          exact W.iret hx hb hr (fun t ht _ => ⟨_, rfl, hw, ht⟩) (fun _ h => absurd h List.not_mem_nil) dX8_notices_44
      · replace hw := hw.2 c9
        refine lv_iconst (v := -1) hx hb dX8_notices_24 (by decide) ?_
        exact W.iret hx hb hr (fun t ht _ => ⟨_, rfl, hw, ht⟩) (fun _ h => absurd h List.not_mem_nil) dX8_notices_25
set_option maxHeartbeats 4000000 in
set_option maxRecDepth 100000 in
theorem c_X8_type (l : Launch) (D : va_G) (G : Nat → ClassId) (sz : Nat) (m_mo : Nat) (m_alane : Nat) (m_asize : Nat) (m_aitem : Nat) (m_atape : Nat) (m_anow : Nat) (m_atried : Nat) (m_aread : Nat) (m_akept : Nat) (m_anoticed : Nat) (m_aneeds : Nat) (m_aorder : Nat) (m_letters : Int32) (m_position : Int32) (m_number : Int32) (m_isKept : Int32) (m_many : Int32) (m_one : Int32) (m_two : Int32) (m_tape : Nat → Int32) (x1 : Int32) (post : Int32 → Int32 → (Nat → Int32) → Prop) (hw : wp_X8_type m_letters m_tape x1 post) : Met l yX8_type wsX8_type ({ frames := 1, cells := 0, slots := 0, locals := 22 } : Room) (va_Pc [.ref m_mo, .int x1] (xM D G sz [(m_mo, .inr (8, [.ref m_alane, .ref m_asize, .ref m_aitem, .int m_letters, .ref m_atape, .int m_position, .int m_number, .ref m_anow, .ref m_atried, .ref m_aread, .ref m_akept, .int m_isKept, .ref m_anoticed, .ref m_aneeds, .ref m_aorder, .int m_many, .int m_one, .int m_two])), (m_atape, .inl (G 0, 40, .inl m_tape))])) (va_Qi (fun r (u : Int32 × (Nat → Int32)) => post r u.1 u.2) (fun u t => xE D G (va_A [(m_mo, .inr (8, [.ref m_alane, .ref m_asize, .ref m_aitem, .int m_letters, .ref m_atape, .int m_position, .int m_number, .ref m_anow, .ref m_atried, .ref m_aread, .ref m_akept, .int m_isKept, .ref m_anoticed, .ref m_aneeds, .ref m_aorder, .int m_many, .int m_one, .int m_two])), (m_atape, .inl (G 0, 40, .inl m_tape))] sz) [(m_mo, .inr (8, [.ref m_alane, .ref m_asize, .ref m_aitem, .int u.1, .ref m_atape, .int m_position, .int m_number, .ref m_anow, .ref m_atried, .ref m_aread, .ref m_akept, .int m_isKept, .ref m_anoticed, .ref m_aneeds, .ref m_aorder, .int m_many, .int m_one, .int m_two])), (m_atape, .inl (G 0, 40, .inl (u.2)))] t) (va_A [(m_mo, .inr (8, [.ref m_alane, .ref m_asize, .ref m_aitem, .int m_letters, .ref m_atape, .int m_position, .int m_number, .ref m_anow, .ref m_atried, .ref m_aread, .ref m_akept, .int m_isKept, .ref m_anoticed, .ref m_aneeds, .ref m_aorder, .int m_many, .int m_one, .int m_two])), (m_atape, .inl (G 0, 40, .inl m_tape))] sz)) 0 0 (va_A [(m_mo, .inr (8, [.ref m_alane, .ref m_asize, .ref m_aitem, .int m_letters, .ref m_atape, .int m_position, .int m_number, .ref m_anow, .ref m_atried, .ref m_aread, .ref m_akept, .int m_isKept, .ref m_anoticed, .ref m_aneeds, .ref m_aorder, .int m_many, .int m_one, .int m_two])), (m_atape, .inl (G 0, 40, .inl m_tape))] sz) := by
  refine Met.ofW (cc := cX8_type) (maxL := 2) (ret := (some .int)) (by decide) rfl ?_
  intro p e s m args below meth c s₁ B hml hv
  obtain ⟨rfl, hsz, hP, hK, hD0⟩ := hv
  have hx := B.exec
  have hb := B.bytes
  have hr := B.returns
  have hts := atoms_spec (ws := wsX8_type) B.pre
  have hown : s.vm.findClass RX8 = some m.cls := findClass_of_methodNamed B.named
  have hlocks := B.notSynchronized
  subst hsz
  have hD := hD0.self (sz := s.heap.size)
  generalize hAe : va_A [(m_mo, .inr (8, [.ref m_alane, .ref m_asize, .ref m_aitem, .int m_letters, .ref m_atape, .int m_position, .int m_number, .ref m_anow, .ref m_atried, .ref m_aread, .ref m_akept, .int m_isKept, .ref m_anoticed, .ref m_aneeds, .ref m_aorder, .int m_many, .int m_one, .int m_two])), (m_atape, .inl (G 0, 40, .inl m_tape))] s.heap.size = A at hD ⊢
  have hA : ∀ q : Nat, s.heap.size ≤ q → A q := fun q h => by rw [← hAe]; exact Or.inr h
  have hS : va_S A s.heap s.heap [] := va_S.rf
  have inX8 : ∀ w ∈ wsX80, w ∈ wsX8_type := by decide +kernel
  have fl85 := hts (.fieldLink RX8 85 "NewsCowModel" "letters" "I") (by decide +kernel)
  have fl20 := hts (.fieldLink RX8 20 "NewsCowModel" "tape" "[I") (by decide +kernel)
  have hl := lv_entry ([.ref m_mo, .int x1] : List Value) (n := 2) (Nat.le_of_ble_eq_true rfl)
  rw [lg_entry_eq]
  generalize (lg_sl ([.ref m_mo, .int x1] : List Value) ++ List.replicate (2 - (lg_sl ([.ref m_mo, .int x1] : List Value)).length) Slot.unset).toArray = ls at hl ⊢
  have hl : lv_has ls 2 [(0, .ref m_mo), (1, .int x1)] := hl
  unfold wp_X8_type at hw
  refine lv_iload_n hx hb dX8_type_0 rfl (lv_at hl 1 rfl) ?_
  refine lv_bipush (v := 32) hx hb dX8_type_1 (by decide) ?_
  refine lv_bipush (v := 126) hx hb dX8_type_3 (by decide) ?_
  refine vp_callSi (W.runS (As := [.int x1, .int (32 : Int32), .int (126 : Int32)]) (rest := []) ⟨hx, hb, hml, hown, hts⟩ (c_X8_in l D G x1 (32 : Int32) (126 : Int32) _ hw) (va_cwS 3 hts gX8_type_X8_in rfl rfl rfl (by decide +kernel) ⟨(Nat.le_of_ble_eq_true rfl), (Nat.le_of_ble_eq_true rfl)⟩) (xR_ps (hP.sub [] rfl) hK) rfl rfl hl.1 rfl (lv_room (Nat.le_of_ble_eq_true rfl)) dX8_type_5 ⟨Nat.zero_le _, Nat.zero_le _⟩) (fun r1 hw => ?_)
  refine lv_if_ne (tgt := 13) hx hb dX8_type_8 (by decide) (fun c9 => ?_) (fun c9 => ?_)
  · replace hw := hw.1 c9
    refine lv_aload_n hx hb dX8_type_13 rfl (lv_at hl 0 rfl) ?_
    refine va_get (D := D) (ci := 8) (v := .int m_letters) (C := RX8) (T := TX8) (N := 18) hx hb hts inX8 hown hK hP 0 rfl rfl 3 (by decide) fl85 (fun _ h9 => h9) rfl dX8_type_14 ?_
    refine lv_bipush (v := 40) hx hb dX8_type_17 (by decide) ?_
    refine lv_icmp_ne (tgt := 25) hx hb dX8_type_19 (by decide) (fun c9 => ?_) (fun c9 => ?_)
    · replace hw := hw.1 c9
      refine lv_aload_n hx hb dX8_type_25 rfl (lv_at hl 0 rfl) ?_
      refine va_get (D := D) (ci := 8) (v := .ref m_atape) (C := RX8) (T := TX8) (N := 18) hx hb hts inX8 hown hK hP 0 rfl rfl 4 (by decide) fl20 (fun _ h9 => h9) rfl dX8_type_26 ?_
      refine lv_aload_n hx hb dX8_type_29 rfl (lv_at hl 0 rfl) ?_
      refine va_get (D := D) (ci := 8) (v := .int m_letters) (C := RX8) (T := TX8) (N := 18) hx hb hts inX8 hown hK hP 0 rfl rfl 3 (by decide) fl85 (fun _ h9 => h9) rfl dX8_type_30 ?_
      refine lv_iload_n hx hb dX8_type_33 rfl (lv_at hl 1 rfl) ?_
      refine x_iast (j := m_letters.toNatClampNeg) hx hb hK hP hD hS 1 0 rfl rfl rfl hw.1 dX8_type_34 (fun H locs hP hD hS => ?_)
      replace hw := hw.2
      replace hP : va_P D vwCl [(m_mo, .inr (8, [.ref m_alane, .ref m_asize, .ref m_aitem, .int m_letters, .ref m_atape, .int m_position, .int m_number, .ref m_anow, .ref m_atried, .ref m_aread, .ref m_akept, .int m_isKept, .ref m_anoticed, .ref m_aneeds, .ref m_aorder, .int m_many, .int m_one, .int m_two])), (m_atape, .inl (G 0, 40, .inl (upd m_tape m_letters.toNatClampNeg x1)))] H := hP
      replace hD : va_D A [(m_mo, .inr (8, [.ref m_alane, .ref m_asize, .ref m_aitem, .int m_letters, .ref m_atape, .int m_position, .int m_number, .ref m_anow, .ref m_atried, .ref m_aread, .ref m_akept, .int m_isKept, .ref m_anoticed, .ref m_aneeds, .ref m_aorder, .int m_many, .int m_one, .int m_two])), (m_atape, .inl (G 0, 40, .inl (upd m_tape m_letters.toNatClampNeg x1)))] := hD
      refine lv_aload_n hx hb dX8_type_35 rfl (lv_at hl 0 rfl) ?_
      refine lv_dup hx hb dX8_type_36 rfl ?_
      refine va_get (D := D) (ci := 8) (v := .int m_letters) (C := RX8) (T := TX8) (N := 18) hx hb hts inX8 hown hK hP 0 rfl rfl 3 (by decide) fl85 (fun _ h9 => h9) rfl dX8_type_37 ?_
      refine lv_iconst (v := 1) hx hb dX8_type_40 (by decide) ?_
      refine lv_iadd hx hb dX8_type_41 ?_
      refine va_put (D := D) (ci := 8) (v := .int (m_letters + (1 : Int32))) (ty := .int) (C := RX8) (T := TX8) (N := 18) hx hb hts inX8 tyX8 tyX8_ok nmX8 hown hK hP hD hS 0 rfl rfl 3 (by decide) fl85 (fun _ h9 => h9) rfl (by decide +kernel) rfl rfl (Nat.le_of_ble_eq_true rfl) dX8_type_42 (fun H locs hP hD hS => ?_)
      replace hP : va_P D vwCl [(m_mo, .inr (8, [.ref m_alane, .ref m_asize, .ref m_aitem, .int (m_letters + (1 : Int32)), .ref m_atape, .int m_position, .int m_number, .ref m_anow, .ref m_atried, .ref m_aread, .ref m_akept, .int m_isKept, .ref m_anoticed, .ref m_aneeds, .ref m_aorder, .int m_many, .int m_one, .int m_two])), (m_atape, .inl (G 0, 40, .inl (upd m_tape m_letters.toNatClampNeg x1)))] H := hP
      replace hD : va_D A [(m_mo, .inr (8, [.ref m_alane, .ref m_asize, .ref m_aitem, .int (m_letters + (1 : Int32)), .ref m_atape, .int m_position, .int m_number, .ref m_anow, .ref m_atried, .ref m_aread, .ref m_akept, .int m_isKept, .ref m_anoticed, .ref m_aneeds, .ref m_aorder, .int m_many, .int m_one, .int m_two])), (m_atape, .inl (G 0, 40, .inl (upd m_tape m_letters.toNatClampNeg x1)))] := hD
      refine lv_aload_n hx hb dX8_type_45 rfl (lv_at hl 0 rfl) ?_
      refine va_get (D := D) (ci := 8) (v := .int (m_letters + (1 : Int32))) (C := RX8) (T := TX8) (N := 18) hx hb hts inX8 hown hK hP 0 rfl rfl 3 (by decide) fl85 (fun _ h9 => h9) rfl dX8_type_46 ?_
      exact W.iret hx hb hr (x_mi (u := ((m_letters + (1 : Int32)), (upd m_tape m_letters.toNatClampNeg x1))) hP hK hD hS hw) hS.2.2 dX8_type_49
    · replace hw := hw.2 c9
      refine lv_bipush (v := -3) hx hb dX8_type_22 (by decide) ?_
      exact W.iret hx hb hr (x_mi (u := (m_letters, m_tape)) hP hK hD hS hw) hS.2.2 dX8_type_24
  · replace hw := hw.2 c9
    refine lv_iconst (v := -1) hx hb dX8_type_11 (by decide) ?_
    exact W.iret hx hb hr (x_mi (u := (m_letters, m_tape)) hP hK hD hS hw) hS.2.2 dX8_type_12
set_option maxHeartbeats 4000000 in
set_option maxRecDepth 100000 in
theorem c_X8_peek (l : Launch) (D : va_G) (G : Nat → ClassId) (sz : Nat) (m_mo : Nat) (m_alane : Nat) (m_asize : Nat) (m_aitem : Nat) (m_atape : Nat) (m_anow : Nat) (m_atried : Nat) (m_aread : Nat) (m_akept : Nat) (m_anoticed : Nat) (m_aneeds : Nat) (m_aorder : Nat) (m_letters : Int32) (m_position : Int32) (m_number : Int32) (m_isKept : Int32) (m_many : Int32) (m_one : Int32) (m_two : Int32) (m_tape : Nat → Int32) (post : Int32 → Int32 → Prop) (hw : wp_X8_peek m_letters m_position m_tape post) : Met l yX8_peek wsX8_peek ({ frames := 0, cells := 0, slots := 0, locals := 0 } : Room) (va_Pc [.ref m_mo] (xM D G sz [(m_mo, .inr (8, [.ref m_alane, .ref m_asize, .ref m_aitem, .int m_letters, .ref m_atape, .int m_position, .int m_number, .ref m_anow, .ref m_atried, .ref m_aread, .ref m_akept, .int m_isKept, .ref m_anoticed, .ref m_aneeds, .ref m_aorder, .int m_many, .int m_one, .int m_two])), (m_atape, .inl (G 0, 40, .inl m_tape))])) (va_Qi (fun r (u : Int32) => post r u) (fun u t => xE D G (va_A [(m_mo, .inr (8, [.ref m_alane, .ref m_asize, .ref m_aitem, .int m_letters, .ref m_atape, .int m_position, .int m_number, .ref m_anow, .ref m_atried, .ref m_aread, .ref m_akept, .int m_isKept, .ref m_anoticed, .ref m_aneeds, .ref m_aorder, .int m_many, .int m_one, .int m_two])), (m_atape, .inl (G 0, 40, .inl m_tape))] sz) [(m_mo, .inr (8, [.ref m_alane, .ref m_asize, .ref m_aitem, .int m_letters, .ref m_atape, .int u, .int m_number, .ref m_anow, .ref m_atried, .ref m_aread, .ref m_akept, .int m_isKept, .ref m_anoticed, .ref m_aneeds, .ref m_aorder, .int m_many, .int m_one, .int m_two])), (m_atape, .inl (G 0, 40, .inl m_tape))] t) (va_A [(m_mo, .inr (8, [.ref m_alane, .ref m_asize, .ref m_aitem, .int m_letters, .ref m_atape, .int m_position, .int m_number, .ref m_anow, .ref m_atried, .ref m_aread, .ref m_akept, .int m_isKept, .ref m_anoticed, .ref m_aneeds, .ref m_aorder, .int m_many, .int m_one, .int m_two])), (m_atape, .inl (G 0, 40, .inl m_tape))] sz)) 0 0 (va_A [(m_mo, .inr (8, [.ref m_alane, .ref m_asize, .ref m_aitem, .int m_letters, .ref m_atape, .int m_position, .int m_number, .ref m_anow, .ref m_atried, .ref m_aread, .ref m_akept, .int m_isKept, .ref m_anoticed, .ref m_aneeds, .ref m_aorder, .int m_many, .int m_one, .int m_two])), (m_atape, .inl (G 0, 40, .inl m_tape))] sz) := by
  refine Met.ofW (cc := cX8_peek) (maxL := 1) (ret := (some .int)) (by decide) rfl ?_
  intro p e s m args below meth c s₁ B hml hv
  obtain ⟨rfl, hsz, hP, hK, hD0⟩ := hv
  have hx := B.exec
  have hb := B.bytes
  have hr := B.returns
  have hts := atoms_spec (ws := wsX8_peek) B.pre
  have hown : s.vm.findClass RX8 = some m.cls := findClass_of_methodNamed B.named
  have hlocks := B.notSynchronized
  subst hsz
  have hD := hD0.self (sz := s.heap.size)
  generalize hAe : va_A [(m_mo, .inr (8, [.ref m_alane, .ref m_asize, .ref m_aitem, .int m_letters, .ref m_atape, .int m_position, .int m_number, .ref m_anow, .ref m_atried, .ref m_aread, .ref m_akept, .int m_isKept, .ref m_anoticed, .ref m_aneeds, .ref m_aorder, .int m_many, .int m_one, .int m_two])), (m_atape, .inl (G 0, 40, .inl m_tape))] s.heap.size = A at hD ⊢
  have hA : ∀ q : Nat, s.heap.size ≤ q → A q := fun q h => by rw [← hAe]; exact Or.inr h
  have hS : va_S A s.heap s.heap [] := va_S.rf
  have inX8 : ∀ w ∈ wsX80, w ∈ wsX8_peek := by decide +kernel
  have fl89 := hts (.fieldLink RX8 89 "NewsCowModel" "position" "I") (by decide +kernel)
  have fl85 := hts (.fieldLink RX8 85 "NewsCowModel" "letters" "I") (by decide +kernel)
  have fl20 := hts (.fieldLink RX8 20 "NewsCowModel" "tape" "[I") (by decide +kernel)
  have hl := lv_entry ([.ref m_mo] : List Value) (n := 1) (Nat.le_of_ble_eq_true rfl)
  rw [lg_entry_eq]
  generalize (lg_sl ([.ref m_mo] : List Value) ++ List.replicate (1 - (lg_sl ([.ref m_mo] : List Value)).length) Slot.unset).toArray = ls at hl ⊢
  have hl : lv_has ls 1 [(0, .ref m_mo)] := hl
  unfold wp_X8_peek at hw
  have J38 : ∀ (m_position : Int32) (H : Heap) (locs : List Loc) (ls : Array Slot), wp_X8_peek_J38 m_letters m_position m_tape post → va_P D vwCl [(m_mo, .inr (8, [.ref m_alane, .ref m_asize, .ref m_aitem, .int m_letters, .ref m_atape, .int m_position, .int m_number, .ref m_anow, .ref m_atried, .ref m_aread, .ref m_akept, .int m_isKept, .ref m_anoticed, .ref m_aneeds, .ref m_aorder, .int m_many, .int m_one, .int m_two])), (m_atape, .inl (G 0, 40, .inl m_tape))] H → va_D A [(m_mo, .inr (8, [.ref m_alane, .ref m_asize, .ref m_aitem, .int m_letters, .ref m_atape, .int m_position, .int m_number, .ref m_anow, .ref m_atried, .ref m_aread, .ref m_akept, .int m_isKept, .ref m_anoticed, .ref m_aneeds, .ref m_aorder, .int m_many, .int m_one, .int m_two])), (m_atape, .inl (G 0, 40, .inl m_tape))] → va_S A s.heap H locs → lv_has ls 1 [(0, .ref m_mo)] → W p l e (headSpec wsX8_peek ({ frames := 0, cells := 0, slots := 0, locals := 0 } : Room)).room s m ([.ref m_mo] : List Value).toArray below meth c H locs 0 0 (MQ below (va_Qi (fun r (u : Int32) => post r u) (fun u t => xE D G A [(m_mo, .inr (8, [.ref m_alane, .ref m_asize, .ref m_aitem, .int m_letters, .ref m_atape, .int u, .int m_number, .ref m_anow, .ref m_atried, .ref m_aread, .ref m_akept, .int m_isKept, .ref m_anoticed, .ref m_aneeds, .ref m_aorder, .int m_many, .int m_one, .int m_two])), (m_atape, .inl (G 0, 40, .inl m_tape))] t) A) ([.ref m_mo] : List Value).toArray s 0 0 A) (F0 m 38 ls []) := by
    intro m_position H locs ls hw hP hD hS hl
    unfold wp_X8_peek_J38 at hw
    refine lv_aload_n hx hb dX8_peek_38 rfl (lv_at hl 0 rfl) ?_
    refine va_get (D := D) (ci := 8) (v := .int m_position) (C := RX8) (T := TX8) (N := 18) hx hb hts inX8 hown hK hP 0 rfl rfl 5 (by decide) fl89 (fun _ h9 => h9) rfl dX8_peek_39 ?_
    refine lv_aload_n hx hb dX8_peek_42 rfl (lv_at hl 0 rfl) ?_
    refine va_get (D := D) (ci := 8) (v := .int m_letters) (C := RX8) (T := TX8) (N := 18) hx hb hts inX8 hown hK hP 0 rfl rfl 3 (by decide) fl85 (fun _ h9 => h9) rfl dX8_peek_43 ?_
    refine lv_icmp_ge (tgt := 61) hx hb dX8_peek_46 (by decide) (fun c9 => ?_) (fun c9 => ?_)
    · replace hw := hw.1 c9
      refine lv_iconst (v := 0) hx hb dX8_peek_61 (by decide) ?_
      exact W.iret hx hb hr (x_mi (u := m_position) hP hK hD hS hw) hS.2.2 dX8_peek_62
    · replace hw := hw.2 c9
      refine lv_aload_n hx hb dX8_peek_49 rfl (lv_at hl 0 rfl) ?_
      refine va_get (D := D) (ci := 8) (v := .ref m_atape) (C := RX8) (T := TX8) (N := 18) hx hb hts inX8 hown hK hP 0 rfl rfl 4 (by decide) fl20 (fun _ h9 => h9) rfl dX8_peek_50 ?_
      refine lv_aload_n hx hb dX8_peek_53 rfl (lv_at hl 0 rfl) ?_
      refine va_get (D := D) (ci := 8) (v := .int m_position) (C := RX8) (T := TX8) (N := 18) hx hb hts inX8 hown hK hP 0 rfl rfl 5 (by decide) fl89 (fun _ h9 => h9) rfl dX8_peek_54 ?_
      refine x_iald (j := m_position.toNatClampNeg) hx hb hK hP 1 0 rfl rfl rfl hw.1 dX8_peek_57 ?_
      replace hw := hw.2
      refine lv_goto (tgt := 62) hx hb dX8_peek_58 (by decide) ?_
      exact W.iret hx hb hr (x_mi (u := m_position) hP hK hD hS hw) hS.2.2 dX8_peek_62
  have L0 : ∀ (f0 : Nat) (m_position : Int32) (H : Heap) (locs : List Loc) (ls : Array Slot), wp_X8_peek_L0 m_letters m_tape post f0 m_position → va_P D vwCl [(m_mo, .inr (8, [.ref m_alane, .ref m_asize, .ref m_aitem, .int m_letters, .ref m_atape, .int m_position, .int m_number, .ref m_anow, .ref m_atried, .ref m_aread, .ref m_akept, .int m_isKept, .ref m_anoticed, .ref m_aneeds, .ref m_aorder, .int m_many, .int m_one, .int m_two])), (m_atape, .inl (G 0, 40, .inl m_tape))] H → va_D A [(m_mo, .inr (8, [.ref m_alane, .ref m_asize, .ref m_aitem, .int m_letters, .ref m_atape, .int m_position, .int m_number, .ref m_anow, .ref m_atried, .ref m_aread, .ref m_akept, .int m_isKept, .ref m_anoticed, .ref m_aneeds, .ref m_aorder, .int m_many, .int m_one, .int m_two])), (m_atape, .inl (G 0, 40, .inl m_tape))] → va_S A s.heap H locs → lv_has ls 1 [(0, .ref m_mo)] → W p l e (headSpec wsX8_peek ({ frames := 0, cells := 0, slots := 0, locals := 0 } : Room)).room s m ([.ref m_mo] : List Value).toArray below meth c H locs 0 0 (MQ below (va_Qi (fun r (u : Int32) => post r u) (fun u t => xE D G A [(m_mo, .inr (8, [.ref m_alane, .ref m_asize, .ref m_aitem, .int m_letters, .ref m_atape, .int u, .int m_number, .ref m_anow, .ref m_atried, .ref m_aread, .ref m_akept, .int m_isKept, .ref m_anoticed, .ref m_aneeds, .ref m_aorder, .int m_many, .int m_one, .int m_two])), (m_atape, .inl (G 0, 40, .inl m_tape))] t) A) ([.ref m_mo] : List Value).toArray s 0 0 A) (F0 m 0 ls []) := by
    intro f0
    induction f0 with
    | zero => intro m_position H locs ls hw hP hD hS hl; exact (hw : False).elim
    | succ f0 ih0 =>
      intro m_position H locs ls hw hP hD hS hl
      unfold wp_X8_peek_L0 at hw
      refine lv_aload_n hx hb dX8_peek_0 rfl (lv_at hl 0 rfl) ?_
      refine va_get (D := D) (ci := 8) (v := .int m_position) (C := RX8) (T := TX8) (N := 18) hx hb hts inX8 hown hK hP 0 rfl rfl 5 (by decide) fl89 (fun _ h9 => h9) rfl dX8_peek_1 ?_
      refine lv_aload_n hx hb dX8_peek_4 rfl (lv_at hl 0 rfl) ?_
      refine va_get (D := D) (ci := 8) (v := .int m_letters) (C := RX8) (T := TX8) (N := 18) hx hb hts inX8 hown hK hP 0 rfl rfl 3 (by decide) fl85 (fun _ h9 => h9) rfl dX8_peek_5 ?_
      refine lv_icmp_ge (tgt := 38) hx hb dX8_peek_8 (by decide) (fun c9 => ?_) (fun c9 => ?_)
      · replace hw := hw.1 c9
        exact J38 m_position _ _ _ hw hP hD hS (lv_sub hl [0] rfl)
      · replace hw := hw.2 c9
        refine lv_aload_n hx hb dX8_peek_11 rfl (lv_at hl 0 rfl) ?_
        refine va_get (D := D) (ci := 8) (v := .ref m_atape) (C := RX8) (T := TX8) (N := 18) hx hb hts inX8 hown hK hP 0 rfl rfl 4 (by decide) fl20 (fun _ h9 => h9) rfl dX8_peek_12 ?_
        refine lv_aload_n hx hb dX8_peek_15 rfl (lv_at hl 0 rfl) ?_
        refine va_get (D := D) (ci := 8) (v := .int m_position) (C := RX8) (T := TX8) (N := 18) hx hb hts inX8 hown hK hP 0 rfl rfl 5 (by decide) fl89 (fun _ h9 => h9) rfl dX8_peek_16 ?_
        refine x_iald (j := m_position.toNatClampNeg) hx hb hK hP 1 0 rfl rfl rfl hw.1 dX8_peek_19 ?_
        replace hw := hw.2
        refine lv_bipush (v := 32) hx hb dX8_peek_20 (by decide) ?_
        refine lv_icmp_ne (tgt := 38) hx hb dX8_peek_22 (by decide) (fun c9 => ?_) (fun c9 => ?_)
        · replace hw := hw.1 c9
          exact J38 m_position _ _ _ hw hP hD hS (lv_sub hl [0] rfl)
        · replace hw := hw.2 c9
          refine lv_aload_n hx hb dX8_peek_25 rfl (lv_at hl 0 rfl) ?_
          refine lv_dup hx hb dX8_peek_26 rfl ?_
          refine va_get (D := D) (ci := 8) (v := .int m_position) (C := RX8) (T := TX8) (N := 18) hx hb hts inX8 hown hK hP 0 rfl rfl 5 (by decide) fl89 (fun _ h9 => h9) rfl dX8_peek_27 ?_
          refine lv_iconst (v := 1) hx hb dX8_peek_30 (by decide) ?_
          refine lv_iadd hx hb dX8_peek_31 ?_
          refine va_put (D := D) (ci := 8) (v := .int (m_position + (1 : Int32))) (ty := .int) (C := RX8) (T := TX8) (N := 18) hx hb hts inX8 tyX8 tyX8_ok nmX8 hown hK hP hD hS 0 rfl rfl 5 (by decide) fl89 (fun _ h9 => h9) rfl (by decide +kernel) rfl rfl (Nat.le_of_ble_eq_true rfl) dX8_peek_32 (fun H locs hP hD hS => ?_)
          replace hP : va_P D vwCl [(m_mo, .inr (8, [.ref m_alane, .ref m_asize, .ref m_aitem, .int m_letters, .ref m_atape, .int (m_position + (1 : Int32)), .int m_number, .ref m_anow, .ref m_atried, .ref m_aread, .ref m_akept, .int m_isKept, .ref m_anoticed, .ref m_aneeds, .ref m_aorder, .int m_many, .int m_one, .int m_two])), (m_atape, .inl (G 0, 40, .inl m_tape))] H := hP
          replace hD : va_D A [(m_mo, .inr (8, [.ref m_alane, .ref m_asize, .ref m_aitem, .int m_letters, .ref m_atape, .int (m_position + (1 : Int32)), .int m_number, .ref m_anow, .ref m_atried, .ref m_aread, .ref m_akept, .int m_isKept, .ref m_anoticed, .ref m_aneeds, .ref m_aorder, .int m_many, .int m_one, .int m_two])), (m_atape, .inl (G 0, 40, .inl m_tape))] := hD
          refine lv_goto (tgt := 0) hx hb dX8_peek_35 (by decide) ?_
          exact ih0 (m_position + (1 : Int32)) _ _ _ hw hP hD hS (lv_sub hl [0] rfl)
  obtain ⟨n, hw⟩ := hw
  exact L0 n m_position _ _ _ hw hP hD hS (lv_sub hl [0] rfl)
set_option maxHeartbeats 4000000 in
set_option maxRecDepth 100000 in
theorem c_X8_isSign (l : Launch) (D : va_G) (G : Nat → ClassId) (sz : Nat) (m_mo : Nat) (m_alane : Nat) (m_asize : Nat) (m_aitem : Nat) (m_atape : Nat) (m_anow : Nat) (m_atried : Nat) (m_aread : Nat) (m_akept : Nat) (m_anoticed : Nat) (m_aneeds : Nat) (m_aorder : Nat) (m_letters : Int32) (m_position : Int32) (m_number : Int32) (m_isKept : Int32) (m_many : Int32) (m_one : Int32) (m_two : Int32) (m_tape : Nat → Int32) (x1 : Int32) (post : Int32 → Int32 → Prop) (hw : wp_X8_isSign m_letters m_position m_tape x1 post) : Met l yX8_isSign wsX8_isSign ({ frames := 1, cells := 0, slots := 0, locals := 20 } : Room) (va_Pc [.ref m_mo, .int x1] (xM D G sz [(m_mo, .inr (8, [.ref m_alane, .ref m_asize, .ref m_aitem, .int m_letters, .ref m_atape, .int m_position, .int m_number, .ref m_anow, .ref m_atried, .ref m_aread, .ref m_akept, .int m_isKept, .ref m_anoticed, .ref m_aneeds, .ref m_aorder, .int m_many, .int m_one, .int m_two])), (m_atape, .inl (G 0, 40, .inl m_tape))])) (va_Qi (fun r (u : Int32) => post r u) (fun u t => xE D G (va_A [(m_mo, .inr (8, [.ref m_alane, .ref m_asize, .ref m_aitem, .int m_letters, .ref m_atape, .int m_position, .int m_number, .ref m_anow, .ref m_atried, .ref m_aread, .ref m_akept, .int m_isKept, .ref m_anoticed, .ref m_aneeds, .ref m_aorder, .int m_many, .int m_one, .int m_two])), (m_atape, .inl (G 0, 40, .inl m_tape))] sz) [(m_mo, .inr (8, [.ref m_alane, .ref m_asize, .ref m_aitem, .int m_letters, .ref m_atape, .int u, .int m_number, .ref m_anow, .ref m_atried, .ref m_aread, .ref m_akept, .int m_isKept, .ref m_anoticed, .ref m_aneeds, .ref m_aorder, .int m_many, .int m_one, .int m_two])), (m_atape, .inl (G 0, 40, .inl m_tape))] t) (va_A [(m_mo, .inr (8, [.ref m_alane, .ref m_asize, .ref m_aitem, .int m_letters, .ref m_atape, .int m_position, .int m_number, .ref m_anow, .ref m_atried, .ref m_aread, .ref m_akept, .int m_isKept, .ref m_anoticed, .ref m_aneeds, .ref m_aorder, .int m_many, .int m_one, .int m_two])), (m_atape, .inl (G 0, 40, .inl m_tape))] sz)) 0 0 (va_A [(m_mo, .inr (8, [.ref m_alane, .ref m_asize, .ref m_aitem, .int m_letters, .ref m_atape, .int m_position, .int m_number, .ref m_anow, .ref m_atried, .ref m_aread, .ref m_akept, .int m_isKept, .ref m_anoticed, .ref m_aneeds, .ref m_aorder, .int m_many, .int m_one, .int m_two])), (m_atape, .inl (G 0, 40, .inl m_tape))] sz) := by
  refine Met.ofW (cc := cX8_isSign) (maxL := 2) (ret := (some .boolean)) (by decide) rfl ?_
  intro p e s m args below meth c s₁ B hml hv
  obtain ⟨rfl, hsz, hP, hK, hD0⟩ := hv
  have hx := B.exec
  have hb := B.bytes
  have hr := B.returns
  have hts := atoms_spec (ws := wsX8_isSign) B.pre
  have hown : s.vm.findClass RX8 = some m.cls := findClass_of_methodNamed B.named
  have hlocks := B.notSynchronized
  subst hsz
  have hD := hD0.self (sz := s.heap.size)
  generalize hAe : va_A [(m_mo, .inr (8, [.ref m_alane, .ref m_asize, .ref m_aitem, .int m_letters, .ref m_atape, .int m_position, .int m_number, .ref m_anow, .ref m_atried, .ref m_aread, .ref m_akept, .int m_isKept, .ref m_anoticed, .ref m_aneeds, .ref m_aorder, .int m_many, .int m_one, .int m_two])), (m_atape, .inl (G 0, 40, .inl m_tape))] s.heap.size = A at hD ⊢
  have hA : ∀ q : Nat, s.heap.size ≤ q → A q := fun q h => by rw [← hAe]; exact Or.inr h
  have hS : va_S A s.heap s.heap [] := va_S.rf
  have inX8 : ∀ w ∈ wsX80, w ∈ wsX8_isSign := by decide +kernel
  have fl89 := hts (.fieldLink RX8 89 "NewsCowModel" "position" "I") (by decide +kernel)
  have hl := lv_entry ([.ref m_mo, .int x1] : List Value) (n := 2) (Nat.le_of_ble_eq_true rfl)
  rw [lg_entry_eq]
  generalize (lg_sl ([.ref m_mo, .int x1] : List Value) ++ List.replicate (2 - (lg_sl ([.ref m_mo, .int x1] : List Value)).length) Slot.unset).toArray = ls at hl ⊢
  have hl : lv_has ls 2 [(0, .ref m_mo), (1, .int x1)] := hl
  unfold wp_X8_isSign at hw
  refine lv_aload_n hx hb dX8_isSign_0 rfl (lv_at hl 0 rfl) ?_
  refine x_cMi (wr := []) (va_runV (As := []) (rest := []) ⟨hx, hb, hml, hown, hts⟩ (c_X8_peek l D G _ m_mo m_alane m_asize m_aitem m_atape m_anow m_atried m_aread m_akept m_anoticed m_aneeds m_aorder m_letters m_position m_number m_isKept m_many m_one m_two m_tape _ hw) (cwV 0 hts gX8_isSign_X8_peek rfl rfl rfl (by decide +kernel) ⟨(Nat.le_of_ble_eq_true rfl), (Nat.le_of_ble_eq_true rfl)⟩) (xM_pv (hP.sub [0, 1] rfl) hK (hD.sub [0, 1] (by decide) rfl) (va_recv hK hP (ci := 8) (q0 := 0) rfl rfl)) rfl rfl hl.1 rfl (lv_room (Nat.le_of_ble_eq_true rfl)) dX8_isSign_1 ⟨Nat.zero_le _, Nat.zero_le _⟩) hP hD hS hA [0, 1] [] rfl rfl (by decide) (by decide) [0, 1] (fun u => [(m_mo, .inr (8, [.ref m_alane, .ref m_asize, .ref m_aitem, .int m_letters, .ref m_atape, .int u, .int m_number, .ref m_anow, .ref m_atried, .ref m_aread, .ref m_akept, .int m_isKept, .ref m_anoticed, .ref m_aneeds, .ref m_aorder, .int m_many, .int m_one, .int m_two])), (m_atape, .inl (G 0, 40, .inl m_tape))]) (by decide) (fun u => rfl) (fun r1 u H locs hw hP hD hS => ?_)
  obtain ⟨m_position_1, rfl⟩ : ∃ z, z = u := ⟨_, rfl⟩
  try dsimp only at hw
  replace hP : va_P D vwCl [(m_mo, .inr (8, [.ref m_alane, .ref m_asize, .ref m_aitem, .int m_letters, .ref m_atape, .int m_position_1, .int m_number, .ref m_anow, .ref m_atried, .ref m_aread, .ref m_akept, .int m_isKept, .ref m_anoticed, .ref m_aneeds, .ref m_aorder, .int m_many, .int m_one, .int m_two])), (m_atape, .inl (G 0, 40, .inl m_tape))] H := hP
  replace hD : va_D A [(m_mo, .inr (8, [.ref m_alane, .ref m_asize, .ref m_aitem, .int m_letters, .ref m_atape, .int m_position_1, .int m_number, .ref m_anow, .ref m_atried, .ref m_aread, .ref m_akept, .int m_isKept, .ref m_anoticed, .ref m_aneeds, .ref m_aorder, .int m_many, .int m_one, .int m_two])), (m_atape, .inl (G 0, 40, .inl m_tape))] := hD
  refine lv_iload_n hx hb dX8_isSign_4 rfl (lv_at hl 1 rfl) ?_
  refine lv_icmp_eq (tgt := 10) hx hb dX8_isSign_5 (by decide) (fun c9 => ?_) (fun c9 => ?_)
  · replace hw := hw.1 c9
    refine lv_aload_n hx hb dX8_isSign_10 rfl (lv_at hl 0 rfl) ?_
    refine lv_dup hx hb dX8_isSign_11 rfl ?_
    refine va_get (D := D) (ci := 8) (v := .int m_position_1) (C := RX8) (T := TX8) (N := 18) hx hb hts inX8 hown hK hP 0 rfl rfl 5 (by decide) fl89 (fun _ h9 => h9) rfl dX8_isSign_12 ?_
    refine lv_iconst (v := 1) hx hb dX8_isSign_15 (by decide) ?_
    refine lv_iadd hx hb dX8_isSign_16 ?_
    refine va_put (D := D) (ci := 8) (v := .int (m_position_1 + (1 : Int32))) (ty := .int) (C := RX8) (T := TX8) (N := 18) hx hb hts inX8 tyX8 tyX8_ok nmX8 hown hK hP hD hS 0 rfl rfl 5 (by decide) fl89 (fun _ h9 => h9) rfl (by decide +kernel) rfl rfl (Nat.le_of_ble_eq_true rfl) dX8_isSign_17 (fun H locs hP hD hS => ?_)
    replace hP : va_P D vwCl [(m_mo, .inr (8, [.ref m_alane, .ref m_asize, .ref m_aitem, .int m_letters, .ref m_atape, .int (m_position_1 + (1 : Int32)), .int m_number, .ref m_anow, .ref m_atried, .ref m_aread, .ref m_akept, .int m_isKept, .ref m_anoticed, .ref m_aneeds, .ref m_aorder, .int m_many, .int m_one, .int m_two])), (m_atape, .inl (G 0, 40, .inl m_tape))] H := hP
    replace hD : va_D A [(m_mo, .inr (8, [.ref m_alane, .ref m_asize, .ref m_aitem, .int m_letters, .ref m_atape, .int (m_position_1 + (1 : Int32)), .int m_number, .ref m_anow, .ref m_atried, .ref m_aread, .ref m_akept, .int m_isKept, .ref m_anoticed, .ref m_aneeds, .ref m_aorder, .int m_many, .int m_one, .int m_two])), (m_atape, .inl (G 0, 40, .inl m_tape))] := hD
    refine lv_iconst (v := 1) hx hb dX8_isSign_20 (by decide) ?_
    exact W.zret hx hb hr rfl (x_mi (u := (m_position_1 + (1 : Int32))) hP hK hD hS hw) hS.2.2 dX8_isSign_21
  · replace hw := hw.2 c9
    refine lv_iconst (v := 0) hx hb dX8_isSign_8 (by decide) ?_
    exact W.zret hx hb hr rfl (x_mi (u := m_position_1) hP hK hD hS hw) hS.2.2 dX8_isSign_9
set_option maxHeartbeats 4000000 in
set_option maxRecDepth 100000 in
theorem c_X8_isDigit (l : Launch) (D : va_G) (G : Nat → ClassId) (sz : Nat) (m_mo : Nat) (m_alane : Nat) (m_asize : Nat) (m_aitem : Nat) (m_atape : Nat) (m_anow : Nat) (m_atried : Nat) (m_aread : Nat) (m_akept : Nat) (m_anoticed : Nat) (m_aneeds : Nat) (m_aorder : Nat) (m_letters : Int32) (m_position : Int32) (m_number : Int32) (m_isKept : Int32) (m_many : Int32) (m_one : Int32) (m_two : Int32) (m_tape : Nat → Int32) (x1 : Int32) (x2 : Int32) (post : Int32 → Int32 → Int32 → Prop) (hw : wp_X8_isDigit m_letters m_position m_tape x1 x2 post) : Met l yX8_isDigit wsX8_isDigit ({ frames := 1, cells := 0, slots := 0, locals := 22 } : Room) (va_Pc [.ref m_mo, .int x1, .int x2] (xM D G sz [(m_mo, .inr (8, [.ref m_alane, .ref m_asize, .ref m_aitem, .int m_letters, .ref m_atape, .int m_position, .int m_number, .ref m_anow, .ref m_atried, .ref m_aread, .ref m_akept, .int m_isKept, .ref m_anoticed, .ref m_aneeds, .ref m_aorder, .int m_many, .int m_one, .int m_two])), (m_atape, .inl (G 0, 40, .inl m_tape))])) (va_Qi (fun r (u : Int32 × Int32) => post r u.1 u.2) (fun u t => xE D G (va_A [(m_mo, .inr (8, [.ref m_alane, .ref m_asize, .ref m_aitem, .int m_letters, .ref m_atape, .int m_position, .int m_number, .ref m_anow, .ref m_atried, .ref m_aread, .ref m_akept, .int m_isKept, .ref m_anoticed, .ref m_aneeds, .ref m_aorder, .int m_many, .int m_one, .int m_two])), (m_atape, .inl (G 0, 40, .inl m_tape))] sz) [(m_mo, .inr (8, [.ref m_alane, .ref m_asize, .ref m_aitem, .int m_letters, .ref m_atape, .int u.1, .int u.2, .ref m_anow, .ref m_atried, .ref m_aread, .ref m_akept, .int m_isKept, .ref m_anoticed, .ref m_aneeds, .ref m_aorder, .int m_many, .int m_one, .int m_two])), (m_atape, .inl (G 0, 40, .inl m_tape))] t) (va_A [(m_mo, .inr (8, [.ref m_alane, .ref m_asize, .ref m_aitem, .int m_letters, .ref m_atape, .int m_position, .int m_number, .ref m_anow, .ref m_atried, .ref m_aread, .ref m_akept, .int m_isKept, .ref m_anoticed, .ref m_aneeds, .ref m_aorder, .int m_many, .int m_one, .int m_two])), (m_atape, .inl (G 0, 40, .inl m_tape))] sz)) 0 0 (va_A [(m_mo, .inr (8, [.ref m_alane, .ref m_asize, .ref m_aitem, .int m_letters, .ref m_atape, .int m_position, .int m_number, .ref m_anow, .ref m_atried, .ref m_aread, .ref m_akept, .int m_isKept, .ref m_anoticed, .ref m_aneeds, .ref m_aorder, .int m_many, .int m_one, .int m_two])), (m_atape, .inl (G 0, 40, .inl m_tape))] sz) := by
  refine Met.ofW (cc := cX8_isDigit) (maxL := 3) (ret := (some .boolean)) (by decide) rfl ?_
  intro p e s m args below meth c s₁ B hml hv
  obtain ⟨rfl, hsz, hP, hK, hD0⟩ := hv
  have hx := B.exec
  have hb := B.bytes
  have hr := B.returns
  have hts := atoms_spec (ws := wsX8_isDigit) B.pre
  have hown : s.vm.findClass RX8 = some m.cls := findClass_of_methodNamed B.named
  have hlocks := B.notSynchronized
  subst hsz
  have hD := hD0.self (sz := s.heap.size)
  generalize hAe : va_A [(m_mo, .inr (8, [.ref m_alane, .ref m_asize, .ref m_aitem, .int m_letters, .ref m_atape, .int m_position, .int m_number, .ref m_anow, .ref m_atried, .ref m_aread, .ref m_akept, .int m_isKept, .ref m_anoticed, .ref m_aneeds, .ref m_aorder, .int m_many, .int m_one, .int m_two])), (m_atape, .inl (G 0, 40, .inl m_tape))] s.heap.size = A at hD ⊢
  have hA : ∀ q : Nat, s.heap.size ≤ q → A q := fun q h => by rw [← hAe]; exact Or.inr h
  have hS : va_S A s.heap s.heap [] := va_S.rf
  have inX8 : ∀ w ∈ wsX80, w ∈ wsX8_isDigit := by decide +kernel
  have fl96 := hts (.fieldLink RX8 96 "NewsCowModel" "number" "I") (by decide +kernel)
  have fl89 := hts (.fieldLink RX8 89 "NewsCowModel" "position" "I") (by decide +kernel)
  have hl := lv_entry ([.ref m_mo, .int x1, .int x2] : List Value) (n := 3) (Nat.le_of_ble_eq_true rfl)
  rw [lg_entry_eq]
  generalize (lg_sl ([.ref m_mo, .int x1, .int x2] : List Value) ++ List.replicate (3 - (lg_sl ([.ref m_mo, .int x1, .int x2] : List Value)).length) Slot.unset).toArray = ls at hl ⊢
  have hl : lv_has ls 3 [(0, .ref m_mo), (1, .int x1), (2, .int x2)] := hl
  unfold wp_X8_isDigit at hw
  refine lv_aload_n hx hb dX8_isDigit_0 rfl (lv_at hl 0 rfl) ?_
  refine lv_aload_n hx hb dX8_isDigit_1 rfl (lv_at hl 0 rfl) ?_
  refine x_cMi (wr := []) (va_runV (As := []) (rest := [.ref m_mo]) ⟨hx, hb, hml, hown, hts⟩ (c_X8_peek l D G _ m_mo m_alane m_asize m_aitem m_atape m_anow m_atried m_aread m_akept m_anoticed m_aneeds m_aorder m_letters m_position m_number m_isKept m_many m_one m_two m_tape _ hw) (cwV 0 hts gX8_isDigit_X8_peek rfl rfl rfl (by decide +kernel) ⟨(Nat.le_of_ble_eq_true rfl), (Nat.le_of_ble_eq_true rfl)⟩) (xM_pv (hP.sub [0, 1] rfl) hK (hD.sub [0, 1] (by decide) rfl) (va_recv hK hP (ci := 8) (q0 := 0) rfl rfl)) rfl rfl hl.1 rfl (lv_room (Nat.le_of_ble_eq_true rfl)) dX8_isDigit_2 ⟨Nat.zero_le _, Nat.zero_le _⟩) hP hD hS hA [0, 1] [] rfl rfl (by decide) (by decide) [0, 1] (fun u => [(m_mo, .inr (8, [.ref m_alane, .ref m_asize, .ref m_aitem, .int m_letters, .ref m_atape, .int u, .int m_number, .ref m_anow, .ref m_atried, .ref m_aread, .ref m_akept, .int m_isKept, .ref m_anoticed, .ref m_aneeds, .ref m_aorder, .int m_many, .int m_one, .int m_two])), (m_atape, .inl (G 0, 40, .inl m_tape))]) (by decide) (fun u => rfl) (fun r1 u H locs hw hP hD hS => ?_)
  obtain ⟨m_position_1, rfl⟩ : ∃ z, z = u := ⟨_, rfl⟩
  try dsimp only at hw
  replace hP : va_P D vwCl [(m_mo, .inr (8, [.ref m_alane, .ref m_asize, .ref m_aitem, .int m_letters, .ref m_atape, .int m_position_1, .int m_number, .ref m_anow, .ref m_atried, .ref m_aread, .ref m_akept, .int m_isKept, .ref m_anoticed, .ref m_aneeds, .ref m_aorder, .int m_many, .int m_one, .int m_two])), (m_atape, .inl (G 0, 40, .inl m_tape))] H := hP
  replace hD : va_D A [(m_mo, .inr (8, [.ref m_alane, .ref m_asize, .ref m_aitem, .int m_letters, .ref m_atape, .int m_position_1, .int m_number, .ref m_anow, .ref m_atried, .ref m_aread, .ref m_akept, .int m_isKept, .ref m_anoticed, .ref m_aneeds, .ref m_aorder, .int m_many, .int m_one, .int m_two])), (m_atape, .inl (G 0, 40, .inl m_tape))] := hD
  refine lv_bipush (v := 48) hx hb dX8_isDigit_5 (by decide) ?_
  refine lv_isub hx hb dX8_isDigit_7 ?_
  refine va_put (D := D) (ci := 8) (v := .int (r1 - (48 : Int32))) (ty := .int) (C := RX8) (T := TX8) (N := 18) hx hb hts inX8 tyX8 tyX8_ok nmX8 hown hK hP hD hS 0 rfl rfl 6 (by decide) fl96 (fun _ h9 => h9) rfl (by decide +kernel) rfl rfl (Nat.le_of_ble_eq_true rfl) dX8_isDigit_8 (fun H locs hP hD hS => ?_)
  replace hP : va_P D vwCl [(m_mo, .inr (8, [.ref m_alane, .ref m_asize, .ref m_aitem, .int m_letters, .ref m_atape, .int m_position_1, .int (r1 - (48 : Int32)), .ref m_anow, .ref m_atried, .ref m_aread, .ref m_akept, .int m_isKept, .ref m_anoticed, .ref m_aneeds, .ref m_aorder, .int m_many, .int m_one, .int m_two])), (m_atape, .inl (G 0, 40, .inl m_tape))] H := hP
  replace hD : va_D A [(m_mo, .inr (8, [.ref m_alane, .ref m_asize, .ref m_aitem, .int m_letters, .ref m_atape, .int m_position_1, .int (r1 - (48 : Int32)), .ref m_anow, .ref m_atried, .ref m_aread, .ref m_akept, .int m_isKept, .ref m_anoticed, .ref m_aneeds, .ref m_aorder, .int m_many, .int m_one, .int m_two])), (m_atape, .inl (G 0, 40, .inl m_tape))] := hD
  refine lv_aload_n hx hb dX8_isDigit_11 rfl (lv_at hl 0 rfl) ?_
  refine va_get (D := D) (ci := 8) (v := .int (r1 - (48 : Int32))) (C := RX8) (T := TX8) (N := 18) hx hb hts inX8 hown hK hP 0 rfl rfl 6 (by decide) fl96 (fun _ h9 => h9) rfl dX8_isDigit_12 ?_
  refine lv_iload_n hx hb dX8_isDigit_15 rfl (lv_at hl 1 rfl) ?_
  refine lv_iload_n hx hb dX8_isDigit_16 rfl (lv_at hl 2 rfl) ?_
  refine vp_callSi (W.runS (As := [.int (r1 - (48 : Int32)), .int x1, .int x2]) (rest := []) ⟨hx, hb, hml, hown, hts⟩ (c_X8_in l D G (r1 - (48 : Int32)) x1 x2 _ hw) (va_cwS 3 hts gX8_isDigit_X8_in rfl rfl rfl (by decide +kernel) ⟨(Nat.le_of_ble_eq_true rfl), (Nat.le_of_ble_eq_true rfl)⟩) (xR_ps (hP.sub [] rfl) hK) rfl rfl hl.1 rfl (lv_room (Nat.le_of_ble_eq_true rfl)) dX8_isDigit_17 ⟨Nat.zero_le _, Nat.zero_le _⟩) (fun r2 hw => ?_)
  refine lv_if_ne (tgt := 25) hx hb dX8_isDigit_20 (by decide) (fun c9 => ?_) (fun c9 => ?_)
  · replace hw := hw.1 c9
    refine lv_aload_n hx hb dX8_isDigit_25 rfl (lv_at hl 0 rfl) ?_
    refine lv_dup hx hb dX8_isDigit_26 rfl ?_
    refine va_get (D := D) (ci := 8) (v := .int m_position_1) (C := RX8) (T := TX8) (N := 18) hx hb hts inX8 hown hK hP 0 rfl rfl 5 (by decide) fl89 (fun _ h9 => h9) rfl dX8_isDigit_27 ?_
    refine lv_iconst (v := 1) hx hb dX8_isDigit_30 (by decide) ?_
    refine lv_iadd hx hb dX8_isDigit_31 ?_
    refine va_put (D := D) (ci := 8) (v := .int (m_position_1 + (1 : Int32))) (ty := .int) (C := RX8) (T := TX8) (N := 18) hx hb hts inX8 tyX8 tyX8_ok nmX8 hown hK hP hD hS 0 rfl rfl 5 (by decide) fl89 (fun _ h9 => h9) rfl (by decide +kernel) rfl rfl (Nat.le_of_ble_eq_true rfl) dX8_isDigit_32 (fun H locs hP hD hS => ?_)
    replace hP : va_P D vwCl [(m_mo, .inr (8, [.ref m_alane, .ref m_asize, .ref m_aitem, .int m_letters, .ref m_atape, .int (m_position_1 + (1 : Int32)), .int (r1 - (48 : Int32)), .ref m_anow, .ref m_atried, .ref m_aread, .ref m_akept, .int m_isKept, .ref m_anoticed, .ref m_aneeds, .ref m_aorder, .int m_many, .int m_one, .int m_two])), (m_atape, .inl (G 0, 40, .inl m_tape))] H := hP
    replace hD : va_D A [(m_mo, .inr (8, [.ref m_alane, .ref m_asize, .ref m_aitem, .int m_letters, .ref m_atape, .int (m_position_1 + (1 : Int32)), .int (r1 - (48 : Int32)), .ref m_anow, .ref m_atried, .ref m_aread, .ref m_akept, .int m_isKept, .ref m_anoticed, .ref m_aneeds, .ref m_aorder, .int m_many, .int m_one, .int m_two])), (m_atape, .inl (G 0, 40, .inl m_tape))] := hD
    refine lv_iconst (v := 1) hx hb dX8_isDigit_35 (by decide) ?_
    exact W.zret hx hb hr rfl (x_mi (u := ((m_position_1 + (1 : Int32)), (r1 - (48 : Int32)))) hP hK hD hS hw) hS.2.2 dX8_isDigit_36
  · replace hw := hw.2 c9
    refine lv_iconst (v := 0) hx hb dX8_isDigit_23 (by decide) ?_
    exact W.zret hx hb hr rfl (x_mi (u := (m_position_1, (r1 - (48 : Int32)))) hP hK hD hS hw) hS.2.2 dX8_isDigit_24
set_option maxHeartbeats 4000000 in
set_option maxRecDepth 100000 in
theorem c_X8_kindBy (l : Launch) (D : va_G) (G : Nat → ClassId) (x0 : Int32) (post : Int32 → Prop) (hw : wp_X8_kindBy x0 post) : Met l yX8_kindBy wsX8_kindBy ({ frames := 0, cells := 0, slots := 0, locals := 0 } : Room) (va_Pc [.int x0] (xR D G [])) (vp_Si post) 0 0 (fun _ => False) := by
  refine Met.ofW (cc := cX8_kindBy) (maxL := 1) (ret := (some .int)) (by decide) rfl ?_
  intro p e s m args below meth c s₁ B hml hv
  obtain ⟨rfl, hP, hK⟩ := hv
  have hx := B.exec
  have hb := B.bytes
  have hr := B.returns
  have hts := atoms_spec (ws := wsX8_kindBy) B.pre
  have hown : s.vm.findClass RX8 = some m.cls := findClass_of_methodNamed B.named
  have hlocks := B.notSynchronized
  have hl := lv_entry ([.int x0] : List Value) (n := 1) (Nat.le_of_ble_eq_true rfl)
  rw [lg_entry_eq]
  generalize (lg_sl ([.int x0] : List Value) ++ List.replicate (1 - (lg_sl ([.int x0] : List Value)).length) Slot.unset).toArray = ls at hl ⊢
  have hl : lv_has ls 1 [(0, .int x0)] := hl
  unfold wp_X8_kindBy at hw
  refine lv_iload_n hx hb dX8_kindBy_0 rfl (lv_at hl 0 rfl) ?_
  refine lv_bipush (v := 112) hx hb dX8_kindBy_1 (by decide) ?_
  refine lv_icmp_ne (tgt := 10) hx hb dX8_kindBy_3 (by decide) (fun c9 => ?_) (fun c9 => ?_)
  · replace hw := hw.1 c9
    refine lv_iload_n hx hb dX8_kindBy_10 rfl (lv_at hl 0 rfl) ?_
    refine lv_bipush (v := 100) hx hb dX8_kindBy_11 (by decide) ?_
    refine lv_icmp_ne (tgt := 20) hx hb dX8_kindBy_13 (by decide) (fun c9 => ?_) (fun c9 => ?_)
    · replace hw := hw.1 c9
      refine lv_iload_n hx hb dX8_kindBy_20 rfl (lv_at hl 0 rfl) ?_
      refine lv_bipush (v := 102) hx hb dX8_kindBy_21 (by decide) ?_
      refine lv_icmp_ne (tgt := 30) hx hb dX8_kindBy_23 (by decide) (fun c9 => ?_) (fun c9 => ?_)
      · replace hw := hw.1 c9
        refine lv_iload_n hx hb dX8_kindBy_30 rfl (lv_at hl 0 rfl) ?_
        refine lv_bipush (v := 115) hx hb dX8_kindBy_31 (by decide) ?_
        refine lv_icmp_ne (tgt := 40) hx hb dX8_kindBy_33 (by decide) (fun c9 => ?_) (fun c9 => ?_)
        · replace hw := hw.1 c9
          refine lv_iload_n hx hb dX8_kindBy_40 rfl (lv_at hl 0 rfl) ?_
          refine lv_bipush (v := 111) hx hb dX8_kindBy_41 (by decide) ?_
          refine lv_icmp_ne (tgt := 50) hx hb dX8_kindBy_43 (by decide) (fun c9 => ?_) (fun c9 => ?_)
          · replace hw := hw.1 c9
            refine lv_iconst (v := -1) hx hb dX8_kindBy_50 (by decide) ?_
            exact W.iret hx hb hr (fun t ht _ => ⟨_, rfl, hw, ht⟩) (fun _ h => absurd h List.not_mem_nil) dX8_kindBy_51
          · replace hw := hw.2 c9
            refine lv_iconst (v := 4) hx hb dX8_kindBy_46 (by decide) ?_
            refine lv_goto (tgt := 51) hx hb dX8_kindBy_47 (by decide) ?_
            exact W.iret hx hb hr (fun t ht _ => ⟨_, rfl, hw, ht⟩) (fun _ h => absurd h List.not_mem_nil) dX8_kindBy_51
        · replace hw := hw.2 c9
          refine lv_iconst (v := 3) hx hb dX8_kindBy_36 (by decide) ?_
          refine lv_goto (tgt := 51) hx hb dX8_kindBy_37 (by decide) ?_
          exact W.iret hx hb hr (fun t ht _ => ⟨_, rfl, hw, ht⟩) (fun _ h => absurd h List.not_mem_nil) dX8_kindBy_51
      · replace hw := hw.2 c9
        refine lv_iconst (v := 2) hx hb dX8_kindBy_26 (by decide) ?_
        refine lv_goto (tgt := 51) hx hb dX8_kindBy_27 (by decide) ?_
        exact W.iret hx hb hr (fun t ht _ => ⟨_, rfl, hw, ht⟩) (fun _ h => absurd h List.not_mem_nil) dX8_kindBy_51
    · replace hw := hw.2 c9
      refine lv_iconst (v := 1) hx hb dX8_kindBy_16 (by decide) ?_
      refine lv_goto (tgt := 51) hx hb dX8_kindBy_17 (by decide) ?_
      exact W.iret hx hb hr (fun t ht _ => ⟨_, rfl, hw, ht⟩) (fun _ h => absurd h List.not_mem_nil) dX8_kindBy_51
  · replace hw := hw.2 c9
    refine lv_iconst (v := 0) hx hb dX8_kindBy_6 (by decide) ?_
    refine lv_goto (tgt := 51) hx hb dX8_kindBy_7 (by decide) ?_
    exact W.iret hx hb hr (fun t ht _ => ⟨_, rfl, hw, ht⟩) (fun _ h => absurd h List.not_mem_nil) dX8_kindBy_51
set_option maxHeartbeats 4000000 in
set_option maxRecDepth 100000 in
theorem c_X8_isCows (l : Launch) (D : va_G) (G : Nat → ClassId) (sz : Nat) (m_mo : Nat) (m_alane : Nat) (m_asize : Nat) (m_aitem : Nat) (m_atape : Nat) (m_anow : Nat) (m_atried : Nat) (m_aread : Nat) (m_akept : Nat) (m_anoticed : Nat) (m_aneeds : Nat) (m_aorder : Nat) (m_letters : Int32) (m_position : Int32) (m_number : Int32) (m_isKept : Int32) (m_many : Int32) (m_one : Int32) (m_two : Int32) (m_tape : Nat → Int32) (m_read : Nat → Int32) (post : Int32 → Int32 → Int32 → (Nat → Int32) → Prop) (hw : wp_X8_isCows m_letters m_position m_tape m_read post) : Met l yX8_isCows wsX8_isCows ({ frames := 2, cells := 0, slots := 0, locals := 44 } : Room) (va_Pc [.ref m_mo] (xM D G sz [(m_mo, .inr (8, [.ref m_alane, .ref m_asize, .ref m_aitem, .int m_letters, .ref m_atape, .int m_position, .int m_number, .ref m_anow, .ref m_atried, .ref m_aread, .ref m_akept, .int m_isKept, .ref m_anoticed, .ref m_aneeds, .ref m_aorder, .int m_many, .int m_one, .int m_two])), (m_atape, .inl (G 0, 40, .inl m_tape)), (m_aread, .inl (G 0, 55, .inl m_read))])) (va_Qi (fun r (u : Int32 × Int32 × (Nat → Int32)) => post r u.1 u.2.1 u.2.2) (fun u t => xE D G (va_A [(m_mo, .inr (8, [.ref m_alane, .ref m_asize, .ref m_aitem, .int m_letters, .ref m_atape, .int m_position, .int m_number, .ref m_anow, .ref m_atried, .ref m_aread, .ref m_akept, .int m_isKept, .ref m_anoticed, .ref m_aneeds, .ref m_aorder, .int m_many, .int m_one, .int m_two])), (m_atape, .inl (G 0, 40, .inl m_tape)), (m_aread, .inl (G 0, 55, .inl m_read))] sz) [(m_mo, .inr (8, [.ref m_alane, .ref m_asize, .ref m_aitem, .int m_letters, .ref m_atape, .int u.1, .int u.2.1, .ref m_anow, .ref m_atried, .ref m_aread, .ref m_akept, .int m_isKept, .ref m_anoticed, .ref m_aneeds, .ref m_aorder, .int m_many, .int m_one, .int m_two])), (m_atape, .inl (G 0, 40, .inl m_tape)), (m_aread, .inl (G 0, 55, .inl (u.2.2)))] t) (va_A [(m_mo, .inr (8, [.ref m_alane, .ref m_asize, .ref m_aitem, .int m_letters, .ref m_atape, .int m_position, .int m_number, .ref m_anow, .ref m_atried, .ref m_aread, .ref m_akept, .int m_isKept, .ref m_anoticed, .ref m_aneeds, .ref m_aorder, .int m_many, .int m_one, .int m_two])), (m_atape, .inl (G 0, 40, .inl m_tape)), (m_aread, .inl (G 0, 55, .inl m_read))] sz)) 0 0 (va_A [(m_mo, .inr (8, [.ref m_alane, .ref m_asize, .ref m_aitem, .int m_letters, .ref m_atape, .int m_position, .int m_number, .ref m_anow, .ref m_atried, .ref m_aread, .ref m_akept, .int m_isKept, .ref m_anoticed, .ref m_aneeds, .ref m_aorder, .int m_many, .int m_one, .int m_two])), (m_atape, .inl (G 0, 40, .inl m_tape)), (m_aread, .inl (G 0, 55, .inl m_read))] sz) := by
  refine Met.ofW (cc := cX8_isCows) (maxL := 2) (ret := (some .boolean)) (by decide) rfl ?_
  intro p e s m args below meth c s₁ B hml hv
  obtain ⟨rfl, hsz, hP, hK, hD0⟩ := hv
  have hx := B.exec
  have hb := B.bytes
  have hr := B.returns
  have hts := atoms_spec (ws := wsX8_isCows) B.pre
  have hown : s.vm.findClass RX8 = some m.cls := findClass_of_methodNamed B.named
  have hlocks := B.notSynchronized
  subst hsz
  have hD := hD0.self (sz := s.heap.size)
  generalize hAe : va_A [(m_mo, .inr (8, [.ref m_alane, .ref m_asize, .ref m_aitem, .int m_letters, .ref m_atape, .int m_position, .int m_number, .ref m_anow, .ref m_atried, .ref m_aread, .ref m_akept, .int m_isKept, .ref m_anoticed, .ref m_aneeds, .ref m_aorder, .int m_many, .int m_one, .int m_two])), (m_atape, .inl (G 0, 40, .inl m_tape)), (m_aread, .inl (G 0, 55, .inl m_read))] s.heap.size = A at hD ⊢
  have hA : ∀ q : Nat, s.heap.size ≤ q → A q := fun q h => by rw [← hAe]; exact Or.inr h
  have hS : va_S A s.heap s.heap [] := va_S.rf
  have inX8 : ∀ w ∈ wsX80, w ∈ wsX8_isCows := by decide +kernel
  have fl29 := hts (.fieldLink RX8 29 "NewsCowModel" "read" "[I") (by decide +kernel)
  have fl96 := hts (.fieldLink RX8 96 "NewsCowModel" "number" "I") (by decide +kernel)
  have hl := lv_entry ([.ref m_mo] : List Value) (n := 2) (Nat.le_of_ble_eq_true rfl)
  rw [lg_entry_eq]
  generalize (lg_sl ([.ref m_mo] : List Value) ++ List.replicate (2 - (lg_sl ([.ref m_mo] : List Value)).length) Slot.unset).toArray = ls at hl ⊢
  have hl : lv_has ls 2 [(0, .ref m_mo)] := hl
  unfold wp_X8_isCows at hw
  have L14 : ∀ (f14 : Nat) (x1 : Int32) (m_position : Int32) (m_number : Int32) (m_read : Nat → Int32) (H : Heap) (locs : List Loc) (ls : Array Slot), wp_X8_isCows_L14 m_letters m_tape post f14 m_position m_number m_read x1 → va_P D vwCl [(m_mo, .inr (8, [.ref m_alane, .ref m_asize, .ref m_aitem, .int m_letters, .ref m_atape, .int m_position, .int m_number, .ref m_anow, .ref m_atried, .ref m_aread, .ref m_akept, .int m_isKept, .ref m_anoticed, .ref m_aneeds, .ref m_aorder, .int m_many, .int m_one, .int m_two])), (m_atape, .inl (G 0, 40, .inl m_tape)), (m_aread, .inl (G 0, 55, .inl m_read))] H → va_D A [(m_mo, .inr (8, [.ref m_alane, .ref m_asize, .ref m_aitem, .int m_letters, .ref m_atape, .int m_position, .int m_number, .ref m_anow, .ref m_atried, .ref m_aread, .ref m_akept, .int m_isKept, .ref m_anoticed, .ref m_aneeds, .ref m_aorder, .int m_many, .int m_one, .int m_two])), (m_atape, .inl (G 0, 40, .inl m_tape)), (m_aread, .inl (G 0, 55, .inl m_read))] → va_S A s.heap H locs → lv_has ls 2 [(0, .ref m_mo), (1, .int x1)] → W p l e (headSpec wsX8_isCows ({ frames := 2, cells := 0, slots := 0, locals := 44 } : Room)).room s m ([.ref m_mo] : List Value).toArray below meth c H locs 0 0 (MQ below (va_Qi (fun r (u : Int32 × Int32 × (Nat → Int32)) => post r u.1 u.2.1 u.2.2) (fun u t => xE D G A [(m_mo, .inr (8, [.ref m_alane, .ref m_asize, .ref m_aitem, .int m_letters, .ref m_atape, .int u.1, .int u.2.1, .ref m_anow, .ref m_atried, .ref m_aread, .ref m_akept, .int m_isKept, .ref m_anoticed, .ref m_aneeds, .ref m_aorder, .int m_many, .int m_one, .int m_two])), (m_atape, .inl (G 0, 40, .inl m_tape)), (m_aread, .inl (G 0, 55, .inl (u.2.2)))] t) A) ([.ref m_mo] : List Value).toArray s 0 0 A) (F0 m 14 ls []) := by
    intro f14
    induction f14 with
    | zero => intro x1 m_position m_number m_read H locs ls hw hP hD hS hl; exact (hw : False).elim
    | succ f14 ih14 =>
      intro x1 m_position m_number m_read H locs ls hw hP hD hS hl
      unfold wp_X8_isCows_L14 at hw
      have J64 : ∀ (m_position : Int32) (m_number : Int32) (m_read : Nat → Int32) (H : Heap) (locs : List Loc) (ls : Array Slot), wp_X8_isCows_J64 m_letters m_position m_number m_tape m_read (wp_X8_isCows_L14 m_letters m_tape post f14) post → va_P D vwCl [(m_mo, .inr (8, [.ref m_alane, .ref m_asize, .ref m_aitem, .int m_letters, .ref m_atape, .int m_position, .int m_number, .ref m_anow, .ref m_atried, .ref m_aread, .ref m_akept, .int m_isKept, .ref m_anoticed, .ref m_aneeds, .ref m_aorder, .int m_many, .int m_one, .int m_two])), (m_atape, .inl (G 0, 40, .inl m_tape)), (m_aread, .inl (G 0, 55, .inl m_read))] H → va_D A [(m_mo, .inr (8, [.ref m_alane, .ref m_asize, .ref m_aitem, .int m_letters, .ref m_atape, .int m_position, .int m_number, .ref m_anow, .ref m_atried, .ref m_aread, .ref m_akept, .int m_isKept, .ref m_anoticed, .ref m_aneeds, .ref m_aorder, .int m_many, .int m_one, .int m_two])), (m_atape, .inl (G 0, 40, .inl m_tape)), (m_aread, .inl (G 0, 55, .inl m_read))] → va_S A s.heap H locs → lv_has ls 2 [(0, .ref m_mo)] → W p l e (headSpec wsX8_isCows ({ frames := 2, cells := 0, slots := 0, locals := 44 } : Room)).room s m ([.ref m_mo] : List Value).toArray below meth c H locs 0 0 (MQ below (va_Qi (fun r (u : Int32 × Int32 × (Nat → Int32)) => post r u.1 u.2.1 u.2.2) (fun u t => xE D G A [(m_mo, .inr (8, [.ref m_alane, .ref m_asize, .ref m_aitem, .int m_letters, .ref m_atape, .int u.1, .int u.2.1, .ref m_anow, .ref m_atried, .ref m_aread, .ref m_akept, .int m_isKept, .ref m_anoticed, .ref m_aneeds, .ref m_aorder, .int m_many, .int m_one, .int m_two])), (m_atape, .inl (G 0, 40, .inl m_tape)), (m_aread, .inl (G 0, 55, .inl (u.2.2)))] t) A) ([.ref m_mo] : List Value).toArray s 0 0 A) (F0 m 64 ls []) := by
        intro m_position m_number m_read H locs ls hw hP hD hS hl
        unfold wp_X8_isCows_J64 at hw
        refine lv_aload_n hx hb dX8_isCows_64 rfl (lv_at hl 0 rfl) ?_
        refine va_get (D := D) (ci := 8) (v := .ref m_aread) (C := RX8) (T := TX8) (N := 18) hx hb hts inX8 hown hK hP 0 rfl rfl 9 (by decide) fl29 (fun _ h9 => h9) rfl dX8_isCows_65 ?_
        refine lv_iconst (v := 4) hx hb dX8_isCows_68 (by decide) ?_
        refine x_iald (j := 4) hx hb hK hP 2 0 rfl rfl (by decide) (x_in (by decide)) dX8_isCows_69 ?_
        refine lv_bipush (v := 8) hx hb dX8_isCows_70 (by decide) ?_
        refine lv_icmp_ge (tgt := 89) hx hb dX8_isCows_72 (by decide) (fun c9 => ?_) (fun c9 => ?_)
        · replace hw := hw.1 c9
          refine lv_iconst (v := 0) hx hb dX8_isCows_89 (by decide) ?_
          refine lv_istore_n (lv' := [(1, .int (0 : Int32)), (0, .ref m_mo)]) hx hb dX8_isCows_90 rfl hl (by decide) rfl (fun ls hl => ?_)
          refine lv_goto (tgt := 14) hx hb dX8_isCows_91 (by decide) ?_
          exact ih14 (0 : Int32) m_position m_number m_read _ _ _ hw hP hD hS (lv_sub hl [1, 0] rfl)
        · replace hw := hw.2 c9
          refine lv_aload_n hx hb dX8_isCows_75 rfl (lv_at hl 0 rfl) ?_
          refine lv_iconst (v := 1) hx hb dX8_isCows_76 (by decide) ?_
          refine lv_bipush (v := 9) hx hb dX8_isCows_77 (by decide) ?_
          refine x_cMi (wr := [(m_aread, .inl (G 0, 55, .inl m_read))]) (va_runV (As := [.int (1 : Int32), .int (9 : Int32)]) (rest := []) ⟨hx, hb, hml, hown, hts⟩ (c_X8_isDigit l D G _ m_mo m_alane m_asize m_aitem m_atape m_anow m_atried m_aread m_akept m_anoticed m_aneeds m_aorder m_letters m_position m_number m_isKept m_many m_one m_two m_tape (1 : Int32) (9 : Int32) _ hw) (cwV 2 hts gX8_isCows_X8_isDigit rfl rfl rfl (by decide +kernel) ⟨(Nat.le_of_ble_eq_true rfl), (Nat.le_of_ble_eq_true rfl)⟩) (xM_pv (hP.sub [0, 1] rfl) hK (hD.sub [0, 1] (by decide) rfl) (va_recv hK hP (ci := 8) (q0 := 0) rfl rfl)) rfl rfl hl.1 rfl (lv_room (Nat.le_of_ble_eq_true rfl)) dX8_isCows_79 ⟨Nat.zero_le _, Nat.zero_le _⟩) hP hD hS hA [0, 1] [2] rfl rfl (by decide) (by decide) [1, 2, 0] (fun u => [(m_mo, .inr (8, [.ref m_alane, .ref m_asize, .ref m_aitem, .int m_letters, .ref m_atape, .int u.1, .int u.2, .ref m_anow, .ref m_atried, .ref m_aread, .ref m_akept, .int m_isKept, .ref m_anoticed, .ref m_aneeds, .ref m_aorder, .int m_many, .int m_one, .int m_two])), (m_atape, .inl (G 0, 40, .inl m_tape)), (m_aread, .inl (G 0, 55, .inl m_read))]) (by decide) (fun u => rfl) (fun r4 u H locs hw hP hD hS => ?_)
          obtain ⟨m_position_4, m_number_4⟩ := u
          try dsimp only at hw
          replace hP : va_P D vwCl [(m_mo, .inr (8, [.ref m_alane, .ref m_asize, .ref m_aitem, .int m_letters, .ref m_atape, .int m_position_4, .int m_number_4, .ref m_anow, .ref m_atried, .ref m_aread, .ref m_akept, .int m_isKept, .ref m_anoticed, .ref m_aneeds, .ref m_aorder, .int m_many, .int m_one, .int m_two])), (m_atape, .inl (G 0, 40, .inl m_tape)), (m_aread, .inl (G 0, 55, .inl m_read))] H := hP
          replace hD : va_D A [(m_mo, .inr (8, [.ref m_alane, .ref m_asize, .ref m_aitem, .int m_letters, .ref m_atape, .int m_position_4, .int m_number_4, .ref m_anow, .ref m_atried, .ref m_aread, .ref m_akept, .int m_isKept, .ref m_anoticed, .ref m_aneeds, .ref m_aorder, .int m_many, .int m_one, .int m_two])), (m_atape, .inl (G 0, 40, .inl m_tape)), (m_aread, .inl (G 0, 55, .inl m_read))] := hD
          refine lv_if_eq (tgt := 89) hx hb dX8_isCows_82 (by decide) (fun c9 => ?_) (fun c9 => ?_)
          · replace hw := hw.1 c9
            refine lv_iconst (v := 0) hx hb dX8_isCows_89 (by decide) ?_
            refine lv_istore_n (lv' := [(1, .int (0 : Int32)), (0, .ref m_mo)]) hx hb dX8_isCows_90 rfl hl (by decide) rfl (fun ls hl => ?_)
            refine lv_goto (tgt := 14) hx hb dX8_isCows_91 (by decide) ?_
            exact ih14 (0 : Int32) m_position_4 m_number_4 m_read _ _ _ hw hP hD hS (lv_sub hl [1, 0] rfl)
          · replace hw := hw.2 c9
            refine lv_iconst (v := 1) hx hb dX8_isCows_85 (by decide) ?_
            refine lv_goto (tgt := 90) hx hb dX8_isCows_86 (by decide) ?_
            refine lv_istore_n (lv' := [(1, .int (1 : Int32)), (0, .ref m_mo)]) hx hb dX8_isCows_90 rfl hl (by decide) rfl (fun ls hl => ?_)
            refine lv_goto (tgt := 14) hx hb dX8_isCows_91 (by decide) ?_
            exact ih14 (1 : Int32) m_position_4 m_number_4 m_read _ _ _ hw hP hD hS (lv_sub hl [1, 0] rfl)
      refine lv_iload_n hx hb dX8_isCows_14 rfl (lv_at hl 1 rfl) ?_
      refine lv_if_eq (tgt := 94) hx hb dX8_isCows_15 (by decide) (fun c9 => ?_) (fun c9 => ?_)
      · replace hw := hw.1 c9
        refine lv_iconst (v := 1) hx hb dX8_isCows_94 (by decide) ?_
        exact W.zret hx hb hr rfl (x_mi (u := (m_position, m_number, m_read)) hP hK hD hS hw) hS.2.2 dX8_isCows_95
      · replace hw := hw.2 c9
        refine lv_aload_n hx hb dX8_isCows_18 rfl (lv_at hl 0 rfl) ?_
        refine va_get (D := D) (ci := 8) (v := .ref m_aread) (C := RX8) (T := TX8) (N := 18) hx hb hts inX8 hown hK hP 0 rfl rfl 9 (by decide) fl29 (fun _ h9 => h9) rfl dX8_isCows_19 ?_
        refine lv_aload_n hx hb dX8_isCows_22 rfl (lv_at hl 0 rfl) ?_
        refine va_get (D := D) (ci := 8) (v := .int m_number) (C := RX8) (T := TX8) (N := 18) hx hb hts inX8 hown hK hP 0 rfl rfl 6 (by decide) fl96 (fun _ h9 => h9) rfl dX8_isCows_23 ?_
        refine x_cMi (wr := [(m_mo, .inr (8, [.ref m_alane, .ref m_asize, .ref m_aitem, .int m_letters, .ref m_atape, .int m_position, .int m_number, .ref m_anow, .ref m_atried, .ref m_aread, .ref m_akept, .int m_isKept, .ref m_anoticed, .ref m_aneeds, .ref m_aorder, .int m_many, .int m_one, .int m_two])), (m_atape, .inl (G 0, 40, .inl m_tape))]) (va_runS (As := [.ref m_aread, .int m_number]) (rest := []) ⟨hx, hb, hml, hown, hts⟩ (c_X8_addCow l D G _ m_aread m_read m_number _ hw) (va_cwS 2 hts gX8_isCows_X8_addCow rfl rfl rfl (by decide +kernel) ⟨(Nat.le_of_ble_eq_true rfl), (Nat.le_of_ble_eq_true rfl)⟩) (xM_ps (hP.sub [2] rfl) hK (hD.sub [2] (by decide) rfl)) rfl rfl hl.1 rfl (lv_room (Nat.le_of_ble_eq_true rfl)) dX8_isCows_26 ⟨Nat.zero_le _, Nat.zero_le _⟩) hP hD hS hA [2] [0, 1] rfl rfl (by decide) (by decide) [0, 1, 2] (fun u => [(m_mo, .inr (8, [.ref m_alane, .ref m_asize, .ref m_aitem, .int m_letters, .ref m_atape, .int m_position, .int m_number, .ref m_anow, .ref m_atried, .ref m_aread, .ref m_akept, .int m_isKept, .ref m_anoticed, .ref m_aneeds, .ref m_aorder, .int m_many, .int m_one, .int m_two])), (m_atape, .inl (G 0, 40, .inl m_tape)), (m_aread, .inl (G 0, 55, .inl u))]) (by decide) (fun u => rfl) (fun r2 u H locs hw hP hD hS => ?_)
        obtain ⟨v0_2, rfl⟩ : ∃ z, z = u := ⟨_, rfl⟩
        try dsimp only at hw
        replace hP : va_P D vwCl [(m_mo, .inr (8, [.ref m_alane, .ref m_asize, .ref m_aitem, .int m_letters, .ref m_atape, .int m_position, .int m_number, .ref m_anow, .ref m_atried, .ref m_aread, .ref m_akept, .int m_isKept, .ref m_anoticed, .ref m_aneeds, .ref m_aorder, .int m_many, .int m_one, .int m_two])), (m_atape, .inl (G 0, 40, .inl m_tape)), (m_aread, .inl (G 0, 55, .inl v0_2))] H := hP
        replace hD : va_D A [(m_mo, .inr (8, [.ref m_alane, .ref m_asize, .ref m_aitem, .int m_letters, .ref m_atape, .int m_position, .int m_number, .ref m_anow, .ref m_atried, .ref m_aread, .ref m_akept, .int m_isKept, .ref m_anoticed, .ref m_aneeds, .ref m_aorder, .int m_many, .int m_one, .int m_two])), (m_atape, .inl (G 0, 40, .inl m_tape)), (m_aread, .inl (G 0, 55, .inl v0_2))] := hD
        refine lv_pop hx hb dX8_isCows_29 rfl ?_
        refine lv_aload_n hx hb dX8_isCows_30 rfl (lv_at hl 0 rfl) ?_
        refine va_get (D := D) (ci := 8) (v := .ref m_aread) (C := RX8) (T := TX8) (N := 18) hx hb hts inX8 hown hK hP 0 rfl rfl 9 (by decide) fl29 (fun _ h9 => h9) rfl dX8_isCows_31 ?_
        refine lv_iconst (v := 3) hx hb dX8_isCows_34 (by decide) ?_
        refine x_iald (j := 3) hx hb hK hP 2 0 rfl rfl (by decide) (x_in (by decide)) dX8_isCows_35 ?_
        refine lv_bipush (v := -4) hx hb dX8_isCows_36 (by decide) ?_
        refine lv_icmp_ne (tgt := 64) hx hb dX8_isCows_38 (by decide) (fun c9 => ?_) (fun c9 => ?_)
        · replace hw := hw.1 c9
          exact J64 m_position m_number v0_2 _ _ _ hw hP hD hS (lv_sub hl [0] rfl)
        · replace hw := hw.2 c9
          refine lv_aload_n hx hb dX8_isCows_41 rfl (lv_at hl 0 rfl) ?_
          refine lv_bipush (v := 33) hx hb dX8_isCows_42 (by decide) ?_
          refine x_cMi (wr := [(m_aread, .inl (G 0, 55, .inl v0_2))]) (va_runV (As := [.int (33 : Int32)]) (rest := []) ⟨hx, hb, hml, hown, hts⟩ (c_X8_isSign l D G _ m_mo m_alane m_asize m_aitem m_atape m_anow m_atried m_aread m_akept m_anoticed m_aneeds m_aorder m_letters m_position m_number m_isKept m_many m_one m_two m_tape (33 : Int32) _ hw) (cwV 1 hts gX8_isCows_X8_isSign rfl rfl rfl (by decide +kernel) ⟨(Nat.le_of_ble_eq_true rfl), (Nat.le_of_ble_eq_true rfl)⟩) (xM_pv (hP.sub [0, 1] rfl) hK (hD.sub [0, 1] (by decide) rfl) (va_recv hK hP (ci := 8) (q0 := 0) rfl rfl)) rfl rfl hl.1 rfl (lv_room (Nat.le_of_ble_eq_true rfl)) dX8_isCows_44 ⟨Nat.zero_le _, Nat.zero_le _⟩) hP hD hS hA [0, 1] [2] rfl rfl (by decide) (by decide) [1, 2, 0] (fun u => [(m_mo, .inr (8, [.ref m_alane, .ref m_asize, .ref m_aitem, .int m_letters, .ref m_atape, .int u, .int m_number, .ref m_anow, .ref m_atried, .ref m_aread, .ref m_akept, .int m_isKept, .ref m_anoticed, .ref m_aneeds, .ref m_aorder, .int m_many, .int m_one, .int m_two])), (m_atape, .inl (G 0, 40, .inl m_tape)), (m_aread, .inl (G 0, 55, .inl v0_2))]) (by decide) (fun u => rfl) (fun r3 u H locs hw hP hD hS => ?_)
          obtain ⟨m_position_3, rfl⟩ : ∃ z, z = u := ⟨_, rfl⟩
          try dsimp only at hw
          replace hP : va_P D vwCl [(m_mo, .inr (8, [.ref m_alane, .ref m_asize, .ref m_aitem, .int m_letters, .ref m_atape, .int m_position_3, .int m_number, .ref m_anow, .ref m_atried, .ref m_aread, .ref m_akept, .int m_isKept, .ref m_anoticed, .ref m_aneeds, .ref m_aorder, .int m_many, .int m_one, .int m_two])), (m_atape, .inl (G 0, 40, .inl m_tape)), (m_aread, .inl (G 0, 55, .inl v0_2))] H := hP
          replace hD : va_D A [(m_mo, .inr (8, [.ref m_alane, .ref m_asize, .ref m_aitem, .int m_letters, .ref m_atape, .int m_position_3, .int m_number, .ref m_anow, .ref m_atried, .ref m_aread, .ref m_akept, .int m_isKept, .ref m_anoticed, .ref m_aneeds, .ref m_aorder, .int m_many, .int m_one, .int m_two])), (m_atape, .inl (G 0, 40, .inl m_tape)), (m_aread, .inl (G 0, 55, .inl v0_2))] := hD
          refine lv_if_eq (tgt := 64) hx hb dX8_isCows_47 (by decide) (fun c9 => ?_) (fun c9 => ?_)
          · replace hw := hw.1 c9
            exact J64 m_position_3 m_number v0_2 _ _ _ hw hP hD hS (lv_sub hl [0] rfl)
          · replace hw := hw.2 c9
            refine lv_aload_n hx hb dX8_isCows_50 rfl (lv_at hl 0 rfl) ?_
            refine va_get (D := D) (ci := 8) (v := .ref m_aread) (C := RX8) (T := TX8) (N := 18) hx hb hts inX8 hown hK hP 0 rfl rfl 9 (by decide) fl29 (fun _ h9 => h9) rfl dX8_isCows_51 ?_
            refine lv_iconst (v := 3) hx hb dX8_isCows_54 (by decide) ?_
            refine lv_aload_n hx hb dX8_isCows_55 rfl (lv_at hl 0 rfl) ?_
            refine va_get (D := D) (ci := 8) (v := .ref m_aread) (C := RX8) (T := TX8) (N := 18) hx hb hts inX8 hown hK hP 0 rfl rfl 9 (by decide) fl29 (fun _ h9 => h9) rfl dX8_isCows_56 ?_
            refine lv_iconst (v := 4) hx hb dX8_isCows_59 (by decide) ?_
            refine x_iald (j := 4) hx hb hK hP 2 0 rfl rfl (by decide) (x_in (by decide)) dX8_isCows_60 ?_
            refine lv_iconst (v := 1) hx hb dX8_isCows_61 (by decide) ?_
            refine lv_isub hx hb dX8_isCows_62 ?_
            refine x_iast (j := 3) hx hb hK hP hD hS 2 0 rfl rfl (by decide) (x_in (by decide)) dX8_isCows_63 (fun H locs hP hD hS => ?_)
            replace hP : va_P D vwCl [(m_mo, .inr (8, [.ref m_alane, .ref m_asize, .ref m_aitem, .int m_letters, .ref m_atape, .int m_position_3, .int m_number, .ref m_anow, .ref m_atried, .ref m_aread, .ref m_akept, .int m_isKept, .ref m_anoticed, .ref m_aneeds, .ref m_aorder, .int m_many, .int m_one, .int m_two])), (m_atape, .inl (G 0, 40, .inl m_tape)), (m_aread, .inl (G 0, 55, .inl (upd v0_2 3 ((v0_2 4) - (1 : Int32)))))] H := hP
            replace hD : va_D A [(m_mo, .inr (8, [.ref m_alane, .ref m_asize, .ref m_aitem, .int m_letters, .ref m_atape, .int m_position_3, .int m_number, .ref m_anow, .ref m_atried, .ref m_aread, .ref m_akept, .int m_isKept, .ref m_anoticed, .ref m_aneeds, .ref m_aorder, .int m_many, .int m_one, .int m_two])), (m_atape, .inl (G 0, 40, .inl m_tape)), (m_aread, .inl (G 0, 55, .inl (upd v0_2 3 ((v0_2 4) - (1 : Int32)))))] := hD
            exact J64 m_position_3 m_number (upd v0_2 3 ((v0_2 4) - (1 : Int32))) _ _ _ hw hP hD hS (lv_sub hl [0] rfl)
  refine lv_aload_n hx hb dX8_isCows_0 rfl (lv_at hl 0 rfl) ?_
  refine lv_iconst (v := 1) hx hb dX8_isCows_1 (by decide) ?_
  refine lv_bipush (v := 9) hx hb dX8_isCows_2 (by decide) ?_
  refine x_cMi (wr := [(m_aread, .inl (G 0, 55, .inl m_read))]) (va_runV (As := [.int (1 : Int32), .int (9 : Int32)]) (rest := []) ⟨hx, hb, hml, hown, hts⟩ (c_X8_isDigit l D G _ m_mo m_alane m_asize m_aitem m_atape m_anow m_atried m_aread m_akept m_anoticed m_aneeds m_aorder m_letters m_position m_number m_isKept m_many m_one m_two m_tape (1 : Int32) (9 : Int32) _ hw) (cwV 2 hts gX8_isCows_X8_isDigit rfl rfl rfl (by decide +kernel) ⟨(Nat.le_of_ble_eq_true rfl), (Nat.le_of_ble_eq_true rfl)⟩) (xM_pv (hP.sub [0, 1] rfl) hK (hD.sub [0, 1] (by decide) rfl) (va_recv hK hP (ci := 8) (q0 := 0) rfl rfl)) rfl rfl hl.1 rfl (lv_room (Nat.le_of_ble_eq_true rfl)) dX8_isCows_4 ⟨Nat.zero_le _, Nat.zero_le _⟩) hP hD hS hA [0, 1] [2] rfl rfl (by decide) (by decide) [1, 2, 0] (fun u => [(m_mo, .inr (8, [.ref m_alane, .ref m_asize, .ref m_aitem, .int m_letters, .ref m_atape, .int u.1, .int u.2, .ref m_anow, .ref m_atried, .ref m_aread, .ref m_akept, .int m_isKept, .ref m_anoticed, .ref m_aneeds, .ref m_aorder, .int m_many, .int m_one, .int m_two])), (m_atape, .inl (G 0, 40, .inl m_tape)), (m_aread, .inl (G 0, 55, .inl m_read))]) (by decide) (fun u => rfl) (fun r1 u H locs hw hP hD hS => ?_)
  obtain ⟨m_position_1, m_number_1⟩ := u
  try dsimp only at hw
  replace hP : va_P D vwCl [(m_mo, .inr (8, [.ref m_alane, .ref m_asize, .ref m_aitem, .int m_letters, .ref m_atape, .int m_position_1, .int m_number_1, .ref m_anow, .ref m_atried, .ref m_aread, .ref m_akept, .int m_isKept, .ref m_anoticed, .ref m_aneeds, .ref m_aorder, .int m_many, .int m_one, .int m_two])), (m_atape, .inl (G 0, 40, .inl m_tape)), (m_aread, .inl (G 0, 55, .inl m_read))] H := hP
  replace hD : va_D A [(m_mo, .inr (8, [.ref m_alane, .ref m_asize, .ref m_aitem, .int m_letters, .ref m_atape, .int m_position_1, .int m_number_1, .ref m_anow, .ref m_atried, .ref m_aread, .ref m_akept, .int m_isKept, .ref m_anoticed, .ref m_aneeds, .ref m_aorder, .int m_many, .int m_one, .int m_two])), (m_atape, .inl (G 0, 40, .inl m_tape)), (m_aread, .inl (G 0, 55, .inl m_read))] := hD
  refine lv_if_ne (tgt := 12) hx hb dX8_isCows_7 (by decide) (fun c9 => ?_) (fun c9 => ?_)
  · replace hw := hw.1 c9
    refine lv_iconst (v := 1) hx hb dX8_isCows_12 (by decide) ?_
    refine lv_istore_n (lv' := [(1, .int (1 : Int32)), (0, .ref m_mo)]) hx hb dX8_isCows_13 rfl hl (by decide) rfl (fun ls hl => ?_)
    obtain ⟨n, hw⟩ := hw
    exact L14 n (1 : Int32) m_position_1 m_number_1 m_read _ _ _ hw hP hD hS (lv_sub hl [1, 0] rfl)
  · replace hw := hw.2 c9
    refine lv_iconst (v := 0) hx hb dX8_isCows_10 (by decide) ?_
    exact W.zret hx hb hr rfl (x_mi (u := (m_position_1, m_number_1, m_read)) hP hK hD hS hw) hS.2.2 dX8_isCows_11
set_option maxHeartbeats 4000000 in
set_option maxRecDepth 100000 in
theorem c_X8_isTasterItem (l : Launch) (D : va_G) (G : Nat → ClassId) (sz : Nat) (m_mo : Nat) (m_alane : Nat) (m_asize : Nat) (m_aitem : Nat) (m_atape : Nat) (m_anow : Nat) (m_atried : Nat) (m_aread : Nat) (m_akept : Nat) (m_anoticed : Nat) (m_aneeds : Nat) (m_aorder : Nat) (m_letters : Int32) (m_position : Int32) (m_number : Int32) (m_isKept : Int32) (m_many : Int32) (m_one : Int32) (m_two : Int32) (m_tape : Nat → Int32) (m_read : Nat → Int32) (post : Int32 → Int32 → Int32 → (Nat → Int32) → Prop) (hw : wp_X8_isTasterItem m_letters m_position m_number m_tape m_read post) : Met l yX8_isTasterItem wsX8_isTasterItem ({ frames := 2, cells := 0, slots := 0, locals := 44 } : Room) (va_Pc [.ref m_mo] (xM D G sz [(m_mo, .inr (8, [.ref m_alane, .ref m_asize, .ref m_aitem, .int m_letters, .ref m_atape, .int m_position, .int m_number, .ref m_anow, .ref m_atried, .ref m_aread, .ref m_akept, .int m_isKept, .ref m_anoticed, .ref m_aneeds, .ref m_aorder, .int m_many, .int m_one, .int m_two])), (m_atape, .inl (G 0, 40, .inl m_tape)), (m_aread, .inl (G 0, 55, .inl m_read))])) (va_Qi (fun r (u : Int32 × Int32 × (Nat → Int32)) => post r u.1 u.2.1 u.2.2) (fun u t => xE D G (va_A [(m_mo, .inr (8, [.ref m_alane, .ref m_asize, .ref m_aitem, .int m_letters, .ref m_atape, .int m_position, .int m_number, .ref m_anow, .ref m_atried, .ref m_aread, .ref m_akept, .int m_isKept, .ref m_anoticed, .ref m_aneeds, .ref m_aorder, .int m_many, .int m_one, .int m_two])), (m_atape, .inl (G 0, 40, .inl m_tape)), (m_aread, .inl (G 0, 55, .inl m_read))] sz) [(m_mo, .inr (8, [.ref m_alane, .ref m_asize, .ref m_aitem, .int m_letters, .ref m_atape, .int u.1, .int u.2.1, .ref m_anow, .ref m_atried, .ref m_aread, .ref m_akept, .int m_isKept, .ref m_anoticed, .ref m_aneeds, .ref m_aorder, .int m_many, .int m_one, .int m_two])), (m_atape, .inl (G 0, 40, .inl m_tape)), (m_aread, .inl (G 0, 55, .inl (u.2.2)))] t) (va_A [(m_mo, .inr (8, [.ref m_alane, .ref m_asize, .ref m_aitem, .int m_letters, .ref m_atape, .int m_position, .int m_number, .ref m_anow, .ref m_atried, .ref m_aread, .ref m_akept, .int m_isKept, .ref m_anoticed, .ref m_aneeds, .ref m_aorder, .int m_many, .int m_one, .int m_two])), (m_atape, .inl (G 0, 40, .inl m_tape)), (m_aread, .inl (G 0, 55, .inl m_read))] sz)) 0 0 (va_A [(m_mo, .inr (8, [.ref m_alane, .ref m_asize, .ref m_aitem, .int m_letters, .ref m_atape, .int m_position, .int m_number, .ref m_anow, .ref m_atried, .ref m_aread, .ref m_akept, .int m_isKept, .ref m_anoticed, .ref m_aneeds, .ref m_aorder, .int m_many, .int m_one, .int m_two])), (m_atape, .inl (G 0, 40, .inl m_tape)), (m_aread, .inl (G 0, 55, .inl m_read))] sz) := by
  refine Met.ofW (cc := cX8_isTasterItem) (maxL := 2) (ret := (some .boolean)) (by decide) rfl ?_
  intro p e s m args below meth c s₁ B hml hv
  obtain ⟨rfl, hsz, hP, hK, hD0⟩ := hv
  have hx := B.exec
  have hb := B.bytes
  have hr := B.returns
  have hts := atoms_spec (ws := wsX8_isTasterItem) B.pre
  have hown : s.vm.findClass RX8 = some m.cls := findClass_of_methodNamed B.named
  have hlocks := B.notSynchronized
  subst hsz
  have hD := hD0.self (sz := s.heap.size)
  generalize hAe : va_A [(m_mo, .inr (8, [.ref m_alane, .ref m_asize, .ref m_aitem, .int m_letters, .ref m_atape, .int m_position, .int m_number, .ref m_anow, .ref m_atried, .ref m_aread, .ref m_akept, .int m_isKept, .ref m_anoticed, .ref m_aneeds, .ref m_aorder, .int m_many, .int m_one, .int m_two])), (m_atape, .inl (G 0, 40, .inl m_tape)), (m_aread, .inl (G 0, 55, .inl m_read))] s.heap.size = A at hD ⊢
  have hA : ∀ q : Nat, s.heap.size ≤ q → A q := fun q h => by rw [← hAe]; exact Or.inr h
  have hS : va_S A s.heap s.heap [] := va_S.rf
  have inX8 : ∀ w ∈ wsX80, w ∈ wsX8_isTasterItem := by decide +kernel
  have fl89 := hts (.fieldLink RX8 89 "NewsCowModel" "position" "I") (by decide +kernel)
  have fl29 := hts (.fieldLink RX8 29 "NewsCowModel" "read" "[I") (by decide +kernel)
  have fl96 := hts (.fieldLink RX8 96 "NewsCowModel" "number" "I") (by decide +kernel)
  have hl := lv_entry ([.ref m_mo] : List Value) (n := 2) (Nat.le_of_ble_eq_true rfl)
  rw [lg_entry_eq]
  generalize (lg_sl ([.ref m_mo] : List Value) ++ List.replicate (2 - (lg_sl ([.ref m_mo] : List Value)).length) Slot.unset).toArray = ls at hl ⊢
  have hl : lv_has ls 2 [(0, .ref m_mo)] := hl
  unfold wp_X8_isTasterItem at hw
  refine lv_aload_n hx hb dX8_isTasterItem_0 rfl (lv_at hl 0 rfl) ?_
  refine x_cMi (wr := [(m_aread, .inl (G 0, 55, .inl m_read))]) (va_runV (As := []) (rest := []) ⟨hx, hb, hml, hown, hts⟩ (c_X8_peek l D G _ m_mo m_alane m_asize m_aitem m_atape m_anow m_atried m_aread m_akept m_anoticed m_aneeds m_aorder m_letters m_position m_number m_isKept m_many m_one m_two m_tape _ hw) (cwV 0 hts gX8_isTasterItem_X8_peek rfl rfl rfl (by decide +kernel) ⟨(Nat.le_of_ble_eq_true rfl), (Nat.le_of_ble_eq_true rfl)⟩) (xM_pv (hP.sub [0, 1] rfl) hK (hD.sub [0, 1] (by decide) rfl) (va_recv hK hP (ci := 8) (q0 := 0) rfl rfl)) rfl rfl hl.1 rfl (lv_room (Nat.le_of_ble_eq_true rfl)) dX8_isTasterItem_1 ⟨Nat.zero_le _, Nat.zero_le _⟩) hP hD hS hA [0, 1] [2] rfl rfl (by decide) (by decide) [1, 2, 0] (fun u => [(m_mo, .inr (8, [.ref m_alane, .ref m_asize, .ref m_aitem, .int m_letters, .ref m_atape, .int u, .int m_number, .ref m_anow, .ref m_atried, .ref m_aread, .ref m_akept, .int m_isKept, .ref m_anoticed, .ref m_aneeds, .ref m_aorder, .int m_many, .int m_one, .int m_two])), (m_atape, .inl (G 0, 40, .inl m_tape)), (m_aread, .inl (G 0, 55, .inl m_read))]) (by decide) (fun u => rfl) (fun r1 u H locs hw hP hD hS => ?_)
  obtain ⟨m_position_1, rfl⟩ : ∃ z, z = u := ⟨_, rfl⟩
  try dsimp only at hw
  replace hP : va_P D vwCl [(m_mo, .inr (8, [.ref m_alane, .ref m_asize, .ref m_aitem, .int m_letters, .ref m_atape, .int m_position_1, .int m_number, .ref m_anow, .ref m_atried, .ref m_aread, .ref m_akept, .int m_isKept, .ref m_anoticed, .ref m_aneeds, .ref m_aorder, .int m_many, .int m_one, .int m_two])), (m_atape, .inl (G 0, 40, .inl m_tape)), (m_aread, .inl (G 0, 55, .inl m_read))] H := hP
  replace hD : va_D A [(m_mo, .inr (8, [.ref m_alane, .ref m_asize, .ref m_aitem, .int m_letters, .ref m_atape, .int m_position_1, .int m_number, .ref m_anow, .ref m_atried, .ref m_aread, .ref m_akept, .int m_isKept, .ref m_anoticed, .ref m_aneeds, .ref m_aorder, .int m_many, .int m_one, .int m_two])), (m_atape, .inl (G 0, 40, .inl m_tape)), (m_aread, .inl (G 0, 55, .inl m_read))] := hD
  refine vp_callSi (W.runS (As := [.int r1]) (rest := []) ⟨hx, hb, hml, hown, hts⟩ (c_X8_kindBy l D G r1 _ hw) (va_cwS 1 hts gX8_isTasterItem_X8_kindBy rfl rfl rfl (by decide +kernel) ⟨(Nat.le_of_ble_eq_true rfl), (Nat.le_of_ble_eq_true rfl)⟩) (xR_ps (hP.sub [] rfl) hK) rfl rfl hl.1 rfl (lv_room (Nat.le_of_ble_eq_true rfl)) dX8_isTasterItem_4 ⟨Nat.zero_le _, Nat.zero_le _⟩) (fun r2 hw => ?_)
  refine lv_istore_n (lv' := [(1, .int r2), (0, .ref m_mo)]) hx hb dX8_isTasterItem_7 rfl hl (by decide) rfl (fun ls hl => ?_)
  refine lv_iload_n hx hb dX8_isTasterItem_8 rfl (lv_at hl 0 rfl) ?_
  refine lv_if_ge (tgt := 14) hx hb dX8_isTasterItem_9 (by decide) (fun c9 => ?_) (fun c9 => ?_)
  · replace hw := hw.1 c9
    refine lv_aload_n hx hb dX8_isTasterItem_14 rfl (lv_at hl 1 rfl) ?_
    refine lv_dup hx hb dX8_isTasterItem_15 rfl ?_
    refine va_get (D := D) (ci := 8) (v := .int m_position_1) (C := RX8) (T := TX8) (N := 18) hx hb hts inX8 hown hK hP 0 rfl rfl 5 (by decide) fl89 (fun _ h9 => h9) rfl dX8_isTasterItem_16 ?_
    refine lv_iconst (v := 1) hx hb dX8_isTasterItem_19 (by decide) ?_
    refine lv_iadd hx hb dX8_isTasterItem_20 ?_
    refine va_put (D := D) (ci := 8) (v := .int (m_position_1 + (1 : Int32))) (ty := .int) (C := RX8) (T := TX8) (N := 18) hx hb hts inX8 tyX8 tyX8_ok nmX8 hown hK hP hD hS 0 rfl rfl 5 (by decide) fl89 (fun _ h9 => h9) rfl (by decide +kernel) rfl rfl (Nat.le_of_ble_eq_true rfl) dX8_isTasterItem_21 (fun H locs hP hD hS => ?_)
    replace hP : va_P D vwCl [(m_mo, .inr (8, [.ref m_alane, .ref m_asize, .ref m_aitem, .int m_letters, .ref m_atape, .int (m_position_1 + (1 : Int32)), .int m_number, .ref m_anow, .ref m_atried, .ref m_aread, .ref m_akept, .int m_isKept, .ref m_anoticed, .ref m_aneeds, .ref m_aorder, .int m_many, .int m_one, .int m_two])), (m_atape, .inl (G 0, 40, .inl m_tape)), (m_aread, .inl (G 0, 55, .inl m_read))] H := hP
    replace hD : va_D A [(m_mo, .inr (8, [.ref m_alane, .ref m_asize, .ref m_aitem, .int m_letters, .ref m_atape, .int (m_position_1 + (1 : Int32)), .int m_number, .ref m_anow, .ref m_atried, .ref m_aread, .ref m_akept, .int m_isKept, .ref m_anoticed, .ref m_aneeds, .ref m_aorder, .int m_many, .int m_one, .int m_two])), (m_atape, .inl (G 0, 40, .inl m_tape)), (m_aread, .inl (G 0, 55, .inl m_read))] := hD
    refine lv_aload_n hx hb dX8_isTasterItem_24 rfl (lv_at hl 1 rfl) ?_
    refine lv_iconst (v := 1) hx hb dX8_isTasterItem_25 (by decide) ?_
    refine lv_bipush (v := 9) hx hb dX8_isTasterItem_26 (by decide) ?_
    refine x_cMi (wr := [(m_aread, .inl (G 0, 55, .inl m_read))]) (va_runV (As := [.int (1 : Int32), .int (9 : Int32)]) (rest := []) ⟨hx, hb, hml, hown, hts⟩ (c_X8_isDigit l D G _ m_mo m_alane m_asize m_aitem m_atape m_anow m_atried m_aread m_akept m_anoticed m_aneeds m_aorder m_letters (m_position_1 + (1 : Int32)) m_number m_isKept m_many m_one m_two m_tape (1 : Int32) (9 : Int32) _ hw) (cwV 2 hts gX8_isTasterItem_X8_isDigit rfl rfl rfl (by decide +kernel) ⟨(Nat.le_of_ble_eq_true rfl), (Nat.le_of_ble_eq_true rfl)⟩) (xM_pv (hP.sub [0, 1] rfl) hK (hD.sub [0, 1] (by decide) rfl) (va_recv hK hP (ci := 8) (q0 := 0) rfl rfl)) rfl rfl hl.1 rfl (lv_room (Nat.le_of_ble_eq_true rfl)) dX8_isTasterItem_28 ⟨Nat.zero_le _, Nat.zero_le _⟩) hP hD hS hA [0, 1] [2] rfl rfl (by decide) (by decide) [1, 2, 0] (fun u => [(m_mo, .inr (8, [.ref m_alane, .ref m_asize, .ref m_aitem, .int m_letters, .ref m_atape, .int u.1, .int u.2, .ref m_anow, .ref m_atried, .ref m_aread, .ref m_akept, .int m_isKept, .ref m_anoticed, .ref m_aneeds, .ref m_aorder, .int m_many, .int m_one, .int m_two])), (m_atape, .inl (G 0, 40, .inl m_tape)), (m_aread, .inl (G 0, 55, .inl m_read))]) (by decide) (fun u => rfl) (fun r3 u H locs hw hP hD hS => ?_)
    obtain ⟨m_position_3, m_number_3⟩ := u
    try dsimp only at hw
    replace hP : va_P D vwCl [(m_mo, .inr (8, [.ref m_alane, .ref m_asize, .ref m_aitem, .int m_letters, .ref m_atape, .int m_position_3, .int m_number_3, .ref m_anow, .ref m_atried, .ref m_aread, .ref m_akept, .int m_isKept, .ref m_anoticed, .ref m_aneeds, .ref m_aorder, .int m_many, .int m_one, .int m_two])), (m_atape, .inl (G 0, 40, .inl m_tape)), (m_aread, .inl (G 0, 55, .inl m_read))] H := hP
    replace hD : va_D A [(m_mo, .inr (8, [.ref m_alane, .ref m_asize, .ref m_aitem, .int m_letters, .ref m_atape, .int m_position_3, .int m_number_3, .ref m_anow, .ref m_atried, .ref m_aread, .ref m_akept, .int m_isKept, .ref m_anoticed, .ref m_aneeds, .ref m_aorder, .int m_many, .int m_one, .int m_two])), (m_atape, .inl (G 0, 40, .inl m_tape)), (m_aread, .inl (G 0, 55, .inl m_read))] := hD
    refine lv_if_ne (tgt := 36) hx hb dX8_isTasterItem_31 (by decide) (fun c9 => ?_) (fun c9 => ?_)
    · replace hw := hw.1 c9
      refine lv_aload_n hx hb dX8_isTasterItem_36 rfl (lv_at hl 1 rfl) ?_
      refine va_get (D := D) (ci := 8) (v := .ref m_aread) (C := RX8) (T := TX8) (N := 18) hx hb hts inX8 hown hK hP 0 rfl rfl 9 (by decide) fl29 (fun _ h9 => h9) rfl dX8_isTasterItem_37 ?_
      refine lv_iload_n hx hb dX8_isTasterItem_40 rfl (lv_at hl 0 rfl) ?_
      refine lv_aload_n hx hb dX8_isTasterItem_41 rfl (lv_at hl 1 rfl) ?_
      refine va_get (D := D) (ci := 8) (v := .int m_number_3) (C := RX8) (T := TX8) (N := 18) hx hb hts inX8 hown hK hP 0 rfl rfl 6 (by decide) fl96 (fun _ h9 => h9) rfl dX8_isTasterItem_42 ?_
      refine x_cMi (wr := [(m_mo, .inr (8, [.ref m_alane, .ref m_asize, .ref m_aitem, .int m_letters, .ref m_atape, .int m_position_3, .int m_number_3, .ref m_anow, .ref m_atried, .ref m_aread, .ref m_akept, .int m_isKept, .ref m_anoticed, .ref m_aneeds, .ref m_aorder, .int m_many, .int m_one, .int m_two])), (m_atape, .inl (G 0, 40, .inl m_tape))]) (va_runS (As := [.ref m_aread, .int r2, .int m_number_3]) (rest := []) ⟨hx, hb, hml, hown, hts⟩ (c_X8_addTaster l D G _ m_aread m_read r2 m_number_3 _ hw) (va_cwS 3 hts gX8_isTasterItem_X8_addTaster rfl rfl rfl (by decide +kernel) ⟨(Nat.le_of_ble_eq_true rfl), (Nat.le_of_ble_eq_true rfl)⟩) (xM_ps (hP.sub [2] rfl) hK (hD.sub [2] (by decide) rfl)) rfl rfl hl.1 rfl (lv_room (Nat.le_of_ble_eq_true rfl)) dX8_isTasterItem_45 ⟨Nat.zero_le _, Nat.zero_le _⟩) hP hD hS hA [2] [0, 1] rfl rfl (by decide) (by decide) [0, 1, 2] (fun u => [(m_mo, .inr (8, [.ref m_alane, .ref m_asize, .ref m_aitem, .int m_letters, .ref m_atape, .int m_position_3, .int m_number_3, .ref m_anow, .ref m_atried, .ref m_aread, .ref m_akept, .int m_isKept, .ref m_anoticed, .ref m_aneeds, .ref m_aorder, .int m_many, .int m_one, .int m_two])), (m_atape, .inl (G 0, 40, .inl m_tape)), (m_aread, .inl (G 0, 55, .inl u))]) (by decide) (fun u => rfl) (fun r4 u H locs hw hP hD hS => ?_)
      obtain ⟨v0_4, rfl⟩ : ∃ z, z = u := ⟨_, rfl⟩
      try dsimp only at hw
      replace hP : va_P D vwCl [(m_mo, .inr (8, [.ref m_alane, .ref m_asize, .ref m_aitem, .int m_letters, .ref m_atape, .int m_position_3, .int m_number_3, .ref m_anow, .ref m_atried, .ref m_aread, .ref m_akept, .int m_isKept, .ref m_anoticed, .ref m_aneeds, .ref m_aorder, .int m_many, .int m_one, .int m_two])), (m_atape, .inl (G 0, 40, .inl m_tape)), (m_aread, .inl (G 0, 55, .inl v0_4))] H := hP
      replace hD : va_D A [(m_mo, .inr (8, [.ref m_alane, .ref m_asize, .ref m_aitem, .int m_letters, .ref m_atape, .int m_position_3, .int m_number_3, .ref m_anow, .ref m_atried, .ref m_aread, .ref m_akept, .int m_isKept, .ref m_anoticed, .ref m_aneeds, .ref m_aorder, .int m_many, .int m_one, .int m_two])), (m_atape, .inl (G 0, 40, .inl m_tape)), (m_aread, .inl (G 0, 55, .inl v0_4))] := hD
      refine lv_pop hx hb dX8_isTasterItem_48 rfl ?_
      refine lv_iconst (v := 1) hx hb dX8_isTasterItem_49 (by decide) ?_
      exact W.zret hx hb hr rfl (x_mi (u := (m_position_3, m_number_3, v0_4)) hP hK hD hS hw) hS.2.2 dX8_isTasterItem_50
    · replace hw := hw.2 c9
      refine lv_iconst (v := 0) hx hb dX8_isTasterItem_34 (by decide) ?_
      exact W.zret hx hb hr rfl (x_mi (u := (m_position_3, m_number_3, m_read)) hP hK hD hS hw) hS.2.2 dX8_isTasterItem_35
  · replace hw := hw.2 c9
    refine lv_iconst (v := 0) hx hb dX8_isTasterItem_12 (by decide) ?_
    exact W.zret hx hb hr rfl (x_mi (u := (m_position_1, m_number, m_read)) hP hK hD hS hw) hS.2.2 dX8_isTasterItem_13
set_option maxHeartbeats 4000000 in
set_option maxRecDepth 100000 in
theorem c_X8_isHerd (l : Launch) (D : va_G) (G : Nat → ClassId) (sz : Nat) (m_mo : Nat) (m_alane : Nat) (m_asize : Nat) (m_aitem : Nat) (m_atape : Nat) (m_anow : Nat) (m_atried : Nat) (m_aread : Nat) (m_akept : Nat) (m_anoticed : Nat) (m_aneeds : Nat) (m_aorder : Nat) (m_letters : Int32) (m_position : Int32) (m_number : Int32) (m_isKept : Int32) (m_many : Int32) (m_one : Int32) (m_two : Int32) (m_tape : Nat → Int32) (m_read : Nat → Int32) (post : Int32 → Int32 → Int32 → (Nat → Int32) → Prop) (hw : wp_X8_isHerd m_letters m_position m_tape m_read post) : Met l yX8_isHerd wsX8_isHerd ({ frames := 3, cells := 0, slots := 0, locals := 65 } : Room) (va_Pc [.ref m_mo] (xM D G sz [(m_mo, .inr (8, [.ref m_alane, .ref m_asize, .ref m_aitem, .int m_letters, .ref m_atape, .int m_position, .int m_number, .ref m_anow, .ref m_atried, .ref m_aread, .ref m_akept, .int m_isKept, .ref m_anoticed, .ref m_aneeds, .ref m_aorder, .int m_many, .int m_one, .int m_two])), (m_atape, .inl (G 0, 40, .inl m_tape)), (m_aread, .inl (G 0, 55, .inl m_read))])) (va_Qi (fun r (u : Int32 × Int32 × (Nat → Int32)) => post r u.1 u.2.1 u.2.2) (fun u t => xE D G (va_A [(m_mo, .inr (8, [.ref m_alane, .ref m_asize, .ref m_aitem, .int m_letters, .ref m_atape, .int m_position, .int m_number, .ref m_anow, .ref m_atried, .ref m_aread, .ref m_akept, .int m_isKept, .ref m_anoticed, .ref m_aneeds, .ref m_aorder, .int m_many, .int m_one, .int m_two])), (m_atape, .inl (G 0, 40, .inl m_tape)), (m_aread, .inl (G 0, 55, .inl m_read))] sz) [(m_mo, .inr (8, [.ref m_alane, .ref m_asize, .ref m_aitem, .int m_letters, .ref m_atape, .int u.1, .int u.2.1, .ref m_anow, .ref m_atried, .ref m_aread, .ref m_akept, .int m_isKept, .ref m_anoticed, .ref m_aneeds, .ref m_aorder, .int m_many, .int m_one, .int m_two])), (m_atape, .inl (G 0, 40, .inl m_tape)), (m_aread, .inl (G 0, 55, .inl (u.2.2)))] t) (va_A [(m_mo, .inr (8, [.ref m_alane, .ref m_asize, .ref m_aitem, .int m_letters, .ref m_atape, .int m_position, .int m_number, .ref m_anow, .ref m_atried, .ref m_aread, .ref m_akept, .int m_isKept, .ref m_anoticed, .ref m_aneeds, .ref m_aorder, .int m_many, .int m_one, .int m_two])), (m_atape, .inl (G 0, 40, .inl m_tape)), (m_aread, .inl (G 0, 55, .inl m_read))] sz)) 0 0 (va_A [(m_mo, .inr (8, [.ref m_alane, .ref m_asize, .ref m_aitem, .int m_letters, .ref m_atape, .int m_position, .int m_number, .ref m_anow, .ref m_atried, .ref m_aread, .ref m_akept, .int m_isKept, .ref m_anoticed, .ref m_aneeds, .ref m_aorder, .int m_many, .int m_one, .int m_two])), (m_atape, .inl (G 0, 40, .inl m_tape)), (m_aread, .inl (G 0, 55, .inl m_read))] sz) := by
  refine Met.ofW (cc := cX8_isHerd) (maxL := 2) (ret := (some .boolean)) (by decide) rfl ?_
  intro p e s m args below meth c s₁ B hml hv
  obtain ⟨rfl, hsz, hP, hK, hD0⟩ := hv
  have hx := B.exec
  have hb := B.bytes
  have hr := B.returns
  have hts := atoms_spec (ws := wsX8_isHerd) B.pre
  have hown : s.vm.findClass RX8 = some m.cls := findClass_of_methodNamed B.named
  have hlocks := B.notSynchronized
  subst hsz
  have hD := hD0.self (sz := s.heap.size)
  generalize hAe : va_A [(m_mo, .inr (8, [.ref m_alane, .ref m_asize, .ref m_aitem, .int m_letters, .ref m_atape, .int m_position, .int m_number, .ref m_anow, .ref m_atried, .ref m_aread, .ref m_akept, .int m_isKept, .ref m_anoticed, .ref m_aneeds, .ref m_aorder, .int m_many, .int m_one, .int m_two])), (m_atape, .inl (G 0, 40, .inl m_tape)), (m_aread, .inl (G 0, 55, .inl m_read))] s.heap.size = A at hD ⊢
  have hA : ∀ q : Nat, s.heap.size ≤ q → A q := fun q h => by rw [← hAe]; exact Or.inr h
  have hS : va_S A s.heap s.heap [] := va_S.rf
  have inX8 : ∀ w ∈ wsX80, w ∈ wsX8_isHerd := by decide +kernel
  have fl29 := hts (.fieldLink RX8 29 "NewsCowModel" "read" "[I") (by decide +kernel)
  have hl := lv_entry ([.ref m_mo] : List Value) (n := 2) (Nat.le_of_ble_eq_true rfl)
  rw [lg_entry_eq]
  generalize (lg_sl ([.ref m_mo] : List Value) ++ List.replicate (2 - (lg_sl ([.ref m_mo] : List Value)).length) Slot.unset).toArray = ls at hl ⊢
  have hl : lv_has ls 2 [(0, .ref m_mo)] := hl
  unfold wp_X8_isHerd at hw
  have L16 : ∀ (f16 : Nat) (x1 : Int32) (m_position : Int32) (m_number : Int32) (m_read : Nat → Int32) (H : Heap) (locs : List Loc) (ls : Array Slot), wp_X8_isHerd_L16 m_letters m_tape post f16 m_position m_number m_read x1 → va_P D vwCl [(m_mo, .inr (8, [.ref m_alane, .ref m_asize, .ref m_aitem, .int m_letters, .ref m_atape, .int m_position, .int m_number, .ref m_anow, .ref m_atried, .ref m_aread, .ref m_akept, .int m_isKept, .ref m_anoticed, .ref m_aneeds, .ref m_aorder, .int m_many, .int m_one, .int m_two])), (m_atape, .inl (G 0, 40, .inl m_tape)), (m_aread, .inl (G 0, 55, .inl m_read))] H → va_D A [(m_mo, .inr (8, [.ref m_alane, .ref m_asize, .ref m_aitem, .int m_letters, .ref m_atape, .int m_position, .int m_number, .ref m_anow, .ref m_atried, .ref m_aread, .ref m_akept, .int m_isKept, .ref m_anoticed, .ref m_aneeds, .ref m_aorder, .int m_many, .int m_one, .int m_two])), (m_atape, .inl (G 0, 40, .inl m_tape)), (m_aread, .inl (G 0, 55, .inl m_read))] → va_S A s.heap H locs → lv_has ls 2 [(0, .ref m_mo), (1, .int x1)] → W p l e (headSpec wsX8_isHerd ({ frames := 3, cells := 0, slots := 0, locals := 65 } : Room)).room s m ([.ref m_mo] : List Value).toArray below meth c H locs 0 0 (MQ below (va_Qi (fun r (u : Int32 × Int32 × (Nat → Int32)) => post r u.1 u.2.1 u.2.2) (fun u t => xE D G A [(m_mo, .inr (8, [.ref m_alane, .ref m_asize, .ref m_aitem, .int m_letters, .ref m_atape, .int u.1, .int u.2.1, .ref m_anow, .ref m_atried, .ref m_aread, .ref m_akept, .int m_isKept, .ref m_anoticed, .ref m_aneeds, .ref m_aorder, .int m_many, .int m_one, .int m_two])), (m_atape, .inl (G 0, 40, .inl m_tape)), (m_aread, .inl (G 0, 55, .inl (u.2.2)))] t) A) ([.ref m_mo] : List Value).toArray s 0 0 A) (F0 m 16 ls []) := by
    intro f16
    induction f16 with
    | zero => intro x1 m_position m_number m_read H locs ls hw hP hD hS hl; exact (hw : False).elim
    | succ f16 ih16 =>
      intro x1 m_position m_number m_read H locs ls hw hP hD hS hl
      unfold wp_X8_isHerd_L16 at hw
      refine lv_iload_n hx hb dX8_isHerd_16 rfl (lv_at hl 1 rfl) ?_
      refine lv_if_eq (tgt := 58) hx hb dX8_isHerd_17 (by decide) (fun c9 => ?_) (fun c9 => ?_)
      · replace hw := hw.1 c9
        refine lv_aload_n hx hb dX8_isHerd_58 rfl (lv_at hl 0 rfl) ?_
        refine x_cMi (wr := [(m_aread, .inl (G 0, 55, .inl m_read))]) (va_runV (As := []) (rest := []) ⟨hx, hb, hml, hown, hts⟩ (c_X8_peek l D G _ m_mo m_alane m_asize m_aitem m_atape m_anow m_atried m_aread m_akept m_anoticed m_aneeds m_aorder m_letters m_position m_number m_isKept m_many m_one m_two m_tape _ hw) (cwV 0 hts gX8_isHerd_X8_peek rfl rfl rfl (by decide +kernel) ⟨(Nat.le_of_ble_eq_true rfl), (Nat.le_of_ble_eq_true rfl)⟩) (xM_pv (hP.sub [0, 1] rfl) hK (hD.sub [0, 1] (by decide) rfl) (va_recv hK hP (ci := 8) (q0 := 0) rfl rfl)) rfl rfl hl.1 rfl (lv_room (Nat.le_of_ble_eq_true rfl)) dX8_isHerd_59 ⟨Nat.zero_le _, Nat.zero_le _⟩) hP hD hS hA [0, 1] [2] rfl rfl (by decide) (by decide) [1, 2, 0] (fun u => [(m_mo, .inr (8, [.ref m_alane, .ref m_asize, .ref m_aitem, .int m_letters, .ref m_atape, .int u, .int m_number, .ref m_anow, .ref m_atried, .ref m_aread, .ref m_akept, .int m_isKept, .ref m_anoticed, .ref m_aneeds, .ref m_aorder, .int m_many, .int m_one, .int m_two])), (m_atape, .inl (G 0, 40, .inl m_tape)), (m_aread, .inl (G 0, 55, .inl m_read))]) (by decide) (fun u => rfl) (fun r3 u H locs hw hP hD hS => ?_)
        obtain ⟨m_position_3, rfl⟩ : ∃ z, z = u := ⟨_, rfl⟩
        try dsimp only at hw
        replace hP : va_P D vwCl [(m_mo, .inr (8, [.ref m_alane, .ref m_asize, .ref m_aitem, .int m_letters, .ref m_atape, .int m_position_3, .int m_number, .ref m_anow, .ref m_atried, .ref m_aread, .ref m_akept, .int m_isKept, .ref m_anoticed, .ref m_aneeds, .ref m_aorder, .int m_many, .int m_one, .int m_two])), (m_atape, .inl (G 0, 40, .inl m_tape)), (m_aread, .inl (G 0, 55, .inl m_read))] H := hP
        replace hD : va_D A [(m_mo, .inr (8, [.ref m_alane, .ref m_asize, .ref m_aitem, .int m_letters, .ref m_atape, .int m_position_3, .int m_number, .ref m_anow, .ref m_atried, .ref m_aread, .ref m_akept, .int m_isKept, .ref m_anoticed, .ref m_aneeds, .ref m_aorder, .int m_many, .int m_one, .int m_two])), (m_atape, .inl (G 0, 40, .inl m_tape)), (m_aread, .inl (G 0, 55, .inl m_read))] := hD
        refine lv_if_ne (tgt := 69) hx hb dX8_isHerd_62 (by decide) (fun c9 => ?_) (fun c9 => ?_)
        · replace hw := hw.1 c9
          refine lv_iconst (v := 0) hx hb dX8_isHerd_69 (by decide) ?_
          exact W.zret hx hb hr rfl (x_mi (u := (m_position_3, m_number, m_read)) hP hK hD hS hw) hS.2.2 dX8_isHerd_70
        · replace hw := hw.2 c9
          refine lv_iconst (v := 1) hx hb dX8_isHerd_65 (by decide) ?_
          refine lv_goto (tgt := 70) hx hb dX8_isHerd_66 (by decide) ?_
          exact W.zret hx hb hr rfl (x_mi (u := (m_position_3, m_number, m_read)) hP hK hD hS hw) hS.2.2 dX8_isHerd_70
      · replace hw := hw.2 c9
        refine lv_aload_n hx hb dX8_isHerd_20 rfl (lv_at hl 0 rfl) ?_
        refine x_cMi (wr := []) (va_runV (As := []) (rest := []) ⟨hx, hb, hml, hown, hts⟩ (c_X8_isTasterItem l D G _ m_mo m_alane m_asize m_aitem m_atape m_anow m_atried m_aread m_akept m_anoticed m_aneeds m_aorder m_letters m_position m_number m_isKept m_many m_one m_two m_tape m_read _ hw) (cwV 0 hts gX8_isHerd_X8_isTasterItem rfl rfl rfl (by decide +kernel) ⟨(Nat.le_of_ble_eq_true rfl), (Nat.le_of_ble_eq_true rfl)⟩) (xM_pv (hP.sub [0, 1, 2] rfl) hK (hD.sub [0, 1, 2] (by decide) rfl) (va_recv hK hP (ci := 8) (q0 := 0) rfl rfl)) rfl rfl hl.1 rfl (lv_room (Nat.le_of_ble_eq_true rfl)) dX8_isHerd_21 ⟨Nat.zero_le _, Nat.zero_le _⟩) hP hD hS hA [0, 1, 2] [] rfl rfl (by decide) (by decide) [0, 1, 2] (fun u => [(m_mo, .inr (8, [.ref m_alane, .ref m_asize, .ref m_aitem, .int m_letters, .ref m_atape, .int u.1, .int u.2.1, .ref m_anow, .ref m_atried, .ref m_aread, .ref m_akept, .int m_isKept, .ref m_anoticed, .ref m_aneeds, .ref m_aorder, .int m_many, .int m_one, .int m_two])), (m_atape, .inl (G 0, 40, .inl m_tape)), (m_aread, .inl (G 0, 55, .inl (u.2.2)))]) (by decide) (fun u => rfl) (fun r4 u H locs hw hP hD hS => ?_)
        obtain ⟨m_position_4, m_number_4, m_read_4⟩ := u
        try dsimp only at hw
        replace hP : va_P D vwCl [(m_mo, .inr (8, [.ref m_alane, .ref m_asize, .ref m_aitem, .int m_letters, .ref m_atape, .int m_position_4, .int m_number_4, .ref m_anow, .ref m_atried, .ref m_aread, .ref m_akept, .int m_isKept, .ref m_anoticed, .ref m_aneeds, .ref m_aorder, .int m_many, .int m_one, .int m_two])), (m_atape, .inl (G 0, 40, .inl m_tape)), (m_aread, .inl (G 0, 55, .inl m_read_4))] H := hP
        replace hD : va_D A [(m_mo, .inr (8, [.ref m_alane, .ref m_asize, .ref m_aitem, .int m_letters, .ref m_atape, .int m_position_4, .int m_number_4, .ref m_anow, .ref m_atried, .ref m_aread, .ref m_akept, .int m_isKept, .ref m_anoticed, .ref m_aneeds, .ref m_aorder, .int m_many, .int m_one, .int m_two])), (m_atape, .inl (G 0, 40, .inl m_tape)), (m_aread, .inl (G 0, 55, .inl m_read_4))] := hD
        refine lv_if_ne (tgt := 29) hx hb dX8_isHerd_24 (by decide) (fun c9 => ?_) (fun c9 => ?_)
        · replace hw := hw.1 c9
          refine lv_aload_n hx hb dX8_isHerd_29 rfl (lv_at hl 0 rfl) ?_
          refine va_get (D := D) (ci := 8) (v := .ref m_aread) (C := RX8) (T := TX8) (N := 18) hx hb hts inX8 hown hK hP 0 rfl rfl 9 (by decide) fl29 (fun _ h9 => h9) rfl dX8_isHerd_30 ?_
          refine lv_bipush (v := 13) hx hb dX8_isHerd_33 (by decide) ?_
          refine x_iald (j := 13) hx hb hK hP 2 0 rfl rfl (by decide) (x_in (by decide)) dX8_isHerd_35 ?_
          refine lv_iconst (v := 4) hx hb dX8_isHerd_36 (by decide) ?_
          refine lv_icmp_ge (tgt := 53) hx hb dX8_isHerd_37 (by decide) (fun c9 => ?_) (fun c9 => ?_)
          · replace hw := hw.1 c9
            refine lv_iconst (v := 0) hx hb dX8_isHerd_53 (by decide) ?_
            refine lv_istore_n (lv' := [(1, .int (0 : Int32)), (0, .ref m_mo)]) hx hb dX8_isHerd_54 rfl hl (by decide) rfl (fun ls hl => ?_)
            refine lv_goto (tgt := 16) hx hb dX8_isHerd_55 (by decide) ?_
            exact ih16 (0 : Int32) m_position_4 m_number_4 m_read_4 _ _ _ hw hP hD hS (lv_sub hl [1, 0] rfl)
          · replace hw := hw.2 c9
            refine lv_aload_n hx hb dX8_isHerd_40 rfl (lv_at hl 0 rfl) ?_
            refine lv_bipush (v := 44) hx hb dX8_isHerd_41 (by decide) ?_
            refine x_cMi (wr := [(m_aread, .inl (G 0, 55, .inl m_read_4))]) (va_runV (As := [.int (44 : Int32)]) (rest := []) ⟨hx, hb, hml, hown, hts⟩ (c_X8_isSign l D G _ m_mo m_alane m_asize m_aitem m_atape m_anow m_atried m_aread m_akept m_anoticed m_aneeds m_aorder m_letters m_position_4 m_number_4 m_isKept m_many m_one m_two m_tape (44 : Int32) _ hw) (cwV 1 hts gX8_isHerd_X8_isSign rfl rfl rfl (by decide +kernel) ⟨(Nat.le_of_ble_eq_true rfl), (Nat.le_of_ble_eq_true rfl)⟩) (xM_pv (hP.sub [0, 1] rfl) hK (hD.sub [0, 1] (by decide) rfl) (va_recv hK hP (ci := 8) (q0 := 0) rfl rfl)) rfl rfl hl.1 rfl (lv_room (Nat.le_of_ble_eq_true rfl)) dX8_isHerd_43 ⟨Nat.zero_le _, Nat.zero_le _⟩) hP hD hS hA [0, 1] [2] rfl rfl (by decide) (by decide) [1, 2, 0] (fun u => [(m_mo, .inr (8, [.ref m_alane, .ref m_asize, .ref m_aitem, .int m_letters, .ref m_atape, .int u, .int m_number_4, .ref m_anow, .ref m_atried, .ref m_aread, .ref m_akept, .int m_isKept, .ref m_anoticed, .ref m_aneeds, .ref m_aorder, .int m_many, .int m_one, .int m_two])), (m_atape, .inl (G 0, 40, .inl m_tape)), (m_aread, .inl (G 0, 55, .inl m_read_4))]) (by decide) (fun u => rfl) (fun r5 u H locs hw hP hD hS => ?_)
            obtain ⟨m_position_5, rfl⟩ : ∃ z, z = u := ⟨_, rfl⟩
            try dsimp only at hw
            replace hP : va_P D vwCl [(m_mo, .inr (8, [.ref m_alane, .ref m_asize, .ref m_aitem, .int m_letters, .ref m_atape, .int m_position_5, .int m_number_4, .ref m_anow, .ref m_atried, .ref m_aread, .ref m_akept, .int m_isKept, .ref m_anoticed, .ref m_aneeds, .ref m_aorder, .int m_many, .int m_one, .int m_two])), (m_atape, .inl (G 0, 40, .inl m_tape)), (m_aread, .inl (G 0, 55, .inl m_read_4))] H := hP
            replace hD : va_D A [(m_mo, .inr (8, [.ref m_alane, .ref m_asize, .ref m_aitem, .int m_letters, .ref m_atape, .int m_position_5, .int m_number_4, .ref m_anow, .ref m_atried, .ref m_aread, .ref m_akept, .int m_isKept, .ref m_anoticed, .ref m_aneeds, .ref m_aorder, .int m_many, .int m_one, .int m_two])), (m_atape, .inl (G 0, 40, .inl m_tape)), (m_aread, .inl (G 0, 55, .inl m_read_4))] := hD
            refine lv_if_eq (tgt := 53) hx hb dX8_isHerd_46 (by decide) (fun c9 => ?_) (fun c9 => ?_)
            · replace hw := hw.1 c9
              refine lv_iconst (v := 0) hx hb dX8_isHerd_53 (by decide) ?_
              refine lv_istore_n (lv' := [(1, .int (0 : Int32)), (0, .ref m_mo)]) hx hb dX8_isHerd_54 rfl hl (by decide) rfl (fun ls hl => ?_)
              refine lv_goto (tgt := 16) hx hb dX8_isHerd_55 (by decide) ?_
              exact ih16 (0 : Int32) m_position_5 m_number_4 m_read_4 _ _ _ hw hP hD hS (lv_sub hl [1, 0] rfl)
            · replace hw := hw.2 c9
              refine lv_iconst (v := 1) hx hb dX8_isHerd_49 (by decide) ?_
              refine lv_goto (tgt := 54) hx hb dX8_isHerd_50 (by decide) ?_
              refine lv_istore_n (lv' := [(1, .int (1 : Int32)), (0, .ref m_mo)]) hx hb dX8_isHerd_54 rfl hl (by decide) rfl (fun ls hl => ?_)
              refine lv_goto (tgt := 16) hx hb dX8_isHerd_55 (by decide) ?_
              exact ih16 (1 : Int32) m_position_5 m_number_4 m_read_4 _ _ _ hw hP hD hS (lv_sub hl [1, 0] rfl)
        · replace hw := hw.2 c9
          refine lv_iconst (v := 0) hx hb dX8_isHerd_27 (by decide) ?_
          exact W.zret hx hb hr rfl (x_mi (u := (m_position_4, m_number_4, m_read_4)) hP hK hD hS hw) hS.2.2 dX8_isHerd_28
  refine lv_aload_n hx hb dX8_isHerd_0 rfl (lv_at hl 0 rfl) ?_
  refine x_cMi (wr := []) (va_runV (As := []) (rest := []) ⟨hx, hb, hml, hown, hts⟩ (c_X8_isCows l D G _ m_mo m_alane m_asize m_aitem m_atape m_anow m_atried m_aread m_akept m_anoticed m_aneeds m_aorder m_letters m_position m_number m_isKept m_many m_one m_two m_tape m_read _ hw) (cwV 0 hts gX8_isHerd_X8_isCows rfl rfl rfl (by decide +kernel) ⟨(Nat.le_of_ble_eq_true rfl), (Nat.le_of_ble_eq_true rfl)⟩) (xM_pv (hP.sub [0, 1, 2] rfl) hK (hD.sub [0, 1, 2] (by decide) rfl) (va_recv hK hP (ci := 8) (q0 := 0) rfl rfl)) rfl rfl hl.1 rfl (lv_room (Nat.le_of_ble_eq_true rfl)) dX8_isHerd_1 ⟨Nat.zero_le _, Nat.zero_le _⟩) hP hD hS hA [0, 1, 2] [] rfl rfl (by decide) (by decide) [0, 1, 2] (fun u => [(m_mo, .inr (8, [.ref m_alane, .ref m_asize, .ref m_aitem, .int m_letters, .ref m_atape, .int u.1, .int u.2.1, .ref m_anow, .ref m_atried, .ref m_aread, .ref m_akept, .int m_isKept, .ref m_anoticed, .ref m_aneeds, .ref m_aorder, .int m_many, .int m_one, .int m_two])), (m_atape, .inl (G 0, 40, .inl m_tape)), (m_aread, .inl (G 0, 55, .inl (u.2.2)))]) (by decide) (fun u => rfl) (fun r1 u H locs hw hP hD hS => ?_)
  obtain ⟨m_position_1, m_number_1, m_read_1⟩ := u
  try dsimp only at hw
  replace hP : va_P D vwCl [(m_mo, .inr (8, [.ref m_alane, .ref m_asize, .ref m_aitem, .int m_letters, .ref m_atape, .int m_position_1, .int m_number_1, .ref m_anow, .ref m_atried, .ref m_aread, .ref m_akept, .int m_isKept, .ref m_anoticed, .ref m_aneeds, .ref m_aorder, .int m_many, .int m_one, .int m_two])), (m_atape, .inl (G 0, 40, .inl m_tape)), (m_aread, .inl (G 0, 55, .inl m_read_1))] H := hP
  replace hD : va_D A [(m_mo, .inr (8, [.ref m_alane, .ref m_asize, .ref m_aitem, .int m_letters, .ref m_atape, .int m_position_1, .int m_number_1, .ref m_anow, .ref m_atried, .ref m_aread, .ref m_akept, .int m_isKept, .ref m_anoticed, .ref m_aneeds, .ref m_aorder, .int m_many, .int m_one, .int m_two])), (m_atape, .inl (G 0, 40, .inl m_tape)), (m_aread, .inl (G 0, 55, .inl m_read_1))] := hD
  refine lv_if_ne (tgt := 9) hx hb dX8_isHerd_4 (by decide) (fun c9 => ?_) (fun c9 => ?_)
  · replace hw := hw.1 c9
    refine lv_aload_n hx hb dX8_isHerd_9 rfl (lv_at hl 0 rfl) ?_
    refine lv_bipush (v := 59) hx hb dX8_isHerd_10 (by decide) ?_
    refine x_cMi (wr := [(m_aread, .inl (G 0, 55, .inl m_read_1))]) (va_runV (As := [.int (59 : Int32)]) (rest := []) ⟨hx, hb, hml, hown, hts⟩ (c_X8_isSign l D G _ m_mo m_alane m_asize m_aitem m_atape m_anow m_atried m_aread m_akept m_anoticed m_aneeds m_aorder m_letters m_position_1 m_number_1 m_isKept m_many m_one m_two m_tape (59 : Int32) _ hw) (cwV 1 hts gX8_isHerd_X8_isSign rfl rfl rfl (by decide +kernel) ⟨(Nat.le_of_ble_eq_true rfl), (Nat.le_of_ble_eq_true rfl)⟩) (xM_pv (hP.sub [0, 1] rfl) hK (hD.sub [0, 1] (by decide) rfl) (va_recv hK hP (ci := 8) (q0 := 0) rfl rfl)) rfl rfl hl.1 rfl (lv_room (Nat.le_of_ble_eq_true rfl)) dX8_isHerd_12 ⟨Nat.zero_le _, Nat.zero_le _⟩) hP hD hS hA [0, 1] [2] rfl rfl (by decide) (by decide) [1, 2, 0] (fun u => [(m_mo, .inr (8, [.ref m_alane, .ref m_asize, .ref m_aitem, .int m_letters, .ref m_atape, .int u, .int m_number_1, .ref m_anow, .ref m_atried, .ref m_aread, .ref m_akept, .int m_isKept, .ref m_anoticed, .ref m_aneeds, .ref m_aorder, .int m_many, .int m_one, .int m_two])), (m_atape, .inl (G 0, 40, .inl m_tape)), (m_aread, .inl (G 0, 55, .inl m_read_1))]) (by decide) (fun u => rfl) (fun r2 u H locs hw hP hD hS => ?_)
    obtain ⟨m_position_2, rfl⟩ : ∃ z, z = u := ⟨_, rfl⟩
    try dsimp only at hw
    replace hP : va_P D vwCl [(m_mo, .inr (8, [.ref m_alane, .ref m_asize, .ref m_aitem, .int m_letters, .ref m_atape, .int m_position_2, .int m_number_1, .ref m_anow, .ref m_atried, .ref m_aread, .ref m_akept, .int m_isKept, .ref m_anoticed, .ref m_aneeds, .ref m_aorder, .int m_many, .int m_one, .int m_two])), (m_atape, .inl (G 0, 40, .inl m_tape)), (m_aread, .inl (G 0, 55, .inl m_read_1))] H := hP
    replace hD : va_D A [(m_mo, .inr (8, [.ref m_alane, .ref m_asize, .ref m_aitem, .int m_letters, .ref m_atape, .int m_position_2, .int m_number_1, .ref m_anow, .ref m_atried, .ref m_aread, .ref m_akept, .int m_isKept, .ref m_anoticed, .ref m_aneeds, .ref m_aorder, .int m_many, .int m_one, .int m_two])), (m_atape, .inl (G 0, 40, .inl m_tape)), (m_aread, .inl (G 0, 55, .inl m_read_1))] := hD
    refine lv_istore_n (lv' := [(1, .int r2), (0, .ref m_mo)]) hx hb dX8_isHerd_15 rfl hl (by decide) rfl (fun ls hl => ?_)
    obtain ⟨n, hw⟩ := hw
    exact L16 n r2 m_position_2 m_number_1 m_read_1 _ _ _ hw hP hD hS (lv_sub hl [1, 0] rfl)
  · replace hw := hw.2 c9
    refine lv_iconst (v := 0) hx hb dX8_isHerd_7 (by decide) ?_
    exact W.zret hx hb hr rfl (x_mi (u := (m_position_1, m_number_1, m_read_1)) hP hK hD hS hw) hS.2.2 dX8_isHerd_8
