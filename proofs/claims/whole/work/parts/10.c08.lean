set_option maxHeartbeats 4000000 in
set_option maxRecDepth 100000 in
theorem c_X8_herd (l : Launch) (D : va_G) (G : Nat → ClassId) (sz : Nat) (m_mo : Nat) (m_alane : Nat) (m_asize : Nat) (m_aitem : Nat) (m_atape : Nat) (m_anow : Nat) (m_atried : Nat) (m_aread : Nat) (m_akept : Nat) (m_anoticed : Nat) (m_aneeds : Nat) (m_aorder : Nat) (m_letters : Int32) (m_position : Int32) (m_number : Int32) (m_isKept : Int32) (m_many : Int32) (m_one : Int32) (m_two : Int32) (m_tape : Nat → Int32) (m_now : Nat → Int32) (m_read : Nat → Int32) (post : Int32 → Int32 → Int32 → Int32 → (Nat → Int32) → (Nat → Int32) → Prop) (hw : wp_X8_herd m_letters m_tape m_now m_read post) : Met l yX8_herd wsX8_herd ({ frames := 4, cells := 0, slots := 0, locals := 86 } : Room) (va_Pc [.ref m_mo] (xM D G sz [(m_mo, .inr (8, [.ref m_alane, .ref m_asize, .ref m_aitem, .int m_letters, .ref m_atape, .int m_position, .int m_number, .ref m_anow, .ref m_atried, .ref m_aread, .ref m_akept, .int m_isKept, .ref m_anoticed, .ref m_aneeds, .ref m_aorder, .int m_many, .int m_one, .int m_two])), (m_atape, .inl (G 0, 40, .inl m_tape)), (m_anow, .inl (G 0, 55, .inl m_now)), (m_aread, .inl (G 0, 55, .inl m_read))])) (va_Qi (fun r (u : Int32 × Int32 × Int32 × (Nat → Int32) × (Nat → Int32)) => post r u.1 u.2.1 u.2.2.1 u.2.2.2.1 u.2.2.2.2) (fun u t => xE D G (va_A [(m_mo, .inr (8, [.ref m_alane, .ref m_asize, .ref m_aitem, .int m_letters, .ref m_atape, .int m_position, .int m_number, .ref m_anow, .ref m_atried, .ref m_aread, .ref m_akept, .int m_isKept, .ref m_anoticed, .ref m_aneeds, .ref m_aorder, .int m_many, .int m_one, .int m_two])), (m_atape, .inl (G 0, 40, .inl m_tape)), (m_anow, .inl (G 0, 55, .inl m_now)), (m_aread, .inl (G 0, 55, .inl m_read))] sz) [(m_mo, .inr (8, [.ref m_alane, .ref m_asize, .ref m_aitem, .int u.1, .ref m_atape, .int u.2.1, .int u.2.2.1, .ref m_anow, .ref m_atried, .ref m_aread, .ref m_akept, .int m_isKept, .ref m_anoticed, .ref m_aneeds, .ref m_aorder, .int m_many, .int m_one, .int m_two])), (m_atape, .inl (G 0, 40, .inl m_tape)), (m_anow, .inl (G 0, 55, .inl (u.2.2.2.1))), (m_aread, .inl (G 0, 55, .inl (u.2.2.2.2)))] t) (va_A [(m_mo, .inr (8, [.ref m_alane, .ref m_asize, .ref m_aitem, .int m_letters, .ref m_atape, .int m_position, .int m_number, .ref m_anow, .ref m_atried, .ref m_aread, .ref m_akept, .int m_isKept, .ref m_anoticed, .ref m_aneeds, .ref m_aorder, .int m_many, .int m_one, .int m_two])), (m_atape, .inl (G 0, 40, .inl m_tape)), (m_anow, .inl (G 0, 55, .inl m_now)), (m_aread, .inl (G 0, 55, .inl m_read))] sz)) 0 0 (va_A [(m_mo, .inr (8, [.ref m_alane, .ref m_asize, .ref m_aitem, .int m_letters, .ref m_atape, .int m_position, .int m_number, .ref m_anow, .ref m_atried, .ref m_aread, .ref m_akept, .int m_isKept, .ref m_anoticed, .ref m_aneeds, .ref m_aorder, .int m_many, .int m_one, .int m_two])), (m_atape, .inl (G 0, 40, .inl m_tape)), (m_anow, .inl (G 0, 55, .inl m_now)), (m_aread, .inl (G 0, 55, .inl m_read))] sz) := by
  refine Met.ofW (cc := cX8_herd) (maxL := 2) (ret := (some .int)) (by decide) rfl ?_
  intro p e s m args below meth c s₁ B hml hv
  obtain ⟨rfl, hsz, hP, hK, hD0⟩ := hv
  have hx := B.exec
  have hb := B.bytes
  have hr := B.returns
  have hts := atoms_spec (ws := wsX8_herd) B.pre
  have hown : s.vm.findClass RX8 = some m.cls := findClass_of_methodNamed B.named
  have hlocks := B.notSynchronized
  subst hsz
  have hD := hD0.self (sz := s.heap.size)
  generalize hAe : va_A [(m_mo, .inr (8, [.ref m_alane, .ref m_asize, .ref m_aitem, .int m_letters, .ref m_atape, .int m_position, .int m_number, .ref m_anow, .ref m_atried, .ref m_aread, .ref m_akept, .int m_isKept, .ref m_anoticed, .ref m_aneeds, .ref m_aorder, .int m_many, .int m_one, .int m_two])), (m_atape, .inl (G 0, 40, .inl m_tape)), (m_anow, .inl (G 0, 55, .inl m_now)), (m_aread, .inl (G 0, 55, .inl m_read))] s.heap.size = A at hD ⊢
  have hA : ∀ q : Nat, s.heap.size ≤ q → A q := fun q h => by rw [← hAe]; exact Or.inr h
  have hS : va_S A s.heap s.heap [] := va_S.rf
  have inX8 : ∀ w ∈ wsX80, w ∈ wsX8_herd := by decide +kernel
  have fl29 := hts (.fieldLink RX8 29 "NewsCowModel" "read" "[I") (by decide +kernel)
  have fl23 := hts (.fieldLink RX8 23 "NewsCowModel" "now" "[I") (by decide +kernel)
  have fl89 := hts (.fieldLink RX8 89 "NewsCowModel" "position" "I") (by decide +kernel)
  have fl85 := hts (.fieldLink RX8 85 "NewsCowModel" "letters" "I") (by decide +kernel)
  have hl := lv_entry ([.ref m_mo] : List Value) (n := 2) (Nat.le_of_ble_eq_true rfl)
  rw [lg_entry_eq]
  generalize (lg_sl ([.ref m_mo] : List Value) ++ List.replicate (2 - (lg_sl ([.ref m_mo] : List Value)).length) Slot.unset).toArray = ls at hl ⊢
  have hl : lv_has ls 2 [(0, .ref m_mo)] := hl
  unfold wp_X8_herd at hw
  have L2 : ∀ (f2 : Nat) (x1 : Int32) (m_read : Nat → Int32) (H : Heap) (locs : List Loc) (ls : Array Slot), wp_X8_herd_L2 m_letters m_tape m_now post f2 m_read x1 → va_P D vwCl [(m_mo, .inr (8, [.ref m_alane, .ref m_asize, .ref m_aitem, .int m_letters, .ref m_atape, .int m_position, .int m_number, .ref m_anow, .ref m_atried, .ref m_aread, .ref m_akept, .int m_isKept, .ref m_anoticed, .ref m_aneeds, .ref m_aorder, .int m_many, .int m_one, .int m_two])), (m_atape, .inl (G 0, 40, .inl m_tape)), (m_anow, .inl (G 0, 55, .inl m_now)), (m_aread, .inl (G 0, 55, .inl m_read))] H → va_D A [(m_mo, .inr (8, [.ref m_alane, .ref m_asize, .ref m_aitem, .int m_letters, .ref m_atape, .int m_position, .int m_number, .ref m_anow, .ref m_atried, .ref m_aread, .ref m_akept, .int m_isKept, .ref m_anoticed, .ref m_aneeds, .ref m_aorder, .int m_many, .int m_one, .int m_two])), (m_atape, .inl (G 0, 40, .inl m_tape)), (m_anow, .inl (G 0, 55, .inl m_now)), (m_aread, .inl (G 0, 55, .inl m_read))] → va_S A s.heap H locs → lv_has ls 2 [(0, .ref m_mo), (1, .int x1)] → W p l e (headSpec wsX8_herd ({ frames := 4, cells := 0, slots := 0, locals := 86 } : Room)).room s m ([.ref m_mo] : List Value).toArray below meth c H locs 0 0 (MQ below (va_Qi (fun r (u : Int32 × Int32 × Int32 × (Nat → Int32) × (Nat → Int32)) => post r u.1 u.2.1 u.2.2.1 u.2.2.2.1 u.2.2.2.2) (fun u t => xE D G A [(m_mo, .inr (8, [.ref m_alane, .ref m_asize, .ref m_aitem, .int u.1, .ref m_atape, .int u.2.1, .int u.2.2.1, .ref m_anow, .ref m_atried, .ref m_aread, .ref m_akept, .int m_isKept, .ref m_anoticed, .ref m_aneeds, .ref m_aorder, .int m_many, .int m_one, .int m_two])), (m_atape, .inl (G 0, 40, .inl m_tape)), (m_anow, .inl (G 0, 55, .inl (u.2.2.2.1))), (m_aread, .inl (G 0, 55, .inl (u.2.2.2.2)))] t) A) ([.ref m_mo] : List Value).toArray s 0 0 A) (F0 m 2 ls []) := by
    intro f2
    induction f2 with
    | zero => intro x1 m_read H locs ls hw hP hD hS hl; exact (hw : False).elim
    | succ f2 ih2 =>
      intro x1 m_read H locs ls hw hP hD hS hl
      unfold wp_X8_herd_L2 at hw
      refine lv_iload_n hx hb dX8_herd_2 rfl (lv_at hl 1 rfl) ?_
      refine lv_bipush (v := 55) hx hb dX8_herd_3 (by decide) ?_
      refine lv_icmp_ge (tgt := 21) hx hb dX8_herd_5 (by decide) (fun c9 => ?_) (fun c9 => ?_)
      · replace hw := hw.1 c9
        refine lv_aload_n hx hb dX8_herd_21 rfl (lv_at hl 0 rfl) ?_
        refine va_get (D := D) (ci := 8) (v := .ref m_aread) (C := RX8) (T := TX8) (N := 18) hx hb hts inX8 hown hK hP 0 rfl rfl 9 (by decide) fl29 (fun _ h9 => h9) rfl dX8_herd_22 ?_
        refine lv_iconst (v := 1) hx hb dX8_herd_25 (by decide) ?_
        refine lv_aload_n hx hb dX8_herd_26 rfl (lv_at hl 0 rfl) ?_
        refine va_get (D := D) (ci := 8) (v := .ref m_anow) (C := RX8) (T := TX8) (N := 18) hx hb hts inX8 hown hK hP 0 rfl rfl 7 (by decide) fl23 (fun _ h9 => h9) rfl dX8_herd_27 ?_
        refine lv_iconst (v := 1) hx hb dX8_herd_30 (by decide) ?_
        refine x_iald (j := 1) hx hb hK hP 2 0 rfl rfl (by decide) (x_in (by decide)) dX8_herd_31 ?_
        refine x_iast (j := 1) hx hb hK hP hD hS 3 0 rfl rfl (by decide) (x_in (by decide)) dX8_herd_32 (fun H locs hP hD hS => ?_)
        replace hP : va_P D vwCl [(m_mo, .inr (8, [.ref m_alane, .ref m_asize, .ref m_aitem, .int m_letters, .ref m_atape, .int m_position, .int m_number, .ref m_anow, .ref m_atried, .ref m_aread, .ref m_akept, .int m_isKept, .ref m_anoticed, .ref m_aneeds, .ref m_aorder, .int m_many, .int m_one, .int m_two])), (m_atape, .inl (G 0, 40, .inl m_tape)), (m_anow, .inl (G 0, 55, .inl m_now)), (m_aread, .inl (G 0, 55, .inl (upd m_read 1 (m_now 1))))] H := hP
        replace hD : va_D A [(m_mo, .inr (8, [.ref m_alane, .ref m_asize, .ref m_aitem, .int m_letters, .ref m_atape, .int m_position, .int m_number, .ref m_anow, .ref m_atried, .ref m_aread, .ref m_akept, .int m_isKept, .ref m_anoticed, .ref m_aneeds, .ref m_aorder, .int m_many, .int m_one, .int m_two])), (m_atape, .inl (G 0, 40, .inl m_tape)), (m_anow, .inl (G 0, 55, .inl m_now)), (m_aread, .inl (G 0, 55, .inl (upd m_read 1 (m_now 1))))] := hD
        refine lv_aload_n hx hb dX8_herd_33 rfl (lv_at hl 0 rfl) ?_
        refine va_get (D := D) (ci := 8) (v := .ref m_aread) (C := RX8) (T := TX8) (N := 18) hx hb hts inX8 hown hK hP 0 rfl rfl 9 (by decide) fl29 (fun _ h9 => h9) rfl dX8_herd_34 ?_
        refine lv_iconst (v := 3) hx hb dX8_herd_37 (by decide) ?_
        refine lv_bipush (v := -4) hx hb dX8_herd_38 (by decide) ?_
        refine x_iast (j := 3) hx hb hK hP hD hS 3 0 rfl rfl (by decide) (x_in (by decide)) dX8_herd_40 (fun H locs hP hD hS => ?_)
        replace hP : va_P D vwCl [(m_mo, .inr (8, [.ref m_alane, .ref m_asize, .ref m_aitem, .int m_letters, .ref m_atape, .int m_position, .int m_number, .ref m_anow, .ref m_atried, .ref m_aread, .ref m_akept, .int m_isKept, .ref m_anoticed, .ref m_aneeds, .ref m_aorder, .int m_many, .int m_one, .int m_two])), (m_atape, .inl (G 0, 40, .inl m_tape)), (m_anow, .inl (G 0, 55, .inl m_now)), (m_aread, .inl (G 0, 55, .inl (upd (upd m_read 1 (m_now 1)) 3 (-4 : Int32))))] H := hP
        replace hD : va_D A [(m_mo, .inr (8, [.ref m_alane, .ref m_asize, .ref m_aitem, .int m_letters, .ref m_atape, .int m_position, .int m_number, .ref m_anow, .ref m_atried, .ref m_aread, .ref m_akept, .int m_isKept, .ref m_anoticed, .ref m_aneeds, .ref m_aorder, .int m_many, .int m_one, .int m_two])), (m_atape, .inl (G 0, 40, .inl m_tape)), (m_anow, .inl (G 0, 55, .inl m_now)), (m_aread, .inl (G 0, 55, .inl (upd (upd m_read 1 (m_now 1)) 3 (-4 : Int32))))] := hD
        refine lv_aload_n hx hb dX8_herd_41 rfl (lv_at hl 0 rfl) ?_
        refine lv_iconst (v := 0) hx hb dX8_herd_42 (by decide) ?_
        refine va_put (D := D) (ci := 8) (v := .int (0 : Int32)) (ty := .int) (C := RX8) (T := TX8) (N := 18) hx hb hts inX8 tyX8 tyX8_ok nmX8 hown hK hP hD hS 0 rfl rfl 5 (by decide) fl89 (fun _ h9 => h9) rfl (by decide +kernel) rfl rfl (Nat.le_of_ble_eq_true rfl) dX8_herd_43 (fun H locs hP hD hS => ?_)
        replace hP : va_P D vwCl [(m_mo, .inr (8, [.ref m_alane, .ref m_asize, .ref m_aitem, .int m_letters, .ref m_atape, .int (0 : Int32), .int m_number, .ref m_anow, .ref m_atried, .ref m_aread, .ref m_akept, .int m_isKept, .ref m_anoticed, .ref m_aneeds, .ref m_aorder, .int m_many, .int m_one, .int m_two])), (m_atape, .inl (G 0, 40, .inl m_tape)), (m_anow, .inl (G 0, 55, .inl m_now)), (m_aread, .inl (G 0, 55, .inl (upd (upd m_read 1 (m_now 1)) 3 (-4 : Int32))))] H := hP
        replace hD : va_D A [(m_mo, .inr (8, [.ref m_alane, .ref m_asize, .ref m_aitem, .int m_letters, .ref m_atape, .int (0 : Int32), .int m_number, .ref m_anow, .ref m_atried, .ref m_aread, .ref m_akept, .int m_isKept, .ref m_anoticed, .ref m_aneeds, .ref m_aorder, .int m_many, .int m_one, .int m_two])), (m_atape, .inl (G 0, 40, .inl m_tape)), (m_anow, .inl (G 0, 55, .inl m_now)), (m_aread, .inl (G 0, 55, .inl (upd (upd m_read 1 (m_now 1)) 3 (-4 : Int32))))] := hD
        refine lv_aload_n hx hb dX8_herd_46 rfl (lv_at hl 0 rfl) ?_
        refine x_cMi (wr := [(m_anow, .inl (G 0, 55, .inl m_now))]) (va_runV (As := []) (rest := []) ⟨hx, hb, hml, hown, hts⟩ (c_X8_isHerd l D G _ m_mo m_alane m_asize m_aitem m_atape m_anow m_atried m_aread m_akept m_anoticed m_aneeds m_aorder m_letters (0 : Int32) m_number m_isKept m_many m_one m_two m_tape (upd (upd m_read 1 (m_now 1)) 3 (-4 : Int32)) _ hw) (cwV 0 hts gX8_herd_X8_isHerd rfl rfl rfl (by decide +kernel) ⟨(Nat.le_of_ble_eq_true rfl), (Nat.le_of_ble_eq_true rfl)⟩) (xM_pv (hP.sub [0, 1, 3] rfl) hK (hD.sub [0, 1, 3] (by decide) rfl) (va_recv hK hP (ci := 8) (q0 := 0) rfl rfl)) rfl rfl hl.1 rfl (lv_room (Nat.le_of_ble_eq_true rfl)) dX8_herd_47 ⟨Nat.zero_le _, Nat.zero_le _⟩) hP hD hS hA [0, 1, 3] [2] rfl rfl (by decide) (by decide) [1, 2, 0, 3] (fun u => [(m_mo, .inr (8, [.ref m_alane, .ref m_asize, .ref m_aitem, .int m_letters, .ref m_atape, .int u.1, .int u.2.1, .ref m_anow, .ref m_atried, .ref m_aread, .ref m_akept, .int m_isKept, .ref m_anoticed, .ref m_aneeds, .ref m_aorder, .int m_many, .int m_one, .int m_two])), (m_atape, .inl (G 0, 40, .inl m_tape)), (m_anow, .inl (G 0, 55, .inl m_now)), (m_aread, .inl (G 0, 55, .inl (u.2.2)))]) (by decide) (fun u => rfl) (fun r1 u H locs hw hP hD hS => ?_)
        obtain ⟨m_position_1, m_number_1, m_read_1⟩ := u
        try dsimp only at hw
        replace hP : va_P D vwCl [(m_mo, .inr (8, [.ref m_alane, .ref m_asize, .ref m_aitem, .int m_letters, .ref m_atape, .int m_position_1, .int m_number_1, .ref m_anow, .ref m_atried, .ref m_aread, .ref m_akept, .int m_isKept, .ref m_anoticed, .ref m_aneeds, .ref m_aorder, .int m_many, .int m_one, .int m_two])), (m_atape, .inl (G 0, 40, .inl m_tape)), (m_anow, .inl (G 0, 55, .inl m_now)), (m_aread, .inl (G 0, 55, .inl m_read_1))] H := hP
        replace hD : va_D A [(m_mo, .inr (8, [.ref m_alane, .ref m_asize, .ref m_aitem, .int m_letters, .ref m_atape, .int m_position_1, .int m_number_1, .ref m_anow, .ref m_atried, .ref m_aread, .ref m_akept, .int m_isKept, .ref m_anoticed, .ref m_aneeds, .ref m_aorder, .int m_many, .int m_one, .int m_two])), (m_atape, .inl (G 0, 40, .inl m_tape)), (m_anow, .inl (G 0, 55, .inl m_now)), (m_aread, .inl (G 0, 55, .inl m_read_1))] := hD
        refine lv_istore_n (lv' := [(1, .int r1), (0, .ref m_mo)]) hx hb dX8_herd_50 rfl hl (by decide) rfl (fun ls hl => ?_)
        refine lv_aload_n hx hb dX8_herd_51 rfl (lv_at hl 1 rfl) ?_
        refine lv_iconst (v := 0) hx hb dX8_herd_52 (by decide) ?_
        refine va_put (D := D) (ci := 8) (v := .int (0 : Int32)) (ty := .int) (C := RX8) (T := TX8) (N := 18) hx hb hts inX8 tyX8 tyX8_ok nmX8 hown hK hP hD hS 0 rfl rfl 3 (by decide) fl85 (fun _ h9 => h9) rfl (by decide +kernel) rfl rfl (Nat.le_of_ble_eq_true rfl) dX8_herd_53 (fun H locs hP hD hS => ?_)
        replace hP : va_P D vwCl [(m_mo, .inr (8, [.ref m_alane, .ref m_asize, .ref m_aitem, .int (0 : Int32), .ref m_atape, .int m_position_1, .int m_number_1, .ref m_anow, .ref m_atried, .ref m_aread, .ref m_akept, .int m_isKept, .ref m_anoticed, .ref m_aneeds, .ref m_aorder, .int m_many, .int m_one, .int m_two])), (m_atape, .inl (G 0, 40, .inl m_tape)), (m_anow, .inl (G 0, 55, .inl m_now)), (m_aread, .inl (G 0, 55, .inl m_read_1))] H := hP
        replace hD : va_D A [(m_mo, .inr (8, [.ref m_alane, .ref m_asize, .ref m_aitem, .int (0 : Int32), .ref m_atape, .int m_position_1, .int m_number_1, .ref m_anow, .ref m_atried, .ref m_aread, .ref m_akept, .int m_isKept, .ref m_anoticed, .ref m_aneeds, .ref m_aorder, .int m_many, .int m_one, .int m_two])), (m_atape, .inl (G 0, 40, .inl m_tape)), (m_anow, .inl (G 0, 55, .inl m_now)), (m_aread, .inl (G 0, 55, .inl m_read_1))] := hD
        refine lv_iload_n hx hb dX8_herd_56 rfl (lv_at hl 0 rfl) ?_
        refine lv_if_ne (tgt := 68) hx hb dX8_herd_57 (by decide) (fun c9 => ?_) (fun c9 => ?_)
        · replace hw := hw.1 c9
          refine lv_aload_n hx hb dX8_herd_68 rfl (lv_at hl 1 rfl) ?_
          refine va_get (D := D) (ci := 8) (v := .ref m_aread) (C := RX8) (T := TX8) (N := 18) hx hb hts inX8 hown hK hP 0 rfl rfl 9 (by decide) fl29 (fun _ h9 => h9) rfl dX8_herd_69 ?_
          refine lv_iconst (v := 0) hx hb dX8_herd_72 (by decide) ?_
          refine lv_aload_n hx hb dX8_herd_73 rfl (lv_at hl 1 rfl) ?_
          refine va_get (D := D) (ci := 8) (v := .ref m_anow) (C := RX8) (T := TX8) (N := 18) hx hb hts inX8 hown hK hP 0 rfl rfl 7 (by decide) fl23 (fun _ h9 => h9) rfl dX8_herd_74 ?_
          refine lv_iconst (v := 0) hx hb dX8_herd_77 (by decide) ?_
          refine lv_bipush (v := 55) hx hb dX8_herd_78 (by decide) ?_
          refine x_cMv (wr := [(m_mo, .inr (8, [.ref m_alane, .ref m_asize, .ref m_aitem, .int (0 : Int32), .ref m_atape, .int m_position_1, .int m_number_1, .ref m_anow, .ref m_atried, .ref m_aread, .ref m_akept, .int m_isKept, .ref m_anoticed, .ref m_aneeds, .ref m_aorder, .int m_many, .int m_one, .int m_two])), (m_atape, .inl (G 0, 40, .inl m_tape))]) (va_runS (As := [.ref m_aread, .int (0 : Int32), .ref m_anow, .int (0 : Int32), .int (55 : Int32)]) (rest := []) ⟨hx, hb, hml, hown, hts⟩ (c_X8_bring l D G _ m_aread m_anow m_read_1 m_now (0 : Int32) (0 : Int32) (55 : Int32) _ hw) (va_cwS 5 hts gX8_herd_X8_bring rfl rfl rfl (by decide +kernel) ⟨(Nat.le_of_ble_eq_true rfl), (Nat.le_of_ble_eq_true rfl)⟩) (xM_ps (hP.sub [3, 2] rfl) hK (hD.sub [3, 2] (by decide) rfl)) rfl rfl hl.1 rfl (lv_room (Nat.le_of_ble_eq_true rfl)) dX8_herd_80 ⟨Nat.zero_le _, Nat.zero_le _⟩) hP hD hS hA [3, 2] [0, 1] rfl rfl (by decide) (by decide) [0, 1, 3, 2] (fun u => [(m_mo, .inr (8, [.ref m_alane, .ref m_asize, .ref m_aitem, .int (0 : Int32), .ref m_atape, .int m_position_1, .int m_number_1, .ref m_anow, .ref m_atried, .ref m_aread, .ref m_akept, .int m_isKept, .ref m_anoticed, .ref m_aneeds, .ref m_aorder, .int m_many, .int m_one, .int m_two])), (m_atape, .inl (G 0, 40, .inl m_tape)), (m_anow, .inl (G 0, 55, .inl u)), (m_aread, .inl (G 0, 55, .inl m_read_1))]) (by decide) (fun u => rfl) (fun u H locs hw hP hD hS => ?_)
          obtain ⟨v2_2, rfl⟩ : ∃ z, z = u := ⟨_, rfl⟩
          try dsimp only at hw
          replace hP : va_P D vwCl [(m_mo, .inr (8, [.ref m_alane, .ref m_asize, .ref m_aitem, .int (0 : Int32), .ref m_atape, .int m_position_1, .int m_number_1, .ref m_anow, .ref m_atried, .ref m_aread, .ref m_akept, .int m_isKept, .ref m_anoticed, .ref m_aneeds, .ref m_aorder, .int m_many, .int m_one, .int m_two])), (m_atape, .inl (G 0, 40, .inl m_tape)), (m_anow, .inl (G 0, 55, .inl v2_2)), (m_aread, .inl (G 0, 55, .inl m_read_1))] H := hP
          replace hD : va_D A [(m_mo, .inr (8, [.ref m_alane, .ref m_asize, .ref m_aitem, .int (0 : Int32), .ref m_atape, .int m_position_1, .int m_number_1, .ref m_anow, .ref m_atried, .ref m_aread, .ref m_akept, .int m_isKept, .ref m_anoticed, .ref m_aneeds, .ref m_aorder, .int m_many, .int m_one, .int m_two])), (m_atape, .inl (G 0, 40, .inl m_tape)), (m_anow, .inl (G 0, 55, .inl v2_2)), (m_aread, .inl (G 0, 55, .inl m_read_1))] := hD
          refine lv_aload_n hx hb dX8_herd_83 rfl (lv_at hl 1 rfl) ?_
          refine va_get (D := D) (ci := 8) (v := .ref m_anow) (C := RX8) (T := TX8) (N := 18) hx hb hts inX8 hown hK hP 0 rfl rfl 7 (by decide) fl23 (fun _ h9 => h9) rfl dX8_herd_84 ?_
          refine lv_iconst (v := 4) hx hb dX8_herd_87 (by decide) ?_
          refine x_iald (j := 4) hx hb hK hP 2 0 rfl rfl (by decide) (x_in (by decide)) dX8_herd_88 ?_
          exact W.iret hx hb hr (x_mi (u := ((0 : Int32), m_position_1, m_number_1, v2_2, m_read_1)) hP hK hD hS hw) hS.2.2 dX8_herd_89
        · replace hw := hw.2 c9
          refine lv_bipush (v := -20) hx hb dX8_herd_60 (by decide) ?_
          refine lv_aload_n hx hb dX8_herd_62 rfl (lv_at hl 1 rfl) ?_
          refine va_get (D := D) (ci := 8) (v := .int m_position_1) (C := RX8) (T := TX8) (N := 18) hx hb hts inX8 hown hK hP 0 rfl rfl 5 (by decide) fl89 (fun _ h9 => h9) rfl dX8_herd_63 ?_
          refine lv_isub hx hb dX8_herd_66 ?_
          exact W.iret hx hb hr (x_mi (u := ((0 : Int32), m_position_1, m_number_1, m_now, m_read_1)) hP hK hD hS hw) hS.2.2 dX8_herd_67
      · replace hw := hw.2 c9
        refine lv_aload_n hx hb dX8_herd_8 rfl (lv_at hl 0 rfl) ?_
        refine va_get (D := D) (ci := 8) (v := .ref m_aread) (C := RX8) (T := TX8) (N := 18) hx hb hts inX8 hown hK hP 0 rfl rfl 9 (by decide) fl29 (fun _ h9 => h9) rfl dX8_herd_9 ?_
        refine lv_iload_n hx hb dX8_herd_12 rfl (lv_at hl 1 rfl) ?_
        refine lv_iconst (v := 0) hx hb dX8_herd_13 (by decide) ?_
        refine x_iast (j := x1.toNatClampNeg) hx hb hK hP hD hS 3 0 rfl rfl rfl hw.1 dX8_herd_14 (fun H locs hP hD hS => ?_)
        replace hw := hw.2
        replace hP : va_P D vwCl [(m_mo, .inr (8, [.ref m_alane, .ref m_asize, .ref m_aitem, .int m_letters, .ref m_atape, .int m_position, .int m_number, .ref m_anow, .ref m_atried, .ref m_aread, .ref m_akept, .int m_isKept, .ref m_anoticed, .ref m_aneeds, .ref m_aorder, .int m_many, .int m_one, .int m_two])), (m_atape, .inl (G 0, 40, .inl m_tape)), (m_anow, .inl (G 0, 55, .inl m_now)), (m_aread, .inl (G 0, 55, .inl (upd m_read x1.toNatClampNeg (0 : Int32))))] H := hP
        replace hD : va_D A [(m_mo, .inr (8, [.ref m_alane, .ref m_asize, .ref m_aitem, .int m_letters, .ref m_atape, .int m_position, .int m_number, .ref m_anow, .ref m_atried, .ref m_aread, .ref m_akept, .int m_isKept, .ref m_anoticed, .ref m_aneeds, .ref m_aorder, .int m_many, .int m_one, .int m_two])), (m_atape, .inl (G 0, 40, .inl m_tape)), (m_anow, .inl (G 0, 55, .inl m_now)), (m_aread, .inl (G 0, 55, .inl (upd m_read x1.toNatClampNeg (0 : Int32))))] := hD
        refine lv_iinc (v := (x1 + 1)) (lv' := [(1, .int (x1 + 1)), (0, .ref m_mo)]) hx hb dX8_herd_15 hl (k := 1) rfl (by first | rfl | decide) (by decide) rfl (fun ls hl => ?_)
        refine lv_goto (tgt := 2) hx hb dX8_herd_18 (by decide) ?_
        exact ih2 (x1 + 1) (upd m_read x1.toNatClampNeg (0 : Int32)) _ _ _ hw hP hD hS (lv_sub hl [1, 0] rfl)
  refine lv_iconst (v := 0) hx hb dX8_herd_0 (by decide) ?_
  refine lv_istore_n (lv' := [(1, .int (0 : Int32)), (0, .ref m_mo)]) hx hb dX8_herd_1 rfl hl (by decide) rfl (fun ls hl => ?_)
  obtain ⟨n, hw⟩ := hw
  exact L2 n (0 : Int32) m_read _ _ _ hw hP hD hS (lv_sub hl [1, 0] rfl)
set_option maxHeartbeats 4000000 in
set_option maxRecDepth 100000 in
theorem c_X8_count (l : Launch) (D : va_G) (G : Nat → ClassId) (m_mo : Nat) (m_alane : Nat) (m_asize : Nat) (m_aitem : Nat) (m_atape : Nat) (m_anow : Nat) (m_atried : Nat) (m_aread : Nat) (m_akept : Nat) (m_anoticed : Nat) (m_aneeds : Nat) (m_aorder : Nat) (m_letters : Int32) (m_position : Int32) (m_number : Int32) (m_isKept : Int32) (m_many : Int32) (m_one : Int32) (m_two : Int32) (m_now : Nat → Int32) (x1 : Int32) (post : Int32 → Prop) (hw : wp_X8_count m_now x1 post) : Met l yX8_count wsX8_count ({ frames := 2, cells := 0, slots := 0, locals := 44 } : Room) (va_Pc [.ref m_mo, .int x1] (xR D G [(m_mo, .inr (8, [.ref m_alane, .ref m_asize, .ref m_aitem, .int m_letters, .ref m_atape, .int m_position, .int m_number, .ref m_anow, .ref m_atried, .ref m_aread, .ref m_akept, .int m_isKept, .ref m_anoticed, .ref m_aneeds, .ref m_aorder, .int m_many, .int m_one, .int m_two])), (m_anow, .inl (G 0, 55, .inl m_now))])) (vp_Si post) 0 0 (fun _ => False) := by
  refine Met.ofW (cc := cX8_count) (maxL := 2) (ret := (some .int)) (by decide) rfl ?_
  intro p e s m args below meth c s₁ B hml hv
  obtain ⟨rfl, hP, hK⟩ := hv
  have hx := B.exec
  have hb := B.bytes
  have hr := B.returns
  have hts := atoms_spec (ws := wsX8_count) B.pre
  have hown : s.vm.findClass RX8 = some m.cls := findClass_of_methodNamed B.named
  have hlocks := B.notSynchronized
  have inX8 : ∀ w ∈ wsX80, w ∈ wsX8_count := by decide +kernel
  have fl23 := hts (.fieldLink RX8 23 "NewsCowModel" "now" "[I") (by decide +kernel)
  have hl := lv_entry ([.ref m_mo, .int x1] : List Value) (n := 2) (Nat.le_of_ble_eq_true rfl)
  rw [lg_entry_eq]
  generalize (lg_sl ([.ref m_mo, .int x1] : List Value) ++ List.replicate (2 - (lg_sl ([.ref m_mo, .int x1] : List Value)).length) Slot.unset).toArray = ls at hl ⊢
  have hl : lv_has ls 2 [(0, .ref m_mo), (1, .int x1)] := hl
  unfold wp_X8_count at hw
  refine lv_iload_n hx hb dX8_count_0 rfl (lv_at hl 1 rfl) ?_
  by_cases c0 : x1 = 0
  · replace hw := hw.1 c0
    refine lv_tableIn (tgt := 48) (off := 47) hx hb dX8_count_1 (by rw [c0]; decide) (by rw [c0]; decide) (by rw [c0]; decide) (by decide) ?_
    refine lv_aload_n hx hb dX8_count_48 rfl (lv_at hl 0 rfl) ?_
    refine va_get (D := D) (ci := 8) (v := .ref m_anow) (C := RX8) (T := TX8) (N := 18) hx hb hts inX8 hown hK hP 0 rfl rfl 7 (by decide) fl23 (fun _ h9 => h9) rfl dX8_count_49 ?_
    refine lv_iconst (v := 4) hx hb dX8_count_52 (by decide) ?_
    refine x_iald (j := 4) hx hb hK hP 1 0 rfl rfl (by decide) (x_in (by decide)) dX8_count_53 ?_
    exact W.iret hx hb hr (fun t ht _ => ⟨_, rfl, hw, ht⟩) (fun _ h => absurd h List.not_mem_nil) dX8_count_54
  replace hw := hw.2 c0
  by_cases c1 : x1 = 1
  · replace hw := hw.1 c1
    refine lv_tableIn (tgt := 55) (off := 54) hx hb dX8_count_1 (by rw [c1]; decide) (by rw [c1]; decide) (by rw [c1]; decide) (by decide) ?_
    refine lv_aload_n hx hb dX8_count_55 rfl (lv_at hl 0 rfl) ?_
    refine va_get (D := D) (ci := 8) (v := .ref m_anow) (C := RX8) (T := TX8) (N := 18) hx hb hts inX8 hown hK hP 0 rfl rfl 7 (by decide) fl23 (fun _ h9 => h9) rfl dX8_count_56 ?_
    refine lv_bipush (v := 13) hx hb dX8_count_59 (by decide) ?_
    refine x_iald (j := 13) hx hb hK hP 1 0 rfl rfl (by decide) (x_in (by decide)) dX8_count_61 ?_
    exact W.iret hx hb hr (fun t ht _ => ⟨_, rfl, hw, ht⟩) (fun _ h => absurd h List.not_mem_nil) dX8_count_62
  replace hw := hw.2 c1
  by_cases c2 : x1 = 2
  · replace hw := hw.1 c2
    refine lv_tableIn (tgt := 63) (off := 62) hx hb dX8_count_1 (by rw [c2]; decide) (by rw [c2]; decide) (by rw [c2]; decide) (by decide) ?_
    refine lv_aload_n hx hb dX8_count_63 rfl (lv_at hl 0 rfl) ?_
    refine va_get (D := D) (ci := 8) (v := .ref m_anow) (C := RX8) (T := TX8) (N := 18) hx hb hts inX8 hown hK hP 0 rfl rfl 7 (by decide) fl23 (fun _ h9 => h9) rfl dX8_count_64 ?_
    refine lv_iconst (v := 0) hx hb dX8_count_67 (by decide) ?_
    refine x_iald (j := 0) hx hb hK hP 1 0 rfl rfl (by decide) (x_in (by decide)) dX8_count_68 ?_
    exact W.iret hx hb hr (fun t ht _ => ⟨_, rfl, hw, ht⟩) (fun _ h => absurd h List.not_mem_nil) dX8_count_69
  replace hw := hw.2 c2
  by_cases c3 : x1 = 3
  · replace hw := hw.1 c3
    refine lv_tableIn (tgt := 70) (off := 69) hx hb dX8_count_1 (by rw [c3]; decide) (by rw [c3]; decide) (by rw [c3]; decide) (by decide) ?_
    refine lv_aload_n hx hb dX8_count_70 rfl (lv_at hl 0 rfl) ?_
    refine va_get (D := D) (ci := 8) (v := .ref m_anow) (C := RX8) (T := TX8) (N := 18) hx hb hts inX8 hown hK hP 0 rfl rfl 7 (by decide) fl23 (fun _ h9 => h9) rfl dX8_count_71 ?_
    refine lv_iconst (v := 2) hx hb dX8_count_74 (by decide) ?_
    refine x_iald (j := 2) hx hb hK hP 1 0 rfl rfl (by decide) (x_in (by decide)) dX8_count_75 ?_
    exact W.iret hx hb hr (fun t ht _ => ⟨_, rfl, hw, ht⟩) (fun _ h => absurd h List.not_mem_nil) dX8_count_76
  replace hw := hw.2 c3
  by_cases c4 : x1 = 4
  · replace hw := hw.1 c4
    refine lv_tableIn (tgt := 77) (off := 76) hx hb dX8_count_1 (by rw [c4]; decide) (by rw [c4]; decide) (by rw [c4]; decide) (by decide) ?_
    refine lv_aload_n hx hb dX8_count_77 rfl (lv_at hl 0 rfl) ?_
    refine va_get (D := D) (ci := 8) (v := .ref m_anow) (C := RX8) (T := TX8) (N := 18) hx hb hts inX8 hown hK hP 0 rfl rfl 7 (by decide) fl23 (fun _ h9 => h9) rfl dX8_count_78 ?_
    refine lv_iconst (v := 3) hx hb dX8_count_81 (by decide) ?_
    refine x_iald (j := 3) hx hb hK hP 1 0 rfl rfl (by decide) (x_in (by decide)) dX8_count_82 ?_
    exact W.iret hx hb hr (fun t ht _ => ⟨_, rfl, hw, ht⟩) (fun _ h => absurd h List.not_mem_nil) dX8_count_83
  replace hw := hw.2 c4
  by_cases c5 : x1 = 5
  · replace hw := hw.1 c5
    refine lv_tableIn (tgt := 84) (off := 83) hx hb dX8_count_1 (by rw [c5]; decide) (by rw [c5]; decide) (by rw [c5]; decide) (by decide) ?_
    refine lv_aload_n hx hb dX8_count_84 rfl (lv_at hl 0 rfl) ?_
    refine va_get (D := D) (ci := 8) (v := .ref m_anow) (C := RX8) (T := TX8) (N := 18) hx hb hts inX8 hown hK hP 0 rfl rfl 7 (by decide) fl23 (fun _ h9 => h9) rfl dX8_count_85 ?_
    refine lv_aload_n hx hb dX8_count_88 rfl (lv_at hl 0 rfl) ?_
    refine va_get (D := D) (ci := 8) (v := .ref m_anow) (C := RX8) (T := TX8) (N := 18) hx hb hts inX8 hown hK hP 0 rfl rfl 7 (by decide) fl23 (fun _ h9 => h9) rfl dX8_count_89 ?_
    refine vp_callSi (W.runS (As := [.ref m_anow]) (rest := [.ref m_anow]) ⟨hx, hb, hml, hown, hts⟩ (c_X8_allOf l D G m_anow m_now _ hw) (va_cwS 1 hts gX8_count_X8_allOf rfl rfl rfl (by decide +kernel) ⟨(Nat.le_of_ble_eq_true rfl), (Nat.le_of_ble_eq_true rfl)⟩) (xR_ps (hP.sub [1] rfl) hK) rfl rfl hl.1 rfl (lv_room (Nat.le_of_ble_eq_true rfl)) dX8_count_92 ⟨Nat.zero_le _, Nat.zero_le _⟩) (fun r1 hw => ?_)
    refine vp_callSi (W.runS (As := [.ref m_anow, .int r1]) (rest := []) ⟨hx, hb, hml, hown, hts⟩ (c_X8_milkOf l D G m_anow m_now r1 _ hw) (va_cwS 2 hts gX8_count_X8_milkOf rfl rfl rfl (by decide +kernel) ⟨(Nat.le_of_ble_eq_true rfl), (Nat.le_of_ble_eq_true rfl)⟩) (xR_ps (hP.sub [1] rfl) hK) rfl rfl hl.1 rfl (lv_room (Nat.le_of_ble_eq_true rfl)) dX8_count_95 ⟨Nat.zero_le _, Nat.zero_le _⟩) (fun r2 hw => ?_)
    exact W.iret hx hb hr (fun t ht _ => ⟨_, rfl, hw, ht⟩) (fun _ h => absurd h List.not_mem_nil) dX8_count_98
  replace hw := hw.2 c5
  by_cases c6 : x1 = 6
  · replace hw := hw.1 c6
    refine lv_tableIn (tgt := 99) (off := 98) hx hb dX8_count_1 (by rw [c6]; decide) (by rw [c6]; decide) (by rw [c6]; decide) (by decide) ?_
    refine lv_aload_n hx hb dX8_count_99 rfl (lv_at hl 0 rfl) ?_
    refine va_get (D := D) (ci := 8) (v := .ref m_anow) (C := RX8) (T := TX8) (N := 18) hx hb hts inX8 hown hK hP 0 rfl rfl 7 (by decide) fl23 (fun _ h9 => h9) rfl dX8_count_100 ?_
    refine lv_aload_n hx hb dX8_count_103 rfl (lv_at hl 0 rfl) ?_
    refine va_get (D := D) (ci := 8) (v := .ref m_anow) (C := RX8) (T := TX8) (N := 18) hx hb hts inX8 hown hK hP 0 rfl rfl 7 (by decide) fl23 (fun _ h9 => h9) rfl dX8_count_104 ?_
    refine lv_iconst (v := 2) hx hb dX8_count_107 (by decide) ?_
    refine x_iald (j := 2) hx hb hK hP 1 0 rfl rfl (by decide) (x_in (by decide)) dX8_count_108 ?_
    refine vp_callSi (W.runS (As := [.ref m_anow, .int (m_now 2)]) (rest := []) ⟨hx, hb, hml, hown, hts⟩ (c_X8_milkOf l D G m_anow m_now (m_now 2) _ hw) (va_cwS 2 hts gX8_count_X8_milkOf rfl rfl rfl (by decide +kernel) ⟨(Nat.le_of_ble_eq_true rfl), (Nat.le_of_ble_eq_true rfl)⟩) (xR_ps (hP.sub [1] rfl) hK) rfl rfl hl.1 rfl (lv_room (Nat.le_of_ble_eq_true rfl)) dX8_count_109 ⟨Nat.zero_le _, Nat.zero_le _⟩) (fun r3 hw => ?_)
    exact W.iret hx hb hr (fun t ht _ => ⟨_, rfl, hw, ht⟩) (fun _ h => absurd h List.not_mem_nil) dX8_count_112
  replace hw := hw.2 c6
  by_cases c7 : x1 = 7
  · replace hw := hw.1 c7
    refine lv_tableIn (tgt := 113) (off := 112) hx hb dX8_count_1 (by rw [c7]; decide) (by rw [c7]; decide) (by rw [c7]; decide) (by decide) ?_
    refine lv_aload_n hx hb dX8_count_113 rfl (lv_at hl 0 rfl) ?_
    refine va_get (D := D) (ci := 8) (v := .ref m_anow) (C := RX8) (T := TX8) (N := 18) hx hb hts inX8 hown hK hP 0 rfl rfl 7 (by decide) fl23 (fun _ h9 => h9) rfl dX8_count_114 ?_
    refine lv_bipush (v := 22) hx hb dX8_count_117 (by decide) ?_
    refine x_iald (j := 22) hx hb hK hP 1 0 rfl rfl (by decide) (x_in (by decide)) dX8_count_119 ?_
    exact W.iret hx hb hr (fun t ht _ => ⟨_, rfl, hw, ht⟩) (fun _ h => absurd h List.not_mem_nil) dX8_count_120
  replace hw := hw.2 c7
  refine lv_tableOut (tgt := 121) hx hb dX8_count_1 (x_sw0_7 c0 c1 c2 c3 c4 c5 c6 c7) (by decide) ?_
  refine lv_iconst (v := -1) hx hb dX8_count_121 (by decide) ?_
  exact W.iret hx hb hr (fun t ht _ => ⟨_, rfl, hw, ht⟩) (fun _ h => absurd h List.not_mem_nil) dX8_count_122
set_option maxHeartbeats 4000000 in
set_option maxRecDepth 100000 in
theorem c_X8_note (l : Launch) (D : va_G) (G : Nat → ClassId) (sz : Nat) (m_mo : Nat) (m_alane : Nat) (m_asize : Nat) (m_aitem : Nat) (m_atape : Nat) (m_anow : Nat) (m_atried : Nat) (m_aread : Nat) (m_akept : Nat) (m_anoticed : Nat) (m_aneeds : Nat) (m_aorder : Nat) (m_letters : Int32) (m_position : Int32) (m_number : Int32) (m_isKept : Int32) (m_many : Int32) (m_one : Int32) (m_two : Int32) (m_now : Nat → Int32) (post : (Nat → Int32) → Prop) (hw : wp_X8_note m_now post) : Met l yX8_note wsX8_note ({ frames := 1, cells := 0, slots := 0, locals := 25 } : Room) (va_Pc [.ref m_mo] (xM D G sz [(m_mo, .inr (8, [.ref m_alane, .ref m_asize, .ref m_aitem, .int m_letters, .ref m_atape, .int m_position, .int m_number, .ref m_anow, .ref m_atried, .ref m_aread, .ref m_akept, .int m_isKept, .ref m_anoticed, .ref m_aneeds, .ref m_aorder, .int m_many, .int m_one, .int m_two])), (m_anow, .inl (G 0, 55, .inl m_now))])) (va_Qv (fun (u : (Nat → Int32)) => post u) (fun u t => xE D G (va_A [(m_mo, .inr (8, [.ref m_alane, .ref m_asize, .ref m_aitem, .int m_letters, .ref m_atape, .int m_position, .int m_number, .ref m_anow, .ref m_atried, .ref m_aread, .ref m_akept, .int m_isKept, .ref m_anoticed, .ref m_aneeds, .ref m_aorder, .int m_many, .int m_one, .int m_two])), (m_anow, .inl (G 0, 55, .inl m_now))] sz) [(m_mo, .inr (8, [.ref m_alane, .ref m_asize, .ref m_aitem, .int m_letters, .ref m_atape, .int m_position, .int m_number, .ref m_anow, .ref m_atried, .ref m_aread, .ref m_akept, .int m_isKept, .ref m_anoticed, .ref m_aneeds, .ref m_aorder, .int m_many, .int m_one, .int m_two])), (m_anow, .inl (G 0, 55, .inl u))] t) (va_A [(m_mo, .inr (8, [.ref m_alane, .ref m_asize, .ref m_aitem, .int m_letters, .ref m_atape, .int m_position, .int m_number, .ref m_anow, .ref m_atried, .ref m_aread, .ref m_akept, .int m_isKept, .ref m_anoticed, .ref m_aneeds, .ref m_aorder, .int m_many, .int m_one, .int m_two])), (m_anow, .inl (G 0, 55, .inl m_now))] sz)) 0 0 (va_A [(m_mo, .inr (8, [.ref m_alane, .ref m_asize, .ref m_aitem, .int m_letters, .ref m_atape, .int m_position, .int m_number, .ref m_anow, .ref m_atried, .ref m_aread, .ref m_akept, .int m_isKept, .ref m_anoticed, .ref m_aneeds, .ref m_aorder, .int m_many, .int m_one, .int m_two])), (m_anow, .inl (G 0, 55, .inl m_now))] sz) := by
  refine Met.ofW (cc := cX8_note) (maxL := 1) (ret := none) (by decide) rfl ?_
  intro p e s m args below meth c s₁ B hml hv
  obtain ⟨rfl, hsz, hP, hK, hD0⟩ := hv
  have hx := B.exec
  have hb := B.bytes
  have hr := B.returns
  have hts := atoms_spec (ws := wsX8_note) B.pre
  have hown : s.vm.findClass RX8 = some m.cls := findClass_of_methodNamed B.named
  have hlocks := B.notSynchronized
  subst hsz
  have hD := hD0.self (sz := s.heap.size)
  generalize hAe : va_A [(m_mo, .inr (8, [.ref m_alane, .ref m_asize, .ref m_aitem, .int m_letters, .ref m_atape, .int m_position, .int m_number, .ref m_anow, .ref m_atried, .ref m_aread, .ref m_akept, .int m_isKept, .ref m_anoticed, .ref m_aneeds, .ref m_aorder, .int m_many, .int m_one, .int m_two])), (m_anow, .inl (G 0, 55, .inl m_now))] s.heap.size = A at hD ⊢
  have hA : ∀ q : Nat, s.heap.size ≤ q → A q := fun q h => by rw [← hAe]; exact Or.inr h
  have hS : va_S A s.heap s.heap [] := va_S.rf
  have inX8 : ∀ w ∈ wsX80, w ∈ wsX8_note := by decide +kernel
  have fl23 := hts (.fieldLink RX8 23 "NewsCowModel" "now" "[I") (by decide +kernel)
  have hl := lv_entry ([.ref m_mo] : List Value) (n := 1) (Nat.le_of_ble_eq_true rfl)
  rw [lg_entry_eq]
  generalize (lg_sl ([.ref m_mo] : List Value) ++ List.replicate (1 - (lg_sl ([.ref m_mo] : List Value)).length) Slot.unset).toArray = ls at hl ⊢
  have hl : lv_has ls 1 [(0, .ref m_mo)] := hl
  unfold wp_X8_note at hw
  have J40 : ∀ (m_now : Nat → Int32) (H : Heap) (locs : List Loc) (ls : Array Slot), wp_X8_note_J40 m_now post → va_P D vwCl [(m_mo, .inr (8, [.ref m_alane, .ref m_asize, .ref m_aitem, .int m_letters, .ref m_atape, .int m_position, .int m_number, .ref m_anow, .ref m_atried, .ref m_aread, .ref m_akept, .int m_isKept, .ref m_anoticed, .ref m_aneeds, .ref m_aorder, .int m_many, .int m_one, .int m_two])), (m_anow, .inl (G 0, 55, .inl m_now))] H → va_D A [(m_mo, .inr (8, [.ref m_alane, .ref m_asize, .ref m_aitem, .int m_letters, .ref m_atape, .int m_position, .int m_number, .ref m_anow, .ref m_atried, .ref m_aread, .ref m_akept, .int m_isKept, .ref m_anoticed, .ref m_aneeds, .ref m_aorder, .int m_many, .int m_one, .int m_two])), (m_anow, .inl (G 0, 55, .inl m_now))] → va_S A s.heap H locs → lv_has ls 1 [(0, .ref m_mo)] → W p l e (headSpec wsX8_note ({ frames := 1, cells := 0, slots := 0, locals := 25 } : Room)).room s m ([.ref m_mo] : List Value).toArray below meth c H locs 0 0 (MQ below (va_Qv (fun (u : (Nat → Int32)) => post u) (fun u t => xE D G A [(m_mo, .inr (8, [.ref m_alane, .ref m_asize, .ref m_aitem, .int m_letters, .ref m_atape, .int m_position, .int m_number, .ref m_anow, .ref m_atried, .ref m_aread, .ref m_akept, .int m_isKept, .ref m_anoticed, .ref m_aneeds, .ref m_aorder, .int m_many, .int m_one, .int m_two])), (m_anow, .inl (G 0, 55, .inl u))] t) A) ([.ref m_mo] : List Value).toArray s 0 0 A) (F0 m 40 ls []) := by
    intro m_now H locs ls hw hP hD hS hl
    unfold wp_X8_note_J40 at hw
    refine lv_aload_n hx hb dX8_note_40 rfl (lv_at hl 0 rfl) ?_
    refine va_get (D := D) (ci := 8) (v := .ref m_anow) (C := RX8) (T := TX8) (N := 18) hx hb hts inX8 hown hK hP 0 rfl rfl 7 (by decide) fl23 (fun _ h9 => h9) rfl dX8_note_41 ?_
    refine lv_iconst (v := 0) hx hb dX8_note_44 (by decide) ?_
    refine lv_aload_n hx hb dX8_note_45 rfl (lv_at hl 0 rfl) ?_
    refine va_get (D := D) (ci := 8) (v := .ref m_anow) (C := RX8) (T := TX8) (N := 18) hx hb hts inX8 hown hK hP 0 rfl rfl 7 (by decide) fl23 (fun _ h9 => h9) rfl dX8_note_46 ?_
    refine lv_bipush (v := 23) hx hb dX8_note_49 (by decide) ?_
    refine lv_iconst (v := 4) hx hb dX8_note_51 (by decide) ?_
    refine lv_aload_n hx hb dX8_note_52 rfl (lv_at hl 0 rfl) ?_
    refine va_get (D := D) (ci := 8) (v := .ref m_anow) (C := RX8) (T := TX8) (N := 18) hx hb hts inX8 hown hK hP 0 rfl rfl 7 (by decide) fl23 (fun _ h9 => h9) rfl dX8_note_53 ?_
    refine lv_bipush (v := 22) hx hb dX8_note_56 (by decide) ?_
    refine x_iald (j := 22) hx hb hK hP 1 0 rfl rfl (by decide) (x_in (by decide)) dX8_note_58 ?_
    refine lv_imul hx hb dX8_note_59 ?_
    refine lv_iadd hx hb dX8_note_60 ?_
    refine lv_iconst (v := 4) hx hb dX8_note_61 (by decide) ?_
    refine x_cMv (wr := [(m_mo, .inr (8, [.ref m_alane, .ref m_asize, .ref m_aitem, .int m_letters, .ref m_atape, .int m_position, .int m_number, .ref m_anow, .ref m_atried, .ref m_aread, .ref m_akept, .int m_isKept, .ref m_anoticed, .ref m_aneeds, .ref m_aorder, .int m_many, .int m_one, .int m_two]))]) (va_runS (As := [.ref m_anow, .int (0 : Int32), .ref m_anow, .int ((23 : Int32) + ((4 : Int32) * (m_now 22))), .int (4 : Int32)]) (rest := []) ⟨hx, hb, hml, hown, hts⟩ (c_X8_bringS l D G _ m_anow m_now (0 : Int32) ((23 : Int32) + ((4 : Int32) * (m_now 22))) (4 : Int32) _ hw) (va_cwS 5 hts gX8_note_X8_bring rfl rfl rfl (by decide +kernel) ⟨(Nat.le_of_ble_eq_true rfl), (Nat.le_of_ble_eq_true rfl)⟩) (xM_ps (hP.sub [1] rfl) hK (hD.sub [1] (by decide) rfl)) rfl rfl hl.1 rfl (lv_room (Nat.le_of_ble_eq_true rfl)) dX8_note_62 ⟨Nat.zero_le _, Nat.zero_le _⟩) hP hD hS hA [1] [0] rfl rfl (by decide) (by decide) [0, 1] (fun u => [(m_mo, .inr (8, [.ref m_alane, .ref m_asize, .ref m_aitem, .int m_letters, .ref m_atape, .int m_position, .int m_number, .ref m_anow, .ref m_atried, .ref m_aread, .ref m_akept, .int m_isKept, .ref m_anoticed, .ref m_aneeds, .ref m_aorder, .int m_many, .int m_one, .int m_two])), (m_anow, .inl (G 0, 55, .inl u))]) (by decide) (fun u => rfl) (fun u H locs hw hP hD hS => ?_)
    obtain ⟨v0_2, rfl⟩ : ∃ z, z = u := ⟨_, rfl⟩
    try dsimp only at hw
    replace hP : va_P D vwCl [(m_mo, .inr (8, [.ref m_alane, .ref m_asize, .ref m_aitem, .int m_letters, .ref m_atape, .int m_position, .int m_number, .ref m_anow, .ref m_atried, .ref m_aread, .ref m_akept, .int m_isKept, .ref m_anoticed, .ref m_aneeds, .ref m_aorder, .int m_many, .int m_one, .int m_two])), (m_anow, .inl (G 0, 55, .inl v0_2))] H := hP
    replace hD : va_D A [(m_mo, .inr (8, [.ref m_alane, .ref m_asize, .ref m_aitem, .int m_letters, .ref m_atape, .int m_position, .int m_number, .ref m_anow, .ref m_atried, .ref m_aread, .ref m_akept, .int m_isKept, .ref m_anoticed, .ref m_aneeds, .ref m_aorder, .int m_many, .int m_one, .int m_two])), (m_anow, .inl (G 0, 55, .inl v0_2))] := hD
    refine lv_aload_n hx hb dX8_note_65 rfl (lv_at hl 0 rfl) ?_
    refine va_get (D := D) (ci := 8) (v := .ref m_anow) (C := RX8) (T := TX8) (N := 18) hx hb hts inX8 hown hK hP 0 rfl rfl 7 (by decide) fl23 (fun _ h9 => h9) rfl dX8_note_66 ?_
    refine lv_bipush (v := 22) hx hb dX8_note_69 (by decide) ?_
    refine lv_dup2_11 hx hb dX8_note_71 rfl rfl ?_
    refine x_iald (j := 22) hx hb hK hP 1 0 rfl rfl (by decide) (x_in (by decide)) dX8_note_72 ?_
    refine lv_iconst (v := 1) hx hb dX8_note_73 (by decide) ?_
    refine lv_iadd hx hb dX8_note_74 ?_
    refine x_iast (j := 22) hx hb hK hP hD hS 1 0 rfl rfl (by decide) (x_in (by decide)) dX8_note_75 (fun H locs hP hD hS => ?_)
    replace hP : va_P D vwCl [(m_mo, .inr (8, [.ref m_alane, .ref m_asize, .ref m_aitem, .int m_letters, .ref m_atape, .int m_position, .int m_number, .ref m_anow, .ref m_atried, .ref m_aread, .ref m_akept, .int m_isKept, .ref m_anoticed, .ref m_aneeds, .ref m_aorder, .int m_many, .int m_one, .int m_two])), (m_anow, .inl (G 0, 55, .inl (upd v0_2 22 ((v0_2 22) + (1 : Int32)))))] H := hP
    replace hD : va_D A [(m_mo, .inr (8, [.ref m_alane, .ref m_asize, .ref m_aitem, .int m_letters, .ref m_atape, .int m_position, .int m_number, .ref m_anow, .ref m_atried, .ref m_aread, .ref m_akept, .int m_isKept, .ref m_anoticed, .ref m_aneeds, .ref m_aorder, .int m_many, .int m_one, .int m_two])), (m_anow, .inl (G 0, 55, .inl (upd v0_2 22 ((v0_2 22) + (1 : Int32)))))] := hD
    exact W.vret hx hb hr (x_mv (u := (upd v0_2 22 ((v0_2 22) + (1 : Int32)))) hP hK hD hS hw) hS.2.2 dX8_note_76
  refine lv_aload_n hx hb dX8_note_0 rfl (lv_at hl 0 rfl) ?_
  refine va_get (D := D) (ci := 8) (v := .ref m_anow) (C := RX8) (T := TX8) (N := 18) hx hb hts inX8 hown hK hP 0 rfl rfl 7 (by decide) fl23 (fun _ h9 => h9) rfl dX8_note_1 ?_
  refine lv_bipush (v := 22) hx hb dX8_note_4 (by decide) ?_
  refine x_iald (j := 22) hx hb hK hP 1 0 rfl rfl (by decide) (x_in (by decide)) dX8_note_6 ?_
  refine lv_bipush (v := 8) hx hb dX8_note_7 (by decide) ?_
  refine lv_icmp_ne (tgt := 40) hx hb dX8_note_9 (by decide) (fun c9 => ?_) (fun c9 => ?_)
  · replace hw := hw.1 c9
    exact J40 m_now _ _ _ hw hP hD hS (lv_sub hl [0] rfl)
  · replace hw := hw.2 c9
    refine lv_aload_n hx hb dX8_note_12 rfl (lv_at hl 0 rfl) ?_
    refine va_get (D := D) (ci := 8) (v := .ref m_anow) (C := RX8) (T := TX8) (N := 18) hx hb hts inX8 hown hK hP 0 rfl rfl 7 (by decide) fl23 (fun _ h9 => h9) rfl dX8_note_13 ?_
    refine lv_bipush (v := 27) hx hb dX8_note_16 (by decide) ?_
    refine lv_aload_n hx hb dX8_note_18 rfl (lv_at hl 0 rfl) ?_
    refine va_get (D := D) (ci := 8) (v := .ref m_anow) (C := RX8) (T := TX8) (N := 18) hx hb hts inX8 hown hK hP 0 rfl rfl 7 (by decide) fl23 (fun _ h9 => h9) rfl dX8_note_19 ?_
    refine lv_bipush (v := 23) hx hb dX8_note_22 (by decide) ?_
    refine lv_bipush (v := 28) hx hb dX8_note_24 (by decide) ?_
    refine x_cMv (wr := [(m_mo, .inr (8, [.ref m_alane, .ref m_asize, .ref m_aitem, .int m_letters, .ref m_atape, .int m_position, .int m_number, .ref m_anow, .ref m_atried, .ref m_aread, .ref m_akept, .int m_isKept, .ref m_anoticed, .ref m_aneeds, .ref m_aorder, .int m_many, .int m_one, .int m_two]))]) (va_runS (As := [.ref m_anow, .int (27 : Int32), .ref m_anow, .int (23 : Int32), .int (28 : Int32)]) (rest := []) ⟨hx, hb, hml, hown, hts⟩ (c_X8_bringS l D G _ m_anow m_now (27 : Int32) (23 : Int32) (28 : Int32) _ hw) (va_cwS 5 hts gX8_note_X8_bring rfl rfl rfl (by decide +kernel) ⟨(Nat.le_of_ble_eq_true rfl), (Nat.le_of_ble_eq_true rfl)⟩) (xM_ps (hP.sub [1] rfl) hK (hD.sub [1] (by decide) rfl)) rfl rfl hl.1 rfl (lv_room (Nat.le_of_ble_eq_true rfl)) dX8_note_26 ⟨Nat.zero_le _, Nat.zero_le _⟩) hP hD hS hA [1] [0] rfl rfl (by decide) (by decide) [0, 1] (fun u => [(m_mo, .inr (8, [.ref m_alane, .ref m_asize, .ref m_aitem, .int m_letters, .ref m_atape, .int m_position, .int m_number, .ref m_anow, .ref m_atried, .ref m_aread, .ref m_akept, .int m_isKept, .ref m_anoticed, .ref m_aneeds, .ref m_aorder, .int m_many, .int m_one, .int m_two])), (m_anow, .inl (G 0, 55, .inl u))]) (by decide) (fun u => rfl) (fun u H locs hw hP hD hS => ?_)
    obtain ⟨v0_1, rfl⟩ : ∃ z, z = u := ⟨_, rfl⟩
    try dsimp only at hw
    replace hP : va_P D vwCl [(m_mo, .inr (8, [.ref m_alane, .ref m_asize, .ref m_aitem, .int m_letters, .ref m_atape, .int m_position, .int m_number, .ref m_anow, .ref m_atried, .ref m_aread, .ref m_akept, .int m_isKept, .ref m_anoticed, .ref m_aneeds, .ref m_aorder, .int m_many, .int m_one, .int m_two])), (m_anow, .inl (G 0, 55, .inl v0_1))] H := hP
    replace hD : va_D A [(m_mo, .inr (8, [.ref m_alane, .ref m_asize, .ref m_aitem, .int m_letters, .ref m_atape, .int m_position, .int m_number, .ref m_anow, .ref m_atried, .ref m_aread, .ref m_akept, .int m_isKept, .ref m_anoticed, .ref m_aneeds, .ref m_aorder, .int m_many, .int m_one, .int m_two])), (m_anow, .inl (G 0, 55, .inl v0_1))] := hD
    refine lv_aload_n hx hb dX8_note_29 rfl (lv_at hl 0 rfl) ?_
    refine va_get (D := D) (ci := 8) (v := .ref m_anow) (C := RX8) (T := TX8) (N := 18) hx hb hts inX8 hown hK hP 0 rfl rfl 7 (by decide) fl23 (fun _ h9 => h9) rfl dX8_note_30 ?_
    refine lv_bipush (v := 22) hx hb dX8_note_33 (by decide) ?_
    refine lv_dup2_11 hx hb dX8_note_35 rfl rfl ?_
    refine x_iald (j := 22) hx hb hK hP 1 0 rfl rfl (by decide) (x_in (by decide)) dX8_note_36 ?_
    refine lv_iconst (v := 1) hx hb dX8_note_37 (by decide) ?_
    refine lv_isub hx hb dX8_note_38 ?_
    refine x_iast (j := 22) hx hb hK hP hD hS 1 0 rfl rfl (by decide) (x_in (by decide)) dX8_note_39 (fun H locs hP hD hS => ?_)
    replace hP : va_P D vwCl [(m_mo, .inr (8, [.ref m_alane, .ref m_asize, .ref m_aitem, .int m_letters, .ref m_atape, .int m_position, .int m_number, .ref m_anow, .ref m_atried, .ref m_aread, .ref m_akept, .int m_isKept, .ref m_anoticed, .ref m_aneeds, .ref m_aorder, .int m_many, .int m_one, .int m_two])), (m_anow, .inl (G 0, 55, .inl (upd v0_1 22 ((v0_1 22) - (1 : Int32)))))] H := hP
    replace hD : va_D A [(m_mo, .inr (8, [.ref m_alane, .ref m_asize, .ref m_aitem, .int m_letters, .ref m_atape, .int m_position, .int m_number, .ref m_anow, .ref m_atried, .ref m_aread, .ref m_akept, .int m_isKept, .ref m_anoticed, .ref m_aneeds, .ref m_aorder, .int m_many, .int m_one, .int m_two])), (m_anow, .inl (G 0, 55, .inl (upd v0_1 22 ((v0_1 22) - (1 : Int32)))))] := hD
    exact J40 (upd v0_1 22 ((v0_1 22) - (1 : Int32))) _ _ _ hw hP hD hS (lv_sub hl [0] rfl)
set_option maxHeartbeats 4000000 in
set_option maxRecDepth 100000 in
theorem c_X8_noticedBy (l : Launch) (D : va_G) (G : Nat → ClassId) (av0 : Nat) (v0 : Nat → Int32) (x1 : Int32) (x2 : Int32) (post : Int32 → Prop) (hw : wp_X8_noticedBy v0 x1 x2 post) : Met l yX8_noticedBy wsX8_noticedBy ({ frames := 3, cells := 0, slots := 0, locals := 71 } : Room) (va_Pc [.ref av0, .int x1, .int x2] (xR D G [(av0, .inl (G 0, 55, .inl v0))])) (vp_Si post) 0 0 (fun _ => False) := by
  refine Met.ofW (cc := cX8_noticedBy) (maxL := 5) (ret := (some .int)) (by decide) rfl ?_
  intro p e s m args below meth c s₁ B hml hv
  obtain ⟨rfl, hP, hK⟩ := hv
  have hx := B.exec
  have hb := B.bytes
  have hr := B.returns
  have hts := atoms_spec (ws := wsX8_noticedBy) B.pre
  have hown : s.vm.findClass RX8 = some m.cls := findClass_of_methodNamed B.named
  have hlocks := B.notSynchronized
  have hl := lv_entry ([.ref av0, .int x1, .int x2] : List Value) (n := 5) (Nat.le_of_ble_eq_true rfl)
  rw [lg_entry_eq]
  generalize (lg_sl ([.ref av0, .int x1, .int x2] : List Value) ++ List.replicate (5 - (lg_sl ([.ref av0, .int x1, .int x2] : List Value)).length) Slot.unset).toArray = ls at hl ⊢
  have hl : lv_has ls 5 [(0, .ref av0), (1, .int x1), (2, .int x2)] := hl
  unfold wp_X8_noticedBy at hw
  have L5 : ∀ (f5 : Nat) (x3 : Int32) (x4 : Int32) (ls : Array Slot), wp_X8_noticedBy_L5 v0 x1 x2 post f5 x3 x4 → lv_has ls 5 [(0, .ref av0), (1, .int x1), (2, .int x2), (3, .int x3), (4, .int x4)] → W p l e (headSpec wsX8_noticedBy ({ frames := 3, cells := 0, slots := 0, locals := 71 } : Room)).room s m ([.ref av0, .int x1, .int x2] : List Value).toArray below meth c s.heap [] 0 0 (MQ below (vp_Si post) ([.ref av0, .int x1, .int x2] : List Value).toArray s 0 0 (fun _ => False)) (F0 m 5 ls []) := by
    intro f5
    induction f5 with
    | zero => intro x3 x4 ls hw hl; exact (hw : False).elim
    | succ f5 ih5 =>
      intro x3 x4 ls hw hl
      unfold wp_X8_noticedBy_L5 at hw
      refine lv_iload hx hb dX8_noticedBy_5 (lv_at hl 4 rfl) ?_
      refine lv_aload_n hx hb dX8_noticedBy_7 rfl (lv_at hl 0 rfl) ?_
      refine lv_iconst (v := 4) hx hb dX8_noticedBy_8 (by decide) ?_
      refine x_iald (j := 4) hx hb hK hP 0 0 rfl rfl (by decide) (x_in (by decide)) dX8_noticedBy_9 ?_
      refine lv_icmp_ge (tgt := 41) hx hb dX8_noticedBy_10 (by decide) (fun c9 => ?_) (fun c9 => ?_)
      · replace hw := hw.1 c9
        refine lv_iload_n hx hb dX8_noticedBy_41 rfl (lv_at hl 3 rfl) ?_
        exact W.iret hx hb hr (fun t ht _ => ⟨_, rfl, hw, ht⟩) (fun _ h => absurd h List.not_mem_nil) dX8_noticedBy_42
      · replace hw := hw.2 c9
        refine lv_iload_n hx hb dX8_noticedBy_13 rfl (lv_at hl 3 rfl) ?_
        refine lv_aload_n hx hb dX8_noticedBy_14 rfl (lv_at hl 0 rfl) ?_
        refine lv_iload_n hx hb dX8_noticedBy_15 rfl (lv_at hl 1 rfl) ?_
        refine lv_iload_n hx hb dX8_noticedBy_16 rfl (lv_at hl 2 rfl) ?_
        refine lv_iload hx hb dX8_noticedBy_17 (lv_at hl 4 rfl) ?_
        refine vp_callSi (W.runS (As := [.ref av0, .int x1, .int x2, .int x4]) (rest := [.int x3]) ⟨hx, hb, hml, hown, hts⟩ (c_X8_noticesIn l D G av0 v0 x1 x2 x4 _ hw) (va_cwS 4 hts gX8_noticedBy_X8_noticesIn rfl rfl rfl (by decide +kernel) ⟨(Nat.le_of_ble_eq_true rfl), (Nat.le_of_ble_eq_true rfl)⟩) (xR_ps (hP.sub [0] rfl) hK) rfl rfl hl.1 rfl (lv_room (Nat.le_of_ble_eq_true rfl)) dX8_noticedBy_19 ⟨Nat.zero_le _, Nat.zero_le _⟩) (fun r1 hw => ?_)
        refine lv_if_eq (tgt := 32) hx hb dX8_noticedBy_22 (by decide) (fun c9 => ?_) (fun c9 => ?_)
        · replace hw := hw.1 c9
          refine lv_iconst (v := 0) hx hb dX8_noticedBy_32 (by decide) ?_
          refine lv_ior hx hb dX8_noticedBy_33 ?_
          refine lv_istore_n (lv' := [(3, .int (x3 ||| (0 : Int32))), (0, .ref av0), (1, .int x1), (2, .int x2), (4, .int x4)]) hx hb dX8_noticedBy_34 rfl hl (by decide) rfl (fun ls hl => ?_)
          refine lv_iinc (v := (x4 + 1)) (lv' := [(4, .int (x4 + 1)), (3, .int (x3 ||| (0 : Int32))), (0, .ref av0), (1, .int x1), (2, .int x2)]) hx hb dX8_noticedBy_35 hl (k := 4) rfl (by first | rfl | decide) (by decide) rfl (fun ls hl => ?_)
          refine lv_goto (tgt := 5) hx hb dX8_noticedBy_38 (by decide) ?_
          exact ih5 (x3 ||| (0 : Int32)) (x4 + 1) _ hw (lv_sub hl [2, 3, 4, 1, 0] rfl)
        · replace hw := hw.2 c9
          refine lv_iconst (v := 1) hx hb dX8_noticedBy_25 (by decide) ?_
          refine lv_iload hx hb dX8_noticedBy_26 (lv_at hl 4 rfl) ?_
          refine lv_ishl hx hb dX8_noticedBy_28 ?_
          refine lv_goto (tgt := 33) hx hb dX8_noticedBy_29 (by decide) ?_
          refine lv_ior hx hb dX8_noticedBy_33 ?_
          refine lv_istore_n (lv' := [(3, .int (x3 ||| ((1 : Int32) <<< (x4 &&& 31)))), (0, .ref av0), (1, .int x1), (2, .int x2), (4, .int x4)]) hx hb dX8_noticedBy_34 rfl hl (by decide) rfl (fun ls hl => ?_)
          refine lv_iinc (v := (x4 + 1)) (lv' := [(4, .int (x4 + 1)), (3, .int (x3 ||| ((1 : Int32) <<< (x4 &&& 31)))), (0, .ref av0), (1, .int x1), (2, .int x2)]) hx hb dX8_noticedBy_35 hl (k := 4) rfl (by first | rfl | decide) (by decide) rfl (fun ls hl => ?_)
          refine lv_goto (tgt := 5) hx hb dX8_noticedBy_38 (by decide) ?_
          exact ih5 (x3 ||| ((1 : Int32) <<< (x4 &&& 31))) (x4 + 1) _ hw (lv_sub hl [2, 3, 4, 1, 0] rfl)
  refine lv_iconst (v := 0) hx hb dX8_noticedBy_0 (by decide) ?_
  refine lv_istore_n (lv' := [(3, .int (0 : Int32)), (0, .ref av0), (1, .int x1), (2, .int x2)]) hx hb dX8_noticedBy_1 rfl hl (by decide) rfl (fun ls hl => ?_)
  refine lv_iconst (v := 0) hx hb dX8_noticedBy_2 (by decide) ?_
  refine lv_istore (lv' := [(4, .int (0 : Int32)), (3, .int (0 : Int32)), (0, .ref av0), (1, .int x1), (2, .int x2)]) hx hb dX8_noticedBy_3 hl (by decide) rfl (fun ls hl => ?_)
  obtain ⟨n, hw⟩ := hw
  exact L5 n (0 : Int32) (0 : Int32) _ hw (lv_sub hl [2, 3, 4, 1, 0] rfl)
set_option maxHeartbeats 4000000 in
set_option maxRecDepth 100000 in
theorem c_X8_answers (l : Launch) (D : va_G) (G : Nat → ClassId) (sz : Nat) (m_mo : Nat) (m_alane : Nat) (m_asize : Nat) (m_aitem : Nat) (m_atape : Nat) (m_anow : Nat) (m_atried : Nat) (m_aread : Nat) (m_akept : Nat) (m_anoticed : Nat) (m_aneeds : Nat) (m_aorder : Nat) (m_letters : Int32) (m_position : Int32) (m_number : Int32) (m_isKept : Int32) (m_many : Int32) (m_one : Int32) (m_two : Int32) (m_now : Nat → Int32) (x1 : Int32) (x2 : Int32) (x3 : Int32) (post : (Nat → Int32) → Prop) (hw : wp_X8_answers m_now x1 x2 x3 post) : Met l yX8_answers wsX8_answers ({ frames := 4, cells := 0, slots := 0, locals := 95 } : Room) (va_Pc [.ref m_mo, .int x1, .int x2, .int x3] (xM D G sz [(m_mo, .inr (8, [.ref m_alane, .ref m_asize, .ref m_aitem, .int m_letters, .ref m_atape, .int m_position, .int m_number, .ref m_anow, .ref m_atried, .ref m_aread, .ref m_akept, .int m_isKept, .ref m_anoticed, .ref m_aneeds, .ref m_aorder, .int m_many, .int m_one, .int m_two])), (m_anow, .inl (G 0, 55, .inl m_now))])) (va_Qv (fun (u : (Nat → Int32)) => post u) (fun u t => xE D G (va_A [(m_mo, .inr (8, [.ref m_alane, .ref m_asize, .ref m_aitem, .int m_letters, .ref m_atape, .int m_position, .int m_number, .ref m_anow, .ref m_atried, .ref m_aread, .ref m_akept, .int m_isKept, .ref m_anoticed, .ref m_aneeds, .ref m_aorder, .int m_many, .int m_one, .int m_two])), (m_anow, .inl (G 0, 55, .inl m_now))] sz) [(m_mo, .inr (8, [.ref m_alane, .ref m_asize, .ref m_aitem, .int m_letters, .ref m_atape, .int m_position, .int m_number, .ref m_anow, .ref m_atried, .ref m_aread, .ref m_akept, .int m_isKept, .ref m_anoticed, .ref m_aneeds, .ref m_aorder, .int m_many, .int m_one, .int m_two])), (m_anow, .inl (G 0, 55, .inl u))] t) (va_A [(m_mo, .inr (8, [.ref m_alane, .ref m_asize, .ref m_aitem, .int m_letters, .ref m_atape, .int m_position, .int m_number, .ref m_anow, .ref m_atried, .ref m_aread, .ref m_akept, .int m_isKept, .ref m_anoticed, .ref m_aneeds, .ref m_aorder, .int m_many, .int m_one, .int m_two])), (m_anow, .inl (G 0, 55, .inl m_now))] sz)) 0 0 (va_A [(m_mo, .inr (8, [.ref m_alane, .ref m_asize, .ref m_aitem, .int m_letters, .ref m_atape, .int m_position, .int m_number, .ref m_anow, .ref m_atried, .ref m_aread, .ref m_akept, .int m_isKept, .ref m_anoticed, .ref m_aneeds, .ref m_aorder, .int m_many, .int m_one, .int m_two])), (m_anow, .inl (G 0, 55, .inl m_now))] sz) := by
  refine Met.ofW (cc := cX8_answers) (maxL := 5) (ret := none) (by decide) rfl ?_
  intro p e s m args below meth c s₁ B hml hv
  obtain ⟨rfl, hsz, hP, hK, hD0⟩ := hv
  have hx := B.exec
  have hb := B.bytes
  have hr := B.returns
  have hts := atoms_spec (ws := wsX8_answers) B.pre
  have hown : s.vm.findClass RX8 = some m.cls := findClass_of_methodNamed B.named
  have hlocks := B.notSynchronized
  subst hsz
  have hD := hD0.self (sz := s.heap.size)
  generalize hAe : va_A [(m_mo, .inr (8, [.ref m_alane, .ref m_asize, .ref m_aitem, .int m_letters, .ref m_atape, .int m_position, .int m_number, .ref m_anow, .ref m_atried, .ref m_aread, .ref m_akept, .int m_isKept, .ref m_anoticed, .ref m_aneeds, .ref m_aorder, .int m_many, .int m_one, .int m_two])), (m_anow, .inl (G 0, 55, .inl m_now))] s.heap.size = A at hD ⊢
  have hA : ∀ q : Nat, s.heap.size ≤ q → A q := fun q h => by rw [← hAe]; exact Or.inr h
  have hS : va_S A s.heap s.heap [] := va_S.rf
  have inX8 : ∀ w ∈ wsX80, w ∈ wsX8_answers := by decide +kernel
  have fl23 := hts (.fieldLink RX8 23 "NewsCowModel" "now" "[I") (by decide +kernel)
  have hl := lv_entry ([.ref m_mo, .int x1, .int x2, .int x3] : List Value) (n := 5) (Nat.le_of_ble_eq_true rfl)
  rw [lg_entry_eq]
  generalize (lg_sl ([.ref m_mo, .int x1, .int x2, .int x3] : List Value) ++ List.replicate (5 - (lg_sl ([.ref m_mo, .int x1, .int x2, .int x3] : List Value)).length) Slot.unset).toArray = ls at hl ⊢
  have hl : lv_has ls 5 [(0, .ref m_mo), (1, .int x1), (2, .int x2), (3, .int x3)] := hl
  unfold wp_X8_answers at hw
  have J35 : ∀ (k0 : Int32) (k1 : Int32) (k2 : Int32) (H : Heap) (locs : List Loc) (ls : Array Slot), wp_X8_answers_J35 m_now k0 k1 k2 post → va_P D vwCl [(m_mo, .inr (8, [.ref m_alane, .ref m_asize, .ref m_aitem, .int m_letters, .ref m_atape, .int m_position, .int m_number, .ref m_anow, .ref m_atried, .ref m_aread, .ref m_akept, .int m_isKept, .ref m_anoticed, .ref m_aneeds, .ref m_aorder, .int m_many, .int m_one, .int m_two])), (m_anow, .inl (G 0, 55, .inl m_now))] H → va_D A [(m_mo, .inr (8, [.ref m_alane, .ref m_asize, .ref m_aitem, .int m_letters, .ref m_atape, .int m_position, .int m_number, .ref m_anow, .ref m_atried, .ref m_aread, .ref m_akept, .int m_isKept, .ref m_anoticed, .ref m_aneeds, .ref m_aorder, .int m_many, .int m_one, .int m_two])), (m_anow, .inl (G 0, 55, .inl m_now))] → va_S A s.heap H locs → lv_has ls 5 [(0, .ref m_mo)] → W p l e (headSpec wsX8_answers ({ frames := 4, cells := 0, slots := 0, locals := 95 } : Room)).room s m ([.ref m_mo, .int x1, .int x2, .int x3] : List Value).toArray below meth c H locs 0 0 (MQ below (va_Qv (fun (u : (Nat → Int32)) => post u) (fun u t => xE D G A [(m_mo, .inr (8, [.ref m_alane, .ref m_asize, .ref m_aitem, .int m_letters, .ref m_atape, .int m_position, .int m_number, .ref m_anow, .ref m_atried, .ref m_aread, .ref m_akept, .int m_isKept, .ref m_anoticed, .ref m_aneeds, .ref m_aorder, .int m_many, .int m_one, .int m_two])), (m_anow, .inl (G 0, 55, .inl u))] t) A) ([.ref m_mo, .int x1, .int x2, .int x3] : List Value).toArray s 0 0 A) (F0 m 35 ls [.int k0, .int k1, .int k2, .ref m_anow]) := by
    intro k0 k1 k2 H locs ls hw hP hD hS hl
    unfold wp_X8_answers_J35 at hw
    refine lv_iand hx hb dX8_answers_35 ?_
    refine x_iast (j := k2.toNatClampNeg) hx hb hK hP hD hS 1 0 rfl rfl rfl hw.1 dX8_answers_36 (fun H locs hP hD hS => ?_)
    replace hw := hw.2
    replace hP : va_P D vwCl [(m_mo, .inr (8, [.ref m_alane, .ref m_asize, .ref m_aitem, .int m_letters, .ref m_atape, .int m_position, .int m_number, .ref m_anow, .ref m_atried, .ref m_aread, .ref m_akept, .int m_isKept, .ref m_anoticed, .ref m_aneeds, .ref m_aorder, .int m_many, .int m_one, .int m_two])), (m_anow, .inl (G 0, 55, .inl (upd m_now k2.toNatClampNeg (k1 &&& k0))))] H := hP
    replace hD : va_D A [(m_mo, .inr (8, [.ref m_alane, .ref m_asize, .ref m_aitem, .int m_letters, .ref m_atape, .int m_position, .int m_number, .ref m_anow, .ref m_atried, .ref m_aread, .ref m_akept, .int m_isKept, .ref m_anoticed, .ref m_aneeds, .ref m_aorder, .int m_many, .int m_one, .int m_two])), (m_anow, .inl (G 0, 55, .inl (upd m_now k2.toNatClampNeg (k1 &&& k0))))] := hD
    refine lv_aload_n hx hb dX8_answers_37 rfl (lv_at hl 0 rfl) ?_
    refine va_get (D := D) (ci := 8) (v := .ref m_anow) (C := RX8) (T := TX8) (N := 18) hx hb hts inX8 hown hK hP 0 rfl rfl 7 (by decide) fl23 (fun _ h9 => h9) rfl dX8_answers_38 ?_
    refine lv_iconst (v := 0) hx hb dX8_answers_41 (by decide) ?_
    refine lv_dup2_11 hx hb dX8_answers_42 rfl rfl ?_
    refine x_iald (j := 0) hx hb hK hP 1 0 rfl rfl (by decide) (x_in (by decide)) dX8_answers_43 ?_
    refine lv_iconst (v := 1) hx hb dX8_answers_44 (by decide) ?_
    refine lv_iadd hx hb dX8_answers_45 ?_
    refine x_iast (j := 0) hx hb hK hP hD hS 1 0 rfl rfl (by decide) (x_in (by decide)) dX8_answers_46 (fun H locs hP hD hS => ?_)
    replace hP : va_P D vwCl [(m_mo, .inr (8, [.ref m_alane, .ref m_asize, .ref m_aitem, .int m_letters, .ref m_atape, .int m_position, .int m_number, .ref m_anow, .ref m_atried, .ref m_aread, .ref m_akept, .int m_isKept, .ref m_anoticed, .ref m_aneeds, .ref m_aorder, .int m_many, .int m_one, .int m_two])), (m_anow, .inl (G 0, 55, .inl (upd (upd m_now k2.toNatClampNeg (k1 &&& k0)) 0 (((upd m_now k2.toNatClampNeg (k1 &&& k0)) 0) + (1 : Int32)))))] H := hP
    replace hD : va_D A [(m_mo, .inr (8, [.ref m_alane, .ref m_asize, .ref m_aitem, .int m_letters, .ref m_atape, .int m_position, .int m_number, .ref m_anow, .ref m_atried, .ref m_aread, .ref m_akept, .int m_isKept, .ref m_anoticed, .ref m_aneeds, .ref m_aorder, .int m_many, .int m_one, .int m_two])), (m_anow, .inl (G 0, 55, .inl (upd (upd m_now k2.toNatClampNeg (k1 &&& k0)) 0 (((upd m_now k2.toNatClampNeg (k1 &&& k0)) 0) + (1 : Int32)))))] := hD
    exact W.vret hx hb hr (x_mv (u := (upd (upd m_now k2.toNatClampNeg (k1 &&& k0)) 0 (((upd m_now k2.toNatClampNeg (k1 &&& k0)) 0) + (1 : Int32)))) hP hK hD hS hw) hS.2.2 dX8_answers_47
  refine lv_aload_n hx hb dX8_answers_0 rfl (lv_at hl 0 rfl) ?_
  refine va_get (D := D) (ci := 8) (v := .ref m_anow) (C := RX8) (T := TX8) (N := 18) hx hb hts inX8 hown hK hP 0 rfl rfl 7 (by decide) fl23 (fun _ h9 => h9) rfl dX8_answers_1 ?_
  refine lv_iload_n hx hb dX8_answers_4 rfl (lv_at hl 1 rfl) ?_
  refine lv_iload_n hx hb dX8_answers_5 rfl (lv_at hl 2 rfl) ?_
  refine vp_callSi (W.runS (As := [.ref m_anow, .int x1, .int x2]) (rest := []) ⟨hx, hb, hml, hown, hts⟩ (c_X8_noticedBy l D G m_anow m_now x1 x2 _ hw) (va_cwS 3 hts gX8_answers_X8_noticedBy rfl rfl rfl (by decide +kernel) ⟨(Nat.le_of_ble_eq_true rfl), (Nat.le_of_ble_eq_true rfl)⟩) (xR_ps (hP.sub [1] rfl) hK) rfl rfl hl.1 rfl (lv_room (Nat.le_of_ble_eq_true rfl)) dX8_answers_6 ⟨Nat.zero_le _, Nat.zero_le _⟩) (fun r1 hw => ?_)
  refine lv_istore (lv' := [(4, .int r1), (0, .ref m_mo), (1, .int x1), (2, .int x2), (3, .int x3)]) hx hb dX8_answers_9 hl (by decide) rfl (fun ls hl => ?_)
  refine lv_aload_n hx hb dX8_answers_11 rfl (lv_at hl 1 rfl) ?_
  refine va_get (D := D) (ci := 8) (v := .ref m_anow) (C := RX8) (T := TX8) (N := 18) hx hb hts inX8 hown hK hP 0 rfl rfl 7 (by decide) fl23 (fun _ h9 => h9) rfl dX8_answers_12 ?_
  refine lv_iconst (v := 2) hx hb dX8_answers_15 (by decide) ?_
  refine lv_aload_n hx hb dX8_answers_16 rfl (lv_at hl 1 rfl) ?_
  refine va_get (D := D) (ci := 8) (v := .ref m_anow) (C := RX8) (T := TX8) (N := 18) hx hb hts inX8 hown hK hP 0 rfl rfl 7 (by decide) fl23 (fun _ h9 => h9) rfl dX8_answers_17 ?_
  refine lv_iconst (v := 2) hx hb dX8_answers_20 (by decide) ?_
  refine x_iald (j := 2) hx hb hK hP 1 0 rfl rfl (by decide) (x_in (by decide)) dX8_answers_21 ?_
  refine lv_iload_n hx hb dX8_answers_22 rfl (lv_at hl 4 rfl) ?_
  refine lv_if_eq (tgt := 31) hx hb dX8_answers_23 (by decide) (fun c9 => ?_) (fun c9 => ?_)
  · replace hw := hw.1 c9
    refine lv_iload hx hb dX8_answers_31 (lv_at hl 0 rfl) ?_
    refine lv_iconst (v := -1) hx hb dX8_answers_33 (by decide) ?_
    refine lv_ixor hx hb dX8_answers_34 ?_
    exact J35 (r1 ^^^ (-1 : Int32)) (m_now 2) (2 : Int32) _ _ _ hw hP hD hS (lv_sub hl [1] rfl)
  · replace hw := hw.2 c9
    refine lv_iload hx hb dX8_answers_26 (lv_at hl 0 rfl) ?_
    refine lv_goto (tgt := 35) hx hb dX8_answers_28 (by decide) ?_
    exact J35 r1 (m_now 2) (2 : Int32) _ _ _ hw hP hD hS (lv_sub hl [1] rfl)
set_option maxHeartbeats 4000000 in
set_option maxRecDepth 100000 in
theorem c_X8_answer (l : Launch) (D : va_G) (G : Nat → ClassId) (sz : Nat) (m_mo : Nat) (m_alane : Nat) (m_asize : Nat) (m_aitem : Nat) (m_atape : Nat) (m_anow : Nat) (m_atried : Nat) (m_aread : Nat) (m_akept : Nat) (m_anoticed : Nat) (m_aneeds : Nat) (m_aorder : Nat) (m_letters : Int32) (m_position : Int32) (m_number : Int32) (m_isKept : Int32) (m_many : Int32) (m_one : Int32) (m_two : Int32) (m_now : Nat → Int32) (x1 : Int32) (x2 : Int32) (x3 : Int32) (post : Int32 → (Nat → Int32) → Prop) (hw : wp_X8_answer m_now x1 x2 x3 post) : Met l yX8_answer wsX8_answer ({ frames := 5, cells := 0, slots := 0, locals := 119 } : Room) (va_Pc [.ref m_mo, .int x1, .int x2, .int x3] (xM D G sz [(m_mo, .inr (8, [.ref m_alane, .ref m_asize, .ref m_aitem, .int m_letters, .ref m_atape, .int m_position, .int m_number, .ref m_anow, .ref m_atried, .ref m_aread, .ref m_akept, .int m_isKept, .ref m_anoticed, .ref m_aneeds, .ref m_aorder, .int m_many, .int m_one, .int m_two])), (m_anow, .inl (G 0, 55, .inl m_now))])) (va_Qi (fun r (u : (Nat → Int32)) => post r u) (fun u t => xE D G (va_A [(m_mo, .inr (8, [.ref m_alane, .ref m_asize, .ref m_aitem, .int m_letters, .ref m_atape, .int m_position, .int m_number, .ref m_anow, .ref m_atried, .ref m_aread, .ref m_akept, .int m_isKept, .ref m_anoticed, .ref m_aneeds, .ref m_aorder, .int m_many, .int m_one, .int m_two])), (m_anow, .inl (G 0, 55, .inl m_now))] sz) [(m_mo, .inr (8, [.ref m_alane, .ref m_asize, .ref m_aitem, .int m_letters, .ref m_atape, .int m_position, .int m_number, .ref m_anow, .ref m_atried, .ref m_aread, .ref m_akept, .int m_isKept, .ref m_anoticed, .ref m_aneeds, .ref m_aorder, .int m_many, .int m_one, .int m_two])), (m_anow, .inl (G 0, 55, .inl u))] t) (va_A [(m_mo, .inr (8, [.ref m_alane, .ref m_asize, .ref m_aitem, .int m_letters, .ref m_atape, .int m_position, .int m_number, .ref m_anow, .ref m_atried, .ref m_aread, .ref m_akept, .int m_isKept, .ref m_anoticed, .ref m_aneeds, .ref m_aorder, .int m_many, .int m_one, .int m_two])), (m_anow, .inl (G 0, 55, .inl m_now))] sz)) 0 0 (va_A [(m_mo, .inr (8, [.ref m_alane, .ref m_asize, .ref m_aitem, .int m_letters, .ref m_atape, .int m_position, .int m_number, .ref m_anow, .ref m_atried, .ref m_aread, .ref m_akept, .int m_isKept, .ref m_anoticed, .ref m_aneeds, .ref m_aorder, .int m_many, .int m_one, .int m_two])), (m_anow, .inl (G 0, 55, .inl m_now))] sz) := by
  refine Met.ofW (cc := cX8_answer) (maxL := 4) (ret := (some .int)) (by decide) rfl ?_
  intro p e s m args below meth c s₁ B hml hv
  obtain ⟨rfl, hsz, hP, hK, hD0⟩ := hv
  have hx := B.exec
  have hb := B.bytes
  have hr := B.returns
  have hts := atoms_spec (ws := wsX8_answer) B.pre
  have hown : s.vm.findClass RX8 = some m.cls := findClass_of_methodNamed B.named
  have hlocks := B.notSynchronized
  subst hsz
  have hD := hD0.self (sz := s.heap.size)
  generalize hAe : va_A [(m_mo, .inr (8, [.ref m_alane, .ref m_asize, .ref m_aitem, .int m_letters, .ref m_atape, .int m_position, .int m_number, .ref m_anow, .ref m_atried, .ref m_aread, .ref m_akept, .int m_isKept, .ref m_anoticed, .ref m_aneeds, .ref m_aorder, .int m_many, .int m_one, .int m_two])), (m_anow, .inl (G 0, 55, .inl m_now))] s.heap.size = A at hD ⊢
  have hA : ∀ q : Nat, s.heap.size ≤ q → A q := fun q h => by rw [← hAe]; exact Or.inr h
  have hS : va_S A s.heap s.heap [] := va_S.rf
  have inX8 : ∀ w ∈ wsX80, w ∈ wsX8_answer := by decide +kernel
  have fl23 := hts (.fieldLink RX8 23 "NewsCowModel" "now" "[I") (by decide +kernel)
  have hl := lv_entry ([.ref m_mo, .int x1, .int x2, .int x3] : List Value) (n := 4) (Nat.le_of_ble_eq_true rfl)
  rw [lg_entry_eq]
  generalize (lg_sl ([.ref m_mo, .int x1, .int x2, .int x3] : List Value) ++ List.replicate (4 - (lg_sl ([.ref m_mo, .int x1, .int x2, .int x3] : List Value)).length) Slot.unset).toArray = ls at hl ⊢
  have hl : lv_has ls 4 [(0, .ref m_mo), (1, .int x1), (2, .int x2), (3, .int x3)] := hl
  unfold wp_X8_answer at hw
  have J59 : ∀ (k0 : Int32) (k1 : Int32) (k2 : Int32) (m_now : Nat → Int32) (H : Heap) (locs : List Loc) (ls : Array Slot), wp_X8_answer_J59 m_now k0 k1 k2 post → va_P D vwCl [(m_mo, .inr (8, [.ref m_alane, .ref m_asize, .ref m_aitem, .int m_letters, .ref m_atape, .int m_position, .int m_number, .ref m_anow, .ref m_atried, .ref m_aread, .ref m_akept, .int m_isKept, .ref m_anoticed, .ref m_aneeds, .ref m_aorder, .int m_many, .int m_one, .int m_two])), (m_anow, .inl (G 0, 55, .inl m_now))] H → va_D A [(m_mo, .inr (8, [.ref m_alane, .ref m_asize, .ref m_aitem, .int m_letters, .ref m_atape, .int m_position, .int m_number, .ref m_anow, .ref m_atried, .ref m_aread, .ref m_akept, .int m_isKept, .ref m_anoticed, .ref m_aneeds, .ref m_aorder, .int m_many, .int m_one, .int m_two])), (m_anow, .inl (G 0, 55, .inl m_now))] → va_S A s.heap H locs → lv_has ls 4 [(0, .ref m_mo)] → W p l e (headSpec wsX8_answer ({ frames := 5, cells := 0, slots := 0, locals := 119 } : Room)).room s m ([.ref m_mo, .int x1, .int x2, .int x3] : List Value).toArray below meth c H locs 0 0 (MQ below (va_Qi (fun r (u : (Nat → Int32)) => post r u) (fun u t => xE D G A [(m_mo, .inr (8, [.ref m_alane, .ref m_asize, .ref m_aitem, .int m_letters, .ref m_atape, .int m_position, .int m_number, .ref m_anow, .ref m_atried, .ref m_aread, .ref m_akept, .int m_isKept, .ref m_anoticed, .ref m_aneeds, .ref m_aorder, .int m_many, .int m_one, .int m_two])), (m_anow, .inl (G 0, 55, .inl u))] t) A) ([.ref m_mo, .int x1, .int x2, .int x3] : List Value).toArray s 0 0 A) (F0 m 59 ls [.int k0, .int k1, .int k2, .ref m_mo]) := by
    intro k0 k1 k2 m_now H locs ls hw hP hD hS hl
    unfold wp_X8_answer_J59 at hw
    refine x_cMv (wr := []) (va_runV (As := [.int k2, .int k1, .int k0]) (rest := []) ⟨hx, hb, hml, hown, hts⟩ (c_X8_answers l D G _ m_mo m_alane m_asize m_aitem m_atape m_anow m_atried m_aread m_akept m_anoticed m_aneeds m_aorder m_letters m_position m_number m_isKept m_many m_one m_two m_now k2 k1 k0 _ hw) (cwV 3 hts gX8_answer_X8_answers rfl rfl rfl (by decide +kernel) ⟨(Nat.le_of_ble_eq_true rfl), (Nat.le_of_ble_eq_true rfl)⟩) (xM_pv (hP.sub [0, 1] rfl) hK (hD.sub [0, 1] (by decide) rfl) (va_recv hK hP (ci := 8) (q0 := 0) rfl rfl)) rfl rfl hl.1 rfl (lv_room (Nat.le_of_ble_eq_true rfl)) dX8_answer_59 ⟨Nat.zero_le _, Nat.zero_le _⟩) hP hD hS hA [0, 1] [] rfl rfl (by decide) (by decide) [0, 1] (fun u => [(m_mo, .inr (8, [.ref m_alane, .ref m_asize, .ref m_aitem, .int m_letters, .ref m_atape, .int m_position, .int m_number, .ref m_anow, .ref m_atried, .ref m_aread, .ref m_akept, .int m_isKept, .ref m_anoticed, .ref m_aneeds, .ref m_aorder, .int m_many, .int m_one, .int m_two])), (m_anow, .inl (G 0, 55, .inl u))]) (by decide) (fun u => rfl) (fun u H locs hw hP hD hS => ?_)
    obtain ⟨m_now_5, rfl⟩ : ∃ z, z = u := ⟨_, rfl⟩
    try dsimp only at hw
    replace hP : va_P D vwCl [(m_mo, .inr (8, [.ref m_alane, .ref m_asize, .ref m_aitem, .int m_letters, .ref m_atape, .int m_position, .int m_number, .ref m_anow, .ref m_atried, .ref m_aread, .ref m_akept, .int m_isKept, .ref m_anoticed, .ref m_aneeds, .ref m_aorder, .int m_many, .int m_one, .int m_two])), (m_anow, .inl (G 0, 55, .inl m_now_5))] H := hP
    replace hD : va_D A [(m_mo, .inr (8, [.ref m_alane, .ref m_asize, .ref m_aitem, .int m_letters, .ref m_atape, .int m_position, .int m_number, .ref m_anow, .ref m_atried, .ref m_aread, .ref m_akept, .int m_isKept, .ref m_anoticed, .ref m_aneeds, .ref m_aorder, .int m_many, .int m_one, .int m_two])), (m_anow, .inl (G 0, 55, .inl m_now_5))] := hD
    refine lv_aload_n hx hb dX8_answer_62 rfl (lv_at hl 0 rfl) ?_
    refine va_get (D := D) (ci := 8) (v := .ref m_anow) (C := RX8) (T := TX8) (N := 18) hx hb hts inX8 hown hK hP 0 rfl rfl 7 (by decide) fl23 (fun _ h9 => h9) rfl dX8_answer_63 ?_
    refine lv_iconst (v := 2) hx hb dX8_answer_66 (by decide) ?_
    refine x_iald (j := 2) hx hb hK hP 1 0 rfl rfl (by decide) (x_in (by decide)) dX8_answer_67 ?_
    exact W.iret hx hb hr (x_mi (u := m_now_5) hP hK hD hS hw) hS.2.2 dX8_answer_68
  refine lv_aload_n hx hb dX8_answer_0 rfl (lv_at hl 0 rfl) ?_
  refine lv_iload_n hx hb dX8_answer_1 rfl (lv_at hl 1 rfl) ?_
  refine vp_callSi (W.runV (As := [.int x1]) (rest := []) ⟨hx, hb, hml, hown, hts⟩ (c_X8_isTaster l D G m_mo m_alane m_asize m_aitem m_atape m_anow m_atried m_aread m_akept m_anoticed m_aneeds m_aorder m_letters m_position m_number m_isKept m_many m_one m_two m_now x1 _ hw) (cwV 1 hts gX8_answer_X8_isTaster rfl rfl rfl (by decide +kernel) ⟨(Nat.le_of_ble_eq_true rfl), (Nat.le_of_ble_eq_true rfl)⟩) (xR_pv (hP.sub [0, 1] rfl) hK (va_recv hK hP (ci := 8) (q0 := 0) rfl rfl)) rfl rfl hl.1 rfl (lv_room (Nat.le_of_ble_eq_true rfl)) dX8_answer_2 ⟨Nat.zero_le _, Nat.zero_le _⟩) (fun r1 hw => ?_)
  refine lv_if_eq (tgt := 25) hx hb dX8_answer_5 (by decide) (fun c9 => ?_) (fun c9 => ?_)
  · replace hw := hw.1 c9
    refine lv_iconst (v := -1) hx hb dX8_answer_25 (by decide) ?_
    exact W.iret hx hb hr (x_mi (u := m_now) hP hK hD hS hw) hS.2.2 dX8_answer_26
  · replace hw := hw.2 c9
    refine lv_aload_n hx hb dX8_answer_8 rfl (lv_at hl 0 rfl) ?_
    refine lv_iload_n hx hb dX8_answer_9 rfl (lv_at hl 2 rfl) ?_
    refine vp_callSi (W.runV (As := [.int x2]) (rest := []) ⟨hx, hb, hml, hown, hts⟩ (c_X8_isMix l D G m_mo m_alane m_asize m_aitem m_atape m_anow m_atried m_aread m_akept m_anoticed m_aneeds m_aorder m_letters m_position m_number m_isKept m_many m_one m_two m_now x2 _ hw) (cwV 1 hts gX8_answer_X8_isMix rfl rfl rfl (by decide +kernel) ⟨(Nat.le_of_ble_eq_true rfl), (Nat.le_of_ble_eq_true rfl)⟩) (xR_pv (hP.sub [0, 1] rfl) hK (va_recv hK hP (ci := 8) (q0 := 0) rfl rfl)) rfl rfl hl.1 rfl (lv_room (Nat.le_of_ble_eq_true rfl)) dX8_answer_10 ⟨Nat.zero_le _, Nat.zero_le _⟩) (fun r2 hw => ?_)
    refine lv_if_eq (tgt := 25) hx hb dX8_answer_13 (by decide) (fun c9 => ?_) (fun c9 => ?_)
    · replace hw := hw.1 c9
      refine lv_iconst (v := -1) hx hb dX8_answer_25 (by decide) ?_
      exact W.iret hx hb hr (x_mi (u := m_now) hP hK hD hS hw) hS.2.2 dX8_answer_26
    · replace hw := hw.2 c9
      refine lv_iload_n hx hb dX8_answer_16 rfl (lv_at hl 3 rfl) ?_
      refine lv_iconst (v := 0) hx hb dX8_answer_17 (by decide) ?_
      refine lv_iconst (v := 1) hx hb dX8_answer_18 (by decide) ?_
      refine vp_callSi (W.runS (As := [.int x3, .int (0 : Int32), .int (1 : Int32)]) (rest := []) ⟨hx, hb, hml, hown, hts⟩ (c_X8_in l D G x3 (0 : Int32) (1 : Int32) _ hw) (va_cwS 3 hts gX8_answer_X8_in rfl rfl rfl (by decide +kernel) ⟨(Nat.le_of_ble_eq_true rfl), (Nat.le_of_ble_eq_true rfl)⟩) (xR_ps (hP.sub [] rfl) hK) rfl rfl hl.1 rfl (lv_room (Nat.le_of_ble_eq_true rfl)) dX8_answer_19 ⟨Nat.zero_le _, Nat.zero_le _⟩) (fun r3 hw => ?_)
      refine lv_if_ne (tgt := 27) hx hb dX8_answer_22 (by decide) (fun c9 => ?_) (fun c9 => ?_)
      · replace hw := hw.1 c9
        refine lv_aload_n hx hb dX8_answer_27 rfl (lv_at hl 0 rfl) ?_
        refine va_get (D := D) (ci := 8) (v := .ref m_anow) (C := RX8) (T := TX8) (N := 18) hx hb hts inX8 hown hK hP 0 rfl rfl 7 (by decide) fl23 (fun _ h9 => h9) rfl dX8_answer_28 ?_
        refine lv_iconst (v := 0) hx hb dX8_answer_31 (by decide) ?_
        refine x_iald (j := 0) hx hb hK hP 1 0 rfl rfl (by decide) (x_in (by decide)) dX8_answer_32 ?_
        refine lv_sipush (v := 9999) hx hb dX8_answer_33 (by decide) ?_
        refine lv_icmp_ne (tgt := 42) hx hb dX8_answer_36 (by decide) (fun c9 => ?_) (fun c9 => ?_)
        · replace hw := hw.1 c9
          refine lv_aload_n hx hb dX8_answer_42 rfl (lv_at hl 0 rfl) ?_
          refine x_cMv (wr := []) (va_runV (As := []) (rest := []) ⟨hx, hb, hml, hown, hts⟩ (c_X8_note l D G _ m_mo m_alane m_asize m_aitem m_atape m_anow m_atried m_aread m_akept m_anoticed m_aneeds m_aorder m_letters m_position m_number m_isKept m_many m_one m_two m_now _ hw) (cwV 0 hts gX8_answer_X8_note rfl rfl rfl (by decide +kernel) ⟨(Nat.le_of_ble_eq_true rfl), (Nat.le_of_ble_eq_true rfl)⟩) (xM_pv (hP.sub [0, 1] rfl) hK (hD.sub [0, 1] (by decide) rfl) (va_recv hK hP (ci := 8) (q0 := 0) rfl rfl)) rfl rfl hl.1 rfl (lv_room (Nat.le_of_ble_eq_true rfl)) dX8_answer_43 ⟨Nat.zero_le _, Nat.zero_le _⟩) hP hD hS hA [0, 1] [] rfl rfl (by decide) (by decide) [0, 1] (fun u => [(m_mo, .inr (8, [.ref m_alane, .ref m_asize, .ref m_aitem, .int m_letters, .ref m_atape, .int m_position, .int m_number, .ref m_anow, .ref m_atried, .ref m_aread, .ref m_akept, .int m_isKept, .ref m_anoticed, .ref m_aneeds, .ref m_aorder, .int m_many, .int m_one, .int m_two])), (m_anow, .inl (G 0, 55, .inl u))]) (by decide) (fun u => rfl) (fun u H locs hw hP hD hS => ?_)
          obtain ⟨m_now_4, rfl⟩ : ∃ z, z = u := ⟨_, rfl⟩
          try dsimp only at hw
          replace hP : va_P D vwCl [(m_mo, .inr (8, [.ref m_alane, .ref m_asize, .ref m_aitem, .int m_letters, .ref m_atape, .int m_position, .int m_number, .ref m_anow, .ref m_atried, .ref m_aread, .ref m_akept, .int m_isKept, .ref m_anoticed, .ref m_aneeds, .ref m_aorder, .int m_many, .int m_one, .int m_two])), (m_anow, .inl (G 0, 55, .inl m_now_4))] H := hP
          replace hD : va_D A [(m_mo, .inr (8, [.ref m_alane, .ref m_asize, .ref m_aitem, .int m_letters, .ref m_atape, .int m_position, .int m_number, .ref m_anow, .ref m_atried, .ref m_aread, .ref m_akept, .int m_isKept, .ref m_anoticed, .ref m_aneeds, .ref m_aorder, .int m_many, .int m_one, .int m_two])), (m_anow, .inl (G 0, 55, .inl m_now_4))] := hD
          refine lv_aload_n hx hb dX8_answer_46 rfl (lv_at hl 0 rfl) ?_
          refine lv_iload_n hx hb dX8_answer_47 rfl (lv_at hl 1 rfl) ?_
          refine lv_iload_n hx hb dX8_answer_48 rfl (lv_at hl 2 rfl) ?_
          refine lv_iload_n hx hb dX8_answer_49 rfl (lv_at hl 3 rfl) ?_
          refine lv_iconst (v := 1) hx hb dX8_answer_50 (by decide) ?_
          refine lv_icmp_ne (tgt := 58) hx hb dX8_answer_51 (by decide) (fun c9 => ?_) (fun c9 => ?_)
          · replace hw := hw.1 c9
            refine lv_iconst (v := 0) hx hb dX8_answer_58 (by decide) ?_
            exact J59 (0 : Int32) x2 x1 m_now_4 _ _ _ hw hP hD hS (lv_sub hl [0] rfl)
          · replace hw := hw.2 c9
            refine lv_iconst (v := 1) hx hb dX8_answer_54 (by decide) ?_
            refine lv_goto (tgt := 59) hx hb dX8_answer_55 (by decide) ?_
            exact J59 (1 : Int32) x2 x1 m_now_4 _ _ _ hw hP hD hS (lv_sub hl [0] rfl)
        · replace hw := hw.2 c9
          refine lv_bipush (v := -3) hx hb dX8_answer_39 (by decide) ?_
          exact W.iret hx hb hr (x_mi (u := m_now) hP hK hD hS hw) hS.2.2 dX8_answer_41
      · replace hw := hw.2 c9
        refine lv_iconst (v := -1) hx hb dX8_answer_25 (by decide) ?_
        exact W.iret hx hb hr (x_mi (u := m_now) hP hK hD hS hw) hS.2.2 dX8_answer_26
set_option maxHeartbeats 4000000 in
set_option maxRecDepth 100000 in
theorem c_X8_drink (l : Launch) (D : va_G) (G : Nat → ClassId) (sz : Nat) (m_mo : Nat) (m_alane : Nat) (m_asize : Nat) (m_aitem : Nat) (m_atape : Nat) (m_anow : Nat) (m_atried : Nat) (m_aread : Nat) (m_akept : Nat) (m_anoticed : Nat) (m_aneeds : Nat) (m_aorder : Nat) (m_letters : Int32) (m_position : Int32) (m_number : Int32) (m_isKept : Int32) (m_many : Int32) (m_one : Int32) (m_two : Int32) (m_now : Nat → Int32) (x1 : Int32) (x2 : Int32) (post : Int32 → (Nat → Int32) → Prop) (hw : wp_X8_drink m_now x1 x2 post) : Met l yX8_drink wsX8_drink ({ frames := 5, cells := 0, slots := 0, locals := 119 } : Room) (va_Pc [.ref m_mo, .int x1, .int x2] (xM D G sz [(m_mo, .inr (8, [.ref m_alane, .ref m_asize, .ref m_aitem, .int m_letters, .ref m_atape, .int m_position, .int m_number, .ref m_anow, .ref m_atried, .ref m_aread, .ref m_akept, .int m_isKept, .ref m_anoticed, .ref m_aneeds, .ref m_aorder, .int m_many, .int m_one, .int m_two])), (m_anow, .inl (G 0, 55, .inl m_now))])) (va_Qi (fun r (u : (Nat → Int32)) => post r u) (fun u t => xE D G (va_A [(m_mo, .inr (8, [.ref m_alane, .ref m_asize, .ref m_aitem, .int m_letters, .ref m_atape, .int m_position, .int m_number, .ref m_anow, .ref m_atried, .ref m_aread, .ref m_akept, .int m_isKept, .ref m_anoticed, .ref m_aneeds, .ref m_aorder, .int m_many, .int m_one, .int m_two])), (m_anow, .inl (G 0, 55, .inl m_now))] sz) [(m_mo, .inr (8, [.ref m_alane, .ref m_asize, .ref m_aitem, .int m_letters, .ref m_atape, .int m_position, .int m_number, .ref m_anow, .ref m_atried, .ref m_aread, .ref m_akept, .int m_isKept, .ref m_anoticed, .ref m_aneeds, .ref m_aorder, .int m_many, .int m_one, .int m_two])), (m_anow, .inl (G 0, 55, .inl u))] t) (va_A [(m_mo, .inr (8, [.ref m_alane, .ref m_asize, .ref m_aitem, .int m_letters, .ref m_atape, .int m_position, .int m_number, .ref m_anow, .ref m_atried, .ref m_aread, .ref m_akept, .int m_isKept, .ref m_anoticed, .ref m_aneeds, .ref m_aorder, .int m_many, .int m_one, .int m_two])), (m_anow, .inl (G 0, 55, .inl m_now))] sz)) 0 0 (va_A [(m_mo, .inr (8, [.ref m_alane, .ref m_asize, .ref m_aitem, .int m_letters, .ref m_atape, .int m_position, .int m_number, .ref m_anow, .ref m_atried, .ref m_aread, .ref m_akept, .int m_isKept, .ref m_anoticed, .ref m_aneeds, .ref m_aorder, .int m_many, .int m_one, .int m_two])), (m_anow, .inl (G 0, 55, .inl m_now))] sz) := by
  refine Met.ofW (cc := cX8_drink) (maxL := 4) (ret := (some .int)) (by decide) rfl ?_
  intro p e s m args below meth c s₁ B hml hv
  obtain ⟨rfl, hsz, hP, hK, hD0⟩ := hv
  have hx := B.exec
  have hb := B.bytes
  have hr := B.returns
  have hts := atoms_spec (ws := wsX8_drink) B.pre
  have hown : s.vm.findClass RX8 = some m.cls := findClass_of_methodNamed B.named
  have hlocks := B.notSynchronized
  subst hsz
  have hD := hD0.self (sz := s.heap.size)
  generalize hAe : va_A [(m_mo, .inr (8, [.ref m_alane, .ref m_asize, .ref m_aitem, .int m_letters, .ref m_atape, .int m_position, .int m_number, .ref m_anow, .ref m_atried, .ref m_aread, .ref m_akept, .int m_isKept, .ref m_anoticed, .ref m_aneeds, .ref m_aorder, .int m_many, .int m_one, .int m_two])), (m_anow, .inl (G 0, 55, .inl m_now))] s.heap.size = A at hD ⊢
  have hA : ∀ q : Nat, s.heap.size ≤ q → A q := fun q h => by rw [← hAe]; exact Or.inr h
  have hS : va_S A s.heap s.heap [] := va_S.rf
  have inX8 : ∀ w ∈ wsX80, w ∈ wsX8_drink := by decide +kernel
  have fl23 := hts (.fieldLink RX8 23 "NewsCowModel" "now" "[I") (by decide +kernel)
  have hl := lv_entry ([.ref m_mo, .int x1, .int x2] : List Value) (n := 4) (Nat.le_of_ble_eq_true rfl)
  rw [lg_entry_eq]
  generalize (lg_sl ([.ref m_mo, .int x1, .int x2] : List Value) ++ List.replicate (4 - (lg_sl ([.ref m_mo, .int x1, .int x2] : List Value)).length) Slot.unset).toArray = ls at hl ⊢
  have hl : lv_has ls 4 [(0, .ref m_mo), (1, .int x1), (2, .int x2)] := hl
  unfold wp_X8_drink at hw
  refine lv_aload_n hx hb dX8_drink_0 rfl (lv_at hl 0 rfl) ?_
  refine lv_iload_n hx hb dX8_drink_1 rfl (lv_at hl 1 rfl) ?_
  refine vp_callSi (W.runV (As := [.int x1]) (rest := []) ⟨hx, hb, hml, hown, hts⟩ (c_X8_isTaster l D G m_mo m_alane m_asize m_aitem m_atape m_anow m_atried m_aread m_akept m_anoticed m_aneeds m_aorder m_letters m_position m_number m_isKept m_many m_one m_two m_now x1 _ hw) (cwV 1 hts gX8_drink_X8_isTaster rfl rfl rfl (by decide +kernel) ⟨(Nat.le_of_ble_eq_true rfl), (Nat.le_of_ble_eq_true rfl)⟩) (xR_pv (hP.sub [0, 1] rfl) hK (va_recv hK hP (ci := 8) (q0 := 0) rfl rfl)) rfl rfl hl.1 rfl (lv_room (Nat.le_of_ble_eq_true rfl)) dX8_drink_2 ⟨Nat.zero_le _, Nat.zero_le _⟩) (fun r1 hw => ?_)
  refine lv_if_eq (tgt := 16) hx hb dX8_drink_5 (by decide) (fun c9 => ?_) (fun c9 => ?_)
  · replace hw := hw.1 c9
    refine lv_iconst (v := -1) hx hb dX8_drink_16 (by decide) ?_
    exact W.iret hx hb hr (x_mi (u := m_now) hP hK hD hS hw) hS.2.2 dX8_drink_17
  · replace hw := hw.2 c9
    refine lv_aload_n hx hb dX8_drink_8 rfl (lv_at hl 0 rfl) ?_
    refine lv_iload_n hx hb dX8_drink_9 rfl (lv_at hl 2 rfl) ?_
    refine vp_callSi (W.runV (As := [.int x2]) (rest := []) ⟨hx, hb, hml, hown, hts⟩ (c_X8_isMix l D G m_mo m_alane m_asize m_aitem m_atape m_anow m_atried m_aread m_akept m_anoticed m_aneeds m_aorder m_letters m_position m_number m_isKept m_many m_one m_two m_now x2 _ hw) (cwV 1 hts gX8_drink_X8_isMix rfl rfl rfl (by decide +kernel) ⟨(Nat.le_of_ble_eq_true rfl), (Nat.le_of_ble_eq_true rfl)⟩) (xR_pv (hP.sub [0, 1] rfl) hK (va_recv hK hP (ci := 8) (q0 := 0) rfl rfl)) rfl rfl hl.1 rfl (lv_room (Nat.le_of_ble_eq_true rfl)) dX8_drink_10 ⟨Nat.zero_le _, Nat.zero_le _⟩) (fun r2 hw => ?_)
    refine lv_if_ne (tgt := 18) hx hb dX8_drink_13 (by decide) (fun c9 => ?_) (fun c9 => ?_)
    · replace hw := hw.1 c9
      refine lv_aload_n hx hb dX8_drink_18 rfl (lv_at hl 0 rfl) ?_
      refine va_get (D := D) (ci := 8) (v := .ref m_anow) (C := RX8) (T := TX8) (N := 18) hx hb hts inX8 hown hK hP 0 rfl rfl 7 (by decide) fl23 (fun _ h9 => h9) rfl dX8_drink_19 ?_
      refine lv_iconst (v := 0) hx hb dX8_drink_22 (by decide) ?_
      refine x_iald (j := 0) hx hb hK hP 1 0 rfl rfl (by decide) (x_in (by decide)) dX8_drink_23 ?_
      refine lv_sipush (v := 9999) hx hb dX8_drink_24 (by decide) ?_
      refine lv_icmp_ne (tgt := 33) hx hb dX8_drink_27 (by decide) (fun c9 => ?_) (fun c9 => ?_)
      · replace hw := hw.1 c9
        refine lv_aload_n hx hb dX8_drink_33 rfl (lv_at hl 0 rfl) ?_
        refine va_get (D := D) (ci := 8) (v := .ref m_anow) (C := RX8) (T := TX8) (N := 18) hx hb hts inX8 hown hK hP 0 rfl rfl 7 (by decide) fl23 (fun _ h9 => h9) rfl dX8_drink_34 ?_
        refine lv_iconst (v := 3) hx hb dX8_drink_37 (by decide) ?_
        refine x_iald (j := 3) hx hb hK hP 1 0 rfl rfl (by decide) (x_in (by decide)) dX8_drink_38 ?_
        refine lv_bipush (v := -4) hx hb dX8_drink_39 (by decide) ?_
        refine lv_icmp_ne (tgt := 47) hx hb dX8_drink_41 (by decide) (fun c9 => ?_) (fun c9 => ?_)
        · replace hw := hw.1 c9
          refine lv_aload_n hx hb dX8_drink_47 rfl (lv_at hl 0 rfl) ?_
          refine x_cMv (wr := []) (va_runV (As := []) (rest := []) ⟨hx, hb, hml, hown, hts⟩ (c_X8_note l D G _ m_mo m_alane m_asize m_aitem m_atape m_anow m_atried m_aread m_akept m_anoticed m_aneeds m_aorder m_letters m_position m_number m_isKept m_many m_one m_two m_now _ hw) (cwV 0 hts gX8_drink_X8_note rfl rfl rfl (by decide +kernel) ⟨(Nat.le_of_ble_eq_true rfl), (Nat.le_of_ble_eq_true rfl)⟩) (xM_pv (hP.sub [0, 1] rfl) hK (hD.sub [0, 1] (by decide) rfl) (va_recv hK hP (ci := 8) (q0 := 0) rfl rfl)) rfl rfl hl.1 rfl (lv_room (Nat.le_of_ble_eq_true rfl)) dX8_drink_48 ⟨Nat.zero_le _, Nat.zero_le _⟩) hP hD hS hA [0, 1] [] rfl rfl (by decide) (by decide) [0, 1] (fun u => [(m_mo, .inr (8, [.ref m_alane, .ref m_asize, .ref m_aitem, .int m_letters, .ref m_atape, .int m_position, .int m_number, .ref m_anow, .ref m_atried, .ref m_aread, .ref m_akept, .int m_isKept, .ref m_anoticed, .ref m_aneeds, .ref m_aorder, .int m_many, .int m_one, .int m_two])), (m_anow, .inl (G 0, 55, .inl u))]) (by decide) (fun u => rfl) (fun u H locs hw hP hD hS => ?_)
          obtain ⟨m_now_3, rfl⟩ : ∃ z, z = u := ⟨_, rfl⟩
          try dsimp only at hw
          replace hP : va_P D vwCl [(m_mo, .inr (8, [.ref m_alane, .ref m_asize, .ref m_aitem, .int m_letters, .ref m_atape, .int m_position, .int m_number, .ref m_anow, .ref m_atried, .ref m_aread, .ref m_akept, .int m_isKept, .ref m_anoticed, .ref m_aneeds, .ref m_aorder, .int m_many, .int m_one, .int m_two])), (m_anow, .inl (G 0, 55, .inl m_now_3))] H := hP
          replace hD : va_D A [(m_mo, .inr (8, [.ref m_alane, .ref m_asize, .ref m_aitem, .int m_letters, .ref m_atape, .int m_position, .int m_number, .ref m_anow, .ref m_atried, .ref m_aread, .ref m_akept, .int m_isKept, .ref m_anoticed, .ref m_aneeds, .ref m_aorder, .int m_many, .int m_one, .int m_two])), (m_anow, .inl (G 0, 55, .inl m_now_3))] := hD
          refine lv_aload_n hx hb dX8_drink_51 rfl (lv_at hl 0 rfl) ?_
          refine va_get (D := D) (ci := 8) (v := .ref m_anow) (C := RX8) (T := TX8) (N := 18) hx hb hts inX8 hown hK hP 0 rfl rfl 7 (by decide) fl23 (fun _ h9 => h9) rfl dX8_drink_52 ?_
          refine lv_iload_n hx hb dX8_drink_55 rfl (lv_at hl 1 rfl) ?_
          refine lv_iload_n hx hb dX8_drink_56 rfl (lv_at hl 2 rfl) ?_
          refine lv_aload_n hx hb dX8_drink_57 rfl (lv_at hl 0 rfl) ?_
          refine va_get (D := D) (ci := 8) (v := .ref m_anow) (C := RX8) (T := TX8) (N := 18) hx hb hts inX8 hown hK hP 0 rfl rfl 7 (by decide) fl23 (fun _ h9 => h9) rfl dX8_drink_58 ?_
          refine lv_iconst (v := 3) hx hb dX8_drink_61 (by decide) ?_
          refine x_iald (j := 3) hx hb hK hP 1 0 rfl rfl (by decide) (x_in (by decide)) dX8_drink_62 ?_
          refine vp_callSi (W.runS (As := [.ref m_anow, .int x1, .int x2, .int (m_now_3 3)]) (rest := []) ⟨hx, hb, hml, hown, hts⟩ (c_X8_noticesIn l D G m_anow m_now_3 x1 x2 (m_now_3 3) _ hw) (va_cwS 4 hts gX8_drink_X8_noticesIn rfl rfl rfl (by decide +kernel) ⟨(Nat.le_of_ble_eq_true rfl), (Nat.le_of_ble_eq_true rfl)⟩) (xR_ps (hP.sub [1] rfl) hK) rfl rfl hl.1 rfl (lv_room (Nat.le_of_ble_eq_true rfl)) dX8_drink_63 ⟨Nat.zero_le _, Nat.zero_le _⟩) (fun r4 hw => ?_)
          refine lv_istore_n (lv' := [(3, .int r4), (0, .ref m_mo), (1, .int x1), (2, .int x2)]) hx hb dX8_drink_66 rfl hl (by decide) rfl (fun ls hl => ?_)
          refine lv_aload_n hx hb dX8_drink_67 rfl (lv_at hl 1 rfl) ?_
          refine lv_iload_n hx hb dX8_drink_68 rfl (lv_at hl 2 rfl) ?_
          refine lv_iload_n hx hb dX8_drink_69 rfl (lv_at hl 3 rfl) ?_
          refine lv_iload_n hx hb dX8_drink_70 rfl (lv_at hl 0 rfl) ?_
          refine x_cMv (wr := []) (va_runV (As := [.int x1, .int x2, .int r4]) (rest := []) ⟨hx, hb, hml, hown, hts⟩ (c_X8_answers l D G _ m_mo m_alane m_asize m_aitem m_atape m_anow m_atried m_aread m_akept m_anoticed m_aneeds m_aorder m_letters m_position m_number m_isKept m_many m_one m_two m_now_3 x1 x2 r4 _ hw) (cwV 3 hts gX8_drink_X8_answers rfl rfl rfl (by decide +kernel) ⟨(Nat.le_of_ble_eq_true rfl), (Nat.le_of_ble_eq_true rfl)⟩) (xM_pv (hP.sub [0, 1] rfl) hK (hD.sub [0, 1] (by decide) rfl) (va_recv hK hP (ci := 8) (q0 := 0) rfl rfl)) rfl rfl hl.1 rfl (lv_room (Nat.le_of_ble_eq_true rfl)) dX8_drink_71 ⟨Nat.zero_le _, Nat.zero_le _⟩) hP hD hS hA [0, 1] [] rfl rfl (by decide) (by decide) [0, 1] (fun u => [(m_mo, .inr (8, [.ref m_alane, .ref m_asize, .ref m_aitem, .int m_letters, .ref m_atape, .int m_position, .int m_number, .ref m_anow, .ref m_atried, .ref m_aread, .ref m_akept, .int m_isKept, .ref m_anoticed, .ref m_aneeds, .ref m_aorder, .int m_many, .int m_one, .int m_two])), (m_anow, .inl (G 0, 55, .inl u))]) (by decide) (fun u => rfl) (fun u H locs hw hP hD hS => ?_)
          obtain ⟨m_now_5, rfl⟩ : ∃ z, z = u := ⟨_, rfl⟩
          try dsimp only at hw
          replace hP : va_P D vwCl [(m_mo, .inr (8, [.ref m_alane, .ref m_asize, .ref m_aitem, .int m_letters, .ref m_atape, .int m_position, .int m_number, .ref m_anow, .ref m_atried, .ref m_aread, .ref m_akept, .int m_isKept, .ref m_anoticed, .ref m_aneeds, .ref m_aorder, .int m_many, .int m_one, .int m_two])), (m_anow, .inl (G 0, 55, .inl m_now_5))] H := hP
          replace hD : va_D A [(m_mo, .inr (8, [.ref m_alane, .ref m_asize, .ref m_aitem, .int m_letters, .ref m_atape, .int m_position, .int m_number, .ref m_anow, .ref m_atried, .ref m_aread, .ref m_akept, .int m_isKept, .ref m_anoticed, .ref m_aneeds, .ref m_aorder, .int m_many, .int m_one, .int m_two])), (m_anow, .inl (G 0, 55, .inl m_now_5))] := hD
          refine lv_iload_n hx hb dX8_drink_74 rfl (lv_at hl 0 rfl) ?_
          refine lv_if_eq (tgt := 82) hx hb dX8_drink_75 (by decide) (fun c9 => ?_) (fun c9 => ?_)
          · replace hw := hw.1 c9
            refine lv_iconst (v := 0) hx hb dX8_drink_82 (by decide) ?_
            exact W.iret hx hb hr (x_mi (u := m_now_5) hP hK hD hS hw) hS.2.2 dX8_drink_83
          · replace hw := hw.2 c9
            refine lv_iconst (v := 1) hx hb dX8_drink_78 (by decide) ?_
            refine lv_goto (tgt := 83) hx hb dX8_drink_79 (by decide) ?_
            exact W.iret hx hb hr (x_mi (u := m_now_5) hP hK hD hS hw) hS.2.2 dX8_drink_83
        · replace hw := hw.2 c9
          refine lv_bipush (v := -2) hx hb dX8_drink_44 (by decide) ?_
          exact W.iret hx hb hr (x_mi (u := m_now) hP hK hD hS hw) hS.2.2 dX8_drink_46
      · replace hw := hw.2 c9
        refine lv_bipush (v := -3) hx hb dX8_drink_30 (by decide) ?_
        exact W.iret hx hb hr (x_mi (u := m_now) hP hK hD hS hw) hS.2.2 dX8_drink_32
    · replace hw := hw.2 c9
      refine lv_iconst (v := -1) hx hb dX8_drink_16 (by decide) ?_
      exact W.iret hx hb hr (x_mi (u := m_now) hP hK hD hS hw) hS.2.2 dX8_drink_17
set_option maxHeartbeats 4000000 in
set_option maxRecDepth 100000 in
theorem c_X8_forget (l : Launch) (D : va_G) (G : Nat → ClassId) (sz : Nat) (m_mo : Nat) (m_alane : Nat) (m_asize : Nat) (m_aitem : Nat) (m_atape : Nat) (m_anow : Nat) (m_atried : Nat) (m_aread : Nat) (m_akept : Nat) (m_anoticed : Nat) (m_aneeds : Nat) (m_aorder : Nat) (m_letters : Int32) (m_position : Int32) (m_number : Int32) (m_isKept : Int32) (m_many : Int32) (m_one : Int32) (m_two : Int32) (m_now : Nat → Int32) (post : Int32 → (Nat → Int32) → Prop) (hw : wp_X8_forget m_now post) : Met l yX8_forget wsX8_forget ({ frames := 2, cells := 0, slots := 0, locals := 45 } : Room) (va_Pc [.ref m_mo] (xM D G sz [(m_mo, .inr (8, [.ref m_alane, .ref m_asize, .ref m_aitem, .int m_letters, .ref m_atape, .int m_position, .int m_number, .ref m_anow, .ref m_atried, .ref m_aread, .ref m_akept, .int m_isKept, .ref m_anoticed, .ref m_aneeds, .ref m_aorder, .int m_many, .int m_one, .int m_two])), (m_anow, .inl (G 0, 55, .inl m_now))])) (va_Qi (fun r (u : (Nat → Int32)) => post r u) (fun u t => xE D G (va_A [(m_mo, .inr (8, [.ref m_alane, .ref m_asize, .ref m_aitem, .int m_letters, .ref m_atape, .int m_position, .int m_number, .ref m_anow, .ref m_atried, .ref m_aread, .ref m_akept, .int m_isKept, .ref m_anoticed, .ref m_aneeds, .ref m_aorder, .int m_many, .int m_one, .int m_two])), (m_anow, .inl (G 0, 55, .inl m_now))] sz) [(m_mo, .inr (8, [.ref m_alane, .ref m_asize, .ref m_aitem, .int m_letters, .ref m_atape, .int m_position, .int m_number, .ref m_anow, .ref m_atried, .ref m_aread, .ref m_akept, .int m_isKept, .ref m_anoticed, .ref m_aneeds, .ref m_aorder, .int m_many, .int m_one, .int m_two])), (m_anow, .inl (G 0, 55, .inl u))] t) (va_A [(m_mo, .inr (8, [.ref m_alane, .ref m_asize, .ref m_aitem, .int m_letters, .ref m_atape, .int m_position, .int m_number, .ref m_anow, .ref m_atried, .ref m_aread, .ref m_akept, .int m_isKept, .ref m_anoticed, .ref m_aneeds, .ref m_aorder, .int m_many, .int m_one, .int m_two])), (m_anow, .inl (G 0, 55, .inl m_now))] sz)) 0 0 (va_A [(m_mo, .inr (8, [.ref m_alane, .ref m_asize, .ref m_aitem, .int m_letters, .ref m_atape, .int m_position, .int m_number, .ref m_anow, .ref m_atried, .ref m_aread, .ref m_akept, .int m_isKept, .ref m_anoticed, .ref m_aneeds, .ref m_aorder, .int m_many, .int m_one, .int m_two])), (m_anow, .inl (G 0, 55, .inl m_now))] sz) := by
  refine Met.ofW (cc := cX8_forget) (maxL := 1) (ret := (some .int)) (by decide) rfl ?_
  intro p e s m args below meth c s₁ B hml hv
  obtain ⟨rfl, hsz, hP, hK, hD0⟩ := hv
  have hx := B.exec
  have hb := B.bytes
  have hr := B.returns
  have hts := atoms_spec (ws := wsX8_forget) B.pre
  have hown : s.vm.findClass RX8 = some m.cls := findClass_of_methodNamed B.named
  have hlocks := B.notSynchronized
  subst hsz
  have hD := hD0.self (sz := s.heap.size)
  generalize hAe : va_A [(m_mo, .inr (8, [.ref m_alane, .ref m_asize, .ref m_aitem, .int m_letters, .ref m_atape, .int m_position, .int m_number, .ref m_anow, .ref m_atried, .ref m_aread, .ref m_akept, .int m_isKept, .ref m_anoticed, .ref m_aneeds, .ref m_aorder, .int m_many, .int m_one, .int m_two])), (m_anow, .inl (G 0, 55, .inl m_now))] s.heap.size = A at hD ⊢
  have hA : ∀ q : Nat, s.heap.size ≤ q → A q := fun q h => by rw [← hAe]; exact Or.inr h
  have hS : va_S A s.heap s.heap [] := va_S.rf
  have inX8 : ∀ w ∈ wsX80, w ∈ wsX8_forget := by decide +kernel
  have fl23 := hts (.fieldLink RX8 23 "NewsCowModel" "now" "[I") (by decide +kernel)
  have hl := lv_entry ([.ref m_mo] : List Value) (n := 1) (Nat.le_of_ble_eq_true rfl)
  rw [lg_entry_eq]
  generalize (lg_sl ([.ref m_mo] : List Value) ++ List.replicate (1 - (lg_sl ([.ref m_mo] : List Value)).length) Slot.unset).toArray = ls at hl ⊢
  have hl : lv_has ls 1 [(0, .ref m_mo)] := hl
  unfold wp_X8_forget at hw
  refine lv_aload_n hx hb dX8_forget_0 rfl (lv_at hl 0 rfl) ?_
  refine va_get (D := D) (ci := 8) (v := .ref m_anow) (C := RX8) (T := TX8) (N := 18) hx hb hts inX8 hown hK hP 0 rfl rfl 7 (by decide) fl23 (fun _ h9 => h9) rfl dX8_forget_1 ?_
  refine lv_iconst (v := 2) hx hb dX8_forget_4 (by decide) ?_
  refine x_iald (j := 2) hx hb hK hP 1 0 rfl rfl (by decide) (x_in (by decide)) dX8_forget_5 ?_
  refine lv_aload_n hx hb dX8_forget_6 rfl (lv_at hl 0 rfl) ?_
  refine va_get (D := D) (ci := 8) (v := .ref m_anow) (C := RX8) (T := TX8) (N := 18) hx hb hts inX8 hown hK hP 0 rfl rfl 7 (by decide) fl23 (fun _ h9 => h9) rfl dX8_forget_7 ?_
  refine vp_callSi (W.runS (As := [.ref m_anow]) (rest := [.int (m_now 2)]) ⟨hx, hb, hml, hown, hts⟩ (c_X8_allOf l D G m_anow m_now _ hw) (va_cwS 1 hts gX8_forget_X8_allOf rfl rfl rfl (by decide +kernel) ⟨(Nat.le_of_ble_eq_true rfl), (Nat.le_of_ble_eq_true rfl)⟩) (xR_ps (hP.sub [1] rfl) hK) rfl rfl hl.1 rfl (lv_room (Nat.le_of_ble_eq_true rfl)) dX8_forget_10 ⟨Nat.zero_le _, Nat.zero_le _⟩) (fun r1 hw => ?_)
  refine lv_icmp_ne (tgt := 19) hx hb dX8_forget_13 (by decide) (fun c9 => ?_) (fun c9 => ?_)
  · replace hw := hw.1 c9
    refine lv_aload_n hx hb dX8_forget_19 rfl (lv_at hl 0 rfl) ?_
    refine x_cMv (wr := []) (va_runV (As := []) (rest := []) ⟨hx, hb, hml, hown, hts⟩ (c_X8_note l D G _ m_mo m_alane m_asize m_aitem m_atape m_anow m_atried m_aread m_akept m_anoticed m_aneeds m_aorder m_letters m_position m_number m_isKept m_many m_one m_two m_now _ hw) (cwV 0 hts gX8_forget_X8_note rfl rfl rfl (by decide +kernel) ⟨(Nat.le_of_ble_eq_true rfl), (Nat.le_of_ble_eq_true rfl)⟩) (xM_pv (hP.sub [0, 1] rfl) hK (hD.sub [0, 1] (by decide) rfl) (va_recv hK hP (ci := 8) (q0 := 0) rfl rfl)) rfl rfl hl.1 rfl (lv_room (Nat.le_of_ble_eq_true rfl)) dX8_forget_20 ⟨Nat.zero_le _, Nat.zero_le _⟩) hP hD hS hA [0, 1] [] rfl rfl (by decide) (by decide) [0, 1] (fun u => [(m_mo, .inr (8, [.ref m_alane, .ref m_asize, .ref m_aitem, .int m_letters, .ref m_atape, .int m_position, .int m_number, .ref m_anow, .ref m_atried, .ref m_aread, .ref m_akept, .int m_isKept, .ref m_anoticed, .ref m_aneeds, .ref m_aorder, .int m_many, .int m_one, .int m_two])), (m_anow, .inl (G 0, 55, .inl u))]) (by decide) (fun u => rfl) (fun u H locs hw hP hD hS => ?_)
    obtain ⟨m_now_2, rfl⟩ : ∃ z, z = u := ⟨_, rfl⟩
    try dsimp only at hw
    replace hP : va_P D vwCl [(m_mo, .inr (8, [.ref m_alane, .ref m_asize, .ref m_aitem, .int m_letters, .ref m_atape, .int m_position, .int m_number, .ref m_anow, .ref m_atried, .ref m_aread, .ref m_akept, .int m_isKept, .ref m_anoticed, .ref m_aneeds, .ref m_aorder, .int m_many, .int m_one, .int m_two])), (m_anow, .inl (G 0, 55, .inl m_now_2))] H := hP
    replace hD : va_D A [(m_mo, .inr (8, [.ref m_alane, .ref m_asize, .ref m_aitem, .int m_letters, .ref m_atape, .int m_position, .int m_number, .ref m_anow, .ref m_atried, .ref m_aread, .ref m_akept, .int m_isKept, .ref m_anoticed, .ref m_aneeds, .ref m_aorder, .int m_many, .int m_one, .int m_two])), (m_anow, .inl (G 0, 55, .inl m_now_2))] := hD
    refine lv_aload_n hx hb dX8_forget_23 rfl (lv_at hl 0 rfl) ?_
    refine va_get (D := D) (ci := 8) (v := .ref m_anow) (C := RX8) (T := TX8) (N := 18) hx hb hts inX8 hown hK hP 0 rfl rfl 7 (by decide) fl23 (fun _ h9 => h9) rfl dX8_forget_24 ?_
    refine lv_iconst (v := 2) hx hb dX8_forget_27 (by decide) ?_
    refine lv_aload_n hx hb dX8_forget_28 rfl (lv_at hl 0 rfl) ?_
    refine va_get (D := D) (ci := 8) (v := .ref m_anow) (C := RX8) (T := TX8) (N := 18) hx hb hts inX8 hown hK hP 0 rfl rfl 7 (by decide) fl23 (fun _ h9 => h9) rfl dX8_forget_29 ?_
    refine vp_callSi (W.runS (As := [.ref m_anow]) (rest := [.int (2 : Int32), .ref m_anow]) ⟨hx, hb, hml, hown, hts⟩ (c_X8_allOf l D G m_anow m_now_2 _ hw) (va_cwS 1 hts gX8_forget_X8_allOf rfl rfl rfl (by decide +kernel) ⟨(Nat.le_of_ble_eq_true rfl), (Nat.le_of_ble_eq_true rfl)⟩) (xR_ps (hP.sub [1] rfl) hK) rfl rfl hl.1 rfl (lv_room (Nat.le_of_ble_eq_true rfl)) dX8_forget_32 ⟨Nat.zero_le _, Nat.zero_le _⟩) (fun r3 hw => ?_)
    refine x_iast (j := 2) hx hb hK hP hD hS 1 0 rfl rfl (by decide) (x_in (by decide)) dX8_forget_35 (fun H locs hP hD hS => ?_)
    replace hP : va_P D vwCl [(m_mo, .inr (8, [.ref m_alane, .ref m_asize, .ref m_aitem, .int m_letters, .ref m_atape, .int m_position, .int m_number, .ref m_anow, .ref m_atried, .ref m_aread, .ref m_akept, .int m_isKept, .ref m_anoticed, .ref m_aneeds, .ref m_aorder, .int m_many, .int m_one, .int m_two])), (m_anow, .inl (G 0, 55, .inl (upd m_now_2 2 r3)))] H := hP
    replace hD : va_D A [(m_mo, .inr (8, [.ref m_alane, .ref m_asize, .ref m_aitem, .int m_letters, .ref m_atape, .int m_position, .int m_number, .ref m_anow, .ref m_atried, .ref m_aread, .ref m_akept, .int m_isKept, .ref m_anoticed, .ref m_aneeds, .ref m_aorder, .int m_many, .int m_one, .int m_two])), (m_anow, .inl (G 0, 55, .inl (upd m_now_2 2 r3)))] := hD
    refine lv_aload_n hx hb dX8_forget_36 rfl (lv_at hl 0 rfl) ?_
    refine va_get (D := D) (ci := 8) (v := .ref m_anow) (C := RX8) (T := TX8) (N := 18) hx hb hts inX8 hown hK hP 0 rfl rfl 7 (by decide) fl23 (fun _ h9 => h9) rfl dX8_forget_37 ?_
    refine lv_iconst (v := 4) hx hb dX8_forget_40 (by decide) ?_
    refine x_iald (j := 4) hx hb hK hP 1 0 rfl rfl (by decide) (x_in (by decide)) dX8_forget_41 ?_
    exact W.iret hx hb hr (x_mi (u := (upd m_now_2 2 r3)) hP hK hD hS hw) hS.2.2 dX8_forget_42
  · replace hw := hw.2 c9
    refine lv_bipush (v := -2) hx hb dX8_forget_16 (by decide) ?_
    exact W.iret hx hb hr (x_mi (u := m_now) hP hK hD hS hw) hS.2.2 dX8_forget_18
set_option maxHeartbeats 4000000 in
set_option maxRecDepth 100000 in
theorem c_X8_bear (l : Launch) (D : va_G) (G : Nat → ClassId) (sz : Nat) (m_mo : Nat) (m_alane : Nat) (m_asize : Nat) (m_aitem : Nat) (m_atape : Nat) (m_anow : Nat) (m_atried : Nat) (m_aread : Nat) (m_akept : Nat) (m_anoticed : Nat) (m_aneeds : Nat) (m_aorder : Nat) (m_letters : Int32) (m_position : Int32) (m_number : Int32) (m_isKept : Int32) (m_many : Int32) (m_one : Int32) (m_two : Int32) (m_now : Nat → Int32) (x1 : Int32) (post : Int32 → (Nat → Int32) → Prop) (hw : wp_X8_bear m_now x1 post) : Met l yX8_bear wsX8_bear ({ frames := 2, cells := 0, slots := 0, locals := 45 } : Room) (va_Pc [.ref m_mo, .int x1] (xM D G sz [(m_mo, .inr (8, [.ref m_alane, .ref m_asize, .ref m_aitem, .int m_letters, .ref m_atape, .int m_position, .int m_number, .ref m_anow, .ref m_atried, .ref m_aread, .ref m_akept, .int m_isKept, .ref m_anoticed, .ref m_aneeds, .ref m_aorder, .int m_many, .int m_one, .int m_two])), (m_anow, .inl (G 0, 55, .inl m_now))])) (va_Qi (fun r (u : (Nat → Int32)) => post r u) (fun u t => xE D G (va_A [(m_mo, .inr (8, [.ref m_alane, .ref m_asize, .ref m_aitem, .int m_letters, .ref m_atape, .int m_position, .int m_number, .ref m_anow, .ref m_atried, .ref m_aread, .ref m_akept, .int m_isKept, .ref m_anoticed, .ref m_aneeds, .ref m_aorder, .int m_many, .int m_one, .int m_two])), (m_anow, .inl (G 0, 55, .inl m_now))] sz) [(m_mo, .inr (8, [.ref m_alane, .ref m_asize, .ref m_aitem, .int m_letters, .ref m_atape, .int m_position, .int m_number, .ref m_anow, .ref m_atried, .ref m_aread, .ref m_akept, .int m_isKept, .ref m_anoticed, .ref m_aneeds, .ref m_aorder, .int m_many, .int m_one, .int m_two])), (m_anow, .inl (G 0, 55, .inl u))] t) (va_A [(m_mo, .inr (8, [.ref m_alane, .ref m_asize, .ref m_aitem, .int m_letters, .ref m_atape, .int m_position, .int m_number, .ref m_anow, .ref m_atried, .ref m_aread, .ref m_akept, .int m_isKept, .ref m_anoticed, .ref m_aneeds, .ref m_aorder, .int m_many, .int m_one, .int m_two])), (m_anow, .inl (G 0, 55, .inl m_now))] sz)) 0 0 (va_A [(m_mo, .inr (8, [.ref m_alane, .ref m_asize, .ref m_aitem, .int m_letters, .ref m_atape, .int m_position, .int m_number, .ref m_anow, .ref m_atried, .ref m_aread, .ref m_akept, .int m_isKept, .ref m_anoticed, .ref m_aneeds, .ref m_aorder, .int m_many, .int m_one, .int m_two])), (m_anow, .inl (G 0, 55, .inl m_now))] sz) := by
  refine Met.ofW (cc := cX8_bear) (maxL := 3) (ret := (some .int)) (by decide) rfl ?_
  intro p e s m args below meth c s₁ B hml hv
  obtain ⟨rfl, hsz, hP, hK, hD0⟩ := hv
  have hx := B.exec
  have hb := B.bytes
  have hr := B.returns
  have hts := atoms_spec (ws := wsX8_bear) B.pre
  have hown : s.vm.findClass RX8 = some m.cls := findClass_of_methodNamed B.named
  have hlocks := B.notSynchronized
  subst hsz
  have hD := hD0.self (sz := s.heap.size)
  generalize hAe : va_A [(m_mo, .inr (8, [.ref m_alane, .ref m_asize, .ref m_aitem, .int m_letters, .ref m_atape, .int m_position, .int m_number, .ref m_anow, .ref m_atried, .ref m_aread, .ref m_akept, .int m_isKept, .ref m_anoticed, .ref m_aneeds, .ref m_aorder, .int m_many, .int m_one, .int m_two])), (m_anow, .inl (G 0, 55, .inl m_now))] s.heap.size = A at hD ⊢
  have hA : ∀ q : Nat, s.heap.size ≤ q → A q := fun q h => by rw [← hAe]; exact Or.inr h
  have hS : va_S A s.heap s.heap [] := va_S.rf
  have inX8 : ∀ w ∈ wsX80, w ∈ wsX8_bear := by decide +kernel
  have fl23 := hts (.fieldLink RX8 23 "NewsCowModel" "now" "[I") (by decide +kernel)
  have hl := lv_entry ([.ref m_mo, .int x1] : List Value) (n := 3) (Nat.le_of_ble_eq_true rfl)
  rw [lg_entry_eq]
  generalize (lg_sl ([.ref m_mo, .int x1] : List Value) ++ List.replicate (3 - (lg_sl ([.ref m_mo, .int x1] : List Value)).length) Slot.unset).toArray = ls at hl ⊢
  have hl : lv_has ls 3 [(0, .ref m_mo), (1, .int x1)] := hl
  unfold wp_X8_bear at hw
  have J16 : ∀ (H : Heap) (locs : List Loc) (ls : Array Slot), wp_X8_bear_J16 m_now x1 post → va_P D vwCl [(m_mo, .inr (8, [.ref m_alane, .ref m_asize, .ref m_aitem, .int m_letters, .ref m_atape, .int m_position, .int m_number, .ref m_anow, .ref m_atried, .ref m_aread, .ref m_akept, .int m_isKept, .ref m_anoticed, .ref m_aneeds, .ref m_aorder, .int m_many, .int m_one, .int m_two])), (m_anow, .inl (G 0, 55, .inl m_now))] H → va_D A [(m_mo, .inr (8, [.ref m_alane, .ref m_asize, .ref m_aitem, .int m_letters, .ref m_atape, .int m_position, .int m_number, .ref m_anow, .ref m_atried, .ref m_aread, .ref m_akept, .int m_isKept, .ref m_anoticed, .ref m_aneeds, .ref m_aorder, .int m_many, .int m_one, .int m_two])), (m_anow, .inl (G 0, 55, .inl m_now))] → va_S A s.heap H locs → lv_has ls 3 [(0, .ref m_mo), (1, .int x1)] → W p l e (headSpec wsX8_bear ({ frames := 2, cells := 0, slots := 0, locals := 45 } : Room)).room s m ([.ref m_mo, .int x1] : List Value).toArray below meth c H locs 0 0 (MQ below (va_Qi (fun r (u : (Nat → Int32)) => post r u) (fun u t => xE D G A [(m_mo, .inr (8, [.ref m_alane, .ref m_asize, .ref m_aitem, .int m_letters, .ref m_atape, .int m_position, .int m_number, .ref m_anow, .ref m_atried, .ref m_aread, .ref m_akept, .int m_isKept, .ref m_anoticed, .ref m_aneeds, .ref m_aorder, .int m_many, .int m_one, .int m_two])), (m_anow, .inl (G 0, 55, .inl u))] t) A) ([.ref m_mo, .int x1] : List Value).toArray s 0 0 A) (F0 m 16 ls []) := by
    intro H locs ls hw hP hD hS hl
    unfold wp_X8_bear_J16 at hw
    refine lv_aload_n hx hb dX8_bear_16 rfl (lv_at hl 0 rfl) ?_
    refine va_get (D := D) (ci := 8) (v := .ref m_anow) (C := RX8) (T := TX8) (N := 18) hx hb hts inX8 hown hK hP 0 rfl rfl 7 (by decide) fl23 (fun _ h9 => h9) rfl dX8_bear_17 ?_
    refine lv_iconst (v := 3) hx hb dX8_bear_20 (by decide) ?_
    refine x_iald (j := 3) hx hb hK hP 1 0 rfl rfl (by decide) (x_in (by decide)) dX8_bear_21 ?_
    refine lv_istore_n (lv' := [(2, .int (m_now 3)), (0, .ref m_mo), (1, .int x1)]) hx hb dX8_bear_22 rfl hl (by decide) rfl (fun ls hl => ?_)
    refine lv_iload_n hx hb dX8_bear_23 rfl (lv_at hl 0 rfl) ?_
    refine lv_iload_n hx hb dX8_bear_24 rfl (lv_at hl 2 rfl) ?_
    refine lv_icmp_ne (tgt := 31) hx hb dX8_bear_25 (by decide) (fun c9 => ?_) (fun c9 => ?_)
    · replace hw := hw.1 c9
      refine lv_aload_n hx hb dX8_bear_31 rfl (lv_at hl 1 rfl) ?_
      refine x_cMv (wr := []) (va_runV (As := []) (rest := []) ⟨hx, hb, hml, hown, hts⟩ (c_X8_note l D G _ m_mo m_alane m_asize m_aitem m_atape m_anow m_atried m_aread m_akept m_anoticed m_aneeds m_aorder m_letters m_position m_number m_isKept m_many m_one m_two m_now _ hw) (cwV 0 hts gX8_bear_X8_note rfl rfl rfl (by decide +kernel) ⟨(Nat.le_of_ble_eq_true rfl), (Nat.le_of_ble_eq_true rfl)⟩) (xM_pv (hP.sub [0, 1] rfl) hK (hD.sub [0, 1] (by decide) rfl) (va_recv hK hP (ci := 8) (q0 := 0) rfl rfl)) rfl rfl hl.1 rfl (lv_room (Nat.le_of_ble_eq_true rfl)) dX8_bear_32 ⟨Nat.zero_le _, Nat.zero_le _⟩) hP hD hS hA [0, 1] [] rfl rfl (by decide) (by decide) [0, 1] (fun u => [(m_mo, .inr (8, [.ref m_alane, .ref m_asize, .ref m_aitem, .int m_letters, .ref m_atape, .int m_position, .int m_number, .ref m_anow, .ref m_atried, .ref m_aread, .ref m_akept, .int m_isKept, .ref m_anoticed, .ref m_aneeds, .ref m_aorder, .int m_many, .int m_one, .int m_two])), (m_anow, .inl (G 0, 55, .inl u))]) (by decide) (fun u => rfl) (fun u H locs hw hP hD hS => ?_)
      obtain ⟨m_now_2, rfl⟩ : ∃ z, z = u := ⟨_, rfl⟩
      try dsimp only at hw
      replace hP : va_P D vwCl [(m_mo, .inr (8, [.ref m_alane, .ref m_asize, .ref m_aitem, .int m_letters, .ref m_atape, .int m_position, .int m_number, .ref m_anow, .ref m_atried, .ref m_aread, .ref m_akept, .int m_isKept, .ref m_anoticed, .ref m_aneeds, .ref m_aorder, .int m_many, .int m_one, .int m_two])), (m_anow, .inl (G 0, 55, .inl m_now_2))] H := hP
      replace hD : va_D A [(m_mo, .inr (8, [.ref m_alane, .ref m_asize, .ref m_aitem, .int m_letters, .ref m_atape, .int m_position, .int m_number, .ref m_anow, .ref m_atried, .ref m_aread, .ref m_akept, .int m_isKept, .ref m_anoticed, .ref m_aneeds, .ref m_aorder, .int m_many, .int m_one, .int m_two])), (m_anow, .inl (G 0, 55, .inl m_now_2))] := hD
      refine lv_aload_n hx hb dX8_bear_35 rfl (lv_at hl 1 rfl) ?_
      refine va_get (D := D) (ci := 8) (v := .ref m_anow) (C := RX8) (T := TX8) (N := 18) hx hb hts inX8 hown hK hP 0 rfl rfl 7 (by decide) fl23 (fun _ h9 => h9) rfl dX8_bear_36 ?_
      refine lv_iconst (v := 3) hx hb dX8_bear_39 (by decide) ?_
      refine lv_iload_n hx hb dX8_bear_40 rfl (lv_at hl 2 rfl) ?_
      refine x_iast (j := 3) hx hb hK hP hD hS 1 0 rfl rfl (by decide) (x_in (by decide)) dX8_bear_41 (fun H locs hP hD hS => ?_)
      replace hP : va_P D vwCl [(m_mo, .inr (8, [.ref m_alane, .ref m_asize, .ref m_aitem, .int m_letters, .ref m_atape, .int m_position, .int m_number, .ref m_anow, .ref m_atried, .ref m_aread, .ref m_akept, .int m_isKept, .ref m_anoticed, .ref m_aneeds, .ref m_aorder, .int m_many, .int m_one, .int m_two])), (m_anow, .inl (G 0, 55, .inl (upd m_now_2 3 x1)))] H := hP
      replace hD : va_D A [(m_mo, .inr (8, [.ref m_alane, .ref m_asize, .ref m_aitem, .int m_letters, .ref m_atape, .int m_position, .int m_number, .ref m_anow, .ref m_atried, .ref m_aread, .ref m_akept, .int m_isKept, .ref m_anoticed, .ref m_aneeds, .ref m_aorder, .int m_many, .int m_one, .int m_two])), (m_anow, .inl (G 0, 55, .inl (upd m_now_2 3 x1)))] := hD
      refine lv_iload_n hx hb dX8_bear_42 rfl (lv_at hl 0 rfl) ?_
      exact W.iret hx hb hr (x_mi (u := (upd m_now_2 3 x1)) hP hK hD hS hw) hS.2.2 dX8_bear_43
    · replace hw := hw.2 c9
      refine lv_bipush (v := -2) hx hb dX8_bear_28 (by decide) ?_
      exact W.iret hx hb hr (x_mi (u := m_now) hP hK hD hS hw) hS.2.2 dX8_bear_30
  refine lv_iload_n hx hb dX8_bear_0 rfl (lv_at hl 1 rfl) ?_
  refine lv_bipush (v := -4) hx hb dX8_bear_1 (by decide) ?_
  refine lv_icmp_eq (tgt := 16) hx hb dX8_bear_3 (by decide) (fun c9 => ?_) (fun c9 => ?_)
  · replace hw := hw.1 c9
    exact J16  _ _ _ hw hP hD hS (lv_sub hl [0, 1] rfl)
  · replace hw := hw.2 c9
    refine lv_aload_n hx hb dX8_bear_6 rfl (lv_at hl 0 rfl) ?_
    refine lv_iload_n hx hb dX8_bear_7 rfl (lv_at hl 1 rfl) ?_
    refine vp_callSi (W.runV (As := [.int x1]) (rest := []) ⟨hx, hb, hml, hown, hts⟩ (c_X8_isCow l D G m_mo m_alane m_asize m_aitem m_atape m_anow m_atried m_aread m_akept m_anoticed m_aneeds m_aorder m_letters m_position m_number m_isKept m_many m_one m_two m_now x1 _ hw) (cwV 1 hts gX8_bear_X8_isCow rfl rfl rfl (by decide +kernel) ⟨(Nat.le_of_ble_eq_true rfl), (Nat.le_of_ble_eq_true rfl)⟩) (xR_pv (hP.sub [0, 1] rfl) hK (va_recv hK hP (ci := 8) (q0 := 0) rfl rfl)) rfl rfl hl.1 rfl (lv_room (Nat.le_of_ble_eq_true rfl)) dX8_bear_8 ⟨Nat.zero_le _, Nat.zero_le _⟩) (fun r1 hw => ?_)
    refine lv_if_ne (tgt := 16) hx hb dX8_bear_11 (by decide) (fun c9 => ?_) (fun c9 => ?_)
    · replace hw := hw.1 c9
      exact J16  _ _ _ hw hP hD hS (lv_sub hl [0, 1] rfl)
    · replace hw := hw.2 c9
      refine lv_iconst (v := -1) hx hb dX8_bear_14 (by decide) ?_
      exact W.iret hx hb hr (x_mi (u := m_now) hP hK hD hS hw) hS.2.2 dX8_bear_15
set_option maxHeartbeats 4000000 in
set_option maxRecDepth 100000 in
theorem c_X8_drift (l : Launch) (D : va_G) (G : Nat → ClassId) (sz : Nat) (m_mo : Nat) (m_alane : Nat) (m_asize : Nat) (m_aitem : Nat) (m_atape : Nat) (m_anow : Nat) (m_atried : Nat) (m_aread : Nat) (m_akept : Nat) (m_anoticed : Nat) (m_aneeds : Nat) (m_aorder : Nat) (m_letters : Int32) (m_position : Int32) (m_number : Int32) (m_isKept : Int32) (m_many : Int32) (m_one : Int32) (m_two : Int32) (m_now : Nat → Int32) (x1 : Int32) (post : Int32 → (Nat → Int32) → Prop) (hw : wp_X8_drift m_now x1 post) : Met l yX8_drift wsX8_drift ({ frames := 5, cells := 0, slots := 0, locals := 119 } : Room) (va_Pc [.ref m_mo, .int x1] (xM D G sz [(m_mo, .inr (8, [.ref m_alane, .ref m_asize, .ref m_aitem, .int m_letters, .ref m_atape, .int m_position, .int m_number, .ref m_anow, .ref m_atried, .ref m_aread, .ref m_akept, .int m_isKept, .ref m_anoticed, .ref m_aneeds, .ref m_aorder, .int m_many, .int m_one, .int m_two])), (m_anow, .inl (G 0, 55, .inl m_now))])) (va_Qi (fun r (u : (Nat → Int32)) => post r u) (fun u t => xE D G (va_A [(m_mo, .inr (8, [.ref m_alane, .ref m_asize, .ref m_aitem, .int m_letters, .ref m_atape, .int m_position, .int m_number, .ref m_anow, .ref m_atried, .ref m_aread, .ref m_akept, .int m_isKept, .ref m_anoticed, .ref m_aneeds, .ref m_aorder, .int m_many, .int m_one, .int m_two])), (m_anow, .inl (G 0, 55, .inl m_now))] sz) [(m_mo, .inr (8, [.ref m_alane, .ref m_asize, .ref m_aitem, .int m_letters, .ref m_atape, .int m_position, .int m_number, .ref m_anow, .ref m_atried, .ref m_aread, .ref m_akept, .int m_isKept, .ref m_anoticed, .ref m_aneeds, .ref m_aorder, .int m_many, .int m_one, .int m_two])), (m_anow, .inl (G 0, 55, .inl u))] t) (va_A [(m_mo, .inr (8, [.ref m_alane, .ref m_asize, .ref m_aitem, .int m_letters, .ref m_atape, .int m_position, .int m_number, .ref m_anow, .ref m_atried, .ref m_aread, .ref m_akept, .int m_isKept, .ref m_anoticed, .ref m_aneeds, .ref m_aorder, .int m_many, .int m_one, .int m_two])), (m_anow, .inl (G 0, 55, .inl m_now))] sz)) 0 0 (va_A [(m_mo, .inr (8, [.ref m_alane, .ref m_asize, .ref m_aitem, .int m_letters, .ref m_atape, .int m_position, .int m_number, .ref m_anow, .ref m_atried, .ref m_aread, .ref m_akept, .int m_isKept, .ref m_anoticed, .ref m_aneeds, .ref m_aorder, .int m_many, .int m_one, .int m_two])), (m_anow, .inl (G 0, 55, .inl m_now))] sz) := by
  refine Met.ofW (cc := cX8_drift) (maxL := 5) (ret := (some .int)) (by decide) rfl ?_
  intro p e s m args below meth c s₁ B hml hv
  obtain ⟨rfl, hsz, hP, hK, hD0⟩ := hv
  have hx := B.exec
  have hb := B.bytes
  have hr := B.returns
  have hts := atoms_spec (ws := wsX8_drift) B.pre
  have hown : s.vm.findClass RX8 = some m.cls := findClass_of_methodNamed B.named
  have hlocks := B.notSynchronized
  subst hsz
  have hD := hD0.self (sz := s.heap.size)
  generalize hAe : va_A [(m_mo, .inr (8, [.ref m_alane, .ref m_asize, .ref m_aitem, .int m_letters, .ref m_atape, .int m_position, .int m_number, .ref m_anow, .ref m_atried, .ref m_aread, .ref m_akept, .int m_isKept, .ref m_anoticed, .ref m_aneeds, .ref m_aorder, .int m_many, .int m_one, .int m_two])), (m_anow, .inl (G 0, 55, .inl m_now))] s.heap.size = A at hD ⊢
  have hA : ∀ q : Nat, s.heap.size ≤ q → A q := fun q h => by rw [← hAe]; exact Or.inr h
  have hS : va_S A s.heap s.heap [] := va_S.rf
  have inX8 : ∀ w ∈ wsX80, w ∈ wsX8_drift := by decide +kernel
  have fl23 := hts (.fieldLink RX8 23 "NewsCowModel" "now" "[I") (by decide +kernel)
  have hl := lv_entry ([.ref m_mo, .int x1] : List Value) (n := 5) (Nat.le_of_ble_eq_true rfl)
  rw [lg_entry_eq]
  generalize (lg_sl ([.ref m_mo, .int x1] : List Value) ++ List.replicate (5 - (lg_sl ([.ref m_mo, .int x1] : List Value)).length) Slot.unset).toArray = ls at hl ⊢
  have hl : lv_has ls 5 [(0, .ref m_mo), (1, .int x1)] := hl
  unfold wp_X8_drift at hw
  have L31 : ∀ (f31 : Nat) (x2 : Int32) (m_now : Nat → Int32) (H : Heap) (locs : List Loc) (ls : Array Slot), wp_X8_drift_L31 x1 post f31 m_now x2 → va_P D vwCl [(m_mo, .inr (8, [.ref m_alane, .ref m_asize, .ref m_aitem, .int m_letters, .ref m_atape, .int m_position, .int m_number, .ref m_anow, .ref m_atried, .ref m_aread, .ref m_akept, .int m_isKept, .ref m_anoticed, .ref m_aneeds, .ref m_aorder, .int m_many, .int m_one, .int m_two])), (m_anow, .inl (G 0, 55, .inl m_now))] H → va_D A [(m_mo, .inr (8, [.ref m_alane, .ref m_asize, .ref m_aitem, .int m_letters, .ref m_atape, .int m_position, .int m_number, .ref m_anow, .ref m_atried, .ref m_aread, .ref m_akept, .int m_isKept, .ref m_anoticed, .ref m_aneeds, .ref m_aorder, .int m_many, .int m_one, .int m_two])), (m_anow, .inl (G 0, 55, .inl m_now))] → va_S A s.heap H locs → lv_has ls 5 [(0, .ref m_mo), (1, .int x1), (2, .int x2)] → W p l e (headSpec wsX8_drift ({ frames := 5, cells := 0, slots := 0, locals := 119 } : Room)).room s m ([.ref m_mo, .int x1] : List Value).toArray below meth c H locs 0 0 (MQ below (va_Qi (fun r (u : (Nat → Int32)) => post r u) (fun u t => xE D G A [(m_mo, .inr (8, [.ref m_alane, .ref m_asize, .ref m_aitem, .int m_letters, .ref m_atape, .int m_position, .int m_number, .ref m_anow, .ref m_atried, .ref m_aread, .ref m_akept, .int m_isKept, .ref m_anoticed, .ref m_aneeds, .ref m_aorder, .int m_many, .int m_one, .int m_two])), (m_anow, .inl (G 0, 55, .inl u))] t) A) ([.ref m_mo, .int x1] : List Value).toArray s 0 0 A) (F0 m 31 ls []) := by
    intro f31
    induction f31 with
    | zero => intro x2 m_now H locs ls hw hP hD hS hl; exact (hw : False).elim
    | succ f31 ih31 =>
      intro x2 m_now H locs ls hw hP hD hS hl
      unfold wp_X8_drift_L31 at hw
      refine lv_iload_n hx hb dX8_drift_31 rfl (lv_at hl 2 rfl) ?_
      refine lv_iload_n hx hb dX8_drift_32 rfl (lv_at hl 1 rfl) ?_
      refine lv_icmp_ge (tgt := 159) hx hb dX8_drift_33 (by decide) (fun c9 => ?_) (fun c9 => ?_)
      · replace hw := hw.1 c9
        refine lv_aload_n hx hb dX8_drift_159 rfl (lv_at hl 0 rfl) ?_
        refine va_get (D := D) (ci := 8) (v := .ref m_anow) (C := RX8) (T := TX8) (N := 18) hx hb hts inX8 hown hK hP 0 rfl rfl 7 (by decide) fl23 (fun _ h9 => h9) rfl dX8_drift_160 ?_
        refine lv_iconst (v := 2) hx hb dX8_drift_163 (by decide) ?_
        refine x_iald (j := 2) hx hb hK hP 1 0 rfl rfl (by decide) (x_in (by decide)) dX8_drift_164 ?_
        exact W.iret hx hb hr (x_mi (u := m_now) hP hK hD hS hw) hS.2.2 dX8_drift_165
      · replace hw := hw.2 c9
        refine lv_aload_n hx hb dX8_drift_36 rfl (lv_at hl 0 rfl) ?_
        refine x_cMv (wr := []) (va_runV (As := []) (rest := []) ⟨hx, hb, hml, hown, hts⟩ (c_X8_note l D G _ m_mo m_alane m_asize m_aitem m_atape m_anow m_atried m_aread m_akept m_anoticed m_aneeds m_aorder m_letters m_position m_number m_isKept m_many m_one m_two m_now _ hw) (cwV 0 hts gX8_drift_X8_note rfl rfl rfl (by decide +kernel) ⟨(Nat.le_of_ble_eq_true rfl), (Nat.le_of_ble_eq_true rfl)⟩) (xM_pv (hP.sub [0, 1] rfl) hK (hD.sub [0, 1] (by decide) rfl) (va_recv hK hP (ci := 8) (q0 := 0) rfl rfl)) rfl rfl hl.1 rfl (lv_room (Nat.le_of_ble_eq_true rfl)) dX8_drift_37 ⟨Nat.zero_le _, Nat.zero_le _⟩) hP hD hS hA [0, 1] [] rfl rfl (by decide) (by decide) [0, 1] (fun u => [(m_mo, .inr (8, [.ref m_alane, .ref m_asize, .ref m_aitem, .int m_letters, .ref m_atape, .int m_position, .int m_number, .ref m_anow, .ref m_atried, .ref m_aread, .ref m_akept, .int m_isKept, .ref m_anoticed, .ref m_aneeds, .ref m_aorder, .int m_many, .int m_one, .int m_two])), (m_anow, .inl (G 0, 55, .inl u))]) (by decide) (fun u => rfl) (fun u H locs hw hP hD hS => ?_)
        obtain ⟨m_now_2, rfl⟩ : ∃ z, z = u := ⟨_, rfl⟩
        try dsimp only at hw
        replace hP : va_P D vwCl [(m_mo, .inr (8, [.ref m_alane, .ref m_asize, .ref m_aitem, .int m_letters, .ref m_atape, .int m_position, .int m_number, .ref m_anow, .ref m_atried, .ref m_aread, .ref m_akept, .int m_isKept, .ref m_anoticed, .ref m_aneeds, .ref m_aorder, .int m_many, .int m_one, .int m_two])), (m_anow, .inl (G 0, 55, .inl m_now_2))] H := hP
        replace hD : va_D A [(m_mo, .inr (8, [.ref m_alane, .ref m_asize, .ref m_aitem, .int m_letters, .ref m_atape, .int m_position, .int m_number, .ref m_anow, .ref m_atried, .ref m_aread, .ref m_akept, .int m_isKept, .ref m_anoticed, .ref m_aneeds, .ref m_aorder, .int m_many, .int m_one, .int m_two])), (m_anow, .inl (G 0, 55, .inl m_now_2))] := hD
        refine lv_aload_n hx hb dX8_drift_40 rfl (lv_at hl 0 rfl) ?_
        refine va_get (D := D) (ci := 8) (v := .ref m_anow) (C := RX8) (T := TX8) (N := 18) hx hb hts inX8 hown hK hP 0 rfl rfl 7 (by decide) fl23 (fun _ h9 => h9) rfl dX8_drift_41 ?_
        refine lv_iconst (v := 1) hx hb dX8_drift_44 (by decide) ?_
        refine lv_aload_n hx hb dX8_drift_45 rfl (lv_at hl 0 rfl) ?_
        refine va_get (D := D) (ci := 8) (v := .ref m_anow) (C := RX8) (T := TX8) (N := 18) hx hb hts inX8 hown hK hP 0 rfl rfl 7 (by decide) fl23 (fun _ h9 => h9) rfl dX8_drift_46 ?_
        refine lv_iconst (v := 1) hx hb dX8_drift_49 (by decide) ?_
        refine x_iald (j := 1) hx hb hK hP 1 0 rfl rfl (by decide) (x_in (by decide)) dX8_drift_50 ?_
        refine lv_i2l hx hb dX8_drift_51 rfl ?_
        refine lv_ldc2 (v := 1103515245) hx hb hown (hts (.constantLong RX8 132 (1103515245)) (by decide +kernel)) dX8_drift_52 ?_
        refine lv_lmul hx hb dX8_drift_55 ?_
        refine lv_ldc2 (v := 12345) hx hb hown (hts (.constantLong RX8 134 (12345)) (by decide +kernel)) dX8_drift_56 ?_
        refine lv_ladd hx hb dX8_drift_59 ?_
        refine lv_ldc2 (v := 2147483648) hx hb hown (hts (.constantLong RX8 136 (2147483648)) (by decide +kernel)) dX8_drift_60 ?_
        refine lv_lrem hx hb dX8_drift_63 (by decide) ?_
        refine lv_l2i hx hb dX8_drift_64 rfl ?_
        refine x_iast (j := 1) hx hb hK hP hD hS 1 0 rfl rfl (by decide) (x_in (by decide)) dX8_drift_65 (fun H locs hP hD hS => ?_)
        replace hP : va_P D vwCl [(m_mo, .inr (8, [.ref m_alane, .ref m_asize, .ref m_aitem, .int m_letters, .ref m_atape, .int m_position, .int m_number, .ref m_anow, .ref m_atried, .ref m_aread, .ref m_akept, .int m_isKept, .ref m_anoticed, .ref m_aneeds, .ref m_aorder, .int m_many, .int m_one, .int m_two])), (m_anow, .inl (G 0, 55, .inl (upd m_now_2 1 ((((((m_now_2 1).toInt64) * (1103515245 : Int64)) + (12345 : Int64)) - ((((m_now_2 1).toInt64) * (1103515245 : Int64)) + (12345 : Int64)) / (2147483648 : Int64) * (2147483648 : Int64)).toInt32))))] H := hP
        replace hD : va_D A [(m_mo, .inr (8, [.ref m_alane, .ref m_asize, .ref m_aitem, .int m_letters, .ref m_atape, .int m_position, .int m_number, .ref m_anow, .ref m_atried, .ref m_aread, .ref m_akept, .int m_isKept, .ref m_anoticed, .ref m_aneeds, .ref m_aorder, .int m_many, .int m_one, .int m_two])), (m_anow, .inl (G 0, 55, .inl (upd m_now_2 1 ((((((m_now_2 1).toInt64) * (1103515245 : Int64)) + (12345 : Int64)) - ((((m_now_2 1).toInt64) * (1103515245 : Int64)) + (12345 : Int64)) / (2147483648 : Int64) * (2147483648 : Int64)).toInt32))))] := hD
        refine lv_aload_n hx hb dX8_drift_66 rfl (lv_at hl 0 rfl) ?_
        refine va_get (D := D) (ci := 8) (v := .ref m_anow) (C := RX8) (T := TX8) (N := 18) hx hb hts inX8 hown hK hP 0 rfl rfl 7 (by decide) fl23 (fun _ h9 => h9) rfl dX8_drift_67 ?_
        refine lv_iconst (v := 1) hx hb dX8_drift_70 (by decide) ?_
        refine x_iald (j := 1) hx hb hK hP 1 0 rfl rfl (by decide) (x_in (by decide)) dX8_drift_71 ?_
        refine lv_sipush (v := 128) hx hb dX8_drift_72 (by decide) ?_
        refine lv_idiv hx hb dX8_drift_75 (by decide) ?_
        refine lv_iconst (v := 1) hx hb dX8_drift_76 (by decide) ?_
        refine lv_aload_n hx hb dX8_drift_77 rfl (lv_at hl 0 rfl) ?_
        refine va_get (D := D) (ci := 8) (v := .ref m_anow) (C := RX8) (T := TX8) (N := 18) hx hb hts inX8 hown hK hP 0 rfl rfl 7 (by decide) fl23 (fun _ h9 => h9) rfl dX8_drift_78 ?_
        refine lv_iconst (v := 4) hx hb dX8_drift_81 (by decide) ?_
        refine x_iald (j := 4) hx hb hK hP 1 0 rfl rfl (by decide) (x_in (by decide)) dX8_drift_82 ?_
        refine lv_ishl hx hb dX8_drift_83 ?_
        refine lv_irem hx hb dX8_drift_84 hw.1 ?_
        replace hw := hw.2
        refine lv_istore_n (lv' := [(3, .int ((((upd m_now_2 1 ((((((m_now_2 1).toInt64) * (1103515245 : Int64)) + (12345 : Int64)) - ((((m_now_2 1).toInt64) * (1103515245 : Int64)) + (12345 : Int64)) / (2147483648 : Int64) * (2147483648 : Int64)).toInt32)) 1) / (128 : Int32)) - (((upd m_now_2 1 ((((((m_now_2 1).toInt64) * (1103515245 : Int64)) + (12345 : Int64)) - ((((m_now_2 1).toInt64) * (1103515245 : Int64)) + (12345 : Int64)) / (2147483648 : Int64) * (2147483648 : Int64)).toInt32)) 1) / (128 : Int32)) / ((1 : Int32) <<< (((upd m_now_2 1 ((((((m_now_2 1).toInt64) * (1103515245 : Int64)) + (12345 : Int64)) - ((((m_now_2 1).toInt64) * (1103515245 : Int64)) + (12345 : Int64)) / (2147483648 : Int64) * (2147483648 : Int64)).toInt32)) 4) &&& 31)) * ((1 : Int32) <<< (((upd m_now_2 1 ((((((m_now_2 1).toInt64) * (1103515245 : Int64)) + (12345 : Int64)) - ((((m_now_2 1).toInt64) * (1103515245 : Int64)) + (12345 : Int64)) / (2147483648 : Int64) * (2147483648 : Int64)).toInt32)) 4) &&& 31)))), (0, .ref m_mo), (1, .int x1), (2, .int x2)]) hx hb dX8_drift_85 rfl hl (by decide) rfl (fun ls hl => ?_)
        refine lv_aload_n hx hb dX8_drift_86 rfl (lv_at hl 1 rfl) ?_
        refine va_get (D := D) (ci := 8) (v := .ref m_anow) (C := RX8) (T := TX8) (N := 18) hx hb hts inX8 hown hK hP 0 rfl rfl 7 (by decide) fl23 (fun _ h9 => h9) rfl dX8_drift_87 ?_
        refine lv_bipush (v := 13) hx hb dX8_drift_90 (by decide) ?_
        refine x_iald (j := 13) hx hb hK hP 1 0 rfl rfl (by decide) (x_in (by decide)) dX8_drift_92 ?_
        refine lv_if_le (tgt := 153) hx hb dX8_drift_93 (by decide) (fun c9 => ?_) (fun c9 => ?_)
        · replace hw := hw.1 c9
          refine lv_iinc (v := (x2 + 1)) (lv' := [(2, .int (x2 + 1)), (3, .int ((((upd m_now_2 1 ((((((m_now_2 1).toInt64) * (1103515245 : Int64)) + (12345 : Int64)) - ((((m_now_2 1).toInt64) * (1103515245 : Int64)) + (12345 : Int64)) / (2147483648 : Int64) * (2147483648 : Int64)).toInt32)) 1) / (128 : Int32)) - (((upd m_now_2 1 ((((((m_now_2 1).toInt64) * (1103515245 : Int64)) + (12345 : Int64)) - ((((m_now_2 1).toInt64) * (1103515245 : Int64)) + (12345 : Int64)) / (2147483648 : Int64) * (2147483648 : Int64)).toInt32)) 1) / (128 : Int32)) / ((1 : Int32) <<< (((upd m_now_2 1 ((((((m_now_2 1).toInt64) * (1103515245 : Int64)) + (12345 : Int64)) - ((((m_now_2 1).toInt64) * (1103515245 : Int64)) + (12345 : Int64)) / (2147483648 : Int64) * (2147483648 : Int64)).toInt32)) 4) &&& 31)) * ((1 : Int32) <<< (((upd m_now_2 1 ((((((m_now_2 1).toInt64) * (1103515245 : Int64)) + (12345 : Int64)) - ((((m_now_2 1).toInt64) * (1103515245 : Int64)) + (12345 : Int64)) / (2147483648 : Int64) * (2147483648 : Int64)).toInt32)) 4) &&& 31)))), (0, .ref m_mo), (1, .int x1)]) hx hb dX8_drift_153 hl (k := 3) rfl (by first | rfl | decide) (by decide) rfl (fun ls hl => ?_)
          refine lv_goto (tgt := 31) hx hb dX8_drift_156 (by decide) ?_
          exact ih31 (x2 + 1) (upd m_now_2 1 ((((((m_now_2 1).toInt64) * (1103515245 : Int64)) + (12345 : Int64)) - ((((m_now_2 1).toInt64) * (1103515245 : Int64)) + (12345 : Int64)) / (2147483648 : Int64) * (2147483648 : Int64)).toInt32)) _ _ _ hw hP hD hS (lv_sub hl [2, 3, 0] rfl)
        · replace hw := hw.2 c9
          refine lv_iload_n hx hb dX8_drift_96 rfl (lv_at hl 0 rfl) ?_
          refine lv_if_le (tgt := 153) hx hb dX8_drift_97 (by decide) (fun c9 => ?_) (fun c9 => ?_)
          · replace hw := hw.1 c9
            refine lv_iinc (v := (x2 + 1)) (lv' := [(2, .int (x2 + 1)), (3, .int ((((upd m_now_2 1 ((((((m_now_2 1).toInt64) * (1103515245 : Int64)) + (12345 : Int64)) - ((((m_now_2 1).toInt64) * (1103515245 : Int64)) + (12345 : Int64)) / (2147483648 : Int64) * (2147483648 : Int64)).toInt32)) 1) / (128 : Int32)) - (((upd m_now_2 1 ((((((m_now_2 1).toInt64) * (1103515245 : Int64)) + (12345 : Int64)) - ((((m_now_2 1).toInt64) * (1103515245 : Int64)) + (12345 : Int64)) / (2147483648 : Int64) * (2147483648 : Int64)).toInt32)) 1) / (128 : Int32)) / ((1 : Int32) <<< (((upd m_now_2 1 ((((((m_now_2 1).toInt64) * (1103515245 : Int64)) + (12345 : Int64)) - ((((m_now_2 1).toInt64) * (1103515245 : Int64)) + (12345 : Int64)) / (2147483648 : Int64) * (2147483648 : Int64)).toInt32)) 4) &&& 31)) * ((1 : Int32) <<< (((upd m_now_2 1 ((((((m_now_2 1).toInt64) * (1103515245 : Int64)) + (12345 : Int64)) - ((((m_now_2 1).toInt64) * (1103515245 : Int64)) + (12345 : Int64)) / (2147483648 : Int64) * (2147483648 : Int64)).toInt32)) 4) &&& 31)))), (0, .ref m_mo), (1, .int x1)]) hx hb dX8_drift_153 hl (k := 3) rfl (by first | rfl | decide) (by decide) rfl (fun ls hl => ?_)
            refine lv_goto (tgt := 31) hx hb dX8_drift_156 (by decide) ?_
            exact ih31 (x2 + 1) (upd m_now_2 1 ((((((m_now_2 1).toInt64) * (1103515245 : Int64)) + (12345 : Int64)) - ((((m_now_2 1).toInt64) * (1103515245 : Int64)) + (12345 : Int64)) / (2147483648 : Int64) * (2147483648 : Int64)).toInt32)) _ _ _ hw hP hD hS (lv_sub hl [2, 3, 0] rfl)
          · replace hw := hw.2 c9
            refine lv_aload_n hx hb dX8_drift_100 rfl (lv_at hl 1 rfl) ?_
            refine va_get (D := D) (ci := 8) (v := .ref m_anow) (C := RX8) (T := TX8) (N := 18) hx hb hts inX8 hown hK hP 0 rfl rfl 7 (by decide) fl23 (fun _ h9 => h9) rfl dX8_drift_101 ?_
            refine lv_iconst (v := 3) hx hb dX8_drift_104 (by decide) ?_
            refine x_iald (j := 3) hx hb hK hP 1 0 rfl rfl (by decide) (x_in (by decide)) dX8_drift_105 ?_
            refine lv_bipush (v := -4) hx hb dX8_drift_106 (by decide) ?_
            refine lv_icmp_eq (tgt := 153) hx hb dX8_drift_108 (by decide) (fun c9 => ?_) (fun c9 => ?_)
            · replace hw := hw.1 c9
              refine lv_iinc (v := (x2 + 1)) (lv' := [(2, .int (x2 + 1)), (3, .int ((((upd m_now_2 1 ((((((m_now_2 1).toInt64) * (1103515245 : Int64)) + (12345 : Int64)) - ((((m_now_2 1).toInt64) * (1103515245 : Int64)) + (12345 : Int64)) / (2147483648 : Int64) * (2147483648 : Int64)).toInt32)) 1) / (128 : Int32)) - (((upd m_now_2 1 ((((((m_now_2 1).toInt64) * (1103515245 : Int64)) + (12345 : Int64)) - ((((m_now_2 1).toInt64) * (1103515245 : Int64)) + (12345 : Int64)) / (2147483648 : Int64) * (2147483648 : Int64)).toInt32)) 1) / (128 : Int32)) / ((1 : Int32) <<< (((upd m_now_2 1 ((((((m_now_2 1).toInt64) * (1103515245 : Int64)) + (12345 : Int64)) - ((((m_now_2 1).toInt64) * (1103515245 : Int64)) + (12345 : Int64)) / (2147483648 : Int64) * (2147483648 : Int64)).toInt32)) 4) &&& 31)) * ((1 : Int32) <<< (((upd m_now_2 1 ((((((m_now_2 1).toInt64) * (1103515245 : Int64)) + (12345 : Int64)) - ((((m_now_2 1).toInt64) * (1103515245 : Int64)) + (12345 : Int64)) / (2147483648 : Int64) * (2147483648 : Int64)).toInt32)) 4) &&& 31)))), (0, .ref m_mo), (1, .int x1)]) hx hb dX8_drift_153 hl (k := 3) rfl (by first | rfl | decide) (by decide) rfl (fun ls hl => ?_)
              refine lv_goto (tgt := 31) hx hb dX8_drift_156 (by decide) ?_
              exact ih31 (x2 + 1) (upd m_now_2 1 ((((((m_now_2 1).toInt64) * (1103515245 : Int64)) + (12345 : Int64)) - ((((m_now_2 1).toInt64) * (1103515245 : Int64)) + (12345 : Int64)) / (2147483648 : Int64) * (2147483648 : Int64)).toInt32)) _ _ _ hw hP hD hS (lv_sub hl [2, 3, 0] rfl)
            · replace hw := hw.2 c9
              refine lv_aload_n hx hb dX8_drift_111 rfl (lv_at hl 1 rfl) ?_
              refine va_get (D := D) (ci := 8) (v := .ref m_anow) (C := RX8) (T := TX8) (N := 18) hx hb hts inX8 hown hK hP 0 rfl rfl 7 (by decide) fl23 (fun _ h9 => h9) rfl dX8_drift_112 ?_
              refine lv_iconst (v := 1) hx hb dX8_drift_115 (by decide) ?_
              refine x_iald (j := 1) hx hb hK hP 1 0 rfl rfl (by decide) (x_in (by decide)) dX8_drift_116 ?_
              refine lv_ldc (v := 65536) hx hb hown (hts (.constant RX8 138 (65536)) (by decide +kernel)) dX8_drift_117 ?_
              refine lv_idiv hx hb dX8_drift_119 (by decide) ?_
              refine lv_aload_n hx hb dX8_drift_120 rfl (lv_at hl 1 rfl) ?_
              refine va_get (D := D) (ci := 8) (v := .ref m_anow) (C := RX8) (T := TX8) (N := 18) hx hb hts inX8 hown hK hP 0 rfl rfl 7 (by decide) fl23 (fun _ h9 => h9) rfl dX8_drift_121 ?_
              refine lv_bipush (v := 13) hx hb dX8_drift_124 (by decide) ?_
              refine x_iald (j := 13) hx hb hK hP 1 0 rfl rfl (by decide) (x_in (by decide)) dX8_drift_126 ?_
              refine lv_irem hx hb dX8_drift_127 hw.1 ?_
              replace hw := hw.2
              refine lv_istore (lv' := [(4, .int ((((upd m_now_2 1 ((((((m_now_2 1).toInt64) * (1103515245 : Int64)) + (12345 : Int64)) - ((((m_now_2 1).toInt64) * (1103515245 : Int64)) + (12345 : Int64)) / (2147483648 : Int64) * (2147483648 : Int64)).toInt32)) 1) / (65536 : Int32)) - (((upd m_now_2 1 ((((((m_now_2 1).toInt64) * (1103515245 : Int64)) + (12345 : Int64)) - ((((m_now_2 1).toInt64) * (1103515245 : Int64)) + (12345 : Int64)) / (2147483648 : Int64) * (2147483648 : Int64)).toInt32)) 1) / (65536 : Int32)) / ((upd m_now_2 1 ((((((m_now_2 1).toInt64) * (1103515245 : Int64)) + (12345 : Int64)) - ((((m_now_2 1).toInt64) * (1103515245 : Int64)) + (12345 : Int64)) / (2147483648 : Int64) * (2147483648 : Int64)).toInt32)) 13) * ((upd m_now_2 1 ((((((m_now_2 1).toInt64) * (1103515245 : Int64)) + (12345 : Int64)) - ((((m_now_2 1).toInt64) * (1103515245 : Int64)) + (12345 : Int64)) / (2147483648 : Int64) * (2147483648 : Int64)).toInt32)) 13))), (3, .int ((((upd m_now_2 1 ((((((m_now_2 1).toInt64) * (1103515245 : Int64)) + (12345 : Int64)) - ((((m_now_2 1).toInt64) * (1103515245 : Int64)) + (12345 : Int64)) / (2147483648 : Int64) * (2147483648 : Int64)).toInt32)) 1) / (128 : Int32)) - (((upd m_now_2 1 ((((((m_now_2 1).toInt64) * (1103515245 : Int64)) + (12345 : Int64)) - ((((m_now_2 1).toInt64) * (1103515245 : Int64)) + (12345 : Int64)) / (2147483648 : Int64) * (2147483648 : Int64)).toInt32)) 1) / (128 : Int32)) / ((1 : Int32) <<< (((upd m_now_2 1 ((((((m_now_2 1).toInt64) * (1103515245 : Int64)) + (12345 : Int64)) - ((((m_now_2 1).toInt64) * (1103515245 : Int64)) + (12345 : Int64)) / (2147483648 : Int64) * (2147483648 : Int64)).toInt32)) 4) &&& 31)) * ((1 : Int32) <<< (((upd m_now_2 1 ((((((m_now_2 1).toInt64) * (1103515245 : Int64)) + (12345 : Int64)) - ((((m_now_2 1).toInt64) * (1103515245 : Int64)) + (12345 : Int64)) / (2147483648 : Int64) * (2147483648 : Int64)).toInt32)) 4) &&& 31)))), (0, .ref m_mo), (1, .int x1), (2, .int x2)]) hx hb dX8_drift_128 hl (by decide) rfl (fun ls hl => ?_)
              refine lv_aload_n hx hb dX8_drift_130 rfl (lv_at hl 2 rfl) ?_
              refine lv_iload hx hb dX8_drift_131 (lv_at hl 0 rfl) ?_
              refine lv_iload_n hx hb dX8_drift_133 rfl (lv_at hl 1 rfl) ?_
              refine lv_aload_n hx hb dX8_drift_134 rfl (lv_at hl 2 rfl) ?_
              refine va_get (D := D) (ci := 8) (v := .ref m_anow) (C := RX8) (T := TX8) (N := 18) hx hb hts inX8 hown hK hP 0 rfl rfl 7 (by decide) fl23 (fun _ h9 => h9) rfl dX8_drift_135 ?_
              refine lv_iload hx hb dX8_drift_138 (lv_at hl 0 rfl) ?_
              refine lv_iload_n hx hb dX8_drift_140 rfl (lv_at hl 1 rfl) ?_
              refine lv_aload_n hx hb dX8_drift_141 rfl (lv_at hl 2 rfl) ?_
              refine va_get (D := D) (ci := 8) (v := .ref m_anow) (C := RX8) (T := TX8) (N := 18) hx hb hts inX8 hown hK hP 0 rfl rfl 7 (by decide) fl23 (fun _ h9 => h9) rfl dX8_drift_142 ?_
              refine lv_iconst (v := 3) hx hb dX8_drift_145 (by decide) ?_
              refine x_iald (j := 3) hx hb hK hP 1 0 rfl rfl (by decide) (x_in (by decide)) dX8_drift_146 ?_
              refine vp_callSi (W.runS (As := [.ref m_anow, .int ((((upd m_now_2 1 ((((((m_now_2 1).toInt64) * (1103515245 : Int64)) + (12345 : Int64)) - ((((m_now_2 1).toInt64) * (1103515245 : Int64)) + (12345 : Int64)) / (2147483648 : Int64) * (2147483648 : Int64)).toInt32)) 1) / (65536 : Int32)) - (((upd m_now_2 1 ((((((m_now_2 1).toInt64) * (1103515245 : Int64)) + (12345 : Int64)) - ((((m_now_2 1).toInt64) * (1103515245 : Int64)) + (12345 : Int64)) / (2147483648 : Int64) * (2147483648 : Int64)).toInt32)) 1) / (65536 : Int32)) / ((upd m_now_2 1 ((((((m_now_2 1).toInt64) * (1103515245 : Int64)) + (12345 : Int64)) - ((((m_now_2 1).toInt64) * (1103515245 : Int64)) + (12345 : Int64)) / (2147483648 : Int64) * (2147483648 : Int64)).toInt32)) 13) * ((upd m_now_2 1 ((((((m_now_2 1).toInt64) * (1103515245 : Int64)) + (12345 : Int64)) - ((((m_now_2 1).toInt64) * (1103515245 : Int64)) + (12345 : Int64)) / (2147483648 : Int64) * (2147483648 : Int64)).toInt32)) 13)), .int ((((upd m_now_2 1 ((((((m_now_2 1).toInt64) * (1103515245 : Int64)) + (12345 : Int64)) - ((((m_now_2 1).toInt64) * (1103515245 : Int64)) + (12345 : Int64)) / (2147483648 : Int64) * (2147483648 : Int64)).toInt32)) 1) / (128 : Int32)) - (((upd m_now_2 1 ((((((m_now_2 1).toInt64) * (1103515245 : Int64)) + (12345 : Int64)) - ((((m_now_2 1).toInt64) * (1103515245 : Int64)) + (12345 : Int64)) / (2147483648 : Int64) * (2147483648 : Int64)).toInt32)) 1) / (128 : Int32)) / ((1 : Int32) <<< (((upd m_now_2 1 ((((((m_now_2 1).toInt64) * (1103515245 : Int64)) + (12345 : Int64)) - ((((m_now_2 1).toInt64) * (1103515245 : Int64)) + (12345 : Int64)) / (2147483648 : Int64) * (2147483648 : Int64)).toInt32)) 4) &&& 31)) * ((1 : Int32) <<< (((upd m_now_2 1 ((((((m_now_2 1).toInt64) * (1103515245 : Int64)) + (12345 : Int64)) - ((((m_now_2 1).toInt64) * (1103515245 : Int64)) + (12345 : Int64)) / (2147483648 : Int64) * (2147483648 : Int64)).toInt32)) 4) &&& 31))), .int ((upd m_now_2 1 ((((((m_now_2 1).toInt64) * (1103515245 : Int64)) + (12345 : Int64)) - ((((m_now_2 1).toInt64) * (1103515245 : Int64)) + (12345 : Int64)) / (2147483648 : Int64) * (2147483648 : Int64)).toInt32)) 3)]) (rest := [.int ((((upd m_now_2 1 ((((((m_now_2 1).toInt64) * (1103515245 : Int64)) + (12345 : Int64)) - ((((m_now_2 1).toInt64) * (1103515245 : Int64)) + (12345 : Int64)) / (2147483648 : Int64) * (2147483648 : Int64)).toInt32)) 1) / (128 : Int32)) - (((upd m_now_2 1 ((((((m_now_2 1).toInt64) * (1103515245 : Int64)) + (12345 : Int64)) - ((((m_now_2 1).toInt64) * (1103515245 : Int64)) + (12345 : Int64)) / (2147483648 : Int64) * (2147483648 : Int64)).toInt32)) 1) / (128 : Int32)) / ((1 : Int32) <<< (((upd m_now_2 1 ((((((m_now_2 1).toInt64) * (1103515245 : Int64)) + (12345 : Int64)) - ((((m_now_2 1).toInt64) * (1103515245 : Int64)) + (12345 : Int64)) / (2147483648 : Int64) * (2147483648 : Int64)).toInt32)) 4) &&& 31)) * ((1 : Int32) <<< (((upd m_now_2 1 ((((((m_now_2 1).toInt64) * (1103515245 : Int64)) + (12345 : Int64)) - ((((m_now_2 1).toInt64) * (1103515245 : Int64)) + (12345 : Int64)) / (2147483648 : Int64) * (2147483648 : Int64)).toInt32)) 4) &&& 31))), .int ((((upd m_now_2 1 ((((((m_now_2 1).toInt64) * (1103515245 : Int64)) + (12345 : Int64)) - ((((m_now_2 1).toInt64) * (1103515245 : Int64)) + (12345 : Int64)) / (2147483648 : Int64) * (2147483648 : Int64)).toInt32)) 1) / (65536 : Int32)) - (((upd m_now_2 1 ((((((m_now_2 1).toInt64) * (1103515245 : Int64)) + (12345 : Int64)) - ((((m_now_2 1).toInt64) * (1103515245 : Int64)) + (12345 : Int64)) / (2147483648 : Int64) * (2147483648 : Int64)).toInt32)) 1) / (65536 : Int32)) / ((upd m_now_2 1 ((((((m_now_2 1).toInt64) * (1103515245 : Int64)) + (12345 : Int64)) - ((((m_now_2 1).toInt64) * (1103515245 : Int64)) + (12345 : Int64)) / (2147483648 : Int64) * (2147483648 : Int64)).toInt32)) 13) * ((upd m_now_2 1 ((((((m_now_2 1).toInt64) * (1103515245 : Int64)) + (12345 : Int64)) - ((((m_now_2 1).toInt64) * (1103515245 : Int64)) + (12345 : Int64)) / (2147483648 : Int64) * (2147483648 : Int64)).toInt32)) 13)), .ref m_mo]) ⟨hx, hb, hml, hown, hts⟩ (c_X8_noticesIn l D G m_anow (upd m_now_2 1 ((((((m_now_2 1).toInt64) * (1103515245 : Int64)) + (12345 : Int64)) - ((((m_now_2 1).toInt64) * (1103515245 : Int64)) + (12345 : Int64)) / (2147483648 : Int64) * (2147483648 : Int64)).toInt32)) ((((upd m_now_2 1 ((((((m_now_2 1).toInt64) * (1103515245 : Int64)) + (12345 : Int64)) - ((((m_now_2 1).toInt64) * (1103515245 : Int64)) + (12345 : Int64)) / (2147483648 : Int64) * (2147483648 : Int64)).toInt32)) 1) / (65536 : Int32)) - (((upd m_now_2 1 ((((((m_now_2 1).toInt64) * (1103515245 : Int64)) + (12345 : Int64)) - ((((m_now_2 1).toInt64) * (1103515245 : Int64)) + (12345 : Int64)) / (2147483648 : Int64) * (2147483648 : Int64)).toInt32)) 1) / (65536 : Int32)) / ((upd m_now_2 1 ((((((m_now_2 1).toInt64) * (1103515245 : Int64)) + (12345 : Int64)) - ((((m_now_2 1).toInt64) * (1103515245 : Int64)) + (12345 : Int64)) / (2147483648 : Int64) * (2147483648 : Int64)).toInt32)) 13) * ((upd m_now_2 1 ((((((m_now_2 1).toInt64) * (1103515245 : Int64)) + (12345 : Int64)) - ((((m_now_2 1).toInt64) * (1103515245 : Int64)) + (12345 : Int64)) / (2147483648 : Int64) * (2147483648 : Int64)).toInt32)) 13)) ((((upd m_now_2 1 ((((((m_now_2 1).toInt64) * (1103515245 : Int64)) + (12345 : Int64)) - ((((m_now_2 1).toInt64) * (1103515245 : Int64)) + (12345 : Int64)) / (2147483648 : Int64) * (2147483648 : Int64)).toInt32)) 1) / (128 : Int32)) - (((upd m_now_2 1 ((((((m_now_2 1).toInt64) * (1103515245 : Int64)) + (12345 : Int64)) - ((((m_now_2 1).toInt64) * (1103515245 : Int64)) + (12345 : Int64)) / (2147483648 : Int64) * (2147483648 : Int64)).toInt32)) 1) / (128 : Int32)) / ((1 : Int32) <<< (((upd m_now_2 1 ((((((m_now_2 1).toInt64) * (1103515245 : Int64)) + (12345 : Int64)) - ((((m_now_2 1).toInt64) * (1103515245 : Int64)) + (12345 : Int64)) / (2147483648 : Int64) * (2147483648 : Int64)).toInt32)) 4) &&& 31)) * ((1 : Int32) <<< (((upd m_now_2 1 ((((((m_now_2 1).toInt64) * (1103515245 : Int64)) + (12345 : Int64)) - ((((m_now_2 1).toInt64) * (1103515245 : Int64)) + (12345 : Int64)) / (2147483648 : Int64) * (2147483648 : Int64)).toInt32)) 4) &&& 31))) ((upd m_now_2 1 ((((((m_now_2 1).toInt64) * (1103515245 : Int64)) + (12345 : Int64)) - ((((m_now_2 1).toInt64) * (1103515245 : Int64)) + (12345 : Int64)) / (2147483648 : Int64) * (2147483648 : Int64)).toInt32)) 3) _ hw) (va_cwS 4 hts gX8_drift_X8_noticesIn rfl rfl rfl (by decide +kernel) ⟨(Nat.le_of_ble_eq_true rfl), (Nat.le_of_ble_eq_true rfl)⟩) (xR_ps (hP.sub [1] rfl) hK) rfl rfl hl.1 rfl (lv_room (Nat.le_of_ble_eq_true rfl)) dX8_drift_147 ⟨Nat.zero_le _, Nat.zero_le _⟩) (fun r3 hw => ?_)
              refine x_cMv (wr := []) (va_runV (As := [.int ((((upd m_now_2 1 ((((((m_now_2 1).toInt64) * (1103515245 : Int64)) + (12345 : Int64)) - ((((m_now_2 1).toInt64) * (1103515245 : Int64)) + (12345 : Int64)) / (2147483648 : Int64) * (2147483648 : Int64)).toInt32)) 1) / (65536 : Int32)) - (((upd m_now_2 1 ((((((m_now_2 1).toInt64) * (1103515245 : Int64)) + (12345 : Int64)) - ((((m_now_2 1).toInt64) * (1103515245 : Int64)) + (12345 : Int64)) / (2147483648 : Int64) * (2147483648 : Int64)).toInt32)) 1) / (65536 : Int32)) / ((upd m_now_2 1 ((((((m_now_2 1).toInt64) * (1103515245 : Int64)) + (12345 : Int64)) - ((((m_now_2 1).toInt64) * (1103515245 : Int64)) + (12345 : Int64)) / (2147483648 : Int64) * (2147483648 : Int64)).toInt32)) 13) * ((upd m_now_2 1 ((((((m_now_2 1).toInt64) * (1103515245 : Int64)) + (12345 : Int64)) - ((((m_now_2 1).toInt64) * (1103515245 : Int64)) + (12345 : Int64)) / (2147483648 : Int64) * (2147483648 : Int64)).toInt32)) 13)), .int ((((upd m_now_2 1 ((((((m_now_2 1).toInt64) * (1103515245 : Int64)) + (12345 : Int64)) - ((((m_now_2 1).toInt64) * (1103515245 : Int64)) + (12345 : Int64)) / (2147483648 : Int64) * (2147483648 : Int64)).toInt32)) 1) / (128 : Int32)) - (((upd m_now_2 1 ((((((m_now_2 1).toInt64) * (1103515245 : Int64)) + (12345 : Int64)) - ((((m_now_2 1).toInt64) * (1103515245 : Int64)) + (12345 : Int64)) / (2147483648 : Int64) * (2147483648 : Int64)).toInt32)) 1) / (128 : Int32)) / ((1 : Int32) <<< (((upd m_now_2 1 ((((((m_now_2 1).toInt64) * (1103515245 : Int64)) + (12345 : Int64)) - ((((m_now_2 1).toInt64) * (1103515245 : Int64)) + (12345 : Int64)) / (2147483648 : Int64) * (2147483648 : Int64)).toInt32)) 4) &&& 31)) * ((1 : Int32) <<< (((upd m_now_2 1 ((((((m_now_2 1).toInt64) * (1103515245 : Int64)) + (12345 : Int64)) - ((((m_now_2 1).toInt64) * (1103515245 : Int64)) + (12345 : Int64)) / (2147483648 : Int64) * (2147483648 : Int64)).toInt32)) 4) &&& 31))), .int r3]) (rest := []) ⟨hx, hb, hml, hown, hts⟩ (c_X8_answers l D G _ m_mo m_alane m_asize m_aitem m_atape m_anow m_atried m_aread m_akept m_anoticed m_aneeds m_aorder m_letters m_position m_number m_isKept m_many m_one m_two (upd m_now_2 1 ((((((m_now_2 1).toInt64) * (1103515245 : Int64)) + (12345 : Int64)) - ((((m_now_2 1).toInt64) * (1103515245 : Int64)) + (12345 : Int64)) / (2147483648 : Int64) * (2147483648 : Int64)).toInt32)) ((((upd m_now_2 1 ((((((m_now_2 1).toInt64) * (1103515245 : Int64)) + (12345 : Int64)) - ((((m_now_2 1).toInt64) * (1103515245 : Int64)) + (12345 : Int64)) / (2147483648 : Int64) * (2147483648 : Int64)).toInt32)) 1) / (65536 : Int32)) - (((upd m_now_2 1 ((((((m_now_2 1).toInt64) * (1103515245 : Int64)) + (12345 : Int64)) - ((((m_now_2 1).toInt64) * (1103515245 : Int64)) + (12345 : Int64)) / (2147483648 : Int64) * (2147483648 : Int64)).toInt32)) 1) / (65536 : Int32)) / ((upd m_now_2 1 ((((((m_now_2 1).toInt64) * (1103515245 : Int64)) + (12345 : Int64)) - ((((m_now_2 1).toInt64) * (1103515245 : Int64)) + (12345 : Int64)) / (2147483648 : Int64) * (2147483648 : Int64)).toInt32)) 13) * ((upd m_now_2 1 ((((((m_now_2 1).toInt64) * (1103515245 : Int64)) + (12345 : Int64)) - ((((m_now_2 1).toInt64) * (1103515245 : Int64)) + (12345 : Int64)) / (2147483648 : Int64) * (2147483648 : Int64)).toInt32)) 13)) ((((upd m_now_2 1 ((((((m_now_2 1).toInt64) * (1103515245 : Int64)) + (12345 : Int64)) - ((((m_now_2 1).toInt64) * (1103515245 : Int64)) + (12345 : Int64)) / (2147483648 : Int64) * (2147483648 : Int64)).toInt32)) 1) / (128 : Int32)) - (((upd m_now_2 1 ((((((m_now_2 1).toInt64) * (1103515245 : Int64)) + (12345 : Int64)) - ((((m_now_2 1).toInt64) * (1103515245 : Int64)) + (12345 : Int64)) / (2147483648 : Int64) * (2147483648 : Int64)).toInt32)) 1) / (128 : Int32)) / ((1 : Int32) <<< (((upd m_now_2 1 ((((((m_now_2 1).toInt64) * (1103515245 : Int64)) + (12345 : Int64)) - ((((m_now_2 1).toInt64) * (1103515245 : Int64)) + (12345 : Int64)) / (2147483648 : Int64) * (2147483648 : Int64)).toInt32)) 4) &&& 31)) * ((1 : Int32) <<< (((upd m_now_2 1 ((((((m_now_2 1).toInt64) * (1103515245 : Int64)) + (12345 : Int64)) - ((((m_now_2 1).toInt64) * (1103515245 : Int64)) + (12345 : Int64)) / (2147483648 : Int64) * (2147483648 : Int64)).toInt32)) 4) &&& 31))) r3 _ hw) (cwV 3 hts gX8_drift_X8_answers rfl rfl rfl (by decide +kernel) ⟨(Nat.le_of_ble_eq_true rfl), (Nat.le_of_ble_eq_true rfl)⟩) (xM_pv (hP.sub [0, 1] rfl) hK (hD.sub [0, 1] (by decide) rfl) (va_recv hK hP (ci := 8) (q0 := 0) rfl rfl)) rfl rfl hl.1 rfl (lv_room (Nat.le_of_ble_eq_true rfl)) dX8_drift_150 ⟨Nat.zero_le _, Nat.zero_le _⟩) hP hD hS hA [0, 1] [] rfl rfl (by decide) (by decide) [0, 1] (fun u => [(m_mo, .inr (8, [.ref m_alane, .ref m_asize, .ref m_aitem, .int m_letters, .ref m_atape, .int m_position, .int m_number, .ref m_anow, .ref m_atried, .ref m_aread, .ref m_akept, .int m_isKept, .ref m_anoticed, .ref m_aneeds, .ref m_aorder, .int m_many, .int m_one, .int m_two])), (m_anow, .inl (G 0, 55, .inl u))]) (by decide) (fun u => rfl) (fun u H locs hw hP hD hS => ?_)
              obtain ⟨m_now_4, rfl⟩ : ∃ z, z = u := ⟨_, rfl⟩
              try dsimp only at hw
              replace hP : va_P D vwCl [(m_mo, .inr (8, [.ref m_alane, .ref m_asize, .ref m_aitem, .int m_letters, .ref m_atape, .int m_position, .int m_number, .ref m_anow, .ref m_atried, .ref m_aread, .ref m_akept, .int m_isKept, .ref m_anoticed, .ref m_aneeds, .ref m_aorder, .int m_many, .int m_one, .int m_two])), (m_anow, .inl (G 0, 55, .inl m_now_4))] H := hP
              replace hD : va_D A [(m_mo, .inr (8, [.ref m_alane, .ref m_asize, .ref m_aitem, .int m_letters, .ref m_atape, .int m_position, .int m_number, .ref m_anow, .ref m_atried, .ref m_aread, .ref m_akept, .int m_isKept, .ref m_anoticed, .ref m_aneeds, .ref m_aorder, .int m_many, .int m_one, .int m_two])), (m_anow, .inl (G 0, 55, .inl m_now_4))] := hD
              refine lv_iinc (v := (x2 + 1)) (lv' := [(2, .int (x2 + 1)), (4, .int ((((upd m_now_2 1 ((((((m_now_2 1).toInt64) * (1103515245 : Int64)) + (12345 : Int64)) - ((((m_now_2 1).toInt64) * (1103515245 : Int64)) + (12345 : Int64)) / (2147483648 : Int64) * (2147483648 : Int64)).toInt32)) 1) / (65536 : Int32)) - (((upd m_now_2 1 ((((((m_now_2 1).toInt64) * (1103515245 : Int64)) + (12345 : Int64)) - ((((m_now_2 1).toInt64) * (1103515245 : Int64)) + (12345 : Int64)) / (2147483648 : Int64) * (2147483648 : Int64)).toInt32)) 1) / (65536 : Int32)) / ((upd m_now_2 1 ((((((m_now_2 1).toInt64) * (1103515245 : Int64)) + (12345 : Int64)) - ((((m_now_2 1).toInt64) * (1103515245 : Int64)) + (12345 : Int64)) / (2147483648 : Int64) * (2147483648 : Int64)).toInt32)) 13) * ((upd m_now_2 1 ((((((m_now_2 1).toInt64) * (1103515245 : Int64)) + (12345 : Int64)) - ((((m_now_2 1).toInt64) * (1103515245 : Int64)) + (12345 : Int64)) / (2147483648 : Int64) * (2147483648 : Int64)).toInt32)) 13))), (3, .int ((((upd m_now_2 1 ((((((m_now_2 1).toInt64) * (1103515245 : Int64)) + (12345 : Int64)) - ((((m_now_2 1).toInt64) * (1103515245 : Int64)) + (12345 : Int64)) / (2147483648 : Int64) * (2147483648 : Int64)).toInt32)) 1) / (128 : Int32)) - (((upd m_now_2 1 ((((((m_now_2 1).toInt64) * (1103515245 : Int64)) + (12345 : Int64)) - ((((m_now_2 1).toInt64) * (1103515245 : Int64)) + (12345 : Int64)) / (2147483648 : Int64) * (2147483648 : Int64)).toInt32)) 1) / (128 : Int32)) / ((1 : Int32) <<< (((upd m_now_2 1 ((((((m_now_2 1).toInt64) * (1103515245 : Int64)) + (12345 : Int64)) - ((((m_now_2 1).toInt64) * (1103515245 : Int64)) + (12345 : Int64)) / (2147483648 : Int64) * (2147483648 : Int64)).toInt32)) 4) &&& 31)) * ((1 : Int32) <<< (((upd m_now_2 1 ((((((m_now_2 1).toInt64) * (1103515245 : Int64)) + (12345 : Int64)) - ((((m_now_2 1).toInt64) * (1103515245 : Int64)) + (12345 : Int64)) / (2147483648 : Int64) * (2147483648 : Int64)).toInt32)) 4) &&& 31)))), (0, .ref m_mo), (1, .int x1)]) hx hb dX8_drift_153 hl (k := 4) rfl (by first | rfl | decide) (by decide) rfl (fun ls hl => ?_)
              refine lv_goto (tgt := 31) hx hb dX8_drift_156 (by decide) ?_
              exact ih31 (x2 + 1) m_now_4 _ _ _ hw hP hD hS (lv_sub hl [3, 4, 0] rfl)
  refine lv_iload_n hx hb dX8_drift_0 rfl (lv_at hl 1 rfl) ?_
  refine lv_iconst (v := 1) hx hb dX8_drift_1 (by decide) ?_
  refine lv_bipush (v := 40) hx hb dX8_drift_2 (by decide) ?_
  refine vp_callSi (W.runS (As := [.int x1, .int (1 : Int32), .int (40 : Int32)]) (rest := []) ⟨hx, hb, hml, hown, hts⟩ (c_X8_in l D G x1 (1 : Int32) (40 : Int32) _ hw) (va_cwS 3 hts gX8_drift_X8_in rfl rfl rfl (by decide +kernel) ⟨(Nat.le_of_ble_eq_true rfl), (Nat.le_of_ble_eq_true rfl)⟩) (xR_ps (hP.sub [] rfl) hK) rfl rfl hl.1 rfl (lv_room (Nat.le_of_ble_eq_true rfl)) dX8_drift_4 ⟨Nat.zero_le _, Nat.zero_le _⟩) (fun r1 hw => ?_)
  refine lv_if_ne (tgt := 12) hx hb dX8_drift_7 (by decide) (fun c9 => ?_) (fun c9 => ?_)
  · replace hw := hw.1 c9
    refine lv_aload_n hx hb dX8_drift_12 rfl (lv_at hl 0 rfl) ?_
    refine va_get (D := D) (ci := 8) (v := .ref m_anow) (C := RX8) (T := TX8) (N := 18) hx hb hts inX8 hown hK hP 0 rfl rfl 7 (by decide) fl23 (fun _ h9 => h9) rfl dX8_drift_13 ?_
    refine lv_iconst (v := 0) hx hb dX8_drift_16 (by decide) ?_
    refine x_iald (j := 0) hx hb hK hP 1 0 rfl rfl (by decide) (x_in (by decide)) dX8_drift_17 ?_
    refine lv_iload_n hx hb dX8_drift_18 rfl (lv_at hl 1 rfl) ?_
    refine lv_iadd hx hb dX8_drift_19 ?_
    refine lv_sipush (v := 9999) hx hb dX8_drift_20 (by decide) ?_
    refine lv_icmp_le (tgt := 29) hx hb dX8_drift_23 (by decide) (fun c9 => ?_) (fun c9 => ?_)
    · replace hw := hw.1 c9
      refine lv_iconst (v := 0) hx hb dX8_drift_29 (by decide) ?_
      refine lv_istore_n (lv' := [(2, .int (0 : Int32)), (0, .ref m_mo), (1, .int x1)]) hx hb dX8_drift_30 rfl hl (by decide) rfl (fun ls hl => ?_)
      obtain ⟨n, hw⟩ := hw
      exact L31 n (0 : Int32) m_now _ _ _ hw hP hD hS (lv_sub hl [1, 2, 0] rfl)
    · replace hw := hw.2 c9
      refine lv_bipush (v := -3) hx hb dX8_drift_26 (by decide) ?_
      exact W.iret hx hb hr (x_mi (u := m_now) hP hK hD hS hw) hS.2.2 dX8_drift_28
  · replace hw := hw.2 c9
    refine lv_iconst (v := -1) hx hb dX8_drift_10 (by decide) ?_
    exact W.iret hx hb hr (x_mi (u := m_now) hP hK hD hS hw) hS.2.2 dX8_drift_11
set_option maxHeartbeats 4000000 in
set_option maxRecDepth 100000 in
theorem c_X8_undo (l : Launch) (D : va_G) (G : Nat → ClassId) (sz : Nat) (m_mo : Nat) (m_alane : Nat) (m_asize : Nat) (m_aitem : Nat) (m_atape : Nat) (m_anow : Nat) (m_atried : Nat) (m_aread : Nat) (m_akept : Nat) (m_anoticed : Nat) (m_aneeds : Nat) (m_aorder : Nat) (m_letters : Int32) (m_position : Int32) (m_number : Int32) (m_isKept : Int32) (m_many : Int32) (m_one : Int32) (m_two : Int32) (m_now : Nat → Int32) (post : Int32 → (Nat → Int32) → Prop) (hw : wp_X8_undo m_now post) : Met l yX8_undo wsX8_undo ({ frames := 1, cells := 0, slots := 0, locals := 25 } : Room) (va_Pc [.ref m_mo] (xM D G sz [(m_mo, .inr (8, [.ref m_alane, .ref m_asize, .ref m_aitem, .int m_letters, .ref m_atape, .int m_position, .int m_number, .ref m_anow, .ref m_atried, .ref m_aread, .ref m_akept, .int m_isKept, .ref m_anoticed, .ref m_aneeds, .ref m_aorder, .int m_many, .int m_one, .int m_two])), (m_anow, .inl (G 0, 55, .inl m_now))])) (va_Qi (fun r (u : (Nat → Int32)) => post r u) (fun u t => xE D G (va_A [(m_mo, .inr (8, [.ref m_alane, .ref m_asize, .ref m_aitem, .int m_letters, .ref m_atape, .int m_position, .int m_number, .ref m_anow, .ref m_atried, .ref m_aread, .ref m_akept, .int m_isKept, .ref m_anoticed, .ref m_aneeds, .ref m_aorder, .int m_many, .int m_one, .int m_two])), (m_anow, .inl (G 0, 55, .inl m_now))] sz) [(m_mo, .inr (8, [.ref m_alane, .ref m_asize, .ref m_aitem, .int m_letters, .ref m_atape, .int m_position, .int m_number, .ref m_anow, .ref m_atried, .ref m_aread, .ref m_akept, .int m_isKept, .ref m_anoticed, .ref m_aneeds, .ref m_aorder, .int m_many, .int m_one, .int m_two])), (m_anow, .inl (G 0, 55, .inl u))] t) (va_A [(m_mo, .inr (8, [.ref m_alane, .ref m_asize, .ref m_aitem, .int m_letters, .ref m_atape, .int m_position, .int m_number, .ref m_anow, .ref m_atried, .ref m_aread, .ref m_akept, .int m_isKept, .ref m_anoticed, .ref m_aneeds, .ref m_aorder, .int m_many, .int m_one, .int m_two])), (m_anow, .inl (G 0, 55, .inl m_now))] sz)) 0 0 (va_A [(m_mo, .inr (8, [.ref m_alane, .ref m_asize, .ref m_aitem, .int m_letters, .ref m_atape, .int m_position, .int m_number, .ref m_anow, .ref m_atried, .ref m_aread, .ref m_akept, .int m_isKept, .ref m_anoticed, .ref m_aneeds, .ref m_aorder, .int m_many, .int m_one, .int m_two])), (m_anow, .inl (G 0, 55, .inl m_now))] sz) := by
  refine Met.ofW (cc := cX8_undo) (maxL := 1) (ret := (some .int)) (by decide) rfl ?_
  intro p e s m args below meth c s₁ B hml hv
  obtain ⟨rfl, hsz, hP, hK, hD0⟩ := hv
  have hx := B.exec
  have hb := B.bytes
  have hr := B.returns
  have hts := atoms_spec (ws := wsX8_undo) B.pre
  have hown : s.vm.findClass RX8 = some m.cls := findClass_of_methodNamed B.named
  have hlocks := B.notSynchronized
  subst hsz
  have hD := hD0.self (sz := s.heap.size)
  generalize hAe : va_A [(m_mo, .inr (8, [.ref m_alane, .ref m_asize, .ref m_aitem, .int m_letters, .ref m_atape, .int m_position, .int m_number, .ref m_anow, .ref m_atried, .ref m_aread, .ref m_akept, .int m_isKept, .ref m_anoticed, .ref m_aneeds, .ref m_aorder, .int m_many, .int m_one, .int m_two])), (m_anow, .inl (G 0, 55, .inl m_now))] s.heap.size = A at hD ⊢
  have hA : ∀ q : Nat, s.heap.size ≤ q → A q := fun q h => by rw [← hAe]; exact Or.inr h
  have hS : va_S A s.heap s.heap [] := va_S.rf
  have inX8 : ∀ w ∈ wsX80, w ∈ wsX8_undo := by decide +kernel
  have fl23 := hts (.fieldLink RX8 23 "NewsCowModel" "now" "[I") (by decide +kernel)
  have hl := lv_entry ([.ref m_mo] : List Value) (n := 1) (Nat.le_of_ble_eq_true rfl)
  rw [lg_entry_eq]
  generalize (lg_sl ([.ref m_mo] : List Value) ++ List.replicate (1 - (lg_sl ([.ref m_mo] : List Value)).length) Slot.unset).toArray = ls at hl ⊢
  have hl : lv_has ls 1 [(0, .ref m_mo)] := hl
  unfold wp_X8_undo at hw
  refine lv_aload_n hx hb dX8_undo_0 rfl (lv_at hl 0 rfl) ?_
  refine va_get (D := D) (ci := 8) (v := .ref m_anow) (C := RX8) (T := TX8) (N := 18) hx hb hts inX8 hown hK hP 0 rfl rfl 7 (by decide) fl23 (fun _ h9 => h9) rfl dX8_undo_1 ?_
  refine lv_bipush (v := 22) hx hb dX8_undo_4 (by decide) ?_
  refine x_iald (j := 22) hx hb hK hP 1 0 rfl rfl (by decide) (x_in (by decide)) dX8_undo_6 ?_
  refine lv_if_ne (tgt := 13) hx hb dX8_undo_7 (by decide) (fun c9 => ?_) (fun c9 => ?_)
  · replace hw := hw.1 c9
    refine lv_aload_n hx hb dX8_undo_13 rfl (lv_at hl 0 rfl) ?_
    refine va_get (D := D) (ci := 8) (v := .ref m_anow) (C := RX8) (T := TX8) (N := 18) hx hb hts inX8 hown hK hP 0 rfl rfl 7 (by decide) fl23 (fun _ h9 => h9) rfl dX8_undo_14 ?_
    refine lv_bipush (v := 22) hx hb dX8_undo_17 (by decide) ?_
    refine lv_dup2_11 hx hb dX8_undo_19 rfl rfl ?_
    refine x_iald (j := 22) hx hb hK hP 1 0 rfl rfl (by decide) (x_in (by decide)) dX8_undo_20 ?_
    refine lv_iconst (v := 1) hx hb dX8_undo_21 (by decide) ?_
    refine lv_isub hx hb dX8_undo_22 ?_
    refine x_iast (j := 22) hx hb hK hP hD hS 1 0 rfl rfl (by decide) (x_in (by decide)) dX8_undo_23 (fun H locs hP hD hS => ?_)
    replace hP : va_P D vwCl [(m_mo, .inr (8, [.ref m_alane, .ref m_asize, .ref m_aitem, .int m_letters, .ref m_atape, .int m_position, .int m_number, .ref m_anow, .ref m_atried, .ref m_aread, .ref m_akept, .int m_isKept, .ref m_anoticed, .ref m_aneeds, .ref m_aorder, .int m_many, .int m_one, .int m_two])), (m_anow, .inl (G 0, 55, .inl (upd m_now 22 ((m_now 22) - (1 : Int32)))))] H := hP
    replace hD : va_D A [(m_mo, .inr (8, [.ref m_alane, .ref m_asize, .ref m_aitem, .int m_letters, .ref m_atape, .int m_position, .int m_number, .ref m_anow, .ref m_atried, .ref m_aread, .ref m_akept, .int m_isKept, .ref m_anoticed, .ref m_aneeds, .ref m_aorder, .int m_many, .int m_one, .int m_two])), (m_anow, .inl (G 0, 55, .inl (upd m_now 22 ((m_now 22) - (1 : Int32)))))] := hD
    refine lv_aload_n hx hb dX8_undo_24 rfl (lv_at hl 0 rfl) ?_
    refine va_get (D := D) (ci := 8) (v := .ref m_anow) (C := RX8) (T := TX8) (N := 18) hx hb hts inX8 hown hK hP 0 rfl rfl 7 (by decide) fl23 (fun _ h9 => h9) rfl dX8_undo_25 ?_
    refine lv_bipush (v := 23) hx hb dX8_undo_28 (by decide) ?_
    refine lv_iconst (v := 4) hx hb dX8_undo_30 (by decide) ?_
    refine lv_aload_n hx hb dX8_undo_31 rfl (lv_at hl 0 rfl) ?_
    refine va_get (D := D) (ci := 8) (v := .ref m_anow) (C := RX8) (T := TX8) (N := 18) hx hb hts inX8 hown hK hP 0 rfl rfl 7 (by decide) fl23 (fun _ h9 => h9) rfl dX8_undo_32 ?_
    refine lv_bipush (v := 22) hx hb dX8_undo_35 (by decide) ?_
    refine x_iald (j := 22) hx hb hK hP 1 0 rfl rfl (by decide) (x_in (by decide)) dX8_undo_37 ?_
    refine lv_imul hx hb dX8_undo_38 ?_
    refine lv_iadd hx hb dX8_undo_39 ?_
    refine lv_aload_n hx hb dX8_undo_40 rfl (lv_at hl 0 rfl) ?_
    refine va_get (D := D) (ci := 8) (v := .ref m_anow) (C := RX8) (T := TX8) (N := 18) hx hb hts inX8 hown hK hP 0 rfl rfl 7 (by decide) fl23 (fun _ h9 => h9) rfl dX8_undo_41 ?_
    refine lv_iconst (v := 0) hx hb dX8_undo_44 (by decide) ?_
    refine lv_iconst (v := 4) hx hb dX8_undo_45 (by decide) ?_
    refine x_cMv (wr := [(m_mo, .inr (8, [.ref m_alane, .ref m_asize, .ref m_aitem, .int m_letters, .ref m_atape, .int m_position, .int m_number, .ref m_anow, .ref m_atried, .ref m_aread, .ref m_akept, .int m_isKept, .ref m_anoticed, .ref m_aneeds, .ref m_aorder, .int m_many, .int m_one, .int m_two]))]) (va_runS (As := [.ref m_anow, .int ((23 : Int32) + ((4 : Int32) * ((upd m_now 22 ((m_now 22) - (1 : Int32))) 22))), .ref m_anow, .int (0 : Int32), .int (4 : Int32)]) (rest := []) ⟨hx, hb, hml, hown, hts⟩ (c_X8_bringS l D G _ m_anow (upd m_now 22 ((m_now 22) - (1 : Int32))) ((23 : Int32) + ((4 : Int32) * ((upd m_now 22 ((m_now 22) - (1 : Int32))) 22))) (0 : Int32) (4 : Int32) _ hw) (va_cwS 5 hts gX8_undo_X8_bring rfl rfl rfl (by decide +kernel) ⟨(Nat.le_of_ble_eq_true rfl), (Nat.le_of_ble_eq_true rfl)⟩) (xM_ps (hP.sub [1] rfl) hK (hD.sub [1] (by decide) rfl)) rfl rfl hl.1 rfl (lv_room (Nat.le_of_ble_eq_true rfl)) dX8_undo_46 ⟨Nat.zero_le _, Nat.zero_le _⟩) hP hD hS hA [1] [0] rfl rfl (by decide) (by decide) [0, 1] (fun u => [(m_mo, .inr (8, [.ref m_alane, .ref m_asize, .ref m_aitem, .int m_letters, .ref m_atape, .int m_position, .int m_number, .ref m_anow, .ref m_atried, .ref m_aread, .ref m_akept, .int m_isKept, .ref m_anoticed, .ref m_aneeds, .ref m_aorder, .int m_many, .int m_one, .int m_two])), (m_anow, .inl (G 0, 55, .inl u))]) (by decide) (fun u => rfl) (fun u H locs hw hP hD hS => ?_)
    obtain ⟨v0_1, rfl⟩ : ∃ z, z = u := ⟨_, rfl⟩
    try dsimp only at hw
    replace hP : va_P D vwCl [(m_mo, .inr (8, [.ref m_alane, .ref m_asize, .ref m_aitem, .int m_letters, .ref m_atape, .int m_position, .int m_number, .ref m_anow, .ref m_atried, .ref m_aread, .ref m_akept, .int m_isKept, .ref m_anoticed, .ref m_aneeds, .ref m_aorder, .int m_many, .int m_one, .int m_two])), (m_anow, .inl (G 0, 55, .inl v0_1))] H := hP
    replace hD : va_D A [(m_mo, .inr (8, [.ref m_alane, .ref m_asize, .ref m_aitem, .int m_letters, .ref m_atape, .int m_position, .int m_number, .ref m_anow, .ref m_atried, .ref m_aread, .ref m_akept, .int m_isKept, .ref m_anoticed, .ref m_aneeds, .ref m_aorder, .int m_many, .int m_one, .int m_two])), (m_anow, .inl (G 0, 55, .inl v0_1))] := hD
    refine lv_aload_n hx hb dX8_undo_49 rfl (lv_at hl 0 rfl) ?_
    refine va_get (D := D) (ci := 8) (v := .ref m_anow) (C := RX8) (T := TX8) (N := 18) hx hb hts inX8 hown hK hP 0 rfl rfl 7 (by decide) fl23 (fun _ h9 => h9) rfl dX8_undo_50 ?_
    refine lv_bipush (v := 22) hx hb dX8_undo_53 (by decide) ?_
    refine x_iald (j := 22) hx hb hK hP 1 0 rfl rfl (by decide) (x_in (by decide)) dX8_undo_55 ?_
    exact W.iret hx hb hr (x_mi (u := v0_1) hP hK hD hS hw) hS.2.2 dX8_undo_56
  · replace hw := hw.2 c9
    refine lv_bipush (v := -4) hx hb dX8_undo_10 (by decide) ?_
    exact W.iret hx hb hr (x_mi (u := m_now) hP hK hD hS hw) hS.2.2 dX8_undo_12
set_option maxHeartbeats 4000000 in
set_option maxRecDepth 100000 in
theorem c_X8_seed (l : Launch) (D : va_G) (G : Nat → ClassId) (sz : Nat) (m_mo : Nat) (m_alane : Nat) (m_asize : Nat) (m_aitem : Nat) (m_atape : Nat) (m_anow : Nat) (m_atried : Nat) (m_aread : Nat) (m_akept : Nat) (m_anoticed : Nat) (m_aneeds : Nat) (m_aorder : Nat) (m_letters : Int32) (m_position : Int32) (m_number : Int32) (m_isKept : Int32) (m_many : Int32) (m_one : Int32) (m_two : Int32) (m_now : Nat → Int32) (x1 : Int32) (post : Int32 → (Nat → Int32) → Prop) (hw : wp_X8_seed m_now x1 post) : Met l yX8_seed wsX8_seed ({ frames := 0, cells := 0, slots := 0, locals := 0 } : Room) (va_Pc [.ref m_mo, .int x1] (xM D G sz [(m_mo, .inr (8, [.ref m_alane, .ref m_asize, .ref m_aitem, .int m_letters, .ref m_atape, .int m_position, .int m_number, .ref m_anow, .ref m_atried, .ref m_aread, .ref m_akept, .int m_isKept, .ref m_anoticed, .ref m_aneeds, .ref m_aorder, .int m_many, .int m_one, .int m_two])), (m_anow, .inl (G 0, 55, .inl m_now))])) (va_Qi (fun r (u : (Nat → Int32)) => post r u) (fun u t => xE D G (va_A [(m_mo, .inr (8, [.ref m_alane, .ref m_asize, .ref m_aitem, .int m_letters, .ref m_atape, .int m_position, .int m_number, .ref m_anow, .ref m_atried, .ref m_aread, .ref m_akept, .int m_isKept, .ref m_anoticed, .ref m_aneeds, .ref m_aorder, .int m_many, .int m_one, .int m_two])), (m_anow, .inl (G 0, 55, .inl m_now))] sz) [(m_mo, .inr (8, [.ref m_alane, .ref m_asize, .ref m_aitem, .int m_letters, .ref m_atape, .int m_position, .int m_number, .ref m_anow, .ref m_atried, .ref m_aread, .ref m_akept, .int m_isKept, .ref m_anoticed, .ref m_aneeds, .ref m_aorder, .int m_many, .int m_one, .int m_two])), (m_anow, .inl (G 0, 55, .inl u))] t) (va_A [(m_mo, .inr (8, [.ref m_alane, .ref m_asize, .ref m_aitem, .int m_letters, .ref m_atape, .int m_position, .int m_number, .ref m_anow, .ref m_atried, .ref m_aread, .ref m_akept, .int m_isKept, .ref m_anoticed, .ref m_aneeds, .ref m_aorder, .int m_many, .int m_one, .int m_two])), (m_anow, .inl (G 0, 55, .inl m_now))] sz)) 0 0 (va_A [(m_mo, .inr (8, [.ref m_alane, .ref m_asize, .ref m_aitem, .int m_letters, .ref m_atape, .int m_position, .int m_number, .ref m_anow, .ref m_atried, .ref m_aread, .ref m_akept, .int m_isKept, .ref m_anoticed, .ref m_aneeds, .ref m_aorder, .int m_many, .int m_one, .int m_two])), (m_anow, .inl (G 0, 55, .inl m_now))] sz) := by
  refine Met.ofW (cc := cX8_seed) (maxL := 3) (ret := (some .int)) (by decide) rfl ?_
  intro p e s m args below meth c s₁ B hml hv
  obtain ⟨rfl, hsz, hP, hK, hD0⟩ := hv
  have hx := B.exec
  have hb := B.bytes
  have hr := B.returns
  have hts := atoms_spec (ws := wsX8_seed) B.pre
  have hown : s.vm.findClass RX8 = some m.cls := findClass_of_methodNamed B.named
  have hlocks := B.notSynchronized
  subst hsz
  have hD := hD0.self (sz := s.heap.size)
  generalize hAe : va_A [(m_mo, .inr (8, [.ref m_alane, .ref m_asize, .ref m_aitem, .int m_letters, .ref m_atape, .int m_position, .int m_number, .ref m_anow, .ref m_atried, .ref m_aread, .ref m_akept, .int m_isKept, .ref m_anoticed, .ref m_aneeds, .ref m_aorder, .int m_many, .int m_one, .int m_two])), (m_anow, .inl (G 0, 55, .inl m_now))] s.heap.size = A at hD ⊢
  have hA : ∀ q : Nat, s.heap.size ≤ q → A q := fun q h => by rw [← hAe]; exact Or.inr h
  have hS : va_S A s.heap s.heap [] := va_S.rf
  have inX8 : ∀ w ∈ wsX80, w ∈ wsX8_seed := by decide +kernel
  have fl23 := hts (.fieldLink RX8 23 "NewsCowModel" "now" "[I") (by decide +kernel)
  have hl := lv_entry ([.ref m_mo, .int x1] : List Value) (n := 3) (Nat.le_of_ble_eq_true rfl)
  rw [lg_entry_eq]
  generalize (lg_sl ([.ref m_mo, .int x1] : List Value) ++ List.replicate (3 - (lg_sl ([.ref m_mo, .int x1] : List Value)).length) Slot.unset).toArray = ls at hl ⊢
  have hl : lv_has ls 3 [(0, .ref m_mo), (1, .int x1)] := hl
  unfold wp_X8_seed at hw
  refine lv_iload_n hx hb dX8_seed_0 rfl (lv_at hl 1 rfl) ?_
  refine lv_if_ge (tgt := 6) hx hb dX8_seed_1 (by decide) (fun c9 => ?_) (fun c9 => ?_)
  · replace hw := hw.1 c9
    refine lv_aload_n hx hb dX8_seed_6 rfl (lv_at hl 0 rfl) ?_
    refine va_get (D := D) (ci := 8) (v := .ref m_anow) (C := RX8) (T := TX8) (N := 18) hx hb hts inX8 hown hK hP 0 rfl rfl 7 (by decide) fl23 (fun _ h9 => h9) rfl dX8_seed_7 ?_
    refine lv_iconst (v := 1) hx hb dX8_seed_10 (by decide) ?_
    refine x_iald (j := 1) hx hb hK hP 1 0 rfl rfl (by decide) (x_in (by decide)) dX8_seed_11 ?_
    refine lv_istore_n (lv' := [(2, .int (m_now 1)), (0, .ref m_mo), (1, .int x1)]) hx hb dX8_seed_12 rfl hl (by decide) rfl (fun ls hl => ?_)
    refine lv_aload_n hx hb dX8_seed_13 rfl (lv_at hl 1 rfl) ?_
    refine va_get (D := D) (ci := 8) (v := .ref m_anow) (C := RX8) (T := TX8) (N := 18) hx hb hts inX8 hown hK hP 0 rfl rfl 7 (by decide) fl23 (fun _ h9 => h9) rfl dX8_seed_14 ?_
    refine lv_iconst (v := 1) hx hb dX8_seed_17 (by decide) ?_
    refine lv_iload_n hx hb dX8_seed_18 rfl (lv_at hl 2 rfl) ?_
    refine x_iast (j := 1) hx hb hK hP hD hS 1 0 rfl rfl (by decide) (x_in (by decide)) dX8_seed_19 (fun H locs hP hD hS => ?_)
    replace hP : va_P D vwCl [(m_mo, .inr (8, [.ref m_alane, .ref m_asize, .ref m_aitem, .int m_letters, .ref m_atape, .int m_position, .int m_number, .ref m_anow, .ref m_atried, .ref m_aread, .ref m_akept, .int m_isKept, .ref m_anoticed, .ref m_aneeds, .ref m_aorder, .int m_many, .int m_one, .int m_two])), (m_anow, .inl (G 0, 55, .inl (upd m_now 1 x1)))] H := hP
    replace hD : va_D A [(m_mo, .inr (8, [.ref m_alane, .ref m_asize, .ref m_aitem, .int m_letters, .ref m_atape, .int m_position, .int m_number, .ref m_anow, .ref m_atried, .ref m_aread, .ref m_akept, .int m_isKept, .ref m_anoticed, .ref m_aneeds, .ref m_aorder, .int m_many, .int m_one, .int m_two])), (m_anow, .inl (G 0, 55, .inl (upd m_now 1 x1)))] := hD
    refine lv_iload_n hx hb dX8_seed_20 rfl (lv_at hl 0 rfl) ?_
    exact W.iret hx hb hr (x_mi (u := (upd m_now 1 x1)) hP hK hD hS hw) hS.2.2 dX8_seed_21
  · replace hw := hw.2 c9
    refine lv_iconst (v := -1) hx hb dX8_seed_4 (by decide) ?_
    exact W.iret hx hb hr (x_mi (u := m_now) hP hK hD hS hw) hS.2.2 dX8_seed_5
set_option maxHeartbeats 4000000 in
set_option maxRecDepth 100000 in
theorem c_X8_tells (l : Launch) (D : va_G) (G : Nat → ClassId) (m_mo : Nat) (m_alane : Nat) (m_asize : Nat) (m_aitem : Nat) (m_atape : Nat) (m_anow : Nat) (m_atried : Nat) (m_aread : Nat) (m_akept : Nat) (m_anoticed : Nat) (m_aneeds : Nat) (m_aorder : Nat) (m_letters : Int32) (m_position : Int32) (m_number : Int32) (m_isKept : Int32) (m_many : Int32) (m_one : Int32) (m_two : Int32) (m_now : Nat → Int32) (x1 : Int32) (x2 : Int32) (post : Int32 → Prop) (hw : wp_X8_tells m_now x1 x2 post) : Met l yX8_tells wsX8_tells ({ frames := 4, cells := 0, slots := 0, locals := 95 } : Room) (va_Pc [.ref m_mo, .int x1, .int x2] (xR D G [(m_mo, .inr (8, [.ref m_alane, .ref m_asize, .ref m_aitem, .int m_letters, .ref m_atape, .int m_position, .int m_number, .ref m_anow, .ref m_atried, .ref m_aread, .ref m_akept, .int m_isKept, .ref m_anoticed, .ref m_aneeds, .ref m_aorder, .int m_many, .int m_one, .int m_two])), (m_anow, .inl (G 0, 55, .inl m_now))])) (vp_Si post) 0 0 (fun _ => False) := by
  refine Met.ofW (cc := cX8_tells) (maxL := 3) (ret := (some .int)) (by decide) rfl ?_
  intro p e s m args below meth c s₁ B hml hv
  obtain ⟨rfl, hP, hK⟩ := hv
  have hx := B.exec
  have hb := B.bytes
  have hr := B.returns
  have hts := atoms_spec (ws := wsX8_tells) B.pre
  have hown : s.vm.findClass RX8 = some m.cls := findClass_of_methodNamed B.named
  have hlocks := B.notSynchronized
  have inX8 : ∀ w ∈ wsX80, w ∈ wsX8_tells := by decide +kernel
  have fl23 := hts (.fieldLink RX8 23 "NewsCowModel" "now" "[I") (by decide +kernel)
  have hl := lv_entry ([.ref m_mo, .int x1, .int x2] : List Value) (n := 3) (Nat.le_of_ble_eq_true rfl)
  rw [lg_entry_eq]
  generalize (lg_sl ([.ref m_mo, .int x1, .int x2] : List Value) ++ List.replicate (3 - (lg_sl ([.ref m_mo, .int x1, .int x2] : List Value)).length) Slot.unset).toArray = ls at hl ⊢
  have hl : lv_has ls 3 [(0, .ref m_mo), (1, .int x1), (2, .int x2)] := hl
  unfold wp_X8_tells at hw
  refine lv_aload_n hx hb dX8_tells_0 rfl (lv_at hl 0 rfl) ?_
  refine lv_iload_n hx hb dX8_tells_1 rfl (lv_at hl 1 rfl) ?_
  refine vp_callSi (W.runV (As := [.int x1]) (rest := []) ⟨hx, hb, hml, hown, hts⟩ (c_X8_isTaster l D G m_mo m_alane m_asize m_aitem m_atape m_anow m_atried m_aread m_akept m_anoticed m_aneeds m_aorder m_letters m_position m_number m_isKept m_many m_one m_two m_now x1 _ hw) (cwV 1 hts gX8_tells_X8_isTaster rfl rfl rfl (by decide +kernel) ⟨(Nat.le_of_ble_eq_true rfl), (Nat.le_of_ble_eq_true rfl)⟩) (xR_pv (hP.sub [0, 1] rfl) hK (va_recv hK hP (ci := 8) (q0 := 0) rfl rfl)) rfl rfl hl.1 rfl (lv_room (Nat.le_of_ble_eq_true rfl)) dX8_tells_2 ⟨Nat.zero_le _, Nat.zero_le _⟩) (fun r1 hw => ?_)
  refine lv_if_eq (tgt := 16) hx hb dX8_tells_5 (by decide) (fun c9 => ?_) (fun c9 => ?_)
  · replace hw := hw.1 c9
    refine lv_iconst (v := -1) hx hb dX8_tells_16 (by decide) ?_
    exact W.iret hx hb hr (fun t ht _ => ⟨_, rfl, hw, ht⟩) (fun _ h => absurd h List.not_mem_nil) dX8_tells_17
  · replace hw := hw.2 c9
    refine lv_aload_n hx hb dX8_tells_8 rfl (lv_at hl 0 rfl) ?_
    refine lv_iload_n hx hb dX8_tells_9 rfl (lv_at hl 2 rfl) ?_
    refine vp_callSi (W.runV (As := [.int x2]) (rest := []) ⟨hx, hb, hml, hown, hts⟩ (c_X8_isMix l D G m_mo m_alane m_asize m_aitem m_atape m_anow m_atried m_aread m_akept m_anoticed m_aneeds m_aorder m_letters m_position m_number m_isKept m_many m_one m_two m_now x2 _ hw) (cwV 1 hts gX8_tells_X8_isMix rfl rfl rfl (by decide +kernel) ⟨(Nat.le_of_ble_eq_true rfl), (Nat.le_of_ble_eq_true rfl)⟩) (xR_pv (hP.sub [0, 1] rfl) hK (va_recv hK hP (ci := 8) (q0 := 0) rfl rfl)) rfl rfl hl.1 rfl (lv_room (Nat.le_of_ble_eq_true rfl)) dX8_tells_10 ⟨Nat.zero_le _, Nat.zero_le _⟩) (fun r2 hw => ?_)
    refine lv_if_ne (tgt := 18) hx hb dX8_tells_13 (by decide) (fun c9 => ?_) (fun c9 => ?_)
    · replace hw := hw.1 c9
      refine lv_aload_n hx hb dX8_tells_18 rfl (lv_at hl 0 rfl) ?_
      refine va_get (D := D) (ci := 8) (v := .ref m_anow) (C := RX8) (T := TX8) (N := 18) hx hb hts inX8 hown hK hP 0 rfl rfl 7 (by decide) fl23 (fun _ h9 => h9) rfl dX8_tells_19 ?_
      refine lv_iload_n hx hb dX8_tells_22 rfl (lv_at hl 1 rfl) ?_
      refine lv_iload_n hx hb dX8_tells_23 rfl (lv_at hl 2 rfl) ?_
      refine vp_callSi (W.runS (As := [.ref m_anow, .int x1, .int x2]) (rest := []) ⟨hx, hb, hml, hown, hts⟩ (c_X8_noticedBy l D G m_anow m_now x1 x2 _ hw) (va_cwS 3 hts gX8_tells_X8_noticedBy rfl rfl rfl (by decide +kernel) ⟨(Nat.le_of_ble_eq_true rfl), (Nat.le_of_ble_eq_true rfl)⟩) (xR_ps (hP.sub [1] rfl) hK) rfl rfl hl.1 rfl (lv_room (Nat.le_of_ble_eq_true rfl)) dX8_tells_24 ⟨Nat.zero_le _, Nat.zero_le _⟩) (fun r3 hw => ?_)
      refine lv_aload_n hx hb dX8_tells_27 rfl (lv_at hl 0 rfl) ?_
      refine va_get (D := D) (ci := 8) (v := .ref m_anow) (C := RX8) (T := TX8) (N := 18) hx hb hts inX8 hown hK hP 0 rfl rfl 7 (by decide) fl23 (fun _ h9 => h9) rfl dX8_tells_28 ?_
      refine lv_iconst (v := 2) hx hb dX8_tells_31 (by decide) ?_
      refine x_iald (j := 2) hx hb hK hP 1 0 rfl rfl (by decide) (x_in (by decide)) dX8_tells_32 ?_
      refine lv_iand hx hb dX8_tells_33 ?_
      exact W.iret hx hb hr (fun t ht _ => ⟨_, rfl, hw, ht⟩) (fun _ h => absurd h List.not_mem_nil) dX8_tells_34
    · replace hw := hw.2 c9
      refine lv_iconst (v := -1) hx hb dX8_tells_16 (by decide) ?_
      exact W.iret hx hb hr (fun t ht _ => ⟨_, rfl, hw, ht⟩) (fun _ h => absurd h List.not_mem_nil) dX8_tells_17
set_option maxHeartbeats 4000000 in
set_option maxRecDepth 100000 in
theorem c_X8_layNoticed (l : Launch) (D : va_G) (G : Nat → ClassId) (sz : Nat) (m_mo : Nat) (m_alane : Nat) (m_asize : Nat) (m_aitem : Nat) (m_atape : Nat) (m_anow : Nat) (m_atried : Nat) (m_aread : Nat) (m_akept : Nat) (m_anoticed : Nat) (m_aneeds : Nat) (m_aorder : Nat) (m_letters : Int32) (m_position : Int32) (m_number : Int32) (m_isKept : Int32) (m_many : Int32) (m_one : Int32) (m_two : Int32) (m_now : Nat → Int32) (m_noticed : Nat → Int32) (x1 : Int32) (post : (Nat → Int32) → Prop) (hw : wp_X8_layNoticed m_now m_noticed x1 post) : Met l yX8_layNoticed wsX8_layNoticed ({ frames := 4, cells := 0, slots := 0, locals := 95 } : Room) (va_Pc [.ref m_mo, .int x1] (xM D G sz [(m_mo, .inr (8, [.ref m_alane, .ref m_asize, .ref m_aitem, .int m_letters, .ref m_atape, .int m_position, .int m_number, .ref m_anow, .ref m_atried, .ref m_aread, .ref m_akept, .int m_isKept, .ref m_anoticed, .ref m_aneeds, .ref m_aorder, .int m_many, .int m_one, .int m_two])), (m_anow, .inl (G 0, 55, .inl m_now)), (m_anoticed, .inl (G 0, 256, .inl m_noticed))])) (va_Qv (fun (u : (Nat → Int32)) => post u) (fun u t => xE D G (va_A [(m_mo, .inr (8, [.ref m_alane, .ref m_asize, .ref m_aitem, .int m_letters, .ref m_atape, .int m_position, .int m_number, .ref m_anow, .ref m_atried, .ref m_aread, .ref m_akept, .int m_isKept, .ref m_anoticed, .ref m_aneeds, .ref m_aorder, .int m_many, .int m_one, .int m_two])), (m_anow, .inl (G 0, 55, .inl m_now)), (m_anoticed, .inl (G 0, 256, .inl m_noticed))] sz) [(m_mo, .inr (8, [.ref m_alane, .ref m_asize, .ref m_aitem, .int m_letters, .ref m_atape, .int m_position, .int m_number, .ref m_anow, .ref m_atried, .ref m_aread, .ref m_akept, .int m_isKept, .ref m_anoticed, .ref m_aneeds, .ref m_aorder, .int m_many, .int m_one, .int m_two])), (m_anow, .inl (G 0, 55, .inl m_now)), (m_anoticed, .inl (G 0, 256, .inl u))] t) (va_A [(m_mo, .inr (8, [.ref m_alane, .ref m_asize, .ref m_aitem, .int m_letters, .ref m_atape, .int m_position, .int m_number, .ref m_anow, .ref m_atried, .ref m_aread, .ref m_akept, .int m_isKept, .ref m_anoticed, .ref m_aneeds, .ref m_aorder, .int m_many, .int m_one, .int m_two])), (m_anow, .inl (G 0, 55, .inl m_now)), (m_anoticed, .inl (G 0, 256, .inl m_noticed))] sz)) 0 0 (va_A [(m_mo, .inr (8, [.ref m_alane, .ref m_asize, .ref m_aitem, .int m_letters, .ref m_atape, .int m_position, .int m_number, .ref m_anow, .ref m_atried, .ref m_aread, .ref m_akept, .int m_isKept, .ref m_anoticed, .ref m_aneeds, .ref m_aorder, .int m_many, .int m_one, .int m_two])), (m_anow, .inl (G 0, 55, .inl m_now)), (m_anoticed, .inl (G 0, 256, .inl m_noticed))] sz) := by
  refine Met.ofW (cc := cX8_layNoticed) (maxL := 3) (ret := none) (by decide) rfl ?_
  intro p e s m args below meth c s₁ B hml hv
  obtain ⟨rfl, hsz, hP, hK, hD0⟩ := hv
  have hx := B.exec
  have hb := B.bytes
  have hr := B.returns
  have hts := atoms_spec (ws := wsX8_layNoticed) B.pre
  have hown : s.vm.findClass RX8 = some m.cls := findClass_of_methodNamed B.named
  have hlocks := B.notSynchronized
  subst hsz
  have hD := hD0.self (sz := s.heap.size)
  generalize hAe : va_A [(m_mo, .inr (8, [.ref m_alane, .ref m_asize, .ref m_aitem, .int m_letters, .ref m_atape, .int m_position, .int m_number, .ref m_anow, .ref m_atried, .ref m_aread, .ref m_akept, .int m_isKept, .ref m_anoticed, .ref m_aneeds, .ref m_aorder, .int m_many, .int m_one, .int m_two])), (m_anow, .inl (G 0, 55, .inl m_now)), (m_anoticed, .inl (G 0, 256, .inl m_noticed))] s.heap.size = A at hD ⊢
  have hA : ∀ q : Nat, s.heap.size ≤ q → A q := fun q h => by rw [← hAe]; exact Or.inr h
  have hS : va_S A s.heap s.heap [] := va_S.rf
  have inX8 : ∀ w ∈ wsX80, w ∈ wsX8_layNoticed := by decide +kernel
  have fl23 := hts (.fieldLink RX8 23 "NewsCowModel" "now" "[I") (by decide +kernel)
  have fl35 := hts (.fieldLink RX8 35 "NewsCowModel" "noticed" "[I") (by decide +kernel)
  have hl := lv_entry ([.ref m_mo, .int x1] : List Value) (n := 3) (Nat.le_of_ble_eq_true rfl)
  rw [lg_entry_eq]
  generalize (lg_sl ([.ref m_mo, .int x1] : List Value) ++ List.replicate (3 - (lg_sl ([.ref m_mo, .int x1] : List Value)).length) Slot.unset).toArray = ls at hl ⊢
  have hl : lv_has ls 3 [(0, .ref m_mo), (1, .int x1)] := hl
  unfold wp_X8_layNoticed at hw
  have L2 : ∀ (f2 : Nat) (x2 : Int32) (m_noticed : Nat → Int32) (H : Heap) (locs : List Loc) (ls : Array Slot), wp_X8_layNoticed_L2 m_now x1 post f2 m_noticed x2 → va_P D vwCl [(m_mo, .inr (8, [.ref m_alane, .ref m_asize, .ref m_aitem, .int m_letters, .ref m_atape, .int m_position, .int m_number, .ref m_anow, .ref m_atried, .ref m_aread, .ref m_akept, .int m_isKept, .ref m_anoticed, .ref m_aneeds, .ref m_aorder, .int m_many, .int m_one, .int m_two])), (m_anow, .inl (G 0, 55, .inl m_now)), (m_anoticed, .inl (G 0, 256, .inl m_noticed))] H → va_D A [(m_mo, .inr (8, [.ref m_alane, .ref m_asize, .ref m_aitem, .int m_letters, .ref m_atape, .int m_position, .int m_number, .ref m_anow, .ref m_atried, .ref m_aread, .ref m_akept, .int m_isKept, .ref m_anoticed, .ref m_aneeds, .ref m_aorder, .int m_many, .int m_one, .int m_two])), (m_anow, .inl (G 0, 55, .inl m_now)), (m_anoticed, .inl (G 0, 256, .inl m_noticed))] → va_S A s.heap H locs → lv_has ls 3 [(0, .ref m_mo), (1, .int x1), (2, .int x2)] → W p l e (headSpec wsX8_layNoticed ({ frames := 4, cells := 0, slots := 0, locals := 95 } : Room)).room s m ([.ref m_mo, .int x1] : List Value).toArray below meth c H locs 0 0 (MQ below (va_Qv (fun (u : (Nat → Int32)) => post u) (fun u t => xE D G A [(m_mo, .inr (8, [.ref m_alane, .ref m_asize, .ref m_aitem, .int m_letters, .ref m_atape, .int m_position, .int m_number, .ref m_anow, .ref m_atried, .ref m_aread, .ref m_akept, .int m_isKept, .ref m_anoticed, .ref m_aneeds, .ref m_aorder, .int m_many, .int m_one, .int m_two])), (m_anow, .inl (G 0, 55, .inl m_now)), (m_anoticed, .inl (G 0, 256, .inl u))] t) A) ([.ref m_mo, .int x1] : List Value).toArray s 0 0 A) (F0 m 2 ls []) := by
    intro f2
    induction f2 with
    | zero => intro x2 m_noticed H locs ls hw hP hD hS hl; exact (hw : False).elim
    | succ f2 ih2 =>
      intro x2 m_noticed H locs ls hw hP hD hS hl
      unfold wp_X8_layNoticed_L2 at hw
      refine lv_iload_n hx hb dX8_layNoticed_2 rfl (lv_at hl 2 rfl) ?_
      refine lv_aload_n hx hb dX8_layNoticed_3 rfl (lv_at hl 0 rfl) ?_
      refine va_get (D := D) (ci := 8) (v := .ref m_anow) (C := RX8) (T := TX8) (N := 18) hx hb hts inX8 hown hK hP 0 rfl rfl 7 (by decide) fl23 (fun _ h9 => h9) rfl dX8_layNoticed_4 ?_
      refine vp_callSi (W.runS (As := [.ref m_anow]) (rest := [.int x2]) ⟨hx, hb, hml, hown, hts⟩ (c_X8_allOf l D G m_anow m_now _ hw) (va_cwS 1 hts gX8_layNoticed_X8_allOf rfl rfl rfl (by decide +kernel) ⟨(Nat.le_of_ble_eq_true rfl), (Nat.le_of_ble_eq_true rfl)⟩) (xR_ps (hP.sub [1] rfl) hK) rfl rfl hl.1 rfl (lv_room (Nat.le_of_ble_eq_true rfl)) dX8_layNoticed_7 ⟨Nat.zero_le _, Nat.zero_le _⟩) (fun r1 hw => ?_)
      refine lv_icmp_gt (tgt := 34) hx hb dX8_layNoticed_10 (by decide) (fun c9 => ?_) (fun c9 => ?_)
      · replace hw := hw.1 c9
        exact W.vret hx hb hr (x_mv (u := m_noticed) hP hK hD hS hw) hS.2.2 dX8_layNoticed_34
      · replace hw := hw.2 c9
        refine lv_aload_n hx hb dX8_layNoticed_13 rfl (lv_at hl 0 rfl) ?_
        refine va_get (D := D) (ci := 8) (v := .ref m_anoticed) (C := RX8) (T := TX8) (N := 18) hx hb hts inX8 hown hK hP 0 rfl rfl 12 (by decide) fl35 (fun _ h9 => h9) rfl dX8_layNoticed_14 ?_
        refine lv_iload_n hx hb dX8_layNoticed_17 rfl (lv_at hl 2 rfl) ?_
        refine lv_aload_n hx hb dX8_layNoticed_18 rfl (lv_at hl 0 rfl) ?_
        refine va_get (D := D) (ci := 8) (v := .ref m_anow) (C := RX8) (T := TX8) (N := 18) hx hb hts inX8 hown hK hP 0 rfl rfl 7 (by decide) fl23 (fun _ h9 => h9) rfl dX8_layNoticed_19 ?_
        refine lv_iload_n hx hb dX8_layNoticed_22 rfl (lv_at hl 1 rfl) ?_
        refine lv_iload_n hx hb dX8_layNoticed_23 rfl (lv_at hl 2 rfl) ?_
        refine vp_callSi (W.runS (As := [.ref m_anow, .int x1, .int x2]) (rest := [.int x2, .ref m_anoticed]) ⟨hx, hb, hml, hown, hts⟩ (c_X8_noticedBy l D G m_anow m_now x1 x2 _ hw) (va_cwS 3 hts gX8_layNoticed_X8_noticedBy rfl rfl rfl (by decide +kernel) ⟨(Nat.le_of_ble_eq_true rfl), (Nat.le_of_ble_eq_true rfl)⟩) (xR_ps (hP.sub [1] rfl) hK) rfl rfl hl.1 rfl (lv_room (Nat.le_of_ble_eq_true rfl)) dX8_layNoticed_24 ⟨Nat.zero_le _, Nat.zero_le _⟩) (fun r2 hw => ?_)
        refine x_iast (j := x2.toNatClampNeg) hx hb hK hP hD hS 2 0 rfl rfl rfl hw.1 dX8_layNoticed_27 (fun H locs hP hD hS => ?_)
        replace hw := hw.2
        replace hP : va_P D vwCl [(m_mo, .inr (8, [.ref m_alane, .ref m_asize, .ref m_aitem, .int m_letters, .ref m_atape, .int m_position, .int m_number, .ref m_anow, .ref m_atried, .ref m_aread, .ref m_akept, .int m_isKept, .ref m_anoticed, .ref m_aneeds, .ref m_aorder, .int m_many, .int m_one, .int m_two])), (m_anow, .inl (G 0, 55, .inl m_now)), (m_anoticed, .inl (G 0, 256, .inl (upd m_noticed x2.toNatClampNeg r2)))] H := hP
        replace hD : va_D A [(m_mo, .inr (8, [.ref m_alane, .ref m_asize, .ref m_aitem, .int m_letters, .ref m_atape, .int m_position, .int m_number, .ref m_anow, .ref m_atried, .ref m_aread, .ref m_akept, .int m_isKept, .ref m_anoticed, .ref m_aneeds, .ref m_aorder, .int m_many, .int m_one, .int m_two])), (m_anow, .inl (G 0, 55, .inl m_now)), (m_anoticed, .inl (G 0, 256, .inl (upd m_noticed x2.toNatClampNeg r2)))] := hD
        refine lv_iinc (v := (x2 + 1)) (lv' := [(2, .int (x2 + 1)), (0, .ref m_mo), (1, .int x1)]) hx hb dX8_layNoticed_28 hl (k := 2) rfl (by first | rfl | decide) (by decide) rfl (fun ls hl => ?_)
        refine lv_goto (tgt := 2) hx hb dX8_layNoticed_31 (by decide) ?_
        exact ih2 (x2 + 1) (upd m_noticed x2.toNatClampNeg r2) _ _ _ hw hP hD hS (lv_sub hl [1, 2, 0] rfl)
  refine lv_iconst (v := 1) hx hb dX8_layNoticed_0 (by decide) ?_
  refine lv_istore_n (lv' := [(2, .int (1 : Int32)), (0, .ref m_mo), (1, .int x1)]) hx hb dX8_layNoticed_1 rfl hl (by decide) rfl (fun ls hl => ?_)
  obtain ⟨n, hw⟩ := hw
  exact L2 n (1 : Int32) m_noticed _ _ _ hw hP hD hS (lv_sub hl [1, 2, 0] rfl)
set_option maxHeartbeats 4000000 in
set_option maxRecDepth 100000 in
theorem c_X8_needBy (l : Launch) (D : va_G) (G : Nat → ClassId) (m_mo : Nat) (m_alane : Nat) (m_asize : Nat) (m_aitem : Nat) (m_atape : Nat) (m_anow : Nat) (m_atried : Nat) (m_aread : Nat) (m_akept : Nat) (m_anoticed : Nat) (m_aneeds : Nat) (m_aorder : Nat) (m_letters : Int32) (m_position : Int32) (m_number : Int32) (m_isKept : Int32) (m_many : Int32) (m_one : Int32) (m_two : Int32) (m_noticed : Nat → Int32) (m_needs : Nat → Int32) (x1 : Int32) (x2 : Int32) (post : Int32 → Prop) (hw : wp_X8_needBy m_noticed m_needs x1 x2 post) : Met l yX8_needBy wsX8_needBy ({ frames := 0, cells := 0, slots := 0, locals := 0 } : Room) (va_Pc [.ref m_mo, .int x1, .int x2] (xR D G [(m_mo, .inr (8, [.ref m_alane, .ref m_asize, .ref m_aitem, .int m_letters, .ref m_atape, .int m_position, .int m_number, .ref m_anow, .ref m_atried, .ref m_aread, .ref m_akept, .int m_isKept, .ref m_anoticed, .ref m_aneeds, .ref m_aorder, .int m_many, .int m_one, .int m_two])), (m_anoticed, .inl (G 0, 256, .inl m_noticed)), (m_aneeds, .inl (G 0, 256, .inl m_needs))])) (vp_Si post) 0 0 (fun _ => False) := by
  refine Met.ofW (cc := cX8_needBy) (maxL := 5) (ret := (some .int)) (by decide) rfl ?_
  intro p e s m args below meth c s₁ B hml hv
  obtain ⟨rfl, hP, hK⟩ := hv
  have hx := B.exec
  have hb := B.bytes
  have hr := B.returns
  have hts := atoms_spec (ws := wsX8_needBy) B.pre
  have hown : s.vm.findClass RX8 = some m.cls := findClass_of_methodNamed B.named
  have hlocks := B.notSynchronized
  have inX8 : ∀ w ∈ wsX80, w ∈ wsX8_needBy := by decide +kernel
  have fl35 := hts (.fieldLink RX8 35 "NewsCowModel" "noticed" "[I") (by decide +kernel)
  have fl38 := hts (.fieldLink RX8 38 "NewsCowModel" "needs" "[I") (by decide +kernel)
  have hl := lv_entry ([.ref m_mo, .int x1, .int x2] : List Value) (n := 5) (Nat.le_of_ble_eq_true rfl)
  rw [lg_entry_eq]
  generalize (lg_sl ([.ref m_mo, .int x1, .int x2] : List Value) ++ List.replicate (5 - (lg_sl ([.ref m_mo, .int x1, .int x2] : List Value)).length) Slot.unset).toArray = ls at hl ⊢
  have hl : lv_has ls 5 [(0, .ref m_mo), (1, .int x1), (2, .int x2)] := hl
  unfold wp_X8_needBy at hw
  refine lv_iload_n hx hb dX8_needBy_0 rfl (lv_at hl 1 rfl) ?_
  refine lv_aload_n hx hb dX8_needBy_1 rfl (lv_at hl 0 rfl) ?_
  refine va_get (D := D) (ci := 8) (v := .ref m_anoticed) (C := RX8) (T := TX8) (N := 18) hx hb hts inX8 hown hK hP 0 rfl rfl 12 (by decide) fl35 (fun _ h9 => h9) rfl dX8_needBy_2 ?_
  refine lv_iload_n hx hb dX8_needBy_5 rfl (lv_at hl 2 rfl) ?_
  refine x_iald (j := x2.toNatClampNeg) hx hb hK hP 1 0 rfl rfl rfl hw.1 dX8_needBy_6 ?_
  replace hw := hw.2
  refine lv_iand hx hb dX8_needBy_7 ?_
  refine lv_istore_n (lv' := [(3, .int (x1 &&& (m_noticed x2.toNatClampNeg))), (0, .ref m_mo), (1, .int x1), (2, .int x2)]) hx hb dX8_needBy_8 rfl hl (by decide) rfl (fun ls hl => ?_)
  refine lv_iload_n hx hb dX8_needBy_9 rfl (lv_at hl 2 rfl) ?_
  refine lv_aload_n hx hb dX8_needBy_10 rfl (lv_at hl 1 rfl) ?_
  refine va_get (D := D) (ci := 8) (v := .ref m_anoticed) (C := RX8) (T := TX8) (N := 18) hx hb hts inX8 hown hK hP 0 rfl rfl 12 (by decide) fl35 (fun _ h9 => h9) rfl dX8_needBy_11 ?_
  refine lv_iload_n hx hb dX8_needBy_14 rfl (lv_at hl 3 rfl) ?_
  refine x_iald (j := x2.toNatClampNeg) hx hb hK hP 1 0 rfl rfl rfl hw.1 dX8_needBy_15 ?_
  replace hw := hw.2
  refine lv_iconst (v := -1) hx hb dX8_needBy_16 (by decide) ?_
  refine lv_ixor hx hb dX8_needBy_17 ?_
  refine lv_iand hx hb dX8_needBy_18 ?_
  refine lv_istore (lv' := [(4, .int (x1 &&& ((m_noticed x2.toNatClampNeg) ^^^ (-1 : Int32)))), (3, .int (x1 &&& (m_noticed x2.toNatClampNeg))), (0, .ref m_mo), (1, .int x1), (2, .int x2)]) hx hb dX8_needBy_19 hl (by decide) rfl (fun ls hl => ?_)
  refine lv_iload_n hx hb dX8_needBy_21 rfl (lv_at hl 1 rfl) ?_
  refine lv_if_eq (tgt := 30) hx hb dX8_needBy_22 (by decide) (fun c9 => ?_) (fun c9 => ?_)
  · replace hw := hw.1 c9
    refine lv_bipush (v := 99) hx hb dX8_needBy_30 (by decide) ?_
    exact W.iret hx hb hr (fun t ht _ => ⟨_, rfl, hw, ht⟩) (fun _ h => absurd h List.not_mem_nil) dX8_needBy_32
  · replace hw := hw.2 c9
    refine lv_iload hx hb dX8_needBy_25 (lv_at hl 0 rfl) ?_
    refine lv_if_ne (tgt := 33) hx hb dX8_needBy_27 (by decide) (fun c9 => ?_) (fun c9 => ?_)
    · replace hw := hw.1 c9
      refine lv_iconst (v := 1) hx hb dX8_needBy_33 (by decide) ?_
      refine lv_aload_n hx hb dX8_needBy_34 rfl (lv_at hl 2 rfl) ?_
      refine va_get (D := D) (ci := 8) (v := .ref m_aneeds) (C := RX8) (T := TX8) (N := 18) hx hb hts inX8 hown hK hP 0 rfl rfl 13 (by decide) fl38 (fun _ h9 => h9) rfl dX8_needBy_35 ?_
      refine lv_iload_n hx hb dX8_needBy_38 rfl (lv_at hl 1 rfl) ?_
      refine x_iald (j := (x1 &&& (m_noticed x2.toNatClampNeg)).toNatClampNeg) hx hb hK hP 2 0 rfl rfl rfl hw.1 dX8_needBy_39 ?_
      replace hw := hw.2
      refine lv_aload_n hx hb dX8_needBy_40 rfl (lv_at hl 2 rfl) ?_
      refine va_get (D := D) (ci := 8) (v := .ref m_aneeds) (C := RX8) (T := TX8) (N := 18) hx hb hts inX8 hown hK hP 0 rfl rfl 13 (by decide) fl38 (fun _ h9 => h9) rfl dX8_needBy_41 ?_
      refine lv_iload hx hb dX8_needBy_44 (lv_at hl 0 rfl) ?_
      refine x_iald (j := (x1 &&& ((m_noticed x2.toNatClampNeg) ^^^ (-1 : Int32))).toNatClampNeg) hx hb hK hP 2 0 rfl rfl rfl hw.1 dX8_needBy_46 ?_
      replace hw := hw.2
      refine lv_icmp_le (tgt := 59) hx hb dX8_needBy_47 (by decide) (fun c9 => ?_) (fun c9 => ?_)
      · replace hw := hw.1 c9
        refine lv_aload_n hx hb dX8_needBy_59 rfl (lv_at hl 2 rfl) ?_
        refine va_get (D := D) (ci := 8) (v := .ref m_aneeds) (C := RX8) (T := TX8) (N := 18) hx hb hts inX8 hown hK hP 0 rfl rfl 13 (by decide) fl38 (fun _ h9 => h9) rfl dX8_needBy_60 ?_
        refine lv_iload hx hb dX8_needBy_63 (lv_at hl 0 rfl) ?_
        refine x_iald (j := (x1 &&& ((m_noticed x2.toNatClampNeg) ^^^ (-1 : Int32))).toNatClampNeg) hx hb hK hP 2 0 rfl rfl rfl hw.1 dX8_needBy_65 ?_
        replace hw := hw.2
        refine lv_iadd hx hb dX8_needBy_66 ?_
        exact W.iret hx hb hr (fun t ht _ => ⟨_, rfl, hw, ht⟩) (fun _ h => absurd h List.not_mem_nil) dX8_needBy_67
      · replace hw := hw.2 c9
        refine lv_aload_n hx hb dX8_needBy_50 rfl (lv_at hl 2 rfl) ?_
        refine va_get (D := D) (ci := 8) (v := .ref m_aneeds) (C := RX8) (T := TX8) (N := 18) hx hb hts inX8 hown hK hP 0 rfl rfl 13 (by decide) fl38 (fun _ h9 => h9) rfl dX8_needBy_51 ?_
        refine lv_iload_n hx hb dX8_needBy_54 rfl (lv_at hl 1 rfl) ?_
        refine x_iald (j := (x1 &&& (m_noticed x2.toNatClampNeg)).toNatClampNeg) hx hb hK hP 2 0 rfl rfl rfl hw.1 dX8_needBy_55 ?_
        replace hw := hw.2
        refine lv_goto (tgt := 66) hx hb dX8_needBy_56 (by decide) ?_
        refine lv_iadd hx hb dX8_needBy_66 ?_
        exact W.iret hx hb hr (fun t ht _ => ⟨_, rfl, hw, ht⟩) (fun _ h => absurd h List.not_mem_nil) dX8_needBy_67
    · replace hw := hw.2 c9
      refine lv_bipush (v := 99) hx hb dX8_needBy_30 (by decide) ?_
      exact W.iret hx hb hr (fun t ht _ => ⟨_, rfl, hw, ht⟩) (fun _ h => absurd h List.not_mem_nil) dX8_needBy_32
set_option maxHeartbeats 4000000 in
set_option maxRecDepth 100000 in
theorem c_X8_layNeeds (l : Launch) (D : va_G) (G : Nat → ClassId) (sz : Nat) (m_mo : Nat) (m_alane : Nat) (m_asize : Nat) (m_aitem : Nat) (m_atape : Nat) (m_anow : Nat) (m_atried : Nat) (m_aread : Nat) (m_akept : Nat) (m_anoticed : Nat) (m_aneeds : Nat) (m_aorder : Nat) (m_letters : Int32) (m_position : Int32) (m_number : Int32) (m_isKept : Int32) (m_many : Int32) (m_one : Int32) (m_two : Int32) (m_now : Nat → Int32) (m_noticed : Nat → Int32) (m_needs : Nat → Int32) (post : (Nat → Int32) → Prop) (hw : wp_X8_layNeeds m_now m_noticed m_needs post) : Met l yX8_layNeeds wsX8_layNeeds ({ frames := 1, cells := 0, slots := 0, locals := 24 } : Room) (va_Pc [.ref m_mo] (xM D G sz [(m_mo, .inr (8, [.ref m_alane, .ref m_asize, .ref m_aitem, .int m_letters, .ref m_atape, .int m_position, .int m_number, .ref m_anow, .ref m_atried, .ref m_aread, .ref m_akept, .int m_isKept, .ref m_anoticed, .ref m_aneeds, .ref m_aorder, .int m_many, .int m_one, .int m_two])), (m_anow, .inl (G 0, 55, .inl m_now)), (m_anoticed, .inl (G 0, 256, .inl m_noticed)), (m_aneeds, .inl (G 0, 256, .inl m_needs))])) (va_Qv (fun (u : (Nat → Int32)) => post u) (fun u t => xE D G (va_A [(m_mo, .inr (8, [.ref m_alane, .ref m_asize, .ref m_aitem, .int m_letters, .ref m_atape, .int m_position, .int m_number, .ref m_anow, .ref m_atried, .ref m_aread, .ref m_akept, .int m_isKept, .ref m_anoticed, .ref m_aneeds, .ref m_aorder, .int m_many, .int m_one, .int m_two])), (m_anow, .inl (G 0, 55, .inl m_now)), (m_anoticed, .inl (G 0, 256, .inl m_noticed)), (m_aneeds, .inl (G 0, 256, .inl m_needs))] sz) [(m_mo, .inr (8, [.ref m_alane, .ref m_asize, .ref m_aitem, .int m_letters, .ref m_atape, .int m_position, .int m_number, .ref m_anow, .ref m_atried, .ref m_aread, .ref m_akept, .int m_isKept, .ref m_anoticed, .ref m_aneeds, .ref m_aorder, .int m_many, .int m_one, .int m_two])), (m_anow, .inl (G 0, 55, .inl m_now)), (m_anoticed, .inl (G 0, 256, .inl m_noticed)), (m_aneeds, .inl (G 0, 256, .inl u))] t) (va_A [(m_mo, .inr (8, [.ref m_alane, .ref m_asize, .ref m_aitem, .int m_letters, .ref m_atape, .int m_position, .int m_number, .ref m_anow, .ref m_atried, .ref m_aread, .ref m_akept, .int m_isKept, .ref m_anoticed, .ref m_aneeds, .ref m_aorder, .int m_many, .int m_one, .int m_two])), (m_anow, .inl (G 0, 55, .inl m_now)), (m_anoticed, .inl (G 0, 256, .inl m_noticed)), (m_aneeds, .inl (G 0, 256, .inl m_needs))] sz)) 0 0 (va_A [(m_mo, .inr (8, [.ref m_alane, .ref m_asize, .ref m_aitem, .int m_letters, .ref m_atape, .int m_position, .int m_number, .ref m_anow, .ref m_atried, .ref m_aread, .ref m_akept, .int m_isKept, .ref m_anoticed, .ref m_aneeds, .ref m_aorder, .int m_many, .int m_one, .int m_two])), (m_anow, .inl (G 0, 55, .inl m_now)), (m_anoticed, .inl (G 0, 256, .inl m_noticed)), (m_aneeds, .inl (G 0, 256, .inl m_needs))] sz) := by
  refine Met.ofW (cc := cX8_layNeeds) (maxL := 5) (ret := none) (by decide) rfl ?_
  intro p e s m args below meth c s₁ B hml hv
  obtain ⟨rfl, hsz, hP, hK, hD0⟩ := hv
  have hx := B.exec
  have hb := B.bytes
  have hr := B.returns
  have hts := atoms_spec (ws := wsX8_layNeeds) B.pre
  have hown : s.vm.findClass RX8 = some m.cls := findClass_of_methodNamed B.named
  have hlocks := B.notSynchronized
  subst hsz
  have hD := hD0.self (sz := s.heap.size)
  generalize hAe : va_A [(m_mo, .inr (8, [.ref m_alane, .ref m_asize, .ref m_aitem, .int m_letters, .ref m_atape, .int m_position, .int m_number, .ref m_anow, .ref m_atried, .ref m_aread, .ref m_akept, .int m_isKept, .ref m_anoticed, .ref m_aneeds, .ref m_aorder, .int m_many, .int m_one, .int m_two])), (m_anow, .inl (G 0, 55, .inl m_now)), (m_anoticed, .inl (G 0, 256, .inl m_noticed)), (m_aneeds, .inl (G 0, 256, .inl m_needs))] s.heap.size = A at hD ⊢
  have hA : ∀ q : Nat, s.heap.size ≤ q → A q := fun q h => by rw [← hAe]; exact Or.inr h
  have hS : va_S A s.heap s.heap [] := va_S.rf
  have inX8 : ∀ w ∈ wsX80, w ∈ wsX8_layNeeds := by decide +kernel
  have fl23 := hts (.fieldLink RX8 23 "NewsCowModel" "now" "[I") (by decide +kernel)
  have fl38 := hts (.fieldLink RX8 38 "NewsCowModel" "needs" "[I") (by decide +kernel)
  have hl := lv_entry ([.ref m_mo] : List Value) (n := 5) (Nat.le_of_ble_eq_true rfl)
  rw [lg_entry_eq]
  generalize (lg_sl ([.ref m_mo] : List Value) ++ List.replicate (5 - (lg_sl ([.ref m_mo] : List Value)).length) Slot.unset).toArray = ls at hl ⊢
  have hl : lv_has ls 5 [(0, .ref m_mo)] := hl
  unfold wp_X8_layNeeds at hw
  have L2 : ∀ (f2 : Nat) (x1 : Int32) (m_needs : Nat → Int32) (H : Heap) (locs : List Loc) (ls : Array Slot), wp_X8_layNeeds_L2 m_now m_noticed post f2 m_needs x1 → va_P D vwCl [(m_mo, .inr (8, [.ref m_alane, .ref m_asize, .ref m_aitem, .int m_letters, .ref m_atape, .int m_position, .int m_number, .ref m_anow, .ref m_atried, .ref m_aread, .ref m_akept, .int m_isKept, .ref m_anoticed, .ref m_aneeds, .ref m_aorder, .int m_many, .int m_one, .int m_two])), (m_anow, .inl (G 0, 55, .inl m_now)), (m_anoticed, .inl (G 0, 256, .inl m_noticed)), (m_aneeds, .inl (G 0, 256, .inl m_needs))] H → va_D A [(m_mo, .inr (8, [.ref m_alane, .ref m_asize, .ref m_aitem, .int m_letters, .ref m_atape, .int m_position, .int m_number, .ref m_anow, .ref m_atried, .ref m_aread, .ref m_akept, .int m_isKept, .ref m_anoticed, .ref m_aneeds, .ref m_aorder, .int m_many, .int m_one, .int m_two])), (m_anow, .inl (G 0, 55, .inl m_now)), (m_anoticed, .inl (G 0, 256, .inl m_noticed)), (m_aneeds, .inl (G 0, 256, .inl m_needs))] → va_S A s.heap H locs → lv_has ls 5 [(0, .ref m_mo), (1, .int x1)] → W p l e (headSpec wsX8_layNeeds ({ frames := 1, cells := 0, slots := 0, locals := 24 } : Room)).room s m ([.ref m_mo] : List Value).toArray below meth c H locs 0 0 (MQ below (va_Qv (fun (u : (Nat → Int32)) => post u) (fun u t => xE D G A [(m_mo, .inr (8, [.ref m_alane, .ref m_asize, .ref m_aitem, .int m_letters, .ref m_atape, .int m_position, .int m_number, .ref m_anow, .ref m_atried, .ref m_aread, .ref m_akept, .int m_isKept, .ref m_anoticed, .ref m_aneeds, .ref m_aorder, .int m_many, .int m_one, .int m_two])), (m_anow, .inl (G 0, 55, .inl m_now)), (m_anoticed, .inl (G 0, 256, .inl m_noticed)), (m_aneeds, .inl (G 0, 256, .inl u))] t) A) ([.ref m_mo] : List Value).toArray s 0 0 A) (F0 m 2 ls []) := by
    intro f2
    induction f2 with
    | zero => intro x1 m_needs H locs ls hw hP hD hS hl; exact (hw : False).elim
    | succ f2 ih2 =>
      intro x1 m_needs H locs ls hw hP hD hS hl
      unfold wp_X8_layNeeds_L2 at hw
      have J76 : ∀ (x1 : Int32) (x2 : Int32) (m_needs : Nat → Int32) (H : Heap) (locs : List Loc) (ls : Array Slot), wp_X8_layNeeds_J76 m_needs x1 x2 (wp_X8_layNeeds_L2 m_now m_noticed post f2) post → va_P D vwCl [(m_mo, .inr (8, [.ref m_alane, .ref m_asize, .ref m_aitem, .int m_letters, .ref m_atape, .int m_position, .int m_number, .ref m_anow, .ref m_atried, .ref m_aread, .ref m_akept, .int m_isKept, .ref m_anoticed, .ref m_aneeds, .ref m_aorder, .int m_many, .int m_one, .int m_two])), (m_anow, .inl (G 0, 55, .inl m_now)), (m_anoticed, .inl (G 0, 256, .inl m_noticed)), (m_aneeds, .inl (G 0, 256, .inl m_needs))] H → va_D A [(m_mo, .inr (8, [.ref m_alane, .ref m_asize, .ref m_aitem, .int m_letters, .ref m_atape, .int m_position, .int m_number, .ref m_anow, .ref m_atried, .ref m_aread, .ref m_akept, .int m_isKept, .ref m_anoticed, .ref m_aneeds, .ref m_aorder, .int m_many, .int m_one, .int m_two])), (m_anow, .inl (G 0, 55, .inl m_now)), (m_anoticed, .inl (G 0, 256, .inl m_noticed)), (m_aneeds, .inl (G 0, 256, .inl m_needs))] → va_S A s.heap H locs → lv_has ls 5 [(0, .ref m_mo), (1, .int x1), (2, .int x2)] → W p l e (headSpec wsX8_layNeeds ({ frames := 1, cells := 0, slots := 0, locals := 24 } : Room)).room s m ([.ref m_mo] : List Value).toArray below meth c H locs 0 0 (MQ below (va_Qv (fun (u : (Nat → Int32)) => post u) (fun u t => xE D G A [(m_mo, .inr (8, [.ref m_alane, .ref m_asize, .ref m_aitem, .int m_letters, .ref m_atape, .int m_position, .int m_number, .ref m_anow, .ref m_atried, .ref m_aread, .ref m_akept, .int m_isKept, .ref m_anoticed, .ref m_aneeds, .ref m_aorder, .int m_many, .int m_one, .int m_two])), (m_anow, .inl (G 0, 55, .inl m_now)), (m_anoticed, .inl (G 0, 256, .inl m_noticed)), (m_aneeds, .inl (G 0, 256, .inl u))] t) A) ([.ref m_mo] : List Value).toArray s 0 0 A) (F0 m 76 ls []) := by
        intro x1 x2 m_needs H locs ls hw hP hD hS hl
        unfold wp_X8_layNeeds_J76 at hw
        refine lv_aload_n hx hb dX8_layNeeds_76 rfl (lv_at hl 0 rfl) ?_
        refine va_get (D := D) (ci := 8) (v := .ref m_aneeds) (C := RX8) (T := TX8) (N := 18) hx hb hts inX8 hown hK hP 0 rfl rfl 13 (by decide) fl38 (fun _ h9 => h9) rfl dX8_layNeeds_77 ?_
        refine lv_iload_n hx hb dX8_layNeeds_80 rfl (lv_at hl 1 rfl) ?_
        refine lv_iload_n hx hb dX8_layNeeds_81 rfl (lv_at hl 2 rfl) ?_
        refine x_iast (j := x1.toNatClampNeg) hx hb hK hP hD hS 3 0 rfl rfl rfl hw.1 dX8_layNeeds_82 (fun H locs hP hD hS => ?_)
        replace hw := hw.2
        replace hP : va_P D vwCl [(m_mo, .inr (8, [.ref m_alane, .ref m_asize, .ref m_aitem, .int m_letters, .ref m_atape, .int m_position, .int m_number, .ref m_anow, .ref m_atried, .ref m_aread, .ref m_akept, .int m_isKept, .ref m_anoticed, .ref m_aneeds, .ref m_aorder, .int m_many, .int m_one, .int m_two])), (m_anow, .inl (G 0, 55, .inl m_now)), (m_anoticed, .inl (G 0, 256, .inl m_noticed)), (m_aneeds, .inl (G 0, 256, .inl (upd m_needs x1.toNatClampNeg x2)))] H := hP
        replace hD : va_D A [(m_mo, .inr (8, [.ref m_alane, .ref m_asize, .ref m_aitem, .int m_letters, .ref m_atape, .int m_position, .int m_number, .ref m_anow, .ref m_atried, .ref m_aread, .ref m_akept, .int m_isKept, .ref m_anoticed, .ref m_aneeds, .ref m_aorder, .int m_many, .int m_one, .int m_two])), (m_anow, .inl (G 0, 55, .inl m_now)), (m_anoticed, .inl (G 0, 256, .inl m_noticed)), (m_aneeds, .inl (G 0, 256, .inl (upd m_needs x1.toNatClampNeg x2)))] := hD
        refine lv_iinc (v := (x1 + 1)) (lv' := [(1, .int (x1 + 1)), (0, .ref m_mo), (2, .int x2)]) hx hb dX8_layNeeds_83 hl (k := 1) rfl (by first | rfl | decide) (by decide) rfl (fun ls hl => ?_)
        refine lv_goto (tgt := 2) hx hb dX8_layNeeds_86 (by decide) ?_
        exact ih2 (x1 + 1) (upd m_needs x1.toNatClampNeg x2) _ _ _ hw hP hD hS (lv_sub hl [1, 0] rfl)
      have L30 : ∀ (f30 : Nat) (x1 : Int32) (x2 : Int32) (x3 : Int32) (m_needs : Nat → Int32) (H : Heap) (locs : List Loc) (ls : Array Slot), wp_X8_layNeeds_L30 m_now m_noticed m_needs x1 (wp_X8_layNeeds_L2 m_now m_noticed post f2) post f30 x2 x3 → va_P D vwCl [(m_mo, .inr (8, [.ref m_alane, .ref m_asize, .ref m_aitem, .int m_letters, .ref m_atape, .int m_position, .int m_number, .ref m_anow, .ref m_atried, .ref m_aread, .ref m_akept, .int m_isKept, .ref m_anoticed, .ref m_aneeds, .ref m_aorder, .int m_many, .int m_one, .int m_two])), (m_anow, .inl (G 0, 55, .inl m_now)), (m_anoticed, .inl (G 0, 256, .inl m_noticed)), (m_aneeds, .inl (G 0, 256, .inl m_needs))] H → va_D A [(m_mo, .inr (8, [.ref m_alane, .ref m_asize, .ref m_aitem, .int m_letters, .ref m_atape, .int m_position, .int m_number, .ref m_anow, .ref m_atried, .ref m_aread, .ref m_akept, .int m_isKept, .ref m_anoticed, .ref m_aneeds, .ref m_aorder, .int m_many, .int m_one, .int m_two])), (m_anow, .inl (G 0, 55, .inl m_now)), (m_anoticed, .inl (G 0, 256, .inl m_noticed)), (m_aneeds, .inl (G 0, 256, .inl m_needs))] → va_S A s.heap H locs → lv_has ls 5 [(0, .ref m_mo), (1, .int x1), (2, .int x2), (3, .int x3)] → W p l e (headSpec wsX8_layNeeds ({ frames := 1, cells := 0, slots := 0, locals := 24 } : Room)).room s m ([.ref m_mo] : List Value).toArray below meth c H locs 0 0 (MQ below (va_Qv (fun (u : (Nat → Int32)) => post u) (fun u t => xE D G A [(m_mo, .inr (8, [.ref m_alane, .ref m_asize, .ref m_aitem, .int m_letters, .ref m_atape, .int m_position, .int m_number, .ref m_anow, .ref m_atried, .ref m_aread, .ref m_akept, .int m_isKept, .ref m_anoticed, .ref m_aneeds, .ref m_aorder, .int m_many, .int m_one, .int m_two])), (m_anow, .inl (G 0, 55, .inl m_now)), (m_anoticed, .inl (G 0, 256, .inl m_noticed)), (m_aneeds, .inl (G 0, 256, .inl u))] t) A) ([.ref m_mo] : List Value).toArray s 0 0 A) (F0 m 30 ls []) := by
        intro f30
        induction f30 with
        | zero => intro x1 x2 x3 m_needs H locs ls hw hP hD hS hl; exact (hw : False).elim
        | succ f30 ih30 =>
          intro x1 x2 x3 m_needs H locs ls hw hP hD hS hl
          unfold wp_X8_layNeeds_L30 at hw
          refine lv_iload_n hx hb dX8_layNeeds_30 rfl (lv_at hl 3 rfl) ?_
          refine lv_aload_n hx hb dX8_layNeeds_31 rfl (lv_at hl 0 rfl) ?_
          refine va_get (D := D) (ci := 8) (v := .ref m_anow) (C := RX8) (T := TX8) (N := 18) hx hb hts inX8 hown hK hP 0 rfl rfl 7 (by decide) fl23 (fun _ h9 => h9) rfl dX8_layNeeds_32 ?_
          refine vp_callSi (W.runS (As := [.ref m_anow]) (rest := [.int x3]) ⟨hx, hb, hml, hown, hts⟩ (c_X8_allOf l D G m_anow m_now _ hw) (va_cwS 1 hts gX8_layNeeds_X8_allOf rfl rfl rfl (by decide +kernel) ⟨(Nat.le_of_ble_eq_true rfl), (Nat.le_of_ble_eq_true rfl)⟩) (xR_ps (hP.sub [1] rfl) hK) rfl rfl hl.1 rfl (lv_room (Nat.le_of_ble_eq_true rfl)) dX8_layNeeds_35 ⟨Nat.zero_le _, Nat.zero_le _⟩) (fun r3 hw => ?_)
          refine lv_icmp_gt (tgt := 76) hx hb dX8_layNeeds_38 (by decide) (fun c9 => ?_) (fun c9 => ?_)
          · replace hw := hw.1 c9
            exact J76 x1 x2 m_needs _ _ _ hw hP hD hS (lv_sub hl [0, 1, 2] rfl)
          · replace hw := hw.2 c9
            refine lv_iload_n hx hb dX8_layNeeds_41 rfl (lv_at hl 1 rfl) ?_
            refine vp_callSi (W.runS (As := [.int x1]) (rest := []) ⟨hx, hb, hml, hown, hts⟩ (c_X8_bits l D G x1 _ hw) (va_cwS 1 hts gX8_layNeeds_X8_bits rfl rfl rfl (by decide +kernel) ⟨(Nat.le_of_ble_eq_true rfl), (Nat.le_of_ble_eq_true rfl)⟩) (xR_ps (hP.sub [] rfl) hK) rfl rfl hl.1 rfl (lv_room (Nat.le_of_ble_eq_true rfl)) dX8_layNeeds_42 ⟨Nat.zero_le _, Nat.zero_le _⟩) (fun r4 hw => ?_)
            refine lv_iconst (v := 1) hx hb dX8_layNeeds_45 (by decide) ?_
            refine lv_icmp_le (tgt := 76) hx hb dX8_layNeeds_46 (by decide) (fun c9 => ?_) (fun c9 => ?_)
            · replace hw := hw.1 c9
              exact J76 x1 x2 m_needs _ _ _ hw hP hD hS (lv_sub hl [0, 1, 2] rfl)
            · replace hw := hw.2 c9
              refine lv_aload_n hx hb dX8_layNeeds_49 rfl (lv_at hl 0 rfl) ?_
              refine lv_iload_n hx hb dX8_layNeeds_50 rfl (lv_at hl 1 rfl) ?_
              refine lv_iload_n hx hb dX8_layNeeds_51 rfl (lv_at hl 3 rfl) ?_
              refine vp_callSi (W.runV (As := [.int x1, .int x3]) (rest := []) ⟨hx, hb, hml, hown, hts⟩ (c_X8_needBy l D G m_mo m_alane m_asize m_aitem m_atape m_anow m_atried m_aread m_akept m_anoticed m_aneeds m_aorder m_letters m_position m_number m_isKept m_many m_one m_two m_noticed m_needs x1 x3 _ hw) (cwV 2 hts gX8_layNeeds_X8_needBy rfl rfl rfl (by decide +kernel) ⟨(Nat.le_of_ble_eq_true rfl), (Nat.le_of_ble_eq_true rfl)⟩) (xR_pv (hP.sub [0, 2, 3] rfl) hK (va_recv hK hP (ci := 8) (q0 := 0) rfl rfl)) rfl rfl hl.1 rfl (lv_room (Nat.le_of_ble_eq_true rfl)) dX8_layNeeds_52 ⟨Nat.zero_le _, Nat.zero_le _⟩) (fun r5 hw => ?_)
              refine lv_istore (lv' := [(4, .int r5), (0, .ref m_mo), (1, .int x1), (2, .int x2), (3, .int x3)]) hx hb dX8_layNeeds_55 hl (by decide) rfl (fun ls hl => ?_)
              refine lv_iload hx hb dX8_layNeeds_57 (lv_at hl 0 rfl) ?_
              refine lv_iload_n hx hb dX8_layNeeds_59 rfl (lv_at hl 3 rfl) ?_
              refine lv_icmp_ge (tgt := 68) hx hb dX8_layNeeds_60 (by decide) (fun c9 => ?_) (fun c9 => ?_)
              · replace hw := hw.1 c9
                refine lv_iload_n hx hb dX8_layNeeds_68 rfl (lv_at hl 3 rfl) ?_
                refine lv_istore_n (lv' := [(2, .int x2), (4, .int r5), (0, .ref m_mo), (1, .int x1), (3, .int x3)]) hx hb dX8_layNeeds_69 rfl hl (by decide) rfl (fun ls hl => ?_)
                refine lv_iinc (v := (x3 + 1)) (lv' := [(3, .int (x3 + 1)), (2, .int x2), (4, .int r5), (0, .ref m_mo), (1, .int x1)]) hx hb dX8_layNeeds_70 hl (k := 4) rfl (by first | rfl | decide) (by decide) rfl (fun ls hl => ?_)
                refine lv_goto (tgt := 30) hx hb dX8_layNeeds_73 (by decide) ?_
                exact ih30 x1 x2 (x3 + 1) m_needs _ _ _ hw hP hD hS (lv_sub hl [3, 4, 1, 0] rfl)
              · replace hw := hw.2 c9
                refine lv_iload hx hb dX8_layNeeds_63 (lv_at hl 0 rfl) ?_
                refine lv_goto (tgt := 69) hx hb dX8_layNeeds_65 (by decide) ?_
                refine lv_istore_n (lv' := [(2, .int r5), (4, .int r5), (0, .ref m_mo), (1, .int x1), (3, .int x3)]) hx hb dX8_layNeeds_69 rfl hl (by decide) rfl (fun ls hl => ?_)
                refine lv_iinc (v := (x3 + 1)) (lv' := [(3, .int (x3 + 1)), (2, .int r5), (4, .int r5), (0, .ref m_mo), (1, .int x1)]) hx hb dX8_layNeeds_70 hl (k := 4) rfl (by first | rfl | decide) (by decide) rfl (fun ls hl => ?_)
                refine lv_goto (tgt := 30) hx hb dX8_layNeeds_73 (by decide) ?_
                exact ih30 x1 r5 (x3 + 1) m_needs _ _ _ hw hP hD hS (lv_sub hl [3, 4, 1, 0] rfl)
      refine lv_iload_n hx hb dX8_layNeeds_2 rfl (lv_at hl 1 rfl) ?_
      refine lv_aload_n hx hb dX8_layNeeds_3 rfl (lv_at hl 0 rfl) ?_
      refine va_get (D := D) (ci := 8) (v := .ref m_anow) (C := RX8) (T := TX8) (N := 18) hx hb hts inX8 hown hK hP 0 rfl rfl 7 (by decide) fl23 (fun _ h9 => h9) rfl dX8_layNeeds_4 ?_
      refine vp_callSi (W.runS (As := [.ref m_anow]) (rest := [.int x1]) ⟨hx, hb, hml, hown, hts⟩ (c_X8_allOf l D G m_anow m_now _ hw) (va_cwS 1 hts gX8_layNeeds_X8_allOf rfl rfl rfl (by decide +kernel) ⟨(Nat.le_of_ble_eq_true rfl), (Nat.le_of_ble_eq_true rfl)⟩) (xR_ps (hP.sub [1] rfl) hK) rfl rfl hl.1 rfl (lv_room (Nat.le_of_ble_eq_true rfl)) dX8_layNeeds_7 ⟨Nat.zero_le _, Nat.zero_le _⟩) (fun r1 hw => ?_)
      refine lv_icmp_gt (tgt := 89) hx hb dX8_layNeeds_10 (by decide) (fun c9 => ?_) (fun c9 => ?_)
      · replace hw := hw.1 c9
        exact W.vret hx hb hr (x_mv (u := m_needs) hP hK hD hS hw) hS.2.2 dX8_layNeeds_89
      · replace hw := hw.2 c9
        refine lv_iload_n hx hb dX8_layNeeds_13 rfl (lv_at hl 1 rfl) ?_
        refine vp_callSi (W.runS (As := [.int x1]) (rest := []) ⟨hx, hb, hml, hown, hts⟩ (c_X8_bits l D G x1 _ hw) (va_cwS 1 hts gX8_layNeeds_X8_bits rfl rfl rfl (by decide +kernel) ⟨(Nat.le_of_ble_eq_true rfl), (Nat.le_of_ble_eq_true rfl)⟩) (xR_ps (hP.sub [] rfl) hK) rfl rfl hl.1 rfl (lv_room (Nat.le_of_ble_eq_true rfl)) dX8_layNeeds_14 ⟨Nat.zero_le _, Nat.zero_le _⟩) (fun r2 hw => ?_)
        refine lv_iconst (v := 2) hx hb dX8_layNeeds_17 (by decide) ?_
        refine lv_icmp_ge (tgt := 25) hx hb dX8_layNeeds_18 (by decide) (fun c9 => ?_) (fun c9 => ?_)
        · replace hw := hw.1 c9
          refine lv_bipush (v := 99) hx hb dX8_layNeeds_25 (by decide) ?_
          refine lv_istore_n (lv' := [(2, .int (99 : Int32)), (0, .ref m_mo), (1, .int x1)]) hx hb dX8_layNeeds_27 rfl hl (by decide) rfl (fun ls hl => ?_)
          refine lv_iconst (v := 1) hx hb dX8_layNeeds_28 (by decide) ?_
          refine lv_istore_n (lv' := [(3, .int (1 : Int32)), (2, .int (99 : Int32)), (0, .ref m_mo), (1, .int x1)]) hx hb dX8_layNeeds_29 rfl hl (by decide) rfl (fun ls hl => ?_)
          obtain ⟨n, hw⟩ := hw
          exact L30 n x1 (99 : Int32) (1 : Int32) m_needs _ _ _ hw hP hD hS (lv_sub hl [2, 3, 1, 0] rfl)
        · replace hw := hw.2 c9
          refine lv_iconst (v := 0) hx hb dX8_layNeeds_21 (by decide) ?_
          refine lv_goto (tgt := 27) hx hb dX8_layNeeds_22 (by decide) ?_
          refine lv_istore_n (lv' := [(2, .int (0 : Int32)), (0, .ref m_mo), (1, .int x1)]) hx hb dX8_layNeeds_27 rfl hl (by decide) rfl (fun ls hl => ?_)
          refine lv_iconst (v := 1) hx hb dX8_layNeeds_28 (by decide) ?_
          refine lv_istore_n (lv' := [(3, .int (1 : Int32)), (2, .int (0 : Int32)), (0, .ref m_mo), (1, .int x1)]) hx hb dX8_layNeeds_29 rfl hl (by decide) rfl (fun ls hl => ?_)
          obtain ⟨n, hw⟩ := hw
          exact L30 n x1 (0 : Int32) (1 : Int32) m_needs _ _ _ hw hP hD hS (lv_sub hl [2, 3, 1, 0] rfl)
  refine lv_iconst (v := 0) hx hb dX8_layNeeds_0 (by decide) ?_
  refine lv_istore_n (lv' := [(1, .int (0 : Int32)), (0, .ref m_mo)]) hx hb dX8_layNeeds_1 rfl hl (by decide) rfl (fun ls hl => ?_)
  obtain ⟨n, hw⟩ := hw
  exact L2 n (0 : Int32) m_needs _ _ _ hw hP hD hS (lv_sub hl [1, 0] rfl)
set_option maxHeartbeats 4000000 in
set_option maxRecDepth 100000 in
theorem c_X8_fewest (l : Launch) (D : va_G) (G : Nat → ClassId) (sz : Nat) (m_mo : Nat) (m_alane : Nat) (m_asize : Nat) (m_aitem : Nat) (m_atape : Nat) (m_anow : Nat) (m_atried : Nat) (m_aread : Nat) (m_akept : Nat) (m_anoticed : Nat) (m_aneeds : Nat) (m_aorder : Nat) (m_letters : Int32) (m_position : Int32) (m_number : Int32) (m_isKept : Int32) (m_many : Int32) (m_one : Int32) (m_two : Int32) (m_now : Nat → Int32) (m_noticed : Nat → Int32) (m_needs : Nat → Int32) (x1 : Int32) (post : Int32 → (Nat → Int32) → (Nat → Int32) → Prop) (hw : wp_X8_fewest m_now m_noticed m_needs x1 post) : Met l yX8_fewest wsX8_fewest ({ frames := 5, cells := 0, slots := 0, locals := 117 } : Room) (va_Pc [.ref m_mo, .int x1] (xM D G sz [(m_mo, .inr (8, [.ref m_alane, .ref m_asize, .ref m_aitem, .int m_letters, .ref m_atape, .int m_position, .int m_number, .ref m_anow, .ref m_atried, .ref m_aread, .ref m_akept, .int m_isKept, .ref m_anoticed, .ref m_aneeds, .ref m_aorder, .int m_many, .int m_one, .int m_two])), (m_anow, .inl (G 0, 55, .inl m_now)), (m_anoticed, .inl (G 0, 256, .inl m_noticed)), (m_aneeds, .inl (G 0, 256, .inl m_needs))])) (va_Qi (fun r (u : (Nat → Int32) × (Nat → Int32)) => post r u.1 u.2) (fun u t => xE D G (va_A [(m_mo, .inr (8, [.ref m_alane, .ref m_asize, .ref m_aitem, .int m_letters, .ref m_atape, .int m_position, .int m_number, .ref m_anow, .ref m_atried, .ref m_aread, .ref m_akept, .int m_isKept, .ref m_anoticed, .ref m_aneeds, .ref m_aorder, .int m_many, .int m_one, .int m_two])), (m_anow, .inl (G 0, 55, .inl m_now)), (m_anoticed, .inl (G 0, 256, .inl m_noticed)), (m_aneeds, .inl (G 0, 256, .inl m_needs))] sz) [(m_mo, .inr (8, [.ref m_alane, .ref m_asize, .ref m_aitem, .int m_letters, .ref m_atape, .int m_position, .int m_number, .ref m_anow, .ref m_atried, .ref m_aread, .ref m_akept, .int m_isKept, .ref m_anoticed, .ref m_aneeds, .ref m_aorder, .int m_many, .int m_one, .int m_two])), (m_anow, .inl (G 0, 55, .inl m_now)), (m_anoticed, .inl (G 0, 256, .inl (u.1))), (m_aneeds, .inl (G 0, 256, .inl (u.2)))] t) (va_A [(m_mo, .inr (8, [.ref m_alane, .ref m_asize, .ref m_aitem, .int m_letters, .ref m_atape, .int m_position, .int m_number, .ref m_anow, .ref m_atried, .ref m_aread, .ref m_akept, .int m_isKept, .ref m_anoticed, .ref m_aneeds, .ref m_aorder, .int m_many, .int m_one, .int m_two])), (m_anow, .inl (G 0, 55, .inl m_now)), (m_anoticed, .inl (G 0, 256, .inl m_noticed)), (m_aneeds, .inl (G 0, 256, .inl m_needs))] sz)) 0 0 (va_A [(m_mo, .inr (8, [.ref m_alane, .ref m_asize, .ref m_aitem, .int m_letters, .ref m_atape, .int m_position, .int m_number, .ref m_anow, .ref m_atried, .ref m_aread, .ref m_akept, .int m_isKept, .ref m_anoticed, .ref m_aneeds, .ref m_aorder, .int m_many, .int m_one, .int m_two])), (m_anow, .inl (G 0, 55, .inl m_now)), (m_anoticed, .inl (G 0, 256, .inl m_noticed)), (m_aneeds, .inl (G 0, 256, .inl m_needs))] sz) := by
  refine Met.ofW (cc := cX8_fewest) (maxL := 2) (ret := (some .int)) (by decide) rfl ?_
  intro p e s m args below meth c s₁ B hml hv
  obtain ⟨rfl, hsz, hP, hK, hD0⟩ := hv
  have hx := B.exec
  have hb := B.bytes
  have hr := B.returns
  have hts := atoms_spec (ws := wsX8_fewest) B.pre
  have hown : s.vm.findClass RX8 = some m.cls := findClass_of_methodNamed B.named
  have hlocks := B.notSynchronized
  subst hsz
  have hD := hD0.self (sz := s.heap.size)
  generalize hAe : va_A [(m_mo, .inr (8, [.ref m_alane, .ref m_asize, .ref m_aitem, .int m_letters, .ref m_atape, .int m_position, .int m_number, .ref m_anow, .ref m_atried, .ref m_aread, .ref m_akept, .int m_isKept, .ref m_anoticed, .ref m_aneeds, .ref m_aorder, .int m_many, .int m_one, .int m_two])), (m_anow, .inl (G 0, 55, .inl m_now)), (m_anoticed, .inl (G 0, 256, .inl m_noticed)), (m_aneeds, .inl (G 0, 256, .inl m_needs))] s.heap.size = A at hD ⊢
  have hA : ∀ q : Nat, s.heap.size ≤ q → A q := fun q h => by rw [← hAe]; exact Or.inr h
  have hS : va_S A s.heap s.heap [] := va_S.rf
  have inX8 : ∀ w ∈ wsX80, w ∈ wsX8_fewest := by decide +kernel
  have fl38 := hts (.fieldLink RX8 38 "NewsCowModel" "needs" "[I") (by decide +kernel)
  have fl23 := hts (.fieldLink RX8 23 "NewsCowModel" "now" "[I") (by decide +kernel)
  have hl := lv_entry ([.ref m_mo, .int x1] : List Value) (n := 2) (Nat.le_of_ble_eq_true rfl)
  rw [lg_entry_eq]
  generalize (lg_sl ([.ref m_mo, .int x1] : List Value) ++ List.replicate (2 - (lg_sl ([.ref m_mo, .int x1] : List Value)).length) Slot.unset).toArray = ls at hl ⊢
  have hl : lv_has ls 2 [(0, .ref m_mo), (1, .int x1)] := hl
  unfold wp_X8_fewest at hw
  refine lv_aload_n hx hb dX8_fewest_0 rfl (lv_at hl 0 rfl) ?_
  refine lv_iload_n hx hb dX8_fewest_1 rfl (lv_at hl 1 rfl) ?_
  refine vp_callSi (W.runV (As := [.int x1]) (rest := []) ⟨hx, hb, hml, hown, hts⟩ (c_X8_isTaster l D G m_mo m_alane m_asize m_aitem m_atape m_anow m_atried m_aread m_akept m_anoticed m_aneeds m_aorder m_letters m_position m_number m_isKept m_many m_one m_two m_now x1 _ hw) (cwV 1 hts gX8_fewest_X8_isTaster rfl rfl rfl (by decide +kernel) ⟨(Nat.le_of_ble_eq_true rfl), (Nat.le_of_ble_eq_true rfl)⟩) (xR_pv (hP.sub [0, 1] rfl) hK (va_recv hK hP (ci := 8) (q0 := 0) rfl rfl)) rfl rfl hl.1 rfl (lv_room (Nat.le_of_ble_eq_true rfl)) dX8_fewest_2 ⟨Nat.zero_le _, Nat.zero_le _⟩) (fun r1 hw => ?_)
  refine lv_if_ne (tgt := 10) hx hb dX8_fewest_5 (by decide) (fun c9 => ?_) (fun c9 => ?_)
  · replace hw := hw.1 c9
    refine lv_aload_n hx hb dX8_fewest_10 rfl (lv_at hl 0 rfl) ?_
    refine lv_iload_n hx hb dX8_fewest_11 rfl (lv_at hl 1 rfl) ?_
    refine x_cMv (wr := [(m_aneeds, .inl (G 0, 256, .inl m_needs))]) (va_runV (As := [.int x1]) (rest := []) ⟨hx, hb, hml, hown, hts⟩ (c_X8_layNoticed l D G _ m_mo m_alane m_asize m_aitem m_atape m_anow m_atried m_aread m_akept m_anoticed m_aneeds m_aorder m_letters m_position m_number m_isKept m_many m_one m_two m_now m_noticed x1 _ hw) (cwV 1 hts gX8_fewest_X8_layNoticed rfl rfl rfl (by decide +kernel) ⟨(Nat.le_of_ble_eq_true rfl), (Nat.le_of_ble_eq_true rfl)⟩) (xM_pv (hP.sub [0, 1, 2] rfl) hK (hD.sub [0, 1, 2] (by decide) rfl) (va_recv hK hP (ci := 8) (q0 := 0) rfl rfl)) rfl rfl hl.1 rfl (lv_room (Nat.le_of_ble_eq_true rfl)) dX8_fewest_12 ⟨Nat.zero_le _, Nat.zero_le _⟩) hP hD hS hA [0, 1, 2] [3] rfl rfl (by decide) (by decide) [1, 2, 3, 0] (fun u => [(m_mo, .inr (8, [.ref m_alane, .ref m_asize, .ref m_aitem, .int m_letters, .ref m_atape, .int m_position, .int m_number, .ref m_anow, .ref m_atried, .ref m_aread, .ref m_akept, .int m_isKept, .ref m_anoticed, .ref m_aneeds, .ref m_aorder, .int m_many, .int m_one, .int m_two])), (m_anow, .inl (G 0, 55, .inl m_now)), (m_anoticed, .inl (G 0, 256, .inl u)), (m_aneeds, .inl (G 0, 256, .inl m_needs))]) (by decide) (fun u => rfl) (fun u H locs hw hP hD hS => ?_)
    obtain ⟨m_noticed_2, rfl⟩ : ∃ z, z = u := ⟨_, rfl⟩
    try dsimp only at hw
    replace hP : va_P D vwCl [(m_mo, .inr (8, [.ref m_alane, .ref m_asize, .ref m_aitem, .int m_letters, .ref m_atape, .int m_position, .int m_number, .ref m_anow, .ref m_atried, .ref m_aread, .ref m_akept, .int m_isKept, .ref m_anoticed, .ref m_aneeds, .ref m_aorder, .int m_many, .int m_one, .int m_two])), (m_anow, .inl (G 0, 55, .inl m_now)), (m_anoticed, .inl (G 0, 256, .inl m_noticed_2)), (m_aneeds, .inl (G 0, 256, .inl m_needs))] H := hP
    replace hD : va_D A [(m_mo, .inr (8, [.ref m_alane, .ref m_asize, .ref m_aitem, .int m_letters, .ref m_atape, .int m_position, .int m_number, .ref m_anow, .ref m_atried, .ref m_aread, .ref m_akept, .int m_isKept, .ref m_anoticed, .ref m_aneeds, .ref m_aorder, .int m_many, .int m_one, .int m_two])), (m_anow, .inl (G 0, 55, .inl m_now)), (m_anoticed, .inl (G 0, 256, .inl m_noticed_2)), (m_aneeds, .inl (G 0, 256, .inl m_needs))] := hD
    refine lv_aload_n hx hb dX8_fewest_15 rfl (lv_at hl 0 rfl) ?_
    refine x_cMv (wr := []) (va_runV (As := []) (rest := []) ⟨hx, hb, hml, hown, hts⟩ (c_X8_layNeeds l D G _ m_mo m_alane m_asize m_aitem m_atape m_anow m_atried m_aread m_akept m_anoticed m_aneeds m_aorder m_letters m_position m_number m_isKept m_many m_one m_two m_now m_noticed_2 m_needs _ hw) (cwV 0 hts gX8_fewest_X8_layNeeds rfl rfl rfl (by decide +kernel) ⟨(Nat.le_of_ble_eq_true rfl), (Nat.le_of_ble_eq_true rfl)⟩) (xM_pv (hP.sub [0, 1, 2, 3] rfl) hK (hD.sub [0, 1, 2, 3] (by decide) rfl) (va_recv hK hP (ci := 8) (q0 := 0) rfl rfl)) rfl rfl hl.1 rfl (lv_room (Nat.le_of_ble_eq_true rfl)) dX8_fewest_16 ⟨Nat.zero_le _, Nat.zero_le _⟩) hP hD hS hA [0, 1, 2, 3] [] rfl rfl (by decide) (by decide) [0, 1, 2, 3] (fun u => [(m_mo, .inr (8, [.ref m_alane, .ref m_asize, .ref m_aitem, .int m_letters, .ref m_atape, .int m_position, .int m_number, .ref m_anow, .ref m_atried, .ref m_aread, .ref m_akept, .int m_isKept, .ref m_anoticed, .ref m_aneeds, .ref m_aorder, .int m_many, .int m_one, .int m_two])), (m_anow, .inl (G 0, 55, .inl m_now)), (m_anoticed, .inl (G 0, 256, .inl m_noticed_2)), (m_aneeds, .inl (G 0, 256, .inl u))]) (by decide) (fun u => rfl) (fun u H locs hw hP hD hS => ?_)
    obtain ⟨m_needs_3, rfl⟩ : ∃ z, z = u := ⟨_, rfl⟩
    try dsimp only at hw
    replace hP : va_P D vwCl [(m_mo, .inr (8, [.ref m_alane, .ref m_asize, .ref m_aitem, .int m_letters, .ref m_atape, .int m_position, .int m_number, .ref m_anow, .ref m_atried, .ref m_aread, .ref m_akept, .int m_isKept, .ref m_anoticed, .ref m_aneeds, .ref m_aorder, .int m_many, .int m_one, .int m_two])), (m_anow, .inl (G 0, 55, .inl m_now)), (m_anoticed, .inl (G 0, 256, .inl m_noticed_2)), (m_aneeds, .inl (G 0, 256, .inl m_needs_3))] H := hP
    replace hD : va_D A [(m_mo, .inr (8, [.ref m_alane, .ref m_asize, .ref m_aitem, .int m_letters, .ref m_atape, .int m_position, .int m_number, .ref m_anow, .ref m_atried, .ref m_aread, .ref m_akept, .int m_isKept, .ref m_anoticed, .ref m_aneeds, .ref m_aorder, .int m_many, .int m_one, .int m_two])), (m_anow, .inl (G 0, 55, .inl m_now)), (m_anoticed, .inl (G 0, 256, .inl m_noticed_2)), (m_aneeds, .inl (G 0, 256, .inl m_needs_3))] := hD
    refine lv_aload_n hx hb dX8_fewest_19 rfl (lv_at hl 0 rfl) ?_
    refine va_get (D := D) (ci := 8) (v := .ref m_aneeds) (C := RX8) (T := TX8) (N := 18) hx hb hts inX8 hown hK hP 0 rfl rfl 13 (by decide) fl38 (fun _ h9 => h9) rfl dX8_fewest_20 ?_
    refine lv_aload_n hx hb dX8_fewest_23 rfl (lv_at hl 0 rfl) ?_
    refine va_get (D := D) (ci := 8) (v := .ref m_anow) (C := RX8) (T := TX8) (N := 18) hx hb hts inX8 hown hK hP 0 rfl rfl 7 (by decide) fl23 (fun _ h9 => h9) rfl dX8_fewest_24 ?_
    refine lv_iconst (v := 2) hx hb dX8_fewest_27 (by decide) ?_
    refine x_iald (j := 2) hx hb hK hP 1 0 rfl rfl (by decide) (x_in (by decide)) dX8_fewest_28 ?_
    refine x_iald (j := (m_now 2).toNatClampNeg) hx hb hK hP 3 0 rfl rfl rfl hw.1 dX8_fewest_29 ?_
    replace hw := hw.2
    refine lv_bipush (v := 99) hx hb dX8_fewest_30 (by decide) ?_
    refine lv_icmp_lt (tgt := 40) hx hb dX8_fewest_32 (by decide) (fun c9 => ?_) (fun c9 => ?_)
    · replace hw := hw.1 c9
      refine lv_aload_n hx hb dX8_fewest_40 rfl (lv_at hl 0 rfl) ?_
      refine va_get (D := D) (ci := 8) (v := .ref m_aneeds) (C := RX8) (T := TX8) (N := 18) hx hb hts inX8 hown hK hP 0 rfl rfl 13 (by decide) fl38 (fun _ h9 => h9) rfl dX8_fewest_41 ?_
      refine lv_aload_n hx hb dX8_fewest_44 rfl (lv_at hl 0 rfl) ?_
      refine va_get (D := D) (ci := 8) (v := .ref m_anow) (C := RX8) (T := TX8) (N := 18) hx hb hts inX8 hown hK hP 0 rfl rfl 7 (by decide) fl23 (fun _ h9 => h9) rfl dX8_fewest_45 ?_
      refine lv_iconst (v := 2) hx hb dX8_fewest_48 (by decide) ?_
      refine x_iald (j := 2) hx hb hK hP 1 0 rfl rfl (by decide) (x_in (by decide)) dX8_fewest_49 ?_
      refine x_iald (j := (m_now 2).toNatClampNeg) hx hb hK hP 3 0 rfl rfl rfl hw.1 dX8_fewest_50 ?_
      replace hw := hw.2
      exact W.iret hx hb hr (x_mi (u := (m_noticed_2, m_needs_3)) hP hK hD hS hw) hS.2.2 dX8_fewest_51
    · replace hw := hw.2 c9
      refine lv_bipush (v := -4) hx hb dX8_fewest_35 (by decide) ?_
      refine lv_goto (tgt := 51) hx hb dX8_fewest_37 (by decide) ?_
      exact W.iret hx hb hr (x_mi (u := (m_noticed_2, m_needs_3)) hP hK hD hS hw) hS.2.2 dX8_fewest_51
  · replace hw := hw.2 c9
    refine lv_iconst (v := -1) hx hb dX8_fewest_8 (by decide) ?_
    exact W.iret hx hb hr (x_mi (u := (m_noticed, m_needs)) hP hK hD hS hw) hS.2.2 dX8_fewest_9
