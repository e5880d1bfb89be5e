set_option maxHeartbeats 1000000 in
set_option maxRecDepth 100000 in
theorem c_X1_init (l : Launch) (D : va_G) (G : Nat → ClassId) (sz : Nat) (h0 : Nat) : Met l yX1_init wsX1_init ({ frames := 1, cells := 0, slots := 0, locals := 20 } : Room) (va_Pc [.ref h0] (xI D G sz [(h0, .inr (1, [.int 0, .int 0, .int 0, .int 0]))])) (va_Qv (fun (_ : Nat → Nat) => True) (fun u t => xE D G (va_A [(h0, .inr (1, [.int 0, .int 0, .int 0, .int 0]))] sz) [(h0, .inr (1, [.int (0 : Int32), .int (-4 : Int32), .int (0 : Int32), .int (1 : Int32)]))] t) (va_A [(h0, .inr (1, [.int 0, .int 0, .int 0, .int 0]))] sz)) 0 0 (va_A [(h0, .inr (1, [.int 0, .int 0, .int 0, .int 0]))] sz) := by
  refine Met.ofW (cc := cX1_init) (maxL := 1) (ret := none) (by decide) rfl ?_
  intro p e s m args below meth c s₁ B hml hv
  obtain ⟨rfl, hsz, hP, hK, hD0, hN⟩ := hv
  have hx := B.exec
  have hb := B.bytes
  have hr := B.returns
  have hts := atoms_spec (ws := wsX1_init) B.pre
  have hown : s.vm.findClass RX1 = some m.cls := findClass_of_methodNamed B.named
  have hlocks := B.notSynchronized
  have hin : meth.name = "<init>" := (name_of_methodNamed B.named B.method).1
  subst hsz
  have hD := hD0.self (sz := s.heap.size)
  generalize hAe : va_A [(h0, .inr (1, [.int 0, .int 0, .int 0, .int 0]))] s.heap.size = A at hD ⊢
  have hA : ∀ q : Nat, s.heap.size ≤ q → A q := fun q h => by rw [← hAe]; exact Or.inr h
  have hS : va_S A s.heap s.heap [] := va_S.rf
  have inX1 : ∀ w ∈ wsX10, w ∈ wsX1_init := by decide +kernel
  have fl9 := hts (.fieldLink RX1 9 "NewsCow$Moment" "mayBe" "I") (by decide +kernel)
  have fl15 := hts (.fieldLink RX1 15 "NewsCow$Moment" "bearer" "I") (by decide +kernel)
  have fl18 := hts (.fieldLink RX1 18 "NewsCow$Moment" "day" "I") (by decide +kernel)
  have fl21 := hts (.fieldLink RX1 21 "NewsCow$Moment" "draw" "I") (by decide +kernel)
  have hl := lv_entry ([.ref h0] : List Value) (n := 1) (Nat.le_of_ble_eq_true rfl)
  rw [lg_entry_eq]
  generalize (lg_sl ([.ref h0] : List Value) ++ List.replicate (1 - (lg_sl ([.ref h0] : List Value)).length) Slot.unset).toArray = ls at hl ⊢
  have hl : lv_has ls 1 [(0, .ref h0)] := hl
  refine lv_aload_n hx hb dX1_init_0 rfl (lv_at hl 0 rfl) ?_
  refine W.objInit hx hb hown (hts (.methodLink RX1 3 objectInit) (by decide +kernel)) (hts (.instanceMethod objectInit) (by decide +kernel)) (hts (.code objectInit ⟨#[0xb1]⟩ 1 none) (by decide +kernel)) rfl (by rw [hml]; exact hl.1) rfl dX1_init_1 (Nat.le_of_ble_eq_true rfl) (Nat.le_of_ble_eq_true rfl) ?_
  refine W.eq (g2 := F0 m 4 ls []) rfl ?_
  refine lv_aload_n hx hb dX1_init_4 rfl (lv_at hl 0 rfl) ?_
  refine lv_iconst (v := 0) hx hb dX1_init_5 (by decide) ?_
  refine va_put (D := D) (ci := 1) (v := .int (0 : Int32)) (ty := .int) (C := RX1) (T := TX1) (N := 4) hx hb hts inX1 tyX1 tyX1_ok nmX1 hown hK hP hD hS 0 rfl rfl 0 (by decide) fl9 (fun _ h9 => h9) rfl (by decide +kernel) rfl rfl (Nat.le_of_ble_eq_true rfl) dX1_init_6 (fun H locs hP hD hS => ?_)
  replace hP : va_P D vwCl [(h0, .inr (1, [.int (0 : Int32), .int 0, .int 0, .int 0]))] H := hP
  replace hD : va_D A [(h0, .inr (1, [.int (0 : Int32), .int 0, .int 0, .int 0]))] := hD
  refine lv_aload_n hx hb dX1_init_9 rfl (lv_at hl 0 rfl) ?_
  refine lv_bipush (v := -4) hx hb dX1_init_10 (by decide) ?_
  refine va_put (D := D) (ci := 1) (v := .int (-4 : Int32)) (ty := .int) (C := RX1) (T := TX1) (N := 4) hx hb hts inX1 tyX1 tyX1_ok nmX1 hown hK hP hD hS 0 rfl rfl 1 (by decide) fl15 (fun _ h9 => h9) rfl (by decide +kernel) rfl rfl (Nat.le_of_ble_eq_true rfl) dX1_init_12 (fun H locs hP hD hS => ?_)
  replace hP : va_P D vwCl [(h0, .inr (1, [.int (0 : Int32), .int (-4 : Int32), .int 0, .int 0]))] H := hP
  replace hD : va_D A [(h0, .inr (1, [.int (0 : Int32), .int (-4 : Int32), .int 0, .int 0]))] := hD
  refine lv_aload_n hx hb dX1_init_15 rfl (lv_at hl 0 rfl) ?_
  refine lv_iconst (v := 0) hx hb dX1_init_16 (by decide) ?_
  refine va_put (D := D) (ci := 1) (v := .int (0 : Int32)) (ty := .int) (C := RX1) (T := TX1) (N := 4) hx hb hts inX1 tyX1 tyX1_ok nmX1 hown hK hP hD hS 0 rfl rfl 2 (by decide) fl18 (fun _ h9 => h9) rfl (by decide +kernel) rfl rfl (Nat.le_of_ble_eq_true rfl) dX1_init_17 (fun H locs hP hD hS => ?_)
  replace hP : va_P D vwCl [(h0, .inr (1, [.int (0 : Int32), .int (-4 : Int32), .int (0 : Int32), .int 0]))] H := hP
  replace hD : va_D A [(h0, .inr (1, [.int (0 : Int32), .int (-4 : Int32), .int (0 : Int32), .int 0]))] := hD
  refine lv_aload_n hx hb dX1_init_20 rfl (lv_at hl 0 rfl) ?_
  refine lv_iconst (v := 1) hx hb dX1_init_21 (by decide) ?_
  refine va_put (D := D) (ci := 1) (v := .int (1 : Int32)) (ty := .int) (C := RX1) (T := TX1) (N := 4) hx hb hts inX1 tyX1 tyX1_ok nmX1 hown hK hP hD hS 0 rfl rfl 3 (by decide) fl21 (fun _ h9 => h9) rfl (by decide +kernel) rfl rfl (Nat.le_of_ble_eq_true rfl) dX1_init_22 (fun H locs hP hD hS => ?_)
  replace hP : va_P D vwCl [(h0, .inr (1, [.int (0 : Int32), .int (-4 : Int32), .int (0 : Int32), .int (1 : Int32)]))] H := hP
  replace hD : va_D A [(h0, .inr (1, [.int (0 : Int32), .int (-4 : Int32), .int (0 : Int32), .int (1 : Int32)]))] := hD
  replace hP := hP.sub (ws' := [(h0, .inr (1, [.int (0 : Int32), .int (-4 : Int32), .int (0 : Int32), .int (1 : Int32)]))]) [0] rfl
  replace hD := hD.sub (ws' := [(h0, .inr (1, [.int (0 : Int32), .int (-4 : Int32), .int (0 : Int32), .int (1 : Int32)]))]) [0] (by decide) rfl
  exact W.vret hx hb hr (x_mv (post := fun (_ : Nat → Nat) => True) (wf := fun u => [(h0, .inr (1, [.int (0 : Int32), .int (-4 : Int32), .int (0 : Int32), .int (1 : Int32)]))]) (u := (fun _ => 0)) hP hK hD hS trivial) hS.2.2 dX1_init_25
set_option maxHeartbeats 1000000 in
set_option maxRecDepth 100000 in
theorem c_X4_init (l : Launch) (D : va_G) (G : Nat → ClassId) (sz : Nat) (h0 : Nat) : Met l yX4_init wsX4_init ({ frames := 1, cells := 1, slots := 24, locals := 20 } : Room) (va_Pc [.ref h0] (xI D G sz [(h0, .inr (4, [.null, .int 0, .int 0]))])) (va_Qv (fun (_ : Nat → Nat) => True) (fun u t => xE D G (va_A [(h0, .inr (4, [.null, .int 0, .int 0]))] sz) [(h0, .inr (4, [.ref (u 0), .int (0 : Int32), .int (-1 : Int32)])), ((u 0), .inl (G 1, 24, .inr (.inl (fun _ => 0))))] t) (va_A [(h0, .inr (4, [.null, .int 0, .int 0]))] sz)) 1 24 (va_A [(h0, .inr (4, [.null, .int 0, .int 0]))] sz) := by
  refine Met.ofW (cc := cX4_init) (maxL := 1) (ret := none) (by decide) rfl ?_
  intro p e s m args below meth c s₁ B hml hv
  obtain ⟨rfl, hsz, hP, hK, hD0, hN⟩ := hv
  have hx := B.exec
  have hb := B.bytes
  have hr := B.returns
  have hts := atoms_spec (ws := wsX4_init) B.pre
  have hown : s.vm.findClass RX4 = some m.cls := findClass_of_methodNamed B.named
  have hlocks := B.notSynchronized
  have hin : meth.name = "<init>" := (name_of_methodNamed B.named B.method).1
  subst hsz
  have hD := hD0.self (sz := s.heap.size)
  generalize hAe : va_A [(h0, .inr (4, [.null, .int 0, .int 0]))] s.heap.size = A at hD ⊢
  have hA : ∀ q : Nat, s.heap.size ≤ q → A q := fun q h => by rw [← hAe]; exact Or.inr h
  have hS : va_S A s.heap s.heap [] := va_S.rf
  have inX4 : ∀ w ∈ wsX40, w ∈ wsX4_init := by decide +kernel
  have hac_long := hts (.arrayClass .long) (by decide +kernel)
  have fl9 := hts (.fieldLink RX4 9 "NewsCow$Sheet" "items" "[J") (by decide +kernel)
  have fl15 := hts (.fieldLink RX4 15 "NewsCow$Sheet" "lane" "I") (by decide +kernel)
  have fl19 := hts (.fieldLink RX4 19 "NewsCow$Sheet" "size" "I") (by decide +kernel)
  have hl := lv_entry ([.ref h0] : List Value) (n := 1) (Nat.le_of_ble_eq_true rfl)
  rw [lg_entry_eq]
  generalize (lg_sl ([.ref h0] : List Value) ++ List.replicate (1 - (lg_sl ([.ref h0] : List Value)).length) Slot.unset).toArray = ls at hl ⊢
  have hl : lv_has ls 1 [(0, .ref h0)] := hl
  refine lv_aload_n hx hb dX4_init_0 rfl (lv_at hl 0 rfl) ?_
  refine W.objInit hx hb hown (hts (.methodLink RX4 3 objectInit) (by decide +kernel)) (hts (.instanceMethod objectInit) (by decide +kernel)) (hts (.code objectInit ⟨#[0xb1]⟩ 1 none) (by decide +kernel)) rfl (by rw [hml]; exact hl.1) rfl dX4_init_1 (Nat.le_of_ble_eq_true rfl) (Nat.le_of_ble_eq_true rfl) ?_
  refine W.eq (g2 := F0 m 4 ls []) rfl ?_
  refine lv_aload_n hx hb dX4_init_4 rfl (lv_at hl 0 rfl) ?_
  refine lv_bipush (v := 24) hx hb dX4_init_5 (by decide) ?_
  refine va_newa (atype := .long) (ty := .long) (N' := 24) (a0 := (24, .inr (.inl (fun _ => 0)))) hx hb hac_long rfl hK hP hD hS hA (fun _ => rfl) (by decide) (by decide) (by decide) (Nat.le_of_ble_eq_true rfl) (Nat.le_of_ble_eq_true rfl) dX4_init_7 (fun q1 cA H hKn hP hD hS => ?_)
  obtain rfl := x_cls1 hKn
  refine W.widen (k := 1) (n := 24) (Nat.le_of_ble_eq_true rfl) (Nat.le_of_ble_eq_true rfl) ?_
  replace hP : va_P D vwCl [(h0, .inr (4, [.null, .int 0, .int 0])), (q1, .inl (G 1, 24, .inr (.inl (fun _ => 0))))] H := hP
  replace hD : va_D A [(h0, .inr (4, [.null, .int 0, .int 0])), (q1, .inl (G 1, 24, .inr (.inl (fun _ => 0))))] := hD
  refine va_putF (D := D) (ci := 4) (v := .ref q1) (ty := .array .long) (C := RX4) (T := TX4) (N := 3) hx hb hts inX4 tyX4 tyX4_ok nmX4 hown hK hP hD hS 0 rfl rfl 0 (by decide) fl9 (fun _ h9 => h9) rfl hin rfl (by decide +kernel) rfl rfl (Nat.le_of_ble_eq_true rfl) dX4_init_9 (fun H locs hP hD hS => ?_)
  replace hP : va_P D vwCl [(h0, .inr (4, [.ref q1, .int 0, .int 0])), (q1, .inl (G 1, 24, .inr (.inl (fun _ => 0))))] H := hP
  replace hD : va_D A [(h0, .inr (4, [.ref q1, .int 0, .int 0])), (q1, .inl (G 1, 24, .inr (.inl (fun _ => 0))))] := hD
  refine lv_aload_n hx hb dX4_init_12 rfl (lv_at hl 0 rfl) ?_
  refine lv_iconst (v := 0) hx hb dX4_init_13 (by decide) ?_
  refine va_put (D := D) (ci := 4) (v := .int (0 : Int32)) (ty := .int) (C := RX4) (T := TX4) (N := 3) hx hb hts inX4 tyX4 tyX4_ok nmX4 hown hK hP hD hS 0 rfl rfl 1 (by decide) fl15 (fun _ h9 => h9) rfl (by decide +kernel) rfl rfl (Nat.le_of_ble_eq_true rfl) dX4_init_14 (fun H locs hP hD hS => ?_)
  replace hP : va_P D vwCl [(h0, .inr (4, [.ref q1, .int (0 : Int32), .int 0])), (q1, .inl (G 1, 24, .inr (.inl (fun _ => 0))))] H := hP
  replace hD : va_D A [(h0, .inr (4, [.ref q1, .int (0 : Int32), .int 0])), (q1, .inl (G 1, 24, .inr (.inl (fun _ => 0))))] := hD
  refine lv_aload_n hx hb dX4_init_17 rfl (lv_at hl 0 rfl) ?_
  refine lv_iconst (v := -1) hx hb dX4_init_18 (by decide) ?_
  refine va_put (D := D) (ci := 4) (v := .int (-1 : Int32)) (ty := .int) (C := RX4) (T := TX4) (N := 3) hx hb hts inX4 tyX4 tyX4_ok nmX4 hown hK hP hD hS 0 rfl rfl 2 (by decide) fl19 (fun _ h9 => h9) rfl (by decide +kernel) rfl rfl (Nat.le_of_ble_eq_true rfl) dX4_init_19 (fun H locs hP hD hS => ?_)
  replace hP : va_P D vwCl [(h0, .inr (4, [.ref q1, .int (0 : Int32), .int (-1 : Int32)])), (q1, .inl (G 1, 24, .inr (.inl (fun _ => 0))))] H := hP
  replace hD : va_D A [(h0, .inr (4, [.ref q1, .int (0 : Int32), .int (-1 : Int32)])), (q1, .inl (G 1, 24, .inr (.inl (fun _ => 0))))] := hD
  replace hP := hP.sub (ws' := [(h0, .inr (4, [.ref q1, .int (0 : Int32), .int (-1 : Int32)])), (q1, .inl (G 1, 24, .inr (.inl (fun _ => 0))))]) [0, 1] rfl
  replace hD := hD.sub (ws' := [(h0, .inr (4, [.ref q1, .int (0 : Int32), .int (-1 : Int32)])), (q1, .inl (G 1, 24, .inr (.inl (fun _ => 0))))]) [0, 1] (by decide) rfl
  exact W.vret hx hb hr (x_mv (post := fun (_ : Nat → Nat) => True) (wf := fun u => [(h0, .inr (4, [.ref (u 0), .int (0 : Int32), .int (-1 : Int32)])), ((u 0), .inl (G 1, 24, .inr (.inl (fun _ => 0))))]) (u := (fun k => if k = 0 then q1 else 0)) hP hK hD hS trivial) hS.2.2 dX4_init_22
set_option maxHeartbeats 1000000 in
set_option maxRecDepth 100000 in
theorem c_X5_init (l : Launch) (D : va_G) (G : Nat → ClassId) (sz : Nat) (h0 : Nat) : Met l yX5_init wsX5_init ({ frames := 1, cells := 4, slots := 56, locals := 20 } : Room) (va_Pc [.ref h0] (xI D G sz [(h0, .inr (5, [.null, .int 0, .int 0, .null, .int 0, .int 0, .null, .null, .int 0]))])) (va_Qv (fun (_ : Nat → Nat) => True) (fun u t => xE D G (va_A [(h0, .inr (5, [.null, .int 0, .int 0, .null, .int 0, .int 0, .null, .null, .int 0]))] sz) [(h0, .inr (5, [.ref (u 0), .int (0 : Int32), .int (0 : Int32), .ref (u 1), .int (0 : Int32), .int (-4 : Int32), .ref (u 2), .ref (u 3), .int (0 : Int32)])), ((u 0), .inl (G 3, 40, .inl (fun _ => 0))), ((u 1), .inl (G 0, 8, .inl (fun _ => 0))), ((u 2), .inl (G 0, 4, .inl (fun _ => 0))), ((u 3), .inl (G 0, 4, .inl (fun _ => 0)))] t) (va_A [(h0, .inr (5, [.null, .int 0, .int 0, .null, .int 0, .int 0, .null, .null, .int 0]))] sz)) 4 56 (va_A [(h0, .inr (5, [.null, .int 0, .int 0, .null, .int 0, .int 0, .null, .null, .int 0]))] sz) := by
  refine Met.ofW (cc := cX5_init) (maxL := 1) (ret := none) (by decide) rfl ?_
  intro p e s m args below meth c s₁ B hml hv
  obtain ⟨rfl, hsz, hP, hK, hD0, hN⟩ := hv
  have hx := B.exec
  have hb := B.bytes
  have hr := B.returns
  have hts := atoms_spec (ws := wsX5_init) B.pre
  have hown : s.vm.findClass RX5 = some m.cls := findClass_of_methodNamed B.named
  have hlocks := B.notSynchronized
  have hin : meth.name = "<init>" := (name_of_methodNamed B.named B.method).1
  subst hsz
  have hD := hD0.self (sz := s.heap.size)
  generalize hAe : va_A [(h0, .inr (5, [.null, .int 0, .int 0, .null, .int 0, .int 0, .null, .null, .int 0]))] s.heap.size = A at hD ⊢
  have hA : ∀ q : Nat, s.heap.size ≤ q → A q := fun q h => by rw [← hAe]; exact Or.inr h
  have hS : va_S A s.heap s.heap [] := va_S.rf
  have inX5 : ∀ w ∈ wsX50, w ∈ wsX5_init := by decide +kernel
  have hac_char := hts (.arrayClass .char) (by decide +kernel)
  have fl9 := hts (.fieldLink RX5 9 "NewsCow$Tape" "letters" "[C") (by decide +kernel)
  have fl15 := hts (.fieldLink RX5 15 "NewsCow$Tape" "size" "I") (by decide +kernel)
  have fl19 := hts (.fieldLink RX5 19 "NewsCow$Tape" "place" "I") (by decide +kernel)
  have hac_int := hts (.arrayClass .int) (by decide +kernel)
  have fl22 := hts (.fieldLink RX5 22 "NewsCow$Tape" "milks" "[I") (by decide +kernel)
  have fl26 := hts (.fieldLink RX5 26 "NewsCow$Tape" "cows" "I") (by decide +kernel)
  have fl29 := hts (.fieldLink RX5 29 "NewsCow$Tape" "bearer" "I") (by decide +kernel)
  have fl32 := hts (.fieldLink RX5 32 "NewsCow$Tape" "kinds" "[I") (by decide +kernel)
  have fl35 := hts (.fieldLink RX5 35 "NewsCow$Tape" "fines" "[I") (by decide +kernel)
  have fl38 := hts (.fieldLink RX5 38 "NewsCow$Tape" "tasters" "I") (by decide +kernel)
  have hl := lv_entry ([.ref h0] : List Value) (n := 1) (Nat.le_of_ble_eq_true rfl)
  rw [lg_entry_eq]
  generalize (lg_sl ([.ref h0] : List Value) ++ List.replicate (1 - (lg_sl ([.ref h0] : List Value)).length) Slot.unset).toArray = ls at hl ⊢
  have hl : lv_has ls 1 [(0, .ref h0)] := hl
  refine lv_aload_n hx hb dX5_init_0 rfl (lv_at hl 0 rfl) ?_
  refine W.objInit hx hb hown (hts (.methodLink RX5 3 objectInit) (by decide +kernel)) (hts (.instanceMethod objectInit) (by decide +kernel)) (hts (.code objectInit ⟨#[0xb1]⟩ 1 none) (by decide +kernel)) rfl (by rw [hml]; exact hl.1) rfl dX5_init_1 (Nat.le_of_ble_eq_true rfl) (Nat.le_of_ble_eq_true rfl) ?_
  refine W.eq (g2 := F0 m 4 ls []) rfl ?_
  refine lv_aload_n hx hb dX5_init_4 rfl (lv_at hl 0 rfl) ?_
  refine lv_bipush (v := 40) hx hb dX5_init_5 (by decide) ?_
  refine va_newa (atype := .char) (ty := .char) (N' := 40) (a0 := (40, .inl (fun _ => 0))) hx hb hac_char rfl hK hP hD hS hA (fun _ => rfl) (by decide) (by decide) (by decide) (Nat.le_of_ble_eq_true rfl) (Nat.le_of_ble_eq_true rfl) dX5_init_7 (fun q1 cA H hKn hP hD hS => ?_)
  obtain rfl := x_cls3 hKn
  refine W.widen (k := 1) (n := 40) (Nat.le_of_ble_eq_true rfl) (Nat.le_of_ble_eq_true rfl) ?_
  replace hP : va_P D vwCl [(h0, .inr (5, [.null, .int 0, .int 0, .null, .int 0, .int 0, .null, .null, .int 0])), (q1, .inl (G 3, 40, .inl (fun _ => 0)))] H := hP
  replace hD : va_D A [(h0, .inr (5, [.null, .int 0, .int 0, .null, .int 0, .int 0, .null, .null, .int 0])), (q1, .inl (G 3, 40, .inl (fun _ => 0)))] := hD
  refine va_putF (D := D) (ci := 5) (v := .ref q1) (ty := .array .char) (C := RX5) (T := TX5) (N := 9) hx hb hts inX5 tyX5 tyX5_ok nmX5 hown hK hP hD hS 0 rfl rfl 0 (by decide) fl9 (fun _ h9 => h9) rfl hin rfl (by decide +kernel) rfl rfl (Nat.le_of_ble_eq_true rfl) dX5_init_9 (fun H locs hP hD hS => ?_)
  replace hP : va_P D vwCl [(h0, .inr (5, [.ref q1, .int 0, .int 0, .null, .int 0, .int 0, .null, .null, .int 0])), (q1, .inl (G 3, 40, .inl (fun _ => 0)))] H := hP
  replace hD : va_D A [(h0, .inr (5, [.ref q1, .int 0, .int 0, .null, .int 0, .int 0, .null, .null, .int 0])), (q1, .inl (G 3, 40, .inl (fun _ => 0)))] := hD
  refine lv_aload_n hx hb dX5_init_12 rfl (lv_at hl 0 rfl) ?_
  refine lv_iconst (v := 0) hx hb dX5_init_13 (by decide) ?_
  refine va_put (D := D) (ci := 5) (v := .int (0 : Int32)) (ty := .int) (C := RX5) (T := TX5) (N := 9) hx hb hts inX5 tyX5 tyX5_ok nmX5 hown hK hP hD hS 0 rfl rfl 1 (by decide) fl15 (fun _ h9 => h9) rfl (by decide +kernel) rfl rfl (Nat.le_of_ble_eq_true rfl) dX5_init_14 (fun H locs hP hD hS => ?_)
  replace hP : va_P D vwCl [(h0, .inr (5, [.ref q1, .int (0 : Int32), .int 0, .null, .int 0, .int 0, .null, .null, .int 0])), (q1, .inl (G 3, 40, .inl (fun _ => 0)))] H := hP
  replace hD : va_D A [(h0, .inr (5, [.ref q1, .int (0 : Int32), .int 0, .null, .int 0, .int 0, .null, .null, .int 0])), (q1, .inl (G 3, 40, .inl (fun _ => 0)))] := hD
  refine lv_aload_n hx hb dX5_init_17 rfl (lv_at hl 0 rfl) ?_
  refine lv_iconst (v := 0) hx hb dX5_init_18 (by decide) ?_
  refine va_put (D := D) (ci := 5) (v := .int (0 : Int32)) (ty := .int) (C := RX5) (T := TX5) (N := 9) hx hb hts inX5 tyX5 tyX5_ok nmX5 hown hK hP hD hS 0 rfl rfl 2 (by decide) fl19 (fun _ h9 => h9) rfl (by decide +kernel) rfl rfl (Nat.le_of_ble_eq_true rfl) dX5_init_19 (fun H locs hP hD hS => ?_)
  replace hP : va_P D vwCl [(h0, .inr (5, [.ref q1, .int (0 : Int32), .int (0 : Int32), .null, .int 0, .int 0, .null, .null, .int 0])), (q1, .inl (G 3, 40, .inl (fun _ => 0)))] H := hP
  replace hD : va_D A [(h0, .inr (5, [.ref q1, .int (0 : Int32), .int (0 : Int32), .null, .int 0, .int 0, .null, .null, .int 0])), (q1, .inl (G 3, 40, .inl (fun _ => 0)))] := hD
  refine lv_aload_n hx hb dX5_init_22 rfl (lv_at hl 0 rfl) ?_
  refine lv_bipush (v := 8) hx hb dX5_init_23 (by decide) ?_
  refine va_newa (atype := .int) (ty := .int) (N' := 8) (a0 := (8, .inl (fun _ => 0))) hx hb hac_int rfl hK hP hD hS hA (fun _ => rfl) (by decide) (by decide) (by decide) (Nat.le_of_ble_eq_true rfl) (Nat.le_of_ble_eq_true rfl) dX5_init_25 (fun q2 cA H hKn hP hD hS => ?_)
  obtain rfl := x_cls0 hKn
  refine W.widen (k := 2) (n := 48) (Nat.le_of_ble_eq_true rfl) (Nat.le_of_ble_eq_true rfl) ?_
  replace hP : va_P D vwCl [(h0, .inr (5, [.ref q1, .int (0 : Int32), .int (0 : Int32), .null, .int 0, .int 0, .null, .null, .int 0])), (q1, .inl (G 3, 40, .inl (fun _ => 0))), (q2, .inl (G 0, 8, .inl (fun _ => 0)))] H := hP
  replace hD : va_D A [(h0, .inr (5, [.ref q1, .int (0 : Int32), .int (0 : Int32), .null, .int 0, .int 0, .null, .null, .int 0])), (q1, .inl (G 3, 40, .inl (fun _ => 0))), (q2, .inl (G 0, 8, .inl (fun _ => 0)))] := hD
  refine va_putF (D := D) (ci := 5) (v := .ref q2) (ty := .array .int) (C := RX5) (T := TX5) (N := 9) hx hb hts inX5 tyX5 tyX5_ok nmX5 hown hK hP hD hS 0 rfl rfl 3 (by decide) fl22 (fun _ h9 => h9) rfl hin rfl (by decide +kernel) rfl rfl (Nat.le_of_ble_eq_true rfl) dX5_init_27 (fun H locs hP hD hS => ?_)
  replace hP : va_P D vwCl [(h0, .inr (5, [.ref q1, .int (0 : Int32), .int (0 : Int32), .ref q2, .int 0, .int 0, .null, .null, .int 0])), (q1, .inl (G 3, 40, .inl (fun _ => 0))), (q2, .inl (G 0, 8, .inl (fun _ => 0)))] H := hP
  replace hD : va_D A [(h0, .inr (5, [.ref q1, .int (0 : Int32), .int (0 : Int32), .ref q2, .int 0, .int 0, .null, .null, .int 0])), (q1, .inl (G 3, 40, .inl (fun _ => 0))), (q2, .inl (G 0, 8, .inl (fun _ => 0)))] := hD
  refine lv_aload_n hx hb dX5_init_30 rfl (lv_at hl 0 rfl) ?_
  refine lv_iconst (v := 0) hx hb dX5_init_31 (by decide) ?_
  refine va_put (D := D) (ci := 5) (v := .int (0 : Int32)) (ty := .int) (C := RX5) (T := TX5) (N := 9) hx hb hts inX5 tyX5 tyX5_ok nmX5 hown hK hP hD hS 0 rfl rfl 4 (by decide) fl26 (fun _ h9 => h9) rfl (by decide +kernel) rfl rfl (Nat.le_of_ble_eq_true rfl) dX5_init_32 (fun H locs hP hD hS => ?_)
  replace hP : va_P D vwCl [(h0, .inr (5, [.ref q1, .int (0 : Int32), .int (0 : Int32), .ref q2, .int (0 : Int32), .int 0, .null, .null, .int 0])), (q1, .inl (G 3, 40, .inl (fun _ => 0))), (q2, .inl (G 0, 8, .inl (fun _ => 0)))] H := hP
  replace hD : va_D A [(h0, .inr (5, [.ref q1, .int (0 : Int32), .int (0 : Int32), .ref q2, .int (0 : Int32), .int 0, .null, .null, .int 0])), (q1, .inl (G 3, 40, .inl (fun _ => 0))), (q2, .inl (G 0, 8, .inl (fun _ => 0)))] := hD
  refine lv_aload_n hx hb dX5_init_35 rfl (lv_at hl 0 rfl) ?_
  refine lv_bipush (v := -4) hx hb dX5_init_36 (by decide) ?_
  refine va_put (D := D) (ci := 5) (v := .int (-4 : Int32)) (ty := .int) (C := RX5) (T := TX5) (N := 9) hx hb hts inX5 tyX5 tyX5_ok nmX5 hown hK hP hD hS 0 rfl rfl 5 (by decide) fl29 (fun _ h9 => h9) rfl (by decide +kernel) rfl rfl (Nat.le_of_ble_eq_true rfl) dX5_init_38 (fun H locs hP hD hS => ?_)
  replace hP : va_P D vwCl [(h0, .inr (5, [.ref q1, .int (0 : Int32), .int (0 : Int32), .ref q2, .int (0 : Int32), .int (-4 : Int32), .null, .null, .int 0])), (q1, .inl (G 3, 40, .inl (fun _ => 0))), (q2, .inl (G 0, 8, .inl (fun _ => 0)))] H := hP
  replace hD : va_D A [(h0, .inr (5, [.ref q1, .int (0 : Int32), .int (0 : Int32), .ref q2, .int (0 : Int32), .int (-4 : Int32), .null, .null, .int 0])), (q1, .inl (G 3, 40, .inl (fun _ => 0))), (q2, .inl (G 0, 8, .inl (fun _ => 0)))] := hD
  refine lv_aload_n hx hb dX5_init_41 rfl (lv_at hl 0 rfl) ?_
  refine lv_iconst (v := 4) hx hb dX5_init_42 (by decide) ?_
  refine va_newa (atype := .int) (ty := .int) (N' := 4) (a0 := (4, .inl (fun _ => 0))) hx hb hac_int rfl hK hP hD hS hA (fun _ => rfl) (by decide) (by decide) (by decide) (Nat.le_of_ble_eq_true rfl) (Nat.le_of_ble_eq_true rfl) dX5_init_43 (fun q3 cA H hKn hP hD hS => ?_)
  obtain rfl := x_cls0 hKn
  refine W.widen (k := 3) (n := 52) (Nat.le_of_ble_eq_true rfl) (Nat.le_of_ble_eq_true rfl) ?_
  replace hP : va_P D vwCl [(h0, .inr (5, [.ref q1, .int (0 : Int32), .int (0 : Int32), .ref q2, .int (0 : Int32), .int (-4 : Int32), .null, .null, .int 0])), (q1, .inl (G 3, 40, .inl (fun _ => 0))), (q2, .inl (G 0, 8, .inl (fun _ => 0))), (q3, .inl (G 0, 4, .inl (fun _ => 0)))] H := hP
  replace hD : va_D A [(h0, .inr (5, [.ref q1, .int (0 : Int32), .int (0 : Int32), .ref q2, .int (0 : Int32), .int (-4 : Int32), .null, .null, .int 0])), (q1, .inl (G 3, 40, .inl (fun _ => 0))), (q2, .inl (G 0, 8, .inl (fun _ => 0))), (q3, .inl (G 0, 4, .inl (fun _ => 0)))] := hD
  refine va_putF (D := D) (ci := 5) (v := .ref q3) (ty := .array .int) (C := RX5) (T := TX5) (N := 9) hx hb hts inX5 tyX5 tyX5_ok nmX5 hown hK hP hD hS 0 rfl rfl 6 (by decide) fl32 (fun _ h9 => h9) rfl hin rfl (by decide +kernel) rfl rfl (Nat.le_of_ble_eq_true rfl) dX5_init_45 (fun H locs hP hD hS => ?_)
  replace hP : va_P D vwCl [(h0, .inr (5, [.ref q1, .int (0 : Int32), .int (0 : Int32), .ref q2, .int (0 : Int32), .int (-4 : Int32), .ref q3, .null, .int 0])), (q1, .inl (G 3, 40, .inl (fun _ => 0))), (q2, .inl (G 0, 8, .inl (fun _ => 0))), (q3, .inl (G 0, 4, .inl (fun _ => 0)))] H := hP
  replace hD : va_D A [(h0, .inr (5, [.ref q1, .int (0 : Int32), .int (0 : Int32), .ref q2, .int (0 : Int32), .int (-4 : Int32), .ref q3, .null, .int 0])), (q1, .inl (G 3, 40, .inl (fun _ => 0))), (q2, .inl (G 0, 8, .inl (fun _ => 0))), (q3, .inl (G 0, 4, .inl (fun _ => 0)))] := hD
  refine lv_aload_n hx hb dX5_init_48 rfl (lv_at hl 0 rfl) ?_
  refine lv_iconst (v := 4) hx hb dX5_init_49 (by decide) ?_
  refine va_newa (atype := .int) (ty := .int) (N' := 4) (a0 := (4, .inl (fun _ => 0))) hx hb hac_int rfl hK hP hD hS hA (fun _ => rfl) (by decide) (by decide) (by decide) (Nat.le_of_ble_eq_true rfl) (Nat.le_of_ble_eq_true rfl) dX5_init_50 (fun q4 cA H hKn hP hD hS => ?_)
  obtain rfl := x_cls0 hKn
  refine W.widen (k := 4) (n := 56) (Nat.le_of_ble_eq_true rfl) (Nat.le_of_ble_eq_true rfl) ?_
  replace hP : va_P D vwCl [(h0, .inr (5, [.ref q1, .int (0 : Int32), .int (0 : Int32), .ref q2, .int (0 : Int32), .int (-4 : Int32), .ref q3, .null, .int 0])), (q1, .inl (G 3, 40, .inl (fun _ => 0))), (q2, .inl (G 0, 8, .inl (fun _ => 0))), (q3, .inl (G 0, 4, .inl (fun _ => 0))), (q4, .inl (G 0, 4, .inl (fun _ => 0)))] H := hP
  replace hD : va_D A [(h0, .inr (5, [.ref q1, .int (0 : Int32), .int (0 : Int32), .ref q2, .int (0 : Int32), .int (-4 : Int32), .ref q3, .null, .int 0])), (q1, .inl (G 3, 40, .inl (fun _ => 0))), (q2, .inl (G 0, 8, .inl (fun _ => 0))), (q3, .inl (G 0, 4, .inl (fun _ => 0))), (q4, .inl (G 0, 4, .inl (fun _ => 0)))] := hD
  refine va_putF (D := D) (ci := 5) (v := .ref q4) (ty := .array .int) (C := RX5) (T := TX5) (N := 9) hx hb hts inX5 tyX5 tyX5_ok nmX5 hown hK hP hD hS 0 rfl rfl 7 (by decide) fl35 (fun _ h9 => h9) rfl hin rfl (by decide +kernel) rfl rfl (Nat.le_of_ble_eq_true rfl) dX5_init_52 (fun H locs hP hD hS => ?_)
  replace hP : va_P D vwCl [(h0, .inr (5, [.ref q1, .int (0 : Int32), .int (0 : Int32), .ref q2, .int (0 : Int32), .int (-4 : Int32), .ref q3, .ref q4, .int 0])), (q1, .inl (G 3, 40, .inl (fun _ => 0))), (q2, .inl (G 0, 8, .inl (fun _ => 0))), (q3, .inl (G 0, 4, .inl (fun _ => 0))), (q4, .inl (G 0, 4, .inl (fun _ => 0)))] H := hP
  replace hD : va_D A [(h0, .inr (5, [.ref q1, .int (0 : Int32), .int (0 : Int32), .ref q2, .int (0 : Int32), .int (-4 : Int32), .ref q3, .ref q4, .int 0])), (q1, .inl (G 3, 40, .inl (fun _ => 0))), (q2, .inl (G 0, 8, .inl (fun _ => 0))), (q3, .inl (G 0, 4, .inl (fun _ => 0))), (q4, .inl (G 0, 4, .inl (fun _ => 0)))] := hD
  refine lv_aload_n hx hb dX5_init_55 rfl (lv_at hl 0 rfl) ?_
  refine lv_iconst (v := 0) hx hb dX5_init_56 (by decide) ?_
  refine va_put (D := D) (ci := 5) (v := .int (0 : Int32)) (ty := .int) (C := RX5) (T := TX5) (N := 9) hx hb hts inX5 tyX5 tyX5_ok nmX5 hown hK hP hD hS 0 rfl rfl 8 (by decide) fl38 (fun _ h9 => h9) rfl (by decide +kernel) rfl rfl (Nat.le_of_ble_eq_true rfl) dX5_init_57 (fun H locs hP hD hS => ?_)
  replace hP : va_P D vwCl [(h0, .inr (5, [.ref q1, .int (0 : Int32), .int (0 : Int32), .ref q2, .int (0 : Int32), .int (-4 : Int32), .ref q3, .ref q4, .int (0 : Int32)])), (q1, .inl (G 3, 40, .inl (fun _ => 0))), (q2, .inl (G 0, 8, .inl (fun _ => 0))), (q3, .inl (G 0, 4, .inl (fun _ => 0))), (q4, .inl (G 0, 4, .inl (fun _ => 0)))] H := hP
  replace hD : va_D A [(h0, .inr (5, [.ref q1, .int (0 : Int32), .int (0 : Int32), .ref q2, .int (0 : Int32), .int (-4 : Int32), .ref q3, .ref q4, .int (0 : Int32)])), (q1, .inl (G 3, 40, .inl (fun _ => 0))), (q2, .inl (G 0, 8, .inl (fun _ => 0))), (q3, .inl (G 0, 4, .inl (fun _ => 0))), (q4, .inl (G 0, 4, .inl (fun _ => 0)))] := hD
  replace hP := hP.sub (ws' := [(h0, .inr (5, [.ref q1, .int (0 : Int32), .int (0 : Int32), .ref q2, .int (0 : Int32), .int (-4 : Int32), .ref q3, .ref q4, .int (0 : Int32)])), (q1, .inl (G 3, 40, .inl (fun _ => 0))), (q2, .inl (G 0, 8, .inl (fun _ => 0))), (q3, .inl (G 0, 4, .inl (fun _ => 0))), (q4, .inl (G 0, 4, .inl (fun _ => 0)))]) [0, 1, 2, 3, 4] rfl
  replace hD := hD.sub (ws' := [(h0, .inr (5, [.ref q1, .int (0 : Int32), .int (0 : Int32), .ref q2, .int (0 : Int32), .int (-4 : Int32), .ref q3, .ref q4, .int (0 : Int32)])), (q1, .inl (G 3, 40, .inl (fun _ => 0))), (q2, .inl (G 0, 8, .inl (fun _ => 0))), (q3, .inl (G 0, 4, .inl (fun _ => 0))), (q4, .inl (G 0, 4, .inl (fun _ => 0)))]) [0, 1, 2, 3, 4] (by decide) rfl
  exact W.vret hx hb hr (x_mv (post := fun (_ : Nat → Nat) => True) (wf := fun u => [(h0, .inr (5, [.ref (u 0), .int (0 : Int32), .int (0 : Int32), .ref (u 1), .int (0 : Int32), .int (-4 : Int32), .ref (u 2), .ref (u 3), .int (0 : Int32)])), ((u 0), .inl (G 3, 40, .inl (fun _ => 0))), ((u 1), .inl (G 0, 8, .inl (fun _ => 0))), ((u 2), .inl (G 0, 4, .inl (fun _ => 0))), ((u 3), .inl (G 0, 4, .inl (fun _ => 0)))]) (u := (fun k => if k = 0 then q1 else if k = 1 then q2 else if k = 2 then q3 else if k = 3 then q4 else 0)) hP hK hD hS trivial) hS.2.2 dX5_init_60
set_option maxHeartbeats 1000000 in
set_option maxRecDepth 100000 in
theorem c_X2_init (l : Launch) (D : va_G) (G : Nat → ClassId) (sz : Nat) (h0 : Nat) : Met l yX2_init wsX2_init ({ frames := 1, cells := 4, slots := 1024, locals := 20 } : Room) (va_Pc [.ref h0] (xI D G sz [(h0, .inr (2, [.int 0, .int 0, .null, .null, .int 0, .null, .null, .int 0, .int 0]))])) (va_Qv (fun (_ : Nat → Nat) => True) (fun u t => xE D G (va_A [(h0, .inr (2, [.int 0, .int 0, .null, .null, .int 0, .null, .null, .int 0, .int 0]))] sz) [(h0, .inr (2, [.int (0 : Int32), .int (0 : Int32), .ref (u 0), .ref (u 1), .int (0 : Int32), .ref (u 2), .ref (u 3), .int (-4 : Int32), .int (-4 : Int32)])), ((u 0), .inl (G 0, 256, .inl (fun _ => 0))), ((u 1), .inl (G 0, 256, .inl (fun _ => 0))), ((u 2), .inl (G 2, 256, .inl (fun _ => 0))), ((u 3), .inl (G 0, 256, .inl (fun _ => 0)))] t) (va_A [(h0, .inr (2, [.int 0, .int 0, .null, .null, .int 0, .null, .null, .int 0, .int 0]))] sz)) 4 1024 (va_A [(h0, .inr (2, [.int 0, .int 0, .null, .null, .int 0, .null, .null, .int 0, .int 0]))] sz) := by
  refine Met.ofW (cc := cX2_init) (maxL := 1) (ret := none) (by decide) rfl ?_
  intro p e s m args below meth c s₁ B hml hv
  obtain ⟨rfl, hsz, hP, hK, hD0, hN⟩ := hv
  have hx := B.exec
  have hb := B.bytes
  have hr := B.returns
  have hts := atoms_spec (ws := wsX2_init) B.pre
  have hown : s.vm.findClass RX2 = some m.cls := findClass_of_methodNamed B.named
  have hlocks := B.notSynchronized
  have hin : meth.name = "<init>" := (name_of_methodNamed B.named B.method).1
  subst hsz
  have hD := hD0.self (sz := s.heap.size)
  generalize hAe : va_A [(h0, .inr (2, [.int 0, .int 0, .null, .null, .int 0, .null, .null, .int 0, .int 0]))] s.heap.size = A at hD ⊢
  have hA : ∀ q : Nat, s.heap.size ≤ q → A q := fun q h => by rw [← hAe]; exact Or.inr h
  have hS : va_S A s.heap s.heap [] := va_S.rf
  have inX2 : ∀ w ∈ wsX20, w ∈ wsX2_init := by decide +kernel
  have fl9 := hts (.fieldLink RX2 9 "NewsCow$Plan" "mayBe" "I") (by decide +kernel)
  have fl15 := hts (.fieldLink RX2 15 "NewsCow$Plan" "lastMix" "I") (by decide +kernel)
  have hac_int := hts (.arrayClass .int) (by decide +kernel)
  have fl18 := hts (.fieldLink RX2 18 "NewsCow$Plan" "told" "[I") (by decide +kernel)
  have fl22 := hts (.fieldLink RX2 22 "NewsCow$Plan" "cuts" "[I") (by decide +kernel)
  have fl25 := hts (.fieldLink RX2 25 "NewsCow$Plan" "cutCount" "I") (by decide +kernel)
  have hac_boolean := hts (.arrayClass .boolean) (by decide +kernel)
  have fl28 := hts (.fieldLink RX2 28 "NewsCow$Plan" "isCut" "[Z") (by decide +kernel)
  have fl32 := hts (.fieldLink RX2 32 "NewsCow$Plan" "depths" "[I") (by decide +kernel)
  have fl35 := hts (.fieldLink RX2 35 "NewsCow$Plan" "lesser" "I") (by decide +kernel)
  have fl38 := hts (.fieldLink RX2 38 "NewsCow$Plan" "greater" "I") (by decide +kernel)
  have hl := lv_entry ([.ref h0] : List Value) (n := 1) (Nat.le_of_ble_eq_true rfl)
  rw [lg_entry_eq]
  generalize (lg_sl ([.ref h0] : List Value) ++ List.replicate (1 - (lg_sl ([.ref h0] : List Value)).length) Slot.unset).toArray = ls at hl ⊢
  have hl : lv_has ls 1 [(0, .ref h0)] := hl
  refine lv_aload_n hx hb dX2_init_0 rfl (lv_at hl 0 rfl) ?_
  refine W.objInit hx hb hown (hts (.methodLink RX2 3 objectInit) (by decide +kernel)) (hts (.instanceMethod objectInit) (by decide +kernel)) (hts (.code objectInit ⟨#[0xb1]⟩ 1 none) (by decide +kernel)) rfl (by rw [hml]; exact hl.1) rfl dX2_init_1 (Nat.le_of_ble_eq_true rfl) (Nat.le_of_ble_eq_true rfl) ?_
  refine W.eq (g2 := F0 m 4 ls []) rfl ?_
  refine lv_aload_n hx hb dX2_init_4 rfl (lv_at hl 0 rfl) ?_
  refine lv_iconst (v := 0) hx hb dX2_init_5 (by decide) ?_
  refine va_put (D := D) (ci := 2) (v := .int (0 : Int32)) (ty := .int) (C := RX2) (T := TX2) (N := 9) hx hb hts inX2 tyX2 tyX2_ok nmX2 hown hK hP hD hS 0 rfl rfl 0 (by decide) fl9 (fun _ h9 => h9) rfl (by decide +kernel) rfl rfl (Nat.le_of_ble_eq_true rfl) dX2_init_6 (fun H locs hP hD hS => ?_)
  replace hP : va_P D vwCl [(h0, .inr (2, [.int (0 : Int32), .int 0, .null, .null, .int 0, .null, .null, .int 0, .int 0]))] H := hP
  replace hD : va_D A [(h0, .inr (2, [.int (0 : Int32), .int 0, .null, .null, .int 0, .null, .null, .int 0, .int 0]))] := hD
  refine lv_aload_n hx hb dX2_init_9 rfl (lv_at hl 0 rfl) ?_
  refine lv_iconst (v := 0) hx hb dX2_init_10 (by decide) ?_
  refine va_put (D := D) (ci := 2) (v := .int (0 : Int32)) (ty := .int) (C := RX2) (T := TX2) (N := 9) hx hb hts inX2 tyX2 tyX2_ok nmX2 hown hK hP hD hS 0 rfl rfl 1 (by decide) fl15 (fun _ h9 => h9) rfl (by decide +kernel) rfl rfl (Nat.le_of_ble_eq_true rfl) dX2_init_11 (fun H locs hP hD hS => ?_)
  replace hP : va_P D vwCl [(h0, .inr (2, [.int (0 : Int32), .int (0 : Int32), .null, .null, .int 0, .null, .null, .int 0, .int 0]))] H := hP
  replace hD : va_D A [(h0, .inr (2, [.int (0 : Int32), .int (0 : Int32), .null, .null, .int 0, .null, .null, .int 0, .int 0]))] := hD
  refine lv_aload_n hx hb dX2_init_14 rfl (lv_at hl 0 rfl) ?_
  refine lv_sipush (v := 256) hx hb dX2_init_15 (by decide) ?_
  refine va_newa (atype := .int) (ty := .int) (N' := 256) (a0 := (256, .inl (fun _ => 0))) hx hb hac_int rfl hK hP hD hS hA (fun _ => rfl) (by decide) (by decide) (by decide) (Nat.le_of_ble_eq_true rfl) (Nat.le_of_ble_eq_true rfl) dX2_init_18 (fun q1 cA H hKn hP hD hS => ?_)
  obtain rfl := x_cls0 hKn
  refine W.widen (k := 1) (n := 256) (Nat.le_of_ble_eq_true rfl) (Nat.le_of_ble_eq_true rfl) ?_
  replace hP : va_P D vwCl [(h0, .inr (2, [.int (0 : Int32), .int (0 : Int32), .null, .null, .int 0, .null, .null, .int 0, .int 0])), (q1, .inl (G 0, 256, .inl (fun _ => 0)))] H := hP
  replace hD : va_D A [(h0, .inr (2, [.int (0 : Int32), .int (0 : Int32), .null, .null, .int 0, .null, .null, .int 0, .int 0])), (q1, .inl (G 0, 256, .inl (fun _ => 0)))] := hD
  refine va_putF (D := D) (ci := 2) (v := .ref q1) (ty := .array .int) (C := RX2) (T := TX2) (N := 9) hx hb hts inX2 tyX2 tyX2_ok nmX2 hown hK hP hD hS 0 rfl rfl 2 (by decide) fl18 (fun _ h9 => h9) rfl hin rfl (by decide +kernel) rfl rfl (Nat.le_of_ble_eq_true rfl) dX2_init_20 (fun H locs hP hD hS => ?_)
  replace hP : va_P D vwCl [(h0, .inr (2, [.int (0 : Int32), .int (0 : Int32), .ref q1, .null, .int 0, .null, .null, .int 0, .int 0])), (q1, .inl (G 0, 256, .inl (fun _ => 0)))] H := hP
  replace hD : va_D A [(h0, .inr (2, [.int (0 : Int32), .int (0 : Int32), .ref q1, .null, .int 0, .null, .null, .int 0, .int 0])), (q1, .inl (G 0, 256, .inl (fun _ => 0)))] := hD
  refine lv_aload_n hx hb dX2_init_23 rfl (lv_at hl 0 rfl) ?_
  refine lv_sipush (v := 256) hx hb dX2_init_24 (by decide) ?_
  refine va_newa (atype := .int) (ty := .int) (N' := 256) (a0 := (256, .inl (fun _ => 0))) hx hb hac_int rfl hK hP hD hS hA (fun _ => rfl) (by decide) (by decide) (by decide) (Nat.le_of_ble_eq_true rfl) (Nat.le_of_ble_eq_true rfl) dX2_init_27 (fun q2 cA H hKn hP hD hS => ?_)
  obtain rfl := x_cls0 hKn
  refine W.widen (k := 2) (n := 512) (Nat.le_of_ble_eq_true rfl) (Nat.le_of_ble_eq_true rfl) ?_
  replace hP : va_P D vwCl [(h0, .inr (2, [.int (0 : Int32), .int (0 : Int32), .ref q1, .null, .int 0, .null, .null, .int 0, .int 0])), (q1, .inl (G 0, 256, .inl (fun _ => 0))), (q2, .inl (G 0, 256, .inl (fun _ => 0)))] H := hP
  replace hD : va_D A [(h0, .inr (2, [.int (0 : Int32), .int (0 : Int32), .ref q1, .null, .int 0, .null, .null, .int 0, .int 0])), (q1, .inl (G 0, 256, .inl (fun _ => 0))), (q2, .inl (G 0, 256, .inl (fun _ => 0)))] := hD
  refine va_putF (D := D) (ci := 2) (v := .ref q2) (ty := .array .int) (C := RX2) (T := TX2) (N := 9) hx hb hts inX2 tyX2 tyX2_ok nmX2 hown hK hP hD hS 0 rfl rfl 3 (by decide) fl22 (fun _ h9 => h9) rfl hin rfl (by decide +kernel) rfl rfl (Nat.le_of_ble_eq_true rfl) dX2_init_29 (fun H locs hP hD hS => ?_)
  replace hP : va_P D vwCl [(h0, .inr (2, [.int (0 : Int32), .int (0 : Int32), .ref q1, .ref q2, .int 0, .null, .null, .int 0, .int 0])), (q1, .inl (G 0, 256, .inl (fun _ => 0))), (q2, .inl (G 0, 256, .inl (fun _ => 0)))] H := hP
  replace hD : va_D A [(h0, .inr (2, [.int (0 : Int32), .int (0 : Int32), .ref q1, .ref q2, .int 0, .null, .null, .int 0, .int 0])), (q1, .inl (G 0, 256, .inl (fun _ => 0))), (q2, .inl (G 0, 256, .inl (fun _ => 0)))] := hD
  refine lv_aload_n hx hb dX2_init_32 rfl (lv_at hl 0 rfl) ?_
  refine lv_iconst (v := 0) hx hb dX2_init_33 (by decide) ?_
  refine va_put (D := D) (ci := 2) (v := .int (0 : Int32)) (ty := .int) (C := RX2) (T := TX2) (N := 9) hx hb hts inX2 tyX2 tyX2_ok nmX2 hown hK hP hD hS 0 rfl rfl 4 (by decide) fl25 (fun _ h9 => h9) rfl (by decide +kernel) rfl rfl (Nat.le_of_ble_eq_true rfl) dX2_init_34 (fun H locs hP hD hS => ?_)
  replace hP : va_P D vwCl [(h0, .inr (2, [.int (0 : Int32), .int (0 : Int32), .ref q1, .ref q2, .int (0 : Int32), .null, .null, .int 0, .int 0])), (q1, .inl (G 0, 256, .inl (fun _ => 0))), (q2, .inl (G 0, 256, .inl (fun _ => 0)))] H := hP
  replace hD : va_D A [(h0, .inr (2, [.int (0 : Int32), .int (0 : Int32), .ref q1, .ref q2, .int (0 : Int32), .null, .null, .int 0, .int 0])), (q1, .inl (G 0, 256, .inl (fun _ => 0))), (q2, .inl (G 0, 256, .inl (fun _ => 0)))] := hD
  refine lv_aload_n hx hb dX2_init_37 rfl (lv_at hl 0 rfl) ?_
  refine lv_sipush (v := 256) hx hb dX2_init_38 (by decide) ?_
  refine va_newa (atype := .boolean) (ty := .boolean) (N' := 256) (a0 := (256, .inl (fun _ => 0))) hx hb hac_boolean rfl hK hP hD hS hA (fun _ => rfl) (by decide) (by decide) (by decide) (Nat.le_of_ble_eq_true rfl) (Nat.le_of_ble_eq_true rfl) dX2_init_41 (fun q3 cA H hKn hP hD hS => ?_)
  obtain rfl := x_cls2 hKn
  refine W.widen (k := 3) (n := 768) (Nat.le_of_ble_eq_true rfl) (Nat.le_of_ble_eq_true rfl) ?_
  replace hP : va_P D vwCl [(h0, .inr (2, [.int (0 : Int32), .int (0 : Int32), .ref q1, .ref q2, .int (0 : Int32), .null, .null, .int 0, .int 0])), (q1, .inl (G 0, 256, .inl (fun _ => 0))), (q2, .inl (G 0, 256, .inl (fun _ => 0))), (q3, .inl (G 2, 256, .inl (fun _ => 0)))] H := hP
  replace hD : va_D A [(h0, .inr (2, [.int (0 : Int32), .int (0 : Int32), .ref q1, .ref q2, .int (0 : Int32), .null, .null, .int 0, .int 0])), (q1, .inl (G 0, 256, .inl (fun _ => 0))), (q2, .inl (G 0, 256, .inl (fun _ => 0))), (q3, .inl (G 2, 256, .inl (fun _ => 0)))] := hD
  refine va_putF (D := D) (ci := 2) (v := .ref q3) (ty := .array .boolean) (C := RX2) (T := TX2) (N := 9) hx hb hts inX2 tyX2 tyX2_ok nmX2 hown hK hP hD hS 0 rfl rfl 5 (by decide) fl28 (fun _ h9 => h9) rfl hin rfl (by decide +kernel) rfl rfl (Nat.le_of_ble_eq_true rfl) dX2_init_43 (fun H locs hP hD hS => ?_)
  replace hP : va_P D vwCl [(h0, .inr (2, [.int (0 : Int32), .int (0 : Int32), .ref q1, .ref q2, .int (0 : Int32), .ref q3, .null, .int 0, .int 0])), (q1, .inl (G 0, 256, .inl (fun _ => 0))), (q2, .inl (G 0, 256, .inl (fun _ => 0))), (q3, .inl (G 2, 256, .inl (fun _ => 0)))] H := hP
  replace hD : va_D A [(h0, .inr (2, [.int (0 : Int32), .int (0 : Int32), .ref q1, .ref q2, .int (0 : Int32), .ref q3, .null, .int 0, .int 0])), (q1, .inl (G 0, 256, .inl (fun _ => 0))), (q2, .inl (G 0, 256, .inl (fun _ => 0))), (q3, .inl (G 2, 256, .inl (fun _ => 0)))] := hD
  refine lv_aload_n hx hb dX2_init_46 rfl (lv_at hl 0 rfl) ?_
  refine lv_sipush (v := 256) hx hb dX2_init_47 (by decide) ?_
  refine va_newa (atype := .int) (ty := .int) (N' := 256) (a0 := (256, .inl (fun _ => 0))) hx hb hac_int rfl hK hP hD hS hA (fun _ => rfl) (by decide) (by decide) (by decide) (Nat.le_of_ble_eq_true rfl) (Nat.le_of_ble_eq_true rfl) dX2_init_50 (fun q4 cA H hKn hP hD hS => ?_)
  obtain rfl := x_cls0 hKn
  refine W.widen (k := 4) (n := 1024) (Nat.le_of_ble_eq_true rfl) (Nat.le_of_ble_eq_true rfl) ?_
  replace hP : va_P D vwCl [(h0, .inr (2, [.int (0 : Int32), .int (0 : Int32), .ref q1, .ref q2, .int (0 : Int32), .ref q3, .null, .int 0, .int 0])), (q1, .inl (G 0, 256, .inl (fun _ => 0))), (q2, .inl (G 0, 256, .inl (fun _ => 0))), (q3, .inl (G 2, 256, .inl (fun _ => 0))), (q4, .inl (G 0, 256, .inl (fun _ => 0)))] H := hP
  replace hD : va_D A [(h0, .inr (2, [.int (0 : Int32), .int (0 : Int32), .ref q1, .ref q2, .int (0 : Int32), .ref q3, .null, .int 0, .int 0])), (q1, .inl (G 0, 256, .inl (fun _ => 0))), (q2, .inl (G 0, 256, .inl (fun _ => 0))), (q3, .inl (G 2, 256, .inl (fun _ => 0))), (q4, .inl (G 0, 256, .inl (fun _ => 0)))] := hD
  refine va_putF (D := D) (ci := 2) (v := .ref q4) (ty := .array .int) (C := RX2) (T := TX2) (N := 9) hx hb hts inX2 tyX2 tyX2_ok nmX2 hown hK hP hD hS 0 rfl rfl 6 (by decide) fl32 (fun _ h9 => h9) rfl hin rfl (by decide +kernel) rfl rfl (Nat.le_of_ble_eq_true rfl) dX2_init_52 (fun H locs hP hD hS => ?_)
  replace hP : va_P D vwCl [(h0, .inr (2, [.int (0 : Int32), .int (0 : Int32), .ref q1, .ref q2, .int (0 : Int32), .ref q3, .ref q4, .int 0, .int 0])), (q1, .inl (G 0, 256, .inl (fun _ => 0))), (q2, .inl (G 0, 256, .inl (fun _ => 0))), (q3, .inl (G 2, 256, .inl (fun _ => 0))), (q4, .inl (G 0, 256, .inl (fun _ => 0)))] H := hP
  replace hD : va_D A [(h0, .inr (2, [.int (0 : Int32), .int (0 : Int32), .ref q1, .ref q2, .int (0 : Int32), .ref q3, .ref q4, .int 0, .int 0])), (q1, .inl (G 0, 256, .inl (fun _ => 0))), (q2, .inl (G 0, 256, .inl (fun _ => 0))), (q3, .inl (G 2, 256, .inl (fun _ => 0))), (q4, .inl (G 0, 256, .inl (fun _ => 0)))] := hD
  refine lv_aload_n hx hb dX2_init_55 rfl (lv_at hl 0 rfl) ?_
  refine lv_bipush (v := -4) hx hb dX2_init_56 (by decide) ?_
  refine va_put (D := D) (ci := 2) (v := .int (-4 : Int32)) (ty := .int) (C := RX2) (T := TX2) (N := 9) hx hb hts inX2 tyX2 tyX2_ok nmX2 hown hK hP hD hS 0 rfl rfl 7 (by decide) fl35 (fun _ h9 => h9) rfl (by decide +kernel) rfl rfl (Nat.le_of_ble_eq_true rfl) dX2_init_58 (fun H locs hP hD hS => ?_)
  replace hP : va_P D vwCl [(h0, .inr (2, [.int (0 : Int32), .int (0 : Int32), .ref q1, .ref q2, .int (0 : Int32), .ref q3, .ref q4, .int (-4 : Int32), .int 0])), (q1, .inl (G 0, 256, .inl (fun _ => 0))), (q2, .inl (G 0, 256, .inl (fun _ => 0))), (q3, .inl (G 2, 256, .inl (fun _ => 0))), (q4, .inl (G 0, 256, .inl (fun _ => 0)))] H := hP
  replace hD : va_D A [(h0, .inr (2, [.int (0 : Int32), .int (0 : Int32), .ref q1, .ref q2, .int (0 : Int32), .ref q3, .ref q4, .int (-4 : Int32), .int 0])), (q1, .inl (G 0, 256, .inl (fun _ => 0))), (q2, .inl (G 0, 256, .inl (fun _ => 0))), (q3, .inl (G 2, 256, .inl (fun _ => 0))), (q4, .inl (G 0, 256, .inl (fun _ => 0)))] := hD
  refine lv_aload_n hx hb dX2_init_61 rfl (lv_at hl 0 rfl) ?_
  refine lv_bipush (v := -4) hx hb dX2_init_62 (by decide) ?_
  refine va_put (D := D) (ci := 2) (v := .int (-4 : Int32)) (ty := .int) (C := RX2) (T := TX2) (N := 9) hx hb hts inX2 tyX2 tyX2_ok nmX2 hown hK hP hD hS 0 rfl rfl 8 (by decide) fl38 (fun _ h9 => h9) rfl (by decide +kernel) rfl rfl (Nat.le_of_ble_eq_true rfl) dX2_init_64 (fun H locs hP hD hS => ?_)
  replace hP : va_P D vwCl [(h0, .inr (2, [.int (0 : Int32), .int (0 : Int32), .ref q1, .ref q2, .int (0 : Int32), .ref q3, .ref q4, .int (-4 : Int32), .int (-4 : Int32)])), (q1, .inl (G 0, 256, .inl (fun _ => 0))), (q2, .inl (G 0, 256, .inl (fun _ => 0))), (q3, .inl (G 2, 256, .inl (fun _ => 0))), (q4, .inl (G 0, 256, .inl (fun _ => 0)))] H := hP
  replace hD : va_D A [(h0, .inr (2, [.int (0 : Int32), .int (0 : Int32), .ref q1, .ref q2, .int (0 : Int32), .ref q3, .ref q4, .int (-4 : Int32), .int (-4 : Int32)])), (q1, .inl (G 0, 256, .inl (fun _ => 0))), (q2, .inl (G 0, 256, .inl (fun _ => 0))), (q3, .inl (G 2, 256, .inl (fun _ => 0))), (q4, .inl (G 0, 256, .inl (fun _ => 0)))] := hD
  replace hP := hP.sub (ws' := [(h0, .inr (2, [.int (0 : Int32), .int (0 : Int32), .ref q1, .ref q2, .int (0 : Int32), .ref q3, .ref q4, .int (-4 : Int32), .int (-4 : Int32)])), (q1, .inl (G 0, 256, .inl (fun _ => 0))), (q2, .inl (G 0, 256, .inl (fun _ => 0))), (q3, .inl (G 2, 256, .inl (fun _ => 0))), (q4, .inl (G 0, 256, .inl (fun _ => 0)))]) [0, 1, 2, 3, 4] rfl
  replace hD := hD.sub (ws' := [(h0, .inr (2, [.int (0 : Int32), .int (0 : Int32), .ref q1, .ref q2, .int (0 : Int32), .ref q3, .ref q4, .int (-4 : Int32), .int (-4 : Int32)])), (q1, .inl (G 0, 256, .inl (fun _ => 0))), (q2, .inl (G 0, 256, .inl (fun _ => 0))), (q3, .inl (G 2, 256, .inl (fun _ => 0))), (q4, .inl (G 0, 256, .inl (fun _ => 0)))]) [0, 1, 2, 3, 4] (by decide) rfl
  exact W.vret hx hb hr (x_mv (post := fun (_ : Nat → Nat) => True) (wf := fun u => [(h0, .inr (2, [.int (0 : Int32), .int (0 : Int32), .ref (u 0), .ref (u 1), .int (0 : Int32), .ref (u 2), .ref (u 3), .int (-4 : Int32), .int (-4 : Int32)])), ((u 0), .inl (G 0, 256, .inl (fun _ => 0))), ((u 1), .inl (G 0, 256, .inl (fun _ => 0))), ((u 2), .inl (G 2, 256, .inl (fun _ => 0))), ((u 3), .inl (G 0, 256, .inl (fun _ => 0)))]) (u := (fun k => if k = 0 then q1 else if k = 1 then q2 else if k = 2 then q3 else if k = 3 then q4 else 0)) hP hK hD hS trivial) hS.2.2 dX2_init_67
set_option maxHeartbeats 1000000 in
set_option maxRecDepth 100000 in
theorem c_X6_init (l : Launch) (D : va_G) (G : Nat → ClassId) (sz : Nat) (h0 : Nat) : Met l yX6_init wsX6_init ({ frames := 1, cells := 1, slots := 8, locals := 20 } : Room) (va_Pc [.ref h0] (xI D G sz [(h0, .inr (6, [.null, .int 0]))])) (va_Qv (fun (_ : Nat → Nat) => True) (fun u t => xE D G (va_A [(h0, .inr (6, [.null, .int 0]))] sz) [(h0, .inr (6, [.ref (u 0), .int (0 : Int32)])), ((u 0), .inl (G 0, 8, .inl (fun _ => 0)))] t) (va_A [(h0, .inr (6, [.null, .int 0]))] sz)) 1 8 (va_A [(h0, .inr (6, [.null, .int 0]))] sz) := by
  refine Met.ofW (cc := cX6_init) (maxL := 1) (ret := none) (by decide) rfl ?_
  intro p e s m args below meth c s₁ B hml hv
  obtain ⟨rfl, hsz, hP, hK, hD0, hN⟩ := hv
  have hx := B.exec
  have hb := B.bytes
  have hr := B.returns
  have hts := atoms_spec (ws := wsX6_init) B.pre
  have hown : s.vm.findClass RX6 = some m.cls := findClass_of_methodNamed B.named
  have hlocks := B.notSynchronized
  have hin : meth.name = "<init>" := (name_of_methodNamed B.named B.method).1
  subst hsz
  have hD := hD0.self (sz := s.heap.size)
  generalize hAe : va_A [(h0, .inr (6, [.null, .int 0]))] s.heap.size = A at hD ⊢
  have hA : ∀ q : Nat, s.heap.size ≤ q → A q := fun q h => by rw [← hAe]; exact Or.inr h
  have hS : va_S A s.heap s.heap [] := va_S.rf
  have inX6 : ∀ w ∈ wsX60, w ∈ wsX6_init := by decide +kernel
  have hac_int := hts (.arrayClass .int) (by decide +kernel)
  have fl9 := hts (.fieldLink RX6 9 "NewsCow$Trials" "order" "[I") (by decide +kernel)
  have fl15 := hts (.fieldLink RX6 15 "NewsCow$Trials" "size" "I") (by decide +kernel)
  have hl := lv_entry ([.ref h0] : List Value) (n := 1) (Nat.le_of_ble_eq_true rfl)
  rw [lg_entry_eq]
  generalize (lg_sl ([.ref h0] : List Value) ++ List.replicate (1 - (lg_sl ([.ref h0] : List Value)).length) Slot.unset).toArray = ls at hl ⊢
  have hl : lv_has ls 1 [(0, .ref h0)] := hl
  refine lv_aload_n hx hb dX6_init_0 rfl (lv_at hl 0 rfl) ?_
  refine W.objInit hx hb hown (hts (.methodLink RX6 3 objectInit) (by decide +kernel)) (hts (.instanceMethod objectInit) (by decide +kernel)) (hts (.code objectInit ⟨#[0xb1]⟩ 1 none) (by decide +kernel)) rfl (by rw [hml]; exact hl.1) rfl dX6_init_1 (Nat.le_of_ble_eq_true rfl) (Nat.le_of_ble_eq_true rfl) ?_
  refine W.eq (g2 := F0 m 4 ls []) rfl ?_
  refine lv_aload_n hx hb dX6_init_4 rfl (lv_at hl 0 rfl) ?_
  refine lv_bipush (v := 8) hx hb dX6_init_5 (by decide) ?_
  refine va_newa (atype := .int) (ty := .int) (N' := 8) (a0 := (8, .inl (fun _ => 0))) hx hb hac_int rfl hK hP hD hS hA (fun _ => rfl) (by decide) (by decide) (by decide) (Nat.le_of_ble_eq_true rfl) (Nat.le_of_ble_eq_true rfl) dX6_init_7 (fun q1 cA H hKn hP hD hS => ?_)
  obtain rfl := x_cls0 hKn
  refine W.widen (k := 1) (n := 8) (Nat.le_of_ble_eq_true rfl) (Nat.le_of_ble_eq_true rfl) ?_
  replace hP : va_P D vwCl [(h0, .inr (6, [.null, .int 0])), (q1, .inl (G 0, 8, .inl (fun _ => 0)))] H := hP
  replace hD : va_D A [(h0, .inr (6, [.null, .int 0])), (q1, .inl (G 0, 8, .inl (fun _ => 0)))] := hD
  refine va_putF (D := D) (ci := 6) (v := .ref q1) (ty := .array .int) (C := RX6) (T := TX6) (N := 2) hx hb hts inX6 tyX6 tyX6_ok nmX6 hown hK hP hD hS 0 rfl rfl 0 (by decide) fl9 (fun _ h9 => h9) rfl hin rfl (by decide +kernel) rfl rfl (Nat.le_of_ble_eq_true rfl) dX6_init_9 (fun H locs hP hD hS => ?_)
  replace hP : va_P D vwCl [(h0, .inr (6, [.ref q1, .int 0])), (q1, .inl (G 0, 8, .inl (fun _ => 0)))] H := hP
  replace hD : va_D A [(h0, .inr (6, [.ref q1, .int 0])), (q1, .inl (G 0, 8, .inl (fun _ => 0)))] := hD
  refine lv_aload_n hx hb dX6_init_12 rfl (lv_at hl 0 rfl) ?_
  refine lv_iconst (v := 0) hx hb dX6_init_13 (by decide) ?_
  refine va_put (D := D) (ci := 6) (v := .int (0 : Int32)) (ty := .int) (C := RX6) (T := TX6) (N := 2) hx hb hts inX6 tyX6 tyX6_ok nmX6 hown hK hP hD hS 0 rfl rfl 1 (by decide) fl15 (fun _ h9 => h9) rfl (by decide +kernel) rfl rfl (Nat.le_of_ble_eq_true rfl) dX6_init_14 (fun H locs hP hD hS => ?_)
  replace hP : va_P D vwCl [(h0, .inr (6, [.ref q1, .int (0 : Int32)])), (q1, .inl (G 0, 8, .inl (fun _ => 0)))] H := hP
  replace hD : va_D A [(h0, .inr (6, [.ref q1, .int (0 : Int32)])), (q1, .inl (G 0, 8, .inl (fun _ => 0)))] := hD
  replace hP := hP.sub (ws' := [(h0, .inr (6, [.ref q1, .int (0 : Int32)])), (q1, .inl (G 0, 8, .inl (fun _ => 0)))]) [0, 1] rfl
  replace hD := hD.sub (ws' := [(h0, .inr (6, [.ref q1, .int (0 : Int32)])), (q1, .inl (G 0, 8, .inl (fun _ => 0)))]) [0, 1] (by decide) rfl
  exact W.vret hx hb hr (x_mv (post := fun (_ : Nat → Nat) => True) (wf := fun u => [(h0, .inr (6, [.ref (u 0), .int (0 : Int32)])), ((u 0), .inl (G 0, 8, .inl (fun _ => 0)))]) (u := (fun k => if k = 0 then q1 else 0)) hP hK hD hS trivial) hS.2.2 dX6_init_17
set_option maxHeartbeats 1000000 in
set_option maxRecDepth 100000 in
theorem c_X3_init (l : Launch) (D : va_G) (G : Nat → ClassId) (sz : Nat) (h0 : Nat) : Met l yX3_init wsX3_init ({ frames := 1, cells := 3, slots := 18, locals := 20 } : Room) (va_Pc [.ref h0] (xI D G sz [(h0, .inr (3, [.null, .null, .int 0, .null]))])) (va_Qv (fun (_ : Nat → Nat) => True) (fun u t => xE D G (va_A [(h0, .inr (3, [.null, .null, .int 0, .null]))] sz) [(h0, .inr (3, [.ref (u 0), .ref (u 1), .int (0 : Int32), .ref (u 2)])), ((u 0), .inl (G 0, 6, .inl (fun _ => 0))), ((u 1), .inl (G 0, 6, .inl (fun _ => 0))), ((u 2), .inl (G 0, 6, .inl (fun _ => 0)))] t) (va_A [(h0, .inr (3, [.null, .null, .int 0, .null]))] sz)) 3 18 (va_A [(h0, .inr (3, [.null, .null, .int 0, .null]))] sz) := by
  refine Met.ofW (cc := cX3_init) (maxL := 1) (ret := none) (by decide) rfl ?_
  intro p e s m args below meth c s₁ B hml hv
  obtain ⟨rfl, hsz, hP, hK, hD0, hN⟩ := hv
  have hx := B.exec
  have hb := B.bytes
  have hr := B.returns
  have hts := atoms_spec (ws := wsX3_init) B.pre
  have hown : s.vm.findClass RX3 = some m.cls := findClass_of_methodNamed B.named
  have hlocks := B.notSynchronized
  have hin : meth.name = "<init>" := (name_of_methodNamed B.named B.method).1
  subst hsz
  have hD := hD0.self (sz := s.heap.size)
  generalize hAe : va_A [(h0, .inr (3, [.null, .null, .int 0, .null]))] s.heap.size = A at hD ⊢
  have hA : ∀ q : Nat, s.heap.size ≤ q → A q := fun q h => by rw [← hAe]; exact Or.inr h
  have hS : va_S A s.heap s.heap [] := va_S.rf
  have inX3 : ∀ w ∈ wsX30, w ∈ wsX3_init := by decide +kernel
  have hac_int := hts (.arrayClass .int) (by decide +kernel)
  have fl9 := hts (.fieldLink RX3 9 "NewsCow$Row" "mixes" "[I") (by decide +kernel)
  have fl15 := hts (.fieldLink RX3 15 "NewsCow$Row" "answers" "[I") (by decide +kernel)
  have fl18 := hts (.fieldLink RX3 18 "NewsCow$Row" "pairs" "I") (by decide +kernel)
  have fl22 := hts (.fieldLink RX3 22 "NewsCow$Row" "agreed" "[I") (by decide +kernel)
  have hl := lv_entry ([.ref h0] : List Value) (n := 1) (Nat.le_of_ble_eq_true rfl)
  rw [lg_entry_eq]
  generalize (lg_sl ([.ref h0] : List Value) ++ List.replicate (1 - (lg_sl ([.ref h0] : List Value)).length) Slot.unset).toArray = ls at hl ⊢
  have hl : lv_has ls 1 [(0, .ref h0)] := hl
  refine lv_aload_n hx hb dX3_init_0 rfl (lv_at hl 0 rfl) ?_
  refine W.objInit hx hb hown (hts (.methodLink RX3 3 objectInit) (by decide +kernel)) (hts (.instanceMethod objectInit) (by decide +kernel)) (hts (.code objectInit ⟨#[0xb1]⟩ 1 none) (by decide +kernel)) rfl (by rw [hml]; exact hl.1) rfl dX3_init_1 (Nat.le_of_ble_eq_true rfl) (Nat.le_of_ble_eq_true rfl) ?_
  refine W.eq (g2 := F0 m 4 ls []) rfl ?_
  refine lv_aload_n hx hb dX3_init_4 rfl (lv_at hl 0 rfl) ?_
  refine lv_bipush (v := 6) hx hb dX3_init_5 (by decide) ?_
  refine va_newa (atype := .int) (ty := .int) (N' := 6) (a0 := (6, .inl (fun _ => 0))) hx hb hac_int rfl hK hP hD hS hA (fun _ => rfl) (by decide) (by decide) (by decide) (Nat.le_of_ble_eq_true rfl) (Nat.le_of_ble_eq_true rfl) dX3_init_7 (fun q1 cA H hKn hP hD hS => ?_)
  obtain rfl := x_cls0 hKn
  refine W.widen (k := 1) (n := 6) (Nat.le_of_ble_eq_true rfl) (Nat.le_of_ble_eq_true rfl) ?_
  replace hP : va_P D vwCl [(h0, .inr (3, [.null, .null, .int 0, .null])), (q1, .inl (G 0, 6, .inl (fun _ => 0)))] H := hP
  replace hD : va_D A [(h0, .inr (3, [.null, .null, .int 0, .null])), (q1, .inl (G 0, 6, .inl (fun _ => 0)))] := hD
  refine va_putF (D := D) (ci := 3) (v := .ref q1) (ty := .array .int) (C := RX3) (T := TX3) (N := 4) hx hb hts inX3 tyX3 tyX3_ok nmX3 hown hK hP hD hS 0 rfl rfl 0 (by decide) fl9 (fun _ h9 => h9) rfl hin rfl (by decide +kernel) rfl rfl (Nat.le_of_ble_eq_true rfl) dX3_init_9 (fun H locs hP hD hS => ?_)
  replace hP : va_P D vwCl [(h0, .inr (3, [.ref q1, .null, .int 0, .null])), (q1, .inl (G 0, 6, .inl (fun _ => 0)))] H := hP
  replace hD : va_D A [(h0, .inr (3, [.ref q1, .null, .int 0, .null])), (q1, .inl (G 0, 6, .inl (fun _ => 0)))] := hD
  refine lv_aload_n hx hb dX3_init_12 rfl (lv_at hl 0 rfl) ?_
  refine lv_bipush (v := 6) hx hb dX3_init_13 (by decide) ?_
  refine va_newa (atype := .int) (ty := .int) (N' := 6) (a0 := (6, .inl (fun _ => 0))) hx hb hac_int rfl hK hP hD hS hA (fun _ => rfl) (by decide) (by decide) (by decide) (Nat.le_of_ble_eq_true rfl) (Nat.le_of_ble_eq_true rfl) dX3_init_15 (fun q2 cA H hKn hP hD hS => ?_)
  obtain rfl := x_cls0 hKn
  refine W.widen (k := 2) (n := 12) (Nat.le_of_ble_eq_true rfl) (Nat.le_of_ble_eq_true rfl) ?_
  replace hP : va_P D vwCl [(h0, .inr (3, [.ref q1, .null, .int 0, .null])), (q1, .inl (G 0, 6, .inl (fun _ => 0))), (q2, .inl (G 0, 6, .inl (fun _ => 0)))] H := hP
  replace hD : va_D A [(h0, .inr (3, [.ref q1, .null, .int 0, .null])), (q1, .inl (G 0, 6, .inl (fun _ => 0))), (q2, .inl (G 0, 6, .inl (fun _ => 0)))] := hD
  refine va_putF (D := D) (ci := 3) (v := .ref q2) (ty := .array .int) (C := RX3) (T := TX3) (N := 4) hx hb hts inX3 tyX3 tyX3_ok nmX3 hown hK hP hD hS 0 rfl rfl 1 (by decide) fl15 (fun _ h9 => h9) rfl hin rfl (by decide +kernel) rfl rfl (Nat.le_of_ble_eq_true rfl) dX3_init_17 (fun H locs hP hD hS => ?_)
  replace hP : va_P D vwCl [(h0, .inr (3, [.ref q1, .ref q2, .int 0, .null])), (q1, .inl (G 0, 6, .inl (fun _ => 0))), (q2, .inl (G 0, 6, .inl (fun _ => 0)))] H := hP
  replace hD : va_D A [(h0, .inr (3, [.ref q1, .ref q2, .int 0, .null])), (q1, .inl (G 0, 6, .inl (fun _ => 0))), (q2, .inl (G 0, 6, .inl (fun _ => 0)))] := hD
  refine lv_aload_n hx hb dX3_init_20 rfl (lv_at hl 0 rfl) ?_
  refine lv_iconst (v := 0) hx hb dX3_init_21 (by decide) ?_
  refine va_put (D := D) (ci := 3) (v := .int (0 : Int32)) (ty := .int) (C := RX3) (T := TX3) (N := 4) hx hb hts inX3 tyX3 tyX3_ok nmX3 hown hK hP hD hS 0 rfl rfl 2 (by decide) fl18 (fun _ h9 => h9) rfl (by decide +kernel) rfl rfl (Nat.le_of_ble_eq_true rfl) dX3_init_22 (fun H locs hP hD hS => ?_)
  replace hP : va_P D vwCl [(h0, .inr (3, [.ref q1, .ref q2, .int (0 : Int32), .null])), (q1, .inl (G 0, 6, .inl (fun _ => 0))), (q2, .inl (G 0, 6, .inl (fun _ => 0)))] H := hP
  replace hD : va_D A [(h0, .inr (3, [.ref q1, .ref q2, .int (0 : Int32), .null])), (q1, .inl (G 0, 6, .inl (fun _ => 0))), (q2, .inl (G 0, 6, .inl (fun _ => 0)))] := hD
  refine lv_aload_n hx hb dX3_init_25 rfl (lv_at hl 0 rfl) ?_
  refine lv_bipush (v := 6) hx hb dX3_init_26 (by decide) ?_
  refine va_newa (atype := .int) (ty := .int) (N' := 6) (a0 := (6, .inl (fun _ => 0))) hx hb hac_int rfl hK hP hD hS hA (fun _ => rfl) (by decide) (by decide) (by decide) (Nat.le_of_ble_eq_true rfl) (Nat.le_of_ble_eq_true rfl) dX3_init_28 (fun q3 cA H hKn hP hD hS => ?_)
  obtain rfl := x_cls0 hKn
  refine W.widen (k := 3) (n := 18) (Nat.le_of_ble_eq_true rfl) (Nat.le_of_ble_eq_true rfl) ?_
  replace hP : va_P D vwCl [(h0, .inr (3, [.ref q1, .ref q2, .int (0 : Int32), .null])), (q1, .inl (G 0, 6, .inl (fun _ => 0))), (q2, .inl (G 0, 6, .inl (fun _ => 0))), (q3, .inl (G 0, 6, .inl (fun _ => 0)))] H := hP
  replace hD : va_D A [(h0, .inr (3, [.ref q1, .ref q2, .int (0 : Int32), .null])), (q1, .inl (G 0, 6, .inl (fun _ => 0))), (q2, .inl (G 0, 6, .inl (fun _ => 0))), (q3, .inl (G 0, 6, .inl (fun _ => 0)))] := hD
  refine va_putF (D := D) (ci := 3) (v := .ref q3) (ty := .array .int) (C := RX3) (T := TX3) (N := 4) hx hb hts inX3 tyX3 tyX3_ok nmX3 hown hK hP hD hS 0 rfl rfl 3 (by decide) fl22 (fun _ h9 => h9) rfl hin rfl (by decide +kernel) rfl rfl (Nat.le_of_ble_eq_true rfl) dX3_init_30 (fun H locs hP hD hS => ?_)
  replace hP : va_P D vwCl [(h0, .inr (3, [.ref q1, .ref q2, .int (0 : Int32), .ref q3])), (q1, .inl (G 0, 6, .inl (fun _ => 0))), (q2, .inl (G 0, 6, .inl (fun _ => 0))), (q3, .inl (G 0, 6, .inl (fun _ => 0)))] H := hP
  replace hD : va_D A [(h0, .inr (3, [.ref q1, .ref q2, .int (0 : Int32), .ref q3])), (q1, .inl (G 0, 6, .inl (fun _ => 0))), (q2, .inl (G 0, 6, .inl (fun _ => 0))), (q3, .inl (G 0, 6, .inl (fun _ => 0)))] := hD
  replace hP := hP.sub (ws' := [(h0, .inr (3, [.ref q1, .ref q2, .int (0 : Int32), .ref q3])), (q1, .inl (G 0, 6, .inl (fun _ => 0))), (q2, .inl (G 0, 6, .inl (fun _ => 0))), (q3, .inl (G 0, 6, .inl (fun _ => 0)))]) [0, 1, 2, 3] rfl
  replace hD := hD.sub (ws' := [(h0, .inr (3, [.ref q1, .ref q2, .int (0 : Int32), .ref q3])), (q1, .inl (G 0, 6, .inl (fun _ => 0))), (q2, .inl (G 0, 6, .inl (fun _ => 0))), (q3, .inl (G 0, 6, .inl (fun _ => 0)))]) [0, 1, 2, 3] (by decide) rfl
  exact W.vret hx hb hr (x_mv (post := fun (_ : Nat → Nat) => True) (wf := fun u => [(h0, .inr (3, [.ref (u 0), .ref (u 1), .int (0 : Int32), .ref (u 2)])), ((u 0), .inl (G 0, 6, .inl (fun _ => 0))), ((u 1), .inl (G 0, 6, .inl (fun _ => 0))), ((u 2), .inl (G 0, 6, .inl (fun _ => 0)))]) (u := (fun k => if k = 0 then q1 else if k = 1 then q2 else if k = 2 then q3 else 0)) hP hK hD hS trivial) hS.2.2 dX3_init_33
