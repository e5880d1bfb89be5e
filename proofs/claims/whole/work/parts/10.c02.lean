set_option maxHeartbeats 4000000 in
set_option maxRecDepth 100000 in
theorem c_X0_goBack (l : Launch) (D : va_G) (G : Nat → ClassId) (sz : Nat) (da : Nat) (ami : Nat) (aki : Nat) (afi : Nat) (anw : Nat) (apa : Nat) (pq : Nat → Nat) (cows : Int32) (tasters : Int32) (newest : Int32) (known : Int32) (mayBe : Int32) (bearer : Int32) (day : Int32) (draw : Int32) (pm : Nat → Int32) (pb : Nat → Int32) (pd : Nat → Int32) (pw : Nat → Int32) (post : Int32 → Int32 → Int32 → Int32 → Int32 → Int32 → Prop) (hw : wp_X0_goBack newest known pm pb pd pw post) : Met l yX0_goBack wsX0_goBack ({ frames := 1, cells := 0, slots := 0, locals := 21 } : Room) (va_Pc [.ref da] (xM D G sz [(da, .inr (0, [.ref ami, .int cows, .ref aki, .ref afi, .int tasters, .ref anw, .ref apa, .int newest, .int known])), (anw, .inr (1, [.int mayBe, .int bearer, .int day, .int draw])), (apa, .inl (G 4, 8, .inr (.inr (.inr (.inr (fun k => some (pq k))))))), ((pq 0), .inr (1, [.int (pm 0), .int (pb 0), .int (pd 0), .int (pw 0)])), ((pq 1), .inr (1, [.int (pm 1), .int (pb 1), .int (pd 1), .int (pw 1)])), ((pq 2), .inr (1, [.int (pm 2), .int (pb 2), .int (pd 2), .int (pw 2)])), ((pq 3), .inr (1, [.int (pm 3), .int (pb 3), .int (pd 3), .int (pw 3)])), ((pq 4), .inr (1, [.int (pm 4), .int (pb 4), .int (pd 4), .int (pw 4)])), ((pq 5), .inr (1, [.int (pm 5), .int (pb 5), .int (pd 5), .int (pw 5)])), ((pq 6), .inr (1, [.int (pm 6), .int (pb 6), .int (pd 6), .int (pw 6)])), ((pq 7), .inr (1, [.int (pm 7), .int (pb 7), .int (pd 7), .int (pw 7)]))])) (va_Qv (fun (u : Int32 × Int32 × Int32 × Int32 × Int32 × Int32) => post u.1 u.2.1 u.2.2.1 u.2.2.2.1 u.2.2.2.2.1 u.2.2.2.2.2) (fun u t => xE D G (va_A [(da, .inr (0, [.ref ami, .int cows, .ref aki, .ref afi, .int tasters, .ref anw, .ref apa, .int newest, .int known])), (anw, .inr (1, [.int mayBe, .int bearer, .int day, .int draw])), (apa, .inl (G 4, 8, .inr (.inr (.inr (.inr (fun k => some (pq k))))))), ((pq 0), .inr (1, [.int (pm 0), .int (pb 0), .int (pd 0), .int (pw 0)])), ((pq 1), .inr (1, [.int (pm 1), .int (pb 1), .int (pd 1), .int (pw 1)])), ((pq 2), .inr (1, [.int (pm 2), .int (pb 2), .int (pd 2), .int (pw 2)])), ((pq 3), .inr (1, [.int (pm 3), .int (pb 3), .int (pd 3), .int (pw 3)])), ((pq 4), .inr (1, [.int (pm 4), .int (pb 4), .int (pd 4), .int (pw 4)])), ((pq 5), .inr (1, [.int (pm 5), .int (pb 5), .int (pd 5), .int (pw 5)])), ((pq 6), .inr (1, [.int (pm 6), .int (pb 6), .int (pd 6), .int (pw 6)])), ((pq 7), .inr (1, [.int (pm 7), .int (pb 7), .int (pd 7), .int (pw 7)]))] sz) [(da, .inr (0, [.ref ami, .int cows, .ref aki, .ref afi, .int tasters, .ref anw, .ref apa, .int u.1, .int u.2.1])), (anw, .inr (1, [.int u.2.2.1, .int u.2.2.2.1, .int u.2.2.2.2.1, .int u.2.2.2.2.2])), (apa, .inl (G 4, 8, .inr (.inr (.inr (.inr (fun k => some (pq k))))))), ((pq 0), .inr (1, [.int (pm 0), .int (pb 0), .int (pd 0), .int (pw 0)])), ((pq 1), .inr (1, [.int (pm 1), .int (pb 1), .int (pd 1), .int (pw 1)])), ((pq 2), .inr (1, [.int (pm 2), .int (pb 2), .int (pd 2), .int (pw 2)])), ((pq 3), .inr (1, [.int (pm 3), .int (pb 3), .int (pd 3), .int (pw 3)])), ((pq 4), .inr (1, [.int (pm 4), .int (pb 4), .int (pd 4), .int (pw 4)])), ((pq 5), .inr (1, [.int (pm 5), .int (pb 5), .int (pd 5), .int (pw 5)])), ((pq 6), .inr (1, [.int (pm 6), .int (pb 6), .int (pd 6), .int (pw 6)])), ((pq 7), .inr (1, [.int (pm 7), .int (pb 7), .int (pd 7), .int (pw 7)]))] t) (va_A [(da, .inr (0, [.ref ami, .int cows, .ref aki, .ref afi, .int tasters, .ref anw, .ref apa, .int newest, .int known])), (anw, .inr (1, [.int mayBe, .int bearer, .int day, .int draw])), (apa, .inl (G 4, 8, .inr (.inr (.inr (.inr (fun k => some (pq k))))))), ((pq 0), .inr (1, [.int (pm 0), .int (pb 0), .int (pd 0), .int (pw 0)])), ((pq 1), .inr (1, [.int (pm 1), .int (pb 1), .int (pd 1), .int (pw 1)])), ((pq 2), .inr (1, [.int (pm 2), .int (pb 2), .int (pd 2), .int (pw 2)])), ((pq 3), .inr (1, [.int (pm 3), .int (pb 3), .int (pd 3), .int (pw 3)])), ((pq 4), .inr (1, [.int (pm 4), .int (pb 4), .int (pd 4), .int (pw 4)])), ((pq 5), .inr (1, [.int (pm 5), .int (pb 5), .int (pd 5), .int (pw 5)])), ((pq 6), .inr (1, [.int (pm 6), .int (pb 6), .int (pd 6), .int (pw 6)])), ((pq 7), .inr (1, [.int (pm 7), .int (pb 7), .int (pd 7), .int (pw 7)]))] sz)) 0 0 (va_A [(da, .inr (0, [.ref ami, .int cows, .ref aki, .ref afi, .int tasters, .ref anw, .ref apa, .int newest, .int known])), (anw, .inr (1, [.int mayBe, .int bearer, .int day, .int draw])), (apa, .inl (G 4, 8, .inr (.inr (.inr (.inr (fun k => some (pq k))))))), ((pq 0), .inr (1, [.int (pm 0), .int (pb 0), .int (pd 0), .int (pw 0)])), ((pq 1), .inr (1, [.int (pm 1), .int (pb 1), .int (pd 1), .int (pw 1)])), ((pq 2), .inr (1, [.int (pm 2), .int (pb 2), .int (pd 2), .int (pw 2)])), ((pq 3), .inr (1, [.int (pm 3), .int (pb 3), .int (pd 3), .int (pw 3)])), ((pq 4), .inr (1, [.int (pm 4), .int (pb 4), .int (pd 4), .int (pw 4)])), ((pq 5), .inr (1, [.int (pm 5), .int (pb 5), .int (pd 5), .int (pw 5)])), ((pq 6), .inr (1, [.int (pm 6), .int (pb 6), .int (pd 6), .int (pw 6)])), ((pq 7), .inr (1, [.int (pm 7), .int (pb 7), .int (pd 7), .int (pw 7)]))] sz) := by
  refine Met.ofW (cc := cX0_goBack) (maxL := 1) (ret := none) (by decide) rfl ?_
  intro p e s m args below meth c s₁ B hml hv
  obtain ⟨rfl, hsz, hP, hK, hD0⟩ := hv
  have hx := B.exec
  have hb := B.bytes
  have hr := B.returns
  have hts := atoms_spec (ws := wsX0_goBack) B.pre
  have hown : s.vm.findClass RX0 = some m.cls := findClass_of_methodNamed B.named
  have hlocks := B.notSynchronized
  subst hsz
  have hD := hD0.self (sz := s.heap.size)
  generalize hAe : va_A [(da, .inr (0, [.ref ami, .int cows, .ref aki, .ref afi, .int tasters, .ref anw, .ref apa, .int newest, .int known])), (anw, .inr (1, [.int mayBe, .int bearer, .int day, .int draw])), (apa, .inl (G 4, 8, .inr (.inr (.inr (.inr (fun k => some (pq k))))))), ((pq 0), .inr (1, [.int (pm 0), .int (pb 0), .int (pd 0), .int (pw 0)])), ((pq 1), .inr (1, [.int (pm 1), .int (pb 1), .int (pd 1), .int (pw 1)])), ((pq 2), .inr (1, [.int (pm 2), .int (pb 2), .int (pd 2), .int (pw 2)])), ((pq 3), .inr (1, [.int (pm 3), .int (pb 3), .int (pd 3), .int (pw 3)])), ((pq 4), .inr (1, [.int (pm 4), .int (pb 4), .int (pd 4), .int (pw 4)])), ((pq 5), .inr (1, [.int (pm 5), .int (pb 5), .int (pd 5), .int (pw 5)])), ((pq 6), .inr (1, [.int (pm 6), .int (pb 6), .int (pd 6), .int (pw 6)])), ((pq 7), .inr (1, [.int (pm 7), .int (pb 7), .int (pd 7), .int (pw 7)]))] s.heap.size = A at hD ⊢
  have hA : ∀ q : Nat, s.heap.size ≤ q → A q := fun q h => by rw [← hAe]; exact Or.inr h
  have hS : va_S A s.heap s.heap [] := va_S.rf
  have inX0 : ∀ w ∈ wsX00, w ∈ wsX0_goBack := by decide +kernel
  have fl31 := hts (.fieldLink RX0 31 "NewsCow$Dairy" "now" "LNewsCow$Moment;") (by decide +kernel)
  have fl35 := hts (.fieldLink RX0 35 "NewsCow$Dairy" "past" "[LNewsCow$Moment;") (by decide +kernel)
  have fl39 := hts (.fieldLink RX0 39 "NewsCow$Dairy" "newest" "I") (by decide +kernel)
  have fl42 := hts (.fieldLink RX0 42 "NewsCow$Dairy" "known" "I") (by decide +kernel)
  have hl := lv_entry ([.ref da] : List Value) (n := 1) (Nat.le_of_ble_eq_true rfl)
  rw [lg_entry_eq]
  generalize (lg_sl ([.ref da] : List Value) ++ List.replicate (1 - (lg_sl ([.ref da] : List Value)).length) Slot.unset).toArray = ls at hl ⊢
  have hl : lv_has ls 1 [(0, .ref da)] := hl
  unfold wp_X0_goBack at hw
  refine lv_aload_n hx hb dX0_goBack_0 rfl (lv_at hl 0 rfl) ?_
  refine va_get (D := D) (ci := 0) (v := .ref anw) (C := RX0) (T := TX0) (N := 9) hx hb hts inX0 hown hK hP 0 rfl rfl 5 (by decide) fl31 (fun _ h9 => h9) rfl dX0_goBack_1 ?_
  refine lv_aload_n hx hb dX0_goBack_4 rfl (lv_at hl 0 rfl) ?_
  refine va_get (D := D) (ci := 0) (v := .ref apa) (C := RX0) (T := TX0) (N := 9) hx hb hts inX0 hown hK hP 0 rfl rfl 6 (by decide) fl35 (fun _ h9 => h9) rfl dX0_goBack_5 ?_
  refine lv_aload_n hx hb dX0_goBack_8 rfl (lv_at hl 0 rfl) ?_
  refine va_get (D := D) (ci := 0) (v := .int newest) (C := RX0) (T := TX0) (N := 9) hx hb hts inX0 hown hK hP 0 rfl rfl 7 (by decide) fl39 (fun _ h9 => h9) rfl dX0_goBack_9 ?_
  have hin := hw.1
  replace hw := hw.2
  rcases x_lt8 hin with hj | hj | hj | hj | hj | hj | hj | hj
  · rw [hj] at hw
    refine x_aldq (j := 0) (b := (pq 0)) hx hb hK hP 2 4 rfl rfl hj rfl hin dX0_goBack_12 ?_
    refine x_cMv (wr := [(da, .inr (0, [.ref ami, .int cows, .ref aki, .ref afi, .int tasters, .ref anw, .ref apa, .int newest, .int known])), (apa, .inl (G 4, 8, .inr (.inr (.inr (.inr (fun k => some (pq k))))))), ((pq 1), .inr (1, [.int (pm 1), .int (pb 1), .int (pd 1), .int (pw 1)])), ((pq 2), .inr (1, [.int (pm 2), .int (pb 2), .int (pd 2), .int (pw 2)])), ((pq 3), .inr (1, [.int (pm 3), .int (pb 3), .int (pd 3), .int (pw 3)])), ((pq 4), .inr (1, [.int (pm 4), .int (pb 4), .int (pd 4), .int (pw 4)])), ((pq 5), .inr (1, [.int (pm 5), .int (pb 5), .int (pd 5), .int (pw 5)])), ((pq 6), .inr (1, [.int (pm 6), .int (pb 6), .int (pd 6), .int (pw 6)])), ((pq 7), .inr (1, [.int (pm 7), .int (pb 7), .int (pd 7), .int (pw 7)]))]) (va_runV (As := [.ref (pq 0)]) (rest := []) ⟨hx, hb, hml, hown, hts⟩ (c_X1_becomeLike l D G _ anw (pq 0) mayBe bearer day draw (pm 0) (pb 0) (pd 0) (pw 0) _ hw) (cwV 1 hts gX0_goBack_X1_becomeLike rfl rfl rfl (by decide +kernel) ⟨(Nat.le_of_ble_eq_true rfl), (Nat.le_of_ble_eq_true rfl)⟩) (xM_pv (hP.sub [1, 3] rfl) hK (hD.sub [1, 3] (by decide) rfl) (va_recv hK hP (ci := 1) (q0 := 1) rfl rfl)) rfl rfl hl.1 rfl (lv_room (Nat.le_of_ble_eq_true rfl)) dX0_goBack_13 ⟨Nat.zero_le _, Nat.zero_le _⟩) hP hD hS hA [1, 3] [0, 2, 4, 5, 6, 7, 8, 9, 10] rfl rfl (by decide) (by decide) [0, 9, 1, 10, 2, 3, 4, 5, 6, 7, 8] (fun u => [(da, .inr (0, [.ref ami, .int cows, .ref aki, .ref afi, .int tasters, .ref anw, .ref apa, .int newest, .int known])), (anw, .inr (1, [.int u.1, .int u.2.1, .int u.2.2.1, .int u.2.2.2])), (apa, .inl (G 4, 8, .inr (.inr (.inr (.inr (fun k => some (pq k))))))), ((pq 0), .inr (1, [.int (pm 0), .int (pb 0), .int (pd 0), .int (pw 0)])), ((pq 1), .inr (1, [.int (pm 1), .int (pb 1), .int (pd 1), .int (pw 1)])), ((pq 2), .inr (1, [.int (pm 2), .int (pb 2), .int (pd 2), .int (pw 2)])), ((pq 3), .inr (1, [.int (pm 3), .int (pb 3), .int (pd 3), .int (pw 3)])), ((pq 4), .inr (1, [.int (pm 4), .int (pb 4), .int (pd 4), .int (pw 4)])), ((pq 5), .inr (1, [.int (pm 5), .int (pb 5), .int (pd 5), .int (pw 5)])), ((pq 6), .inr (1, [.int (pm 6), .int (pb 6), .int (pd 6), .int (pw 6)])), ((pq 7), .inr (1, [.int (pm 7), .int (pb 7), .int (pd 7), .int (pw 7)]))]) (by decide) (fun u => rfl) (fun u H locs hw hP hD hS => ?_)
    obtain ⟨mayBe_1, bearer_1, day_1, draw_1⟩ := u
    try dsimp only at hw
    replace hP : va_P D vwCl [(da, .inr (0, [.ref ami, .int cows, .ref aki, .ref afi, .int tasters, .ref anw, .ref apa, .int newest, .int known])), (anw, .inr (1, [.int mayBe_1, .int bearer_1, .int day_1, .int draw_1])), (apa, .inl (G 4, 8, .inr (.inr (.inr (.inr (fun k => some (pq k))))))), ((pq 0), .inr (1, [.int (pm 0), .int (pb 0), .int (pd 0), .int (pw 0)])), ((pq 1), .inr (1, [.int (pm 1), .int (pb 1), .int (pd 1), .int (pw 1)])), ((pq 2), .inr (1, [.int (pm 2), .int (pb 2), .int (pd 2), .int (pw 2)])), ((pq 3), .inr (1, [.int (pm 3), .int (pb 3), .int (pd 3), .int (pw 3)])), ((pq 4), .inr (1, [.int (pm 4), .int (pb 4), .int (pd 4), .int (pw 4)])), ((pq 5), .inr (1, [.int (pm 5), .int (pb 5), .int (pd 5), .int (pw 5)])), ((pq 6), .inr (1, [.int (pm 6), .int (pb 6), .int (pd 6), .int (pw 6)])), ((pq 7), .inr (1, [.int (pm 7), .int (pb 7), .int (pd 7), .int (pw 7)]))] H := hP
    replace hD : va_D A [(da, .inr (0, [.ref ami, .int cows, .ref aki, .ref afi, .int tasters, .ref anw, .ref apa, .int newest, .int known])), (anw, .inr (1, [.int mayBe_1, .int bearer_1, .int day_1, .int draw_1])), (apa, .inl (G 4, 8, .inr (.inr (.inr (.inr (fun k => some (pq k))))))), ((pq 0), .inr (1, [.int (pm 0), .int (pb 0), .int (pd 0), .int (pw 0)])), ((pq 1), .inr (1, [.int (pm 1), .int (pb 1), .int (pd 1), .int (pw 1)])), ((pq 2), .inr (1, [.int (pm 2), .int (pb 2), .int (pd 2), .int (pw 2)])), ((pq 3), .inr (1, [.int (pm 3), .int (pb 3), .int (pd 3), .int (pw 3)])), ((pq 4), .inr (1, [.int (pm 4), .int (pb 4), .int (pd 4), .int (pw 4)])), ((pq 5), .inr (1, [.int (pm 5), .int (pb 5), .int (pd 5), .int (pw 5)])), ((pq 6), .inr (1, [.int (pm 6), .int (pb 6), .int (pd 6), .int (pw 6)])), ((pq 7), .inr (1, [.int (pm 7), .int (pb 7), .int (pd 7), .int (pw 7)]))] := hD
    refine lv_aload_n hx hb dX0_goBack_16 rfl (lv_at hl 0 rfl) ?_
    refine lv_aload_n hx hb dX0_goBack_17 rfl (lv_at hl 0 rfl) ?_
    refine va_get (D := D) (ci := 0) (v := .int newest) (C := RX0) (T := TX0) (N := 9) hx hb hts inX0 hown hK hP 0 rfl rfl 7 (by decide) fl39 (fun _ h9 => h9) rfl dX0_goBack_18 ?_
    refine lv_iconst (v := 1) hx hb dX0_goBack_21 (by decide) ?_
    refine lv_isub hx hb dX0_goBack_22 ?_
    refine lv_bipush (v := 7) hx hb dX0_goBack_23 (by decide) ?_
    refine lv_iand hx hb dX0_goBack_25 ?_
    refine va_put (D := D) (ci := 0) (v := .int ((newest - (1 : Int32)) &&& (7 : Int32))) (ty := .int) (C := RX0) (T := TX0) (N := 9) hx hb hts inX0 tyX0 tyX0_ok nmX0 hown hK hP hD hS 0 rfl rfl 7 (by decide) fl39 (fun _ h9 => h9) rfl (by decide +kernel) rfl rfl (Nat.le_of_ble_eq_true rfl) dX0_goBack_26 (fun H locs hP hD hS => ?_)
    replace hP : va_P D vwCl [(da, .inr (0, [.ref ami, .int cows, .ref aki, .ref afi, .int tasters, .ref anw, .ref apa, .int ((newest - (1 : Int32)) &&& (7 : Int32)), .int known])), (anw, .inr (1, [.int mayBe_1, .int bearer_1, .int day_1, .int draw_1])), (apa, .inl (G 4, 8, .inr (.inr (.inr (.inr (fun k => some (pq k))))))), ((pq 0), .inr (1, [.int (pm 0), .int (pb 0), .int (pd 0), .int (pw 0)])), ((pq 1), .inr (1, [.int (pm 1), .int (pb 1), .int (pd 1), .int (pw 1)])), ((pq 2), .inr (1, [.int (pm 2), .int (pb 2), .int (pd 2), .int (pw 2)])), ((pq 3), .inr (1, [.int (pm 3), .int (pb 3), .int (pd 3), .int (pw 3)])), ((pq 4), .inr (1, [.int (pm 4), .int (pb 4), .int (pd 4), .int (pw 4)])), ((pq 5), .inr (1, [.int (pm 5), .int (pb 5), .int (pd 5), .int (pw 5)])), ((pq 6), .inr (1, [.int (pm 6), .int (pb 6), .int (pd 6), .int (pw 6)])), ((pq 7), .inr (1, [.int (pm 7), .int (pb 7), .int (pd 7), .int (pw 7)]))] H := hP
    replace hD : va_D A [(da, .inr (0, [.ref ami, .int cows, .ref aki, .ref afi, .int tasters, .ref anw, .ref apa, .int ((newest - (1 : Int32)) &&& (7 : Int32)), .int known])), (anw, .inr (1, [.int mayBe_1, .int bearer_1, .int day_1, .int draw_1])), (apa, .inl (G 4, 8, .inr (.inr (.inr (.inr (fun k => some (pq k))))))), ((pq 0), .inr (1, [.int (pm 0), .int (pb 0), .int (pd 0), .int (pw 0)])), ((pq 1), .inr (1, [.int (pm 1), .int (pb 1), .int (pd 1), .int (pw 1)])), ((pq 2), .inr (1, [.int (pm 2), .int (pb 2), .int (pd 2), .int (pw 2)])), ((pq 3), .inr (1, [.int (pm 3), .int (pb 3), .int (pd 3), .int (pw 3)])), ((pq 4), .inr (1, [.int (pm 4), .int (pb 4), .int (pd 4), .int (pw 4)])), ((pq 5), .inr (1, [.int (pm 5), .int (pb 5), .int (pd 5), .int (pw 5)])), ((pq 6), .inr (1, [.int (pm 6), .int (pb 6), .int (pd 6), .int (pw 6)])), ((pq 7), .inr (1, [.int (pm 7), .int (pb 7), .int (pd 7), .int (pw 7)]))] := hD
    refine lv_aload_n hx hb dX0_goBack_29 rfl (lv_at hl 0 rfl) ?_
    refine lv_dup hx hb dX0_goBack_30 rfl ?_
    refine va_get (D := D) (ci := 0) (v := .int known) (C := RX0) (T := TX0) (N := 9) hx hb hts inX0 hown hK hP 0 rfl rfl 8 (by decide) fl42 (fun _ h9 => h9) rfl dX0_goBack_31 ?_
    refine lv_iconst (v := 1) hx hb dX0_goBack_34 (by decide) ?_
    refine lv_isub hx hb dX0_goBack_35 ?_
    refine va_put (D := D) (ci := 0) (v := .int (known - (1 : Int32))) (ty := .int) (C := RX0) (T := TX0) (N := 9) hx hb hts inX0 tyX0 tyX0_ok nmX0 hown hK hP hD hS 0 rfl rfl 8 (by decide) fl42 (fun _ h9 => h9) rfl (by decide +kernel) rfl rfl (Nat.le_of_ble_eq_true rfl) dX0_goBack_36 (fun H locs hP hD hS => ?_)
    replace hP : va_P D vwCl [(da, .inr (0, [.ref ami, .int cows, .ref aki, .ref afi, .int tasters, .ref anw, .ref apa, .int ((newest - (1 : Int32)) &&& (7 : Int32)), .int (known - (1 : Int32))])), (anw, .inr (1, [.int mayBe_1, .int bearer_1, .int day_1, .int draw_1])), (apa, .inl (G 4, 8, .inr (.inr (.inr (.inr (fun k => some (pq k))))))), ((pq 0), .inr (1, [.int (pm 0), .int (pb 0), .int (pd 0), .int (pw 0)])), ((pq 1), .inr (1, [.int (pm 1), .int (pb 1), .int (pd 1), .int (pw 1)])), ((pq 2), .inr (1, [.int (pm 2), .int (pb 2), .int (pd 2), .int (pw 2)])), ((pq 3), .inr (1, [.int (pm 3), .int (pb 3), .int (pd 3), .int (pw 3)])), ((pq 4), .inr (1, [.int (pm 4), .int (pb 4), .int (pd 4), .int (pw 4)])), ((pq 5), .inr (1, [.int (pm 5), .int (pb 5), .int (pd 5), .int (pw 5)])), ((pq 6), .inr (1, [.int (pm 6), .int (pb 6), .int (pd 6), .int (pw 6)])), ((pq 7), .inr (1, [.int (pm 7), .int (pb 7), .int (pd 7), .int (pw 7)]))] H := hP
    replace hD : va_D A [(da, .inr (0, [.ref ami, .int cows, .ref aki, .ref afi, .int tasters, .ref anw, .ref apa, .int ((newest - (1 : Int32)) &&& (7 : Int32)), .int (known - (1 : Int32))])), (anw, .inr (1, [.int mayBe_1, .int bearer_1, .int day_1, .int draw_1])), (apa, .inl (G 4, 8, .inr (.inr (.inr (.inr (fun k => some (pq k))))))), ((pq 0), .inr (1, [.int (pm 0), .int (pb 0), .int (pd 0), .int (pw 0)])), ((pq 1), .inr (1, [.int (pm 1), .int (pb 1), .int (pd 1), .int (pw 1)])), ((pq 2), .inr (1, [.int (pm 2), .int (pb 2), .int (pd 2), .int (pw 2)])), ((pq 3), .inr (1, [.int (pm 3), .int (pb 3), .int (pd 3), .int (pw 3)])), ((pq 4), .inr (1, [.int (pm 4), .int (pb 4), .int (pd 4), .int (pw 4)])), ((pq 5), .inr (1, [.int (pm 5), .int (pb 5), .int (pd 5), .int (pw 5)])), ((pq 6), .inr (1, [.int (pm 6), .int (pb 6), .int (pd 6), .int (pw 6)])), ((pq 7), .inr (1, [.int (pm 7), .int (pb 7), .int (pd 7), .int (pw 7)]))] := hD
    exact W.vret hx hb hr (x_mv (u := (((newest - (1 : Int32)) &&& (7 : Int32)), (known - (1 : Int32)), mayBe_1, bearer_1, day_1, draw_1)) hP hK hD hS hw) hS.2.2 dX0_goBack_39
  · rw [hj] at hw
    refine x_aldq (j := 1) (b := (pq 1)) hx hb hK hP 2 4 rfl rfl hj rfl hin dX0_goBack_12 ?_
    refine x_cMv (wr := [(da, .inr (0, [.ref ami, .int cows, .ref aki, .ref afi, .int tasters, .ref anw, .ref apa, .int newest, .int known])), (apa, .inl (G 4, 8, .inr (.inr (.inr (.inr (fun k => some (pq k))))))), ((pq 0), .inr (1, [.int (pm 0), .int (pb 0), .int (pd 0), .int (pw 0)])), ((pq 2), .inr (1, [.int (pm 2), .int (pb 2), .int (pd 2), .int (pw 2)])), ((pq 3), .inr (1, [.int (pm 3), .int (pb 3), .int (pd 3), .int (pw 3)])), ((pq 4), .inr (1, [.int (pm 4), .int (pb 4), .int (pd 4), .int (pw 4)])), ((pq 5), .inr (1, [.int (pm 5), .int (pb 5), .int (pd 5), .int (pw 5)])), ((pq 6), .inr (1, [.int (pm 6), .int (pb 6), .int (pd 6), .int (pw 6)])), ((pq 7), .inr (1, [.int (pm 7), .int (pb 7), .int (pd 7), .int (pw 7)]))]) (va_runV (As := [.ref (pq 1)]) (rest := []) ⟨hx, hb, hml, hown, hts⟩ (c_X1_becomeLike l D G _ anw (pq 1) mayBe bearer day draw (pm 1) (pb 1) (pd 1) (pw 1) _ hw) (cwV 1 hts gX0_goBack_X1_becomeLike rfl rfl rfl (by decide +kernel) ⟨(Nat.le_of_ble_eq_true rfl), (Nat.le_of_ble_eq_true rfl)⟩) (xM_pv (hP.sub [1, 4] rfl) hK (hD.sub [1, 4] (by decide) rfl) (va_recv hK hP (ci := 1) (q0 := 1) rfl rfl)) rfl rfl hl.1 rfl (lv_room (Nat.le_of_ble_eq_true rfl)) dX0_goBack_13 ⟨Nat.zero_le _, Nat.zero_le _⟩) hP hD hS hA [1, 4] [0, 2, 3, 5, 6, 7, 8, 9, 10] rfl rfl (by decide) (by decide) [0, 9, 1, 2, 10, 3, 4, 5, 6, 7, 8] (fun u => [(da, .inr (0, [.ref ami, .int cows, .ref aki, .ref afi, .int tasters, .ref anw, .ref apa, .int newest, .int known])), (anw, .inr (1, [.int u.1, .int u.2.1, .int u.2.2.1, .int u.2.2.2])), (apa, .inl (G 4, 8, .inr (.inr (.inr (.inr (fun k => some (pq k))))))), ((pq 0), .inr (1, [.int (pm 0), .int (pb 0), .int (pd 0), .int (pw 0)])), ((pq 1), .inr (1, [.int (pm 1), .int (pb 1), .int (pd 1), .int (pw 1)])), ((pq 2), .inr (1, [.int (pm 2), .int (pb 2), .int (pd 2), .int (pw 2)])), ((pq 3), .inr (1, [.int (pm 3), .int (pb 3), .int (pd 3), .int (pw 3)])), ((pq 4), .inr (1, [.int (pm 4), .int (pb 4), .int (pd 4), .int (pw 4)])), ((pq 5), .inr (1, [.int (pm 5), .int (pb 5), .int (pd 5), .int (pw 5)])), ((pq 6), .inr (1, [.int (pm 6), .int (pb 6), .int (pd 6), .int (pw 6)])), ((pq 7), .inr (1, [.int (pm 7), .int (pb 7), .int (pd 7), .int (pw 7)]))]) (by decide) (fun u => rfl) (fun u H locs hw hP hD hS => ?_)
    obtain ⟨mayBe_1, bearer_1, day_1, draw_1⟩ := u
    try dsimp only at hw
    replace hP : va_P D vwCl [(da, .inr (0, [.ref ami, .int cows, .ref aki, .ref afi, .int tasters, .ref anw, .ref apa, .int newest, .int known])), (anw, .inr (1, [.int mayBe_1, .int bearer_1, .int day_1, .int draw_1])), (apa, .inl (G 4, 8, .inr (.inr (.inr (.inr (fun k => some (pq k))))))), ((pq 0), .inr (1, [.int (pm 0), .int (pb 0), .int (pd 0), .int (pw 0)])), ((pq 1), .inr (1, [.int (pm 1), .int (pb 1), .int (pd 1), .int (pw 1)])), ((pq 2), .inr (1, [.int (pm 2), .int (pb 2), .int (pd 2), .int (pw 2)])), ((pq 3), .inr (1, [.int (pm 3), .int (pb 3), .int (pd 3), .int (pw 3)])), ((pq 4), .inr (1, [.int (pm 4), .int (pb 4), .int (pd 4), .int (pw 4)])), ((pq 5), .inr (1, [.int (pm 5), .int (pb 5), .int (pd 5), .int (pw 5)])), ((pq 6), .inr (1, [.int (pm 6), .int (pb 6), .int (pd 6), .int (pw 6)])), ((pq 7), .inr (1, [.int (pm 7), .int (pb 7), .int (pd 7), .int (pw 7)]))] H := hP
    replace hD : va_D A [(da, .inr (0, [.ref ami, .int cows, .ref aki, .ref afi, .int tasters, .ref anw, .ref apa, .int newest, .int known])), (anw, .inr (1, [.int mayBe_1, .int bearer_1, .int day_1, .int draw_1])), (apa, .inl (G 4, 8, .inr (.inr (.inr (.inr (fun k => some (pq k))))))), ((pq 0), .inr (1, [.int (pm 0), .int (pb 0), .int (pd 0), .int (pw 0)])), ((pq 1), .inr (1, [.int (pm 1), .int (pb 1), .int (pd 1), .int (pw 1)])), ((pq 2), .inr (1, [.int (pm 2), .int (pb 2), .int (pd 2), .int (pw 2)])), ((pq 3), .inr (1, [.int (pm 3), .int (pb 3), .int (pd 3), .int (pw 3)])), ((pq 4), .inr (1, [.int (pm 4), .int (pb 4), .int (pd 4), .int (pw 4)])), ((pq 5), .inr (1, [.int (pm 5), .int (pb 5), .int (pd 5), .int (pw 5)])), ((pq 6), .inr (1, [.int (pm 6), .int (pb 6), .int (pd 6), .int (pw 6)])), ((pq 7), .inr (1, [.int (pm 7), .int (pb 7), .int (pd 7), .int (pw 7)]))] := hD
    refine lv_aload_n hx hb dX0_goBack_16 rfl (lv_at hl 0 rfl) ?_
    refine lv_aload_n hx hb dX0_goBack_17 rfl (lv_at hl 0 rfl) ?_
    refine va_get (D := D) (ci := 0) (v := .int newest) (C := RX0) (T := TX0) (N := 9) hx hb hts inX0 hown hK hP 0 rfl rfl 7 (by decide) fl39 (fun _ h9 => h9) rfl dX0_goBack_18 ?_
    refine lv_iconst (v := 1) hx hb dX0_goBack_21 (by decide) ?_
    refine lv_isub hx hb dX0_goBack_22 ?_
    refine lv_bipush (v := 7) hx hb dX0_goBack_23 (by decide) ?_
    refine lv_iand hx hb dX0_goBack_25 ?_
    refine va_put (D := D) (ci := 0) (v := .int ((newest - (1 : Int32)) &&& (7 : Int32))) (ty := .int) (C := RX0) (T := TX0) (N := 9) hx hb hts inX0 tyX0 tyX0_ok nmX0 hown hK hP hD hS 0 rfl rfl 7 (by decide) fl39 (fun _ h9 => h9) rfl (by decide +kernel) rfl rfl (Nat.le_of_ble_eq_true rfl) dX0_goBack_26 (fun H locs hP hD hS => ?_)
    replace hP : va_P D vwCl [(da, .inr (0, [.ref ami, .int cows, .ref aki, .ref afi, .int tasters, .ref anw, .ref apa, .int ((newest - (1 : Int32)) &&& (7 : Int32)), .int known])), (anw, .inr (1, [.int mayBe_1, .int bearer_1, .int day_1, .int draw_1])), (apa, .inl (G 4, 8, .inr (.inr (.inr (.inr (fun k => some (pq k))))))), ((pq 0), .inr (1, [.int (pm 0), .int (pb 0), .int (pd 0), .int (pw 0)])), ((pq 1), .inr (1, [.int (pm 1), .int (pb 1), .int (pd 1), .int (pw 1)])), ((pq 2), .inr (1, [.int (pm 2), .int (pb 2), .int (pd 2), .int (pw 2)])), ((pq 3), .inr (1, [.int (pm 3), .int (pb 3), .int (pd 3), .int (pw 3)])), ((pq 4), .inr (1, [.int (pm 4), .int (pb 4), .int (pd 4), .int (pw 4)])), ((pq 5), .inr (1, [.int (pm 5), .int (pb 5), .int (pd 5), .int (pw 5)])), ((pq 6), .inr (1, [.int (pm 6), .int (pb 6), .int (pd 6), .int (pw 6)])), ((pq 7), .inr (1, [.int (pm 7), .int (pb 7), .int (pd 7), .int (pw 7)]))] H := hP
    replace hD : va_D A [(da, .inr (0, [.ref ami, .int cows, .ref aki, .ref afi, .int tasters, .ref anw, .ref apa, .int ((newest - (1 : Int32)) &&& (7 : Int32)), .int known])), (anw, .inr (1, [.int mayBe_1, .int bearer_1, .int day_1, .int draw_1])), (apa, .inl (G 4, 8, .inr (.inr (.inr (.inr (fun k => some (pq k))))))), ((pq 0), .inr (1, [.int (pm 0), .int (pb 0), .int (pd 0), .int (pw 0)])), ((pq 1), .inr (1, [.int (pm 1), .int (pb 1), .int (pd 1), .int (pw 1)])), ((pq 2), .inr (1, [.int (pm 2), .int (pb 2), .int (pd 2), .int (pw 2)])), ((pq 3), .inr (1, [.int (pm 3), .int (pb 3), .int (pd 3), .int (pw 3)])), ((pq 4), .inr (1, [.int (pm 4), .int (pb 4), .int (pd 4), .int (pw 4)])), ((pq 5), .inr (1, [.int (pm 5), .int (pb 5), .int (pd 5), .int (pw 5)])), ((pq 6), .inr (1, [.int (pm 6), .int (pb 6), .int (pd 6), .int (pw 6)])), ((pq 7), .inr (1, [.int (pm 7), .int (pb 7), .int (pd 7), .int (pw 7)]))] := hD
    refine lv_aload_n hx hb dX0_goBack_29 rfl (lv_at hl 0 rfl) ?_
    refine lv_dup hx hb dX0_goBack_30 rfl ?_
    refine va_get (D := D) (ci := 0) (v := .int known) (C := RX0) (T := TX0) (N := 9) hx hb hts inX0 hown hK hP 0 rfl rfl 8 (by decide) fl42 (fun _ h9 => h9) rfl dX0_goBack_31 ?_
    refine lv_iconst (v := 1) hx hb dX0_goBack_34 (by decide) ?_
    refine lv_isub hx hb dX0_goBack_35 ?_
    refine va_put (D := D) (ci := 0) (v := .int (known - (1 : Int32))) (ty := .int) (C := RX0) (T := TX0) (N := 9) hx hb hts inX0 tyX0 tyX0_ok nmX0 hown hK hP hD hS 0 rfl rfl 8 (by decide) fl42 (fun _ h9 => h9) rfl (by decide +kernel) rfl rfl (Nat.le_of_ble_eq_true rfl) dX0_goBack_36 (fun H locs hP hD hS => ?_)
    replace hP : va_P D vwCl [(da, .inr (0, [.ref ami, .int cows, .ref aki, .ref afi, .int tasters, .ref anw, .ref apa, .int ((newest - (1 : Int32)) &&& (7 : Int32)), .int (known - (1 : Int32))])), (anw, .inr (1, [.int mayBe_1, .int bearer_1, .int day_1, .int draw_1])), (apa, .inl (G 4, 8, .inr (.inr (.inr (.inr (fun k => some (pq k))))))), ((pq 0), .inr (1, [.int (pm 0), .int (pb 0), .int (pd 0), .int (pw 0)])), ((pq 1), .inr (1, [.int (pm 1), .int (pb 1), .int (pd 1), .int (pw 1)])), ((pq 2), .inr (1, [.int (pm 2), .int (pb 2), .int (pd 2), .int (pw 2)])), ((pq 3), .inr (1, [.int (pm 3), .int (pb 3), .int (pd 3), .int (pw 3)])), ((pq 4), .inr (1, [.int (pm 4), .int (pb 4), .int (pd 4), .int (pw 4)])), ((pq 5), .inr (1, [.int (pm 5), .int (pb 5), .int (pd 5), .int (pw 5)])), ((pq 6), .inr (1, [.int (pm 6), .int (pb 6), .int (pd 6), .int (pw 6)])), ((pq 7), .inr (1, [.int (pm 7), .int (pb 7), .int (pd 7), .int (pw 7)]))] H := hP
    replace hD : va_D A [(da, .inr (0, [.ref ami, .int cows, .ref aki, .ref afi, .int tasters, .ref anw, .ref apa, .int ((newest - (1 : Int32)) &&& (7 : Int32)), .int (known - (1 : Int32))])), (anw, .inr (1, [.int mayBe_1, .int bearer_1, .int day_1, .int draw_1])), (apa, .inl (G 4, 8, .inr (.inr (.inr (.inr (fun k => some (pq k))))))), ((pq 0), .inr (1, [.int (pm 0), .int (pb 0), .int (pd 0), .int (pw 0)])), ((pq 1), .inr (1, [.int (pm 1), .int (pb 1), .int (pd 1), .int (pw 1)])), ((pq 2), .inr (1, [.int (pm 2), .int (pb 2), .int (pd 2), .int (pw 2)])), ((pq 3), .inr (1, [.int (pm 3), .int (pb 3), .int (pd 3), .int (pw 3)])), ((pq 4), .inr (1, [.int (pm 4), .int (pb 4), .int (pd 4), .int (pw 4)])), ((pq 5), .inr (1, [.int (pm 5), .int (pb 5), .int (pd 5), .int (pw 5)])), ((pq 6), .inr (1, [.int (pm 6), .int (pb 6), .int (pd 6), .int (pw 6)])), ((pq 7), .inr (1, [.int (pm 7), .int (pb 7), .int (pd 7), .int (pw 7)]))] := hD
    exact W.vret hx hb hr (x_mv (u := (((newest - (1 : Int32)) &&& (7 : Int32)), (known - (1 : Int32)), mayBe_1, bearer_1, day_1, draw_1)) hP hK hD hS hw) hS.2.2 dX0_goBack_39
  · rw [hj] at hw
    refine x_aldq (j := 2) (b := (pq 2)) hx hb hK hP 2 4 rfl rfl hj rfl hin dX0_goBack_12 ?_
    refine x_cMv (wr := [(da, .inr (0, [.ref ami, .int cows, .ref aki, .ref afi, .int tasters, .ref anw, .ref apa, .int newest, .int known])), (apa, .inl (G 4, 8, .inr (.inr (.inr (.inr (fun k => some (pq k))))))), ((pq 0), .inr (1, [.int (pm 0), .int (pb 0), .int (pd 0), .int (pw 0)])), ((pq 1), .inr (1, [.int (pm 1), .int (pb 1), .int (pd 1), .int (pw 1)])), ((pq 3), .inr (1, [.int (pm 3), .int (pb 3), .int (pd 3), .int (pw 3)])), ((pq 4), .inr (1, [.int (pm 4), .int (pb 4), .int (pd 4), .int (pw 4)])), ((pq 5), .inr (1, [.int (pm 5), .int (pb 5), .int (pd 5), .int (pw 5)])), ((pq 6), .inr (1, [.int (pm 6), .int (pb 6), .int (pd 6), .int (pw 6)])), ((pq 7), .inr (1, [.int (pm 7), .int (pb 7), .int (pd 7), .int (pw 7)]))]) (va_runV (As := [.ref (pq 2)]) (rest := []) ⟨hx, hb, hml, hown, hts⟩ (c_X1_becomeLike l D G _ anw (pq 2) mayBe bearer day draw (pm 2) (pb 2) (pd 2) (pw 2) _ hw) (cwV 1 hts gX0_goBack_X1_becomeLike rfl rfl rfl (by decide +kernel) ⟨(Nat.le_of_ble_eq_true rfl), (Nat.le_of_ble_eq_true rfl)⟩) (xM_pv (hP.sub [1, 5] rfl) hK (hD.sub [1, 5] (by decide) rfl) (va_recv hK hP (ci := 1) (q0 := 1) rfl rfl)) rfl rfl hl.1 rfl (lv_room (Nat.le_of_ble_eq_true rfl)) dX0_goBack_13 ⟨Nat.zero_le _, Nat.zero_le _⟩) hP hD hS hA [1, 5] [0, 2, 3, 4, 6, 7, 8, 9, 10] rfl rfl (by decide) (by decide) [0, 9, 1, 2, 3, 10, 4, 5, 6, 7, 8] (fun u => [(da, .inr (0, [.ref ami, .int cows, .ref aki, .ref afi, .int tasters, .ref anw, .ref apa, .int newest, .int known])), (anw, .inr (1, [.int u.1, .int u.2.1, .int u.2.2.1, .int u.2.2.2])), (apa, .inl (G 4, 8, .inr (.inr (.inr (.inr (fun k => some (pq k))))))), ((pq 0), .inr (1, [.int (pm 0), .int (pb 0), .int (pd 0), .int (pw 0)])), ((pq 1), .inr (1, [.int (pm 1), .int (pb 1), .int (pd 1), .int (pw 1)])), ((pq 2), .inr (1, [.int (pm 2), .int (pb 2), .int (pd 2), .int (pw 2)])), ((pq 3), .inr (1, [.int (pm 3), .int (pb 3), .int (pd 3), .int (pw 3)])), ((pq 4), .inr (1, [.int (pm 4), .int (pb 4), .int (pd 4), .int (pw 4)])), ((pq 5), .inr (1, [.int (pm 5), .int (pb 5), .int (pd 5), .int (pw 5)])), ((pq 6), .inr (1, [.int (pm 6), .int (pb 6), .int (pd 6), .int (pw 6)])), ((pq 7), .inr (1, [.int (pm 7), .int (pb 7), .int (pd 7), .int (pw 7)]))]) (by decide) (fun u => rfl) (fun u H locs hw hP hD hS => ?_)
    obtain ⟨mayBe_1, bearer_1, day_1, draw_1⟩ := u
    try dsimp only at hw
    replace hP : va_P D vwCl [(da, .inr (0, [.ref ami, .int cows, .ref aki, .ref afi, .int tasters, .ref anw, .ref apa, .int newest, .int known])), (anw, .inr (1, [.int mayBe_1, .int bearer_1, .int day_1, .int draw_1])), (apa, .inl (G 4, 8, .inr (.inr (.inr (.inr (fun k => some (pq k))))))), ((pq 0), .inr (1, [.int (pm 0), .int (pb 0), .int (pd 0), .int (pw 0)])), ((pq 1), .inr (1, [.int (pm 1), .int (pb 1), .int (pd 1), .int (pw 1)])), ((pq 2), .inr (1, [.int (pm 2), .int (pb 2), .int (pd 2), .int (pw 2)])), ((pq 3), .inr (1, [.int (pm 3), .int (pb 3), .int (pd 3), .int (pw 3)])), ((pq 4), .inr (1, [.int (pm 4), .int (pb 4), .int (pd 4), .int (pw 4)])), ((pq 5), .inr (1, [.int (pm 5), .int (pb 5), .int (pd 5), .int (pw 5)])), ((pq 6), .inr (1, [.int (pm 6), .int (pb 6), .int (pd 6), .int (pw 6)])), ((pq 7), .inr (1, [.int (pm 7), .int (pb 7), .int (pd 7), .int (pw 7)]))] H := hP
    replace hD : va_D A [(da, .inr (0, [.ref ami, .int cows, .ref aki, .ref afi, .int tasters, .ref anw, .ref apa, .int newest, .int known])), (anw, .inr (1, [.int mayBe_1, .int bearer_1, .int day_1, .int draw_1])), (apa, .inl (G 4, 8, .inr (.inr (.inr (.inr (fun k => some (pq k))))))), ((pq 0), .inr (1, [.int (pm 0), .int (pb 0), .int (pd 0), .int (pw 0)])), ((pq 1), .inr (1, [.int (pm 1), .int (pb 1), .int (pd 1), .int (pw 1)])), ((pq 2), .inr (1, [.int (pm 2), .int (pb 2), .int (pd 2), .int (pw 2)])), ((pq 3), .inr (1, [.int (pm 3), .int (pb 3), .int (pd 3), .int (pw 3)])), ((pq 4), .inr (1, [.int (pm 4), .int (pb 4), .int (pd 4), .int (pw 4)])), ((pq 5), .inr (1, [.int (pm 5), .int (pb 5), .int (pd 5), .int (pw 5)])), ((pq 6), .inr (1, [.int (pm 6), .int (pb 6), .int (pd 6), .int (pw 6)])), ((pq 7), .inr (1, [.int (pm 7), .int (pb 7), .int (pd 7), .int (pw 7)]))] := hD
    refine lv_aload_n hx hb dX0_goBack_16 rfl (lv_at hl 0 rfl) ?_
    refine lv_aload_n hx hb dX0_goBack_17 rfl (lv_at hl 0 rfl) ?_
    refine va_get (D := D) (ci := 0) (v := .int newest) (C := RX0) (T := TX0) (N := 9) hx hb hts inX0 hown hK hP 0 rfl rfl 7 (by decide) fl39 (fun _ h9 => h9) rfl dX0_goBack_18 ?_
    refine lv_iconst (v := 1) hx hb dX0_goBack_21 (by decide) ?_
    refine lv_isub hx hb dX0_goBack_22 ?_
    refine lv_bipush (v := 7) hx hb dX0_goBack_23 (by decide) ?_
    refine lv_iand hx hb dX0_goBack_25 ?_
    refine va_put (D := D) (ci := 0) (v := .int ((newest - (1 : Int32)) &&& (7 : Int32))) (ty := .int) (C := RX0) (T := TX0) (N := 9) hx hb hts inX0 tyX0 tyX0_ok nmX0 hown hK hP hD hS 0 rfl rfl 7 (by decide) fl39 (fun _ h9 => h9) rfl (by decide +kernel) rfl rfl (Nat.le_of_ble_eq_true rfl) dX0_goBack_26 (fun H locs hP hD hS => ?_)
    replace hP : va_P D vwCl [(da, .inr (0, [.ref ami, .int cows, .ref aki, .ref afi, .int tasters, .ref anw, .ref apa, .int ((newest - (1 : Int32)) &&& (7 : Int32)), .int known])), (anw, .inr (1, [.int mayBe_1, .int bearer_1, .int day_1, .int draw_1])), (apa, .inl (G 4, 8, .inr (.inr (.inr (.inr (fun k => some (pq k))))))), ((pq 0), .inr (1, [.int (pm 0), .int (pb 0), .int (pd 0), .int (pw 0)])), ((pq 1), .inr (1, [.int (pm 1), .int (pb 1), .int (pd 1), .int (pw 1)])), ((pq 2), .inr (1, [.int (pm 2), .int (pb 2), .int (pd 2), .int (pw 2)])), ((pq 3), .inr (1, [.int (pm 3), .int (pb 3), .int (pd 3), .int (pw 3)])), ((pq 4), .inr (1, [.int (pm 4), .int (pb 4), .int (pd 4), .int (pw 4)])), ((pq 5), .inr (1, [.int (pm 5), .int (pb 5), .int (pd 5), .int (pw 5)])), ((pq 6), .inr (1, [.int (pm 6), .int (pb 6), .int (pd 6), .int (pw 6)])), ((pq 7), .inr (1, [.int (pm 7), .int (pb 7), .int (pd 7), .int (pw 7)]))] H := hP
    replace hD : va_D A [(da, .inr (0, [.ref ami, .int cows, .ref aki, .ref afi, .int tasters, .ref anw, .ref apa, .int ((newest - (1 : Int32)) &&& (7 : Int32)), .int known])), (anw, .inr (1, [.int mayBe_1, .int bearer_1, .int day_1, .int draw_1])), (apa, .inl (G 4, 8, .inr (.inr (.inr (.inr (fun k => some (pq k))))))), ((pq 0), .inr (1, [.int (pm 0), .int (pb 0), .int (pd 0), .int (pw 0)])), ((pq 1), .inr (1, [.int (pm 1), .int (pb 1), .int (pd 1), .int (pw 1)])), ((pq 2), .inr (1, [.int (pm 2), .int (pb 2), .int (pd 2), .int (pw 2)])), ((pq 3), .inr (1, [.int (pm 3), .int (pb 3), .int (pd 3), .int (pw 3)])), ((pq 4), .inr (1, [.int (pm 4), .int (pb 4), .int (pd 4), .int (pw 4)])), ((pq 5), .inr (1, [.int (pm 5), .int (pb 5), .int (pd 5), .int (pw 5)])), ((pq 6), .inr (1, [.int (pm 6), .int (pb 6), .int (pd 6), .int (pw 6)])), ((pq 7), .inr (1, [.int (pm 7), .int (pb 7), .int (pd 7), .int (pw 7)]))] := hD
    refine lv_aload_n hx hb dX0_goBack_29 rfl (lv_at hl 0 rfl) ?_
    refine lv_dup hx hb dX0_goBack_30 rfl ?_
    refine va_get (D := D) (ci := 0) (v := .int known) (C := RX0) (T := TX0) (N := 9) hx hb hts inX0 hown hK hP 0 rfl rfl 8 (by decide) fl42 (fun _ h9 => h9) rfl dX0_goBack_31 ?_
    refine lv_iconst (v := 1) hx hb dX0_goBack_34 (by decide) ?_
    refine lv_isub hx hb dX0_goBack_35 ?_
    refine va_put (D := D) (ci := 0) (v := .int (known - (1 : Int32))) (ty := .int) (C := RX0) (T := TX0) (N := 9) hx hb hts inX0 tyX0 tyX0_ok nmX0 hown hK hP hD hS 0 rfl rfl 8 (by decide) fl42 (fun _ h9 => h9) rfl (by decide +kernel) rfl rfl (Nat.le_of_ble_eq_true rfl) dX0_goBack_36 (fun H locs hP hD hS => ?_)
    replace hP : va_P D vwCl [(da, .inr (0, [.ref ami, .int cows, .ref aki, .ref afi, .int tasters, .ref anw, .ref apa, .int ((newest - (1 : Int32)) &&& (7 : Int32)), .int (known - (1 : Int32))])), (anw, .inr (1, [.int mayBe_1, .int bearer_1, .int day_1, .int draw_1])), (apa, .inl (G 4, 8, .inr (.inr (.inr (.inr (fun k => some (pq k))))))), ((pq 0), .inr (1, [.int (pm 0), .int (pb 0), .int (pd 0), .int (pw 0)])), ((pq 1), .inr (1, [.int (pm 1), .int (pb 1), .int (pd 1), .int (pw 1)])), ((pq 2), .inr (1, [.int (pm 2), .int (pb 2), .int (pd 2), .int (pw 2)])), ((pq 3), .inr (1, [.int (pm 3), .int (pb 3), .int (pd 3), .int (pw 3)])), ((pq 4), .inr (1, [.int (pm 4), .int (pb 4), .int (pd 4), .int (pw 4)])), ((pq 5), .inr (1, [.int (pm 5), .int (pb 5), .int (pd 5), .int (pw 5)])), ((pq 6), .inr (1, [.int (pm 6), .int (pb 6), .int (pd 6), .int (pw 6)])), ((pq 7), .inr (1, [.int (pm 7), .int (pb 7), .int (pd 7), .int (pw 7)]))] H := hP
    replace hD : va_D A [(da, .inr (0, [.ref ami, .int cows, .ref aki, .ref afi, .int tasters, .ref anw, .ref apa, .int ((newest - (1 : Int32)) &&& (7 : Int32)), .int (known - (1 : Int32))])), (anw, .inr (1, [.int mayBe_1, .int bearer_1, .int day_1, .int draw_1])), (apa, .inl (G 4, 8, .inr (.inr (.inr (.inr (fun k => some (pq k))))))), ((pq 0), .inr (1, [.int (pm 0), .int (pb 0), .int (pd 0), .int (pw 0)])), ((pq 1), .inr (1, [.int (pm 1), .int (pb 1), .int (pd 1), .int (pw 1)])), ((pq 2), .inr (1, [.int (pm 2), .int (pb 2), .int (pd 2), .int (pw 2)])), ((pq 3), .inr (1, [.int (pm 3), .int (pb 3), .int (pd 3), .int (pw 3)])), ((pq 4), .inr (1, [.int (pm 4), .int (pb 4), .int (pd 4), .int (pw 4)])), ((pq 5), .inr (1, [.int (pm 5), .int (pb 5), .int (pd 5), .int (pw 5)])), ((pq 6), .inr (1, [.int (pm 6), .int (pb 6), .int (pd 6), .int (pw 6)])), ((pq 7), .inr (1, [.int (pm 7), .int (pb 7), .int (pd 7), .int (pw 7)]))] := hD
    exact W.vret hx hb hr (x_mv (u := (((newest - (1 : Int32)) &&& (7 : Int32)), (known - (1 : Int32)), mayBe_1, bearer_1, day_1, draw_1)) hP hK hD hS hw) hS.2.2 dX0_goBack_39
  · rw [hj] at hw
    refine x_aldq (j := 3) (b := (pq 3)) hx hb hK hP 2 4 rfl rfl hj rfl hin dX0_goBack_12 ?_
    refine x_cMv (wr := [(da, .inr (0, [.ref ami, .int cows, .ref aki, .ref afi, .int tasters, .ref anw, .ref apa, .int newest, .int known])), (apa, .inl (G 4, 8, .inr (.inr (.inr (.inr (fun k => some (pq k))))))), ((pq 0), .inr (1, [.int (pm 0), .int (pb 0), .int (pd 0), .int (pw 0)])), ((pq 1), .inr (1, [.int (pm 1), .int (pb 1), .int (pd 1), .int (pw 1)])), ((pq 2), .inr (1, [.int (pm 2), .int (pb 2), .int (pd 2), .int (pw 2)])), ((pq 4), .inr (1, [.int (pm 4), .int (pb 4), .int (pd 4), .int (pw 4)])), ((pq 5), .inr (1, [.int (pm 5), .int (pb 5), .int (pd 5), .int (pw 5)])), ((pq 6), .inr (1, [.int (pm 6), .int (pb 6), .int (pd 6), .int (pw 6)])), ((pq 7), .inr (1, [.int (pm 7), .int (pb 7), .int (pd 7), .int (pw 7)]))]) (va_runV (As := [.ref (pq 3)]) (rest := []) ⟨hx, hb, hml, hown, hts⟩ (c_X1_becomeLike l D G _ anw (pq 3) mayBe bearer day draw (pm 3) (pb 3) (pd 3) (pw 3) _ hw) (cwV 1 hts gX0_goBack_X1_becomeLike rfl rfl rfl (by decide +kernel) ⟨(Nat.le_of_ble_eq_true rfl), (Nat.le_of_ble_eq_true rfl)⟩) (xM_pv (hP.sub [1, 6] rfl) hK (hD.sub [1, 6] (by decide) rfl) (va_recv hK hP (ci := 1) (q0 := 1) rfl rfl)) rfl rfl hl.1 rfl (lv_room (Nat.le_of_ble_eq_true rfl)) dX0_goBack_13 ⟨Nat.zero_le _, Nat.zero_le _⟩) hP hD hS hA [1, 6] [0, 2, 3, 4, 5, 7, 8, 9, 10] rfl rfl (by decide) (by decide) [0, 9, 1, 2, 3, 4, 10, 5, 6, 7, 8] (fun u => [(da, .inr (0, [.ref ami, .int cows, .ref aki, .ref afi, .int tasters, .ref anw, .ref apa, .int newest, .int known])), (anw, .inr (1, [.int u.1, .int u.2.1, .int u.2.2.1, .int u.2.2.2])), (apa, .inl (G 4, 8, .inr (.inr (.inr (.inr (fun k => some (pq k))))))), ((pq 0), .inr (1, [.int (pm 0), .int (pb 0), .int (pd 0), .int (pw 0)])), ((pq 1), .inr (1, [.int (pm 1), .int (pb 1), .int (pd 1), .int (pw 1)])), ((pq 2), .inr (1, [.int (pm 2), .int (pb 2), .int (pd 2), .int (pw 2)])), ((pq 3), .inr (1, [.int (pm 3), .int (pb 3), .int (pd 3), .int (pw 3)])), ((pq 4), .inr (1, [.int (pm 4), .int (pb 4), .int (pd 4), .int (pw 4)])), ((pq 5), .inr (1, [.int (pm 5), .int (pb 5), .int (pd 5), .int (pw 5)])), ((pq 6), .inr (1, [.int (pm 6), .int (pb 6), .int (pd 6), .int (pw 6)])), ((pq 7), .inr (1, [.int (pm 7), .int (pb 7), .int (pd 7), .int (pw 7)]))]) (by decide) (fun u => rfl) (fun u H locs hw hP hD hS => ?_)
    obtain ⟨mayBe_1, bearer_1, day_1, draw_1⟩ := u
    try dsimp only at hw
    replace hP : va_P D vwCl [(da, .inr (0, [.ref ami, .int cows, .ref aki, .ref afi, .int tasters, .ref anw, .ref apa, .int newest, .int known])), (anw, .inr (1, [.int mayBe_1, .int bearer_1, .int day_1, .int draw_1])), (apa, .inl (G 4, 8, .inr (.inr (.inr (.inr (fun k => some (pq k))))))), ((pq 0), .inr (1, [.int (pm 0), .int (pb 0), .int (pd 0), .int (pw 0)])), ((pq 1), .inr (1, [.int (pm 1), .int (pb 1), .int (pd 1), .int (pw 1)])), ((pq 2), .inr (1, [.int (pm 2), .int (pb 2), .int (pd 2), .int (pw 2)])), ((pq 3), .inr (1, [.int (pm 3), .int (pb 3), .int (pd 3), .int (pw 3)])), ((pq 4), .inr (1, [.int (pm 4), .int (pb 4), .int (pd 4), .int (pw 4)])), ((pq 5), .inr (1, [.int (pm 5), .int (pb 5), .int (pd 5), .int (pw 5)])), ((pq 6), .inr (1, [.int (pm 6), .int (pb 6), .int (pd 6), .int (pw 6)])), ((pq 7), .inr (1, [.int (pm 7), .int (pb 7), .int (pd 7), .int (pw 7)]))] H := hP
    replace hD : va_D A [(da, .inr (0, [.ref ami, .int cows, .ref aki, .ref afi, .int tasters, .ref anw, .ref apa, .int newest, .int known])), (anw, .inr (1, [.int mayBe_1, .int bearer_1, .int day_1, .int draw_1])), (apa, .inl (G 4, 8, .inr (.inr (.inr (.inr (fun k => some (pq k))))))), ((pq 0), .inr (1, [.int (pm 0), .int (pb 0), .int (pd 0), .int (pw 0)])), ((pq 1), .inr (1, [.int (pm 1), .int (pb 1), .int (pd 1), .int (pw 1)])), ((pq 2), .inr (1, [.int (pm 2), .int (pb 2), .int (pd 2), .int (pw 2)])), ((pq 3), .inr (1, [.int (pm 3), .int (pb 3), .int (pd 3), .int (pw 3)])), ((pq 4), .inr (1, [.int (pm 4), .int (pb 4), .int (pd 4), .int (pw 4)])), ((pq 5), .inr (1, [.int (pm 5), .int (pb 5), .int (pd 5), .int (pw 5)])), ((pq 6), .inr (1, [.int (pm 6), .int (pb 6), .int (pd 6), .int (pw 6)])), ((pq 7), .inr (1, [.int (pm 7), .int (pb 7), .int (pd 7), .int (pw 7)]))] := hD
    refine lv_aload_n hx hb dX0_goBack_16 rfl (lv_at hl 0 rfl) ?_
    refine lv_aload_n hx hb dX0_goBack_17 rfl (lv_at hl 0 rfl) ?_
    refine va_get (D := D) (ci := 0) (v := .int newest) (C := RX0) (T := TX0) (N := 9) hx hb hts inX0 hown hK hP 0 rfl rfl 7 (by decide) fl39 (fun _ h9 => h9) rfl dX0_goBack_18 ?_
    refine lv_iconst (v := 1) hx hb dX0_goBack_21 (by decide) ?_
    refine lv_isub hx hb dX0_goBack_22 ?_
    refine lv_bipush (v := 7) hx hb dX0_goBack_23 (by decide) ?_
    refine lv_iand hx hb dX0_goBack_25 ?_
    refine va_put (D := D) (ci := 0) (v := .int ((newest - (1 : Int32)) &&& (7 : Int32))) (ty := .int) (C := RX0) (T := TX0) (N := 9) hx hb hts inX0 tyX0 tyX0_ok nmX0 hown hK hP hD hS 0 rfl rfl 7 (by decide) fl39 (fun _ h9 => h9) rfl (by decide +kernel) rfl rfl (Nat.le_of_ble_eq_true rfl) dX0_goBack_26 (fun H locs hP hD hS => ?_)
    replace hP : va_P D vwCl [(da, .inr (0, [.ref ami, .int cows, .ref aki, .ref afi, .int tasters, .ref anw, .ref apa, .int ((newest - (1 : Int32)) &&& (7 : Int32)), .int known])), (anw, .inr (1, [.int mayBe_1, .int bearer_1, .int day_1, .int draw_1])), (apa, .inl (G 4, 8, .inr (.inr (.inr (.inr (fun k => some (pq k))))))), ((pq 0), .inr (1, [.int (pm 0), .int (pb 0), .int (pd 0), .int (pw 0)])), ((pq 1), .inr (1, [.int (pm 1), .int (pb 1), .int (pd 1), .int (pw 1)])), ((pq 2), .inr (1, [.int (pm 2), .int (pb 2), .int (pd 2), .int (pw 2)])), ((pq 3), .inr (1, [.int (pm 3), .int (pb 3), .int (pd 3), .int (pw 3)])), ((pq 4), .inr (1, [.int (pm 4), .int (pb 4), .int (pd 4), .int (pw 4)])), ((pq 5), .inr (1, [.int (pm 5), .int (pb 5), .int (pd 5), .int (pw 5)])), ((pq 6), .inr (1, [.int (pm 6), .int (pb 6), .int (pd 6), .int (pw 6)])), ((pq 7), .inr (1, [.int (pm 7), .int (pb 7), .int (pd 7), .int (pw 7)]))] H := hP
    replace hD : va_D A [(da, .inr (0, [.ref ami, .int cows, .ref aki, .ref afi, .int tasters, .ref anw, .ref apa, .int ((newest - (1 : Int32)) &&& (7 : Int32)), .int known])), (anw, .inr (1, [.int mayBe_1, .int bearer_1, .int day_1, .int draw_1])), (apa, .inl (G 4, 8, .inr (.inr (.inr (.inr (fun k => some (pq k))))))), ((pq 0), .inr (1, [.int (pm 0), .int (pb 0), .int (pd 0), .int (pw 0)])), ((pq 1), .inr (1, [.int (pm 1), .int (pb 1), .int (pd 1), .int (pw 1)])), ((pq 2), .inr (1, [.int (pm 2), .int (pb 2), .int (pd 2), .int (pw 2)])), ((pq 3), .inr (1, [.int (pm 3), .int (pb 3), .int (pd 3), .int (pw 3)])), ((pq 4), .inr (1, [.int (pm 4), .int (pb 4), .int (pd 4), .int (pw 4)])), ((pq 5), .inr (1, [.int (pm 5), .int (pb 5), .int (pd 5), .int (pw 5)])), ((pq 6), .inr (1, [.int (pm 6), .int (pb 6), .int (pd 6), .int (pw 6)])), ((pq 7), .inr (1, [.int (pm 7), .int (pb 7), .int (pd 7), .int (pw 7)]))] := hD
    refine lv_aload_n hx hb dX0_goBack_29 rfl (lv_at hl 0 rfl) ?_
    refine lv_dup hx hb dX0_goBack_30 rfl ?_
    refine va_get (D := D) (ci := 0) (v := .int known) (C := RX0) (T := TX0) (N := 9) hx hb hts inX0 hown hK hP 0 rfl rfl 8 (by decide) fl42 (fun _ h9 => h9) rfl dX0_goBack_31 ?_
    refine lv_iconst (v := 1) hx hb dX0_goBack_34 (by decide) ?_
    refine lv_isub hx hb dX0_goBack_35 ?_
    refine va_put (D := D) (ci := 0) (v := .int (known - (1 : Int32))) (ty := .int) (C := RX0) (T := TX0) (N := 9) hx hb hts inX0 tyX0 tyX0_ok nmX0 hown hK hP hD hS 0 rfl rfl 8 (by decide) fl42 (fun _ h9 => h9) rfl (by decide +kernel) rfl rfl (Nat.le_of_ble_eq_true rfl) dX0_goBack_36 (fun H locs hP hD hS => ?_)
    replace hP : va_P D vwCl [(da, .inr (0, [.ref ami, .int cows, .ref aki, .ref afi, .int tasters, .ref anw, .ref apa, .int ((newest - (1 : Int32)) &&& (7 : Int32)), .int (known - (1 : Int32))])), (anw, .inr (1, [.int mayBe_1, .int bearer_1, .int day_1, .int draw_1])), (apa, .inl (G 4, 8, .inr (.inr (.inr (.inr (fun k => some (pq k))))))), ((pq 0), .inr (1, [.int (pm 0), .int (pb 0), .int (pd 0), .int (pw 0)])), ((pq 1), .inr (1, [.int (pm 1), .int (pb 1), .int (pd 1), .int (pw 1)])), ((pq 2), .inr (1, [.int (pm 2), .int (pb 2), .int (pd 2), .int (pw 2)])), ((pq 3), .inr (1, [.int (pm 3), .int (pb 3), .int (pd 3), .int (pw 3)])), ((pq 4), .inr (1, [.int (pm 4), .int (pb 4), .int (pd 4), .int (pw 4)])), ((pq 5), .inr (1, [.int (pm 5), .int (pb 5), .int (pd 5), .int (pw 5)])), ((pq 6), .inr (1, [.int (pm 6), .int (pb 6), .int (pd 6), .int (pw 6)])), ((pq 7), .inr (1, [.int (pm 7), .int (pb 7), .int (pd 7), .int (pw 7)]))] H := hP
    replace hD : va_D A [(da, .inr (0, [.ref ami, .int cows, .ref aki, .ref afi, .int tasters, .ref anw, .ref apa, .int ((newest - (1 : Int32)) &&& (7 : Int32)), .int (known - (1 : Int32))])), (anw, .inr (1, [.int mayBe_1, .int bearer_1, .int day_1, .int draw_1])), (apa, .inl (G 4, 8, .inr (.inr (.inr (.inr (fun k => some (pq k))))))), ((pq 0), .inr (1, [.int (pm 0), .int (pb 0), .int (pd 0), .int (pw 0)])), ((pq 1), .inr (1, [.int (pm 1), .int (pb 1), .int (pd 1), .int (pw 1)])), ((pq 2), .inr (1, [.int (pm 2), .int (pb 2), .int (pd 2), .int (pw 2)])), ((pq 3), .inr (1, [.int (pm 3), .int (pb 3), .int (pd 3), .int (pw 3)])), ((pq 4), .inr (1, [.int (pm 4), .int (pb 4), .int (pd 4), .int (pw 4)])), ((pq 5), .inr (1, [.int (pm 5), .int (pb 5), .int (pd 5), .int (pw 5)])), ((pq 6), .inr (1, [.int (pm 6), .int (pb 6), .int (pd 6), .int (pw 6)])), ((pq 7), .inr (1, [.int (pm 7), .int (pb 7), .int (pd 7), .int (pw 7)]))] := hD
    exact W.vret hx hb hr (x_mv (u := (((newest - (1 : Int32)) &&& (7 : Int32)), (known - (1 : Int32)), mayBe_1, bearer_1, day_1, draw_1)) hP hK hD hS hw) hS.2.2 dX0_goBack_39
  · rw [hj] at hw
    refine x_aldq (j := 4) (b := (pq 4)) hx hb hK hP 2 4 rfl rfl hj rfl hin dX0_goBack_12 ?_
    refine x_cMv (wr := [(da, .inr (0, [.ref ami, .int cows, .ref aki, .ref afi, .int tasters, .ref anw, .ref apa, .int newest, .int known])), (apa, .inl (G 4, 8, .inr (.inr (.inr (.inr (fun k => some (pq k))))))), ((pq 0), .inr (1, [.int (pm 0), .int (pb 0), .int (pd 0), .int (pw 0)])), ((pq 1), .inr (1, [.int (pm 1), .int (pb 1), .int (pd 1), .int (pw 1)])), ((pq 2), .inr (1, [.int (pm 2), .int (pb 2), .int (pd 2), .int (pw 2)])), ((pq 3), .inr (1, [.int (pm 3), .int (pb 3), .int (pd 3), .int (pw 3)])), ((pq 5), .inr (1, [.int (pm 5), .int (pb 5), .int (pd 5), .int (pw 5)])), ((pq 6), .inr (1, [.int (pm 6), .int (pb 6), .int (pd 6), .int (pw 6)])), ((pq 7), .inr (1, [.int (pm 7), .int (pb 7), .int (pd 7), .int (pw 7)]))]) (va_runV (As := [.ref (pq 4)]) (rest := []) ⟨hx, hb, hml, hown, hts⟩ (c_X1_becomeLike l D G _ anw (pq 4) mayBe bearer day draw (pm 4) (pb 4) (pd 4) (pw 4) _ hw) (cwV 1 hts gX0_goBack_X1_becomeLike rfl rfl rfl (by decide +kernel) ⟨(Nat.le_of_ble_eq_true rfl), (Nat.le_of_ble_eq_true rfl)⟩) (xM_pv (hP.sub [1, 7] rfl) hK (hD.sub [1, 7] (by decide) rfl) (va_recv hK hP (ci := 1) (q0 := 1) rfl rfl)) rfl rfl hl.1 rfl (lv_room (Nat.le_of_ble_eq_true rfl)) dX0_goBack_13 ⟨Nat.zero_le _, Nat.zero_le _⟩) hP hD hS hA [1, 7] [0, 2, 3, 4, 5, 6, 8, 9, 10] rfl rfl (by decide) (by decide) [0, 9, 1, 2, 3, 4, 5, 10, 6, 7, 8] (fun u => [(da, .inr (0, [.ref ami, .int cows, .ref aki, .ref afi, .int tasters, .ref anw, .ref apa, .int newest, .int known])), (anw, .inr (1, [.int u.1, .int u.2.1, .int u.2.2.1, .int u.2.2.2])), (apa, .inl (G 4, 8, .inr (.inr (.inr (.inr (fun k => some (pq k))))))), ((pq 0), .inr (1, [.int (pm 0), .int (pb 0), .int (pd 0), .int (pw 0)])), ((pq 1), .inr (1, [.int (pm 1), .int (pb 1), .int (pd 1), .int (pw 1)])), ((pq 2), .inr (1, [.int (pm 2), .int (pb 2), .int (pd 2), .int (pw 2)])), ((pq 3), .inr (1, [.int (pm 3), .int (pb 3), .int (pd 3), .int (pw 3)])), ((pq 4), .inr (1, [.int (pm 4), .int (pb 4), .int (pd 4), .int (pw 4)])), ((pq 5), .inr (1, [.int (pm 5), .int (pb 5), .int (pd 5), .int (pw 5)])), ((pq 6), .inr (1, [.int (pm 6), .int (pb 6), .int (pd 6), .int (pw 6)])), ((pq 7), .inr (1, [.int (pm 7), .int (pb 7), .int (pd 7), .int (pw 7)]))]) (by decide) (fun u => rfl) (fun u H locs hw hP hD hS => ?_)
    obtain ⟨mayBe_1, bearer_1, day_1, draw_1⟩ := u
    try dsimp only at hw
    replace hP : va_P D vwCl [(da, .inr (0, [.ref ami, .int cows, .ref aki, .ref afi, .int tasters, .ref anw, .ref apa, .int newest, .int known])), (anw, .inr (1, [.int mayBe_1, .int bearer_1, .int day_1, .int draw_1])), (apa, .inl (G 4, 8, .inr (.inr (.inr (.inr (fun k => some (pq k))))))), ((pq 0), .inr (1, [.int (pm 0), .int (pb 0), .int (pd 0), .int (pw 0)])), ((pq 1), .inr (1, [.int (pm 1), .int (pb 1), .int (pd 1), .int (pw 1)])), ((pq 2), .inr (1, [.int (pm 2), .int (pb 2), .int (pd 2), .int (pw 2)])), ((pq 3), .inr (1, [.int (pm 3), .int (pb 3), .int (pd 3), .int (pw 3)])), ((pq 4), .inr (1, [.int (pm 4), .int (pb 4), .int (pd 4), .int (pw 4)])), ((pq 5), .inr (1, [.int (pm 5), .int (pb 5), .int (pd 5), .int (pw 5)])), ((pq 6), .inr (1, [.int (pm 6), .int (pb 6), .int (pd 6), .int (pw 6)])), ((pq 7), .inr (1, [.int (pm 7), .int (pb 7), .int (pd 7), .int (pw 7)]))] H := hP
    replace hD : va_D A [(da, .inr (0, [.ref ami, .int cows, .ref aki, .ref afi, .int tasters, .ref anw, .ref apa, .int newest, .int known])), (anw, .inr (1, [.int mayBe_1, .int bearer_1, .int day_1, .int draw_1])), (apa, .inl (G 4, 8, .inr (.inr (.inr (.inr (fun k => some (pq k))))))), ((pq 0), .inr (1, [.int (pm 0), .int (pb 0), .int (pd 0), .int (pw 0)])), ((pq 1), .inr (1, [.int (pm 1), .int (pb 1), .int (pd 1), .int (pw 1)])), ((pq 2), .inr (1, [.int (pm 2), .int (pb 2), .int (pd 2), .int (pw 2)])), ((pq 3), .inr (1, [.int (pm 3), .int (pb 3), .int (pd 3), .int (pw 3)])), ((pq 4), .inr (1, [.int (pm 4), .int (pb 4), .int (pd 4), .int (pw 4)])), ((pq 5), .inr (1, [.int (pm 5), .int (pb 5), .int (pd 5), .int (pw 5)])), ((pq 6), .inr (1, [.int (pm 6), .int (pb 6), .int (pd 6), .int (pw 6)])), ((pq 7), .inr (1, [.int (pm 7), .int (pb 7), .int (pd 7), .int (pw 7)]))] := hD
    refine lv_aload_n hx hb dX0_goBack_16 rfl (lv_at hl 0 rfl) ?_
    refine lv_aload_n hx hb dX0_goBack_17 rfl (lv_at hl 0 rfl) ?_
    refine va_get (D := D) (ci := 0) (v := .int newest) (C := RX0) (T := TX0) (N := 9) hx hb hts inX0 hown hK hP 0 rfl rfl 7 (by decide) fl39 (fun _ h9 => h9) rfl dX0_goBack_18 ?_
    refine lv_iconst (v := 1) hx hb dX0_goBack_21 (by decide) ?_
    refine lv_isub hx hb dX0_goBack_22 ?_
    refine lv_bipush (v := 7) hx hb dX0_goBack_23 (by decide) ?_
    refine lv_iand hx hb dX0_goBack_25 ?_
    refine va_put (D := D) (ci := 0) (v := .int ((newest - (1 : Int32)) &&& (7 : Int32))) (ty := .int) (C := RX0) (T := TX0) (N := 9) hx hb hts inX0 tyX0 tyX0_ok nmX0 hown hK hP hD hS 0 rfl rfl 7 (by decide) fl39 (fun _ h9 => h9) rfl (by decide +kernel) rfl rfl (Nat.le_of_ble_eq_true rfl) dX0_goBack_26 (fun H locs hP hD hS => ?_)
    replace hP : va_P D vwCl [(da, .inr (0, [.ref ami, .int cows, .ref aki, .ref afi, .int tasters, .ref anw, .ref apa, .int ((newest - (1 : Int32)) &&& (7 : Int32)), .int known])), (anw, .inr (1, [.int mayBe_1, .int bearer_1, .int day_1, .int draw_1])), (apa, .inl (G 4, 8, .inr (.inr (.inr (.inr (fun k => some (pq k))))))), ((pq 0), .inr (1, [.int (pm 0), .int (pb 0), .int (pd 0), .int (pw 0)])), ((pq 1), .inr (1, [.int (pm 1), .int (pb 1), .int (pd 1), .int (pw 1)])), ((pq 2), .inr (1, [.int (pm 2), .int (pb 2), .int (pd 2), .int (pw 2)])), ((pq 3), .inr (1, [.int (pm 3), .int (pb 3), .int (pd 3), .int (pw 3)])), ((pq 4), .inr (1, [.int (pm 4), .int (pb 4), .int (pd 4), .int (pw 4)])), ((pq 5), .inr (1, [.int (pm 5), .int (pb 5), .int (pd 5), .int (pw 5)])), ((pq 6), .inr (1, [.int (pm 6), .int (pb 6), .int (pd 6), .int (pw 6)])), ((pq 7), .inr (1, [.int (pm 7), .int (pb 7), .int (pd 7), .int (pw 7)]))] H := hP
    replace hD : va_D A [(da, .inr (0, [.ref ami, .int cows, .ref aki, .ref afi, .int tasters, .ref anw, .ref apa, .int ((newest - (1 : Int32)) &&& (7 : Int32)), .int known])), (anw, .inr (1, [.int mayBe_1, .int bearer_1, .int day_1, .int draw_1])), (apa, .inl (G 4, 8, .inr (.inr (.inr (.inr (fun k => some (pq k))))))), ((pq 0), .inr (1, [.int (pm 0), .int (pb 0), .int (pd 0), .int (pw 0)])), ((pq 1), .inr (1, [.int (pm 1), .int (pb 1), .int (pd 1), .int (pw 1)])), ((pq 2), .inr (1, [.int (pm 2), .int (pb 2), .int (pd 2), .int (pw 2)])), ((pq 3), .inr (1, [.int (pm 3), .int (pb 3), .int (pd 3), .int (pw 3)])), ((pq 4), .inr (1, [.int (pm 4), .int (pb 4), .int (pd 4), .int (pw 4)])), ((pq 5), .inr (1, [.int (pm 5), .int (pb 5), .int (pd 5), .int (pw 5)])), ((pq 6), .inr (1, [.int (pm 6), .int (pb 6), .int (pd 6), .int (pw 6)])), ((pq 7), .inr (1, [.int (pm 7), .int (pb 7), .int (pd 7), .int (pw 7)]))] := hD
    refine lv_aload_n hx hb dX0_goBack_29 rfl (lv_at hl 0 rfl) ?_
    refine lv_dup hx hb dX0_goBack_30 rfl ?_
    refine va_get (D := D) (ci := 0) (v := .int known) (C := RX0) (T := TX0) (N := 9) hx hb hts inX0 hown hK hP 0 rfl rfl 8 (by decide) fl42 (fun _ h9 => h9) rfl dX0_goBack_31 ?_
    refine lv_iconst (v := 1) hx hb dX0_goBack_34 (by decide) ?_
    refine lv_isub hx hb dX0_goBack_35 ?_
    refine va_put (D := D) (ci := 0) (v := .int (known - (1 : Int32))) (ty := .int) (C := RX0) (T := TX0) (N := 9) hx hb hts inX0 tyX0 tyX0_ok nmX0 hown hK hP hD hS 0 rfl rfl 8 (by decide) fl42 (fun _ h9 => h9) rfl (by decide +kernel) rfl rfl (Nat.le_of_ble_eq_true rfl) dX0_goBack_36 (fun H locs hP hD hS => ?_)
    replace hP : va_P D vwCl [(da, .inr (0, [.ref ami, .int cows, .ref aki, .ref afi, .int tasters, .ref anw, .ref apa, .int ((newest - (1 : Int32)) &&& (7 : Int32)), .int (known - (1 : Int32))])), (anw, .inr (1, [.int mayBe_1, .int bearer_1, .int day_1, .int draw_1])), (apa, .inl (G 4, 8, .inr (.inr (.inr (.inr (fun k => some (pq k))))))), ((pq 0), .inr (1, [.int (pm 0), .int (pb 0), .int (pd 0), .int (pw 0)])), ((pq 1), .inr (1, [.int (pm 1), .int (pb 1), .int (pd 1), .int (pw 1)])), ((pq 2), .inr (1, [.int (pm 2), .int (pb 2), .int (pd 2), .int (pw 2)])), ((pq 3), .inr (1, [.int (pm 3), .int (pb 3), .int (pd 3), .int (pw 3)])), ((pq 4), .inr (1, [.int (pm 4), .int (pb 4), .int (pd 4), .int (pw 4)])), ((pq 5), .inr (1, [.int (pm 5), .int (pb 5), .int (pd 5), .int (pw 5)])), ((pq 6), .inr (1, [.int (pm 6), .int (pb 6), .int (pd 6), .int (pw 6)])), ((pq 7), .inr (1, [.int (pm 7), .int (pb 7), .int (pd 7), .int (pw 7)]))] H := hP
    replace hD : va_D A [(da, .inr (0, [.ref ami, .int cows, .ref aki, .ref afi, .int tasters, .ref anw, .ref apa, .int ((newest - (1 : Int32)) &&& (7 : Int32)), .int (known - (1 : Int32))])), (anw, .inr (1, [.int mayBe_1, .int bearer_1, .int day_1, .int draw_1])), (apa, .inl (G 4, 8, .inr (.inr (.inr (.inr (fun k => some (pq k))))))), ((pq 0), .inr (1, [.int (pm 0), .int (pb 0), .int (pd 0), .int (pw 0)])), ((pq 1), .inr (1, [.int (pm 1), .int (pb 1), .int (pd 1), .int (pw 1)])), ((pq 2), .inr (1, [.int (pm 2), .int (pb 2), .int (pd 2), .int (pw 2)])), ((pq 3), .inr (1, [.int (pm 3), .int (pb 3), .int (pd 3), .int (pw 3)])), ((pq 4), .inr (1, [.int (pm 4), .int (pb 4), .int (pd 4), .int (pw 4)])), ((pq 5), .inr (1, [.int (pm 5), .int (pb 5), .int (pd 5), .int (pw 5)])), ((pq 6), .inr (1, [.int (pm 6), .int (pb 6), .int (pd 6), .int (pw 6)])), ((pq 7), .inr (1, [.int (pm 7), .int (pb 7), .int (pd 7), .int (pw 7)]))] := hD
    exact W.vret hx hb hr (x_mv (u := (((newest - (1 : Int32)) &&& (7 : Int32)), (known - (1 : Int32)), mayBe_1, bearer_1, day_1, draw_1)) hP hK hD hS hw) hS.2.2 dX0_goBack_39
  · rw [hj] at hw
    refine x_aldq (j := 5) (b := (pq 5)) hx hb hK hP 2 4 rfl rfl hj rfl hin dX0_goBack_12 ?_
    refine x_cMv (wr := [(da, .inr (0, [.ref ami, .int cows, .ref aki, .ref afi, .int tasters, .ref anw, .ref apa, .int newest, .int known])), (apa, .inl (G 4, 8, .inr (.inr (.inr (.inr (fun k => some (pq k))))))), ((pq 0), .inr (1, [.int (pm 0), .int (pb 0), .int (pd 0), .int (pw 0)])), ((pq 1), .inr (1, [.int (pm 1), .int (pb 1), .int (pd 1), .int (pw 1)])), ((pq 2), .inr (1, [.int (pm 2), .int (pb 2), .int (pd 2), .int (pw 2)])), ((pq 3), .inr (1, [.int (pm 3), .int (pb 3), .int (pd 3), .int (pw 3)])), ((pq 4), .inr (1, [.int (pm 4), .int (pb 4), .int (pd 4), .int (pw 4)])), ((pq 6), .inr (1, [.int (pm 6), .int (pb 6), .int (pd 6), .int (pw 6)])), ((pq 7), .inr (1, [.int (pm 7), .int (pb 7), .int (pd 7), .int (pw 7)]))]) (va_runV (As := [.ref (pq 5)]) (rest := []) ⟨hx, hb, hml, hown, hts⟩ (c_X1_becomeLike l D G _ anw (pq 5) mayBe bearer day draw (pm 5) (pb 5) (pd 5) (pw 5) _ hw) (cwV 1 hts gX0_goBack_X1_becomeLike rfl rfl rfl (by decide +kernel) ⟨(Nat.le_of_ble_eq_true rfl), (Nat.le_of_ble_eq_true rfl)⟩) (xM_pv (hP.sub [1, 8] rfl) hK (hD.sub [1, 8] (by decide) rfl) (va_recv hK hP (ci := 1) (q0 := 1) rfl rfl)) rfl rfl hl.1 rfl (lv_room (Nat.le_of_ble_eq_true rfl)) dX0_goBack_13 ⟨Nat.zero_le _, Nat.zero_le _⟩) hP hD hS hA [1, 8] [0, 2, 3, 4, 5, 6, 7, 9, 10] rfl rfl (by decide) (by decide) [0, 9, 1, 2, 3, 4, 5, 6, 10, 7, 8] (fun u => [(da, .inr (0, [.ref ami, .int cows, .ref aki, .ref afi, .int tasters, .ref anw, .ref apa, .int newest, .int known])), (anw, .inr (1, [.int u.1, .int u.2.1, .int u.2.2.1, .int u.2.2.2])), (apa, .inl (G 4, 8, .inr (.inr (.inr (.inr (fun k => some (pq k))))))), ((pq 0), .inr (1, [.int (pm 0), .int (pb 0), .int (pd 0), .int (pw 0)])), ((pq 1), .inr (1, [.int (pm 1), .int (pb 1), .int (pd 1), .int (pw 1)])), ((pq 2), .inr (1, [.int (pm 2), .int (pb 2), .int (pd 2), .int (pw 2)])), ((pq 3), .inr (1, [.int (pm 3), .int (pb 3), .int (pd 3), .int (pw 3)])), ((pq 4), .inr (1, [.int (pm 4), .int (pb 4), .int (pd 4), .int (pw 4)])), ((pq 5), .inr (1, [.int (pm 5), .int (pb 5), .int (pd 5), .int (pw 5)])), ((pq 6), .inr (1, [.int (pm 6), .int (pb 6), .int (pd 6), .int (pw 6)])), ((pq 7), .inr (1, [.int (pm 7), .int (pb 7), .int (pd 7), .int (pw 7)]))]) (by decide) (fun u => rfl) (fun u H locs hw hP hD hS => ?_)
    obtain ⟨mayBe_1, bearer_1, day_1, draw_1⟩ := u
    try dsimp only at hw
    replace hP : va_P D vwCl [(da, .inr (0, [.ref ami, .int cows, .ref aki, .ref afi, .int tasters, .ref anw, .ref apa, .int newest, .int known])), (anw, .inr (1, [.int mayBe_1, .int bearer_1, .int day_1, .int draw_1])), (apa, .inl (G 4, 8, .inr (.inr (.inr (.inr (fun k => some (pq k))))))), ((pq 0), .inr (1, [.int (pm 0), .int (pb 0), .int (pd 0), .int (pw 0)])), ((pq 1), .inr (1, [.int (pm 1), .int (pb 1), .int (pd 1), .int (pw 1)])), ((pq 2), .inr (1, [.int (pm 2), .int (pb 2), .int (pd 2), .int (pw 2)])), ((pq 3), .inr (1, [.int (pm 3), .int (pb 3), .int (pd 3), .int (pw 3)])), ((pq 4), .inr (1, [.int (pm 4), .int (pb 4), .int (pd 4), .int (pw 4)])), ((pq 5), .inr (1, [.int (pm 5), .int (pb 5), .int (pd 5), .int (pw 5)])), ((pq 6), .inr (1, [.int (pm 6), .int (pb 6), .int (pd 6), .int (pw 6)])), ((pq 7), .inr (1, [.int (pm 7), .int (pb 7), .int (pd 7), .int (pw 7)]))] H := hP
    replace hD : va_D A [(da, .inr (0, [.ref ami, .int cows, .ref aki, .ref afi, .int tasters, .ref anw, .ref apa, .int newest, .int known])), (anw, .inr (1, [.int mayBe_1, .int bearer_1, .int day_1, .int draw_1])), (apa, .inl (G 4, 8, .inr (.inr (.inr (.inr (fun k => some (pq k))))))), ((pq 0), .inr (1, [.int (pm 0), .int (pb 0), .int (pd 0), .int (pw 0)])), ((pq 1), .inr (1, [.int (pm 1), .int (pb 1), .int (pd 1), .int (pw 1)])), ((pq 2), .inr (1, [.int (pm 2), .int (pb 2), .int (pd 2), .int (pw 2)])), ((pq 3), .inr (1, [.int (pm 3), .int (pb 3), .int (pd 3), .int (pw 3)])), ((pq 4), .inr (1, [.int (pm 4), .int (pb 4), .int (pd 4), .int (pw 4)])), ((pq 5), .inr (1, [.int (pm 5), .int (pb 5), .int (pd 5), .int (pw 5)])), ((pq 6), .inr (1, [.int (pm 6), .int (pb 6), .int (pd 6), .int (pw 6)])), ((pq 7), .inr (1, [.int (pm 7), .int (pb 7), .int (pd 7), .int (pw 7)]))] := hD
    refine lv_aload_n hx hb dX0_goBack_16 rfl (lv_at hl 0 rfl) ?_
    refine lv_aload_n hx hb dX0_goBack_17 rfl (lv_at hl 0 rfl) ?_
    refine va_get (D := D) (ci := 0) (v := .int newest) (C := RX0) (T := TX0) (N := 9) hx hb hts inX0 hown hK hP 0 rfl rfl 7 (by decide) fl39 (fun _ h9 => h9) rfl dX0_goBack_18 ?_
    refine lv_iconst (v := 1) hx hb dX0_goBack_21 (by decide) ?_
    refine lv_isub hx hb dX0_goBack_22 ?_
    refine lv_bipush (v := 7) hx hb dX0_goBack_23 (by decide) ?_
    refine lv_iand hx hb dX0_goBack_25 ?_
    refine va_put (D := D) (ci := 0) (v := .int ((newest - (1 : Int32)) &&& (7 : Int32))) (ty := .int) (C := RX0) (T := TX0) (N := 9) hx hb hts inX0 tyX0 tyX0_ok nmX0 hown hK hP hD hS 0 rfl rfl 7 (by decide) fl39 (fun _ h9 => h9) rfl (by decide +kernel) rfl rfl (Nat.le_of_ble_eq_true rfl) dX0_goBack_26 (fun H locs hP hD hS => ?_)
    replace hP : va_P D vwCl [(da, .inr (0, [.ref ami, .int cows, .ref aki, .ref afi, .int tasters, .ref anw, .ref apa, .int ((newest - (1 : Int32)) &&& (7 : Int32)), .int known])), (anw, .inr (1, [.int mayBe_1, .int bearer_1, .int day_1, .int draw_1])), (apa, .inl (G 4, 8, .inr (.inr (.inr (.inr (fun k => some (pq k))))))), ((pq 0), .inr (1, [.int (pm 0), .int (pb 0), .int (pd 0), .int (pw 0)])), ((pq 1), .inr (1, [.int (pm 1), .int (pb 1), .int (pd 1), .int (pw 1)])), ((pq 2), .inr (1, [.int (pm 2), .int (pb 2), .int (pd 2), .int (pw 2)])), ((pq 3), .inr (1, [.int (pm 3), .int (pb 3), .int (pd 3), .int (pw 3)])), ((pq 4), .inr (1, [.int (pm 4), .int (pb 4), .int (pd 4), .int (pw 4)])), ((pq 5), .inr (1, [.int (pm 5), .int (pb 5), .int (pd 5), .int (pw 5)])), ((pq 6), .inr (1, [.int (pm 6), .int (pb 6), .int (pd 6), .int (pw 6)])), ((pq 7), .inr (1, [.int (pm 7), .int (pb 7), .int (pd 7), .int (pw 7)]))] H := hP
    replace hD : va_D A [(da, .inr (0, [.ref ami, .int cows, .ref aki, .ref afi, .int tasters, .ref anw, .ref apa, .int ((newest - (1 : Int32)) &&& (7 : Int32)), .int known])), (anw, .inr (1, [.int mayBe_1, .int bearer_1, .int day_1, .int draw_1])), (apa, .inl (G 4, 8, .inr (.inr (.inr (.inr (fun k => some (pq k))))))), ((pq 0), .inr (1, [.int (pm 0), .int (pb 0), .int (pd 0), .int (pw 0)])), ((pq 1), .inr (1, [.int (pm 1), .int (pb 1), .int (pd 1), .int (pw 1)])), ((pq 2), .inr (1, [.int (pm 2), .int (pb 2), .int (pd 2), .int (pw 2)])), ((pq 3), .inr (1, [.int (pm 3), .int (pb 3), .int (pd 3), .int (pw 3)])), ((pq 4), .inr (1, [.int (pm 4), .int (pb 4), .int (pd 4), .int (pw 4)])), ((pq 5), .inr (1, [.int (pm 5), .int (pb 5), .int (pd 5), .int (pw 5)])), ((pq 6), .inr (1, [.int (pm 6), .int (pb 6), .int (pd 6), .int (pw 6)])), ((pq 7), .inr (1, [.int (pm 7), .int (pb 7), .int (pd 7), .int (pw 7)]))] := hD
    refine lv_aload_n hx hb dX0_goBack_29 rfl (lv_at hl 0 rfl) ?_
    refine lv_dup hx hb dX0_goBack_30 rfl ?_
    refine va_get (D := D) (ci := 0) (v := .int known) (C := RX0) (T := TX0) (N := 9) hx hb hts inX0 hown hK hP 0 rfl rfl 8 (by decide) fl42 (fun _ h9 => h9) rfl dX0_goBack_31 ?_
    refine lv_iconst (v := 1) hx hb dX0_goBack_34 (by decide) ?_
    refine lv_isub hx hb dX0_goBack_35 ?_
    refine va_put (D := D) (ci := 0) (v := .int (known - (1 : Int32))) (ty := .int) (C := RX0) (T := TX0) (N := 9) hx hb hts inX0 tyX0 tyX0_ok nmX0 hown hK hP hD hS 0 rfl rfl 8 (by decide) fl42 (fun _ h9 => h9) rfl (by decide +kernel) rfl rfl (Nat.le_of_ble_eq_true rfl) dX0_goBack_36 (fun H locs hP hD hS => ?_)
    replace hP : va_P D vwCl [(da, .inr (0, [.ref ami, .int cows, .ref aki, .ref afi, .int tasters, .ref anw, .ref apa, .int ((newest - (1 : Int32)) &&& (7 : Int32)), .int (known - (1 : Int32))])), (anw, .inr (1, [.int mayBe_1, .int bearer_1, .int day_1, .int draw_1])), (apa, .inl (G 4, 8, .inr (.inr (.inr (.inr (fun k => some (pq k))))))), ((pq 0), .inr (1, [.int (pm 0), .int (pb 0), .int (pd 0), .int (pw 0)])), ((pq 1), .inr (1, [.int (pm 1), .int (pb 1), .int (pd 1), .int (pw 1)])), ((pq 2), .inr (1, [.int (pm 2), .int (pb 2), .int (pd 2), .int (pw 2)])), ((pq 3), .inr (1, [.int (pm 3), .int (pb 3), .int (pd 3), .int (pw 3)])), ((pq 4), .inr (1, [.int (pm 4), .int (pb 4), .int (pd 4), .int (pw 4)])), ((pq 5), .inr (1, [.int (pm 5), .int (pb 5), .int (pd 5), .int (pw 5)])), ((pq 6), .inr (1, [.int (pm 6), .int (pb 6), .int (pd 6), .int (pw 6)])), ((pq 7), .inr (1, [.int (pm 7), .int (pb 7), .int (pd 7), .int (pw 7)]))] H := hP
    replace hD : va_D A [(da, .inr (0, [.ref ami, .int cows, .ref aki, .ref afi, .int tasters, .ref anw, .ref apa, .int ((newest - (1 : Int32)) &&& (7 : Int32)), .int (known - (1 : Int32))])), (anw, .inr (1, [.int mayBe_1, .int bearer_1, .int day_1, .int draw_1])), (apa, .inl (G 4, 8, .inr (.inr (.inr (.inr (fun k => some (pq k))))))), ((pq 0), .inr (1, [.int (pm 0), .int (pb 0), .int (pd 0), .int (pw 0)])), ((pq 1), .inr (1, [.int (pm 1), .int (pb 1), .int (pd 1), .int (pw 1)])), ((pq 2), .inr (1, [.int (pm 2), .int (pb 2), .int (pd 2), .int (pw 2)])), ((pq 3), .inr (1, [.int (pm 3), .int (pb 3), .int (pd 3), .int (pw 3)])), ((pq 4), .inr (1, [.int (pm 4), .int (pb 4), .int (pd 4), .int (pw 4)])), ((pq 5), .inr (1, [.int (pm 5), .int (pb 5), .int (pd 5), .int (pw 5)])), ((pq 6), .inr (1, [.int (pm 6), .int (pb 6), .int (pd 6), .int (pw 6)])), ((pq 7), .inr (1, [.int (pm 7), .int (pb 7), .int (pd 7), .int (pw 7)]))] := hD
    exact W.vret hx hb hr (x_mv (u := (((newest - (1 : Int32)) &&& (7 : Int32)), (known - (1 : Int32)), mayBe_1, bearer_1, day_1, draw_1)) hP hK hD hS hw) hS.2.2 dX0_goBack_39
  · rw [hj] at hw
    refine x_aldq (j := 6) (b := (pq 6)) hx hb hK hP 2 4 rfl rfl hj rfl hin dX0_goBack_12 ?_
    refine x_cMv (wr := [(da, .inr (0, [.ref ami, .int cows, .ref aki, .ref afi, .int tasters, .ref anw, .ref apa, .int newest, .int known])), (apa, .inl (G 4, 8, .inr (.inr (.inr (.inr (fun k => some (pq k))))))), ((pq 0), .inr (1, [.int (pm 0), .int (pb 0), .int (pd 0), .int (pw 0)])), ((pq 1), .inr (1, [.int (pm 1), .int (pb 1), .int (pd 1), .int (pw 1)])), ((pq 2), .inr (1, [.int (pm 2), .int (pb 2), .int (pd 2), .int (pw 2)])), ((pq 3), .inr (1, [.int (pm 3), .int (pb 3), .int (pd 3), .int (pw 3)])), ((pq 4), .inr (1, [.int (pm 4), .int (pb 4), .int (pd 4), .int (pw 4)])), ((pq 5), .inr (1, [.int (pm 5), .int (pb 5), .int (pd 5), .int (pw 5)])), ((pq 7), .inr (1, [.int (pm 7), .int (pb 7), .int (pd 7), .int (pw 7)]))]) (va_runV (As := [.ref (pq 6)]) (rest := []) ⟨hx, hb, hml, hown, hts⟩ (c_X1_becomeLike l D G _ anw (pq 6) mayBe bearer day draw (pm 6) (pb 6) (pd 6) (pw 6) _ hw) (cwV 1 hts gX0_goBack_X1_becomeLike rfl rfl rfl (by decide +kernel) ⟨(Nat.le_of_ble_eq_true rfl), (Nat.le_of_ble_eq_true rfl)⟩) (xM_pv (hP.sub [1, 9] rfl) hK (hD.sub [1, 9] (by decide) rfl) (va_recv hK hP (ci := 1) (q0 := 1) rfl rfl)) rfl rfl hl.1 rfl (lv_room (Nat.le_of_ble_eq_true rfl)) dX0_goBack_13 ⟨Nat.zero_le _, Nat.zero_le _⟩) hP hD hS hA [1, 9] [0, 2, 3, 4, 5, 6, 7, 8, 10] rfl rfl (by decide) (by decide) [0, 9, 1, 2, 3, 4, 5, 6, 7, 10, 8] (fun u => [(da, .inr (0, [.ref ami, .int cows, .ref aki, .ref afi, .int tasters, .ref anw, .ref apa, .int newest, .int known])), (anw, .inr (1, [.int u.1, .int u.2.1, .int u.2.2.1, .int u.2.2.2])), (apa, .inl (G 4, 8, .inr (.inr (.inr (.inr (fun k => some (pq k))))))), ((pq 0), .inr (1, [.int (pm 0), .int (pb 0), .int (pd 0), .int (pw 0)])), ((pq 1), .inr (1, [.int (pm 1), .int (pb 1), .int (pd 1), .int (pw 1)])), ((pq 2), .inr (1, [.int (pm 2), .int (pb 2), .int (pd 2), .int (pw 2)])), ((pq 3), .inr (1, [.int (pm 3), .int (pb 3), .int (pd 3), .int (pw 3)])), ((pq 4), .inr (1, [.int (pm 4), .int (pb 4), .int (pd 4), .int (pw 4)])), ((pq 5), .inr (1, [.int (pm 5), .int (pb 5), .int (pd 5), .int (pw 5)])), ((pq 6), .inr (1, [.int (pm 6), .int (pb 6), .int (pd 6), .int (pw 6)])), ((pq 7), .inr (1, [.int (pm 7), .int (pb 7), .int (pd 7), .int (pw 7)]))]) (by decide) (fun u => rfl) (fun u H locs hw hP hD hS => ?_)
    obtain ⟨mayBe_1, bearer_1, day_1, draw_1⟩ := u
    try dsimp only at hw
    replace hP : va_P D vwCl [(da, .inr (0, [.ref ami, .int cows, .ref aki, .ref afi, .int tasters, .ref anw, .ref apa, .int newest, .int known])), (anw, .inr (1, [.int mayBe_1, .int bearer_1, .int day_1, .int draw_1])), (apa, .inl (G 4, 8, .inr (.inr (.inr (.inr (fun k => some (pq k))))))), ((pq 0), .inr (1, [.int (pm 0), .int (pb 0), .int (pd 0), .int (pw 0)])), ((pq 1), .inr (1, [.int (pm 1), .int (pb 1), .int (pd 1), .int (pw 1)])), ((pq 2), .inr (1, [.int (pm 2), .int (pb 2), .int (pd 2), .int (pw 2)])), ((pq 3), .inr (1, [.int (pm 3), .int (pb 3), .int (pd 3), .int (pw 3)])), ((pq 4), .inr (1, [.int (pm 4), .int (pb 4), .int (pd 4), .int (pw 4)])), ((pq 5), .inr (1, [.int (pm 5), .int (pb 5), .int (pd 5), .int (pw 5)])), ((pq 6), .inr (1, [.int (pm 6), .int (pb 6), .int (pd 6), .int (pw 6)])), ((pq 7), .inr (1, [.int (pm 7), .int (pb 7), .int (pd 7), .int (pw 7)]))] H := hP
    replace hD : va_D A [(da, .inr (0, [.ref ami, .int cows, .ref aki, .ref afi, .int tasters, .ref anw, .ref apa, .int newest, .int known])), (anw, .inr (1, [.int mayBe_1, .int bearer_1, .int day_1, .int draw_1])), (apa, .inl (G 4, 8, .inr (.inr (.inr (.inr (fun k => some (pq k))))))), ((pq 0), .inr (1, [.int (pm 0), .int (pb 0), .int (pd 0), .int (pw 0)])), ((pq 1), .inr (1, [.int (pm 1), .int (pb 1), .int (pd 1), .int (pw 1)])), ((pq 2), .inr (1, [.int (pm 2), .int (pb 2), .int (pd 2), .int (pw 2)])), ((pq 3), .inr (1, [.int (pm 3), .int (pb 3), .int (pd 3), .int (pw 3)])), ((pq 4), .inr (1, [.int (pm 4), .int (pb 4), .int (pd 4), .int (pw 4)])), ((pq 5), .inr (1, [.int (pm 5), .int (pb 5), .int (pd 5), .int (pw 5)])), ((pq 6), .inr (1, [.int (pm 6), .int (pb 6), .int (pd 6), .int (pw 6)])), ((pq 7), .inr (1, [.int (pm 7), .int (pb 7), .int (pd 7), .int (pw 7)]))] := hD
    refine lv_aload_n hx hb dX0_goBack_16 rfl (lv_at hl 0 rfl) ?_
    refine lv_aload_n hx hb dX0_goBack_17 rfl (lv_at hl 0 rfl) ?_
    refine va_get (D := D) (ci := 0) (v := .int newest) (C := RX0) (T := TX0) (N := 9) hx hb hts inX0 hown hK hP 0 rfl rfl 7 (by decide) fl39 (fun _ h9 => h9) rfl dX0_goBack_18 ?_
    refine lv_iconst (v := 1) hx hb dX0_goBack_21 (by decide) ?_
    refine lv_isub hx hb dX0_goBack_22 ?_
    refine lv_bipush (v := 7) hx hb dX0_goBack_23 (by decide) ?_
    refine lv_iand hx hb dX0_goBack_25 ?_
    refine va_put (D := D) (ci := 0) (v := .int ((newest - (1 : Int32)) &&& (7 : Int32))) (ty := .int) (C := RX0) (T := TX0) (N := 9) hx hb hts inX0 tyX0 tyX0_ok nmX0 hown hK hP hD hS 0 rfl rfl 7 (by decide) fl39 (fun _ h9 => h9) rfl (by decide +kernel) rfl rfl (Nat.le_of_ble_eq_true rfl) dX0_goBack_26 (fun H locs hP hD hS => ?_)
    replace hP : va_P D vwCl [(da, .inr (0, [.ref ami, .int cows, .ref aki, .ref afi, .int tasters, .ref anw, .ref apa, .int ((newest - (1 : Int32)) &&& (7 : Int32)), .int known])), (anw, .inr (1, [.int mayBe_1, .int bearer_1, .int day_1, .int draw_1])), (apa, .inl (G 4, 8, .inr (.inr (.inr (.inr (fun k => some (pq k))))))), ((pq 0), .inr (1, [.int (pm 0), .int (pb 0), .int (pd 0), .int (pw 0)])), ((pq 1), .inr (1, [.int (pm 1), .int (pb 1), .int (pd 1), .int (pw 1)])), ((pq 2), .inr (1, [.int (pm 2), .int (pb 2), .int (pd 2), .int (pw 2)])), ((pq 3), .inr (1, [.int (pm 3), .int (pb 3), .int (pd 3), .int (pw 3)])), ((pq 4), .inr (1, [.int (pm 4), .int (pb 4), .int (pd 4), .int (pw 4)])), ((pq 5), .inr (1, [.int (pm 5), .int (pb 5), .int (pd 5), .int (pw 5)])), ((pq 6), .inr (1, [.int (pm 6), .int (pb 6), .int (pd 6), .int (pw 6)])), ((pq 7), .inr (1, [.int (pm 7), .int (pb 7), .int (pd 7), .int (pw 7)]))] H := hP
    replace hD : va_D A [(da, .inr (0, [.ref ami, .int cows, .ref aki, .ref afi, .int tasters, .ref anw, .ref apa, .int ((newest - (1 : Int32)) &&& (7 : Int32)), .int known])), (anw, .inr (1, [.int mayBe_1, .int bearer_1, .int day_1, .int draw_1])), (apa, .inl (G 4, 8, .inr (.inr (.inr (.inr (fun k => some (pq k))))))), ((pq 0), .inr (1, [.int (pm 0), .int (pb 0), .int (pd 0), .int (pw 0)])), ((pq 1), .inr (1, [.int (pm 1), .int (pb 1), .int (pd 1), .int (pw 1)])), ((pq 2), .inr (1, [.int (pm 2), .int (pb 2), .int (pd 2), .int (pw 2)])), ((pq 3), .inr (1, [.int (pm 3), .int (pb 3), .int (pd 3), .int (pw 3)])), ((pq 4), .inr (1, [.int (pm 4), .int (pb 4), .int (pd 4), .int (pw 4)])), ((pq 5), .inr (1, [.int (pm 5), .int (pb 5), .int (pd 5), .int (pw 5)])), ((pq 6), .inr (1, [.int (pm 6), .int (pb 6), .int (pd 6), .int (pw 6)])), ((pq 7), .inr (1, [.int (pm 7), .int (pb 7), .int (pd 7), .int (pw 7)]))] := hD
    refine lv_aload_n hx hb dX0_goBack_29 rfl (lv_at hl 0 rfl) ?_
    refine lv_dup hx hb dX0_goBack_30 rfl ?_
    refine va_get (D := D) (ci := 0) (v := .int known) (C := RX0) (T := TX0) (N := 9) hx hb hts inX0 hown hK hP 0 rfl rfl 8 (by decide) fl42 (fun _ h9 => h9) rfl dX0_goBack_31 ?_
    refine lv_iconst (v := 1) hx hb dX0_goBack_34 (by decide) ?_
    refine lv_isub hx hb dX0_goBack_35 ?_
    refine va_put (D := D) (ci := 0) (v := .int (known - (1 : Int32))) (ty := .int) (C := RX0) (T := TX0) (N := 9) hx hb hts inX0 tyX0 tyX0_ok nmX0 hown hK hP hD hS 0 rfl rfl 8 (by decide) fl42 (fun _ h9 => h9) rfl (by decide +kernel) rfl rfl (Nat.le_of_ble_eq_true rfl) dX0_goBack_36 (fun H locs hP hD hS => ?_)
    replace hP : va_P D vwCl [(da, .inr (0, [.ref ami, .int cows, .ref aki, .ref afi, .int tasters, .ref anw, .ref apa, .int ((newest - (1 : Int32)) &&& (7 : Int32)), .int (known - (1 : Int32))])), (anw, .inr (1, [.int mayBe_1, .int bearer_1, .int day_1, .int draw_1])), (apa, .inl (G 4, 8, .inr (.inr (.inr (.inr (fun k => some (pq k))))))), ((pq 0), .inr (1, [.int (pm 0), .int (pb 0), .int (pd 0), .int (pw 0)])), ((pq 1), .inr (1, [.int (pm 1), .int (pb 1), .int (pd 1), .int (pw 1)])), ((pq 2), .inr (1, [.int (pm 2), .int (pb 2), .int (pd 2), .int (pw 2)])), ((pq 3), .inr (1, [.int (pm 3), .int (pb 3), .int (pd 3), .int (pw 3)])), ((pq 4), .inr (1, [.int (pm 4), .int (pb 4), .int (pd 4), .int (pw 4)])), ((pq 5), .inr (1, [.int (pm 5), .int (pb 5), .int (pd 5), .int (pw 5)])), ((pq 6), .inr (1, [.int (pm 6), .int (pb 6), .int (pd 6), .int (pw 6)])), ((pq 7), .inr (1, [.int (pm 7), .int (pb 7), .int (pd 7), .int (pw 7)]))] H := hP
    replace hD : va_D A [(da, .inr (0, [.ref ami, .int cows, .ref aki, .ref afi, .int tasters, .ref anw, .ref apa, .int ((newest - (1 : Int32)) &&& (7 : Int32)), .int (known - (1 : Int32))])), (anw, .inr (1, [.int mayBe_1, .int bearer_1, .int day_1, .int draw_1])), (apa, .inl (G 4, 8, .inr (.inr (.inr (.inr (fun k => some (pq k))))))), ((pq 0), .inr (1, [.int (pm 0), .int (pb 0), .int (pd 0), .int (pw 0)])), ((pq 1), .inr (1, [.int (pm 1), .int (pb 1), .int (pd 1), .int (pw 1)])), ((pq 2), .inr (1, [.int (pm 2), .int (pb 2), .int (pd 2), .int (pw 2)])), ((pq 3), .inr (1, [.int (pm 3), .int (pb 3), .int (pd 3), .int (pw 3)])), ((pq 4), .inr (1, [.int (pm 4), .int (pb 4), .int (pd 4), .int (pw 4)])), ((pq 5), .inr (1, [.int (pm 5), .int (pb 5), .int (pd 5), .int (pw 5)])), ((pq 6), .inr (1, [.int (pm 6), .int (pb 6), .int (pd 6), .int (pw 6)])), ((pq 7), .inr (1, [.int (pm 7), .int (pb 7), .int (pd 7), .int (pw 7)]))] := hD
    exact W.vret hx hb hr (x_mv (u := (((newest - (1 : Int32)) &&& (7 : Int32)), (known - (1 : Int32)), mayBe_1, bearer_1, day_1, draw_1)) hP hK hD hS hw) hS.2.2 dX0_goBack_39
  · rw [hj] at hw
    refine x_aldq (j := 7) (b := (pq 7)) hx hb hK hP 2 4 rfl rfl hj rfl hin dX0_goBack_12 ?_
    refine x_cMv (wr := [(da, .inr (0, [.ref ami, .int cows, .ref aki, .ref afi, .int tasters, .ref anw, .ref apa, .int newest, .int known])), (apa, .inl (G 4, 8, .inr (.inr (.inr (.inr (fun k => some (pq k))))))), ((pq 0), .inr (1, [.int (pm 0), .int (pb 0), .int (pd 0), .int (pw 0)])), ((pq 1), .inr (1, [.int (pm 1), .int (pb 1), .int (pd 1), .int (pw 1)])), ((pq 2), .inr (1, [.int (pm 2), .int (pb 2), .int (pd 2), .int (pw 2)])), ((pq 3), .inr (1, [.int (pm 3), .int (pb 3), .int (pd 3), .int (pw 3)])), ((pq 4), .inr (1, [.int (pm 4), .int (pb 4), .int (pd 4), .int (pw 4)])), ((pq 5), .inr (1, [.int (pm 5), .int (pb 5), .int (pd 5), .int (pw 5)])), ((pq 6), .inr (1, [.int (pm 6), .int (pb 6), .int (pd 6), .int (pw 6)]))]) (va_runV (As := [.ref (pq 7)]) (rest := []) ⟨hx, hb, hml, hown, hts⟩ (c_X1_becomeLike l D G _ anw (pq 7) mayBe bearer day draw (pm 7) (pb 7) (pd 7) (pw 7) _ hw) (cwV 1 hts gX0_goBack_X1_becomeLike rfl rfl rfl (by decide +kernel) ⟨(Nat.le_of_ble_eq_true rfl), (Nat.le_of_ble_eq_true rfl)⟩) (xM_pv (hP.sub [1, 10] rfl) hK (hD.sub [1, 10] (by decide) rfl) (va_recv hK hP (ci := 1) (q0 := 1) rfl rfl)) rfl rfl hl.1 rfl (lv_room (Nat.le_of_ble_eq_true rfl)) dX0_goBack_13 ⟨Nat.zero_le _, Nat.zero_le _⟩) hP hD hS hA [1, 10] [0, 2, 3, 4, 5, 6, 7, 8, 9] rfl rfl (by decide) (by decide) [0, 9, 1, 2, 3, 4, 5, 6, 7, 8, 10] (fun u => [(da, .inr (0, [.ref ami, .int cows, .ref aki, .ref afi, .int tasters, .ref anw, .ref apa, .int newest, .int known])), (anw, .inr (1, [.int u.1, .int u.2.1, .int u.2.2.1, .int u.2.2.2])), (apa, .inl (G 4, 8, .inr (.inr (.inr (.inr (fun k => some (pq k))))))), ((pq 0), .inr (1, [.int (pm 0), .int (pb 0), .int (pd 0), .int (pw 0)])), ((pq 1), .inr (1, [.int (pm 1), .int (pb 1), .int (pd 1), .int (pw 1)])), ((pq 2), .inr (1, [.int (pm 2), .int (pb 2), .int (pd 2), .int (pw 2)])), ((pq 3), .inr (1, [.int (pm 3), .int (pb 3), .int (pd 3), .int (pw 3)])), ((pq 4), .inr (1, [.int (pm 4), .int (pb 4), .int (pd 4), .int (pw 4)])), ((pq 5), .inr (1, [.int (pm 5), .int (pb 5), .int (pd 5), .int (pw 5)])), ((pq 6), .inr (1, [.int (pm 6), .int (pb 6), .int (pd 6), .int (pw 6)])), ((pq 7), .inr (1, [.int (pm 7), .int (pb 7), .int (pd 7), .int (pw 7)]))]) (by decide) (fun u => rfl) (fun u H locs hw hP hD hS => ?_)
    obtain ⟨mayBe_1, bearer_1, day_1, draw_1⟩ := u
    try dsimp only at hw
    replace hP : va_P D vwCl [(da, .inr (0, [.ref ami, .int cows, .ref aki, .ref afi, .int tasters, .ref anw, .ref apa, .int newest, .int known])), (anw, .inr (1, [.int mayBe_1, .int bearer_1, .int day_1, .int draw_1])), (apa, .inl (G 4, 8, .inr (.inr (.inr (.inr (fun k => some (pq k))))))), ((pq 0), .inr (1, [.int (pm 0), .int (pb 0), .int (pd 0), .int (pw 0)])), ((pq 1), .inr (1, [.int (pm 1), .int (pb 1), .int (pd 1), .int (pw 1)])), ((pq 2), .inr (1, [.int (pm 2), .int (pb 2), .int (pd 2), .int (pw 2)])), ((pq 3), .inr (1, [.int (pm 3), .int (pb 3), .int (pd 3), .int (pw 3)])), ((pq 4), .inr (1, [.int (pm 4), .int (pb 4), .int (pd 4), .int (pw 4)])), ((pq 5), .inr (1, [.int (pm 5), .int (pb 5), .int (pd 5), .int (pw 5)])), ((pq 6), .inr (1, [.int (pm 6), .int (pb 6), .int (pd 6), .int (pw 6)])), ((pq 7), .inr (1, [.int (pm 7), .int (pb 7), .int (pd 7), .int (pw 7)]))] H := hP
    replace hD : va_D A [(da, .inr (0, [.ref ami, .int cows, .ref aki, .ref afi, .int tasters, .ref anw, .ref apa, .int newest, .int known])), (anw, .inr (1, [.int mayBe_1, .int bearer_1, .int day_1, .int draw_1])), (apa, .inl (G 4, 8, .inr (.inr (.inr (.inr (fun k => some (pq k))))))), ((pq 0), .inr (1, [.int (pm 0), .int (pb 0), .int (pd 0), .int (pw 0)])), ((pq 1), .inr (1, [.int (pm 1), .int (pb 1), .int (pd 1), .int (pw 1)])), ((pq 2), .inr (1, [.int (pm 2), .int (pb 2), .int (pd 2), .int (pw 2)])), ((pq 3), .inr (1, [.int (pm 3), .int (pb 3), .int (pd 3), .int (pw 3)])), ((pq 4), .inr (1, [.int (pm 4), .int (pb 4), .int (pd 4), .int (pw 4)])), ((pq 5), .inr (1, [.int (pm 5), .int (pb 5), .int (pd 5), .int (pw 5)])), ((pq 6), .inr (1, [.int (pm 6), .int (pb 6), .int (pd 6), .int (pw 6)])), ((pq 7), .inr (1, [.int (pm 7), .int (pb 7), .int (pd 7), .int (pw 7)]))] := hD
    refine lv_aload_n hx hb dX0_goBack_16 rfl (lv_at hl 0 rfl) ?_
    refine lv_aload_n hx hb dX0_goBack_17 rfl (lv_at hl 0 rfl) ?_
    refine va_get (D := D) (ci := 0) (v := .int newest) (C := RX0) (T := TX0) (N := 9) hx hb hts inX0 hown hK hP 0 rfl rfl 7 (by decide) fl39 (fun _ h9 => h9) rfl dX0_goBack_18 ?_
    refine lv_iconst (v := 1) hx hb dX0_goBack_21 (by decide) ?_
    refine lv_isub hx hb dX0_goBack_22 ?_
    refine lv_bipush (v := 7) hx hb dX0_goBack_23 (by decide) ?_
    refine lv_iand hx hb dX0_goBack_25 ?_
    refine va_put (D := D) (ci := 0) (v := .int ((newest - (1 : Int32)) &&& (7 : Int32))) (ty := .int) (C := RX0) (T := TX0) (N := 9) hx hb hts inX0 tyX0 tyX0_ok nmX0 hown hK hP hD hS 0 rfl rfl 7 (by decide) fl39 (fun _ h9 => h9) rfl (by decide +kernel) rfl rfl (Nat.le_of_ble_eq_true rfl) dX0_goBack_26 (fun H locs hP hD hS => ?_)
    replace hP : va_P D vwCl [(da, .inr (0, [.ref ami, .int cows, .ref aki, .ref afi, .int tasters, .ref anw, .ref apa, .int ((newest - (1 : Int32)) &&& (7 : Int32)), .int known])), (anw, .inr (1, [.int mayBe_1, .int bearer_1, .int day_1, .int draw_1])), (apa, .inl (G 4, 8, .inr (.inr (.inr (.inr (fun k => some (pq k))))))), ((pq 0), .inr (1, [.int (pm 0), .int (pb 0), .int (pd 0), .int (pw 0)])), ((pq 1), .inr (1, [.int (pm 1), .int (pb 1), .int (pd 1), .int (pw 1)])), ((pq 2), .inr (1, [.int (pm 2), .int (pb 2), .int (pd 2), .int (pw 2)])), ((pq 3), .inr (1, [.int (pm 3), .int (pb 3), .int (pd 3), .int (pw 3)])), ((pq 4), .inr (1, [.int (pm 4), .int (pb 4), .int (pd 4), .int (pw 4)])), ((pq 5), .inr (1, [.int (pm 5), .int (pb 5), .int (pd 5), .int (pw 5)])), ((pq 6), .inr (1, [.int (pm 6), .int (pb 6), .int (pd 6), .int (pw 6)])), ((pq 7), .inr (1, [.int (pm 7), .int (pb 7), .int (pd 7), .int (pw 7)]))] H := hP
    replace hD : va_D A [(da, .inr (0, [.ref ami, .int cows, .ref aki, .ref afi, .int tasters, .ref anw, .ref apa, .int ((newest - (1 : Int32)) &&& (7 : Int32)), .int known])), (anw, .inr (1, [.int mayBe_1, .int bearer_1, .int day_1, .int draw_1])), (apa, .inl (G 4, 8, .inr (.inr (.inr (.inr (fun k => some (pq k))))))), ((pq 0), .inr (1, [.int (pm 0), .int (pb 0), .int (pd 0), .int (pw 0)])), ((pq 1), .inr (1, [.int (pm 1), .int (pb 1), .int (pd 1), .int (pw 1)])), ((pq 2), .inr (1, [.int (pm 2), .int (pb 2), .int (pd 2), .int (pw 2)])), ((pq 3), .inr (1, [.int (pm 3), .int (pb 3), .int (pd 3), .int (pw 3)])), ((pq 4), .inr (1, [.int (pm 4), .int (pb 4), .int (pd 4), .int (pw 4)])), ((pq 5), .inr (1, [.int (pm 5), .int (pb 5), .int (pd 5), .int (pw 5)])), ((pq 6), .inr (1, [.int (pm 6), .int (pb 6), .int (pd 6), .int (pw 6)])), ((pq 7), .inr (1, [.int (pm 7), .int (pb 7), .int (pd 7), .int (pw 7)]))] := hD
    refine lv_aload_n hx hb dX0_goBack_29 rfl (lv_at hl 0 rfl) ?_
    refine lv_dup hx hb dX0_goBack_30 rfl ?_
    refine va_get (D := D) (ci := 0) (v := .int known) (C := RX0) (T := TX0) (N := 9) hx hb hts inX0 hown hK hP 0 rfl rfl 8 (by decide) fl42 (fun _ h9 => h9) rfl dX0_goBack_31 ?_
    refine lv_iconst (v := 1) hx hb dX0_goBack_34 (by decide) ?_
    refine lv_isub hx hb dX0_goBack_35 ?_
    refine va_put (D := D) (ci := 0) (v := .int (known - (1 : Int32))) (ty := .int) (C := RX0) (T := TX0) (N := 9) hx hb hts inX0 tyX0 tyX0_ok nmX0 hown hK hP hD hS 0 rfl rfl 8 (by decide) fl42 (fun _ h9 => h9) rfl (by decide +kernel) rfl rfl (Nat.le_of_ble_eq_true rfl) dX0_goBack_36 (fun H locs hP hD hS => ?_)
    replace hP : va_P D vwCl [(da, .inr (0, [.ref ami, .int cows, .ref aki, .ref afi, .int tasters, .ref anw, .ref apa, .int ((newest - (1 : Int32)) &&& (7 : Int32)), .int (known - (1 : Int32))])), (anw, .inr (1, [.int mayBe_1, .int bearer_1, .int day_1, .int draw_1])), (apa, .inl (G 4, 8, .inr (.inr (.inr (.inr (fun k => some (pq k))))))), ((pq 0), .inr (1, [.int (pm 0), .int (pb 0), .int (pd 0), .int (pw 0)])), ((pq 1), .inr (1, [.int (pm 1), .int (pb 1), .int (pd 1), .int (pw 1)])), ((pq 2), .inr (1, [.int (pm 2), .int (pb 2), .int (pd 2), .int (pw 2)])), ((pq 3), .inr (1, [.int (pm 3), .int (pb 3), .int (pd 3), .int (pw 3)])), ((pq 4), .inr (1, [.int (pm 4), .int (pb 4), .int (pd 4), .int (pw 4)])), ((pq 5), .inr (1, [.int (pm 5), .int (pb 5), .int (pd 5), .int (pw 5)])), ((pq 6), .inr (1, [.int (pm 6), .int (pb 6), .int (pd 6), .int (pw 6)])), ((pq 7), .inr (1, [.int (pm 7), .int (pb 7), .int (pd 7), .int (pw 7)]))] H := hP
    replace hD : va_D A [(da, .inr (0, [.ref ami, .int cows, .ref aki, .ref afi, .int tasters, .ref anw, .ref apa, .int ((newest - (1 : Int32)) &&& (7 : Int32)), .int (known - (1 : Int32))])), (anw, .inr (1, [.int mayBe_1, .int bearer_1, .int day_1, .int draw_1])), (apa, .inl (G 4, 8, .inr (.inr (.inr (.inr (fun k => some (pq k))))))), ((pq 0), .inr (1, [.int (pm 0), .int (pb 0), .int (pd 0), .int (pw 0)])), ((pq 1), .inr (1, [.int (pm 1), .int (pb 1), .int (pd 1), .int (pw 1)])), ((pq 2), .inr (1, [.int (pm 2), .int (pb 2), .int (pd 2), .int (pw 2)])), ((pq 3), .inr (1, [.int (pm 3), .int (pb 3), .int (pd 3), .int (pw 3)])), ((pq 4), .inr (1, [.int (pm 4), .int (pb 4), .int (pd 4), .int (pw 4)])), ((pq 5), .inr (1, [.int (pm 5), .int (pb 5), .int (pd 5), .int (pw 5)])), ((pq 6), .inr (1, [.int (pm 6), .int (pb 6), .int (pd 6), .int (pw 6)])), ((pq 7), .inr (1, [.int (pm 7), .int (pb 7), .int (pd 7), .int (pw 7)]))] := hD
    exact W.vret hx hb hr (x_mv (u := (((newest - (1 : Int32)) &&& (7 : Int32)), (known - (1 : Int32)), mayBe_1, bearer_1, day_1, draw_1)) hP hK hD hS hw) hS.2.2 dX0_goBack_39
set_option maxHeartbeats 4000000 in
set_option maxRecDepth 100000 in
theorem c_X2_lookAhead (l : Launch) (D : va_G) (G : Nat → ClassId) (sz : Nat) (p_pl : Nat) (p_ato : Nat) (p_acu : Nat) (p_aic : Nat) (p_ade : Nat) (da : Nat) (ami : Nat) (aki : Nat) (afi : Nat) (anw : Nat) (apa : Nat) (p_mayBe : Int32) (p_lastMix : Int32) (p_cutCount : Int32) (p_lesser : Int32) (p_greater : Int32) (p_told : Nat → Int32) (cows : Int32) (tasters : Int32) (newest : Int32) (known : Int32) (milks : Nat → Int32) (kinds : Nat → Int32) (fines : Nat → Int32) (mayBe : Int32) (bearer : Int32) (day : Int32) (draw : Int32) (x2 : Int32) (post : Int32 → Int32 → (Nat → Int32) → Prop) (hw : wp_X2_lookAhead p_told cows milks kinds fines mayBe day x2 post) : Met l yX2_lookAhead wsX2_lookAhead ({ frames := 4, cells := 0, slots := 0, locals := 93 } : Room) (va_Pc [.ref p_pl, .ref da, .int x2] (xM D G sz [(p_pl, .inr (2, [.int p_mayBe, .int p_lastMix, .ref p_ato, .ref p_acu, .int p_cutCount, .ref p_aic, .ref p_ade, .int p_lesser, .int p_greater])), (p_ato, .inl (G 0, 256, .inl p_told)), (da, .inr (0, [.ref ami, .int cows, .ref aki, .ref afi, .int tasters, .ref anw, .ref apa, .int newest, .int known])), (ami, .inl (G 0, 8, .inl milks)), (aki, .inl (G 0, 4, .inl kinds)), (afi, .inl (G 0, 4, .inl fines)), (anw, .inr (1, [.int mayBe, .int bearer, .int day, .int draw]))])) (va_Qv (fun (u : Int32 × Int32 × (Nat → Int32)) => post u.1 u.2.1 u.2.2) (fun u t => xE D G (va_A [(p_pl, .inr (2, [.int p_mayBe, .int p_lastMix, .ref p_ato, .ref p_acu, .int p_cutCount, .ref p_aic, .ref p_ade, .int p_lesser, .int p_greater])), (p_ato, .inl (G 0, 256, .inl p_told)), (da, .inr (0, [.ref ami, .int cows, .ref aki, .ref afi, .int tasters, .ref anw, .ref apa, .int newest, .int known])), (ami, .inl (G 0, 8, .inl milks)), (aki, .inl (G 0, 4, .inl kinds)), (afi, .inl (G 0, 4, .inl fines)), (anw, .inr (1, [.int mayBe, .int bearer, .int day, .int draw]))] sz) [(p_pl, .inr (2, [.int u.1, .int u.2.1, .ref p_ato, .ref p_acu, .int p_cutCount, .ref p_aic, .ref p_ade, .int p_lesser, .int p_greater])), (p_ato, .inl (G 0, 256, .inl (u.2.2))), (da, .inr (0, [.ref ami, .int cows, .ref aki, .ref afi, .int tasters, .ref anw, .ref apa, .int newest, .int known])), (ami, .inl (G 0, 8, .inl milks)), (aki, .inl (G 0, 4, .inl kinds)), (afi, .inl (G 0, 4, .inl fines)), (anw, .inr (1, [.int mayBe, .int bearer, .int day, .int draw]))] t) (va_A [(p_pl, .inr (2, [.int p_mayBe, .int p_lastMix, .ref p_ato, .ref p_acu, .int p_cutCount, .ref p_aic, .ref p_ade, .int p_lesser, .int p_greater])), (p_ato, .inl (G 0, 256, .inl p_told)), (da, .inr (0, [.ref ami, .int cows, .ref aki, .ref afi, .int tasters, .ref anw, .ref apa, .int newest, .int known])), (ami, .inl (G 0, 8, .inl milks)), (aki, .inl (G 0, 4, .inl kinds)), (afi, .inl (G 0, 4, .inl fines)), (anw, .inr (1, [.int mayBe, .int bearer, .int day, .int draw]))] sz)) 0 0 (va_A [(p_pl, .inr (2, [.int p_mayBe, .int p_lastMix, .ref p_ato, .ref p_acu, .int p_cutCount, .ref p_aic, .ref p_ade, .int p_lesser, .int p_greater])), (p_ato, .inl (G 0, 256, .inl p_told)), (da, .inr (0, [.ref ami, .int cows, .ref aki, .ref afi, .int tasters, .ref anw, .ref apa, .int newest, .int known])), (ami, .inl (G 0, 8, .inl milks)), (aki, .inl (G 0, 4, .inl kinds)), (afi, .inl (G 0, 4, .inl fines)), (anw, .inr (1, [.int mayBe, .int bearer, .int day, .int draw]))] sz) := by
  refine Met.ofW (cc := cX2_lookAhead) (maxL := 4) (ret := none) (by decide) rfl ?_
  intro p e s m args below meth c s₁ B hml hv
  obtain ⟨rfl, hsz, hP, hK, hD0⟩ := hv
  have hx := B.exec
  have hb := B.bytes
  have hr := B.returns
  have hts := atoms_spec (ws := wsX2_lookAhead) B.pre
  have hown : s.vm.findClass RX2 = some m.cls := findClass_of_methodNamed B.named
  have hlocks := B.notSynchronized
  subst hsz
  have hD := hD0.self (sz := s.heap.size)
  generalize hAe : va_A [(p_pl, .inr (2, [.int p_mayBe, .int p_lastMix, .ref p_ato, .ref p_acu, .int p_cutCount, .ref p_aic, .ref p_ade, .int p_lesser, .int p_greater])), (p_ato, .inl (G 0, 256, .inl p_told)), (da, .inr (0, [.ref ami, .int cows, .ref aki, .ref afi, .int tasters, .ref anw, .ref apa, .int newest, .int known])), (ami, .inl (G 0, 8, .inl milks)), (aki, .inl (G 0, 4, .inl kinds)), (afi, .inl (G 0, 4, .inl fines)), (anw, .inr (1, [.int mayBe, .int bearer, .int day, .int draw]))] s.heap.size = A at hD ⊢
  have hA : ∀ q : Nat, s.heap.size ≤ q → A q := fun q h => by rw [← hAe]; exact Or.inr h
  have hS : va_S A s.heap s.heap [] := va_S.rf
  have inX0 : ∀ w ∈ wsX00, w ∈ wsX2_lookAhead := by decide +kernel
  have inX1 : ∀ w ∈ wsX10, w ∈ wsX2_lookAhead := by decide +kernel
  have inX2 : ∀ w ∈ wsX20, w ∈ wsX2_lookAhead := by decide +kernel
  have fl41 := hts (.fieldLink RX2 41 "NewsCow$Dairy" "now" "LNewsCow$Moment;") (by decide +kernel)
  have fl47 := hts (.fieldLink RX2 47 "NewsCow$Moment" "mayBe" "I") (by decide +kernel)
  have fl9 := hts (.fieldLink RX2 9 "NewsCow$Plan" "mayBe" "I") (by decide +kernel)
  have fl15 := hts (.fieldLink RX2 15 "NewsCow$Plan" "lastMix" "I") (by decide +kernel)
  have fl18 := hts (.fieldLink RX2 18 "NewsCow$Plan" "told" "[I") (by decide +kernel)
  have hl := lv_entry ([.ref p_pl, .ref da, .int x2] : List Value) (n := 4) (Nat.le_of_ble_eq_true rfl)
  rw [lg_entry_eq]
  generalize (lg_sl ([.ref p_pl, .ref da, .int x2] : List Value) ++ List.replicate (4 - (lg_sl ([.ref p_pl, .ref da, .int x2] : List Value)).length) Slot.unset).toArray = ls at hl ⊢
  have hl : lv_has ls 4 [(0, .ref p_pl), (1, .ref da), (2, .int x2)] := hl
  unfold wp_X2_lookAhead at hw
  have L21 : ∀ (f21 : Nat) (x3 : Int32) (p_mayBe : Int32) (p_lastMix : Int32) (p_told : Nat → Int32) (H : Heap) (locs : List Loc) (ls : Array Slot), wp_X2_lookAhead_L21 p_mayBe p_lastMix cows milks kinds fines day x2 post f21 p_told x3 → va_P D vwCl [(p_pl, .inr (2, [.int p_mayBe, .int p_lastMix, .ref p_ato, .ref p_acu, .int p_cutCount, .ref p_aic, .ref p_ade, .int p_lesser, .int p_greater])), (p_ato, .inl (G 0, 256, .inl p_told)), (da, .inr (0, [.ref ami, .int cows, .ref aki, .ref afi, .int tasters, .ref anw, .ref apa, .int newest, .int known])), (ami, .inl (G 0, 8, .inl milks)), (aki, .inl (G 0, 4, .inl kinds)), (afi, .inl (G 0, 4, .inl fines)), (anw, .inr (1, [.int mayBe, .int bearer, .int day, .int draw]))] H → va_D A [(p_pl, .inr (2, [.int p_mayBe, .int p_lastMix, .ref p_ato, .ref p_acu, .int p_cutCount, .ref p_aic, .ref p_ade, .int p_lesser, .int p_greater])), (p_ato, .inl (G 0, 256, .inl p_told)), (da, .inr (0, [.ref ami, .int cows, .ref aki, .ref afi, .int tasters, .ref anw, .ref apa, .int newest, .int known])), (ami, .inl (G 0, 8, .inl milks)), (aki, .inl (G 0, 4, .inl kinds)), (afi, .inl (G 0, 4, .inl fines)), (anw, .inr (1, [.int mayBe, .int bearer, .int day, .int draw]))] → va_S A s.heap H locs → lv_has ls 4 [(0, .ref p_pl), (1, .ref da), (2, .int x2), (3, .int x3)] → W p l e (headSpec wsX2_lookAhead ({ frames := 4, cells := 0, slots := 0, locals := 93 } : Room)).room s m ([.ref p_pl, .ref da, .int x2] : List Value).toArray below meth c H locs 0 0 (MQ below (va_Qv (fun (u : Int32 × Int32 × (Nat → Int32)) => post u.1 u.2.1 u.2.2) (fun u t => xE D G A [(p_pl, .inr (2, [.int u.1, .int u.2.1, .ref p_ato, .ref p_acu, .int p_cutCount, .ref p_aic, .ref p_ade, .int p_lesser, .int p_greater])), (p_ato, .inl (G 0, 256, .inl (u.2.2))), (da, .inr (0, [.ref ami, .int cows, .ref aki, .ref afi, .int tasters, .ref anw, .ref apa, .int newest, .int known])), (ami, .inl (G 0, 8, .inl milks)), (aki, .inl (G 0, 4, .inl kinds)), (afi, .inl (G 0, 4, .inl fines)), (anw, .inr (1, [.int mayBe, .int bearer, .int day, .int draw]))] t) A) ([.ref p_pl, .ref da, .int x2] : List Value).toArray s 0 0 A) (F0 m 21 ls []) := by
    intro f21
    induction f21 with
    | zero => intro x3 p_mayBe p_lastMix p_told H locs ls hw hP hD hS hl; exact (hw : False).elim
    | succ f21 ih21 =>
      intro x3 p_mayBe p_lastMix p_told H locs ls hw hP hD hS hl
      unfold wp_X2_lookAhead_L21 at hw
      refine lv_iload_n hx hb dX2_lookAhead_21 rfl (lv_at hl 3 rfl) ?_
      refine lv_aload_n hx hb dX2_lookAhead_22 rfl (lv_at hl 0 rfl) ?_
      refine va_get (D := D) (ci := 2) (v := .int p_lastMix) (C := RX2) (T := TX2) (N := 9) hx hb hts inX2 hown hK hP 0 rfl rfl 1 (by decide) fl15 (fun _ h9 => h9) rfl dX2_lookAhead_23 ?_
      refine lv_icmp_gt (tgt := 52) hx hb dX2_lookAhead_26 (by decide) (fun c9 => ?_) (fun c9 => ?_)
      · replace hw := hw.1 c9
        exact W.vret hx hb hr (x_mv (u := (p_mayBe, p_lastMix, p_told)) hP hK hD hS hw) hS.2.2 dX2_lookAhead_52
      · replace hw := hw.2 c9
        refine lv_aload_n hx hb dX2_lookAhead_29 rfl (lv_at hl 0 rfl) ?_
        refine va_get (D := D) (ci := 2) (v := .ref p_ato) (C := RX2) (T := TX2) (N := 9) hx hb hts inX2 hown hK hP 0 rfl rfl 2 (by decide) fl18 (fun _ h9 => h9) rfl dX2_lookAhead_30 ?_
        refine lv_iload_n hx hb dX2_lookAhead_33 rfl (lv_at hl 3 rfl) ?_
        refine lv_aload_n hx hb dX2_lookAhead_34 rfl (lv_at hl 1 rfl) ?_
        refine lv_iload_n hx hb dX2_lookAhead_35 rfl (lv_at hl 2 rfl) ?_
        refine lv_iload_n hx hb dX2_lookAhead_36 rfl (lv_at hl 3 rfl) ?_
        refine vp_callSi (W.runV (As := [.int x2, .int x3]) (rest := [.int x3, .ref p_ato]) ⟨hx, hb, hml, hown, hts⟩ (c_X0_noticedBy l D G da ami aki afi anw apa cows tasters newest known milks kinds fines mayBe bearer day draw x2 x3 _ hw) (cwV 2 hts gX2_lookAhead_X0_noticedBy rfl rfl rfl (by decide +kernel) ⟨(Nat.le_of_ble_eq_true rfl), (Nat.le_of_ble_eq_true rfl)⟩) (xR_pv (hP.sub [2, 3, 4, 5, 6] rfl) hK (va_recv hK hP (ci := 0) (q0 := 2) rfl rfl)) rfl rfl hl.1 rfl (lv_room (Nat.le_of_ble_eq_true rfl)) dX2_lookAhead_37 ⟨Nat.zero_le _, Nat.zero_le _⟩) (fun r2 hw => ?_)
        refine lv_aload_n hx hb dX2_lookAhead_40 rfl (lv_at hl 0 rfl) ?_
        refine va_get (D := D) (ci := 2) (v := .int p_mayBe) (C := RX2) (T := TX2) (N := 9) hx hb hts inX2 hown hK hP 0 rfl rfl 0 (by decide) fl9 (fun _ h9 => h9) rfl dX2_lookAhead_41 ?_
        refine lv_iand hx hb dX2_lookAhead_44 ?_
        refine x_iast (j := x3.toNatClampNeg) hx hb hK hP hD hS 1 0 rfl rfl rfl hw.1 dX2_lookAhead_45 (fun H locs hP hD hS => ?_)
        replace hw := hw.2
        replace hP : va_P D vwCl [(p_pl, .inr (2, [.int p_mayBe, .int p_lastMix, .ref p_ato, .ref p_acu, .int p_cutCount, .ref p_aic, .ref p_ade, .int p_lesser, .int p_greater])), (p_ato, .inl (G 0, 256, .inl (upd p_told x3.toNatClampNeg (r2 &&& p_mayBe)))), (da, .inr (0, [.ref ami, .int cows, .ref aki, .ref afi, .int tasters, .ref anw, .ref apa, .int newest, .int known])), (ami, .inl (G 0, 8, .inl milks)), (aki, .inl (G 0, 4, .inl kinds)), (afi, .inl (G 0, 4, .inl fines)), (anw, .inr (1, [.int mayBe, .int bearer, .int day, .int draw]))] H := hP
        replace hD : va_D A [(p_pl, .inr (2, [.int p_mayBe, .int p_lastMix, .ref p_ato, .ref p_acu, .int p_cutCount, .ref p_aic, .ref p_ade, .int p_lesser, .int p_greater])), (p_ato, .inl (G 0, 256, .inl (upd p_told x3.toNatClampNeg (r2 &&& p_mayBe)))), (da, .inr (0, [.ref ami, .int cows, .ref aki, .ref afi, .int tasters, .ref anw, .ref apa, .int newest, .int known])), (ami, .inl (G 0, 8, .inl milks)), (aki, .inl (G 0, 4, .inl kinds)), (afi, .inl (G 0, 4, .inl fines)), (anw, .inr (1, [.int mayBe, .int bearer, .int day, .int draw]))] := hD
        refine lv_iinc (v := (x3 + 1)) (lv' := [(3, .int (x3 + 1)), (0, .ref p_pl), (1, .ref da), (2, .int x2)]) hx hb dX2_lookAhead_46 hl (k := 3) rfl (by first | rfl | decide) (by decide) rfl (fun ls hl => ?_)
        refine lv_goto (tgt := 21) hx hb dX2_lookAhead_49 (by decide) ?_
        exact ih21 (x3 + 1) p_mayBe p_lastMix (upd p_told x3.toNatClampNeg (r2 &&& p_mayBe)) _ _ _ hw hP hD hS (lv_sub hl [1, 2, 3, 0] rfl)
  refine lv_aload_n hx hb dX2_lookAhead_0 rfl (lv_at hl 0 rfl) ?_
  refine lv_aload_n hx hb dX2_lookAhead_1 rfl (lv_at hl 1 rfl) ?_
  refine va_get (D := D) (ci := 0) (v := .ref anw) (C := RX0) (T := TX0) (N := 9) hx hb hts inX0 hown hK hP 2 rfl rfl 5 (by decide) fl41 (fun _ h9 => h9) rfl dX2_lookAhead_2 ?_
  refine va_get (D := D) (ci := 1) (v := .int mayBe) (C := RX1) (T := TX1) (N := 4) hx hb hts inX1 hown hK hP 6 rfl rfl 0 (by decide) fl47 (fun _ h9 => h9) rfl dX2_lookAhead_5 ?_
  refine va_put (D := D) (ci := 2) (v := .int mayBe) (ty := .int) (C := RX2) (T := TX2) (N := 9) hx hb hts inX2 tyX2 tyX2_ok nmX2 hown hK hP hD hS 0 rfl rfl 0 (by decide) fl9 (fun _ h9 => h9) rfl (by decide +kernel) rfl rfl (Nat.le_of_ble_eq_true rfl) dX2_lookAhead_8 (fun H locs hP hD hS => ?_)
  replace hP : va_P D vwCl [(p_pl, .inr (2, [.int mayBe, .int p_lastMix, .ref p_ato, .ref p_acu, .int p_cutCount, .ref p_aic, .ref p_ade, .int p_lesser, .int p_greater])), (p_ato, .inl (G 0, 256, .inl p_told)), (da, .inr (0, [.ref ami, .int cows, .ref aki, .ref afi, .int tasters, .ref anw, .ref apa, .int newest, .int known])), (ami, .inl (G 0, 8, .inl milks)), (aki, .inl (G 0, 4, .inl kinds)), (afi, .inl (G 0, 4, .inl fines)), (anw, .inr (1, [.int mayBe, .int bearer, .int day, .int draw]))] H := hP
  replace hD : va_D A [(p_pl, .inr (2, [.int mayBe, .int p_lastMix, .ref p_ato, .ref p_acu, .int p_cutCount, .ref p_aic, .ref p_ade, .int p_lesser, .int p_greater])), (p_ato, .inl (G 0, 256, .inl p_told)), (da, .inr (0, [.ref ami, .int cows, .ref aki, .ref afi, .int tasters, .ref anw, .ref apa, .int newest, .int known])), (ami, .inl (G 0, 8, .inl milks)), (aki, .inl (G 0, 4, .inl kinds)), (afi, .inl (G 0, 4, .inl fines)), (anw, .inr (1, [.int mayBe, .int bearer, .int day, .int draw]))] := hD
  refine lv_aload_n hx hb dX2_lookAhead_11 rfl (lv_at hl 0 rfl) ?_
  refine lv_aload_n hx hb dX2_lookAhead_12 rfl (lv_at hl 1 rfl) ?_
  refine vp_callSi (W.runV (As := []) (rest := [.ref p_pl]) ⟨hx, hb, hml, hown, hts⟩ (c_X0_allCows l D G da ami aki afi anw apa cows tasters newest known _ hw) (cwV 0 hts gX2_lookAhead_X0_allCows rfl rfl rfl (by decide +kernel) ⟨(Nat.le_of_ble_eq_true rfl), (Nat.le_of_ble_eq_true rfl)⟩) (xR_pv (hP.sub [2] rfl) hK (va_recv hK hP (ci := 0) (q0 := 2) rfl rfl)) rfl rfl hl.1 rfl (lv_room (Nat.le_of_ble_eq_true rfl)) dX2_lookAhead_13 ⟨Nat.zero_le _, Nat.zero_le _⟩) (fun r1 hw => ?_)
  refine va_put (D := D) (ci := 2) (v := .int r1) (ty := .int) (C := RX2) (T := TX2) (N := 9) hx hb hts inX2 tyX2 tyX2_ok nmX2 hown hK hP hD hS 0 rfl rfl 1 (by decide) fl15 (fun _ h9 => h9) rfl (by decide +kernel) rfl rfl (Nat.le_of_ble_eq_true rfl) dX2_lookAhead_16 (fun H locs hP hD hS => ?_)
  replace hP : va_P D vwCl [(p_pl, .inr (2, [.int mayBe, .int r1, .ref p_ato, .ref p_acu, .int p_cutCount, .ref p_aic, .ref p_ade, .int p_lesser, .int p_greater])), (p_ato, .inl (G 0, 256, .inl p_told)), (da, .inr (0, [.ref ami, .int cows, .ref aki, .ref afi, .int tasters, .ref anw, .ref apa, .int newest, .int known])), (ami, .inl (G 0, 8, .inl milks)), (aki, .inl (G 0, 4, .inl kinds)), (afi, .inl (G 0, 4, .inl fines)), (anw, .inr (1, [.int mayBe, .int bearer, .int day, .int draw]))] H := hP
  replace hD : va_D A [(p_pl, .inr (2, [.int mayBe, .int r1, .ref p_ato, .ref p_acu, .int p_cutCount, .ref p_aic, .ref p_ade, .int p_lesser, .int p_greater])), (p_ato, .inl (G 0, 256, .inl p_told)), (da, .inr (0, [.ref ami, .int cows, .ref aki, .ref afi, .int tasters, .ref anw, .ref apa, .int newest, .int known])), (ami, .inl (G 0, 8, .inl milks)), (aki, .inl (G 0, 4, .inl kinds)), (afi, .inl (G 0, 4, .inl fines)), (anw, .inr (1, [.int mayBe, .int bearer, .int day, .int draw]))] := hD
  refine lv_iconst (v := 1) hx hb dX2_lookAhead_19 (by decide) ?_
  refine lv_istore_n (lv' := [(3, .int (1 : Int32)), (0, .ref p_pl), (1, .ref da), (2, .int x2)]) hx hb dX2_lookAhead_20 rfl hl (by decide) rfl (fun ls hl => ?_)
  obtain ⟨n, hw⟩ := hw
  exact L21 n (1 : Int32) mayBe r1 p_told _ _ _ hw hP hD hS (lv_sub hl [1, 2, 3, 0] rfl)
set_option maxHeartbeats 4000000 in
set_option maxRecDepth 100000 in
theorem c_X2_isOneAtMost (l : Launch) (D : va_G) (G : Nat → ClassId) (x0 : Int32) (post : Int32 → Prop) (hw : wp_X2_isOneAtMost x0 post) : Met l yX2_isOneAtMost wsX2_isOneAtMost ({ frames := 0, cells := 0, slots := 0, locals := 0 } : Room) (va_Pc [.int x0] (xR D G [])) (vp_Si post) 0 0 (fun _ => False) := by
  refine Met.ofW (cc := cX2_isOneAtMost) (maxL := 1) (ret := (some .boolean)) (by decide) rfl ?_
  intro p e s m args below meth c s₁ B hml hv
  obtain ⟨rfl, hP, hK⟩ := hv
  have hx := B.exec
  have hb := B.bytes
  have hr := B.returns
  have hts := atoms_spec (ws := wsX2_isOneAtMost) B.pre
  have hown : s.vm.findClass RX2 = some m.cls := findClass_of_methodNamed B.named
  have hlocks := B.notSynchronized
  have hl := lv_entry ([.int x0] : List Value) (n := 1) (Nat.le_of_ble_eq_true rfl)
  rw [lg_entry_eq]
  generalize (lg_sl ([.int x0] : List Value) ++ List.replicate (1 - (lg_sl ([.int x0] : List Value)).length) Slot.unset).toArray = ls at hl ⊢
  have hl : lv_has ls 1 [(0, .int x0)] := hl
  unfold wp_X2_isOneAtMost at hw
  refine lv_iload_n hx hb dX2_isOneAtMost_0 rfl (lv_at hl 0 rfl) ?_
  refine lv_iload_n hx hb dX2_isOneAtMost_1 rfl (lv_at hl 0 rfl) ?_
  refine lv_iconst (v := 1) hx hb dX2_isOneAtMost_2 (by decide) ?_
  refine lv_isub hx hb dX2_isOneAtMost_3 ?_
  refine lv_iand hx hb dX2_isOneAtMost_4 ?_
  refine lv_if_ne (tgt := 12) hx hb dX2_isOneAtMost_5 (by decide) (fun c9 => ?_) (fun c9 => ?_)
  · replace hw := hw.1 c9
    refine lv_iconst (v := 0) hx hb dX2_isOneAtMost_12 (by decide) ?_
    exact W.zret hx hb hr rfl (fun t ht _ => ⟨_, rfl, hw, ht⟩) (fun _ h => absurd h List.not_mem_nil) dX2_isOneAtMost_13
  · replace hw := hw.2 c9
    refine lv_iconst (v := 1) hx hb dX2_isOneAtMost_8 (by decide) ?_
    refine lv_goto (tgt := 13) hx hb dX2_isOneAtMost_9 (by decide) ?_
    exact W.zret hx hb hr rfl (fun t ht _ => ⟨_, rfl, hw, ht⟩) (fun _ h => absurd h List.not_mem_nil) dX2_isOneAtMost_13
set_option maxHeartbeats 4000000 in
set_option maxRecDepth 100000 in
theorem c_X2_findCuts (l : Launch) (D : va_G) (G : Nat → ClassId) (sz : Nat) (p_pl : Nat) (p_ato : Nat) (p_acu : Nat) (p_aic : Nat) (p_ade : Nat) (p_mayBe : Int32) (p_lastMix : Int32) (p_cutCount : Int32) (p_lesser : Int32) (p_greater : Int32) (p_told : Nat → Int32) (p_cuts : Nat → Int32) (p_isCut : Nat → Int32) (post : Int32 → (Nat → Int32) → (Nat → Int32) → Prop) (hw : wp_X2_findCuts p_mayBe p_lastMix p_told p_cuts p_isCut post) : Met l yX2_findCuts wsX2_findCuts ({ frames := 1, cells := 0, slots := 0, locals := 21 } : Room) (va_Pc [.ref p_pl] (xM D G sz [(p_pl, .inr (2, [.int p_mayBe, .int p_lastMix, .ref p_ato, .ref p_acu, .int p_cutCount, .ref p_aic, .ref p_ade, .int p_lesser, .int p_greater])), (p_ato, .inl (G 0, 256, .inl p_told)), (p_acu, .inl (G 0, 256, .inl p_cuts)), (p_aic, .inl (G 2, 256, .inl p_isCut))])) (va_Qv (fun (u : Int32 × (Nat → Int32) × (Nat → Int32)) => post u.1 u.2.1 u.2.2) (fun u t => xE D G (va_A [(p_pl, .inr (2, [.int p_mayBe, .int p_lastMix, .ref p_ato, .ref p_acu, .int p_cutCount, .ref p_aic, .ref p_ade, .int p_lesser, .int p_greater])), (p_ato, .inl (G 0, 256, .inl p_told)), (p_acu, .inl (G 0, 256, .inl p_cuts)), (p_aic, .inl (G 2, 256, .inl p_isCut))] sz) [(p_pl, .inr (2, [.int p_mayBe, .int p_lastMix, .ref p_ato, .ref p_acu, .int u.1, .ref p_aic, .ref p_ade, .int p_lesser, .int p_greater])), (p_ato, .inl (G 0, 256, .inl p_told)), (p_acu, .inl (G 0, 256, .inl (u.2.1))), (p_aic, .inl (G 2, 256, .inl (u.2.2)))] t) (va_A [(p_pl, .inr (2, [.int p_mayBe, .int p_lastMix, .ref p_ato, .ref p_acu, .int p_cutCount, .ref p_aic, .ref p_ade, .int p_lesser, .int p_greater])), (p_ato, .inl (G 0, 256, .inl p_told)), (p_acu, .inl (G 0, 256, .inl p_cuts)), (p_aic, .inl (G 2, 256, .inl p_isCut))] sz)) 0 0 (va_A [(p_pl, .inr (2, [.int p_mayBe, .int p_lastMix, .ref p_ato, .ref p_acu, .int p_cutCount, .ref p_aic, .ref p_ade, .int p_lesser, .int p_greater])), (p_ato, .inl (G 0, 256, .inl p_told)), (p_acu, .inl (G 0, 256, .inl p_cuts)), (p_aic, .inl (G 2, 256, .inl p_isCut))] sz) := by
  refine Met.ofW (cc := cX2_findCuts) (maxL := 3) (ret := none) (by decide) rfl ?_
  intro p e s m args below meth c s₁ B hml hv
  obtain ⟨rfl, hsz, hP, hK, hD0⟩ := hv
  have hx := B.exec
  have hb := B.bytes
  have hr := B.returns
  have hts := atoms_spec (ws := wsX2_findCuts) B.pre
  have hown : s.vm.findClass RX2 = some m.cls := findClass_of_methodNamed B.named
  have hlocks := B.notSynchronized
  subst hsz
  have hD := hD0.self (sz := s.heap.size)
  generalize hAe : va_A [(p_pl, .inr (2, [.int p_mayBe, .int p_lastMix, .ref p_ato, .ref p_acu, .int p_cutCount, .ref p_aic, .ref p_ade, .int p_lesser, .int p_greater])), (p_ato, .inl (G 0, 256, .inl p_told)), (p_acu, .inl (G 0, 256, .inl p_cuts)), (p_aic, .inl (G 2, 256, .inl p_isCut))] s.heap.size = A at hD ⊢
  have hA : ∀ q : Nat, s.heap.size ≤ q → A q := fun q h => by rw [← hAe]; exact Or.inr h
  have hS : va_S A s.heap s.heap [] := va_S.rf
  have inX2 : ∀ w ∈ wsX20, w ∈ wsX2_findCuts := by decide +kernel
  have fl9 := hts (.fieldLink RX2 9 "NewsCow$Plan" "mayBe" "I") (by decide +kernel)
  have fl25 := hts (.fieldLink RX2 25 "NewsCow$Plan" "cutCount" "I") (by decide +kernel)
  have fl28 := hts (.fieldLink RX2 28 "NewsCow$Plan" "isCut" "[Z") (by decide +kernel)
  have fl15 := hts (.fieldLink RX2 15 "NewsCow$Plan" "lastMix" "I") (by decide +kernel)
  have fl18 := hts (.fieldLink RX2 18 "NewsCow$Plan" "told" "[I") (by decide +kernel)
  have fl22 := hts (.fieldLink RX2 22 "NewsCow$Plan" "cuts" "[I") (by decide +kernel)
  have hl := lv_entry ([.ref p_pl] : List Value) (n := 3) (Nat.le_of_ble_eq_true rfl)
  rw [lg_entry_eq]
  generalize (lg_sl ([.ref p_pl] : List Value) ++ List.replicate (3 - (lg_sl ([.ref p_pl] : List Value)).length) Slot.unset).toArray = ls at hl ⊢
  have hl : lv_has ls 3 [(0, .ref p_pl)] := hl
  unfold wp_X2_findCuts at hw
  have L30 : ∀ (f30 : Nat) (x1 : Int32) (p_cutCount : Int32) (p_cuts : Nat → Int32) (p_isCut : Nat → Int32) (H : Heap) (locs : List Loc) (ls : Array Slot), wp_X2_findCuts_L30 p_mayBe p_lastMix p_told post f30 p_cutCount p_cuts p_isCut x1 → va_P D vwCl [(p_pl, .inr (2, [.int p_mayBe, .int p_lastMix, .ref p_ato, .ref p_acu, .int p_cutCount, .ref p_aic, .ref p_ade, .int p_lesser, .int p_greater])), (p_ato, .inl (G 0, 256, .inl p_told)), (p_acu, .inl (G 0, 256, .inl p_cuts)), (p_aic, .inl (G 2, 256, .inl p_isCut))] H → va_D A [(p_pl, .inr (2, [.int p_mayBe, .int p_lastMix, .ref p_ato, .ref p_acu, .int p_cutCount, .ref p_aic, .ref p_ade, .int p_lesser, .int p_greater])), (p_ato, .inl (G 0, 256, .inl p_told)), (p_acu, .inl (G 0, 256, .inl p_cuts)), (p_aic, .inl (G 2, 256, .inl p_isCut))] → va_S A s.heap H locs → lv_has ls 3 [(0, .ref p_pl), (1, .int x1)] → W p l e (headSpec wsX2_findCuts ({ frames := 1, cells := 0, slots := 0, locals := 21 } : Room)).room s m ([.ref p_pl] : List Value).toArray below meth c H locs 0 0 (MQ below (va_Qv (fun (u : Int32 × (Nat → Int32) × (Nat → Int32)) => post u.1 u.2.1 u.2.2) (fun u t => xE D G A [(p_pl, .inr (2, [.int p_mayBe, .int p_lastMix, .ref p_ato, .ref p_acu, .int u.1, .ref p_aic, .ref p_ade, .int p_lesser, .int p_greater])), (p_ato, .inl (G 0, 256, .inl p_told)), (p_acu, .inl (G 0, 256, .inl (u.2.1))), (p_aic, .inl (G 2, 256, .inl (u.2.2)))] t) A) ([.ref p_pl] : List Value).toArray s 0 0 A) (F0 m 30 ls []) := by
    intro f30
    induction f30 with
    | zero => intro x1 p_cutCount p_cuts p_isCut H locs ls hw hP hD hS hl; exact (hw : False).elim
    | succ f30 ih30 =>
      intro x1 p_cutCount p_cuts p_isCut H locs ls hw hP hD hS hl
      unfold wp_X2_findCuts_L30 at hw
      refine lv_iload_n hx hb dX2_findCuts_30 rfl (lv_at hl 1 rfl) ?_
      refine lv_aload_n hx hb dX2_findCuts_31 rfl (lv_at hl 0 rfl) ?_
      refine va_get (D := D) (ci := 2) (v := .int p_lastMix) (C := RX2) (T := TX2) (N := 9) hx hb hts inX2 hown hK hP 0 rfl rfl 1 (by decide) fl15 (fun _ h9 => h9) rfl dX2_findCuts_32 ?_
      refine lv_icmp_gt (tgt := 103) hx hb dX2_findCuts_35 (by decide) (fun c9 => ?_) (fun c9 => ?_)
      · replace hw := hw.1 c9
        exact W.vret hx hb hr (x_mv (u := (p_cutCount, p_cuts, p_isCut)) hP hK hD hS hw) hS.2.2 dX2_findCuts_103
      · replace hw := hw.2 c9
        refine lv_aload_n hx hb dX2_findCuts_38 rfl (lv_at hl 0 rfl) ?_
        refine va_get (D := D) (ci := 2) (v := .ref p_ato) (C := RX2) (T := TX2) (N := 9) hx hb hts inX2 hown hK hP 0 rfl rfl 2 (by decide) fl18 (fun _ h9 => h9) rfl dX2_findCuts_39 ?_
        refine lv_iload_n hx hb dX2_findCuts_42 rfl (lv_at hl 1 rfl) ?_
        refine x_iald (j := x1.toNatClampNeg) hx hb hK hP 1 0 rfl rfl rfl hw.1 dX2_findCuts_43 ?_
        replace hw := hw.2
        refine lv_aload_n hx hb dX2_findCuts_44 rfl (lv_at hl 0 rfl) ?_
        refine va_get (D := D) (ci := 2) (v := .int p_mayBe) (C := RX2) (T := TX2) (N := 9) hx hb hts inX2 hown hK hP 0 rfl rfl 0 (by decide) fl9 (fun _ h9 => h9) rfl dX2_findCuts_45 ?_
        refine lv_aload_n hx hb dX2_findCuts_48 rfl (lv_at hl 0 rfl) ?_
        refine va_get (D := D) (ci := 2) (v := .ref p_ato) (C := RX2) (T := TX2) (N := 9) hx hb hts inX2 hown hK hP 0 rfl rfl 2 (by decide) fl18 (fun _ h9 => h9) rfl dX2_findCuts_49 ?_
        refine lv_iload_n hx hb dX2_findCuts_52 rfl (lv_at hl 1 rfl) ?_
        refine x_iald (j := x1.toNatClampNeg) hx hb hK hP 1 0 rfl rfl rfl hw.1 dX2_findCuts_53 ?_
        replace hw := hw.2
        refine lv_iconst (v := -1) hx hb dX2_findCuts_54 (by decide) ?_
        refine lv_ixor hx hb dX2_findCuts_55 ?_
        refine lv_iand hx hb dX2_findCuts_56 ?_
        refine va_mmin hx hb (hml.trans hl.1.symm) hown (hts (.methodLink RX2 78 Lib.Math.min.name) (by decide +kernel)) (hts (.static Lib.Math.min.name) (by decide +kernel)) (hts (.initialized "java/lang/Math") (by decide +kernel)) (hts (.code Lib.Math.min.name Lib.Math.min.code 2 (some .int)) (by decide +kernel)) (Nat.le_of_ble_eq_true rfl) (Nat.le_of_ble_eq_true rfl) (Nat.zero_le _) (Nat.zero_le _) dX2_findCuts_57 ?_
        refine lv_istore_n (lv' := [(2, .int (if (p_mayBe &&& ((p_told x1.toNatClampNeg) ^^^ (-1 : Int32))) < (p_told x1.toNatClampNeg) then (p_mayBe &&& ((p_told x1.toNatClampNeg) ^^^ (-1 : Int32))) else (p_told x1.toNatClampNeg))), (0, .ref p_pl), (1, .int x1)]) hx hb dX2_findCuts_60 rfl hl (by decide) rfl (fun ls hl => ?_)
        refine lv_aload_n hx hb dX2_findCuts_61 rfl (lv_at hl 1 rfl) ?_
        refine va_get (D := D) (ci := 2) (v := .ref p_aic) (C := RX2) (T := TX2) (N := 9) hx hb hts inX2 hown hK hP 0 rfl rfl 5 (by decide) fl28 (fun _ h9 => h9) rfl dX2_findCuts_62 ?_
        refine lv_iload_n hx hb dX2_findCuts_65 rfl (lv_at hl 0 rfl) ?_
        refine x_zald (j := (if (p_mayBe &&& ((p_told x1.toNatClampNeg) ^^^ (-1 : Int32))) < (p_told x1.toNatClampNeg) then (p_mayBe &&& ((p_told x1.toNatClampNeg) ^^^ (-1 : Int32))) else (p_told x1.toNatClampNeg)).toNatClampNeg) hx hb hK hP 3 2 rfl rfl rfl hw.1 dX2_findCuts_66 ?_
        replace hw := hw.2
        refine lv_if_ne (tgt := 97) hx hb dX2_findCuts_67 (by decide) (fun c9 => ?_) (fun c9 => ?_)
        · replace hw := hw.1 c9
          refine lv_iinc (v := (x1 + 1)) (lv' := [(1, .int (x1 + 1)), (2, .int (if (p_mayBe &&& ((p_told x1.toNatClampNeg) ^^^ (-1 : Int32))) < (p_told x1.toNatClampNeg) then (p_mayBe &&& ((p_told x1.toNatClampNeg) ^^^ (-1 : Int32))) else (p_told x1.toNatClampNeg))), (0, .ref p_pl)]) hx hb dX2_findCuts_97 hl (k := 2) rfl (by first | rfl | decide) (by decide) rfl (fun ls hl => ?_)
          refine lv_goto (tgt := 30) hx hb dX2_findCuts_100 (by decide) ?_
          exact ih30 (x1 + 1) p_cutCount p_cuts p_isCut _ _ _ hw hP hD hS (lv_sub hl [2, 0] rfl)
        · replace hw := hw.2 c9
          refine lv_aload_n hx hb dX2_findCuts_70 rfl (lv_at hl 1 rfl) ?_
          refine va_get (D := D) (ci := 2) (v := .ref p_aic) (C := RX2) (T := TX2) (N := 9) hx hb hts inX2 hown hK hP 0 rfl rfl 5 (by decide) fl28 (fun _ h9 => h9) rfl dX2_findCuts_71 ?_
          refine lv_iload_n hx hb dX2_findCuts_74 rfl (lv_at hl 0 rfl) ?_
          refine lv_iconst (v := 1) hx hb dX2_findCuts_75 (by decide) ?_
          refine x_zast (j := (if (p_mayBe &&& ((p_told x1.toNatClampNeg) ^^^ (-1 : Int32))) < (p_told x1.toNatClampNeg) then (p_mayBe &&& ((p_told x1.toNatClampNeg) ^^^ (-1 : Int32))) else (p_told x1.toNatClampNeg)).toNatClampNeg) hx hb hK hP hD hS 3 2 rfl rfl rfl hw.1 dX2_findCuts_76 (fun H locs hP hD hS => ?_)
          replace hw := hw.2
          replace hP : va_P D vwCl [(p_pl, .inr (2, [.int p_mayBe, .int p_lastMix, .ref p_ato, .ref p_acu, .int p_cutCount, .ref p_aic, .ref p_ade, .int p_lesser, .int p_greater])), (p_ato, .inl (G 0, 256, .inl p_told)), (p_acu, .inl (G 0, 256, .inl p_cuts)), (p_aic, .inl (G 2, 256, .inl (upd p_isCut (if (p_mayBe &&& ((p_told x1.toNatClampNeg) ^^^ (-1 : Int32))) < (p_told x1.toNatClampNeg) then (p_mayBe &&& ((p_told x1.toNatClampNeg) ^^^ (-1 : Int32))) else (p_told x1.toNatClampNeg)).toNatClampNeg (vp_nar .boolean (1 : Int32)))))] H := hP
          replace hD : va_D A [(p_pl, .inr (2, [.int p_mayBe, .int p_lastMix, .ref p_ato, .ref p_acu, .int p_cutCount, .ref p_aic, .ref p_ade, .int p_lesser, .int p_greater])), (p_ato, .inl (G 0, 256, .inl p_told)), (p_acu, .inl (G 0, 256, .inl p_cuts)), (p_aic, .inl (G 2, 256, .inl (upd p_isCut (if (p_mayBe &&& ((p_told x1.toNatClampNeg) ^^^ (-1 : Int32))) < (p_told x1.toNatClampNeg) then (p_mayBe &&& ((p_told x1.toNatClampNeg) ^^^ (-1 : Int32))) else (p_told x1.toNatClampNeg)).toNatClampNeg (vp_nar .boolean (1 : Int32)))))] := hD
          refine lv_aload_n hx hb dX2_findCuts_77 rfl (lv_at hl 1 rfl) ?_
          refine va_get (D := D) (ci := 2) (v := .ref p_acu) (C := RX2) (T := TX2) (N := 9) hx hb hts inX2 hown hK hP 0 rfl rfl 3 (by decide) fl22 (fun _ h9 => h9) rfl dX2_findCuts_78 ?_
          refine lv_aload_n hx hb dX2_findCuts_81 rfl (lv_at hl 1 rfl) ?_
          refine va_get (D := D) (ci := 2) (v := .int p_cutCount) (C := RX2) (T := TX2) (N := 9) hx hb hts inX2 hown hK hP 0 rfl rfl 4 (by decide) fl25 (fun _ h9 => h9) rfl dX2_findCuts_82 ?_
          refine lv_iload_n hx hb dX2_findCuts_85 rfl (lv_at hl 0 rfl) ?_
          refine x_iast (j := p_cutCount.toNatClampNeg) hx hb hK hP hD hS 2 0 rfl rfl rfl hw.1 dX2_findCuts_86 (fun H locs hP hD hS => ?_)
          replace hw := hw.2
          replace hP : va_P D vwCl [(p_pl, .inr (2, [.int p_mayBe, .int p_lastMix, .ref p_ato, .ref p_acu, .int p_cutCount, .ref p_aic, .ref p_ade, .int p_lesser, .int p_greater])), (p_ato, .inl (G 0, 256, .inl p_told)), (p_acu, .inl (G 0, 256, .inl (upd p_cuts p_cutCount.toNatClampNeg (if (p_mayBe &&& ((p_told x1.toNatClampNeg) ^^^ (-1 : Int32))) < (p_told x1.toNatClampNeg) then (p_mayBe &&& ((p_told x1.toNatClampNeg) ^^^ (-1 : Int32))) else (p_told x1.toNatClampNeg))))), (p_aic, .inl (G 2, 256, .inl (upd p_isCut (if (p_mayBe &&& ((p_told x1.toNatClampNeg) ^^^ (-1 : Int32))) < (p_told x1.toNatClampNeg) then (p_mayBe &&& ((p_told x1.toNatClampNeg) ^^^ (-1 : Int32))) else (p_told x1.toNatClampNeg)).toNatClampNeg (vp_nar .boolean (1 : Int32)))))] H := hP
          replace hD : va_D A [(p_pl, .inr (2, [.int p_mayBe, .int p_lastMix, .ref p_ato, .ref p_acu, .int p_cutCount, .ref p_aic, .ref p_ade, .int p_lesser, .int p_greater])), (p_ato, .inl (G 0, 256, .inl p_told)), (p_acu, .inl (G 0, 256, .inl (upd p_cuts p_cutCount.toNatClampNeg (if (p_mayBe &&& ((p_told x1.toNatClampNeg) ^^^ (-1 : Int32))) < (p_told x1.toNatClampNeg) then (p_mayBe &&& ((p_told x1.toNatClampNeg) ^^^ (-1 : Int32))) else (p_told x1.toNatClampNeg))))), (p_aic, .inl (G 2, 256, .inl (upd p_isCut (if (p_mayBe &&& ((p_told x1.toNatClampNeg) ^^^ (-1 : Int32))) < (p_told x1.toNatClampNeg) then (p_mayBe &&& ((p_told x1.toNatClampNeg) ^^^ (-1 : Int32))) else (p_told x1.toNatClampNeg)).toNatClampNeg (vp_nar .boolean (1 : Int32)))))] := hD
          refine lv_aload_n hx hb dX2_findCuts_87 rfl (lv_at hl 1 rfl) ?_
          refine lv_dup hx hb dX2_findCuts_88 rfl ?_
          refine va_get (D := D) (ci := 2) (v := .int p_cutCount) (C := RX2) (T := TX2) (N := 9) hx hb hts inX2 hown hK hP 0 rfl rfl 4 (by decide) fl25 (fun _ h9 => h9) rfl dX2_findCuts_89 ?_
          refine lv_iconst (v := 1) hx hb dX2_findCuts_92 (by decide) ?_
          refine lv_iadd hx hb dX2_findCuts_93 ?_
          refine va_put (D := D) (ci := 2) (v := .int (p_cutCount + (1 : Int32))) (ty := .int) (C := RX2) (T := TX2) (N := 9) hx hb hts inX2 tyX2 tyX2_ok nmX2 hown hK hP hD hS 0 rfl rfl 4 (by decide) fl25 (fun _ h9 => h9) rfl (by decide +kernel) rfl rfl (Nat.le_of_ble_eq_true rfl) dX2_findCuts_94 (fun H locs hP hD hS => ?_)
          replace hP : va_P D vwCl [(p_pl, .inr (2, [.int p_mayBe, .int p_lastMix, .ref p_ato, .ref p_acu, .int (p_cutCount + (1 : Int32)), .ref p_aic, .ref p_ade, .int p_lesser, .int p_greater])), (p_ato, .inl (G 0, 256, .inl p_told)), (p_acu, .inl (G 0, 256, .inl (upd p_cuts p_cutCount.toNatClampNeg (if (p_mayBe &&& ((p_told x1.toNatClampNeg) ^^^ (-1 : Int32))) < (p_told x1.toNatClampNeg) then (p_mayBe &&& ((p_told x1.toNatClampNeg) ^^^ (-1 : Int32))) else (p_told x1.toNatClampNeg))))), (p_aic, .inl (G 2, 256, .inl (upd p_isCut (if (p_mayBe &&& ((p_told x1.toNatClampNeg) ^^^ (-1 : Int32))) < (p_told x1.toNatClampNeg) then (p_mayBe &&& ((p_told x1.toNatClampNeg) ^^^ (-1 : Int32))) else (p_told x1.toNatClampNeg)).toNatClampNeg (vp_nar .boolean (1 : Int32)))))] H := hP
          replace hD : va_D A [(p_pl, .inr (2, [.int p_mayBe, .int p_lastMix, .ref p_ato, .ref p_acu, .int (p_cutCount + (1 : Int32)), .ref p_aic, .ref p_ade, .int p_lesser, .int p_greater])), (p_ato, .inl (G 0, 256, .inl p_told)), (p_acu, .inl (G 0, 256, .inl (upd p_cuts p_cutCount.toNatClampNeg (if (p_mayBe &&& ((p_told x1.toNatClampNeg) ^^^ (-1 : Int32))) < (p_told x1.toNatClampNeg) then (p_mayBe &&& ((p_told x1.toNatClampNeg) ^^^ (-1 : Int32))) else (p_told x1.toNatClampNeg))))), (p_aic, .inl (G 2, 256, .inl (upd p_isCut (if (p_mayBe &&& ((p_told x1.toNatClampNeg) ^^^ (-1 : Int32))) < (p_told x1.toNatClampNeg) then (p_mayBe &&& ((p_told x1.toNatClampNeg) ^^^ (-1 : Int32))) else (p_told x1.toNatClampNeg)).toNatClampNeg (vp_nar .boolean (1 : Int32)))))] := hD
          refine lv_iinc (v := (x1 + 1)) (lv' := [(1, .int (x1 + 1)), (2, .int (if (p_mayBe &&& ((p_told x1.toNatClampNeg) ^^^ (-1 : Int32))) < (p_told x1.toNatClampNeg) then (p_mayBe &&& ((p_told x1.toNatClampNeg) ^^^ (-1 : Int32))) else (p_told x1.toNatClampNeg))), (0, .ref p_pl)]) hx hb dX2_findCuts_97 hl (k := 2) rfl (by first | rfl | decide) (by decide) rfl (fun ls hl => ?_)
          refine lv_goto (tgt := 30) hx hb dX2_findCuts_100 (by decide) ?_
          exact ih30 (x1 + 1) (p_cutCount + (1 : Int32)) (upd p_cuts p_cutCount.toNatClampNeg (if (p_mayBe &&& ((p_told x1.toNatClampNeg) ^^^ (-1 : Int32))) < (p_told x1.toNatClampNeg) then (p_mayBe &&& ((p_told x1.toNatClampNeg) ^^^ (-1 : Int32))) else (p_told x1.toNatClampNeg))) (upd p_isCut (if (p_mayBe &&& ((p_told x1.toNatClampNeg) ^^^ (-1 : Int32))) < (p_told x1.toNatClampNeg) then (p_mayBe &&& ((p_told x1.toNatClampNeg) ^^^ (-1 : Int32))) else (p_told x1.toNatClampNeg)).toNatClampNeg (vp_nar .boolean (1 : Int32))) _ _ _ hw hP hD hS (lv_sub hl [2, 0] rfl)
  have L2 : ∀ (f2 : Nat) (x1 : Int32) (p_isCut : Nat → Int32) (H : Heap) (locs : List Loc) (ls : Array Slot), wp_X2_findCuts_L2 p_mayBe p_lastMix p_told p_cuts post f2 p_isCut x1 → va_P D vwCl [(p_pl, .inr (2, [.int p_mayBe, .int p_lastMix, .ref p_ato, .ref p_acu, .int p_cutCount, .ref p_aic, .ref p_ade, .int p_lesser, .int p_greater])), (p_ato, .inl (G 0, 256, .inl p_told)), (p_acu, .inl (G 0, 256, .inl p_cuts)), (p_aic, .inl (G 2, 256, .inl p_isCut))] H → va_D A [(p_pl, .inr (2, [.int p_mayBe, .int p_lastMix, .ref p_ato, .ref p_acu, .int p_cutCount, .ref p_aic, .ref p_ade, .int p_lesser, .int p_greater])), (p_ato, .inl (G 0, 256, .inl p_told)), (p_acu, .inl (G 0, 256, .inl p_cuts)), (p_aic, .inl (G 2, 256, .inl p_isCut))] → va_S A s.heap H locs → lv_has ls 3 [(0, .ref p_pl), (1, .int x1)] → W p l e (headSpec wsX2_findCuts ({ frames := 1, cells := 0, slots := 0, locals := 21 } : Room)).room s m ([.ref p_pl] : List Value).toArray below meth c H locs 0 0 (MQ below (va_Qv (fun (u : Int32 × (Nat → Int32) × (Nat → Int32)) => post u.1 u.2.1 u.2.2) (fun u t => xE D G A [(p_pl, .inr (2, [.int p_mayBe, .int p_lastMix, .ref p_ato, .ref p_acu, .int u.1, .ref p_aic, .ref p_ade, .int p_lesser, .int p_greater])), (p_ato, .inl (G 0, 256, .inl p_told)), (p_acu, .inl (G 0, 256, .inl (u.2.1))), (p_aic, .inl (G 2, 256, .inl (u.2.2)))] t) A) ([.ref p_pl] : List Value).toArray s 0 0 A) (F0 m 2 ls []) := by
    intro f2
    induction f2 with
    | zero => intro x1 p_isCut H locs ls hw hP hD hS hl; exact (hw : False).elim
    | succ f2 ih2 =>
      intro x1 p_isCut H locs ls hw hP hD hS hl
      unfold wp_X2_findCuts_L2 at hw
      refine lv_iload_n hx hb dX2_findCuts_2 rfl (lv_at hl 1 rfl) ?_
      refine lv_aload_n hx hb dX2_findCuts_3 rfl (lv_at hl 0 rfl) ?_
      refine va_get (D := D) (ci := 2) (v := .int p_mayBe) (C := RX2) (T := TX2) (N := 9) hx hb hts inX2 hown hK hP 0 rfl rfl 0 (by decide) fl9 (fun _ h9 => h9) rfl dX2_findCuts_4 ?_
      refine lv_icmp_gt (tgt := 23) hx hb dX2_findCuts_7 (by decide) (fun c9 => ?_) (fun c9 => ?_)
      · replace hw := hw.1 c9
        refine lv_aload_n hx hb dX2_findCuts_23 rfl (lv_at hl 0 rfl) ?_
        refine lv_iconst (v := 0) hx hb dX2_findCuts_24 (by decide) ?_
        refine va_put (D := D) (ci := 2) (v := .int (0 : Int32)) (ty := .int) (C := RX2) (T := TX2) (N := 9) hx hb hts inX2 tyX2 tyX2_ok nmX2 hown hK hP hD hS 0 rfl rfl 4 (by decide) fl25 (fun _ h9 => h9) rfl (by decide +kernel) rfl rfl (Nat.le_of_ble_eq_true rfl) dX2_findCuts_25 (fun H locs hP hD hS => ?_)
        replace hP : va_P D vwCl [(p_pl, .inr (2, [.int p_mayBe, .int p_lastMix, .ref p_ato, .ref p_acu, .int (0 : Int32), .ref p_aic, .ref p_ade, .int p_lesser, .int p_greater])), (p_ato, .inl (G 0, 256, .inl p_told)), (p_acu, .inl (G 0, 256, .inl p_cuts)), (p_aic, .inl (G 2, 256, .inl p_isCut))] H := hP
        replace hD : va_D A [(p_pl, .inr (2, [.int p_mayBe, .int p_lastMix, .ref p_ato, .ref p_acu, .int (0 : Int32), .ref p_aic, .ref p_ade, .int p_lesser, .int p_greater])), (p_ato, .inl (G 0, 256, .inl p_told)), (p_acu, .inl (G 0, 256, .inl p_cuts)), (p_aic, .inl (G 2, 256, .inl p_isCut))] := hD
        refine lv_iconst (v := 1) hx hb dX2_findCuts_28 (by decide) ?_
        refine lv_istore_n (lv' := [(1, .int (1 : Int32)), (0, .ref p_pl)]) hx hb dX2_findCuts_29 rfl hl (by decide) rfl (fun ls hl => ?_)
        obtain ⟨n, hw⟩ := hw
        exact L30 n (1 : Int32) (0 : Int32) p_cuts p_isCut _ _ _ hw hP hD hS (lv_sub hl [1, 0] rfl)
      · replace hw := hw.2 c9
        refine lv_aload_n hx hb dX2_findCuts_10 rfl (lv_at hl 0 rfl) ?_
        refine va_get (D := D) (ci := 2) (v := .ref p_aic) (C := RX2) (T := TX2) (N := 9) hx hb hts inX2 hown hK hP 0 rfl rfl 5 (by decide) fl28 (fun _ h9 => h9) rfl dX2_findCuts_11 ?_
        refine lv_iload_n hx hb dX2_findCuts_14 rfl (lv_at hl 1 rfl) ?_
        refine lv_iconst (v := 0) hx hb dX2_findCuts_15 (by decide) ?_
        refine x_zast (j := x1.toNatClampNeg) hx hb hK hP hD hS 3 2 rfl rfl rfl hw.1 dX2_findCuts_16 (fun H locs hP hD hS => ?_)
        replace hw := hw.2
        replace hP : va_P D vwCl [(p_pl, .inr (2, [.int p_mayBe, .int p_lastMix, .ref p_ato, .ref p_acu, .int p_cutCount, .ref p_aic, .ref p_ade, .int p_lesser, .int p_greater])), (p_ato, .inl (G 0, 256, .inl p_told)), (p_acu, .inl (G 0, 256, .inl p_cuts)), (p_aic, .inl (G 2, 256, .inl (upd p_isCut x1.toNatClampNeg (vp_nar .boolean (0 : Int32)))))] H := hP
        replace hD : va_D A [(p_pl, .inr (2, [.int p_mayBe, .int p_lastMix, .ref p_ato, .ref p_acu, .int p_cutCount, .ref p_aic, .ref p_ade, .int p_lesser, .int p_greater])), (p_ato, .inl (G 0, 256, .inl p_told)), (p_acu, .inl (G 0, 256, .inl p_cuts)), (p_aic, .inl (G 2, 256, .inl (upd p_isCut x1.toNatClampNeg (vp_nar .boolean (0 : Int32)))))] := hD
        refine lv_iinc (v := (x1 + 1)) (lv' := [(1, .int (x1 + 1)), (0, .ref p_pl)]) hx hb dX2_findCuts_17 hl (k := 1) rfl (by first | rfl | decide) (by decide) rfl (fun ls hl => ?_)
        refine lv_goto (tgt := 2) hx hb dX2_findCuts_20 (by decide) ?_
        exact ih2 (x1 + 1) (upd p_isCut x1.toNatClampNeg (vp_nar .boolean (0 : Int32))) _ _ _ hw hP hD hS (lv_sub hl [1, 0] rfl)
  refine lv_iconst (v := 0) hx hb dX2_findCuts_0 (by decide) ?_
  refine lv_istore_n (lv' := [(1, .int (0 : Int32)), (0, .ref p_pl)]) hx hb dX2_findCuts_1 rfl hl (by decide) rfl (fun ls hl => ?_)
  obtain ⟨n, hw⟩ := hw
  exact L2 n (0 : Int32) p_isCut _ _ _ hw hP hD hS (lv_sub hl [1, 0] rfl)
set_option maxHeartbeats 4000000 in
set_option maxRecDepth 100000 in
theorem c_X2_leastThinkable (l : Launch) (D : va_G) (G : Nat → ClassId) (x0 : Int32) (post : Int32 → Prop) (hw : wp_X2_leastThinkable x0 post) : Met l yX2_leastThinkable wsX2_leastThinkable ({ frames := 0, cells := 0, slots := 0, locals := 0 } : Room) (va_Pc [.int x0] (xR D G [])) (vp_Si post) 0 0 (fun _ => False) := by
  refine Met.ofW (cc := cX2_leastThinkable) (maxL := 2) (ret := (some .int)) (by decide) rfl ?_
  intro p e s m args below meth c s₁ B hml hv
  obtain ⟨rfl, hP, hK⟩ := hv
  have hx := B.exec
  have hb := B.bytes
  have hr := B.returns
  have hts := atoms_spec (ws := wsX2_leastThinkable) B.pre
  have hown : s.vm.findClass RX2 = some m.cls := findClass_of_methodNamed B.named
  have hlocks := B.notSynchronized
  have hl := lv_entry ([.int x0] : List Value) (n := 2) (Nat.le_of_ble_eq_true rfl)
  rw [lg_entry_eq]
  generalize (lg_sl ([.int x0] : List Value) ++ List.replicate (2 - (lg_sl ([.int x0] : List Value)).length) Slot.unset).toArray = ls at hl ⊢
  have hl : lv_has ls 2 [(0, .int x0)] := hl
  unfold wp_X2_leastThinkable at hw
  have L2 : ∀ (f2 : Nat) (x1 : Int32) (ls : Array Slot), wp_X2_leastThinkable_L2 x0 post f2 x1 → lv_has ls 2 [(0, .int x0), (1, .int x1)] → W p l e (headSpec wsX2_leastThinkable ({ frames := 0, cells := 0, slots := 0, locals := 0 } : Room)).room s m ([.int x0] : List Value).toArray below meth c s.heap [] 0 0 (MQ below (vp_Si post) ([.int x0] : List Value).toArray s 0 0 (fun _ => False)) (F0 m 2 ls []) := by
    intro f2
    induction f2 with
    | zero => intro x1 ls hw hl; exact (hw : False).elim
    | succ f2 ih2 =>
      intro x1 ls hw hl
      unfold wp_X2_leastThinkable_L2 at hw
      refine lv_iload_n hx hb dX2_leastThinkable_2 rfl (lv_at hl 1 rfl) ?_
      refine lv_bipush (v := 8) hx hb dX2_leastThinkable_3 (by decide) ?_
      refine lv_icmp_ge (tgt := 21) hx hb dX2_leastThinkable_5 (by decide) (fun c9 => ?_) (fun c9 => ?_)
      · replace hw := hw.1 c9
        refine lv_iload_n hx hb dX2_leastThinkable_21 rfl (lv_at hl 1 rfl) ?_
        exact W.iret hx hb hr (fun t ht _ => ⟨_, rfl, hw, ht⟩) (fun _ h => absurd h List.not_mem_nil) dX2_leastThinkable_22
      · replace hw := hw.2 c9
        refine lv_iconst (v := 1) hx hb dX2_leastThinkable_8 (by decide) ?_
        refine lv_iload_n hx hb dX2_leastThinkable_9 rfl (lv_at hl 1 rfl) ?_
        refine lv_ishl hx hb dX2_leastThinkable_10 ?_
        refine lv_iload_n hx hb dX2_leastThinkable_11 rfl (lv_at hl 0 rfl) ?_
        refine lv_icmp_ge (tgt := 21) hx hb dX2_leastThinkable_12 (by decide) (fun c9 => ?_) (fun c9 => ?_)
        · replace hw := hw.1 c9
          refine lv_iload_n hx hb dX2_leastThinkable_21 rfl (lv_at hl 1 rfl) ?_
          exact W.iret hx hb hr (fun t ht _ => ⟨_, rfl, hw, ht⟩) (fun _ h => absurd h List.not_mem_nil) dX2_leastThinkable_22
        · replace hw := hw.2 c9
          refine lv_iinc (v := (x1 + 1)) (lv' := [(1, .int (x1 + 1)), (0, .int x0)]) hx hb dX2_leastThinkable_15 hl (k := 1) rfl (by first | rfl | decide) (by decide) rfl (fun ls hl => ?_)
          refine lv_goto (tgt := 2) hx hb dX2_leastThinkable_18 (by decide) ?_
          exact ih2 (x1 + 1) _ hw (lv_sub hl [1, 0] rfl)
  refine lv_iconst (v := 0) hx hb dX2_leastThinkable_0 (by decide) ?_
  refine lv_istore_n (lv' := [(1, .int (0 : Int32)), (0, .int x0)]) hx hb dX2_leastThinkable_1 rfl hl (by decide) rfl (fun ls hl => ?_)
  obtain ⟨n, hw⟩ := hw
  exact L2 n (0 : Int32) _ hw (lv_sub hl [1, 0] rfl)
set_option maxHeartbeats 4000000 in
set_option maxRecDepth 100000 in
theorem c_X2_depthBehind (l : Launch) (D : va_G) (G : Nat → ClassId) (p_pl : Nat) (p_ato : Nat) (p_acu : Nat) (p_aic : Nat) (p_ade : Nat) (p_mayBe : Int32) (p_lastMix : Int32) (p_cutCount : Int32) (p_lesser : Int32) (p_greater : Int32) (p_depths : Nat → Int32) (x1 : Int32) (x2 : Int32) (post : Int32 → Prop) (hw : wp_X2_depthBehind p_depths x1 x2 post) : Met l yX2_depthBehind wsX2_depthBehind ({ frames := 1, cells := 0, slots := 0, locals := 21 } : Room) (va_Pc [.ref p_pl, .int x1, .int x2] (xR D G [(p_pl, .inr (2, [.int p_mayBe, .int p_lastMix, .ref p_ato, .ref p_acu, .int p_cutCount, .ref p_aic, .ref p_ade, .int p_lesser, .int p_greater])), (p_ade, .inl (G 0, 256, .inl p_depths))])) (vp_Si post) 0 0 (fun _ => False) := by
  refine Met.ofW (cc := cX2_depthBehind) (maxL := 5) (ret := (some .int)) (by decide) rfl ?_
  intro p e s m args below meth c s₁ B hml hv
  obtain ⟨rfl, hP, hK⟩ := hv
  have hx := B.exec
  have hb := B.bytes
  have hr := B.returns
  have hts := atoms_spec (ws := wsX2_depthBehind) B.pre
  have hown : s.vm.findClass RX2 = some m.cls := findClass_of_methodNamed B.named
  have hlocks := B.notSynchronized
  have inX2 : ∀ w ∈ wsX20, w ∈ wsX2_depthBehind := by decide +kernel
  have fl32 := hts (.fieldLink RX2 32 "NewsCow$Plan" "depths" "[I") (by decide +kernel)
  have hl := lv_entry ([.ref p_pl, .int x1, .int x2] : List Value) (n := 5) (Nat.le_of_ble_eq_true rfl)
  rw [lg_entry_eq]
  generalize (lg_sl ([.ref p_pl, .int x1, .int x2] : List Value) ++ List.replicate (5 - (lg_sl ([.ref p_pl, .int x1, .int x2] : List Value)).length) Slot.unset).toArray = ls at hl ⊢
  have hl : lv_has ls 5 [(0, .ref p_pl), (1, .int x1), (2, .int x2)] := hl
  unfold wp_X2_depthBehind at hw
  refine lv_iload_n hx hb dX2_depthBehind_0 rfl (lv_at hl 1 rfl) ?_
  refine lv_iload_n hx hb dX2_depthBehind_1 rfl (lv_at hl 2 rfl) ?_
  refine lv_iand hx hb dX2_depthBehind_2 ?_
  refine lv_istore_n (lv' := [(3, .int (x1 &&& x2)), (0, .ref p_pl), (1, .int x1), (2, .int x2)]) hx hb dX2_depthBehind_3 rfl hl (by decide) rfl (fun ls hl => ?_)
  refine lv_iload_n hx hb dX2_depthBehind_4 rfl (lv_at hl 2 rfl) ?_
  refine lv_iload_n hx hb dX2_depthBehind_5 rfl (lv_at hl 3 rfl) ?_
  refine lv_iconst (v := -1) hx hb dX2_depthBehind_6 (by decide) ?_
  refine lv_ixor hx hb dX2_depthBehind_7 ?_
  refine lv_iand hx hb dX2_depthBehind_8 ?_
  refine lv_istore (lv' := [(4, .int (x1 &&& (x2 ^^^ (-1 : Int32)))), (3, .int (x1 &&& x2)), (0, .ref p_pl), (1, .int x1), (2, .int x2)]) hx hb dX2_depthBehind_9 hl (by decide) rfl (fun ls hl => ?_)
  refine lv_iload_n hx hb dX2_depthBehind_11 rfl (lv_at hl 1 rfl) ?_
  refine lv_if_eq (tgt := 20) hx hb dX2_depthBehind_12 (by decide) (fun c9 => ?_) (fun c9 => ?_)
  · replace hw := hw.1 c9
    refine lv_bipush (v := 99) hx hb dX2_depthBehind_20 (by decide) ?_
    exact W.iret hx hb hr (fun t ht _ => ⟨_, rfl, hw, ht⟩) (fun _ h => absurd h List.not_mem_nil) dX2_depthBehind_22
  · replace hw := hw.2 c9
    refine lv_iload hx hb dX2_depthBehind_15 (lv_at hl 0 rfl) ?_
    refine lv_if_ne (tgt := 23) hx hb dX2_depthBehind_17 (by decide) (fun c9 => ?_) (fun c9 => ?_)
    · replace hw := hw.1 c9
      refine lv_bipush (v := 99) hx hb dX2_depthBehind_23 (by decide) ?_
      refine lv_iconst (v := 1) hx hb dX2_depthBehind_25 (by decide) ?_
      refine lv_aload_n hx hb dX2_depthBehind_26 rfl (lv_at hl 2 rfl) ?_
      refine va_get (D := D) (ci := 2) (v := .ref p_ade) (C := RX2) (T := TX2) (N := 9) hx hb hts inX2 hown hK hP 0 rfl rfl 6 (by decide) fl32 (fun _ h9 => h9) rfl dX2_depthBehind_27 ?_
      refine lv_iload_n hx hb dX2_depthBehind_30 rfl (lv_at hl 1 rfl) ?_
      refine x_iald (j := (x1 &&& x2).toNatClampNeg) hx hb hK hP 1 0 rfl rfl rfl hw.1 dX2_depthBehind_31 ?_
      replace hw := hw.2
      refine lv_aload_n hx hb dX2_depthBehind_32 rfl (lv_at hl 2 rfl) ?_
      refine va_get (D := D) (ci := 2) (v := .ref p_ade) (C := RX2) (T := TX2) (N := 9) hx hb hts inX2 hown hK hP 0 rfl rfl 6 (by decide) fl32 (fun _ h9 => h9) rfl dX2_depthBehind_33 ?_
      refine lv_iload hx hb dX2_depthBehind_36 (lv_at hl 0 rfl) ?_
      refine x_iald (j := (x1 &&& (x2 ^^^ (-1 : Int32))).toNatClampNeg) hx hb hK hP 1 0 rfl rfl rfl hw.1 dX2_depthBehind_38 ?_
      replace hw := hw.2
      refine va_mmax hx hb (hml.trans hl.1.symm) hown (hts (.methodLink RX2 91 Lib.Math.max.name) (by decide +kernel)) (hts (.static Lib.Math.max.name) (by decide +kernel)) (hts (.initialized "java/lang/Math") (by decide +kernel)) (hts (.code Lib.Math.max.name Lib.Math.max.code 2 (some .int)) (by decide +kernel)) (Nat.le_of_ble_eq_true rfl) (Nat.le_of_ble_eq_true rfl) (Nat.zero_le _) (Nat.zero_le _) dX2_depthBehind_39 ?_
      refine lv_iadd hx hb dX2_depthBehind_42 ?_
      refine va_mmin hx hb (hml.trans hl.1.symm) hown (hts (.methodLink RX2 78 Lib.Math.min.name) (by decide +kernel)) (hts (.static Lib.Math.min.name) (by decide +kernel)) (hts (.initialized "java/lang/Math") (by decide +kernel)) (hts (.code Lib.Math.min.name Lib.Math.min.code 2 (some .int)) (by decide +kernel)) (Nat.le_of_ble_eq_true rfl) (Nat.le_of_ble_eq_true rfl) (Nat.zero_le _) (Nat.zero_le _) dX2_depthBehind_43 ?_
      exact W.iret hx hb hr (fun t ht _ => ⟨_, rfl, hw, ht⟩) (fun _ h => absurd h List.not_mem_nil) dX2_depthBehind_46
    · replace hw := hw.2 c9
      refine lv_bipush (v := 99) hx hb dX2_depthBehind_20 (by decide) ?_
      exact W.iret hx hb hr (fun t ht _ => ⟨_, rfl, hw, ht⟩) (fun _ h => absurd h List.not_mem_nil) dX2_depthBehind_22
set_option maxHeartbeats 4000000 in
set_option maxRecDepth 100000 in
theorem c_X2_depthOf (l : Launch) (D : va_G) (G : Nat → ClassId) (p_pl : Nat) (p_ato : Nat) (p_acu : Nat) (p_aic : Nat) (p_ade : Nat) (p_mayBe : Int32) (p_lastMix : Int32) (p_cutCount : Int32) (p_lesser : Int32) (p_greater : Int32) (p_cuts : Nat → Int32) (p_depths : Nat → Int32) (x1 : Int32) (post : Int32 → Prop) (hw : wp_X2_depthOf p_cutCount p_cuts p_depths x1 post) : Met l yX2_depthOf wsX2_depthOf ({ frames := 2, cells := 0, slots := 0, locals := 45 } : Room) (va_Pc [.ref p_pl, .int x1] (xR D G [(p_pl, .inr (2, [.int p_mayBe, .int p_lastMix, .ref p_ato, .ref p_acu, .int p_cutCount, .ref p_aic, .ref p_ade, .int p_lesser, .int p_greater])), (p_acu, .inl (G 0, 256, .inl p_cuts)), (p_ade, .inl (G 0, 256, .inl p_depths))])) (vp_Si post) 0 0 (fun _ => False) := by
  refine Met.ofW (cc := cX2_depthOf) (maxL := 5) (ret := (some .int)) (by decide) rfl ?_
  intro p e s m args below meth c s₁ B hml hv
  obtain ⟨rfl, hP, hK⟩ := hv
  have hx := B.exec
  have hb := B.bytes
  have hr := B.returns
  have hts := atoms_spec (ws := wsX2_depthOf) B.pre
  have hown : s.vm.findClass RX2 = some m.cls := findClass_of_methodNamed B.named
  have hlocks := B.notSynchronized
  have inX2 : ∀ w ∈ wsX20, w ∈ wsX2_depthOf := by decide +kernel
  have fl25 := hts (.fieldLink RX2 25 "NewsCow$Plan" "cutCount" "I") (by decide +kernel)
  have fl22 := hts (.fieldLink RX2 22 "NewsCow$Plan" "cuts" "[I") (by decide +kernel)
  have hl := lv_entry ([.ref p_pl, .int x1] : List Value) (n := 5) (Nat.le_of_ble_eq_true rfl)
  rw [lg_entry_eq]
  generalize (lg_sl ([.ref p_pl, .int x1] : List Value) ++ List.replicate (5 - (lg_sl ([.ref p_pl, .int x1] : List Value)).length) Slot.unset).toArray = ls at hl ⊢
  have hl : lv_has ls 5 [(0, .ref p_pl), (1, .int x1)] := hl
  unfold wp_X2_depthOf at hw
  have L14 : ∀ (f14 : Nat) (x2 : Int32) (x3 : Int32) (x4 : Int32) (ls : Array Slot), wp_X2_depthOf_L14 p_cutCount p_cuts p_depths x1 x2 post f14 x3 x4 → lv_has ls 5 [(0, .ref p_pl), (1, .int x1), (2, .int x2), (3, .int x3), (4, .int x4)] → W p l e (headSpec wsX2_depthOf ({ frames := 2, cells := 0, slots := 0, locals := 45 } : Room)).room s m ([.ref p_pl, .int x1] : List Value).toArray below meth c s.heap [] 0 0 (MQ below (vp_Si post) ([.ref p_pl, .int x1] : List Value).toArray s 0 0 (fun _ => False)) (F0 m 14 ls []) := by
    intro f14
    induction f14 with
    | zero => intro x2 x3 x4 ls hw hl; exact (hw : False).elim
    | succ f14 ih14 =>
      intro x2 x3 x4 ls hw hl
      unfold wp_X2_depthOf_L14 at hw
      refine lv_iload hx hb dX2_depthOf_14 (lv_at hl 4 rfl) ?_
      refine lv_aload_n hx hb dX2_depthOf_16 rfl (lv_at hl 0 rfl) ?_
      refine va_get (D := D) (ci := 2) (v := .int p_cutCount) (C := RX2) (T := TX2) (N := 9) hx hb hts inX2 hown hK hP 0 rfl rfl 4 (by decide) fl25 (fun _ h9 => h9) rfl dX2_depthOf_17 ?_
      refine lv_icmp_ge (tgt := 51) hx hb dX2_depthOf_20 (by decide) (fun c9 => ?_) (fun c9 => ?_)
      · replace hw := hw.1 c9
        refine lv_iload_n hx hb dX2_depthOf_51 rfl (lv_at hl 3 rfl) ?_
        exact W.iret hx hb hr (fun t ht _ => ⟨_, rfl, hw, ht⟩) (fun _ h => absurd h List.not_mem_nil) dX2_depthOf_52
      · replace hw := hw.2 c9
        refine lv_iload_n hx hb dX2_depthOf_23 rfl (lv_at hl 3 rfl) ?_
        refine lv_iload_n hx hb dX2_depthOf_24 rfl (lv_at hl 2 rfl) ?_
        refine lv_icmp_le (tgt := 51) hx hb dX2_depthOf_25 (by decide) (fun c9 => ?_) (fun c9 => ?_)
        · replace hw := hw.1 c9
          refine lv_iload_n hx hb dX2_depthOf_51 rfl (lv_at hl 3 rfl) ?_
          exact W.iret hx hb hr (fun t ht _ => ⟨_, rfl, hw, ht⟩) (fun _ h => absurd h List.not_mem_nil) dX2_depthOf_52
        · replace hw := hw.2 c9
          refine lv_iload_n hx hb dX2_depthOf_28 rfl (lv_at hl 3 rfl) ?_
          refine lv_aload_n hx hb dX2_depthOf_29 rfl (lv_at hl 0 rfl) ?_
          refine lv_iload_n hx hb dX2_depthOf_30 rfl (lv_at hl 1 rfl) ?_
          refine lv_aload_n hx hb dX2_depthOf_31 rfl (lv_at hl 0 rfl) ?_
          refine va_get (D := D) (ci := 2) (v := .ref p_acu) (C := RX2) (T := TX2) (N := 9) hx hb hts inX2 hown hK hP 0 rfl rfl 3 (by decide) fl22 (fun _ h9 => h9) rfl dX2_depthOf_32 ?_
          refine lv_iload hx hb dX2_depthOf_35 (lv_at hl 4 rfl) ?_
          refine x_iald (j := x4.toNatClampNeg) hx hb hK hP 1 0 rfl rfl rfl hw.1 dX2_depthOf_37 ?_
          replace hw := hw.2
          refine vp_callSi (W.runV (As := [.int x1, .int (p_cuts x4.toNatClampNeg)]) (rest := [.int x3]) ⟨hx, hb, hml, hown, hts⟩ (c_X2_depthBehind l D G p_pl p_ato p_acu p_aic p_ade p_mayBe p_lastMix p_cutCount p_lesser p_greater p_depths x1 (p_cuts x4.toNatClampNeg) _ hw) (cwV 2 hts gX2_depthOf_X2_depthBehind rfl rfl rfl (by decide +kernel) ⟨(Nat.le_of_ble_eq_true rfl), (Nat.le_of_ble_eq_true rfl)⟩) (xR_pv (hP.sub [0, 2] rfl) hK (va_recv hK hP (ci := 2) (q0 := 0) rfl rfl)) rfl rfl hl.1 rfl (lv_room (Nat.le_of_ble_eq_true rfl)) dX2_depthOf_38 ⟨Nat.zero_le _, Nat.zero_le _⟩) (fun r3 hw => ?_)
          refine va_mmin hx hb (hml.trans hl.1.symm) hown (hts (.methodLink RX2 78 Lib.Math.min.name) (by decide +kernel)) (hts (.static Lib.Math.min.name) (by decide +kernel)) (hts (.initialized "java/lang/Math") (by decide +kernel)) (hts (.code Lib.Math.min.name Lib.Math.min.code 2 (some .int)) (by decide +kernel)) (Nat.le_of_ble_eq_true rfl) (Nat.le_of_ble_eq_true rfl) (Nat.zero_le _) (Nat.zero_le _) dX2_depthOf_41 ?_
          refine lv_istore_n (lv' := [(3, .int (if r3 < x3 then r3 else x3)), (0, .ref p_pl), (1, .int x1), (2, .int x2), (4, .int x4)]) hx hb dX2_depthOf_44 rfl hl (by decide) rfl (fun ls hl => ?_)
          refine lv_iinc (v := (x4 + 1)) (lv' := [(4, .int (x4 + 1)), (3, .int (if r3 < x3 then r3 else x3)), (0, .ref p_pl), (1, .int x1), (2, .int x2)]) hx hb dX2_depthOf_45 hl (k := 4) rfl (by first | rfl | decide) (by decide) rfl (fun ls hl => ?_)
          refine lv_goto (tgt := 14) hx hb dX2_depthOf_48 (by decide) ?_
          exact ih14 x2 (if r3 < x3 then r3 else x3) (x4 + 1) _ hw (lv_sub hl [2, 3, 4, 1, 0] rfl)
  refine lv_iload_n hx hb dX2_depthOf_0 rfl (lv_at hl 1 rfl) ?_
  refine vp_callSi (W.runS (As := [.int x1]) (rest := []) ⟨hx, hb, hml, hown, hts⟩ (c_J6_bitCount_0f7a4 l D G x1 _ hw) (va_cwS 1 hts gX2_depthOf_J6_bitCount_0f7a4 rfl rfl rfl (by decide +kernel) ⟨(Nat.le_of_ble_eq_true rfl), (Nat.le_of_ble_eq_true rfl)⟩) (xR_ps (hP.sub [] rfl) hK) rfl rfl hl.1 rfl (lv_room (Nat.le_of_ble_eq_true rfl)) dX2_depthOf_1 ⟨Nat.zero_le _, Nat.zero_le _⟩) (fun r1 hw => ?_)
  refine vp_callSi (W.runS (As := [.int r1]) (rest := []) ⟨hx, hb, hml, hown, hts⟩ (c_X2_leastThinkable l D G r1 _ hw) (va_cwS 1 hts gX2_depthOf_X2_leastThinkable rfl rfl rfl (by decide +kernel) ⟨(Nat.le_of_ble_eq_true rfl), (Nat.le_of_ble_eq_true rfl)⟩) (xR_ps (hP.sub [] rfl) hK) rfl rfl hl.1 rfl (lv_room (Nat.le_of_ble_eq_true rfl)) dX2_depthOf_4 ⟨Nat.zero_le _, Nat.zero_le _⟩) (fun r2 hw => ?_)
  refine lv_istore_n (lv' := [(2, .int r2), (0, .ref p_pl), (1, .int x1)]) hx hb dX2_depthOf_7 rfl hl (by decide) rfl (fun ls hl => ?_)
  refine lv_bipush (v := 99) hx hb dX2_depthOf_8 (by decide) ?_
  refine lv_istore_n (lv' := [(3, .int (99 : Int32)), (2, .int r2), (0, .ref p_pl), (1, .int x1)]) hx hb dX2_depthOf_10 rfl hl (by decide) rfl (fun ls hl => ?_)
  refine lv_iconst (v := 0) hx hb dX2_depthOf_11 (by decide) ?_
  refine lv_istore (lv' := [(4, .int (0 : Int32)), (3, .int (99 : Int32)), (2, .int r2), (0, .ref p_pl), (1, .int x1)]) hx hb dX2_depthOf_12 hl (by decide) rfl (fun ls hl => ?_)
  obtain ⟨n, hw⟩ := hw
  exact L14 n r2 (99 : Int32) (0 : Int32) _ hw (lv_sub hl [3, 4, 2, 1, 0] rfl)
set_option maxHeartbeats 4000000 in
set_option maxRecDepth 100000 in
theorem c_X2_findDepths (l : Launch) (D : va_G) (G : Nat → ClassId) (sz : Nat) (p_pl : Nat) (p_ato : Nat) (p_acu : Nat) (p_aic : Nat) (p_ade : Nat) (p_mayBe : Int32) (p_lastMix : Int32) (p_cutCount : Int32) (p_lesser : Int32) (p_greater : Int32) (p_told : Nat → Int32) (p_cuts : Nat → Int32) (p_isCut : Nat → Int32) (p_depths : Nat → Int32) (post : Int32 → (Nat → Int32) → (Nat → Int32) → (Nat → Int32) → Prop) (hw : wp_X2_findDepths p_mayBe p_lastMix p_told p_cuts p_isCut p_depths post) : Met l yX2_findDepths wsX2_findDepths ({ frames := 3, cells := 0, slots := 0, locals := 69 } : Room) (va_Pc [.ref p_pl] (xM D G sz [(p_pl, .inr (2, [.int p_mayBe, .int p_lastMix, .ref p_ato, .ref p_acu, .int p_cutCount, .ref p_aic, .ref p_ade, .int p_lesser, .int p_greater])), (p_ato, .inl (G 0, 256, .inl p_told)), (p_acu, .inl (G 0, 256, .inl p_cuts)), (p_aic, .inl (G 2, 256, .inl p_isCut)), (p_ade, .inl (G 0, 256, .inl p_depths))])) (va_Qv (fun (u : Int32 × (Nat → Int32) × (Nat → Int32) × (Nat → Int32)) => post u.1 u.2.1 u.2.2.1 u.2.2.2) (fun u t => xE D G (va_A [(p_pl, .inr (2, [.int p_mayBe, .int p_lastMix, .ref p_ato, .ref p_acu, .int p_cutCount, .ref p_aic, .ref p_ade, .int p_lesser, .int p_greater])), (p_ato, .inl (G 0, 256, .inl p_told)), (p_acu, .inl (G 0, 256, .inl p_cuts)), (p_aic, .inl (G 2, 256, .inl p_isCut)), (p_ade, .inl (G 0, 256, .inl p_depths))] sz) [(p_pl, .inr (2, [.int p_mayBe, .int p_lastMix, .ref p_ato, .ref p_acu, .int u.1, .ref p_aic, .ref p_ade, .int p_lesser, .int p_greater])), (p_ato, .inl (G 0, 256, .inl p_told)), (p_acu, .inl (G 0, 256, .inl (u.2.1))), (p_aic, .inl (G 2, 256, .inl (u.2.2.1))), (p_ade, .inl (G 0, 256, .inl (u.2.2.2)))] t) (va_A [(p_pl, .inr (2, [.int p_mayBe, .int p_lastMix, .ref p_ato, .ref p_acu, .int p_cutCount, .ref p_aic, .ref p_ade, .int p_lesser, .int p_greater])), (p_ato, .inl (G 0, 256, .inl p_told)), (p_acu, .inl (G 0, 256, .inl p_cuts)), (p_aic, .inl (G 2, 256, .inl p_isCut)), (p_ade, .inl (G 0, 256, .inl p_depths))] sz)) 0 0 (va_A [(p_pl, .inr (2, [.int p_mayBe, .int p_lastMix, .ref p_ato, .ref p_acu, .int p_cutCount, .ref p_aic, .ref p_ade, .int p_lesser, .int p_greater])), (p_ato, .inl (G 0, 256, .inl p_told)), (p_acu, .inl (G 0, 256, .inl p_cuts)), (p_aic, .inl (G 2, 256, .inl p_isCut)), (p_ade, .inl (G 0, 256, .inl p_depths))] sz) := by
  refine Met.ofW (cc := cX2_findDepths) (maxL := 2) (ret := none) (by decide) rfl ?_
  intro p e s m args below meth c s₁ B hml hv
  obtain ⟨rfl, hsz, hP, hK, hD0⟩ := hv
  have hx := B.exec
  have hb := B.bytes
  have hr := B.returns
  have hts := atoms_spec (ws := wsX2_findDepths) B.pre
  have hown : s.vm.findClass RX2 = some m.cls := findClass_of_methodNamed B.named
  have hlocks := B.notSynchronized
  subst hsz
  have hD := hD0.self (sz := s.heap.size)
  generalize hAe : va_A [(p_pl, .inr (2, [.int p_mayBe, .int p_lastMix, .ref p_ato, .ref p_acu, .int p_cutCount, .ref p_aic, .ref p_ade, .int p_lesser, .int p_greater])), (p_ato, .inl (G 0, 256, .inl p_told)), (p_acu, .inl (G 0, 256, .inl p_cuts)), (p_aic, .inl (G 2, 256, .inl p_isCut)), (p_ade, .inl (G 0, 256, .inl p_depths))] s.heap.size = A at hD ⊢
  have hA : ∀ q : Nat, s.heap.size ≤ q → A q := fun q h => by rw [← hAe]; exact Or.inr h
  have hS : va_S A s.heap s.heap [] := va_S.rf
  have inX2 : ∀ w ∈ wsX20, w ∈ wsX2_findDepths := by decide +kernel
  have fl9 := hts (.fieldLink RX2 9 "NewsCow$Plan" "mayBe" "I") (by decide +kernel)
  have fl32 := hts (.fieldLink RX2 32 "NewsCow$Plan" "depths" "[I") (by decide +kernel)
  have hl := lv_entry ([.ref p_pl] : List Value) (n := 2) (Nat.le_of_ble_eq_true rfl)
  rw [lg_entry_eq]
  generalize (lg_sl ([.ref p_pl] : List Value) ++ List.replicate (2 - (lg_sl ([.ref p_pl] : List Value)).length) Slot.unset).toArray = ls at hl ⊢
  have hl : lv_has ls 2 [(0, .ref p_pl)] := hl
  unfold wp_X2_findDepths at hw
  have L6 : ∀ (f6 : Nat) (x1 : Int32) (p_cutCount : Int32) (p_cuts : Nat → Int32) (p_isCut : Nat → Int32) (p_depths : Nat → Int32) (H : Heap) (locs : List Loc) (ls : Array Slot), wp_X2_findDepths_L6 p_mayBe p_cutCount p_cuts p_isCut post f6 p_depths x1 → va_P D vwCl [(p_pl, .inr (2, [.int p_mayBe, .int p_lastMix, .ref p_ato, .ref p_acu, .int p_cutCount, .ref p_aic, .ref p_ade, .int p_lesser, .int p_greater])), (p_ato, .inl (G 0, 256, .inl p_told)), (p_acu, .inl (G 0, 256, .inl p_cuts)), (p_aic, .inl (G 2, 256, .inl p_isCut)), (p_ade, .inl (G 0, 256, .inl p_depths))] H → va_D A [(p_pl, .inr (2, [.int p_mayBe, .int p_lastMix, .ref p_ato, .ref p_acu, .int p_cutCount, .ref p_aic, .ref p_ade, .int p_lesser, .int p_greater])), (p_ato, .inl (G 0, 256, .inl p_told)), (p_acu, .inl (G 0, 256, .inl p_cuts)), (p_aic, .inl (G 2, 256, .inl p_isCut)), (p_ade, .inl (G 0, 256, .inl p_depths))] → va_S A s.heap H locs → lv_has ls 2 [(0, .ref p_pl), (1, .int x1)] → W p l e (headSpec wsX2_findDepths ({ frames := 3, cells := 0, slots := 0, locals := 69 } : Room)).room s m ([.ref p_pl] : List Value).toArray below meth c H locs 0 0 (MQ below (va_Qv (fun (u : Int32 × (Nat → Int32) × (Nat → Int32) × (Nat → Int32)) => post u.1 u.2.1 u.2.2.1 u.2.2.2) (fun u t => xE D G A [(p_pl, .inr (2, [.int p_mayBe, .int p_lastMix, .ref p_ato, .ref p_acu, .int u.1, .ref p_aic, .ref p_ade, .int p_lesser, .int p_greater])), (p_ato, .inl (G 0, 256, .inl p_told)), (p_acu, .inl (G 0, 256, .inl (u.2.1))), (p_aic, .inl (G 2, 256, .inl (u.2.2.1))), (p_ade, .inl (G 0, 256, .inl (u.2.2.2)))] t) A) ([.ref p_pl] : List Value).toArray s 0 0 A) (F0 m 6 ls []) := by
    intro f6
    induction f6 with
    | zero => intro x1 p_cutCount p_cuts p_isCut p_depths H locs ls hw hP hD hS hl; exact (hw : False).elim
    | succ f6 ih6 =>
      intro x1 p_cutCount p_cuts p_isCut p_depths H locs ls hw hP hD hS hl
      unfold wp_X2_findDepths_L6 at hw
      refine lv_iload_n hx hb dX2_findDepths_6 rfl (lv_at hl 1 rfl) ?_
      refine lv_aload_n hx hb dX2_findDepths_7 rfl (lv_at hl 0 rfl) ?_
      refine va_get (D := D) (ci := 2) (v := .int p_mayBe) (C := RX2) (T := TX2) (N := 9) hx hb hts inX2 hown hK hP 0 rfl rfl 0 (by decide) fl9 (fun _ h9 => h9) rfl dX2_findDepths_8 ?_
      refine lv_icmp_gt (tgt := 53) hx hb dX2_findDepths_11 (by decide) (fun c9 => ?_) (fun c9 => ?_)
      · replace hw := hw.1 c9
        exact W.vret hx hb hr (x_mv (u := (p_cutCount, p_cuts, p_isCut, p_depths)) hP hK hD hS hw) hS.2.2 dX2_findDepths_53
      · replace hw := hw.2 c9
        refine lv_iload_n hx hb dX2_findDepths_14 rfl (lv_at hl 1 rfl) ?_
        refine lv_aload_n hx hb dX2_findDepths_15 rfl (lv_at hl 0 rfl) ?_
        refine va_get (D := D) (ci := 2) (v := .int p_mayBe) (C := RX2) (T := TX2) (N := 9) hx hb hts inX2 hown hK hP 0 rfl rfl 0 (by decide) fl9 (fun _ h9 => h9) rfl dX2_findDepths_16 ?_
        refine lv_iconst (v := -1) hx hb dX2_findDepths_19 (by decide) ?_
        refine lv_ixor hx hb dX2_findDepths_20 ?_
        refine lv_iand hx hb dX2_findDepths_21 ?_
        refine lv_if_ne (tgt := 47) hx hb dX2_findDepths_22 (by decide) (fun c9 => ?_) (fun c9 => ?_)
        · replace hw := hw.1 c9
          refine lv_iinc (v := (x1 + 1)) (lv' := [(1, .int (x1 + 1)), (0, .ref p_pl)]) hx hb dX2_findDepths_47 hl (k := 1) rfl (by first | rfl | decide) (by decide) rfl (fun ls hl => ?_)
          refine lv_goto (tgt := 6) hx hb dX2_findDepths_50 (by decide) ?_
          exact ih6 (x1 + 1) p_cutCount p_cuts p_isCut p_depths _ _ _ hw hP hD hS (lv_sub hl [1, 0] rfl)
        · replace hw := hw.2 c9
          refine lv_aload_n hx hb dX2_findDepths_25 rfl (lv_at hl 0 rfl) ?_
          refine va_get (D := D) (ci := 2) (v := .ref p_ade) (C := RX2) (T := TX2) (N := 9) hx hb hts inX2 hown hK hP 0 rfl rfl 6 (by decide) fl32 (fun _ h9 => h9) rfl dX2_findDepths_26 ?_
          refine lv_iload_n hx hb dX2_findDepths_29 rfl (lv_at hl 1 rfl) ?_
          refine lv_iload_n hx hb dX2_findDepths_30 rfl (lv_at hl 1 rfl) ?_
          refine vp_callSi (W.runS (As := [.int x1]) (rest := [.int x1, .ref p_ade]) ⟨hx, hb, hml, hown, hts⟩ (c_X2_isOneAtMost l D G x1 _ hw) (va_cwS 1 hts gX2_findDepths_X2_isOneAtMost rfl rfl rfl (by decide +kernel) ⟨(Nat.le_of_ble_eq_true rfl), (Nat.le_of_ble_eq_true rfl)⟩) (xR_ps (hP.sub [] rfl) hK) rfl rfl hl.1 rfl (lv_room (Nat.le_of_ble_eq_true rfl)) dX2_findDepths_31 ⟨Nat.zero_le _, Nat.zero_le _⟩) (fun r2 hw => ?_)
          refine lv_if_eq (tgt := 41) hx hb dX2_findDepths_34 (by decide) (fun c9 => ?_) (fun c9 => ?_)
          · replace hw := hw.1 c9
            refine lv_aload_n hx hb dX2_findDepths_41 rfl (lv_at hl 0 rfl) ?_
            refine lv_iload_n hx hb dX2_findDepths_42 rfl (lv_at hl 1 rfl) ?_
            refine vp_callSi (W.runV (As := [.int x1]) (rest := [.int x1, .ref p_ade]) ⟨hx, hb, hml, hown, hts⟩ (c_X2_depthOf l D G p_pl p_ato p_acu p_aic p_ade p_mayBe p_lastMix p_cutCount p_lesser p_greater p_cuts p_depths x1 _ hw) (cwV 1 hts gX2_findDepths_X2_depthOf rfl rfl rfl (by decide +kernel) ⟨(Nat.le_of_ble_eq_true rfl), (Nat.le_of_ble_eq_true rfl)⟩) (xR_pv (hP.sub [0, 2, 4] rfl) hK (va_recv hK hP (ci := 2) (q0 := 0) rfl rfl)) rfl rfl hl.1 rfl (lv_room (Nat.le_of_ble_eq_true rfl)) dX2_findDepths_43 ⟨Nat.zero_le _, Nat.zero_le _⟩) (fun r3 hw => ?_)
            refine x_iast (j := x1.toNatClampNeg) hx hb hK hP hD hS 4 0 rfl rfl rfl hw.1 dX2_findDepths_46 (fun H locs hP hD hS => ?_)
            replace hw := hw.2
            replace hP : va_P D vwCl [(p_pl, .inr (2, [.int p_mayBe, .int p_lastMix, .ref p_ato, .ref p_acu, .int p_cutCount, .ref p_aic, .ref p_ade, .int p_lesser, .int p_greater])), (p_ato, .inl (G 0, 256, .inl p_told)), (p_acu, .inl (G 0, 256, .inl p_cuts)), (p_aic, .inl (G 2, 256, .inl p_isCut)), (p_ade, .inl (G 0, 256, .inl (upd p_depths x1.toNatClampNeg r3)))] H := hP
            replace hD : va_D A [(p_pl, .inr (2, [.int p_mayBe, .int p_lastMix, .ref p_ato, .ref p_acu, .int p_cutCount, .ref p_aic, .ref p_ade, .int p_lesser, .int p_greater])), (p_ato, .inl (G 0, 256, .inl p_told)), (p_acu, .inl (G 0, 256, .inl p_cuts)), (p_aic, .inl (G 2, 256, .inl p_isCut)), (p_ade, .inl (G 0, 256, .inl (upd p_depths x1.toNatClampNeg r3)))] := hD
            refine lv_iinc (v := (x1 + 1)) (lv' := [(1, .int (x1 + 1)), (0, .ref p_pl)]) hx hb dX2_findDepths_47 hl (k := 1) rfl (by first | rfl | decide) (by decide) rfl (fun ls hl => ?_)
            refine lv_goto (tgt := 6) hx hb dX2_findDepths_50 (by decide) ?_
            exact ih6 (x1 + 1) p_cutCount p_cuts p_isCut (upd p_depths x1.toNatClampNeg r3) _ _ _ hw hP hD hS (lv_sub hl [1, 0] rfl)
          · replace hw := hw.2 c9
            refine lv_iconst (v := 0) hx hb dX2_findDepths_37 (by decide) ?_
            refine lv_goto (tgt := 46) hx hb dX2_findDepths_38 (by decide) ?_
            refine x_iast (j := x1.toNatClampNeg) hx hb hK hP hD hS 4 0 rfl rfl rfl hw.1 dX2_findDepths_46 (fun H locs hP hD hS => ?_)
            replace hw := hw.2
            replace hP : va_P D vwCl [(p_pl, .inr (2, [.int p_mayBe, .int p_lastMix, .ref p_ato, .ref p_acu, .int p_cutCount, .ref p_aic, .ref p_ade, .int p_lesser, .int p_greater])), (p_ato, .inl (G 0, 256, .inl p_told)), (p_acu, .inl (G 0, 256, .inl p_cuts)), (p_aic, .inl (G 2, 256, .inl p_isCut)), (p_ade, .inl (G 0, 256, .inl (upd p_depths x1.toNatClampNeg (0 : Int32))))] H := hP
            replace hD : va_D A [(p_pl, .inr (2, [.int p_mayBe, .int p_lastMix, .ref p_ato, .ref p_acu, .int p_cutCount, .ref p_aic, .ref p_ade, .int p_lesser, .int p_greater])), (p_ato, .inl (G 0, 256, .inl p_told)), (p_acu, .inl (G 0, 256, .inl p_cuts)), (p_aic, .inl (G 2, 256, .inl p_isCut)), (p_ade, .inl (G 0, 256, .inl (upd p_depths x1.toNatClampNeg (0 : Int32))))] := hD
            refine lv_iinc (v := (x1 + 1)) (lv' := [(1, .int (x1 + 1)), (0, .ref p_pl)]) hx hb dX2_findDepths_47 hl (k := 1) rfl (by first | rfl | decide) (by decide) rfl (fun ls hl => ?_)
            refine lv_goto (tgt := 6) hx hb dX2_findDepths_50 (by decide) ?_
            exact ih6 (x1 + 1) p_cutCount p_cuts p_isCut (upd p_depths x1.toNatClampNeg (0 : Int32)) _ _ _ hw hP hD hS (lv_sub hl [1, 0] rfl)
  refine lv_aload_n hx hb dX2_findDepths_0 rfl (lv_at hl 0 rfl) ?_
  refine x_cMv (wr := [(p_ade, .inl (G 0, 256, .inl p_depths))]) (va_runV (As := []) (rest := []) ⟨hx, hb, hml, hown, hts⟩ (c_X2_findCuts l D G _ p_pl p_ato p_acu p_aic p_ade p_mayBe p_lastMix p_cutCount p_lesser p_greater p_told p_cuts p_isCut _ hw) (cwV 0 hts gX2_findDepths_X2_findCuts rfl rfl rfl (by decide +kernel) ⟨(Nat.le_of_ble_eq_true rfl), (Nat.le_of_ble_eq_true rfl)⟩) (xM_pv (hP.sub [0, 1, 2, 3] rfl) hK (hD.sub [0, 1, 2, 3] (by decide) rfl) (va_recv hK hP (ci := 2) (q0 := 0) rfl rfl)) rfl rfl hl.1 rfl (lv_room (Nat.le_of_ble_eq_true rfl)) dX2_findDepths_1 ⟨Nat.zero_le _, Nat.zero_le _⟩) hP hD hS hA [0, 1, 2, 3] [4] rfl rfl (by decide) (by decide) [1, 2, 3, 4, 0] (fun u => [(p_pl, .inr (2, [.int p_mayBe, .int p_lastMix, .ref p_ato, .ref p_acu, .int u.1, .ref p_aic, .ref p_ade, .int p_lesser, .int p_greater])), (p_ato, .inl (G 0, 256, .inl p_told)), (p_acu, .inl (G 0, 256, .inl (u.2.1))), (p_aic, .inl (G 2, 256, .inl (u.2.2))), (p_ade, .inl (G 0, 256, .inl p_depths))]) (by decide) (fun u => rfl) (fun u H locs hw hP hD hS => ?_)
  obtain ⟨p_cutCount_1, p_cuts_1, p_isCut_1⟩ := u
  try dsimp only at hw
  replace hP : va_P D vwCl [(p_pl, .inr (2, [.int p_mayBe, .int p_lastMix, .ref p_ato, .ref p_acu, .int p_cutCount_1, .ref p_aic, .ref p_ade, .int p_lesser, .int p_greater])), (p_ato, .inl (G 0, 256, .inl p_told)), (p_acu, .inl (G 0, 256, .inl p_cuts_1)), (p_aic, .inl (G 2, 256, .inl p_isCut_1)), (p_ade, .inl (G 0, 256, .inl p_depths))] H := hP
  replace hD : va_D A [(p_pl, .inr (2, [.int p_mayBe, .int p_lastMix, .ref p_ato, .ref p_acu, .int p_cutCount_1, .ref p_aic, .ref p_ade, .int p_lesser, .int p_greater])), (p_ato, .inl (G 0, 256, .inl p_told)), (p_acu, .inl (G 0, 256, .inl p_cuts_1)), (p_aic, .inl (G 2, 256, .inl p_isCut_1)), (p_ade, .inl (G 0, 256, .inl p_depths))] := hD
  refine lv_iconst (v := 0) hx hb dX2_findDepths_4 (by decide) ?_
  refine lv_istore_n (lv' := [(1, .int (0 : Int32)), (0, .ref p_pl)]) hx hb dX2_findDepths_5 rfl hl (by decide) rfl (fun ls hl => ?_)
  obtain ⟨n, hw⟩ := hw
  exact L6 n (0 : Int32) p_cutCount_1 p_cuts_1 p_isCut_1 p_depths _ _ _ hw hP hD hS (lv_sub hl [1, 0] rfl)
set_option maxHeartbeats 4000000 in
set_option maxRecDepth 100000 in
theorem c_X2_fewestMixes (l : Launch) (D : va_G) (G : Nat → ClassId) (sz : Nat) (p_pl : Nat) (p_ato : Nat) (p_acu : Nat) (p_aic : Nat) (p_ade : Nat) (p_mayBe : Int32) (p_lastMix : Int32) (p_cutCount : Int32) (p_lesser : Int32) (p_greater : Int32) (p_told : Nat → Int32) (p_cuts : Nat → Int32) (p_isCut : Nat → Int32) (p_depths : Nat → Int32) (post : Int32 → Int32 → (Nat → Int32) → (Nat → Int32) → (Nat → Int32) → Prop) (hw : wp_X2_fewestMixes p_mayBe p_lastMix p_told p_cuts p_isCut p_depths post) : Met l yX2_fewestMixes wsX2_fewestMixes ({ frames := 4, cells := 0, slots := 0, locals := 90 } : Room) (va_Pc [.ref p_pl] (xM D G sz [(p_pl, .inr (2, [.int p_mayBe, .int p_lastMix, .ref p_ato, .ref p_acu, .int p_cutCount, .ref p_aic, .ref p_ade, .int p_lesser, .int p_greater])), (p_ato, .inl (G 0, 256, .inl p_told)), (p_acu, .inl (G 0, 256, .inl p_cuts)), (p_aic, .inl (G 2, 256, .inl p_isCut)), (p_ade, .inl (G 0, 256, .inl p_depths))])) (va_Qi (fun r (u : Int32 × (Nat → Int32) × (Nat → Int32) × (Nat → Int32)) => post r u.1 u.2.1 u.2.2.1 u.2.2.2) (fun u t => xE D G (va_A [(p_pl, .inr (2, [.int p_mayBe, .int p_lastMix, .ref p_ato, .ref p_acu, .int p_cutCount, .ref p_aic, .ref p_ade, .int p_lesser, .int p_greater])), (p_ato, .inl (G 0, 256, .inl p_told)), (p_acu, .inl (G 0, 256, .inl p_cuts)), (p_aic, .inl (G 2, 256, .inl p_isCut)), (p_ade, .inl (G 0, 256, .inl p_depths))] sz) [(p_pl, .inr (2, [.int p_mayBe, .int p_lastMix, .ref p_ato, .ref p_acu, .int u.1, .ref p_aic, .ref p_ade, .int p_lesser, .int p_greater])), (p_ato, .inl (G 0, 256, .inl p_told)), (p_acu, .inl (G 0, 256, .inl (u.2.1))), (p_aic, .inl (G 2, 256, .inl (u.2.2.1))), (p_ade, .inl (G 0, 256, .inl (u.2.2.2)))] t) (va_A [(p_pl, .inr (2, [.int p_mayBe, .int p_lastMix, .ref p_ato, .ref p_acu, .int p_cutCount, .ref p_aic, .ref p_ade, .int p_lesser, .int p_greater])), (p_ato, .inl (G 0, 256, .inl p_told)), (p_acu, .inl (G 0, 256, .inl p_cuts)), (p_aic, .inl (G 2, 256, .inl p_isCut)), (p_ade, .inl (G 0, 256, .inl p_depths))] sz)) 0 0 (va_A [(p_pl, .inr (2, [.int p_mayBe, .int p_lastMix, .ref p_ato, .ref p_acu, .int p_cutCount, .ref p_aic, .ref p_ade, .int p_lesser, .int p_greater])), (p_ato, .inl (G 0, 256, .inl p_told)), (p_acu, .inl (G 0, 256, .inl p_cuts)), (p_aic, .inl (G 2, 256, .inl p_isCut)), (p_ade, .inl (G 0, 256, .inl p_depths))] sz) := by
  refine Met.ofW (cc := cX2_fewestMixes) (maxL := 1) (ret := (some .int)) (by decide) rfl ?_
  intro p e s m args below meth c s₁ B hml hv
  obtain ⟨rfl, hsz, hP, hK, hD0⟩ := hv
  have hx := B.exec
  have hb := B.bytes
  have hr := B.returns
  have hts := atoms_spec (ws := wsX2_fewestMixes) B.pre
  have hown : s.vm.findClass RX2 = some m.cls := findClass_of_methodNamed B.named
  have hlocks := B.notSynchronized
  subst hsz
  have hD := hD0.self (sz := s.heap.size)
  generalize hAe : va_A [(p_pl, .inr (2, [.int p_mayBe, .int p_lastMix, .ref p_ato, .ref p_acu, .int p_cutCount, .ref p_aic, .ref p_ade, .int p_lesser, .int p_greater])), (p_ato, .inl (G 0, 256, .inl p_told)), (p_acu, .inl (G 0, 256, .inl p_cuts)), (p_aic, .inl (G 2, 256, .inl p_isCut)), (p_ade, .inl (G 0, 256, .inl p_depths))] s.heap.size = A at hD ⊢
  have hA : ∀ q : Nat, s.heap.size ≤ q → A q := fun q h => by rw [← hAe]; exact Or.inr h
  have hS : va_S A s.heap s.heap [] := va_S.rf
  have inX2 : ∀ w ∈ wsX20, w ∈ wsX2_fewestMixes := by decide +kernel
  have fl32 := hts (.fieldLink RX2 32 "NewsCow$Plan" "depths" "[I") (by decide +kernel)
  have fl9 := hts (.fieldLink RX2 9 "NewsCow$Plan" "mayBe" "I") (by decide +kernel)
  have hl := lv_entry ([.ref p_pl] : List Value) (n := 1) (Nat.le_of_ble_eq_true rfl)
  rw [lg_entry_eq]
  generalize (lg_sl ([.ref p_pl] : List Value) ++ List.replicate (1 - (lg_sl ([.ref p_pl] : List Value)).length) Slot.unset).toArray = ls at hl ⊢
  have hl : lv_has ls 1 [(0, .ref p_pl)] := hl
  unfold wp_X2_fewestMixes at hw
  refine lv_aload_n hx hb dX2_fewestMixes_0 rfl (lv_at hl 0 rfl) ?_
  refine x_cMv (wr := []) (va_runV (As := []) (rest := []) ⟨hx, hb, hml, hown, hts⟩ (c_X2_findDepths l D G _ p_pl p_ato p_acu p_aic p_ade p_mayBe p_lastMix p_cutCount p_lesser p_greater p_told p_cuts p_isCut p_depths _ hw) (cwV 0 hts gX2_fewestMixes_X2_findDepths rfl rfl rfl (by decide +kernel) ⟨(Nat.le_of_ble_eq_true rfl), (Nat.le_of_ble_eq_true rfl)⟩) (xM_pv (hP.sub [0, 1, 2, 3, 4] rfl) hK (hD.sub [0, 1, 2, 3, 4] (by decide) rfl) (va_recv hK hP (ci := 2) (q0 := 0) rfl rfl)) rfl rfl hl.1 rfl (lv_room (Nat.le_of_ble_eq_true rfl)) dX2_fewestMixes_1 ⟨Nat.zero_le _, Nat.zero_le _⟩) hP hD hS hA [0, 1, 2, 3, 4] [] rfl rfl (by decide) (by decide) [0, 1, 2, 3, 4] (fun u => [(p_pl, .inr (2, [.int p_mayBe, .int p_lastMix, .ref p_ato, .ref p_acu, .int u.1, .ref p_aic, .ref p_ade, .int p_lesser, .int p_greater])), (p_ato, .inl (G 0, 256, .inl p_told)), (p_acu, .inl (G 0, 256, .inl (u.2.1))), (p_aic, .inl (G 2, 256, .inl (u.2.2.1))), (p_ade, .inl (G 0, 256, .inl (u.2.2.2)))]) (by decide) (fun u => rfl) (fun u H locs hw hP hD hS => ?_)
  obtain ⟨p_cutCount_1, p_cuts_1, p_isCut_1, p_depths_1⟩ := u
  try dsimp only at hw
  replace hP : va_P D vwCl [(p_pl, .inr (2, [.int p_mayBe, .int p_lastMix, .ref p_ato, .ref p_acu, .int p_cutCount_1, .ref p_aic, .ref p_ade, .int p_lesser, .int p_greater])), (p_ato, .inl (G 0, 256, .inl p_told)), (p_acu, .inl (G 0, 256, .inl p_cuts_1)), (p_aic, .inl (G 2, 256, .inl p_isCut_1)), (p_ade, .inl (G 0, 256, .inl p_depths_1))] H := hP
  replace hD : va_D A [(p_pl, .inr (2, [.int p_mayBe, .int p_lastMix, .ref p_ato, .ref p_acu, .int p_cutCount_1, .ref p_aic, .ref p_ade, .int p_lesser, .int p_greater])), (p_ato, .inl (G 0, 256, .inl p_told)), (p_acu, .inl (G 0, 256, .inl p_cuts_1)), (p_aic, .inl (G 2, 256, .inl p_isCut_1)), (p_ade, .inl (G 0, 256, .inl p_depths_1))] := hD
  refine lv_aload_n hx hb dX2_fewestMixes_4 rfl (lv_at hl 0 rfl) ?_
  refine va_get (D := D) (ci := 2) (v := .ref p_ade) (C := RX2) (T := TX2) (N := 9) hx hb hts inX2 hown hK hP 0 rfl rfl 6 (by decide) fl32 (fun _ h9 => h9) rfl dX2_fewestMixes_5 ?_
  refine lv_aload_n hx hb dX2_fewestMixes_8 rfl (lv_at hl 0 rfl) ?_
  refine va_get (D := D) (ci := 2) (v := .int p_mayBe) (C := RX2) (T := TX2) (N := 9) hx hb hts inX2 hown hK hP 0 rfl rfl 0 (by decide) fl9 (fun _ h9 => h9) rfl dX2_fewestMixes_9 ?_
  refine x_iald (j := p_mayBe.toNatClampNeg) hx hb hK hP 4 0 rfl rfl rfl hw.1 dX2_fewestMixes_12 ?_
  replace hw := hw.2
  refine lv_bipush (v := 99) hx hb dX2_fewestMixes_13 (by decide) ?_
  refine lv_icmp_ge (tgt := 30) hx hb dX2_fewestMixes_15 (by decide) (fun c9 => ?_) (fun c9 => ?_)
  · replace hw := hw.1 c9
    refine lv_bipush (v := -4) hx hb dX2_fewestMixes_30 (by decide) ?_
    exact W.iret hx hb hr (x_mi (u := (p_cutCount_1, p_cuts_1, p_isCut_1, p_depths_1)) hP hK hD hS hw) hS.2.2 dX2_fewestMixes_32
  · replace hw := hw.2 c9
    refine lv_aload_n hx hb dX2_fewestMixes_18 rfl (lv_at hl 0 rfl) ?_
    refine va_get (D := D) (ci := 2) (v := .ref p_ade) (C := RX2) (T := TX2) (N := 9) hx hb hts inX2 hown hK hP 0 rfl rfl 6 (by decide) fl32 (fun _ h9 => h9) rfl dX2_fewestMixes_19 ?_
    refine lv_aload_n hx hb dX2_fewestMixes_22 rfl (lv_at hl 0 rfl) ?_
    refine va_get (D := D) (ci := 2) (v := .int p_mayBe) (C := RX2) (T := TX2) (N := 9) hx hb hts inX2 hown hK hP 0 rfl rfl 0 (by decide) fl9 (fun _ h9 => h9) rfl dX2_fewestMixes_23 ?_
    refine x_iald (j := p_mayBe.toNatClampNeg) hx hb hK hP 4 0 rfl rfl rfl hw.1 dX2_fewestMixes_26 ?_
    replace hw := hw.2
    refine lv_goto (tgt := 32) hx hb dX2_fewestMixes_27 (by decide) ?_
    exact W.iret hx hb hr (x_mi (u := (p_cutCount_1, p_cuts_1, p_isCut_1, p_depths_1)) hP hK hD hS hw) hS.2.2 dX2_fewestMixes_32
set_option maxHeartbeats 4000000 in
set_option maxRecDepth 100000 in
theorem c_X2_firstMix (l : Launch) (D : va_G) (G : Nat → ClassId) (sz : Nat) (p_pl : Nat) (p_ato : Nat) (p_acu : Nat) (p_aic : Nat) (p_ade : Nat) (p_mayBe : Int32) (p_lastMix : Int32) (p_cutCount : Int32) (p_lesser : Int32) (p_greater : Int32) (p_told : Nat → Int32) (p_cuts : Nat → Int32) (p_isCut : Nat → Int32) (p_depths : Nat → Int32) (post : Int32 → Int32 → (Nat → Int32) → (Nat → Int32) → (Nat → Int32) → Prop) (hw : wp_X2_firstMix p_mayBe p_lastMix p_told p_cuts p_isCut p_depths post) : Met l yX2_firstMix wsX2_firstMix ({ frames := 5, cells := 0, slots := 0, locals := 110 } : Room) (va_Pc [.ref p_pl] (xM D G sz [(p_pl, .inr (2, [.int p_mayBe, .int p_lastMix, .ref p_ato, .ref p_acu, .int p_cutCount, .ref p_aic, .ref p_ade, .int p_lesser, .int p_greater])), (p_ato, .inl (G 0, 256, .inl p_told)), (p_acu, .inl (G 0, 256, .inl p_cuts)), (p_aic, .inl (G 2, 256, .inl p_isCut)), (p_ade, .inl (G 0, 256, .inl p_depths))])) (va_Qi (fun r (u : Int32 × (Nat → Int32) × (Nat → Int32) × (Nat → Int32)) => post r u.1 u.2.1 u.2.2.1 u.2.2.2) (fun u t => xE D G (va_A [(p_pl, .inr (2, [.int p_mayBe, .int p_lastMix, .ref p_ato, .ref p_acu, .int p_cutCount, .ref p_aic, .ref p_ade, .int p_lesser, .int p_greater])), (p_ato, .inl (G 0, 256, .inl p_told)), (p_acu, .inl (G 0, 256, .inl p_cuts)), (p_aic, .inl (G 2, 256, .inl p_isCut)), (p_ade, .inl (G 0, 256, .inl p_depths))] sz) [(p_pl, .inr (2, [.int p_mayBe, .int p_lastMix, .ref p_ato, .ref p_acu, .int u.1, .ref p_aic, .ref p_ade, .int p_lesser, .int p_greater])), (p_ato, .inl (G 0, 256, .inl p_told)), (p_acu, .inl (G 0, 256, .inl (u.2.1))), (p_aic, .inl (G 2, 256, .inl (u.2.2.1))), (p_ade, .inl (G 0, 256, .inl (u.2.2.2)))] t) (va_A [(p_pl, .inr (2, [.int p_mayBe, .int p_lastMix, .ref p_ato, .ref p_acu, .int p_cutCount, .ref p_aic, .ref p_ade, .int p_lesser, .int p_greater])), (p_ato, .inl (G 0, 256, .inl p_told)), (p_acu, .inl (G 0, 256, .inl p_cuts)), (p_aic, .inl (G 2, 256, .inl p_isCut)), (p_ade, .inl (G 0, 256, .inl p_depths))] sz)) 0 0 (va_A [(p_pl, .inr (2, [.int p_mayBe, .int p_lastMix, .ref p_ato, .ref p_acu, .int p_cutCount, .ref p_aic, .ref p_ade, .int p_lesser, .int p_greater])), (p_ato, .inl (G 0, 256, .inl p_told)), (p_acu, .inl (G 0, 256, .inl p_cuts)), (p_aic, .inl (G 2, 256, .inl p_isCut)), (p_ade, .inl (G 0, 256, .inl p_depths))] sz) := by
  refine Met.ofW (cc := cX2_firstMix) (maxL := 3) (ret := (some .int)) (by decide) rfl ?_
  intro p e s m args below meth c s₁ B hml hv
  obtain ⟨rfl, hsz, hP, hK, hD0⟩ := hv
  have hx := B.exec
  have hb := B.bytes
  have hr := B.returns
  have hts := atoms_spec (ws := wsX2_firstMix) B.pre
  have hown : s.vm.findClass RX2 = some m.cls := findClass_of_methodNamed B.named
  have hlocks := B.notSynchronized
  subst hsz
  have hD := hD0.self (sz := s.heap.size)
  generalize hAe : va_A [(p_pl, .inr (2, [.int p_mayBe, .int p_lastMix, .ref p_ato, .ref p_acu, .int p_cutCount, .ref p_aic, .ref p_ade, .int p_lesser, .int p_greater])), (p_ato, .inl (G 0, 256, .inl p_told)), (p_acu, .inl (G 0, 256, .inl p_cuts)), (p_aic, .inl (G 2, 256, .inl p_isCut)), (p_ade, .inl (G 0, 256, .inl p_depths))] s.heap.size = A at hD ⊢
  have hA : ∀ q : Nat, s.heap.size ≤ q → A q := fun q h => by rw [← hAe]; exact Or.inr h
  have hS : va_S A s.heap s.heap [] := va_S.rf
  have inX2 : ∀ w ∈ wsX20, w ∈ wsX2_firstMix := by decide +kernel
  have fl15 := hts (.fieldLink RX2 15 "NewsCow$Plan" "lastMix" "I") (by decide +kernel)
  have fl9 := hts (.fieldLink RX2 9 "NewsCow$Plan" "mayBe" "I") (by decide +kernel)
  have fl18 := hts (.fieldLink RX2 18 "NewsCow$Plan" "told" "[I") (by decide +kernel)
  have hl := lv_entry ([.ref p_pl] : List Value) (n := 3) (Nat.le_of_ble_eq_true rfl)
  rw [lg_entry_eq]
  generalize (lg_sl ([.ref p_pl] : List Value) ++ List.replicate (3 - (lg_sl ([.ref p_pl] : List Value)).length) Slot.unset).toArray = ls at hl ⊢
  have hl : lv_has ls 3 [(0, .ref p_pl)] := hl
  unfold wp_X2_firstMix at hw
  have L7 : ∀ (f7 : Nat) (x1 : Int32) (x2 : Int32) (p_cutCount : Int32) (p_cuts : Nat → Int32) (p_isCut : Nat → Int32) (p_depths : Nat → Int32) (H : Heap) (locs : List Loc) (ls : Array Slot), wp_X2_firstMix_L7 p_mayBe p_lastMix p_cutCount p_told p_cuts p_isCut p_depths x1 post f7 x2 → va_P D vwCl [(p_pl, .inr (2, [.int p_mayBe, .int p_lastMix, .ref p_ato, .ref p_acu, .int p_cutCount, .ref p_aic, .ref p_ade, .int p_lesser, .int p_greater])), (p_ato, .inl (G 0, 256, .inl p_told)), (p_acu, .inl (G 0, 256, .inl p_cuts)), (p_aic, .inl (G 2, 256, .inl p_isCut)), (p_ade, .inl (G 0, 256, .inl p_depths))] H → va_D A [(p_pl, .inr (2, [.int p_mayBe, .int p_lastMix, .ref p_ato, .ref p_acu, .int p_cutCount, .ref p_aic, .ref p_ade, .int p_lesser, .int p_greater])), (p_ato, .inl (G 0, 256, .inl p_told)), (p_acu, .inl (G 0, 256, .inl p_cuts)), (p_aic, .inl (G 2, 256, .inl p_isCut)), (p_ade, .inl (G 0, 256, .inl p_depths))] → va_S A s.heap H locs → lv_has ls 3 [(0, .ref p_pl), (1, .int x1), (2, .int x2)] → W p l e (headSpec wsX2_firstMix ({ frames := 5, cells := 0, slots := 0, locals := 110 } : Room)).room s m ([.ref p_pl] : List Value).toArray below meth c H locs 0 0 (MQ below (va_Qi (fun r (u : Int32 × (Nat → Int32) × (Nat → Int32) × (Nat → Int32)) => post r u.1 u.2.1 u.2.2.1 u.2.2.2) (fun u t => xE D G A [(p_pl, .inr (2, [.int p_mayBe, .int p_lastMix, .ref p_ato, .ref p_acu, .int u.1, .ref p_aic, .ref p_ade, .int p_lesser, .int p_greater])), (p_ato, .inl (G 0, 256, .inl p_told)), (p_acu, .inl (G 0, 256, .inl (u.2.1))), (p_aic, .inl (G 2, 256, .inl (u.2.2.1))), (p_ade, .inl (G 0, 256, .inl (u.2.2.2)))] t) A) ([.ref p_pl] : List Value).toArray s 0 0 A) (F0 m 7 ls []) := by
    intro f7
    induction f7 with
    | zero => intro x1 x2 p_cutCount p_cuts p_isCut p_depths H locs ls hw hP hD hS hl; exact (hw : False).elim
    | succ f7 ih7 =>
      intro x1 x2 p_cutCount p_cuts p_isCut p_depths H locs ls hw hP hD hS hl
      unfold wp_X2_firstMix_L7 at hw
      refine lv_iload_n hx hb dX2_firstMix_7 rfl (lv_at hl 2 rfl) ?_
      refine lv_aload_n hx hb dX2_firstMix_8 rfl (lv_at hl 0 rfl) ?_
      refine va_get (D := D) (ci := 2) (v := .int p_lastMix) (C := RX2) (T := TX2) (N := 9) hx hb hts inX2 hown hK hP 0 rfl rfl 1 (by decide) fl15 (fun _ h9 => h9) rfl dX2_firstMix_9 ?_
      refine lv_icmp_gt (tgt := 45) hx hb dX2_firstMix_12 (by decide) (fun c9 => ?_) (fun c9 => ?_)
      · replace hw := hw.1 c9
        refine lv_bipush (v := -4) hx hb dX2_firstMix_45 (by decide) ?_
        exact W.iret hx hb hr (x_mi (u := (p_cutCount, p_cuts, p_isCut, p_depths)) hP hK hD hS hw) hS.2.2 dX2_firstMix_47
      · replace hw := hw.2 c9
        refine lv_iload_n hx hb dX2_firstMix_15 rfl (lv_at hl 1 rfl) ?_
        refine lv_if_le (tgt := 45) hx hb dX2_firstMix_16 (by decide) (fun c9 => ?_) (fun c9 => ?_)
        · replace hw := hw.1 c9
          refine lv_bipush (v := -4) hx hb dX2_firstMix_45 (by decide) ?_
          exact W.iret hx hb hr (x_mi (u := (p_cutCount, p_cuts, p_isCut, p_depths)) hP hK hD hS hw) hS.2.2 dX2_firstMix_47
        · replace hw := hw.2 c9
          refine lv_aload_n hx hb dX2_firstMix_19 rfl (lv_at hl 0 rfl) ?_
          refine lv_aload_n hx hb dX2_firstMix_20 rfl (lv_at hl 0 rfl) ?_
          refine va_get (D := D) (ci := 2) (v := .int p_mayBe) (C := RX2) (T := TX2) (N := 9) hx hb hts inX2 hown hK hP 0 rfl rfl 0 (by decide) fl9 (fun _ h9 => h9) rfl dX2_firstMix_21 ?_
          refine lv_aload_n hx hb dX2_firstMix_24 rfl (lv_at hl 0 rfl) ?_
          refine va_get (D := D) (ci := 2) (v := .ref p_ato) (C := RX2) (T := TX2) (N := 9) hx hb hts inX2 hown hK hP 0 rfl rfl 2 (by decide) fl18 (fun _ h9 => h9) rfl dX2_firstMix_25 ?_
          refine lv_iload_n hx hb dX2_firstMix_28 rfl (lv_at hl 2 rfl) ?_
          refine x_iald (j := x2.toNatClampNeg) hx hb hK hP 1 0 rfl rfl rfl hw.1 dX2_firstMix_29 ?_
          replace hw := hw.2
          refine vp_callSi (W.runV (As := [.int p_mayBe, .int (p_told x2.toNatClampNeg)]) (rest := []) ⟨hx, hb, hml, hown, hts⟩ (c_X2_depthBehind l D G p_pl p_ato p_acu p_aic p_ade p_mayBe p_lastMix p_cutCount p_lesser p_greater p_depths p_mayBe (p_told x2.toNatClampNeg) _ hw) (cwV 2 hts gX2_firstMix_X2_depthBehind rfl rfl rfl (by decide +kernel) ⟨(Nat.le_of_ble_eq_true rfl), (Nat.le_of_ble_eq_true rfl)⟩) (xR_pv (hP.sub [0, 4] rfl) hK (va_recv hK hP (ci := 2) (q0 := 0) rfl rfl)) rfl rfl hl.1 rfl (lv_room (Nat.le_of_ble_eq_true rfl)) dX2_firstMix_30 ⟨Nat.zero_le _, Nat.zero_le _⟩) (fun r2 hw => ?_)
          refine lv_iload_n hx hb dX2_firstMix_33 rfl (lv_at hl 1 rfl) ?_
          refine lv_icmp_ne (tgt := 39) hx hb dX2_firstMix_34 (by decide) (fun c9 => ?_) (fun c9 => ?_)
          · replace hw := hw.1 c9
            refine lv_iinc (v := (x2 + 1)) (lv' := [(2, .int (x2 + 1)), (0, .ref p_pl), (1, .int x1)]) hx hb dX2_firstMix_39 hl (k := 2) rfl (by first | rfl | decide) (by decide) rfl (fun ls hl => ?_)
            refine lv_goto (tgt := 7) hx hb dX2_firstMix_42 (by decide) ?_
            exact ih7 x1 (x2 + 1) p_cutCount p_cuts p_isCut p_depths _ _ _ hw hP hD hS (lv_sub hl [1, 2, 0] rfl)
          · replace hw := hw.2 c9
            refine lv_iload_n hx hb dX2_firstMix_37 rfl (lv_at hl 2 rfl) ?_
            exact W.iret hx hb hr (x_mi (u := (p_cutCount, p_cuts, p_isCut, p_depths)) hP hK hD hS hw) hS.2.2 dX2_firstMix_38
  refine lv_aload_n hx hb dX2_firstMix_0 rfl (lv_at hl 0 rfl) ?_
  refine x_cMi (wr := []) (va_runV (As := []) (rest := []) ⟨hx, hb, hml, hown, hts⟩ (c_X2_fewestMixes l D G _ p_pl p_ato p_acu p_aic p_ade p_mayBe p_lastMix p_cutCount p_lesser p_greater p_told p_cuts p_isCut p_depths _ hw) (cwV 0 hts gX2_firstMix_X2_fewestMixes rfl rfl rfl (by decide +kernel) ⟨(Nat.le_of_ble_eq_true rfl), (Nat.le_of_ble_eq_true rfl)⟩) (xM_pv (hP.sub [0, 1, 2, 3, 4] rfl) hK (hD.sub [0, 1, 2, 3, 4] (by decide) rfl) (va_recv hK hP (ci := 2) (q0 := 0) rfl rfl)) rfl rfl hl.1 rfl (lv_room (Nat.le_of_ble_eq_true rfl)) dX2_firstMix_1 ⟨Nat.zero_le _, Nat.zero_le _⟩) hP hD hS hA [0, 1, 2, 3, 4] [] rfl rfl (by decide) (by decide) [0, 1, 2, 3, 4] (fun u => [(p_pl, .inr (2, [.int p_mayBe, .int p_lastMix, .ref p_ato, .ref p_acu, .int u.1, .ref p_aic, .ref p_ade, .int p_lesser, .int p_greater])), (p_ato, .inl (G 0, 256, .inl p_told)), (p_acu, .inl (G 0, 256, .inl (u.2.1))), (p_aic, .inl (G 2, 256, .inl (u.2.2.1))), (p_ade, .inl (G 0, 256, .inl (u.2.2.2)))]) (by decide) (fun u => rfl) (fun r1 u H locs hw hP hD hS => ?_)
  obtain ⟨p_cutCount_1, p_cuts_1, p_isCut_1, p_depths_1⟩ := u
  try dsimp only at hw
  replace hP : va_P D vwCl [(p_pl, .inr (2, [.int p_mayBe, .int p_lastMix, .ref p_ato, .ref p_acu, .int p_cutCount_1, .ref p_aic, .ref p_ade, .int p_lesser, .int p_greater])), (p_ato, .inl (G 0, 256, .inl p_told)), (p_acu, .inl (G 0, 256, .inl p_cuts_1)), (p_aic, .inl (G 2, 256, .inl p_isCut_1)), (p_ade, .inl (G 0, 256, .inl p_depths_1))] H := hP
  replace hD : va_D A [(p_pl, .inr (2, [.int p_mayBe, .int p_lastMix, .ref p_ato, .ref p_acu, .int p_cutCount_1, .ref p_aic, .ref p_ade, .int p_lesser, .int p_greater])), (p_ato, .inl (G 0, 256, .inl p_told)), (p_acu, .inl (G 0, 256, .inl p_cuts_1)), (p_aic, .inl (G 2, 256, .inl p_isCut_1)), (p_ade, .inl (G 0, 256, .inl p_depths_1))] := hD
  refine lv_istore_n (lv' := [(1, .int r1), (0, .ref p_pl)]) hx hb dX2_firstMix_4 rfl hl (by decide) rfl (fun ls hl => ?_)
  refine lv_iconst (v := 1) hx hb dX2_firstMix_5 (by decide) ?_
  refine lv_istore_n (lv' := [(2, .int (1 : Int32)), (1, .int r1), (0, .ref p_pl)]) hx hb dX2_firstMix_6 rfl hl (by decide) rfl (fun ls hl => ?_)
  obtain ⟨n, hw⟩ := hw
  exact L7 n r1 (1 : Int32) p_cutCount_1 p_cuts_1 p_isCut_1 p_depths_1 _ _ _ hw hP hD hS (lv_sub hl [2, 1, 0] rfl)
set_option maxHeartbeats 4000000 in
set_option maxRecDepth 100000 in
theorem c_X2_partsWell (l : Launch) (D : va_G) (G : Nat → ClassId) (x0 : Int32) (x1 : Int32) (post : Int32 → Prop) (hw : wp_X2_partsWell x0 x1 post) : Met l yX2_partsWell wsX2_partsWell ({ frames := 1, cells := 0, slots := 0, locals := 20 } : Room) (va_Pc [.int x0, .int x1] (xR D G [])) (vp_Si post) 0 0 (fun _ => False) := by
  refine Met.ofW (cc := cX2_partsWell) (maxL := 2) (ret := (some .boolean)) (by decide) rfl ?_
  intro p e s m args below meth c s₁ B hml hv
  obtain ⟨rfl, hP, hK⟩ := hv
  have hx := B.exec
  have hb := B.bytes
  have hr := B.returns
  have hts := atoms_spec (ws := wsX2_partsWell) B.pre
  have hown : s.vm.findClass RX2 = some m.cls := findClass_of_methodNamed B.named
  have hlocks := B.notSynchronized
  have hl := lv_entry ([.int x0, .int x1] : List Value) (n := 2) (Nat.le_of_ble_eq_true rfl)
  rw [lg_entry_eq]
  generalize (lg_sl ([.int x0, .int x1] : List Value) ++ List.replicate (2 - (lg_sl ([.int x0, .int x1] : List Value)).length) Slot.unset).toArray = ls at hl ⊢
  have hl : lv_has ls 2 [(0, .int x0), (1, .int x1)] := hl
  unfold wp_X2_partsWell at hw
  refine lv_iload_n hx hb dX2_partsWell_0 rfl (lv_at hl 0 rfl) ?_
  refine lv_iload_n hx hb dX2_partsWell_1 rfl (lv_at hl 1 rfl) ?_
  refine lv_iand hx hb dX2_partsWell_2 ?_
  refine vp_callSi (W.runS (As := [.int (x0 &&& x1)]) (rest := []) ⟨hx, hb, hml, hown, hts⟩ (c_X2_isOneAtMost l D G (x0 &&& x1) _ hw) (va_cwS 1 hts gX2_partsWell_X2_isOneAtMost rfl rfl rfl (by decide +kernel) ⟨(Nat.le_of_ble_eq_true rfl), (Nat.le_of_ble_eq_true rfl)⟩) (xR_ps (hP.sub [] rfl) hK) rfl rfl hl.1 rfl (lv_room (Nat.le_of_ble_eq_true rfl)) dX2_partsWell_3 ⟨Nat.zero_le _, Nat.zero_le _⟩) (fun r1 hw => ?_)
  refine lv_if_eq (tgt := 24) hx hb dX2_partsWell_6 (by decide) (fun c9 => ?_) (fun c9 => ?_)
  · replace hw := hw.1 c9
    refine lv_iconst (v := 0) hx hb dX2_partsWell_24 (by decide) ?_
    exact W.zret hx hb hr rfl (fun t ht _ => ⟨_, rfl, hw, ht⟩) (fun _ h => absurd h List.not_mem_nil) dX2_partsWell_25
  · replace hw := hw.2 c9
    refine lv_iload_n hx hb dX2_partsWell_9 rfl (lv_at hl 0 rfl) ?_
    refine lv_iload_n hx hb dX2_partsWell_10 rfl (lv_at hl 1 rfl) ?_
    refine lv_iconst (v := -1) hx hb dX2_partsWell_11 (by decide) ?_
    refine lv_ixor hx hb dX2_partsWell_12 ?_
    refine lv_iand hx hb dX2_partsWell_13 ?_
    refine vp_callSi (W.runS (As := [.int (x0 &&& (x1 ^^^ (-1 : Int32)))]) (rest := []) ⟨hx, hb, hml, hown, hts⟩ (c_X2_isOneAtMost l D G (x0 &&& (x1 ^^^ (-1 : Int32))) _ hw) (va_cwS 1 hts gX2_partsWell_X2_isOneAtMost rfl rfl rfl (by decide +kernel) ⟨(Nat.le_of_ble_eq_true rfl), (Nat.le_of_ble_eq_true rfl)⟩) (xR_ps (hP.sub [] rfl) hK) rfl rfl hl.1 rfl (lv_room (Nat.le_of_ble_eq_true rfl)) dX2_partsWell_14 ⟨Nat.zero_le _, Nat.zero_le _⟩) (fun r2 hw => ?_)
    refine lv_if_eq (tgt := 24) hx hb dX2_partsWell_17 (by decide) (fun c9 => ?_) (fun c9 => ?_)
    · replace hw := hw.1 c9
      refine lv_iconst (v := 0) hx hb dX2_partsWell_24 (by decide) ?_
      exact W.zret hx hb hr rfl (fun t ht _ => ⟨_, rfl, hw, ht⟩) (fun _ h => absurd h List.not_mem_nil) dX2_partsWell_25
    · replace hw := hw.2 c9
      refine lv_iconst (v := 1) hx hb dX2_partsWell_20 (by decide) ?_
      refine lv_goto (tgt := 25) hx hb dX2_partsWell_21 (by decide) ?_
      exact W.zret hx hb hr rfl (fun t ht _ => ⟨_, rfl, hw, ht⟩) (fun _ h => absurd h List.not_mem_nil) dX2_partsWell_25
set_option maxHeartbeats 4000000 in
set_option maxRecDepth 100000 in
theorem c_X2_partnerOf (l : Launch) (D : va_G) (G : Nat → ClassId) (p_pl : Nat) (p_ato : Nat) (p_acu : Nat) (p_aic : Nat) (p_ade : Nat) (p_mayBe : Int32) (p_lastMix : Int32) (p_cutCount : Int32) (p_lesser : Int32) (p_greater : Int32) (p_told : Nat → Int32) (x1 : Int32) (post : Int32 → Prop) (hw : wp_X2_partnerOf p_mayBe p_lastMix p_told x1 post) : Met l yX2_partnerOf wsX2_partnerOf ({ frames := 2, cells := 0, slots := 0, locals := 41 } : Room) (va_Pc [.ref p_pl, .int x1] (xR D G [(p_pl, .inr (2, [.int p_mayBe, .int p_lastMix, .ref p_ato, .ref p_acu, .int p_cutCount, .ref p_aic, .ref p_ade, .int p_lesser, .int p_greater])), (p_ato, .inl (G 0, 256, .inl p_told))])) (vp_Si post) 0 0 (fun _ => False) := by
  refine Met.ofW (cc := cX2_partnerOf) (maxL := 5) (ret := (some .int)) (by decide) rfl ?_
  intro p e s m args below meth c s₁ B hml hv
  obtain ⟨rfl, hP, hK⟩ := hv
  have hx := B.exec
  have hb := B.bytes
  have hr := B.returns
  have hts := atoms_spec (ws := wsX2_partnerOf) B.pre
  have hown : s.vm.findClass RX2 = some m.cls := findClass_of_methodNamed B.named
  have hlocks := B.notSynchronized
  have inX2 : ∀ w ∈ wsX20, w ∈ wsX2_partnerOf := by decide +kernel
  have fl18 := hts (.fieldLink RX2 18 "NewsCow$Plan" "told" "[I") (by decide +kernel)
  have fl9 := hts (.fieldLink RX2 9 "NewsCow$Plan" "mayBe" "I") (by decide +kernel)
  have fl15 := hts (.fieldLink RX2 15 "NewsCow$Plan" "lastMix" "I") (by decide +kernel)
  have hl := lv_entry ([.ref p_pl, .int x1] : List Value) (n := 5) (Nat.le_of_ble_eq_true rfl)
  rw [lg_entry_eq]
  generalize (lg_sl ([.ref p_pl, .int x1] : List Value) ++ List.replicate (5 - (lg_sl ([.ref p_pl, .int x1] : List Value)).length) Slot.unset).toArray = ls at hl ⊢
  have hl : lv_has ls 5 [(0, .ref p_pl), (1, .int x1)] := hl
  unfold wp_X2_partnerOf at hw
  have L40 : ∀ (f40 : Nat) (x2 : Int32) (x3 : Int32) (x4 : Int32) (ls : Array Slot), wp_X2_partnerOf_L40 p_lastMix p_told x2 x3 post f40 x4 → lv_has ls 5 [(0, .ref p_pl), (2, .int x2), (3, .int x3), (4, .int x4)] → W p l e (headSpec wsX2_partnerOf ({ frames := 2, cells := 0, slots := 0, locals := 41 } : Room)).room s m ([.ref p_pl, .int x1] : List Value).toArray below meth c s.heap [] 0 0 (MQ below (vp_Si post) ([.ref p_pl, .int x1] : List Value).toArray s 0 0 (fun _ => False)) (F0 m 40 ls []) := by
    intro f40
    induction f40 with
    | zero => intro x2 x3 x4 ls hw hl; exact (hw : False).elim
    | succ f40 ih40 =>
      intro x2 x3 x4 ls hw hl
      unfold wp_X2_partnerOf_L40 at hw
      refine lv_iload hx hb dX2_partnerOf_40 (lv_at hl 3 rfl) ?_
      refine lv_aload_n hx hb dX2_partnerOf_42 rfl (lv_at hl 0 rfl) ?_
      refine va_get (D := D) (ci := 2) (v := .int p_lastMix) (C := RX2) (T := TX2) (N := 9) hx hb hts inX2 hown hK hP 0 rfl rfl 1 (by decide) fl15 (fun _ h9 => h9) rfl dX2_partnerOf_43 ?_
      refine lv_icmp_gt (tgt := 86) hx hb dX2_partnerOf_46 (by decide) (fun c9 => ?_) (fun c9 => ?_)
      · replace hw := hw.1 c9
        refine lv_bipush (v := -4) hx hb dX2_partnerOf_86 (by decide) ?_
        exact W.iret hx hb hr (fun t ht _ => ⟨_, rfl, hw, ht⟩) (fun _ h => absurd h List.not_mem_nil) dX2_partnerOf_88
      · replace hw := hw.2 c9
        refine lv_iload_n hx hb dX2_partnerOf_49 rfl (lv_at hl 1 rfl) ?_
        refine lv_aload_n hx hb dX2_partnerOf_50 rfl (lv_at hl 0 rfl) ?_
        refine va_get (D := D) (ci := 2) (v := .ref p_ato) (C := RX2) (T := TX2) (N := 9) hx hb hts inX2 hown hK hP 0 rfl rfl 2 (by decide) fl18 (fun _ h9 => h9) rfl dX2_partnerOf_51 ?_
        refine lv_iload hx hb dX2_partnerOf_54 (lv_at hl 3 rfl) ?_
        refine x_iald (j := x4.toNatClampNeg) hx hb hK hP 1 0 rfl rfl rfl hw.1 dX2_partnerOf_56 ?_
        replace hw := hw.2
        refine vp_callSi (W.runS (As := [.int x2, .int (p_told x4.toNatClampNeg)]) (rest := []) ⟨hx, hb, hml, hown, hts⟩ (c_X2_partsWell l D G x2 (p_told x4.toNatClampNeg) _ hw) (va_cwS 2 hts gX2_partnerOf_X2_partsWell rfl rfl rfl (by decide +kernel) ⟨(Nat.le_of_ble_eq_true rfl), (Nat.le_of_ble_eq_true rfl)⟩) (xR_ps (hP.sub [] rfl) hK) rfl rfl hl.1 rfl (lv_room (Nat.le_of_ble_eq_true rfl)) dX2_partnerOf_57 ⟨Nat.zero_le _, Nat.zero_le _⟩) (fun r3 hw => ?_)
        refine lv_if_eq (tgt := 80) hx hb dX2_partnerOf_60 (by decide) (fun c9 => ?_) (fun c9 => ?_)
        · replace hw := hw.1 c9
          refine lv_iinc (v := (x4 + 1)) (lv' := [(4, .int (x4 + 1)), (0, .ref p_pl), (2, .int x2), (3, .int x3)]) hx hb dX2_partnerOf_80 hl (k := 3) rfl (by first | rfl | decide) (by decide) rfl (fun ls hl => ?_)
          refine lv_goto (tgt := 40) hx hb dX2_partnerOf_83 (by decide) ?_
          exact ih40 x2 x3 (x4 + 1) _ hw (lv_sub hl [1, 2, 3, 0] rfl)
        · replace hw := hw.2 c9
          refine lv_iload_n hx hb dX2_partnerOf_63 rfl (lv_at hl 2 rfl) ?_
          refine lv_aload_n hx hb dX2_partnerOf_64 rfl (lv_at hl 0 rfl) ?_
          refine va_get (D := D) (ci := 2) (v := .ref p_ato) (C := RX2) (T := TX2) (N := 9) hx hb hts inX2 hown hK hP 0 rfl rfl 2 (by decide) fl18 (fun _ h9 => h9) rfl dX2_partnerOf_65 ?_
          refine lv_iload hx hb dX2_partnerOf_68 (lv_at hl 3 rfl) ?_
          refine x_iald (j := x4.toNatClampNeg) hx hb hK hP 1 0 rfl rfl rfl hw.1 dX2_partnerOf_70 ?_
          replace hw := hw.2
          refine vp_callSi (W.runS (As := [.int x3, .int (p_told x4.toNatClampNeg)]) (rest := []) ⟨hx, hb, hml, hown, hts⟩ (c_X2_partsWell l D G x3 (p_told x4.toNatClampNeg) _ hw) (va_cwS 2 hts gX2_partnerOf_X2_partsWell rfl rfl rfl (by decide +kernel) ⟨(Nat.le_of_ble_eq_true rfl), (Nat.le_of_ble_eq_true rfl)⟩) (xR_ps (hP.sub [] rfl) hK) rfl rfl hl.1 rfl (lv_room (Nat.le_of_ble_eq_true rfl)) dX2_partnerOf_71 ⟨Nat.zero_le _, Nat.zero_le _⟩) (fun r4 hw => ?_)
          refine lv_if_eq (tgt := 80) hx hb dX2_partnerOf_74 (by decide) (fun c9 => ?_) (fun c9 => ?_)
          · replace hw := hw.1 c9
            refine lv_iinc (v := (x4 + 1)) (lv' := [(4, .int (x4 + 1)), (0, .ref p_pl), (2, .int x2), (3, .int x3)]) hx hb dX2_partnerOf_80 hl (k := 3) rfl (by first | rfl | decide) (by decide) rfl (fun ls hl => ?_)
            refine lv_goto (tgt := 40) hx hb dX2_partnerOf_83 (by decide) ?_
            exact ih40 x2 x3 (x4 + 1) _ hw (lv_sub hl [1, 2, 3, 0] rfl)
          · replace hw := hw.2 c9
            refine lv_iload hx hb dX2_partnerOf_77 (lv_at hl 3 rfl) ?_
            exact W.iret hx hb hr (fun t ht _ => ⟨_, rfl, hw, ht⟩) (fun _ h => absurd h List.not_mem_nil) dX2_partnerOf_79
  refine lv_aload_n hx hb dX2_partnerOf_0 rfl (lv_at hl 0 rfl) ?_
  refine va_get (D := D) (ci := 2) (v := .ref p_ato) (C := RX2) (T := TX2) (N := 9) hx hb hts inX2 hown hK hP 0 rfl rfl 2 (by decide) fl18 (fun _ h9 => h9) rfl dX2_partnerOf_1 ?_
  refine lv_iload_n hx hb dX2_partnerOf_4 rfl (lv_at hl 1 rfl) ?_
  refine x_iald (j := x1.toNatClampNeg) hx hb hK hP 1 0 rfl rfl rfl hw.1 dX2_partnerOf_5 ?_
  replace hw := hw.2
  refine lv_istore_n (lv' := [(2, .int (p_told x1.toNatClampNeg)), (0, .ref p_pl), (1, .int x1)]) hx hb dX2_partnerOf_6 rfl hl (by decide) rfl (fun ls hl => ?_)
  refine lv_aload_n hx hb dX2_partnerOf_7 rfl (lv_at hl 1 rfl) ?_
  refine va_get (D := D) (ci := 2) (v := .int p_mayBe) (C := RX2) (T := TX2) (N := 9) hx hb hts inX2 hown hK hP 0 rfl rfl 0 (by decide) fl9 (fun _ h9 => h9) rfl dX2_partnerOf_8 ?_
  refine lv_iload_n hx hb dX2_partnerOf_11 rfl (lv_at hl 0 rfl) ?_
  refine lv_iconst (v := -1) hx hb dX2_partnerOf_12 (by decide) ?_
  refine lv_ixor hx hb dX2_partnerOf_13 ?_
  refine lv_iand hx hb dX2_partnerOf_14 ?_
  refine lv_istore_n (lv' := [(3, .int (p_mayBe &&& ((p_told x1.toNatClampNeg) ^^^ (-1 : Int32)))), (2, .int (p_told x1.toNatClampNeg)), (0, .ref p_pl), (1, .int x1)]) hx hb dX2_partnerOf_15 rfl hl (by decide) rfl (fun ls hl => ?_)
  refine lv_iload_n hx hb dX2_partnerOf_16 rfl (lv_at hl 1 rfl) ?_
  refine vp_callSi (W.runS (As := [.int (p_told x1.toNatClampNeg)]) (rest := []) ⟨hx, hb, hml, hown, hts⟩ (c_J6_bitCount_0f7a4 l D G (p_told x1.toNatClampNeg) _ hw) (va_cwS 1 hts gX2_partnerOf_J6_bitCount_0f7a4 rfl rfl rfl (by decide +kernel) ⟨(Nat.le_of_ble_eq_true rfl), (Nat.le_of_ble_eq_true rfl)⟩) (xR_ps (hP.sub [] rfl) hK) rfl rfl hl.1 rfl (lv_room (Nat.le_of_ble_eq_true rfl)) dX2_partnerOf_17 ⟨Nat.zero_le _, Nat.zero_le _⟩) (fun r1 hw => ?_)
  refine lv_iconst (v := 2) hx hb dX2_partnerOf_20 (by decide) ?_
  refine lv_icmp_gt (tgt := 32) hx hb dX2_partnerOf_21 (by decide) (fun c9 => ?_) (fun c9 => ?_)
  · replace hw := hw.1 c9
    refine lv_bipush (v := -4) hx hb dX2_partnerOf_32 (by decide) ?_
    exact W.iret hx hb hr (fun t ht _ => ⟨_, rfl, hw, ht⟩) (fun _ h => absurd h List.not_mem_nil) dX2_partnerOf_34
  · replace hw := hw.2 c9
    refine lv_iload_n hx hb dX2_partnerOf_24 rfl (lv_at hl 0 rfl) ?_
    refine vp_callSi (W.runS (As := [.int (p_mayBe &&& ((p_told x1.toNatClampNeg) ^^^ (-1 : Int32)))]) (rest := []) ⟨hx, hb, hml, hown, hts⟩ (c_J6_bitCount_0f7a4 l D G (p_mayBe &&& ((p_told x1.toNatClampNeg) ^^^ (-1 : Int32))) _ hw) (va_cwS 1 hts gX2_partnerOf_J6_bitCount_0f7a4 rfl rfl rfl (by decide +kernel) ⟨(Nat.le_of_ble_eq_true rfl), (Nat.le_of_ble_eq_true rfl)⟩) (xR_ps (hP.sub [] rfl) hK) rfl rfl hl.1 rfl (lv_room (Nat.le_of_ble_eq_true rfl)) dX2_partnerOf_25 ⟨Nat.zero_le _, Nat.zero_le _⟩) (fun r2 hw => ?_)
    refine lv_iconst (v := 2) hx hb dX2_partnerOf_28 (by decide) ?_
    refine lv_icmp_le (tgt := 35) hx hb dX2_partnerOf_29 (by decide) (fun c9 => ?_) (fun c9 => ?_)
    · replace hw := hw.1 c9
      refine lv_iload_n hx hb dX2_partnerOf_35 rfl (lv_at hl 3 rfl) ?_
      refine lv_iconst (v := 1) hx hb dX2_partnerOf_36 (by decide) ?_
      refine lv_iadd hx hb dX2_partnerOf_37 ?_
      refine lv_istore (lv' := [(4, .int (x1 + (1 : Int32))), (3, .int (p_mayBe &&& ((p_told x1.toNatClampNeg) ^^^ (-1 : Int32)))), (2, .int (p_told x1.toNatClampNeg)), (0, .ref p_pl), (1, .int x1)]) hx hb dX2_partnerOf_38 hl (by decide) rfl (fun ls hl => ?_)
      obtain ⟨n, hw⟩ := hw
      exact L40 n (p_told x1.toNatClampNeg) (p_mayBe &&& ((p_told x1.toNatClampNeg) ^^^ (-1 : Int32))) (x1 + (1 : Int32)) _ hw (lv_sub hl [3, 2, 1, 0] rfl)
    · replace hw := hw.2 c9
      refine lv_bipush (v := -4) hx hb dX2_partnerOf_32 (by decide) ?_
      exact W.iret hx hb hr (fun t ht _ => ⟨_, rfl, hw, ht⟩) (fun _ h => absurd h List.not_mem_nil) dX2_partnerOf_34
set_option maxHeartbeats 4000000 in
set_option maxRecDepth 100000 in
theorem c_X2_chooseAhead (l : Launch) (D : va_G) (G : Nat → ClassId) (sz : Nat) (p_pl : Nat) (p_ato : Nat) (p_acu : Nat) (p_aic : Nat) (p_ade : Nat) (p_mayBe : Int32) (p_lastMix : Int32) (p_cutCount : Int32) (p_lesser : Int32) (p_greater : Int32) (p_told : Nat → Int32) (post : Int32 → Int32 → Int32 → Prop) (hw : wp_X2_chooseAhead p_mayBe p_lastMix p_lesser p_greater p_told post) : Met l yX2_chooseAhead wsX2_chooseAhead ({ frames := 3, cells := 0, slots := 0, locals := 65 } : Room) (va_Pc [.ref p_pl] (xM D G sz [(p_pl, .inr (2, [.int p_mayBe, .int p_lastMix, .ref p_ato, .ref p_acu, .int p_cutCount, .ref p_aic, .ref p_ade, .int p_lesser, .int p_greater])), (p_ato, .inl (G 0, 256, .inl p_told))])) (va_Qi (fun r (u : Int32 × Int32) => post r u.1 u.2) (fun u t => xE D G (va_A [(p_pl, .inr (2, [.int p_mayBe, .int p_lastMix, .ref p_ato, .ref p_acu, .int p_cutCount, .ref p_aic, .ref p_ade, .int p_lesser, .int p_greater])), (p_ato, .inl (G 0, 256, .inl p_told))] sz) [(p_pl, .inr (2, [.int p_mayBe, .int p_lastMix, .ref p_ato, .ref p_acu, .int p_cutCount, .ref p_aic, .ref p_ade, .int u.1, .int u.2])), (p_ato, .inl (G 0, 256, .inl p_told))] t) (va_A [(p_pl, .inr (2, [.int p_mayBe, .int p_lastMix, .ref p_ato, .ref p_acu, .int p_cutCount, .ref p_aic, .ref p_ade, .int p_lesser, .int p_greater])), (p_ato, .inl (G 0, 256, .inl p_told))] sz)) 0 0 (va_A [(p_pl, .inr (2, [.int p_mayBe, .int p_lastMix, .ref p_ato, .ref p_acu, .int p_cutCount, .ref p_aic, .ref p_ade, .int p_lesser, .int p_greater])), (p_ato, .inl (G 0, 256, .inl p_told))] sz) := by
  refine Met.ofW (cc := cX2_chooseAhead) (maxL := 3) (ret := (some .int)) (by decide) rfl ?_
  intro p e s m args below meth c s₁ B hml hv
  obtain ⟨rfl, hsz, hP, hK, hD0⟩ := hv
  have hx := B.exec
  have hb := B.bytes
  have hr := B.returns
  have hts := atoms_spec (ws := wsX2_chooseAhead) B.pre
  have hown : s.vm.findClass RX2 = some m.cls := findClass_of_methodNamed B.named
  have hlocks := B.notSynchronized
  subst hsz
  have hD := hD0.self (sz := s.heap.size)
  generalize hAe : va_A [(p_pl, .inr (2, [.int p_mayBe, .int p_lastMix, .ref p_ato, .ref p_acu, .int p_cutCount, .ref p_aic, .ref p_ade, .int p_lesser, .int p_greater])), (p_ato, .inl (G 0, 256, .inl p_told))] s.heap.size = A at hD ⊢
  have hA : ∀ q : Nat, s.heap.size ≤ q → A q := fun q h => by rw [← hAe]; exact Or.inr h
  have hS : va_S A s.heap s.heap [] := va_S.rf
  have inX2 : ∀ w ∈ wsX20, w ∈ wsX2_chooseAhead := by decide +kernel
  have fl9 := hts (.fieldLink RX2 9 "NewsCow$Plan" "mayBe" "I") (by decide +kernel)
  have fl15 := hts (.fieldLink RX2 15 "NewsCow$Plan" "lastMix" "I") (by decide +kernel)
  have fl18 := hts (.fieldLink RX2 18 "NewsCow$Plan" "told" "[I") (by decide +kernel)
  have fl35 := hts (.fieldLink RX2 35 "NewsCow$Plan" "lesser" "I") (by decide +kernel)
  have fl38 := hts (.fieldLink RX2 38 "NewsCow$Plan" "greater" "I") (by decide +kernel)
  have hl := lv_entry ([.ref p_pl] : List Value) (n := 3) (Nat.le_of_ble_eq_true rfl)
  rw [lg_entry_eq]
  generalize (lg_sl ([.ref p_pl] : List Value) ++ List.replicate (3 - (lg_sl ([.ref p_pl] : List Value)).length) Slot.unset).toArray = ls at hl ⊢
  have hl : lv_has ls 3 [(0, .ref p_pl)] := hl
  unfold wp_X2_chooseAhead at hw
  have L68 : ∀ (f68 : Nat) (x1 : Int32) (H : Heap) (locs : List Loc) (ls : Array Slot), wp_X2_chooseAhead_L68 p_mayBe p_lastMix p_lesser p_greater p_told post f68 x1 → va_P D vwCl [(p_pl, .inr (2, [.int p_mayBe, .int p_lastMix, .ref p_ato, .ref p_acu, .int p_cutCount, .ref p_aic, .ref p_ade, .int p_lesser, .int p_greater])), (p_ato, .inl (G 0, 256, .inl p_told))] H → va_D A [(p_pl, .inr (2, [.int p_mayBe, .int p_lastMix, .ref p_ato, .ref p_acu, .int p_cutCount, .ref p_aic, .ref p_ade, .int p_lesser, .int p_greater])), (p_ato, .inl (G 0, 256, .inl p_told))] → va_S A s.heap H locs → lv_has ls 3 [(0, .ref p_pl), (1, .int x1)] → W p l e (headSpec wsX2_chooseAhead ({ frames := 3, cells := 0, slots := 0, locals := 65 } : Room)).room s m ([.ref p_pl] : List Value).toArray below meth c H locs 0 0 (MQ below (va_Qi (fun r (u : Int32 × Int32) => post r u.1 u.2) (fun u t => xE D G A [(p_pl, .inr (2, [.int p_mayBe, .int p_lastMix, .ref p_ato, .ref p_acu, .int p_cutCount, .ref p_aic, .ref p_ade, .int u.1, .int u.2])), (p_ato, .inl (G 0, 256, .inl p_told))] t) A) ([.ref p_pl] : List Value).toArray s 0 0 A) (F0 m 68 ls []) := by
    intro f68
    induction f68 with
    | zero => intro x1 H locs ls hw hP hD hS hl; exact (hw : False).elim
    | succ f68 ih68 =>
      intro x1 H locs ls hw hP hD hS hl
      unfold wp_X2_chooseAhead_L68 at hw
      refine lv_iload_n hx hb dX2_chooseAhead_68 rfl (lv_at hl 1 rfl) ?_
      refine lv_aload_n hx hb dX2_chooseAhead_69 rfl (lv_at hl 0 rfl) ?_
      refine va_get (D := D) (ci := 2) (v := .int p_lastMix) (C := RX2) (T := TX2) (N := 9) hx hb hts inX2 hown hK hP 0 rfl rfl 1 (by decide) fl15 (fun _ h9 => h9) rfl dX2_chooseAhead_70 ?_
      refine lv_icmp_ge (tgt := 106) hx hb dX2_chooseAhead_73 (by decide) (fun c9 => ?_) (fun c9 => ?_)
      · replace hw := hw.1 c9
        refine lv_bipush (v := -4) hx hb dX2_chooseAhead_106 (by decide) ?_
        exact W.iret hx hb hr (x_mi (u := (p_lesser, p_greater)) hP hK hD hS hw) hS.2.2 dX2_chooseAhead_108
      · replace hw := hw.2 c9
        refine lv_aload_n hx hb dX2_chooseAhead_76 rfl (lv_at hl 0 rfl) ?_
        refine lv_iload_n hx hb dX2_chooseAhead_77 rfl (lv_at hl 1 rfl) ?_
        refine vp_callSi (W.runV (As := [.int x1]) (rest := []) ⟨hx, hb, hml, hown, hts⟩ (c_X2_partnerOf l D G p_pl p_ato p_acu p_aic p_ade p_mayBe p_lastMix p_cutCount p_lesser p_greater p_told x1 _ hw) (cwV 1 hts gX2_chooseAhead_X2_partnerOf rfl rfl rfl (by decide +kernel) ⟨(Nat.le_of_ble_eq_true rfl), (Nat.le_of_ble_eq_true rfl)⟩) (xR_pv (hP.sub [0, 1] rfl) hK (va_recv hK hP (ci := 2) (q0 := 0) rfl rfl)) rfl rfl hl.1 rfl (lv_room (Nat.le_of_ble_eq_true rfl)) dX2_chooseAhead_78 ⟨Nat.zero_le _, Nat.zero_le _⟩) (fun r4 hw => ?_)
        refine lv_istore_n (lv' := [(2, .int r4), (0, .ref p_pl), (1, .int x1)]) hx hb dX2_chooseAhead_81 rfl hl (by decide) rfl (fun ls hl => ?_)
        refine lv_iload_n hx hb dX2_chooseAhead_82 rfl (lv_at hl 0 rfl) ?_
        refine lv_bipush (v := -4) hx hb dX2_chooseAhead_83 (by decide) ?_
        refine lv_icmp_eq (tgt := 100) hx hb dX2_chooseAhead_85 (by decide) (fun c9 => ?_) (fun c9 => ?_)
        · replace hw := hw.1 c9
          refine lv_iinc (v := (x1 + 1)) (lv' := [(1, .int (x1 + 1)), (2, .int r4), (0, .ref p_pl)]) hx hb dX2_chooseAhead_100 hl (k := 2) rfl (by first | rfl | decide) (by decide) rfl (fun ls hl => ?_)
          refine lv_goto (tgt := 68) hx hb dX2_chooseAhead_103 (by decide) ?_
          exact ih68 (x1 + 1) _ _ _ hw hP hD hS (lv_sub hl [2, 0] rfl)
        · replace hw := hw.2 c9
          refine lv_aload_n hx hb dX2_chooseAhead_88 rfl (lv_at hl 1 rfl) ?_
          refine lv_iload_n hx hb dX2_chooseAhead_89 rfl (lv_at hl 2 rfl) ?_
          refine va_put (D := D) (ci := 2) (v := .int x1) (ty := .int) (C := RX2) (T := TX2) (N := 9) hx hb hts inX2 tyX2 tyX2_ok nmX2 hown hK hP hD hS 0 rfl rfl 7 (by decide) fl35 (fun _ h9 => h9) rfl (by decide +kernel) rfl rfl (Nat.le_of_ble_eq_true rfl) dX2_chooseAhead_90 (fun H locs hP hD hS => ?_)
          replace hP : va_P D vwCl [(p_pl, .inr (2, [.int p_mayBe, .int p_lastMix, .ref p_ato, .ref p_acu, .int p_cutCount, .ref p_aic, .ref p_ade, .int x1, .int p_greater])), (p_ato, .inl (G 0, 256, .inl p_told))] H := hP
          replace hD : va_D A [(p_pl, .inr (2, [.int p_mayBe, .int p_lastMix, .ref p_ato, .ref p_acu, .int p_cutCount, .ref p_aic, .ref p_ade, .int x1, .int p_greater])), (p_ato, .inl (G 0, 256, .inl p_told))] := hD
          refine lv_aload_n hx hb dX2_chooseAhead_93 rfl (lv_at hl 1 rfl) ?_
          refine lv_iload_n hx hb dX2_chooseAhead_94 rfl (lv_at hl 0 rfl) ?_
          refine va_put (D := D) (ci := 2) (v := .int r4) (ty := .int) (C := RX2) (T := TX2) (N := 9) hx hb hts inX2 tyX2 tyX2_ok nmX2 hown hK hP hD hS 0 rfl rfl 8 (by decide) fl38 (fun _ h9 => h9) rfl (by decide +kernel) rfl rfl (Nat.le_of_ble_eq_true rfl) dX2_chooseAhead_95 (fun H locs hP hD hS => ?_)
          replace hP : va_P D vwCl [(p_pl, .inr (2, [.int p_mayBe, .int p_lastMix, .ref p_ato, .ref p_acu, .int p_cutCount, .ref p_aic, .ref p_ade, .int x1, .int r4])), (p_ato, .inl (G 0, 256, .inl p_told))] H := hP
          replace hD : va_D A [(p_pl, .inr (2, [.int p_mayBe, .int p_lastMix, .ref p_ato, .ref p_acu, .int p_cutCount, .ref p_aic, .ref p_ade, .int x1, .int r4])), (p_ato, .inl (G 0, 256, .inl p_told))] := hD
          refine lv_iconst (v := 2) hx hb dX2_chooseAhead_98 (by decide) ?_
          exact W.iret hx hb hr (x_mi (u := (x1, r4)) hP hK hD hS hw) hS.2.2 dX2_chooseAhead_99
  have L14 : ∀ (f14 : Nat) (x1 : Int32) (H : Heap) (locs : List Loc) (ls : Array Slot), wp_X2_chooseAhead_L14 p_mayBe p_lastMix p_lesser p_greater p_told post f14 x1 → va_P D vwCl [(p_pl, .inr (2, [.int p_mayBe, .int p_lastMix, .ref p_ato, .ref p_acu, .int p_cutCount, .ref p_aic, .ref p_ade, .int p_lesser, .int p_greater])), (p_ato, .inl (G 0, 256, .inl p_told))] H → va_D A [(p_pl, .inr (2, [.int p_mayBe, .int p_lastMix, .ref p_ato, .ref p_acu, .int p_cutCount, .ref p_aic, .ref p_ade, .int p_lesser, .int p_greater])), (p_ato, .inl (G 0, 256, .inl p_told))] → va_S A s.heap H locs → lv_has ls 3 [(0, .ref p_pl), (1, .int x1)] → W p l e (headSpec wsX2_chooseAhead ({ frames := 3, cells := 0, slots := 0, locals := 65 } : Room)).room s m ([.ref p_pl] : List Value).toArray below meth c H locs 0 0 (MQ below (va_Qi (fun r (u : Int32 × Int32) => post r u.1 u.2) (fun u t => xE D G A [(p_pl, .inr (2, [.int p_mayBe, .int p_lastMix, .ref p_ato, .ref p_acu, .int p_cutCount, .ref p_aic, .ref p_ade, .int u.1, .int u.2])), (p_ato, .inl (G 0, 256, .inl p_told))] t) A) ([.ref p_pl] : List Value).toArray s 0 0 A) (F0 m 14 ls []) := by
    intro f14
    induction f14 with
    | zero => intro x1 H locs ls hw hP hD hS hl; exact (hw : False).elim
    | succ f14 ih14 =>
      intro x1 H locs ls hw hP hD hS hl
      unfold wp_X2_chooseAhead_L14 at hw
      refine lv_iload_n hx hb dX2_chooseAhead_14 rfl (lv_at hl 1 rfl) ?_
      refine lv_aload_n hx hb dX2_chooseAhead_15 rfl (lv_at hl 0 rfl) ?_
      refine va_get (D := D) (ci := 2) (v := .int p_lastMix) (C := RX2) (T := TX2) (N := 9) hx hb hts inX2 hown hK hP 0 rfl rfl 1 (by decide) fl15 (fun _ h9 => h9) rfl dX2_chooseAhead_16 ?_
      refine lv_icmp_gt (tgt := 66) hx hb dX2_chooseAhead_19 (by decide) (fun c9 => ?_) (fun c9 => ?_)
      · replace hw := hw.1 c9
        refine lv_iconst (v := 1) hx hb dX2_chooseAhead_66 (by decide) ?_
        refine lv_istore_n (lv' := [(1, .int (1 : Int32)), (0, .ref p_pl)]) hx hb dX2_chooseAhead_67 rfl hl (by decide) rfl (fun ls hl => ?_)
        obtain ⟨n, hw⟩ := hw
        exact L68 n (1 : Int32) _ _ _ hw hP hD hS (lv_sub hl [1, 0] rfl)
      · replace hw := hw.2 c9
        refine lv_aload_n hx hb dX2_chooseAhead_22 rfl (lv_at hl 0 rfl) ?_
        refine va_get (D := D) (ci := 2) (v := .ref p_ato) (C := RX2) (T := TX2) (N := 9) hx hb hts inX2 hown hK hP 0 rfl rfl 2 (by decide) fl18 (fun _ h9 => h9) rfl dX2_chooseAhead_23 ?_
        refine lv_iload_n hx hb dX2_chooseAhead_26 rfl (lv_at hl 1 rfl) ?_
        refine x_iald (j := x1.toNatClampNeg) hx hb hK hP 1 0 rfl rfl rfl hw.1 dX2_chooseAhead_27 ?_
        replace hw := hw.2
        refine vp_callSi (W.runS (As := [.int (p_told x1.toNatClampNeg)]) (rest := []) ⟨hx, hb, hml, hown, hts⟩ (c_X2_isOneAtMost l D G (p_told x1.toNatClampNeg) _ hw) (va_cwS 1 hts gX2_chooseAhead_X2_isOneAtMost rfl rfl rfl (by decide +kernel) ⟨(Nat.le_of_ble_eq_true rfl), (Nat.le_of_ble_eq_true rfl)⟩) (xR_ps (hP.sub [] rfl) hK) rfl rfl hl.1 rfl (lv_room (Nat.le_of_ble_eq_true rfl)) dX2_chooseAhead_28 ⟨Nat.zero_le _, Nat.zero_le _⟩) (fun r2 hw => ?_)
        refine lv_if_eq (tgt := 60) hx hb dX2_chooseAhead_31 (by decide) (fun c9 => ?_) (fun c9 => ?_)
        · replace hw := hw.1 c9
          refine lv_iinc (v := (x1 + 1)) (lv' := [(1, .int (x1 + 1)), (0, .ref p_pl)]) hx hb dX2_chooseAhead_60 hl (k := 1) rfl (by first | rfl | decide) (by decide) rfl (fun ls hl => ?_)
          refine lv_goto (tgt := 14) hx hb dX2_chooseAhead_63 (by decide) ?_
          exact ih14 (x1 + 1) _ _ _ hw hP hD hS (lv_sub hl [1, 0] rfl)
        · replace hw := hw.2 c9
          refine lv_aload_n hx hb dX2_chooseAhead_34 rfl (lv_at hl 0 rfl) ?_
          refine va_get (D := D) (ci := 2) (v := .int p_mayBe) (C := RX2) (T := TX2) (N := 9) hx hb hts inX2 hown hK hP 0 rfl rfl 0 (by decide) fl9 (fun _ h9 => h9) rfl dX2_chooseAhead_35 ?_
          refine lv_aload_n hx hb dX2_chooseAhead_38 rfl (lv_at hl 0 rfl) ?_
          refine va_get (D := D) (ci := 2) (v := .ref p_ato) (C := RX2) (T := TX2) (N := 9) hx hb hts inX2 hown hK hP 0 rfl rfl 2 (by decide) fl18 (fun _ h9 => h9) rfl dX2_chooseAhead_39 ?_
          refine lv_iload_n hx hb dX2_chooseAhead_42 rfl (lv_at hl 1 rfl) ?_
          refine x_iald (j := x1.toNatClampNeg) hx hb hK hP 1 0 rfl rfl rfl hw.1 dX2_chooseAhead_43 ?_
          replace hw := hw.2
          refine lv_iconst (v := -1) hx hb dX2_chooseAhead_44 (by decide) ?_
          refine lv_ixor hx hb dX2_chooseAhead_45 ?_
          refine lv_iand hx hb dX2_chooseAhead_46 ?_
          refine vp_callSi (W.runS (As := [.int (p_mayBe &&& ((p_told x1.toNatClampNeg) ^^^ (-1 : Int32)))]) (rest := []) ⟨hx, hb, hml, hown, hts⟩ (c_X2_isOneAtMost l D G (p_mayBe &&& ((p_told x1.toNatClampNeg) ^^^ (-1 : Int32))) _ hw) (va_cwS 1 hts gX2_chooseAhead_X2_isOneAtMost rfl rfl rfl (by decide +kernel) ⟨(Nat.le_of_ble_eq_true rfl), (Nat.le_of_ble_eq_true rfl)⟩) (xR_ps (hP.sub [] rfl) hK) rfl rfl hl.1 rfl (lv_room (Nat.le_of_ble_eq_true rfl)) dX2_chooseAhead_47 ⟨Nat.zero_le _, Nat.zero_le _⟩) (fun r3 hw => ?_)
          refine lv_if_eq (tgt := 60) hx hb dX2_chooseAhead_50 (by decide) (fun c9 => ?_) (fun c9 => ?_)
          · replace hw := hw.1 c9
            refine lv_iinc (v := (x1 + 1)) (lv' := [(1, .int (x1 + 1)), (0, .ref p_pl)]) hx hb dX2_chooseAhead_60 hl (k := 1) rfl (by first | rfl | decide) (by decide) rfl (fun ls hl => ?_)
            refine lv_goto (tgt := 14) hx hb dX2_chooseAhead_63 (by decide) ?_
            exact ih14 (x1 + 1) _ _ _ hw hP hD hS (lv_sub hl [1, 0] rfl)
          · replace hw := hw.2 c9
            refine lv_aload_n hx hb dX2_chooseAhead_53 rfl (lv_at hl 0 rfl) ?_
            refine lv_iload_n hx hb dX2_chooseAhead_54 rfl (lv_at hl 1 rfl) ?_
            refine va_put (D := D) (ci := 2) (v := .int x1) (ty := .int) (C := RX2) (T := TX2) (N := 9) hx hb hts inX2 tyX2 tyX2_ok nmX2 hown hK hP hD hS 0 rfl rfl 7 (by decide) fl35 (fun _ h9 => h9) rfl (by decide +kernel) rfl rfl (Nat.le_of_ble_eq_true rfl) dX2_chooseAhead_55 (fun H locs hP hD hS => ?_)
            replace hP : va_P D vwCl [(p_pl, .inr (2, [.int p_mayBe, .int p_lastMix, .ref p_ato, .ref p_acu, .int p_cutCount, .ref p_aic, .ref p_ade, .int x1, .int p_greater])), (p_ato, .inl (G 0, 256, .inl p_told))] H := hP
            replace hD : va_D A [(p_pl, .inr (2, [.int p_mayBe, .int p_lastMix, .ref p_ato, .ref p_acu, .int p_cutCount, .ref p_aic, .ref p_ade, .int x1, .int p_greater])), (p_ato, .inl (G 0, 256, .inl p_told))] := hD
            refine lv_iconst (v := 1) hx hb dX2_chooseAhead_58 (by decide) ?_
            exact W.iret hx hb hr (x_mi (u := (x1, p_greater)) hP hK hD hS hw) hS.2.2 dX2_chooseAhead_59
  refine lv_aload_n hx hb dX2_chooseAhead_0 rfl (lv_at hl 0 rfl) ?_
  refine va_get (D := D) (ci := 2) (v := .int p_mayBe) (C := RX2) (T := TX2) (N := 9) hx hb hts inX2 hown hK hP 0 rfl rfl 0 (by decide) fl9 (fun _ h9 => h9) rfl dX2_chooseAhead_1 ?_
  refine vp_callSi (W.runS (As := [.int p_mayBe]) (rest := []) ⟨hx, hb, hml, hown, hts⟩ (c_X2_isOneAtMost l D G p_mayBe _ hw) (va_cwS 1 hts gX2_chooseAhead_X2_isOneAtMost rfl rfl rfl (by decide +kernel) ⟨(Nat.le_of_ble_eq_true rfl), (Nat.le_of_ble_eq_true rfl)⟩) (xR_ps (hP.sub [] rfl) hK) rfl rfl hl.1 rfl (lv_room (Nat.le_of_ble_eq_true rfl)) dX2_chooseAhead_4 ⟨Nat.zero_le _, Nat.zero_le _⟩) (fun r1 hw => ?_)
  refine lv_if_eq (tgt := 12) hx hb dX2_chooseAhead_7 (by decide) (fun c9 => ?_) (fun c9 => ?_)
  · replace hw := hw.1 c9
    refine lv_iconst (v := 1) hx hb dX2_chooseAhead_12 (by decide) ?_
    refine lv_istore_n (lv' := [(1, .int (1 : Int32)), (0, .ref p_pl)]) hx hb dX2_chooseAhead_13 rfl hl (by decide) rfl (fun ls hl => ?_)
    obtain ⟨n, hw⟩ := hw
    exact L14 n (1 : Int32) _ _ _ hw hP hD hS (lv_sub hl [1, 0] rfl)
  · replace hw := hw.2 c9
    refine lv_iconst (v := 0) hx hb dX2_chooseAhead_10 (by decide) ?_
    exact W.iret hx hb hr (x_mi (u := (p_lesser, p_greater)) hP hK hD hS hw) hS.2.2 dX2_chooseAhead_11
set_option maxHeartbeats 4000000 in
set_option maxRecDepth 100000 in
theorem c_X2_greaterPart (l : Launch) (D : va_G) (G : Nat → ClassId) (p_pl : Nat) (p_ato : Nat) (p_acu : Nat) (p_aic : Nat) (p_ade : Nat) (p_mayBe : Int32) (p_lastMix : Int32) (p_cutCount : Int32) (p_lesser : Int32) (p_greater : Int32) (p_told : Nat → Int32) (x1 : Int32) (post : Int32 → Prop) (hw : wp_X2_greaterPart p_mayBe p_told x1 post) : Met l yX2_greaterPart wsX2_greaterPart ({ frames := 1, cells := 0, slots := 0, locals := 21 } : Room) (va_Pc [.ref p_pl, .int x1] (xR D G [(p_pl, .inr (2, [.int p_mayBe, .int p_lastMix, .ref p_ato, .ref p_acu, .int p_cutCount, .ref p_aic, .ref p_ade, .int p_lesser, .int p_greater])), (p_ato, .inl (G 0, 256, .inl p_told))])) (vp_Si post) 0 0 (fun _ => False) := by
  refine Met.ofW (cc := cX2_greaterPart) (maxL := 2) (ret := (some .int)) (by decide) rfl ?_
  intro p e s m args below meth c s₁ B hml hv
  obtain ⟨rfl, hP, hK⟩ := hv
  have hx := B.exec
  have hb := B.bytes
  have hr := B.returns
  have hts := atoms_spec (ws := wsX2_greaterPart) B.pre
  have hown : s.vm.findClass RX2 = some m.cls := findClass_of_methodNamed B.named
  have hlocks := B.notSynchronized
  have inX2 : ∀ w ∈ wsX20, w ∈ wsX2_greaterPart := by decide +kernel
  have fl18 := hts (.fieldLink RX2 18 "NewsCow$Plan" "told" "[I") (by decide +kernel)
  have fl9 := hts (.fieldLink RX2 9 "NewsCow$Plan" "mayBe" "I") (by decide +kernel)
  have hl := lv_entry ([.ref p_pl, .int x1] : List Value) (n := 2) (Nat.le_of_ble_eq_true rfl)
  rw [lg_entry_eq]
  generalize (lg_sl ([.ref p_pl, .int x1] : List Value) ++ List.replicate (2 - (lg_sl ([.ref p_pl, .int x1] : List Value)).length) Slot.unset).toArray = ls at hl ⊢
  have hl : lv_has ls 2 [(0, .ref p_pl), (1, .int x1)] := hl
  unfold wp_X2_greaterPart at hw
  refine lv_aload_n hx hb dX2_greaterPart_0 rfl (lv_at hl 0 rfl) ?_
  refine va_get (D := D) (ci := 2) (v := .ref p_ato) (C := RX2) (T := TX2) (N := 9) hx hb hts inX2 hown hK hP 0 rfl rfl 2 (by decide) fl18 (fun _ h9 => h9) rfl dX2_greaterPart_1 ?_
  refine lv_iload_n hx hb dX2_greaterPart_4 rfl (lv_at hl 1 rfl) ?_
  refine x_iald (j := x1.toNatClampNeg) hx hb hK hP 1 0 rfl rfl rfl hw.1 dX2_greaterPart_5 ?_
  replace hw := hw.2
  refine vp_callSi (W.runS (As := [.int (p_told x1.toNatClampNeg)]) (rest := []) ⟨hx, hb, hml, hown, hts⟩ (c_J6_bitCount_0f7a4 l D G (p_told x1.toNatClampNeg) _ hw) (va_cwS 1 hts gX2_greaterPart_J6_bitCount_0f7a4 rfl rfl rfl (by decide +kernel) ⟨(Nat.le_of_ble_eq_true rfl), (Nat.le_of_ble_eq_true rfl)⟩) (xR_ps (hP.sub [] rfl) hK) rfl rfl hl.1 rfl (lv_room (Nat.le_of_ble_eq_true rfl)) dX2_greaterPart_6 ⟨Nat.zero_le _, Nat.zero_le _⟩) (fun r1 hw => ?_)
  refine lv_aload_n hx hb dX2_greaterPart_9 rfl (lv_at hl 0 rfl) ?_
  refine va_get (D := D) (ci := 2) (v := .int p_mayBe) (C := RX2) (T := TX2) (N := 9) hx hb hts inX2 hown hK hP 0 rfl rfl 0 (by decide) fl9 (fun _ h9 => h9) rfl dX2_greaterPart_10 ?_
  refine lv_aload_n hx hb dX2_greaterPart_13 rfl (lv_at hl 0 rfl) ?_
  refine va_get (D := D) (ci := 2) (v := .ref p_ato) (C := RX2) (T := TX2) (N := 9) hx hb hts inX2 hown hK hP 0 rfl rfl 2 (by decide) fl18 (fun _ h9 => h9) rfl dX2_greaterPart_14 ?_
  refine lv_iload_n hx hb dX2_greaterPart_17 rfl (lv_at hl 1 rfl) ?_
  refine x_iald (j := x1.toNatClampNeg) hx hb hK hP 1 0 rfl rfl rfl hw.1 dX2_greaterPart_18 ?_
  replace hw := hw.2
  refine lv_iconst (v := -1) hx hb dX2_greaterPart_19 (by decide) ?_
  refine lv_ixor hx hb dX2_greaterPart_20 ?_
  refine lv_iand hx hb dX2_greaterPart_21 ?_
  refine vp_callSi (W.runS (As := [.int (p_mayBe &&& ((p_told x1.toNatClampNeg) ^^^ (-1 : Int32)))]) (rest := [.int r1]) ⟨hx, hb, hml, hown, hts⟩ (c_J6_bitCount_0f7a4 l D G (p_mayBe &&& ((p_told x1.toNatClampNeg) ^^^ (-1 : Int32))) _ hw) (va_cwS 1 hts gX2_greaterPart_J6_bitCount_0f7a4 rfl rfl rfl (by decide +kernel) ⟨(Nat.le_of_ble_eq_true rfl), (Nat.le_of_ble_eq_true rfl)⟩) (xR_ps (hP.sub [] rfl) hK) rfl rfl hl.1 rfl (lv_room (Nat.le_of_ble_eq_true rfl)) dX2_greaterPart_22 ⟨Nat.zero_le _, Nat.zero_le _⟩) (fun r2 hw => ?_)
  refine va_mmax hx hb (hml.trans hl.1.symm) hown (hts (.methodLink RX2 91 Lib.Math.max.name) (by decide +kernel)) (hts (.static Lib.Math.max.name) (by decide +kernel)) (hts (.initialized "java/lang/Math") (by decide +kernel)) (hts (.code Lib.Math.max.name Lib.Math.max.code 2 (some .int)) (by decide +kernel)) (Nat.le_of_ble_eq_true rfl) (Nat.le_of_ble_eq_true rfl) (Nat.zero_le _) (Nat.zero_le _) dX2_greaterPart_25 ?_
  exact W.iret hx hb hr (fun t ht _ => ⟨_, rfl, hw, ht⟩) (fun _ h => absurd h List.not_mem_nil) dX2_greaterPart_28
set_option maxHeartbeats 4000000 in
set_option maxRecDepth 100000 in
theorem c_X2_evenestMix (l : Launch) (D : va_G) (G : Nat → ClassId) (p_pl : Nat) (p_ato : Nat) (p_acu : Nat) (p_aic : Nat) (p_ade : Nat) (p_mayBe : Int32) (p_lastMix : Int32) (p_cutCount : Int32) (p_lesser : Int32) (p_greater : Int32) (p_told : Nat → Int32) (post : Int32 → Prop) (hw : wp_X2_evenestMix p_mayBe p_lastMix p_told post) : Met l yX2_evenestMix wsX2_evenestMix ({ frames := 2, cells := 0, slots := 0, locals := 42 } : Room) (va_Pc [.ref p_pl] (xR D G [(p_pl, .inr (2, [.int p_mayBe, .int p_lastMix, .ref p_ato, .ref p_acu, .int p_cutCount, .ref p_aic, .ref p_ade, .int p_lesser, .int p_greater])), (p_ato, .inl (G 0, 256, .inl p_told))])) (vp_Si post) 0 0 (fun _ => False) := by
  refine Met.ofW (cc := cX2_evenestMix) (maxL := 4) (ret := (some .int)) (by decide) rfl ?_
  intro p e s m args below meth c s₁ B hml hv
  obtain ⟨rfl, hP, hK⟩ := hv
  have hx := B.exec
  have hb := B.bytes
  have hr := B.returns
  have hts := atoms_spec (ws := wsX2_evenestMix) B.pre
  have hown : s.vm.findClass RX2 = some m.cls := findClass_of_methodNamed B.named
  have hlocks := B.notSynchronized
  have inX2 : ∀ w ∈ wsX20, w ∈ wsX2_evenestMix := by decide +kernel
  have fl9 := hts (.fieldLink RX2 9 "NewsCow$Plan" "mayBe" "I") (by decide +kernel)
  have fl15 := hts (.fieldLink RX2 15 "NewsCow$Plan" "lastMix" "I") (by decide +kernel)
  have hl := lv_entry ([.ref p_pl] : List Value) (n := 4) (Nat.le_of_ble_eq_true rfl)
  rw [lg_entry_eq]
  generalize (lg_sl ([.ref p_pl] : List Value) ++ List.replicate (4 - (lg_sl ([.ref p_pl] : List Value)).length) Slot.unset).toArray = ls at hl ⊢
  have hl : lv_has ls 4 [(0, .ref p_pl)] := hl
  unfold wp_X2_evenestMix at hw
  have L21 : ∀ (f21 : Nat) (x1 : Int32) (x2 : Int32) (x3 : Int32) (ls : Array Slot), wp_X2_evenestMix_L21 p_mayBe p_lastMix p_told post f21 x1 x2 x3 → lv_has ls 4 [(0, .ref p_pl), (1, .int x1), (2, .int x2), (3, .int x3)] → W p l e (headSpec wsX2_evenestMix ({ frames := 2, cells := 0, slots := 0, locals := 42 } : Room)).room s m ([.ref p_pl] : List Value).toArray below meth c s.heap [] 0 0 (MQ below (vp_Si post) ([.ref p_pl] : List Value).toArray s 0 0 (fun _ => False)) (F0 m 21 ls []) := by
    intro f21
    induction f21 with
    | zero => intro x1 x2 x3 ls hw hl; exact (hw : False).elim
    | succ f21 ih21 =>
      intro x1 x2 x3 ls hw hl
      unfold wp_X2_evenestMix_L21 at hw
      refine lv_iload_n hx hb dX2_evenestMix_21 rfl (lv_at hl 3 rfl) ?_
      refine lv_aload_n hx hb dX2_evenestMix_22 rfl (lv_at hl 0 rfl) ?_
      refine va_get (D := D) (ci := 2) (v := .int p_lastMix) (C := RX2) (T := TX2) (N := 9) hx hb hts inX2 hown hK hP 0 rfl rfl 1 (by decide) fl15 (fun _ h9 => h9) rfl dX2_evenestMix_23 ?_
      refine lv_icmp_gt (tgt := 52) hx hb dX2_evenestMix_26 (by decide) (fun c9 => ?_) (fun c9 => ?_)
      · replace hw := hw.1 c9
        refine lv_iload_n hx hb dX2_evenestMix_52 rfl (lv_at hl 1 rfl) ?_
        exact W.iret hx hb hr (fun t ht _ => ⟨_, rfl, hw, ht⟩) (fun _ h => absurd h List.not_mem_nil) dX2_evenestMix_53
      · replace hw := hw.2 c9
        refine lv_aload_n hx hb dX2_evenestMix_29 rfl (lv_at hl 0 rfl) ?_
        refine lv_iload_n hx hb dX2_evenestMix_30 rfl (lv_at hl 3 rfl) ?_
        refine vp_callSi (W.runV (As := [.int x3]) (rest := []) ⟨hx, hb, hml, hown, hts⟩ (c_X2_greaterPart l D G p_pl p_ato p_acu p_aic p_ade p_mayBe p_lastMix p_cutCount p_lesser p_greater p_told x3 _ hw) (cwV 1 hts gX2_evenestMix_X2_greaterPart rfl rfl rfl (by decide +kernel) ⟨(Nat.le_of_ble_eq_true rfl), (Nat.le_of_ble_eq_true rfl)⟩) (xR_pv (hP.sub [0, 1] rfl) hK (va_recv hK hP (ci := 2) (q0 := 0) rfl rfl)) rfl rfl hl.1 rfl (lv_room (Nat.le_of_ble_eq_true rfl)) dX2_evenestMix_31 ⟨Nat.zero_le _, Nat.zero_le _⟩) (fun r2 hw => ?_)
        refine lv_iload_n hx hb dX2_evenestMix_34 rfl (lv_at hl 2 rfl) ?_
        refine lv_icmp_ge (tgt := 46) hx hb dX2_evenestMix_35 (by decide) (fun c9 => ?_) (fun c9 => ?_)
        · replace hw := hw.1 c9
          refine lv_iinc (v := (x3 + 1)) (lv' := [(3, .int (x3 + 1)), (0, .ref p_pl), (1, .int x1), (2, .int x2)]) hx hb dX2_evenestMix_46 hl (k := 3) rfl (by first | rfl | decide) (by decide) rfl (fun ls hl => ?_)
          refine lv_goto (tgt := 21) hx hb dX2_evenestMix_49 (by decide) ?_
          exact ih21 x1 x2 (x3 + 1) _ hw (lv_sub hl [1, 2, 3, 0] rfl)
        · replace hw := hw.2 c9
          refine lv_iload_n hx hb dX2_evenestMix_38 rfl (lv_at hl 3 rfl) ?_
          refine lv_istore_n (lv' := [(1, .int x3), (0, .ref p_pl), (2, .int x2), (3, .int x3)]) hx hb dX2_evenestMix_39 rfl hl (by decide) rfl (fun ls hl => ?_)
          refine lv_aload_n hx hb dX2_evenestMix_40 rfl (lv_at hl 1 rfl) ?_
          refine lv_iload_n hx hb dX2_evenestMix_41 rfl (lv_at hl 3 rfl) ?_
          refine vp_callSi (W.runV (As := [.int x3]) (rest := []) ⟨hx, hb, hml, hown, hts⟩ (c_X2_greaterPart l D G p_pl p_ato p_acu p_aic p_ade p_mayBe p_lastMix p_cutCount p_lesser p_greater p_told x3 _ hw) (cwV 1 hts gX2_evenestMix_X2_greaterPart rfl rfl rfl (by decide +kernel) ⟨(Nat.le_of_ble_eq_true rfl), (Nat.le_of_ble_eq_true rfl)⟩) (xR_pv (hP.sub [0, 1] rfl) hK (va_recv hK hP (ci := 2) (q0 := 0) rfl rfl)) rfl rfl hl.1 rfl (lv_room (Nat.le_of_ble_eq_true rfl)) dX2_evenestMix_42 ⟨Nat.zero_le _, Nat.zero_le _⟩) (fun r3 hw => ?_)
          refine lv_istore_n (lv' := [(2, .int r3), (1, .int x3), (0, .ref p_pl), (3, .int x3)]) hx hb dX2_evenestMix_45 rfl hl (by decide) rfl (fun ls hl => ?_)
          refine lv_iinc (v := (x3 + 1)) (lv' := [(3, .int (x3 + 1)), (2, .int r3), (1, .int x3), (0, .ref p_pl)]) hx hb dX2_evenestMix_46 hl (k := 3) rfl (by first | rfl | decide) (by decide) rfl (fun ls hl => ?_)
          refine lv_goto (tgt := 21) hx hb dX2_evenestMix_49 (by decide) ?_
          exact ih21 x3 r3 (x3 + 1) _ hw (lv_sub hl [3, 2, 1, 0] rfl)
  refine lv_aload_n hx hb dX2_evenestMix_0 rfl (lv_at hl 0 rfl) ?_
  refine va_get (D := D) (ci := 2) (v := .int p_mayBe) (C := RX2) (T := TX2) (N := 9) hx hb hts inX2 hown hK hP 0 rfl rfl 0 (by decide) fl9 (fun _ h9 => h9) rfl dX2_evenestMix_1 ?_
  refine vp_callSi (W.runS (As := [.int p_mayBe]) (rest := []) ⟨hx, hb, hml, hown, hts⟩ (c_X2_isOneAtMost l D G p_mayBe _ hw) (va_cwS 1 hts gX2_evenestMix_X2_isOneAtMost rfl rfl rfl (by decide +kernel) ⟨(Nat.le_of_ble_eq_true rfl), (Nat.le_of_ble_eq_true rfl)⟩) (xR_ps (hP.sub [] rfl) hK) rfl rfl hl.1 rfl (lv_room (Nat.le_of_ble_eq_true rfl)) dX2_evenestMix_4 ⟨Nat.zero_le _, Nat.zero_le _⟩) (fun r1 hw => ?_)
  refine lv_if_eq (tgt := 13) hx hb dX2_evenestMix_7 (by decide) (fun c9 => ?_) (fun c9 => ?_)
  · replace hw := hw.1 c9
    refine lv_bipush (v := -4) hx hb dX2_evenestMix_13 (by decide) ?_
    refine lv_istore_n (lv' := [(1, .int (-4 : Int32)), (0, .ref p_pl)]) hx hb dX2_evenestMix_15 rfl hl (by decide) rfl (fun ls hl => ?_)
    refine lv_bipush (v := 9) hx hb dX2_evenestMix_16 (by decide) ?_
    refine lv_istore_n (lv' := [(2, .int (9 : Int32)), (1, .int (-4 : Int32)), (0, .ref p_pl)]) hx hb dX2_evenestMix_18 rfl hl (by decide) rfl (fun ls hl => ?_)
    refine lv_iconst (v := 1) hx hb dX2_evenestMix_19 (by decide) ?_
    refine lv_istore_n (lv' := [(3, .int (1 : Int32)), (2, .int (9 : Int32)), (1, .int (-4 : Int32)), (0, .ref p_pl)]) hx hb dX2_evenestMix_20 rfl hl (by decide) rfl (fun ls hl => ?_)
    obtain ⟨n, hw⟩ := hw
    exact L21 n (-4 : Int32) (9 : Int32) (1 : Int32) _ hw (lv_sub hl [3, 2, 1, 0] rfl)
  · replace hw := hw.2 c9
    refine lv_bipush (v := -4) hx hb dX2_evenestMix_10 (by decide) ?_
    exact W.iret hx hb hr (fun t ht _ => ⟨_, rfl, hw, ht⟩) (fun _ h => absurd h List.not_mem_nil) dX2_evenestMix_12
set_option maxHeartbeats 4000000 in
set_option maxRecDepth 100000 in
theorem c_X4_valueAt (l : Launch) (D : va_G) (G : Nat → ClassId) (s_sh : Nat) (s_ait : Nat) (s_lane : Int32) (s_size : Int32) (s_items : Nat → Int64) (x1 : Int32) (post : Int64 → Prop) (hw : wp_X4_valueAt s_items x1 post) : Met l yX4_valueAt wsX4_valueAt ({ frames := 0, cells := 0, slots := 0, locals := 0 } : Room) (va_Pc [.ref s_sh, .int x1] (xR D G [(s_sh, .inr (4, [.ref s_ait, .int s_lane, .int s_size])), (s_ait, .inl (G 1, 24, .inr (.inl s_items)))])) (vp_Sl post) 0 0 (fun _ => False) := by
  refine Met.ofW (cc := cX4_valueAt) (maxL := 2) (ret := (some .long)) (by decide) rfl ?_
  intro p e s m args below meth c s₁ B hml hv
  obtain ⟨rfl, hP, hK⟩ := hv
  have hx := B.exec
  have hb := B.bytes
  have hr := B.returns
  have hts := atoms_spec (ws := wsX4_valueAt) B.pre
  have hown : s.vm.findClass RX4 = some m.cls := findClass_of_methodNamed B.named
  have hlocks := B.notSynchronized
  have inX4 : ∀ w ∈ wsX40, w ∈ wsX4_valueAt := by decide +kernel
  have fl9 := hts (.fieldLink RX4 9 "NewsCow$Sheet" "items" "[J") (by decide +kernel)
  have hl := lv_entry ([.ref s_sh, .int x1] : List Value) (n := 2) (Nat.le_of_ble_eq_true rfl)
  rw [lg_entry_eq]
  generalize (lg_sl ([.ref s_sh, .int x1] : List Value) ++ List.replicate (2 - (lg_sl ([.ref s_sh, .int x1] : List Value)).length) Slot.unset).toArray = ls at hl ⊢
  have hl : lv_has ls 2 [(0, .ref s_sh), (1, .int x1)] := hl
  unfold wp_X4_valueAt at hw
  refine lv_aload_n hx hb dX4_valueAt_0 rfl (lv_at hl 0 rfl) ?_
  refine va_get (D := D) (ci := 4) (v := .ref s_ait) (C := RX4) (T := TX4) (N := 3) hx hb hts inX4 hown hK hP 0 rfl rfl 0 (by decide) fl9 (fun _ h9 => h9) rfl dX4_valueAt_1 ?_
  refine lv_iload_n hx hb dX4_valueAt_4 rfl (lv_at hl 1 rfl) ?_
  refine x_lald (j := x1.toNatClampNeg) hx hb hK hP 1 1 rfl rfl rfl hw.1 dX4_valueAt_5 ?_
  replace hw := hw.2
  exact W.lret hx hb hr (fun t ht _ => ⟨_, rfl, hw, ht⟩) (fun _ h => absurd h List.not_mem_nil) dX4_valueAt_6
