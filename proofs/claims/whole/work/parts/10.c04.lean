set_option maxHeartbeats 4000000 in
set_option maxRecDepth 100000 in
theorem c_X6_sortLastTwo (l : Launch) (D : va_G) (G : Nat → ClassId) (sz : Nat) (r_tr : Nat) (r_aor : Nat) (r_size : Int32) (r_order : Nat → Int32) (post : (Nat → Int32) → Prop) (hw : wp_X6_sortLastTwo r_size r_order post) : Met l yX6_sortLastTwo wsX6_sortLastTwo ({ frames := 0, cells := 0, slots := 0, locals := 0 } : Room) (va_Pc [.ref r_tr] (xM D G sz [(r_tr, .inr (6, [.ref r_aor, .int r_size])), (r_aor, .inl (G 0, 8, .inl r_order))])) (va_Qv (fun (u : (Nat → Int32)) => post u) (fun u t => xE D G (va_A [(r_tr, .inr (6, [.ref r_aor, .int r_size])), (r_aor, .inl (G 0, 8, .inl r_order))] sz) [(r_tr, .inr (6, [.ref r_aor, .int r_size])), (r_aor, .inl (G 0, 8, .inl u))] t) (va_A [(r_tr, .inr (6, [.ref r_aor, .int r_size])), (r_aor, .inl (G 0, 8, .inl r_order))] sz)) 0 0 (va_A [(r_tr, .inr (6, [.ref r_aor, .int r_size])), (r_aor, .inl (G 0, 8, .inl r_order))] sz) := by
  refine Met.ofW (cc := cX6_sortLastTwo) (maxL := 2) (ret := none) (by decide) rfl ?_
  intro p e s m args below meth c s₁ B hml hv
  obtain ⟨rfl, hsz, hP, hK, hD0⟩ := hv
  have hx := B.exec
  have hb := B.bytes
  have hr := B.returns
  have hts := atoms_spec (ws := wsX6_sortLastTwo) B.pre
  have hown : s.vm.findClass RX6 = some m.cls := findClass_of_methodNamed B.named
  have hlocks := B.notSynchronized
  subst hsz
  have hD := hD0.self (sz := s.heap.size)
  generalize hAe : va_A [(r_tr, .inr (6, [.ref r_aor, .int r_size])), (r_aor, .inl (G 0, 8, .inl r_order))] s.heap.size = A at hD ⊢
  have hA : ∀ q : Nat, s.heap.size ≤ q → A q := fun q h => by rw [← hAe]; exact Or.inr h
  have hS : va_S A s.heap s.heap [] := va_S.rf
  have inX6 : ∀ w ∈ wsX60, w ∈ wsX6_sortLastTwo := by decide +kernel
  have fl15 := hts (.fieldLink RX6 15 "NewsCow$Trials" "size" "I") (by decide +kernel)
  have fl9 := hts (.fieldLink RX6 9 "NewsCow$Trials" "order" "[I") (by decide +kernel)
  have hl := lv_entry ([.ref r_tr] : List Value) (n := 2) (Nat.le_of_ble_eq_true rfl)
  rw [lg_entry_eq]
  generalize (lg_sl ([.ref r_tr] : List Value) ++ List.replicate (2 - (lg_sl ([.ref r_tr] : List Value)).length) Slot.unset).toArray = ls at hl ⊢
  have hl : lv_has ls 2 [(0, .ref r_tr)] := hl
  unfold wp_X6_sortLastTwo at hw
  refine lv_aload_n hx hb dX6_sortLastTwo_0 rfl (lv_at hl 0 rfl) ?_
  refine va_get (D := D) (ci := 6) (v := .int r_size) (C := RX6) (T := TX6) (N := 2) hx hb hts inX6 hown hK hP 0 rfl rfl 1 (by decide) fl15 (fun _ h9 => h9) rfl dX6_sortLastTwo_1 ?_
  refine lv_iconst (v := 2) hx hb dX6_sortLastTwo_4 (by decide) ?_
  refine lv_icmp_lt (tgt := 79) hx hb dX6_sortLastTwo_5 (by decide) (fun c9 => ?_) (fun c9 => ?_)
  · replace hw := hw.1 c9
    exact W.vret hx hb hr (x_mv (u := r_order) hP hK hD hS hw) hS.2.2 dX6_sortLastTwo_79
  · replace hw := hw.2 c9
    refine lv_aload_n hx hb dX6_sortLastTwo_8 rfl (lv_at hl 0 rfl) ?_
    refine va_get (D := D) (ci := 6) (v := .ref r_aor) (C := RX6) (T := TX6) (N := 2) hx hb hts inX6 hown hK hP 0 rfl rfl 0 (by decide) fl9 (fun _ h9 => h9) rfl dX6_sortLastTwo_9 ?_
    refine lv_aload_n hx hb dX6_sortLastTwo_12 rfl (lv_at hl 0 rfl) ?_
    refine va_get (D := D) (ci := 6) (v := .int r_size) (C := RX6) (T := TX6) (N := 2) hx hb hts inX6 hown hK hP 0 rfl rfl 1 (by decide) fl15 (fun _ h9 => h9) rfl dX6_sortLastTwo_13 ?_
    refine lv_iconst (v := 2) hx hb dX6_sortLastTwo_16 (by decide) ?_
    refine lv_isub hx hb dX6_sortLastTwo_17 ?_
    refine x_iald (j := (r_size - (2 : Int32)).toNatClampNeg) hx hb hK hP 1 0 rfl rfl rfl hw.1 dX6_sortLastTwo_18 ?_
    replace hw := hw.2
    refine lv_aload_n hx hb dX6_sortLastTwo_19 rfl (lv_at hl 0 rfl) ?_
    refine va_get (D := D) (ci := 6) (v := .ref r_aor) (C := RX6) (T := TX6) (N := 2) hx hb hts inX6 hown hK hP 0 rfl rfl 0 (by decide) fl9 (fun _ h9 => h9) rfl dX6_sortLastTwo_20 ?_
    refine lv_aload_n hx hb dX6_sortLastTwo_23 rfl (lv_at hl 0 rfl) ?_
    refine va_get (D := D) (ci := 6) (v := .int r_size) (C := RX6) (T := TX6) (N := 2) hx hb hts inX6 hown hK hP 0 rfl rfl 1 (by decide) fl15 (fun _ h9 => h9) rfl dX6_sortLastTwo_24 ?_
    refine lv_iconst (v := 1) hx hb dX6_sortLastTwo_27 (by decide) ?_
    refine lv_isub hx hb dX6_sortLastTwo_28 ?_
    refine x_iald (j := (r_size - (1 : Int32)).toNatClampNeg) hx hb hK hP 1 0 rfl rfl rfl hw.1 dX6_sortLastTwo_29 ?_
    replace hw := hw.2
    refine lv_icmp_le (tgt := 79) hx hb dX6_sortLastTwo_30 (by decide) (fun c9 => ?_) (fun c9 => ?_)
    · replace hw := hw.1 c9
      exact W.vret hx hb hr (x_mv (u := r_order) hP hK hD hS hw) hS.2.2 dX6_sortLastTwo_79
    · replace hw := hw.2 c9
      refine lv_aload_n hx hb dX6_sortLastTwo_33 rfl (lv_at hl 0 rfl) ?_
      refine va_get (D := D) (ci := 6) (v := .ref r_aor) (C := RX6) (T := TX6) (N := 2) hx hb hts inX6 hown hK hP 0 rfl rfl 0 (by decide) fl9 (fun _ h9 => h9) rfl dX6_sortLastTwo_34 ?_
      refine lv_aload_n hx hb dX6_sortLastTwo_37 rfl (lv_at hl 0 rfl) ?_
      refine va_get (D := D) (ci := 6) (v := .int r_size) (C := RX6) (T := TX6) (N := 2) hx hb hts inX6 hown hK hP 0 rfl rfl 1 (by decide) fl15 (fun _ h9 => h9) rfl dX6_sortLastTwo_38 ?_
      refine lv_iconst (v := 1) hx hb dX6_sortLastTwo_41 (by decide) ?_
      refine lv_isub hx hb dX6_sortLastTwo_42 ?_
      refine x_iald (j := (r_size - (1 : Int32)).toNatClampNeg) hx hb hK hP 1 0 rfl rfl rfl hw.1 dX6_sortLastTwo_43 ?_
      replace hw := hw.2
      refine lv_istore_n (lv' := [(1, .int (r_order (r_size - (1 : Int32)).toNatClampNeg)), (0, .ref r_tr)]) hx hb dX6_sortLastTwo_44 rfl hl (by decide) rfl (fun ls hl => ?_)
      refine lv_aload_n hx hb dX6_sortLastTwo_45 rfl (lv_at hl 1 rfl) ?_
      refine va_get (D := D) (ci := 6) (v := .ref r_aor) (C := RX6) (T := TX6) (N := 2) hx hb hts inX6 hown hK hP 0 rfl rfl 0 (by decide) fl9 (fun _ h9 => h9) rfl dX6_sortLastTwo_46 ?_
      refine lv_aload_n hx hb dX6_sortLastTwo_49 rfl (lv_at hl 1 rfl) ?_
      refine va_get (D := D) (ci := 6) (v := .int r_size) (C := RX6) (T := TX6) (N := 2) hx hb hts inX6 hown hK hP 0 rfl rfl 1 (by decide) fl15 (fun _ h9 => h9) rfl dX6_sortLastTwo_50 ?_
      refine lv_iconst (v := 1) hx hb dX6_sortLastTwo_53 (by decide) ?_
      refine lv_isub hx hb dX6_sortLastTwo_54 ?_
      refine lv_aload_n hx hb dX6_sortLastTwo_55 rfl (lv_at hl 1 rfl) ?_
      refine va_get (D := D) (ci := 6) (v := .ref r_aor) (C := RX6) (T := TX6) (N := 2) hx hb hts inX6 hown hK hP 0 rfl rfl 0 (by decide) fl9 (fun _ h9 => h9) rfl dX6_sortLastTwo_56 ?_
      refine lv_aload_n hx hb dX6_sortLastTwo_59 rfl (lv_at hl 1 rfl) ?_
      refine va_get (D := D) (ci := 6) (v := .int r_size) (C := RX6) (T := TX6) (N := 2) hx hb hts inX6 hown hK hP 0 rfl rfl 1 (by decide) fl15 (fun _ h9 => h9) rfl dX6_sortLastTwo_60 ?_
      refine lv_iconst (v := 2) hx hb dX6_sortLastTwo_63 (by decide) ?_
      refine lv_isub hx hb dX6_sortLastTwo_64 ?_
      refine x_iald (j := (r_size - (2 : Int32)).toNatClampNeg) hx hb hK hP 1 0 rfl rfl rfl hw.1 dX6_sortLastTwo_65 ?_
      replace hw := hw.2
      refine x_iast (j := (r_size - (1 : Int32)).toNatClampNeg) hx hb hK hP hD hS 1 0 rfl rfl rfl hw.1 dX6_sortLastTwo_66 (fun H locs hP hD hS => ?_)
      replace hw := hw.2
      replace hP : va_P D vwCl [(r_tr, .inr (6, [.ref r_aor, .int r_size])), (r_aor, .inl (G 0, 8, .inl (upd r_order (r_size - (1 : Int32)).toNatClampNeg (r_order (r_size - (2 : Int32)).toNatClampNeg))))] H := hP
      replace hD : va_D A [(r_tr, .inr (6, [.ref r_aor, .int r_size])), (r_aor, .inl (G 0, 8, .inl (upd r_order (r_size - (1 : Int32)).toNatClampNeg (r_order (r_size - (2 : Int32)).toNatClampNeg))))] := hD
      refine lv_aload_n hx hb dX6_sortLastTwo_67 rfl (lv_at hl 1 rfl) ?_
      refine va_get (D := D) (ci := 6) (v := .ref r_aor) (C := RX6) (T := TX6) (N := 2) hx hb hts inX6 hown hK hP 0 rfl rfl 0 (by decide) fl9 (fun _ h9 => h9) rfl dX6_sortLastTwo_68 ?_
      refine lv_aload_n hx hb dX6_sortLastTwo_71 rfl (lv_at hl 1 rfl) ?_
      refine va_get (D := D) (ci := 6) (v := .int r_size) (C := RX6) (T := TX6) (N := 2) hx hb hts inX6 hown hK hP 0 rfl rfl 1 (by decide) fl15 (fun _ h9 => h9) rfl dX6_sortLastTwo_72 ?_
      refine lv_iconst (v := 2) hx hb dX6_sortLastTwo_75 (by decide) ?_
      refine lv_isub hx hb dX6_sortLastTwo_76 ?_
      refine lv_iload_n hx hb dX6_sortLastTwo_77 rfl (lv_at hl 0 rfl) ?_
      refine x_iast (j := (r_size - (2 : Int32)).toNatClampNeg) hx hb hK hP hD hS 1 0 rfl rfl rfl hw.1 dX6_sortLastTwo_78 (fun H locs hP hD hS => ?_)
      replace hw := hw.2
      replace hP : va_P D vwCl [(r_tr, .inr (6, [.ref r_aor, .int r_size])), (r_aor, .inl (G 0, 8, .inl (upd (upd r_order (r_size - (1 : Int32)).toNatClampNeg (r_order (r_size - (2 : Int32)).toNatClampNeg)) (r_size - (2 : Int32)).toNatClampNeg (r_order (r_size - (1 : Int32)).toNatClampNeg))))] H := hP
      replace hD : va_D A [(r_tr, .inr (6, [.ref r_aor, .int r_size])), (r_aor, .inl (G 0, 8, .inl (upd (upd r_order (r_size - (1 : Int32)).toNatClampNeg (r_order (r_size - (2 : Int32)).toNatClampNeg)) (r_size - (2 : Int32)).toNatClampNeg (r_order (r_size - (1 : Int32)).toNatClampNeg))))] := hD
      exact W.vret hx hb hr (x_mv (u := (upd (upd r_order (r_size - (1 : Int32)).toNatClampNeg (r_order (r_size - (2 : Int32)).toNatClampNeg)) (r_size - (2 : Int32)).toNatClampNeg (r_order (r_size - (1 : Int32)).toNatClampNeg))) hP hK hD hS hw) hS.2.2 dX6_sortLastTwo_79
set_option maxHeartbeats 4000000 in
set_option maxRecDepth 100000 in
theorem c_X6_arrange (l : Launch) (D : va_G) (G : Nat → ClassId) (sz : Nat) (r_tr : Nat) (r_aor : Nat) (da : Nat) (ami : Nat) (aki : Nat) (afi : Nat) (anw : Nat) (apa : Nat) (r_size : Int32) (r_order : Nat → Int32) (cows : Int32) (tasters : Int32) (newest : Int32) (known : Int32) (milks : Nat → Int32) (mayBe : Int32) (bearer : Int32) (day : Int32) (draw : Int32) (post : Int32 → (Nat → Int32) → Prop) (hw : wp_X6_arrange r_order cows milks mayBe post) : Met l yX6_arrange wsX6_arrange ({ frames := 1, cells := 0, slots := 0, locals := 23 } : Room) (va_Pc [.ref r_tr, .ref da] (xM D G sz [(r_tr, .inr (6, [.ref r_aor, .int r_size])), (r_aor, .inl (G 0, 8, .inl r_order)), (da, .inr (0, [.ref ami, .int cows, .ref aki, .ref afi, .int tasters, .ref anw, .ref apa, .int newest, .int known])), (ami, .inl (G 0, 8, .inl milks)), (anw, .inr (1, [.int mayBe, .int bearer, .int day, .int draw]))])) (va_Qv (fun (u : Int32 × (Nat → Int32)) => post u.1 u.2) (fun u t => xE D G (va_A [(r_tr, .inr (6, [.ref r_aor, .int r_size])), (r_aor, .inl (G 0, 8, .inl r_order)), (da, .inr (0, [.ref ami, .int cows, .ref aki, .ref afi, .int tasters, .ref anw, .ref apa, .int newest, .int known])), (ami, .inl (G 0, 8, .inl milks)), (anw, .inr (1, [.int mayBe, .int bearer, .int day, .int draw]))] sz) [(r_tr, .inr (6, [.ref r_aor, .int u.1])), (r_aor, .inl (G 0, 8, .inl (u.2))), (da, .inr (0, [.ref ami, .int cows, .ref aki, .ref afi, .int tasters, .ref anw, .ref apa, .int newest, .int known])), (ami, .inl (G 0, 8, .inl milks)), (anw, .inr (1, [.int mayBe, .int bearer, .int day, .int draw]))] t) (va_A [(r_tr, .inr (6, [.ref r_aor, .int r_size])), (r_aor, .inl (G 0, 8, .inl r_order)), (da, .inr (0, [.ref ami, .int cows, .ref aki, .ref afi, .int tasters, .ref anw, .ref apa, .int newest, .int known])), (ami, .inl (G 0, 8, .inl milks)), (anw, .inr (1, [.int mayBe, .int bearer, .int day, .int draw]))] sz)) 0 0 (va_A [(r_tr, .inr (6, [.ref r_aor, .int r_size])), (r_aor, .inl (G 0, 8, .inl r_order)), (da, .inr (0, [.ref ami, .int cows, .ref aki, .ref afi, .int tasters, .ref anw, .ref apa, .int newest, .int known])), (ami, .inl (G 0, 8, .inl milks)), (anw, .inr (1, [.int mayBe, .int bearer, .int day, .int draw]))] sz) := by
  refine Met.ofW (cc := cX6_arrange) (maxL := 3) (ret := none) (by decide) rfl ?_
  intro p e s m args below meth c s₁ B hml hv
  obtain ⟨rfl, hsz, hP, hK, hD0⟩ := hv
  have hx := B.exec
  have hb := B.bytes
  have hr := B.returns
  have hts := atoms_spec (ws := wsX6_arrange) B.pre
  have hown : s.vm.findClass RX6 = some m.cls := findClass_of_methodNamed B.named
  have hlocks := B.notSynchronized
  subst hsz
  have hD := hD0.self (sz := s.heap.size)
  generalize hAe : va_A [(r_tr, .inr (6, [.ref r_aor, .int r_size])), (r_aor, .inl (G 0, 8, .inl r_order)), (da, .inr (0, [.ref ami, .int cows, .ref aki, .ref afi, .int tasters, .ref anw, .ref apa, .int newest, .int known])), (ami, .inl (G 0, 8, .inl milks)), (anw, .inr (1, [.int mayBe, .int bearer, .int day, .int draw]))] s.heap.size = A at hD ⊢
  have hA : ∀ q : Nat, s.heap.size ≤ q → A q := fun q h => by rw [← hAe]; exact Or.inr h
  have hS : va_S A s.heap s.heap [] := va_S.rf
  have inX0 : ∀ w ∈ wsX00, w ∈ wsX6_arrange := by decide +kernel
  have inX1 : ∀ w ∈ wsX10, w ∈ wsX6_arrange := by decide +kernel
  have inX6 : ∀ w ∈ wsX60, w ∈ wsX6_arrange := by decide +kernel
  have fl15 := hts (.fieldLink RX6 15 "NewsCow$Trials" "size" "I") (by decide +kernel)
  have fl19 := hts (.fieldLink RX6 19 "NewsCow$Dairy" "cows" "I") (by decide +kernel)
  have fl24 := hts (.fieldLink RX6 24 "NewsCow$Dairy" "now" "LNewsCow$Moment;") (by decide +kernel)
  have fl28 := hts (.fieldLink RX6 28 "NewsCow$Moment" "mayBe" "I") (by decide +kernel)
  have hl := lv_entry ([.ref r_tr, .ref da] : List Value) (n := 3) (Nat.le_of_ble_eq_true rfl)
  rw [lg_entry_eq]
  generalize (lg_sl ([.ref r_tr, .ref da] : List Value) ++ List.replicate (3 - (lg_sl ([.ref r_tr, .ref da] : List Value)).length) Slot.unset).toArray = ls at hl ⊢
  have hl : lv_has ls 3 [(0, .ref r_tr), (1, .ref da)] := hl
  unfold wp_X6_arrange at hw
  have L7 : ∀ (f7 : Nat) (x2 : Int32) (r_size : Int32) (r_order : Nat → Int32) (H : Heap) (locs : List Loc) (ls : Array Slot), wp_X6_arrange_L7 cows milks mayBe post f7 r_size r_order x2 → va_P D vwCl [(r_tr, .inr (6, [.ref r_aor, .int r_size])), (r_aor, .inl (G 0, 8, .inl r_order)), (da, .inr (0, [.ref ami, .int cows, .ref aki, .ref afi, .int tasters, .ref anw, .ref apa, .int newest, .int known])), (ami, .inl (G 0, 8, .inl milks)), (anw, .inr (1, [.int mayBe, .int bearer, .int day, .int draw]))] H → va_D A [(r_tr, .inr (6, [.ref r_aor, .int r_size])), (r_aor, .inl (G 0, 8, .inl r_order)), (da, .inr (0, [.ref ami, .int cows, .ref aki, .ref afi, .int tasters, .ref anw, .ref apa, .int newest, .int known])), (ami, .inl (G 0, 8, .inl milks)), (anw, .inr (1, [.int mayBe, .int bearer, .int day, .int draw]))] → va_S A s.heap H locs → lv_has ls 3 [(0, .ref r_tr), (1, .ref da), (2, .int x2)] → W p l e (headSpec wsX6_arrange ({ frames := 1, cells := 0, slots := 0, locals := 23 } : Room)).room s m ([.ref r_tr, .ref da] : List Value).toArray below meth c H locs 0 0 (MQ below (va_Qv (fun (u : Int32 × (Nat → Int32)) => post u.1 u.2) (fun u t => xE D G A [(r_tr, .inr (6, [.ref r_aor, .int u.1])), (r_aor, .inl (G 0, 8, .inl (u.2))), (da, .inr (0, [.ref ami, .int cows, .ref aki, .ref afi, .int tasters, .ref anw, .ref apa, .int newest, .int known])), (ami, .inl (G 0, 8, .inl milks)), (anw, .inr (1, [.int mayBe, .int bearer, .int day, .int draw]))] t) A) ([.ref r_tr, .ref da] : List Value).toArray s 0 0 A) (F0 m 7 ls []) := by
    intro f7
    induction f7 with
    | zero => intro x2 r_size r_order H locs ls hw hP hD hS hl; exact (hw : False).elim
    | succ f7 ih7 =>
      intro x2 r_size r_order H locs ls hw hP hD hS hl
      unfold wp_X6_arrange_L7 at hw
      refine lv_iload_n hx hb dX6_arrange_7 rfl (lv_at hl 2 rfl) ?_
      refine lv_aload_n hx hb dX6_arrange_8 rfl (lv_at hl 1 rfl) ?_
      refine va_get (D := D) (ci := 0) (v := .int cows) (C := RX0) (T := TX0) (N := 9) hx hb hts inX0 hown hK hP 2 rfl rfl 1 (by decide) fl19 (fun _ h9 => h9) rfl dX6_arrange_9 ?_
      refine lv_icmp_ge (tgt := 42) hx hb dX6_arrange_12 (by decide) (fun c9 => ?_) (fun c9 => ?_)
      · replace hw := hw.1 c9
        refine lv_aload_n hx hb dX6_arrange_42 rfl (lv_at hl 0 rfl) ?_
        refine x_cMv (wr := [(da, .inr (0, [.ref ami, .int cows, .ref aki, .ref afi, .int tasters, .ref anw, .ref apa, .int newest, .int known])), (ami, .inl (G 0, 8, .inl milks)), (anw, .inr (1, [.int mayBe, .int bearer, .int day, .int draw]))]) (va_runV (As := []) (rest := []) ⟨hx, hb, hml, hown, hts⟩ (c_X6_sortLastTwo l D G _ r_tr r_aor r_size r_order _ hw) (cwV 0 hts gX6_arrange_X6_sortLastTwo rfl rfl rfl (by decide +kernel) ⟨(Nat.le_of_ble_eq_true rfl), (Nat.le_of_ble_eq_true rfl)⟩) (xM_pv (hP.sub [0, 1] rfl) hK (hD.sub [0, 1] (by decide) rfl) (va_recv hK hP (ci := 6) (q0 := 0) rfl rfl)) rfl rfl hl.1 rfl (lv_room (Nat.le_of_ble_eq_true rfl)) dX6_arrange_43 ⟨Nat.zero_le _, Nat.zero_le _⟩) hP hD hS hA [0, 1] [2, 3, 4] rfl rfl (by decide) (by decide) [3, 4, 0, 1, 2] (fun u => [(r_tr, .inr (6, [.ref r_aor, .int r_size])), (r_aor, .inl (G 0, 8, .inl u)), (da, .inr (0, [.ref ami, .int cows, .ref aki, .ref afi, .int tasters, .ref anw, .ref apa, .int newest, .int known])), (ami, .inl (G 0, 8, .inl milks)), (anw, .inr (1, [.int mayBe, .int bearer, .int day, .int draw]))]) (by decide) (fun u => rfl) (fun u H locs hw hP hD hS => ?_)
        obtain ⟨r_order_1, rfl⟩ : ∃ z, z = u := ⟨_, rfl⟩
        try dsimp only at hw
        replace hP : va_P D vwCl [(r_tr, .inr (6, [.ref r_aor, .int r_size])), (r_aor, .inl (G 0, 8, .inl r_order_1)), (da, .inr (0, [.ref ami, .int cows, .ref aki, .ref afi, .int tasters, .ref anw, .ref apa, .int newest, .int known])), (ami, .inl (G 0, 8, .inl milks)), (anw, .inr (1, [.int mayBe, .int bearer, .int day, .int draw]))] H := hP
        replace hD : va_D A [(r_tr, .inr (6, [.ref r_aor, .int r_size])), (r_aor, .inl (G 0, 8, .inl r_order_1)), (da, .inr (0, [.ref ami, .int cows, .ref aki, .ref afi, .int tasters, .ref anw, .ref apa, .int newest, .int known])), (ami, .inl (G 0, 8, .inl milks)), (anw, .inr (1, [.int mayBe, .int bearer, .int day, .int draw]))] := hD
        exact W.vret hx hb hr (x_mv (u := (r_size, r_order_1)) hP hK hD hS hw) hS.2.2 dX6_arrange_46
      · replace hw := hw.2 c9
        refine lv_aload_n hx hb dX6_arrange_15 rfl (lv_at hl 1 rfl) ?_
        refine va_get (D := D) (ci := 0) (v := .ref anw) (C := RX0) (T := TX0) (N := 9) hx hb hts inX0 hown hK hP 2 rfl rfl 5 (by decide) fl24 (fun _ h9 => h9) rfl dX6_arrange_16 ?_
        refine va_get (D := D) (ci := 1) (v := .int mayBe) (C := RX1) (T := TX1) (N := 4) hx hb hts inX1 hown hK hP 4 rfl rfl 0 (by decide) fl28 (fun _ h9 => h9) rfl dX6_arrange_19 ?_
        refine lv_iload_n hx hb dX6_arrange_22 rfl (lv_at hl 2 rfl) ?_
        refine lv_ishr hx hb dX6_arrange_23 ?_
        refine lv_iconst (v := 1) hx hb dX6_arrange_24 (by decide) ?_
        refine lv_iand hx hb dX6_arrange_25 ?_
        refine lv_iconst (v := 1) hx hb dX6_arrange_26 (by decide) ?_
        refine lv_icmp_ne (tgt := 36) hx hb dX6_arrange_27 (by decide) (fun c9 => ?_) (fun c9 => ?_)
        · replace hw := hw.1 c9
          refine lv_iinc (v := (x2 + 1)) (lv' := [(2, .int (x2 + 1)), (0, .ref r_tr), (1, .ref da)]) hx hb dX6_arrange_36 hl (k := 2) rfl (by first | rfl | decide) (by decide) rfl (fun ls hl => ?_)
          refine lv_goto (tgt := 7) hx hb dX6_arrange_39 (by decide) ?_
          exact ih7 (x2 + 1) r_size r_order _ _ _ hw hP hD hS (lv_sub hl [1, 2, 0] rfl)
        · replace hw := hw.2 c9
          refine lv_aload_n hx hb dX6_arrange_30 rfl (lv_at hl 0 rfl) ?_
          refine lv_aload_n hx hb dX6_arrange_31 rfl (lv_at hl 1 rfl) ?_
          refine lv_iload_n hx hb dX6_arrange_32 rfl (lv_at hl 2 rfl) ?_
          refine x_cMv (wr := [(anw, .inr (1, [.int mayBe, .int bearer, .int day, .int draw]))]) (va_runV (As := [.ref da, .int x2]) (rest := []) ⟨hx, hb, hml, hown, hts⟩ (c_X6_insert l D G _ r_tr r_aor da ami aki afi anw apa r_size r_order cows tasters newest known milks x2 _ hw) (cwV 2 hts gX6_arrange_X6_insert rfl rfl rfl (by decide +kernel) ⟨(Nat.le_of_ble_eq_true rfl), (Nat.le_of_ble_eq_true rfl)⟩) (xM_pv (hP.sub [0, 1, 2, 3] rfl) hK (hD.sub [0, 1, 2, 3] (by decide) rfl) (va_recv hK hP (ci := 6) (q0 := 0) rfl rfl)) rfl rfl hl.1 rfl (lv_room (Nat.le_of_ble_eq_true rfl)) dX6_arrange_33 ⟨Nat.zero_le _, Nat.zero_le _⟩) hP hD hS hA [0, 1, 2, 3] [4] rfl rfl (by decide) (by decide) [1, 2, 3, 4, 0] (fun u => [(r_tr, .inr (6, [.ref r_aor, .int u.1])), (r_aor, .inl (G 0, 8, .inl (u.2))), (da, .inr (0, [.ref ami, .int cows, .ref aki, .ref afi, .int tasters, .ref anw, .ref apa, .int newest, .int known])), (ami, .inl (G 0, 8, .inl milks)), (anw, .inr (1, [.int mayBe, .int bearer, .int day, .int draw]))]) (by decide) (fun u => rfl) (fun u H locs hw hP hD hS => ?_)
          obtain ⟨r_size_2, r_order_2⟩ := u
          try dsimp only at hw
          replace hP : va_P D vwCl [(r_tr, .inr (6, [.ref r_aor, .int r_size_2])), (r_aor, .inl (G 0, 8, .inl r_order_2)), (da, .inr (0, [.ref ami, .int cows, .ref aki, .ref afi, .int tasters, .ref anw, .ref apa, .int newest, .int known])), (ami, .inl (G 0, 8, .inl milks)), (anw, .inr (1, [.int mayBe, .int bearer, .int day, .int draw]))] H := hP
          replace hD : va_D A [(r_tr, .inr (6, [.ref r_aor, .int r_size_2])), (r_aor, .inl (G 0, 8, .inl r_order_2)), (da, .inr (0, [.ref ami, .int cows, .ref aki, .ref afi, .int tasters, .ref anw, .ref apa, .int newest, .int known])), (ami, .inl (G 0, 8, .inl milks)), (anw, .inr (1, [.int mayBe, .int bearer, .int day, .int draw]))] := hD
          refine lv_iinc (v := (x2 + 1)) (lv' := [(2, .int (x2 + 1)), (0, .ref r_tr), (1, .ref da)]) hx hb dX6_arrange_36 hl (k := 2) rfl (by first | rfl | decide) (by decide) rfl (fun ls hl => ?_)
          refine lv_goto (tgt := 7) hx hb dX6_arrange_39 (by decide) ?_
          exact ih7 (x2 + 1) r_size_2 r_order_2 _ _ _ hw hP hD hS (lv_sub hl [1, 2, 0] rfl)
  refine lv_aload_n hx hb dX6_arrange_0 rfl (lv_at hl 0 rfl) ?_
  refine lv_iconst (v := 0) hx hb dX6_arrange_1 (by decide) ?_
  refine va_put (D := D) (ci := 6) (v := .int (0 : Int32)) (ty := .int) (C := RX6) (T := TX6) (N := 2) hx hb hts inX6 tyX6 tyX6_ok nmX6 hown hK hP hD hS 0 rfl rfl 1 (by decide) fl15 (fun _ h9 => h9) rfl (by decide +kernel) rfl rfl (Nat.le_of_ble_eq_true rfl) dX6_arrange_2 (fun H locs hP hD hS => ?_)
  replace hP : va_P D vwCl [(r_tr, .inr (6, [.ref r_aor, .int (0 : Int32)])), (r_aor, .inl (G 0, 8, .inl r_order)), (da, .inr (0, [.ref ami, .int cows, .ref aki, .ref afi, .int tasters, .ref anw, .ref apa, .int newest, .int known])), (ami, .inl (G 0, 8, .inl milks)), (anw, .inr (1, [.int mayBe, .int bearer, .int day, .int draw]))] H := hP
  replace hD : va_D A [(r_tr, .inr (6, [.ref r_aor, .int (0 : Int32)])), (r_aor, .inl (G 0, 8, .inl r_order)), (da, .inr (0, [.ref ami, .int cows, .ref aki, .ref afi, .int tasters, .ref anw, .ref apa, .int newest, .int known])), (ami, .inl (G 0, 8, .inl milks)), (anw, .inr (1, [.int mayBe, .int bearer, .int day, .int draw]))] := hD
  refine lv_iconst (v := 0) hx hb dX6_arrange_5 (by decide) ?_
  refine lv_istore_n (lv' := [(2, .int (0 : Int32)), (0, .ref r_tr), (1, .ref da)]) hx hb dX6_arrange_6 rfl hl (by decide) rfl (fun ls hl => ?_)
  obtain ⟨n, hw⟩ := hw
  exact L7 n (0 : Int32) (0 : Int32) r_order _ _ _ hw hP hD hS (lv_sub hl [1, 2, 0] rfl)
set_option maxHeartbeats 4000000 in
set_option maxRecDepth 100000 in
theorem c_X6_allTrials (l : Launch) (D : va_G) (G : Nat → ClassId) (r_tr : Nat) (r_aor : Nat) (da : Nat) (ami : Nat) (aki : Nat) (afi : Nat) (anw : Nat) (apa : Nat) (r_size : Int32) (r_order : Nat → Int32) (cows : Int32) (tasters : Int32) (newest : Int32) (known : Int32) (milks : Nat → Int32) (post : Int32 → Prop) (hw : wp_X6_allTrials r_size r_order milks post) : Met l yX6_allTrials wsX6_allTrials ({ frames := 1, cells := 0, slots := 0, locals := 21 } : Room) (va_Pc [.ref r_tr, .ref da] (xR D G [(r_tr, .inr (6, [.ref r_aor, .int r_size])), (r_aor, .inl (G 0, 8, .inl r_order)), (da, .inr (0, [.ref ami, .int cows, .ref aki, .ref afi, .int tasters, .ref anw, .ref apa, .int newest, .int known])), (ami, .inl (G 0, 8, .inl milks))])) (vp_Si post) 0 0 (fun _ => False) := by
  refine Met.ofW (cc := cX6_allTrials) (maxL := 4) (ret := (some .int)) (by decide) rfl ?_
  intro p e s m args below meth c s₁ B hml hv
  obtain ⟨rfl, hP, hK⟩ := hv
  have hx := B.exec
  have hb := B.bytes
  have hr := B.returns
  have hts := atoms_spec (ws := wsX6_allTrials) B.pre
  have hown : s.vm.findClass RX6 = some m.cls := findClass_of_methodNamed B.named
  have hlocks := B.notSynchronized
  have inX0 : ∀ w ∈ wsX00, w ∈ wsX6_allTrials := by decide +kernel
  have inX6 : ∀ w ∈ wsX60, w ∈ wsX6_allTrials := by decide +kernel
  have fl15 := hts (.fieldLink RX6 15 "NewsCow$Trials" "size" "I") (by decide +kernel)
  have fl40 := hts (.fieldLink RX6 40 "NewsCow$Dairy" "milks" "[I") (by decide +kernel)
  have fl9 := hts (.fieldLink RX6 9 "NewsCow$Trials" "order" "[I") (by decide +kernel)
  have hl := lv_entry ([.ref r_tr, .ref da] : List Value) (n := 4) (Nat.le_of_ble_eq_true rfl)
  rw [lg_entry_eq]
  generalize (lg_sl ([.ref r_tr, .ref da] : List Value) ++ List.replicate (4 - (lg_sl ([.ref r_tr, .ref da] : List Value)).length) Slot.unset).toArray = ls at hl ⊢
  have hl : lv_has ls 4 [(0, .ref r_tr), (1, .ref da)] := hl
  unfold wp_X6_allTrials at hw
  have L4 : ∀ (f4 : Nat) (x2 : Int32) (x3 : Int32) (ls : Array Slot), wp_X6_allTrials_L4 r_size r_order milks post f4 x2 x3 → lv_has ls 4 [(0, .ref r_tr), (1, .ref da), (2, .int x2), (3, .int x3)] → W p l e (headSpec wsX6_allTrials ({ frames := 1, cells := 0, slots := 0, locals := 21 } : Room)).room s m ([.ref r_tr, .ref da] : List Value).toArray below meth c s.heap [] 0 0 (MQ below (vp_Si post) ([.ref r_tr, .ref da] : List Value).toArray s 0 0 (fun _ => False)) (F0 m 4 ls []) := by
    intro f4
    induction f4 with
    | zero => intro x2 x3 ls hw hl; exact (hw : False).elim
    | succ f4 ih4 =>
      intro x2 x3 ls hw hl
      unfold wp_X6_allTrials_L4 at hw
      refine lv_iload_n hx hb dX6_allTrials_4 rfl (lv_at hl 3 rfl) ?_
      refine lv_aload_n hx hb dX6_allTrials_5 rfl (lv_at hl 0 rfl) ?_
      refine va_get (D := D) (ci := 6) (v := .int r_size) (C := RX6) (T := TX6) (N := 2) hx hb hts inX6 hown hK hP 0 rfl rfl 1 (by decide) fl15 (fun _ h9 => h9) rfl dX6_allTrials_6 ?_
      refine lv_icmp_ge (tgt := 45) hx hb dX6_allTrials_9 (by decide) (fun c9 => ?_) (fun c9 => ?_)
      · replace hw := hw.1 c9
        refine lv_iload_n hx hb dX6_allTrials_45 rfl (lv_at hl 2 rfl) ?_
        exact W.iret hx hb hr (fun t ht _ => ⟨_, rfl, hw, ht⟩) (fun _ h => absurd h List.not_mem_nil) dX6_allTrials_46
      · replace hw := hw.2 c9
        refine lv_iload_n hx hb dX6_allTrials_12 rfl (lv_at hl 2 rfl) ?_
        refine lv_aload_n hx hb dX6_allTrials_13 rfl (lv_at hl 1 rfl) ?_
        refine va_get (D := D) (ci := 0) (v := .ref ami) (C := RX0) (T := TX0) (N := 9) hx hb hts inX0 hown hK hP 2 rfl rfl 0 (by decide) fl40 (fun _ h9 => h9) rfl dX6_allTrials_14 ?_
        refine lv_aload_n hx hb dX6_allTrials_17 rfl (lv_at hl 0 rfl) ?_
        refine va_get (D := D) (ci := 6) (v := .ref r_aor) (C := RX6) (T := TX6) (N := 2) hx hb hts inX6 hown hK hP 0 rfl rfl 0 (by decide) fl9 (fun _ h9 => h9) rfl dX6_allTrials_18 ?_
        refine lv_iload_n hx hb dX6_allTrials_21 rfl (lv_at hl 3 rfl) ?_
        refine x_iald (j := x3.toNatClampNeg) hx hb hK hP 1 0 rfl rfl rfl hw.1 dX6_allTrials_22 ?_
        replace hw := hw.2
        refine x_iald (j := (r_order x3.toNatClampNeg).toNatClampNeg) hx hb hK hP 3 0 rfl rfl rfl hw.1 dX6_allTrials_23 ?_
        replace hw := hw.2
        refine lv_iload_n hx hb dX6_allTrials_24 rfl (lv_at hl 3 rfl) ?_
        refine lv_iconst (v := 1) hx hb dX6_allTrials_25 (by decide) ?_
        refine lv_iadd hx hb dX6_allTrials_26 ?_
        refine lv_aload_n hx hb dX6_allTrials_27 rfl (lv_at hl 0 rfl) ?_
        refine va_get (D := D) (ci := 6) (v := .int r_size) (C := RX6) (T := TX6) (N := 2) hx hb hts inX6 hown hK hP 0 rfl rfl 1 (by decide) fl15 (fun _ h9 => h9) rfl dX6_allTrials_28 ?_
        refine lv_iconst (v := 1) hx hb dX6_allTrials_31 (by decide) ?_
        refine lv_isub hx hb dX6_allTrials_32 ?_
        refine va_mmin hx hb (hml.trans hl.1.symm) hown (hts (.methodLink RX6 43 Lib.Math.min.name) (by decide +kernel)) (hts (.static Lib.Math.min.name) (by decide +kernel)) (hts (.initialized "java/lang/Math") (by decide +kernel)) (hts (.code Lib.Math.min.name Lib.Math.min.code 2 (some .int)) (by decide +kernel)) (Nat.le_of_ble_eq_true rfl) (Nat.le_of_ble_eq_true rfl) (Nat.zero_le _) (Nat.zero_le _) dX6_allTrials_33 ?_
        refine lv_imul hx hb dX6_allTrials_36 ?_
        refine lv_iadd hx hb dX6_allTrials_37 ?_
        refine lv_istore_n (lv' := [(2, .int (x2 + ((milks (r_order x3.toNatClampNeg).toNatClampNeg) * (if (r_size - (1 : Int32)) < (x3 + (1 : Int32)) then (r_size - (1 : Int32)) else (x3 + (1 : Int32)))))), (0, .ref r_tr), (1, .ref da), (3, .int x3)]) hx hb dX6_allTrials_38 rfl hl (by decide) rfl (fun ls hl => ?_)
        refine lv_iinc (v := (x3 + 1)) (lv' := [(3, .int (x3 + 1)), (2, .int (x2 + ((milks (r_order x3.toNatClampNeg).toNatClampNeg) * (if (r_size - (1 : Int32)) < (x3 + (1 : Int32)) then (r_size - (1 : Int32)) else (x3 + (1 : Int32)))))), (0, .ref r_tr), (1, .ref da)]) hx hb dX6_allTrials_39 hl (k := 3) rfl (by first | rfl | decide) (by decide) rfl (fun ls hl => ?_)
        refine lv_goto (tgt := 4) hx hb dX6_allTrials_42 (by decide) ?_
        exact ih4 (x2 + ((milks (r_order x3.toNatClampNeg).toNatClampNeg) * (if (r_size - (1 : Int32)) < (x3 + (1 : Int32)) then (r_size - (1 : Int32)) else (x3 + (1 : Int32))))) (x3 + 1) _ hw (lv_sub hl [2, 3, 1, 0] rfl)
  refine lv_iconst (v := 0) hx hb dX6_allTrials_0 (by decide) ?_
  refine lv_istore_n (lv' := [(2, .int (0 : Int32)), (0, .ref r_tr), (1, .ref da)]) hx hb dX6_allTrials_1 rfl hl (by decide) rfl (fun ls hl => ?_)
  refine lv_iconst (v := 0) hx hb dX6_allTrials_2 (by decide) ?_
  refine lv_istore_n (lv' := [(3, .int (0 : Int32)), (2, .int (0 : Int32)), (0, .ref r_tr), (1, .ref da)]) hx hb dX6_allTrials_3 rfl hl (by decide) rfl (fun ls hl => ?_)
  obtain ⟨n, hw⟩ := hw
  exact L4 n (0 : Int32) (0 : Int32) _ hw (lv_sub hl [2, 3, 1, 0] rfl)
set_option maxHeartbeats 4000000 in
set_option maxRecDepth 100000 in
theorem c_X7_cow (l : Launch) (D : va_G) (G : Nat → ClassId) (sz : Nat) (x_xo : Nat) (da : Nat) (k_da : Nat) (t_ta : Nat) (p_pl : Nat) (r_tr : Nat) (w_ro : Nat) (x_ash : Nat) (ami : Nat) (aki : Nat) (afi : Nat) (anw : Nat) (apa : Nat) (x_isKept : Int32) (cows : Int32) (tasters : Int32) (newest : Int32) (known : Int32) (milks : Nat → Int32) (mayBe : Int32) (bearer : Int32) (day : Int32) (draw : Int32) (x1 : Int32) (post : Int32 → Int32 → Int32 → (Nat → Int32) → Int32 → Prop) (hw : wp_X7_cow cows known milks mayBe x1 post) : Met l yX7_cow wsX7_cow ({ frames := 1, cells := 0, slots := 0, locals := 21 } : Room) (va_Pc [.ref x_xo, .int x1] (xM D G sz [(x_xo, .inr (7, [.ref da, .ref k_da, .int x_isKept, .ref t_ta, .ref p_pl, .ref r_tr, .ref w_ro, .ref x_ash])), (da, .inr (0, [.ref ami, .int cows, .ref aki, .ref afi, .int tasters, .ref anw, .ref apa, .int newest, .int known])), (ami, .inl (G 0, 8, .inl milks)), (anw, .inr (1, [.int mayBe, .int bearer, .int day, .int draw]))])) (va_Qi (fun r (u : Int32 × Int32 × (Nat → Int32) × Int32) => post r u.1 u.2.1 u.2.2.1 u.2.2.2) (fun u t => xE D G (va_A [(x_xo, .inr (7, [.ref da, .ref k_da, .int x_isKept, .ref t_ta, .ref p_pl, .ref r_tr, .ref w_ro, .ref x_ash])), (da, .inr (0, [.ref ami, .int cows, .ref aki, .ref afi, .int tasters, .ref anw, .ref apa, .int newest, .int known])), (ami, .inl (G 0, 8, .inl milks)), (anw, .inr (1, [.int mayBe, .int bearer, .int day, .int draw]))] sz) [(x_xo, .inr (7, [.ref da, .ref k_da, .int x_isKept, .ref t_ta, .ref p_pl, .ref r_tr, .ref w_ro, .ref x_ash])), (da, .inr (0, [.ref ami, .int u.1, .ref aki, .ref afi, .int tasters, .ref anw, .ref apa, .int newest, .int u.2.1])), (ami, .inl (G 0, 8, .inl (u.2.2.1))), (anw, .inr (1, [.int u.2.2.2, .int bearer, .int day, .int draw]))] t) (va_A [(x_xo, .inr (7, [.ref da, .ref k_da, .int x_isKept, .ref t_ta, .ref p_pl, .ref r_tr, .ref w_ro, .ref x_ash])), (da, .inr (0, [.ref ami, .int cows, .ref aki, .ref afi, .int tasters, .ref anw, .ref apa, .int newest, .int known])), (ami, .inl (G 0, 8, .inl milks)), (anw, .inr (1, [.int mayBe, .int bearer, .int day, .int draw]))] sz)) 0 0 (va_A [(x_xo, .inr (7, [.ref da, .ref k_da, .int x_isKept, .ref t_ta, .ref p_pl, .ref r_tr, .ref w_ro, .ref x_ash])), (da, .inr (0, [.ref ami, .int cows, .ref aki, .ref afi, .int tasters, .ref anw, .ref apa, .int newest, .int known])), (ami, .inl (G 0, 8, .inl milks)), (anw, .inr (1, [.int mayBe, .int bearer, .int day, .int draw]))] sz) := by
  refine Met.ofW (cc := cX7_cow) (maxL := 2) (ret := (some .int)) (by decide) rfl ?_
  intro p e s m args below meth c s₁ B hml hv
  obtain ⟨rfl, hsz, hP, hK, hD0⟩ := hv
  have hx := B.exec
  have hb := B.bytes
  have hr := B.returns
  have hts := atoms_spec (ws := wsX7_cow) B.pre
  have hown : s.vm.findClass RX7 = some m.cls := findClass_of_methodNamed B.named
  have hlocks := B.notSynchronized
  subst hsz
  have hD := hD0.self (sz := s.heap.size)
  generalize hAe : va_A [(x_xo, .inr (7, [.ref da, .ref k_da, .int x_isKept, .ref t_ta, .ref p_pl, .ref r_tr, .ref w_ro, .ref x_ash])), (da, .inr (0, [.ref ami, .int cows, .ref aki, .ref afi, .int tasters, .ref anw, .ref apa, .int newest, .int known])), (ami, .inl (G 0, 8, .inl milks)), (anw, .inr (1, [.int mayBe, .int bearer, .int day, .int draw]))] s.heap.size = A at hD ⊢
  have hA : ∀ q : Nat, s.heap.size ≤ q → A q := fun q h => by rw [← hAe]; exact Or.inr h
  have hS : va_S A s.heap s.heap [] := va_S.rf
  have inX0 : ∀ w ∈ wsX00, w ∈ wsX7_cow := by decide +kernel
  have inX1 : ∀ w ∈ wsX10, w ∈ wsX7_cow := by decide +kernel
  have inX7 : ∀ w ∈ wsX70, w ∈ wsX7_cow := by decide +kernel
  have fl12 := hts (.fieldLink RX7 12 "NewsCow" "dairy" "LNewsCow$Dairy;") (by decide +kernel)
  have fl58 := hts (.fieldLink RX7 58 "NewsCow$Dairy" "cows" "I") (by decide +kernel)
  have fl66 := hts (.fieldLink RX7 66 "NewsCow$Dairy" "now" "LNewsCow$Moment;") (by decide +kernel)
  have fl74 := hts (.fieldLink RX7 74 "NewsCow$Moment" "mayBe" "I") (by decide +kernel)
  have fl79 := hts (.fieldLink RX7 79 "NewsCow$Dairy" "known" "I") (by decide +kernel)
  have hl := lv_entry ([.ref x_xo, .int x1] : List Value) (n := 2) (Nat.le_of_ble_eq_true rfl)
  rw [lg_entry_eq]
  generalize (lg_sl ([.ref x_xo, .int x1] : List Value) ++ List.replicate (2 - (lg_sl ([.ref x_xo, .int x1] : List Value)).length) Slot.unset).toArray = ls at hl ⊢
  have hl : lv_has ls 2 [(0, .ref x_xo), (1, .int x1)] := hl
  unfold wp_X7_cow at hw
  refine lv_iload_n hx hb dX7_cow_0 rfl (lv_at hl 1 rfl) ?_
  refine lv_iconst (v := 1) hx hb dX7_cow_1 (by decide) ?_
  refine lv_icmp_lt (tgt := 11) hx hb dX7_cow_2 (by decide) (fun c9 => ?_) (fun c9 => ?_)
  · replace hw := hw.1 c9
    refine lv_iconst (v := -1) hx hb dX7_cow_11 (by decide) ?_
    exact W.iret hx hb hr (x_mi (u := (cows, known, milks, mayBe)) hP hK hD hS hw) hS.2.2 dX7_cow_12
  · replace hw := hw.2 c9
    refine lv_iload_n hx hb dX7_cow_5 rfl (lv_at hl 1 rfl) ?_
    refine lv_bipush (v := 9) hx hb dX7_cow_6 (by decide) ?_
    refine lv_icmp_le (tgt := 13) hx hb dX7_cow_8 (by decide) (fun c9 => ?_) (fun c9 => ?_)
    · replace hw := hw.1 c9
      refine lv_aload_n hx hb dX7_cow_13 rfl (lv_at hl 0 rfl) ?_
      refine va_get (D := D) (ci := 7) (v := .ref da) (C := RX7) (T := TX7) (N := 8) hx hb hts inX7 hown hK hP 0 rfl rfl 0 (by decide) fl12 (fun _ h9 => h9) rfl dX7_cow_14 ?_
      refine va_get (D := D) (ci := 0) (v := .int cows) (C := RX0) (T := TX0) (N := 9) hx hb hts inX0 hown hK hP 1 rfl rfl 1 (by decide) fl58 (fun _ h9 => h9) rfl dX7_cow_17 ?_
      refine lv_bipush (v := 8) hx hb dX7_cow_20 (by decide) ?_
      refine lv_icmp_lt (tgt := 28) hx hb dX7_cow_22 (by decide) (fun c9 => ?_) (fun c9 => ?_)
      · replace hw := hw.1 c9
        refine lv_aload_n hx hb dX7_cow_28 rfl (lv_at hl 0 rfl) ?_
        refine va_get (D := D) (ci := 7) (v := .ref da) (C := RX7) (T := TX7) (N := 8) hx hb hts inX7 hown hK hP 0 rfl rfl 0 (by decide) fl12 (fun _ h9 => h9) rfl dX7_cow_29 ?_
        refine lv_iload_n hx hb dX7_cow_32 rfl (lv_at hl 1 rfl) ?_
        refine x_cMv (wr := [(x_xo, .inr (7, [.ref da, .ref k_da, .int x_isKept, .ref t_ta, .ref p_pl, .ref r_tr, .ref w_ro, .ref x_ash])), (anw, .inr (1, [.int mayBe, .int bearer, .int day, .int draw]))]) (va_runV (As := [.int x1]) (rest := []) ⟨hx, hb, hml, hown, hts⟩ (c_X0_addCow l D G _ da ami aki afi anw apa cows tasters newest known milks x1 _ hw) (cwV 1 hts gX7_cow_X0_addCow rfl rfl rfl (by decide +kernel) ⟨(Nat.le_of_ble_eq_true rfl), (Nat.le_of_ble_eq_true rfl)⟩) (xM_pv (hP.sub [1, 2] rfl) hK (hD.sub [1, 2] (by decide) rfl) (va_recv hK hP (ci := 0) (q0 := 1) rfl rfl)) rfl rfl hl.1 rfl (lv_room (Nat.le_of_ble_eq_true rfl)) dX7_cow_33 ⟨Nat.zero_le _, Nat.zero_le _⟩) hP hD hS hA [1, 2] [0, 3] rfl rfl (by decide) (by decide) [0, 2, 3, 1] (fun u => [(x_xo, .inr (7, [.ref da, .ref k_da, .int x_isKept, .ref t_ta, .ref p_pl, .ref r_tr, .ref w_ro, .ref x_ash])), (da, .inr (0, [.ref ami, .int u.1, .ref aki, .ref afi, .int tasters, .ref anw, .ref apa, .int newest, .int known])), (ami, .inl (G 0, 8, .inl (u.2))), (anw, .inr (1, [.int mayBe, .int bearer, .int day, .int draw]))]) (by decide) (fun u => rfl) (fun u H locs hw hP hD hS => ?_)
        obtain ⟨cows_1, milks_1⟩ := u
        try dsimp only at hw
        replace hP : va_P D vwCl [(x_xo, .inr (7, [.ref da, .ref k_da, .int x_isKept, .ref t_ta, .ref p_pl, .ref r_tr, .ref w_ro, .ref x_ash])), (da, .inr (0, [.ref ami, .int cows_1, .ref aki, .ref afi, .int tasters, .ref anw, .ref apa, .int newest, .int known])), (ami, .inl (G 0, 8, .inl milks_1)), (anw, .inr (1, [.int mayBe, .int bearer, .int day, .int draw]))] H := hP
        replace hD : va_D A [(x_xo, .inr (7, [.ref da, .ref k_da, .int x_isKept, .ref t_ta, .ref p_pl, .ref r_tr, .ref w_ro, .ref x_ash])), (da, .inr (0, [.ref ami, .int cows_1, .ref aki, .ref afi, .int tasters, .ref anw, .ref apa, .int newest, .int known])), (ami, .inl (G 0, 8, .inl milks_1)), (anw, .inr (1, [.int mayBe, .int bearer, .int day, .int draw]))] := hD
        refine lv_aload_n hx hb dX7_cow_36 rfl (lv_at hl 0 rfl) ?_
        refine va_get (D := D) (ci := 7) (v := .ref da) (C := RX7) (T := TX7) (N := 8) hx hb hts inX7 hown hK hP 0 rfl rfl 0 (by decide) fl12 (fun _ h9 => h9) rfl dX7_cow_37 ?_
        refine va_get (D := D) (ci := 0) (v := .ref anw) (C := RX0) (T := TX0) (N := 9) hx hb hts inX0 hown hK hP 1 rfl rfl 5 (by decide) fl66 (fun _ h9 => h9) rfl dX7_cow_40 ?_
        refine lv_aload_n hx hb dX7_cow_43 rfl (lv_at hl 0 rfl) ?_
        refine va_get (D := D) (ci := 7) (v := .ref da) (C := RX7) (T := TX7) (N := 8) hx hb hts inX7 hown hK hP 0 rfl rfl 0 (by decide) fl12 (fun _ h9 => h9) rfl dX7_cow_44 ?_
        refine vp_callSi (W.runV (As := []) (rest := [.ref anw]) ⟨hx, hb, hml, hown, hts⟩ (c_X0_allCows l D G da ami aki afi anw apa cows_1 tasters newest known _ hw) (cwV 0 hts gX7_cow_X0_allCows rfl rfl rfl (by decide +kernel) ⟨(Nat.le_of_ble_eq_true rfl), (Nat.le_of_ble_eq_true rfl)⟩) (xR_pv (hP.sub [1] rfl) hK (va_recv hK hP (ci := 0) (q0 := 1) rfl rfl)) rfl rfl hl.1 rfl (lv_room (Nat.le_of_ble_eq_true rfl)) dX7_cow_47 ⟨Nat.zero_le _, Nat.zero_le _⟩) (fun r2 hw => ?_)
        refine va_put (D := D) (ci := 1) (v := .int r2) (ty := .int) (C := RX1) (T := TX1) (N := 4) hx hb hts inX1 tyX1 tyX1_ok nmX1 hown hK hP hD hS 3 rfl rfl 0 (by decide) fl74 (fun _ h9 => h9) rfl (by decide +kernel) rfl rfl (Nat.le_of_ble_eq_true rfl) dX7_cow_50 (fun H locs hP hD hS => ?_)
        replace hP : va_P D vwCl [(x_xo, .inr (7, [.ref da, .ref k_da, .int x_isKept, .ref t_ta, .ref p_pl, .ref r_tr, .ref w_ro, .ref x_ash])), (da, .inr (0, [.ref ami, .int cows_1, .ref aki, .ref afi, .int tasters, .ref anw, .ref apa, .int newest, .int known])), (ami, .inl (G 0, 8, .inl milks_1)), (anw, .inr (1, [.int r2, .int bearer, .int day, .int draw]))] H := hP
        replace hD : va_D A [(x_xo, .inr (7, [.ref da, .ref k_da, .int x_isKept, .ref t_ta, .ref p_pl, .ref r_tr, .ref w_ro, .ref x_ash])), (da, .inr (0, [.ref ami, .int cows_1, .ref aki, .ref afi, .int tasters, .ref anw, .ref apa, .int newest, .int known])), (ami, .inl (G 0, 8, .inl milks_1)), (anw, .inr (1, [.int r2, .int bearer, .int day, .int draw]))] := hD
        refine lv_aload_n hx hb dX7_cow_53 rfl (lv_at hl 0 rfl) ?_
        refine va_get (D := D) (ci := 7) (v := .ref da) (C := RX7) (T := TX7) (N := 8) hx hb hts inX7 hown hK hP 0 rfl rfl 0 (by decide) fl12 (fun _ h9 => h9) rfl dX7_cow_54 ?_
        refine lv_iconst (v := 0) hx hb dX7_cow_57 (by decide) ?_
        refine va_put (D := D) (ci := 0) (v := .int (0 : Int32)) (ty := .int) (C := RX0) (T := TX0) (N := 9) hx hb hts inX0 tyX0 tyX0_ok nmX0 hown hK hP hD hS 1 rfl rfl 8 (by decide) fl79 (fun _ h9 => h9) rfl (by decide +kernel) rfl rfl (Nat.le_of_ble_eq_true rfl) dX7_cow_58 (fun H locs hP hD hS => ?_)
        replace hP : va_P D vwCl [(x_xo, .inr (7, [.ref da, .ref k_da, .int x_isKept, .ref t_ta, .ref p_pl, .ref r_tr, .ref w_ro, .ref x_ash])), (da, .inr (0, [.ref ami, .int cows_1, .ref aki, .ref afi, .int tasters, .ref anw, .ref apa, .int newest, .int (0 : Int32)])), (ami, .inl (G 0, 8, .inl milks_1)), (anw, .inr (1, [.int r2, .int bearer, .int day, .int draw]))] H := hP
        replace hD : va_D A [(x_xo, .inr (7, [.ref da, .ref k_da, .int x_isKept, .ref t_ta, .ref p_pl, .ref r_tr, .ref w_ro, .ref x_ash])), (da, .inr (0, [.ref ami, .int cows_1, .ref aki, .ref afi, .int tasters, .ref anw, .ref apa, .int newest, .int (0 : Int32)])), (ami, .inl (G 0, 8, .inl milks_1)), (anw, .inr (1, [.int r2, .int bearer, .int day, .int draw]))] := hD
        refine lv_aload_n hx hb dX7_cow_61 rfl (lv_at hl 0 rfl) ?_
        refine va_get (D := D) (ci := 7) (v := .ref da) (C := RX7) (T := TX7) (N := 8) hx hb hts inX7 hown hK hP 0 rfl rfl 0 (by decide) fl12 (fun _ h9 => h9) rfl dX7_cow_62 ?_
        refine va_get (D := D) (ci := 0) (v := .int cows_1) (C := RX0) (T := TX0) (N := 9) hx hb hts inX0 hown hK hP 1 rfl rfl 1 (by decide) fl58 (fun _ h9 => h9) rfl dX7_cow_65 ?_
        refine lv_iconst (v := 1) hx hb dX7_cow_68 (by decide) ?_
        refine lv_isub hx hb dX7_cow_69 ?_
        exact W.iret hx hb hr (x_mi (u := (cows_1, (0 : Int32), milks_1, r2)) hP hK hD hS hw) hS.2.2 dX7_cow_70
      · replace hw := hw.2 c9
        refine lv_bipush (v := -3) hx hb dX7_cow_25 (by decide) ?_
        exact W.iret hx hb hr (x_mi (u := (cows, known, milks, mayBe)) hP hK hD hS hw) hS.2.2 dX7_cow_27
    · replace hw := hw.2 c9
      refine lv_iconst (v := -1) hx hb dX7_cow_11 (by decide) ?_
      exact W.iret hx hb hr (x_mi (u := (cows, known, milks, mayBe)) hP hK hD hS hw) hS.2.2 dX7_cow_12
set_option maxHeartbeats 4000000 in
set_option maxRecDepth 100000 in
theorem c_X7_taster (l : Launch) (D : va_G) (G : Nat → ClassId) (sz : Nat) (x_xo : Nat) (da : Nat) (k_da : Nat) (t_ta : Nat) (p_pl : Nat) (r_tr : Nat) (w_ro : Nat) (x_ash : Nat) (ami : Nat) (aki : Nat) (afi : Nat) (anw : Nat) (apa : Nat) (x_isKept : Int32) (cows : Int32) (tasters : Int32) (newest : Int32) (known : Int32) (kinds : Nat → Int32) (fines : Nat → Int32) (x1 : Int32) (x2 : Int32) (post : Int32 → Int32 → Int32 → (Nat → Int32) → (Nat → Int32) → Prop) (hw : wp_X7_taster tasters known kinds fines x1 x2 post) : Met l yX7_taster wsX7_taster ({ frames := 1, cells := 0, slots := 0, locals := 22 } : Room) (va_Pc [.ref x_xo, .int x1, .int x2] (xM D G sz [(x_xo, .inr (7, [.ref da, .ref k_da, .int x_isKept, .ref t_ta, .ref p_pl, .ref r_tr, .ref w_ro, .ref x_ash])), (da, .inr (0, [.ref ami, .int cows, .ref aki, .ref afi, .int tasters, .ref anw, .ref apa, .int newest, .int known])), (aki, .inl (G 0, 4, .inl kinds)), (afi, .inl (G 0, 4, .inl fines))])) (va_Qi (fun r (u : Int32 × Int32 × (Nat → Int32) × (Nat → Int32)) => post r u.1 u.2.1 u.2.2.1 u.2.2.2) (fun u t => xE D G (va_A [(x_xo, .inr (7, [.ref da, .ref k_da, .int x_isKept, .ref t_ta, .ref p_pl, .ref r_tr, .ref w_ro, .ref x_ash])), (da, .inr (0, [.ref ami, .int cows, .ref aki, .ref afi, .int tasters, .ref anw, .ref apa, .int newest, .int known])), (aki, .inl (G 0, 4, .inl kinds)), (afi, .inl (G 0, 4, .inl fines))] sz) [(x_xo, .inr (7, [.ref da, .ref k_da, .int x_isKept, .ref t_ta, .ref p_pl, .ref r_tr, .ref w_ro, .ref x_ash])), (da, .inr (0, [.ref ami, .int cows, .ref aki, .ref afi, .int u.1, .ref anw, .ref apa, .int newest, .int u.2.1])), (aki, .inl (G 0, 4, .inl (u.2.2.1))), (afi, .inl (G 0, 4, .inl (u.2.2.2)))] t) (va_A [(x_xo, .inr (7, [.ref da, .ref k_da, .int x_isKept, .ref t_ta, .ref p_pl, .ref r_tr, .ref w_ro, .ref x_ash])), (da, .inr (0, [.ref ami, .int cows, .ref aki, .ref afi, .int tasters, .ref anw, .ref apa, .int newest, .int known])), (aki, .inl (G 0, 4, .inl kinds)), (afi, .inl (G 0, 4, .inl fines))] sz)) 0 0 (va_A [(x_xo, .inr (7, [.ref da, .ref k_da, .int x_isKept, .ref t_ta, .ref p_pl, .ref r_tr, .ref w_ro, .ref x_ash])), (da, .inr (0, [.ref ami, .int cows, .ref aki, .ref afi, .int tasters, .ref anw, .ref apa, .int newest, .int known])), (aki, .inl (G 0, 4, .inl kinds)), (afi, .inl (G 0, 4, .inl fines))] sz) := by
  refine Met.ofW (cc := cX7_taster) (maxL := 3) (ret := (some .int)) (by decide) rfl ?_
  intro p e s m args below meth c s₁ B hml hv
  obtain ⟨rfl, hsz, hP, hK, hD0⟩ := hv
  have hx := B.exec
  have hb := B.bytes
  have hr := B.returns
  have hts := atoms_spec (ws := wsX7_taster) B.pre
  have hown : s.vm.findClass RX7 = some m.cls := findClass_of_methodNamed B.named
  have hlocks := B.notSynchronized
  subst hsz
  have hD := hD0.self (sz := s.heap.size)
  generalize hAe : va_A [(x_xo, .inr (7, [.ref da, .ref k_da, .int x_isKept, .ref t_ta, .ref p_pl, .ref r_tr, .ref w_ro, .ref x_ash])), (da, .inr (0, [.ref ami, .int cows, .ref aki, .ref afi, .int tasters, .ref anw, .ref apa, .int newest, .int known])), (aki, .inl (G 0, 4, .inl kinds)), (afi, .inl (G 0, 4, .inl fines))] s.heap.size = A at hD ⊢
  have hA : ∀ q : Nat, s.heap.size ≤ q → A q := fun q h => by rw [← hAe]; exact Or.inr h
  have hS : va_S A s.heap s.heap [] := va_S.rf
  have inX0 : ∀ w ∈ wsX00, w ∈ wsX7_taster := by decide +kernel
  have inX7 : ∀ w ∈ wsX70, w ∈ wsX7_taster := by decide +kernel
  have fl12 := hts (.fieldLink RX7 12 "NewsCow" "dairy" "LNewsCow$Dairy;") (by decide +kernel)
  have fl82 := hts (.fieldLink RX7 82 "NewsCow$Dairy" "tasters" "I") (by decide +kernel)
  have fl79 := hts (.fieldLink RX7 79 "NewsCow$Dairy" "known" "I") (by decide +kernel)
  have hl := lv_entry ([.ref x_xo, .int x1, .int x2] : List Value) (n := 3) (Nat.le_of_ble_eq_true rfl)
  rw [lg_entry_eq]
  generalize (lg_sl ([.ref x_xo, .int x1, .int x2] : List Value) ++ List.replicate (3 - (lg_sl ([.ref x_xo, .int x1, .int x2] : List Value)).length) Slot.unset).toArray = ls at hl ⊢
  have hl : lv_has ls 3 [(0, .ref x_xo), (1, .int x1), (2, .int x2)] := hl
  unfold wp_X7_taster at hw
  refine lv_iload_n hx hb dX7_taster_0 rfl (lv_at hl 1 rfl) ?_
  refine lv_if_lt (tgt := 20) hx hb dX7_taster_1 (by decide) (fun c9 => ?_) (fun c9 => ?_)
  · replace hw := hw.1 c9
    refine lv_iconst (v := -1) hx hb dX7_taster_20 (by decide) ?_
    exact W.iret hx hb hr (x_mi (u := (tasters, known, kinds, fines)) hP hK hD hS hw) hS.2.2 dX7_taster_21
  · replace hw := hw.2 c9
    refine lv_iload_n hx hb dX7_taster_4 rfl (lv_at hl 1 rfl) ?_
    refine lv_iconst (v := 5) hx hb dX7_taster_5 (by decide) ?_
    refine lv_icmp_ge (tgt := 20) hx hb dX7_taster_6 (by decide) (fun c9 => ?_) (fun c9 => ?_)
    · replace hw := hw.1 c9
      refine lv_iconst (v := -1) hx hb dX7_taster_20 (by decide) ?_
      exact W.iret hx hb hr (x_mi (u := (tasters, known, kinds, fines)) hP hK hD hS hw) hS.2.2 dX7_taster_21
    · replace hw := hw.2 c9
      refine lv_iload_n hx hb dX7_taster_9 rfl (lv_at hl 2 rfl) ?_
      refine lv_iconst (v := 1) hx hb dX7_taster_10 (by decide) ?_
      refine lv_icmp_lt (tgt := 20) hx hb dX7_taster_11 (by decide) (fun c9 => ?_) (fun c9 => ?_)
      · replace hw := hw.1 c9
        refine lv_iconst (v := -1) hx hb dX7_taster_20 (by decide) ?_
        exact W.iret hx hb hr (x_mi (u := (tasters, known, kinds, fines)) hP hK hD hS hw) hS.2.2 dX7_taster_21
      · replace hw := hw.2 c9
        refine lv_iload_n hx hb dX7_taster_14 rfl (lv_at hl 2 rfl) ?_
        refine lv_bipush (v := 9) hx hb dX7_taster_15 (by decide) ?_
        refine lv_icmp_le (tgt := 22) hx hb dX7_taster_17 (by decide) (fun c9 => ?_) (fun c9 => ?_)
        · replace hw := hw.1 c9
          refine lv_aload_n hx hb dX7_taster_22 rfl (lv_at hl 0 rfl) ?_
          refine va_get (D := D) (ci := 7) (v := .ref da) (C := RX7) (T := TX7) (N := 8) hx hb hts inX7 hown hK hP 0 rfl rfl 0 (by decide) fl12 (fun _ h9 => h9) rfl dX7_taster_23 ?_
          refine va_get (D := D) (ci := 0) (v := .int tasters) (C := RX0) (T := TX0) (N := 9) hx hb hts inX0 hown hK hP 1 rfl rfl 4 (by decide) fl82 (fun _ h9 => h9) rfl dX7_taster_26 ?_
          refine lv_iconst (v := 4) hx hb dX7_taster_29 (by decide) ?_
          refine lv_icmp_lt (tgt := 36) hx hb dX7_taster_30 (by decide) (fun c9 => ?_) (fun c9 => ?_)
          · replace hw := hw.1 c9
            refine lv_aload_n hx hb dX7_taster_36 rfl (lv_at hl 0 rfl) ?_
            refine va_get (D := D) (ci := 7) (v := .ref da) (C := RX7) (T := TX7) (N := 8) hx hb hts inX7 hown hK hP 0 rfl rfl 0 (by decide) fl12 (fun _ h9 => h9) rfl dX7_taster_37 ?_
            refine lv_iload_n hx hb dX7_taster_40 rfl (lv_at hl 1 rfl) ?_
            refine lv_iload_n hx hb dX7_taster_41 rfl (lv_at hl 2 rfl) ?_
            refine x_cMv (wr := [(x_xo, .inr (7, [.ref da, .ref k_da, .int x_isKept, .ref t_ta, .ref p_pl, .ref r_tr, .ref w_ro, .ref x_ash]))]) (va_runV (As := [.int x1, .int x2]) (rest := []) ⟨hx, hb, hml, hown, hts⟩ (c_X0_addTaster l D G _ da ami aki afi anw apa cows tasters newest known kinds fines x1 x2 _ hw) (cwV 2 hts gX7_taster_X0_addTaster rfl rfl rfl (by decide +kernel) ⟨(Nat.le_of_ble_eq_true rfl), (Nat.le_of_ble_eq_true rfl)⟩) (xM_pv (hP.sub [1, 2, 3] rfl) hK (hD.sub [1, 2, 3] (by decide) rfl) (va_recv hK hP (ci := 0) (q0 := 1) rfl rfl)) rfl rfl hl.1 rfl (lv_room (Nat.le_of_ble_eq_true rfl)) dX7_taster_42 ⟨Nat.zero_le _, Nat.zero_le _⟩) hP hD hS hA [1, 2, 3] [0] rfl rfl (by decide) (by decide) [0, 1, 2, 3] (fun u => [(x_xo, .inr (7, [.ref da, .ref k_da, .int x_isKept, .ref t_ta, .ref p_pl, .ref r_tr, .ref w_ro, .ref x_ash])), (da, .inr (0, [.ref ami, .int cows, .ref aki, .ref afi, .int u.1, .ref anw, .ref apa, .int newest, .int known])), (aki, .inl (G 0, 4, .inl (u.2.1))), (afi, .inl (G 0, 4, .inl (u.2.2)))]) (by decide) (fun u => rfl) (fun u H locs hw hP hD hS => ?_)
            obtain ⟨tasters_1, kinds_1, fines_1⟩ := u
            try dsimp only at hw
            replace hP : va_P D vwCl [(x_xo, .inr (7, [.ref da, .ref k_da, .int x_isKept, .ref t_ta, .ref p_pl, .ref r_tr, .ref w_ro, .ref x_ash])), (da, .inr (0, [.ref ami, .int cows, .ref aki, .ref afi, .int tasters_1, .ref anw, .ref apa, .int newest, .int known])), (aki, .inl (G 0, 4, .inl kinds_1)), (afi, .inl (G 0, 4, .inl fines_1))] H := hP
            replace hD : va_D A [(x_xo, .inr (7, [.ref da, .ref k_da, .int x_isKept, .ref t_ta, .ref p_pl, .ref r_tr, .ref w_ro, .ref x_ash])), (da, .inr (0, [.ref ami, .int cows, .ref aki, .ref afi, .int tasters_1, .ref anw, .ref apa, .int newest, .int known])), (aki, .inl (G 0, 4, .inl kinds_1)), (afi, .inl (G 0, 4, .inl fines_1))] := hD
            refine lv_aload_n hx hb dX7_taster_45 rfl (lv_at hl 0 rfl) ?_
            refine va_get (D := D) (ci := 7) (v := .ref da) (C := RX7) (T := TX7) (N := 8) hx hb hts inX7 hown hK hP 0 rfl rfl 0 (by decide) fl12 (fun _ h9 => h9) rfl dX7_taster_46 ?_
            refine lv_iconst (v := 0) hx hb dX7_taster_49 (by decide) ?_
            refine va_put (D := D) (ci := 0) (v := .int (0 : Int32)) (ty := .int) (C := RX0) (T := TX0) (N := 9) hx hb hts inX0 tyX0 tyX0_ok nmX0 hown hK hP hD hS 1 rfl rfl 8 (by decide) fl79 (fun _ h9 => h9) rfl (by decide +kernel) rfl rfl (Nat.le_of_ble_eq_true rfl) dX7_taster_50 (fun H locs hP hD hS => ?_)
            replace hP : va_P D vwCl [(x_xo, .inr (7, [.ref da, .ref k_da, .int x_isKept, .ref t_ta, .ref p_pl, .ref r_tr, .ref w_ro, .ref x_ash])), (da, .inr (0, [.ref ami, .int cows, .ref aki, .ref afi, .int tasters_1, .ref anw, .ref apa, .int newest, .int (0 : Int32)])), (aki, .inl (G 0, 4, .inl kinds_1)), (afi, .inl (G 0, 4, .inl fines_1))] H := hP
            replace hD : va_D A [(x_xo, .inr (7, [.ref da, .ref k_da, .int x_isKept, .ref t_ta, .ref p_pl, .ref r_tr, .ref w_ro, .ref x_ash])), (da, .inr (0, [.ref ami, .int cows, .ref aki, .ref afi, .int tasters_1, .ref anw, .ref apa, .int newest, .int (0 : Int32)])), (aki, .inl (G 0, 4, .inl kinds_1)), (afi, .inl (G 0, 4, .inl fines_1))] := hD
            refine lv_aload_n hx hb dX7_taster_53 rfl (lv_at hl 0 rfl) ?_
            refine va_get (D := D) (ci := 7) (v := .ref da) (C := RX7) (T := TX7) (N := 8) hx hb hts inX7 hown hK hP 0 rfl rfl 0 (by decide) fl12 (fun _ h9 => h9) rfl dX7_taster_54 ?_
            refine va_get (D := D) (ci := 0) (v := .int tasters_1) (C := RX0) (T := TX0) (N := 9) hx hb hts inX0 hown hK hP 1 rfl rfl 4 (by decide) fl82 (fun _ h9 => h9) rfl dX7_taster_57 ?_
            refine lv_iconst (v := 1) hx hb dX7_taster_60 (by decide) ?_
            refine lv_isub hx hb dX7_taster_61 ?_
            exact W.iret hx hb hr (x_mi (u := (tasters_1, (0 : Int32), kinds_1, fines_1)) hP hK hD hS hw) hS.2.2 dX7_taster_62
          · replace hw := hw.2 c9
            refine lv_bipush (v := -3) hx hb dX7_taster_33 (by decide) ?_
            exact W.iret hx hb hr (x_mi (u := (tasters, known, kinds, fines)) hP hK hD hS hw) hS.2.2 dX7_taster_35
        · replace hw := hw.2 c9
          refine lv_iconst (v := -1) hx hb dX7_taster_20 (by decide) ?_
          exact W.iret hx hb hr (x_mi (u := (tasters, known, kinds, fines)) hP hK hD hS hw) hS.2.2 dX7_taster_21
set_option maxHeartbeats 4000000 in
set_option maxRecDepth 100000 in
theorem c_X7_isCow (l : Launch) (D : va_G) (G : Nat → ClassId) (x_xo : Nat) (da : Nat) (k_da : Nat) (t_ta : Nat) (p_pl : Nat) (r_tr : Nat) (w_ro : Nat) (x_ash : Nat) (ami : Nat) (aki : Nat) (afi : Nat) (anw : Nat) (apa : Nat) (x_isKept : Int32) (cows : Int32) (tasters : Int32) (newest : Int32) (known : Int32) (x1 : Int32) (post : Int32 → Prop) (hw : wp_X7_isCow cows x1 post) : Met l yX7_isCow wsX7_isCow ({ frames := 0, cells := 0, slots := 0, locals := 0 } : Room) (va_Pc [.ref x_xo, .int x1] (xR D G [(x_xo, .inr (7, [.ref da, .ref k_da, .int x_isKept, .ref t_ta, .ref p_pl, .ref r_tr, .ref w_ro, .ref x_ash])), (da, .inr (0, [.ref ami, .int cows, .ref aki, .ref afi, .int tasters, .ref anw, .ref apa, .int newest, .int known]))])) (vp_Si post) 0 0 (fun _ => False) := by
  refine Met.ofW (cc := cX7_isCow) (maxL := 2) (ret := (some .boolean)) (by decide) rfl ?_
  intro p e s m args below meth c s₁ B hml hv
  obtain ⟨rfl, hP, hK⟩ := hv
  have hx := B.exec
  have hb := B.bytes
  have hr := B.returns
  have hts := atoms_spec (ws := wsX7_isCow) B.pre
  have hown : s.vm.findClass RX7 = some m.cls := findClass_of_methodNamed B.named
  have hlocks := B.notSynchronized
  have inX0 : ∀ w ∈ wsX00, w ∈ wsX7_isCow := by decide +kernel
  have inX7 : ∀ w ∈ wsX70, w ∈ wsX7_isCow := by decide +kernel
  have fl12 := hts (.fieldLink RX7 12 "NewsCow" "dairy" "LNewsCow$Dairy;") (by decide +kernel)
  have fl58 := hts (.fieldLink RX7 58 "NewsCow$Dairy" "cows" "I") (by decide +kernel)
  have hl := lv_entry ([.ref x_xo, .int x1] : List Value) (n := 2) (Nat.le_of_ble_eq_true rfl)
  rw [lg_entry_eq]
  generalize (lg_sl ([.ref x_xo, .int x1] : List Value) ++ List.replicate (2 - (lg_sl ([.ref x_xo, .int x1] : List Value)).length) Slot.unset).toArray = ls at hl ⊢
  have hl : lv_has ls 2 [(0, .ref x_xo), (1, .int x1)] := hl
  unfold wp_X7_isCow at hw
  refine lv_iload_n hx hb dX7_isCow_0 rfl (lv_at hl 1 rfl) ?_
  refine lv_if_lt (tgt := 19) hx hb dX7_isCow_1 (by decide) (fun c9 => ?_) (fun c9 => ?_)
  · replace hw := hw.1 c9
    refine lv_iconst (v := 0) hx hb dX7_isCow_19 (by decide) ?_
    exact W.zret hx hb hr rfl (fun t ht _ => ⟨_, rfl, hw, ht⟩) (fun _ h => absurd h List.not_mem_nil) dX7_isCow_20
  · replace hw := hw.2 c9
    refine lv_iload_n hx hb dX7_isCow_4 rfl (lv_at hl 1 rfl) ?_
    refine lv_aload_n hx hb dX7_isCow_5 rfl (lv_at hl 0 rfl) ?_
    refine va_get (D := D) (ci := 7) (v := .ref da) (C := RX7) (T := TX7) (N := 8) hx hb hts inX7 hown hK hP 0 rfl rfl 0 (by decide) fl12 (fun _ h9 => h9) rfl dX7_isCow_6 ?_
    refine va_get (D := D) (ci := 0) (v := .int cows) (C := RX0) (T := TX0) (N := 9) hx hb hts inX0 hown hK hP 1 rfl rfl 1 (by decide) fl58 (fun _ h9 => h9) rfl dX7_isCow_9 ?_
    refine lv_icmp_ge (tgt := 19) hx hb dX7_isCow_12 (by decide) (fun c9 => ?_) (fun c9 => ?_)
    · replace hw := hw.1 c9
      refine lv_iconst (v := 0) hx hb dX7_isCow_19 (by decide) ?_
      exact W.zret hx hb hr rfl (fun t ht _ => ⟨_, rfl, hw, ht⟩) (fun _ h => absurd h List.not_mem_nil) dX7_isCow_20
    · replace hw := hw.2 c9
      refine lv_iconst (v := 1) hx hb dX7_isCow_15 (by decide) ?_
      refine lv_goto (tgt := 20) hx hb dX7_isCow_16 (by decide) ?_
      exact W.zret hx hb hr rfl (fun t ht _ => ⟨_, rfl, hw, ht⟩) (fun _ h => absurd h List.not_mem_nil) dX7_isCow_20
set_option maxHeartbeats 4000000 in
set_option maxRecDepth 100000 in
theorem c_X7_milk (l : Launch) (D : va_G) (G : Nat → ClassId) (sz : Nat) (x_xo : Nat) (da : Nat) (k_da : Nat) (t_ta : Nat) (p_pl : Nat) (r_tr : Nat) (w_ro : Nat) (x_ash : Nat) (ami : Nat) (aki : Nat) (afi : Nat) (anw : Nat) (apa : Nat) (x_isKept : Int32) (cows : Int32) (tasters : Int32) (newest : Int32) (known : Int32) (milks : Nat → Int32) (x1 : Int32) (x2 : Int32) (post : Int32 → (Nat → Int32) → Prop) (hw : wp_X7_milk cows milks x1 x2 post) : Met l yX7_milk wsX7_milk ({ frames := 1, cells := 0, slots := 0, locals := 21 } : Room) (va_Pc [.ref x_xo, .int x1, .int x2] (xM D G sz [(x_xo, .inr (7, [.ref da, .ref k_da, .int x_isKept, .ref t_ta, .ref p_pl, .ref r_tr, .ref w_ro, .ref x_ash])), (da, .inr (0, [.ref ami, .int cows, .ref aki, .ref afi, .int tasters, .ref anw, .ref apa, .int newest, .int known])), (ami, .inl (G 0, 8, .inl milks))])) (va_Qi (fun r (u : (Nat → Int32)) => post r u) (fun u t => xE D G (va_A [(x_xo, .inr (7, [.ref da, .ref k_da, .int x_isKept, .ref t_ta, .ref p_pl, .ref r_tr, .ref w_ro, .ref x_ash])), (da, .inr (0, [.ref ami, .int cows, .ref aki, .ref afi, .int tasters, .ref anw, .ref apa, .int newest, .int known])), (ami, .inl (G 0, 8, .inl milks))] sz) [(x_xo, .inr (7, [.ref da, .ref k_da, .int x_isKept, .ref t_ta, .ref p_pl, .ref r_tr, .ref w_ro, .ref x_ash])), (da, .inr (0, [.ref ami, .int cows, .ref aki, .ref afi, .int tasters, .ref anw, .ref apa, .int newest, .int known])), (ami, .inl (G 0, 8, .inl u))] t) (va_A [(x_xo, .inr (7, [.ref da, .ref k_da, .int x_isKept, .ref t_ta, .ref p_pl, .ref r_tr, .ref w_ro, .ref x_ash])), (da, .inr (0, [.ref ami, .int cows, .ref aki, .ref afi, .int tasters, .ref anw, .ref apa, .int newest, .int known])), (ami, .inl (G 0, 8, .inl milks))] sz)) 0 0 (va_A [(x_xo, .inr (7, [.ref da, .ref k_da, .int x_isKept, .ref t_ta, .ref p_pl, .ref r_tr, .ref w_ro, .ref x_ash])), (da, .inr (0, [.ref ami, .int cows, .ref aki, .ref afi, .int tasters, .ref anw, .ref apa, .int newest, .int known])), (ami, .inl (G 0, 8, .inl milks))] sz) := by
  refine Met.ofW (cc := cX7_milk) (maxL := 4) (ret := (some .int)) (by decide) rfl ?_
  intro p e s m args below meth c s₁ B hml hv
  obtain ⟨rfl, hsz, hP, hK, hD0⟩ := hv
  have hx := B.exec
  have hb := B.bytes
  have hr := B.returns
  have hts := atoms_spec (ws := wsX7_milk) B.pre
  have hown : s.vm.findClass RX7 = some m.cls := findClass_of_methodNamed B.named
  have hlocks := B.notSynchronized
  subst hsz
  have hD := hD0.self (sz := s.heap.size)
  generalize hAe : va_A [(x_xo, .inr (7, [.ref da, .ref k_da, .int x_isKept, .ref t_ta, .ref p_pl, .ref r_tr, .ref w_ro, .ref x_ash])), (da, .inr (0, [.ref ami, .int cows, .ref aki, .ref afi, .int tasters, .ref anw, .ref apa, .int newest, .int known])), (ami, .inl (G 0, 8, .inl milks))] s.heap.size = A at hD ⊢
  have hA : ∀ q : Nat, s.heap.size ≤ q → A q := fun q h => by rw [← hAe]; exact Or.inr h
  have hS : va_S A s.heap s.heap [] := va_S.rf
  have inX0 : ∀ w ∈ wsX00, w ∈ wsX7_milk := by decide +kernel
  have inX7 : ∀ w ∈ wsX70, w ∈ wsX7_milk := by decide +kernel
  have fl12 := hts (.fieldLink RX7 12 "NewsCow" "dairy" "LNewsCow$Dairy;") (by decide +kernel)
  have fl93 := hts (.fieldLink RX7 93 "NewsCow$Dairy" "milks" "[I") (by decide +kernel)
  have hl := lv_entry ([.ref x_xo, .int x1, .int x2] : List Value) (n := 4) (Nat.le_of_ble_eq_true rfl)
  rw [lg_entry_eq]
  generalize (lg_sl ([.ref x_xo, .int x1, .int x2] : List Value) ++ List.replicate (4 - (lg_sl ([.ref x_xo, .int x1, .int x2] : List Value)).length) Slot.unset).toArray = ls at hl ⊢
  have hl : lv_has ls 4 [(0, .ref x_xo), (1, .int x1), (2, .int x2)] := hl
  unfold wp_X7_milk at hw
  refine lv_aload_n hx hb dX7_milk_0 rfl (lv_at hl 0 rfl) ?_
  refine lv_iload_n hx hb dX7_milk_1 rfl (lv_at hl 1 rfl) ?_
  refine vp_callSi (W.runV (As := [.int x1]) (rest := []) ⟨hx, hb, hml, hown, hts⟩ (c_X7_isCow l D G x_xo da k_da t_ta p_pl r_tr w_ro x_ash ami aki afi anw apa x_isKept cows tasters newest known x1 _ hw) (cwV 1 hts gX7_milk_X7_isCow rfl rfl rfl (by decide +kernel) ⟨(Nat.le_of_ble_eq_true rfl), (Nat.le_of_ble_eq_true rfl)⟩) (xR_pv (hP.sub [0, 1] rfl) hK (va_recv hK hP (ci := 7) (q0 := 0) rfl rfl)) rfl rfl hl.1 rfl (lv_room (Nat.le_of_ble_eq_true rfl)) dX7_milk_2 ⟨Nat.zero_le _, Nat.zero_le _⟩) (fun r1 hw => ?_)
  refine lv_if_eq (tgt := 19) hx hb dX7_milk_5 (by decide) (fun c9 => ?_) (fun c9 => ?_)
  · replace hw := hw.1 c9
    refine lv_iconst (v := -1) hx hb dX7_milk_19 (by decide) ?_
    exact W.iret hx hb hr (x_mi (u := milks) hP hK hD hS hw) hS.2.2 dX7_milk_20
  · replace hw := hw.2 c9
    refine lv_iload_n hx hb dX7_milk_8 rfl (lv_at hl 2 rfl) ?_
    refine lv_iconst (v := 1) hx hb dX7_milk_9 (by decide) ?_
    refine lv_icmp_lt (tgt := 19) hx hb dX7_milk_10 (by decide) (fun c9 => ?_) (fun c9 => ?_)
    · replace hw := hw.1 c9
      refine lv_iconst (v := -1) hx hb dX7_milk_19 (by decide) ?_
      exact W.iret hx hb hr (x_mi (u := milks) hP hK hD hS hw) hS.2.2 dX7_milk_20
    · replace hw := hw.2 c9
      refine lv_iload_n hx hb dX7_milk_13 rfl (lv_at hl 2 rfl) ?_
      refine lv_bipush (v := 9) hx hb dX7_milk_14 (by decide) ?_
      refine lv_icmp_le (tgt := 21) hx hb dX7_milk_16 (by decide) (fun c9 => ?_) (fun c9 => ?_)
      · replace hw := hw.1 c9
        refine lv_aload_n hx hb dX7_milk_21 rfl (lv_at hl 0 rfl) ?_
        refine va_get (D := D) (ci := 7) (v := .ref da) (C := RX7) (T := TX7) (N := 8) hx hb hts inX7 hown hK hP 0 rfl rfl 0 (by decide) fl12 (fun _ h9 => h9) rfl dX7_milk_22 ?_
        refine va_get (D := D) (ci := 0) (v := .ref ami) (C := RX0) (T := TX0) (N := 9) hx hb hts inX0 hown hK hP 1 rfl rfl 0 (by decide) fl93 (fun _ h9 => h9) rfl dX7_milk_25 ?_
        refine lv_iload_n hx hb dX7_milk_28 rfl (lv_at hl 1 rfl) ?_
        refine x_iald (j := x1.toNatClampNeg) hx hb hK hP 2 0 rfl rfl rfl hw.1 dX7_milk_29 ?_
        replace hw := hw.2
        refine lv_istore_n (lv' := [(3, .int (milks x1.toNatClampNeg)), (0, .ref x_xo), (1, .int x1), (2, .int x2)]) hx hb dX7_milk_30 rfl hl (by decide) rfl (fun ls hl => ?_)
        refine lv_aload_n hx hb dX7_milk_31 rfl (lv_at hl 1 rfl) ?_
        refine va_get (D := D) (ci := 7) (v := .ref da) (C := RX7) (T := TX7) (N := 8) hx hb hts inX7 hown hK hP 0 rfl rfl 0 (by decide) fl12 (fun _ h9 => h9) rfl dX7_milk_32 ?_
        refine va_get (D := D) (ci := 0) (v := .ref ami) (C := RX0) (T := TX0) (N := 9) hx hb hts inX0 hown hK hP 1 rfl rfl 0 (by decide) fl93 (fun _ h9 => h9) rfl dX7_milk_35 ?_
        refine lv_iload_n hx hb dX7_milk_38 rfl (lv_at hl 2 rfl) ?_
        refine lv_iload_n hx hb dX7_milk_39 rfl (lv_at hl 3 rfl) ?_
        refine x_iast (j := x1.toNatClampNeg) hx hb hK hP hD hS 2 0 rfl rfl rfl hw.1 dX7_milk_40 (fun H locs hP hD hS => ?_)
        replace hw := hw.2
        replace hP : va_P D vwCl [(x_xo, .inr (7, [.ref da, .ref k_da, .int x_isKept, .ref t_ta, .ref p_pl, .ref r_tr, .ref w_ro, .ref x_ash])), (da, .inr (0, [.ref ami, .int cows, .ref aki, .ref afi, .int tasters, .ref anw, .ref apa, .int newest, .int known])), (ami, .inl (G 0, 8, .inl (upd milks x1.toNatClampNeg x2)))] H := hP
        replace hD : va_D A [(x_xo, .inr (7, [.ref da, .ref k_da, .int x_isKept, .ref t_ta, .ref p_pl, .ref r_tr, .ref w_ro, .ref x_ash])), (da, .inr (0, [.ref ami, .int cows, .ref aki, .ref afi, .int tasters, .ref anw, .ref apa, .int newest, .int known])), (ami, .inl (G 0, 8, .inl (upd milks x1.toNatClampNeg x2)))] := hD
        refine lv_iload_n hx hb dX7_milk_41 rfl (lv_at hl 0 rfl) ?_
        exact W.iret hx hb hr (x_mi (u := (upd milks x1.toNatClampNeg x2)) hP hK hD hS hw) hS.2.2 dX7_milk_42
      · replace hw := hw.2 c9
        refine lv_iconst (v := -1) hx hb dX7_milk_19 (by decide) ?_
        exact W.iret hx hb hr (x_mi (u := milks) hP hK hD hS hw) hS.2.2 dX7_milk_20
set_option maxHeartbeats 4000000 in
set_option maxRecDepth 100000 in
theorem c_X7_isTaster (l : Launch) (D : va_G) (G : Nat → ClassId) (x_xo : Nat) (da : Nat) (k_da : Nat) (t_ta : Nat) (p_pl : Nat) (r_tr : Nat) (w_ro : Nat) (x_ash : Nat) (ami : Nat) (aki : Nat) (afi : Nat) (anw : Nat) (apa : Nat) (x_isKept : Int32) (cows : Int32) (tasters : Int32) (newest : Int32) (known : Int32) (x1 : Int32) (post : Int32 → Prop) (hw : wp_X7_isTaster tasters x1 post) : Met l yX7_isTaster wsX7_isTaster ({ frames := 0, cells := 0, slots := 0, locals := 0 } : Room) (va_Pc [.ref x_xo, .int x1] (xR D G [(x_xo, .inr (7, [.ref da, .ref k_da, .int x_isKept, .ref t_ta, .ref p_pl, .ref r_tr, .ref w_ro, .ref x_ash])), (da, .inr (0, [.ref ami, .int cows, .ref aki, .ref afi, .int tasters, .ref anw, .ref apa, .int newest, .int known]))])) (vp_Si post) 0 0 (fun _ => False) := by
  refine Met.ofW (cc := cX7_isTaster) (maxL := 2) (ret := (some .boolean)) (by decide) rfl ?_
  intro p e s m args below meth c s₁ B hml hv
  obtain ⟨rfl, hP, hK⟩ := hv
  have hx := B.exec
  have hb := B.bytes
  have hr := B.returns
  have hts := atoms_spec (ws := wsX7_isTaster) B.pre
  have hown : s.vm.findClass RX7 = some m.cls := findClass_of_methodNamed B.named
  have hlocks := B.notSynchronized
  have inX0 : ∀ w ∈ wsX00, w ∈ wsX7_isTaster := by decide +kernel
  have inX7 : ∀ w ∈ wsX70, w ∈ wsX7_isTaster := by decide +kernel
  have fl12 := hts (.fieldLink RX7 12 "NewsCow" "dairy" "LNewsCow$Dairy;") (by decide +kernel)
  have fl82 := hts (.fieldLink RX7 82 "NewsCow$Dairy" "tasters" "I") (by decide +kernel)
  have hl := lv_entry ([.ref x_xo, .int x1] : List Value) (n := 2) (Nat.le_of_ble_eq_true rfl)
  rw [lg_entry_eq]
  generalize (lg_sl ([.ref x_xo, .int x1] : List Value) ++ List.replicate (2 - (lg_sl ([.ref x_xo, .int x1] : List Value)).length) Slot.unset).toArray = ls at hl ⊢
  have hl : lv_has ls 2 [(0, .ref x_xo), (1, .int x1)] := hl
  unfold wp_X7_isTaster at hw
  refine lv_iload_n hx hb dX7_isTaster_0 rfl (lv_at hl 1 rfl) ?_
  refine lv_if_lt (tgt := 19) hx hb dX7_isTaster_1 (by decide) (fun c9 => ?_) (fun c9 => ?_)
  · replace hw := hw.1 c9
    refine lv_iconst (v := 0) hx hb dX7_isTaster_19 (by decide) ?_
    exact W.zret hx hb hr rfl (fun t ht _ => ⟨_, rfl, hw, ht⟩) (fun _ h => absurd h List.not_mem_nil) dX7_isTaster_20
  · replace hw := hw.2 c9
    refine lv_iload_n hx hb dX7_isTaster_4 rfl (lv_at hl 1 rfl) ?_
    refine lv_aload_n hx hb dX7_isTaster_5 rfl (lv_at hl 0 rfl) ?_
    refine va_get (D := D) (ci := 7) (v := .ref da) (C := RX7) (T := TX7) (N := 8) hx hb hts inX7 hown hK hP 0 rfl rfl 0 (by decide) fl12 (fun _ h9 => h9) rfl dX7_isTaster_6 ?_
    refine va_get (D := D) (ci := 0) (v := .int tasters) (C := RX0) (T := TX0) (N := 9) hx hb hts inX0 hown hK hP 1 rfl rfl 4 (by decide) fl82 (fun _ h9 => h9) rfl dX7_isTaster_9 ?_
    refine lv_icmp_ge (tgt := 19) hx hb dX7_isTaster_12 (by decide) (fun c9 => ?_) (fun c9 => ?_)
    · replace hw := hw.1 c9
      refine lv_iconst (v := 0) hx hb dX7_isTaster_19 (by decide) ?_
      exact W.zret hx hb hr rfl (fun t ht _ => ⟨_, rfl, hw, ht⟩) (fun _ h => absurd h List.not_mem_nil) dX7_isTaster_20
    · replace hw := hw.2 c9
      refine lv_iconst (v := 1) hx hb dX7_isTaster_15 (by decide) ?_
      refine lv_goto (tgt := 20) hx hb dX7_isTaster_16 (by decide) ?_
      exact W.zret hx hb hr rfl (fun t ht _ => ⟨_, rfl, hw, ht⟩) (fun _ h => absurd h List.not_mem_nil) dX7_isTaster_20
set_option maxHeartbeats 4000000 in
set_option maxRecDepth 100000 in
theorem c_X7_isEither (l : Launch) (D : va_G) (G : Nat → ClassId) (x0 : Int32) (post : Int32 → Prop) (hw : wp_X7_isEither x0 post) : Met l yX7_isEither wsX7_isEither ({ frames := 0, cells := 0, slots := 0, locals := 0 } : Room) (va_Pc [.int x0] (xR D G [])) (vp_Si post) 0 0 (fun _ => False) := by
  refine Met.ofW (cc := cX7_isEither) (maxL := 1) (ret := (some .boolean)) (by decide) rfl ?_
  intro p e s m args below meth c s₁ B hml hv
  obtain ⟨rfl, hP, hK⟩ := hv
  have hx := B.exec
  have hb := B.bytes
  have hr := B.returns
  have hts := atoms_spec (ws := wsX7_isEither) B.pre
  have hown : s.vm.findClass RX7 = some m.cls := findClass_of_methodNamed B.named
  have hlocks := B.notSynchronized
  have hl := lv_entry ([.int x0] : List Value) (n := 1) (Nat.le_of_ble_eq_true rfl)
  rw [lg_entry_eq]
  generalize (lg_sl ([.int x0] : List Value) ++ List.replicate (1 - (lg_sl ([.int x0] : List Value)).length) Slot.unset).toArray = ls at hl ⊢
  have hl : lv_has ls 1 [(0, .int x0)] := hl
  unfold wp_X7_isEither at hw
  refine lv_iload_n hx hb dX7_isEither_0 rfl (lv_at hl 0 rfl) ?_
  refine lv_if_eq (tgt := 9) hx hb dX7_isEither_1 (by decide) (fun c9 => ?_) (fun c9 => ?_)
  · replace hw := hw.1 c9
    refine lv_iconst (v := 1) hx hb dX7_isEither_9 (by decide) ?_
    refine lv_goto (tgt := 14) hx hb dX7_isEither_10 (by decide) ?_
    exact W.zret hx hb hr rfl (fun t ht _ => ⟨_, rfl, hw, ht⟩) (fun _ h => absurd h List.not_mem_nil) dX7_isEither_14
  · replace hw := hw.2 c9
    refine lv_iload_n hx hb dX7_isEither_4 rfl (lv_at hl 0 rfl) ?_
    refine lv_iconst (v := 1) hx hb dX7_isEither_5 (by decide) ?_
    refine lv_icmp_ne (tgt := 13) hx hb dX7_isEither_6 (by decide) (fun c9 => ?_) (fun c9 => ?_)
    · replace hw := hw.1 c9
      refine lv_iconst (v := 0) hx hb dX7_isEither_13 (by decide) ?_
      exact W.zret hx hb hr rfl (fun t ht _ => ⟨_, rfl, hw, ht⟩) (fun _ h => absurd h List.not_mem_nil) dX7_isEither_14
    · replace hw := hw.2 c9
      refine lv_iconst (v := 1) hx hb dX7_isEither_9 (by decide) ?_
      refine lv_goto (tgt := 14) hx hb dX7_isEither_10 (by decide) ?_
      exact W.zret hx hb hr rfl (fun t ht _ => ⟨_, rfl, hw, ht⟩) (fun _ h => absurd h List.not_mem_nil) dX7_isEither_14
set_option maxHeartbeats 4000000 in
set_option maxRecDepth 100000 in
theorem c_X7_at (l : Launch) (D : va_G) (G : Nat → ClassId) (x_xo : Nat) (da : Nat) (k_da : Nat) (t_ta : Nat) (p_pl : Nat) (r_tr : Nat) (w_ro : Nat) (x_ash : Nat) (ami : Nat) (aki : Nat) (afi : Nat) (anw : Nat) (apa : Nat) (x_isKept : Int32) (cows : Int32) (tasters : Int32) (newest : Int32) (known : Int32) (kinds : Nat → Int32) (fines : Nat → Int32) (x1 : Int32) (x2 : Int32) (post : Int32 → Prop) (hw : wp_X7_at tasters kinds fines x1 x2 post) : Met l yX7_at wsX7_at ({ frames := 1, cells := 0, slots := 0, locals := 21 } : Room) (va_Pc [.ref x_xo, .int x1, .int x2] (xR D G [(x_xo, .inr (7, [.ref da, .ref k_da, .int x_isKept, .ref t_ta, .ref p_pl, .ref r_tr, .ref w_ro, .ref x_ash])), (da, .inr (0, [.ref ami, .int cows, .ref aki, .ref afi, .int tasters, .ref anw, .ref apa, .int newest, .int known])), (aki, .inl (G 0, 4, .inl kinds)), (afi, .inl (G 0, 4, .inl fines))])) (vp_Si post) 0 0 (fun _ => False) := by
  refine Met.ofW (cc := cX7_at) (maxL := 3) (ret := (some .int)) (by decide) rfl ?_
  intro p e s m args below meth c s₁ B hml hv
  obtain ⟨rfl, hP, hK⟩ := hv
  have hx := B.exec
  have hb := B.bytes
  have hr := B.returns
  have hts := atoms_spec (ws := wsX7_at) B.pre
  have hown : s.vm.findClass RX7 = some m.cls := findClass_of_methodNamed B.named
  have hlocks := B.notSynchronized
  have inX0 : ∀ w ∈ wsX00, w ∈ wsX7_at := by decide +kernel
  have inX7 : ∀ w ∈ wsX70, w ∈ wsX7_at := by decide +kernel
  have fl12 := hts (.fieldLink RX7 12 "NewsCow" "dairy" "LNewsCow$Dairy;") (by decide +kernel)
  have fl106 := hts (.fieldLink RX7 106 "NewsCow$Dairy" "fines" "[I") (by decide +kernel)
  have fl103 := hts (.fieldLink RX7 103 "NewsCow$Dairy" "kinds" "[I") (by decide +kernel)
  have hl := lv_entry ([.ref x_xo, .int x1, .int x2] : List Value) (n := 3) (Nat.le_of_ble_eq_true rfl)
  rw [lg_entry_eq]
  generalize (lg_sl ([.ref x_xo, .int x1, .int x2] : List Value) ++ List.replicate (3 - (lg_sl ([.ref x_xo, .int x1, .int x2] : List Value)).length) Slot.unset).toArray = ls at hl ⊢
  have hl : lv_has ls 3 [(0, .ref x_xo), (1, .int x1), (2, .int x2)] := hl
  unfold wp_X7_at at hw
  refine lv_aload_n hx hb dX7_at_0 rfl (lv_at hl 0 rfl) ?_
  refine lv_iload_n hx hb dX7_at_1 rfl (lv_at hl 1 rfl) ?_
  refine vp_callSi (W.runV (As := [.int x1]) (rest := []) ⟨hx, hb, hml, hown, hts⟩ (c_X7_isTaster l D G x_xo da k_da t_ta p_pl r_tr w_ro x_ash ami aki afi anw apa x_isKept cows tasters newest known x1 _ hw) (cwV 1 hts gX7_at_X7_isTaster rfl rfl rfl (by decide +kernel) ⟨(Nat.le_of_ble_eq_true rfl), (Nat.le_of_ble_eq_true rfl)⟩) (xR_pv (hP.sub [0, 1] rfl) hK (va_recv hK hP (ci := 7) (q0 := 0) rfl rfl)) rfl rfl hl.1 rfl (lv_room (Nat.le_of_ble_eq_true rfl)) dX7_at_2 ⟨Nat.zero_le _, Nat.zero_le _⟩) (fun r1 hw => ?_)
  refine lv_if_eq (tgt := 15) hx hb dX7_at_5 (by decide) (fun c9 => ?_) (fun c9 => ?_)
  · replace hw := hw.1 c9
    refine lv_iconst (v := -1) hx hb dX7_at_15 (by decide) ?_
    exact W.iret hx hb hr (fun t ht _ => ⟨_, rfl, hw, ht⟩) (fun _ h => absurd h List.not_mem_nil) dX7_at_16
  · replace hw := hw.2 c9
    refine lv_iload_n hx hb dX7_at_8 rfl (lv_at hl 2 rfl) ?_
    refine vp_callSi (W.runS (As := [.int x2]) (rest := []) ⟨hx, hb, hml, hown, hts⟩ (c_X7_isEither l D G x2 _ hw) (va_cwS 1 hts gX7_at_X7_isEither rfl rfl rfl (by decide +kernel) ⟨(Nat.le_of_ble_eq_true rfl), (Nat.le_of_ble_eq_true rfl)⟩) (xR_ps (hP.sub [] rfl) hK) rfl rfl hl.1 rfl (lv_room (Nat.le_of_ble_eq_true rfl)) dX7_at_9 ⟨Nat.zero_le _, Nat.zero_le _⟩) (fun r2 hw => ?_)
    refine lv_if_ne (tgt := 17) hx hb dX7_at_12 (by decide) (fun c9 => ?_) (fun c9 => ?_)
    · replace hw := hw.1 c9
      refine lv_iload_n hx hb dX7_at_17 rfl (lv_at hl 2 rfl) ?_
      refine lv_if_ne (tgt := 33) hx hb dX7_at_18 (by decide) (fun c9 => ?_) (fun c9 => ?_)
      · replace hw := hw.1 c9
        refine lv_aload_n hx hb dX7_at_33 rfl (lv_at hl 0 rfl) ?_
        refine va_get (D := D) (ci := 7) (v := .ref da) (C := RX7) (T := TX7) (N := 8) hx hb hts inX7 hown hK hP 0 rfl rfl 0 (by decide) fl12 (fun _ h9 => h9) rfl dX7_at_34 ?_
        refine va_get (D := D) (ci := 0) (v := .ref afi) (C := RX0) (T := TX0) (N := 9) hx hb hts inX0 hown hK hP 1 rfl rfl 3 (by decide) fl106 (fun _ h9 => h9) rfl dX7_at_37 ?_
        refine lv_iload_n hx hb dX7_at_40 rfl (lv_at hl 1 rfl) ?_
        refine x_iald (j := x1.toNatClampNeg) hx hb hK hP 3 0 rfl rfl rfl hw.1 dX7_at_41 ?_
        replace hw := hw.2
        exact W.iret hx hb hr (fun t ht _ => ⟨_, rfl, hw, ht⟩) (fun _ h => absurd h List.not_mem_nil) dX7_at_42
      · replace hw := hw.2 c9
        refine lv_aload_n hx hb dX7_at_21 rfl (lv_at hl 0 rfl) ?_
        refine va_get (D := D) (ci := 7) (v := .ref da) (C := RX7) (T := TX7) (N := 8) hx hb hts inX7 hown hK hP 0 rfl rfl 0 (by decide) fl12 (fun _ h9 => h9) rfl dX7_at_22 ?_
        refine va_get (D := D) (ci := 0) (v := .ref aki) (C := RX0) (T := TX0) (N := 9) hx hb hts inX0 hown hK hP 1 rfl rfl 2 (by decide) fl103 (fun _ h9 => h9) rfl dX7_at_25 ?_
        refine lv_iload_n hx hb dX7_at_28 rfl (lv_at hl 1 rfl) ?_
        refine x_iald (j := x1.toNatClampNeg) hx hb hK hP 2 0 rfl rfl rfl hw.1 dX7_at_29 ?_
        replace hw := hw.2
        refine lv_goto (tgt := 42) hx hb dX7_at_30 (by decide) ?_
        exact W.iret hx hb hr (fun t ht _ => ⟨_, rfl, hw, ht⟩) (fun _ h => absurd h List.not_mem_nil) dX7_at_42
    · replace hw := hw.2 c9
      refine lv_iconst (v := -1) hx hb dX7_at_15 (by decide) ?_
      exact W.iret hx hb hr (fun t ht _ => ⟨_, rfl, hw, ht⟩) (fun _ h => absurd h List.not_mem_nil) dX7_at_16
set_option maxHeartbeats 4000000 in
set_option maxRecDepth 100000 in
theorem c_X7_of (l : Launch) (D : va_G) (G : Nat → ClassId) (x_xo : Nat) (da : Nat) (k_da : Nat) (t_ta : Nat) (p_pl : Nat) (r_tr : Nat) (w_ro : Nat) (x_ash : Nat) (ami : Nat) (aki : Nat) (afi : Nat) (anw : Nat) (apa : Nat) (x_isKept : Int32) (cows : Int32) (tasters : Int32) (newest : Int32) (known : Int32) (milks : Nat → Int32) (x1 : Int32) (post : Int32 → Prop) (hw : wp_X7_of cows milks x1 post) : Met l yX7_of wsX7_of ({ frames := 1, cells := 0, slots := 0, locals := 21 } : Room) (va_Pc [.ref x_xo, .int x1] (xR D G [(x_xo, .inr (7, [.ref da, .ref k_da, .int x_isKept, .ref t_ta, .ref p_pl, .ref r_tr, .ref w_ro, .ref x_ash])), (da, .inr (0, [.ref ami, .int cows, .ref aki, .ref afi, .int tasters, .ref anw, .ref apa, .int newest, .int known])), (ami, .inl (G 0, 8, .inl milks))])) (vp_Si post) 0 0 (fun _ => False) := by
  refine Met.ofW (cc := cX7_of) (maxL := 2) (ret := (some .int)) (by decide) rfl ?_
  intro p e s m args below meth c s₁ B hml hv
  obtain ⟨rfl, hP, hK⟩ := hv
  have hx := B.exec
  have hb := B.bytes
  have hr := B.returns
  have hts := atoms_spec (ws := wsX7_of) B.pre
  have hown : s.vm.findClass RX7 = some m.cls := findClass_of_methodNamed B.named
  have hlocks := B.notSynchronized
  have inX0 : ∀ w ∈ wsX00, w ∈ wsX7_of := by decide +kernel
  have inX7 : ∀ w ∈ wsX70, w ∈ wsX7_of := by decide +kernel
  have fl12 := hts (.fieldLink RX7 12 "NewsCow" "dairy" "LNewsCow$Dairy;") (by decide +kernel)
  have fl93 := hts (.fieldLink RX7 93 "NewsCow$Dairy" "milks" "[I") (by decide +kernel)
  have hl := lv_entry ([.ref x_xo, .int x1] : List Value) (n := 2) (Nat.le_of_ble_eq_true rfl)
  rw [lg_entry_eq]
  generalize (lg_sl ([.ref x_xo, .int x1] : List Value) ++ List.replicate (2 - (lg_sl ([.ref x_xo, .int x1] : List Value)).length) Slot.unset).toArray = ls at hl ⊢
  have hl : lv_has ls 2 [(0, .ref x_xo), (1, .int x1)] := hl
  unfold wp_X7_of at hw
  refine lv_aload_n hx hb dX7_of_0 rfl (lv_at hl 0 rfl) ?_
  refine lv_iload_n hx hb dX7_of_1 rfl (lv_at hl 1 rfl) ?_
  refine vp_callSi (W.runV (As := [.int x1]) (rest := []) ⟨hx, hb, hml, hown, hts⟩ (c_X7_isCow l D G x_xo da k_da t_ta p_pl r_tr w_ro x_ash ami aki afi anw apa x_isKept cows tasters newest known x1 _ hw) (cwV 1 hts gX7_of_X7_isCow rfl rfl rfl (by decide +kernel) ⟨(Nat.le_of_ble_eq_true rfl), (Nat.le_of_ble_eq_true rfl)⟩) (xR_pv (hP.sub [0, 1] rfl) hK (va_recv hK hP (ci := 7) (q0 := 0) rfl rfl)) rfl rfl hl.1 rfl (lv_room (Nat.le_of_ble_eq_true rfl)) dX7_of_2 ⟨Nat.zero_le _, Nat.zero_le _⟩) (fun r1 hw => ?_)
  refine lv_if_eq (tgt := 20) hx hb dX7_of_5 (by decide) (fun c9 => ?_) (fun c9 => ?_)
  · replace hw := hw.1 c9
    refine lv_iconst (v := -1) hx hb dX7_of_20 (by decide) ?_
    exact W.iret hx hb hr (fun t ht _ => ⟨_, rfl, hw, ht⟩) (fun _ h => absurd h List.not_mem_nil) dX7_of_21
  · replace hw := hw.2 c9
    refine lv_aload_n hx hb dX7_of_8 rfl (lv_at hl 0 rfl) ?_
    refine va_get (D := D) (ci := 7) (v := .ref da) (C := RX7) (T := TX7) (N := 8) hx hb hts inX7 hown hK hP 0 rfl rfl 0 (by decide) fl12 (fun _ h9 => h9) rfl dX7_of_9 ?_
    refine va_get (D := D) (ci := 0) (v := .ref ami) (C := RX0) (T := TX0) (N := 9) hx hb hts inX0 hown hK hP 1 rfl rfl 0 (by decide) fl93 (fun _ h9 => h9) rfl dX7_of_12 ?_
    refine lv_iload_n hx hb dX7_of_15 rfl (lv_at hl 1 rfl) ?_
    refine x_iald (j := x1.toNatClampNeg) hx hb hK hP 2 0 rfl rfl rfl hw.1 dX7_of_16 ?_
    replace hw := hw.2
    refine lv_goto (tgt := 21) hx hb dX7_of_17 (by decide) ?_
    exact W.iret hx hb hr (fun t ht _ => ⟨_, rfl, hw, ht⟩) (fun _ h => absurd h List.not_mem_nil) dX7_of_21
set_option maxHeartbeats 4000000 in
set_option maxRecDepth 100000 in
theorem c_X7_isMix (l : Launch) (D : va_G) (G : Nat → ClassId) (x_xo : Nat) (da : Nat) (k_da : Nat) (t_ta : Nat) (p_pl : Nat) (r_tr : Nat) (w_ro : Nat) (x_ash : Nat) (ami : Nat) (aki : Nat) (afi : Nat) (anw : Nat) (apa : Nat) (x_isKept : Int32) (cows : Int32) (tasters : Int32) (newest : Int32) (known : Int32) (x1 : Int32) (post : Int32 → Prop) (hw : wp_X7_isMix cows x1 post) : Met l yX7_isMix wsX7_isMix ({ frames := 1, cells := 0, slots := 0, locals := 20 } : Room) (va_Pc [.ref x_xo, .int x1] (xR D G [(x_xo, .inr (7, [.ref da, .ref k_da, .int x_isKept, .ref t_ta, .ref p_pl, .ref r_tr, .ref w_ro, .ref x_ash])), (da, .inr (0, [.ref ami, .int cows, .ref aki, .ref afi, .int tasters, .ref anw, .ref apa, .int newest, .int known]))])) (vp_Si post) 0 0 (fun _ => False) := by
  refine Met.ofW (cc := cX7_isMix) (maxL := 2) (ret := (some .boolean)) (by decide) rfl ?_
  intro p e s m args below meth c s₁ B hml hv
  obtain ⟨rfl, hP, hK⟩ := hv
  have hx := B.exec
  have hb := B.bytes
  have hr := B.returns
  have hts := atoms_spec (ws := wsX7_isMix) B.pre
  have hown : s.vm.findClass RX7 = some m.cls := findClass_of_methodNamed B.named
  have hlocks := B.notSynchronized
  have inX7 : ∀ w ∈ wsX70, w ∈ wsX7_isMix := by decide +kernel
  have fl12 := hts (.fieldLink RX7 12 "NewsCow" "dairy" "LNewsCow$Dairy;") (by decide +kernel)
  have hl := lv_entry ([.ref x_xo, .int x1] : List Value) (n := 2) (Nat.le_of_ble_eq_true rfl)
  rw [lg_entry_eq]
  generalize (lg_sl ([.ref x_xo, .int x1] : List Value) ++ List.replicate (2 - (lg_sl ([.ref x_xo, .int x1] : List Value)).length) Slot.unset).toArray = ls at hl ⊢
  have hl : lv_has ls 2 [(0, .ref x_xo), (1, .int x1)] := hl
  unfold wp_X7_isMix at hw
  refine lv_iload_n hx hb dX7_isMix_0 rfl (lv_at hl 1 rfl) ?_
  refine lv_iconst (v := 1) hx hb dX7_isMix_1 (by decide) ?_
  refine lv_icmp_lt (tgt := 20) hx hb dX7_isMix_2 (by decide) (fun c9 => ?_) (fun c9 => ?_)
  · replace hw := hw.1 c9
    refine lv_iconst (v := 0) hx hb dX7_isMix_20 (by decide) ?_
    exact W.zret hx hb hr rfl (fun t ht _ => ⟨_, rfl, hw, ht⟩) (fun _ h => absurd h List.not_mem_nil) dX7_isMix_21
  · replace hw := hw.2 c9
    refine lv_iload_n hx hb dX7_isMix_5 rfl (lv_at hl 1 rfl) ?_
    refine lv_aload_n hx hb dX7_isMix_6 rfl (lv_at hl 0 rfl) ?_
    refine va_get (D := D) (ci := 7) (v := .ref da) (C := RX7) (T := TX7) (N := 8) hx hb hts inX7 hown hK hP 0 rfl rfl 0 (by decide) fl12 (fun _ h9 => h9) rfl dX7_isMix_7 ?_
    refine vp_callSi (W.runV (As := []) (rest := [.int x1]) ⟨hx, hb, hml, hown, hts⟩ (c_X0_allCows l D G da ami aki afi anw apa cows tasters newest known _ hw) (cwV 0 hts gX7_isMix_X0_allCows rfl rfl rfl (by decide +kernel) ⟨(Nat.le_of_ble_eq_true rfl), (Nat.le_of_ble_eq_true rfl)⟩) (xR_pv (hP.sub [1] rfl) hK (va_recv hK hP (ci := 0) (q0 := 1) rfl rfl)) rfl rfl hl.1 rfl (lv_room (Nat.le_of_ble_eq_true rfl)) dX7_isMix_10 ⟨Nat.zero_le _, Nat.zero_le _⟩) (fun r1 hw => ?_)
    refine lv_icmp_gt (tgt := 20) hx hb dX7_isMix_13 (by decide) (fun c9 => ?_) (fun c9 => ?_)
    · replace hw := hw.1 c9
      refine lv_iconst (v := 0) hx hb dX7_isMix_20 (by decide) ?_
      exact W.zret hx hb hr rfl (fun t ht _ => ⟨_, rfl, hw, ht⟩) (fun _ h => absurd h List.not_mem_nil) dX7_isMix_21
    · replace hw := hw.2 c9
      refine lv_iconst (v := 1) hx hb dX7_isMix_16 (by decide) ?_
      refine lv_goto (tgt := 21) hx hb dX7_isMix_17 (by decide) ?_
      exact W.zret hx hb hr rfl (fun t ht _ => ⟨_, rfl, hw, ht⟩) (fun _ h => absurd h List.not_mem_nil) dX7_isMix_21
set_option maxHeartbeats 4000000 in
set_option maxRecDepth 100000 in
theorem c_X7_notices (l : Launch) (D : va_G) (G : Nat → ClassId) (x_xo : Nat) (da : Nat) (k_da : Nat) (t_ta : Nat) (p_pl : Nat) (r_tr : Nat) (w_ro : Nat) (x_ash : Nat) (ami : Nat) (aki : Nat) (afi : Nat) (anw : Nat) (apa : Nat) (x_isKept : Int32) (cows : Int32) (tasters : Int32) (newest : Int32) (known : Int32) (milks : Nat → Int32) (kinds : Nat → Int32) (fines : Nat → Int32) (mayBe : Int32) (bearer : Int32) (day : Int32) (draw : Int32) (x1 : Int32) (x2 : Int32) (x3 : Int32) (post : Int32 → Prop) (hw : wp_X7_notices cows tasters milks kinds fines day x1 x2 x3 post) : Met l yX7_notices wsX7_notices ({ frames := 4, cells := 0, slots := 0, locals := 93 } : Room) (va_Pc [.ref x_xo, .int x1, .int x2, .int x3] (xR D G [(x_xo, .inr (7, [.ref da, .ref k_da, .int x_isKept, .ref t_ta, .ref p_pl, .ref r_tr, .ref w_ro, .ref x_ash])), (da, .inr (0, [.ref ami, .int cows, .ref aki, .ref afi, .int tasters, .ref anw, .ref apa, .int newest, .int known])), (ami, .inl (G 0, 8, .inl milks)), (aki, .inl (G 0, 4, .inl kinds)), (afi, .inl (G 0, 4, .inl fines)), (anw, .inr (1, [.int mayBe, .int bearer, .int day, .int draw]))])) (vp_Si post) 0 0 (fun _ => False) := by
  refine Met.ofW (cc := cX7_notices) (maxL := 4) (ret := (some .int)) (by decide) rfl ?_
  intro p e s m args below meth c s₁ B hml hv
  obtain ⟨rfl, hP, hK⟩ := hv
  have hx := B.exec
  have hb := B.bytes
  have hr := B.returns
  have hts := atoms_spec (ws := wsX7_notices) B.pre
  have hown : s.vm.findClass RX7 = some m.cls := findClass_of_methodNamed B.named
  have hlocks := B.notSynchronized
  have inX7 : ∀ w ∈ wsX70, w ∈ wsX7_notices := by decide +kernel
  have fl12 := hts (.fieldLink RX7 12 "NewsCow" "dairy" "LNewsCow$Dairy;") (by decide +kernel)
  have hl := lv_entry ([.ref x_xo, .int x1, .int x2, .int x3] : List Value) (n := 4) (Nat.le_of_ble_eq_true rfl)
  rw [lg_entry_eq]
  generalize (lg_sl ([.ref x_xo, .int x1, .int x2, .int x3] : List Value) ++ List.replicate (4 - (lg_sl ([.ref x_xo, .int x1, .int x2, .int x3] : List Value)).length) Slot.unset).toArray = ls at hl ⊢
  have hl : lv_has ls 4 [(0, .ref x_xo), (1, .int x1), (2, .int x2), (3, .int x3)] := hl
  unfold wp_X7_notices at hw
  refine lv_aload_n hx hb dX7_notices_0 rfl (lv_at hl 0 rfl) ?_
  refine lv_iload_n hx hb dX7_notices_1 rfl (lv_at hl 1 rfl) ?_
  refine vp_callSi (W.runV (As := [.int x1]) (rest := []) ⟨hx, hb, hml, hown, hts⟩ (c_X7_isTaster l D G x_xo da k_da t_ta p_pl r_tr w_ro x_ash ami aki afi anw apa x_isKept cows tasters newest known x1 _ hw) (cwV 1 hts gX7_notices_X7_isTaster rfl rfl rfl (by decide +kernel) ⟨(Nat.le_of_ble_eq_true rfl), (Nat.le_of_ble_eq_true rfl)⟩) (xR_pv (hP.sub [0, 1] rfl) hK (va_recv hK hP (ci := 7) (q0 := 0) rfl rfl)) rfl rfl hl.1 rfl (lv_room (Nat.le_of_ble_eq_true rfl)) dX7_notices_2 ⟨Nat.zero_le _, Nat.zero_le _⟩) (fun r1 hw => ?_)
  refine lv_if_eq (tgt := 24) hx hb dX7_notices_5 (by decide) (fun c9 => ?_) (fun c9 => ?_)
  · replace hw := hw.1 c9
    refine lv_iconst (v := -1) hx hb dX7_notices_24 (by decide) ?_
    exact W.iret hx hb hr (fun t ht _ => ⟨_, rfl, hw, ht⟩) (fun _ h => absurd h List.not_mem_nil) dX7_notices_25
  · replace hw := hw.2 c9
    refine lv_aload_n hx hb dX7_notices_8 rfl (lv_at hl 0 rfl) ?_
    refine lv_iload_n hx hb dX7_notices_9 rfl (lv_at hl 2 rfl) ?_
    refine vp_callSi (W.runV (As := [.int x2]) (rest := []) ⟨hx, hb, hml, hown, hts⟩ (c_X7_isMix l D G x_xo da k_da t_ta p_pl r_tr w_ro x_ash ami aki afi anw apa x_isKept cows tasters newest known x2 _ hw) (cwV 1 hts gX7_notices_X7_isMix rfl rfl rfl (by decide +kernel) ⟨(Nat.le_of_ble_eq_true rfl), (Nat.le_of_ble_eq_true rfl)⟩) (xR_pv (hP.sub [0, 1] rfl) hK (va_recv hK hP (ci := 7) (q0 := 0) rfl rfl)) rfl rfl hl.1 rfl (lv_room (Nat.le_of_ble_eq_true rfl)) dX7_notices_10 ⟨Nat.zero_le _, Nat.zero_le _⟩) (fun r2 hw => ?_)
    refine lv_if_eq (tgt := 24) hx hb dX7_notices_13 (by decide) (fun c9 => ?_) (fun c9 => ?_)
    · replace hw := hw.1 c9
      refine lv_iconst (v := -1) hx hb dX7_notices_24 (by decide) ?_
      exact W.iret hx hb hr (fun t ht _ => ⟨_, rfl, hw, ht⟩) (fun _ h => absurd h List.not_mem_nil) dX7_notices_25
    · replace hw := hw.2 c9
      refine lv_aload_n hx hb dX7_notices_16 rfl (lv_at hl 0 rfl) ?_
      refine lv_iload_n hx hb dX7_notices_17 rfl (lv_at hl 3 rfl) ?_
      refine vp_callSi (W.runV (As := [.int x3]) (rest := []) ⟨hx, hb, hml, hown, hts⟩ (c_X7_isCow l D G x_xo da k_da t_ta p_pl r_tr w_ro x_ash ami aki afi anw apa x_isKept cows tasters newest known x3 _ hw) (cwV 1 hts gX7_notices_X7_isCow rfl rfl rfl (by decide +kernel) ⟨(Nat.le_of_ble_eq_true rfl), (Nat.le_of_ble_eq_true rfl)⟩) (xR_pv (hP.sub [0, 1] rfl) hK (va_recv hK hP (ci := 7) (q0 := 0) rfl rfl)) rfl rfl hl.1 rfl (lv_room (Nat.le_of_ble_eq_true rfl)) dX7_notices_18 ⟨Nat.zero_le _, Nat.zero_le _⟩) (fun r3 hw => ?_)
      refine lv_if_ne (tgt := 26) hx hb dX7_notices_21 (by decide) (fun c9 => ?_) (fun c9 => ?_)
      · replace hw := hw.1 c9
        refine lv_aload_n hx hb dX7_notices_26 rfl (lv_at hl 0 rfl) ?_
        refine va_get (D := D) (ci := 7) (v := .ref da) (C := RX7) (T := TX7) (N := 8) hx hb hts inX7 hown hK hP 0 rfl rfl 0 (by decide) fl12 (fun _ h9 => h9) rfl dX7_notices_27 ?_
        refine lv_iload_n hx hb dX7_notices_30 rfl (lv_at hl 1 rfl) ?_
        refine lv_iload_n hx hb dX7_notices_31 rfl (lv_at hl 2 rfl) ?_
        refine vp_callSi (W.runV (As := [.int x1, .int x2]) (rest := []) ⟨hx, hb, hml, hown, hts⟩ (c_X0_noticedBy l D G da ami aki afi anw apa cows tasters newest known milks kinds fines mayBe bearer day draw x1 x2 _ hw) (cwV 2 hts gX7_notices_X0_noticedBy rfl rfl rfl (by decide +kernel) ⟨(Nat.le_of_ble_eq_true rfl), (Nat.le_of_ble_eq_true rfl)⟩) (xR_pv (hP.sub [1, 2, 3, 4, 5] rfl) hK (va_recv hK hP (ci := 0) (q0 := 1) rfl rfl)) rfl rfl hl.1 rfl (lv_room (Nat.le_of_ble_eq_true rfl)) dX7_notices_32 ⟨Nat.zero_le _, Nat.zero_le _⟩) (fun r4 hw => ?_)
        refine lv_iload_n hx hb dX7_notices_35 rfl (lv_at hl 3 rfl) ?_
        refine lv_ishr hx hb dX7_notices_36 ?_
        refine lv_iconst (v := 1) hx hb dX7_notices_37 (by decide) ?_
        refine lv_iand hx hb dX7_notices_38 ?_
        exact W.iret hx hb hr (fun t ht _ => ⟨_, rfl, hw, ht⟩) (fun _ h => absurd h List.not_mem_nil) dX7_notices_39
      · replace hw := hw.2 c9
        refine lv_iconst (v := -1) hx hb dX7_notices_24 (by decide) ?_
        exact W.iret hx hb hr (fun t ht _ => ⟨_, rfl, hw, ht⟩) (fun _ h => absurd h List.not_mem_nil) dX7_notices_25
set_option maxHeartbeats 4000000 in
set_option maxRecDepth 100000 in
theorem c_X7_type (l : Launch) (D : va_G) (G : Nat → ClassId) (sz : Nat) (x_xo : Nat) (da : Nat) (k_da : Nat) (t_ta : Nat) (p_pl : Nat) (r_tr : Nat) (w_ro : Nat) (x_ash : Nat) (t_ale : Nat) (t_ami : Nat) (t_aki : Nat) (t_afi : Nat) (x_isKept : Int32) (t_size : Int32) (t_place : Int32) (t_cows : Int32) (t_bearer : Int32) (t_tasters : Int32) (t_letters : Nat → Int32) (x1 : Int32) (post : Int32 → Int32 → (Nat → Int32) → Prop) (hw : wp_X7_type t_size t_letters x1 post) : Met l yX7_type wsX7_type ({ frames := 1, cells := 0, slots := 0, locals := 21 } : Room) (va_Pc [.ref x_xo, .int x1] (xM D G sz [(x_xo, .inr (7, [.ref da, .ref k_da, .int x_isKept, .ref t_ta, .ref p_pl, .ref r_tr, .ref w_ro, .ref x_ash])), (t_ta, .inr (5, [.ref t_ale, .int t_size, .int t_place, .ref t_ami, .int t_cows, .int t_bearer, .ref t_aki, .ref t_afi, .int t_tasters])), (t_ale, .inl (G 3, 40, .inl t_letters))])) (va_Qi (fun r (u : Int32 × (Nat → Int32)) => post r u.1 u.2) (fun u t => xE D G (va_A [(x_xo, .inr (7, [.ref da, .ref k_da, .int x_isKept, .ref t_ta, .ref p_pl, .ref r_tr, .ref w_ro, .ref x_ash])), (t_ta, .inr (5, [.ref t_ale, .int t_size, .int t_place, .ref t_ami, .int t_cows, .int t_bearer, .ref t_aki, .ref t_afi, .int t_tasters])), (t_ale, .inl (G 3, 40, .inl t_letters))] sz) [(x_xo, .inr (7, [.ref da, .ref k_da, .int x_isKept, .ref t_ta, .ref p_pl, .ref r_tr, .ref w_ro, .ref x_ash])), (t_ta, .inr (5, [.ref t_ale, .int u.1, .int t_place, .ref t_ami, .int t_cows, .int t_bearer, .ref t_aki, .ref t_afi, .int t_tasters])), (t_ale, .inl (G 3, 40, .inl (u.2)))] t) (va_A [(x_xo, .inr (7, [.ref da, .ref k_da, .int x_isKept, .ref t_ta, .ref p_pl, .ref r_tr, .ref w_ro, .ref x_ash])), (t_ta, .inr (5, [.ref t_ale, .int t_size, .int t_place, .ref t_ami, .int t_cows, .int t_bearer, .ref t_aki, .ref t_afi, .int t_tasters])), (t_ale, .inl (G 3, 40, .inl t_letters))] sz)) 0 0 (va_A [(x_xo, .inr (7, [.ref da, .ref k_da, .int x_isKept, .ref t_ta, .ref p_pl, .ref r_tr, .ref w_ro, .ref x_ash])), (t_ta, .inr (5, [.ref t_ale, .int t_size, .int t_place, .ref t_ami, .int t_cows, .int t_bearer, .ref t_aki, .ref t_afi, .int t_tasters])), (t_ale, .inl (G 3, 40, .inl t_letters))] sz) := by
  refine Met.ofW (cc := cX7_type) (maxL := 2) (ret := (some .int)) (by decide) rfl ?_
  intro p e s m args below meth c s₁ B hml hv
  obtain ⟨rfl, hsz, hP, hK, hD0⟩ := hv
  have hx := B.exec
  have hb := B.bytes
  have hr := B.returns
  have hts := atoms_spec (ws := wsX7_type) B.pre
  have hown : s.vm.findClass RX7 = some m.cls := findClass_of_methodNamed B.named
  have hlocks := B.notSynchronized
  subst hsz
  have hD := hD0.self (sz := s.heap.size)
  generalize hAe : va_A [(x_xo, .inr (7, [.ref da, .ref k_da, .int x_isKept, .ref t_ta, .ref p_pl, .ref r_tr, .ref w_ro, .ref x_ash])), (t_ta, .inr (5, [.ref t_ale, .int t_size, .int t_place, .ref t_ami, .int t_cows, .int t_bearer, .ref t_aki, .ref t_afi, .int t_tasters])), (t_ale, .inl (G 3, 40, .inl t_letters))] s.heap.size = A at hD ⊢
  have hA : ∀ q : Nat, s.heap.size ≤ q → A q := fun q h => by rw [← hAe]; exact Or.inr h
  have hS : va_S A s.heap s.heap [] := va_S.rf
  have inX5 : ∀ w ∈ wsX50, w ∈ wsX7_type := by decide +kernel
  have inX7 : ∀ w ∈ wsX70, w ∈ wsX7_type := by decide +kernel
  have fl26 := hts (.fieldLink RX7 26 "NewsCow" "tape" "LNewsCow$Tape;") (by decide +kernel)
  have fl116 := hts (.fieldLink RX7 116 "NewsCow$Tape" "size" "I") (by decide +kernel)
  have hl := lv_entry ([.ref x_xo, .int x1] : List Value) (n := 2) (Nat.le_of_ble_eq_true rfl)
  rw [lg_entry_eq]
  generalize (lg_sl ([.ref x_xo, .int x1] : List Value) ++ List.replicate (2 - (lg_sl ([.ref x_xo, .int x1] : List Value)).length) Slot.unset).toArray = ls at hl ⊢
  have hl : lv_has ls 2 [(0, .ref x_xo), (1, .int x1)] := hl
  unfold wp_X7_type at hw
  refine lv_iload_n hx hb dX7_type_0 rfl (lv_at hl 1 rfl) ?_
  refine lv_bipush (v := 32) hx hb dX7_type_1 (by decide) ?_
  refine lv_icmp_lt (tgt := 12) hx hb dX7_type_3 (by decide) (fun c9 => ?_) (fun c9 => ?_)
  · replace hw := hw.1 c9
    refine lv_iconst (v := -1) hx hb dX7_type_12 (by decide) ?_
    exact W.iret hx hb hr (x_mi (u := (t_size, t_letters)) hP hK hD hS hw) hS.2.2 dX7_type_13
  · replace hw := hw.2 c9
    refine lv_iload_n hx hb dX7_type_6 rfl (lv_at hl 1 rfl) ?_
    refine lv_bipush (v := 126) hx hb dX7_type_7 (by decide) ?_
    refine lv_icmp_le (tgt := 14) hx hb dX7_type_9 (by decide) (fun c9 => ?_) (fun c9 => ?_)
    · replace hw := hw.1 c9
      refine lv_aload_n hx hb dX7_type_14 rfl (lv_at hl 0 rfl) ?_
      refine va_get (D := D) (ci := 7) (v := .ref t_ta) (C := RX7) (T := TX7) (N := 8) hx hb hts inX7 hown hK hP 0 rfl rfl 3 (by decide) fl26 (fun _ h9 => h9) rfl dX7_type_15 ?_
      refine va_get (D := D) (ci := 5) (v := .int t_size) (C := RX5) (T := TX5) (N := 9) hx hb hts inX5 hown hK hP 1 rfl rfl 1 (by decide) fl116 (fun _ h9 => h9) rfl dX7_type_18 ?_
      refine lv_bipush (v := 40) hx hb dX7_type_21 (by decide) ?_
      refine lv_icmp_lt (tgt := 29) hx hb dX7_type_23 (by decide) (fun c9 => ?_) (fun c9 => ?_)
      · replace hw := hw.1 c9
        refine lv_aload_n hx hb dX7_type_29 rfl (lv_at hl 0 rfl) ?_
        refine va_get (D := D) (ci := 7) (v := .ref t_ta) (C := RX7) (T := TX7) (N := 8) hx hb hts inX7 hown hK hP 0 rfl rfl 3 (by decide) fl26 (fun _ h9 => h9) rfl dX7_type_30 ?_
        refine lv_iload_n hx hb dX7_type_33 rfl (lv_at hl 1 rfl) ?_
        refine lv_i2c hx hb dX7_type_34 rfl ?_
        refine x_cMv (wr := [(x_xo, .inr (7, [.ref da, .ref k_da, .int x_isKept, .ref t_ta, .ref p_pl, .ref r_tr, .ref w_ro, .ref x_ash]))]) (va_runV (As := [.int ((x1.toUInt32 % 65536).toInt32)]) (rest := []) ⟨hx, hb, hml, hown, hts⟩ (c_X5_put l D G _ t_ta t_ale t_ami t_aki t_afi t_size t_place t_cows t_bearer t_tasters t_letters ((x1.toUInt32 % 65536).toInt32) _ hw) (cwV 1 hts gX7_type_X5_put rfl rfl rfl (by decide +kernel) ⟨(Nat.le_of_ble_eq_true rfl), (Nat.le_of_ble_eq_true rfl)⟩) (xM_pv (hP.sub [1, 2] rfl) hK (hD.sub [1, 2] (by decide) rfl) (va_recv hK hP (ci := 5) (q0 := 1) rfl rfl)) rfl rfl hl.1 rfl (lv_room (Nat.le_of_ble_eq_true rfl)) dX7_type_35 ⟨Nat.zero_le _, Nat.zero_le _⟩) hP hD hS hA [1, 2] [0] rfl rfl (by decide) (by decide) [0, 1, 2] (fun u => [(x_xo, .inr (7, [.ref da, .ref k_da, .int x_isKept, .ref t_ta, .ref p_pl, .ref r_tr, .ref w_ro, .ref x_ash])), (t_ta, .inr (5, [.ref t_ale, .int u.1, .int t_place, .ref t_ami, .int t_cows, .int t_bearer, .ref t_aki, .ref t_afi, .int t_tasters])), (t_ale, .inl (G 3, 40, .inl (u.2)))]) (by decide) (fun u => rfl) (fun u H locs hw hP hD hS => ?_)
        obtain ⟨t_size_1, t_letters_1⟩ := u
        try dsimp only at hw
        replace hP : va_P D vwCl [(x_xo, .inr (7, [.ref da, .ref k_da, .int x_isKept, .ref t_ta, .ref p_pl, .ref r_tr, .ref w_ro, .ref x_ash])), (t_ta, .inr (5, [.ref t_ale, .int t_size_1, .int t_place, .ref t_ami, .int t_cows, .int t_bearer, .ref t_aki, .ref t_afi, .int t_tasters])), (t_ale, .inl (G 3, 40, .inl t_letters_1))] H := hP
        replace hD : va_D A [(x_xo, .inr (7, [.ref da, .ref k_da, .int x_isKept, .ref t_ta, .ref p_pl, .ref r_tr, .ref w_ro, .ref x_ash])), (t_ta, .inr (5, [.ref t_ale, .int t_size_1, .int t_place, .ref t_ami, .int t_cows, .int t_bearer, .ref t_aki, .ref t_afi, .int t_tasters])), (t_ale, .inl (G 3, 40, .inl t_letters_1))] := hD
        refine lv_aload_n hx hb dX7_type_38 rfl (lv_at hl 0 rfl) ?_
        refine va_get (D := D) (ci := 7) (v := .ref t_ta) (C := RX7) (T := TX7) (N := 8) hx hb hts inX7 hown hK hP 0 rfl rfl 3 (by decide) fl26 (fun _ h9 => h9) rfl dX7_type_39 ?_
        refine va_get (D := D) (ci := 5) (v := .int t_size_1) (C := RX5) (T := TX5) (N := 9) hx hb hts inX5 hown hK hP 1 rfl rfl 1 (by decide) fl116 (fun _ h9 => h9) rfl dX7_type_42 ?_
        exact W.iret hx hb hr (x_mi (u := (t_size_1, t_letters_1)) hP hK hD hS hw) hS.2.2 dX7_type_45
      · replace hw := hw.2 c9
        refine lv_bipush (v := -3) hx hb dX7_type_26 (by decide) ?_
        exact W.iret hx hb hr (x_mi (u := (t_size, t_letters)) hP hK hD hS hw) hS.2.2 dX7_type_28
    · replace hw := hw.2 c9
      refine lv_iconst (v := -1) hx hb dX7_type_12 (by decide) ?_
      exact W.iret hx hb hr (x_mi (u := (t_size, t_letters)) hP hK hD hS hw) hS.2.2 dX7_type_13
set_option maxHeartbeats 4000000 in
set_option maxRecDepth 100000 in
theorem c_X7_count (l : Launch) (D : va_G) (G : Nat → ClassId) (x_xo : Nat) (da : Nat) (k_da : Nat) (t_ta : Nat) (p_pl : Nat) (r_tr : Nat) (w_ro : Nat) (x_ash : Nat) (ami : Nat) (aki : Nat) (afi : Nat) (anw : Nat) (apa : Nat) (x_isKept : Int32) (cows : Int32) (tasters : Int32) (newest : Int32) (known : Int32) (milks : Nat → Int32) (mayBe : Int32) (bearer : Int32) (day : Int32) (draw : Int32) (x1 : Int32) (post : Int32 → Prop) (hw : wp_X7_count cows tasters known milks mayBe bearer day x1 post) : Met l yX7_count wsX7_count ({ frames := 1, cells := 0, slots := 0, locals := 23 } : Room) (va_Pc [.ref x_xo, .int x1] (xR D G [(x_xo, .inr (7, [.ref da, .ref k_da, .int x_isKept, .ref t_ta, .ref p_pl, .ref r_tr, .ref w_ro, .ref x_ash])), (da, .inr (0, [.ref ami, .int cows, .ref aki, .ref afi, .int tasters, .ref anw, .ref apa, .int newest, .int known])), (ami, .inl (G 0, 8, .inl milks)), (anw, .inr (1, [.int mayBe, .int bearer, .int day, .int draw]))])) (vp_Si post) 0 0 (fun _ => False) := by
  refine Met.ofW (cc := cX7_count) (maxL := 2) (ret := (some .int)) (by decide) rfl ?_
  intro p e s m args below meth c s₁ B hml hv
  obtain ⟨rfl, hP, hK⟩ := hv
  have hx := B.exec
  have hb := B.bytes
  have hr := B.returns
  have hts := atoms_spec (ws := wsX7_count) B.pre
  have hown : s.vm.findClass RX7 = some m.cls := findClass_of_methodNamed B.named
  have hlocks := B.notSynchronized
  have inX0 : ∀ w ∈ wsX00, w ∈ wsX7_count := by decide +kernel
  have inX1 : ∀ w ∈ wsX10, w ∈ wsX7_count := by decide +kernel
  have inX7 : ∀ w ∈ wsX70, w ∈ wsX7_count := by decide +kernel
  have fl12 := hts (.fieldLink RX7 12 "NewsCow" "dairy" "LNewsCow$Dairy;") (by decide +kernel)
  have fl58 := hts (.fieldLink RX7 58 "NewsCow$Dairy" "cows" "I") (by decide +kernel)
  have fl82 := hts (.fieldLink RX7 82 "NewsCow$Dairy" "tasters" "I") (by decide +kernel)
  have fl66 := hts (.fieldLink RX7 66 "NewsCow$Dairy" "now" "LNewsCow$Moment;") (by decide +kernel)
  have fl134 := hts (.fieldLink RX7 134 "NewsCow$Moment" "day" "I") (by decide +kernel)
  have fl74 := hts (.fieldLink RX7 74 "NewsCow$Moment" "mayBe" "I") (by decide +kernel)
  have fl137 := hts (.fieldLink RX7 137 "NewsCow$Moment" "bearer" "I") (by decide +kernel)
  have fl79 := hts (.fieldLink RX7 79 "NewsCow$Dairy" "known" "I") (by decide +kernel)
  have hl := lv_entry ([.ref x_xo, .int x1] : List Value) (n := 2) (Nat.le_of_ble_eq_true rfl)
  rw [lg_entry_eq]
  generalize (lg_sl ([.ref x_xo, .int x1] : List Value) ++ List.replicate (2 - (lg_sl ([.ref x_xo, .int x1] : List Value)).length) Slot.unset).toArray = ls at hl ⊢
  have hl : lv_has ls 2 [(0, .ref x_xo), (1, .int x1)] := hl
  unfold wp_X7_count at hw
  refine lv_iload_n hx hb dX7_count_0 rfl (lv_at hl 1 rfl) ?_
  by_cases c0 : x1 = 0
  · replace hw := hw.1 c0
    refine lv_tableIn (tgt := 48) (off := 47) hx hb dX7_count_1 (by rw [c0]; decide) (by rw [c0]; decide) (by rw [c0]; decide) (by decide) ?_
    refine lv_aload_n hx hb dX7_count_48 rfl (lv_at hl 0 rfl) ?_
    refine va_get (D := D) (ci := 7) (v := .ref da) (C := RX7) (T := TX7) (N := 8) hx hb hts inX7 hown hK hP 0 rfl rfl 0 (by decide) fl12 (fun _ h9 => h9) rfl dX7_count_49 ?_
    refine va_get (D := D) (ci := 0) (v := .int cows) (C := RX0) (T := TX0) (N := 9) hx hb hts inX0 hown hK hP 1 rfl rfl 1 (by decide) fl58 (fun _ h9 => h9) rfl dX7_count_52 ?_
    exact W.iret hx hb hr (fun t ht _ => ⟨_, rfl, hw, ht⟩) (fun _ h => absurd h List.not_mem_nil) dX7_count_55
  replace hw := hw.2 c0
  by_cases c1 : x1 = 1
  · replace hw := hw.1 c1
    refine lv_tableIn (tgt := 56) (off := 55) hx hb dX7_count_1 (by rw [c1]; decide) (by rw [c1]; decide) (by rw [c1]; decide) (by decide) ?_
    refine lv_aload_n hx hb dX7_count_56 rfl (lv_at hl 0 rfl) ?_
    refine va_get (D := D) (ci := 7) (v := .ref da) (C := RX7) (T := TX7) (N := 8) hx hb hts inX7 hown hK hP 0 rfl rfl 0 (by decide) fl12 (fun _ h9 => h9) rfl dX7_count_57 ?_
    refine va_get (D := D) (ci := 0) (v := .int tasters) (C := RX0) (T := TX0) (N := 9) hx hb hts inX0 hown hK hP 1 rfl rfl 4 (by decide) fl82 (fun _ h9 => h9) rfl dX7_count_60 ?_
    exact W.iret hx hb hr (fun t ht _ => ⟨_, rfl, hw, ht⟩) (fun _ h => absurd h List.not_mem_nil) dX7_count_63
  replace hw := hw.2 c1
  by_cases c2 : x1 = 2
  · replace hw := hw.1 c2
    refine lv_tableIn (tgt := 64) (off := 63) hx hb dX7_count_1 (by rw [c2]; decide) (by rw [c2]; decide) (by rw [c2]; decide) (by decide) ?_
    refine lv_aload_n hx hb dX7_count_64 rfl (lv_at hl 0 rfl) ?_
    refine va_get (D := D) (ci := 7) (v := .ref da) (C := RX7) (T := TX7) (N := 8) hx hb hts inX7 hown hK hP 0 rfl rfl 0 (by decide) fl12 (fun _ h9 => h9) rfl dX7_count_65 ?_
    refine va_get (D := D) (ci := 0) (v := .ref anw) (C := RX0) (T := TX0) (N := 9) hx hb hts inX0 hown hK hP 1 rfl rfl 5 (by decide) fl66 (fun _ h9 => h9) rfl dX7_count_68 ?_
    refine va_get (D := D) (ci := 1) (v := .int day) (C := RX1) (T := TX1) (N := 4) hx hb hts inX1 hown hK hP 3 rfl rfl 2 (by decide) fl134 (fun _ h9 => h9) rfl dX7_count_71 ?_
    exact W.iret hx hb hr (fun t ht _ => ⟨_, rfl, hw, ht⟩) (fun _ h => absurd h List.not_mem_nil) dX7_count_74
  replace hw := hw.2 c2
  by_cases c3 : x1 = 3
  · replace hw := hw.1 c3
    refine lv_tableIn (tgt := 75) (off := 74) hx hb dX7_count_1 (by rw [c3]; decide) (by rw [c3]; decide) (by rw [c3]; decide) (by decide) ?_
    refine lv_aload_n hx hb dX7_count_75 rfl (lv_at hl 0 rfl) ?_
    refine va_get (D := D) (ci := 7) (v := .ref da) (C := RX7) (T := TX7) (N := 8) hx hb hts inX7 hown hK hP 0 rfl rfl 0 (by decide) fl12 (fun _ h9 => h9) rfl dX7_count_76 ?_
    refine va_get (D := D) (ci := 0) (v := .ref anw) (C := RX0) (T := TX0) (N := 9) hx hb hts inX0 hown hK hP 1 rfl rfl 5 (by decide) fl66 (fun _ h9 => h9) rfl dX7_count_79 ?_
    refine va_get (D := D) (ci := 1) (v := .int mayBe) (C := RX1) (T := TX1) (N := 4) hx hb hts inX1 hown hK hP 3 rfl rfl 0 (by decide) fl74 (fun _ h9 => h9) rfl dX7_count_82 ?_
    exact W.iret hx hb hr (fun t ht _ => ⟨_, rfl, hw, ht⟩) (fun _ h => absurd h List.not_mem_nil) dX7_count_85
  replace hw := hw.2 c3
  by_cases c4 : x1 = 4
  · replace hw := hw.1 c4
    refine lv_tableIn (tgt := 86) (off := 85) hx hb dX7_count_1 (by rw [c4]; decide) (by rw [c4]; decide) (by rw [c4]; decide) (by decide) ?_
    refine lv_aload_n hx hb dX7_count_86 rfl (lv_at hl 0 rfl) ?_
    refine va_get (D := D) (ci := 7) (v := .ref da) (C := RX7) (T := TX7) (N := 8) hx hb hts inX7 hown hK hP 0 rfl rfl 0 (by decide) fl12 (fun _ h9 => h9) rfl dX7_count_87 ?_
    refine va_get (D := D) (ci := 0) (v := .ref anw) (C := RX0) (T := TX0) (N := 9) hx hb hts inX0 hown hK hP 1 rfl rfl 5 (by decide) fl66 (fun _ h9 => h9) rfl dX7_count_90 ?_
    refine va_get (D := D) (ci := 1) (v := .int bearer) (C := RX1) (T := TX1) (N := 4) hx hb hts inX1 hown hK hP 3 rfl rfl 1 (by decide) fl137 (fun _ h9 => h9) rfl dX7_count_93 ?_
    exact W.iret hx hb hr (fun t ht _ => ⟨_, rfl, hw, ht⟩) (fun _ h => absurd h List.not_mem_nil) dX7_count_96
  replace hw := hw.2 c4
  by_cases c5 : x1 = 5
  · replace hw := hw.1 c5
    refine lv_tableIn (tgt := 97) (off := 96) hx hb dX7_count_1 (by rw [c5]; decide) (by rw [c5]; decide) (by rw [c5]; decide) (by decide) ?_
    refine lv_aload_n hx hb dX7_count_97 rfl (lv_at hl 0 rfl) ?_
    refine va_get (D := D) (ci := 7) (v := .ref da) (C := RX7) (T := TX7) (N := 8) hx hb hts inX7 hown hK hP 0 rfl rfl 0 (by decide) fl12 (fun _ h9 => h9) rfl dX7_count_98 ?_
    refine lv_aload_n hx hb dX7_count_101 rfl (lv_at hl 0 rfl) ?_
    refine va_get (D := D) (ci := 7) (v := .ref da) (C := RX7) (T := TX7) (N := 8) hx hb hts inX7 hown hK hP 0 rfl rfl 0 (by decide) fl12 (fun _ h9 => h9) rfl dX7_count_102 ?_
    refine vp_callSi (W.runV (As := []) (rest := [.ref da]) ⟨hx, hb, hml, hown, hts⟩ (c_X0_allCows l D G da ami aki afi anw apa cows tasters newest known _ hw) (cwV 0 hts gX7_count_X0_allCows rfl rfl rfl (by decide +kernel) ⟨(Nat.le_of_ble_eq_true rfl), (Nat.le_of_ble_eq_true rfl)⟩) (xR_pv (hP.sub [1] rfl) hK (va_recv hK hP (ci := 0) (q0 := 1) rfl rfl)) rfl rfl hl.1 rfl (lv_room (Nat.le_of_ble_eq_true rfl)) dX7_count_105 ⟨Nat.zero_le _, Nat.zero_le _⟩) (fun r1 hw => ?_)
    refine vp_callSi (W.runV (As := [.int r1]) (rest := []) ⟨hx, hb, hml, hown, hts⟩ (c_X0_milkOf l D G da ami aki afi anw apa cows tasters newest known milks r1 _ hw) (cwV 1 hts gX7_count_X0_milkOf rfl rfl rfl (by decide +kernel) ⟨(Nat.le_of_ble_eq_true rfl), (Nat.le_of_ble_eq_true rfl)⟩) (xR_pv (hP.sub [1, 2] rfl) hK (va_recv hK hP (ci := 0) (q0 := 1) rfl rfl)) rfl rfl hl.1 rfl (lv_room (Nat.le_of_ble_eq_true rfl)) dX7_count_108 ⟨Nat.zero_le _, Nat.zero_le _⟩) (fun r2 hw => ?_)
    exact W.iret hx hb hr (fun t ht _ => ⟨_, rfl, hw, ht⟩) (fun _ h => absurd h List.not_mem_nil) dX7_count_111
  replace hw := hw.2 c5
  by_cases c6 : x1 = 6
  · replace hw := hw.1 c6
    refine lv_tableIn (tgt := 112) (off := 111) hx hb dX7_count_1 (by rw [c6]; decide) (by rw [c6]; decide) (by rw [c6]; decide) (by decide) ?_
    refine lv_aload_n hx hb dX7_count_112 rfl (lv_at hl 0 rfl) ?_
    refine va_get (D := D) (ci := 7) (v := .ref da) (C := RX7) (T := TX7) (N := 8) hx hb hts inX7 hown hK hP 0 rfl rfl 0 (by decide) fl12 (fun _ h9 => h9) rfl dX7_count_113 ?_
    refine lv_aload_n hx hb dX7_count_116 rfl (lv_at hl 0 rfl) ?_
    refine va_get (D := D) (ci := 7) (v := .ref da) (C := RX7) (T := TX7) (N := 8) hx hb hts inX7 hown hK hP 0 rfl rfl 0 (by decide) fl12 (fun _ h9 => h9) rfl dX7_count_117 ?_
    refine va_get (D := D) (ci := 0) (v := .ref anw) (C := RX0) (T := TX0) (N := 9) hx hb hts inX0 hown hK hP 1 rfl rfl 5 (by decide) fl66 (fun _ h9 => h9) rfl dX7_count_120 ?_
    refine va_get (D := D) (ci := 1) (v := .int mayBe) (C := RX1) (T := TX1) (N := 4) hx hb hts inX1 hown hK hP 3 rfl rfl 0 (by decide) fl74 (fun _ h9 => h9) rfl dX7_count_123 ?_
    refine vp_callSi (W.runV (As := [.int mayBe]) (rest := []) ⟨hx, hb, hml, hown, hts⟩ (c_X0_milkOf l D G da ami aki afi anw apa cows tasters newest known milks mayBe _ hw) (cwV 1 hts gX7_count_X0_milkOf rfl rfl rfl (by decide +kernel) ⟨(Nat.le_of_ble_eq_true rfl), (Nat.le_of_ble_eq_true rfl)⟩) (xR_pv (hP.sub [1, 2] rfl) hK (va_recv hK hP (ci := 0) (q0 := 1) rfl rfl)) rfl rfl hl.1 rfl (lv_room (Nat.le_of_ble_eq_true rfl)) dX7_count_126 ⟨Nat.zero_le _, Nat.zero_le _⟩) (fun r3 hw => ?_)
    exact W.iret hx hb hr (fun t ht _ => ⟨_, rfl, hw, ht⟩) (fun _ h => absurd h List.not_mem_nil) dX7_count_129
  replace hw := hw.2 c6
  by_cases c7 : x1 = 7
  · replace hw := hw.1 c7
    refine lv_tableIn (tgt := 130) (off := 129) hx hb dX7_count_1 (by rw [c7]; decide) (by rw [c7]; decide) (by rw [c7]; decide) (by decide) ?_
    refine lv_aload_n hx hb dX7_count_130 rfl (lv_at hl 0 rfl) ?_
    refine va_get (D := D) (ci := 7) (v := .ref da) (C := RX7) (T := TX7) (N := 8) hx hb hts inX7 hown hK hP 0 rfl rfl 0 (by decide) fl12 (fun _ h9 => h9) rfl dX7_count_131 ?_
    refine va_get (D := D) (ci := 0) (v := .int known) (C := RX0) (T := TX0) (N := 9) hx hb hts inX0 hown hK hP 1 rfl rfl 8 (by decide) fl79 (fun _ h9 => h9) rfl dX7_count_134 ?_
    exact W.iret hx hb hr (fun t ht _ => ⟨_, rfl, hw, ht⟩) (fun _ h => absurd h List.not_mem_nil) dX7_count_137
  replace hw := hw.2 c7
  refine lv_tableOut (tgt := 138) hx hb dX7_count_1 (x_sw0_7 c0 c1 c2 c3 c4 c5 c6 c7) (by decide) ?_
  refine lv_iconst (v := -1) hx hb dX7_count_138 (by decide) ?_
  exact W.iret hx hb hr (fun t ht _ => ⟨_, rfl, hw, ht⟩) (fun _ h => absurd h List.not_mem_nil) dX7_count_139
set_option maxHeartbeats 4000000 in
set_option maxRecDepth 100000 in
theorem c_X7_answer (l : Launch) (D : va_G) (G : Nat → ClassId) (sz : Nat) (x_xo : Nat) (da : Nat) (k_da : Nat) (t_ta : Nat) (p_pl : Nat) (r_tr : Nat) (w_ro : Nat) (x_ash : Nat) (ami : Nat) (aki : Nat) (afi : Nat) (anw : Nat) (apa : Nat) (pq : Nat → Nat) (x_isKept : Int32) (cows : Int32) (tasters : Int32) (newest : Int32) (known : Int32) (milks : Nat → Int32) (kinds : Nat → Int32) (fines : Nat → Int32) (mayBe : Int32) (bearer : Int32) (day : Int32) (draw : Int32) (pm : Nat → Int32) (pb : Nat → Int32) (pd : Nat → Int32) (pw : Nat → Int32) (x1 : Int32) (x2 : Int32) (x3 : Int32) (post : Int32 → Int32 → Int32 → Int32 → Int32 → (Nat → Int32) → (Nat → Int32) → (Nat → Int32) → (Nat → Int32) → Prop) (hw : wp_X7_answer cows tasters newest known milks kinds fines mayBe bearer day draw pm pb pd pw x1 x2 x3 post) : Met l yX7_answer wsX7_answer ({ frames := 4, cells := 0, slots := 0, locals := 96 } : Room) (va_Pc [.ref x_xo, .int x1, .int x2, .int x3] (xM D G sz [(x_xo, .inr (7, [.ref da, .ref k_da, .int x_isKept, .ref t_ta, .ref p_pl, .ref r_tr, .ref w_ro, .ref x_ash])), (da, .inr (0, [.ref ami, .int cows, .ref aki, .ref afi, .int tasters, .ref anw, .ref apa, .int newest, .int known])), (ami, .inl (G 0, 8, .inl milks)), (aki, .inl (G 0, 4, .inl kinds)), (afi, .inl (G 0, 4, .inl fines)), (anw, .inr (1, [.int mayBe, .int bearer, .int day, .int draw])), (apa, .inl (G 4, 8, .inr (.inr (.inr (.inr (fun k => some (pq k))))))), ((pq 0), .inr (1, [.int (pm 0), .int (pb 0), .int (pd 0), .int (pw 0)])), ((pq 1), .inr (1, [.int (pm 1), .int (pb 1), .int (pd 1), .int (pw 1)])), ((pq 2), .inr (1, [.int (pm 2), .int (pb 2), .int (pd 2), .int (pw 2)])), ((pq 3), .inr (1, [.int (pm 3), .int (pb 3), .int (pd 3), .int (pw 3)])), ((pq 4), .inr (1, [.int (pm 4), .int (pb 4), .int (pd 4), .int (pw 4)])), ((pq 5), .inr (1, [.int (pm 5), .int (pb 5), .int (pd 5), .int (pw 5)])), ((pq 6), .inr (1, [.int (pm 6), .int (pb 6), .int (pd 6), .int (pw 6)])), ((pq 7), .inr (1, [.int (pm 7), .int (pb 7), .int (pd 7), .int (pw 7)]))])) (va_Qi (fun r (u : Int32 × Int32 × Int32 × Int32 × (Nat → Int32) × (Nat → Int32) × (Nat → Int32) × (Nat → Int32)) => post r u.1 u.2.1 u.2.2.1 u.2.2.2.1 u.2.2.2.2.1 u.2.2.2.2.2.1 u.2.2.2.2.2.2.1 u.2.2.2.2.2.2.2) (fun u t => xE D G (va_A [(x_xo, .inr (7, [.ref da, .ref k_da, .int x_isKept, .ref t_ta, .ref p_pl, .ref r_tr, .ref w_ro, .ref x_ash])), (da, .inr (0, [.ref ami, .int cows, .ref aki, .ref afi, .int tasters, .ref anw, .ref apa, .int newest, .int known])), (ami, .inl (G 0, 8, .inl milks)), (aki, .inl (G 0, 4, .inl kinds)), (afi, .inl (G 0, 4, .inl fines)), (anw, .inr (1, [.int mayBe, .int bearer, .int day, .int draw])), (apa, .inl (G 4, 8, .inr (.inr (.inr (.inr (fun k => some (pq k))))))), ((pq 0), .inr (1, [.int (pm 0), .int (pb 0), .int (pd 0), .int (pw 0)])), ((pq 1), .inr (1, [.int (pm 1), .int (pb 1), .int (pd 1), .int (pw 1)])), ((pq 2), .inr (1, [.int (pm 2), .int (pb 2), .int (pd 2), .int (pw 2)])), ((pq 3), .inr (1, [.int (pm 3), .int (pb 3), .int (pd 3), .int (pw 3)])), ((pq 4), .inr (1, [.int (pm 4), .int (pb 4), .int (pd 4), .int (pw 4)])), ((pq 5), .inr (1, [.int (pm 5), .int (pb 5), .int (pd 5), .int (pw 5)])), ((pq 6), .inr (1, [.int (pm 6), .int (pb 6), .int (pd 6), .int (pw 6)])), ((pq 7), .inr (1, [.int (pm 7), .int (pb 7), .int (pd 7), .int (pw 7)]))] sz) [(x_xo, .inr (7, [.ref da, .ref k_da, .int x_isKept, .ref t_ta, .ref p_pl, .ref r_tr, .ref w_ro, .ref x_ash])), (da, .inr (0, [.ref ami, .int cows, .ref aki, .ref afi, .int tasters, .ref anw, .ref apa, .int u.1, .int u.2.1])), (ami, .inl (G 0, 8, .inl milks)), (aki, .inl (G 0, 4, .inl kinds)), (afi, .inl (G 0, 4, .inl fines)), (anw, .inr (1, [.int u.2.2.1, .int bearer, .int u.2.2.2.1, .int draw])), (apa, .inl (G 4, 8, .inr (.inr (.inr (.inr (fun k => some (pq k))))))), ((pq 0), .inr (1, [.int ((u.2.2.2.2.1) 0), .int ((u.2.2.2.2.2.1) 0), .int ((u.2.2.2.2.2.2.1) 0), .int ((u.2.2.2.2.2.2.2) 0)])), ((pq 1), .inr (1, [.int ((u.2.2.2.2.1) 1), .int ((u.2.2.2.2.2.1) 1), .int ((u.2.2.2.2.2.2.1) 1), .int ((u.2.2.2.2.2.2.2) 1)])), ((pq 2), .inr (1, [.int ((u.2.2.2.2.1) 2), .int ((u.2.2.2.2.2.1) 2), .int ((u.2.2.2.2.2.2.1) 2), .int ((u.2.2.2.2.2.2.2) 2)])), ((pq 3), .inr (1, [.int ((u.2.2.2.2.1) 3), .int ((u.2.2.2.2.2.1) 3), .int ((u.2.2.2.2.2.2.1) 3), .int ((u.2.2.2.2.2.2.2) 3)])), ((pq 4), .inr (1, [.int ((u.2.2.2.2.1) 4), .int ((u.2.2.2.2.2.1) 4), .int ((u.2.2.2.2.2.2.1) 4), .int ((u.2.2.2.2.2.2.2) 4)])), ((pq 5), .inr (1, [.int ((u.2.2.2.2.1) 5), .int ((u.2.2.2.2.2.1) 5), .int ((u.2.2.2.2.2.2.1) 5), .int ((u.2.2.2.2.2.2.2) 5)])), ((pq 6), .inr (1, [.int ((u.2.2.2.2.1) 6), .int ((u.2.2.2.2.2.1) 6), .int ((u.2.2.2.2.2.2.1) 6), .int ((u.2.2.2.2.2.2.2) 6)])), ((pq 7), .inr (1, [.int ((u.2.2.2.2.1) 7), .int ((u.2.2.2.2.2.1) 7), .int ((u.2.2.2.2.2.2.1) 7), .int ((u.2.2.2.2.2.2.2) 7)]))] t) (va_A [(x_xo, .inr (7, [.ref da, .ref k_da, .int x_isKept, .ref t_ta, .ref p_pl, .ref r_tr, .ref w_ro, .ref x_ash])), (da, .inr (0, [.ref ami, .int cows, .ref aki, .ref afi, .int tasters, .ref anw, .ref apa, .int newest, .int known])), (ami, .inl (G 0, 8, .inl milks)), (aki, .inl (G 0, 4, .inl kinds)), (afi, .inl (G 0, 4, .inl fines)), (anw, .inr (1, [.int mayBe, .int bearer, .int day, .int draw])), (apa, .inl (G 4, 8, .inr (.inr (.inr (.inr (fun k => some (pq k))))))), ((pq 0), .inr (1, [.int (pm 0), .int (pb 0), .int (pd 0), .int (pw 0)])), ((pq 1), .inr (1, [.int (pm 1), .int (pb 1), .int (pd 1), .int (pw 1)])), ((pq 2), .inr (1, [.int (pm 2), .int (pb 2), .int (pd 2), .int (pw 2)])), ((pq 3), .inr (1, [.int (pm 3), .int (pb 3), .int (pd 3), .int (pw 3)])), ((pq 4), .inr (1, [.int (pm 4), .int (pb 4), .int (pd 4), .int (pw 4)])), ((pq 5), .inr (1, [.int (pm 5), .int (pb 5), .int (pd 5), .int (pw 5)])), ((pq 6), .inr (1, [.int (pm 6), .int (pb 6), .int (pd 6), .int (pw 6)])), ((pq 7), .inr (1, [.int (pm 7), .int (pb 7), .int (pd 7), .int (pw 7)]))] sz)) 0 0 (va_A [(x_xo, .inr (7, [.ref da, .ref k_da, .int x_isKept, .ref t_ta, .ref p_pl, .ref r_tr, .ref w_ro, .ref x_ash])), (da, .inr (0, [.ref ami, .int cows, .ref aki, .ref afi, .int tasters, .ref anw, .ref apa, .int newest, .int known])), (ami, .inl (G 0, 8, .inl milks)), (aki, .inl (G 0, 4, .inl kinds)), (afi, .inl (G 0, 4, .inl fines)), (anw, .inr (1, [.int mayBe, .int bearer, .int day, .int draw])), (apa, .inl (G 4, 8, .inr (.inr (.inr (.inr (fun k => some (pq k))))))), ((pq 0), .inr (1, [.int (pm 0), .int (pb 0), .int (pd 0), .int (pw 0)])), ((pq 1), .inr (1, [.int (pm 1), .int (pb 1), .int (pd 1), .int (pw 1)])), ((pq 2), .inr (1, [.int (pm 2), .int (pb 2), .int (pd 2), .int (pw 2)])), ((pq 3), .inr (1, [.int (pm 3), .int (pb 3), .int (pd 3), .int (pw 3)])), ((pq 4), .inr (1, [.int (pm 4), .int (pb 4), .int (pd 4), .int (pw 4)])), ((pq 5), .inr (1, [.int (pm 5), .int (pb 5), .int (pd 5), .int (pw 5)])), ((pq 6), .inr (1, [.int (pm 6), .int (pb 6), .int (pd 6), .int (pw 6)])), ((pq 7), .inr (1, [.int (pm 7), .int (pb 7), .int (pd 7), .int (pw 7)]))] sz) := by
  refine Met.ofW (cc := cX7_answer) (maxL := 4) (ret := (some .int)) (by decide) rfl ?_
  intro p e s m args below meth c s₁ B hml hv
  obtain ⟨rfl, hsz, hP, hK, hD0⟩ := hv
  have hx := B.exec
  have hb := B.bytes
  have hr := B.returns
  have hts := atoms_spec (ws := wsX7_answer) B.pre
  have hown : s.vm.findClass RX7 = some m.cls := findClass_of_methodNamed B.named
  have hlocks := B.notSynchronized
  subst hsz
  have hD := hD0.self (sz := s.heap.size)
  generalize hAe : va_A [(x_xo, .inr (7, [.ref da, .ref k_da, .int x_isKept, .ref t_ta, .ref p_pl, .ref r_tr, .ref w_ro, .ref x_ash])), (da, .inr (0, [.ref ami, .int cows, .ref aki, .ref afi, .int tasters, .ref anw, .ref apa, .int newest, .int known])), (ami, .inl (G 0, 8, .inl milks)), (aki, .inl (G 0, 4, .inl kinds)), (afi, .inl (G 0, 4, .inl fines)), (anw, .inr (1, [.int mayBe, .int bearer, .int day, .int draw])), (apa, .inl (G 4, 8, .inr (.inr (.inr (.inr (fun k => some (pq k))))))), ((pq 0), .inr (1, [.int (pm 0), .int (pb 0), .int (pd 0), .int (pw 0)])), ((pq 1), .inr (1, [.int (pm 1), .int (pb 1), .int (pd 1), .int (pw 1)])), ((pq 2), .inr (1, [.int (pm 2), .int (pb 2), .int (pd 2), .int (pw 2)])), ((pq 3), .inr (1, [.int (pm 3), .int (pb 3), .int (pd 3), .int (pw 3)])), ((pq 4), .inr (1, [.int (pm 4), .int (pb 4), .int (pd 4), .int (pw 4)])), ((pq 5), .inr (1, [.int (pm 5), .int (pb 5), .int (pd 5), .int (pw 5)])), ((pq 6), .inr (1, [.int (pm 6), .int (pb 6), .int (pd 6), .int (pw 6)])), ((pq 7), .inr (1, [.int (pm 7), .int (pb 7), .int (pd 7), .int (pw 7)]))] s.heap.size = A at hD ⊢
  have hA : ∀ q : Nat, s.heap.size ≤ q → A q := fun q h => by rw [← hAe]; exact Or.inr h
  have hS : va_S A s.heap s.heap [] := va_S.rf
  have inX0 : ∀ w ∈ wsX00, w ∈ wsX7_answer := by decide +kernel
  have inX1 : ∀ w ∈ wsX10, w ∈ wsX7_answer := by decide +kernel
  have inX7 : ∀ w ∈ wsX70, w ∈ wsX7_answer := by decide +kernel
  have fl12 := hts (.fieldLink RX7 12 "NewsCow" "dairy" "LNewsCow$Dairy;") (by decide +kernel)
  have fl66 := hts (.fieldLink RX7 66 "NewsCow$Dairy" "now" "LNewsCow$Moment;") (by decide +kernel)
  have fl134 := hts (.fieldLink RX7 134 "NewsCow$Moment" "day" "I") (by decide +kernel)
  have fl103 := hts (.fieldLink RX7 103 "NewsCow$Dairy" "kinds" "[I") (by decide +kernel)
  have fl106 := hts (.fieldLink RX7 106 "NewsCow$Dairy" "fines" "[I") (by decide +kernel)
  have fl74 := hts (.fieldLink RX7 74 "NewsCow$Moment" "mayBe" "I") (by decide +kernel)
  have hl := lv_entry ([.ref x_xo, .int x1, .int x2, .int x3] : List Value) (n := 4) (Nat.le_of_ble_eq_true rfl)
  rw [lg_entry_eq]
  generalize (lg_sl ([.ref x_xo, .int x1, .int x2, .int x3] : List Value) ++ List.replicate (4 - (lg_sl ([.ref x_xo, .int x1, .int x2, .int x3] : List Value)).length) Slot.unset).toArray = ls at hl ⊢
  have hl : lv_has ls 4 [(0, .ref x_xo), (1, .int x1), (2, .int x2), (3, .int x3)] := hl
  unfold wp_X7_answer at hw
  refine lv_aload_n hx hb dX7_answer_0 rfl (lv_at hl 0 rfl) ?_
  refine lv_iload_n hx hb dX7_answer_1 rfl (lv_at hl 1 rfl) ?_
  refine vp_callSi (W.runV (As := [.int x1]) (rest := []) ⟨hx, hb, hml, hown, hts⟩ (c_X7_isTaster l D G x_xo da k_da t_ta p_pl r_tr w_ro x_ash ami aki afi anw apa x_isKept cows tasters newest known x1 _ hw) (cwV 1 hts gX7_answer_X7_isTaster rfl rfl rfl (by decide +kernel) ⟨(Nat.le_of_ble_eq_true rfl), (Nat.le_of_ble_eq_true rfl)⟩) (xR_pv (hP.sub [0, 1] rfl) hK (va_recv hK hP (ci := 7) (q0 := 0) rfl rfl)) rfl rfl hl.1 rfl (lv_room (Nat.le_of_ble_eq_true rfl)) dX7_answer_2 ⟨Nat.zero_le _, Nat.zero_le _⟩) (fun r1 hw => ?_)
  refine lv_if_eq (tgt := 23) hx hb dX7_answer_5 (by decide) (fun c9 => ?_) (fun c9 => ?_)
  · replace hw := hw.1 c9
    refine lv_iconst (v := -1) hx hb dX7_answer_23 (by decide) ?_
    exact W.iret hx hb hr (x_mi (u := (newest, known, mayBe, day, pm, pb, pd, pw)) hP hK hD hS hw) hS.2.2 dX7_answer_24
  · replace hw := hw.2 c9
    refine lv_aload_n hx hb dX7_answer_8 rfl (lv_at hl 0 rfl) ?_
    refine lv_iload_n hx hb dX7_answer_9 rfl (lv_at hl 2 rfl) ?_
    refine vp_callSi (W.runV (As := [.int x2]) (rest := []) ⟨hx, hb, hml, hown, hts⟩ (c_X7_isMix l D G x_xo da k_da t_ta p_pl r_tr w_ro x_ash ami aki afi anw apa x_isKept cows tasters newest known x2 _ hw) (cwV 1 hts gX7_answer_X7_isMix rfl rfl rfl (by decide +kernel) ⟨(Nat.le_of_ble_eq_true rfl), (Nat.le_of_ble_eq_true rfl)⟩) (xR_pv (hP.sub [0, 1] rfl) hK (va_recv hK hP (ci := 7) (q0 := 0) rfl rfl)) rfl rfl hl.1 rfl (lv_room (Nat.le_of_ble_eq_true rfl)) dX7_answer_10 ⟨Nat.zero_le _, Nat.zero_le _⟩) (fun r2 hw => ?_)
    refine lv_if_eq (tgt := 23) hx hb dX7_answer_13 (by decide) (fun c9 => ?_) (fun c9 => ?_)
    · replace hw := hw.1 c9
      refine lv_iconst (v := -1) hx hb dX7_answer_23 (by decide) ?_
      exact W.iret hx hb hr (x_mi (u := (newest, known, mayBe, day, pm, pb, pd, pw)) hP hK hD hS hw) hS.2.2 dX7_answer_24
    · replace hw := hw.2 c9
      refine lv_iload_n hx hb dX7_answer_16 rfl (lv_at hl 3 rfl) ?_
      refine vp_callSi (W.runS (As := [.int x3]) (rest := []) ⟨hx, hb, hml, hown, hts⟩ (c_X7_isEither l D G x3 _ hw) (va_cwS 1 hts gX7_answer_X7_isEither rfl rfl rfl (by decide +kernel) ⟨(Nat.le_of_ble_eq_true rfl), (Nat.le_of_ble_eq_true rfl)⟩) (xR_ps (hP.sub [] rfl) hK) rfl rfl hl.1 rfl (lv_room (Nat.le_of_ble_eq_true rfl)) dX7_answer_17 ⟨Nat.zero_le _, Nat.zero_le _⟩) (fun r3 hw => ?_)
      refine lv_if_ne (tgt := 25) hx hb dX7_answer_20 (by decide) (fun c9 => ?_) (fun c9 => ?_)
      · replace hw := hw.1 c9
        refine lv_aload_n hx hb dX7_answer_25 rfl (lv_at hl 0 rfl) ?_
        refine va_get (D := D) (ci := 7) (v := .ref da) (C := RX7) (T := TX7) (N := 8) hx hb hts inX7 hown hK hP 0 rfl rfl 0 (by decide) fl12 (fun _ h9 => h9) rfl dX7_answer_26 ?_
        refine va_get (D := D) (ci := 0) (v := .ref anw) (C := RX0) (T := TX0) (N := 9) hx hb hts inX0 hown hK hP 1 rfl rfl 5 (by decide) fl66 (fun _ h9 => h9) rfl dX7_answer_29 ?_
        refine va_get (D := D) (ci := 1) (v := .int day) (C := RX1) (T := TX1) (N := 4) hx hb hts inX1 hown hK hP 5 rfl rfl 2 (by decide) fl134 (fun _ h9 => h9) rfl dX7_answer_32 ?_
        refine lv_sipush (v := 9999) hx hb dX7_answer_35 (by decide) ?_
        refine lv_icmp_lt (tgt := 44) hx hb dX7_answer_38 (by decide) (fun c9 => ?_) (fun c9 => ?_)
        · replace hw := hw.1 c9
          refine lv_aload_n hx hb dX7_answer_44 rfl (lv_at hl 0 rfl) ?_
          refine va_get (D := D) (ci := 7) (v := .ref da) (C := RX7) (T := TX7) (N := 8) hx hb hts inX7 hown hK hP 0 rfl rfl 0 (by decide) fl12 (fun _ h9 => h9) rfl dX7_answer_45 ?_
          refine x_cMv (wr := [(x_xo, .inr (7, [.ref da, .ref k_da, .int x_isKept, .ref t_ta, .ref p_pl, .ref r_tr, .ref w_ro, .ref x_ash])), (ami, .inl (G 0, 8, .inl milks)), (aki, .inl (G 0, 4, .inl kinds)), (afi, .inl (G 0, 4, .inl fines))]) (va_runV (As := []) (rest := []) ⟨hx, hb, hml, hown, hts⟩ (c_X0_remember l D G _ da ami aki afi anw apa pq cows tasters newest known mayBe bearer day draw pm pb pd pw _ hw) (cwV 0 hts gX7_answer_X0_remember rfl rfl rfl (by decide +kernel) ⟨(Nat.le_of_ble_eq_true rfl), (Nat.le_of_ble_eq_true rfl)⟩) (xM_pv (hP.sub [1, 5, 6, 7, 8, 9, 10, 11, 12, 13, 14] rfl) hK (hD.sub [1, 5, 6, 7, 8, 9, 10, 11, 12, 13, 14] (by decide) rfl) (va_recv hK hP (ci := 0) (q0 := 1) rfl rfl)) rfl rfl hl.1 rfl (lv_room (Nat.le_of_ble_eq_true rfl)) dX7_answer_48 ⟨Nat.zero_le _, Nat.zero_le _⟩) hP hD hS hA [1, 5, 6, 7, 8, 9, 10, 11, 12, 13, 14] [0, 2, 3, 4] rfl rfl (by decide) (by decide) [0, 4, 1, 2, 3, 5, 6, 7, 8, 9, 10, 11, 12, 13, 14] (fun u => [(x_xo, .inr (7, [.ref da, .ref k_da, .int x_isKept, .ref t_ta, .ref p_pl, .ref r_tr, .ref w_ro, .ref x_ash])), (da, .inr (0, [.ref ami, .int cows, .ref aki, .ref afi, .int tasters, .ref anw, .ref apa, .int u.1, .int u.2.1])), (ami, .inl (G 0, 8, .inl milks)), (aki, .inl (G 0, 4, .inl kinds)), (afi, .inl (G 0, 4, .inl fines)), (anw, .inr (1, [.int mayBe, .int bearer, .int day, .int draw])), (apa, .inl (G 4, 8, .inr (.inr (.inr (.inr (fun k => some (pq k))))))), ((pq 0), .inr (1, [.int ((u.2.2.1) 0), .int ((u.2.2.2.1) 0), .int ((u.2.2.2.2.1) 0), .int ((u.2.2.2.2.2) 0)])), ((pq 1), .inr (1, [.int ((u.2.2.1) 1), .int ((u.2.2.2.1) 1), .int ((u.2.2.2.2.1) 1), .int ((u.2.2.2.2.2) 1)])), ((pq 2), .inr (1, [.int ((u.2.2.1) 2), .int ((u.2.2.2.1) 2), .int ((u.2.2.2.2.1) 2), .int ((u.2.2.2.2.2) 2)])), ((pq 3), .inr (1, [.int ((u.2.2.1) 3), .int ((u.2.2.2.1) 3), .int ((u.2.2.2.2.1) 3), .int ((u.2.2.2.2.2) 3)])), ((pq 4), .inr (1, [.int ((u.2.2.1) 4), .int ((u.2.2.2.1) 4), .int ((u.2.2.2.2.1) 4), .int ((u.2.2.2.2.2) 4)])), ((pq 5), .inr (1, [.int ((u.2.2.1) 5), .int ((u.2.2.2.1) 5), .int ((u.2.2.2.2.1) 5), .int ((u.2.2.2.2.2) 5)])), ((pq 6), .inr (1, [.int ((u.2.2.1) 6), .int ((u.2.2.2.1) 6), .int ((u.2.2.2.2.1) 6), .int ((u.2.2.2.2.2) 6)])), ((pq 7), .inr (1, [.int ((u.2.2.1) 7), .int ((u.2.2.2.1) 7), .int ((u.2.2.2.2.1) 7), .int ((u.2.2.2.2.2) 7)]))]) (by decide) (fun u => rfl) (fun u H locs hw hP hD hS => ?_)
          obtain ⟨newest_4, known_4, pm_4, pb_4, pd_4, pw_4⟩ := u
          try dsimp only at hw
          replace hP : va_P D vwCl [(x_xo, .inr (7, [.ref da, .ref k_da, .int x_isKept, .ref t_ta, .ref p_pl, .ref r_tr, .ref w_ro, .ref x_ash])), (da, .inr (0, [.ref ami, .int cows, .ref aki, .ref afi, .int tasters, .ref anw, .ref apa, .int newest_4, .int known_4])), (ami, .inl (G 0, 8, .inl milks)), (aki, .inl (G 0, 4, .inl kinds)), (afi, .inl (G 0, 4, .inl fines)), (anw, .inr (1, [.int mayBe, .int bearer, .int day, .int draw])), (apa, .inl (G 4, 8, .inr (.inr (.inr (.inr (fun k => some (pq k))))))), ((pq 0), .inr (1, [.int (pm_4 0), .int (pb_4 0), .int (pd_4 0), .int (pw_4 0)])), ((pq 1), .inr (1, [.int (pm_4 1), .int (pb_4 1), .int (pd_4 1), .int (pw_4 1)])), ((pq 2), .inr (1, [.int (pm_4 2), .int (pb_4 2), .int (pd_4 2), .int (pw_4 2)])), ((pq 3), .inr (1, [.int (pm_4 3), .int (pb_4 3), .int (pd_4 3), .int (pw_4 3)])), ((pq 4), .inr (1, [.int (pm_4 4), .int (pb_4 4), .int (pd_4 4), .int (pw_4 4)])), ((pq 5), .inr (1, [.int (pm_4 5), .int (pb_4 5), .int (pd_4 5), .int (pw_4 5)])), ((pq 6), .inr (1, [.int (pm_4 6), .int (pb_4 6), .int (pd_4 6), .int (pw_4 6)])), ((pq 7), .inr (1, [.int (pm_4 7), .int (pb_4 7), .int (pd_4 7), .int (pw_4 7)]))] H := hP
          replace hD : va_D A [(x_xo, .inr (7, [.ref da, .ref k_da, .int x_isKept, .ref t_ta, .ref p_pl, .ref r_tr, .ref w_ro, .ref x_ash])), (da, .inr (0, [.ref ami, .int cows, .ref aki, .ref afi, .int tasters, .ref anw, .ref apa, .int newest_4, .int known_4])), (ami, .inl (G 0, 8, .inl milks)), (aki, .inl (G 0, 4, .inl kinds)), (afi, .inl (G 0, 4, .inl fines)), (anw, .inr (1, [.int mayBe, .int bearer, .int day, .int draw])), (apa, .inl (G 4, 8, .inr (.inr (.inr (.inr (fun k => some (pq k))))))), ((pq 0), .inr (1, [.int (pm_4 0), .int (pb_4 0), .int (pd_4 0), .int (pw_4 0)])), ((pq 1), .inr (1, [.int (pm_4 1), .int (pb_4 1), .int (pd_4 1), .int (pw_4 1)])), ((pq 2), .inr (1, [.int (pm_4 2), .int (pb_4 2), .int (pd_4 2), .int (pw_4 2)])), ((pq 3), .inr (1, [.int (pm_4 3), .int (pb_4 3), .int (pd_4 3), .int (pw_4 3)])), ((pq 4), .inr (1, [.int (pm_4 4), .int (pb_4 4), .int (pd_4 4), .int (pw_4 4)])), ((pq 5), .inr (1, [.int (pm_4 5), .int (pb_4 5), .int (pd_4 5), .int (pw_4 5)])), ((pq 6), .inr (1, [.int (pm_4 6), .int (pb_4 6), .int (pd_4 6), .int (pw_4 6)])), ((pq 7), .inr (1, [.int (pm_4 7), .int (pb_4 7), .int (pd_4 7), .int (pw_4 7)]))] := hD
          refine lv_aload_n hx hb dX7_answer_51 rfl (lv_at hl 0 rfl) ?_
          refine va_get (D := D) (ci := 7) (v := .ref da) (C := RX7) (T := TX7) (N := 8) hx hb hts inX7 hown hK hP 0 rfl rfl 0 (by decide) fl12 (fun _ h9 => h9) rfl dX7_answer_52 ?_
          refine lv_aload_n hx hb dX7_answer_55 rfl (lv_at hl 0 rfl) ?_
          refine va_get (D := D) (ci := 7) (v := .ref da) (C := RX7) (T := TX7) (N := 8) hx hb hts inX7 hown hK hP 0 rfl rfl 0 (by decide) fl12 (fun _ h9 => h9) rfl dX7_answer_56 ?_
          refine lv_aload_n hx hb dX7_answer_59 rfl (lv_at hl 0 rfl) ?_
          refine va_get (D := D) (ci := 7) (v := .ref da) (C := RX7) (T := TX7) (N := 8) hx hb hts inX7 hown hK hP 0 rfl rfl 0 (by decide) fl12 (fun _ h9 => h9) rfl dX7_answer_60 ?_
          refine va_get (D := D) (ci := 0) (v := .ref aki) (C := RX0) (T := TX0) (N := 9) hx hb hts inX0 hown hK hP 1 rfl rfl 2 (by decide) fl103 (fun _ h9 => h9) rfl dX7_answer_63 ?_
          refine lv_iload_n hx hb dX7_answer_66 rfl (lv_at hl 1 rfl) ?_
          refine x_iald (j := x1.toNatClampNeg) hx hb hK hP 3 0 rfl rfl rfl hw.1 dX7_answer_67 ?_
          replace hw := hw.2
          refine lv_aload_n hx hb dX7_answer_68 rfl (lv_at hl 0 rfl) ?_
          refine va_get (D := D) (ci := 7) (v := .ref da) (C := RX7) (T := TX7) (N := 8) hx hb hts inX7 hown hK hP 0 rfl rfl 0 (by decide) fl12 (fun _ h9 => h9) rfl dX7_answer_69 ?_
          refine va_get (D := D) (ci := 0) (v := .ref afi) (C := RX0) (T := TX0) (N := 9) hx hb hts inX0 hown hK hP 1 rfl rfl 3 (by decide) fl106 (fun _ h9 => h9) rfl dX7_answer_72 ?_
          refine lv_iload_n hx hb dX7_answer_75 rfl (lv_at hl 1 rfl) ?_
          refine x_iald (j := x1.toNatClampNeg) hx hb hK hP 4 0 rfl rfl rfl hw.1 dX7_answer_76 ?_
          replace hw := hw.2
          refine lv_iload_n hx hb dX7_answer_77 rfl (lv_at hl 2 rfl) ?_
          refine lv_iload_n hx hb dX7_answer_78 rfl (lv_at hl 3 rfl) ?_
          refine vp_callSi (W.runV (As := [.int (kinds x1.toNatClampNeg), .int (fines x1.toNatClampNeg), .int x2, .int x3]) (rest := [.ref da]) ⟨hx, hb, hml, hown, hts⟩ (c_X0_agreeing l D G da ami aki afi anw apa cows tasters newest_4 known_4 milks mayBe bearer day draw (kinds x1.toNatClampNeg) (fines x1.toNatClampNeg) x2 x3 _ hw) (cwV 4 hts gX7_answer_X0_agreeing rfl rfl rfl (by decide +kernel) ⟨(Nat.le_of_ble_eq_true rfl), (Nat.le_of_ble_eq_true rfl)⟩) (xR_pv (hP.sub [1, 2, 5] rfl) hK (va_recv hK hP (ci := 0) (q0 := 1) rfl rfl)) rfl rfl hl.1 rfl (lv_room (Nat.le_of_ble_eq_true rfl)) dX7_answer_79 ⟨Nat.zero_le _, Nat.zero_le _⟩) (fun r5 hw => ?_)
          refine x_cMv (wr := [(x_xo, .inr (7, [.ref da, .ref k_da, .int x_isKept, .ref t_ta, .ref p_pl, .ref r_tr, .ref w_ro, .ref x_ash])), (ami, .inl (G 0, 8, .inl milks)), (aki, .inl (G 0, 4, .inl kinds)), (afi, .inl (G 0, 4, .inl fines)), (apa, .inl (G 4, 8, .inr (.inr (.inr (.inr (fun k => some (pq k))))))), ((pq 0), .inr (1, [.int (pm_4 0), .int (pb_4 0), .int (pd_4 0), .int (pw_4 0)])), ((pq 1), .inr (1, [.int (pm_4 1), .int (pb_4 1), .int (pd_4 1), .int (pw_4 1)])), ((pq 2), .inr (1, [.int (pm_4 2), .int (pb_4 2), .int (pd_4 2), .int (pw_4 2)])), ((pq 3), .inr (1, [.int (pm_4 3), .int (pb_4 3), .int (pd_4 3), .int (pw_4 3)])), ((pq 4), .inr (1, [.int (pm_4 4), .int (pb_4 4), .int (pd_4 4), .int (pw_4 4)])), ((pq 5), .inr (1, [.int (pm_4 5), .int (pb_4 5), .int (pd_4 5), .int (pw_4 5)])), ((pq 6), .inr (1, [.int (pm_4 6), .int (pb_4 6), .int (pd_4 6), .int (pw_4 6)])), ((pq 7), .inr (1, [.int (pm_4 7), .int (pb_4 7), .int (pd_4 7), .int (pw_4 7)]))]) (va_runV (As := [.int r5]) (rest := []) ⟨hx, hb, hml, hown, hts⟩ (c_X0_hear l D G _ da ami aki afi anw apa cows tasters newest_4 known_4 mayBe bearer day draw r5 _ hw) (cwV 1 hts gX7_answer_X0_hear rfl rfl rfl (by decide +kernel) ⟨(Nat.le_of_ble_eq_true rfl), (Nat.le_of_ble_eq_true rfl)⟩) (xM_pv (hP.sub [1, 5] rfl) hK (hD.sub [1, 5] (by decide) rfl) (va_recv hK hP (ci := 0) (q0 := 1) rfl rfl)) rfl rfl hl.1 rfl (lv_room (Nat.le_of_ble_eq_true rfl)) dX7_answer_82 ⟨Nat.zero_le _, Nat.zero_le _⟩) hP hD hS hA [1, 5] [0, 2, 3, 4, 6, 7, 8, 9, 10, 11, 12, 13, 14] rfl rfl (by decide) (by decide) [0, 13, 1, 2, 3, 14, 4, 5, 6, 7, 8, 9, 10, 11, 12] (fun u => [(x_xo, .inr (7, [.ref da, .ref k_da, .int x_isKept, .ref t_ta, .ref p_pl, .ref r_tr, .ref w_ro, .ref x_ash])), (da, .inr (0, [.ref ami, .int cows, .ref aki, .ref afi, .int tasters, .ref anw, .ref apa, .int newest_4, .int known_4])), (ami, .inl (G 0, 8, .inl milks)), (aki, .inl (G 0, 4, .inl kinds)), (afi, .inl (G 0, 4, .inl fines)), (anw, .inr (1, [.int u.1, .int bearer, .int u.2, .int draw])), (apa, .inl (G 4, 8, .inr (.inr (.inr (.inr (fun k => some (pq k))))))), ((pq 0), .inr (1, [.int (pm_4 0), .int (pb_4 0), .int (pd_4 0), .int (pw_4 0)])), ((pq 1), .inr (1, [.int (pm_4 1), .int (pb_4 1), .int (pd_4 1), .int (pw_4 1)])), ((pq 2), .inr (1, [.int (pm_4 2), .int (pb_4 2), .int (pd_4 2), .int (pw_4 2)])), ((pq 3), .inr (1, [.int (pm_4 3), .int (pb_4 3), .int (pd_4 3), .int (pw_4 3)])), ((pq 4), .inr (1, [.int (pm_4 4), .int (pb_4 4), .int (pd_4 4), .int (pw_4 4)])), ((pq 5), .inr (1, [.int (pm_4 5), .int (pb_4 5), .int (pd_4 5), .int (pw_4 5)])), ((pq 6), .inr (1, [.int (pm_4 6), .int (pb_4 6), .int (pd_4 6), .int (pw_4 6)])), ((pq 7), .inr (1, [.int (pm_4 7), .int (pb_4 7), .int (pd_4 7), .int (pw_4 7)]))]) (by decide) (fun u => rfl) (fun u H locs hw hP hD hS => ?_)
          obtain ⟨mayBe_6, day_6⟩ := u
          try dsimp only at hw
          replace hP : va_P D vwCl [(x_xo, .inr (7, [.ref da, .ref k_da, .int x_isKept, .ref t_ta, .ref p_pl, .ref r_tr, .ref w_ro, .ref x_ash])), (da, .inr (0, [.ref ami, .int cows, .ref aki, .ref afi, .int tasters, .ref anw, .ref apa, .int newest_4, .int known_4])), (ami, .inl (G 0, 8, .inl milks)), (aki, .inl (G 0, 4, .inl kinds)), (afi, .inl (G 0, 4, .inl fines)), (anw, .inr (1, [.int mayBe_6, .int bearer, .int day_6, .int draw])), (apa, .inl (G 4, 8, .inr (.inr (.inr (.inr (fun k => some (pq k))))))), ((pq 0), .inr (1, [.int (pm_4 0), .int (pb_4 0), .int (pd_4 0), .int (pw_4 0)])), ((pq 1), .inr (1, [.int (pm_4 1), .int (pb_4 1), .int (pd_4 1), .int (pw_4 1)])), ((pq 2), .inr (1, [.int (pm_4 2), .int (pb_4 2), .int (pd_4 2), .int (pw_4 2)])), ((pq 3), .inr (1, [.int (pm_4 3), .int (pb_4 3), .int (pd_4 3), .int (pw_4 3)])), ((pq 4), .inr (1, [.int (pm_4 4), .int (pb_4 4), .int (pd_4 4), .int (pw_4 4)])), ((pq 5), .inr (1, [.int (pm_4 5), .int (pb_4 5), .int (pd_4 5), .int (pw_4 5)])), ((pq 6), .inr (1, [.int (pm_4 6), .int (pb_4 6), .int (pd_4 6), .int (pw_4 6)])), ((pq 7), .inr (1, [.int (pm_4 7), .int (pb_4 7), .int (pd_4 7), .int (pw_4 7)]))] H := hP
          replace hD : va_D A [(x_xo, .inr (7, [.ref da, .ref k_da, .int x_isKept, .ref t_ta, .ref p_pl, .ref r_tr, .ref w_ro, .ref x_ash])), (da, .inr (0, [.ref ami, .int cows, .ref aki, .ref afi, .int tasters, .ref anw, .ref apa, .int newest_4, .int known_4])), (ami, .inl (G 0, 8, .inl milks)), (aki, .inl (G 0, 4, .inl kinds)), (afi, .inl (G 0, 4, .inl fines)), (anw, .inr (1, [.int mayBe_6, .int bearer, .int day_6, .int draw])), (apa, .inl (G 4, 8, .inr (.inr (.inr (.inr (fun k => some (pq k))))))), ((pq 0), .inr (1, [.int (pm_4 0), .int (pb_4 0), .int (pd_4 0), .int (pw_4 0)])), ((pq 1), .inr (1, [.int (pm_4 1), .int (pb_4 1), .int (pd_4 1), .int (pw_4 1)])), ((pq 2), .inr (1, [.int (pm_4 2), .int (pb_4 2), .int (pd_4 2), .int (pw_4 2)])), ((pq 3), .inr (1, [.int (pm_4 3), .int (pb_4 3), .int (pd_4 3), .int (pw_4 3)])), ((pq 4), .inr (1, [.int (pm_4 4), .int (pb_4 4), .int (pd_4 4), .int (pw_4 4)])), ((pq 5), .inr (1, [.int (pm_4 5), .int (pb_4 5), .int (pd_4 5), .int (pw_4 5)])), ((pq 6), .inr (1, [.int (pm_4 6), .int (pb_4 6), .int (pd_4 6), .int (pw_4 6)])), ((pq 7), .inr (1, [.int (pm_4 7), .int (pb_4 7), .int (pd_4 7), .int (pw_4 7)]))] := hD
          refine lv_aload_n hx hb dX7_answer_85 rfl (lv_at hl 0 rfl) ?_
          refine va_get (D := D) (ci := 7) (v := .ref da) (C := RX7) (T := TX7) (N := 8) hx hb hts inX7 hown hK hP 0 rfl rfl 0 (by decide) fl12 (fun _ h9 => h9) rfl dX7_answer_86 ?_
          refine va_get (D := D) (ci := 0) (v := .ref anw) (C := RX0) (T := TX0) (N := 9) hx hb hts inX0 hown hK hP 1 rfl rfl 5 (by decide) fl66 (fun _ h9 => h9) rfl dX7_answer_89 ?_
          refine va_get (D := D) (ci := 1) (v := .int mayBe_6) (C := RX1) (T := TX1) (N := 4) hx hb hts inX1 hown hK hP 5 rfl rfl 0 (by decide) fl74 (fun _ h9 => h9) rfl dX7_answer_92 ?_
          exact W.iret hx hb hr (x_mi (u := (newest_4, known_4, mayBe_6, day_6, pm_4, pb_4, pd_4, pw_4)) hP hK hD hS hw) hS.2.2 dX7_answer_95
        · replace hw := hw.2 c9
          refine lv_bipush (v := -3) hx hb dX7_answer_41 (by decide) ?_
          exact W.iret hx hb hr (x_mi (u := (newest, known, mayBe, day, pm, pb, pd, pw)) hP hK hD hS hw) hS.2.2 dX7_answer_43
      · replace hw := hw.2 c9
        refine lv_iconst (v := -1) hx hb dX7_answer_23 (by decide) ?_
        exact W.iret hx hb hr (x_mi (u := (newest, known, mayBe, day, pm, pb, pd, pw)) hP hK hD hS hw) hS.2.2 dX7_answer_24
set_option maxHeartbeats 4000000 in
set_option maxRecDepth 100000 in
theorem c_X7_drink (l : Launch) (D : va_G) (G : Nat → ClassId) (sz : Nat) (x_xo : Nat) (da : Nat) (k_da : Nat) (t_ta : Nat) (p_pl : Nat) (r_tr : Nat) (w_ro : Nat) (x_ash : Nat) (ami : Nat) (aki : Nat) (afi : Nat) (anw : Nat) (apa : Nat) (pq : Nat → Nat) (x_isKept : Int32) (cows : Int32) (tasters : Int32) (newest : Int32) (known : Int32) (milks : Nat → Int32) (kinds : Nat → Int32) (fines : Nat → Int32) (mayBe : Int32) (bearer : Int32) (day : Int32) (draw : Int32) (pm : Nat → Int32) (pb : Nat → Int32) (pd : Nat → Int32) (pw : Nat → Int32) (x1 : Int32) (x2 : Int32) (post : Int32 → Int32 → Int32 → Int32 → Int32 → (Nat → Int32) → (Nat → Int32) → (Nat → Int32) → (Nat → Int32) → Prop) (hw : wp_X7_drink cows tasters newest known milks kinds fines mayBe bearer day draw pm pb pd pw x1 x2 post) : Met l yX7_drink wsX7_drink ({ frames := 5, cells := 0, slots := 0, locals := 117 } : Room) (va_Pc [.ref x_xo, .int x1, .int x2] (xM D G sz [(x_xo, .inr (7, [.ref da, .ref k_da, .int x_isKept, .ref t_ta, .ref p_pl, .ref r_tr, .ref w_ro, .ref x_ash])), (da, .inr (0, [.ref ami, .int cows, .ref aki, .ref afi, .int tasters, .ref anw, .ref apa, .int newest, .int known])), (ami, .inl (G 0, 8, .inl milks)), (aki, .inl (G 0, 4, .inl kinds)), (afi, .inl (G 0, 4, .inl fines)), (anw, .inr (1, [.int mayBe, .int bearer, .int day, .int draw])), (apa, .inl (G 4, 8, .inr (.inr (.inr (.inr (fun k => some (pq k))))))), ((pq 0), .inr (1, [.int (pm 0), .int (pb 0), .int (pd 0), .int (pw 0)])), ((pq 1), .inr (1, [.int (pm 1), .int (pb 1), .int (pd 1), .int (pw 1)])), ((pq 2), .inr (1, [.int (pm 2), .int (pb 2), .int (pd 2), .int (pw 2)])), ((pq 3), .inr (1, [.int (pm 3), .int (pb 3), .int (pd 3), .int (pw 3)])), ((pq 4), .inr (1, [.int (pm 4), .int (pb 4), .int (pd 4), .int (pw 4)])), ((pq 5), .inr (1, [.int (pm 5), .int (pb 5), .int (pd 5), .int (pw 5)])), ((pq 6), .inr (1, [.int (pm 6), .int (pb 6), .int (pd 6), .int (pw 6)])), ((pq 7), .inr (1, [.int (pm 7), .int (pb 7), .int (pd 7), .int (pw 7)]))])) (va_Qi (fun r (u : Int32 × Int32 × Int32 × Int32 × (Nat → Int32) × (Nat → Int32) × (Nat → Int32) × (Nat → Int32)) => post r u.1 u.2.1 u.2.2.1 u.2.2.2.1 u.2.2.2.2.1 u.2.2.2.2.2.1 u.2.2.2.2.2.2.1 u.2.2.2.2.2.2.2) (fun u t => xE D G (va_A [(x_xo, .inr (7, [.ref da, .ref k_da, .int x_isKept, .ref t_ta, .ref p_pl, .ref r_tr, .ref w_ro, .ref x_ash])), (da, .inr (0, [.ref ami, .int cows, .ref aki, .ref afi, .int tasters, .ref anw, .ref apa, .int newest, .int known])), (ami, .inl (G 0, 8, .inl milks)), (aki, .inl (G 0, 4, .inl kinds)), (afi, .inl (G 0, 4, .inl fines)), (anw, .inr (1, [.int mayBe, .int bearer, .int day, .int draw])), (apa, .inl (G 4, 8, .inr (.inr (.inr (.inr (fun k => some (pq k))))))), ((pq 0), .inr (1, [.int (pm 0), .int (pb 0), .int (pd 0), .int (pw 0)])), ((pq 1), .inr (1, [.int (pm 1), .int (pb 1), .int (pd 1), .int (pw 1)])), ((pq 2), .inr (1, [.int (pm 2), .int (pb 2), .int (pd 2), .int (pw 2)])), ((pq 3), .inr (1, [.int (pm 3), .int (pb 3), .int (pd 3), .int (pw 3)])), ((pq 4), .inr (1, [.int (pm 4), .int (pb 4), .int (pd 4), .int (pw 4)])), ((pq 5), .inr (1, [.int (pm 5), .int (pb 5), .int (pd 5), .int (pw 5)])), ((pq 6), .inr (1, [.int (pm 6), .int (pb 6), .int (pd 6), .int (pw 6)])), ((pq 7), .inr (1, [.int (pm 7), .int (pb 7), .int (pd 7), .int (pw 7)]))] sz) [(x_xo, .inr (7, [.ref da, .ref k_da, .int x_isKept, .ref t_ta, .ref p_pl, .ref r_tr, .ref w_ro, .ref x_ash])), (da, .inr (0, [.ref ami, .int cows, .ref aki, .ref afi, .int tasters, .ref anw, .ref apa, .int u.1, .int u.2.1])), (ami, .inl (G 0, 8, .inl milks)), (aki, .inl (G 0, 4, .inl kinds)), (afi, .inl (G 0, 4, .inl fines)), (anw, .inr (1, [.int u.2.2.1, .int bearer, .int u.2.2.2.1, .int draw])), (apa, .inl (G 4, 8, .inr (.inr (.inr (.inr (fun k => some (pq k))))))), ((pq 0), .inr (1, [.int ((u.2.2.2.2.1) 0), .int ((u.2.2.2.2.2.1) 0), .int ((u.2.2.2.2.2.2.1) 0), .int ((u.2.2.2.2.2.2.2) 0)])), ((pq 1), .inr (1, [.int ((u.2.2.2.2.1) 1), .int ((u.2.2.2.2.2.1) 1), .int ((u.2.2.2.2.2.2.1) 1), .int ((u.2.2.2.2.2.2.2) 1)])), ((pq 2), .inr (1, [.int ((u.2.2.2.2.1) 2), .int ((u.2.2.2.2.2.1) 2), .int ((u.2.2.2.2.2.2.1) 2), .int ((u.2.2.2.2.2.2.2) 2)])), ((pq 3), .inr (1, [.int ((u.2.2.2.2.1) 3), .int ((u.2.2.2.2.2.1) 3), .int ((u.2.2.2.2.2.2.1) 3), .int ((u.2.2.2.2.2.2.2) 3)])), ((pq 4), .inr (1, [.int ((u.2.2.2.2.1) 4), .int ((u.2.2.2.2.2.1) 4), .int ((u.2.2.2.2.2.2.1) 4), .int ((u.2.2.2.2.2.2.2) 4)])), ((pq 5), .inr (1, [.int ((u.2.2.2.2.1) 5), .int ((u.2.2.2.2.2.1) 5), .int ((u.2.2.2.2.2.2.1) 5), .int ((u.2.2.2.2.2.2.2) 5)])), ((pq 6), .inr (1, [.int ((u.2.2.2.2.1) 6), .int ((u.2.2.2.2.2.1) 6), .int ((u.2.2.2.2.2.2.1) 6), .int ((u.2.2.2.2.2.2.2) 6)])), ((pq 7), .inr (1, [.int ((u.2.2.2.2.1) 7), .int ((u.2.2.2.2.2.1) 7), .int ((u.2.2.2.2.2.2.1) 7), .int ((u.2.2.2.2.2.2.2) 7)]))] t) (va_A [(x_xo, .inr (7, [.ref da, .ref k_da, .int x_isKept, .ref t_ta, .ref p_pl, .ref r_tr, .ref w_ro, .ref x_ash])), (da, .inr (0, [.ref ami, .int cows, .ref aki, .ref afi, .int tasters, .ref anw, .ref apa, .int newest, .int known])), (ami, .inl (G 0, 8, .inl milks)), (aki, .inl (G 0, 4, .inl kinds)), (afi, .inl (G 0, 4, .inl fines)), (anw, .inr (1, [.int mayBe, .int bearer, .int day, .int draw])), (apa, .inl (G 4, 8, .inr (.inr (.inr (.inr (fun k => some (pq k))))))), ((pq 0), .inr (1, [.int (pm 0), .int (pb 0), .int (pd 0), .int (pw 0)])), ((pq 1), .inr (1, [.int (pm 1), .int (pb 1), .int (pd 1), .int (pw 1)])), ((pq 2), .inr (1, [.int (pm 2), .int (pb 2), .int (pd 2), .int (pw 2)])), ((pq 3), .inr (1, [.int (pm 3), .int (pb 3), .int (pd 3), .int (pw 3)])), ((pq 4), .inr (1, [.int (pm 4), .int (pb 4), .int (pd 4), .int (pw 4)])), ((pq 5), .inr (1, [.int (pm 5), .int (pb 5), .int (pd 5), .int (pw 5)])), ((pq 6), .inr (1, [.int (pm 6), .int (pb 6), .int (pd 6), .int (pw 6)])), ((pq 7), .inr (1, [.int (pm 7), .int (pb 7), .int (pd 7), .int (pw 7)]))] sz)) 0 0 (va_A [(x_xo, .inr (7, [.ref da, .ref k_da, .int x_isKept, .ref t_ta, .ref p_pl, .ref r_tr, .ref w_ro, .ref x_ash])), (da, .inr (0, [.ref ami, .int cows, .ref aki, .ref afi, .int tasters, .ref anw, .ref apa, .int newest, .int known])), (ami, .inl (G 0, 8, .inl milks)), (aki, .inl (G 0, 4, .inl kinds)), (afi, .inl (G 0, 4, .inl fines)), (anw, .inr (1, [.int mayBe, .int bearer, .int day, .int draw])), (apa, .inl (G 4, 8, .inr (.inr (.inr (.inr (fun k => some (pq k))))))), ((pq 0), .inr (1, [.int (pm 0), .int (pb 0), .int (pd 0), .int (pw 0)])), ((pq 1), .inr (1, [.int (pm 1), .int (pb 1), .int (pd 1), .int (pw 1)])), ((pq 2), .inr (1, [.int (pm 2), .int (pb 2), .int (pd 2), .int (pw 2)])), ((pq 3), .inr (1, [.int (pm 3), .int (pb 3), .int (pd 3), .int (pw 3)])), ((pq 4), .inr (1, [.int (pm 4), .int (pb 4), .int (pd 4), .int (pw 4)])), ((pq 5), .inr (1, [.int (pm 5), .int (pb 5), .int (pd 5), .int (pw 5)])), ((pq 6), .inr (1, [.int (pm 6), .int (pb 6), .int (pd 6), .int (pw 6)])), ((pq 7), .inr (1, [.int (pm 7), .int (pb 7), .int (pd 7), .int (pw 7)]))] sz) := by
  refine Met.ofW (cc := cX7_drink) (maxL := 3) (ret := (some .int)) (by decide) rfl ?_
  intro p e s m args below meth c s₁ B hml hv
  obtain ⟨rfl, hsz, hP, hK, hD0⟩ := hv
  have hx := B.exec
  have hb := B.bytes
  have hr := B.returns
  have hts := atoms_spec (ws := wsX7_drink) B.pre
  have hown : s.vm.findClass RX7 = some m.cls := findClass_of_methodNamed B.named
  have hlocks := B.notSynchronized
  subst hsz
  have hD := hD0.self (sz := s.heap.size)
  generalize hAe : va_A [(x_xo, .inr (7, [.ref da, .ref k_da, .int x_isKept, .ref t_ta, .ref p_pl, .ref r_tr, .ref w_ro, .ref x_ash])), (da, .inr (0, [.ref ami, .int cows, .ref aki, .ref afi, .int tasters, .ref anw, .ref apa, .int newest, .int known])), (ami, .inl (G 0, 8, .inl milks)), (aki, .inl (G 0, 4, .inl kinds)), (afi, .inl (G 0, 4, .inl fines)), (anw, .inr (1, [.int mayBe, .int bearer, .int day, .int draw])), (apa, .inl (G 4, 8, .inr (.inr (.inr (.inr (fun k => some (pq k))))))), ((pq 0), .inr (1, [.int (pm 0), .int (pb 0), .int (pd 0), .int (pw 0)])), ((pq 1), .inr (1, [.int (pm 1), .int (pb 1), .int (pd 1), .int (pw 1)])), ((pq 2), .inr (1, [.int (pm 2), .int (pb 2), .int (pd 2), .int (pw 2)])), ((pq 3), .inr (1, [.int (pm 3), .int (pb 3), .int (pd 3), .int (pw 3)])), ((pq 4), .inr (1, [.int (pm 4), .int (pb 4), .int (pd 4), .int (pw 4)])), ((pq 5), .inr (1, [.int (pm 5), .int (pb 5), .int (pd 5), .int (pw 5)])), ((pq 6), .inr (1, [.int (pm 6), .int (pb 6), .int (pd 6), .int (pw 6)])), ((pq 7), .inr (1, [.int (pm 7), .int (pb 7), .int (pd 7), .int (pw 7)]))] s.heap.size = A at hD ⊢
  have hA : ∀ q : Nat, s.heap.size ≤ q → A q := fun q h => by rw [← hAe]; exact Or.inr h
  have hS : va_S A s.heap s.heap [] := va_S.rf
  have inX0 : ∀ w ∈ wsX00, w ∈ wsX7_drink := by decide +kernel
  have inX1 : ∀ w ∈ wsX10, w ∈ wsX7_drink := by decide +kernel
  have inX7 : ∀ w ∈ wsX70, w ∈ wsX7_drink := by decide +kernel
  have fl12 := hts (.fieldLink RX7 12 "NewsCow" "dairy" "LNewsCow$Dairy;") (by decide +kernel)
  have fl66 := hts (.fieldLink RX7 66 "NewsCow$Dairy" "now" "LNewsCow$Moment;") (by decide +kernel)
  have fl134 := hts (.fieldLink RX7 134 "NewsCow$Moment" "day" "I") (by decide +kernel)
  have fl137 := hts (.fieldLink RX7 137 "NewsCow$Moment" "bearer" "I") (by decide +kernel)
  have hl := lv_entry ([.ref x_xo, .int x1, .int x2] : List Value) (n := 3) (Nat.le_of_ble_eq_true rfl)
  rw [lg_entry_eq]
  generalize (lg_sl ([.ref x_xo, .int x1, .int x2] : List Value) ++ List.replicate (3 - (lg_sl ([.ref x_xo, .int x1, .int x2] : List Value)).length) Slot.unset).toArray = ls at hl ⊢
  have hl : lv_has ls 3 [(0, .ref x_xo), (1, .int x1), (2, .int x2)] := hl
  unfold wp_X7_drink at hw
  refine lv_aload_n hx hb dX7_drink_0 rfl (lv_at hl 0 rfl) ?_
  refine lv_iload_n hx hb dX7_drink_1 rfl (lv_at hl 1 rfl) ?_
  refine vp_callSi (W.runV (As := [.int x1]) (rest := []) ⟨hx, hb, hml, hown, hts⟩ (c_X7_isTaster l D G x_xo da k_da t_ta p_pl r_tr w_ro x_ash ami aki afi anw apa x_isKept cows tasters newest known x1 _ hw) (cwV 1 hts gX7_drink_X7_isTaster rfl rfl rfl (by decide +kernel) ⟨(Nat.le_of_ble_eq_true rfl), (Nat.le_of_ble_eq_true rfl)⟩) (xR_pv (hP.sub [0, 1] rfl) hK (va_recv hK hP (ci := 7) (q0 := 0) rfl rfl)) rfl rfl hl.1 rfl (lv_room (Nat.le_of_ble_eq_true rfl)) dX7_drink_2 ⟨Nat.zero_le _, Nat.zero_le _⟩) (fun r1 hw => ?_)
  refine lv_if_eq (tgt := 16) hx hb dX7_drink_5 (by decide) (fun c9 => ?_) (fun c9 => ?_)
  · replace hw := hw.1 c9
    refine lv_iconst (v := -1) hx hb dX7_drink_16 (by decide) ?_
    exact W.iret hx hb hr (x_mi (u := (newest, known, mayBe, day, pm, pb, pd, pw)) hP hK hD hS hw) hS.2.2 dX7_drink_17
  · replace hw := hw.2 c9
    refine lv_aload_n hx hb dX7_drink_8 rfl (lv_at hl 0 rfl) ?_
    refine lv_iload_n hx hb dX7_drink_9 rfl (lv_at hl 2 rfl) ?_
    refine vp_callSi (W.runV (As := [.int x2]) (rest := []) ⟨hx, hb, hml, hown, hts⟩ (c_X7_isMix l D G x_xo da k_da t_ta p_pl r_tr w_ro x_ash ami aki afi anw apa x_isKept cows tasters newest known x2 _ hw) (cwV 1 hts gX7_drink_X7_isMix rfl rfl rfl (by decide +kernel) ⟨(Nat.le_of_ble_eq_true rfl), (Nat.le_of_ble_eq_true rfl)⟩) (xR_pv (hP.sub [0, 1] rfl) hK (va_recv hK hP (ci := 7) (q0 := 0) rfl rfl)) rfl rfl hl.1 rfl (lv_room (Nat.le_of_ble_eq_true rfl)) dX7_drink_10 ⟨Nat.zero_le _, Nat.zero_le _⟩) (fun r2 hw => ?_)
    refine lv_if_ne (tgt := 18) hx hb dX7_drink_13 (by decide) (fun c9 => ?_) (fun c9 => ?_)
    · replace hw := hw.1 c9
      refine lv_aload_n hx hb dX7_drink_18 rfl (lv_at hl 0 rfl) ?_
      refine va_get (D := D) (ci := 7) (v := .ref da) (C := RX7) (T := TX7) (N := 8) hx hb hts inX7 hown hK hP 0 rfl rfl 0 (by decide) fl12 (fun _ h9 => h9) rfl dX7_drink_19 ?_
      refine va_get (D := D) (ci := 0) (v := .ref anw) (C := RX0) (T := TX0) (N := 9) hx hb hts inX0 hown hK hP 1 rfl rfl 5 (by decide) fl66 (fun _ h9 => h9) rfl dX7_drink_22 ?_
      refine va_get (D := D) (ci := 1) (v := .int day) (C := RX1) (T := TX1) (N := 4) hx hb hts inX1 hown hK hP 5 rfl rfl 2 (by decide) fl134 (fun _ h9 => h9) rfl dX7_drink_25 ?_
      refine lv_sipush (v := 9999) hx hb dX7_drink_28 (by decide) ?_
      refine lv_icmp_lt (tgt := 37) hx hb dX7_drink_31 (by decide) (fun c9 => ?_) (fun c9 => ?_)
      · replace hw := hw.1 c9
        refine lv_aload_n hx hb dX7_drink_37 rfl (lv_at hl 0 rfl) ?_
        refine va_get (D := D) (ci := 7) (v := .ref da) (C := RX7) (T := TX7) (N := 8) hx hb hts inX7 hown hK hP 0 rfl rfl 0 (by decide) fl12 (fun _ h9 => h9) rfl dX7_drink_38 ?_
        refine va_get (D := D) (ci := 0) (v := .ref anw) (C := RX0) (T := TX0) (N := 9) hx hb hts inX0 hown hK hP 1 rfl rfl 5 (by decide) fl66 (fun _ h9 => h9) rfl dX7_drink_41 ?_
        refine va_get (D := D) (ci := 1) (v := .int bearer) (C := RX1) (T := TX1) (N := 4) hx hb hts inX1 hown hK hP 5 rfl rfl 1 (by decide) fl137 (fun _ h9 => h9) rfl dX7_drink_44 ?_
        refine lv_bipush (v := -4) hx hb dX7_drink_47 (by decide) ?_
        refine lv_icmp_ne (tgt := 55) hx hb dX7_drink_49 (by decide) (fun c9 => ?_) (fun c9 => ?_)
        · replace hw := hw.1 c9
          refine lv_aload_n hx hb dX7_drink_55 rfl (lv_at hl 0 rfl) ?_
          refine va_get (D := D) (ci := 7) (v := .ref da) (C := RX7) (T := TX7) (N := 8) hx hb hts inX7 hown hK hP 0 rfl rfl 0 (by decide) fl12 (fun _ h9 => h9) rfl dX7_drink_56 ?_
          refine x_cMv (wr := [(x_xo, .inr (7, [.ref da, .ref k_da, .int x_isKept, .ref t_ta, .ref p_pl, .ref r_tr, .ref w_ro, .ref x_ash])), (ami, .inl (G 0, 8, .inl milks)), (aki, .inl (G 0, 4, .inl kinds)), (afi, .inl (G 0, 4, .inl fines))]) (va_runV (As := []) (rest := []) ⟨hx, hb, hml, hown, hts⟩ (c_X0_remember l D G _ da ami aki afi anw apa pq cows tasters newest known mayBe bearer day draw pm pb pd pw _ hw) (cwV 0 hts gX7_drink_X0_remember rfl rfl rfl (by decide +kernel) ⟨(Nat.le_of_ble_eq_true rfl), (Nat.le_of_ble_eq_true rfl)⟩) (xM_pv (hP.sub [1, 5, 6, 7, 8, 9, 10, 11, 12, 13, 14] rfl) hK (hD.sub [1, 5, 6, 7, 8, 9, 10, 11, 12, 13, 14] (by decide) rfl) (va_recv hK hP (ci := 0) (q0 := 1) rfl rfl)) rfl rfl hl.1 rfl (lv_room (Nat.le_of_ble_eq_true rfl)) dX7_drink_59 ⟨Nat.zero_le _, Nat.zero_le _⟩) hP hD hS hA [1, 5, 6, 7, 8, 9, 10, 11, 12, 13, 14] [0, 2, 3, 4] rfl rfl (by decide) (by decide) [0, 4, 1, 2, 3, 5, 6, 7, 8, 9, 10, 11, 12, 13, 14] (fun u => [(x_xo, .inr (7, [.ref da, .ref k_da, .int x_isKept, .ref t_ta, .ref p_pl, .ref r_tr, .ref w_ro, .ref x_ash])), (da, .inr (0, [.ref ami, .int cows, .ref aki, .ref afi, .int tasters, .ref anw, .ref apa, .int u.1, .int u.2.1])), (ami, .inl (G 0, 8, .inl milks)), (aki, .inl (G 0, 4, .inl kinds)), (afi, .inl (G 0, 4, .inl fines)), (anw, .inr (1, [.int mayBe, .int bearer, .int day, .int draw])), (apa, .inl (G 4, 8, .inr (.inr (.inr (.inr (fun k => some (pq k))))))), ((pq 0), .inr (1, [.int ((u.2.2.1) 0), .int ((u.2.2.2.1) 0), .int ((u.2.2.2.2.1) 0), .int ((u.2.2.2.2.2) 0)])), ((pq 1), .inr (1, [.int ((u.2.2.1) 1), .int ((u.2.2.2.1) 1), .int ((u.2.2.2.2.1) 1), .int ((u.2.2.2.2.2) 1)])), ((pq 2), .inr (1, [.int ((u.2.2.1) 2), .int ((u.2.2.2.1) 2), .int ((u.2.2.2.2.1) 2), .int ((u.2.2.2.2.2) 2)])), ((pq 3), .inr (1, [.int ((u.2.2.1) 3), .int ((u.2.2.2.1) 3), .int ((u.2.2.2.2.1) 3), .int ((u.2.2.2.2.2) 3)])), ((pq 4), .inr (1, [.int ((u.2.2.1) 4), .int ((u.2.2.2.1) 4), .int ((u.2.2.2.2.1) 4), .int ((u.2.2.2.2.2) 4)])), ((pq 5), .inr (1, [.int ((u.2.2.1) 5), .int ((u.2.2.2.1) 5), .int ((u.2.2.2.2.1) 5), .int ((u.2.2.2.2.2) 5)])), ((pq 6), .inr (1, [.int ((u.2.2.1) 6), .int ((u.2.2.2.1) 6), .int ((u.2.2.2.2.1) 6), .int ((u.2.2.2.2.2) 6)])), ((pq 7), .inr (1, [.int ((u.2.2.1) 7), .int ((u.2.2.2.1) 7), .int ((u.2.2.2.2.1) 7), .int ((u.2.2.2.2.2) 7)]))]) (by decide) (fun u => rfl) (fun u H locs hw hP hD hS => ?_)
          obtain ⟨newest_3, known_3, pm_3, pb_3, pd_3, pw_3⟩ := u
          try dsimp only at hw
          replace hP : va_P D vwCl [(x_xo, .inr (7, [.ref da, .ref k_da, .int x_isKept, .ref t_ta, .ref p_pl, .ref r_tr, .ref w_ro, .ref x_ash])), (da, .inr (0, [.ref ami, .int cows, .ref aki, .ref afi, .int tasters, .ref anw, .ref apa, .int newest_3, .int known_3])), (ami, .inl (G 0, 8, .inl milks)), (aki, .inl (G 0, 4, .inl kinds)), (afi, .inl (G 0, 4, .inl fines)), (anw, .inr (1, [.int mayBe, .int bearer, .int day, .int draw])), (apa, .inl (G 4, 8, .inr (.inr (.inr (.inr (fun k => some (pq k))))))), ((pq 0), .inr (1, [.int (pm_3 0), .int (pb_3 0), .int (pd_3 0), .int (pw_3 0)])), ((pq 1), .inr (1, [.int (pm_3 1), .int (pb_3 1), .int (pd_3 1), .int (pw_3 1)])), ((pq 2), .inr (1, [.int (pm_3 2), .int (pb_3 2), .int (pd_3 2), .int (pw_3 2)])), ((pq 3), .inr (1, [.int (pm_3 3), .int (pb_3 3), .int (pd_3 3), .int (pw_3 3)])), ((pq 4), .inr (1, [.int (pm_3 4), .int (pb_3 4), .int (pd_3 4), .int (pw_3 4)])), ((pq 5), .inr (1, [.int (pm_3 5), .int (pb_3 5), .int (pd_3 5), .int (pw_3 5)])), ((pq 6), .inr (1, [.int (pm_3 6), .int (pb_3 6), .int (pd_3 6), .int (pw_3 6)])), ((pq 7), .inr (1, [.int (pm_3 7), .int (pb_3 7), .int (pd_3 7), .int (pw_3 7)]))] H := hP
          replace hD : va_D A [(x_xo, .inr (7, [.ref da, .ref k_da, .int x_isKept, .ref t_ta, .ref p_pl, .ref r_tr, .ref w_ro, .ref x_ash])), (da, .inr (0, [.ref ami, .int cows, .ref aki, .ref afi, .int tasters, .ref anw, .ref apa, .int newest_3, .int known_3])), (ami, .inl (G 0, 8, .inl milks)), (aki, .inl (G 0, 4, .inl kinds)), (afi, .inl (G 0, 4, .inl fines)), (anw, .inr (1, [.int mayBe, .int bearer, .int day, .int draw])), (apa, .inl (G 4, 8, .inr (.inr (.inr (.inr (fun k => some (pq k))))))), ((pq 0), .inr (1, [.int (pm_3 0), .int (pb_3 0), .int (pd_3 0), .int (pw_3 0)])), ((pq 1), .inr (1, [.int (pm_3 1), .int (pb_3 1), .int (pd_3 1), .int (pw_3 1)])), ((pq 2), .inr (1, [.int (pm_3 2), .int (pb_3 2), .int (pd_3 2), .int (pw_3 2)])), ((pq 3), .inr (1, [.int (pm_3 3), .int (pb_3 3), .int (pd_3 3), .int (pw_3 3)])), ((pq 4), .inr (1, [.int (pm_3 4), .int (pb_3 4), .int (pd_3 4), .int (pw_3 4)])), ((pq 5), .inr (1, [.int (pm_3 5), .int (pb_3 5), .int (pd_3 5), .int (pw_3 5)])), ((pq 6), .inr (1, [.int (pm_3 6), .int (pb_3 6), .int (pd_3 6), .int (pw_3 6)])), ((pq 7), .inr (1, [.int (pm_3 7), .int (pb_3 7), .int (pd_3 7), .int (pw_3 7)]))] := hD
          refine lv_aload_n hx hb dX7_drink_62 rfl (lv_at hl 0 rfl) ?_
          refine va_get (D := D) (ci := 7) (v := .ref da) (C := RX7) (T := TX7) (N := 8) hx hb hts inX7 hown hK hP 0 rfl rfl 0 (by decide) fl12 (fun _ h9 => h9) rfl dX7_drink_63 ?_
          refine lv_iload_n hx hb dX7_drink_66 rfl (lv_at hl 1 rfl) ?_
          refine lv_iload_n hx hb dX7_drink_67 rfl (lv_at hl 2 rfl) ?_
          refine x_cMi (wr := [(x_xo, .inr (7, [.ref da, .ref k_da, .int x_isKept, .ref t_ta, .ref p_pl, .ref r_tr, .ref w_ro, .ref x_ash])), (apa, .inl (G 4, 8, .inr (.inr (.inr (.inr (fun k => some (pq k))))))), ((pq 0), .inr (1, [.int (pm_3 0), .int (pb_3 0), .int (pd_3 0), .int (pw_3 0)])), ((pq 1), .inr (1, [.int (pm_3 1), .int (pb_3 1), .int (pd_3 1), .int (pw_3 1)])), ((pq 2), .inr (1, [.int (pm_3 2), .int (pb_3 2), .int (pd_3 2), .int (pw_3 2)])), ((pq 3), .inr (1, [.int (pm_3 3), .int (pb_3 3), .int (pd_3 3), .int (pw_3 3)])), ((pq 4), .inr (1, [.int (pm_3 4), .int (pb_3 4), .int (pd_3 4), .int (pw_3 4)])), ((pq 5), .inr (1, [.int (pm_3 5), .int (pb_3 5), .int (pd_3 5), .int (pw_3 5)])), ((pq 6), .inr (1, [.int (pm_3 6), .int (pb_3 6), .int (pd_3 6), .int (pw_3 6)])), ((pq 7), .inr (1, [.int (pm_3 7), .int (pb_3 7), .int (pd_3 7), .int (pw_3 7)]))]) (va_runV (As := [.int x1, .int x2]) (rest := []) ⟨hx, hb, hml, hown, hts⟩ (c_X0_swallow l D G _ da ami aki afi anw apa cows tasters newest_3 known_3 milks kinds fines mayBe bearer day draw x1 x2 _ hw) (cwV 2 hts gX7_drink_X0_swallow rfl rfl rfl (by decide +kernel) ⟨(Nat.le_of_ble_eq_true rfl), (Nat.le_of_ble_eq_true rfl)⟩) (xM_pv (hP.sub [1, 2, 3, 4, 5] rfl) hK (hD.sub [1, 2, 3, 4, 5] (by decide) rfl) (va_recv hK hP (ci := 0) (q0 := 1) rfl rfl)) rfl rfl hl.1 rfl (lv_room (Nat.le_of_ble_eq_true rfl)) dX7_drink_68 ⟨Nat.zero_le _, Nat.zero_le _⟩) hP hD hS hA [1, 2, 3, 4, 5] [0, 6, 7, 8, 9, 10, 11, 12, 13, 14] rfl rfl (by decide) (by decide) [0, 10, 11, 12, 13, 14, 1, 2, 3, 4, 5, 6, 7, 8, 9] (fun u => [(x_xo, .inr (7, [.ref da, .ref k_da, .int x_isKept, .ref t_ta, .ref p_pl, .ref r_tr, .ref w_ro, .ref x_ash])), (da, .inr (0, [.ref ami, .int cows, .ref aki, .ref afi, .int tasters, .ref anw, .ref apa, .int newest_3, .int known_3])), (ami, .inl (G 0, 8, .inl milks)), (aki, .inl (G 0, 4, .inl kinds)), (afi, .inl (G 0, 4, .inl fines)), (anw, .inr (1, [.int u.1, .int bearer, .int u.2, .int draw])), (apa, .inl (G 4, 8, .inr (.inr (.inr (.inr (fun k => some (pq k))))))), ((pq 0), .inr (1, [.int (pm_3 0), .int (pb_3 0), .int (pd_3 0), .int (pw_3 0)])), ((pq 1), .inr (1, [.int (pm_3 1), .int (pb_3 1), .int (pd_3 1), .int (pw_3 1)])), ((pq 2), .inr (1, [.int (pm_3 2), .int (pb_3 2), .int (pd_3 2), .int (pw_3 2)])), ((pq 3), .inr (1, [.int (pm_3 3), .int (pb_3 3), .int (pd_3 3), .int (pw_3 3)])), ((pq 4), .inr (1, [.int (pm_3 4), .int (pb_3 4), .int (pd_3 4), .int (pw_3 4)])), ((pq 5), .inr (1, [.int (pm_3 5), .int (pb_3 5), .int (pd_3 5), .int (pw_3 5)])), ((pq 6), .inr (1, [.int (pm_3 6), .int (pb_3 6), .int (pd_3 6), .int (pw_3 6)])), ((pq 7), .inr (1, [.int (pm_3 7), .int (pb_3 7), .int (pd_3 7), .int (pw_3 7)]))]) (by decide) (fun u => rfl) (fun r4 u H locs hw hP hD hS => ?_)
          obtain ⟨mayBe_4, day_4⟩ := u
          try dsimp only at hw
          replace hP : va_P D vwCl [(x_xo, .inr (7, [.ref da, .ref k_da, .int x_isKept, .ref t_ta, .ref p_pl, .ref r_tr, .ref w_ro, .ref x_ash])), (da, .inr (0, [.ref ami, .int cows, .ref aki, .ref afi, .int tasters, .ref anw, .ref apa, .int newest_3, .int known_3])), (ami, .inl (G 0, 8, .inl milks)), (aki, .inl (G 0, 4, .inl kinds)), (afi, .inl (G 0, 4, .inl fines)), (anw, .inr (1, [.int mayBe_4, .int bearer, .int day_4, .int draw])), (apa, .inl (G 4, 8, .inr (.inr (.inr (.inr (fun k => some (pq k))))))), ((pq 0), .inr (1, [.int (pm_3 0), .int (pb_3 0), .int (pd_3 0), .int (pw_3 0)])), ((pq 1), .inr (1, [.int (pm_3 1), .int (pb_3 1), .int (pd_3 1), .int (pw_3 1)])), ((pq 2), .inr (1, [.int (pm_3 2), .int (pb_3 2), .int (pd_3 2), .int (pw_3 2)])), ((pq 3), .inr (1, [.int (pm_3 3), .int (pb_3 3), .int (pd_3 3), .int (pw_3 3)])), ((pq 4), .inr (1, [.int (pm_3 4), .int (pb_3 4), .int (pd_3 4), .int (pw_3 4)])), ((pq 5), .inr (1, [.int (pm_3 5), .int (pb_3 5), .int (pd_3 5), .int (pw_3 5)])), ((pq 6), .inr (1, [.int (pm_3 6), .int (pb_3 6), .int (pd_3 6), .int (pw_3 6)])), ((pq 7), .inr (1, [.int (pm_3 7), .int (pb_3 7), .int (pd_3 7), .int (pw_3 7)]))] H := hP
          replace hD : va_D A [(x_xo, .inr (7, [.ref da, .ref k_da, .int x_isKept, .ref t_ta, .ref p_pl, .ref r_tr, .ref w_ro, .ref x_ash])), (da, .inr (0, [.ref ami, .int cows, .ref aki, .ref afi, .int tasters, .ref anw, .ref apa, .int newest_3, .int known_3])), (ami, .inl (G 0, 8, .inl milks)), (aki, .inl (G 0, 4, .inl kinds)), (afi, .inl (G 0, 4, .inl fines)), (anw, .inr (1, [.int mayBe_4, .int bearer, .int day_4, .int draw])), (apa, .inl (G 4, 8, .inr (.inr (.inr (.inr (fun k => some (pq k))))))), ((pq 0), .inr (1, [.int (pm_3 0), .int (pb_3 0), .int (pd_3 0), .int (pw_3 0)])), ((pq 1), .inr (1, [.int (pm_3 1), .int (pb_3 1), .int (pd_3 1), .int (pw_3 1)])), ((pq 2), .inr (1, [.int (pm_3 2), .int (pb_3 2), .int (pd_3 2), .int (pw_3 2)])), ((pq 3), .inr (1, [.int (pm_3 3), .int (pb_3 3), .int (pd_3 3), .int (pw_3 3)])), ((pq 4), .inr (1, [.int (pm_3 4), .int (pb_3 4), .int (pd_3 4), .int (pw_3 4)])), ((pq 5), .inr (1, [.int (pm_3 5), .int (pb_3 5), .int (pd_3 5), .int (pw_3 5)])), ((pq 6), .inr (1, [.int (pm_3 6), .int (pb_3 6), .int (pd_3 6), .int (pw_3 6)])), ((pq 7), .inr (1, [.int (pm_3 7), .int (pb_3 7), .int (pd_3 7), .int (pw_3 7)]))] := hD
          exact W.iret hx hb hr (x_mi (u := (newest_3, known_3, mayBe_4, day_4, pm_3, pb_3, pd_3, pw_3)) hP hK hD hS hw) hS.2.2 dX7_drink_71
        · replace hw := hw.2 c9
          refine lv_bipush (v := -2) hx hb dX7_drink_52 (by decide) ?_
          exact W.iret hx hb hr (x_mi (u := (newest, known, mayBe, day, pm, pb, pd, pw)) hP hK hD hS hw) hS.2.2 dX7_drink_54
      · replace hw := hw.2 c9
        refine lv_bipush (v := -3) hx hb dX7_drink_34 (by decide) ?_
        exact W.iret hx hb hr (x_mi (u := (newest, known, mayBe, day, pm, pb, pd, pw)) hP hK hD hS hw) hS.2.2 dX7_drink_36
    · replace hw := hw.2 c9
      refine lv_iconst (v := -1) hx hb dX7_drink_16 (by decide) ?_
      exact W.iret hx hb hr (x_mi (u := (newest, known, mayBe, day, pm, pb, pd, pw)) hP hK hD hS hw) hS.2.2 dX7_drink_17
set_option maxHeartbeats 4000000 in
set_option maxRecDepth 100000 in
theorem c_X7_forget (l : Launch) (D : va_G) (G : Nat → ClassId) (sz : Nat) (x_xo : Nat) (da : Nat) (k_da : Nat) (t_ta : Nat) (p_pl : Nat) (r_tr : Nat) (w_ro : Nat) (x_ash : Nat) (ami : Nat) (aki : Nat) (afi : Nat) (anw : Nat) (apa : Nat) (pq : Nat → Nat) (x_isKept : Int32) (cows : Int32) (tasters : Int32) (newest : Int32) (known : Int32) (mayBe : Int32) (bearer : Int32) (day : Int32) (draw : Int32) (pm : Nat → Int32) (pb : Nat → Int32) (pd : Nat → Int32) (pw : Nat → Int32) (post : Int32 → Int32 → Int32 → Int32 → (Nat → Int32) → (Nat → Int32) → (Nat → Int32) → (Nat → Int32) → Prop) (hw : wp_X7_forget cows newest known mayBe bearer day draw pm pb pd pw post) : Met l yX7_forget wsX7_forget ({ frames := 2, cells := 0, slots := 0, locals := 41 } : Room) (va_Pc [.ref x_xo] (xM D G sz [(x_xo, .inr (7, [.ref da, .ref k_da, .int x_isKept, .ref t_ta, .ref p_pl, .ref r_tr, .ref w_ro, .ref x_ash])), (da, .inr (0, [.ref ami, .int cows, .ref aki, .ref afi, .int tasters, .ref anw, .ref apa, .int newest, .int known])), (anw, .inr (1, [.int mayBe, .int bearer, .int day, .int draw])), (apa, .inl (G 4, 8, .inr (.inr (.inr (.inr (fun k => some (pq k))))))), ((pq 0), .inr (1, [.int (pm 0), .int (pb 0), .int (pd 0), .int (pw 0)])), ((pq 1), .inr (1, [.int (pm 1), .int (pb 1), .int (pd 1), .int (pw 1)])), ((pq 2), .inr (1, [.int (pm 2), .int (pb 2), .int (pd 2), .int (pw 2)])), ((pq 3), .inr (1, [.int (pm 3), .int (pb 3), .int (pd 3), .int (pw 3)])), ((pq 4), .inr (1, [.int (pm 4), .int (pb 4), .int (pd 4), .int (pw 4)])), ((pq 5), .inr (1, [.int (pm 5), .int (pb 5), .int (pd 5), .int (pw 5)])), ((pq 6), .inr (1, [.int (pm 6), .int (pb 6), .int (pd 6), .int (pw 6)])), ((pq 7), .inr (1, [.int (pm 7), .int (pb 7), .int (pd 7), .int (pw 7)]))])) (va_Qi (fun r (u : Int32 × Int32 × Int32 × (Nat → Int32) × (Nat → Int32) × (Nat → Int32) × (Nat → Int32)) => post r u.1 u.2.1 u.2.2.1 u.2.2.2.1 u.2.2.2.2.1 u.2.2.2.2.2.1 u.2.2.2.2.2.2) (fun u t => xE D G (va_A [(x_xo, .inr (7, [.ref da, .ref k_da, .int x_isKept, .ref t_ta, .ref p_pl, .ref r_tr, .ref w_ro, .ref x_ash])), (da, .inr (0, [.ref ami, .int cows, .ref aki, .ref afi, .int tasters, .ref anw, .ref apa, .int newest, .int known])), (anw, .inr (1, [.int mayBe, .int bearer, .int day, .int draw])), (apa, .inl (G 4, 8, .inr (.inr (.inr (.inr (fun k => some (pq k))))))), ((pq 0), .inr (1, [.int (pm 0), .int (pb 0), .int (pd 0), .int (pw 0)])), ((pq 1), .inr (1, [.int (pm 1), .int (pb 1), .int (pd 1), .int (pw 1)])), ((pq 2), .inr (1, [.int (pm 2), .int (pb 2), .int (pd 2), .int (pw 2)])), ((pq 3), .inr (1, [.int (pm 3), .int (pb 3), .int (pd 3), .int (pw 3)])), ((pq 4), .inr (1, [.int (pm 4), .int (pb 4), .int (pd 4), .int (pw 4)])), ((pq 5), .inr (1, [.int (pm 5), .int (pb 5), .int (pd 5), .int (pw 5)])), ((pq 6), .inr (1, [.int (pm 6), .int (pb 6), .int (pd 6), .int (pw 6)])), ((pq 7), .inr (1, [.int (pm 7), .int (pb 7), .int (pd 7), .int (pw 7)]))] sz) [(x_xo, .inr (7, [.ref da, .ref k_da, .int x_isKept, .ref t_ta, .ref p_pl, .ref r_tr, .ref w_ro, .ref x_ash])), (da, .inr (0, [.ref ami, .int cows, .ref aki, .ref afi, .int tasters, .ref anw, .ref apa, .int u.1, .int u.2.1])), (anw, .inr (1, [.int u.2.2.1, .int bearer, .int day, .int draw])), (apa, .inl (G 4, 8, .inr (.inr (.inr (.inr (fun k => some (pq k))))))), ((pq 0), .inr (1, [.int ((u.2.2.2.1) 0), .int ((u.2.2.2.2.1) 0), .int ((u.2.2.2.2.2.1) 0), .int ((u.2.2.2.2.2.2) 0)])), ((pq 1), .inr (1, [.int ((u.2.2.2.1) 1), .int ((u.2.2.2.2.1) 1), .int ((u.2.2.2.2.2.1) 1), .int ((u.2.2.2.2.2.2) 1)])), ((pq 2), .inr (1, [.int ((u.2.2.2.1) 2), .int ((u.2.2.2.2.1) 2), .int ((u.2.2.2.2.2.1) 2), .int ((u.2.2.2.2.2.2) 2)])), ((pq 3), .inr (1, [.int ((u.2.2.2.1) 3), .int ((u.2.2.2.2.1) 3), .int ((u.2.2.2.2.2.1) 3), .int ((u.2.2.2.2.2.2) 3)])), ((pq 4), .inr (1, [.int ((u.2.2.2.1) 4), .int ((u.2.2.2.2.1) 4), .int ((u.2.2.2.2.2.1) 4), .int ((u.2.2.2.2.2.2) 4)])), ((pq 5), .inr (1, [.int ((u.2.2.2.1) 5), .int ((u.2.2.2.2.1) 5), .int ((u.2.2.2.2.2.1) 5), .int ((u.2.2.2.2.2.2) 5)])), ((pq 6), .inr (1, [.int ((u.2.2.2.1) 6), .int ((u.2.2.2.2.1) 6), .int ((u.2.2.2.2.2.1) 6), .int ((u.2.2.2.2.2.2) 6)])), ((pq 7), .inr (1, [.int ((u.2.2.2.1) 7), .int ((u.2.2.2.2.1) 7), .int ((u.2.2.2.2.2.1) 7), .int ((u.2.2.2.2.2.2) 7)]))] t) (va_A [(x_xo, .inr (7, [.ref da, .ref k_da, .int x_isKept, .ref t_ta, .ref p_pl, .ref r_tr, .ref w_ro, .ref x_ash])), (da, .inr (0, [.ref ami, .int cows, .ref aki, .ref afi, .int tasters, .ref anw, .ref apa, .int newest, .int known])), (anw, .inr (1, [.int mayBe, .int bearer, .int day, .int draw])), (apa, .inl (G 4, 8, .inr (.inr (.inr (.inr (fun k => some (pq k))))))), ((pq 0), .inr (1, [.int (pm 0), .int (pb 0), .int (pd 0), .int (pw 0)])), ((pq 1), .inr (1, [.int (pm 1), .int (pb 1), .int (pd 1), .int (pw 1)])), ((pq 2), .inr (1, [.int (pm 2), .int (pb 2), .int (pd 2), .int (pw 2)])), ((pq 3), .inr (1, [.int (pm 3), .int (pb 3), .int (pd 3), .int (pw 3)])), ((pq 4), .inr (1, [.int (pm 4), .int (pb 4), .int (pd 4), .int (pw 4)])), ((pq 5), .inr (1, [.int (pm 5), .int (pb 5), .int (pd 5), .int (pw 5)])), ((pq 6), .inr (1, [.int (pm 6), .int (pb 6), .int (pd 6), .int (pw 6)])), ((pq 7), .inr (1, [.int (pm 7), .int (pb 7), .int (pd 7), .int (pw 7)]))] sz)) 0 0 (va_A [(x_xo, .inr (7, [.ref da, .ref k_da, .int x_isKept, .ref t_ta, .ref p_pl, .ref r_tr, .ref w_ro, .ref x_ash])), (da, .inr (0, [.ref ami, .int cows, .ref aki, .ref afi, .int tasters, .ref anw, .ref apa, .int newest, .int known])), (anw, .inr (1, [.int mayBe, .int bearer, .int day, .int draw])), (apa, .inl (G 4, 8, .inr (.inr (.inr (.inr (fun k => some (pq k))))))), ((pq 0), .inr (1, [.int (pm 0), .int (pb 0), .int (pd 0), .int (pw 0)])), ((pq 1), .inr (1, [.int (pm 1), .int (pb 1), .int (pd 1), .int (pw 1)])), ((pq 2), .inr (1, [.int (pm 2), .int (pb 2), .int (pd 2), .int (pw 2)])), ((pq 3), .inr (1, [.int (pm 3), .int (pb 3), .int (pd 3), .int (pw 3)])), ((pq 4), .inr (1, [.int (pm 4), .int (pb 4), .int (pd 4), .int (pw 4)])), ((pq 5), .inr (1, [.int (pm 5), .int (pb 5), .int (pd 5), .int (pw 5)])), ((pq 6), .inr (1, [.int (pm 6), .int (pb 6), .int (pd 6), .int (pw 6)])), ((pq 7), .inr (1, [.int (pm 7), .int (pb 7), .int (pd 7), .int (pw 7)]))] sz) := by
  refine Met.ofW (cc := cX7_forget) (maxL := 1) (ret := (some .int)) (by decide) rfl ?_
  intro p e s m args below meth c s₁ B hml hv
  obtain ⟨rfl, hsz, hP, hK, hD0⟩ := hv
  have hx := B.exec
  have hb := B.bytes
  have hr := B.returns
  have hts := atoms_spec (ws := wsX7_forget) B.pre
  have hown : s.vm.findClass RX7 = some m.cls := findClass_of_methodNamed B.named
  have hlocks := B.notSynchronized
  subst hsz
  have hD := hD0.self (sz := s.heap.size)
  generalize hAe : va_A [(x_xo, .inr (7, [.ref da, .ref k_da, .int x_isKept, .ref t_ta, .ref p_pl, .ref r_tr, .ref w_ro, .ref x_ash])), (da, .inr (0, [.ref ami, .int cows, .ref aki, .ref afi, .int tasters, .ref anw, .ref apa, .int newest, .int known])), (anw, .inr (1, [.int mayBe, .int bearer, .int day, .int draw])), (apa, .inl (G 4, 8, .inr (.inr (.inr (.inr (fun k => some (pq k))))))), ((pq 0), .inr (1, [.int (pm 0), .int (pb 0), .int (pd 0), .int (pw 0)])), ((pq 1), .inr (1, [.int (pm 1), .int (pb 1), .int (pd 1), .int (pw 1)])), ((pq 2), .inr (1, [.int (pm 2), .int (pb 2), .int (pd 2), .int (pw 2)])), ((pq 3), .inr (1, [.int (pm 3), .int (pb 3), .int (pd 3), .int (pw 3)])), ((pq 4), .inr (1, [.int (pm 4), .int (pb 4), .int (pd 4), .int (pw 4)])), ((pq 5), .inr (1, [.int (pm 5), .int (pb 5), .int (pd 5), .int (pw 5)])), ((pq 6), .inr (1, [.int (pm 6), .int (pb 6), .int (pd 6), .int (pw 6)])), ((pq 7), .inr (1, [.int (pm 7), .int (pb 7), .int (pd 7), .int (pw 7)]))] s.heap.size = A at hD ⊢
  have hA : ∀ q : Nat, s.heap.size ≤ q → A q := fun q h => by rw [← hAe]; exact Or.inr h
  have hS : va_S A s.heap s.heap [] := va_S.rf
  have inX0 : ∀ w ∈ wsX00, w ∈ wsX7_forget := by decide +kernel
  have inX1 : ∀ w ∈ wsX10, w ∈ wsX7_forget := by decide +kernel
  have inX7 : ∀ w ∈ wsX70, w ∈ wsX7_forget := by decide +kernel
  have fl12 := hts (.fieldLink RX7 12 "NewsCow" "dairy" "LNewsCow$Dairy;") (by decide +kernel)
  have fl66 := hts (.fieldLink RX7 66 "NewsCow$Dairy" "now" "LNewsCow$Moment;") (by decide +kernel)
  have fl74 := hts (.fieldLink RX7 74 "NewsCow$Moment" "mayBe" "I") (by decide +kernel)
  have fl58 := hts (.fieldLink RX7 58 "NewsCow$Dairy" "cows" "I") (by decide +kernel)
  have hl := lv_entry ([.ref x_xo] : List Value) (n := 1) (Nat.le_of_ble_eq_true rfl)
  rw [lg_entry_eq]
  generalize (lg_sl ([.ref x_xo] : List Value) ++ List.replicate (1 - (lg_sl ([.ref x_xo] : List Value)).length) Slot.unset).toArray = ls at hl ⊢
  have hl : lv_has ls 1 [(0, .ref x_xo)] := hl
  unfold wp_X7_forget at hw
  refine lv_aload_n hx hb dX7_forget_0 rfl (lv_at hl 0 rfl) ?_
  refine va_get (D := D) (ci := 7) (v := .ref da) (C := RX7) (T := TX7) (N := 8) hx hb hts inX7 hown hK hP 0 rfl rfl 0 (by decide) fl12 (fun _ h9 => h9) rfl dX7_forget_1 ?_
  refine va_get (D := D) (ci := 0) (v := .ref anw) (C := RX0) (T := TX0) (N := 9) hx hb hts inX0 hown hK hP 1 rfl rfl 5 (by decide) fl66 (fun _ h9 => h9) rfl dX7_forget_4 ?_
  refine va_get (D := D) (ci := 1) (v := .int mayBe) (C := RX1) (T := TX1) (N := 4) hx hb hts inX1 hown hK hP 2 rfl rfl 0 (by decide) fl74 (fun _ h9 => h9) rfl dX7_forget_7 ?_
  refine lv_aload_n hx hb dX7_forget_10 rfl (lv_at hl 0 rfl) ?_
  refine va_get (D := D) (ci := 7) (v := .ref da) (C := RX7) (T := TX7) (N := 8) hx hb hts inX7 hown hK hP 0 rfl rfl 0 (by decide) fl12 (fun _ h9 => h9) rfl dX7_forget_11 ?_
  refine vp_callSi (W.runV (As := []) (rest := [.int mayBe]) ⟨hx, hb, hml, hown, hts⟩ (c_X0_allCows l D G da ami aki afi anw apa cows tasters newest known _ hw) (cwV 0 hts gX7_forget_X0_allCows rfl rfl rfl (by decide +kernel) ⟨(Nat.le_of_ble_eq_true rfl), (Nat.le_of_ble_eq_true rfl)⟩) (xR_pv (hP.sub [1] rfl) hK (va_recv hK hP (ci := 0) (q0 := 1) rfl rfl)) rfl rfl hl.1 rfl (lv_room (Nat.le_of_ble_eq_true rfl)) dX7_forget_14 ⟨Nat.zero_le _, Nat.zero_le _⟩) (fun r1 hw => ?_)
  refine lv_icmp_ne (tgt := 23) hx hb dX7_forget_17 (by decide) (fun c9 => ?_) (fun c9 => ?_)
  · replace hw := hw.1 c9
    refine lv_aload_n hx hb dX7_forget_23 rfl (lv_at hl 0 rfl) ?_
    refine va_get (D := D) (ci := 7) (v := .ref da) (C := RX7) (T := TX7) (N := 8) hx hb hts inX7 hown hK hP 0 rfl rfl 0 (by decide) fl12 (fun _ h9 => h9) rfl dX7_forget_24 ?_
    refine x_cMv (wr := [(x_xo, .inr (7, [.ref da, .ref k_da, .int x_isKept, .ref t_ta, .ref p_pl, .ref r_tr, .ref w_ro, .ref x_ash]))]) (va_runV (As := []) (rest := []) ⟨hx, hb, hml, hown, hts⟩ (c_X0_remember l D G _ da ami aki afi anw apa pq cows tasters newest known mayBe bearer day draw pm pb pd pw _ hw) (cwV 0 hts gX7_forget_X0_remember rfl rfl rfl (by decide +kernel) ⟨(Nat.le_of_ble_eq_true rfl), (Nat.le_of_ble_eq_true rfl)⟩) (xM_pv (hP.sub [1, 2, 3, 4, 5, 6, 7, 8, 9, 10, 11] rfl) hK (hD.sub [1, 2, 3, 4, 5, 6, 7, 8, 9, 10, 11] (by decide) rfl) (va_recv hK hP (ci := 0) (q0 := 1) rfl rfl)) rfl rfl hl.1 rfl (lv_room (Nat.le_of_ble_eq_true rfl)) dX7_forget_27 ⟨Nat.zero_le _, Nat.zero_le _⟩) hP hD hS hA [1, 2, 3, 4, 5, 6, 7, 8, 9, 10, 11] [0] rfl rfl (by decide) (by decide) [0, 1, 2, 3, 4, 5, 6, 7, 8, 9, 10, 11] (fun u => [(x_xo, .inr (7, [.ref da, .ref k_da, .int x_isKept, .ref t_ta, .ref p_pl, .ref r_tr, .ref w_ro, .ref x_ash])), (da, .inr (0, [.ref ami, .int cows, .ref aki, .ref afi, .int tasters, .ref anw, .ref apa, .int u.1, .int u.2.1])), (anw, .inr (1, [.int mayBe, .int bearer, .int day, .int draw])), (apa, .inl (G 4, 8, .inr (.inr (.inr (.inr (fun k => some (pq k))))))), ((pq 0), .inr (1, [.int ((u.2.2.1) 0), .int ((u.2.2.2.1) 0), .int ((u.2.2.2.2.1) 0), .int ((u.2.2.2.2.2) 0)])), ((pq 1), .inr (1, [.int ((u.2.2.1) 1), .int ((u.2.2.2.1) 1), .int ((u.2.2.2.2.1) 1), .int ((u.2.2.2.2.2) 1)])), ((pq 2), .inr (1, [.int ((u.2.2.1) 2), .int ((u.2.2.2.1) 2), .int ((u.2.2.2.2.1) 2), .int ((u.2.2.2.2.2) 2)])), ((pq 3), .inr (1, [.int ((u.2.2.1) 3), .int ((u.2.2.2.1) 3), .int ((u.2.2.2.2.1) 3), .int ((u.2.2.2.2.2) 3)])), ((pq 4), .inr (1, [.int ((u.2.2.1) 4), .int ((u.2.2.2.1) 4), .int ((u.2.2.2.2.1) 4), .int ((u.2.2.2.2.2) 4)])), ((pq 5), .inr (1, [.int ((u.2.2.1) 5), .int ((u.2.2.2.1) 5), .int ((u.2.2.2.2.1) 5), .int ((u.2.2.2.2.2) 5)])), ((pq 6), .inr (1, [.int ((u.2.2.1) 6), .int ((u.2.2.2.1) 6), .int ((u.2.2.2.2.1) 6), .int ((u.2.2.2.2.2) 6)])), ((pq 7), .inr (1, [.int ((u.2.2.1) 7), .int ((u.2.2.2.1) 7), .int ((u.2.2.2.2.1) 7), .int ((u.2.2.2.2.2) 7)]))]) (by decide) (fun u => rfl) (fun u H locs hw hP hD hS => ?_)
    obtain ⟨newest_2, known_2, pm_2, pb_2, pd_2, pw_2⟩ := u
    try dsimp only at hw
    replace hP : va_P D vwCl [(x_xo, .inr (7, [.ref da, .ref k_da, .int x_isKept, .ref t_ta, .ref p_pl, .ref r_tr, .ref w_ro, .ref x_ash])), (da, .inr (0, [.ref ami, .int cows, .ref aki, .ref afi, .int tasters, .ref anw, .ref apa, .int newest_2, .int known_2])), (anw, .inr (1, [.int mayBe, .int bearer, .int day, .int draw])), (apa, .inl (G 4, 8, .inr (.inr (.inr (.inr (fun k => some (pq k))))))), ((pq 0), .inr (1, [.int (pm_2 0), .int (pb_2 0), .int (pd_2 0), .int (pw_2 0)])), ((pq 1), .inr (1, [.int (pm_2 1), .int (pb_2 1), .int (pd_2 1), .int (pw_2 1)])), ((pq 2), .inr (1, [.int (pm_2 2), .int (pb_2 2), .int (pd_2 2), .int (pw_2 2)])), ((pq 3), .inr (1, [.int (pm_2 3), .int (pb_2 3), .int (pd_2 3), .int (pw_2 3)])), ((pq 4), .inr (1, [.int (pm_2 4), .int (pb_2 4), .int (pd_2 4), .int (pw_2 4)])), ((pq 5), .inr (1, [.int (pm_2 5), .int (pb_2 5), .int (pd_2 5), .int (pw_2 5)])), ((pq 6), .inr (1, [.int (pm_2 6), .int (pb_2 6), .int (pd_2 6), .int (pw_2 6)])), ((pq 7), .inr (1, [.int (pm_2 7), .int (pb_2 7), .int (pd_2 7), .int (pw_2 7)]))] H := hP
    replace hD : va_D A [(x_xo, .inr (7, [.ref da, .ref k_da, .int x_isKept, .ref t_ta, .ref p_pl, .ref r_tr, .ref w_ro, .ref x_ash])), (da, .inr (0, [.ref ami, .int cows, .ref aki, .ref afi, .int tasters, .ref anw, .ref apa, .int newest_2, .int known_2])), (anw, .inr (1, [.int mayBe, .int bearer, .int day, .int draw])), (apa, .inl (G 4, 8, .inr (.inr (.inr (.inr (fun k => some (pq k))))))), ((pq 0), .inr (1, [.int (pm_2 0), .int (pb_2 0), .int (pd_2 0), .int (pw_2 0)])), ((pq 1), .inr (1, [.int (pm_2 1), .int (pb_2 1), .int (pd_2 1), .int (pw_2 1)])), ((pq 2), .inr (1, [.int (pm_2 2), .int (pb_2 2), .int (pd_2 2), .int (pw_2 2)])), ((pq 3), .inr (1, [.int (pm_2 3), .int (pb_2 3), .int (pd_2 3), .int (pw_2 3)])), ((pq 4), .inr (1, [.int (pm_2 4), .int (pb_2 4), .int (pd_2 4), .int (pw_2 4)])), ((pq 5), .inr (1, [.int (pm_2 5), .int (pb_2 5), .int (pd_2 5), .int (pw_2 5)])), ((pq 6), .inr (1, [.int (pm_2 6), .int (pb_2 6), .int (pd_2 6), .int (pw_2 6)])), ((pq 7), .inr (1, [.int (pm_2 7), .int (pb_2 7), .int (pd_2 7), .int (pw_2 7)]))] := hD
    refine lv_aload_n hx hb dX7_forget_30 rfl (lv_at hl 0 rfl) ?_
    refine va_get (D := D) (ci := 7) (v := .ref da) (C := RX7) (T := TX7) (N := 8) hx hb hts inX7 hown hK hP 0 rfl rfl 0 (by decide) fl12 (fun _ h9 => h9) rfl dX7_forget_31 ?_
    refine va_get (D := D) (ci := 0) (v := .ref anw) (C := RX0) (T := TX0) (N := 9) hx hb hts inX0 hown hK hP 1 rfl rfl 5 (by decide) fl66 (fun _ h9 => h9) rfl dX7_forget_34 ?_
    refine lv_aload_n hx hb dX7_forget_37 rfl (lv_at hl 0 rfl) ?_
    refine va_get (D := D) (ci := 7) (v := .ref da) (C := RX7) (T := TX7) (N := 8) hx hb hts inX7 hown hK hP 0 rfl rfl 0 (by decide) fl12 (fun _ h9 => h9) rfl dX7_forget_38 ?_
    refine vp_callSi (W.runV (As := []) (rest := [.ref anw]) ⟨hx, hb, hml, hown, hts⟩ (c_X0_allCows l D G da ami aki afi anw apa cows tasters newest_2 known_2 _ hw) (cwV 0 hts gX7_forget_X0_allCows rfl rfl rfl (by decide +kernel) ⟨(Nat.le_of_ble_eq_true rfl), (Nat.le_of_ble_eq_true rfl)⟩) (xR_pv (hP.sub [1] rfl) hK (va_recv hK hP (ci := 0) (q0 := 1) rfl rfl)) rfl rfl hl.1 rfl (lv_room (Nat.le_of_ble_eq_true rfl)) dX7_forget_41 ⟨Nat.zero_le _, Nat.zero_le _⟩) (fun r3 hw => ?_)
    refine va_put (D := D) (ci := 1) (v := .int r3) (ty := .int) (C := RX1) (T := TX1) (N := 4) hx hb hts inX1 tyX1 tyX1_ok nmX1 hown hK hP hD hS 2 rfl rfl 0 (by decide) fl74 (fun _ h9 => h9) rfl (by decide +kernel) rfl rfl (Nat.le_of_ble_eq_true rfl) dX7_forget_44 (fun H locs hP hD hS => ?_)
    replace hP : va_P D vwCl [(x_xo, .inr (7, [.ref da, .ref k_da, .int x_isKept, .ref t_ta, .ref p_pl, .ref r_tr, .ref w_ro, .ref x_ash])), (da, .inr (0, [.ref ami, .int cows, .ref aki, .ref afi, .int tasters, .ref anw, .ref apa, .int newest_2, .int known_2])), (anw, .inr (1, [.int r3, .int bearer, .int day, .int draw])), (apa, .inl (G 4, 8, .inr (.inr (.inr (.inr (fun k => some (pq k))))))), ((pq 0), .inr (1, [.int (pm_2 0), .int (pb_2 0), .int (pd_2 0), .int (pw_2 0)])), ((pq 1), .inr (1, [.int (pm_2 1), .int (pb_2 1), .int (pd_2 1), .int (pw_2 1)])), ((pq 2), .inr (1, [.int (pm_2 2), .int (pb_2 2), .int (pd_2 2), .int (pw_2 2)])), ((pq 3), .inr (1, [.int (pm_2 3), .int (pb_2 3), .int (pd_2 3), .int (pw_2 3)])), ((pq 4), .inr (1, [.int (pm_2 4), .int (pb_2 4), .int (pd_2 4), .int (pw_2 4)])), ((pq 5), .inr (1, [.int (pm_2 5), .int (pb_2 5), .int (pd_2 5), .int (pw_2 5)])), ((pq 6), .inr (1, [.int (pm_2 6), .int (pb_2 6), .int (pd_2 6), .int (pw_2 6)])), ((pq 7), .inr (1, [.int (pm_2 7), .int (pb_2 7), .int (pd_2 7), .int (pw_2 7)]))] H := hP
    replace hD : va_D A [(x_xo, .inr (7, [.ref da, .ref k_da, .int x_isKept, .ref t_ta, .ref p_pl, .ref r_tr, .ref w_ro, .ref x_ash])), (da, .inr (0, [.ref ami, .int cows, .ref aki, .ref afi, .int tasters, .ref anw, .ref apa, .int newest_2, .int known_2])), (anw, .inr (1, [.int r3, .int bearer, .int day, .int draw])), (apa, .inl (G 4, 8, .inr (.inr (.inr (.inr (fun k => some (pq k))))))), ((pq 0), .inr (1, [.int (pm_2 0), .int (pb_2 0), .int (pd_2 0), .int (pw_2 0)])), ((pq 1), .inr (1, [.int (pm_2 1), .int (pb_2 1), .int (pd_2 1), .int (pw_2 1)])), ((pq 2), .inr (1, [.int (pm_2 2), .int (pb_2 2), .int (pd_2 2), .int (pw_2 2)])), ((pq 3), .inr (1, [.int (pm_2 3), .int (pb_2 3), .int (pd_2 3), .int (pw_2 3)])), ((pq 4), .inr (1, [.int (pm_2 4), .int (pb_2 4), .int (pd_2 4), .int (pw_2 4)])), ((pq 5), .inr (1, [.int (pm_2 5), .int (pb_2 5), .int (pd_2 5), .int (pw_2 5)])), ((pq 6), .inr (1, [.int (pm_2 6), .int (pb_2 6), .int (pd_2 6), .int (pw_2 6)])), ((pq 7), .inr (1, [.int (pm_2 7), .int (pb_2 7), .int (pd_2 7), .int (pw_2 7)]))] := hD
    refine lv_aload_n hx hb dX7_forget_47 rfl (lv_at hl 0 rfl) ?_
    refine va_get (D := D) (ci := 7) (v := .ref da) (C := RX7) (T := TX7) (N := 8) hx hb hts inX7 hown hK hP 0 rfl rfl 0 (by decide) fl12 (fun _ h9 => h9) rfl dX7_forget_48 ?_
    refine va_get (D := D) (ci := 0) (v := .int cows) (C := RX0) (T := TX0) (N := 9) hx hb hts inX0 hown hK hP 1 rfl rfl 1 (by decide) fl58 (fun _ h9 => h9) rfl dX7_forget_51 ?_
    exact W.iret hx hb hr (x_mi (u := (newest_2, known_2, r3, pm_2, pb_2, pd_2, pw_2)) hP hK hD hS hw) hS.2.2 dX7_forget_54
  · replace hw := hw.2 c9
    refine lv_bipush (v := -2) hx hb dX7_forget_20 (by decide) ?_
    exact W.iret hx hb hr (x_mi (u := (newest, known, mayBe, pm, pb, pd, pw)) hP hK hD hS hw) hS.2.2 dX7_forget_22
set_option maxHeartbeats 4000000 in
set_option maxRecDepth 100000 in
theorem c_X7_bear (l : Launch) (D : va_G) (G : Nat → ClassId) (sz : Nat) (x_xo : Nat) (da : Nat) (k_da : Nat) (t_ta : Nat) (p_pl : Nat) (r_tr : Nat) (w_ro : Nat) (x_ash : Nat) (ami : Nat) (aki : Nat) (afi : Nat) (anw : Nat) (apa : Nat) (pq : Nat → Nat) (x_isKept : Int32) (cows : Int32) (tasters : Int32) (newest : Int32) (known : Int32) (mayBe : Int32) (bearer : Int32) (day : Int32) (draw : Int32) (pm : Nat → Int32) (pb : Nat → Int32) (pd : Nat → Int32) (pw : Nat → Int32) (x1 : Int32) (post : Int32 → Int32 → Int32 → Int32 → (Nat → Int32) → (Nat → Int32) → (Nat → Int32) → (Nat → Int32) → Prop) (hw : wp_X7_bear cows newest known mayBe bearer day draw pm pb pd pw x1 post) : Met l yX7_bear wsX7_bear ({ frames := 2, cells := 0, slots := 0, locals := 41 } : Room) (va_Pc [.ref x_xo, .int x1] (xM D G sz [(x_xo, .inr (7, [.ref da, .ref k_da, .int x_isKept, .ref t_ta, .ref p_pl, .ref r_tr, .ref w_ro, .ref x_ash])), (da, .inr (0, [.ref ami, .int cows, .ref aki, .ref afi, .int tasters, .ref anw, .ref apa, .int newest, .int known])), (anw, .inr (1, [.int mayBe, .int bearer, .int day, .int draw])), (apa, .inl (G 4, 8, .inr (.inr (.inr (.inr (fun k => some (pq k))))))), ((pq 0), .inr (1, [.int (pm 0), .int (pb 0), .int (pd 0), .int (pw 0)])), ((pq 1), .inr (1, [.int (pm 1), .int (pb 1), .int (pd 1), .int (pw 1)])), ((pq 2), .inr (1, [.int (pm 2), .int (pb 2), .int (pd 2), .int (pw 2)])), ((pq 3), .inr (1, [.int (pm 3), .int (pb 3), .int (pd 3), .int (pw 3)])), ((pq 4), .inr (1, [.int (pm 4), .int (pb 4), .int (pd 4), .int (pw 4)])), ((pq 5), .inr (1, [.int (pm 5), .int (pb 5), .int (pd 5), .int (pw 5)])), ((pq 6), .inr (1, [.int (pm 6), .int (pb 6), .int (pd 6), .int (pw 6)])), ((pq 7), .inr (1, [.int (pm 7), .int (pb 7), .int (pd 7), .int (pw 7)]))])) (va_Qi (fun r (u : Int32 × Int32 × Int32 × (Nat → Int32) × (Nat → Int32) × (Nat → Int32) × (Nat → Int32)) => post r u.1 u.2.1 u.2.2.1 u.2.2.2.1 u.2.2.2.2.1 u.2.2.2.2.2.1 u.2.2.2.2.2.2) (fun u t => xE D G (va_A [(x_xo, .inr (7, [.ref da, .ref k_da, .int x_isKept, .ref t_ta, .ref p_pl, .ref r_tr, .ref w_ro, .ref x_ash])), (da, .inr (0, [.ref ami, .int cows, .ref aki, .ref afi, .int tasters, .ref anw, .ref apa, .int newest, .int known])), (anw, .inr (1, [.int mayBe, .int bearer, .int day, .int draw])), (apa, .inl (G 4, 8, .inr (.inr (.inr (.inr (fun k => some (pq k))))))), ((pq 0), .inr (1, [.int (pm 0), .int (pb 0), .int (pd 0), .int (pw 0)])), ((pq 1), .inr (1, [.int (pm 1), .int (pb 1), .int (pd 1), .int (pw 1)])), ((pq 2), .inr (1, [.int (pm 2), .int (pb 2), .int (pd 2), .int (pw 2)])), ((pq 3), .inr (1, [.int (pm 3), .int (pb 3), .int (pd 3), .int (pw 3)])), ((pq 4), .inr (1, [.int (pm 4), .int (pb 4), .int (pd 4), .int (pw 4)])), ((pq 5), .inr (1, [.int (pm 5), .int (pb 5), .int (pd 5), .int (pw 5)])), ((pq 6), .inr (1, [.int (pm 6), .int (pb 6), .int (pd 6), .int (pw 6)])), ((pq 7), .inr (1, [.int (pm 7), .int (pb 7), .int (pd 7), .int (pw 7)]))] sz) [(x_xo, .inr (7, [.ref da, .ref k_da, .int x_isKept, .ref t_ta, .ref p_pl, .ref r_tr, .ref w_ro, .ref x_ash])), (da, .inr (0, [.ref ami, .int cows, .ref aki, .ref afi, .int tasters, .ref anw, .ref apa, .int u.1, .int u.2.1])), (anw, .inr (1, [.int mayBe, .int u.2.2.1, .int day, .int draw])), (apa, .inl (G 4, 8, .inr (.inr (.inr (.inr (fun k => some (pq k))))))), ((pq 0), .inr (1, [.int ((u.2.2.2.1) 0), .int ((u.2.2.2.2.1) 0), .int ((u.2.2.2.2.2.1) 0), .int ((u.2.2.2.2.2.2) 0)])), ((pq 1), .inr (1, [.int ((u.2.2.2.1) 1), .int ((u.2.2.2.2.1) 1), .int ((u.2.2.2.2.2.1) 1), .int ((u.2.2.2.2.2.2) 1)])), ((pq 2), .inr (1, [.int ((u.2.2.2.1) 2), .int ((u.2.2.2.2.1) 2), .int ((u.2.2.2.2.2.1) 2), .int ((u.2.2.2.2.2.2) 2)])), ((pq 3), .inr (1, [.int ((u.2.2.2.1) 3), .int ((u.2.2.2.2.1) 3), .int ((u.2.2.2.2.2.1) 3), .int ((u.2.2.2.2.2.2) 3)])), ((pq 4), .inr (1, [.int ((u.2.2.2.1) 4), .int ((u.2.2.2.2.1) 4), .int ((u.2.2.2.2.2.1) 4), .int ((u.2.2.2.2.2.2) 4)])), ((pq 5), .inr (1, [.int ((u.2.2.2.1) 5), .int ((u.2.2.2.2.1) 5), .int ((u.2.2.2.2.2.1) 5), .int ((u.2.2.2.2.2.2) 5)])), ((pq 6), .inr (1, [.int ((u.2.2.2.1) 6), .int ((u.2.2.2.2.1) 6), .int ((u.2.2.2.2.2.1) 6), .int ((u.2.2.2.2.2.2) 6)])), ((pq 7), .inr (1, [.int ((u.2.2.2.1) 7), .int ((u.2.2.2.2.1) 7), .int ((u.2.2.2.2.2.1) 7), .int ((u.2.2.2.2.2.2) 7)]))] t) (va_A [(x_xo, .inr (7, [.ref da, .ref k_da, .int x_isKept, .ref t_ta, .ref p_pl, .ref r_tr, .ref w_ro, .ref x_ash])), (da, .inr (0, [.ref ami, .int cows, .ref aki, .ref afi, .int tasters, .ref anw, .ref apa, .int newest, .int known])), (anw, .inr (1, [.int mayBe, .int bearer, .int day, .int draw])), (apa, .inl (G 4, 8, .inr (.inr (.inr (.inr (fun k => some (pq k))))))), ((pq 0), .inr (1, [.int (pm 0), .int (pb 0), .int (pd 0), .int (pw 0)])), ((pq 1), .inr (1, [.int (pm 1), .int (pb 1), .int (pd 1), .int (pw 1)])), ((pq 2), .inr (1, [.int (pm 2), .int (pb 2), .int (pd 2), .int (pw 2)])), ((pq 3), .inr (1, [.int (pm 3), .int (pb 3), .int (pd 3), .int (pw 3)])), ((pq 4), .inr (1, [.int (pm 4), .int (pb 4), .int (pd 4), .int (pw 4)])), ((pq 5), .inr (1, [.int (pm 5), .int (pb 5), .int (pd 5), .int (pw 5)])), ((pq 6), .inr (1, [.int (pm 6), .int (pb 6), .int (pd 6), .int (pw 6)])), ((pq 7), .inr (1, [.int (pm 7), .int (pb 7), .int (pd 7), .int (pw 7)]))] sz)) 0 0 (va_A [(x_xo, .inr (7, [.ref da, .ref k_da, .int x_isKept, .ref t_ta, .ref p_pl, .ref r_tr, .ref w_ro, .ref x_ash])), (da, .inr (0, [.ref ami, .int cows, .ref aki, .ref afi, .int tasters, .ref anw, .ref apa, .int newest, .int known])), (anw, .inr (1, [.int mayBe, .int bearer, .int day, .int draw])), (apa, .inl (G 4, 8, .inr (.inr (.inr (.inr (fun k => some (pq k))))))), ((pq 0), .inr (1, [.int (pm 0), .int (pb 0), .int (pd 0), .int (pw 0)])), ((pq 1), .inr (1, [.int (pm 1), .int (pb 1), .int (pd 1), .int (pw 1)])), ((pq 2), .inr (1, [.int (pm 2), .int (pb 2), .int (pd 2), .int (pw 2)])), ((pq 3), .inr (1, [.int (pm 3), .int (pb 3), .int (pd 3), .int (pw 3)])), ((pq 4), .inr (1, [.int (pm 4), .int (pb 4), .int (pd 4), .int (pw 4)])), ((pq 5), .inr (1, [.int (pm 5), .int (pb 5), .int (pd 5), .int (pw 5)])), ((pq 6), .inr (1, [.int (pm 6), .int (pb 6), .int (pd 6), .int (pw 6)])), ((pq 7), .inr (1, [.int (pm 7), .int (pb 7), .int (pd 7), .int (pw 7)]))] sz) := by
  refine Met.ofW (cc := cX7_bear) (maxL := 3) (ret := (some .int)) (by decide) rfl ?_
  intro p e s m args below meth c s₁ B hml hv
  obtain ⟨rfl, hsz, hP, hK, hD0⟩ := hv
  have hx := B.exec
  have hb := B.bytes
  have hr := B.returns
  have hts := atoms_spec (ws := wsX7_bear) B.pre
  have hown : s.vm.findClass RX7 = some m.cls := findClass_of_methodNamed B.named
  have hlocks := B.notSynchronized
  subst hsz
  have hD := hD0.self (sz := s.heap.size)
  generalize hAe : va_A [(x_xo, .inr (7, [.ref da, .ref k_da, .int x_isKept, .ref t_ta, .ref p_pl, .ref r_tr, .ref w_ro, .ref x_ash])), (da, .inr (0, [.ref ami, .int cows, .ref aki, .ref afi, .int tasters, .ref anw, .ref apa, .int newest, .int known])), (anw, .inr (1, [.int mayBe, .int bearer, .int day, .int draw])), (apa, .inl (G 4, 8, .inr (.inr (.inr (.inr (fun k => some (pq k))))))), ((pq 0), .inr (1, [.int (pm 0), .int (pb 0), .int (pd 0), .int (pw 0)])), ((pq 1), .inr (1, [.int (pm 1), .int (pb 1), .int (pd 1), .int (pw 1)])), ((pq 2), .inr (1, [.int (pm 2), .int (pb 2), .int (pd 2), .int (pw 2)])), ((pq 3), .inr (1, [.int (pm 3), .int (pb 3), .int (pd 3), .int (pw 3)])), ((pq 4), .inr (1, [.int (pm 4), .int (pb 4), .int (pd 4), .int (pw 4)])), ((pq 5), .inr (1, [.int (pm 5), .int (pb 5), .int (pd 5), .int (pw 5)])), ((pq 6), .inr (1, [.int (pm 6), .int (pb 6), .int (pd 6), .int (pw 6)])), ((pq 7), .inr (1, [.int (pm 7), .int (pb 7), .int (pd 7), .int (pw 7)]))] s.heap.size = A at hD ⊢
  have hA : ∀ q : Nat, s.heap.size ≤ q → A q := fun q h => by rw [← hAe]; exact Or.inr h
  have hS : va_S A s.heap s.heap [] := va_S.rf
  have inX0 : ∀ w ∈ wsX00, w ∈ wsX7_bear := by decide +kernel
  have inX1 : ∀ w ∈ wsX10, w ∈ wsX7_bear := by decide +kernel
  have inX7 : ∀ w ∈ wsX70, w ∈ wsX7_bear := by decide +kernel
  have fl12 := hts (.fieldLink RX7 12 "NewsCow" "dairy" "LNewsCow$Dairy;") (by decide +kernel)
  have fl66 := hts (.fieldLink RX7 66 "NewsCow$Dairy" "now" "LNewsCow$Moment;") (by decide +kernel)
  have fl137 := hts (.fieldLink RX7 137 "NewsCow$Moment" "bearer" "I") (by decide +kernel)
  have hl := lv_entry ([.ref x_xo, .int x1] : List Value) (n := 3) (Nat.le_of_ble_eq_true rfl)
  rw [lg_entry_eq]
  generalize (lg_sl ([.ref x_xo, .int x1] : List Value) ++ List.replicate (3 - (lg_sl ([.ref x_xo, .int x1] : List Value)).length) Slot.unset).toArray = ls at hl ⊢
  have hl : lv_has ls 3 [(0, .ref x_xo), (1, .int x1)] := hl
  unfold wp_X7_bear at hw
  have J16 : ∀ (H : Heap) (locs : List Loc) (ls : Array Slot), wp_X7_bear_J16 newest known mayBe bearer day draw pm pb pd pw x1 post → va_P D vwCl [(x_xo, .inr (7, [.ref da, .ref k_da, .int x_isKept, .ref t_ta, .ref p_pl, .ref r_tr, .ref w_ro, .ref x_ash])), (da, .inr (0, [.ref ami, .int cows, .ref aki, .ref afi, .int tasters, .ref anw, .ref apa, .int newest, .int known])), (anw, .inr (1, [.int mayBe, .int bearer, .int day, .int draw])), (apa, .inl (G 4, 8, .inr (.inr (.inr (.inr (fun k => some (pq k))))))), ((pq 0), .inr (1, [.int (pm 0), .int (pb 0), .int (pd 0), .int (pw 0)])), ((pq 1), .inr (1, [.int (pm 1), .int (pb 1), .int (pd 1), .int (pw 1)])), ((pq 2), .inr (1, [.int (pm 2), .int (pb 2), .int (pd 2), .int (pw 2)])), ((pq 3), .inr (1, [.int (pm 3), .int (pb 3), .int (pd 3), .int (pw 3)])), ((pq 4), .inr (1, [.int (pm 4), .int (pb 4), .int (pd 4), .int (pw 4)])), ((pq 5), .inr (1, [.int (pm 5), .int (pb 5), .int (pd 5), .int (pw 5)])), ((pq 6), .inr (1, [.int (pm 6), .int (pb 6), .int (pd 6), .int (pw 6)])), ((pq 7), .inr (1, [.int (pm 7), .int (pb 7), .int (pd 7), .int (pw 7)]))] H → va_D A [(x_xo, .inr (7, [.ref da, .ref k_da, .int x_isKept, .ref t_ta, .ref p_pl, .ref r_tr, .ref w_ro, .ref x_ash])), (da, .inr (0, [.ref ami, .int cows, .ref aki, .ref afi, .int tasters, .ref anw, .ref apa, .int newest, .int known])), (anw, .inr (1, [.int mayBe, .int bearer, .int day, .int draw])), (apa, .inl (G 4, 8, .inr (.inr (.inr (.inr (fun k => some (pq k))))))), ((pq 0), .inr (1, [.int (pm 0), .int (pb 0), .int (pd 0), .int (pw 0)])), ((pq 1), .inr (1, [.int (pm 1), .int (pb 1), .int (pd 1), .int (pw 1)])), ((pq 2), .inr (1, [.int (pm 2), .int (pb 2), .int (pd 2), .int (pw 2)])), ((pq 3), .inr (1, [.int (pm 3), .int (pb 3), .int (pd 3), .int (pw 3)])), ((pq 4), .inr (1, [.int (pm 4), .int (pb 4), .int (pd 4), .int (pw 4)])), ((pq 5), .inr (1, [.int (pm 5), .int (pb 5), .int (pd 5), .int (pw 5)])), ((pq 6), .inr (1, [.int (pm 6), .int (pb 6), .int (pd 6), .int (pw 6)])), ((pq 7), .inr (1, [.int (pm 7), .int (pb 7), .int (pd 7), .int (pw 7)]))] → va_S A s.heap H locs → lv_has ls 3 [(0, .ref x_xo), (1, .int x1)] → W p l e (headSpec wsX7_bear ({ frames := 2, cells := 0, slots := 0, locals := 41 } : Room)).room s m ([.ref x_xo, .int x1] : List Value).toArray below meth c H locs 0 0 (MQ below (va_Qi (fun r (u : Int32 × Int32 × Int32 × (Nat → Int32) × (Nat → Int32) × (Nat → Int32) × (Nat → Int32)) => post r u.1 u.2.1 u.2.2.1 u.2.2.2.1 u.2.2.2.2.1 u.2.2.2.2.2.1 u.2.2.2.2.2.2) (fun u t => xE D G A [(x_xo, .inr (7, [.ref da, .ref k_da, .int x_isKept, .ref t_ta, .ref p_pl, .ref r_tr, .ref w_ro, .ref x_ash])), (da, .inr (0, [.ref ami, .int cows, .ref aki, .ref afi, .int tasters, .ref anw, .ref apa, .int u.1, .int u.2.1])), (anw, .inr (1, [.int mayBe, .int u.2.2.1, .int day, .int draw])), (apa, .inl (G 4, 8, .inr (.inr (.inr (.inr (fun k => some (pq k))))))), ((pq 0), .inr (1, [.int ((u.2.2.2.1) 0), .int ((u.2.2.2.2.1) 0), .int ((u.2.2.2.2.2.1) 0), .int ((u.2.2.2.2.2.2) 0)])), ((pq 1), .inr (1, [.int ((u.2.2.2.1) 1), .int ((u.2.2.2.2.1) 1), .int ((u.2.2.2.2.2.1) 1), .int ((u.2.2.2.2.2.2) 1)])), ((pq 2), .inr (1, [.int ((u.2.2.2.1) 2), .int ((u.2.2.2.2.1) 2), .int ((u.2.2.2.2.2.1) 2), .int ((u.2.2.2.2.2.2) 2)])), ((pq 3), .inr (1, [.int ((u.2.2.2.1) 3), .int ((u.2.2.2.2.1) 3), .int ((u.2.2.2.2.2.1) 3), .int ((u.2.2.2.2.2.2) 3)])), ((pq 4), .inr (1, [.int ((u.2.2.2.1) 4), .int ((u.2.2.2.2.1) 4), .int ((u.2.2.2.2.2.1) 4), .int ((u.2.2.2.2.2.2) 4)])), ((pq 5), .inr (1, [.int ((u.2.2.2.1) 5), .int ((u.2.2.2.2.1) 5), .int ((u.2.2.2.2.2.1) 5), .int ((u.2.2.2.2.2.2) 5)])), ((pq 6), .inr (1, [.int ((u.2.2.2.1) 6), .int ((u.2.2.2.2.1) 6), .int ((u.2.2.2.2.2.1) 6), .int ((u.2.2.2.2.2.2) 6)])), ((pq 7), .inr (1, [.int ((u.2.2.2.1) 7), .int ((u.2.2.2.2.1) 7), .int ((u.2.2.2.2.2.1) 7), .int ((u.2.2.2.2.2.2) 7)]))] t) A) ([.ref x_xo, .int x1] : List Value).toArray s 0 0 A) (F0 m 16 ls []) := by
    intro H locs ls hw hP hD hS hl
    unfold wp_X7_bear_J16 at hw
    refine lv_aload_n hx hb dX7_bear_16 rfl (lv_at hl 0 rfl) ?_
    refine va_get (D := D) (ci := 7) (v := .ref da) (C := RX7) (T := TX7) (N := 8) hx hb hts inX7 hown hK hP 0 rfl rfl 0 (by decide) fl12 (fun _ h9 => h9) rfl dX7_bear_17 ?_
    refine va_get (D := D) (ci := 0) (v := .ref anw) (C := RX0) (T := TX0) (N := 9) hx hb hts inX0 hown hK hP 1 rfl rfl 5 (by decide) fl66 (fun _ h9 => h9) rfl dX7_bear_20 ?_
    refine va_get (D := D) (ci := 1) (v := .int bearer) (C := RX1) (T := TX1) (N := 4) hx hb hts inX1 hown hK hP 2 rfl rfl 1 (by decide) fl137 (fun _ h9 => h9) rfl dX7_bear_23 ?_
    refine lv_istore_n (lv' := [(2, .int bearer), (0, .ref x_xo), (1, .int x1)]) hx hb dX7_bear_26 rfl hl (by decide) rfl (fun ls hl => ?_)
    refine lv_iload_n hx hb dX7_bear_27 rfl (lv_at hl 0 rfl) ?_
    refine lv_iload_n hx hb dX7_bear_28 rfl (lv_at hl 2 rfl) ?_
    refine lv_icmp_ne (tgt := 35) hx hb dX7_bear_29 (by decide) (fun c9 => ?_) (fun c9 => ?_)
    · replace hw := hw.1 c9
      refine lv_aload_n hx hb dX7_bear_35 rfl (lv_at hl 1 rfl) ?_
      refine va_get (D := D) (ci := 7) (v := .ref da) (C := RX7) (T := TX7) (N := 8) hx hb hts inX7 hown hK hP 0 rfl rfl 0 (by decide) fl12 (fun _ h9 => h9) rfl dX7_bear_36 ?_
      refine x_cMv (wr := [(x_xo, .inr (7, [.ref da, .ref k_da, .int x_isKept, .ref t_ta, .ref p_pl, .ref r_tr, .ref w_ro, .ref x_ash]))]) (va_runV (As := []) (rest := []) ⟨hx, hb, hml, hown, hts⟩ (c_X0_remember l D G _ da ami aki afi anw apa pq cows tasters newest known mayBe bearer day draw pm pb pd pw _ hw) (cwV 0 hts gX7_bear_X0_remember rfl rfl rfl (by decide +kernel) ⟨(Nat.le_of_ble_eq_true rfl), (Nat.le_of_ble_eq_true rfl)⟩) (xM_pv (hP.sub [1, 2, 3, 4, 5, 6, 7, 8, 9, 10, 11] rfl) hK (hD.sub [1, 2, 3, 4, 5, 6, 7, 8, 9, 10, 11] (by decide) rfl) (va_recv hK hP (ci := 0) (q0 := 1) rfl rfl)) rfl rfl hl.1 rfl (lv_room (Nat.le_of_ble_eq_true rfl)) dX7_bear_39 ⟨Nat.zero_le _, Nat.zero_le _⟩) hP hD hS hA [1, 2, 3, 4, 5, 6, 7, 8, 9, 10, 11] [0] rfl rfl (by decide) (by decide) [0, 1, 2, 3, 4, 5, 6, 7, 8, 9, 10, 11] (fun u => [(x_xo, .inr (7, [.ref da, .ref k_da, .int x_isKept, .ref t_ta, .ref p_pl, .ref r_tr, .ref w_ro, .ref x_ash])), (da, .inr (0, [.ref ami, .int cows, .ref aki, .ref afi, .int tasters, .ref anw, .ref apa, .int u.1, .int u.2.1])), (anw, .inr (1, [.int mayBe, .int bearer, .int day, .int draw])), (apa, .inl (G 4, 8, .inr (.inr (.inr (.inr (fun k => some (pq k))))))), ((pq 0), .inr (1, [.int ((u.2.2.1) 0), .int ((u.2.2.2.1) 0), .int ((u.2.2.2.2.1) 0), .int ((u.2.2.2.2.2) 0)])), ((pq 1), .inr (1, [.int ((u.2.2.1) 1), .int ((u.2.2.2.1) 1), .int ((u.2.2.2.2.1) 1), .int ((u.2.2.2.2.2) 1)])), ((pq 2), .inr (1, [.int ((u.2.2.1) 2), .int ((u.2.2.2.1) 2), .int ((u.2.2.2.2.1) 2), .int ((u.2.2.2.2.2) 2)])), ((pq 3), .inr (1, [.int ((u.2.2.1) 3), .int ((u.2.2.2.1) 3), .int ((u.2.2.2.2.1) 3), .int ((u.2.2.2.2.2) 3)])), ((pq 4), .inr (1, [.int ((u.2.2.1) 4), .int ((u.2.2.2.1) 4), .int ((u.2.2.2.2.1) 4), .int ((u.2.2.2.2.2) 4)])), ((pq 5), .inr (1, [.int ((u.2.2.1) 5), .int ((u.2.2.2.1) 5), .int ((u.2.2.2.2.1) 5), .int ((u.2.2.2.2.2) 5)])), ((pq 6), .inr (1, [.int ((u.2.2.1) 6), .int ((u.2.2.2.1) 6), .int ((u.2.2.2.2.1) 6), .int ((u.2.2.2.2.2) 6)])), ((pq 7), .inr (1, [.int ((u.2.2.1) 7), .int ((u.2.2.2.1) 7), .int ((u.2.2.2.2.1) 7), .int ((u.2.2.2.2.2) 7)]))]) (by decide) (fun u => rfl) (fun u H locs hw hP hD hS => ?_)
      obtain ⟨newest_2, known_2, pm_2, pb_2, pd_2, pw_2⟩ := u
      try dsimp only at hw
      replace hP : va_P D vwCl [(x_xo, .inr (7, [.ref da, .ref k_da, .int x_isKept, .ref t_ta, .ref p_pl, .ref r_tr, .ref w_ro, .ref x_ash])), (da, .inr (0, [.ref ami, .int cows, .ref aki, .ref afi, .int tasters, .ref anw, .ref apa, .int newest_2, .int known_2])), (anw, .inr (1, [.int mayBe, .int bearer, .int day, .int draw])), (apa, .inl (G 4, 8, .inr (.inr (.inr (.inr (fun k => some (pq k))))))), ((pq 0), .inr (1, [.int (pm_2 0), .int (pb_2 0), .int (pd_2 0), .int (pw_2 0)])), ((pq 1), .inr (1, [.int (pm_2 1), .int (pb_2 1), .int (pd_2 1), .int (pw_2 1)])), ((pq 2), .inr (1, [.int (pm_2 2), .int (pb_2 2), .int (pd_2 2), .int (pw_2 2)])), ((pq 3), .inr (1, [.int (pm_2 3), .int (pb_2 3), .int (pd_2 3), .int (pw_2 3)])), ((pq 4), .inr (1, [.int (pm_2 4), .int (pb_2 4), .int (pd_2 4), .int (pw_2 4)])), ((pq 5), .inr (1, [.int (pm_2 5), .int (pb_2 5), .int (pd_2 5), .int (pw_2 5)])), ((pq 6), .inr (1, [.int (pm_2 6), .int (pb_2 6), .int (pd_2 6), .int (pw_2 6)])), ((pq 7), .inr (1, [.int (pm_2 7), .int (pb_2 7), .int (pd_2 7), .int (pw_2 7)]))] H := hP
      replace hD : va_D A [(x_xo, .inr (7, [.ref da, .ref k_da, .int x_isKept, .ref t_ta, .ref p_pl, .ref r_tr, .ref w_ro, .ref x_ash])), (da, .inr (0, [.ref ami, .int cows, .ref aki, .ref afi, .int tasters, .ref anw, .ref apa, .int newest_2, .int known_2])), (anw, .inr (1, [.int mayBe, .int bearer, .int day, .int draw])), (apa, .inl (G 4, 8, .inr (.inr (.inr (.inr (fun k => some (pq k))))))), ((pq 0), .inr (1, [.int (pm_2 0), .int (pb_2 0), .int (pd_2 0), .int (pw_2 0)])), ((pq 1), .inr (1, [.int (pm_2 1), .int (pb_2 1), .int (pd_2 1), .int (pw_2 1)])), ((pq 2), .inr (1, [.int (pm_2 2), .int (pb_2 2), .int (pd_2 2), .int (pw_2 2)])), ((pq 3), .inr (1, [.int (pm_2 3), .int (pb_2 3), .int (pd_2 3), .int (pw_2 3)])), ((pq 4), .inr (1, [.int (pm_2 4), .int (pb_2 4), .int (pd_2 4), .int (pw_2 4)])), ((pq 5), .inr (1, [.int (pm_2 5), .int (pb_2 5), .int (pd_2 5), .int (pw_2 5)])), ((pq 6), .inr (1, [.int (pm_2 6), .int (pb_2 6), .int (pd_2 6), .int (pw_2 6)])), ((pq 7), .inr (1, [.int (pm_2 7), .int (pb_2 7), .int (pd_2 7), .int (pw_2 7)]))] := hD
      refine lv_aload_n hx hb dX7_bear_42 rfl (lv_at hl 1 rfl) ?_
      refine va_get (D := D) (ci := 7) (v := .ref da) (C := RX7) (T := TX7) (N := 8) hx hb hts inX7 hown hK hP 0 rfl rfl 0 (by decide) fl12 (fun _ h9 => h9) rfl dX7_bear_43 ?_
      refine va_get (D := D) (ci := 0) (v := .ref anw) (C := RX0) (T := TX0) (N := 9) hx hb hts inX0 hown hK hP 1 rfl rfl 5 (by decide) fl66 (fun _ h9 => h9) rfl dX7_bear_46 ?_
      refine lv_iload_n hx hb dX7_bear_49 rfl (lv_at hl 2 rfl) ?_
      refine va_put (D := D) (ci := 1) (v := .int x1) (ty := .int) (C := RX1) (T := TX1) (N := 4) hx hb hts inX1 tyX1 tyX1_ok nmX1 hown hK hP hD hS 2 rfl rfl 1 (by decide) fl137 (fun _ h9 => h9) rfl (by decide +kernel) rfl rfl (Nat.le_of_ble_eq_true rfl) dX7_bear_50 (fun H locs hP hD hS => ?_)
      replace hP : va_P D vwCl [(x_xo, .inr (7, [.ref da, .ref k_da, .int x_isKept, .ref t_ta, .ref p_pl, .ref r_tr, .ref w_ro, .ref x_ash])), (da, .inr (0, [.ref ami, .int cows, .ref aki, .ref afi, .int tasters, .ref anw, .ref apa, .int newest_2, .int known_2])), (anw, .inr (1, [.int mayBe, .int x1, .int day, .int draw])), (apa, .inl (G 4, 8, .inr (.inr (.inr (.inr (fun k => some (pq k))))))), ((pq 0), .inr (1, [.int (pm_2 0), .int (pb_2 0), .int (pd_2 0), .int (pw_2 0)])), ((pq 1), .inr (1, [.int (pm_2 1), .int (pb_2 1), .int (pd_2 1), .int (pw_2 1)])), ((pq 2), .inr (1, [.int (pm_2 2), .int (pb_2 2), .int (pd_2 2), .int (pw_2 2)])), ((pq 3), .inr (1, [.int (pm_2 3), .int (pb_2 3), .int (pd_2 3), .int (pw_2 3)])), ((pq 4), .inr (1, [.int (pm_2 4), .int (pb_2 4), .int (pd_2 4), .int (pw_2 4)])), ((pq 5), .inr (1, [.int (pm_2 5), .int (pb_2 5), .int (pd_2 5), .int (pw_2 5)])), ((pq 6), .inr (1, [.int (pm_2 6), .int (pb_2 6), .int (pd_2 6), .int (pw_2 6)])), ((pq 7), .inr (1, [.int (pm_2 7), .int (pb_2 7), .int (pd_2 7), .int (pw_2 7)]))] H := hP
      replace hD : va_D A [(x_xo, .inr (7, [.ref da, .ref k_da, .int x_isKept, .ref t_ta, .ref p_pl, .ref r_tr, .ref w_ro, .ref x_ash])), (da, .inr (0, [.ref ami, .int cows, .ref aki, .ref afi, .int tasters, .ref anw, .ref apa, .int newest_2, .int known_2])), (anw, .inr (1, [.int mayBe, .int x1, .int day, .int draw])), (apa, .inl (G 4, 8, .inr (.inr (.inr (.inr (fun k => some (pq k))))))), ((pq 0), .inr (1, [.int (pm_2 0), .int (pb_2 0), .int (pd_2 0), .int (pw_2 0)])), ((pq 1), .inr (1, [.int (pm_2 1), .int (pb_2 1), .int (pd_2 1), .int (pw_2 1)])), ((pq 2), .inr (1, [.int (pm_2 2), .int (pb_2 2), .int (pd_2 2), .int (pw_2 2)])), ((pq 3), .inr (1, [.int (pm_2 3), .int (pb_2 3), .int (pd_2 3), .int (pw_2 3)])), ((pq 4), .inr (1, [.int (pm_2 4), .int (pb_2 4), .int (pd_2 4), .int (pw_2 4)])), ((pq 5), .inr (1, [.int (pm_2 5), .int (pb_2 5), .int (pd_2 5), .int (pw_2 5)])), ((pq 6), .inr (1, [.int (pm_2 6), .int (pb_2 6), .int (pd_2 6), .int (pw_2 6)])), ((pq 7), .inr (1, [.int (pm_2 7), .int (pb_2 7), .int (pd_2 7), .int (pw_2 7)]))] := hD
      refine lv_iload_n hx hb dX7_bear_53 rfl (lv_at hl 0 rfl) ?_
      exact W.iret hx hb hr (x_mi (u := (newest_2, known_2, x1, pm_2, pb_2, pd_2, pw_2)) hP hK hD hS hw) hS.2.2 dX7_bear_54
    · replace hw := hw.2 c9
      refine lv_bipush (v := -2) hx hb dX7_bear_32 (by decide) ?_
      exact W.iret hx hb hr (x_mi (u := (newest, known, bearer, pm, pb, pd, pw)) hP hK hD hS hw) hS.2.2 dX7_bear_34
  refine lv_iload_n hx hb dX7_bear_0 rfl (lv_at hl 1 rfl) ?_
  refine lv_bipush (v := -4) hx hb dX7_bear_1 (by decide) ?_
  refine lv_icmp_eq (tgt := 16) hx hb dX7_bear_3 (by decide) (fun c9 => ?_) (fun c9 => ?_)
  · replace hw := hw.1 c9
    exact J16  _ _ _ hw hP hD hS (lv_sub hl [0, 1] rfl)
  · replace hw := hw.2 c9
    refine lv_aload_n hx hb dX7_bear_6 rfl (lv_at hl 0 rfl) ?_
    refine lv_iload_n hx hb dX7_bear_7 rfl (lv_at hl 1 rfl) ?_
    refine vp_callSi (W.runV (As := [.int x1]) (rest := []) ⟨hx, hb, hml, hown, hts⟩ (c_X7_isCow l D G x_xo da k_da t_ta p_pl r_tr w_ro x_ash ami aki afi anw apa x_isKept cows tasters newest known x1 _ hw) (cwV 1 hts gX7_bear_X7_isCow rfl rfl rfl (by decide +kernel) ⟨(Nat.le_of_ble_eq_true rfl), (Nat.le_of_ble_eq_true rfl)⟩) (xR_pv (hP.sub [0, 1] rfl) hK (va_recv hK hP (ci := 7) (q0 := 0) rfl rfl)) rfl rfl hl.1 rfl (lv_room (Nat.le_of_ble_eq_true rfl)) dX7_bear_8 ⟨Nat.zero_le _, Nat.zero_le _⟩) (fun r1 hw => ?_)
    refine lv_if_ne (tgt := 16) hx hb dX7_bear_11 (by decide) (fun c9 => ?_) (fun c9 => ?_)
    · replace hw := hw.1 c9
      exact J16  _ _ _ hw hP hD hS (lv_sub hl [0, 1] rfl)
    · replace hw := hw.2 c9
      refine lv_iconst (v := -1) hx hb dX7_bear_14 (by decide) ?_
      exact W.iret hx hb hr (x_mi (u := (newest, known, bearer, pm, pb, pd, pw)) hP hK hD hS hw) hS.2.2 dX7_bear_15
set_option maxHeartbeats 4000000 in
set_option maxRecDepth 100000 in
theorem c_X7_drift (l : Launch) (D : va_G) (G : Nat → ClassId) (sz : Nat) (x_xo : Nat) (da : Nat) (k_da : Nat) (t_ta : Nat) (p_pl : Nat) (r_tr : Nat) (w_ro : Nat) (x_ash : Nat) (ami : Nat) (aki : Nat) (afi : Nat) (anw : Nat) (apa : Nat) (pq : Nat → Nat) (x_isKept : Int32) (cows : Int32) (tasters : Int32) (newest : Int32) (known : Int32) (milks : Nat → Int32) (kinds : Nat → Int32) (fines : Nat → Int32) (mayBe : Int32) (bearer : Int32) (day : Int32) (draw : Int32) (pm : Nat → Int32) (pb : Nat → Int32) (pd : Nat → Int32) (pw : Nat → Int32) (x1 : Int32) (post : Int32 → Int32 → Int32 → Int32 → Int32 → Int32 → (Nat → Int32) → (Nat → Int32) → (Nat → Int32) → (Nat → Int32) → Prop) (hw : wp_X7_drift cows tasters newest known milks kinds fines mayBe bearer day draw pm pb pd pw x1 post) : Met l yX7_drift wsX7_drift ({ frames := 6, cells := 0, slots := 0, locals := 138 } : Room) (va_Pc [.ref x_xo, .int x1] (xM D G sz [(x_xo, .inr (7, [.ref da, .ref k_da, .int x_isKept, .ref t_ta, .ref p_pl, .ref r_tr, .ref w_ro, .ref x_ash])), (da, .inr (0, [.ref ami, .int cows, .ref aki, .ref afi, .int tasters, .ref anw, .ref apa, .int newest, .int known])), (ami, .inl (G 0, 8, .inl milks)), (aki, .inl (G 0, 4, .inl kinds)), (afi, .inl (G 0, 4, .inl fines)), (anw, .inr (1, [.int mayBe, .int bearer, .int day, .int draw])), (apa, .inl (G 4, 8, .inr (.inr (.inr (.inr (fun k => some (pq k))))))), ((pq 0), .inr (1, [.int (pm 0), .int (pb 0), .int (pd 0), .int (pw 0)])), ((pq 1), .inr (1, [.int (pm 1), .int (pb 1), .int (pd 1), .int (pw 1)])), ((pq 2), .inr (1, [.int (pm 2), .int (pb 2), .int (pd 2), .int (pw 2)])), ((pq 3), .inr (1, [.int (pm 3), .int (pb 3), .int (pd 3), .int (pw 3)])), ((pq 4), .inr (1, [.int (pm 4), .int (pb 4), .int (pd 4), .int (pw 4)])), ((pq 5), .inr (1, [.int (pm 5), .int (pb 5), .int (pd 5), .int (pw 5)])), ((pq 6), .inr (1, [.int (pm 6), .int (pb 6), .int (pd 6), .int (pw 6)])), ((pq 7), .inr (1, [.int (pm 7), .int (pb 7), .int (pd 7), .int (pw 7)]))])) (va_Qi (fun r (u : Int32 × Int32 × Int32 × Int32 × Int32 × (Nat → Int32) × (Nat → Int32) × (Nat → Int32) × (Nat → Int32)) => post r u.1 u.2.1 u.2.2.1 u.2.2.2.1 u.2.2.2.2.1 u.2.2.2.2.2.1 u.2.2.2.2.2.2.1 u.2.2.2.2.2.2.2.1 u.2.2.2.2.2.2.2.2) (fun u t => xE D G (va_A [(x_xo, .inr (7, [.ref da, .ref k_da, .int x_isKept, .ref t_ta, .ref p_pl, .ref r_tr, .ref w_ro, .ref x_ash])), (da, .inr (0, [.ref ami, .int cows, .ref aki, .ref afi, .int tasters, .ref anw, .ref apa, .int newest, .int known])), (ami, .inl (G 0, 8, .inl milks)), (aki, .inl (G 0, 4, .inl kinds)), (afi, .inl (G 0, 4, .inl fines)), (anw, .inr (1, [.int mayBe, .int bearer, .int day, .int draw])), (apa, .inl (G 4, 8, .inr (.inr (.inr (.inr (fun k => some (pq k))))))), ((pq 0), .inr (1, [.int (pm 0), .int (pb 0), .int (pd 0), .int (pw 0)])), ((pq 1), .inr (1, [.int (pm 1), .int (pb 1), .int (pd 1), .int (pw 1)])), ((pq 2), .inr (1, [.int (pm 2), .int (pb 2), .int (pd 2), .int (pw 2)])), ((pq 3), .inr (1, [.int (pm 3), .int (pb 3), .int (pd 3), .int (pw 3)])), ((pq 4), .inr (1, [.int (pm 4), .int (pb 4), .int (pd 4), .int (pw 4)])), ((pq 5), .inr (1, [.int (pm 5), .int (pb 5), .int (pd 5), .int (pw 5)])), ((pq 6), .inr (1, [.int (pm 6), .int (pb 6), .int (pd 6), .int (pw 6)])), ((pq 7), .inr (1, [.int (pm 7), .int (pb 7), .int (pd 7), .int (pw 7)]))] sz) [(x_xo, .inr (7, [.ref da, .ref k_da, .int x_isKept, .ref t_ta, .ref p_pl, .ref r_tr, .ref w_ro, .ref x_ash])), (da, .inr (0, [.ref ami, .int cows, .ref aki, .ref afi, .int tasters, .ref anw, .ref apa, .int u.1, .int u.2.1])), (ami, .inl (G 0, 8, .inl milks)), (aki, .inl (G 0, 4, .inl kinds)), (afi, .inl (G 0, 4, .inl fines)), (anw, .inr (1, [.int u.2.2.1, .int bearer, .int u.2.2.2.1, .int u.2.2.2.2.1])), (apa, .inl (G 4, 8, .inr (.inr (.inr (.inr (fun k => some (pq k))))))), ((pq 0), .inr (1, [.int ((u.2.2.2.2.2.1) 0), .int ((u.2.2.2.2.2.2.1) 0), .int ((u.2.2.2.2.2.2.2.1) 0), .int ((u.2.2.2.2.2.2.2.2) 0)])), ((pq 1), .inr (1, [.int ((u.2.2.2.2.2.1) 1), .int ((u.2.2.2.2.2.2.1) 1), .int ((u.2.2.2.2.2.2.2.1) 1), .int ((u.2.2.2.2.2.2.2.2) 1)])), ((pq 2), .inr (1, [.int ((u.2.2.2.2.2.1) 2), .int ((u.2.2.2.2.2.2.1) 2), .int ((u.2.2.2.2.2.2.2.1) 2), .int ((u.2.2.2.2.2.2.2.2) 2)])), ((pq 3), .inr (1, [.int ((u.2.2.2.2.2.1) 3), .int ((u.2.2.2.2.2.2.1) 3), .int ((u.2.2.2.2.2.2.2.1) 3), .int ((u.2.2.2.2.2.2.2.2) 3)])), ((pq 4), .inr (1, [.int ((u.2.2.2.2.2.1) 4), .int ((u.2.2.2.2.2.2.1) 4), .int ((u.2.2.2.2.2.2.2.1) 4), .int ((u.2.2.2.2.2.2.2.2) 4)])), ((pq 5), .inr (1, [.int ((u.2.2.2.2.2.1) 5), .int ((u.2.2.2.2.2.2.1) 5), .int ((u.2.2.2.2.2.2.2.1) 5), .int ((u.2.2.2.2.2.2.2.2) 5)])), ((pq 6), .inr (1, [.int ((u.2.2.2.2.2.1) 6), .int ((u.2.2.2.2.2.2.1) 6), .int ((u.2.2.2.2.2.2.2.1) 6), .int ((u.2.2.2.2.2.2.2.2) 6)])), ((pq 7), .inr (1, [.int ((u.2.2.2.2.2.1) 7), .int ((u.2.2.2.2.2.2.1) 7), .int ((u.2.2.2.2.2.2.2.1) 7), .int ((u.2.2.2.2.2.2.2.2) 7)]))] t) (va_A [(x_xo, .inr (7, [.ref da, .ref k_da, .int x_isKept, .ref t_ta, .ref p_pl, .ref r_tr, .ref w_ro, .ref x_ash])), (da, .inr (0, [.ref ami, .int cows, .ref aki, .ref afi, .int tasters, .ref anw, .ref apa, .int newest, .int known])), (ami, .inl (G 0, 8, .inl milks)), (aki, .inl (G 0, 4, .inl kinds)), (afi, .inl (G 0, 4, .inl fines)), (anw, .inr (1, [.int mayBe, .int bearer, .int day, .int draw])), (apa, .inl (G 4, 8, .inr (.inr (.inr (.inr (fun k => some (pq k))))))), ((pq 0), .inr (1, [.int (pm 0), .int (pb 0), .int (pd 0), .int (pw 0)])), ((pq 1), .inr (1, [.int (pm 1), .int (pb 1), .int (pd 1), .int (pw 1)])), ((pq 2), .inr (1, [.int (pm 2), .int (pb 2), .int (pd 2), .int (pw 2)])), ((pq 3), .inr (1, [.int (pm 3), .int (pb 3), .int (pd 3), .int (pw 3)])), ((pq 4), .inr (1, [.int (pm 4), .int (pb 4), .int (pd 4), .int (pw 4)])), ((pq 5), .inr (1, [.int (pm 5), .int (pb 5), .int (pd 5), .int (pw 5)])), ((pq 6), .inr (1, [.int (pm 6), .int (pb 6), .int (pd 6), .int (pw 6)])), ((pq 7), .inr (1, [.int (pm 7), .int (pb 7), .int (pd 7), .int (pw 7)]))] sz)) 0 0 (va_A [(x_xo, .inr (7, [.ref da, .ref k_da, .int x_isKept, .ref t_ta, .ref p_pl, .ref r_tr, .ref w_ro, .ref x_ash])), (da, .inr (0, [.ref ami, .int cows, .ref aki, .ref afi, .int tasters, .ref anw, .ref apa, .int newest, .int known])), (ami, .inl (G 0, 8, .inl milks)), (aki, .inl (G 0, 4, .inl kinds)), (afi, .inl (G 0, 4, .inl fines)), (anw, .inr (1, [.int mayBe, .int bearer, .int day, .int draw])), (apa, .inl (G 4, 8, .inr (.inr (.inr (.inr (fun k => some (pq k))))))), ((pq 0), .inr (1, [.int (pm 0), .int (pb 0), .int (pd 0), .int (pw 0)])), ((pq 1), .inr (1, [.int (pm 1), .int (pb 1), .int (pd 1), .int (pw 1)])), ((pq 2), .inr (1, [.int (pm 2), .int (pb 2), .int (pd 2), .int (pw 2)])), ((pq 3), .inr (1, [.int (pm 3), .int (pb 3), .int (pd 3), .int (pw 3)])), ((pq 4), .inr (1, [.int (pm 4), .int (pb 4), .int (pd 4), .int (pw 4)])), ((pq 5), .inr (1, [.int (pm 5), .int (pb 5), .int (pd 5), .int (pw 5)])), ((pq 6), .inr (1, [.int (pm 6), .int (pb 6), .int (pd 6), .int (pw 6)])), ((pq 7), .inr (1, [.int (pm 7), .int (pb 7), .int (pd 7), .int (pw 7)]))] sz) := by
  refine Met.ofW (cc := cX7_drift) (maxL := 3) (ret := (some .int)) (by decide) rfl ?_
  intro p e s m args below meth c s₁ B hml hv
  obtain ⟨rfl, hsz, hP, hK, hD0⟩ := hv
  have hx := B.exec
  have hb := B.bytes
  have hr := B.returns
  have hts := atoms_spec (ws := wsX7_drift) B.pre
  have hown : s.vm.findClass RX7 = some m.cls := findClass_of_methodNamed B.named
  have hlocks := B.notSynchronized
  subst hsz
  have hD := hD0.self (sz := s.heap.size)
  generalize hAe : va_A [(x_xo, .inr (7, [.ref da, .ref k_da, .int x_isKept, .ref t_ta, .ref p_pl, .ref r_tr, .ref w_ro, .ref x_ash])), (da, .inr (0, [.ref ami, .int cows, .ref aki, .ref afi, .int tasters, .ref anw, .ref apa, .int newest, .int known])), (ami, .inl (G 0, 8, .inl milks)), (aki, .inl (G 0, 4, .inl kinds)), (afi, .inl (G 0, 4, .inl fines)), (anw, .inr (1, [.int mayBe, .int bearer, .int day, .int draw])), (apa, .inl (G 4, 8, .inr (.inr (.inr (.inr (fun k => some (pq k))))))), ((pq 0), .inr (1, [.int (pm 0), .int (pb 0), .int (pd 0), .int (pw 0)])), ((pq 1), .inr (1, [.int (pm 1), .int (pb 1), .int (pd 1), .int (pw 1)])), ((pq 2), .inr (1, [.int (pm 2), .int (pb 2), .int (pd 2), .int (pw 2)])), ((pq 3), .inr (1, [.int (pm 3), .int (pb 3), .int (pd 3), .int (pw 3)])), ((pq 4), .inr (1, [.int (pm 4), .int (pb 4), .int (pd 4), .int (pw 4)])), ((pq 5), .inr (1, [.int (pm 5), .int (pb 5), .int (pd 5), .int (pw 5)])), ((pq 6), .inr (1, [.int (pm 6), .int (pb 6), .int (pd 6), .int (pw 6)])), ((pq 7), .inr (1, [.int (pm 7), .int (pb 7), .int (pd 7), .int (pw 7)]))] s.heap.size = A at hD ⊢
  have hA : ∀ q : Nat, s.heap.size ≤ q → A q := fun q h => by rw [← hAe]; exact Or.inr h
  have hS : va_S A s.heap s.heap [] := va_S.rf
  have inX0 : ∀ w ∈ wsX00, w ∈ wsX7_drift := by decide +kernel
  have inX1 : ∀ w ∈ wsX10, w ∈ wsX7_drift := by decide +kernel
  have inX7 : ∀ w ∈ wsX70, w ∈ wsX7_drift := by decide +kernel
  have fl12 := hts (.fieldLink RX7 12 "NewsCow" "dairy" "LNewsCow$Dairy;") (by decide +kernel)
  have fl66 := hts (.fieldLink RX7 66 "NewsCow$Dairy" "now" "LNewsCow$Moment;") (by decide +kernel)
  have fl134 := hts (.fieldLink RX7 134 "NewsCow$Moment" "day" "I") (by decide +kernel)
  have fl74 := hts (.fieldLink RX7 74 "NewsCow$Moment" "mayBe" "I") (by decide +kernel)
  have hl := lv_entry ([.ref x_xo, .int x1] : List Value) (n := 3) (Nat.le_of_ble_eq_true rfl)
  rw [lg_entry_eq]
  generalize (lg_sl ([.ref x_xo, .int x1] : List Value) ++ List.replicate (3 - (lg_sl ([.ref x_xo, .int x1] : List Value)).length) Slot.unset).toArray = ls at hl ⊢
  have hl : lv_has ls 3 [(0, .ref x_xo), (1, .int x1)] := hl
  unfold wp_X7_drift at hw
  have L36 : ∀ (f36 : Nat) (x2 : Int32) (newest : Int32) (known : Int32) (mayBe : Int32) (day : Int32) (draw : Int32) (pm : Nat → Int32) (pb : Nat → Int32) (pd : Nat → Int32) (pw : Nat → Int32) (H : Heap) (locs : List Loc) (ls : Array Slot), wp_X7_drift_L36 cows tasters milks kinds fines bearer x1 post f36 newest known mayBe day draw pm pb pd pw x2 → va_P D vwCl [(x_xo, .inr (7, [.ref da, .ref k_da, .int x_isKept, .ref t_ta, .ref p_pl, .ref r_tr, .ref w_ro, .ref x_ash])), (da, .inr (0, [.ref ami, .int cows, .ref aki, .ref afi, .int tasters, .ref anw, .ref apa, .int newest, .int known])), (ami, .inl (G 0, 8, .inl milks)), (aki, .inl (G 0, 4, .inl kinds)), (afi, .inl (G 0, 4, .inl fines)), (anw, .inr (1, [.int mayBe, .int bearer, .int day, .int draw])), (apa, .inl (G 4, 8, .inr (.inr (.inr (.inr (fun k => some (pq k))))))), ((pq 0), .inr (1, [.int (pm 0), .int (pb 0), .int (pd 0), .int (pw 0)])), ((pq 1), .inr (1, [.int (pm 1), .int (pb 1), .int (pd 1), .int (pw 1)])), ((pq 2), .inr (1, [.int (pm 2), .int (pb 2), .int (pd 2), .int (pw 2)])), ((pq 3), .inr (1, [.int (pm 3), .int (pb 3), .int (pd 3), .int (pw 3)])), ((pq 4), .inr (1, [.int (pm 4), .int (pb 4), .int (pd 4), .int (pw 4)])), ((pq 5), .inr (1, [.int (pm 5), .int (pb 5), .int (pd 5), .int (pw 5)])), ((pq 6), .inr (1, [.int (pm 6), .int (pb 6), .int (pd 6), .int (pw 6)])), ((pq 7), .inr (1, [.int (pm 7), .int (pb 7), .int (pd 7), .int (pw 7)]))] H → va_D A [(x_xo, .inr (7, [.ref da, .ref k_da, .int x_isKept, .ref t_ta, .ref p_pl, .ref r_tr, .ref w_ro, .ref x_ash])), (da, .inr (0, [.ref ami, .int cows, .ref aki, .ref afi, .int tasters, .ref anw, .ref apa, .int newest, .int known])), (ami, .inl (G 0, 8, .inl milks)), (aki, .inl (G 0, 4, .inl kinds)), (afi, .inl (G 0, 4, .inl fines)), (anw, .inr (1, [.int mayBe, .int bearer, .int day, .int draw])), (apa, .inl (G 4, 8, .inr (.inr (.inr (.inr (fun k => some (pq k))))))), ((pq 0), .inr (1, [.int (pm 0), .int (pb 0), .int (pd 0), .int (pw 0)])), ((pq 1), .inr (1, [.int (pm 1), .int (pb 1), .int (pd 1), .int (pw 1)])), ((pq 2), .inr (1, [.int (pm 2), .int (pb 2), .int (pd 2), .int (pw 2)])), ((pq 3), .inr (1, [.int (pm 3), .int (pb 3), .int (pd 3), .int (pw 3)])), ((pq 4), .inr (1, [.int (pm 4), .int (pb 4), .int (pd 4), .int (pw 4)])), ((pq 5), .inr (1, [.int (pm 5), .int (pb 5), .int (pd 5), .int (pw 5)])), ((pq 6), .inr (1, [.int (pm 6), .int (pb 6), .int (pd 6), .int (pw 6)])), ((pq 7), .inr (1, [.int (pm 7), .int (pb 7), .int (pd 7), .int (pw 7)]))] → va_S A s.heap H locs → lv_has ls 3 [(0, .ref x_xo), (1, .int x1), (2, .int x2)] → W p l e (headSpec wsX7_drift ({ frames := 6, cells := 0, slots := 0, locals := 138 } : Room)).room s m ([.ref x_xo, .int x1] : List Value).toArray below meth c H locs 0 0 (MQ below (va_Qi (fun r (u : Int32 × Int32 × Int32 × Int32 × Int32 × (Nat → Int32) × (Nat → Int32) × (Nat → Int32) × (Nat → Int32)) => post r u.1 u.2.1 u.2.2.1 u.2.2.2.1 u.2.2.2.2.1 u.2.2.2.2.2.1 u.2.2.2.2.2.2.1 u.2.2.2.2.2.2.2.1 u.2.2.2.2.2.2.2.2) (fun u t => xE D G A [(x_xo, .inr (7, [.ref da, .ref k_da, .int x_isKept, .ref t_ta, .ref p_pl, .ref r_tr, .ref w_ro, .ref x_ash])), (da, .inr (0, [.ref ami, .int cows, .ref aki, .ref afi, .int tasters, .ref anw, .ref apa, .int u.1, .int u.2.1])), (ami, .inl (G 0, 8, .inl milks)), (aki, .inl (G 0, 4, .inl kinds)), (afi, .inl (G 0, 4, .inl fines)), (anw, .inr (1, [.int u.2.2.1, .int bearer, .int u.2.2.2.1, .int u.2.2.2.2.1])), (apa, .inl (G 4, 8, .inr (.inr (.inr (.inr (fun k => some (pq k))))))), ((pq 0), .inr (1, [.int ((u.2.2.2.2.2.1) 0), .int ((u.2.2.2.2.2.2.1) 0), .int ((u.2.2.2.2.2.2.2.1) 0), .int ((u.2.2.2.2.2.2.2.2) 0)])), ((pq 1), .inr (1, [.int ((u.2.2.2.2.2.1) 1), .int ((u.2.2.2.2.2.2.1) 1), .int ((u.2.2.2.2.2.2.2.1) 1), .int ((u.2.2.2.2.2.2.2.2) 1)])), ((pq 2), .inr (1, [.int ((u.2.2.2.2.2.1) 2), .int ((u.2.2.2.2.2.2.1) 2), .int ((u.2.2.2.2.2.2.2.1) 2), .int ((u.2.2.2.2.2.2.2.2) 2)])), ((pq 3), .inr (1, [.int ((u.2.2.2.2.2.1) 3), .int ((u.2.2.2.2.2.2.1) 3), .int ((u.2.2.2.2.2.2.2.1) 3), .int ((u.2.2.2.2.2.2.2.2) 3)])), ((pq 4), .inr (1, [.int ((u.2.2.2.2.2.1) 4), .int ((u.2.2.2.2.2.2.1) 4), .int ((u.2.2.2.2.2.2.2.1) 4), .int ((u.2.2.2.2.2.2.2.2) 4)])), ((pq 5), .inr (1, [.int ((u.2.2.2.2.2.1) 5), .int ((u.2.2.2.2.2.2.1) 5), .int ((u.2.2.2.2.2.2.2.1) 5), .int ((u.2.2.2.2.2.2.2.2) 5)])), ((pq 6), .inr (1, [.int ((u.2.2.2.2.2.1) 6), .int ((u.2.2.2.2.2.2.1) 6), .int ((u.2.2.2.2.2.2.2.1) 6), .int ((u.2.2.2.2.2.2.2.2) 6)])), ((pq 7), .inr (1, [.int ((u.2.2.2.2.2.1) 7), .int ((u.2.2.2.2.2.2.1) 7), .int ((u.2.2.2.2.2.2.2.1) 7), .int ((u.2.2.2.2.2.2.2.2) 7)]))] t) A) ([.ref x_xo, .int x1] : List Value).toArray s 0 0 A) (F0 m 36 ls []) := by
    intro f36
    induction f36 with
    | zero => intro x2 newest known mayBe day draw pm pb pd pw H locs ls hw hP hD hS hl; exact (hw : False).elim
    | succ f36 ih36 =>
      intro x2 newest known mayBe day draw pm pb pd pw H locs ls hw hP hD hS hl
      unfold wp_X7_drift_L36 at hw
      refine lv_iload_n hx hb dX7_drift_36 rfl (lv_at hl 2 rfl) ?_
      refine lv_iload_n hx hb dX7_drift_37 rfl (lv_at hl 1 rfl) ?_
      refine lv_icmp_ge (tgt := 54) hx hb dX7_drift_38 (by decide) (fun c9 => ?_) (fun c9 => ?_)
      · replace hw := hw.1 c9
        refine lv_aload_n hx hb dX7_drift_54 rfl (lv_at hl 0 rfl) ?_
        refine va_get (D := D) (ci := 7) (v := .ref da) (C := RX7) (T := TX7) (N := 8) hx hb hts inX7 hown hK hP 0 rfl rfl 0 (by decide) fl12 (fun _ h9 => h9) rfl dX7_drift_55 ?_
        refine va_get (D := D) (ci := 0) (v := .ref anw) (C := RX0) (T := TX0) (N := 9) hx hb hts inX0 hown hK hP 1 rfl rfl 5 (by decide) fl66 (fun _ h9 => h9) rfl dX7_drift_58 ?_
        refine va_get (D := D) (ci := 1) (v := .int mayBe) (C := RX1) (T := TX1) (N := 4) hx hb hts inX1 hown hK hP 5 rfl rfl 0 (by decide) fl74 (fun _ h9 => h9) rfl dX7_drift_61 ?_
        exact W.iret hx hb hr (x_mi (u := (newest, known, mayBe, day, draw, pm, pb, pd, pw)) hP hK hD hS hw) hS.2.2 dX7_drift_64
      · replace hw := hw.2 c9
        refine lv_aload_n hx hb dX7_drift_41 rfl (lv_at hl 0 rfl) ?_
        refine va_get (D := D) (ci := 7) (v := .ref da) (C := RX7) (T := TX7) (N := 8) hx hb hts inX7 hown hK hP 0 rfl rfl 0 (by decide) fl12 (fun _ h9 => h9) rfl dX7_drift_42 ?_
        refine x_cMv (wr := [(x_xo, .inr (7, [.ref da, .ref k_da, .int x_isKept, .ref t_ta, .ref p_pl, .ref r_tr, .ref w_ro, .ref x_ash]))]) (va_runV (As := []) (rest := []) ⟨hx, hb, hml, hown, hts⟩ (c_X0_driftOnce l D G _ da ami aki afi anw apa pq cows tasters newest known milks kinds fines mayBe bearer day draw pm pb pd pw _ hw) (cwV 0 hts gX7_drift_X0_driftOnce rfl rfl rfl (by decide +kernel) ⟨(Nat.le_of_ble_eq_true rfl), (Nat.le_of_ble_eq_true rfl)⟩) (xM_pv (hP.sub [1, 2, 3, 4, 5, 6, 7, 8, 9, 10, 11, 12, 13, 14] rfl) hK (hD.sub [1, 2, 3, 4, 5, 6, 7, 8, 9, 10, 11, 12, 13, 14] (by decide) rfl) (va_recv hK hP (ci := 0) (q0 := 1) rfl rfl)) rfl rfl hl.1 rfl (lv_room (Nat.le_of_ble_eq_true rfl)) dX7_drift_45 ⟨Nat.zero_le _, Nat.zero_le _⟩) hP hD hS hA [1, 2, 3, 4, 5, 6, 7, 8, 9, 10, 11, 12, 13, 14] [0] rfl rfl (by decide) (by decide) [0, 1, 2, 3, 4, 5, 6, 7, 8, 9, 10, 11, 12, 13, 14] (fun u => [(x_xo, .inr (7, [.ref da, .ref k_da, .int x_isKept, .ref t_ta, .ref p_pl, .ref r_tr, .ref w_ro, .ref x_ash])), (da, .inr (0, [.ref ami, .int cows, .ref aki, .ref afi, .int tasters, .ref anw, .ref apa, .int u.1, .int u.2.1])), (ami, .inl (G 0, 8, .inl milks)), (aki, .inl (G 0, 4, .inl kinds)), (afi, .inl (G 0, 4, .inl fines)), (anw, .inr (1, [.int u.2.2.1, .int bearer, .int u.2.2.2.1, .int u.2.2.2.2.1])), (apa, .inl (G 4, 8, .inr (.inr (.inr (.inr (fun k => some (pq k))))))), ((pq 0), .inr (1, [.int ((u.2.2.2.2.2.1) 0), .int ((u.2.2.2.2.2.2.1) 0), .int ((u.2.2.2.2.2.2.2.1) 0), .int ((u.2.2.2.2.2.2.2.2) 0)])), ((pq 1), .inr (1, [.int ((u.2.2.2.2.2.1) 1), .int ((u.2.2.2.2.2.2.1) 1), .int ((u.2.2.2.2.2.2.2.1) 1), .int ((u.2.2.2.2.2.2.2.2) 1)])), ((pq 2), .inr (1, [.int ((u.2.2.2.2.2.1) 2), .int ((u.2.2.2.2.2.2.1) 2), .int ((u.2.2.2.2.2.2.2.1) 2), .int ((u.2.2.2.2.2.2.2.2) 2)])), ((pq 3), .inr (1, [.int ((u.2.2.2.2.2.1) 3), .int ((u.2.2.2.2.2.2.1) 3), .int ((u.2.2.2.2.2.2.2.1) 3), .int ((u.2.2.2.2.2.2.2.2) 3)])), ((pq 4), .inr (1, [.int ((u.2.2.2.2.2.1) 4), .int ((u.2.2.2.2.2.2.1) 4), .int ((u.2.2.2.2.2.2.2.1) 4), .int ((u.2.2.2.2.2.2.2.2) 4)])), ((pq 5), .inr (1, [.int ((u.2.2.2.2.2.1) 5), .int ((u.2.2.2.2.2.2.1) 5), .int ((u.2.2.2.2.2.2.2.1) 5), .int ((u.2.2.2.2.2.2.2.2) 5)])), ((pq 6), .inr (1, [.int ((u.2.2.2.2.2.1) 6), .int ((u.2.2.2.2.2.2.1) 6), .int ((u.2.2.2.2.2.2.2.1) 6), .int ((u.2.2.2.2.2.2.2.2) 6)])), ((pq 7), .inr (1, [.int ((u.2.2.2.2.2.1) 7), .int ((u.2.2.2.2.2.2.1) 7), .int ((u.2.2.2.2.2.2.2.1) 7), .int ((u.2.2.2.2.2.2.2.2) 7)]))]) (by decide) (fun u => rfl) (fun u H locs hw hP hD hS => ?_)
        obtain ⟨newest_1, known_1, mayBe_1, day_1, draw_1, pm_1, pb_1, pd_1, pw_1⟩ := u
        try dsimp only at hw
        replace hP : va_P D vwCl [(x_xo, .inr (7, [.ref da, .ref k_da, .int x_isKept, .ref t_ta, .ref p_pl, .ref r_tr, .ref w_ro, .ref x_ash])), (da, .inr (0, [.ref ami, .int cows, .ref aki, .ref afi, .int tasters, .ref anw, .ref apa, .int newest_1, .int known_1])), (ami, .inl (G 0, 8, .inl milks)), (aki, .inl (G 0, 4, .inl kinds)), (afi, .inl (G 0, 4, .inl fines)), (anw, .inr (1, [.int mayBe_1, .int bearer, .int day_1, .int draw_1])), (apa, .inl (G 4, 8, .inr (.inr (.inr (.inr (fun k => some (pq k))))))), ((pq 0), .inr (1, [.int (pm_1 0), .int (pb_1 0), .int (pd_1 0), .int (pw_1 0)])), ((pq 1), .inr (1, [.int (pm_1 1), .int (pb_1 1), .int (pd_1 1), .int (pw_1 1)])), ((pq 2), .inr (1, [.int (pm_1 2), .int (pb_1 2), .int (pd_1 2), .int (pw_1 2)])), ((pq 3), .inr (1, [.int (pm_1 3), .int (pb_1 3), .int (pd_1 3), .int (pw_1 3)])), ((pq 4), .inr (1, [.int (pm_1 4), .int (pb_1 4), .int (pd_1 4), .int (pw_1 4)])), ((pq 5), .inr (1, [.int (pm_1 5), .int (pb_1 5), .int (pd_1 5), .int (pw_1 5)])), ((pq 6), .inr (1, [.int (pm_1 6), .int (pb_1 6), .int (pd_1 6), .int (pw_1 6)])), ((pq 7), .inr (1, [.int (pm_1 7), .int (pb_1 7), .int (pd_1 7), .int (pw_1 7)]))] H := hP
        replace hD : va_D A [(x_xo, .inr (7, [.ref da, .ref k_da, .int x_isKept, .ref t_ta, .ref p_pl, .ref r_tr, .ref w_ro, .ref x_ash])), (da, .inr (0, [.ref ami, .int cows, .ref aki, .ref afi, .int tasters, .ref anw, .ref apa, .int newest_1, .int known_1])), (ami, .inl (G 0, 8, .inl milks)), (aki, .inl (G 0, 4, .inl kinds)), (afi, .inl (G 0, 4, .inl fines)), (anw, .inr (1, [.int mayBe_1, .int bearer, .int day_1, .int draw_1])), (apa, .inl (G 4, 8, .inr (.inr (.inr (.inr (fun k => some (pq k))))))), ((pq 0), .inr (1, [.int (pm_1 0), .int (pb_1 0), .int (pd_1 0), .int (pw_1 0)])), ((pq 1), .inr (1, [.int (pm_1 1), .int (pb_1 1), .int (pd_1 1), .int (pw_1 1)])), ((pq 2), .inr (1, [.int (pm_1 2), .int (pb_1 2), .int (pd_1 2), .int (pw_1 2)])), ((pq 3), .inr (1, [.int (pm_1 3), .int (pb_1 3), .int (pd_1 3), .int (pw_1 3)])), ((pq 4), .inr (1, [.int (pm_1 4), .int (pb_1 4), .int (pd_1 4), .int (pw_1 4)])), ((pq 5), .inr (1, [.int (pm_1 5), .int (pb_1 5), .int (pd_1 5), .int (pw_1 5)])), ((pq 6), .inr (1, [.int (pm_1 6), .int (pb_1 6), .int (pd_1 6), .int (pw_1 6)])), ((pq 7), .inr (1, [.int (pm_1 7), .int (pb_1 7), .int (pd_1 7), .int (pw_1 7)]))] := hD
        refine lv_iinc (v := (x2 + 1)) (lv' := [(2, .int (x2 + 1)), (0, .ref x_xo), (1, .int x1)]) hx hb dX7_drift_48 hl (k := 2) rfl (by first | rfl | decide) (by decide) rfl (fun ls hl => ?_)
        refine lv_goto (tgt := 36) hx hb dX7_drift_51 (by decide) ?_
        exact ih36 (x2 + 1) newest_1 known_1 mayBe_1 day_1 draw_1 pm_1 pb_1 pd_1 pw_1 _ _ _ hw hP hD hS (lv_sub hl [1, 2, 0] rfl)
  refine lv_iload_n hx hb dX7_drift_0 rfl (lv_at hl 1 rfl) ?_
  refine lv_iconst (v := 1) hx hb dX7_drift_1 (by decide) ?_
  refine lv_icmp_lt (tgt := 11) hx hb dX7_drift_2 (by decide) (fun c9 => ?_) (fun c9 => ?_)
  · replace hw := hw.1 c9
    refine lv_iconst (v := -1) hx hb dX7_drift_11 (by decide) ?_
    exact W.iret hx hb hr (x_mi (u := (newest, known, mayBe, day, draw, pm, pb, pd, pw)) hP hK hD hS hw) hS.2.2 dX7_drift_12
  · replace hw := hw.2 c9
    refine lv_iload_n hx hb dX7_drift_5 rfl (lv_at hl 1 rfl) ?_
    refine lv_bipush (v := 40) hx hb dX7_drift_6 (by decide) ?_
    refine lv_icmp_le (tgt := 13) hx hb dX7_drift_8 (by decide) (fun c9 => ?_) (fun c9 => ?_)
    · replace hw := hw.1 c9
      refine lv_aload_n hx hb dX7_drift_13 rfl (lv_at hl 0 rfl) ?_
      refine va_get (D := D) (ci := 7) (v := .ref da) (C := RX7) (T := TX7) (N := 8) hx hb hts inX7 hown hK hP 0 rfl rfl 0 (by decide) fl12 (fun _ h9 => h9) rfl dX7_drift_14 ?_
      refine va_get (D := D) (ci := 0) (v := .ref anw) (C := RX0) (T := TX0) (N := 9) hx hb hts inX0 hown hK hP 1 rfl rfl 5 (by decide) fl66 (fun _ h9 => h9) rfl dX7_drift_17 ?_
      refine va_get (D := D) (ci := 1) (v := .int day) (C := RX1) (T := TX1) (N := 4) hx hb hts inX1 hown hK hP 5 rfl rfl 2 (by decide) fl134 (fun _ h9 => h9) rfl dX7_drift_20 ?_
      refine lv_iload_n hx hb dX7_drift_23 rfl (lv_at hl 1 rfl) ?_
      refine lv_iadd hx hb dX7_drift_24 ?_
      refine lv_sipush (v := 9999) hx hb dX7_drift_25 (by decide) ?_
      refine lv_icmp_le (tgt := 34) hx hb dX7_drift_28 (by decide) (fun c9 => ?_) (fun c9 => ?_)
      · replace hw := hw.1 c9
        refine lv_iconst (v := 0) hx hb dX7_drift_34 (by decide) ?_
        refine lv_istore_n (lv' := [(2, .int (0 : Int32)), (0, .ref x_xo), (1, .int x1)]) hx hb dX7_drift_35 rfl hl (by decide) rfl (fun ls hl => ?_)
        obtain ⟨n, hw⟩ := hw
        exact L36 n (0 : Int32) newest known mayBe day draw pm pb pd pw _ _ _ hw hP hD hS (lv_sub hl [1, 2, 0] rfl)
      · replace hw := hw.2 c9
        refine lv_bipush (v := -3) hx hb dX7_drift_31 (by decide) ?_
        exact W.iret hx hb hr (x_mi (u := (newest, known, mayBe, day, draw, pm, pb, pd, pw)) hP hK hD hS hw) hS.2.2 dX7_drift_33
    · replace hw := hw.2 c9
      refine lv_iconst (v := -1) hx hb dX7_drift_11 (by decide) ?_
      exact W.iret hx hb hr (x_mi (u := (newest, known, mayBe, day, draw, pm, pb, pd, pw)) hP hK hD hS hw) hS.2.2 dX7_drift_12
set_option maxHeartbeats 4000000 in
set_option maxRecDepth 100000 in
theorem c_X7_undo (l : Launch) (D : va_G) (G : Nat → ClassId) (sz : Nat) (x_xo : Nat) (da : Nat) (k_da : Nat) (t_ta : Nat) (p_pl : Nat) (r_tr : Nat) (w_ro : Nat) (x_ash : Nat) (ami : Nat) (aki : Nat) (afi : Nat) (anw : Nat) (apa : Nat) (pq : Nat → Nat) (x_isKept : Int32) (cows : Int32) (tasters : Int32) (newest : Int32) (known : Int32) (mayBe : Int32) (bearer : Int32) (day : Int32) (draw : Int32) (pm : Nat → Int32) (pb : Nat → Int32) (pd : Nat → Int32) (pw : Nat → Int32) (post : Int32 → Int32 → Int32 → Int32 → Int32 → Int32 → Int32 → Prop) (hw : wp_X7_undo newest known mayBe bearer day draw pm pb pd pw post) : Met l yX7_undo wsX7_undo ({ frames := 2, cells := 0, slots := 0, locals := 41 } : Room) (va_Pc [.ref x_xo] (xM D G sz [(x_xo, .inr (7, [.ref da, .ref k_da, .int x_isKept, .ref t_ta, .ref p_pl, .ref r_tr, .ref w_ro, .ref x_ash])), (da, .inr (0, [.ref ami, .int cows, .ref aki, .ref afi, .int tasters, .ref anw, .ref apa, .int newest, .int known])), (anw, .inr (1, [.int mayBe, .int bearer, .int day, .int draw])), (apa, .inl (G 4, 8, .inr (.inr (.inr (.inr (fun k => some (pq k))))))), ((pq 0), .inr (1, [.int (pm 0), .int (pb 0), .int (pd 0), .int (pw 0)])), ((pq 1), .inr (1, [.int (pm 1), .int (pb 1), .int (pd 1), .int (pw 1)])), ((pq 2), .inr (1, [.int (pm 2), .int (pb 2), .int (pd 2), .int (pw 2)])), ((pq 3), .inr (1, [.int (pm 3), .int (pb 3), .int (pd 3), .int (pw 3)])), ((pq 4), .inr (1, [.int (pm 4), .int (pb 4), .int (pd 4), .int (pw 4)])), ((pq 5), .inr (1, [.int (pm 5), .int (pb 5), .int (pd 5), .int (pw 5)])), ((pq 6), .inr (1, [.int (pm 6), .int (pb 6), .int (pd 6), .int (pw 6)])), ((pq 7), .inr (1, [.int (pm 7), .int (pb 7), .int (pd 7), .int (pw 7)]))])) (va_Qi (fun r (u : Int32 × Int32 × Int32 × Int32 × Int32 × Int32) => post r u.1 u.2.1 u.2.2.1 u.2.2.2.1 u.2.2.2.2.1 u.2.2.2.2.2) (fun u t => xE D G (va_A [(x_xo, .inr (7, [.ref da, .ref k_da, .int x_isKept, .ref t_ta, .ref p_pl, .ref r_tr, .ref w_ro, .ref x_ash])), (da, .inr (0, [.ref ami, .int cows, .ref aki, .ref afi, .int tasters, .ref anw, .ref apa, .int newest, .int known])), (anw, .inr (1, [.int mayBe, .int bearer, .int day, .int draw])), (apa, .inl (G 4, 8, .inr (.inr (.inr (.inr (fun k => some (pq k))))))), ((pq 0), .inr (1, [.int (pm 0), .int (pb 0), .int (pd 0), .int (pw 0)])), ((pq 1), .inr (1, [.int (pm 1), .int (pb 1), .int (pd 1), .int (pw 1)])), ((pq 2), .inr (1, [.int (pm 2), .int (pb 2), .int (pd 2), .int (pw 2)])), ((pq 3), .inr (1, [.int (pm 3), .int (pb 3), .int (pd 3), .int (pw 3)])), ((pq 4), .inr (1, [.int (pm 4), .int (pb 4), .int (pd 4), .int (pw 4)])), ((pq 5), .inr (1, [.int (pm 5), .int (pb 5), .int (pd 5), .int (pw 5)])), ((pq 6), .inr (1, [.int (pm 6), .int (pb 6), .int (pd 6), .int (pw 6)])), ((pq 7), .inr (1, [.int (pm 7), .int (pb 7), .int (pd 7), .int (pw 7)]))] sz) [(x_xo, .inr (7, [.ref da, .ref k_da, .int x_isKept, .ref t_ta, .ref p_pl, .ref r_tr, .ref w_ro, .ref x_ash])), (da, .inr (0, [.ref ami, .int cows, .ref aki, .ref afi, .int tasters, .ref anw, .ref apa, .int u.1, .int u.2.1])), (anw, .inr (1, [.int u.2.2.1, .int u.2.2.2.1, .int u.2.2.2.2.1, .int u.2.2.2.2.2])), (apa, .inl (G 4, 8, .inr (.inr (.inr (.inr (fun k => some (pq k))))))), ((pq 0), .inr (1, [.int (pm 0), .int (pb 0), .int (pd 0), .int (pw 0)])), ((pq 1), .inr (1, [.int (pm 1), .int (pb 1), .int (pd 1), .int (pw 1)])), ((pq 2), .inr (1, [.int (pm 2), .int (pb 2), .int (pd 2), .int (pw 2)])), ((pq 3), .inr (1, [.int (pm 3), .int (pb 3), .int (pd 3), .int (pw 3)])), ((pq 4), .inr (1, [.int (pm 4), .int (pb 4), .int (pd 4), .int (pw 4)])), ((pq 5), .inr (1, [.int (pm 5), .int (pb 5), .int (pd 5), .int (pw 5)])), ((pq 6), .inr (1, [.int (pm 6), .int (pb 6), .int (pd 6), .int (pw 6)])), ((pq 7), .inr (1, [.int (pm 7), .int (pb 7), .int (pd 7), .int (pw 7)]))] t) (va_A [(x_xo, .inr (7, [.ref da, .ref k_da, .int x_isKept, .ref t_ta, .ref p_pl, .ref r_tr, .ref w_ro, .ref x_ash])), (da, .inr (0, [.ref ami, .int cows, .ref aki, .ref afi, .int tasters, .ref anw, .ref apa, .int newest, .int known])), (anw, .inr (1, [.int mayBe, .int bearer, .int day, .int draw])), (apa, .inl (G 4, 8, .inr (.inr (.inr (.inr (fun k => some (pq k))))))), ((pq 0), .inr (1, [.int (pm 0), .int (pb 0), .int (pd 0), .int (pw 0)])), ((pq 1), .inr (1, [.int (pm 1), .int (pb 1), .int (pd 1), .int (pw 1)])), ((pq 2), .inr (1, [.int (pm 2), .int (pb 2), .int (pd 2), .int (pw 2)])), ((pq 3), .inr (1, [.int (pm 3), .int (pb 3), .int (pd 3), .int (pw 3)])), ((pq 4), .inr (1, [.int (pm 4), .int (pb 4), .int (pd 4), .int (pw 4)])), ((pq 5), .inr (1, [.int (pm 5), .int (pb 5), .int (pd 5), .int (pw 5)])), ((pq 6), .inr (1, [.int (pm 6), .int (pb 6), .int (pd 6), .int (pw 6)])), ((pq 7), .inr (1, [.int (pm 7), .int (pb 7), .int (pd 7), .int (pw 7)]))] sz)) 0 0 (va_A [(x_xo, .inr (7, [.ref da, .ref k_da, .int x_isKept, .ref t_ta, .ref p_pl, .ref r_tr, .ref w_ro, .ref x_ash])), (da, .inr (0, [.ref ami, .int cows, .ref aki, .ref afi, .int tasters, .ref anw, .ref apa, .int newest, .int known])), (anw, .inr (1, [.int mayBe, .int bearer, .int day, .int draw])), (apa, .inl (G 4, 8, .inr (.inr (.inr (.inr (fun k => some (pq k))))))), ((pq 0), .inr (1, [.int (pm 0), .int (pb 0), .int (pd 0), .int (pw 0)])), ((pq 1), .inr (1, [.int (pm 1), .int (pb 1), .int (pd 1), .int (pw 1)])), ((pq 2), .inr (1, [.int (pm 2), .int (pb 2), .int (pd 2), .int (pw 2)])), ((pq 3), .inr (1, [.int (pm 3), .int (pb 3), .int (pd 3), .int (pw 3)])), ((pq 4), .inr (1, [.int (pm 4), .int (pb 4), .int (pd 4), .int (pw 4)])), ((pq 5), .inr (1, [.int (pm 5), .int (pb 5), .int (pd 5), .int (pw 5)])), ((pq 6), .inr (1, [.int (pm 6), .int (pb 6), .int (pd 6), .int (pw 6)])), ((pq 7), .inr (1, [.int (pm 7), .int (pb 7), .int (pd 7), .int (pw 7)]))] sz) := by
  refine Met.ofW (cc := cX7_undo) (maxL := 1) (ret := (some .int)) (by decide) rfl ?_
  intro p e s m args below meth c s₁ B hml hv
  obtain ⟨rfl, hsz, hP, hK, hD0⟩ := hv
  have hx := B.exec
  have hb := B.bytes
  have hr := B.returns
  have hts := atoms_spec (ws := wsX7_undo) B.pre
  have hown : s.vm.findClass RX7 = some m.cls := findClass_of_methodNamed B.named
  have hlocks := B.notSynchronized
  subst hsz
  have hD := hD0.self (sz := s.heap.size)
  generalize hAe : va_A [(x_xo, .inr (7, [.ref da, .ref k_da, .int x_isKept, .ref t_ta, .ref p_pl, .ref r_tr, .ref w_ro, .ref x_ash])), (da, .inr (0, [.ref ami, .int cows, .ref aki, .ref afi, .int tasters, .ref anw, .ref apa, .int newest, .int known])), (anw, .inr (1, [.int mayBe, .int bearer, .int day, .int draw])), (apa, .inl (G 4, 8, .inr (.inr (.inr (.inr (fun k => some (pq k))))))), ((pq 0), .inr (1, [.int (pm 0), .int (pb 0), .int (pd 0), .int (pw 0)])), ((pq 1), .inr (1, [.int (pm 1), .int (pb 1), .int (pd 1), .int (pw 1)])), ((pq 2), .inr (1, [.int (pm 2), .int (pb 2), .int (pd 2), .int (pw 2)])), ((pq 3), .inr (1, [.int (pm 3), .int (pb 3), .int (pd 3), .int (pw 3)])), ((pq 4), .inr (1, [.int (pm 4), .int (pb 4), .int (pd 4), .int (pw 4)])), ((pq 5), .inr (1, [.int (pm 5), .int (pb 5), .int (pd 5), .int (pw 5)])), ((pq 6), .inr (1, [.int (pm 6), .int (pb 6), .int (pd 6), .int (pw 6)])), ((pq 7), .inr (1, [.int (pm 7), .int (pb 7), .int (pd 7), .int (pw 7)]))] s.heap.size = A at hD ⊢
  have hA : ∀ q : Nat, s.heap.size ≤ q → A q := fun q h => by rw [← hAe]; exact Or.inr h
  have hS : va_S A s.heap s.heap [] := va_S.rf
  have inX0 : ∀ w ∈ wsX00, w ∈ wsX7_undo := by decide +kernel
  have inX7 : ∀ w ∈ wsX70, w ∈ wsX7_undo := by decide +kernel
  have fl12 := hts (.fieldLink RX7 12 "NewsCow" "dairy" "LNewsCow$Dairy;") (by decide +kernel)
  have fl79 := hts (.fieldLink RX7 79 "NewsCow$Dairy" "known" "I") (by decide +kernel)
  have hl := lv_entry ([.ref x_xo] : List Value) (n := 1) (Nat.le_of_ble_eq_true rfl)
  rw [lg_entry_eq]
  generalize (lg_sl ([.ref x_xo] : List Value) ++ List.replicate (1 - (lg_sl ([.ref x_xo] : List Value)).length) Slot.unset).toArray = ls at hl ⊢
  have hl : lv_has ls 1 [(0, .ref x_xo)] := hl
  unfold wp_X7_undo at hw
  refine lv_aload_n hx hb dX7_undo_0 rfl (lv_at hl 0 rfl) ?_
  refine va_get (D := D) (ci := 7) (v := .ref da) (C := RX7) (T := TX7) (N := 8) hx hb hts inX7 hown hK hP 0 rfl rfl 0 (by decide) fl12 (fun _ h9 => h9) rfl dX7_undo_1 ?_
  refine va_get (D := D) (ci := 0) (v := .int known) (C := RX0) (T := TX0) (N := 9) hx hb hts inX0 hown hK hP 1 rfl rfl 8 (by decide) fl79 (fun _ h9 => h9) rfl dX7_undo_4 ?_
  refine lv_if_ne (tgt := 13) hx hb dX7_undo_7 (by decide) (fun c9 => ?_) (fun c9 => ?_)
  · replace hw := hw.1 c9
    refine lv_aload_n hx hb dX7_undo_13 rfl (lv_at hl 0 rfl) ?_
    refine va_get (D := D) (ci := 7) (v := .ref da) (C := RX7) (T := TX7) (N := 8) hx hb hts inX7 hown hK hP 0 rfl rfl 0 (by decide) fl12 (fun _ h9 => h9) rfl dX7_undo_14 ?_
    refine x_cMv (wr := [(x_xo, .inr (7, [.ref da, .ref k_da, .int x_isKept, .ref t_ta, .ref p_pl, .ref r_tr, .ref w_ro, .ref x_ash]))]) (va_runV (As := []) (rest := []) ⟨hx, hb, hml, hown, hts⟩ (c_X0_goBack l D G _ da ami aki afi anw apa pq cows tasters newest known mayBe bearer day draw pm pb pd pw _ hw) (cwV 0 hts gX7_undo_X0_goBack rfl rfl rfl (by decide +kernel) ⟨(Nat.le_of_ble_eq_true rfl), (Nat.le_of_ble_eq_true rfl)⟩) (xM_pv (hP.sub [1, 2, 3, 4, 5, 6, 7, 8, 9, 10, 11] rfl) hK (hD.sub [1, 2, 3, 4, 5, 6, 7, 8, 9, 10, 11] (by decide) rfl) (va_recv hK hP (ci := 0) (q0 := 1) rfl rfl)) rfl rfl hl.1 rfl (lv_room (Nat.le_of_ble_eq_true rfl)) dX7_undo_17 ⟨Nat.zero_le _, Nat.zero_le _⟩) hP hD hS hA [1, 2, 3, 4, 5, 6, 7, 8, 9, 10, 11] [0] rfl rfl (by decide) (by decide) [0, 1, 2, 3, 4, 5, 6, 7, 8, 9, 10, 11] (fun u => [(x_xo, .inr (7, [.ref da, .ref k_da, .int x_isKept, .ref t_ta, .ref p_pl, .ref r_tr, .ref w_ro, .ref x_ash])), (da, .inr (0, [.ref ami, .int cows, .ref aki, .ref afi, .int tasters, .ref anw, .ref apa, .int u.1, .int u.2.1])), (anw, .inr (1, [.int u.2.2.1, .int u.2.2.2.1, .int u.2.2.2.2.1, .int u.2.2.2.2.2])), (apa, .inl (G 4, 8, .inr (.inr (.inr (.inr (fun k => some (pq k))))))), ((pq 0), .inr (1, [.int (pm 0), .int (pb 0), .int (pd 0), .int (pw 0)])), ((pq 1), .inr (1, [.int (pm 1), .int (pb 1), .int (pd 1), .int (pw 1)])), ((pq 2), .inr (1, [.int (pm 2), .int (pb 2), .int (pd 2), .int (pw 2)])), ((pq 3), .inr (1, [.int (pm 3), .int (pb 3), .int (pd 3), .int (pw 3)])), ((pq 4), .inr (1, [.int (pm 4), .int (pb 4), .int (pd 4), .int (pw 4)])), ((pq 5), .inr (1, [.int (pm 5), .int (pb 5), .int (pd 5), .int (pw 5)])), ((pq 6), .inr (1, [.int (pm 6), .int (pb 6), .int (pd 6), .int (pw 6)])), ((pq 7), .inr (1, [.int (pm 7), .int (pb 7), .int (pd 7), .int (pw 7)]))]) (by decide) (fun u => rfl) (fun u H locs hw hP hD hS => ?_)
    obtain ⟨newest_1, known_1, mayBe_1, bearer_1, day_1, draw_1⟩ := u
    try dsimp only at hw
    replace hP : va_P D vwCl [(x_xo, .inr (7, [.ref da, .ref k_da, .int x_isKept, .ref t_ta, .ref p_pl, .ref r_tr, .ref w_ro, .ref x_ash])), (da, .inr (0, [.ref ami, .int cows, .ref aki, .ref afi, .int tasters, .ref anw, .ref apa, .int newest_1, .int known_1])), (anw, .inr (1, [.int mayBe_1, .int bearer_1, .int day_1, .int draw_1])), (apa, .inl (G 4, 8, .inr (.inr (.inr (.inr (fun k => some (pq k))))))), ((pq 0), .inr (1, [.int (pm 0), .int (pb 0), .int (pd 0), .int (pw 0)])), ((pq 1), .inr (1, [.int (pm 1), .int (pb 1), .int (pd 1), .int (pw 1)])), ((pq 2), .inr (1, [.int (pm 2), .int (pb 2), .int (pd 2), .int (pw 2)])), ((pq 3), .inr (1, [.int (pm 3), .int (pb 3), .int (pd 3), .int (pw 3)])), ((pq 4), .inr (1, [.int (pm 4), .int (pb 4), .int (pd 4), .int (pw 4)])), ((pq 5), .inr (1, [.int (pm 5), .int (pb 5), .int (pd 5), .int (pw 5)])), ((pq 6), .inr (1, [.int (pm 6), .int (pb 6), .int (pd 6), .int (pw 6)])), ((pq 7), .inr (1, [.int (pm 7), .int (pb 7), .int (pd 7), .int (pw 7)]))] H := hP
    replace hD : va_D A [(x_xo, .inr (7, [.ref da, .ref k_da, .int x_isKept, .ref t_ta, .ref p_pl, .ref r_tr, .ref w_ro, .ref x_ash])), (da, .inr (0, [.ref ami, .int cows, .ref aki, .ref afi, .int tasters, .ref anw, .ref apa, .int newest_1, .int known_1])), (anw, .inr (1, [.int mayBe_1, .int bearer_1, .int day_1, .int draw_1])), (apa, .inl (G 4, 8, .inr (.inr (.inr (.inr (fun k => some (pq k))))))), ((pq 0), .inr (1, [.int (pm 0), .int (pb 0), .int (pd 0), .int (pw 0)])), ((pq 1), .inr (1, [.int (pm 1), .int (pb 1), .int (pd 1), .int (pw 1)])), ((pq 2), .inr (1, [.int (pm 2), .int (pb 2), .int (pd 2), .int (pw 2)])), ((pq 3), .inr (1, [.int (pm 3), .int (pb 3), .int (pd 3), .int (pw 3)])), ((pq 4), .inr (1, [.int (pm 4), .int (pb 4), .int (pd 4), .int (pw 4)])), ((pq 5), .inr (1, [.int (pm 5), .int (pb 5), .int (pd 5), .int (pw 5)])), ((pq 6), .inr (1, [.int (pm 6), .int (pb 6), .int (pd 6), .int (pw 6)])), ((pq 7), .inr (1, [.int (pm 7), .int (pb 7), .int (pd 7), .int (pw 7)]))] := hD
    refine lv_aload_n hx hb dX7_undo_20 rfl (lv_at hl 0 rfl) ?_
    refine va_get (D := D) (ci := 7) (v := .ref da) (C := RX7) (T := TX7) (N := 8) hx hb hts inX7 hown hK hP 0 rfl rfl 0 (by decide) fl12 (fun _ h9 => h9) rfl dX7_undo_21 ?_
    refine va_get (D := D) (ci := 0) (v := .int known_1) (C := RX0) (T := TX0) (N := 9) hx hb hts inX0 hown hK hP 1 rfl rfl 8 (by decide) fl79 (fun _ h9 => h9) rfl dX7_undo_24 ?_
    exact W.iret hx hb hr (x_mi (u := (newest_1, known_1, mayBe_1, bearer_1, day_1, draw_1)) hP hK hD hS hw) hS.2.2 dX7_undo_27
  · replace hw := hw.2 c9
    refine lv_bipush (v := -4) hx hb dX7_undo_10 (by decide) ?_
    exact W.iret hx hb hr (x_mi (u := (newest, known, mayBe, bearer, day, draw)) hP hK hD hS hw) hS.2.2 dX7_undo_12
