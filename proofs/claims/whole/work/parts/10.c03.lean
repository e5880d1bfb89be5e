set_option maxHeartbeats 4000000 in
set_option maxRecDepth 100000 in
theorem c_X3_read (l : Launch) (D : va_G) (G : Nat → ClassId) (sz : Nat) (w_ro : Nat) (w_amx : Nat) (w_aan : Nat) (w_aag : Nat) (s_sh : Nat) (s_ait : Nat) (w_pairs : Int32) (w_mixes : Nat → Int32) (w_answers : Nat → Int32) (s_lane : Int32) (s_size : Int32) (s_items : Nat → Int64) (x2 : Int32) (x3 : Int32) (x4 : Int32) (post : Int32 → Int32 → (Nat → Int32) → (Nat → Int32) → Prop) (hw : wp_X3_read w_mixes w_answers s_items x2 x3 x4 post) : Met l yX3_read wsX3_read ({ frames := 1, cells := 0, slots := 0, locals := 21 } : Room) (va_Pc [.ref w_ro, .ref s_sh, .int x2, .int x3, .int x4] (xM D G sz [(w_ro, .inr (3, [.ref w_amx, .ref w_aan, .int w_pairs, .ref w_aag])), (w_amx, .inl (G 0, 6, .inl w_mixes)), (w_aan, .inl (G 0, 6, .inl w_answers)), (s_sh, .inr (4, [.ref s_ait, .int s_lane, .int s_size])), (s_ait, .inl (G 1, 24, .inr (.inl s_items)))])) (va_Qi (fun r (u : Int32 × (Nat → Int32) × (Nat → Int32)) => post r u.1 u.2.1 u.2.2) (fun u t => xE D G (va_A [(w_ro, .inr (3, [.ref w_amx, .ref w_aan, .int w_pairs, .ref w_aag])), (w_amx, .inl (G 0, 6, .inl w_mixes)), (w_aan, .inl (G 0, 6, .inl w_answers)), (s_sh, .inr (4, [.ref s_ait, .int s_lane, .int s_size])), (s_ait, .inl (G 1, 24, .inr (.inl s_items)))] sz) [(w_ro, .inr (3, [.ref w_amx, .ref w_aan, .int u.1, .ref w_aag])), (w_amx, .inl (G 0, 6, .inl (u.2.1))), (w_aan, .inl (G 0, 6, .inl (u.2.2))), (s_sh, .inr (4, [.ref s_ait, .int s_lane, .int s_size])), (s_ait, .inl (G 1, 24, .inr (.inl s_items)))] t) (va_A [(w_ro, .inr (3, [.ref w_amx, .ref w_aan, .int w_pairs, .ref w_aag])), (w_amx, .inl (G 0, 6, .inl w_mixes)), (w_aan, .inl (G 0, 6, .inl w_answers)), (s_sh, .inr (4, [.ref s_ait, .int s_lane, .int s_size])), (s_ait, .inl (G 1, 24, .inr (.inl s_items)))] sz)) 0 0 (va_A [(w_ro, .inr (3, [.ref w_amx, .ref w_aan, .int w_pairs, .ref w_aag])), (w_amx, .inl (G 0, 6, .inl w_mixes)), (w_aan, .inl (G 0, 6, .inl w_answers)), (s_sh, .inr (4, [.ref s_ait, .int s_lane, .int s_size])), (s_ait, .inl (G 1, 24, .inr (.inl s_items)))] sz) := by
  refine Met.ofW (cc := cX3_read) (maxL := 10) (ret := (some .boolean)) (by decide) rfl ?_
  intro p e s m args below meth c s₁ B hml hv
  obtain ⟨rfl, hsz, hP, hK, hD0⟩ := hv
  have hx := B.exec
  have hb := B.bytes
  have hr := B.returns
  have hts := atoms_spec (ws := wsX3_read) B.pre
  have hown : s.vm.findClass RX3 = some m.cls := findClass_of_methodNamed B.named
  have hlocks := B.notSynchronized
  subst hsz
  have hD := hD0.self (sz := s.heap.size)
  generalize hAe : va_A [(w_ro, .inr (3, [.ref w_amx, .ref w_aan, .int w_pairs, .ref w_aag])), (w_amx, .inl (G 0, 6, .inl w_mixes)), (w_aan, .inl (G 0, 6, .inl w_answers)), (s_sh, .inr (4, [.ref s_ait, .int s_lane, .int s_size])), (s_ait, .inl (G 1, 24, .inr (.inl s_items)))] s.heap.size = A at hD ⊢
  have hA : ∀ q : Nat, s.heap.size ≤ q → A q := fun q h => by rw [← hAe]; exact Or.inr h
  have hS : va_S A s.heap s.heap [] := va_S.rf
  have inX3 : ∀ w ∈ wsX30, w ∈ wsX3_read := by decide +kernel
  have fl18 := hts (.fieldLink RX3 18 "NewsCow$Row" "pairs" "I") (by decide +kernel)
  have fl9 := hts (.fieldLink RX3 9 "NewsCow$Row" "mixes" "[I") (by decide +kernel)
  have fl15 := hts (.fieldLink RX3 15 "NewsCow$Row" "answers" "[I") (by decide +kernel)
  have hl := lv_entry ([.ref w_ro, .ref s_sh, .int x2, .int x3, .int x4] : List Value) (n := 10) (Nat.le_of_ble_eq_true rfl)
  rw [lg_entry_eq]
  generalize (lg_sl ([.ref w_ro, .ref s_sh, .int x2, .int x3, .int x4] : List Value) ++ List.replicate (10 - (lg_sl ([.ref w_ro, .ref s_sh, .int x2, .int x3, .int x4] : List Value)).length) Slot.unset).toArray = ls at hl ⊢
  have hl : lv_has ls 10 [(0, .ref w_ro), (1, .ref s_sh), (2, .int x2), (3, .int x3), (4, .int x4)] := hl
  unfold wp_X3_read at hw
  have L8 : ∀ (f8 : Nat) (x5 : Int32) (w_pairs : Int32) (w_mixes : Nat → Int32) (w_answers : Nat → Int32) (H : Heap) (locs : List Loc) (ls : Array Slot), wp_X3_read_L8 s_items x2 x3 x4 post f8 w_pairs w_mixes w_answers x5 → va_P D vwCl [(w_ro, .inr (3, [.ref w_amx, .ref w_aan, .int w_pairs, .ref w_aag])), (w_amx, .inl (G 0, 6, .inl w_mixes)), (w_aan, .inl (G 0, 6, .inl w_answers)), (s_sh, .inr (4, [.ref s_ait, .int s_lane, .int s_size])), (s_ait, .inl (G 1, 24, .inr (.inl s_items)))] H → va_D A [(w_ro, .inr (3, [.ref w_amx, .ref w_aan, .int w_pairs, .ref w_aag])), (w_amx, .inl (G 0, 6, .inl w_mixes)), (w_aan, .inl (G 0, 6, .inl w_answers)), (s_sh, .inr (4, [.ref s_ait, .int s_lane, .int s_size])), (s_ait, .inl (G 1, 24, .inr (.inl s_items)))] → va_S A s.heap H locs → lv_has ls 10 [(0, .ref w_ro), (1, .ref s_sh), (2, .int x2), (3, .int x3), (4, .int x4), (5, .int x5)] → W p l e (headSpec wsX3_read ({ frames := 1, cells := 0, slots := 0, locals := 21 } : Room)).room s m ([.ref w_ro, .ref s_sh, .int x2, .int x3, .int x4] : List Value).toArray below meth c H locs 0 0 (MQ below (va_Qi (fun r (u : Int32 × (Nat → Int32) × (Nat → Int32)) => post r u.1 u.2.1 u.2.2) (fun u t => xE D G A [(w_ro, .inr (3, [.ref w_amx, .ref w_aan, .int u.1, .ref w_aag])), (w_amx, .inl (G 0, 6, .inl (u.2.1))), (w_aan, .inl (G 0, 6, .inl (u.2.2))), (s_sh, .inr (4, [.ref s_ait, .int s_lane, .int s_size])), (s_ait, .inl (G 1, 24, .inr (.inl s_items)))] t) A) ([.ref w_ro, .ref s_sh, .int x2, .int x3, .int x4] : List Value).toArray s 0 0 A) (F0 m 8 ls []) := by
    intro f8
    induction f8 with
    | zero => intro x5 w_pairs w_mixes w_answers H locs ls hw hP hD hS hl; exact (hw : False).elim
    | succ f8 ih8 =>
      intro x5 w_pairs w_mixes w_answers H locs ls hw hP hD hS hl
      unfold wp_X3_read_L8 at hw
      refine lv_iload hx hb dX3_read_8 (lv_at hl 5 rfl) ?_
      refine lv_iload_n hx hb dX3_read_10 rfl (lv_at hl 3 rfl) ?_
      refine lv_icmp_ge (tgt := 108) hx hb dX3_read_11 (by decide) (fun c9 => ?_) (fun c9 => ?_)
      · replace hw := hw.1 c9
        refine lv_iconst (v := 1) hx hb dX3_read_108 (by decide) ?_
        exact W.zret hx hb hr rfl (x_mi (u := (w_pairs, w_mixes, w_answers)) hP hK hD hS hw) hS.2.2 dX3_read_109
      · replace hw := hw.2 c9
        refine lv_aload_n hx hb dX3_read_14 rfl (lv_at hl 1 rfl) ?_
        refine lv_iload_n hx hb dX3_read_15 rfl (lv_at hl 2 rfl) ?_
        refine lv_iconst (v := 2) hx hb dX3_read_16 (by decide) ?_
        refine lv_iload hx hb dX3_read_17 (lv_at hl 5 rfl) ?_
        refine lv_imul hx hb dX3_read_19 ?_
        refine lv_iadd hx hb dX3_read_20 ?_
        refine vp_callSl (W.runV (As := [.int (x2 + ((2 : Int32) * x5))]) (rest := []) ⟨hx, hb, hml, hown, hts⟩ (c_X4_valueAt l D G s_sh s_ait s_lane s_size s_items (x2 + ((2 : Int32) * x5)) _ hw) (cwV 1 hts gX3_read_X4_valueAt rfl rfl rfl (by decide +kernel) ⟨(Nat.le_of_ble_eq_true rfl), (Nat.le_of_ble_eq_true rfl)⟩) (xR_pv (hP.sub [3, 4] rfl) hK (va_recv hK hP (ci := 4) (q0 := 3) rfl rfl)) rfl rfl hl.1 rfl (lv_room (Nat.le_of_ble_eq_true rfl)) dX3_read_21 ⟨Nat.zero_le _, Nat.zero_le _⟩) (fun r1 hw => ?_)
        refine lv_lstore (lv' := [(6, .long r1), (0, .ref w_ro), (1, .ref s_sh), (2, .int x2), (3, .int x3), (4, .int x4), (5, .int x5)]) hx hb dX3_read_24 hl (by decide) rfl (fun ls hl => ?_)
        refine lv_aload_n hx hb dX3_read_26 rfl (lv_at hl 2 rfl) ?_
        refine lv_iload_n hx hb dX3_read_27 rfl (lv_at hl 3 rfl) ?_
        refine lv_iconst (v := 2) hx hb dX3_read_28 (by decide) ?_
        refine lv_iload hx hb dX3_read_29 (lv_at hl 6 rfl) ?_
        refine lv_imul hx hb dX3_read_31 ?_
        refine lv_iadd hx hb dX3_read_32 ?_
        refine lv_iconst (v := 1) hx hb dX3_read_33 (by decide) ?_
        refine lv_iadd hx hb dX3_read_34 ?_
        refine vp_callSl (W.runV (As := [.int ((x2 + ((2 : Int32) * x5)) + (1 : Int32))]) (rest := []) ⟨hx, hb, hml, hown, hts⟩ (c_X4_valueAt l D G s_sh s_ait s_lane s_size s_items ((x2 + ((2 : Int32) * x5)) + (1 : Int32)) _ hw) (cwV 1 hts gX3_read_X4_valueAt rfl rfl rfl (by decide +kernel) ⟨(Nat.le_of_ble_eq_true rfl), (Nat.le_of_ble_eq_true rfl)⟩) (xR_pv (hP.sub [3, 4] rfl) hK (va_recv hK hP (ci := 4) (q0 := 3) rfl rfl)) rfl rfl hl.1 rfl (lv_room (Nat.le_of_ble_eq_true rfl)) dX3_read_35 ⟨Nat.zero_le _, Nat.zero_le _⟩) (fun r2 hw => ?_)
        refine lv_lstore (lv' := [(8, .long r2), (6, .long r1), (0, .ref w_ro), (1, .ref s_sh), (2, .int x2), (3, .int x3), (4, .int x4), (5, .int x5)]) hx hb dX3_read_38 hl (by decide) rfl (fun ls hl => ?_)
        refine lv_lload hx hb dX3_read_40 (lv_at hl 1 rfl) ?_
        refine lv_lconst (v := 1) hx hb dX3_read_42 (by decide) ?_
        refine W.lcmp hx hb dX3_read_43 ?_
        refine lv_if_lt (tgt := 70) hx hb dX3_read_44 (by decide) (fun c9 => ?_) (fun c9 => ?_)
        · replace hw := hw.1 c9
          refine lv_iconst (v := 0) hx hb dX3_read_70 (by decide) ?_
          exact W.zret hx hb hr rfl (x_mi (u := (w_pairs, w_mixes, w_answers)) hP hK hD hS hw) hS.2.2 dX3_read_71
        · replace hw := hw.2 c9
          refine lv_lload hx hb dX3_read_47 (lv_at hl 1 rfl) ?_
          refine lv_iload hx hb dX3_read_49 (lv_at hl 6 rfl) ?_
          refine lv_i2l hx hb dX3_read_51 rfl ?_
          refine W.lcmp hx hb dX3_read_52 ?_
          refine lv_if_gt (tgt := 70) hx hb dX3_read_53 (by decide) (fun c9 => ?_) (fun c9 => ?_)
          · replace hw := hw.1 c9
            refine lv_iconst (v := 0) hx hb dX3_read_70 (by decide) ?_
            exact W.zret hx hb hr rfl (x_mi (u := (w_pairs, w_mixes, w_answers)) hP hK hD hS hw) hS.2.2 dX3_read_71
          · replace hw := hw.2 c9
            refine lv_lload hx hb dX3_read_56 (lv_at hl 0 rfl) ?_
            refine lv_lconst (v := 0) hx hb dX3_read_58 (by decide) ?_
            refine W.lcmp hx hb dX3_read_59 ?_
            refine lv_if_lt (tgt := 70) hx hb dX3_read_60 (by decide) (fun c9 => ?_) (fun c9 => ?_)
            · replace hw := hw.1 c9
              refine lv_iconst (v := 0) hx hb dX3_read_70 (by decide) ?_
              exact W.zret hx hb hr rfl (x_mi (u := (w_pairs, w_mixes, w_answers)) hP hK hD hS hw) hS.2.2 dX3_read_71
            · replace hw := hw.2 c9
              refine lv_lload hx hb dX3_read_63 (lv_at hl 0 rfl) ?_
              refine lv_lconst (v := 1) hx hb dX3_read_65 (by decide) ?_
              refine W.lcmp hx hb dX3_read_66 ?_
              refine lv_if_le (tgt := 72) hx hb dX3_read_67 (by decide) (fun c9 => ?_) (fun c9 => ?_)
              · replace hw := hw.1 c9
                refine lv_aload_n hx hb dX3_read_72 rfl (lv_at hl 2 rfl) ?_
                refine va_get (D := D) (ci := 3) (v := .ref w_amx) (C := RX3) (T := TX3) (N := 4) hx hb hts inX3 hown hK hP 0 rfl rfl 0 (by decide) fl9 (fun _ h9 => h9) rfl dX3_read_73 ?_
                refine lv_iload hx hb dX3_read_76 (lv_at hl 7 rfl) ?_
                refine lv_lload hx hb dX3_read_78 (lv_at hl 1 rfl) ?_
                refine lv_l2i hx hb dX3_read_80 rfl ?_
                refine x_iast (j := x5.toNatClampNeg) hx hb hK hP hD hS 1 0 rfl rfl rfl hw.1 dX3_read_81 (fun H locs hP hD hS => ?_)
                replace hw := hw.2
                replace hP : va_P D vwCl [(w_ro, .inr (3, [.ref w_amx, .ref w_aan, .int w_pairs, .ref w_aag])), (w_amx, .inl (G 0, 6, .inl (upd w_mixes x5.toNatClampNeg (r1.toInt32)))), (w_aan, .inl (G 0, 6, .inl w_answers)), (s_sh, .inr (4, [.ref s_ait, .int s_lane, .int s_size])), (s_ait, .inl (G 1, 24, .inr (.inl s_items)))] H := hP
                replace hD : va_D A [(w_ro, .inr (3, [.ref w_amx, .ref w_aan, .int w_pairs, .ref w_aag])), (w_amx, .inl (G 0, 6, .inl (upd w_mixes x5.toNatClampNeg (r1.toInt32)))), (w_aan, .inl (G 0, 6, .inl w_answers)), (s_sh, .inr (4, [.ref s_ait, .int s_lane, .int s_size])), (s_ait, .inl (G 1, 24, .inr (.inl s_items)))] := hD
                refine lv_aload_n hx hb dX3_read_82 rfl (lv_at hl 2 rfl) ?_
                refine va_get (D := D) (ci := 3) (v := .ref w_aan) (C := RX3) (T := TX3) (N := 4) hx hb hts inX3 hown hK hP 0 rfl rfl 1 (by decide) fl15 (fun _ h9 => h9) rfl dX3_read_83 ?_
                refine lv_iload hx hb dX3_read_86 (lv_at hl 7 rfl) ?_
                refine lv_lload hx hb dX3_read_88 (lv_at hl 0 rfl) ?_
                refine lv_l2i hx hb dX3_read_90 rfl ?_
                refine x_iast (j := x5.toNatClampNeg) hx hb hK hP hD hS 2 0 rfl rfl rfl hw.1 dX3_read_91 (fun H locs hP hD hS => ?_)
                replace hw := hw.2
                replace hP : va_P D vwCl [(w_ro, .inr (3, [.ref w_amx, .ref w_aan, .int w_pairs, .ref w_aag])), (w_amx, .inl (G 0, 6, .inl (upd w_mixes x5.toNatClampNeg (r1.toInt32)))), (w_aan, .inl (G 0, 6, .inl (upd w_answers x5.toNatClampNeg (r2.toInt32)))), (s_sh, .inr (4, [.ref s_ait, .int s_lane, .int s_size])), (s_ait, .inl (G 1, 24, .inr (.inl s_items)))] H := hP
                replace hD : va_D A [(w_ro, .inr (3, [.ref w_amx, .ref w_aan, .int w_pairs, .ref w_aag])), (w_amx, .inl (G 0, 6, .inl (upd w_mixes x5.toNatClampNeg (r1.toInt32)))), (w_aan, .inl (G 0, 6, .inl (upd w_answers x5.toNatClampNeg (r2.toInt32)))), (s_sh, .inr (4, [.ref s_ait, .int s_lane, .int s_size])), (s_ait, .inl (G 1, 24, .inr (.inl s_items)))] := hD
                refine lv_aload_n hx hb dX3_read_92 rfl (lv_at hl 2 rfl) ?_
                refine lv_dup hx hb dX3_read_93 rfl ?_
                refine va_get (D := D) (ci := 3) (v := .int w_pairs) (C := RX3) (T := TX3) (N := 4) hx hb hts inX3 hown hK hP 0 rfl rfl 2 (by decide) fl18 (fun _ h9 => h9) rfl dX3_read_94 ?_
                refine lv_iconst (v := 1) hx hb dX3_read_97 (by decide) ?_
                refine lv_iadd hx hb dX3_read_98 ?_
                refine va_put (D := D) (ci := 3) (v := .int (w_pairs + (1 : Int32))) (ty := .int) (C := RX3) (T := TX3) (N := 4) hx hb hts inX3 tyX3 tyX3_ok nmX3 hown hK hP hD hS 0 rfl rfl 2 (by decide) fl18 (fun _ h9 => h9) rfl (by decide +kernel) rfl rfl (Nat.le_of_ble_eq_true rfl) dX3_read_99 (fun H locs hP hD hS => ?_)
                replace hP : va_P D vwCl [(w_ro, .inr (3, [.ref w_amx, .ref w_aan, .int (w_pairs + (1 : Int32)), .ref w_aag])), (w_amx, .inl (G 0, 6, .inl (upd w_mixes x5.toNatClampNeg (r1.toInt32)))), (w_aan, .inl (G 0, 6, .inl (upd w_answers x5.toNatClampNeg (r2.toInt32)))), (s_sh, .inr (4, [.ref s_ait, .int s_lane, .int s_size])), (s_ait, .inl (G 1, 24, .inr (.inl s_items)))] H := hP
                replace hD : va_D A [(w_ro, .inr (3, [.ref w_amx, .ref w_aan, .int (w_pairs + (1 : Int32)), .ref w_aag])), (w_amx, .inl (G 0, 6, .inl (upd w_mixes x5.toNatClampNeg (r1.toInt32)))), (w_aan, .inl (G 0, 6, .inl (upd w_answers x5.toNatClampNeg (r2.toInt32)))), (s_sh, .inr (4, [.ref s_ait, .int s_lane, .int s_size])), (s_ait, .inl (G 1, 24, .inr (.inl s_items)))] := hD
                refine lv_iinc (v := (x5 + 1)) (lv' := [(5, .int (x5 + 1)), (8, .long r2), (6, .long r1), (0, .ref w_ro), (1, .ref s_sh), (2, .int x2), (3, .int x3), (4, .int x4)]) hx hb dX3_read_102 hl (k := 7) rfl (by first | rfl | decide) (by decide) rfl (fun ls hl => ?_)
                refine lv_goto (tgt := 8) hx hb dX3_read_105 (by decide) ?_
                exact ih8 (x5 + 1) (w_pairs + (1 : Int32)) (upd w_mixes x5.toNatClampNeg (r1.toInt32)) (upd w_answers x5.toNatClampNeg (r2.toInt32)) _ _ _ hw hP hD hS (lv_sub hl [3, 4, 5, 6, 7, 0] rfl)
              · replace hw := hw.2 c9
                refine lv_iconst (v := 0) hx hb dX3_read_70 (by decide) ?_
                exact W.zret hx hb hr rfl (x_mi (u := (w_pairs, w_mixes, w_answers)) hP hK hD hS hw) hS.2.2 dX3_read_71
  refine lv_aload_n hx hb dX3_read_0 rfl (lv_at hl 0 rfl) ?_
  refine lv_iconst (v := 0) hx hb dX3_read_1 (by decide) ?_
  refine va_put (D := D) (ci := 3) (v := .int (0 : Int32)) (ty := .int) (C := RX3) (T := TX3) (N := 4) hx hb hts inX3 tyX3 tyX3_ok nmX3 hown hK hP hD hS 0 rfl rfl 2 (by decide) fl18 (fun _ h9 => h9) rfl (by decide +kernel) rfl rfl (Nat.le_of_ble_eq_true rfl) dX3_read_2 (fun H locs hP hD hS => ?_)
  replace hP : va_P D vwCl [(w_ro, .inr (3, [.ref w_amx, .ref w_aan, .int (0 : Int32), .ref w_aag])), (w_amx, .inl (G 0, 6, .inl w_mixes)), (w_aan, .inl (G 0, 6, .inl w_answers)), (s_sh, .inr (4, [.ref s_ait, .int s_lane, .int s_size])), (s_ait, .inl (G 1, 24, .inr (.inl s_items)))] H := hP
  replace hD : va_D A [(w_ro, .inr (3, [.ref w_amx, .ref w_aan, .int (0 : Int32), .ref w_aag])), (w_amx, .inl (G 0, 6, .inl w_mixes)), (w_aan, .inl (G 0, 6, .inl w_answers)), (s_sh, .inr (4, [.ref s_ait, .int s_lane, .int s_size])), (s_ait, .inl (G 1, 24, .inr (.inl s_items)))] := hD
  refine lv_iconst (v := 0) hx hb dX3_read_5 (by decide) ?_
  refine lv_istore (lv' := [(5, .int (0 : Int32)), (0, .ref w_ro), (1, .ref s_sh), (2, .int x2), (3, .int x3), (4, .int x4)]) hx hb dX3_read_6 hl (by decide) rfl (fun ls hl => ?_)
  obtain ⟨n, hw⟩ := hw
  exact L8 n (0 : Int32) (0 : Int32) w_mixes w_answers _ _ _ hw hP hD hS (lv_sub hl [1, 2, 3, 4, 5, 0] rfl)
set_option maxHeartbeats 4000000 in
set_option maxRecDepth 100000 in
theorem c_X3_compare (l : Launch) (D : va_G) (G : Nat → ClassId) (sz : Nat) (w_ro : Nat) (w_amx : Nat) (w_aan : Nat) (w_aag : Nat) (da : Nat) (ami : Nat) (aki : Nat) (afi : Nat) (anw : Nat) (apa : Nat) (w_pairs : Int32) (w_mixes : Nat → Int32) (w_answers : Nat → Int32) (w_agreed : Nat → Int32) (cows : Int32) (tasters : Int32) (newest : Int32) (known : Int32) (milks : Nat → Int32) (mayBe : Int32) (bearer : Int32) (day : Int32) (draw : Int32) (x2 : Int32) (x3 : Int32) (post : (Nat → Int32) → Prop) (hw : wp_X3_compare w_pairs w_mixes w_answers w_agreed cows milks day x2 x3 post) : Met l yX3_compare wsX3_compare ({ frames := 4, cells := 0, slots := 0, locals := 96 } : Room) (va_Pc [.ref w_ro, .ref da, .int x2, .int x3] (xM D G sz [(w_ro, .inr (3, [.ref w_amx, .ref w_aan, .int w_pairs, .ref w_aag])), (w_amx, .inl (G 0, 6, .inl w_mixes)), (w_aan, .inl (G 0, 6, .inl w_answers)), (w_aag, .inl (G 0, 6, .inl w_agreed)), (da, .inr (0, [.ref ami, .int cows, .ref aki, .ref afi, .int tasters, .ref anw, .ref apa, .int newest, .int known])), (ami, .inl (G 0, 8, .inl milks)), (anw, .inr (1, [.int mayBe, .int bearer, .int day, .int draw]))])) (va_Qv (fun (u : (Nat → Int32)) => post u) (fun u t => xE D G (va_A [(w_ro, .inr (3, [.ref w_amx, .ref w_aan, .int w_pairs, .ref w_aag])), (w_amx, .inl (G 0, 6, .inl w_mixes)), (w_aan, .inl (G 0, 6, .inl w_answers)), (w_aag, .inl (G 0, 6, .inl w_agreed)), (da, .inr (0, [.ref ami, .int cows, .ref aki, .ref afi, .int tasters, .ref anw, .ref apa, .int newest, .int known])), (ami, .inl (G 0, 8, .inl milks)), (anw, .inr (1, [.int mayBe, .int bearer, .int day, .int draw]))] sz) [(w_ro, .inr (3, [.ref w_amx, .ref w_aan, .int w_pairs, .ref w_aag])), (w_amx, .inl (G 0, 6, .inl w_mixes)), (w_aan, .inl (G 0, 6, .inl w_answers)), (w_aag, .inl (G 0, 6, .inl u)), (da, .inr (0, [.ref ami, .int cows, .ref aki, .ref afi, .int tasters, .ref anw, .ref apa, .int newest, .int known])), (ami, .inl (G 0, 8, .inl milks)), (anw, .inr (1, [.int mayBe, .int bearer, .int day, .int draw]))] t) (va_A [(w_ro, .inr (3, [.ref w_amx, .ref w_aan, .int w_pairs, .ref w_aag])), (w_amx, .inl (G 0, 6, .inl w_mixes)), (w_aan, .inl (G 0, 6, .inl w_answers)), (w_aag, .inl (G 0, 6, .inl w_agreed)), (da, .inr (0, [.ref ami, .int cows, .ref aki, .ref afi, .int tasters, .ref anw, .ref apa, .int newest, .int known])), (ami, .inl (G 0, 8, .inl milks)), (anw, .inr (1, [.int mayBe, .int bearer, .int day, .int draw]))] sz)) 0 0 (va_A [(w_ro, .inr (3, [.ref w_amx, .ref w_aan, .int w_pairs, .ref w_aag])), (w_amx, .inl (G 0, 6, .inl w_mixes)), (w_aan, .inl (G 0, 6, .inl w_answers)), (w_aag, .inl (G 0, 6, .inl w_agreed)), (da, .inr (0, [.ref ami, .int cows, .ref aki, .ref afi, .int tasters, .ref anw, .ref apa, .int newest, .int known])), (ami, .inl (G 0, 8, .inl milks)), (anw, .inr (1, [.int mayBe, .int bearer, .int day, .int draw]))] sz) := by
  refine Met.ofW (cc := cX3_compare) (maxL := 5) (ret := none) (by decide) rfl ?_
  intro p e s m args below meth c s₁ B hml hv
  obtain ⟨rfl, hsz, hP, hK, hD0⟩ := hv
  have hx := B.exec
  have hb := B.bytes
  have hr := B.returns
  have hts := atoms_spec (ws := wsX3_compare) B.pre
  have hown : s.vm.findClass RX3 = some m.cls := findClass_of_methodNamed B.named
  have hlocks := B.notSynchronized
  subst hsz
  have hD := hD0.self (sz := s.heap.size)
  generalize hAe : va_A [(w_ro, .inr (3, [.ref w_amx, .ref w_aan, .int w_pairs, .ref w_aag])), (w_amx, .inl (G 0, 6, .inl w_mixes)), (w_aan, .inl (G 0, 6, .inl w_answers)), (w_aag, .inl (G 0, 6, .inl w_agreed)), (da, .inr (0, [.ref ami, .int cows, .ref aki, .ref afi, .int tasters, .ref anw, .ref apa, .int newest, .int known])), (ami, .inl (G 0, 8, .inl milks)), (anw, .inr (1, [.int mayBe, .int bearer, .int day, .int draw]))] s.heap.size = A at hD ⊢
  have hA : ∀ q : Nat, s.heap.size ≤ q → A q := fun q h => by rw [← hAe]; exact Or.inr h
  have hS : va_S A s.heap s.heap [] := va_S.rf
  have inX3 : ∀ w ∈ wsX30, w ∈ wsX3_compare := by decide +kernel
  have fl18 := hts (.fieldLink RX3 18 "NewsCow$Row" "pairs" "I") (by decide +kernel)
  have fl22 := hts (.fieldLink RX3 22 "NewsCow$Row" "agreed" "[I") (by decide +kernel)
  have fl9 := hts (.fieldLink RX3 9 "NewsCow$Row" "mixes" "[I") (by decide +kernel)
  have fl15 := hts (.fieldLink RX3 15 "NewsCow$Row" "answers" "[I") (by decide +kernel)
  have hl := lv_entry ([.ref w_ro, .ref da, .int x2, .int x3] : List Value) (n := 5) (Nat.le_of_ble_eq_true rfl)
  rw [lg_entry_eq]
  generalize (lg_sl ([.ref w_ro, .ref da, .int x2, .int x3] : List Value) ++ List.replicate (5 - (lg_sl ([.ref w_ro, .ref da, .int x2, .int x3] : List Value)).length) Slot.unset).toArray = ls at hl ⊢
  have hl : lv_has ls 5 [(0, .ref w_ro), (1, .ref da), (2, .int x2), (3, .int x3)] := hl
  unfold wp_X3_compare at hw
  have L3 : ∀ (f3 : Nat) (x4 : Int32) (w_agreed : Nat → Int32) (H : Heap) (locs : List Loc) (ls : Array Slot), wp_X3_compare_L3 w_pairs w_mixes w_answers cows milks day x2 x3 post f3 w_agreed x4 → va_P D vwCl [(w_ro, .inr (3, [.ref w_amx, .ref w_aan, .int w_pairs, .ref w_aag])), (w_amx, .inl (G 0, 6, .inl w_mixes)), (w_aan, .inl (G 0, 6, .inl w_answers)), (w_aag, .inl (G 0, 6, .inl w_agreed)), (da, .inr (0, [.ref ami, .int cows, .ref aki, .ref afi, .int tasters, .ref anw, .ref apa, .int newest, .int known])), (ami, .inl (G 0, 8, .inl milks)), (anw, .inr (1, [.int mayBe, .int bearer, .int day, .int draw]))] H → va_D A [(w_ro, .inr (3, [.ref w_amx, .ref w_aan, .int w_pairs, .ref w_aag])), (w_amx, .inl (G 0, 6, .inl w_mixes)), (w_aan, .inl (G 0, 6, .inl w_answers)), (w_aag, .inl (G 0, 6, .inl w_agreed)), (da, .inr (0, [.ref ami, .int cows, .ref aki, .ref afi, .int tasters, .ref anw, .ref apa, .int newest, .int known])), (ami, .inl (G 0, 8, .inl milks)), (anw, .inr (1, [.int mayBe, .int bearer, .int day, .int draw]))] → va_S A s.heap H locs → lv_has ls 5 [(0, .ref w_ro), (1, .ref da), (2, .int x2), (3, .int x3), (4, .int x4)] → W p l e (headSpec wsX3_compare ({ frames := 4, cells := 0, slots := 0, locals := 96 } : Room)).room s m ([.ref w_ro, .ref da, .int x2, .int x3] : List Value).toArray below meth c H locs 0 0 (MQ below (va_Qv (fun (u : (Nat → Int32)) => post u) (fun u t => xE D G A [(w_ro, .inr (3, [.ref w_amx, .ref w_aan, .int w_pairs, .ref w_aag])), (w_amx, .inl (G 0, 6, .inl w_mixes)), (w_aan, .inl (G 0, 6, .inl w_answers)), (w_aag, .inl (G 0, 6, .inl u)), (da, .inr (0, [.ref ami, .int cows, .ref aki, .ref afi, .int tasters, .ref anw, .ref apa, .int newest, .int known])), (ami, .inl (G 0, 8, .inl milks)), (anw, .inr (1, [.int mayBe, .int bearer, .int day, .int draw]))] t) A) ([.ref w_ro, .ref da, .int x2, .int x3] : List Value).toArray s 0 0 A) (F0 m 3 ls []) := by
    intro f3
    induction f3 with
    | zero => intro x4 w_agreed H locs ls hw hP hD hS hl; exact (hw : False).elim
    | succ f3 ih3 =>
      intro x4 w_agreed H locs ls hw hP hD hS hl
      unfold wp_X3_compare_L3 at hw
      refine lv_iload hx hb dX3_compare_3 (lv_at hl 4 rfl) ?_
      refine lv_aload_n hx hb dX3_compare_5 rfl (lv_at hl 0 rfl) ?_
      refine va_get (D := D) (ci := 3) (v := .int w_pairs) (C := RX3) (T := TX3) (N := 4) hx hb hts inX3 hown hK hP 0 rfl rfl 2 (by decide) fl18 (fun _ h9 => h9) rfl dX3_compare_6 ?_
      refine lv_icmp_ge (tgt := 45) hx hb dX3_compare_9 (by decide) (fun c9 => ?_) (fun c9 => ?_)
      · replace hw := hw.1 c9
        exact W.vret hx hb hr (x_mv (u := w_agreed) hP hK hD hS hw) hS.2.2 dX3_compare_45
      · replace hw := hw.2 c9
        refine lv_aload_n hx hb dX3_compare_12 rfl (lv_at hl 0 rfl) ?_
        refine va_get (D := D) (ci := 3) (v := .ref w_aag) (C := RX3) (T := TX3) (N := 4) hx hb hts inX3 hown hK hP 0 rfl rfl 3 (by decide) fl22 (fun _ h9 => h9) rfl dX3_compare_13 ?_
        refine lv_iload hx hb dX3_compare_16 (lv_at hl 4 rfl) ?_
        refine lv_aload_n hx hb dX3_compare_18 rfl (lv_at hl 1 rfl) ?_
        refine lv_iload_n hx hb dX3_compare_19 rfl (lv_at hl 2 rfl) ?_
        refine lv_iload_n hx hb dX3_compare_20 rfl (lv_at hl 3 rfl) ?_
        refine lv_aload_n hx hb dX3_compare_21 rfl (lv_at hl 0 rfl) ?_
        refine va_get (D := D) (ci := 3) (v := .ref w_amx) (C := RX3) (T := TX3) (N := 4) hx hb hts inX3 hown hK hP 0 rfl rfl 0 (by decide) fl9 (fun _ h9 => h9) rfl dX3_compare_22 ?_
        refine lv_iload hx hb dX3_compare_25 (lv_at hl 4 rfl) ?_
        refine x_iald (j := x4.toNatClampNeg) hx hb hK hP 1 0 rfl rfl rfl hw.1 dX3_compare_27 ?_
        replace hw := hw.2
        refine lv_aload_n hx hb dX3_compare_28 rfl (lv_at hl 0 rfl) ?_
        refine va_get (D := D) (ci := 3) (v := .ref w_aan) (C := RX3) (T := TX3) (N := 4) hx hb hts inX3 hown hK hP 0 rfl rfl 1 (by decide) fl15 (fun _ h9 => h9) rfl dX3_compare_29 ?_
        refine lv_iload hx hb dX3_compare_32 (lv_at hl 4 rfl) ?_
        refine x_iald (j := x4.toNatClampNeg) hx hb hK hP 2 0 rfl rfl rfl hw.1 dX3_compare_34 ?_
        replace hw := hw.2
        refine vp_callSi (W.runV (As := [.int x2, .int x3, .int (w_mixes x4.toNatClampNeg), .int (w_answers x4.toNatClampNeg)]) (rest := [.int x4, .ref w_aag]) ⟨hx, hb, hml, hown, hts⟩ (c_X0_agreeing l D G da ami aki afi anw apa cows tasters newest known milks mayBe bearer day draw x2 x3 (w_mixes x4.toNatClampNeg) (w_answers x4.toNatClampNeg) _ hw) (cwV 4 hts gX3_compare_X0_agreeing rfl rfl rfl (by decide +kernel) ⟨(Nat.le_of_ble_eq_true rfl), (Nat.le_of_ble_eq_true rfl)⟩) (xR_pv (hP.sub [4, 5, 6] rfl) hK (va_recv hK hP (ci := 0) (q0 := 4) rfl rfl)) rfl rfl hl.1 rfl (lv_room (Nat.le_of_ble_eq_true rfl)) dX3_compare_35 ⟨Nat.zero_le _, Nat.zero_le _⟩) (fun r1 hw => ?_)
        refine x_iast (j := x4.toNatClampNeg) hx hb hK hP hD hS 3 0 rfl rfl rfl hw.1 dX3_compare_38 (fun H locs hP hD hS => ?_)
        replace hw := hw.2
        replace hP : va_P D vwCl [(w_ro, .inr (3, [.ref w_amx, .ref w_aan, .int w_pairs, .ref w_aag])), (w_amx, .inl (G 0, 6, .inl w_mixes)), (w_aan, .inl (G 0, 6, .inl w_answers)), (w_aag, .inl (G 0, 6, .inl (upd w_agreed x4.toNatClampNeg r1))), (da, .inr (0, [.ref ami, .int cows, .ref aki, .ref afi, .int tasters, .ref anw, .ref apa, .int newest, .int known])), (ami, .inl (G 0, 8, .inl milks)), (anw, .inr (1, [.int mayBe, .int bearer, .int day, .int draw]))] H := hP
        replace hD : va_D A [(w_ro, .inr (3, [.ref w_amx, .ref w_aan, .int w_pairs, .ref w_aag])), (w_amx, .inl (G 0, 6, .inl w_mixes)), (w_aan, .inl (G 0, 6, .inl w_answers)), (w_aag, .inl (G 0, 6, .inl (upd w_agreed x4.toNatClampNeg r1))), (da, .inr (0, [.ref ami, .int cows, .ref aki, .ref afi, .int tasters, .ref anw, .ref apa, .int newest, .int known])), (ami, .inl (G 0, 8, .inl milks)), (anw, .inr (1, [.int mayBe, .int bearer, .int day, .int draw]))] := hD
        refine lv_iinc (v := (x4 + 1)) (lv' := [(4, .int (x4 + 1)), (0, .ref w_ro), (1, .ref da), (2, .int x2), (3, .int x3)]) hx hb dX3_compare_39 hl (k := 4) rfl (by first | rfl | decide) (by decide) rfl (fun ls hl => ?_)
        refine lv_goto (tgt := 3) hx hb dX3_compare_42 (by decide) ?_
        exact ih3 (x4 + 1) (upd w_agreed x4.toNatClampNeg r1) _ _ _ hw hP hD hS (lv_sub hl [1, 2, 3, 4, 0] rfl)
  refine lv_iconst (v := 0) hx hb dX3_compare_0 (by decide) ?_
  refine lv_istore (lv' := [(4, .int (0 : Int32)), (0, .ref w_ro), (1, .ref da), (2, .int x2), (3, .int x3)]) hx hb dX3_compare_1 hl (by decide) rfl (fun ls hl => ?_)
  obtain ⟨n, hw⟩ := hw
  exact L3 n (0 : Int32) w_agreed _ _ _ hw hP hD hS (lv_sub hl [1, 2, 3, 4, 0] rfl)
set_option maxHeartbeats 4000000 in
set_option maxRecDepth 100000 in
theorem c_X3_fitting (l : Launch) (D : va_G) (G : Nat → ClassId) (w_ro : Nat) (w_amx : Nat) (w_aan : Nat) (w_aag : Nat) (da : Nat) (ami : Nat) (aki : Nat) (afi : Nat) (anw : Nat) (apa : Nat) (w_pairs : Int32) (w_mixes : Nat → Int32) (w_answers : Nat → Int32) (cows : Int32) (tasters : Int32) (newest : Int32) (known : Int32) (milks : Nat → Int32) (mayBe : Int32) (bearer : Int32) (day : Int32) (draw : Int32) (x2 : Int32) (x3 : Int32) (post : Int32 → Prop) (hw : wp_X3_fitting w_pairs w_mixes w_answers cows milks day x2 x3 post) : Met l yX3_fitting wsX3_fitting ({ frames := 4, cells := 0, slots := 0, locals := 96 } : Room) (va_Pc [.ref w_ro, .ref da, .int x2, .int x3] (xR D G [(w_ro, .inr (3, [.ref w_amx, .ref w_aan, .int w_pairs, .ref w_aag])), (w_amx, .inl (G 0, 6, .inl w_mixes)), (w_aan, .inl (G 0, 6, .inl w_answers)), (da, .inr (0, [.ref ami, .int cows, .ref aki, .ref afi, .int tasters, .ref anw, .ref apa, .int newest, .int known])), (ami, .inl (G 0, 8, .inl milks)), (anw, .inr (1, [.int mayBe, .int bearer, .int day, .int draw]))])) (vp_Si post) 0 0 (fun _ => False) := by
  refine Met.ofW (cc := cX3_fitting) (maxL := 6) (ret := (some .int)) (by decide) rfl ?_
  intro p e s m args below meth c s₁ B hml hv
  obtain ⟨rfl, hP, hK⟩ := hv
  have hx := B.exec
  have hb := B.bytes
  have hr := B.returns
  have hts := atoms_spec (ws := wsX3_fitting) B.pre
  have hown : s.vm.findClass RX3 = some m.cls := findClass_of_methodNamed B.named
  have hlocks := B.notSynchronized
  have inX3 : ∀ w ∈ wsX30, w ∈ wsX3_fitting := by decide +kernel
  have fl18 := hts (.fieldLink RX3 18 "NewsCow$Row" "pairs" "I") (by decide +kernel)
  have fl9 := hts (.fieldLink RX3 9 "NewsCow$Row" "mixes" "[I") (by decide +kernel)
  have fl15 := hts (.fieldLink RX3 15 "NewsCow$Row" "answers" "[I") (by decide +kernel)
  have hl := lv_entry ([.ref w_ro, .ref da, .int x2, .int x3] : List Value) (n := 6) (Nat.le_of_ble_eq_true rfl)
  rw [lg_entry_eq]
  generalize (lg_sl ([.ref w_ro, .ref da, .int x2, .int x3] : List Value) ++ List.replicate (6 - (lg_sl ([.ref w_ro, .ref da, .int x2, .int x3] : List Value)).length) Slot.unset).toArray = ls at hl ⊢
  have hl : lv_has ls 6 [(0, .ref w_ro), (1, .ref da), (2, .int x2), (3, .int x3)] := hl
  unfold wp_X3_fitting at hw
  have L9 : ∀ (f9 : Nat) (x4 : Int32) (x5 : Int32) (ls : Array Slot), wp_X3_fitting_L9 w_pairs w_mixes w_answers cows milks day x2 x3 post f9 x4 x5 → lv_has ls 6 [(0, .ref w_ro), (1, .ref da), (2, .int x2), (3, .int x3), (4, .int x4), (5, .int x5)] → W p l e (headSpec wsX3_fitting ({ frames := 4, cells := 0, slots := 0, locals := 96 } : Room)).room s m ([.ref w_ro, .ref da, .int x2, .int x3] : List Value).toArray below meth c s.heap [] 0 0 (MQ below (vp_Si post) ([.ref w_ro, .ref da, .int x2, .int x3] : List Value).toArray s 0 0 (fun _ => False)) (F0 m 9 ls []) := by
    intro f9
    induction f9 with
    | zero => intro x4 x5 ls hw hl; exact (hw : False).elim
    | succ f9 ih9 =>
      intro x4 x5 ls hw hl
      unfold wp_X3_fitting_L9 at hw
      refine lv_iload hx hb dX3_fitting_9 (lv_at hl 5 rfl) ?_
      refine lv_aload_n hx hb dX3_fitting_11 rfl (lv_at hl 0 rfl) ?_
      refine va_get (D := D) (ci := 3) (v := .int w_pairs) (C := RX3) (T := TX3) (N := 4) hx hb hts inX3 hown hK hP 0 rfl rfl 2 (by decide) fl18 (fun _ h9 => h9) rfl dX3_fitting_12 ?_
      refine lv_icmp_ge (tgt := 49) hx hb dX3_fitting_15 (by decide) (fun c9 => ?_) (fun c9 => ?_)
      · replace hw := hw.1 c9
        refine lv_iload hx hb dX3_fitting_49 (lv_at hl 4 rfl) ?_
        exact W.iret hx hb hr (fun t ht _ => ⟨_, rfl, hw, ht⟩) (fun _ h => absurd h List.not_mem_nil) dX3_fitting_51
      · replace hw := hw.2 c9
        refine lv_iload hx hb dX3_fitting_18 (lv_at hl 4 rfl) ?_
        refine lv_aload_n hx hb dX3_fitting_20 rfl (lv_at hl 1 rfl) ?_
        refine lv_iload_n hx hb dX3_fitting_21 rfl (lv_at hl 2 rfl) ?_
        refine lv_iload_n hx hb dX3_fitting_22 rfl (lv_at hl 3 rfl) ?_
        refine lv_aload_n hx hb dX3_fitting_23 rfl (lv_at hl 0 rfl) ?_
        refine va_get (D := D) (ci := 3) (v := .ref w_amx) (C := RX3) (T := TX3) (N := 4) hx hb hts inX3 hown hK hP 0 rfl rfl 0 (by decide) fl9 (fun _ h9 => h9) rfl dX3_fitting_24 ?_
        refine lv_iload hx hb dX3_fitting_27 (lv_at hl 5 rfl) ?_
        refine x_iald (j := x5.toNatClampNeg) hx hb hK hP 1 0 rfl rfl rfl hw.1 dX3_fitting_29 ?_
        replace hw := hw.2
        refine lv_aload_n hx hb dX3_fitting_30 rfl (lv_at hl 0 rfl) ?_
        refine va_get (D := D) (ci := 3) (v := .ref w_aan) (C := RX3) (T := TX3) (N := 4) hx hb hts inX3 hown hK hP 0 rfl rfl 1 (by decide) fl15 (fun _ h9 => h9) rfl dX3_fitting_31 ?_
        refine lv_iload hx hb dX3_fitting_34 (lv_at hl 5 rfl) ?_
        refine x_iald (j := x5.toNatClampNeg) hx hb hK hP 2 0 rfl rfl rfl hw.1 dX3_fitting_36 ?_
        replace hw := hw.2
        refine vp_callSi (W.runV (As := [.int x2, .int x3, .int (w_mixes x5.toNatClampNeg), .int (w_answers x5.toNatClampNeg)]) (rest := [.int x4]) ⟨hx, hb, hml, hown, hts⟩ (c_X0_agreeing l D G da ami aki afi anw apa cows tasters newest known milks mayBe bearer day draw x2 x3 (w_mixes x5.toNatClampNeg) (w_answers x5.toNatClampNeg) _ hw) (cwV 4 hts gX3_fitting_X0_agreeing rfl rfl rfl (by decide +kernel) ⟨(Nat.le_of_ble_eq_true rfl), (Nat.le_of_ble_eq_true rfl)⟩) (xR_pv (hP.sub [3, 4, 5] rfl) hK (va_recv hK hP (ci := 0) (q0 := 3) rfl rfl)) rfl rfl hl.1 rfl (lv_room (Nat.le_of_ble_eq_true rfl)) dX3_fitting_37 ⟨Nat.zero_le _, Nat.zero_le _⟩) (fun r2 hw => ?_)
        refine lv_iand hx hb dX3_fitting_40 ?_
        refine lv_istore (lv' := [(4, .int (x4 &&& r2)), (0, .ref w_ro), (1, .ref da), (2, .int x2), (3, .int x3), (5, .int x5)]) hx hb dX3_fitting_41 hl (by decide) rfl (fun ls hl => ?_)
        refine lv_iinc (v := (x5 + 1)) (lv' := [(5, .int (x5 + 1)), (4, .int (x4 &&& r2)), (0, .ref w_ro), (1, .ref da), (2, .int x2), (3, .int x3)]) hx hb dX3_fitting_43 hl (k := 5) rfl (by first | rfl | decide) (by decide) rfl (fun ls hl => ?_)
        refine lv_goto (tgt := 9) hx hb dX3_fitting_46 (by decide) ?_
        exact ih9 (x4 &&& r2) (x5 + 1) _ hw (lv_sub hl [2, 3, 4, 5, 1, 0] rfl)
  refine lv_aload_n hx hb dX3_fitting_0 rfl (lv_at hl 1 rfl) ?_
  refine vp_callSi (W.runV (As := []) (rest := []) ⟨hx, hb, hml, hown, hts⟩ (c_X0_allCows l D G da ami aki afi anw apa cows tasters newest known _ hw) (cwV 0 hts gX3_fitting_X0_allCows rfl rfl rfl (by decide +kernel) ⟨(Nat.le_of_ble_eq_true rfl), (Nat.le_of_ble_eq_true rfl)⟩) (xR_pv (hP.sub [3] rfl) hK (va_recv hK hP (ci := 0) (q0 := 3) rfl rfl)) rfl rfl hl.1 rfl (lv_room (Nat.le_of_ble_eq_true rfl)) dX3_fitting_1 ⟨Nat.zero_le _, Nat.zero_le _⟩) (fun r1 hw => ?_)
  refine lv_istore (lv' := [(4, .int r1), (0, .ref w_ro), (1, .ref da), (2, .int x2), (3, .int x3)]) hx hb dX3_fitting_4 hl (by decide) rfl (fun ls hl => ?_)
  refine lv_iconst (v := 0) hx hb dX3_fitting_6 (by decide) ?_
  refine lv_istore (lv' := [(5, .int (0 : Int32)), (4, .int r1), (0, .ref w_ro), (1, .ref da), (2, .int x2), (3, .int x3)]) hx hb dX3_fitting_7 hl (by decide) rfl (fun ls hl => ?_)
  obtain ⟨n, hw⟩ := hw
  exact L9 n r1 (0 : Int32) _ hw (lv_sub hl [2, 3, 4, 5, 1, 0] rfl)
set_option maxHeartbeats 4000000 in
set_option maxRecDepth 100000 in
theorem c_X3_fittingButOne (l : Launch) (D : va_G) (G : Nat → ClassId) (w_ro : Nat) (w_amx : Nat) (w_aan : Nat) (w_aag : Nat) (da : Nat) (ami : Nat) (aki : Nat) (afi : Nat) (anw : Nat) (apa : Nat) (w_pairs : Int32) (w_mixes : Nat → Int32) (w_answers : Nat → Int32) (cows : Int32) (tasters : Int32) (newest : Int32) (known : Int32) (milks : Nat → Int32) (mayBe : Int32) (bearer : Int32) (day : Int32) (draw : Int32) (x2 : Int32) (x3 : Int32) (post : Int32 → Prop) (hw : wp_X3_fittingButOne w_pairs w_mixes w_answers cows milks day x2 x3 post) : Met l yX3_fittingButOne wsX3_fittingButOne ({ frames := 4, cells := 0, slots := 0, locals := 96 } : Room) (va_Pc [.ref w_ro, .ref da, .int x2, .int x3] (xR D G [(w_ro, .inr (3, [.ref w_amx, .ref w_aan, .int w_pairs, .ref w_aag])), (w_amx, .inl (G 0, 6, .inl w_mixes)), (w_aan, .inl (G 0, 6, .inl w_answers)), (da, .inr (0, [.ref ami, .int cows, .ref aki, .ref afi, .int tasters, .ref anw, .ref apa, .int newest, .int known])), (ami, .inl (G 0, 8, .inl milks)), (anw, .inr (1, [.int mayBe, .int bearer, .int day, .int draw]))])) (vp_Si post) 0 0 (fun _ => False) := by
  refine Met.ofW (cc := cX3_fittingButOne) (maxL := 8) (ret := (some .int)) (by decide) rfl ?_
  intro p e s m args below meth c s₁ B hml hv
  obtain ⟨rfl, hP, hK⟩ := hv
  have hx := B.exec
  have hb := B.bytes
  have hr := B.returns
  have hts := atoms_spec (ws := wsX3_fittingButOne) B.pre
  have hown : s.vm.findClass RX3 = some m.cls := findClass_of_methodNamed B.named
  have hlocks := B.notSynchronized
  have inX3 : ∀ w ∈ wsX30, w ∈ wsX3_fittingButOne := by decide +kernel
  have fl18 := hts (.fieldLink RX3 18 "NewsCow$Row" "pairs" "I") (by decide +kernel)
  have fl9 := hts (.fieldLink RX3 9 "NewsCow$Row" "mixes" "[I") (by decide +kernel)
  have fl15 := hts (.fieldLink RX3 15 "NewsCow$Row" "answers" "[I") (by decide +kernel)
  have hl := lv_entry ([.ref w_ro, .ref da, .int x2, .int x3] : List Value) (n := 8) (Nat.le_of_ble_eq_true rfl)
  rw [lg_entry_eq]
  generalize (lg_sl ([.ref w_ro, .ref da, .int x2, .int x3] : List Value) ++ List.replicate (8 - (lg_sl ([.ref w_ro, .ref da, .int x2, .int x3] : List Value)).length) Slot.unset).toArray = ls at hl ⊢
  have hl : lv_has ls 8 [(0, .ref w_ro), (1, .ref da), (2, .int x2), (3, .int x3)] := hl
  unfold wp_X3_fittingButOne at hw
  have L12 : ∀ (f12 : Nat) (x4 : Int32) (x5 : Int32) (x6 : Int32) (ls : Array Slot), wp_X3_fittingButOne_L12 w_pairs w_mixes w_answers cows milks day x2 x3 post f12 x4 x5 x6 → lv_has ls 8 [(0, .ref w_ro), (1, .ref da), (2, .int x2), (3, .int x3), (4, .int x4), (5, .int x5), (6, .int x6)] → W p l e (headSpec wsX3_fittingButOne ({ frames := 4, cells := 0, slots := 0, locals := 96 } : Room)).room s m ([.ref w_ro, .ref da, .int x2, .int x3] : List Value).toArray below meth c s.heap [] 0 0 (MQ below (vp_Si post) ([.ref w_ro, .ref da, .int x2, .int x3] : List Value).toArray s 0 0 (fun _ => False)) (F0 m 12 ls []) := by
    intro f12
    induction f12 with
    | zero => intro x4 x5 x6 ls hw hl; exact (hw : False).elim
    | succ f12 ih12 =>
      intro x4 x5 x6 ls hw hl
      unfold wp_X3_fittingButOne_L12 at hw
      refine lv_iload hx hb dX3_fittingButOne_12 (lv_at hl 6 rfl) ?_
      refine lv_aload_n hx hb dX3_fittingButOne_14 rfl (lv_at hl 0 rfl) ?_
      refine va_get (D := D) (ci := 3) (v := .int w_pairs) (C := RX3) (T := TX3) (N := 4) hx hb hts inX3 hown hK hP 0 rfl rfl 2 (by decide) fl18 (fun _ h9 => h9) rfl dX3_fittingButOne_15 ?_
      refine lv_icmp_ge (tgt := 71) hx hb dX3_fittingButOne_18 (by decide) (fun c9 => ?_) (fun c9 => ?_)
      · replace hw := hw.1 c9
        refine lv_iload hx hb dX3_fittingButOne_71 (lv_at hl 4 rfl) ?_
        refine lv_iload hx hb dX3_fittingButOne_73 (lv_at hl 5 rfl) ?_
        refine lv_ior hx hb dX3_fittingButOne_75 ?_
        exact W.iret hx hb hr (fun t ht _ => ⟨_, rfl, hw, ht⟩) (fun _ h => absurd h List.not_mem_nil) dX3_fittingButOne_76
      · replace hw := hw.2 c9
        refine lv_aload_n hx hb dX3_fittingButOne_21 rfl (lv_at hl 1 rfl) ?_
        refine lv_iload_n hx hb dX3_fittingButOne_22 rfl (lv_at hl 2 rfl) ?_
        refine lv_iload_n hx hb dX3_fittingButOne_23 rfl (lv_at hl 3 rfl) ?_
        refine lv_aload_n hx hb dX3_fittingButOne_24 rfl (lv_at hl 0 rfl) ?_
        refine va_get (D := D) (ci := 3) (v := .ref w_amx) (C := RX3) (T := TX3) (N := 4) hx hb hts inX3 hown hK hP 0 rfl rfl 0 (by decide) fl9 (fun _ h9 => h9) rfl dX3_fittingButOne_25 ?_
        refine lv_iload hx hb dX3_fittingButOne_28 (lv_at hl 6 rfl) ?_
        refine x_iald (j := x6.toNatClampNeg) hx hb hK hP 1 0 rfl rfl rfl hw.1 dX3_fittingButOne_30 ?_
        replace hw := hw.2
        refine lv_aload_n hx hb dX3_fittingButOne_31 rfl (lv_at hl 0 rfl) ?_
        refine va_get (D := D) (ci := 3) (v := .ref w_aan) (C := RX3) (T := TX3) (N := 4) hx hb hts inX3 hown hK hP 0 rfl rfl 1 (by decide) fl15 (fun _ h9 => h9) rfl dX3_fittingButOne_32 ?_
        refine lv_iload hx hb dX3_fittingButOne_35 (lv_at hl 6 rfl) ?_
        refine x_iald (j := x6.toNatClampNeg) hx hb hK hP 2 0 rfl rfl rfl hw.1 dX3_fittingButOne_37 ?_
        replace hw := hw.2
        refine vp_callSi (W.runV (As := [.int x2, .int x3, .int (w_mixes x6.toNatClampNeg), .int (w_answers x6.toNatClampNeg)]) (rest := []) ⟨hx, hb, hml, hown, hts⟩ (c_X0_agreeing l D G da ami aki afi anw apa cows tasters newest known milks mayBe bearer day draw x2 x3 (w_mixes x6.toNatClampNeg) (w_answers x6.toNatClampNeg) _ hw) (cwV 4 hts gX3_fittingButOne_X0_agreeing rfl rfl rfl (by decide +kernel) ⟨(Nat.le_of_ble_eq_true rfl), (Nat.le_of_ble_eq_true rfl)⟩) (xR_pv (hP.sub [3, 4, 5] rfl) hK (va_recv hK hP (ci := 0) (q0 := 3) rfl rfl)) rfl rfl hl.1 rfl (lv_room (Nat.le_of_ble_eq_true rfl)) dX3_fittingButOne_38 ⟨Nat.zero_le _, Nat.zero_le _⟩) (fun r2 hw => ?_)
        refine lv_istore (lv' := [(7, .int r2), (0, .ref w_ro), (1, .ref da), (2, .int x2), (3, .int x3), (4, .int x4), (5, .int x5), (6, .int x6)]) hx hb dX3_fittingButOne_41 hl (by decide) rfl (fun ls hl => ?_)
        refine lv_iload hx hb dX3_fittingButOne_43 (lv_at hl 6 rfl) ?_
        refine lv_iload hx hb dX3_fittingButOne_45 (lv_at hl 0 rfl) ?_
        refine lv_iand hx hb dX3_fittingButOne_47 ?_
        refine lv_iload hx hb dX3_fittingButOne_48 (lv_at hl 5 rfl) ?_
        refine lv_iload hx hb dX3_fittingButOne_50 (lv_at hl 0 rfl) ?_
        refine lv_iconst (v := -1) hx hb dX3_fittingButOne_52 (by decide) ?_
        refine lv_ixor hx hb dX3_fittingButOne_53 ?_
        refine lv_iand hx hb dX3_fittingButOne_54 ?_
        refine lv_ior hx hb dX3_fittingButOne_55 ?_
        refine lv_istore (lv' := [(5, .int ((x5 &&& r2) ||| (x4 &&& (r2 ^^^ (-1 : Int32))))), (7, .int r2), (0, .ref w_ro), (1, .ref da), (2, .int x2), (3, .int x3), (4, .int x4), (6, .int x6)]) hx hb dX3_fittingButOne_56 hl (by decide) rfl (fun ls hl => ?_)
        refine lv_iload hx hb dX3_fittingButOne_58 (lv_at hl 6 rfl) ?_
        refine lv_iload hx hb dX3_fittingButOne_60 (lv_at hl 1 rfl) ?_
        refine lv_iand hx hb dX3_fittingButOne_62 ?_
        refine lv_istore (lv' := [(4, .int (x4 &&& r2)), (5, .int ((x5 &&& r2) ||| (x4 &&& (r2 ^^^ (-1 : Int32))))), (7, .int r2), (0, .ref w_ro), (1, .ref da), (2, .int x2), (3, .int x3), (6, .int x6)]) hx hb dX3_fittingButOne_63 hl (by decide) rfl (fun ls hl => ?_)
        refine lv_iinc (v := (x6 + 1)) (lv' := [(6, .int (x6 + 1)), (4, .int (x4 &&& r2)), (5, .int ((x5 &&& r2) ||| (x4 &&& (r2 ^^^ (-1 : Int32))))), (7, .int r2), (0, .ref w_ro), (1, .ref da), (2, .int x2), (3, .int x3)]) hx hb dX3_fittingButOne_65 hl (k := 7) rfl (by first | rfl | decide) (by decide) rfl (fun ls hl => ?_)
        refine lv_goto (tgt := 12) hx hb dX3_fittingButOne_68 (by decide) ?_
        exact ih12 (x4 &&& r2) ((x5 &&& r2) ||| (x4 &&& (r2 ^^^ (-1 : Int32)))) (x6 + 1) _ hw (lv_sub hl [4, 5, 6, 7, 1, 2, 0] rfl)
  refine lv_aload_n hx hb dX3_fittingButOne_0 rfl (lv_at hl 1 rfl) ?_
  refine vp_callSi (W.runV (As := []) (rest := []) ⟨hx, hb, hml, hown, hts⟩ (c_X0_allCows l D G da ami aki afi anw apa cows tasters newest known _ hw) (cwV 0 hts gX3_fittingButOne_X0_allCows rfl rfl rfl (by decide +kernel) ⟨(Nat.le_of_ble_eq_true rfl), (Nat.le_of_ble_eq_true rfl)⟩) (xR_pv (hP.sub [3] rfl) hK (va_recv hK hP (ci := 0) (q0 := 3) rfl rfl)) rfl rfl hl.1 rfl (lv_room (Nat.le_of_ble_eq_true rfl)) dX3_fittingButOne_1 ⟨Nat.zero_le _, Nat.zero_le _⟩) (fun r1 hw => ?_)
  refine lv_istore (lv' := [(4, .int r1), (0, .ref w_ro), (1, .ref da), (2, .int x2), (3, .int x3)]) hx hb dX3_fittingButOne_4 hl (by decide) rfl (fun ls hl => ?_)
  refine lv_iconst (v := 0) hx hb dX3_fittingButOne_6 (by decide) ?_
  refine lv_istore (lv' := [(5, .int (0 : Int32)), (4, .int r1), (0, .ref w_ro), (1, .ref da), (2, .int x2), (3, .int x3)]) hx hb dX3_fittingButOne_7 hl (by decide) rfl (fun ls hl => ?_)
  refine lv_iconst (v := 0) hx hb dX3_fittingButOne_9 (by decide) ?_
  refine lv_istore (lv' := [(6, .int (0 : Int32)), (5, .int (0 : Int32)), (4, .int r1), (0, .ref w_ro), (1, .ref da), (2, .int x2), (3, .int x3)]) hx hb dX3_fittingButOne_10 hl (by decide) rfl (fun ls hl => ?_)
  obtain ⟨n, hw⟩ := hw
  exact L12 n r1 (0 : Int32) (0 : Int32) _ hw (lv_sub hl [3, 4, 5, 6, 2, 1, 0] rfl)
set_option maxHeartbeats 4000000 in
set_option maxRecDepth 100000 in
theorem c_X3_kindsThatFit (l : Launch) (D : va_G) (G : Nat → ClassId) (w_ro : Nat) (w_amx : Nat) (w_aan : Nat) (w_aag : Nat) (da : Nat) (ami : Nat) (aki : Nat) (afi : Nat) (anw : Nat) (apa : Nat) (w_pairs : Int32) (w_mixes : Nat → Int32) (w_answers : Nat → Int32) (cows : Int32) (tasters : Int32) (newest : Int32) (known : Int32) (milks : Nat → Int32) (mayBe : Int32) (bearer : Int32) (day : Int32) (draw : Int32) (x2 : Int32) (post : Int32 → Prop) (hw : wp_X3_kindsThatFit w_pairs w_mixes w_answers cows milks day x2 post) : Met l yX3_kindsThatFit wsX3_kindsThatFit ({ frames := 5, cells := 0, slots := 0, locals := 121 } : Room) (va_Pc [.ref w_ro, .ref da, .int x2] (xR D G [(w_ro, .inr (3, [.ref w_amx, .ref w_aan, .int w_pairs, .ref w_aag])), (w_amx, .inl (G 0, 6, .inl w_mixes)), (w_aan, .inl (G 0, 6, .inl w_answers)), (da, .inr (0, [.ref ami, .int cows, .ref aki, .ref afi, .int tasters, .ref anw, .ref apa, .int newest, .int known])), (ami, .inl (G 0, 8, .inl milks)), (anw, .inr (1, [.int mayBe, .int bearer, .int day, .int draw]))])) (vp_Si post) 0 0 (fun _ => False) := by
  refine Met.ofW (cc := cX3_kindsThatFit) (maxL := 5) (ret := (some .int)) (by decide) rfl ?_
  intro p e s m args below meth c s₁ B hml hv
  obtain ⟨rfl, hP, hK⟩ := hv
  have hx := B.exec
  have hb := B.bytes
  have hr := B.returns
  have hts := atoms_spec (ws := wsX3_kindsThatFit) B.pre
  have hown : s.vm.findClass RX3 = some m.cls := findClass_of_methodNamed B.named
  have hlocks := B.notSynchronized
  have hl := lv_entry ([.ref w_ro, .ref da, .int x2] : List Value) (n := 5) (Nat.le_of_ble_eq_true rfl)
  rw [lg_entry_eq]
  generalize (lg_sl ([.ref w_ro, .ref da, .int x2] : List Value) ++ List.replicate (5 - (lg_sl ([.ref w_ro, .ref da, .int x2] : List Value)).length) Slot.unset).toArray = ls at hl ⊢
  have hl : lv_has ls 5 [(0, .ref w_ro), (1, .ref da), (2, .int x2)] := hl
  unfold wp_X3_kindsThatFit at hw
  have L5 : ∀ (f5 : Nat) (x3 : Int32) (x4 : Int32) (ls : Array Slot), wp_X3_kindsThatFit_L5 w_pairs w_mixes w_answers cows milks day x2 post f5 x3 x4 → lv_has ls 5 [(0, .ref w_ro), (1, .ref da), (2, .int x2), (3, .int x3), (4, .int x4)] → W p l e (headSpec wsX3_kindsThatFit ({ frames := 5, cells := 0, slots := 0, locals := 121 } : Room)).room s m ([.ref w_ro, .ref da, .int x2] : List Value).toArray below meth c s.heap [] 0 0 (MQ below (vp_Si post) ([.ref w_ro, .ref da, .int x2] : List Value).toArray s 0 0 (fun _ => False)) (F0 m 5 ls []) := by
    intro f5
    induction f5 with
    | zero => intro x3 x4 ls hw hl; exact (hw : False).elim
    | succ f5 ih5 =>
      intro x3 x4 ls hw hl
      unfold wp_X3_kindsThatFit_L5 at hw
      refine lv_iload hx hb dX3_kindsThatFit_5 (lv_at hl 4 rfl) ?_
      refine lv_iconst (v := 5) hx hb dX3_kindsThatFit_7 (by decide) ?_
      refine lv_icmp_ge (tgt := 35) hx hb dX3_kindsThatFit_8 (by decide) (fun c9 => ?_) (fun c9 => ?_)
      · replace hw := hw.1 c9
        refine lv_iload_n hx hb dX3_kindsThatFit_35 rfl (lv_at hl 3 rfl) ?_
        exact W.iret hx hb hr (fun t ht _ => ⟨_, rfl, hw, ht⟩) (fun _ h => absurd h List.not_mem_nil) dX3_kindsThatFit_36
      · replace hw := hw.2 c9
        refine lv_aload_n hx hb dX3_kindsThatFit_11 rfl (lv_at hl 0 rfl) ?_
        refine lv_aload_n hx hb dX3_kindsThatFit_12 rfl (lv_at hl 1 rfl) ?_
        refine lv_iload hx hb dX3_kindsThatFit_13 (lv_at hl 4 rfl) ?_
        refine lv_iload_n hx hb dX3_kindsThatFit_15 rfl (lv_at hl 2 rfl) ?_
        refine vp_callSi (W.runV (As := [.ref da, .int x4, .int x2]) (rest := []) ⟨hx, hb, hml, hown, hts⟩ (c_X3_fitting l D G w_ro w_amx w_aan w_aag da ami aki afi anw apa w_pairs w_mixes w_answers cows tasters newest known milks mayBe bearer day draw x4 x2 _ hw) (cwV 3 hts gX3_kindsThatFit_X3_fitting rfl rfl rfl (by decide +kernel) ⟨(Nat.le_of_ble_eq_true rfl), (Nat.le_of_ble_eq_true rfl)⟩) (xR_pv (hP.sub [0, 1, 2, 3, 4, 5] rfl) hK (va_recv hK hP (ci := 3) (q0 := 0) rfl rfl)) rfl rfl hl.1 rfl (lv_room (Nat.le_of_ble_eq_true rfl)) dX3_kindsThatFit_16 ⟨Nat.zero_le _, Nat.zero_le _⟩) (fun r1 hw => ?_)
        refine lv_if_eq (tgt := 29) hx hb dX3_kindsThatFit_19 (by decide) (fun c9 => ?_) (fun c9 => ?_)
        · replace hw := hw.1 c9
          refine lv_iinc (v := (x4 + 1)) (lv' := [(4, .int (x4 + 1)), (0, .ref w_ro), (1, .ref da), (2, .int x2), (3, .int x3)]) hx hb dX3_kindsThatFit_29 hl (k := 4) rfl (by first | rfl | decide) (by decide) rfl (fun ls hl => ?_)
          refine lv_goto (tgt := 5) hx hb dX3_kindsThatFit_32 (by decide) ?_
          exact ih5 x3 (x4 + 1) _ hw (lv_sub hl [1, 2, 3, 4, 0] rfl)
        · replace hw := hw.2 c9
          refine lv_iload_n hx hb dX3_kindsThatFit_22 rfl (lv_at hl 3 rfl) ?_
          refine lv_iconst (v := 1) hx hb dX3_kindsThatFit_23 (by decide) ?_
          refine lv_iload hx hb dX3_kindsThatFit_24 (lv_at hl 4 rfl) ?_
          refine lv_ishl hx hb dX3_kindsThatFit_26 ?_
          refine lv_ior hx hb dX3_kindsThatFit_27 ?_
          refine lv_istore_n (lv' := [(3, .int (x3 ||| ((1 : Int32) <<< (x4 &&& 31)))), (0, .ref w_ro), (1, .ref da), (2, .int x2), (4, .int x4)]) hx hb dX3_kindsThatFit_28 rfl hl (by decide) rfl (fun ls hl => ?_)
          refine lv_iinc (v := (x4 + 1)) (lv' := [(4, .int (x4 + 1)), (3, .int (x3 ||| ((1 : Int32) <<< (x4 &&& 31)))), (0, .ref w_ro), (1, .ref da), (2, .int x2)]) hx hb dX3_kindsThatFit_29 hl (k := 4) rfl (by first | rfl | decide) (by decide) rfl (fun ls hl => ?_)
          refine lv_goto (tgt := 5) hx hb dX3_kindsThatFit_32 (by decide) ?_
          exact ih5 (x3 ||| ((1 : Int32) <<< (x4 &&& 31))) (x4 + 1) _ hw (lv_sub hl [2, 3, 4, 1, 0] rfl)
  refine lv_iconst (v := 0) hx hb dX3_kindsThatFit_0 (by decide) ?_
  refine lv_istore_n (lv' := [(3, .int (0 : Int32)), (0, .ref w_ro), (1, .ref da), (2, .int x2)]) hx hb dX3_kindsThatFit_1 rfl hl (by decide) rfl (fun ls hl => ?_)
  refine lv_iconst (v := 0) hx hb dX3_kindsThatFit_2 (by decide) ?_
  refine lv_istore (lv' := [(4, .int (0 : Int32)), (3, .int (0 : Int32)), (0, .ref w_ro), (1, .ref da), (2, .int x2)]) hx hb dX3_kindsThatFit_3 hl (by decide) rfl (fun ls hl => ?_)
  obtain ⟨n, hw⟩ := hw
  exact L5 n (0 : Int32) (0 : Int32) _ hw (lv_sub hl [2, 3, 4, 1, 0] rfl)
set_option maxHeartbeats 4000000 in
set_option maxRecDepth 100000 in
theorem c_X3_finesThatFit (l : Launch) (D : va_G) (G : Nat → ClassId) (w_ro : Nat) (w_amx : Nat) (w_aan : Nat) (w_aag : Nat) (da : Nat) (ami : Nat) (aki : Nat) (afi : Nat) (anw : Nat) (apa : Nat) (w_pairs : Int32) (w_mixes : Nat → Int32) (w_answers : Nat → Int32) (cows : Int32) (tasters : Int32) (newest : Int32) (known : Int32) (milks : Nat → Int32) (mayBe : Int32) (bearer : Int32) (day : Int32) (draw : Int32) (x2 : Int32) (post : Int32 → Prop) (hw : wp_X3_finesThatFit w_pairs w_mixes w_answers cows milks day x2 post) : Met l yX3_finesThatFit wsX3_finesThatFit ({ frames := 5, cells := 0, slots := 0, locals := 121 } : Room) (va_Pc [.ref w_ro, .ref da, .int x2] (xR D G [(w_ro, .inr (3, [.ref w_amx, .ref w_aan, .int w_pairs, .ref w_aag])), (w_amx, .inl (G 0, 6, .inl w_mixes)), (w_aan, .inl (G 0, 6, .inl w_answers)), (da, .inr (0, [.ref ami, .int cows, .ref aki, .ref afi, .int tasters, .ref anw, .ref apa, .int newest, .int known])), (ami, .inl (G 0, 8, .inl milks)), (anw, .inr (1, [.int mayBe, .int bearer, .int day, .int draw]))])) (vp_Si post) 0 0 (fun _ => False) := by
  refine Met.ofW (cc := cX3_finesThatFit) (maxL := 5) (ret := (some .int)) (by decide) rfl ?_
  intro p e s m args below meth c s₁ B hml hv
  obtain ⟨rfl, hP, hK⟩ := hv
  have hx := B.exec
  have hb := B.bytes
  have hr := B.returns
  have hts := atoms_spec (ws := wsX3_finesThatFit) B.pre
  have hown : s.vm.findClass RX3 = some m.cls := findClass_of_methodNamed B.named
  have hlocks := B.notSynchronized
  have hl := lv_entry ([.ref w_ro, .ref da, .int x2] : List Value) (n := 5) (Nat.le_of_ble_eq_true rfl)
  rw [lg_entry_eq]
  generalize (lg_sl ([.ref w_ro, .ref da, .int x2] : List Value) ++ List.replicate (5 - (lg_sl ([.ref w_ro, .ref da, .int x2] : List Value)).length) Slot.unset).toArray = ls at hl ⊢
  have hl : lv_has ls 5 [(0, .ref w_ro), (1, .ref da), (2, .int x2)] := hl
  unfold wp_X3_finesThatFit at hw
  have L5 : ∀ (f5 : Nat) (x3 : Int32) (x4 : Int32) (ls : Array Slot), wp_X3_finesThatFit_L5 w_pairs w_mixes w_answers cows milks day x2 post f5 x3 x4 → lv_has ls 5 [(0, .ref w_ro), (1, .ref da), (2, .int x2), (3, .int x3), (4, .int x4)] → W p l e (headSpec wsX3_finesThatFit ({ frames := 5, cells := 0, slots := 0, locals := 121 } : Room)).room s m ([.ref w_ro, .ref da, .int x2] : List Value).toArray below meth c s.heap [] 0 0 (MQ below (vp_Si post) ([.ref w_ro, .ref da, .int x2] : List Value).toArray s 0 0 (fun _ => False)) (F0 m 5 ls []) := by
    intro f5
    induction f5 with
    | zero => intro x3 x4 ls hw hl; exact (hw : False).elim
    | succ f5 ih5 =>
      intro x3 x4 ls hw hl
      unfold wp_X3_finesThatFit_L5 at hw
      refine lv_iload hx hb dX3_finesThatFit_5 (lv_at hl 4 rfl) ?_
      refine lv_bipush (v := 9) hx hb dX3_finesThatFit_7 (by decide) ?_
      refine lv_icmp_gt (tgt := 36) hx hb dX3_finesThatFit_9 (by decide) (fun c9 => ?_) (fun c9 => ?_)
      · replace hw := hw.1 c9
        refine lv_iload_n hx hb dX3_finesThatFit_36 rfl (lv_at hl 3 rfl) ?_
        exact W.iret hx hb hr (fun t ht _ => ⟨_, rfl, hw, ht⟩) (fun _ h => absurd h List.not_mem_nil) dX3_finesThatFit_37
      · replace hw := hw.2 c9
        refine lv_aload_n hx hb dX3_finesThatFit_12 rfl (lv_at hl 0 rfl) ?_
        refine lv_aload_n hx hb dX3_finesThatFit_13 rfl (lv_at hl 1 rfl) ?_
        refine lv_iload_n hx hb dX3_finesThatFit_14 rfl (lv_at hl 2 rfl) ?_
        refine lv_iload hx hb dX3_finesThatFit_15 (lv_at hl 4 rfl) ?_
        refine vp_callSi (W.runV (As := [.ref da, .int x2, .int x4]) (rest := []) ⟨hx, hb, hml, hown, hts⟩ (c_X3_fitting l D G w_ro w_amx w_aan w_aag da ami aki afi anw apa w_pairs w_mixes w_answers cows tasters newest known milks mayBe bearer day draw x2 x4 _ hw) (cwV 3 hts gX3_finesThatFit_X3_fitting rfl rfl rfl (by decide +kernel) ⟨(Nat.le_of_ble_eq_true rfl), (Nat.le_of_ble_eq_true rfl)⟩) (xR_pv (hP.sub [0, 1, 2, 3, 4, 5] rfl) hK (va_recv hK hP (ci := 3) (q0 := 0) rfl rfl)) rfl rfl hl.1 rfl (lv_room (Nat.le_of_ble_eq_true rfl)) dX3_finesThatFit_17 ⟨Nat.zero_le _, Nat.zero_le _⟩) (fun r1 hw => ?_)
        refine lv_if_eq (tgt := 30) hx hb dX3_finesThatFit_20 (by decide) (fun c9 => ?_) (fun c9 => ?_)
        · replace hw := hw.1 c9
          refine lv_iinc (v := (x4 + 1)) (lv' := [(4, .int (x4 + 1)), (0, .ref w_ro), (1, .ref da), (2, .int x2), (3, .int x3)]) hx hb dX3_finesThatFit_30 hl (k := 4) rfl (by first | rfl | decide) (by decide) rfl (fun ls hl => ?_)
          refine lv_goto (tgt := 5) hx hb dX3_finesThatFit_33 (by decide) ?_
          exact ih5 x3 (x4 + 1) _ hw (lv_sub hl [1, 2, 3, 4, 0] rfl)
        · replace hw := hw.2 c9
          refine lv_iload_n hx hb dX3_finesThatFit_23 rfl (lv_at hl 3 rfl) ?_
          refine lv_iconst (v := 1) hx hb dX3_finesThatFit_24 (by decide) ?_
          refine lv_iload hx hb dX3_finesThatFit_25 (lv_at hl 4 rfl) ?_
          refine lv_ishl hx hb dX3_finesThatFit_27 ?_
          refine lv_ior hx hb dX3_finesThatFit_28 ?_
          refine lv_istore_n (lv' := [(3, .int (x3 ||| ((1 : Int32) <<< (x4 &&& 31)))), (0, .ref w_ro), (1, .ref da), (2, .int x2), (4, .int x4)]) hx hb dX3_finesThatFit_29 rfl hl (by decide) rfl (fun ls hl => ?_)
          refine lv_iinc (v := (x4 + 1)) (lv' := [(4, .int (x4 + 1)), (3, .int (x3 ||| ((1 : Int32) <<< (x4 &&& 31)))), (0, .ref w_ro), (1, .ref da), (2, .int x2)]) hx hb dX3_finesThatFit_30 hl (k := 4) rfl (by first | rfl | decide) (by decide) rfl (fun ls hl => ?_)
          refine lv_goto (tgt := 5) hx hb dX3_finesThatFit_33 (by decide) ?_
          exact ih5 (x3 ||| ((1 : Int32) <<< (x4 &&& 31))) (x4 + 1) _ hw (lv_sub hl [2, 3, 4, 1, 0] rfl)
  refine lv_iconst (v := 0) hx hb dX3_finesThatFit_0 (by decide) ?_
  refine lv_istore_n (lv' := [(3, .int (0 : Int32)), (0, .ref w_ro), (1, .ref da), (2, .int x2)]) hx hb dX3_finesThatFit_1 rfl hl (by decide) rfl (fun ls hl => ?_)
  refine lv_iconst (v := 1) hx hb dX3_finesThatFit_2 (by decide) ?_
  refine lv_istore (lv' := [(4, .int (1 : Int32)), (3, .int (0 : Int32)), (0, .ref w_ro), (1, .ref da), (2, .int x2)]) hx hb dX3_finesThatFit_3 hl (by decide) rfl (fun ls hl => ?_)
  obtain ⟨n, hw⟩ := hw
  exact L5 n (0 : Int32) (1 : Int32) _ hw (lv_sub hl [2, 3, 4, 1, 0] rfl)
set_option maxHeartbeats 4000000 in
set_option maxRecDepth 100000 in
theorem c_X3_weightOfOne (l : Launch) (D : va_G) (G : Nat → ClassId) (w_ro : Nat) (w_amx : Nat) (w_aan : Nat) (w_aag : Nat) (w_pairs : Int32) (w_agreed : Nat → Int32) (x1 : Int32) (x2 : Int32) (x3 : Int32) (post : Int64 → Prop) (hw : wp_X3_weightOfOne w_pairs w_agreed x1 x2 x3 post) : Met l yX3_weightOfOne wsX3_weightOfOne ({ frames := 0, cells := 0, slots := 0, locals := 0 } : Room) (va_Pc [.ref w_ro, .int x1, .int x2, .int x3] (xR D G [(w_ro, .inr (3, [.ref w_amx, .ref w_aan, .int w_pairs, .ref w_aag])), (w_aag, .inl (G 0, 6, .inl w_agreed))])) (vp_Sl post) 0 0 (fun _ => False) := by
  refine Met.ofW (cc := cX3_weightOfOne) (maxL := 7) (ret := (some .long)) (by decide) rfl ?_
  intro p e s m args below meth c s₁ B hml hv
  obtain ⟨rfl, hP, hK⟩ := hv
  have hx := B.exec
  have hb := B.bytes
  have hr := B.returns
  have hts := atoms_spec (ws := wsX3_weightOfOne) B.pre
  have hown : s.vm.findClass RX3 = some m.cls := findClass_of_methodNamed B.named
  have hlocks := B.notSynchronized
  have inX3 : ∀ w ∈ wsX30, w ∈ wsX3_weightOfOne := by decide +kernel
  have fl18 := hts (.fieldLink RX3 18 "NewsCow$Row" "pairs" "I") (by decide +kernel)
  have fl22 := hts (.fieldLink RX3 22 "NewsCow$Row" "agreed" "[I") (by decide +kernel)
  have hl := lv_entry ([.ref w_ro, .int x1, .int x2, .int x3] : List Value) (n := 7) (Nat.le_of_ble_eq_true rfl)
  rw [lg_entry_eq]
  generalize (lg_sl ([.ref w_ro, .int x1, .int x2, .int x3] : List Value) ++ List.replicate (7 - (lg_sl ([.ref w_ro, .int x1, .int x2, .int x3] : List Value)).length) Slot.unset).toArray = ls at hl ⊢
  have hl : lv_has ls 7 [(0, .ref w_ro), (1, .int x1), (2, .int x2), (3, .int x3)] := hl
  unfold wp_X3_weightOfOne at hw
  have L7 : ∀ (f7 : Nat) (x4 : Int64) (x6 : Int32) (ls : Array Slot), wp_X3_weightOfOne_L7 w_pairs w_agreed x2 x3 post f7 x4 x6 → lv_has ls 7 [(0, .ref w_ro), (2, .int x2), (3, .int x3), (4, .long x4), (6, .int x6)] → W p l e (headSpec wsX3_weightOfOne ({ frames := 0, cells := 0, slots := 0, locals := 0 } : Room)).room s m ([.ref w_ro, .int x1, .int x2, .int x3] : List Value).toArray below meth c s.heap [] 0 0 (MQ below (vp_Sl post) ([.ref w_ro, .int x1, .int x2, .int x3] : List Value).toArray s 0 0 (fun _ => False)) (F0 m 7 ls []) := by
    intro f7
    induction f7 with
    | zero => intro x4 x6 ls hw hl; exact (hw : False).elim
    | succ f7 ih7 =>
      intro x4 x6 ls hw hl
      unfold wp_X3_weightOfOne_L7 at hw
      refine lv_iload hx hb dX3_weightOfOne_7 (lv_at hl 4 rfl) ?_
      refine lv_aload_n hx hb dX3_weightOfOne_9 rfl (lv_at hl 0 rfl) ?_
      refine va_get (D := D) (ci := 3) (v := .int w_pairs) (C := RX3) (T := TX3) (N := 4) hx hb hts inX3 hown hK hP 0 rfl rfl 2 (by decide) fl18 (fun _ h9 => h9) rfl dX3_weightOfOne_10 ?_
      refine lv_icmp_ge (tgt := 52) hx hb dX3_weightOfOne_13 (by decide) (fun c9 => ?_) (fun c9 => ?_)
      · replace hw := hw.1 c9
        refine lv_lload hx hb dX3_weightOfOne_52 (lv_at hl 3 rfl) ?_
        exact W.lret hx hb hr (fun t ht _ => ⟨_, rfl, hw, ht⟩) (fun _ h => absurd h List.not_mem_nil) dX3_weightOfOne_54
      · replace hw := hw.2 c9
        refine lv_lload hx hb dX3_weightOfOne_16 (lv_at hl 3 rfl) ?_
        refine lv_aload_n hx hb dX3_weightOfOne_18 rfl (lv_at hl 0 rfl) ?_
        refine va_get (D := D) (ci := 3) (v := .ref w_aag) (C := RX3) (T := TX3) (N := 4) hx hb hts inX3 hown hK hP 0 rfl rfl 3 (by decide) fl22 (fun _ h9 => h9) rfl dX3_weightOfOne_19 ?_
        refine lv_iload hx hb dX3_weightOfOne_22 (lv_at hl 4 rfl) ?_
        refine x_iald (j := x6.toNatClampNeg) hx hb hK hP 1 0 rfl rfl rfl hw.1 dX3_weightOfOne_24 ?_
        replace hw := hw.2
        refine lv_iload_n hx hb dX3_weightOfOne_25 rfl (lv_at hl 1 rfl) ?_
        refine lv_ishr hx hb dX3_weightOfOne_26 ?_
        refine lv_iconst (v := 1) hx hb dX3_weightOfOne_27 (by decide) ?_
        refine lv_iand hx hb dX3_weightOfOne_28 ?_
        refine lv_iconst (v := 1) hx hb dX3_weightOfOne_29 (by decide) ?_
        refine lv_icmp_ne (tgt := 41) hx hb dX3_weightOfOne_30 (by decide) (fun c9 => ?_) (fun c9 => ?_)
        · replace hw := hw.1 c9
          refine lv_iload_n hx hb dX3_weightOfOne_41 rfl (lv_at hl 2 rfl) ?_
          refine lv_i2l hx hb dX3_weightOfOne_42 rfl ?_
          refine lv_lmul hx hb dX3_weightOfOne_43 ?_
          refine lv_lstore (lv' := [(4, .long (x4 * (x3.toInt64))), (0, .ref w_ro), (2, .int x2), (3, .int x3), (6, .int x6)]) hx hb dX3_weightOfOne_44 hl (by decide) rfl (fun ls hl => ?_)
          refine lv_iinc (v := (x6 + 1)) (lv' := [(6, .int (x6 + 1)), (4, .long (x4 * (x3.toInt64))), (0, .ref w_ro), (2, .int x2), (3, .int x3)]) hx hb dX3_weightOfOne_46 hl (k := 4) rfl (by first | rfl | decide) (by decide) rfl (fun ls hl => ?_)
          refine lv_goto (tgt := 7) hx hb dX3_weightOfOne_49 (by decide) ?_
          exact ih7 (x4 * (x3.toInt64)) (x6 + 1) _ hw (lv_sub hl [2, 3, 4, 1, 0] rfl)
        · replace hw := hw.2 c9
          refine lv_bipush (v := 10) hx hb dX3_weightOfOne_33 (by decide) ?_
          refine lv_iload_n hx hb dX3_weightOfOne_35 rfl (lv_at hl 2 rfl) ?_
          refine lv_isub hx hb dX3_weightOfOne_36 ?_
          refine lv_i2l hx hb dX3_weightOfOne_37 rfl ?_
          refine lv_goto (tgt := 43) hx hb dX3_weightOfOne_38 (by decide) ?_
          refine lv_lmul hx hb dX3_weightOfOne_43 ?_
          refine lv_lstore (lv' := [(4, .long (x4 * (((10 : Int32) - x3).toInt64))), (0, .ref w_ro), (2, .int x2), (3, .int x3), (6, .int x6)]) hx hb dX3_weightOfOne_44 hl (by decide) rfl (fun ls hl => ?_)
          refine lv_iinc (v := (x6 + 1)) (lv' := [(6, .int (x6 + 1)), (4, .long (x4 * (((10 : Int32) - x3).toInt64))), (0, .ref w_ro), (2, .int x2), (3, .int x3)]) hx hb dX3_weightOfOne_46 hl (k := 4) rfl (by first | rfl | decide) (by decide) rfl (fun ls hl => ?_)
          refine lv_goto (tgt := 7) hx hb dX3_weightOfOne_49 (by decide) ?_
          exact ih7 (x4 * (((10 : Int32) - x3).toInt64)) (x6 + 1) _ hw (lv_sub hl [2, 3, 4, 1, 0] rfl)
  refine lv_iload_n hx hb dX3_weightOfOne_0 rfl (lv_at hl 1 rfl) ?_
  refine lv_i2l hx hb dX3_weightOfOne_1 rfl ?_
  refine lv_lstore (lv' := [(4, .long (x1.toInt64)), (0, .ref w_ro), (1, .int x1), (2, .int x2), (3, .int x3)]) hx hb dX3_weightOfOne_2 hl (by decide) rfl (fun ls hl => ?_)
  refine lv_iconst (v := 0) hx hb dX3_weightOfOne_4 (by decide) ?_
  refine lv_istore (lv' := [(6, .int (0 : Int32)), (4, .long (x1.toInt64)), (0, .ref w_ro), (1, .int x1), (2, .int x2), (3, .int x3)]) hx hb dX3_weightOfOne_5 hl (by decide) rfl (fun ls hl => ?_)
  obtain ⟨n, hw⟩ := hw
  exact L7 n (x1.toInt64) (0 : Int32) _ hw (lv_sub hl [2, 4, 5, 1, 0] rfl)
set_option maxHeartbeats 4000000 in
set_option maxRecDepth 100000 in
theorem c_X3_weightOf (l : Launch) (D : va_G) (G : Nat → ClassId) (w_ro : Nat) (w_amx : Nat) (w_aan : Nat) (w_aag : Nat) (da : Nat) (ami : Nat) (aki : Nat) (afi : Nat) (anw : Nat) (apa : Nat) (w_pairs : Int32) (w_agreed : Nat → Int32) (cows : Int32) (tasters : Int32) (newest : Int32) (known : Int32) (milks : Nat → Int32) (x2 : Int32) (x3 : Int32) (post : Int64 → Prop) (hw : wp_X3_weightOf w_pairs w_agreed cows milks x2 x3 post) : Met l yX3_weightOf wsX3_weightOf ({ frames := 1, cells := 0, slots := 0, locals := 26 } : Room) (va_Pc [.ref w_ro, .ref da, .int x2, .int x3] (xR D G [(w_ro, .inr (3, [.ref w_amx, .ref w_aan, .int w_pairs, .ref w_aag])), (w_aag, .inl (G 0, 6, .inl w_agreed)), (da, .inr (0, [.ref ami, .int cows, .ref aki, .ref afi, .int tasters, .ref anw, .ref apa, .int newest, .int known])), (ami, .inl (G 0, 8, .inl milks))])) (vp_Sl post) 0 0 (fun _ => False) := by
  refine Met.ofW (cc := cX3_weightOf) (maxL := 7) (ret := (some .long)) (by decide) rfl ?_
  intro p e s m args below meth c s₁ B hml hv
  obtain ⟨rfl, hP, hK⟩ := hv
  have hx := B.exec
  have hb := B.bytes
  have hr := B.returns
  have hts := atoms_spec (ws := wsX3_weightOf) B.pre
  have hown : s.vm.findClass RX3 = some m.cls := findClass_of_methodNamed B.named
  have hlocks := B.notSynchronized
  have inX0 : ∀ w ∈ wsX00, w ∈ wsX3_weightOf := by decide +kernel
  have fl45 := hts (.fieldLink RX3 45 "NewsCow$Dairy" "cows" "I") (by decide +kernel)
  have fl48 := hts (.fieldLink RX3 48 "NewsCow$Dairy" "milks" "[I") (by decide +kernel)
  have hl := lv_entry ([.ref w_ro, .ref da, .int x2, .int x3] : List Value) (n := 7) (Nat.le_of_ble_eq_true rfl)
  rw [lg_entry_eq]
  generalize (lg_sl ([.ref w_ro, .ref da, .int x2, .int x3] : List Value) ++ List.replicate (7 - (lg_sl ([.ref w_ro, .ref da, .int x2, .int x3] : List Value)).length) Slot.unset).toArray = ls at hl ⊢
  have hl : lv_has ls 7 [(0, .ref w_ro), (1, .ref da), (2, .int x2), (3, .int x3)] := hl
  unfold wp_X3_weightOf at hw
  have L6 : ∀ (f6 : Nat) (x4 : Int64) (x6 : Int32) (ls : Array Slot), wp_X3_weightOf_L6 w_pairs w_agreed cows milks x2 x3 post f6 x4 x6 → lv_has ls 7 [(0, .ref w_ro), (1, .ref da), (2, .int x2), (3, .int x3), (4, .long x4), (6, .int x6)] → W p l e (headSpec wsX3_weightOf ({ frames := 1, cells := 0, slots := 0, locals := 26 } : Room)).room s m ([.ref w_ro, .ref da, .int x2, .int x3] : List Value).toArray below meth c s.heap [] 0 0 (MQ below (vp_Sl post) ([.ref w_ro, .ref da, .int x2, .int x3] : List Value).toArray s 0 0 (fun _ => False)) (F0 m 6 ls []) := by
    intro f6
    induction f6 with
    | zero => intro x4 x6 ls hw hl; exact (hw : False).elim
    | succ f6 ih6 =>
      intro x4 x6 ls hw hl
      unfold wp_X3_weightOf_L6 at hw
      refine lv_iload hx hb dX3_weightOf_6 (lv_at hl 5 rfl) ?_
      refine lv_aload_n hx hb dX3_weightOf_8 rfl (lv_at hl 1 rfl) ?_
      refine va_get (D := D) (ci := 0) (v := .int cows) (C := RX0) (T := TX0) (N := 9) hx hb hts inX0 hown hK hP 2 rfl rfl 1 (by decide) fl45 (fun _ h9 => h9) rfl dX3_weightOf_9 ?_
      refine lv_icmp_ge (tgt := 50) hx hb dX3_weightOf_12 (by decide) (fun c9 => ?_) (fun c9 => ?_)
      · replace hw := hw.1 c9
        refine lv_lload hx hb dX3_weightOf_50 (lv_at hl 4 rfl) ?_
        exact W.lret hx hb hr (fun t ht _ => ⟨_, rfl, hw, ht⟩) (fun _ h => absurd h List.not_mem_nil) dX3_weightOf_52
      · replace hw := hw.2 c9
        refine lv_iload_n hx hb dX3_weightOf_15 rfl (lv_at hl 2 rfl) ?_
        refine lv_iload hx hb dX3_weightOf_16 (lv_at hl 5 rfl) ?_
        refine lv_ishr hx hb dX3_weightOf_18 ?_
        refine lv_iconst (v := 1) hx hb dX3_weightOf_19 (by decide) ?_
        refine lv_iand hx hb dX3_weightOf_20 ?_
        refine lv_iconst (v := 1) hx hb dX3_weightOf_21 (by decide) ?_
        refine lv_icmp_ne (tgt := 44) hx hb dX3_weightOf_22 (by decide) (fun c9 => ?_) (fun c9 => ?_)
        · replace hw := hw.1 c9
          refine lv_iinc (v := (x6 + 1)) (lv' := [(6, .int (x6 + 1)), (0, .ref w_ro), (1, .ref da), (2, .int x2), (3, .int x3), (4, .long x4)]) hx hb dX3_weightOf_44 hl (k := 5) rfl (by first | rfl | decide) (by decide) rfl (fun ls hl => ?_)
          refine lv_goto (tgt := 6) hx hb dX3_weightOf_47 (by decide) ?_
          exact ih6 x4 (x6 + 1) _ hw (lv_sub hl [1, 2, 3, 4, 5, 0] rfl)
        · replace hw := hw.2 c9
          refine lv_lload hx hb dX3_weightOf_25 (lv_at hl 4 rfl) ?_
          refine lv_aload_n hx hb dX3_weightOf_27 rfl (lv_at hl 0 rfl) ?_
          refine lv_aload_n hx hb dX3_weightOf_28 rfl (lv_at hl 1 rfl) ?_
          refine va_get (D := D) (ci := 0) (v := .ref ami) (C := RX0) (T := TX0) (N := 9) hx hb hts inX0 hown hK hP 2 rfl rfl 0 (by decide) fl48 (fun _ h9 => h9) rfl dX3_weightOf_29 ?_
          refine lv_iload hx hb dX3_weightOf_32 (lv_at hl 5 rfl) ?_
          refine x_iald (j := x6.toNatClampNeg) hx hb hK hP 3 0 rfl rfl rfl hw.1 dX3_weightOf_34 ?_
          replace hw := hw.2
          refine lv_iload hx hb dX3_weightOf_35 (lv_at hl 5 rfl) ?_
          refine lv_iload_n hx hb dX3_weightOf_37 rfl (lv_at hl 3 rfl) ?_
          refine vp_callSl (W.runV (As := [.int (milks x6.toNatClampNeg), .int x6, .int x3]) (rest := [.long x4]) ⟨hx, hb, hml, hown, hts⟩ (c_X3_weightOfOne l D G w_ro w_amx w_aan w_aag w_pairs w_agreed (milks x6.toNatClampNeg) x6 x3 _ hw) (cwV 3 hts gX3_weightOf_X3_weightOfOne rfl rfl rfl (by decide +kernel) ⟨(Nat.le_of_ble_eq_true rfl), (Nat.le_of_ble_eq_true rfl)⟩) (xR_pv (hP.sub [0, 1] rfl) hK (va_recv hK hP (ci := 3) (q0 := 0) rfl rfl)) rfl rfl hl.1 rfl (lv_room (Nat.le_of_ble_eq_true rfl)) dX3_weightOf_38 ⟨Nat.zero_le _, Nat.zero_le _⟩) (fun r1 hw => ?_)
          refine lv_ladd hx hb dX3_weightOf_41 ?_
          refine lv_lstore (lv' := [(4, .long (x4 + r1)), (0, .ref w_ro), (1, .ref da), (2, .int x2), (3, .int x3), (6, .int x6)]) hx hb dX3_weightOf_42 hl (by decide) rfl (fun ls hl => ?_)
          refine lv_iinc (v := (x6 + 1)) (lv' := [(6, .int (x6 + 1)), (4, .long (x4 + r1)), (0, .ref w_ro), (1, .ref da), (2, .int x2), (3, .int x3)]) hx hb dX3_weightOf_44 hl (k := 5) rfl (by first | rfl | decide) (by decide) rfl (fun ls hl => ?_)
          refine lv_goto (tgt := 6) hx hb dX3_weightOf_47 (by decide) ?_
          exact ih6 (x4 + r1) (x6 + 1) _ hw (lv_sub hl [2, 3, 4, 5, 1, 0] rfl)
  refine lv_lconst (v := 0) hx hb dX3_weightOf_0 (by decide) ?_
  refine lv_lstore (lv' := [(4, .long (0 : Int64)), (0, .ref w_ro), (1, .ref da), (2, .int x2), (3, .int x3)]) hx hb dX3_weightOf_1 hl (by decide) rfl (fun ls hl => ?_)
  refine lv_iconst (v := 0) hx hb dX3_weightOf_3 (by decide) ?_
  refine lv_istore (lv' := [(6, .int (0 : Int32)), (4, .long (0 : Int64)), (0, .ref w_ro), (1, .ref da), (2, .int x2), (3, .int x3)]) hx hb dX3_weightOf_4 hl (by decide) rfl (fun ls hl => ?_)
  obtain ⟨n, hw⟩ := hw
  exact L6 n (0 : Int64) (0 : Int32) _ hw (lv_sub hl [2, 3, 4, 5, 1, 0] rfl)
set_option maxHeartbeats 4000000 in
set_option maxRecDepth 100000 in
theorem c_X4_renew (l : Launch) (D : va_G) (G : Nat → ClassId) (sz : Nat) (s_sh : Nat) (s_ait : Nat) (s_lane : Int32) (s_size : Int32) (s_items : Nat → Int64) (x1 : Int32) (x2 : Int32) (post : Int32 → Int32 → (Nat → Int64) → Prop) (hw : wp_X4_renew s_items x1 x2 post) : Met l yX4_renew wsX4_renew ({ frames := 0, cells := 0, slots := 0, locals := 0 } : Room) (va_Pc [.ref s_sh, .int x1, .int x2] (xM D G sz [(s_sh, .inr (4, [.ref s_ait, .int s_lane, .int s_size])), (s_ait, .inl (G 1, 24, .inr (.inl s_items)))])) (va_Qv (fun (u : Int32 × Int32 × (Nat → Int64)) => post u.1 u.2.1 u.2.2) (fun u t => xE D G (va_A [(s_sh, .inr (4, [.ref s_ait, .int s_lane, .int s_size])), (s_ait, .inl (G 1, 24, .inr (.inl s_items)))] sz) [(s_sh, .inr (4, [.ref s_ait, .int u.1, .int u.2.1])), (s_ait, .inl (G 1, 24, .inr (.inl (u.2.2))))] t) (va_A [(s_sh, .inr (4, [.ref s_ait, .int s_lane, .int s_size])), (s_ait, .inl (G 1, 24, .inr (.inl s_items)))] sz)) 0 0 (va_A [(s_sh, .inr (4, [.ref s_ait, .int s_lane, .int s_size])), (s_ait, .inl (G 1, 24, .inr (.inl s_items)))] sz) := by
  refine Met.ofW (cc := cX4_renew) (maxL := 4) (ret := none) (by decide) rfl ?_
  intro p e s m args below meth c s₁ B hml hv
  obtain ⟨rfl, hsz, hP, hK, hD0⟩ := hv
  have hx := B.exec
  have hb := B.bytes
  have hr := B.returns
  have hts := atoms_spec (ws := wsX4_renew) B.pre
  have hown : s.vm.findClass RX4 = some m.cls := findClass_of_methodNamed B.named
  have hlocks := B.notSynchronized
  subst hsz
  have hD := hD0.self (sz := s.heap.size)
  generalize hAe : va_A [(s_sh, .inr (4, [.ref s_ait, .int s_lane, .int s_size])), (s_ait, .inl (G 1, 24, .inr (.inl s_items)))] s.heap.size = A at hD ⊢
  have hA : ∀ q : Nat, s.heap.size ≤ q → A q := fun q h => by rw [← hAe]; exact Or.inr h
  have hS : va_S A s.heap s.heap [] := va_S.rf
  have inX4 : ∀ w ∈ wsX40, w ∈ wsX4_renew := by decide +kernel
  have fl15 := hts (.fieldLink RX4 15 "NewsCow$Sheet" "lane" "I") (by decide +kernel)
  have fl19 := hts (.fieldLink RX4 19 "NewsCow$Sheet" "size" "I") (by decide +kernel)
  have fl9 := hts (.fieldLink RX4 9 "NewsCow$Sheet" "items" "[J") (by decide +kernel)
  have hl := lv_entry ([.ref s_sh, .int x1, .int x2] : List Value) (n := 4) (Nat.le_of_ble_eq_true rfl)
  rw [lg_entry_eq]
  generalize (lg_sl ([.ref s_sh, .int x1, .int x2] : List Value) ++ List.replicate (4 - (lg_sl ([.ref s_sh, .int x1, .int x2] : List Value)).length) Slot.unset).toArray = ls at hl ⊢
  have hl : lv_has ls 4 [(0, .ref s_sh), (1, .int x1), (2, .int x2)] := hl
  unfold wp_X4_renew at hw
  have L12 : ∀ (f12 : Nat) (x3 : Int32) (s_lane : Int32) (s_size : Int32) (s_items : Nat → Int64) (H : Heap) (locs : List Loc) (ls : Array Slot), wp_X4_renew_L12 s_lane s_size post f12 s_items x3 → va_P D vwCl [(s_sh, .inr (4, [.ref s_ait, .int s_lane, .int s_size])), (s_ait, .inl (G 1, 24, .inr (.inl s_items)))] H → va_D A [(s_sh, .inr (4, [.ref s_ait, .int s_lane, .int s_size])), (s_ait, .inl (G 1, 24, .inr (.inl s_items)))] → va_S A s.heap H locs → lv_has ls 4 [(0, .ref s_sh), (3, .int x3)] → W p l e (headSpec wsX4_renew ({ frames := 0, cells := 0, slots := 0, locals := 0 } : Room)).room s m ([.ref s_sh, .int x1, .int x2] : List Value).toArray below meth c H locs 0 0 (MQ below (va_Qv (fun (u : Int32 × Int32 × (Nat → Int64)) => post u.1 u.2.1 u.2.2) (fun u t => xE D G A [(s_sh, .inr (4, [.ref s_ait, .int u.1, .int u.2.1])), (s_ait, .inl (G 1, 24, .inr (.inl (u.2.2))))] t) A) ([.ref s_sh, .int x1, .int x2] : List Value).toArray s 0 0 A) (F0 m 12 ls []) := by
    intro f12
    induction f12 with
    | zero => intro x3 s_lane s_size s_items H locs ls hw hP hD hS hl; exact (hw : False).elim
    | succ f12 ih12 =>
      intro x3 s_lane s_size s_items H locs ls hw hP hD hS hl
      unfold wp_X4_renew_L12 at hw
      refine lv_iload_n hx hb dX4_renew_12 rfl (lv_at hl 1 rfl) ?_
      refine lv_aload_n hx hb dX4_renew_13 rfl (lv_at hl 0 rfl) ?_
      refine va_get (D := D) (ci := 4) (v := .ref s_ait) (C := RX4) (T := TX4) (N := 3) hx hb hts inX4 hown hK hP 0 rfl rfl 0 (by decide) fl9 (fun _ h9 => h9) rfl dX4_renew_14 ?_
      refine va_alen (v := 24) hx hb hK hP 1 1 rfl rfl rfl dX4_renew_17 ?_
      refine lv_icmp_ge (tgt := 34) hx hb dX4_renew_18 (by decide) (fun c9 => ?_) (fun c9 => ?_)
      · replace hw := hw.1 c9
        exact W.vret hx hb hr (x_mv (u := (s_lane, s_size, s_items)) hP hK hD hS hw) hS.2.2 dX4_renew_34
      · replace hw := hw.2 c9
        refine lv_aload_n hx hb dX4_renew_21 rfl (lv_at hl 0 rfl) ?_
        refine va_get (D := D) (ci := 4) (v := .ref s_ait) (C := RX4) (T := TX4) (N := 3) hx hb hts inX4 hown hK hP 0 rfl rfl 0 (by decide) fl9 (fun _ h9 => h9) rfl dX4_renew_22 ?_
        refine lv_iload_n hx hb dX4_renew_25 rfl (lv_at hl 1 rfl) ?_
        refine lv_lconst (v := 0) hx hb dX4_renew_26 (by decide) ?_
        refine x_last (j := x3.toNatClampNeg) hx hb hK hP hD hS 1 1 rfl rfl rfl hw.1 dX4_renew_27 (fun H locs hP hD hS => ?_)
        replace hw := hw.2
        replace hP : va_P D vwCl [(s_sh, .inr (4, [.ref s_ait, .int s_lane, .int s_size])), (s_ait, .inl (G 1, 24, .inr (.inl (vp_updL s_items x3.toNatClampNeg (0 : Int64)))))] H := hP
        replace hD : va_D A [(s_sh, .inr (4, [.ref s_ait, .int s_lane, .int s_size])), (s_ait, .inl (G 1, 24, .inr (.inl (vp_updL s_items x3.toNatClampNeg (0 : Int64)))))] := hD
        refine lv_iinc (v := (x3 + 1)) (lv' := [(3, .int (x3 + 1)), (0, .ref s_sh)]) hx hb dX4_renew_28 hl (k := 1) rfl (by first | rfl | decide) (by decide) rfl (fun ls hl => ?_)
        refine lv_goto (tgt := 12) hx hb dX4_renew_31 (by decide) ?_
        exact ih12 (x3 + 1) s_lane s_size (vp_updL s_items x3.toNatClampNeg (0 : Int64)) _ _ _ hw hP hD hS (lv_sub hl [1, 0] rfl)
  refine lv_aload_n hx hb dX4_renew_0 rfl (lv_at hl 0 rfl) ?_
  refine lv_iload_n hx hb dX4_renew_1 rfl (lv_at hl 1 rfl) ?_
  refine va_put (D := D) (ci := 4) (v := .int x1) (ty := .int) (C := RX4) (T := TX4) (N := 3) hx hb hts inX4 tyX4 tyX4_ok nmX4 hown hK hP hD hS 0 rfl rfl 1 (by decide) fl15 (fun _ h9 => h9) rfl (by decide +kernel) rfl rfl (Nat.le_of_ble_eq_true rfl) dX4_renew_2 (fun H locs hP hD hS => ?_)
  replace hP : va_P D vwCl [(s_sh, .inr (4, [.ref s_ait, .int x1, .int s_size])), (s_ait, .inl (G 1, 24, .inr (.inl s_items)))] H := hP
  replace hD : va_D A [(s_sh, .inr (4, [.ref s_ait, .int x1, .int s_size])), (s_ait, .inl (G 1, 24, .inr (.inl s_items)))] := hD
  refine lv_aload_n hx hb dX4_renew_5 rfl (lv_at hl 0 rfl) ?_
  refine lv_iload_n hx hb dX4_renew_6 rfl (lv_at hl 2 rfl) ?_
  refine va_put (D := D) (ci := 4) (v := .int x2) (ty := .int) (C := RX4) (T := TX4) (N := 3) hx hb hts inX4 tyX4 tyX4_ok nmX4 hown hK hP hD hS 0 rfl rfl 2 (by decide) fl19 (fun _ h9 => h9) rfl (by decide +kernel) rfl rfl (Nat.le_of_ble_eq_true rfl) dX4_renew_7 (fun H locs hP hD hS => ?_)
  replace hP : va_P D vwCl [(s_sh, .inr (4, [.ref s_ait, .int x1, .int x2])), (s_ait, .inl (G 1, 24, .inr (.inl s_items)))] H := hP
  replace hD : va_D A [(s_sh, .inr (4, [.ref s_ait, .int x1, .int x2])), (s_ait, .inl (G 1, 24, .inr (.inl s_items)))] := hD
  refine lv_iconst (v := 0) hx hb dX4_renew_10 (by decide) ?_
  refine lv_istore_n (lv' := [(3, .int (0 : Int32)), (0, .ref s_sh), (1, .int x1), (2, .int x2)]) hx hb dX4_renew_11 rfl hl (by decide) rfl (fun ls hl => ?_)
  obtain ⟨n, hw⟩ := hw
  exact L12 n (0 : Int32) x1 x2 s_items _ _ _ hw hP hD hS (lv_sub hl [1, 0] rfl)
set_option maxHeartbeats 4000000 in
set_option maxRecDepth 100000 in
theorem c_X4_holds (l : Launch) (D : va_G) (G : Nat → ClassId) (s_sh : Nat) (s_ait : Nat) (s_lane : Int32) (s_size : Int32) (x1 : Int32) (x2 : Int32) (post : Int32 → Prop) (hw : wp_X4_holds s_size x1 x2 post) : Met l yX4_holds wsX4_holds ({ frames := 0, cells := 0, slots := 0, locals := 0 } : Room) (va_Pc [.ref s_sh, .int x1, .int x2] (xR D G [(s_sh, .inr (4, [.ref s_ait, .int s_lane, .int s_size]))])) (vp_Si post) 0 0 (fun _ => False) := by
  refine Met.ofW (cc := cX4_holds) (maxL := 3) (ret := (some .boolean)) (by decide) rfl ?_
  intro p e s m args below meth c s₁ B hml hv
  obtain ⟨rfl, hP, hK⟩ := hv
  have hx := B.exec
  have hb := B.bytes
  have hr := B.returns
  have hts := atoms_spec (ws := wsX4_holds) B.pre
  have hown : s.vm.findClass RX4 = some m.cls := findClass_of_methodNamed B.named
  have hlocks := B.notSynchronized
  have inX4 : ∀ w ∈ wsX40, w ∈ wsX4_holds := by decide +kernel
  have fl19 := hts (.fieldLink RX4 19 "NewsCow$Sheet" "size" "I") (by decide +kernel)
  have hl := lv_entry ([.ref s_sh, .int x1, .int x2] : List Value) (n := 3) (Nat.le_of_ble_eq_true rfl)
  rw [lg_entry_eq]
  generalize (lg_sl ([.ref s_sh, .int x1, .int x2] : List Value) ++ List.replicate (3 - (lg_sl ([.ref s_sh, .int x1, .int x2] : List Value)).length) Slot.unset).toArray = ls at hl ⊢
  have hl : lv_has ls 3 [(0, .ref s_sh), (1, .int x1), (2, .int x2)] := hl
  unfold wp_X4_holds at hw
  refine lv_iload_n hx hb dX4_holds_0 rfl (lv_at hl 1 rfl) ?_
  refine lv_if_lt (tgt := 22) hx hb dX4_holds_1 (by decide) (fun c9 => ?_) (fun c9 => ?_)
  · replace hw := hw.1 c9
    refine lv_iconst (v := 0) hx hb dX4_holds_22 (by decide) ?_
    exact W.zret hx hb hr rfl (fun t ht _ => ⟨_, rfl, hw, ht⟩) (fun _ h => absurd h List.not_mem_nil) dX4_holds_23
  · replace hw := hw.2 c9
    refine lv_iload_n hx hb dX4_holds_4 rfl (lv_at hl 2 rfl) ?_
    refine lv_if_lt (tgt := 22) hx hb dX4_holds_5 (by decide) (fun c9 => ?_) (fun c9 => ?_)
    · replace hw := hw.1 c9
      refine lv_iconst (v := 0) hx hb dX4_holds_22 (by decide) ?_
      exact W.zret hx hb hr rfl (fun t ht _ => ⟨_, rfl, hw, ht⟩) (fun _ h => absurd h List.not_mem_nil) dX4_holds_23
    · replace hw := hw.2 c9
      refine lv_iload_n hx hb dX4_holds_8 rfl (lv_at hl 1 rfl) ?_
      refine lv_aload_n hx hb dX4_holds_9 rfl (lv_at hl 0 rfl) ?_
      refine va_get (D := D) (ci := 4) (v := .int s_size) (C := RX4) (T := TX4) (N := 3) hx hb hts inX4 hown hK hP 0 rfl rfl 2 (by decide) fl19 (fun _ h9 => h9) rfl dX4_holds_10 ?_
      refine lv_iload_n hx hb dX4_holds_13 rfl (lv_at hl 2 rfl) ?_
      refine lv_isub hx hb dX4_holds_14 ?_
      refine lv_icmp_gt (tgt := 22) hx hb dX4_holds_15 (by decide) (fun c9 => ?_) (fun c9 => ?_)
      · replace hw := hw.1 c9
        refine lv_iconst (v := 0) hx hb dX4_holds_22 (by decide) ?_
        exact W.zret hx hb hr rfl (fun t ht _ => ⟨_, rfl, hw, ht⟩) (fun _ h => absurd h List.not_mem_nil) dX4_holds_23
      · replace hw := hw.2 c9
        refine lv_iconst (v := 1) hx hb dX4_holds_18 (by decide) ?_
        refine lv_goto (tgt := 23) hx hb dX4_holds_19 (by decide) ?_
        exact W.zret hx hb hr rfl (fun t ht _ => ⟨_, rfl, hw, ht⟩) (fun _ h => absurd h List.not_mem_nil) dX4_holds_23
set_option maxHeartbeats 4000000 in
set_option maxRecDepth 100000 in
theorem c_X4_refusal (l : Launch) (D : va_G) (G : Nat → ClassId) (s_sh : Nat) (s_ait : Nat) (s_lane : Int32) (s_size : Int32) (x1 : Int32) (x2 : Int32) (x3 : Int32) (post : Int32 → Prop) (hw : wp_X4_refusal s_lane s_size x1 x2 x3 post) : Met l yX4_refusal wsX4_refusal ({ frames := 1, cells := 0, slots := 0, locals := 22 } : Room) (va_Pc [.ref s_sh, .int x1, .int x2, .int x3] (xR D G [(s_sh, .inr (4, [.ref s_ait, .int s_lane, .int s_size]))])) (vp_Si post) 0 0 (fun _ => False) := by
  refine Met.ofW (cc := cX4_refusal) (maxL := 4) (ret := (some .int)) (by decide) rfl ?_
  intro p e s m args below meth c s₁ B hml hv
  obtain ⟨rfl, hP, hK⟩ := hv
  have hx := B.exec
  have hb := B.bytes
  have hr := B.returns
  have hts := atoms_spec (ws := wsX4_refusal) B.pre
  have hown : s.vm.findClass RX4 = some m.cls := findClass_of_methodNamed B.named
  have hlocks := B.notSynchronized
  have inX4 : ∀ w ∈ wsX40, w ∈ wsX4_refusal := by decide +kernel
  have fl19 := hts (.fieldLink RX4 19 "NewsCow$Sheet" "size" "I") (by decide +kernel)
  have fl15 := hts (.fieldLink RX4 15 "NewsCow$Sheet" "lane" "I") (by decide +kernel)
  have hl := lv_entry ([.ref s_sh, .int x1, .int x2, .int x3] : List Value) (n := 4) (Nat.le_of_ble_eq_true rfl)
  rw [lg_entry_eq]
  generalize (lg_sl ([.ref s_sh, .int x1, .int x2, .int x3] : List Value) ++ List.replicate (4 - (lg_sl ([.ref s_sh, .int x1, .int x2, .int x3] : List Value)).length) Slot.unset).toArray = ls at hl ⊢
  have hl : lv_has ls 4 [(0, .ref s_sh), (1, .int x1), (2, .int x2), (3, .int x3)] := hl
  unfold wp_X4_refusal at hw
  refine lv_aload_n hx hb dX4_refusal_0 rfl (lv_at hl 0 rfl) ?_
  refine va_get (D := D) (ci := 4) (v := .int s_size) (C := RX4) (T := TX4) (N := 3) hx hb hts inX4 hown hK hP 0 rfl rfl 2 (by decide) fl19 (fun _ h9 => h9) rfl dX4_refusal_1 ?_
  refine lv_iconst (v := -1) hx hb dX4_refusal_4 (by decide) ?_
  refine lv_icmp_ne (tgt := 11) hx hb dX4_refusal_5 (by decide) (fun c9 => ?_) (fun c9 => ?_)
  · replace hw := hw.1 c9
    refine lv_aload_n hx hb dX4_refusal_11 rfl (lv_at hl 0 rfl) ?_
    refine va_get (D := D) (ci := 4) (v := .int s_lane) (C := RX4) (T := TX4) (N := 3) hx hb hts inX4 hown hK hP 0 rfl rfl 1 (by decide) fl15 (fun _ h9 => h9) rfl dX4_refusal_12 ?_
    refine lv_iload_n hx hb dX4_refusal_15 rfl (lv_at hl 1 rfl) ?_
    refine lv_icmp_eq (tgt := 22) hx hb dX4_refusal_16 (by decide) (fun c9 => ?_) (fun c9 => ?_)
    · replace hw := hw.1 c9
      refine lv_aload_n hx hb dX4_refusal_22 rfl (lv_at hl 0 rfl) ?_
      refine lv_iload_n hx hb dX4_refusal_23 rfl (lv_at hl 2 rfl) ?_
      refine lv_iload_n hx hb dX4_refusal_24 rfl (lv_at hl 3 rfl) ?_
      refine vp_callSi (W.runV (As := [.int x2, .int x3]) (rest := []) ⟨hx, hb, hml, hown, hts⟩ (c_X4_holds l D G s_sh s_ait s_lane s_size x2 x3 _ hw) (cwV 2 hts gX4_refusal_X4_holds rfl rfl rfl (by decide +kernel) ⟨(Nat.le_of_ble_eq_true rfl), (Nat.le_of_ble_eq_true rfl)⟩) (xR_pv (hP.sub [0] rfl) hK (va_recv hK hP (ci := 4) (q0 := 0) rfl rfl)) rfl rfl hl.1 rfl (lv_room (Nat.le_of_ble_eq_true rfl)) dX4_refusal_25 ⟨Nat.zero_le _, Nat.zero_le _⟩) (fun r1 hw => ?_)
      refine lv_if_eq (tgt := 35) hx hb dX4_refusal_28 (by decide) (fun c9 => ?_) (fun c9 => ?_)
      · replace hw := hw.1 c9
        refine lv_bipush (v := -13) hx hb dX4_refusal_35 (by decide) ?_
        exact W.iret hx hb hr (fun t ht _ => ⟨_, rfl, hw, ht⟩) (fun _ h => absurd h List.not_mem_nil) dX4_refusal_37
      · replace hw := hw.2 c9
        refine lv_iconst (v := 0) hx hb dX4_refusal_31 (by decide) ?_
        refine lv_goto (tgt := 37) hx hb dX4_refusal_32 (by decide) ?_
        exact W.iret hx hb hr (fun t ht _ => ⟨_, rfl, hw, ht⟩) (fun _ h => absurd h List.not_mem_nil) dX4_refusal_37
    · replace hw := hw.2 c9
      refine lv_bipush (v := -12) hx hb dX4_refusal_19 (by decide) ?_
      exact W.iret hx hb hr (fun t ht _ => ⟨_, rfl, hw, ht⟩) (fun _ h => absurd h List.not_mem_nil) dX4_refusal_21
  · replace hw := hw.2 c9
    refine lv_bipush (v := -11) hx hb dX4_refusal_8 (by decide) ?_
    exact W.iret hx hb hr (fun t ht _ => ⟨_, rfl, hw, ht⟩) (fun _ h => absurd h List.not_mem_nil) dX4_refusal_10
set_option maxHeartbeats 4000000 in
set_option maxRecDepth 100000 in
theorem c_X4_put (l : Launch) (D : va_G) (G : Nat → ClassId) (sz : Nat) (s_sh : Nat) (s_ait : Nat) (s_lane : Int32) (s_size : Int32) (s_items : Nat → Int64) (x1 : Int32) (x2 : Int64) (post : (Nat → Int64) → Prop) (hw : wp_X4_put s_lane s_items x1 x2 post) : Met l yX4_put wsX4_put ({ frames := 0, cells := 0, slots := 0, locals := 0 } : Room) (va_Pc [.ref s_sh, .int x1, .long x2] (xM D G sz [(s_sh, .inr (4, [.ref s_ait, .int s_lane, .int s_size])), (s_ait, .inl (G 1, 24, .inr (.inl s_items)))])) (va_Qv (fun (u : (Nat → Int64)) => post u) (fun u t => xE D G (va_A [(s_sh, .inr (4, [.ref s_ait, .int s_lane, .int s_size])), (s_ait, .inl (G 1, 24, .inr (.inl s_items)))] sz) [(s_sh, .inr (4, [.ref s_ait, .int s_lane, .int s_size])), (s_ait, .inl (G 1, 24, .inr (.inl u)))] t) (va_A [(s_sh, .inr (4, [.ref s_ait, .int s_lane, .int s_size])), (s_ait, .inl (G 1, 24, .inr (.inl s_items)))] sz)) 0 0 (va_A [(s_sh, .inr (4, [.ref s_ait, .int s_lane, .int s_size])), (s_ait, .inl (G 1, 24, .inr (.inl s_items)))] sz) := by
  refine Met.ofW (cc := cX4_put) (maxL := 4) (ret := none) (by decide) rfl ?_
  intro p e s m args below meth c s₁ B hml hv
  obtain ⟨rfl, hsz, hP, hK, hD0⟩ := hv
  have hx := B.exec
  have hb := B.bytes
  have hr := B.returns
  have hts := atoms_spec (ws := wsX4_put) B.pre
  have hown : s.vm.findClass RX4 = some m.cls := findClass_of_methodNamed B.named
  have hlocks := B.notSynchronized
  subst hsz
  have hD := hD0.self (sz := s.heap.size)
  generalize hAe : va_A [(s_sh, .inr (4, [.ref s_ait, .int s_lane, .int s_size])), (s_ait, .inl (G 1, 24, .inr (.inl s_items)))] s.heap.size = A at hD ⊢
  have hA : ∀ q : Nat, s.heap.size ≤ q → A q := fun q h => by rw [← hAe]; exact Or.inr h
  have hS : va_S A s.heap s.heap [] := va_S.rf
  have inX4 : ∀ w ∈ wsX40, w ∈ wsX4_put := by decide +kernel
  have fl15 := hts (.fieldLink RX4 15 "NewsCow$Sheet" "lane" "I") (by decide +kernel)
  have fl9 := hts (.fieldLink RX4 9 "NewsCow$Sheet" "items" "[J") (by decide +kernel)
  have hl := lv_entry ([.ref s_sh, .int x1, .long x2] : List Value) (n := 4) (Nat.le_of_ble_eq_true rfl)
  rw [lg_entry_eq]
  generalize (lg_sl ([.ref s_sh, .int x1, .long x2] : List Value) ++ List.replicate (4 - (lg_sl ([.ref s_sh, .int x1, .long x2] : List Value)).length) Slot.unset).toArray = ls at hl ⊢
  have hl : lv_has ls 4 [(0, .ref s_sh), (1, .int x1), (2, .long x2)] := hl
  unfold wp_X4_put at hw
  refine lv_aload_n hx hb dX4_put_0 rfl (lv_at hl 0 rfl) ?_
  refine va_get (D := D) (ci := 4) (v := .int s_lane) (C := RX4) (T := TX4) (N := 3) hx hb hts inX4 hown hK hP 0 rfl rfl 1 (by decide) fl15 (fun _ h9 => h9) rfl dX4_put_1 ?_
  by_cases c0 : s_lane = 0
  · replace hw := hw.1 c0
    refine lv_tableIn (tgt := 32) (off := 28) hx hb dX4_put_4 (by rw [c0]; decide) (by rw [c0]; decide) (by rw [c0]; decide) (by decide) ?_
    refine lv_aload_n hx hb dX4_put_32 rfl (lv_at hl 0 rfl) ?_
    refine va_get (D := D) (ci := 4) (v := .ref s_ait) (C := RX4) (T := TX4) (N := 3) hx hb hts inX4 hown hK hP 0 rfl rfl 0 (by decide) fl9 (fun _ h9 => h9) rfl dX4_put_33 ?_
    refine lv_iload_n hx hb dX4_put_36 rfl (lv_at hl 1 rfl) ?_
    refine lv_lload_n hx hb dX4_put_37 rfl (lv_at hl 2 rfl) ?_
    refine lv_l2i hx hb dX4_put_38 rfl ?_
    refine lv_i2b hx hb dX4_put_39 rfl ?_
    refine lv_i2l hx hb dX4_put_40 rfl ?_
    refine x_last (j := x1.toNatClampNeg) hx hb hK hP hD hS 1 1 rfl rfl rfl hw.1 dX4_put_41 (fun H locs hP hD hS => ?_)
    replace hw := hw.2
    replace hP : va_P D vwCl [(s_sh, .inr (4, [.ref s_ait, .int s_lane, .int s_size])), (s_ait, .inl (G 1, 24, .inr (.inl (vp_updL s_items x1.toNatClampNeg (((x2.toInt32).toInt8.toInt32).toInt64)))))] H := hP
    replace hD : va_D A [(s_sh, .inr (4, [.ref s_ait, .int s_lane, .int s_size])), (s_ait, .inl (G 1, 24, .inr (.inl (vp_updL s_items x1.toNatClampNeg (((x2.toInt32).toInt8.toInt32).toInt64)))))] := hD
    refine lv_goto (tgt := 77) hx hb dX4_put_42 (by decide) ?_
    exact W.vret hx hb hr (x_mv (u := (vp_updL s_items x1.toNatClampNeg (((x2.toInt32).toInt8.toInt32).toInt64))) hP hK hD hS hw) hS.2.2 dX4_put_77
  replace hw := hw.2 c0
  by_cases c1 : s_lane = 1
  · replace hw := hw.1 c1
    refine lv_tableIn (tgt := 45) (off := 41) hx hb dX4_put_4 (by rw [c1]; decide) (by rw [c1]; decide) (by rw [c1]; decide) (by decide) ?_
    refine lv_aload_n hx hb dX4_put_45 rfl (lv_at hl 0 rfl) ?_
    refine va_get (D := D) (ci := 4) (v := .ref s_ait) (C := RX4) (T := TX4) (N := 3) hx hb hts inX4 hown hK hP 0 rfl rfl 0 (by decide) fl9 (fun _ h9 => h9) rfl dX4_put_46 ?_
    refine lv_iload_n hx hb dX4_put_49 rfl (lv_at hl 1 rfl) ?_
    refine lv_lload_n hx hb dX4_put_50 rfl (lv_at hl 2 rfl) ?_
    refine lv_l2i hx hb dX4_put_51 rfl ?_
    refine lv_i2s hx hb dX4_put_52 rfl ?_
    refine lv_i2l hx hb dX4_put_53 rfl ?_
    refine x_last (j := x1.toNatClampNeg) hx hb hK hP hD hS 1 1 rfl rfl rfl hw.1 dX4_put_54 (fun H locs hP hD hS => ?_)
    replace hw := hw.2
    replace hP : va_P D vwCl [(s_sh, .inr (4, [.ref s_ait, .int s_lane, .int s_size])), (s_ait, .inl (G 1, 24, .inr (.inl (vp_updL s_items x1.toNatClampNeg (((x2.toInt32).toInt16.toInt32).toInt64)))))] H := hP
    replace hD : va_D A [(s_sh, .inr (4, [.ref s_ait, .int s_lane, .int s_size])), (s_ait, .inl (G 1, 24, .inr (.inl (vp_updL s_items x1.toNatClampNeg (((x2.toInt32).toInt16.toInt32).toInt64)))))] := hD
    refine lv_goto (tgt := 77) hx hb dX4_put_55 (by decide) ?_
    exact W.vret hx hb hr (x_mv (u := (vp_updL s_items x1.toNatClampNeg (((x2.toInt32).toInt16.toInt32).toInt64))) hP hK hD hS hw) hS.2.2 dX4_put_77
  replace hw := hw.2 c1
  by_cases c2 : s_lane = 2
  · replace hw := hw.1 c2
    refine lv_tableIn (tgt := 58) (off := 54) hx hb dX4_put_4 (by rw [c2]; decide) (by rw [c2]; decide) (by rw [c2]; decide) (by decide) ?_
    refine lv_aload_n hx hb dX4_put_58 rfl (lv_at hl 0 rfl) ?_
    refine va_get (D := D) (ci := 4) (v := .ref s_ait) (C := RX4) (T := TX4) (N := 3) hx hb hts inX4 hown hK hP 0 rfl rfl 0 (by decide) fl9 (fun _ h9 => h9) rfl dX4_put_59 ?_
    refine lv_iload_n hx hb dX4_put_62 rfl (lv_at hl 1 rfl) ?_
    refine lv_lload_n hx hb dX4_put_63 rfl (lv_at hl 2 rfl) ?_
    refine lv_l2i hx hb dX4_put_64 rfl ?_
    refine lv_i2l hx hb dX4_put_65 rfl ?_
    refine x_last (j := x1.toNatClampNeg) hx hb hK hP hD hS 1 1 rfl rfl rfl hw.1 dX4_put_66 (fun H locs hP hD hS => ?_)
    replace hw := hw.2
    replace hP : va_P D vwCl [(s_sh, .inr (4, [.ref s_ait, .int s_lane, .int s_size])), (s_ait, .inl (G 1, 24, .inr (.inl (vp_updL s_items x1.toNatClampNeg ((x2.toInt32).toInt64)))))] H := hP
    replace hD : va_D A [(s_sh, .inr (4, [.ref s_ait, .int s_lane, .int s_size])), (s_ait, .inl (G 1, 24, .inr (.inl (vp_updL s_items x1.toNatClampNeg ((x2.toInt32).toInt64)))))] := hD
    refine lv_goto (tgt := 77) hx hb dX4_put_67 (by decide) ?_
    exact W.vret hx hb hr (x_mv (u := (vp_updL s_items x1.toNatClampNeg ((x2.toInt32).toInt64))) hP hK hD hS hw) hS.2.2 dX4_put_77
  replace hw := hw.2 c2
  refine lv_tableOut (tgt := 70) hx hb dX4_put_4 (x_sw0_2 c0 c1 c2) (by decide) ?_
  refine lv_aload_n hx hb dX4_put_70 rfl (lv_at hl 0 rfl) ?_
  refine va_get (D := D) (ci := 4) (v := .ref s_ait) (C := RX4) (T := TX4) (N := 3) hx hb hts inX4 hown hK hP 0 rfl rfl 0 (by decide) fl9 (fun _ h9 => h9) rfl dX4_put_71 ?_
  refine lv_iload_n hx hb dX4_put_74 rfl (lv_at hl 1 rfl) ?_
  refine lv_lload_n hx hb dX4_put_75 rfl (lv_at hl 2 rfl) ?_
  refine x_last (j := x1.toNatClampNeg) hx hb hK hP hD hS 1 1 rfl rfl rfl hw.1 dX4_put_76 (fun H locs hP hD hS => ?_)
  replace hw := hw.2
  replace hP : va_P D vwCl [(s_sh, .inr (4, [.ref s_ait, .int s_lane, .int s_size])), (s_ait, .inl (G 1, 24, .inr (.inl (vp_updL s_items x1.toNatClampNeg x2))))] H := hP
  replace hD : va_D A [(s_sh, .inr (4, [.ref s_ait, .int s_lane, .int s_size])), (s_ait, .inl (G 1, 24, .inr (.inl (vp_updL s_items x1.toNatClampNeg x2))))] := hD
  exact W.vret hx hb hr (x_mv (u := (vp_updL s_items x1.toNatClampNeg x2)) hP hK hD hS hw) hS.2.2 dX4_put_77
set_option maxHeartbeats 4000000 in
set_option maxRecDepth 100000 in
theorem c_X5_put (l : Launch) (D : va_G) (G : Nat → ClassId) (sz : Nat) (t_ta : Nat) (t_ale : Nat) (t_ami : Nat) (t_aki : Nat) (t_afi : Nat) (t_size : Int32) (t_place : Int32) (t_cows : Int32) (t_bearer : Int32) (t_tasters : Int32) (t_letters : Nat → Int32) (x1 : Int32) (post : Int32 → (Nat → Int32) → Prop) (hw : wp_X5_put t_size t_letters x1 post) : Met l yX5_put wsX5_put ({ frames := 0, cells := 0, slots := 0, locals := 0 } : Room) (va_Pc [.ref t_ta, .int x1] (xM D G sz [(t_ta, .inr (5, [.ref t_ale, .int t_size, .int t_place, .ref t_ami, .int t_cows, .int t_bearer, .ref t_aki, .ref t_afi, .int t_tasters])), (t_ale, .inl (G 3, 40, .inl t_letters))])) (va_Qv (fun (u : Int32 × (Nat → Int32)) => post u.1 u.2) (fun u t => xE D G (va_A [(t_ta, .inr (5, [.ref t_ale, .int t_size, .int t_place, .ref t_ami, .int t_cows, .int t_bearer, .ref t_aki, .ref t_afi, .int t_tasters])), (t_ale, .inl (G 3, 40, .inl t_letters))] sz) [(t_ta, .inr (5, [.ref t_ale, .int u.1, .int t_place, .ref t_ami, .int t_cows, .int t_bearer, .ref t_aki, .ref t_afi, .int t_tasters])), (t_ale, .inl (G 3, 40, .inl (u.2)))] t) (va_A [(t_ta, .inr (5, [.ref t_ale, .int t_size, .int t_place, .ref t_ami, .int t_cows, .int t_bearer, .ref t_aki, .ref t_afi, .int t_tasters])), (t_ale, .inl (G 3, 40, .inl t_letters))] sz)) 0 0 (va_A [(t_ta, .inr (5, [.ref t_ale, .int t_size, .int t_place, .ref t_ami, .int t_cows, .int t_bearer, .ref t_aki, .ref t_afi, .int t_tasters])), (t_ale, .inl (G 3, 40, .inl t_letters))] sz) := by
  refine Met.ofW (cc := cX5_put) (maxL := 2) (ret := none) (by decide) rfl ?_
  intro p e s m args below meth c s₁ B hml hv
  obtain ⟨rfl, hsz, hP, hK, hD0⟩ := hv
  have hx := B.exec
  have hb := B.bytes
  have hr := B.returns
  have hts := atoms_spec (ws := wsX5_put) B.pre
  have hown : s.vm.findClass RX5 = some m.cls := findClass_of_methodNamed B.named
  have hlocks := B.notSynchronized
  subst hsz
  have hD := hD0.self (sz := s.heap.size)
  generalize hAe : va_A [(t_ta, .inr (5, [.ref t_ale, .int t_size, .int t_place, .ref t_ami, .int t_cows, .int t_bearer, .ref t_aki, .ref t_afi, .int t_tasters])), (t_ale, .inl (G 3, 40, .inl t_letters))] s.heap.size = A at hD ⊢
  have hA : ∀ q : Nat, s.heap.size ≤ q → A q := fun q h => by rw [← hAe]; exact Or.inr h
  have hS : va_S A s.heap s.heap [] := va_S.rf
  have inX5 : ∀ w ∈ wsX50, w ∈ wsX5_put := by decide +kernel
  have fl9 := hts (.fieldLink RX5 9 "NewsCow$Tape" "letters" "[C") (by decide +kernel)
  have fl15 := hts (.fieldLink RX5 15 "NewsCow$Tape" "size" "I") (by decide +kernel)
  have hl := lv_entry ([.ref t_ta, .int x1] : List Value) (n := 2) (Nat.le_of_ble_eq_true rfl)
  rw [lg_entry_eq]
  generalize (lg_sl ([.ref t_ta, .int x1] : List Value) ++ List.replicate (2 - (lg_sl ([.ref t_ta, .int x1] : List Value)).length) Slot.unset).toArray = ls at hl ⊢
  have hl : lv_has ls 2 [(0, .ref t_ta), (1, .int x1)] := hl
  unfold wp_X5_put at hw
  refine lv_aload_n hx hb dX5_put_0 rfl (lv_at hl 0 rfl) ?_
  refine va_get (D := D) (ci := 5) (v := .ref t_ale) (C := RX5) (T := TX5) (N := 9) hx hb hts inX5 hown hK hP 0 rfl rfl 0 (by decide) fl9 (fun _ h9 => h9) rfl dX5_put_1 ?_
  refine lv_aload_n hx hb dX5_put_4 rfl (lv_at hl 0 rfl) ?_
  refine va_get (D := D) (ci := 5) (v := .int t_size) (C := RX5) (T := TX5) (N := 9) hx hb hts inX5 hown hK hP 0 rfl rfl 1 (by decide) fl15 (fun _ h9 => h9) rfl dX5_put_5 ?_
  refine lv_iload_n hx hb dX5_put_8 rfl (lv_at hl 1 rfl) ?_
  refine x_cast (j := t_size.toNatClampNeg) hx hb hK hP hD hS 1 3 rfl rfl rfl hw.1 dX5_put_9 (fun H locs hP hD hS => ?_)
  replace hw := hw.2
  replace hP : va_P D vwCl [(t_ta, .inr (5, [.ref t_ale, .int t_size, .int t_place, .ref t_ami, .int t_cows, .int t_bearer, .ref t_aki, .ref t_afi, .int t_tasters])), (t_ale, .inl (G 3, 40, .inl (upd t_letters t_size.toNatClampNeg (vp_nar .char x1))))] H := hP
  replace hD : va_D A [(t_ta, .inr (5, [.ref t_ale, .int t_size, .int t_place, .ref t_ami, .int t_cows, .int t_bearer, .ref t_aki, .ref t_afi, .int t_tasters])), (t_ale, .inl (G 3, 40, .inl (upd t_letters t_size.toNatClampNeg (vp_nar .char x1))))] := hD
  refine lv_aload_n hx hb dX5_put_10 rfl (lv_at hl 0 rfl) ?_
  refine lv_dup hx hb dX5_put_11 rfl ?_
  refine va_get (D := D) (ci := 5) (v := .int t_size) (C := RX5) (T := TX5) (N := 9) hx hb hts inX5 hown hK hP 0 rfl rfl 1 (by decide) fl15 (fun _ h9 => h9) rfl dX5_put_12 ?_
  refine lv_iconst (v := 1) hx hb dX5_put_15 (by decide) ?_
  refine lv_iadd hx hb dX5_put_16 ?_
  refine va_put (D := D) (ci := 5) (v := .int (t_size + (1 : Int32))) (ty := .int) (C := RX5) (T := TX5) (N := 9) hx hb hts inX5 tyX5 tyX5_ok nmX5 hown hK hP hD hS 0 rfl rfl 1 (by decide) fl15 (fun _ h9 => h9) rfl (by decide +kernel) rfl rfl (Nat.le_of_ble_eq_true rfl) dX5_put_17 (fun H locs hP hD hS => ?_)
  replace hP : va_P D vwCl [(t_ta, .inr (5, [.ref t_ale, .int (t_size + (1 : Int32)), .int t_place, .ref t_ami, .int t_cows, .int t_bearer, .ref t_aki, .ref t_afi, .int t_tasters])), (t_ale, .inl (G 3, 40, .inl (upd t_letters t_size.toNatClampNeg (vp_nar .char x1))))] H := hP
  replace hD : va_D A [(t_ta, .inr (5, [.ref t_ale, .int (t_size + (1 : Int32)), .int t_place, .ref t_ami, .int t_cows, .int t_bearer, .ref t_aki, .ref t_afi, .int t_tasters])), (t_ale, .inl (G 3, 40, .inl (upd t_letters t_size.toNatClampNeg (vp_nar .char x1))))] := hD
  exact W.vret hx hb hr (x_mv (u := ((t_size + (1 : Int32)), (upd t_letters t_size.toNatClampNeg (vp_nar .char x1)))) hP hK hD hS hw) hS.2.2 dX5_put_20
set_option maxHeartbeats 4000000 in
set_option maxRecDepth 100000 in
theorem c_X5_ahead (l : Launch) (D : va_G) (G : Nat → ClassId) (sz : Nat) (t_ta : Nat) (t_ale : Nat) (t_ami : Nat) (t_aki : Nat) (t_afi : Nat) (t_size : Int32) (t_place : Int32) (t_cows : Int32) (t_bearer : Int32) (t_tasters : Int32) (t_letters : Nat → Int32) (post : Int32 → Int32 → Prop) (hw : wp_X5_ahead t_size t_place t_letters post) : Met l yX5_ahead wsX5_ahead ({ frames := 0, cells := 0, slots := 0, locals := 0 } : Room) (va_Pc [.ref t_ta] (xM D G sz [(t_ta, .inr (5, [.ref t_ale, .int t_size, .int t_place, .ref t_ami, .int t_cows, .int t_bearer, .ref t_aki, .ref t_afi, .int t_tasters])), (t_ale, .inl (G 3, 40, .inl t_letters))])) (va_Qi (fun r (u : Int32) => post r u) (fun u t => xE D G (va_A [(t_ta, .inr (5, [.ref t_ale, .int t_size, .int t_place, .ref t_ami, .int t_cows, .int t_bearer, .ref t_aki, .ref t_afi, .int t_tasters])), (t_ale, .inl (G 3, 40, .inl t_letters))] sz) [(t_ta, .inr (5, [.ref t_ale, .int t_size, .int u, .ref t_ami, .int t_cows, .int t_bearer, .ref t_aki, .ref t_afi, .int t_tasters])), (t_ale, .inl (G 3, 40, .inl t_letters))] t) (va_A [(t_ta, .inr (5, [.ref t_ale, .int t_size, .int t_place, .ref t_ami, .int t_cows, .int t_bearer, .ref t_aki, .ref t_afi, .int t_tasters])), (t_ale, .inl (G 3, 40, .inl t_letters))] sz)) 0 0 (va_A [(t_ta, .inr (5, [.ref t_ale, .int t_size, .int t_place, .ref t_ami, .int t_cows, .int t_bearer, .ref t_aki, .ref t_afi, .int t_tasters])), (t_ale, .inl (G 3, 40, .inl t_letters))] sz) := by
  refine Met.ofW (cc := cX5_ahead) (maxL := 1) (ret := (some .char)) (by decide) rfl ?_
  intro p e s m args below meth c s₁ B hml hv
  obtain ⟨rfl, hsz, hP, hK, hD0⟩ := hv
  have hx := B.exec
  have hb := B.bytes
  have hr := B.returns
  have hts := atoms_spec (ws := wsX5_ahead) B.pre
  have hown : s.vm.findClass RX5 = some m.cls := findClass_of_methodNamed B.named
  have hlocks := B.notSynchronized
  subst hsz
  have hD := hD0.self (sz := s.heap.size)
  generalize hAe : va_A [(t_ta, .inr (5, [.ref t_ale, .int t_size, .int t_place, .ref t_ami, .int t_cows, .int t_bearer, .ref t_aki, .ref t_afi, .int t_tasters])), (t_ale, .inl (G 3, 40, .inl t_letters))] s.heap.size = A at hD ⊢
  have hA : ∀ q : Nat, s.heap.size ≤ q → A q := fun q h => by rw [← hAe]; exact Or.inr h
  have hS : va_S A s.heap s.heap [] := va_S.rf
  have inX5 : ∀ w ∈ wsX50, w ∈ wsX5_ahead := by decide +kernel
  have fl19 := hts (.fieldLink RX5 19 "NewsCow$Tape" "place" "I") (by decide +kernel)
  have fl15 := hts (.fieldLink RX5 15 "NewsCow$Tape" "size" "I") (by decide +kernel)
  have fl9 := hts (.fieldLink RX5 9 "NewsCow$Tape" "letters" "[C") (by decide +kernel)
  have hl := lv_entry ([.ref t_ta] : List Value) (n := 1) (Nat.le_of_ble_eq_true rfl)
  rw [lg_entry_eq]
  generalize (lg_sl ([.ref t_ta] : List Value) ++ List.replicate (1 - (lg_sl ([.ref t_ta] : List Value)).length) Slot.unset).toArray = ls at hl ⊢
  have hl : lv_has ls 1 [(0, .ref t_ta)] := hl
  unfold wp_X5_ahead at hw
  have J38 : ∀ (t_place : Int32) (H : Heap) (locs : List Loc) (ls : Array Slot), wp_X5_ahead_J38 t_size t_place t_letters post → va_P D vwCl [(t_ta, .inr (5, [.ref t_ale, .int t_size, .int t_place, .ref t_ami, .int t_cows, .int t_bearer, .ref t_aki, .ref t_afi, .int t_tasters])), (t_ale, .inl (G 3, 40, .inl t_letters))] H → va_D A [(t_ta, .inr (5, [.ref t_ale, .int t_size, .int t_place, .ref t_ami, .int t_cows, .int t_bearer, .ref t_aki, .ref t_afi, .int t_tasters])), (t_ale, .inl (G 3, 40, .inl t_letters))] → va_S A s.heap H locs → lv_has ls 1 [(0, .ref t_ta)] → W p l e (headSpec wsX5_ahead ({ frames := 0, cells := 0, slots := 0, locals := 0 } : Room)).room s m ([.ref t_ta] : List Value).toArray below meth c H locs 0 0 (MQ below (va_Qi (fun r (u : Int32) => post r u) (fun u t => xE D G A [(t_ta, .inr (5, [.ref t_ale, .int t_size, .int u, .ref t_ami, .int t_cows, .int t_bearer, .ref t_aki, .ref t_afi, .int t_tasters])), (t_ale, .inl (G 3, 40, .inl t_letters))] t) A) ([.ref t_ta] : List Value).toArray s 0 0 A) (F0 m 38 ls []) := by
    intro t_place H locs ls hw hP hD hS hl
    unfold wp_X5_ahead_J38 at hw
    refine lv_aload_n hx hb dX5_ahead_38 rfl (lv_at hl 0 rfl) ?_
    refine va_get (D := D) (ci := 5) (v := .int t_place) (C := RX5) (T := TX5) (N := 9) hx hb hts inX5 hown hK hP 0 rfl rfl 2 (by decide) fl19 (fun _ h9 => h9) rfl dX5_ahead_39 ?_
    refine lv_aload_n hx hb dX5_ahead_42 rfl (lv_at hl 0 rfl) ?_
    refine va_get (D := D) (ci := 5) (v := .int t_size) (C := RX5) (T := TX5) (N := 9) hx hb hts inX5 hown hK hP 0 rfl rfl 1 (by decide) fl15 (fun _ h9 => h9) rfl dX5_ahead_43 ?_
    refine lv_icmp_ge (tgt := 61) hx hb dX5_ahead_46 (by decide) (fun c9 => ?_) (fun c9 => ?_)
    · replace hw := hw.1 c9
      refine lv_iconst (v := 0) hx hb dX5_ahead_61 (by decide) ?_
      exact W.zret hx hb hr rfl (x_mi (u := t_place) hP hK hD hS hw) hS.2.2 dX5_ahead_62
    · replace hw := hw.2 c9
      refine lv_aload_n hx hb dX5_ahead_49 rfl (lv_at hl 0 rfl) ?_
      refine va_get (D := D) (ci := 5) (v := .ref t_ale) (C := RX5) (T := TX5) (N := 9) hx hb hts inX5 hown hK hP 0 rfl rfl 0 (by decide) fl9 (fun _ h9 => h9) rfl dX5_ahead_50 ?_
      refine lv_aload_n hx hb dX5_ahead_53 rfl (lv_at hl 0 rfl) ?_
      refine va_get (D := D) (ci := 5) (v := .int t_place) (C := RX5) (T := TX5) (N := 9) hx hb hts inX5 hown hK hP 0 rfl rfl 2 (by decide) fl19 (fun _ h9 => h9) rfl dX5_ahead_54 ?_
      refine x_cald (j := t_place.toNatClampNeg) hx hb hK hP 1 3 rfl rfl rfl hw.1 dX5_ahead_57 ?_
      replace hw := hw.2
      refine lv_goto (tgt := 62) hx hb dX5_ahead_58 (by decide) ?_
      exact W.zret hx hb hr hw.1 (x_mi (u := t_place) hP hK hD hS hw.2) hS.2.2 dX5_ahead_62
  have L0 : ∀ (f0 : Nat) (t_place : Int32) (H : Heap) (locs : List Loc) (ls : Array Slot), wp_X5_ahead_L0 t_size t_letters post f0 t_place → va_P D vwCl [(t_ta, .inr (5, [.ref t_ale, .int t_size, .int t_place, .ref t_ami, .int t_cows, .int t_bearer, .ref t_aki, .ref t_afi, .int t_tasters])), (t_ale, .inl (G 3, 40, .inl t_letters))] H → va_D A [(t_ta, .inr (5, [.ref t_ale, .int t_size, .int t_place, .ref t_ami, .int t_cows, .int t_bearer, .ref t_aki, .ref t_afi, .int t_tasters])), (t_ale, .inl (G 3, 40, .inl t_letters))] → va_S A s.heap H locs → lv_has ls 1 [(0, .ref t_ta)] → W p l e (headSpec wsX5_ahead ({ frames := 0, cells := 0, slots := 0, locals := 0 } : Room)).room s m ([.ref t_ta] : List Value).toArray below meth c H locs 0 0 (MQ below (va_Qi (fun r (u : Int32) => post r u) (fun u t => xE D G A [(t_ta, .inr (5, [.ref t_ale, .int t_size, .int u, .ref t_ami, .int t_cows, .int t_bearer, .ref t_aki, .ref t_afi, .int t_tasters])), (t_ale, .inl (G 3, 40, .inl t_letters))] t) A) ([.ref t_ta] : List Value).toArray s 0 0 A) (F0 m 0 ls []) := by
    intro f0
    induction f0 with
    | zero => intro t_place H locs ls hw hP hD hS hl; exact (hw : False).elim
    | succ f0 ih0 =>
      intro t_place H locs ls hw hP hD hS hl
      unfold wp_X5_ahead_L0 at hw
      refine lv_aload_n hx hb dX5_ahead_0 rfl (lv_at hl 0 rfl) ?_
      refine va_get (D := D) (ci := 5) (v := .int t_place) (C := RX5) (T := TX5) (N := 9) hx hb hts inX5 hown hK hP 0 rfl rfl 2 (by decide) fl19 (fun _ h9 => h9) rfl dX5_ahead_1 ?_
      refine lv_aload_n hx hb dX5_ahead_4 rfl (lv_at hl 0 rfl) ?_
      refine va_get (D := D) (ci := 5) (v := .int t_size) (C := RX5) (T := TX5) (N := 9) hx hb hts inX5 hown hK hP 0 rfl rfl 1 (by decide) fl15 (fun _ h9 => h9) rfl dX5_ahead_5 ?_
      refine lv_icmp_ge (tgt := 38) hx hb dX5_ahead_8 (by decide) (fun c9 => ?_) (fun c9 => ?_)
      · replace hw := hw.1 c9
        exact J38 t_place _ _ _ hw hP hD hS (lv_sub hl [0] rfl)
      · replace hw := hw.2 c9
        refine lv_aload_n hx hb dX5_ahead_11 rfl (lv_at hl 0 rfl) ?_
        refine va_get (D := D) (ci := 5) (v := .ref t_ale) (C := RX5) (T := TX5) (N := 9) hx hb hts inX5 hown hK hP 0 rfl rfl 0 (by decide) fl9 (fun _ h9 => h9) rfl dX5_ahead_12 ?_
        refine lv_aload_n hx hb dX5_ahead_15 rfl (lv_at hl 0 rfl) ?_
        refine va_get (D := D) (ci := 5) (v := .int t_place) (C := RX5) (T := TX5) (N := 9) hx hb hts inX5 hown hK hP 0 rfl rfl 2 (by decide) fl19 (fun _ h9 => h9) rfl dX5_ahead_16 ?_
        refine x_cald (j := t_place.toNatClampNeg) hx hb hK hP 1 3 rfl rfl rfl hw.1 dX5_ahead_19 ?_
        replace hw := hw.2
        refine lv_bipush (v := 32) hx hb dX5_ahead_20 (by decide) ?_
        refine lv_icmp_ne (tgt := 38) hx hb dX5_ahead_22 (by decide) (fun c9 => ?_) (fun c9 => ?_)
        · replace hw := hw.1 c9
          exact J38 t_place _ _ _ hw hP hD hS (lv_sub hl [0] rfl)
        · replace hw := hw.2 c9
          refine lv_aload_n hx hb dX5_ahead_25 rfl (lv_at hl 0 rfl) ?_
          refine lv_dup hx hb dX5_ahead_26 rfl ?_
          refine va_get (D := D) (ci := 5) (v := .int t_place) (C := RX5) (T := TX5) (N := 9) hx hb hts inX5 hown hK hP 0 rfl rfl 2 (by decide) fl19 (fun _ h9 => h9) rfl dX5_ahead_27 ?_
          refine lv_iconst (v := 1) hx hb dX5_ahead_30 (by decide) ?_
          refine lv_iadd hx hb dX5_ahead_31 ?_
          refine va_put (D := D) (ci := 5) (v := .int (t_place + (1 : Int32))) (ty := .int) (C := RX5) (T := TX5) (N := 9) hx hb hts inX5 tyX5 tyX5_ok nmX5 hown hK hP hD hS 0 rfl rfl 2 (by decide) fl19 (fun _ h9 => h9) rfl (by decide +kernel) rfl rfl (Nat.le_of_ble_eq_true rfl) dX5_ahead_32 (fun H locs hP hD hS => ?_)
          replace hP : va_P D vwCl [(t_ta, .inr (5, [.ref t_ale, .int t_size, .int (t_place + (1 : Int32)), .ref t_ami, .int t_cows, .int t_bearer, .ref t_aki, .ref t_afi, .int t_tasters])), (t_ale, .inl (G 3, 40, .inl t_letters))] H := hP
          replace hD : va_D A [(t_ta, .inr (5, [.ref t_ale, .int t_size, .int (t_place + (1 : Int32)), .ref t_ami, .int t_cows, .int t_bearer, .ref t_aki, .ref t_afi, .int t_tasters])), (t_ale, .inl (G 3, 40, .inl t_letters))] := hD
          refine lv_goto (tgt := 0) hx hb dX5_ahead_35 (by decide) ?_
          exact ih0 (t_place + (1 : Int32)) _ _ _ hw hP hD hS (lv_sub hl [0] rfl)
  obtain ⟨n, hw⟩ := hw
  exact L0 n t_place _ _ _ hw hP hD hS (lv_sub hl [0] rfl)
set_option maxHeartbeats 4000000 in
set_option maxRecDepth 100000 in
theorem c_X5_isDigit (l : Launch) (D : va_G) (G : Nat → ClassId) (x0 : Int32) (post : Int32 → Prop) (hw : wp_X5_isDigit x0 post) : Met l yX5_isDigit wsX5_isDigit ({ frames := 0, cells := 0, slots := 0, locals := 0 } : Room) (va_Pc [.int x0] (xR D G [])) (vp_Si post) 0 0 (fun _ => False) := by
  refine Met.ofW (cc := cX5_isDigit) (maxL := 1) (ret := (some .boolean)) (by decide) rfl ?_
  intro p e s m args below meth c s₁ B hml hv
  obtain ⟨rfl, hP, hK⟩ := hv
  have hx := B.exec
  have hb := B.bytes
  have hr := B.returns
  have hts := atoms_spec (ws := wsX5_isDigit) B.pre
  have hown : s.vm.findClass RX5 = some m.cls := findClass_of_methodNamed B.named
  have hlocks := B.notSynchronized
  have hl := lv_entry ([.int x0] : List Value) (n := 1) (Nat.le_of_ble_eq_true rfl)
  rw [lg_entry_eq]
  generalize (lg_sl ([.int x0] : List Value) ++ List.replicate (1 - (lg_sl ([.int x0] : List Value)).length) Slot.unset).toArray = ls at hl ⊢
  have hl : lv_has ls 1 [(0, .int x0)] := hl
  unfold wp_X5_isDigit at hw
  refine lv_iload_n hx hb dX5_isDigit_0 rfl (lv_at hl 0 rfl) ?_
  refine lv_bipush (v := 49) hx hb dX5_isDigit_1 (by decide) ?_
  refine lv_icmp_lt (tgt := 16) hx hb dX5_isDigit_3 (by decide) (fun c9 => ?_) (fun c9 => ?_)
  · replace hw := hw.1 c9
    refine lv_iconst (v := 0) hx hb dX5_isDigit_16 (by decide) ?_
    exact W.zret hx hb hr rfl (fun t ht _ => ⟨_, rfl, hw, ht⟩) (fun _ h => absurd h List.not_mem_nil) dX5_isDigit_17
  · replace hw := hw.2 c9
    refine lv_iload_n hx hb dX5_isDigit_6 rfl (lv_at hl 0 rfl) ?_
    refine lv_bipush (v := 57) hx hb dX5_isDigit_7 (by decide) ?_
    refine lv_icmp_gt (tgt := 16) hx hb dX5_isDigit_9 (by decide) (fun c9 => ?_) (fun c9 => ?_)
    · replace hw := hw.1 c9
      refine lv_iconst (v := 0) hx hb dX5_isDigit_16 (by decide) ?_
      exact W.zret hx hb hr rfl (fun t ht _ => ⟨_, rfl, hw, ht⟩) (fun _ h => absurd h List.not_mem_nil) dX5_isDigit_17
    · replace hw := hw.2 c9
      refine lv_iconst (v := 1) hx hb dX5_isDigit_12 (by decide) ?_
      refine lv_goto (tgt := 17) hx hb dX5_isDigit_13 (by decide) ?_
      exact W.zret hx hb hr rfl (fun t ht _ => ⟨_, rfl, hw, ht⟩) (fun _ h => absurd h List.not_mem_nil) dX5_isDigit_17
set_option maxHeartbeats 4000000 in
set_option maxRecDepth 100000 in
theorem c_X5_readCows (l : Launch) (D : va_G) (G : Nat → ClassId) (sz : Nat) (t_ta : Nat) (t_ale : Nat) (t_ami : Nat) (t_aki : Nat) (t_afi : Nat) (t_size : Int32) (t_place : Int32) (t_cows : Int32) (t_bearer : Int32) (t_tasters : Int32) (t_letters : Nat → Int32) (t_milks : Nat → Int32) (post : Int32 → Int32 → Int32 → (Nat → Int32) → Prop) (hw : wp_X5_readCows t_size t_place t_cows t_bearer t_letters t_milks post) : Met l yX5_readCows wsX5_readCows ({ frames := 1, cells := 0, slots := 0, locals := 20 } : Room) (va_Pc [.ref t_ta] (xM D G sz [(t_ta, .inr (5, [.ref t_ale, .int t_size, .int t_place, .ref t_ami, .int t_cows, .int t_bearer, .ref t_aki, .ref t_afi, .int t_tasters])), (t_ale, .inl (G 3, 40, .inl t_letters)), (t_ami, .inl (G 0, 8, .inl t_milks))])) (va_Qv (fun (u : Int32 × Int32 × Int32 × (Nat → Int32)) => post u.1 u.2.1 u.2.2.1 u.2.2.2) (fun u t => xE D G (va_A [(t_ta, .inr (5, [.ref t_ale, .int t_size, .int t_place, .ref t_ami, .int t_cows, .int t_bearer, .ref t_aki, .ref t_afi, .int t_tasters])), (t_ale, .inl (G 3, 40, .inl t_letters)), (t_ami, .inl (G 0, 8, .inl t_milks))] sz) [(t_ta, .inr (5, [.ref t_ale, .int t_size, .int u.1, .ref t_ami, .int u.2.1, .int u.2.2.1, .ref t_aki, .ref t_afi, .int t_tasters])), (t_ale, .inl (G 3, 40, .inl t_letters)), (t_ami, .inl (G 0, 8, .inl (u.2.2.2)))] t) (va_A [(t_ta, .inr (5, [.ref t_ale, .int t_size, .int t_place, .ref t_ami, .int t_cows, .int t_bearer, .ref t_aki, .ref t_afi, .int t_tasters])), (t_ale, .inl (G 3, 40, .inl t_letters)), (t_ami, .inl (G 0, 8, .inl t_milks))] sz)) 0 0 (va_A [(t_ta, .inr (5, [.ref t_ale, .int t_size, .int t_place, .ref t_ami, .int t_cows, .int t_bearer, .ref t_aki, .ref t_afi, .int t_tasters])), (t_ale, .inl (G 3, 40, .inl t_letters)), (t_ami, .inl (G 0, 8, .inl t_milks))] sz) := by
  refine Met.ofW (cc := cX5_readCows) (maxL := 1) (ret := none) (by decide) rfl ?_
  intro p e s m args below meth c s₁ B hml hv
  obtain ⟨rfl, hsz, hP, hK, hD0⟩ := hv
  have hx := B.exec
  have hb := B.bytes
  have hr := B.returns
  have hts := atoms_spec (ws := wsX5_readCows) B.pre
  have hown : s.vm.findClass RX5 = some m.cls := findClass_of_methodNamed B.named
  have hlocks := B.notSynchronized
  subst hsz
  have hD := hD0.self (sz := s.heap.size)
  generalize hAe : va_A [(t_ta, .inr (5, [.ref t_ale, .int t_size, .int t_place, .ref t_ami, .int t_cows, .int t_bearer, .ref t_aki, .ref t_afi, .int t_tasters])), (t_ale, .inl (G 3, 40, .inl t_letters)), (t_ami, .inl (G 0, 8, .inl t_milks))] s.heap.size = A at hD ⊢
  have hA : ∀ q : Nat, s.heap.size ≤ q → A q := fun q h => by rw [← hAe]; exact Or.inr h
  have hS : va_S A s.heap s.heap [] := va_S.rf
  have inX5 : ∀ w ∈ wsX50, w ∈ wsX5_readCows := by decide +kernel
  have fl26 := hts (.fieldLink RX5 26 "NewsCow$Tape" "cows" "I") (by decide +kernel)
  have fl22 := hts (.fieldLink RX5 22 "NewsCow$Tape" "milks" "[I") (by decide +kernel)
  have fl19 := hts (.fieldLink RX5 19 "NewsCow$Tape" "place" "I") (by decide +kernel)
  have fl29 := hts (.fieldLink RX5 29 "NewsCow$Tape" "bearer" "I") (by decide +kernel)
  have hl := lv_entry ([.ref t_ta] : List Value) (n := 1) (Nat.le_of_ble_eq_true rfl)
  rw [lg_entry_eq]
  generalize (lg_sl ([.ref t_ta] : List Value) ++ List.replicate (1 - (lg_sl ([.ref t_ta] : List Value)).length) Slot.unset).toArray = ls at hl ⊢
  have hl : lv_has ls 1 [(0, .ref t_ta)] := hl
  unfold wp_X5_readCows at hw
  have L0 : ∀ (f0 : Nat) (t_place : Int32) (t_cows : Int32) (t_bearer : Int32) (t_milks : Nat → Int32) (H : Heap) (locs : List Loc) (ls : Array Slot), wp_X5_readCows_L0 t_size t_letters post f0 t_place t_cows t_bearer t_milks → va_P D vwCl [(t_ta, .inr (5, [.ref t_ale, .int t_size, .int t_place, .ref t_ami, .int t_cows, .int t_bearer, .ref t_aki, .ref t_afi, .int t_tasters])), (t_ale, .inl (G 3, 40, .inl t_letters)), (t_ami, .inl (G 0, 8, .inl t_milks))] H → va_D A [(t_ta, .inr (5, [.ref t_ale, .int t_size, .int t_place, .ref t_ami, .int t_cows, .int t_bearer, .ref t_aki, .ref t_afi, .int t_tasters])), (t_ale, .inl (G 3, 40, .inl t_letters)), (t_ami, .inl (G 0, 8, .inl t_milks))] → va_S A s.heap H locs → lv_has ls 1 [(0, .ref t_ta)] → W p l e (headSpec wsX5_readCows ({ frames := 1, cells := 0, slots := 0, locals := 20 } : Room)).room s m ([.ref t_ta] : List Value).toArray below meth c H locs 0 0 (MQ below (va_Qv (fun (u : Int32 × Int32 × Int32 × (Nat → Int32)) => post u.1 u.2.1 u.2.2.1 u.2.2.2) (fun u t => xE D G A [(t_ta, .inr (5, [.ref t_ale, .int t_size, .int u.1, .ref t_ami, .int u.2.1, .int u.2.2.1, .ref t_aki, .ref t_afi, .int t_tasters])), (t_ale, .inl (G 3, 40, .inl t_letters)), (t_ami, .inl (G 0, 8, .inl (u.2.2.2)))] t) A) ([.ref t_ta] : List Value).toArray s 0 0 A) (F0 m 0 ls []) := by
    intro f0
    induction f0 with
    | zero => intro t_place t_cows t_bearer t_milks H locs ls hw hP hD hS hl; exact (hw : False).elim
    | succ f0 ih0 =>
      intro t_place t_cows t_bearer t_milks H locs ls hw hP hD hS hl
      unfold wp_X5_readCows_L0 at hw
      refine lv_aload_n hx hb dX5_readCows_0 rfl (lv_at hl 0 rfl) ?_
      refine va_get (D := D) (ci := 5) (v := .int t_cows) (C := RX5) (T := TX5) (N := 9) hx hb hts inX5 hown hK hP 0 rfl rfl 4 (by decide) fl26 (fun _ h9 => h9) rfl dX5_readCows_1 ?_
      refine lv_bipush (v := 8) hx hb dX5_readCows_4 (by decide) ?_
      refine lv_icmp_ge (tgt := 96) hx hb dX5_readCows_6 (by decide) (fun c9 => ?_) (fun c9 => ?_)
      · replace hw := hw.1 c9
        exact W.vret hx hb hr (x_mv (u := (t_place, t_cows, t_bearer, t_milks)) hP hK hD hS hw) hS.2.2 dX5_readCows_96
      · replace hw := hw.2 c9
        refine lv_aload_n hx hb dX5_readCows_9 rfl (lv_at hl 0 rfl) ?_
        refine x_cMi (wr := [(t_ami, .inl (G 0, 8, .inl t_milks))]) (va_runV (As := []) (rest := []) ⟨hx, hb, hml, hown, hts⟩ (c_X5_ahead l D G _ t_ta t_ale t_ami t_aki t_afi t_size t_place t_cows t_bearer t_tasters t_letters _ hw) (cwV 0 hts gX5_readCows_X5_ahead rfl rfl rfl (by decide +kernel) ⟨(Nat.le_of_ble_eq_true rfl), (Nat.le_of_ble_eq_true rfl)⟩) (xM_pv (hP.sub [0, 1] rfl) hK (hD.sub [0, 1] (by decide) rfl) (va_recv hK hP (ci := 5) (q0 := 0) rfl rfl)) rfl rfl hl.1 rfl (lv_room (Nat.le_of_ble_eq_true rfl)) dX5_readCows_10 ⟨Nat.zero_le _, Nat.zero_le _⟩) hP hD hS hA [0, 1] [2] rfl rfl (by decide) (by decide) [1, 2, 0] (fun u => [(t_ta, .inr (5, [.ref t_ale, .int t_size, .int u, .ref t_ami, .int t_cows, .int t_bearer, .ref t_aki, .ref t_afi, .int t_tasters])), (t_ale, .inl (G 3, 40, .inl t_letters)), (t_ami, .inl (G 0, 8, .inl t_milks))]) (by decide) (fun u => rfl) (fun r1 u H locs hw hP hD hS => ?_)
        obtain ⟨t_place_1, rfl⟩ : ∃ z, z = u := ⟨_, rfl⟩
        try dsimp only at hw
        replace hP : va_P D vwCl [(t_ta, .inr (5, [.ref t_ale, .int t_size, .int t_place_1, .ref t_ami, .int t_cows, .int t_bearer, .ref t_aki, .ref t_afi, .int t_tasters])), (t_ale, .inl (G 3, 40, .inl t_letters)), (t_ami, .inl (G 0, 8, .inl t_milks))] H := hP
        replace hD : va_D A [(t_ta, .inr (5, [.ref t_ale, .int t_size, .int t_place_1, .ref t_ami, .int t_cows, .int t_bearer, .ref t_aki, .ref t_afi, .int t_tasters])), (t_ale, .inl (G 3, 40, .inl t_letters)), (t_ami, .inl (G 0, 8, .inl t_milks))] := hD
        refine vp_callSi (W.runS (As := [.int r1]) (rest := []) ⟨hx, hb, hml, hown, hts⟩ (c_X5_isDigit l D G r1 _ hw) (va_cwS 1 hts gX5_readCows_X5_isDigit rfl rfl rfl (by decide +kernel) ⟨(Nat.le_of_ble_eq_true rfl), (Nat.le_of_ble_eq_true rfl)⟩) (xR_ps (hP.sub [] rfl) hK) rfl rfl hl.1 rfl (lv_room (Nat.le_of_ble_eq_true rfl)) dX5_readCows_13 ⟨Nat.zero_le _, Nat.zero_le _⟩) (fun r2 hw => ?_)
        refine lv_if_eq (tgt := 96) hx hb dX5_readCows_16 (by decide) (fun c9 => ?_) (fun c9 => ?_)
        · replace hw := hw.1 c9
          exact W.vret hx hb hr (x_mv (u := (t_place_1, t_cows, t_bearer, t_milks)) hP hK hD hS hw) hS.2.2 dX5_readCows_96
        · replace hw := hw.2 c9
          refine lv_aload_n hx hb dX5_readCows_19 rfl (lv_at hl 0 rfl) ?_
          refine va_get (D := D) (ci := 5) (v := .ref t_ami) (C := RX5) (T := TX5) (N := 9) hx hb hts inX5 hown hK hP 0 rfl rfl 3 (by decide) fl22 (fun _ h9 => h9) rfl dX5_readCows_20 ?_
          refine lv_aload_n hx hb dX5_readCows_23 rfl (lv_at hl 0 rfl) ?_
          refine va_get (D := D) (ci := 5) (v := .int t_cows) (C := RX5) (T := TX5) (N := 9) hx hb hts inX5 hown hK hP 0 rfl rfl 4 (by decide) fl26 (fun _ h9 => h9) rfl dX5_readCows_24 ?_
          refine lv_aload_n hx hb dX5_readCows_27 rfl (lv_at hl 0 rfl) ?_
          refine x_cMi (wr := [(t_ami, .inl (G 0, 8, .inl t_milks))]) (va_runV (As := []) (rest := [.int t_cows, .ref t_ami]) ⟨hx, hb, hml, hown, hts⟩ (c_X5_ahead l D G _ t_ta t_ale t_ami t_aki t_afi t_size t_place_1 t_cows t_bearer t_tasters t_letters _ hw) (cwV 0 hts gX5_readCows_X5_ahead rfl rfl rfl (by decide +kernel) ⟨(Nat.le_of_ble_eq_true rfl), (Nat.le_of_ble_eq_true rfl)⟩) (xM_pv (hP.sub [0, 1] rfl) hK (hD.sub [0, 1] (by decide) rfl) (va_recv hK hP (ci := 5) (q0 := 0) rfl rfl)) rfl rfl hl.1 rfl (lv_room (Nat.le_of_ble_eq_true rfl)) dX5_readCows_28 ⟨Nat.zero_le _, Nat.zero_le _⟩) hP hD hS hA [0, 1] [2] rfl rfl (by decide) (by decide) [1, 2, 0] (fun u => [(t_ta, .inr (5, [.ref t_ale, .int t_size, .int u, .ref t_ami, .int t_cows, .int t_bearer, .ref t_aki, .ref t_afi, .int t_tasters])), (t_ale, .inl (G 3, 40, .inl t_letters)), (t_ami, .inl (G 0, 8, .inl t_milks))]) (by decide) (fun u => rfl) (fun r3 u H locs hw hP hD hS => ?_)
          obtain ⟨t_place_3, rfl⟩ : ∃ z, z = u := ⟨_, rfl⟩
          try dsimp only at hw
          replace hP : va_P D vwCl [(t_ta, .inr (5, [.ref t_ale, .int t_size, .int t_place_3, .ref t_ami, .int t_cows, .int t_bearer, .ref t_aki, .ref t_afi, .int t_tasters])), (t_ale, .inl (G 3, 40, .inl t_letters)), (t_ami, .inl (G 0, 8, .inl t_milks))] H := hP
          replace hD : va_D A [(t_ta, .inr (5, [.ref t_ale, .int t_size, .int t_place_3, .ref t_ami, .int t_cows, .int t_bearer, .ref t_aki, .ref t_afi, .int t_tasters])), (t_ale, .inl (G 3, 40, .inl t_letters)), (t_ami, .inl (G 0, 8, .inl t_milks))] := hD
          refine lv_bipush (v := 48) hx hb dX5_readCows_31 (by decide) ?_
          refine lv_isub hx hb dX5_readCows_33 ?_
          refine x_iast (j := t_cows.toNatClampNeg) hx hb hK hP hD hS 2 0 rfl rfl rfl hw.1 dX5_readCows_34 (fun H locs hP hD hS => ?_)
          replace hw := hw.2
          replace hP : va_P D vwCl [(t_ta, .inr (5, [.ref t_ale, .int t_size, .int t_place_3, .ref t_ami, .int t_cows, .int t_bearer, .ref t_aki, .ref t_afi, .int t_tasters])), (t_ale, .inl (G 3, 40, .inl t_letters)), (t_ami, .inl (G 0, 8, .inl (upd t_milks t_cows.toNatClampNeg (r3 - (48 : Int32)))))] H := hP
          replace hD : va_D A [(t_ta, .inr (5, [.ref t_ale, .int t_size, .int t_place_3, .ref t_ami, .int t_cows, .int t_bearer, .ref t_aki, .ref t_afi, .int t_tasters])), (t_ale, .inl (G 3, 40, .inl t_letters)), (t_ami, .inl (G 0, 8, .inl (upd t_milks t_cows.toNatClampNeg (r3 - (48 : Int32)))))] := hD
          refine lv_aload_n hx hb dX5_readCows_35 rfl (lv_at hl 0 rfl) ?_
          refine lv_dup hx hb dX5_readCows_36 rfl ?_
          refine va_get (D := D) (ci := 5) (v := .int t_cows) (C := RX5) (T := TX5) (N := 9) hx hb hts inX5 hown hK hP 0 rfl rfl 4 (by decide) fl26 (fun _ h9 => h9) rfl dX5_readCows_37 ?_
          refine lv_iconst (v := 1) hx hb dX5_readCows_40 (by decide) ?_
          refine lv_iadd hx hb dX5_readCows_41 ?_
          refine va_put (D := D) (ci := 5) (v := .int (t_cows + (1 : Int32))) (ty := .int) (C := RX5) (T := TX5) (N := 9) hx hb hts inX5 tyX5 tyX5_ok nmX5 hown hK hP hD hS 0 rfl rfl 4 (by decide) fl26 (fun _ h9 => h9) rfl (by decide +kernel) rfl rfl (Nat.le_of_ble_eq_true rfl) dX5_readCows_42 (fun H locs hP hD hS => ?_)
          replace hP : va_P D vwCl [(t_ta, .inr (5, [.ref t_ale, .int t_size, .int t_place_3, .ref t_ami, .int (t_cows + (1 : Int32)), .int t_bearer, .ref t_aki, .ref t_afi, .int t_tasters])), (t_ale, .inl (G 3, 40, .inl t_letters)), (t_ami, .inl (G 0, 8, .inl (upd t_milks t_cows.toNatClampNeg (r3 - (48 : Int32)))))] H := hP
          replace hD : va_D A [(t_ta, .inr (5, [.ref t_ale, .int t_size, .int t_place_3, .ref t_ami, .int (t_cows + (1 : Int32)), .int t_bearer, .ref t_aki, .ref t_afi, .int t_tasters])), (t_ale, .inl (G 3, 40, .inl t_letters)), (t_ami, .inl (G 0, 8, .inl (upd t_milks t_cows.toNatClampNeg (r3 - (48 : Int32)))))] := hD
          refine lv_aload_n hx hb dX5_readCows_45 rfl (lv_at hl 0 rfl) ?_
          refine lv_dup hx hb dX5_readCows_46 rfl ?_
          refine va_get (D := D) (ci := 5) (v := .int t_place_3) (C := RX5) (T := TX5) (N := 9) hx hb hts inX5 hown hK hP 0 rfl rfl 2 (by decide) fl19 (fun _ h9 => h9) rfl dX5_readCows_47 ?_
          refine lv_iconst (v := 1) hx hb dX5_readCows_50 (by decide) ?_
          refine lv_iadd hx hb dX5_readCows_51 ?_
          refine va_put (D := D) (ci := 5) (v := .int (t_place_3 + (1 : Int32))) (ty := .int) (C := RX5) (T := TX5) (N := 9) hx hb hts inX5 tyX5 tyX5_ok nmX5 hown hK hP hD hS 0 rfl rfl 2 (by decide) fl19 (fun _ h9 => h9) rfl (by decide +kernel) rfl rfl (Nat.le_of_ble_eq_true rfl) dX5_readCows_52 (fun H locs hP hD hS => ?_)
          replace hP : va_P D vwCl [(t_ta, .inr (5, [.ref t_ale, .int t_size, .int (t_place_3 + (1 : Int32)), .ref t_ami, .int (t_cows + (1 : Int32)), .int t_bearer, .ref t_aki, .ref t_afi, .int t_tasters])), (t_ale, .inl (G 3, 40, .inl t_letters)), (t_ami, .inl (G 0, 8, .inl (upd t_milks t_cows.toNatClampNeg (r3 - (48 : Int32)))))] H := hP
          replace hD : va_D A [(t_ta, .inr (5, [.ref t_ale, .int t_size, .int (t_place_3 + (1 : Int32)), .ref t_ami, .int (t_cows + (1 : Int32)), .int t_bearer, .ref t_aki, .ref t_afi, .int t_tasters])), (t_ale, .inl (G 3, 40, .inl t_letters)), (t_ami, .inl (G 0, 8, .inl (upd t_milks t_cows.toNatClampNeg (r3 - (48 : Int32)))))] := hD
          refine lv_aload_n hx hb dX5_readCows_55 rfl (lv_at hl 0 rfl) ?_
          refine va_get (D := D) (ci := 5) (v := .int t_bearer) (C := RX5) (T := TX5) (N := 9) hx hb hts inX5 hown hK hP 0 rfl rfl 5 (by decide) fl29 (fun _ h9 => h9) rfl dX5_readCows_56 ?_
          refine lv_bipush (v := -4) hx hb dX5_readCows_59 (by decide) ?_
          refine lv_icmp_ne (tgt := 0) hx hb dX5_readCows_61 (by decide) (fun c9 => ?_) (fun c9 => ?_)
          · replace hw := hw.1 c9
            exact ih0 (t_place_3 + (1 : Int32)) (t_cows + (1 : Int32)) t_bearer (upd t_milks t_cows.toNatClampNeg (r3 - (48 : Int32))) _ _ _ hw hP hD hS (lv_sub hl [0] rfl)
          · replace hw := hw.2 c9
            refine lv_aload_n hx hb dX5_readCows_64 rfl (lv_at hl 0 rfl) ?_
            refine x_cMi (wr := [(t_ami, .inl (G 0, 8, .inl (upd t_milks t_cows.toNatClampNeg (r3 - (48 : Int32)))))]) (va_runV (As := []) (rest := []) ⟨hx, hb, hml, hown, hts⟩ (c_X5_ahead l D G _ t_ta t_ale t_ami t_aki t_afi t_size (t_place_3 + (1 : Int32)) (t_cows + (1 : Int32)) t_bearer t_tasters t_letters _ hw) (cwV 0 hts gX5_readCows_X5_ahead rfl rfl rfl (by decide +kernel) ⟨(Nat.le_of_ble_eq_true rfl), (Nat.le_of_ble_eq_true rfl)⟩) (xM_pv (hP.sub [0, 1] rfl) hK (hD.sub [0, 1] (by decide) rfl) (va_recv hK hP (ci := 5) (q0 := 0) rfl rfl)) rfl rfl hl.1 rfl (lv_room (Nat.le_of_ble_eq_true rfl)) dX5_readCows_65 ⟨Nat.zero_le _, Nat.zero_le _⟩) hP hD hS hA [0, 1] [2] rfl rfl (by decide) (by decide) [1, 2, 0] (fun u => [(t_ta, .inr (5, [.ref t_ale, .int t_size, .int u, .ref t_ami, .int (t_cows + (1 : Int32)), .int t_bearer, .ref t_aki, .ref t_afi, .int t_tasters])), (t_ale, .inl (G 3, 40, .inl t_letters)), (t_ami, .inl (G 0, 8, .inl (upd t_milks t_cows.toNatClampNeg (r3 - (48 : Int32)))))]) (by decide) (fun u => rfl) (fun r4 u H locs hw hP hD hS => ?_)
            obtain ⟨t_place_4, rfl⟩ : ∃ z, z = u := ⟨_, rfl⟩
            try dsimp only at hw
            replace hP : va_P D vwCl [(t_ta, .inr (5, [.ref t_ale, .int t_size, .int t_place_4, .ref t_ami, .int (t_cows + (1 : Int32)), .int t_bearer, .ref t_aki, .ref t_afi, .int t_tasters])), (t_ale, .inl (G 3, 40, .inl t_letters)), (t_ami, .inl (G 0, 8, .inl (upd t_milks t_cows.toNatClampNeg (r3 - (48 : Int32)))))] H := hP
            replace hD : va_D A [(t_ta, .inr (5, [.ref t_ale, .int t_size, .int t_place_4, .ref t_ami, .int (t_cows + (1 : Int32)), .int t_bearer, .ref t_aki, .ref t_afi, .int t_tasters])), (t_ale, .inl (G 3, 40, .inl t_letters)), (t_ami, .inl (G 0, 8, .inl (upd t_milks t_cows.toNatClampNeg (r3 - (48 : Int32)))))] := hD
            refine lv_bipush (v := 33) hx hb dX5_readCows_68 (by decide) ?_
            refine lv_icmp_ne (tgt := 0) hx hb dX5_readCows_70 (by decide) (fun c9 => ?_) (fun c9 => ?_)
            · replace hw := hw.1 c9
              exact ih0 t_place_4 (t_cows + (1 : Int32)) t_bearer (upd t_milks t_cows.toNatClampNeg (r3 - (48 : Int32))) _ _ _ hw hP hD hS (lv_sub hl [0] rfl)
            · replace hw := hw.2 c9
              refine lv_aload_n hx hb dX5_readCows_73 rfl (lv_at hl 0 rfl) ?_
              refine lv_aload_n hx hb dX5_readCows_74 rfl (lv_at hl 0 rfl) ?_
              refine va_get (D := D) (ci := 5) (v := .int (t_cows + (1 : Int32))) (C := RX5) (T := TX5) (N := 9) hx hb hts inX5 hown hK hP 0 rfl rfl 4 (by decide) fl26 (fun _ h9 => h9) rfl dX5_readCows_75 ?_
              refine lv_iconst (v := 1) hx hb dX5_readCows_78 (by decide) ?_
              refine lv_isub hx hb dX5_readCows_79 ?_
              refine va_put (D := D) (ci := 5) (v := .int ((t_cows + (1 : Int32)) - (1 : Int32))) (ty := .int) (C := RX5) (T := TX5) (N := 9) hx hb hts inX5 tyX5 tyX5_ok nmX5 hown hK hP hD hS 0 rfl rfl 5 (by decide) fl29 (fun _ h9 => h9) rfl (by decide +kernel) rfl rfl (Nat.le_of_ble_eq_true rfl) dX5_readCows_80 (fun H locs hP hD hS => ?_)
              replace hP : va_P D vwCl [(t_ta, .inr (5, [.ref t_ale, .int t_size, .int t_place_4, .ref t_ami, .int (t_cows + (1 : Int32)), .int ((t_cows + (1 : Int32)) - (1 : Int32)), .ref t_aki, .ref t_afi, .int t_tasters])), (t_ale, .inl (G 3, 40, .inl t_letters)), (t_ami, .inl (G 0, 8, .inl (upd t_milks t_cows.toNatClampNeg (r3 - (48 : Int32)))))] H := hP
              replace hD : va_D A [(t_ta, .inr (5, [.ref t_ale, .int t_size, .int t_place_4, .ref t_ami, .int (t_cows + (1 : Int32)), .int ((t_cows + (1 : Int32)) - (1 : Int32)), .ref t_aki, .ref t_afi, .int t_tasters])), (t_ale, .inl (G 3, 40, .inl t_letters)), (t_ami, .inl (G 0, 8, .inl (upd t_milks t_cows.toNatClampNeg (r3 - (48 : Int32)))))] := hD
              refine lv_aload_n hx hb dX5_readCows_83 rfl (lv_at hl 0 rfl) ?_
              refine lv_dup hx hb dX5_readCows_84 rfl ?_
              refine va_get (D := D) (ci := 5) (v := .int t_place_4) (C := RX5) (T := TX5) (N := 9) hx hb hts inX5 hown hK hP 0 rfl rfl 2 (by decide) fl19 (fun _ h9 => h9) rfl dX5_readCows_85 ?_
              refine lv_iconst (v := 1) hx hb dX5_readCows_88 (by decide) ?_
              refine lv_iadd hx hb dX5_readCows_89 ?_
              refine va_put (D := D) (ci := 5) (v := .int (t_place_4 + (1 : Int32))) (ty := .int) (C := RX5) (T := TX5) (N := 9) hx hb hts inX5 tyX5 tyX5_ok nmX5 hown hK hP hD hS 0 rfl rfl 2 (by decide) fl19 (fun _ h9 => h9) rfl (by decide +kernel) rfl rfl (Nat.le_of_ble_eq_true rfl) dX5_readCows_90 (fun H locs hP hD hS => ?_)
              replace hP : va_P D vwCl [(t_ta, .inr (5, [.ref t_ale, .int t_size, .int (t_place_4 + (1 : Int32)), .ref t_ami, .int (t_cows + (1 : Int32)), .int ((t_cows + (1 : Int32)) - (1 : Int32)), .ref t_aki, .ref t_afi, .int t_tasters])), (t_ale, .inl (G 3, 40, .inl t_letters)), (t_ami, .inl (G 0, 8, .inl (upd t_milks t_cows.toNatClampNeg (r3 - (48 : Int32)))))] H := hP
              replace hD : va_D A [(t_ta, .inr (5, [.ref t_ale, .int t_size, .int (t_place_4 + (1 : Int32)), .ref t_ami, .int (t_cows + (1 : Int32)), .int ((t_cows + (1 : Int32)) - (1 : Int32)), .ref t_aki, .ref t_afi, .int t_tasters])), (t_ale, .inl (G 3, 40, .inl t_letters)), (t_ami, .inl (G 0, 8, .inl (upd t_milks t_cows.toNatClampNeg (r3 - (48 : Int32)))))] := hD
              refine lv_goto (tgt := 0) hx hb dX5_readCows_93 (by decide) ?_
              exact ih0 (t_place_4 + (1 : Int32)) (t_cows + (1 : Int32)) ((t_cows + (1 : Int32)) - (1 : Int32)) (upd t_milks t_cows.toNatClampNeg (r3 - (48 : Int32))) _ _ _ hw hP hD hS (lv_sub hl [0] rfl)
  obtain ⟨n, hw⟩ := hw
  exact L0 n t_place t_cows t_bearer t_milks _ _ _ hw hP hD hS (lv_sub hl [0] rfl)
set_option maxHeartbeats 4000000 in
set_option maxRecDepth 100000 in
theorem c_J0_isLatin1_aae02 (l : Launch) (D : va_G) (G : Nat → ClassId) (kS : Nat) (vS : Nat) (post : Int32 → Prop) (hw : wp_J0_isLatin1_aae02 post) : Met l yJ0_isLatin1_aae02 wsJ0_isLatin1_aae02 ({ frames := 0, cells := 0, slots := 0, locals := 0 } : Room) (va_Pc [.ref kS] (xRT D G kS vS [])) (vp_Si post) 0 0 (fun _ => False) := by
  refine Met.ofW (cc := cJ0_isLatin1_aae02) (maxL := 1) (ret := (some .boolean)) (by decide) rfl ?_
  intro p e s m args below meth c s₁ B hml hv
  obtain ⟨rfl, hP, hK, hT⟩ := hv
  have hx := B.exec
  have hb := B.bytes
  have hr := B.returns
  have hts := atoms_spec (ws := wsJ0_isLatin1_aae02) B.pre
  have hown : s.vm.findClass RJ0 = some m.cls := findClass_of_methodNamed B.named
  have hlocks := B.notSynchronized
  have fl38 := hts (.fieldLink RJ0 38 "java/lang/String" "COMPACT_STRINGS" "Z") (by decide +kernel)
  have fl15 := hts (.fieldLink RJ0 15 "java/lang/String" "coder" "B") (by decide +kernel)
  have hl := lv_entry ([.ref kS] : List Value) (n := 1) (Nat.le_of_ble_eq_true rfl)
  rw [lg_entry_eq]
  generalize (lg_sl ([.ref kS] : List Value) ++ List.replicate (1 - (lg_sl ([.ref kS] : List Value)).length) Slot.unset).toArray = ls at hl ⊢
  have hl : lv_has ls 1 [(0, .ref kS)] := hl
  unfold wp_J0_isLatin1_aae02 at hw
  refine va_gets (v := .int 1) hx hb hT.2.2 (va_S.rf (A := fun _ => False)) hown fl38 (fun _ h9 => h9) dJ0_isLatin1_aae02_0 ?_
  refine lv_if_eq (tgt := 17) hx hb dJ0_isLatin1_aae02_3 (by decide) (fun c9 => absurd c9 (by decide)) (fun _ => ?_)
  refine lv_aload_n hx hb dJ0_isLatin1_aae02_6 rfl (lv_at hl 0 rfl) ?_
  refine vk_getf (v := .int (0 : Int32)) hx hb (hT.2.1.1 0 (by decide)).2.1 (va_S.rf (A := fun _ => False)) hown fl15 (fun _ h9 => h9) dJ0_isLatin1_aae02_7 ?_
  refine lv_if_ne (tgt := 17) hx hb dJ0_isLatin1_aae02_10 (by decide) (fun c9 => absurd c9 (by decide)) (fun _ => ?_)
  refine lv_iconst (v := 1) hx hb dJ0_isLatin1_aae02_13 (by decide) ?_
  refine lv_goto (tgt := 18) hx hb dJ0_isLatin1_aae02_14 (by decide) ?_
  exact W.zret hx hb hr rfl (fun t ht _ => ⟨_, rfl, hw, ht⟩) (fun _ h => absurd h List.not_mem_nil) dJ0_isLatin1_aae02_18
set_option maxHeartbeats 4000000 in
set_option maxRecDepth 100000 in
theorem c_J0_coder_7d493 (l : Launch) (D : va_G) (G : Nat → ClassId) (kS : Nat) (vS : Nat) (post : Int32 → Prop) (hw : wp_J0_coder_7d493 post) : Met l yJ0_coder_7d493 wsJ0_coder_7d493 ({ frames := 0, cells := 0, slots := 0, locals := 0 } : Room) (va_Pc [.ref kS] (xRT D G kS vS [])) (vp_Si post) 0 0 (fun _ => False) := by
  refine Met.ofW (cc := cJ0_coder_7d493) (maxL := 1) (ret := (some .byte)) (by decide) rfl ?_
  intro p e s m args below meth c s₁ B hml hv
  obtain ⟨rfl, hP, hK, hT⟩ := hv
  have hx := B.exec
  have hb := B.bytes
  have hr := B.returns
  have hts := atoms_spec (ws := wsJ0_coder_7d493) B.pre
  have hown : s.vm.findClass RJ0 = some m.cls := findClass_of_methodNamed B.named
  have hlocks := B.notSynchronized
  have fl38 := hts (.fieldLink RJ0 38 "java/lang/String" "COMPACT_STRINGS" "Z") (by decide +kernel)
  have fl15 := hts (.fieldLink RJ0 15 "java/lang/String" "coder" "B") (by decide +kernel)
  have hl := lv_entry ([.ref kS] : List Value) (n := 1) (Nat.le_of_ble_eq_true rfl)
  rw [lg_entry_eq]
  generalize (lg_sl ([.ref kS] : List Value) ++ List.replicate (1 - (lg_sl ([.ref kS] : List Value)).length) Slot.unset).toArray = ls at hl ⊢
  have hl : lv_has ls 1 [(0, .ref kS)] := hl
  unfold wp_J0_coder_7d493 at hw
  refine va_gets (v := .int 1) hx hb hT.2.2 (va_S.rf (A := fun _ => False)) hown fl38 (fun _ h9 => h9) dJ0_coder_7d493_0 ?_
  refine lv_if_eq (tgt := 13) hx hb dJ0_coder_7d493_3 (by decide) (fun c9 => absurd c9 (by decide)) (fun _ => ?_)
  refine lv_aload_n hx hb dJ0_coder_7d493_6 rfl (lv_at hl 0 rfl) ?_
  refine vk_getf (v := .int (0 : Int32)) hx hb (hT.2.1.1 0 (by decide)).2.1 (va_S.rf (A := fun _ => False)) hown fl15 (fun _ h9 => h9) dJ0_coder_7d493_7 ?_
  refine lv_goto (tgt := 14) hx hb dJ0_coder_7d493_10 (by decide) ?_
  exact W.zret hx hb hr rfl (fun t ht _ => ⟨_, rfl, hw, ht⟩) (fun _ h => absurd h List.not_mem_nil) dJ0_coder_7d493_14
set_option maxHeartbeats 4000000 in
set_option maxRecDepth 100000 in
theorem c_J0_length_8abf5 (l : Launch) (D : va_G) (G : Nat → ClassId) (kS : Nat) (vS : Nat) (post : Int32 → Prop) (hw : wp_J0_length_8abf5 post) : Met l yJ0_length_8abf5 wsJ0_length_8abf5 ({ frames := 1, cells := 0, slots := 0, locals := 20 } : Room) (va_Pc [.ref kS] (xRT D G kS vS [])) (vp_Si post) 0 0 (fun _ => False) := by
  refine Met.ofW (cc := cJ0_length_8abf5) (maxL := 1) (ret := (some .int)) (by decide) rfl ?_
  intro p e s m args below meth c s₁ B hml hv
  obtain ⟨rfl, hP, hK, hT⟩ := hv
  have hx := B.exec
  have hb := B.bytes
  have hr := B.returns
  have hts := atoms_spec (ws := wsJ0_length_8abf5) B.pre
  have hown : s.vm.findClass RJ0 = some m.cls := findClass_of_methodNamed B.named
  have hlocks := B.notSynchronized
  have fl9 := hts (.fieldLink RJ0 9 "java/lang/String" "value" "[B") (by decide +kernel)
  have hl := lv_entry ([.ref kS] : List Value) (n := 1) (Nat.le_of_ble_eq_true rfl)
  rw [lg_entry_eq]
  generalize (lg_sl ([.ref kS] : List Value) ++ List.replicate (1 - (lg_sl ([.ref kS] : List Value)).length) Slot.unset).toArray = ls at hl ⊢
  have hl : lv_has ls 1 [(0, .ref kS)] := hl
  unfold wp_J0_length_8abf5 at hw
  refine lv_aload_n hx hb dJ0_length_8abf5_0 rfl (lv_at hl 0 rfl) ?_
  refine vk_getf (v := .ref vS) hx hb (hT.2.1.1 0 (by decide)).2.2.1 (va_S.rf (A := fun _ => False)) hown fl9 (fun _ h9 => h9) dJ0_length_8abf5_1 ?_
  refine va_tlen (v := 5) hx hb (hT.2.1.1 0 (by decide)).2.2.2 (va_S.rf (A := fun _ => False)) (by decide) dJ0_length_8abf5_4 ?_
  refine lv_aload_n hx hb dJ0_length_8abf5_5 rfl (lv_at hl 0 rfl) ?_
  refine vp_callSi (W.runV (As := []) (rest := [.int (5 : Int32)]) ⟨hx, hb, hml, hown, hts⟩ (c_J0_coder_7d493 l D G kS vS _ hw) (cwV 0 hts gJ0_length_8abf5_J0_coder_7d493 rfl rfl rfl (by decide +kernel) ⟨(Nat.le_of_ble_eq_true rfl), (Nat.le_of_ble_eq_true rfl)⟩) (xRT_pv (hP.sub [] rfl) hK hT (va_S.rf (A := fun _ => False)) (vk_recv hT.2.1 (i := 0) (by decide) (va_S.rf (A := fun _ => False)))) rfl rfl hl.1 rfl (lv_room (Nat.le_of_ble_eq_true rfl)) dJ0_length_8abf5_6 ⟨Nat.zero_le _, Nat.zero_le _⟩) (fun r1 hw => ?_)
  refine lv_ishr hx hb dJ0_length_8abf5_9 ?_
  exact W.iret hx hb hr (fun t ht _ => ⟨_, rfl, hw, ht⟩) (fun _ h => absurd h List.not_mem_nil) dJ0_length_8abf5_10
set_option maxHeartbeats 4000000 in
set_option maxRecDepth 100000 in
theorem c_J1_canEncode_9a6ad (l : Launch) (D : va_G) (G : Nat → ClassId) (x0 : Int32) (post : Int32 → Prop) (hw : wp_J1_canEncode_9a6ad x0 post) : Met l yJ1_canEncode_9a6ad wsJ1_canEncode_9a6ad ({ frames := 0, cells := 0, slots := 0, locals := 0 } : Room) (va_Pc [.int x0] (xR D G [])) (vp_Si post) 0 0 (fun _ => False) := by
  refine Met.ofW (cc := cJ1_canEncode_9a6ad) (maxL := 1) (ret := (some .boolean)) (by decide) rfl ?_
  intro p e s m args below meth c s₁ B hml hv
  obtain ⟨rfl, hP, hK⟩ := hv
  have hx := B.exec
  have hb := B.bytes
  have hr := B.returns
  have hts := atoms_spec (ws := wsJ1_canEncode_9a6ad) B.pre
  have hown : s.vm.findClass RJ1 = some m.cls := findClass_of_methodNamed B.named
  have hlocks := B.notSynchronized
  have hl := lv_entry ([.int x0] : List Value) (n := 1) (Nat.le_of_ble_eq_true rfl)
  rw [lg_entry_eq]
  generalize (lg_sl ([.int x0] : List Value) ++ List.replicate (1 - (lg_sl ([.int x0] : List Value)).length) Slot.unset).toArray = ls at hl ⊢
  have hl : lv_has ls 1 [(0, .int x0)] := hl
  unfold wp_J1_canEncode_9a6ad at hw
  refine lv_iload_n hx hb dJ1_canEncode_9a6ad_0 rfl (lv_at hl 0 rfl) ?_
  refine lv_if_lt (tgt := 15) hx hb dJ1_canEncode_9a6ad_1 (by decide) (fun c9 => ?_) (fun c9 => ?_)
  · replace hw := hw.1 c9
    refine lv_iconst (v := 0) hx hb dJ1_canEncode_9a6ad_15 (by decide) ?_
    exact W.zret hx hb hr rfl (fun t ht _ => ⟨_, rfl, hw, ht⟩) (fun _ h => absurd h List.not_mem_nil) dJ1_canEncode_9a6ad_16
  · replace hw := hw.2 c9
    refine lv_iload_n hx hb dJ1_canEncode_9a6ad_4 rfl (lv_at hl 0 rfl) ?_
    refine lv_sipush (v := 255) hx hb dJ1_canEncode_9a6ad_5 (by decide) ?_
    refine lv_icmp_gt (tgt := 15) hx hb dJ1_canEncode_9a6ad_8 (by decide) (fun c9 => ?_) (fun c9 => ?_)
    · replace hw := hw.1 c9
      refine lv_iconst (v := 0) hx hb dJ1_canEncode_9a6ad_15 (by decide) ?_
      exact W.zret hx hb hr rfl (fun t ht _ => ⟨_, rfl, hw, ht⟩) (fun _ h => absurd h List.not_mem_nil) dJ1_canEncode_9a6ad_16
    · replace hw := hw.2 c9
      refine lv_iconst (v := 1) hx hb dJ1_canEncode_9a6ad_11 (by decide) ?_
      refine lv_goto (tgt := 16) hx hb dJ1_canEncode_9a6ad_12 (by decide) ?_
      exact W.zret hx hb hr rfl (fun t ht _ => ⟨_, rfl, hw, ht⟩) (fun _ h => absurd h List.not_mem_nil) dJ1_canEncode_9a6ad_16
set_option maxHeartbeats 4000000 in
set_option maxRecDepth 100000 in
theorem c_J1_indexOfChar_4cfef (l : Launch) (D : va_G) (G : Nat → ClassId) (vS : Nat) (kS : Nat) (x1 : Int32) (x2 : Int32) (x3 : Int32) (post : Int32 → Prop) (hw : wp_J1_indexOfChar_4cfef x1 x2 x3 post) : Met l yJ1_indexOfChar_4cfef wsJ1_indexOfChar_4cfef ({ frames := 0, cells := 0, slots := 0, locals := 0 } : Room) (va_Pc [.ref vS, .int x1, .int x2, .int x3] (xRT D G kS vS [])) (vp_Si post) 0 0 (fun _ => False) := by
  refine Met.ofW (cc := cJ1_indexOfChar_4cfef) (maxL := 6) (ret := (some .int)) (by decide) rfl ?_
  intro p e s m args below meth c s₁ B hml hv
  obtain ⟨rfl, hP, hK, hT⟩ := hv
  have hx := B.exec
  have hb := B.bytes
  have hr := B.returns
  have hts := atoms_spec (ws := wsJ1_indexOfChar_4cfef) B.pre
  have hown : s.vm.findClass RJ1 = some m.cls := findClass_of_methodNamed B.named
  have hlocks := B.notSynchronized
  have hl := lv_entry ([.ref vS, .int x1, .int x2, .int x3] : List Value) (n := 6) (Nat.le_of_ble_eq_true rfl)
  rw [lg_entry_eq]
  generalize (lg_sl ([.ref vS, .int x1, .int x2, .int x3] : List Value) ++ List.replicate (6 - (lg_sl ([.ref vS, .int x1, .int x2, .int x3] : List Value)).length) Slot.unset).toArray = ls at hl ⊢
  have hl : lv_has ls 6 [(0, .ref vS), (1, .int x1), (2, .int x2), (3, .int x3)] := hl
  unfold wp_J1_indexOfChar_4cfef at hw
  have L7 : ∀ (f7 : Nat) (x4 : Int32) (x5 : Int32) (ls : Array Slot), wp_J1_indexOfChar_4cfef_L7 x3 x4 post f7 x5 → lv_has ls 6 [(0, .ref vS), (3, .int x3), (4, .int x4), (5, .int x5)] → W p l e (headSpec wsJ1_indexOfChar_4cfef ({ frames := 0, cells := 0, slots := 0, locals := 0 } : Room)).room s m ([.ref vS, .int x1, .int x2, .int x3] : List Value).toArray below meth c s.heap [] 0 0 (MQ below (vp_Si post) ([.ref vS, .int x1, .int x2, .int x3] : List Value).toArray s 0 0 (fun _ => False)) (F0 m 7 ls []) := by
    intro f7
    induction f7 with
    | zero => intro x4 x5 ls hw hl; exact (hw : False).elim
    | succ f7 ih7 =>
      intro x4 x5 ls hw hl
      unfold wp_J1_indexOfChar_4cfef_L7 at hw
      refine lv_iload hx hb dJ1_indexOfChar_4cfef_7 (lv_at hl 3 rfl) ?_
      refine lv_iload_n hx hb dJ1_indexOfChar_4cfef_9 rfl (lv_at hl 1 rfl) ?_
      refine lv_icmp_ge (tgt := 31) hx hb dJ1_indexOfChar_4cfef_10 (by decide) (fun c9 => ?_) (fun c9 => ?_)
      · replace hw := hw.1 c9
        refine lv_iconst (v := -1) hx hb dJ1_indexOfChar_4cfef_31 (by decide) ?_
        exact W.iret hx hb hr (fun t ht _ => ⟨_, rfl, hw, ht⟩) (fun _ h => absurd h List.not_mem_nil) dJ1_indexOfChar_4cfef_32
      · replace hw := hw.2 c9
        refine lv_aload_n hx hb dJ1_indexOfChar_4cfef_13 rfl (lv_at hl 0 rfl) ?_
        refine lv_iload hx hb dJ1_indexOfChar_4cfef_14 (lv_at hl 3 rfl) ?_
        refine va_tb (v := .int (x_pd x5.toNatClampNeg)) hx hb (hT.2.1.1 0 (by decide)).2.2.2 (va_S.rf (A := fun _ => False)) hw.1 rfl dJ1_indexOfChar_4cfef_16 ?_
        replace hw := hw.2
        refine lv_iload hx hb dJ1_indexOfChar_4cfef_17 (lv_at hl 2 rfl) ?_
        refine lv_icmp_ne (tgt := 25) hx hb dJ1_indexOfChar_4cfef_19 (by decide) (fun c9 => ?_) (fun c9 => ?_)
        · replace hw := hw.1 c9
          refine lv_iinc (v := (x5 + 1)) (lv' := [(5, .int (x5 + 1)), (0, .ref vS), (3, .int x3), (4, .int x4)]) hx hb dJ1_indexOfChar_4cfef_25 hl (k := 3) rfl (by first | rfl | decide) (by decide) rfl (fun ls hl => ?_)
          refine lv_goto (tgt := 7) hx hb dJ1_indexOfChar_4cfef_28 (by decide) ?_
          exact ih7 x4 (x5 + 1) _ hw (lv_sub hl [1, 2, 3, 0] rfl)
        · replace hw := hw.2 c9
          refine lv_iload hx hb dJ1_indexOfChar_4cfef_22 (lv_at hl 3 rfl) ?_
          exact W.iret hx hb hr (fun t ht _ => ⟨_, rfl, hw, ht⟩) (fun _ h => absurd h List.not_mem_nil) dJ1_indexOfChar_4cfef_24
  refine lv_iload_n hx hb dJ1_indexOfChar_4cfef_0 rfl (lv_at hl 1 rfl) ?_
  refine lv_i2b hx hb dJ1_indexOfChar_4cfef_1 rfl ?_
  refine lv_istore (lv' := [(4, .int (x1.toInt8.toInt32)), (0, .ref vS), (1, .int x1), (2, .int x2), (3, .int x3)]) hx hb dJ1_indexOfChar_4cfef_2 hl (by decide) rfl (fun ls hl => ?_)
  refine lv_iload_n hx hb dJ1_indexOfChar_4cfef_4 rfl (lv_at hl 3 rfl) ?_
  refine lv_istore (lv' := [(5, .int x2), (4, .int (x1.toInt8.toInt32)), (0, .ref vS), (1, .int x1), (2, .int x2), (3, .int x3)]) hx hb dJ1_indexOfChar_4cfef_5 hl (by decide) rfl (fun ls hl => ?_)
  obtain ⟨n, hw⟩ := hw
  exact L7 n (x1.toInt8.toInt32) x2 _ hw (lv_sub hl [2, 5, 1, 0] rfl)
set_option maxHeartbeats 4000000 in
set_option maxRecDepth 100000 in
theorem c_J1_indexOf_4cfef (l : Launch) (D : va_G) (G : Nat → ClassId) (vS : Nat) (kS : Nat) (x1 : Int32) (x2 : Int32) (x3 : Int32) (post : Int32 → Prop) (hw : wp_J1_indexOf_4cfef x1 x2 x3 post) : Met l yJ1_indexOf_4cfef wsJ1_indexOf_4cfef ({ frames := 1, cells := 0, slots := 0, locals := 25 } : Room) (va_Pc [.ref vS, .int x1, .int x2, .int x3] (xRT D G kS vS [])) (vp_Si post) 0 0 (fun _ => False) := by
  refine Met.ofW (cc := cJ1_indexOf_4cfef) (maxL := 4) (ret := (some .int)) (by decide) rfl ?_
  intro p e s m args below meth c s₁ B hml hv
  obtain ⟨rfl, hP, hK, hT⟩ := hv
  have hx := B.exec
  have hb := B.bytes
  have hr := B.returns
  have hts := atoms_spec (ws := wsJ1_indexOf_4cfef) B.pre
  have hown : s.vm.findClass RJ1 = some m.cls := findClass_of_methodNamed B.named
  have hlocks := B.notSynchronized
  have hl := lv_entry ([.ref vS, .int x1, .int x2, .int x3] : List Value) (n := 4) (Nat.le_of_ble_eq_true rfl)
  rw [lg_entry_eq]
  generalize (lg_sl ([.ref vS, .int x1, .int x2, .int x3] : List Value) ++ List.replicate (4 - (lg_sl ([.ref vS, .int x1, .int x2, .int x3] : List Value)).length) Slot.unset).toArray = ls at hl ⊢
  have hl : lv_has ls 4 [(0, .ref vS), (1, .int x1), (2, .int x2), (3, .int x3)] := hl
  unfold wp_J1_indexOf_4cfef at hw
  refine lv_iload_n hx hb dJ1_indexOf_4cfef_0 rfl (lv_at hl 1 rfl) ?_
  refine vp_callSi (W.runS (As := [.int x1]) (rest := []) ⟨hx, hb, hml, hown, hts⟩ (c_J1_canEncode_9a6ad l D G x1 _ hw) (va_cwS 1 hts gJ1_indexOf_4cfef_J1_canEncode_9a6ad rfl rfl rfl (by decide +kernel) ⟨(Nat.le_of_ble_eq_true rfl), (Nat.le_of_ble_eq_true rfl)⟩) (xR_ps (hP.sub [] rfl) hK) rfl rfl hl.1 rfl (lv_room (Nat.le_of_ble_eq_true rfl)) dJ1_indexOf_4cfef_1 ⟨Nat.zero_le _, Nat.zero_le _⟩) (fun r1 hw => ?_)
  refine lv_if_ne (tgt := 9) hx hb dJ1_indexOf_4cfef_4 (by decide) (fun c9 => ?_) (fun c9 => ?_)
  · replace hw := hw.1 c9
    refine lv_iload_n hx hb dJ1_indexOf_4cfef_9 rfl (lv_at hl 2 rfl) ?_
    refine lv_iconst (v := 0) hx hb dJ1_indexOf_4cfef_10 (by decide) ?_
    refine va_mmax hx hb (hml.trans hl.1.symm) hown (hts (.methodLink RJ1 92 Lib.Math.max.name) (by decide +kernel)) (hts (.static Lib.Math.max.name) (by decide +kernel)) (hts (.initialized "java/lang/Math") (by decide +kernel)) (hts (.code Lib.Math.max.name Lib.Math.max.code 2 (some .int)) (by decide +kernel)) (Nat.le_of_ble_eq_true rfl) (Nat.le_of_ble_eq_true rfl) (Nat.zero_le _) (Nat.zero_le _) dJ1_indexOf_4cfef_11 ?_
    refine lv_istore_n (lv' := [(2, .int (if x2 < (0 : Int32) then (0 : Int32) else x2)), (0, .ref vS), (1, .int x1), (3, .int x3)]) hx hb dJ1_indexOf_4cfef_14 rfl hl (by decide) rfl (fun ls hl => ?_)
    refine lv_iload_n hx hb dJ1_indexOf_4cfef_15 rfl (lv_at hl 3 rfl) ?_
    refine lv_aload_n hx hb dJ1_indexOf_4cfef_16 rfl (lv_at hl 1 rfl) ?_
    refine va_tlen (v := 5) hx hb (hT.2.1.1 0 (by decide)).2.2.2 (va_S.rf (A := fun _ => False)) (by decide) dJ1_indexOf_4cfef_17 ?_
    refine va_mmin hx hb (hml.trans hl.1.symm) hown (hts (.methodLink RJ1 38 Lib.Math.min.name) (by decide +kernel)) (hts (.static Lib.Math.min.name) (by decide +kernel)) (hts (.initialized "java/lang/Math") (by decide +kernel)) (hts (.code Lib.Math.min.name Lib.Math.min.code 2 (some .int)) (by decide +kernel)) (Nat.le_of_ble_eq_true rfl) (Nat.le_of_ble_eq_true rfl) (Nat.zero_le _) (Nat.zero_le _) dJ1_indexOf_4cfef_18 ?_
    refine lv_istore_n (lv' := [(3, .int (if (5 : Int32) < x3 then (5 : Int32) else x3)), (2, .int (if x2 < (0 : Int32) then (0 : Int32) else x2)), (0, .ref vS), (1, .int x1)]) hx hb dJ1_indexOf_4cfef_21 rfl hl (by decide) rfl (fun ls hl => ?_)
    refine lv_iload_n hx hb dJ1_indexOf_4cfef_22 rfl (lv_at hl 1 rfl) ?_
    refine lv_iload_n hx hb dJ1_indexOf_4cfef_23 rfl (lv_at hl 0 rfl) ?_
    refine lv_icmp_lt (tgt := 29) hx hb dJ1_indexOf_4cfef_24 (by decide) (fun c9 => ?_) (fun c9 => ?_)
    · replace hw := hw.1 c9
      refine lv_aload_n hx hb dJ1_indexOf_4cfef_29 rfl (lv_at hl 2 rfl) ?_
      refine lv_iload_n hx hb dJ1_indexOf_4cfef_30 rfl (lv_at hl 3 rfl) ?_
      refine lv_iload_n hx hb dJ1_indexOf_4cfef_31 rfl (lv_at hl 1 rfl) ?_
      refine lv_iload_n hx hb dJ1_indexOf_4cfef_32 rfl (lv_at hl 0 rfl) ?_
      refine vp_callSi (W.runS (As := [.ref vS, .int x1, .int (if x2 < (0 : Int32) then (0 : Int32) else x2), .int (if (5 : Int32) < x3 then (5 : Int32) else x3)]) (rest := []) ⟨hx, hb, hml, hown, hts⟩ (c_J1_indexOfChar_4cfef l D G vS kS x1 (if x2 < (0 : Int32) then (0 : Int32) else x2) (if (5 : Int32) < x3 then (5 : Int32) else x3) _ hw) (va_cwS 4 hts gJ1_indexOf_4cfef_J1_indexOfChar_4cfef rfl rfl rfl (by decide +kernel) ⟨(Nat.le_of_ble_eq_true rfl), (Nat.le_of_ble_eq_true rfl)⟩) (xRT_ps (hP.sub [] rfl) hK hT (va_S.rf (A := fun _ => False))) rfl rfl hl.1 rfl (lv_room (Nat.le_of_ble_eq_true rfl)) dJ1_indexOf_4cfef_33 ⟨Nat.zero_le _, Nat.zero_le _⟩) (fun r2 hw => ?_)
      exact W.iret hx hb hr (fun t ht _ => ⟨_, rfl, hw, ht⟩) (fun _ h => absurd h List.not_mem_nil) dJ1_indexOf_4cfef_36
    · replace hw := hw.2 c9
      refine lv_iconst (v := -1) hx hb dJ1_indexOf_4cfef_27 (by decide) ?_
      exact W.iret hx hb hr (fun t ht _ => ⟨_, rfl, hw, ht⟩) (fun _ h => absurd h List.not_mem_nil) dJ1_indexOf_4cfef_28
  · replace hw := hw.2 c9
    refine lv_iconst (v := -1) hx hb dJ1_indexOf_4cfef_7 (by decide) ?_
    exact W.iret hx hb hr (fun t ht _ => ⟨_, rfl, hw, ht⟩) (fun _ h => absurd h List.not_mem_nil) dJ1_indexOf_4cfef_8
set_option maxHeartbeats 4000000 in
set_option maxRecDepth 100000 in
theorem c_J0_indexOf_7cf53 (l : Launch) (D : va_G) (G : Nat → ClassId) (kS : Nat) (vS : Nat) (x1 : Int32) (x2 : Int32) (post : Int32 → Prop) (hw : wp_J0_indexOf_7cf53 x1 x2 post) : Met l yJ0_indexOf_7cf53 wsJ0_indexOf_7cf53 ({ frames := 2, cells := 0, slots := 0, locals := 48 } : Room) (va_Pc [.ref kS, .int x1, .int x2] (xRT D G kS vS [])) (vp_Si post) 0 0 (fun _ => False) := by
  refine Met.ofW (cc := cJ0_indexOf_7cf53) (maxL := 3) (ret := (some .int)) (by decide) rfl ?_
  intro p e s m args below meth c s₁ B hml hv
  obtain ⟨rfl, hP, hK, hT⟩ := hv
  have hx := B.exec
  have hb := B.bytes
  have hr := B.returns
  have hts := atoms_spec (ws := wsJ0_indexOf_7cf53) B.pre
  have hown : s.vm.findClass RJ0 = some m.cls := findClass_of_methodNamed B.named
  have hlocks := B.notSynchronized
  have fl9 := hts (.fieldLink RJ0 9 "java/lang/String" "value" "[B") (by decide +kernel)
  have hl := lv_entry ([.ref kS, .int x1, .int x2] : List Value) (n := 3) (Nat.le_of_ble_eq_true rfl)
  rw [lg_entry_eq]
  generalize (lg_sl ([.ref kS, .int x1, .int x2] : List Value) ++ List.replicate (3 - (lg_sl ([.ref kS, .int x1, .int x2] : List Value)).length) Slot.unset).toArray = ls at hl ⊢
  have hl : lv_has ls 3 [(0, .ref kS), (1, .int x1), (2, .int x2)] := hl
  unfold wp_J0_indexOf_7cf53 at hw
  refine lv_aload_n hx hb dJ0_indexOf_7cf53_0 rfl (lv_at hl 0 rfl) ?_
  refine vp_callSi (W.runV (As := []) (rest := []) ⟨hx, hb, hml, hown, hts⟩ (c_J0_isLatin1_aae02 l D G kS vS _ hw) (cwV 0 hts gJ0_indexOf_7cf53_J0_isLatin1_aae02 rfl rfl rfl (by decide +kernel) ⟨(Nat.le_of_ble_eq_true rfl), (Nat.le_of_ble_eq_true rfl)⟩) (xRT_pv (hP.sub [] rfl) hK hT (va_S.rf (A := fun _ => False)) (vk_recv hT.2.1 (i := 0) (by decide) (va_S.rf (A := fun _ => False)))) rfl rfl hl.1 rfl (lv_room (Nat.le_of_ble_eq_true rfl)) dJ0_indexOf_7cf53_1 ⟨Nat.zero_le _, Nat.zero_le _⟩) (fun r1 hw => ?_)
  refine lv_if_eq (tgt := 23) hx hb dJ0_indexOf_7cf53_4 (by decide) (fun c9 => ?_) (fun c9 => ?_)
  · replace hw := hw.1 c9
    exact (hw : False).elim
  · replace hw := hw.2 c9
    refine lv_aload_n hx hb dJ0_indexOf_7cf53_7 rfl (lv_at hl 0 rfl) ?_
    refine vk_getf (v := .ref vS) hx hb (hT.2.1.1 0 (by decide)).2.2.1 (va_S.rf (A := fun _ => False)) hown fl9 (fun _ h9 => h9) dJ0_indexOf_7cf53_8 ?_
    refine lv_iload_n hx hb dJ0_indexOf_7cf53_11 rfl (lv_at hl 1 rfl) ?_
    refine lv_iload_n hx hb dJ0_indexOf_7cf53_12 rfl (lv_at hl 2 rfl) ?_
    refine lv_aload_n hx hb dJ0_indexOf_7cf53_13 rfl (lv_at hl 0 rfl) ?_
    refine vp_callSi (W.runV (As := []) (rest := [.int x2, .int x1, .ref vS]) ⟨hx, hb, hml, hown, hts⟩ (c_J0_length_8abf5 l D G kS vS _ hw) (cwV 0 hts gJ0_indexOf_7cf53_J0_length_8abf5 rfl rfl rfl (by decide +kernel) ⟨(Nat.le_of_ble_eq_true rfl), (Nat.le_of_ble_eq_true rfl)⟩) (xRT_pv (hP.sub [] rfl) hK hT (va_S.rf (A := fun _ => False)) (vk_recv hT.2.1 (i := 0) (by decide) (va_S.rf (A := fun _ => False)))) rfl rfl hl.1 rfl (lv_room (Nat.le_of_ble_eq_true rfl)) dJ0_indexOf_7cf53_14 ⟨Nat.zero_le _, Nat.zero_le _⟩) (fun r2 hw => ?_)
    refine vp_callSi (W.runS (As := [.ref vS, .int x1, .int x2, .int r2]) (rest := []) ⟨hx, hb, hml, hown, hts⟩ (c_J1_indexOf_4cfef l D G vS kS x1 x2 r2 _ hw) (va_cwS 4 hts gJ0_indexOf_7cf53_J1_indexOf_4cfef rfl rfl rfl (by decide +kernel) ⟨(Nat.le_of_ble_eq_true rfl), (Nat.le_of_ble_eq_true rfl)⟩) (xRT_ps (hP.sub [] rfl) hK hT (va_S.rf (A := fun _ => False))) rfl rfl hl.1 rfl (lv_room (Nat.le_of_ble_eq_true rfl)) dJ0_indexOf_7cf53_17 ⟨Nat.zero_le _, Nat.zero_le _⟩) (fun r3 hw => ?_)
    refine lv_goto (tgt := 36) hx hb dJ0_indexOf_7cf53_20 (by decide) ?_
    exact W.iret hx hb hr (fun t ht _ => ⟨_, rfl, hw, ht⟩) (fun _ h => absurd h List.not_mem_nil) dJ0_indexOf_7cf53_36
set_option maxHeartbeats 4000000 in
set_option maxRecDepth 100000 in
theorem c_J0_indexOf_0f7a4 (l : Launch) (D : va_G) (G : Nat → ClassId) (kS : Nat) (vS : Nat) (x1 : Int32) (post : Int32 → Prop) (hw : wp_J0_indexOf_0f7a4 x1 post) : Met l yJ0_indexOf_0f7a4 wsJ0_indexOf_0f7a4 ({ frames := 3, cells := 0, slots := 0, locals := 70 } : Room) (va_Pc [.ref kS, .int x1] (xRT D G kS vS [])) (vp_Si post) 0 0 (fun _ => False) := by
  refine Met.ofW (cc := cJ0_indexOf_0f7a4) (maxL := 2) (ret := (some .int)) (by decide) rfl ?_
  intro p e s m args below meth c s₁ B hml hv
  obtain ⟨rfl, hP, hK, hT⟩ := hv
  have hx := B.exec
  have hb := B.bytes
  have hr := B.returns
  have hts := atoms_spec (ws := wsJ0_indexOf_0f7a4) B.pre
  have hown : s.vm.findClass RJ0 = some m.cls := findClass_of_methodNamed B.named
  have hlocks := B.notSynchronized
  have hl := lv_entry ([.ref kS, .int x1] : List Value) (n := 2) (Nat.le_of_ble_eq_true rfl)
  rw [lg_entry_eq]
  generalize (lg_sl ([.ref kS, .int x1] : List Value) ++ List.replicate (2 - (lg_sl ([.ref kS, .int x1] : List Value)).length) Slot.unset).toArray = ls at hl ⊢
  have hl : lv_has ls 2 [(0, .ref kS), (1, .int x1)] := hl
  unfold wp_J0_indexOf_0f7a4 at hw
  refine lv_aload_n hx hb dJ0_indexOf_0f7a4_0 rfl (lv_at hl 0 rfl) ?_
  refine lv_iload_n hx hb dJ0_indexOf_0f7a4_1 rfl (lv_at hl 1 rfl) ?_
  refine lv_iconst (v := 0) hx hb dJ0_indexOf_0f7a4_2 (by decide) ?_
  refine vp_callSi (W.runV (As := [.int x1, .int (0 : Int32)]) (rest := []) ⟨hx, hb, hml, hown, hts⟩ (c_J0_indexOf_7cf53 l D G kS vS x1 (0 : Int32) _ hw) (cwV 2 hts gJ0_indexOf_0f7a4_J0_indexOf_7cf53 rfl rfl rfl (by decide +kernel) ⟨(Nat.le_of_ble_eq_true rfl), (Nat.le_of_ble_eq_true rfl)⟩) (xRT_pv (hP.sub [] rfl) hK hT (va_S.rf (A := fun _ => False)) (vk_recv hT.2.1 (i := 0) (by decide) (va_S.rf (A := fun _ => False)))) rfl rfl hl.1 rfl (lv_room (Nat.le_of_ble_eq_true rfl)) dJ0_indexOf_0f7a4_3 ⟨Nat.zero_le _, Nat.zero_le _⟩) (fun r1 hw => ?_)
  exact W.iret hx hb hr (fun t ht _ => ⟨_, rfl, hw, ht⟩) (fun _ h => absurd h List.not_mem_nil) dJ0_indexOf_0f7a4_6
