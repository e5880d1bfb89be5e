theorem x_lt9 {x3 : Int32} {i L : Nat} (ex : x3 = nI i) (hi : i ≤ 600) (hL : L ≤ 576) (h : L < i + 9) : Int32.ofNat L - 9 < x3 := by
  have e : (Int32.ofNat L - 9).toInt = (L : Int) - 9 := by
    have e1 : (Int32.ofNat L).toInt = L := nI_toInt (n := L) (by omega)
    have e2 : (9 : Int32).toInt = 9 := by decide
    have hlo := Int32.toInt_sub (Int32.ofNat L) 9
    rw [hlo, e1, e2]
    rw [Int.bmod_eq_of_le] <;> omega
  rw [Int32.lt_iff_toInt_lt, e, ex, nI_toInt (by omega)]; omega
def AllSt (R : ((Nat → Int32) → (Nat → Nat → Int32) → (Nat → Nat → Int64) → Prop)) : Prop := Step_cow R ∧ Step_taster R ∧ Step_milk R ∧ Step_at R ∧ Step_of R ∧ Step_notices R ∧ Step_type R ∧ Step_herd R ∧ Step_count R ∧ Step_answer R ∧ Step_drink R ∧ Step_forget R ∧ Step_bear R ∧ Step_drift R ∧ Step_undo R ∧ Step_seed R ∧ Step_tells R ∧ Step_fewest R ∧ Step_next R ∧ Step_once R ∧ Step_halves R ∧ Step_likely R ∧ Step_noticed R ∧ Step_single R ∧ Step_share R ∧ Step_image R ∧ Step_restore R ∧ Step_fits R ∧ Step_slips R ∧ Step_film R ∧ Step_sheet R ∧ Step_drop R ∧ Step_item R ∧ Step_copyS R ∧ Step_copyD R ∧ Step_copyB R
theorem x_sw0_33 {x : Int32} (c0 : ¬ x = 0) (c1 : ¬ x = 1) (c2 : ¬ x = 2) (c3 : ¬ x = 3) (c4 : ¬ x = 4) (c5 : ¬ x = 5) (c6 : ¬ x = 6) (c7 : ¬ x = 7) (c8 : ¬ x = 8) (c9 : ¬ x = 9) (c10 : ¬ x = 10) (c11 : ¬ x = 11) (c12 : ¬ x = 12) (c13 : ¬ x = 13) (c14 : ¬ x = 14) (c15 : ¬ x = 15) (c16 : ¬ x = 16) (c17 : ¬ x = 17) (c18 : ¬ x = 18) (c19 : ¬ x = 19) (c20 : ¬ x = 20) (c21 : ¬ x = 21) (c22 : ¬ x = 22) (c23 : ¬ x = 23) (c24 : ¬ x = 24) (c25 : ¬ x = 25) (c26 : ¬ x = 26) (c27 : ¬ x = 27) (c28 : ¬ x = 28) (c29 : ¬ x = 29) (c30 : ¬ x = 30) (c31 : ¬ x = 31) (c32 : ¬ x = 32) (c33 : ¬ x = 33) : x.toInt < 0 ∨ 33 < x.toInt := by
  have h0 := x_ne c0; rw [show (0 : Int32).toInt = 0 by decide] at h0
  have h1 := x_ne c1; rw [show (1 : Int32).toInt = 1 by decide] at h1
  have h2 := x_ne c2; rw [show (2 : Int32).toInt = 2 by decide] at h2
  have h3 := x_ne c3; rw [show (3 : Int32).toInt = 3 by decide] at h3
  have h4 := x_ne c4; rw [show (4 : Int32).toInt = 4 by decide] at h4
  have h5 := x_ne c5; rw [show (5 : Int32).toInt = 5 by decide] at h5
  have h6 := x_ne c6; rw [show (6 : Int32).toInt = 6 by decide] at h6
  have h7 := x_ne c7; rw [show (7 : Int32).toInt = 7 by decide] at h7
  have h8 := x_ne c8; rw [show (8 : Int32).toInt = 8 by decide] at h8
  have h9 := x_ne c9; rw [show (9 : Int32).toInt = 9 by decide] at h9
  have h10 := x_ne c10; rw [show (10 : Int32).toInt = 10 by decide] at h10
  have h11 := x_ne c11; rw [show (11 : Int32).toInt = 11 by decide] at h11
  have h12 := x_ne c12; rw [show (12 : Int32).toInt = 12 by decide] at h12
  have h13 := x_ne c13; rw [show (13 : Int32).toInt = 13 by decide] at h13
  have h14 := x_ne c14; rw [show (14 : Int32).toInt = 14 by decide] at h14
  have h15 := x_ne c15; rw [show (15 : Int32).toInt = 15 by decide] at h15
  have h16 := x_ne c16; rw [show (16 : Int32).toInt = 16 by decide] at h16
  have h17 := x_ne c17; rw [show (17 : Int32).toInt = 17 by decide] at h17
  have h18 := x_ne c18; rw [show (18 : Int32).toInt = 18 by decide] at h18
  have h19 := x_ne c19; rw [show (19 : Int32).toInt = 19 by decide] at h19
  have h20 := x_ne c20; rw [show (20 : Int32).toInt = 20 by decide] at h20
  have h21 := x_ne c21; rw [show (21 : Int32).toInt = 21 by decide] at h21
  have h22 := x_ne c22; rw [show (22 : Int32).toInt = 22 by decide] at h22
  have h23 := x_ne c23; rw [show (23 : Int32).toInt = 23 by decide] at h23
  have h24 := x_ne c24; rw [show (24 : Int32).toInt = 24 by decide] at h24
  have h25 := x_ne c25; rw [show (25 : Int32).toInt = 25 by decide] at h25
  have h26 := x_ne c26; rw [show (26 : Int32).toInt = 26 by decide] at h26
  have h27 := x_ne c27; rw [show (27 : Int32).toInt = 27 by decide] at h27
  have h28 := x_ne c28; rw [show (28 : Int32).toInt = 28 by decide] at h28
  have h29 := x_ne c29; rw [show (29 : Int32).toInt = 29 by decide] at h29
  have h30 := x_ne c30; rw [show (30 : Int32).toInt = 30 by decide] at h30
  have h31 := x_ne c31; rw [show (31 : Int32).toInt = 31 by decide] at h31
  have h32 := x_ne c32; rw [show (32 : Int32).toInt = 32 by decide] at h32
  have h33 := x_ne c33; rw [show (33 : Int32).toInt = 33 by decide] at h33
  omega
set_option maxHeartbeats 8000000 in
set_option maxRecDepth 100000 in
theorem law_loop {p : Program} {l : Launch} {e : Env} {s : State} {m : MethodId} {below : List Frame} {meth : Method} {c : Code} {D : va_G} {G : Nat → ClassId} {x0 y0 : Nat} {a b pq kq sq : Nat → Nat} {b0 L : Nat} {xs : Nat → Int32} {kS vS : Nat} (hL : L ≤ 576) (C0 : lw_At p s m meth c b0 L xs) (R : ((Nat → Int32) → (Nat → Nat → Int32) → (Nat → Nat → Int64) → Prop)) (St : AllSt R) (hsq : ∀ k, 4 ≤ k → sq k = sq 0) (hT : xT kS vS (fun q : Nat => s.heap.size ≤ q) s s.heap) (hK : va_K D vwCl (tyL G) s) : ∀ (n i : Nat) (x3 : Int32), x3 = nI i → L < i + 9 * (n + 1) → i ≤ 576 + 9 → ∀ (v : Nat → Int32) (f : Nat → Nat → Int32) (g : Nat → Nat → Int64) (H : Heap) (locs : List Loc) (ls : Array Slot), R v f g → va_P D vwCl (lawW G x0 y0 a b pq kq sq v f g) H → va_D (fun q : Nat => s.heap.size ≤ q) (lawW G x0 y0 a b pq kq sq v f g) → va_S (fun q : Nat => s.heap.size ≤ q) s.heap H locs → lv_has ls 4 [(0, .ref b0), (1, .ref x0), (2, .ref y0), (3, .int x3)] → W p l e room_1 s m #[Value.ref b0] below meth c H locs 66 2290 (lw_Z below #[Value.ref b0] s) (F0 m 18 ls []) := by
  obtain ⟨hx, hb, hr, hml, hown, hts0, hX, hbl, hlocks, hgv⟩ := id C0
  have hb : c.code = cL_law := hb
  have hbA : ¬ (fun q : Nat => s.heap.size ≤ q) b0 := Nat.not_le.mpr hbl
  obtain ⟨s_cow, s_taster, s_milk, s_at, s_of, s_notices, s_type, s_herd, s_count, s_answer, s_drink, s_forget, s_bear, s_drift, s_undo, s_seed, s_tells, s_fewest, s_next, s_once, s_halves, s_likely, s_noticed, s_single, s_share, s_image, s_restore, s_fits, s_slips, s_film, s_sheet, s_drop, s_item, s_copyS, s_copyD, s_copyB⟩ := St
  intro n
  induction n with
  | zero =>
    intro i x3 ex hi hi2 v f g H locs ls hR hP hD hS hl
    refine lv_iload_n hx hb dL_law_18 rfl (lv_at hl 3 rfl) ?_
    refine lv_aload_n hx hb dL_law_19 rfl (lv_at hl 0 rfl) ?_
    refine va_slen hx hb hX hbl hbA hS dL_law_20 ?_
    refine lv_bipush (v := 9) hx hb dL_law_21 (by decide) ?_
    refine lv_isub hx hb dL_law_23 ?_
    refine lv_icmp_gt (tgt := 1371) hx hb dL_law_24 (by decide) (fun _ => ?_) (fun c9 => absurd (x_lt9 ex (by omega) (by omega) (by omega)) c9)
    refine lv_iconst (v := 1) hx hb dL_law_1371 (by decide) ?_
    refine va_forget (fun q hq => hS.2.2 q hq) ?_
    refine W.widen (k := 600000) (n := 7302250) (Nat.le_of_ble_eq_true rfl) (Nat.le_of_ble_eq_true rfl) ?_
    exact lw_ret hx hb hr hlocks dL_law_1372
  | succ n ih =>
    intro i x3 ex hi hi2 v f g H locs ls hR hP hD hS hl
    refine lv_iload_n hx hb dL_law_18 rfl (lv_at hl 3 rfl) ?_
    refine lv_aload_n hx hb dL_law_19 rfl (lv_at hl 0 rfl) ?_
    refine va_slen hx hb hX hbl hbA hS dL_law_20 ?_
    refine lv_bipush (v := 9) hx hb dL_law_21 (by decide) ?_
    refine lv_isub hx hb dL_law_23 ?_
    refine lv_icmp_gt (tgt := 1371) hx hb dL_law_24 (by decide) (fun _ => ?_) (fun c9 => ?_)
    · refine lv_iconst (v := 1) hx hb dL_law_1371 (by decide) ?_
      refine va_forget (fun q hq => hS.2.2 q hq) ?_
      refine W.widen (k := 600000) (n := 7302250) (Nat.le_of_ble_eq_true rfl) (Nat.le_of_ble_eq_true rfl) ?_
      exact lw_ret hx hb hr hlocks dL_law_1372
    have hle : i + 9 ≤ L := by
      rcases Nat.lt_or_ge L (i + 9) with q | q
      · exact absurd (x_lt9 ex (by omega) (by omega) q) c9
      · exact q
    have hin : ∀ k : Nat, k ≤ 8 → vp_in (x3 + Int32.ofNat k) L := fun k hk => by
      rw [ex, show nI i + Int32.ofNat k = nI (i + k) from nI_add i k]; exact vp_in_nI (by omega) (by omega)
    have hin0 : vp_in x3 L := by rw [ex]; exact vp_in_nI (by omega) (by omega)
    have cont : ∀ (v : Nat → Int32) (f : Nat → Nat → Int32) (g : Nat → Nat → Int64) (H : Heap) (locs : List Loc) (ls : Array Slot), R v f g → va_P D vwCl (lawW G x0 y0 a b pq kq sq v f g) H → va_D (fun q : Nat => s.heap.size ≤ q) (lawW G x0 y0 a b pq kq sq v f g) → va_S (fun q : Nat => s.heap.size ≤ q) s.heap H locs → lv_has ls 4 [(0, .ref b0), (1, .ref x0), (2, .ref y0), (3, .int x3)] → W p l e room_1 s m #[Value.ref b0] below meth c H locs 66 2290 (lw_Z below #[Value.ref b0] s) (F0 m 1365 ls []) := by
      intro v f g H locs ls hR hP hD hS hl
      refine lv_iinc (v := x3 + 9) (lv' := [(3, .int (x3 + 9)), (0, .ref b0), (1, .ref x0), (2, .ref y0)]) hx hb dL_law_1365 hl (k := 3) rfl rfl (by decide) rfl (fun ls hl => ?_)
      refine lv_goto (tgt := 18) hx hb dL_law_1368 (by decide) ?_
      exact ih (i + 9) (x3 + 9) (by rw [ex]; exact nI_add i 9) (by omega) (by omega) v f g H locs ls hR hP hD hS (lv_sub hl [1, 2, 3, 0] rfl)
    refine lv_aload_n hx hb dL_law_27 rfl (lv_at hl 0 rfl) ?_
    refine lv_iload_n hx hb dL_law_28 rfl (lv_at hl 3 rfl) ?_
    refine va_sld hx hb hX hbl hbA hS hin0 dL_law_29 ?_
    refine lv_bipush (v := 63) hx hb dL_law_30 (by decide) ?_
    refine lv_iand hx hb dL_law_32 ?_
    generalize (xs x3.toNatClampNeg &&& 63) = z
    by_cases c0 : z = 0
    · refine lv_tableIn (tgt := 184) (off := 151) hx hb dL_law_33 (by rw [c0]; decide) (by rw [c0]; decide) (by rw [c0]; decide) (by decide) ?_
      exact lawc_cow C0 R s_cow x3 hin v f g hR H locs ls hK hP hD hS hl cont
    by_cases c1 : z = 1
    · refine lv_tableIn (tgt := 207) (off := 174) hx hb dL_law_33 (by rw [c1]; decide) (by rw [c1]; decide) (by rw [c1]; decide) (by decide) ?_
      exact lawc_taster C0 R s_taster x3 hin v f g hR H locs ls hK hP hD hS hl cont
    by_cases c2 : z = 2
    · refine lv_tableIn (tgt := 240) (off := 207) hx hb dL_law_33 (by rw [c2]; decide) (by rw [c2]; decide) (by rw [c2]; decide) (by decide) ?_
      exact lawc_milk C0 R s_milk x3 hin v f g hR H locs ls hK hP hD hS hl cont
    by_cases c3 : z = 3
    · refine lv_tableIn (tgt := 273) (off := 240) hx hb dL_law_33 (by rw [c3]; decide) (by rw [c3]; decide) (by rw [c3]; decide) (by decide) ?_
      exact lawc_at C0 R s_at x3 hin v f g hR H locs ls hK hP hD hS hl cont
    by_cases c4 : z = 4
    · refine lv_tableIn (tgt := 306) (off := 273) hx hb dL_law_33 (by rw [c4]; decide) (by rw [c4]; decide) (by rw [c4]; decide) (by decide) ?_
      exact lawc_of C0 R s_of x3 hin v f g hR H locs ls hK hP hD hS hl cont
    by_cases c5 : z = 5
    · refine lv_tableIn (tgt := 329) (off := 296) hx hb dL_law_33 (by rw [c5]; decide) (by rw [c5]; decide) (by rw [c5]; decide) (by decide) ?_
      exact lawc_notices C0 R s_notices x3 hin v f g hR H locs ls hK hP hD hS hl cont
    by_cases c6 : z = 6
    · refine lv_tableIn (tgt := 372) (off := 339) hx hb dL_law_33 (by rw [c6]; decide) (by rw [c6]; decide) (by rw [c6]; decide) (by decide) ?_
      exact lawc_type C0 R s_type x3 hin v f g hR H locs ls hK hP hD hS hl cont
    by_cases c7 : z = 7
    · refine lv_tableIn (tgt := 395) (off := 362) hx hb dL_law_33 (by rw [c7]; decide) (by rw [c7]; decide) (by rw [c7]; decide) (by decide) ?_
      exact lawc_herd C0 R s_herd x3 hin hT v f g hR H locs ls hK hP hD hS hl cont
    by_cases c8 : z = 8
    · refine lv_tableIn (tgt := 408) (off := 375) hx hb dL_law_33 (by rw [c8]; decide) (by rw [c8]; decide) (by rw [c8]; decide) (by decide) ?_
      exact lawc_count C0 R s_count x3 hin v f g hR H locs ls hK hP hD hS hl cont
    by_cases c9 : z = 9
    · refine lv_tableIn (tgt := 431) (off := 398) hx hb dL_law_33 (by rw [c9]; decide) (by rw [c9]; decide) (by rw [c9]; decide) (by decide) ?_
      exact lawc_answer C0 R s_answer x3 hin v f g hR H locs ls hK hP hD hS hl cont
    by_cases c10 : z = 10
    · refine lv_tableIn (tgt := 474) (off := 441) hx hb dL_law_33 (by rw [c10]; decide) (by rw [c10]; decide) (by rw [c10]; decide) (by decide) ?_
      exact lawc_drink C0 R s_drink x3 hin v f g hR H locs ls hK hP hD hS hl cont
    by_cases c11 : z = 11
    · refine lv_tableIn (tgt := 507) (off := 474) hx hb dL_law_33 (by rw [c11]; decide) (by rw [c11]; decide) (by rw [c11]; decide) (by decide) ?_
      exact lawc_forget C0 R s_forget x3 hin v f g hR H locs ls hK hP hD hS hl cont
    by_cases c12 : z = 12
    · refine lv_tableIn (tgt := 520) (off := 487) hx hb dL_law_33 (by rw [c12]; decide) (by rw [c12]; decide) (by rw [c12]; decide) (by decide) ?_
      exact lawc_bear C0 R s_bear x3 hin v f g hR H locs ls hK hP hD hS hl cont
    by_cases c13 : z = 13
    · refine lv_tableIn (tgt := 543) (off := 510) hx hb dL_law_33 (by rw [c13]; decide) (by rw [c13]; decide) (by rw [c13]; decide) (by decide) ?_
      exact lawc_drift C0 R s_drift x3 hin v f g hR H locs ls hK hP hD hS hl cont
    by_cases c14 : z = 14
    · refine lv_tableIn (tgt := 566) (off := 533) hx hb dL_law_33 (by rw [c14]; decide) (by rw [c14]; decide) (by rw [c14]; decide) (by decide) ?_
      exact lawc_undo C0 R s_undo x3 hin v f g hR H locs ls hK hP hD hS hl cont
    by_cases c15 : z = 15
    · refine lv_tableIn (tgt := 579) (off := 546) hx hb dL_law_33 (by rw [c15]; decide) (by rw [c15]; decide) (by rw [c15]; decide) (by decide) ?_
      exact lawc_seed C0 R s_seed x3 hin v f g hR H locs ls hK hP hD hS hl cont
    by_cases c16 : z = 16
    · refine lv_tableIn (tgt := 602) (off := 569) hx hb dL_law_33 (by rw [c16]; decide) (by rw [c16]; decide) (by rw [c16]; decide) (by decide) ?_
      exact lawc_tells C0 R s_tells x3 hin v f g hR H locs ls hK hP hD hS hl cont
    by_cases c17 : z = 17
    · refine lv_tableIn (tgt := 635) (off := 602) hx hb dL_law_33 (by rw [c17]; decide) (by rw [c17]; decide) (by rw [c17]; decide) (by decide) ?_
      exact lawc_fewest C0 R s_fewest x3 hin v f g hR H locs ls hK hP hD hS hl cont
    by_cases c18 : z = 18
    · refine lv_tableIn (tgt := 658) (off := 625) hx hb dL_law_33 (by rw [c18]; decide) (by rw [c18]; decide) (by rw [c18]; decide) (by decide) ?_
      exact lawc_next C0 R s_next x3 hin v f g hR H locs ls hK hP hD hS hl cont
    by_cases c19 : z = 19
    · refine lv_tableIn (tgt := 681) (off := 648) hx hb dL_law_33 (by rw [c19]; decide) (by rw [c19]; decide) (by rw [c19]; decide) (by decide) ?_
      exact lawc_once C0 R s_once x3 hin v f g hR H locs ls hK hP hD hS hl cont
    by_cases c20 : z = 20
    · refine lv_tableIn (tgt := 714) (off := 681) hx hb dL_law_33 (by rw [c20]; decide) (by rw [c20]; decide) (by rw [c20]; decide) (by decide) ?_
      exact lawc_halves C0 R s_halves x3 hin v f g hR H locs ls hK hP hD hS hl cont
    by_cases c21 : z = 21
    · refine lv_tableIn (tgt := 747) (off := 714) hx hb dL_law_33 (by rw [c21]; decide) (by rw [c21]; decide) (by rw [c21]; decide) (by decide) ?_
      exact lawc_likely C0 R s_likely x3 hin v f g hR H locs ls hK hP hD hS hl cont
    by_cases c22 : z = 22
    · refine lv_tableIn (tgt := 780) (off := 747) hx hb dL_law_33 (by rw [c22]; decide) (by rw [c22]; decide) (by rw [c22]; decide) (by decide) ?_
      exact lawc_noticed C0 R s_noticed x3 hin v f g hR H locs ls hK hP hD hS hl cont
    by_cases c23 : z = 23
    · refine lv_tableIn (tgt := 823) (off := 790) hx hb dL_law_33 (by rw [c23]; decide) (by rw [c23]; decide) (by rw [c23]; decide) (by decide) ?_
      exact lawc_single C0 R s_single x3 hin v f g hR H locs ls hK hP hD hS hl cont
    by_cases c24 : z = 24
    · refine lv_tableIn (tgt := 846) (off := 813) hx hb dL_law_33 (by rw [c24]; decide) (by rw [c24]; decide) (by rw [c24]; decide) (by decide) ?_
      exact lawc_share C0 R s_share x3 hin v f g hR H locs ls hK hP hD hS hl cont
    by_cases c25 : z = 25
    · refine lv_tableIn (tgt := 889) (off := 856) hx hb dL_law_33 (by rw [c25]; decide) (by rw [c25]; decide) (by rw [c25]; decide) (by decide) ?_
      exact lawc_image C0 R s_image x3 hin v f g hR H locs ls hK hP hD hS hl cont
    by_cases c26 : z = 26
    · refine lv_tableIn (tgt := 902) (off := 869) hx hb dL_law_33 (by rw [c26]; decide) (by rw [c26]; decide) (by rw [c26]; decide) (by decide) ?_
      exact lawc_restore C0 R s_restore x3 hin v f g hR H locs ls hK hP hD hS hl cont
    by_cases c27 : z = 27
    · refine lv_tableIn (tgt := 915) (off := 882) hx hb dL_law_33 (by rw [c27]; decide) (by rw [c27]; decide) (by rw [c27]; decide) (by decide) ?_
      exact lawc_fits C0 R s_fits x3 hin hsq v f g hR H locs ls hK hP hD hS hl cont
    by_cases c28 : z = 28
    · refine lv_tableIn (tgt := 990) (off := 957) hx hb dL_law_33 (by rw [c28]; decide) (by rw [c28]; decide) (by rw [c28]; decide) (by decide) ?_
      exact lawc_slips C0 R s_slips x3 hin hsq v f g hR H locs ls hK hP hD hS hl cont
    by_cases c29 : z = 29
    · refine lv_tableIn (tgt := 1090) (off := 1057) hx hb dL_law_33 (by rw [c29]; decide) (by rw [c29]; decide) (by rw [c29]; decide) (by decide) ?_
      exact lawc_film C0 R s_film x3 hin hsq v f g hR H locs ls hK hP hD hS hl cont
    by_cases c30 : z = 30
    · refine lv_tableIn (tgt := 1153) (off := 1120) hx hb dL_law_33 (by rw [c30]; decide) (by rw [c30]; decide) (by rw [c30]; decide) (by decide) ?_
      exact lawc_sheet C0 R s_sheet x3 hin hsq v f g hR H locs ls hK hP hD hS hl cont
    by_cases c31 : z = 31
    · refine lv_tableIn (tgt := 1196) (off := 1163) hx hb dL_law_33 (by rw [c31]; decide) (by rw [c31]; decide) (by rw [c31]; decide) (by decide) ?_
      exact lawc_drop C0 R s_drop x3 hin hsq v f g hR H locs ls hK hP hD hS hl cont
    by_cases c32 : z = 32
    · refine lv_tableIn (tgt := 1219) (off := 1186) hx hb dL_law_33 (by rw [c32]; decide) (by rw [c32]; decide) (by rw [c32]; decide) (by decide) ?_
      exact lawc_item C0 R s_item x3 hin hsq v f g hR H locs ls hK hP hD hS hl cont
    by_cases c33 : z = 33
    · refine lv_tableIn (tgt := 1302) (off := 1269) hx hb dL_law_33 (by rw [c33]; decide) (by rw [c33]; decide) (by rw [c33]; decide) (by decide) ?_
      exact lawc_copy C0 R s_copyS s_copyD s_copyB x3 hin hsq v f g hR H locs ls hK hP hD hS hl cont
    refine lv_tableOut (tgt := 1365) hx hb dL_law_33 (x_sw0_33 c0 c1 c2 c3 c4 c5 c6 c7 c8 c9 c10 c11 c12 c13 c14 c15 c16 c17 c18 c19 c20 c21 c22 c23 c24 c25 c26 c27 c28 c29 c30 c31 c32 c33) (by decide) ?_
    exact cont v f g H locs ls hR hP hD hS hl
