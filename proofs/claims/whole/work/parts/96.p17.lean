/-! pure part 17: fits and slips, the steps -/
theorem SJx {x : Int32} {j : Nat} (h : SJ x j) {i : Nat} (hi : i < 4) (e : x = nI i) : i = j := by subst e; exact SJ_eq hi h
set_option maxRecDepth 20000 in
theorem st_fits : Step_fits RR := by
  intro v f g x1 x2 x3 x4 x5 x6 j hsj keep
  have hS := RR_SH keep
  obtain ⟨⟨c, t, w, k, hD⟩, hK, hT, -⟩ := id keep
  obtain ⟨⟨hc, ht, hw, hk⟩, ⟨e1, e2, e3, e4⟩, ⟨m4, m13, m22⟩, hmi, hta, ⟨q0, q1, q2, q3, hM⟩, hpast⟩ := id hD
  obtain ⟨hok, h5⟩ := DR_okM hD
  have hp := pow_le8 hc
  rcases ix x1 (n := t) (by omega) with h | ⟨tt, htt, rfl⟩
  · exact s7t_bad e2 h (q_t rfl (s8_isTaster_bad m13 ht h (q_t rfl ⟨rfl, keep⟩)))
  refine s7t_ok e2 ht htt (q_f ne10 ?_)
  rcases ix x2 (n := 4) (by decide) with h | ⟨i, hi, rfl⟩
  · exact s7l_bad1 h (q_t rfl (s8_isTaster_ok m13 ht htt (q_f ne10 (s8s_bad h (q_t rfl ⟨rfl, keep⟩)))))
  have e := SJ_eq hi hsj; subst e
  rcases ix x3 (n := 4) (by decide) with h | ⟨l, hl, rfl⟩
  · exact s7l_bad hi h (q_t rfl (s8_isTaster_ok m13 ht htt (q_f ne10 (s8s_ok hi (q_f ne10 (in3_bad h (q_t rfl ⟨rfl, keep⟩)))))))
  refine s7l_ok hi hl (q_f ne10 ?_)
  rcases rng x5 1 6 (by decide) (by decide) with h | ⟨h, h2⟩ | ⟨n, n1, n6, rfl, hn1, hn6⟩
  · exact q_t h (s8_isTaster_ok m13 ht htt (q_f ne10 (s8s_ok hi (q_f ne10 (in3_ok hl (q_f ne10 (s_in_lo h (q_t rfl ⟨rfl, keep⟩))))))))
  · exact q_f h (q_t h2 (s8_isTaster_ok m13 ht htt (q_f ne10 (s8s_ok hi (q_f ne10 (in3_ok hl (q_f ne10 (s_in_hi h h2 (q_t rfl ⟨rfl, keep⟩)))))))))
  refine q_f hn1 (q_f hn6 ?_)
  have M0 : ∀ P : Int32 → (Nat → Int32) → Prop, wp_X8_in x6 (0 : Int32) (3 : Int32) (fun r5 => (¬ r5 = 0 → wp_X8_wrongPairs (f 26) (f 27) (g 4) (f 29) (nI i) (nI l) x4 (nI n) (fun r6 => (r6 = 0 → ((2 : Int32) ≤ x6 → (∃ n', wp_X8_fits_L99 (g 4) (f 29) (nI tt) (nI i) x4 (nI n) x6 P n' (f 30) (0 : Int32) (x6 - (2 : Int32)))) ∧ (¬ (2 : Int32) ≤ x6 → wp_X8_fitByN (g 4) (f 29) (nI tt) (nI i) x4 (nI n) x6 (fun r7 => P r7 (f 30)))) ∧ (¬ r6 = 0 → P r6 (f 30)))) ∧ (r5 = 0 → P (-1 : Int32) (f 30))) → wp_X8_fits (f 26) (f 27) (g 4) (f 29) (f 30) (nI tt) (nI i) (nI l) x4 (nI n) x6 P := fun P hP => s8_isTaster_ok m13 ht htt (q_f ne10 (s8s_ok hi (q_f ne10 (in3_ok hl (q_f ne10 (s_in_ok hn1 hn6 (q_f ne10 hP)))))))
  rcases rng x6 0 3 (by decide) (by decide) with h | ⟨h, h2⟩ | ⟨q, -, q3', rfl, hq0, hq3⟩
  · exact q_t h (M0 _ (s_in_lo h (n_f rfl ⟨rfl, keep⟩)))
  · refine q_f h (q_f (fun z => ?_) (M0 _ (s_in_hi h h2 (n_f rfl ⟨rfl, keep⟩))))
    rw [fa_le] at z; rw [fa_lt] at h2
    have : (nI 3).toInt = 3 := by decide
    have : ((3 : Int32)).toInt = 3 := by decide
    omega
  refine q_f hq0 (q_t (nI_le (b := 3) q3' (by decide)) ?_)
  rw [e1]
  rcases s_row hc m4 hi hl n1 n6 (hS i hi) x4 with ⟨r, hr, h7, h8⟩ | ⟨a, M, b, rfl, ha, hpr, h7, h8⟩
  · exact h7 _ _ _ _ (fun wp' mx' an' => q_f hr (M0 _ (s_in_ok hq0 hq3 (n_t ne10 (h8 _ (q_f hr ⟨rfl, keep⟩))))))
  refine h7 _ _ _ _ (fun mx an hma => q_t rfl ?_)
  obtain ⟨kd, fn, d, hkd, hfn1, hfn, hd, ek, ef, nk, nf, ed, nd⟩ := tas hD htt
  have hMl : ∀ k, k < n → M k < 2 ^ c := fun k hk => (hpr k hk).2.1
  rw [nI_clamp (by omega), ek, ef, ed]
  refine ⟨vp_in_nI (by omega) (by decide), vp_in_nI (by omega) (by decide), ?_⟩
  have Mok : ∀ P : Int32 → (Nat → Int32) → Prop, ((2 : Int32) ≤ nI q → (∃ n', wp_X8_fits_L99 (g 4) (f 29) (nI tt) (nI i) (nI a) (nI n) (nI q) P n' (f 30) (0 : Int32) (nI q - (2 : Int32)))) ∧ (¬ (2 : Int32) ≤ nI q → wp_X8_fitByN (g 4) (f 29) (nI tt) (nI i) (nI a) (nI n) (nI q) (fun r7 => P r7 (f 30))) → wp_X8_fits (f 26) (f 27) (g 4) (f 29) (f 30) (nI tt) (nI i) (nI l) (nI a) (nI n) (nI q) P := fun P hP => M0 P (s_in_ok hq0 hq3 (n_t ne10 (h8 _ (q_t rfl hP))))
  -- what 'bring' makes of the tried state
  have BR : ∀ (tr : Nat → Int32) (y : Nat), y < 55 → fb_put tr (fun x => f 29 (0 + x)) 0 55 y = f 29 y := by
    intro tr y hy
    rw [fb_put_in (by omega) (by omega)]; congr 1; omega
  rcases (show q = 0 ∨ q = 1 ∨ q = 2 ∨ q = 3 by omega) with rfl | rfl | rfl | rfl
  · refine q_t rfl (s_fitting hc n6 hMl hd hok hma hkd hfn (Mok _ (q_f (by decide) ?_)))
    exact s_fitByN hc n6 hi ha hpr (by omega) hkd hfn hd m4 h5 hok nk nf nd (by decide) ⟨rfl, keep⟩
  · refine q_f (by decide) (q_t rfl (s_butOne hc n6 hMl hd hok hma hkd hfn (Mok _ (q_f (by decide) ?_))))
    exact s_fitByN hc n6 hi ha hpr (by omega) hkd hfn hd m4 h5 hok nk nf nd (by decide) ⟨rfl, keep⟩
  · refine q_f (by decide) (q_f (by decide) (q_t rfl (s_kinds hc n6 hMl hd hok hma hfn (Mok _ (q_t (by decide) ?_)))))
    have L : ∀ (P : Int32 → (Nat → Int32) → Prop), (∀ tr, P (nI (setTo (fun kd => !decide (fitS kd fn d c (tn (f 0)) M b n = 0)) 5)) tr) → ∀ (dd z : Nat) (tr : Nat → Int32), z + dd = 5 → wp_X8_fits_L99 (g 4) (f 29) (nI tt) (nI i) (nI a) (nI n) (nI 2) P (dd + 1) tr (nI (setTo (fun kd => !decide (fitS kd fn d c (tn (f 0)) M b n = 0)) z)) (nI z) := by
      intro P hP dd
      induction dd with
      | zero =>
        intro z tr hz
        have : z = 5 := by omega
        subst this
        exact n_f rfl (q_t (by decide) (hP tr))
      | succ dd ih =>
        intro z tr hz
        refine n_f rfl (q_f (nI_nlt (b := z) (a := 4) (by omega) (by decide)) (s_bring (i := 0) (j := 0) (n := 55) (by decide) (by decide) (n_f rfl ?_)))
        unfold wp_X8_fits_J148
        rw [lit_add 14, nI_clamp (n := 14 + tt) (by omega), ← nI_succ]
        refine ⟨vp_in_nI (by omega) (by decide), s_fitByT (kd := z) (fn := fn) (most := 0) hc n6 hi ha hpr (by omega) (by omega) hfn hd m4 ?_ (fun y hy => ?_) hok (u_s rfl) ?_ ?_ (by decide) ?_⟩
        · rw [u_n (by omega), BR _ _ (by omega)]; exact m4
        · rw [u_n (by omega), BR _ _ (by omega)]; exact h5 y hy
        · rw [u_n (by omega), BR _ _ (by omega)]; exact nf
        · rw [u_n (by omega), BR _ _ (by omega)]; exact nd
        have e := ih (z + 1) (upd (fb_put tr (fun x => f 29 (0 + x)) 0 55) (14 + tt) (nI z)) (by omega)
        have hlt := fitS_lt z fn d c (tn (f 0)) M b n
        rw [setTo_s] at e
        rw [show setTo (fun i => decide (ly z fn d c (tn (f 0)) M b n i ≤ 0)) c = fitS z fn d c (tn (f 0)) M b n from rfl]
        by_cases h : fitS z fn d c (tn (f 0)) M b n = 0
        · rw [if_neg (by simp [h]), Nat.add_zero] at e
          refine q_t ((nI0 (by omega)).mpr h) ?_
          rw [show nI (setTo (fun kd => !decide (fitS kd fn d c (tn (f 0)) M b n = 0)) z) ||| (0 : Int32) = nI (setTo (fun kd => !decide (fitS kd fn d c (tn (f 0)) M b n = 0)) z) from (fa_or _ 0).trans (by rw [Nat.or_zero])]
          exact e
        · rw [if_pos (by simp [h])] at e
          refine q_f (fun z => h ((nI0 (by omega)).mp z)) ?_
          rw [or_step2 _ (by omega)]; exact e
    exact ⟨6, L _ (fun tr => ⟨rfl, keep⟩) 5 0 (f 30) (by omega)⟩
  · refine q_f (by decide) (q_f (by decide) (q_f (by decide) (s_fines hc n6 hMl hd hok hma hkd (Mok _ (q_t (by decide) ?_)))))
    have L : ∀ (P : Int32 → (Nat → Int32) → Prop), (∀ tr, P (nI (setTo (fun fn => decide (1 ≤ fn) && !decide (fitS kd fn d c (tn (f 0)) M b n = 0)) 10)) tr) → ∀ (dd z : Nat) (tr : Nat → Int32), z + dd = 10 → 1 ≤ z → wp_X8_fits_L99 (g 4) (f 29) (nI tt) (nI i) (nI a) (nI n) (nI 3) P (dd + 1) tr (nI (setTo (fun fn => decide (1 ≤ fn) && !decide (fitS kd fn d c (tn (f 0)) M b n = 0)) z)) (nI z) := by
      intro P hP dd
      induction dd with
      | zero =>
        intro z tr hz _
        have : z = 10 := by omega
        subst this
        exact n_t (by decide) (q_t (by decide) (hP tr))
      | succ dd ih =>
        intro z tr hz z1
        refine n_t (by decide) (q_f (nI_nlt (b := z) (a := 9) (by omega) (by decide)) (s_bring (i := 0) (j := 0) (n := 55) (by decide) (by decide) (n_t (by decide) ?_)))
        unfold wp_X8_fits_J148
        rw [lit_add 18, nI_clamp (n := 18 + tt) (by omega), ← nI_succ]
        refine ⟨vp_in_nI (by omega) (by decide), s_fitByT (kd := kd) (fn := z) (most := 0) hc n6 hi ha hpr (by omega) hkd (by omega) hd m4 ?_ (fun y hy => ?_) hok ?_ (u_s rfl) ?_ (by decide) ?_⟩
        · rw [u_n (by omega), BR _ _ (by omega)]; exact m4
        · rw [u_n (by omega), BR _ _ (by omega)]; exact h5 y hy
        · rw [u_n (by omega), BR _ _ (by omega)]; exact nk
        · rw [u_n (by omega), BR _ _ (by omega)]; exact nd
        have e := ih (z + 1) (upd (fb_put tr (fun x => f 29 (0 + x)) 0 55) (18 + tt) (nI z)) (by omega) (by omega)
        have hlt := fitS_lt kd z d c (tn (f 0)) M b n
        rw [setTo_s] at e
        rw [show setTo (fun i => decide (ly kd z d c (tn (f 0)) M b n i ≤ 0)) c = fitS kd z d c (tn (f 0)) M b n from rfl]
        by_cases h : fitS kd z d c (tn (f 0)) M b n = 0
        · rw [if_neg (by simp [h]), Nat.add_zero] at e
          refine q_t ((nI0 (by omega)).mpr h) ?_
          rw [show nI (setTo (fun fn => decide (1 ≤ fn) && !decide (fitS kd fn d c (tn (f 0)) M b n = 0)) z) ||| (0 : Int32) = nI (setTo (fun fn => decide (1 ≤ fn) && !decide (fitS kd fn d c (tn (f 0)) M b n = 0)) z) from (fa_or _ 0).trans (by rw [Nat.or_zero])]
          exact e
        · rw [if_pos (by simp [h]; omega)] at e
          refine q_f (fun z => h ((nI0 (by omega)).mp z)) ?_
          rw [or_step2 _ (by omega)]; exact e
    exact ⟨10, L _ (fun tr => ⟨rfl, keep⟩) 9 1 (f 30) (by omega) (by omega)⟩
/-- the odds by one cow -/
def od (s n l m : Nat) : Nat := m * (s ^ l * (10 - s) ^ (n - l))
theorem od_le {s n l m : Nat} (hs : s ≤ 10) (hl : l ≤ n) (hn : n ≤ 6) : od s n l m ≤ m * 1000000 := by
  apply Nat.mul_le_mul_left
  have h1 : s ^ l ≤ 10 ^ l := Nat.pow_le_pow_left hs l
  have h2 : (10 - s) ^ (n - l) ≤ 10 ^ (n - l) := Nat.pow_le_pow_left (by omega) (n - l)
  have h3 : 10 ^ l * 10 ^ (n - l) = 10 ^ n := by rw [← Nat.pow_add]; congr 1; omega
  have h4 : 10 ^ n ≤ 10 ^ 6 := Nat.pow_le_pow_right (by decide) hn
  exact Nat.le_trans (Nat.mul_le_mul h1 h2) (by rw [h3]; exact h4)
theorem ten {s : Nat} (hs : s ≤ 10) : ((10 : Int32) - nI s).toInt64 = lN (10 - s) := by
  have e : (10 : Int32) - nI s = nI (10 - s) := (by decide : ∀ s, s < 11 → (10 : Int32) - nI s = nI (10 - s)) s (by omega)
  rw [e, nI_l (by omega)]
section SL
variable {c n d : Nat} {milks : Nat → Int32} {M : Nat → Nat} {b : Nat → Bool} {mx an : Nat → Int32}
theorem s_compare (hc : c ≤ 8) (hn : n ≤ 6) (hM : ∀ k, k < n → M k < 2 ^ c) (hd : d ≤ 9999) (hok : okM c milks) (hr : ∀ k, k < n → mx k = nI (M k) ∧ an k = bi (b k)) {kd fn : Nat} (hk : kd < 5) (hf : fn ≤ 9) {ag : Nat → Int32} {post : (Nat → Int32) → Prop}
    (p : ∀ ag' : Nat → Int32, (∀ k, k < n → ag' k = nI (setTo (ags kd fn d c (tn milks) M b k) c)) → post ag') : wp_X3_compare (nI n) mx an ag (nI c) milks (nI d) (nI kd) (nI fn) post := by
  have L : ∀ (dd k : Nat) (ag' : Nat → Int32), k + dd = n → (∀ j, j < k → ag' j = nI (setTo (ags kd fn d c (tn milks) M b j) c)) → wp_X3_compare_L3 (nI n) mx an (nI c) milks (nI d) (nI kd) (nI fn) post (dd + 1) ag' (nI k) := by
    intro dd
    induction dd with
    | zero =>
      intro k ag' hk2 hj
      have : k = n := by omega
      subst this
      exact q_t (nI_le (Nat.le_refl _) (by omega)) (p ag' hj)
    | succ dd ih =>
      intro k ag' hk2 hj
      refine q_f (nI_ge (by omega) (by omega)) ?_
      rw [nI_clamp (by omega), (hr k (by omega)).1, (hr k (by omega)).2, ← nI_succ]
      refine ⟨vp_in_nI (by omega) (by decide), vp_in_nI (by omega) (by decide), s0_agreeing hc (hM k (by omega)) hk hf hd hok (b k) ⟨vp_in_nI (by omega) (by decide), ih (k + 1) _ (by omega) (fun j hj2 => ?_)⟩⟩
      by_cases e : j = k
      · rw [u_s e, e]; rfl
      · rw [u_n e]; exact hj j (by omega)
  exact ⟨n + 1, L n 0 ag (by omega) (fun j hj => absurd hj (by omega))⟩
theorem s_wOne (hc : c ≤ 8) (hn : n ≤ 6) {kd fn s i m : Nat} (hs : s ≤ 10) (hi : i < c) (hm : m ≤ 9) {ag : Nat → Int32} (hag : ∀ k, k < n → ag k = nI (setTo (ags kd fn d c (tn milks) M b k) c)) {post : Int64 → Prop}
    (p : post (lN (od s n (ly kd fn d c (tn milks) M b n i) m))) : wp_X3_weightOfOne (nI n) ag (nI m) (nI i) (nI s) post := by
  have hp := pow_le8 hc
  have L : ∀ (dd k : Nat), k + dd = n → wp_X3_weightOfOne_L7 (nI n) ag (nI i) (nI s) post (dd + 1) (lN (od s k (ly kd fn d c (tn milks) M b k i) m)) (nI k) := by
    intro dd
    induction dd with
    | zero =>
      intro k hk2
      have : k = n := by omega
      subst this
      exact q_t (nI_le (Nat.le_refl _) (by omega)) p
    | succ dd ih =>
      intro k hk2
      have e := ih (k + 1) (by omega)
      have hl : ly kd fn d c (tn milks) M b k i ≤ k := fb_ct_le _ k
      have e1 : ly kd fn d c (tn milks) M b (k + 1) i = ly kd fn d c (tn milks) M b k i + (if (!ags kd fn d c (tn milks) M b k i) then 1 else 0) := rfl
      have hst := setTo_lt (ags kd fn d c (tn milks) M b k) c
      refine q_f (nI_ge (by omega) (by omega)) ?_
      rw [nI_clamp (n := k) (by omega), hag k (by omega), ← nI_succ, ten hs, nI_l (n := s) (by omega), lN_mul, lN_mul]
      refine ⟨vp_in_nI (by omega) (by decide), ?_⟩
      have hbit : (setTo (ags kd fn d c (tn milks) M b k) c).testBit i = ags kd fn d c (tn milks) M b k i := by rw [setTo_bit]; simp [hi]
      cases hb : ags kd fn d c (tn milks) M b k i with
      | true =>
        refine n_f ((shb1 (by omega) (by omega)).mpr (by rw [hbit, hb])) ?_
        rw [e1, hb] at e
        have : od s k (ly kd fn d c (tn milks) M b k i) m * (10 - s) = od s (k + 1) (ly kd fn d c (tn milks) M b k i + 0) m := by
          unfold od
          rw [Nat.add_zero, show k + 1 - ly kd fn d c (tn milks) M b k i = (k - ly kd fn d c (tn milks) M b k i) + 1 by omega, Nat.pow_succ, Nat.mul_assoc, Nat.mul_assoc]
        rw [this]; exact e
      | false =>
        refine n_t (fun q => by rw [shb1 (by omega) (by omega), hbit, hb] at q; cases q) ?_
        rw [e1, hb] at e
        have : od s k (ly kd fn d c (tn milks) M b k i) m * s = od s (k + 1) (ly kd fn d c (tn milks) M b k i + 1) m := by
          unfold od
          rw [show k + 1 - (ly kd fn d c (tn milks) M b k i + 1) = k - ly kd fn d c (tn milks) M b k i by omega, Nat.pow_succ, Nat.mul_assoc, Nat.mul_assoc, Nat.mul_comm ((10 - s) ^ _) s, Nat.mul_assoc]
        rw [this]; exact e
  unfold wp_X3_weightOfOne
  rw [nI_l (by omega)]
  refine ⟨n + 1, ?_⟩
  have := L n 0 (by omega)
  have e0 : od s 0 (ly kd fn d c (tn milks) M b 0 i) m = m := by
    show m * (s ^ 0 * (10 - s) ^ (0 - 0)) = m
    simp
  rw [e0] at this; exact this
theorem s_wOf (hc : c ≤ 8) (hn : n ≤ 6) (hok : okM c milks) {kd fn s x : Nat} (hs : s ≤ 10) (hx : x < 2 ^ c) {ag : Nat → Int32} (hag : ∀ k, k < n → ag k = nI (setTo (ags kd fn d c (tn milks) M b k) c)) {post : Int64 → Prop}
    (p : post (lN (smk (fun i => od s n (ly kd fn d c (tn milks) M b n i) (tn milks i)) x c))) : wp_X3_weightOf (nI n) ag (nI c) milks (nI x) (nI s) post := by
  have hp := pow_le8 hc
  have L : ∀ (dd k : Nat), k + dd = c → wp_X3_weightOf_L6 (nI n) ag (nI c) milks (nI x) (nI s) post (dd + 1) (lN (smk (fun i => od s n (ly kd fn d c (tn milks) M b n i) (tn milks i)) x k)) (nI k) := by
    intro dd
    induction dd with
    | zero =>
      intro k hk2
      have : k = c := by omega
      subst this
      exact q_t (nI_le (Nat.le_refl _) (by omega)) p
    | succ dd ih =>
      intro k hk2
      have e := ih (k + 1) (by omega)
      have e1 : smk (fun i => od s n (ly kd fn d c (tn milks) M b n i) (tn milks i)) x (k + 1) = smk (fun i => od s n (ly kd fn d c (tn milks) M b n i) (tn milks i)) x k + (if x.testBit k then od s n (ly kd fn d c (tn milks) M b n k) (tn milks k) else 0) := rfl
      have hmk := hok k (by omega)
      refine q_f (nI_ge (by omega) (by omega)) ?_
      rw [← nI_succ]
      cases hb : x.testBit k with
      | true =>
        rw [e1, hb, if_pos rfl, ← lN_add] at e
        refine n_f ((shb1 (by omega) (by omega)).mpr hb) ?_
        rw [nI_clamp (by omega), hmk.1]
        exact ⟨vp_in_nI (by omega) (by decide), s_wOne hc hn hs (by omega) hmk.2.2 hag e⟩
      | false =>
        rw [e1, hb, if_neg (by decide), Nat.add_zero] at e
        exact n_t (fun q => by rw [shb1 (by omega) (by omega), hb] at q; cases q) e
  exact ⟨c + 1, L c 0 (by omega)⟩
/-- the model's odds by one cow -/
theorem s_odds {s l m : Nat} (hn : n ≤ 6) (hs : s ≤ 10) (hl : l ≤ n) {x1 x14 : Int32} {x10 x12 : Int64} {K : Int64 → Int64 → Int32 → Prop} {post : Int64 → Prop}
    (p : (¬ x14 = x1 → K x10 (x12 + lN (od s n l m)) (x14 + 1)) ∧ (x14 = x1 → K (lN (od s n l m)) (x12 + lN (od s n l m)) (x14 + 1))) : ∃ k, wp_X8_slips_L164 x1 (nI s) (nI n) x10 x12 x14 (nI l) K post k (lN m) 0 := by
  have L : ∀ (dd k : Nat), k + dd = n → wp_X8_slips_L164 x1 (nI s) (nI n) x10 x12 x14 (nI l) K post (dd + 1) (lN (od s k (min k l) m)) (nI k) := by
    intro dd
    induction dd with
    | zero =>
      intro k hk
      have : k = n := by omega
      subst this
      rw [Nat.min_eq_right hl]
      exact q_t (nI_le (Nat.le_refl _) (by omega)) p
    | succ dd ih =>
      intro k hk
      have e := ih (k + 1) (by omega)
      refine q_f (nI_ge (by omega) (by omega)) ?_
      rw [← nI_succ, ten hs, nI_l (n := s) (by omega), lN_mul, lN_mul]
      by_cases h : l ≤ k
      · refine q_t (nI_le h (by omega)) ?_
        have : od s k (min k l) m * (10 - s) = od s (k + 1) (min (k + 1) l) m := by
          unfold od
          rw [Nat.min_eq_right h, Nat.min_eq_right (by omega), show k + 1 - l = (k - l) + 1 by omega, Nat.pow_succ, Nat.mul_assoc, Nat.mul_assoc]
        rw [this]; exact e
      · refine q_f (nI_ge (by omega) (by omega)) ?_
        have : od s k (min k l) m * s = od s (k + 1) (min (k + 1) l) m := by
          unfold od
          rw [Nat.min_eq_left (by omega), Nat.min_eq_left (by omega), Nat.sub_self, Nat.sub_self, Nat.pow_succ, Nat.pow_zero, Nat.mul_one, Nat.mul_one, Nat.mul_assoc]
        rw [this]; exact e
  refine ⟨n + 1, ?_⟩
  have := L n 0 (by omega)
  have e0 : od s 0 (min 0 l) m = m := by
    rw [Nat.min_eq_left (by omega)]
    show m * (s ^ 0 * (10 - s) ^ (0 - 0)) = m
    simp
  rw [e0] at this; exact this
end SL
theorem smk_b {W : Nat → Nat} {B : Nat} {x : Nat} : ∀ {c : Nat}, (∀ i, i < c → W i ≤ B) → smk W x c ≤ c * B := by
  intro c h
  apply fb_sm_bound
  intro i hi
  have := h i hi
  show (if x.testBit i then W i else 0) ≤ B
  split
  · exact this
  · exact Nat.zero_le _
set_option maxRecDepth 20000 in
theorem st_slips : Step_slips RR := by
  intro v f g x1 x2 x3 x4 x5 x6 x7 x8 j hsj keep
  have hS := RR_SH keep
  obtain ⟨⟨c, t, w, k, hD⟩, hK, hT, -⟩ := id keep
  obtain ⟨⟨hc, ht, hw, hk⟩, ⟨e1, e2, e3, e4⟩, ⟨m4, m13, m22⟩, hmi, hta, ⟨q0, q1, q2, q3, hM⟩, hpast⟩ := id hD
  obtain ⟨hok, h5⟩ := DR_okM hD
  obtain ⟨x, hx, ex⟩ := hM.1
  have hp := pow_le8 hc
  rcases ix x1 (n := c) (by omega) with h | ⟨u, hu, rfl⟩
  · exact s7c_bad e1 h (q_t rfl (s8_isCow_bad m4 hc h (q_t rfl ⟨rfl, keep⟩)))
  refine s7c_ok e1 hc hu (q_f ne10 ?_)
  rcases ix x2 (n := t) (by omega) with h | ⟨tt, htt, rfl⟩
  · exact s7t_bad e2 h (q_t rfl (s8_isCow_ok m4 hc hu (q_f ne10 (s8_isTaster_bad m13 ht h (q_t rfl ⟨rfl, keep⟩)))))
  refine s7t_ok e2 ht htt (q_f ne10 ?_)
  rcases rng x3 0 10 (by decide) (by decide) with h | ⟨h, h2⟩ | ⟨s, -, s10, rfl, hs0, hs10⟩
  · exact q_t h (s8_isCow_ok m4 hc hu (q_f ne10 (s8_isTaster_ok m13 ht htt (q_f ne10 (s_in_lo h (q_t rfl ⟨rfl, keep⟩))))))
  · refine q_f h (q_f (fun z => ?_) (s8_isCow_ok m4 hc hu (q_f ne10 (s8_isTaster_ok m13 ht htt (q_f ne10 (s_in_hi h h2 (q_t rfl ⟨rfl, keep⟩)))))))
    rw [fa_le] at z; rw [fa_lt] at h2
    have : (nI 10).toInt = 10 := by decide
    have : ((10 : Int32)).toInt = 10 := by decide
    omega
  refine q_f hs0 (q_t (nI_le (b := 10) s10 (by decide)) ?_)
  rcases ix x4 (n := 4) (by decide) with h | ⟨i, hi, rfl⟩
  · exact s7l_bad1 h (q_t rfl (s8_isCow_ok m4 hc hu (q_f ne10 (s8_isTaster_ok m13 ht htt (q_f ne10 (s_in_ok hs0 hs10 (q_f ne10 (s8s_bad h (q_t rfl ⟨rfl, keep⟩)))))))))
  have e := SJ_eq hi hsj; subst e
  rcases ix x5 (n := 4) (by decide) with h | ⟨l, hl, rfl⟩
  · exact s7l_bad hi h (q_t rfl (s8_isCow_ok m4 hc hu (q_f ne10 (s8_isTaster_ok m13 ht htt (q_f ne10 (s_in_ok hs0 hs10 (q_f ne10 (s8s_ok hi (q_f ne10 (in3_bad h (q_t rfl ⟨rfl, keep⟩)))))))))))
  refine s7l_ok hi hl (q_f ne10 ?_)
  rcases rng x7 1 6 (by decide) (by decide) with h | ⟨h, h2⟩ | ⟨n, n1, n6, rfl, hn1, hn6⟩
  · exact q_t h (s8_isCow_ok m4 hc hu (q_f ne10 (s8_isTaster_ok m13 ht htt (q_f ne10 (s_in_ok hs0 hs10 (q_f ne10 (s8s_ok hi (q_f ne10 (in3_ok hl (q_f ne10 (s_in_lo h (q_t rfl ⟨rfl, keep⟩))))))))))))
  · exact q_f h (q_t h2 (s8_isCow_ok m4 hc hu (q_f ne10 (s8_isTaster_ok m13 ht htt (q_f ne10 (s_in_ok hs0 hs10 (q_f ne10 (s8s_ok hi (q_f ne10 (in3_ok hl (q_f ne10 (s_in_hi h h2 (q_t rfl ⟨rfl, keep⟩)))))))))))))
  refine q_f hn1 (q_f hn6 ?_)
  have M0 : ∀ P : Int64 → Prop, wp_X8_in x8 (0 : Int32) (1 : Int32) (fun r7 => (¬ r7 = 0 → wp_X8_wrongPairs (f 26) (f 27) (g 4) (f 29) (nI i) (nI l) x6 (nI n) (fun r8 => (r8 = 0 → (∃ n', wp_X8_slips_L101 (g 4) (f 29) (nI u) (nI tt) (nI s) (nI i) x6 (nI n) x8 P n' (0 : Int64) (0 : Int64) (0 : Int32))) ∧ (¬ r8 = 0 → P (r8.toInt64)))) ∧ (r7 = 0 → P (-1 : Int64))) → wp_X8_slips (f 26) (f 27) (g 4) (f 29) (nI u) (nI tt) (nI s) (nI i) (nI l) x6 (nI n) x8 P := fun P hP => s8_isCow_ok m4 hc hu (q_f ne10 (s8_isTaster_ok m13 ht htt (q_f ne10 (s_in_ok hs0 hs10 (q_f ne10 (s8s_ok hi (q_f ne10 (in3_ok hl (q_f ne10 (s_in_ok hn1 hn6 (q_f ne10 hP)))))))))))
  rcases eith x8 with ⟨bb, rfl⟩ | ⟨hE, hI⟩
  · refine s_eitherb bb (n_t ne10 ?_)
    rw [e1]
    rcases s_row hc m4 hi hl n1 n6 (hS i hi) x6 with ⟨r, hr, h7, h8⟩ | ⟨a, M, b, rfl, ha, hpr, h7, h8⟩
    · exact h7 _ _ _ _ (fun wp' mx' an' => q_f hr (M0 _ (s_in01 bb (n_t ne10 (h8 _ (q_f hr ⟨rfl, keep⟩))))))
    refine h7 _ _ _ _ (fun mx an hma => q_t rfl ?_)
    obtain ⟨kd, fn, d, hkd, hfn1, hfn, hd, ek, ef, nk, nf, ed, nd⟩ := tas hD htt
    have hMl : ∀ k, k < n → M k < 2 ^ c := fun k hk => (hpr k hk).2.1
    rw [nI_clamp (n := tt) (by omega), ek, ef, ed, ex, one_sh (by omega), nI_and]
    refine ⟨vp_in_nI (by omega) (by decide), vp_in_nI (by omega) (by decide), s_compare hc n6 hMl hd hok hma hkd hfn (fun ag hag => s_wOf hc n6 hok s10 (and_lt hx) hag (s_wOf hc n6 hok s10 hx hag ?_))⟩
    obtain ⟨W, hW⟩ : ∃ W : Nat → Nat, W = fun i => od s n (ly kd fn d c (tn (f 0)) M b n i) (tn (f 0) i) := ⟨_, rfl⟩
    rw [← hW]
    have hWb : ∀ i, i < c → W i ≤ 9000000 := by
      intro z hz
      have h1 : od s n (ly kd fn d c (tn (f 0)) M b n z) (tn (f 0) z) ≤ tn (f 0) z * 1000000 := od_le s10 (fb_ct_le _ n) n6
      have h2 := (hok z hz).2.2
      rw [hW]
      show od s n (ly kd fn d c (tn (f 0)) M b n z) (tn (f 0) z) ≤ 9000000
      omega
    have b1 := smk_b (x := 2 ^ u &&& x) hWb
    have b2 := smk_b (x := x) hWb
    have b3 : smk W (2 ^ u &&& x) c ≤ smk W x c := smk_sub one_sub
    refine s7_fraction (by omega) (by omega) (by omega) bb (M0 _ (s_in01 bb (n_t ne10 (h8 _ (q_t rfl ⟨c + 1, ?_⟩)))))
    have hx31 : x < 2 ^ 31 := by omega
    -- the model's sums
    have L : ∀ (P : Int64 → Prop), P (lN (fr (smk W (2 ^ u &&& x) c) (smk W x c) bb)) → ∀ (dd o : Nat), o + dd = c → wp_X8_slips_L101 (g 4) (f 29) (nI u) (nI tt) (nI s) (nI i) (nI a) (nI n) (bi bb) P (dd + 1) (lN (smk W (2 ^ u &&& x) o)) (lN (smk W x o)) (nI o) := by
      intro P pp dd
      induction dd with
      | zero =>
        intro o ho
        have : o = c := by omega
        subst this
        refine q_t (by rw [m4]; exact nI_le (Nat.le_refl _) (by omega)) ?_
        rcases Nat.eq_zero_or_pos (smk W (2 ^ u &&& x) o) with z | z
        · rw [z] at pp ⊢
          exact n_f ((cz_eq _ _).mpr rfl) (s8_part0 bb pp)
        · refine n_t (fun q => ?_) (s8_part (by omega) (by omega) z bb pp)
          have := (l0 (by omega)).mp ((cz_eq _ _).mp q)
          omega
      | succ dd ih =>
        intro o ho
        have e := ih (o + 1) (by omega)
        have hmk := hok o (by omega)
        have hlo : ly kd fn d c (tn (f 0)) M b n o ≤ n := fb_ct_le _ n
        have d1 : smk W x (o + 1) = smk W x o + (if x.testBit o then W o else 0) := rfl
        have d2 : smk W (2 ^ u &&& x) (o + 1) = if o = u then (if x.testBit o then W o else 0) else smk W (2 ^ u &&& x) o := by
          rw [smk_one, smk_one]
          by_cases q : o = u
          · subst q
            rw [if_pos rfl]
            cases x.testBit o <;> simp
          · rw [if_neg q]
            by_cases z : x.testBit u = true
            · by_cases y : u < o
              · rw [if_pos ⟨by omega, z⟩, if_pos ⟨y, z⟩]
              · rw [if_neg (fun y' => y (by omega)), if_neg (fun y' => y y'.1)]
            · rw [if_neg (fun y => z y.2), if_neg (fun y => z y.2)]
        have eW : W o = od s n (ly kd fn d c (tn (f 0)) M b n o) (tn (f 0) o) := by rw [hW]
        rw [d1, d2, nI_succ] at e
        refine q_f (by rw [m4]; exact nI_ge (by omega) (by omega)) (s_liesN hc n6 hi ha hpr (by omega) hkd hfn hd m4 h5 hok nk nf nd (by omega) ?_)
        rw [q0, ex]
        have J : ∀ m : Nat, od s n (ly kd fn d c (tn (f 0)) M b n o) m = (if x.testBit o then W o else 0) → ∃ k, wp_X8_slips_L164 (nI u) (nI s) (nI n) (lN (smk W (2 ^ u &&& x) o)) (lN (smk W x o)) (nI o) (nI (ly kd fn d c (tn (f 0)) M b n o)) (wp_X8_slips_L101 (g 4) (f 29) (nI u) (nI tt) (nI s) (nI i) (nI a) (nI n) (bi bb) P (dd + 1)) P k (lN m) 0 := by
          intro m hm
          refine s_odds n6 s10 hlo ?_
          rw [hm, lN_add]
          by_cases q : o = u
          · rw [if_pos q] at e
            exact n_f (by rw [q]) e
          · rw [if_neg q] at e
            exact n_t (fun z => q ((nI_eq (by omega) (by omega)).mp z)) e
        cases hb : x.testBit o with
        | true =>
          refine s_has_t hx31 (by omega) hb (q_f ne10 ?_)
          rw [lit_add 5, nI_clamp (n := 5 + o) (by omega), h5 o (by omega), hmk.1, nI_l (by omega)]
          refine ⟨vp_in_nI (by omega) (by decide), J _ ?_⟩
          rw [hb, if_pos rfl, eW]
        | false =>
          refine s_has_f hx31 (by omega) hb (q_t rfl (J 0 ?_))
          rw [hb, if_neg (by decide)]
          unfold od
          rw [Nat.zero_mul]
    exact L _ ⟨rfl, keep⟩ c 0 (by omega)
  · exact hE _ (n_f rfl (M0 _ (hI _ (n_f rfl ⟨rfl, keep⟩))))
