/-! pure part 12: drifts -/
def zn (z : Nat) : Nat := (z * 1103515245 + 12345) % 2 ^ 31
theorem zn_lt (z : Nat) : zn z < 2 ^ 31 := Nat.mod_lt _ (by decide)
theorem dr7 (z : Nat) : ((nI z * (1103515245 : Int32)) + (12345 : Int32)) &&& (2147483647 : Int32) = nI (zn z) := by
  rw [show nI z * (1103515245 : Int32) = nI (z * 1103515245) from pk_mul z 1103515245, show nI (z * 1103515245) + (12345 : Int32) = nI (z * 1103515245 + 12345) from nI_add _ 12345]
  exact fa_mask _ 31
theorem dr8 {z : Nat} (hz : z < 2 ^ 31) : (((((nI z).toInt64) * (1103515245 : Int64)) + (12345 : Int64)) - ((((nI z).toInt64) * (1103515245 : Int64)) + (12345 : Int64)) / (2147483648 : Int64) * (2147483648 : Int64)).toInt32 = nI (zn z) := by
  rw [nI_l hz, show lN z * (1103515245 : Int64) = lN (z * 1103515245) from lN_mul z 1103515245, show lN (z * 1103515245) + (12345 : Int64) = lN (z * 1103515245 + 12345) from lN_add _ 12345]
  rw [show lN (z * 1103515245 + 12345) - lN (z * 1103515245 + 12345) / (2147483648 : Int64) * (2147483648 : Int64) = lN ((z * 1103515245 + 12345) % 2147483648) from pk_lRem (by omega) (by decide) (by decide), lN_i]
  rfl
theorem dv128 {z : Nat} (hz : z < 2 ^ 31) : nI z / (128 : Int32) = nI (z / 128) := pk_div hz (by decide) (by decide)
theorem dv65536 {z : Nat} (hz : z < 2 ^ 31) : nI z / (65536 : Int32) = nI (z / 65536) := pk_div hz (by decide) (by decide)
section DF
variable {c t w k : Nat} {cows tasters newest known mayBe bearer day draw : Int32} {milks kinds fines pm pb pd pw now : Nat → Int32}
theorem s_drift1 (hD : DR c t w k cows tasters newest known mayBe bearer day draw milks kinds fines pm pb pd pw now) {d : Nat} (ed : day = nI d) (hd : d < 9999) :
    ∃ w' k' newest' known' mayBe' day' draw' pm' pb' pd' pw' now' d', DR c t w' k' cows tasters newest' known' mayBe' bearer day' draw' milks kinds fines pm' pb' pd' pw' now' ∧ day' = nI d' ∧ d' ≤ d + 1 ∧
      (∀ post : Int32 → Int32 → Int32 → Int32 → Int32 → (Nat → Int32) → (Nat → Int32) → (Nat → Int32) → (Nat → Int32) → Prop, post newest' known' mayBe' day' draw' pm' pb' pd' pw' → wp_X0_driftOnce cows tasters newest known milks kinds fines mayBe bearer day draw pm pb pd pw post) ∧
      (∀ (x1 x2 : Int32) (P : Int32 → (Nat → Int32) → Prop) (n : Nat), ¬ x1 ≤ x2 → wp_X8_drift_L31 x1 P n now' (x2 + 1) → wp_X8_drift_L31 x1 P (n + 1) now x2) := by
  obtain ⟨⟨hc, ht, hw, hk⟩, ⟨e1, e2, e3, e4⟩, ⟨m4, m13, m22⟩, hmi, hta, ⟨q0, q1, q2, q3, hM⟩, hpast⟩ := id hD
  obtain ⟨z, hz, ez⟩ := hM.2.2.2
  obtain ⟨n4, hD4, hn4⟩ := s_noteE hD
  have hZ := zn_lt z
  have hD5 := DR_draw hD4 hZ
  obtain ⟨-, -, ⟨p4, p13, p22⟩, hmi5, hta5, ⟨p0, p1, p2, p3, hM5⟩, -⟩ := id hD5
  obtain ⟨hok, -⟩ := DR_okM hD
  obtain ⟨-, -, -, -, -, ⟨-, -, -, r3, -⟩, -⟩ := id hD4
  have eN : upd n4 1 ((((((n4 1).toInt64) * (1103515245 : Int64)) + (12345 : Int64)) - ((((n4 1).toInt64) * (1103515245 : Int64)) + (12345 : Int64)) / (2147483648 : Int64) * (2147483648 : Int64)).toInt32) = upd n4 1 (nI (zn z)) := by rw [r3, ez, dr8 hz]
  have h2c := pow_le8 hc
  have h2p := Nat.two_pow_pos c
  have hZ128 : zn z / 128 < 2 ^ 31 := Nat.lt_of_le_of_lt (Nat.div_le_self _ _) hZ
  have hZ6 : zn z / 65536 < 2 ^ 31 := Nat.lt_of_le_of_lt (Nat.div_le_self _ _) hZ
  have hmx : zn z / 128 % 2 ^ c < 2 ^ c := Nat.mod_lt _ h2p
  have emix : nI (zn z) / (128 : Int32) - nI (zn z) / (128 : Int32) / nI (2 ^ c) * nI (2 ^ c) = nI (zn z / 128 % 2 ^ c) := by
    rw [dv128 hZ, pk_rem hZ128 h2p (by omega)]
  have esh : (1 : Int32) <<< (nI c &&& 31) = nI (2 ^ c) := (by decide : ∀ n, n < 9 → (1 : Int32) <<< (nI n &&& 31) = nI (2 ^ n)) c (by omega)
  -- the class's walk, up to its three questions
  have C7 : ∀ post : Int32 → Int32 → Int32 → Int32 → Int32 → (Nat → Int32) → (Nat → Int32) → (Nat → Int32) → (Nat → Int32) → Prop, ((nI t ≤ 0 → post (nI ((w + 1) % 8)) (nI (min 8 (k + 1))) mayBe day (nI (zn z)) (upd pm ((w + 1) % 8) mayBe) (upd pb ((w + 1) % 8) bearer) (upd pd ((w + 1) % 8) day) (upd pw ((w + 1) % 8) draw)) ∧ (¬ nI t ≤ 0 → (nI (zn z / 128 % 2 ^ c) = 0 → post (nI ((w + 1) % 8)) (nI (min 8 (k + 1))) mayBe day (nI (zn z)) (upd pm ((w + 1) % 8) mayBe) (upd pb ((w + 1) % 8) bearer) (upd pd ((w + 1) % 8) day) (upd pw ((w + 1) % 8) draw)) ∧ (¬ nI (zn z / 128 % 2 ^ c) = 0 → (bearer = -4 → post (nI ((w + 1) % 8)) (nI (min 8 (k + 1))) mayBe day (nI (zn z)) (upd pm ((w + 1) % 8) mayBe) (upd pb ((w + 1) % 8) bearer) (upd pd ((w + 1) % 8) day) (upd pw ((w + 1) % 8) draw)) ∧ (¬ bearer = -4 → ¬ nI t = 0 ∧ wp_X0_swallow cows milks kinds fines mayBe bearer day (nI (zn z / 65536) - nI (zn z / 65536) / nI t * nI t) (nI (zn z / 128 % 2 ^ c)) (fun r3 mayBe_3 day_3 => post (nI ((w + 1) % 8)) (nI (min 8 (k + 1))) mayBe_3 day_3 (nI (zn z)) (upd pm ((w + 1) % 8) mayBe) (upd pb ((w + 1) % 8) bearer) (upd pd ((w + 1) % 8) day) (upd pw ((w + 1) % 8) draw)))))) → wp_X0_driftOnce cows tasters newest known milks kinds fines mayBe bearer day draw pm pb pd pw post := by
    intro post h
    refine s_remember hD ?_
    rw [e1]
    refine s0_all hc ?_
    rw [ez, dr7, e2, dv128 hZ, dv65536 hZ, fa_mask]
    rw [ez, e1] at h
    exact h
  have C8 : ∀ (x1 x2 : Int32) (P : Int32 → (Nat → Int32) → Prop) (n : Nat), ¬ x1 ≤ x2 → ((nI t ≤ 0 → wp_X8_drift_L31 x1 P n (upd n4 1 (nI (zn z))) (x2 + 1)) ∧ (¬ nI t ≤ 0 → (nI (zn z / 128 % 2 ^ c) ≤ 0 → wp_X8_drift_L31 x1 P n (upd n4 1 (nI (zn z))) (x2 + 1)) ∧ (¬ nI (zn z / 128 % 2 ^ c) ≤ 0 → (bearer = -4 → wp_X8_drift_L31 x1 P n (upd n4 1 (nI (zn z))) (x2 + 1)) ∧ (¬ bearer = -4 → ¬ nI t = 0 ∧ wp_X8_noticesIn (upd n4 1 (nI (zn z))) (nI (zn z / 65536) - nI (zn z / 65536) / nI t * nI t) (nI (zn z / 128 % 2 ^ c)) bearer (fun r3 => wp_X8_answers (upd n4 1 (nI (zn z))) (nI (zn z / 65536) - nI (zn z / 65536) / nI t * nI t) (nI (zn z / 128 % 2 ^ c)) r3 (fun m => wp_X8_drift_L31 x1 P n m (x2 + 1))))))) → wp_X8_drift_L31 x1 P (n + 1) now x2 := by
    intro x1 x2 P n hx h
    refine q_f hx (hn4 _ ?_)
    rw [eN, p4, p13, p3, p1, esh, emix, dv65536 hZ]
    exact ⟨nI_ne0 h2p (by omega), h⟩
  rcases Nat.eq_zero_or_pos t with h0 | h0
  · have z0 : nI t ≤ 0 := by rw [h0]; decide
    exact ⟨_, _, _, _, _, _, _, _, _, _, _, _, d, hD5, ed, by omega, fun post p => C7 post (q_t z0 p), fun x1 x2 P n hx p => C8 x1 x2 P n hx (q_t z0 p)⟩
  have z0 : ¬ nI t ≤ 0 := nI_nle h0 (by omega)
  rcases Nat.eq_zero_or_pos (zn z / 128 % 2 ^ c) with h1 | h1
  · exact ⟨_, _, _, _, _, _, _, _, _, _, _, _, d, hD5, ed, by omega, fun post p => C7 post (q_f z0 (q_t (by rw [h1]; rfl) p)), fun x1 x2 P n hx p => C8 x1 x2 P n hx (q_f z0 (q_t (by rw [h1]; decide) p))⟩
  have z1 : ¬ nI (zn z / 128 % 2 ^ c) = 0 := nI_ne0 h1 (by omega)
  have z1' : ¬ nI (zn z / 128 % 2 ^ c) ≤ 0 := nI_nle h1 (by omega)
  rcases hM.2.1 with hb | ⟨y, hy, ey⟩
  · exact ⟨_, _, _, _, _, _, _, _, _, _, _, _, d, hD5, ed, by omega, fun post p => C7 post (q_f z0 (q_f z1 (q_t hb p))), fun x1 x2 P n hx p => C8 x1 x2 P n hx (q_f z0 (q_f z1' (q_t hb p)))⟩
  have nb4 : ¬ bearer = -4 := fun e => nI_pos (n := y) (by omega) (by rw [← ey, e]; decide)
  have htt : zn z / 65536 % t < t := Nat.mod_lt _ h0
  have et : nI (zn z / 65536) - nI (zn z / 65536) / nI t * nI t = nI (zn z / 65536 % t) := pk_rem hZ6 h0 (by omega)
  obtain ⟨x, hx, ex⟩ := hM.1
  obtain ⟨kd, fn, d', hkd, hfn1, hfn, hd', ek, ef, nk, nf, ed', nd⟩ := tas hD5 htt
  have hdd : d' = d := by
    have : nI d' = nI d := ed'.symm.trans ed
    exact (nI_eq (by omega) (by omega)).mp this
  subst hdd
  obtain ⟨hok5, h55⟩ := DR_okM hD5
  refine ⟨_, _, _, _, _, _, _, _, _, _, _, _, d' + 1, DR_hear hD5 hd (nb kd fn d' c (tn milks) (zn z / 128 % 2 ^ c) y) x (nset kd fn d' c (tn milks) (zn z / 128 % 2 ^ c)), rfl, by omega, fun post p => C7 post (q_f z0 (q_f z1 (q_f nb4 ⟨nI_ne0 h0 (by omega), ?_⟩))), fun x1 x2 P n hx' p => C8 x1 x2 P n hx' (q_f z0 (q_f z1' (q_f nb4 ⟨nI_ne0 h0 (by omega), ?_⟩)))⟩
  · rw [et]
    exact s0_swallow hD htt hmx hkd hfn hd' ek ef ed hx ex hy ey p
  · rw [et, ey]
    refine s8_noticesIn hc (by omega) hmx hfn hkd hd' hy p4 h55 hok5 nk nf nd ?_
    exact s8_answers hD5 htt hmx hkd hfn hd' nk nf nd hx ex _ p
theorem s_driftL : ∀ (n : Nat) (N m : Nat) {c t w k : Nat} {cows tasters newest known mayBe bearer day draw : Int32} {milks kinds fines pm pb pd pw now : Nat → Int32}, DR c t w k cows tasters newest known mayBe bearer day draw milks kinds fines pm pb pd pw now → ∀ d, day = nI d → d + n ≤ 9999 → m + n = N → N ≤ 40 →
    ∃ w' k' newest' known' mayBe' day' draw' pm' pb' pd' pw' now', DR c t w' k' cows tasters newest' known' mayBe' bearer day' draw' milks kinds fines pm' pb' pd' pw' now' ∧
      (∀ post : Int32 → Int32 → Int32 → Int32 → Int32 → Int32 → (Nat → Int32) → (Nat → Int32) → (Nat → Int32) → (Nat → Int32) → Prop, post mayBe' newest' known' mayBe' day' draw' pm' pb' pd' pw' → wp_X7_drift_L36 cows tasters milks kinds fines bearer (nI N) post (n + 1) newest known mayBe day draw pm pb pd pw (nI m)) ∧
      (∀ P : Int32 → (Nat → Int32) → Prop, P (now' 2) now' → wp_X8_drift_L31 (nI N) P (n + 1) now (nI m)) := by
  intro n
  induction n with
  | zero =>
    intro N m c t w k cows tasters newest known mayBe bearer day draw milks kinds fines pm pb pd pw now hD d ed hd hm hN
    have : m = N := by omega
    subst this
    have hl : nI m ≤ nI m := nI_le (Nat.le_refl _) (by omega)
    exact ⟨_, _, _, _, _, _, _, _, _, _, _, _, hD, fun post p => q_t hl p, fun P p => q_t hl p⟩
  | succ n ih =>
    intro N m c t w k cows tasters newest known mayBe bearer day draw milks kinds fines pm pb pd pw now hD d ed hd hm hN
    obtain ⟨w1, k1, a1, a2, a3, a4, a5, a6, a7, a8, a9, now1, d1, hD1, ed1, hd1, h7, h8⟩ := s_drift1 hD ed (by omega)
    obtain ⟨w2, k2, b1, b2, b3, b4, b5, b6, b7, b8, b9, now2, hD2, g7, g8⟩ := ih N (m + 1) hD1 d1 ed1 (by omega) (by omega) hN
    have hl : ¬ nI N ≤ nI m := nI_ge (by omega) (by omega)
    refine ⟨_, _, _, _, _, _, _, _, _, _, _, _, hD2, fun post p => q_f hl (h7 _ ?_), fun P p => h8 _ _ _ _ hl ?_⟩
    · rw [← nI_succ]; exact g7 post p
    · rw [← nI_succ]; exact g8 P p
end DF
set_option maxRecDepth 20000 in
theorem st_drift : Step_drift RR := by
  intro v f g x1 keep
  obtain ⟨⟨c, t, w, k, hD⟩, hK, hT, hS⟩ := id keep
  obtain ⟨⟨hc, ht, hw, hk⟩, ⟨e1, e2, e3, e4⟩, ⟨m4, m13, m22⟩, hmi, hta, ⟨q0, q1, q2, q3, hM⟩, hpast⟩ := id hD
  obtain ⟨d, hd, ed⟩ := hM.2.2.1
  unfold wp_X7_drift
  rcases rng x1 1 40 (by decide) (by decide) with h | ⟨h, h2⟩ | ⟨n, n1, n40, rfl, h, h2⟩
  · exact q_t h (s_in_lo h (n_f rfl ⟨rfl, keep⟩))
  · refine q_f h (q_f (fun q => ?_) (s_in_hi h h2 (n_f rfl ⟨rfl, keep⟩)))
    rw [fa_le] at q; rw [fa_lt] at h2
    have : (nI 40).toInt = 40 := by decide
    have : ((40 : Int32)).toInt = 40 := by decide
    omega
  · refine q_f h (q_t (nI_le (b := 40) n40 (by decide)) ?_)
    rcases Nat.lt_or_ge 9999 (d + n) with h9 | h9
    · have z : ¬ nI (d + n) ≤ (9999 : Int32) := nI_ge (a := 9999) h9 (by omega)
      exact q_f (by rw [ed, nI_add]; exact z) (s_in_ok h h2 (n_t ne10 (q_f (by rw [q2, ed, nI_add]; exact z) ⟨rfl, keep⟩)))
    · have z : nI (d + n) ≤ (9999 : Int32) := nI_le (b := 9999) h9 (by decide)
      obtain ⟨w2, k2, b1, b2, b3, b4, b5, b6, b7, b8, b9, now2, hD2, g7, g8⟩ := s_driftL n n 0 hD d ed (by omega) (by omega) n40
      have hq : now2 2 = b3 := by
        obtain ⟨-, -, -, -, -, ⟨p0, -⟩, -⟩ := hD2
        exact p0
      exact q_t (by rw [ed, nI_add]; exact z) ⟨n + 1, g7 _ (s_in_ok h h2 (n_t ne10 (q_t (by rw [q2, ed, nI_add]; exact z) ⟨n + 1, g8 _ ⟨hq.symm, ⟨c, t, w2, k2, hD2⟩, hK, hT, hS⟩⟩)))⟩
