/-! pure part 11: fractions -/
theorem cm_3 (a b : Int64) : (a < b ∧ lg_cmp a b = -1) ∨ (a = b ∧ lg_cmp a b = 0) ∨ (b < a ∧ lg_cmp a b = 1) := by
  unfold lg_cmp
  by_cases h : b < a
  · exact Or.inr (Or.inr ⟨h, if_pos h⟩)
  · by_cases h2 : a = b
    · exact Or.inr (Or.inl ⟨h2, by rw [if_neg h, if_pos h2]⟩)
    · refine Or.inl ⟨?_, by rw [if_neg h, if_neg h2]⟩
      rw [fa_lt64] at h ⊢
      rw [fa_eq64] at h2
      omega
theorem cz_eq (a b : Int64) : lg_cmp a b = 0 ↔ a = b := by
  rcases cm_3 a b with ⟨h, e⟩ | ⟨h, e⟩ | ⟨h, e⟩ <;> rw [e] <;> rw [fa_eq64] at * <;> (try rw [fa_lt64] at h) <;> constructor <;> intro q <;> first | omega | (exact absurd q (by decide)) | rfl
theorem cm_lt (a b : Int64) : lg_cmp a b < 0 ↔ a < b := by
  rcases cm_3 a b with ⟨h, e⟩ | ⟨h, e⟩ | ⟨h, e⟩ <;> rw [e]
  · exact ⟨fun _ => h, fun _ => by decide⟩
  · rw [h]; exact ⟨fun q => absurd q (by decide), fun q => by rw [fa_lt64] at q; omega⟩
  · exact ⟨fun q => absurd q (by decide), fun q => by rw [fa_lt64] at q h; omega⟩
theorem cm_le (a b : Int64) : lg_cmp a b ≤ 0 ↔ a ≤ b := by
  rcases cm_3 a b with ⟨h, e⟩ | ⟨h, e⟩ | ⟨h, e⟩ <;> rw [e]
  · exact ⟨fun _ => by rw [fa_le64]; rw [fa_lt64] at h; omega, fun _ => by decide⟩
  · rw [h]; exact ⟨fun _ => by rw [fa_le64]; omega, fun _ => by decide⟩
  · exact ⟨fun q => absurd q (by decide), fun q => by rw [fa_le64] at q; rw [fa_lt64] at h; omega⟩
theorem cm_ge (a b : Int64) : 0 ≤ lg_cmp a b ↔ b ≤ a := by
  rcases cm_3 a b with ⟨h, e⟩ | ⟨h, e⟩ | ⟨h, e⟩ <;> rw [e]
  · exact ⟨fun q => absurd q (by decide), fun q => by rw [fa_le64] at q; rw [fa_lt64] at h; omega⟩
  · rw [h]; exact ⟨fun _ => by rw [fa_le64]; omega, fun _ => by decide⟩
  · exact ⟨fun _ => by rw [fa_le64]; rw [fa_lt64] at h; omega, fun _ => by decide⟩
theorem gcd_s (a b : Nat) : Nat.gcd b (a % b) = Nat.gcd a b := by
  rw [Nat.gcd_comm a b, Nat.gcd_rec b a, Nat.gcd_comm]
theorem l0 {n : Nat} (h : n < 2 ^ 31) : lN n = 0 ↔ n = 0 := lN_eq (b := 0) h (by decide)
theorem mx1 {a : Nat} (ha : a < 2 ^ 31) : (if lN a < (1 : Int64) then (1 : Int64) else lN a) = lN (max 1 a) := by
  by_cases h : a < 1
  · rw [if_pos (show lN a < (1 : Int64) from (lN_lt (b := 1) ha (by decide)).mpr h), show max 1 a = 1 by omega]; rfl
  · rw [if_neg (show ¬ lN a < (1 : Int64) from fun q => h ((lN_lt (b := 1) ha (by decide)).mp q)), show max 1 a = a by omega]
theorem mod_half {b r : Nat} (hr : 0 < r) (hrb : r < b) {k : Nat} (hb : b < 2 ^ (k + 1)) : b % r < 2 ^ k := by
  rw [Nat.pow_succ] at hb
  have h1 := Nat.mod_lt b hr
  rcases Nat.lt_or_ge r (2 ^ k) with h | h
  · omega
  · have h2 : b % r = b - r := by
      rw [Nat.mod_eq_sub_mod (by omega), Nat.mod_eq_of_lt (by omega)]
    omega
theorem gd_loop {post : Int64 → Prop} : ∀ (k a b s : Nat), a < 2 ^ 31 → b < 2 ^ 31 → b < 2 ^ k → s + 2 * k ≤ 100 → post (lN (max 1 (Nat.gcd a b))) → wp_X7_greatestDivisor_L9 post (2 * k + 1) (lN a) (lN b) (nI s) := by
  have Z : ∀ (a s f : Nat), a < 2 ^ 31 → post (lN (max 1 a)) → wp_X7_greatestDivisor_L9 post (f + 1) (lN a) (lN 0) (nI s) := by
    intro a s f ha p
    refine ⟨fun _ => ?_, fun _ => q_t ((cz_eq _ _).mpr rfl) ?_⟩ <;> (rw [mx1 ha]; exact p)
  intro k
  induction k with
  | zero =>
    intro a b s ha _ hb hs p
    have : b = 0 := by omega
    subst this
    rw [Nat.gcd_zero_right] at p
    exact Z a s 0 ha p
  | succ k ih =>
    intro a b s ha hb31 hb hs p
    rcases Nat.eq_zero_or_pos b with h | h
    · subst h
      rw [Nat.gcd_zero_right] at p
      exact Z a s _ ha p
    · have hb0 : ¬ lN b = 0 := fun q => absurd ((l0 hb31).mp q) (by omega)
      refine q_f (nI_ge (a := s) (b := 100) (by omega) (by decide)) (q_f (fun q => hb0 ((cz_eq _ _).mp q)) ⟨hb0, ?_⟩)
      rw [pk_lRem (by omega) h (by omega), ← nI_succ]
      have hr := Nat.mod_lt a h
      rcases Nat.eq_zero_or_pos (a % b) with h2 | h2
      · rw [h2]
        refine Z b (s + 1) _ hb31 ?_
        rw [← gcd_s, h2, Nat.gcd_zero_right] at p; exact p
      · have hr0 : ¬ lN (a % b) = 0 := fun q => absurd ((l0 (by omega)).mp q) (by omega)
        refine q_f (nI_ge (a := s + 1) (b := 100) (by omega) (by decide)) (q_f (fun q => hr0 ((cz_eq _ _).mp q)) ⟨hr0, ?_⟩)
        rw [pk_lRem (by omega) h2 (by omega), ← nI_succ]
        have hr2 := Nat.mod_lt b h2
        refine ih (a % b) (b % (a % b)) (s + 1 + 1) (by omega) (by omega) (mod_half h2 hr hb) (by omega) ?_
        rw [gcd_s, gcd_s]; exact p
def fr (a b : Nat) (w : Bool) : Nat := if a = 0 then (if w then 1 else 0) else (if w then b else a) / Nat.gcd a b
theorem bi_l (w : Bool) : (bi w).toInt64 = lN (if w then 1 else 0) := by cases w <;> decide
theorem s7_fraction {a b : Nat} (ha : a < 2 ^ 31) (hb : b < 2 ^ 31) (hab : 0 < a → 0 < b) (w : Bool) {post : Int64 → Prop} (p : post (lN (fr a b w))) : wp_X7_fraction (lN a) (lN b) (bi w) post := by
  rcases Nat.eq_zero_or_pos a with h | h
  · subst h
    refine q_t ((cm_lt _ _).mpr (by decide)) ?_
    rw [bi_l]; exact p
  · have hb0 := hab h
    refine q_f (fun q => absurd ((lN_lt (b := 1) ha (by decide)).mp ((cm_lt _ _).mp q)) (by omega)) (q_t ((cm_ge _ _).mpr ((lN_le (a := 1) (by decide) hb).mpr hb0)) ⟨2 * 31 + 1, gd_loop 31 a b 0 ha hb hb (by decide) ?_⟩)
    have hg : 0 < Nat.gcd a b := Nat.gcd_pos_of_pos_left b h
    have hg2 : Nat.gcd a b ≤ a := Nat.gcd_le_left b h
    rw [show max 1 (Nat.gcd a b) = Nat.gcd a b by omega]
    have g0 : ¬ lN (Nat.gcd a b) = 0 := fun q => absurd ((l0 (by omega)).mp q) (by omega)
    unfold fr at p
    rw [if_neg (by omega)] at p
    cases w with
    | true => exact n_t (by decide) ⟨g0, by rw [pk_lDiv (by omega) hg (by omega)]; exact p⟩
    | false => exact n_f rfl ⟨g0, by rw [pk_lDiv (by omega) hg (by omega)]; exact p⟩
theorem pt_loop {a b : Nat} (ha : a < 2 ^ 31) (hb : b < 2 ^ 31) (w : Bool) {post : Int64 → Prop} (p : post (lN ((if w then b else a) / Nat.gcd a b))) : ∀ (y x : Nat), x < 2 ^ 31 → y < 2 ^ 31 → 0 < Nat.gcd x y → Nat.gcd x y = Nat.gcd a b → ∃ n, wp_X8_part_L6 (lN a) (lN b) (bi w) post n (lN x) (lN y) := by
  intro y
  induction y using Nat.strongRecOn with
  | ind y ih =>
    intro x hx hy hg e
    rcases Nat.eq_zero_or_pos y with h | h
    · subst h
      rw [Nat.gcd_zero_right] at hg e
      have g0 : ¬ lN x = 0 := fun q => absurd ((l0 hx).mp q) (by omega)
      refine ⟨1, q_t ((cm_le _ _).mpr (by decide)) ?_⟩
      rw [← e] at p
      cases w with
      | true => exact n_t (by decide) ⟨g0, by rw [pk_lDiv (by omega) hg (by omega)]; exact p⟩
      | false => exact n_f rfl ⟨g0, by rw [pk_lDiv (by omega) hg (by omega)]; exact p⟩
    · have hr := Nat.mod_lt x h
      obtain ⟨n, hn⟩ := ih (x % y) hr y hy (by omega) (by rw [gcd_s]; exact hg) (by rw [gcd_s]; exact e)
      have y0 : ¬ lN y = 0 := fun q => absurd ((l0 hy).mp q) (by omega)
      refine ⟨n + 1, q_f (fun q => absurd ((lN_le (b := 0) hy (by decide)).mp ((cm_le _ _).mp q)) (by omega)) ⟨y0, ?_⟩⟩
      rw [pk_lRem (by omega) h (by omega)]; exact hn
theorem s8_part {a b : Nat} (ha : a < 2 ^ 31) (hb : b < 2 ^ 31) (h0 : 0 < a) (w : Bool) {post : Int64 → Prop} (p : post (lN (fr a b w))) : wp_X8_part (lN a) (lN b) (bi w) post := by
  unfold fr at p
  rw [if_neg (by omega)] at p
  exact pt_loop ha hb w p b a ha hb (Nat.gcd_pos_of_pos_left b h0) rfl
theorem s8_part0 {b : Nat} (w : Bool) {post : Int64 → Prop} (p : post (lN (fr 0 b w))) : wp_X8_part (lN 0) 1 (bi w) post := by
  refine pt_loop (a := 0) (b := 1) (by decide) (by decide) w ?_ 1 0 (by decide) (by decide) (by decide) rfl
  cases w <;> exact p
/-- the milk of one cow out of a set -/
theorem smk_one {mi : Nat → Nat} {x i : Nat} : ∀ {c : Nat}, smk mi (2 ^ i &&& x) c = if i < c ∧ x.testBit i = true then mi i else 0 := by
  intro c
  induction c with
  | zero => rw [if_neg (by omega)]; rfl
  | succ c ih =>
    have e : smk mi (2 ^ i &&& x) (c + 1) = smk mi (2 ^ i &&& x) c + (if (2 ^ i &&& x).testBit c then mi c else 0) := rfl
    rw [e, ih, Nat.testBit_and, Nat.testBit_two_pow]
    by_cases h : i = c
    · subst h
      cases hb : x.testBit i <;> simp
    · cases hb : x.testBit i
      · simp [h]
      · by_cases h2 : i < c
        · simp [h, h2]; omega
        · simp [h, h2]; omega
theorem smk_sub {mi : Nat → Nat} {x y c : Nat} (h : ∀ i, i < c → x.testBit i = true → y.testBit i = true) : smk mi x c ≤ smk mi y c := by
  apply fb_sm_le
  intro k hk
  show (if x.testBit k then mi k else 0) ≤ (if y.testBit k then mi k else 0)
  cases hx : x.testBit k with
  | true => rw [h k hk hx]; exact Nat.le_refl _
  | false => rw [if_neg (by decide)]; exact Nat.zero_le _
theorem and_lt {x y c : Nat} (h : y < 2 ^ c) : x &&& y < 2 ^ c := Nat.and_lt_two_pow x h
theorem s7_mf {c x y : Nat} (hc : c ≤ 8) {milks : Nat → Int32} (hok : okM c milks) (hx : x < 2 ^ c) (hy : y < 2 ^ c) (hxy : smk (tn milks) x c ≤ smk (tn milks) y c) (w : Bool) {post : Int32 → Prop} (p : post (nI (fr (smk (tn milks) x c) (smk (tn milks) y c) w))) : wp_X7_milkFraction (nI c) milks (nI x) (nI y) (bi w) post := by
  have b1 := smk_le hok x (Nat.le_refl c)
  have b2 := smk_le hok y (Nat.le_refl c)
  refine s0_milkOf hc hx hok (s0_milkOf hc hy hok ?_)
  rw [nI_l (by omega), nI_l (by omega)]
  refine s7_fraction (by omega) (by omega) (by omega) w ?_
  rw [lN_i]; exact p
theorem one_sh {i : Nat} (hi : i < 8) : (1 : Int32) <<< (nI i &&& 31) = nI (2 ^ i) := (by decide : ∀ n, n < 9 → (1 : Int32) <<< (nI n &&& 31) = nI (2 ^ n)) i (by omega)
theorem one_sub {i x c : Nat} : ∀ k, k < c → (2 ^ i &&& x).testBit k = true → x.testBit k = true := by
  intro k _ h
  rw [Nat.testBit_and] at h
  cases hx : x.testBit k with
  | true => rfl
  | false => rw [hx, Bool.and_false] at h; cases h
set_option maxRecDepth 20000 in
theorem st_likely : Step_likely RR := by
  intro v f g x1 x2 keep
  obtain ⟨⟨c, t, w, k, hD⟩, hK, hT, hS⟩ := id keep
  obtain ⟨⟨hc, ht, hw, hk⟩, ⟨e1, e2, e3, e4⟩, ⟨m4, m13, m22⟩, hmi, hta, ⟨q0, q1, q2, q3, hM⟩, hpast⟩ := id hD
  obtain ⟨hok, h5⟩ := DR_okM hD
  obtain ⟨x, hx, ex⟩ := hM.1
  rcases ix x1 (n := c) (by omega) with h | ⟨i, hi, rfl⟩
  · exact s7c_bad e1 h (q_t rfl (s8_isCow_bad m4 hc h (q_t rfl ⟨rfl, keep⟩)))
  refine s7c_ok e1 hc hi (q_f ne10 ?_)
  rcases eith x2 with ⟨b, rfl⟩ | ⟨hE, hI⟩
  · refine s_eitherb b (n_t ne10 ?_)
    rw [one_sh (by omega), ex, nI_and, e1]
    refine s7_mf hc hok (and_lt hx) hx (smk_sub one_sub) b (s8_isCow_ok m4 hc hi (q_f ne10 (s_in01 b (n_t ne10 ?_))))
    have b2 := smk_le hok x (Nat.le_refl c)
    have hmk := hok i hi
    have h2 : x < 2 ^ 31 := Nat.lt_of_lt_of_le hx (Nat.le_trans (pow_le8 hc) (by decide))
    rw [smk_one, q0, ex, lit_add 5 i, nI_clamp (by omega), h5 i hi, hmk.1]
    cases hb : x.testBit i with
    | true =>
      rw [if_pos ⟨hi, rfl⟩]
      refine s_has_t h2 (by omega) hb (q_f ne10 ⟨vp_in_nI (by omega) (by decide), n_t (nI_ne0 (by omega) (by omega)) ?_⟩)
      rw [q0, ex]
      refine s8_milkOf hc hx m4 h5 hok ?_
      rw [nI_l (by omega), nI_l (by omega)]
      refine s8_part (by omega) (by omega) (by omega) b ⟨?_, keep⟩
      rw [lN_i]
    | false =>
      rw [if_neg (fun q => by cases q.2)]
      refine s_has_f h2 (by omega) hb (q_t rfl (n_f rfl (s8_part0 (b := smk (tn (f 0)) x c) b ⟨?_, keep⟩)))
      rw [lN_i]
  · exact hE _ (n_f rfl (s8_isCow_ok m4 hc hi (q_f ne10 (hI _ (n_f rfl ⟨rfl, keep⟩)))))
set_option maxRecDepth 20000 in
theorem st_share : Step_share RR := by
  intro v f g x1 x2 x3 keep
  obtain ⟨⟨c, t, w, k, hD⟩, hK, hT, hS⟩ := id keep
  obtain ⟨⟨hc, ht, hw, hk⟩, ⟨e1, e2, e3, e4⟩, ⟨m4, m13, m22⟩, hmi, hta, ⟨q0, q1, q2, q3, hM⟩, hpast⟩ := id hD
  obtain ⟨hok, h5⟩ := DR_okM hD
  rcases ix x1 (n := c) (by omega) with h | ⟨i, hi, rfl⟩
  · exact s7c_bad e1 h (q_t rfl (s8_isCow_bad m4 hc h (q_t rfl ⟨rfl, keep⟩)))
  refine s7c_ok e1 hc hi (q_f ne10 ?_)
  rcases mixc x2 hc with h | ⟨x, x1', hx, rfl⟩
  · exact s7_isMix_bad e1 hc h (q_t rfl (s8_isCow_ok m4 hc hi (q_f ne10 (s8_isMix_bad m4 hc h (q_t rfl ⟨rfl, keep⟩)))))
  refine s7_isMix_ok e1 hc x1' hx (q_f ne10 ?_)
  rcases eith x3 with ⟨b, rfl⟩ | ⟨hE, hI⟩
  · refine s_eitherb b (n_t ne10 ?_)
    rw [one_sh (by omega), nI_and, e1]
    refine s7_mf hc hok (and_lt hx) hx (smk_sub one_sub) b (s8_isCow_ok m4 hc hi (q_f ne10 (s8_isMix_ok m4 hc x1' hx (q_f ne10 (s_in01 b (n_t ne10 ?_))))))
    have b2 := smk_le hok x (Nat.le_refl c)
    have hmk := hok i hi
    have h2 : x < 2 ^ 31 := Nat.lt_of_lt_of_le hx (Nat.le_trans (pow_le8 hc) (by decide))
    rw [smk_one, lit_add 5 i, nI_clamp (by omega), h5 i hi, hmk.1]
    cases hb : x.testBit i with
    | true =>
      rw [if_pos ⟨hi, rfl⟩]
      refine s_has_t h2 (by omega) hb (q_f ne10 ⟨vp_in_nI (by omega) (by decide), n_t (nI_ne0 (by omega) (by omega)) ?_⟩)
      refine s8_milkOf hc hx m4 h5 hok ?_
      rw [nI_l (by omega), nI_l (by omega)]
      refine s8_part (by omega) (by omega) (by omega) b ⟨?_, keep⟩
      rw [lN_i]
    | false =>
      rw [if_neg (fun q => by cases q.2)]
      refine s_has_f h2 (by omega) hb (q_t rfl (n_f rfl (s8_part0 (b := smk (tn (f 0)) x c) b ⟨?_, keep⟩)))
      rw [lN_i]
  · exact hE _ (n_f rfl (s8_isCow_ok m4 hc hi (q_f ne10 (s8_isMix_ok m4 hc x1' hx (q_f ne10 (hI _ (n_f rfl ⟨rfl, keep⟩)))))))
set_option maxRecDepth 20000 in
theorem st_noticed : Step_noticed RR := by
  intro v f g x1 x2 x3 keep
  obtain ⟨⟨c, t, w, k, hD⟩, hK, hT, hS⟩ := id keep
  obtain ⟨⟨hc, ht, hw, hk⟩, ⟨e1, e2, e3, e4⟩, ⟨m4, m13, m22⟩, hmi, hta, ⟨q0, q1, q2, q3, hM⟩, hpast⟩ := id hD
  obtain ⟨hok, h5⟩ := DR_okM hD
  obtain ⟨x, hx, ex⟩ := hM.1
  rcases ix x1 (n := t) (by omega) with h | ⟨i, hi, rfl⟩
  · exact s7t_bad e2 h (q_t rfl (s8_isTaster_bad m13 ht h (q_t rfl ⟨rfl, keep⟩)))
  refine s7t_ok e2 ht hi (q_f ne10 ?_)
  rcases mixc x2 hc with h | ⟨m, m1, m2, rfl⟩
  · exact s7_isMix_bad e1 hc h (q_t rfl (s8_isTaster_ok m13 ht hi (q_f ne10 (s8_isMix_bad m4 hc h (q_t rfl ⟨rfl, keep⟩)))))
  refine s7_isMix_ok e1 hc m1 m2 (q_f ne10 ?_)
  rcases eith x3 with ⟨b, rfl⟩ | ⟨hE, hI⟩
  · obtain ⟨kd, fn, d, hkd, hfn1, hfn, hd, ek, ef, nk, nf, ed, nd⟩ := tas hD hi
    refine s_eitherb b (n_t ne10 (s0_noticedBy hD hi m2 hkd hfn hd ek ef ed ?_))
    rw [ex, nI_and, e1]
    refine s7_mf hc hok (and_lt hx) hx (smk_sub ?_) b (s8_isTaster_ok m13 ht hi (q_f ne10 (s8_isMix_ok m4 hc m1 m2 (q_f ne10 (s_in01 b (n_t ne10 (s8_noticedBy hc (by omega) m2 hfn hkd hd m4 h5 hok nk nf nd ?_)))))))
    · intro k' _ h
      rw [Nat.testBit_and] at h
      cases hx : x.testBit k' with
      | true => rfl
      | false => rw [hx, Bool.and_false] at h; cases h
    rw [q0, ex, nI_and, Nat.and_comm]
    have b1 := smk_le hok (nset kd fn d c (tn (f 0)) m &&& x) (Nat.le_refl c)
    have b2 := smk_le hok x (Nat.le_refl c)
    refine s8_milkOf hc (and_lt hx) m4 h5 hok ?_
    rcases Nat.eq_zero_or_pos (smk (tn (f 0)) (nset kd fn d c (tn (f 0)) m &&& x) c) with h | h
    · rw [h]
      refine n_f rfl (s8_part0 (b := smk (tn (f 0)) x c) b ⟨?_, keep⟩)
      rw [lN_i]
    · refine n_t (nI_ne0 h (by omega)) (s8_milkOf hc hx m4 h5 hok ?_)
      rw [nI_l (by omega), nI_l (by omega)]
      refine s8_part (by omega) (by omega) h b ⟨?_, keep⟩
      rw [lN_i]
  · exact hE _ (n_f rfl (s8_isTaster_ok m13 ht hi (q_f ne10 (s8_isMix_ok m4 hc m1 m2 (q_f ne10 (hI _ (n_f rfl ⟨rfl, keep⟩)))))))
