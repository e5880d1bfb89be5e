/-! pure part 2: how the relation of the two dairies goes on -/
section DRS
variable {c t w k : Nat} {cows tasters newest known mayBe bearer day draw : Int32} {milks kinds fines pm pb pd pw now : Nat → Int32}
theorem DR_congr {milks' kinds' fines' pm' pb' pd' pw' now' : Nat → Int32} (hD : DR c t w k cows tasters newest known mayBe bearer day draw milks kinds fines pm pb pd pw now) (h1 : ∀ i, i < 8 → milks' i = milks i) (h2 : ∀ i, i < 4 → kinds' i = kinds i) (h3 : ∀ i, i < 4 → fines' i = fines i) (h4 : ∀ i, i < 8 → pm' i = pm i) (h5 : ∀ i, i < 8 → pb' i = pb i) (h6 : ∀ i, i < 8 → pd' i = pd i) (h7 : ∀ i, i < 8 → pw' i = pw i) (h8 : ∀ i, i < 55 → now' i = now i) : DR c t w k cows tasters newest known mayBe bearer day draw milks' kinds' fines' pm' pb' pd' pw' now' := by
  obtain ⟨⟨hc, ht, hw, hk⟩, he, ⟨m4, m13, m22⟩, hmi, hta, ⟨q0, q1, q2, q3, hM⟩, hpast⟩ := hD
  refine ⟨⟨hc, ht, hw, hk⟩, he, ⟨(h8 4 (by decide)).trans m4, (h8 13 (by decide)).trans m13, (h8 22 (by decide)).trans m22⟩, ?_, ?_, ⟨(h8 2 (by decide)).trans q0, (h8 3 (by decide)).trans q1, (h8 0 (by decide)).trans q2, (h8 1 (by decide)).trans q3, hM⟩, ?_⟩
  · intro i hi
    rw [h8 (5 + i) (by omega), h1 i (by omega)]; exact hmi i hi
  · intro i hi
    rw [h8 (14 + i) (by omega), h8 (18 + i) (by omega), h2 i (by omega), h3 i (by omega)]; exact hta i hi
  · intro j hj
    have hr : ri w k j < 8 := Nat.mod_lt _ (by decide)
    rw [h8 (23 + 4 * j) (by omega), h8 (24 + 4 * j) (by omega), h8 (25 + 4 * j) (by omega), h8 (26 + 4 * j) (by omega), h4 _ hr, h5 _ hr, h6 _ hr, h7 _ hr]; exact hpast j hj
theorem DR_cur (hD : DR c t w k cows tasters newest known mayBe bearer day draw milks kinds fines pm pb pd pw now) {m b d r : Int32} (hM : MO c m b d r) {now' : Nat → Int32} (h0 : now' 0 = d) (h1 : now' 1 = r) (h2 : now' 2 = m) (h3 : now' 3 = b) (hr : ∀ i, 4 ≤ i → now' i = now i) : DR c t w k cows tasters newest known m b d r milks kinds fines pm pb pd pw now' := by
  obtain ⟨hb, he, ⟨m4, m13, m22⟩, hmi, hta, -, hpast⟩ := hD
  refine ⟨hb, he, ⟨(hr 4 (by decide)).trans m4, (hr 13 (by decide)).trans m13, (hr 22 (by decide)).trans m22⟩, ?_, ?_, ⟨h2, h3, h0, h1, hM⟩, ?_⟩
  · intro i hi
    rw [hr (5 + i) (by omega)]; exact hmi i hi
  · intro i hi
    rw [hr (14 + i) (by omega), hr (18 + i) (by omega)]; exact hta i hi
  · intro j hj
    rw [hr (23 + 4 * j) (by omega), hr (24 + 4 * j) (by omega), hr (25 + 4 * j) (by omega), hr (26 + 4 * j) (by omega)]; exact hpast j hj
theorem DR_draw (hD : DR c t w k cows tasters newest known mayBe bearer day draw milks kinds fines pm pb pd pw now) {z : Nat} (hz : z < 2 ^ 31) : DR c t w k cows tasters newest known mayBe bearer day (nI z) milks kinds fines pm pb pd pw (upd now 1 (nI z)) := by
  obtain ⟨-, -, -, -, -, ⟨q0, q1, q2, q3, hM⟩, -⟩ := id hD
  exact DR_cur hD ⟨hM.1, hM.2.1, hM.2.2.1, z, hz, rfl⟩ ((u_n (by decide)).trans q2) (u_s rfl) ((u_n (by decide)).trans q0) ((u_n (by decide)).trans q1) (fun i hi => u_n (by omega))
theorem DR_bear (hD : DR c t w k cows tasters newest known mayBe bearer day draw milks kinds fines pm pb pd pw now) {x : Int32} (hx : x = -4 ∨ ∃ y, y < c ∧ x = nI y) : DR c t w k cows tasters newest known mayBe x day draw milks kinds fines pm pb pd pw (upd now 3 x) := by
  obtain ⟨-, -, -, -, -, ⟨q0, q1, q2, q3, hM⟩, -⟩ := id hD
  exact DR_cur hD ⟨hM.1, hx, hM.2.2⟩ ((u_n (by decide)).trans q2) ((u_n (by decide)).trans q3) ((u_n (by decide)).trans q0) (u_s rfl) (fun i hi => u_n (by omega))
theorem DR_may (hD : DR c t w k cows tasters newest known mayBe bearer day draw milks kinds fines pm pb pd pw now) {x : Nat} (hx : x < 2 ^ c) : DR c t w k cows tasters newest known (nI x) bearer day draw milks kinds fines pm pb pd pw (upd now 2 (nI x)) := by
  obtain ⟨-, -, -, -, -, ⟨q0, q1, q2, q3, hM⟩, -⟩ := id hD
  exact DR_cur hD ⟨⟨x, hx, rfl⟩, hM.2⟩ ((u_n (by decide)).trans q2) ((u_n (by decide)).trans q3) (u_s rfl) ((u_n (by decide)).trans q1) (fun i hi => u_n (by omega))
theorem DR_cow (hD : DR c t w k cows tasters newest known mayBe bearer day draw milks kinds fines pm pb pd pw now) (h8 : c < 8) {j : Nat} (j1 : 1 ≤ j) (j9 : j ≤ 9) : DR (c + 1) t w 0 (nI (c + 1)) tasters newest 0 (nI (2 ^ (c + 1) - 1)) bearer day draw (upd milks c (nI j)) kinds fines pm pb pd pw (upd (upd (upd (upd now 22 0) (5 + c) (nI j)) 4 (nI (c + 1))) 2 (nI (2 ^ (c + 1) - 1))) := by
  obtain ⟨⟨hc, ht, hw, hk⟩, ⟨e1, e2, e3, e4⟩, ⟨m4, m13, m22⟩, hmi, hta, ⟨q0, q1, q2, q3, hM⟩, hpast⟩ := hD
  refine ⟨⟨by omega, ht, hw, by decide⟩, ⟨rfl, e2, e3, rfl⟩, ⟨?_, ?_, ?_⟩, ?_, ?_, ⟨?_, ?_, ?_, ?_, ⟨2 ^ (c + 1) - 1, by have := Nat.two_pow_pos (c + 1); omega, rfl⟩, ?_, hM.2.2.1, hM.2.2.2⟩, fun j hj => absurd hj (by omega)⟩
  · simp (disch := omega) only [u_n, u_s]
  · simp (disch := omega) only [u_n, u_s]; exact m13
  · simp (disch := omega) only [u_n, u_s]; rfl
  · intro i hi
    rcases Nat.lt_or_ge i c with h9 | h9
    · simp (disch := omega) only [u_n, u_s]; exact hmi i h9
    · have : i = c := by omega
      subst this
      simp (disch := omega) only [u_n, u_s]
      exact ⟨trivial, j, j1, j9, rfl⟩
  · intro i hi
    simp (disch := omega) only [u_n, u_s]; exact hta i hi
  · simp (disch := omega) only [u_n, u_s]
  · simp (disch := omega) only [u_n, u_s]; exact q1
  · simp (disch := omega) only [u_n, u_s]; exact q2
  · simp (disch := omega) only [u_n, u_s]; exact q3
  · rcases hM.2.1 with q | ⟨y, hy, q⟩
    · exact Or.inl q
    · exact Or.inr ⟨y, by omega, q⟩
theorem DR_taster (hD : DR c t w k cows tasters newest known mayBe bearer day draw milks kinds fines pm pb pd pw now) (h4 : t < 4) {x y : Nat} (hx : x < 5) (y1 : 1 ≤ y) (y9 : y ≤ 9) : DR c (t + 1) w 0 cows (nI (t + 1)) newest 0 mayBe bearer day draw milks (upd kinds t (nI x)) (upd fines t (nI y)) pm pb pd pw (upd (upd (upd (upd now 22 0) (14 + t) (nI x)) (18 + t) (nI y)) 13 (nI (t + 1))) := by
  obtain ⟨⟨hc, ht, hw, hk⟩, ⟨e1, e2, e3, e4⟩, ⟨m4, m13, m22⟩, hmi, hta, ⟨q0, q1, q2, q3, hM⟩, hpast⟩ := hD
  refine ⟨⟨hc, by omega, hw, by decide⟩, ⟨e1, rfl, e3, rfl⟩, ⟨?_, ?_, ?_⟩, ?_, ?_, ⟨?_, ?_, ?_, ?_, hM⟩, fun j hj => absurd hj (by omega)⟩
  · simp (disch := omega) only [u_n, u_s]; exact m4
  · simp (disch := omega) only [u_n, u_s]
  · simp (disch := omega) only [u_n, u_s]; rfl
  · intro i hi
    simp (disch := omega) only [u_n, u_s]; exact hmi i hi
  · intro i hi
    rcases Nat.lt_or_ge i t with h9 | h9
    · simp (disch := omega) only [u_n, u_s]; exact hta i h9
    · have : i = t := by omega
      subst this
      simp (disch := omega) only [u_n, u_s]
      exact ⟨trivial, trivial, ⟨x, hx, rfl⟩, y, y1, y9, rfl⟩
  · simp (disch := omega) only [u_n, u_s]; exact q0
  · simp (disch := omega) only [u_n, u_s]; exact q1
  · simp (disch := omega) only [u_n, u_s]; exact q2
  · simp (disch := omega) only [u_n, u_s]; exact q3
theorem DR_milk (hD : DR c t w k cows tasters newest known mayBe bearer day draw milks kinds fines pm pb pd pw now) {i x : Nat} (hi : i < c) (x1 : 1 ≤ x) (x9 : x ≤ 9) : DR c t w k cows tasters newest known mayBe bearer day draw (upd milks i (nI x)) kinds fines pm pb pd pw (upd now (5 + i) (nI x)) := by
  obtain ⟨⟨hc, ht, hw, hk⟩, he, ⟨m4, m13, m22⟩, hmi, hta, ⟨q0, q1, q2, q3, hM⟩, hpast⟩ := hD
  refine ⟨⟨hc, ht, hw, hk⟩, he, ⟨?_, ?_, ?_⟩, ?_, ?_, ⟨?_, ?_, ?_, ?_, hM⟩, ?_⟩
  · simp (disch := omega) only [u_n, u_s]; exact m4
  · simp (disch := omega) only [u_n, u_s]; exact m13
  · simp (disch := omega) only [u_n, u_s]; exact m22
  · intro n hn
    by_cases h : n = i
    · subst h
      simp (disch := omega) only [u_n, u_s]
      exact ⟨trivial, x, x1, x9, rfl⟩
    · simp (disch := omega) only [u_n, u_s]; exact hmi n hn
  · intro n hn
    simp (disch := omega) only [u_n, u_s]; exact hta n hn
  · simp (disch := omega) only [u_n, u_s]; exact q0
  · simp (disch := omega) only [u_n, u_s]; exact q1
  · simp (disch := omega) only [u_n, u_s]; exact q2
  · simp (disch := omega) only [u_n, u_s]; exact q3
  · intro j hj
    simp (disch := omega) only [u_n, u_s]; exact hpast j hj
/-- 'bring' from another array -/
theorem s_bring {a b : Nat → Int32} {i j n : Nat} (hi : i + n ≤ 55) (hj : j + n ≤ 55) {post : (Nat → Int32) → Prop} (p : post (fb_put b (fun x => a (i + x)) j n)) : wp_X8_bring a b (nI i) (nI j) (nI n) post := by
  have L : ∀ (d m : Nat), m + d = n → wp_X8_bring_L3 a (nI i) (nI j) (nI n) post (d + 1) (fb_put b (fun x => a (i + x)) j m) (nI m) := by
    intro d
    induction d with
    | zero =>
      intro m hm
      have : m = n := by omega
      subst this
      exact q_t (nI_le (Nat.le_refl _) (by omega)) p
    | succ d ih =>
      intro m hm
      refine q_f (nI_ge (by omega) (by omega)) ?_
      rw [nI_add, nI_add, nI_clamp (by omega), nI_clamp (by omega), ← nI_succ]
      refine ⟨vp_in_nI (by omega) (by decide), vp_in_nI (by omega) (by decide), ?_⟩
      have e := ih (m + 1) (by omega)
      rw [← fb_put_succ] at e; exact e
  exact ⟨n + 1, by have := L n 0 (by omega); rw [fb_put_0] at this; exact this⟩
/-- 'bring' within an array: downwards, or to a place apart -/
theorem s_bringS {a : Nat → Int32} {i j n : Nat} (hi : i + n ≤ 55) (hj : j + n ≤ 55) (ha : j ≤ i ∨ i + n ≤ j) {post : (Nat → Int32) → Prop} (p : post (fb_put a (fun x => a (i + x)) j n)) : wp_X8_bringS a (nI i) (nI j) (nI n) post := by
  have L : ∀ (d m : Nat), m + d = n → wp_X8_bringS_L3 (nI i) (nI j) (nI n) post (d + 1) (fb_put a (fun x => a (i + x)) j m) (nI m) := by
    intro d
    induction d with
    | zero =>
      intro m hm
      have : m = n := by omega
      subst this
      exact q_t (nI_le (Nat.le_refl _) (by omega)) p
    | succ d ih =>
      intro m hm
      refine q_f (nI_ge (by omega) (by omega)) ?_
      rw [nI_add, nI_add, nI_clamp (by omega), nI_clamp (by omega), ← nI_succ]
      refine ⟨vp_in_nI (by omega) (by decide), vp_in_nI (by omega) (by decide), ?_⟩
      have e := ih (m + 1) (by omega)
      rw [← fb_put_succ] at e
      rw [fb_put_out (k := i + m) (by omega)]; exact e
  exact ⟨n + 1, by have := L n 0 (by omega); rw [fb_put_0] at this; exact this⟩
theorem w1 : ∀ w, w < 8 → (nI w + 1) &&& 7 = nI ((w + 1) % 8) := by decide
theorem w7 : ∀ w, w < 8 → (nI w - 1) &&& 7 = nI ((w + 7) % 8) := by decide
theorem k1 : ∀ k, k < 9 → (if nI k + 1 < (8 : Int32) then nI k + 1 else (8 : Int32)) = nI (min 8 (k + 1)) := by decide
theorem s_remember (hD : DR c t w k cows tasters newest known mayBe bearer day draw milks kinds fines pm pb pd pw now) {post : Int32 → Int32 → (Nat → Int32) → (Nat → Int32) → (Nat → Int32) → (Nat → Int32) → Prop}
    (p : post (nI ((w + 1) % 8)) (nI (min 8 (k + 1))) (upd pm ((w + 1) % 8) mayBe) (upd pb ((w + 1) % 8) bearer) (upd pd ((w + 1) % 8) day) (upd pw ((w + 1) % 8) draw)) : wp_X0_remember newest known mayBe bearer day draw pm pb pd pw post := by
  obtain ⟨⟨hc, ht, hw, hk⟩, ⟨e1, e2, e3, e4⟩, -⟩ := hD
  unfold wp_X0_remember
  rw [e3, e4, w1 w hw, k1 k (by omega), nI_clamp (by omega)]
  exact ⟨vp_in_nI (by omega) (by decide), p⟩
/-- where a note has gone: the array behind it -/
theorem DR_push (hD : DR c t w k cows tasters newest known mayBe bearer day draw milks kinds fines pm pb pd pw now) {now' : Nat → Int32}
    (hlo : ∀ i, i < 22 → now' i = now i) (h22 : now' 22 = nI (min 8 (k + 1)))
    (hnew : ∀ x, x < 4 → now' (23 + 4 * (min 8 (k + 1) - 1) + x) = now x)
    (hold : ∀ j x, j < min 8 (k + 1) - 1 → x < 4 → now' (23 + 4 * j + x) = now (23 + 4 * (j + (k + 1 - min 8 (k + 1))) + x)) :
    DR c t ((w + 1) % 8) (min 8 (k + 1)) cows tasters (nI ((w + 1) % 8)) (nI (min 8 (k + 1))) mayBe bearer day draw milks kinds fines (upd pm ((w + 1) % 8) mayBe) (upd pb ((w + 1) % 8) bearer) (upd pd ((w + 1) % 8) day) (upd pw ((w + 1) % 8) draw) now' := by
  obtain ⟨⟨hc, ht, hw, hk⟩, ⟨e1, e2, e3, e4⟩, ⟨m4, m13, m22⟩, hmi, hta, ⟨q0, q1, q2, q3, hM⟩, hpast⟩ := hD
  refine ⟨⟨hc, ht, Nat.mod_lt _ (by decide), by omega⟩, ⟨e1, e2, rfl, rfl⟩, ⟨(hlo 4 (by decide)).trans m4, (hlo 13 (by decide)).trans m13, h22⟩, ?_, ?_, ⟨(hlo 2 (by decide)).trans q0, (hlo 3 (by decide)).trans q1, (hlo 0 (by decide)).trans q2, (hlo 1 (by decide)).trans q3, hM⟩, ?_⟩
  · intro i hi
    rw [hlo (5 + i) (by omega)]; exact hmi i hi
  · intro i hi
    rw [hlo (14 + i) (by omega), hlo (18 + i) (by omega)]; exact hta i hi
  · intro j hj
    by_cases hjl : j = min 8 (k + 1) - 1
    · have er : ri ((w + 1) % 8) (min 8 (k + 1)) j = (w + 1) % 8 := by unfold ri; omega
      rw [er]
      simp (disch := omega) only [u_s]
      have h0 := hnew 0 (by decide); have h1 := hnew 1 (by decide); have h2 := hnew 2 (by decide); have h3 := hnew 3 (by decide)
      rw [← hjl] at h0 h1 h2 h3
      refine ⟨h0.trans q2, ?_, ?_, ?_, hM⟩
      · rw [show 24 + 4 * j = 23 + 4 * j + 1 by omega]; exact h1.trans q3
      · rw [show 25 + 4 * j = 23 + 4 * j + 2 by omega]; exact h2.trans q0
      · rw [show 26 + 4 * j = 23 + 4 * j + 3 by omega]; exact h3.trans q1
    · have hj' : j < min 8 (k + 1) - 1 := by omega
      have er : ri ((w + 1) % 8) (min 8 (k + 1)) j = ri w k (j + (k + 1 - min 8 (k + 1))) := by unfold ri; omega
      have en : ri w k (j + (k + 1 - min 8 (k + 1))) ≠ (w + 1) % 8 := by unfold ri; omega
      rw [er]
      simp (disch := assumption) only [u_n]
      have hq := hpast (j + (k + 1 - min 8 (k + 1))) (by omega)
      have h0 := hold j 0 hj' (by decide); have h1 := hold j 1 hj' (by decide); have h2 := hold j 2 hj' (by decide); have h3 := hold j 3 hj' (by decide)
      refine ⟨h0.trans hq.1, ?_, ?_, ?_, hq.2.2.2.2⟩
      · rw [show 24 + 4 * j = 23 + 4 * j + 1 by omega, h1, show 23 + 4 * (j + (k + 1 - min 8 (k + 1))) + 1 = 24 + 4 * (j + (k + 1 - min 8 (k + 1))) by omega]; exact hq.2.1
      · rw [show 25 + 4 * j = 23 + 4 * j + 2 by omega, h2, show 23 + 4 * (j + (k + 1 - min 8 (k + 1))) + 2 = 25 + 4 * (j + (k + 1 - min 8 (k + 1))) by omega]; exact hq.2.2.1
      · rw [show 26 + 4 * j = 23 + 4 * j + 3 by omega, h3, show 23 + 4 * (j + (k + 1 - min 8 (k + 1))) + 3 = 26 + 4 * (j + (k + 1 - min 8 (k + 1))) by omega]; exact hq.2.2.2.1
theorem s_noteE (hD : DR c t w k cows tasters newest known mayBe bearer day draw milks kinds fines pm pb pd pw now) : ∃ now', DR c t ((w + 1) % 8) (min 8 (k + 1)) cows tasters (nI ((w + 1) % 8)) (nI (min 8 (k + 1))) mayBe bearer day draw milks kinds fines (upd pm ((w + 1) % 8) mayBe) (upd pb ((w + 1) % 8) bearer) (upd pd ((w + 1) % 8) day) (upd pw ((w + 1) % 8) draw) now' ∧ ∀ post : (Nat → Int32) → Prop, post now' → wp_X8_note now post := by
  obtain ⟨⟨hc, ht, hw, hk⟩, ⟨e1, e2, e3, e4⟩, ⟨m4, m13, m22⟩, -⟩ := id hD
  have J : ∀ (n : Nat → Int32) (k' : Nat), k' < 8 → n 22 = nI k' → (∀ x, x < 22 → n x = now x) → min 8 (k + 1) = k' + 1 → (∀ j x, j < k' → x < 4 → n (23 + 4 * j + x) = now (23 + 4 * (j + (k + 1 - min 8 (k + 1))) + x)) → ∃ now', DR c t ((w + 1) % 8) (min 8 (k + 1)) cows tasters (nI ((w + 1) % 8)) (nI (min 8 (k + 1))) mayBe bearer day draw milks kinds fines (upd pm ((w + 1) % 8) mayBe) (upd pb ((w + 1) % 8) bearer) (upd pd ((w + 1) % 8) day) (upd pw ((w + 1) % 8) draw) now' ∧ ∀ post : (Nat → Int32) → Prop, post now' → wp_X8_note_J40 n post := by
    intro n k' hk' hn hlo hmin hold
    have e : (23 : Int32) + (4 : Int32) * n 22 = nI (23 + 4 * k') := by rw [hn, show (4 : Int32) * nI k' = nI (4 * k') from pk_mul 4 k']; exact lit_add 23 (4 * k')
    refine ⟨upd (fb_put n (fun x => n (0 + x)) (23 + 4 * k') 4) 22 (fb_put n (fun x => n (0 + x)) (23 + 4 * k') 4 22 + 1), ?_, fun post p => ?_⟩
    rotate_left
    · unfold wp_X8_note_J40
      rw [e]
      exact s_bringS (i := 0) (n := 4) (by decide) (by omega) (by omega) p
    · refine DR_push hD ?_ ?_ ?_ ?_
      · intro i hi
        rw [u_n (by omega), fb_put_out (by omega)]; exact hlo i hi
      · rw [u_s rfl, fb_put_out (by omega), hn, ← nI_succ, hmin]
      · intro x hx
        rw [hmin, Nat.add_sub_cancel, u_n (by omega), fb_put_in (by omega) (by omega)]
        rw [show 0 + (23 + 4 * k' + x - (23 + 4 * k')) = x by omega]; exact hlo x (by omega)
      · intro j x hj hx
        rw [u_n (by omega), fb_put_out (by omega)]; exact hold j x (by omega) hx
  rcases Nat.lt_or_ge k 8 with h8 | h8
  · obtain ⟨now', hD', hp⟩ := J now k h8 m22 (fun _ _ => rfl) (by omega) (by
      intro j x hj hx
      rw [show k + 1 - min 8 (k + 1) = 0 by omega, Nat.add_zero])
    refine ⟨now', hD', fun post p => ?_⟩
    unfold wp_X8_note
    rw [m22]
    exact n_t (fun e => absurd ((nIk k 8 (by omega) (by decide)).mp e) (by omega)) (hp post p)
  · have : k = 8 := by omega
    subst this
    obtain ⟨now', hD', hp⟩ := J (upd (fb_put now (fun x => now (27 + x)) 23 28) 22 (fb_put now (fun x => now (27 + x)) 23 28 22 - 1)) 7 (by decide) (by rw [u_s rfl, fb_put_out (by omega), m22]; decide) (by
      intro x hx
      rw [u_n (by omega), fb_put_out (by omega)]) (by decide) (by
      intro j x hj hx
      rw [u_n (by omega), fb_put_in (by omega) (by omega)]
      congr 1
      omega)
    refine ⟨now', hD', fun post p => ?_⟩
    unfold wp_X8_note
    rw [m22]
    exact n_f rfl (s_bringS (i := 27) (j := 23) (n := 28) (by decide) (by decide) (by decide) (hp post p))
theorem s_note (hD : DR c t w k cows tasters newest known mayBe bearer day draw milks kinds fines pm pb pd pw now) {post : (Nat → Int32) → Prop}
    (p : ∀ now', DR c t ((w + 1) % 8) (min 8 (k + 1)) cows tasters (nI ((w + 1) % 8)) (nI (min 8 (k + 1))) mayBe bearer day draw milks kinds fines (upd pm ((w + 1) % 8) mayBe) (upd pb ((w + 1) % 8) bearer) (upd pd ((w + 1) % 8) day) (upd pw ((w + 1) % 8) draw) now' → post now') : wp_X8_note now post := by
  obtain ⟨now', hD', hp⟩ := s_noteE hD
  exact hp _ (p now' hD')
theorem s_goBack (hD : DR c t w k cows tasters newest known mayBe bearer day draw milks kinds fines pm pb pd pw now) (h0 : 0 < k) {post : Int32 → Int32 → Int32 → Int32 → Int32 → Int32 → Prop}
    (p : post (nI ((w + 7) % 8)) (nI (k - 1)) (pm w) (pb w) (pd w) (pw w)) : wp_X0_goBack newest known pm pb pd pw post := by
  obtain ⟨⟨hc, ht, hw, hk⟩, ⟨e1, e2, e3, e4⟩, -⟩ := hD
  unfold wp_X0_goBack
  obtain ⟨d, rfl⟩ : ∃ d, k = d + 1 := ⟨k - 1, by omega⟩
  rw [e3, e4, w7 w hw, nI_pred, nI_clamp (by omega)]
  exact ⟨vp_in_nI hw (by decide), p⟩
theorem DR_pop (hD : DR c t w k cows tasters newest known mayBe bearer day draw milks kinds fines pm pb pd pw now) (h0 : 0 < k) : DR c t ((w + 7) % 8) (k - 1) cows tasters (nI ((w + 7) % 8)) (nI (k - 1)) (pm w) (pb w) (pd w) (pw w) milks kinds fines pm pb pd pw (fb_put (upd now 22 (nI (k - 1))) (fun x => upd now 22 (nI (k - 1)) (23 + 4 * (k - 1) + x)) 0 4) := by
  obtain ⟨⟨hc, ht, hw, hk⟩, ⟨e1, e2, e3, e4⟩, ⟨m4, m13, m22⟩, hmi, hta, ⟨q0, q1, q2, q3, hM⟩, hpast⟩ := hD
  have er : ri w k (k - 1) = w := by unfold ri; omega
  have hl := hpast (k - 1) (by omega)
  rw [er] at hl
  refine ⟨⟨hc, ht, Nat.mod_lt _ (by decide), by omega⟩, ⟨e1, e2, rfl, rfl⟩, ⟨?_, ?_, ?_⟩, ?_, ?_, ⟨?_, ?_, ?_, ?_, hl.2.2.2.2⟩, ?_⟩
  · rw [fb_put_out (by omega), u_n (by omega)]; exact m4
  · rw [fb_put_out (by omega), u_n (by omega)]; exact m13
  · rw [fb_put_out (by omega), u_s rfl]
  · intro i hi
    rw [fb_put_out (by omega), u_n (by omega)]; exact hmi i hi
  · intro i hi
    rw [fb_put_out (by omega), fb_put_out (by omega), u_n (by omega), u_n (by omega)]; exact hta i hi
  · rw [fb_put_in (by omega) (by omega), u_n (by omega), show 23 + 4 * (k - 1) + (2 - 0) = 25 + 4 * (k - 1) by omega]; exact hl.2.2.1
  · rw [fb_put_in (by omega) (by omega), u_n (by omega), show 23 + 4 * (k - 1) + (3 - 0) = 26 + 4 * (k - 1) by omega]; exact hl.2.2.2.1
  · rw [fb_put_in (by omega) (by omega), u_n (by omega)]; exact hl.1
  · rw [fb_put_in (by omega) (by omega), u_n (by omega), show 23 + 4 * (k - 1) + (1 - 0) = 24 + 4 * (k - 1) by omega]; exact hl.2.1
  · intro j hj
    have e : ri ((w + 7) % 8) (k - 1) j = ri w k j := by unfold ri; omega
    rw [e, fb_put_out (by omega), fb_put_out (by omega), fb_put_out (by omega), fb_put_out (by omega), u_n (by omega), u_n (by omega), u_n (by omega), u_n (by omega)]
    exact hpast j (by omega)
end DRS
