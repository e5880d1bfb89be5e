/-! pure part 5: the plain steps -/
theorem s7c_bad {c : Nat} {cows x : Int32} (e : cows = nI c) {post : Int32 → Prop} (h : x < 0 ∨ nI c ≤ x) (p : post 0) : wp_X7_isCow cows x post := s7_isCow_bad (by rw [e]; exact h) p
theorem s7c_ok {c i : Nat} {cows : Int32} (e : cows = nI c) (hc : c ≤ 8) {post : Int32 → Prop} (h : i < c) (p : post 1) : wp_X7_isCow cows (nI i) post := by rw [e]; exact s7_isCow_ok hc h p
theorem s7t_bad {c : Nat} {cows x : Int32} (e : cows = nI c) {post : Int32 → Prop} (h : x < 0 ∨ nI c ≤ x) (p : post 0) : wp_X7_isTaster cows x post := s7_isTaster_bad (by rw [e]; exact h) p
theorem s7t_ok {c i : Nat} {cows : Int32} (e : cows = nI c) (hc : c ≤ 4) {post : Int32 → Prop} (h : i < c) (p : post 1) : wp_X7_isTaster cows (nI i) post := by rw [e]; exact s7_isTaster_ok hc h p
theorem nle_of {x : Int32} {a : Nat} (h : nI a < x) : ¬ x ≤ nI a := by rw [fa_le]; rw [fa_lt] at h; exact Int.not_le.mpr h
set_option maxRecDepth 20000 in
theorem st_cow : Step_cow RR := by
  intro v f g x1 keep
  obtain ⟨⟨c, t, w, k, hD⟩, hK, hT, hS⟩ := id keep
  obtain ⟨⟨hc, ht, hw, hk⟩, ⟨e1, e2, e3, e4⟩, ⟨m4, m13, m22⟩, hmi, hta, hmo, hpast⟩ := id hD
  unfold wp_X7_cow
  rcases rng x1 1 9 (by decide) (by decide) with h | ⟨h, h2⟩ | ⟨j, j1, j9, rfl, h, h2⟩
  · exact q_t h (s_in_lo h (n_f rfl ⟨rfl, keep⟩))
  · exact q_f h (q_f (nle_of h2) (s_in_hi h h2 (n_f rfl ⟨rfl, keep⟩)))
  · refine q_f h (q_t (nI_le j9 (by decide)) ?_)
    rcases Nat.lt_or_ge c 8 with h8 | h8
    · rw [e1]
      refine q_t (nI_lt h8 (by decide)) ⟨vp_in_nI h8 (by decide), ?_⟩
      unfold wp_X0_allCows wp_X8_cow
      refine s_in_ok h h2 (n_t ne10 (n_t (by rw [m4]; exact fun e => absurd ((nIk c 8 (by omega) (by decide)).mp e) (by omega)) ?_))
      have e5 : ((5 : Int32) + upd (f 29) 22 0 4) = nI (5 + c) := by rw [u_n (by decide), m4]; exact lit_add 5 c
      unfold wp_X8_addCow wp_X8_allOf
      rw [e5, nI_clamp (by omega), nI_clamp (by omega)]
      refine ⟨vp_in_nI (by omega) (by decide), ?_, ?_⟩
      · simp (disch := omega) only [u_n, u_s, m4]; rw [← nI_succ, nI_pred]
      · simp (disch := omega) only [u_n, u_s, m4]
        rw [← nI_succ, sh1 (c + 1) (by omega)]
        exact ⟨⟨c + 1, t, w, 0, DR_cow hD h8 j1 j9⟩, hK, hT, hS⟩
    · have hc8 : c = 8 := by omega
      subst hc8
      exact q_f (by rw [e1]; decide) (s_in_ok h h2 (n_t ne10 (n_f (by rw [m4]; rfl) ⟨rfl, keep⟩)))
set_option maxRecDepth 20000 in
theorem st_taster : Step_taster RR := by
  intro v f g x1 x2 keep
  obtain ⟨⟨c, t, w, k, hD⟩, hK, hT, hS⟩ := id keep
  obtain ⟨⟨hc, ht, hw, hk⟩, ⟨e1, e2, e3, e4⟩, ⟨m4, m13, m22⟩, hmi, hta, hmo, hpast⟩ := id hD
  unfold wp_X7_taster
  rcases rng x1 0 4 (by decide) (by decide) with h | ⟨h, h2⟩ | ⟨i, i1, i4, rfl, h, h2⟩
  · exact q_t h (s_in_lo h (q_t rfl ⟨rfl, keep⟩))
  · refine q_f h (q_t ?_ (s_in_hi h h2 (q_t rfl ⟨rfl, keep⟩)))
    rw [fa_lt] at h2; rw [fa_le]
    have e : (nI 4).toInt = 4 := by decide
    have e' : (5 : Int32).toInt = 5 := by decide
    omega
  · refine q_f h (q_f (nI_ge (b := 5) (by omega) (by decide)) ?_)
    rcases rng x2 1 9 (by decide) (by decide) with g1 | ⟨g1, g2⟩ | ⟨j, j1, j9, rfl, g1, g2⟩
    · exact q_t g1 (s_in_ok h h2 (q_f ne10 (s_in_lo g1 (n_f rfl ⟨rfl, keep⟩))))
    · exact q_f g1 (q_f (nle_of g2) (s_in_ok h h2 (q_f ne10 (s_in_hi g1 g2 (n_f rfl ⟨rfl, keep⟩)))))
    · refine q_f g1 (q_t (nI_le j9 (by decide)) ?_)
      rcases Nat.lt_or_ge t 4 with h4 | h4
      · rw [e2]
        refine q_t (nI_lt h4 (by decide)) ⟨vp_in_nI h4 (by decide), vp_in_nI h4 (by decide), ?_⟩
        unfold wp_X8_taster
        refine s_in_ok h h2 (q_f ne10 (s_in_ok g1 g2 (n_t ne10 (n_t (by rw [m13]; exact fun e => absurd ((nIk t 4 (by omega) (by decide)).mp e) (by omega)) ?_))))
        have e14 : ((14 : Int32) + upd (f 29) 22 0 13) = nI (14 + t) := by rw [u_n (by decide), m13]; exact lit_add 14 t
        have e18 : ((18 : Int32) + upd (f 29) 22 0 13) = nI (18 + t) := by rw [u_n (by decide), m13]; exact lit_add 18 t
        unfold wp_X8_addTaster
        rw [e14, e18, nI_clamp (by omega), nI_clamp (by omega), nI_clamp (by omega)]
        refine ⟨vp_in_nI (by omega) (by decide), vp_in_nI (by omega) (by decide), ?_, ?_⟩
        · simp (disch := omega) only [u_n, u_s, m13]; rw [← nI_succ, nI_pred]
        · simp (disch := omega) only [u_n, u_s, m13]
          rw [← nI_succ]
          exact ⟨⟨c, t + 1, w, 0, DR_taster hD h4 (by omega) j1 j9⟩, hK, hT, hS⟩
      · have ht4 : t = 4 := by omega
        subst ht4
        exact q_f (by rw [e2]; decide) (s_in_ok h h2 (q_f ne10 (s_in_ok g1 g2 (n_t ne10 (n_f (by rw [m13]; rfl) ⟨rfl, keep⟩)))))
set_option maxRecDepth 20000 in
theorem st_milk : Step_milk RR := by
  intro v f g x1 x2 keep
  obtain ⟨⟨c, t, w, k, hD⟩, hK, hT, hS⟩ := id keep
  obtain ⟨⟨hc, ht, hw, hk⟩, ⟨e1, e2, e3, e4⟩, ⟨m4, m13, m22⟩, hmi, hta, hmo, hpast⟩ := id hD
  rcases ix x1 (n := c) (by omega) with h | ⟨i, hi, rfl⟩
  · exact s7c_bad e1 h (q_t rfl (s8_isCow_bad m4 hc h (q_t rfl ⟨rfl, keep⟩)))
  · refine s7c_ok e1 hc hi (q_f ne10 ?_)
    rcases rng x2 1 9 (by decide) (by decide) with g1 | ⟨g1, g2⟩ | ⟨j, j1, j9, rfl, g1, g2⟩
    · exact q_t g1 (s8_isCow_ok m4 hc hi (q_f ne10 (s_in_lo g1 (n_f rfl ⟨rfl, keep⟩))))
    · exact q_f g1 (q_f (nle_of g2) (s8_isCow_ok m4 hc hi (q_f ne10 (s_in_hi g1 g2 (n_f rfl ⟨rfl, keep⟩)))))
    · refine q_f g1 (q_t (nI_le j9 (by decide)) ⟨vp_in_nI (by omega) (by decide), vp_in_nI (by omega) (by decide), s8_isCow_ok m4 hc hi (q_f ne10 (s_in_ok g1 g2 (n_t ne10 ?_)))⟩)
      rw [show (5 : Int32) + nI i = nI (5 + i) from lit_add 5 i, nI_clamp (by omega), nI_clamp (by omega)]
      exact ⟨vp_in_nI (by omega) (by decide), vp_in_nI (by omega) (by decide), (hmi i hi).1.symm, ⟨c, t, w, k, DR_milk hD hi j1 j9⟩, hK, hT, hS⟩
set_option maxRecDepth 20000 in
theorem st_of : Step_of RR := by
  intro v f g x1 keep
  obtain ⟨⟨c, t, w, k, hD⟩, hK, hT, hS⟩ := id keep
  obtain ⟨⟨hc, ht, hw, hk⟩, ⟨e1, e2, e3, e4⟩, ⟨m4, m13, m22⟩, hmi, hta, hmo, hpast⟩ := id hD
  rcases ix x1 (n := c) (by omega) with h | ⟨i, hi, rfl⟩
  · exact s7c_bad e1 h (q_t rfl (s8_isCow_bad m4 hc h (q_t rfl ⟨rfl, keep⟩)))
  · refine s7c_ok e1 hc hi (q_f ne10 ⟨vp_in_nI (by omega) (by decide), s8_isCow_ok m4 hc hi (q_f ne10 ?_)⟩)
    rw [show (5 : Int32) + nI i = nI (5 + i) from lit_add 5 i, nI_clamp (by omega), nI_clamp (by omega)]
    exact ⟨vp_in_nI (by omega) (by decide), (hmi i hi).1.symm, keep⟩
theorem s_either_bad {x : Int32} (h0 : ¬ x = 0) (h1 : ¬ x = 1) {post : Int32 → Prop} (p : post 0) : wp_X7_isEither x post := q_f h0 (n_t h1 p)
theorem s_either0 {post : Int32 → Prop} (p : post 1) : wp_X7_isEither 0 post := q_t rfl p
theorem s_either1 {post : Int32 → Prop} (p : post 1) : wp_X7_isEither 1 post := q_f ne10 (n_f rfl p)
set_option maxRecDepth 20000 in
theorem st_at : Step_at RR := by
  intro v f g x1 x2 keep
  obtain ⟨⟨c, t, w, k, hD⟩, hK, hT, hS⟩ := id keep
  obtain ⟨⟨hc, ht, hw, hk⟩, ⟨e1, e2, e3, e4⟩, ⟨m4, m13, m22⟩, hmi, hta, hmo, hpast⟩ := id hD
  rcases ix x1 (n := t) (by omega) with h | ⟨i, hi, rfl⟩
  · exact s7t_bad e2 h (q_t rfl (s8_isTaster_bad m13 ht h (n_f rfl ⟨rfl, keep⟩)))
  · refine s7t_ok e2 ht hi (q_f ne10 ?_)
    have e14 : (14 : Int32) + nI i = nI (14 + i) := lit_add 14 i
    have e18 : (18 : Int32) + nI i = nI (18 + i) := lit_add 18 i
    by_cases h0 : x2 = 0
    · subst h0
      refine s_either0 (n_t ne10 (n_f rfl ⟨vp_in_nI (by omega) (by decide), s8_isTaster_ok m13 ht hi (n_t ne10 (n_f rfl ?_))⟩))
      rw [e14, nI_clamp (by omega), nI_clamp (by omega)]
      exact ⟨vp_in_nI (by omega) (by decide), (hta i hi).1.symm, keep⟩
    · by_cases h1 : x2 = 1
      · subst h1
        refine s_either1 (n_t ne10 (n_t ne10 ⟨vp_in_nI (by omega) (by decide), s8_isTaster_ok m13 ht hi (n_t ne10 (n_t ne10 (n_f rfl ?_)))⟩))
        rw [e18, nI_clamp (by omega), nI_clamp (by omega)]
        exact ⟨vp_in_nI (by omega) (by decide), (hta i hi).2.1.symm, keep⟩
      · exact s_either_bad h0 h1 (n_f rfl (s8_isTaster_ok m13 ht hi (n_t ne10 (n_t h0 (n_t h1 ⟨rfl, keep⟩)))))
set_option maxRecDepth 20000 in
theorem st_seed : Step_seed RR := by
  intro v f g x1 keep
  obtain ⟨⟨c, t, w, k, hD⟩, hK, hT, hS⟩ := id keep
  obtain ⟨⟨hc, ht, hw, hk⟩, ⟨e1, e2, e3, e4⟩, ⟨m4, m13, m22⟩, hmi, hta, ⟨q0, q1, q2, q3, hM⟩, hpast⟩ := id hD
  by_cases h : 0 ≤ x1
  · refine q_t h (q_t h ⟨q3.symm, ⟨c, t, w, k, ?_⟩, hK, hT, hS⟩)
    obtain ⟨z, hz, rfl⟩ := nI_of (x := x1) (fun q => by rw [fa_lt] at q; rw [fa_le] at h; exact absurd h (Int.not_le.mpr q))
    exact DR_draw hD hz
  · exact q_f h (q_f h ⟨rfl, keep⟩)
set_option maxRecDepth 20000 in
theorem st_undo : Step_undo RR := by
  intro v f g keep
  obtain ⟨⟨c, t, w, k, hD⟩, hK, hT, hS⟩ := id keep
  obtain ⟨⟨hc, ht, hw, hk⟩, ⟨e1, e2, e3, e4⟩, ⟨m4, m13, m22⟩, hmi, hta, hmo, hpast⟩ := id hD
  rcases Nat.eq_zero_or_pos k with h | h
  · subst h
    exact n_f e4 (n_f m22 ⟨rfl, keep⟩)
  · refine n_t (by rw [e4]; exact nI_ne0 h (by omega)) (s_goBack hD h (n_t (by rw [m22]; exact nI_ne0 h (by omega)) ?_))
    obtain ⟨d, rfl⟩ : ∃ d, k = d + 1 := ⟨k - 1, by omega⟩
    rw [m22, nI_pred, u_s rfl, show (4 : Int32) * nI d = nI (4 * d) from pk_mul 4 d, show (23 : Int32) + nI (4 * d) = nI (23 + 4 * d) from lit_add 23 (4 * d)]
    refine s_bringS (i := 23 + 4 * d) (j := 0) (n := 4) (by omega) (by decide) (by omega) ⟨?_, ⟨c, t, (w + 7) % 8, d, DR_pop hD h⟩, hK, hT, hS⟩
    rw [fb_put_out (by omega), u_s rfl]; rfl
set_option maxRecDepth 20000 in
theorem st_bear : Step_bear RR := by
  intro v f g x1 keep
  obtain ⟨⟨c, t, w, k, hD⟩, hK, hT, hS⟩ := id keep
  obtain ⟨⟨hc, ht, hw, hk⟩, ⟨e1, e2, e3, e4⟩, ⟨m4, m13, m22⟩, hmi, hta, ⟨q0, q1, q2, q3, hM⟩, hpast⟩ := id hD
  have ny : ∀ y, y < c → ¬ nI y = -4 := fun y hy e => nI_pos (n := y) (by omega) (by rw [e]; decide)
  have hm : ∀ {P : Int32 → (Nat → Int32) → Prop}, (x1 = -4 ∨ ∃ y, y < c ∧ x1 = nI y) → wp_X8_bear_J16 (f 29) x1 P → wp_X8_bear (f 29) x1 P := by
    intro P hx hj
    rcases hx with h | ⟨y, hy, rfl⟩
    · exact q_t h hj
    · exact q_f (ny y hy) (s8_isCow_ok m4 hc hy (n_t ne10 hj))
  have core : (x1 = -4 ∨ ∃ y, y < c ∧ x1 = nI y) → wp_X7_bear_J16 (v 3) (v 4) (v 5) (v 6) (v 7) (v 8) (f 3) (f 4) (f 5) (f 6) x1 (fun r1 newest' known' bearer' pm' pb' pd' pw' => wp_X8_bear (f 29) x1 (fun r2 m_now' => r1 = r2 ∧ RR (va_up (va_up (va_up v 3 newest') 4 known') 6 bearer') (va_up (va_up (va_up (va_up (va_up f 3 pm') 4 pb') 5 pd') 6 pw') 29 m_now') g)) := by
    intro hx
    by_cases hb : v 6 = x1
    · exact n_f hb (hm hx (n_f (q1.trans hb) ⟨rfl, keep⟩))
    · refine n_t hb (s_remember hD (hm hx (n_t (by rw [q1]; exact hb) (s_note hD (fun now' hD' => ⟨q1.symm, ⟨c, t, (w + 1) % 8, min 8 (k + 1), ?_⟩, hK, hT, hS⟩)))))
      exact DR_bear hD' hx
  by_cases h4 : x1 = -4
  · exact q_t h4 (core (Or.inl h4))
  · refine q_f h4 ?_
    rcases ix x1 (n := c) (by omega) with h | ⟨i, hi, rfl⟩
    · exact s7c_bad e1 h (n_f rfl (q_f h4 (s8_isCow_bad m4 hc h (n_f rfl ⟨rfl, keep⟩))))
    · exact s7c_ok e1 hc hi (n_t ne10 (core (Or.inr ⟨i, hi, rfl⟩)))
theorem pow_pos2 (c : Nat) : 2 ^ c - 1 < 2 ^ c := by have := Nat.two_pow_pos c; omega
set_option maxRecDepth 20000 in
theorem st_forget : Step_forget RR := by
  intro v f g keep
  obtain ⟨⟨c, t, w, k, hD⟩, hK, hT, hS⟩ := id keep
  obtain ⟨⟨hc, ht, hw, hk⟩, ⟨e1, e2, e3, e4⟩, ⟨m4, m13, m22⟩, hmi, hta, ⟨q0, q1, q2, q3, hM⟩, hpast⟩ := id hD
  unfold wp_X7_forget
  rw [show wp_X0_allCows (v 1) = wp_X0_allCows (nI c) by rw [e1]]
  refine s0_all hc ?_
  by_cases h : v 5 = nI (2 ^ c - 1)
  · exact n_f h (s8_all hc m4 (n_f (q0.trans h) ⟨rfl, keep⟩))
  · refine n_t h (s_remember hD (s0_all hc (s8_all hc m4 (n_t (by rw [q0]; exact h) (s_note hD (fun now' hD' => ?_))))))
    obtain ⟨-, -, ⟨p4, p13, p22⟩, -, -, ⟨p0, p1, p2, p3, hM'⟩, -⟩ := id hD'
    refine s8_all hc p4 ⟨?_, ⟨c, t, (w + 1) % 8, min 8 (k + 1), ?_⟩, hK, hT, hS⟩
    · rw [u_n (by decide), p4]; exact e1
    · exact DR_may hD' (pow_pos2 c)
theorem cpy0 {α : Type} {f g : Nat → α} {n j : Nat} (h : j < n) : va_cpy f g 0 0 n j = f j := by
  rw [pk_cpy_in (by omega) (by omega)]; congr 1; omega
theorem u8 {p o : Nat → Int32} : ∀ i, i < 8 → upd (upd (upd (upd (upd (upd (upd (upd p 0 (o 0)) 1 (o 1)) 2 (o 2)) 3 (o 3)) 4 (o 4)) 5 (o 5)) 6 (o 6)) 7 (o 7) i = o i := by
  intro i hi
  rcases (show i = 0 ∨ i = 1 ∨ i = 2 ∨ i = 3 ∨ i = 4 ∨ i = 5 ∨ i = 6 ∨ i = 7 by omega) with rfl | rfl | rfl | rfl | rfl | rfl | rfl | rfl <;> rfl
theorem put55 {a b : Nat → Int32} : ∀ i, i < 55 → fb_put b (fun x => a (0 + x)) 0 55 i = a i := by
  intro i hi
  rw [fb_put_in (by omega) (by omega)]; congr 1; omega
set_option maxRecDepth 20000 in
theorem st_image : Step_image RR := by
  intro v f g keep
  obtain ⟨⟨c, t, w, k, hD⟩, hK, hT, hS⟩ := id keep
  refine s_bring (i := 0) (j := 0) (n := 55) (by decide) (by decide) ⟨rfl, ⟨c, t, w, k, hD⟩, Or.inr ⟨rfl, rfl, c, t, w, k, ?_⟩, hT, hS⟩
  exact DR_congr hD (fun i hi => cpy0 hi) (fun i hi => cpy0 hi) (fun i hi => cpy0 hi) u8 u8 u8 u8 put55
set_option maxRecDepth 20000 in
theorem st_restore : Step_restore RR := by
  intro v f g keep
  obtain ⟨⟨c, t, w, k, hD⟩, hK, hT, hS⟩ := id keep
  rcases hK with ⟨k0, k1⟩ | ⟨k0, k1, c', t', w', k', hD'⟩
  · exact n_f k0 (n_f k1 ⟨rfl, keep⟩)
  · refine n_t (by rw [k0]; decide) (n_t (by rw [k1]; decide) (s_bring (i := 0) (j := 0) (n := 55) (by decide) (by decide) ⟨rfl, ⟨c', t', w', k', ?_⟩, Or.inr ⟨k0, k1, c', t', w', k', hD'⟩, hT, hS⟩))
    exact DR_congr hD' (fun i hi => cpy0 hi) (fun i hi => cpy0 hi) (fun i hi => cpy0 hi) u8 u8 u8 u8 put55
theorem ch_ok : ∀ x, x < 127 → ((nI x).toUInt32 % 65536).toInt32 = nI x ∧ vp_nar .char (nI x) = nI x := by decide +kernel
set_option maxRecDepth 20000 in
theorem st_type : Step_type RR := by
  intro v f g x1 keep
  obtain ⟨⟨c, t, w, k, hD⟩, hK, hT, hS⟩ := id keep
  obtain ⟨n, hn, z1, z2, hl⟩ := id hT
  unfold wp_X7_type
  rcases rng x1 32 126 (by decide) (by decide) with h | ⟨h, h2⟩ | ⟨j, j1, j9, rfl, h, h2⟩
  · exact q_t h (s_in_lo h (n_f rfl ⟨rfl, keep⟩))
  · exact q_f h (q_f (nle_of h2) (s_in_hi h h2 (n_f rfl ⟨rfl, keep⟩)))
  · refine q_f h (q_t (nI_le j9 (by decide)) ?_)
    rcases Nat.lt_or_ge n 40 with h4 | h4
    · rw [z1]
      refine q_t (nI_lt h4 (by decide)) ⟨vp_in_nI h4 (by decide), ?_⟩
      rw [nI_clamp (by omega), (ch_ok j (by omega)).1, (ch_ok j (by omega)).2]
      unfold wp_X8_type
      refine s_in_ok h h2 (n_t ne10 (n_t (by rw [z2]; exact fun e => absurd ((nIk n 40 (by omega) (by decide)).mp e) (by omega)) ?_))
      rw [z2, nI_clamp (by omega)]
      refine ⟨vp_in_nI h4 (by decide), rfl, ⟨c, t, w, k, hD⟩, hK, ⟨n + 1, by omega, (nI_succ n).symm, (nI_succ n).symm, ?_⟩, hS⟩
      intro i hi
      show upd (f 28) n (nI j) i = upd (f 14) n (nI j) i ∧ ∃ x, 32 ≤ x ∧ x ≤ 126 ∧ upd (f 14) n (nI j) i = nI x
      by_cases hin : i = n
      · rw [u_s hin, u_s hin]; exact ⟨rfl, j, j1, j9, rfl⟩
      · rw [u_n hin, u_n hin]; exact hl i (by omega)
    · have : n = 40 := by omega
      subst this
      exact q_f (by rw [z1]; decide) (s_in_ok h h2 (n_t ne10 (n_f (by rw [z2]; rfl) ⟨rfl, keep⟩)))
