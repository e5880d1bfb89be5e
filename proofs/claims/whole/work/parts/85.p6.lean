/-! pure part 6: what reads a taster's notice -/
theorem s7_isMix_bad {c : Nat} {cows x : Int32} (e : cows = nI c) (hc : c ≤ 8) {post : Int32 → Prop} (h : x < nI 1 ∨ nI (2 ^ c - 1) < x) (p : post 0) : wp_X7_isMix cows x post := by
  unfold wp_X7_isMix
  rw [e]
  rcases h with h | h
  · exact q_t h p
  · exact ⟨fun _ => p, fun _ => s0_all hc (q_t h p)⟩
theorem s7_isMix_ok {c m : Nat} {cows : Int32} (e : cows = nI c) (hc : c ≤ 8) {post : Int32 → Prop} (h1 : 1 ≤ m) (h : m < 2 ^ c) (p : post 1) : wp_X7_isMix cows (nI m) post := by
  have := pow_le8 hc
  unfold wp_X7_isMix
  rw [e]
  exact q_f (nI_nlt h1 (by omega)) (s0_all hc (q_f (nI_nlt (by omega) (by omega)) p))
theorem s8_isMix_bad {c : Nat} {now : Nat → Int32} {x : Int32} (e : now 4 = nI c) (hc : c ≤ 8) {post : Int32 → Prop} (h : x < nI 1 ∨ nI (2 ^ c - 1) < x) (p : post 0) : wp_X8_isMix now x post := by
  refine s8_all hc e ?_
  rcases h with h | h
  · exact s_in_lo h ⟨rfl, p⟩
  · by_cases h1 : x < nI 1
    · exact s_in_lo h1 ⟨rfl, p⟩
    · exact s_in_hi h1 h ⟨rfl, p⟩
theorem s8_isMix_ok {c m : Nat} {now : Nat → Int32} (e : now 4 = nI c) (hc : c ≤ 8) {post : Int32 → Prop} (h1 : 1 ≤ m) (h : m < 2 ^ c) (p : post 1) : wp_X8_isMix now (nI m) post := by
  have := pow_le8 hc
  exact s8_all hc e (s_in_ok (nI_nlt h1 (by omega)) (nI_nlt (by omega) (by omega)) ⟨rfl, p⟩)
/-- a mix, or none -/
theorem mixc (x : Int32) {c : Nat} (hc : c ≤ 8) : (x < nI 1 ∨ nI (2 ^ c - 1) < x) ∨ ∃ m, 1 ≤ m ∧ m < 2 ^ c ∧ x = nI m := by
  have := pow_le8 hc
  have h0 := Nat.two_pow_pos c
  rcases Nat.eq_zero_or_pos (2 ^ c - 1) with z | z
  · by_cases h : x < nI 1
    · exact Or.inl (Or.inl h)
    · refine Or.inl (Or.inr ?_)
      rw [z]
      rw [fa_lt, nI_toInt (by decide)] at h ⊢
      omega
  · rcases rng x 1 (2 ^ c - 1) (by omega) (by omega) with h | ⟨h, h2⟩ | ⟨j, j1, j2, rfl, h, h2⟩
    · exact Or.inl (Or.inl h)
    · exact Or.inl (Or.inr h2)
    · exact Or.inr ⟨j, j1, by omega, rfl⟩
/-- what the relation says of a taster -/
theorem tas {c t w k : Nat} {cows tasters newest known mayBe bearer day draw : Int32} {milks kinds fines pm pb pd pw now : Nat → Int32} (hD : DR c t w k cows tasters newest known mayBe bearer day draw milks kinds fines pm pb pd pw now) {i : Nat} (hi : i < t) :
    ∃ kd fn d, kd < 5 ∧ 1 ≤ fn ∧ fn ≤ 9 ∧ d ≤ 9999 ∧ kinds i = nI kd ∧ fines i = nI fn ∧ now (14 + i) = nI kd ∧ now (18 + i) = nI fn ∧ day = nI d ∧ now 0 = nI d := by
  obtain ⟨-, -, -, -, hta, ⟨q0, q1, q2, q3, hM⟩, -⟩ := hD
  obtain ⟨a1, a2, ⟨x, hx, ex⟩, y, y1, y9, ey⟩ := hta i hi
  obtain ⟨z, hz, ez⟩ := hM.2.2.1
  exact ⟨x, y, z, hx, y1, y9, hz, ex, ey, a1.trans ex, a2.trans ey, ez, q2.trans ez⟩
theorem DR_okM {c t w k : Nat} {cows tasters newest known mayBe bearer day draw : Int32} {milks kinds fines pm pb pd pw now : Nat → Int32} (hD : DR c t w k cows tasters newest known mayBe bearer day draw milks kinds fines pm pb pd pw now) : okM c milks ∧ ∀ i, i < c → now (5 + i) = milks i := by
  obtain ⟨-, -, -, hmi, -⟩ := hD
  exact ⟨okM_of (fun i hi => (hmi i hi).2), fun i hi => (hmi i hi).1⟩
theorem s0_noticedBy {c t w k : Nat} {cows tasters newest known mayBe bearer day draw : Int32} {milks kinds fines pm pb pd pw now : Nat → Int32} (hD : DR c t w k cows tasters newest known mayBe bearer day draw milks kinds fines pm pb pd pw now) {i mix kd fn d : Nat} (hi : i < t) (hm : mix < 2 ^ c) (hk : kd < 5) (hf : fn ≤ 9) (hd : d ≤ 9999) (ek : kinds i = nI kd) (ef : fines i = nI fn) (ed : day = nI d) {post : Int32 → Prop} (p : post (nI (nset kd fn d c (tn milks) mix))) : wp_X0_noticedBy cows milks kinds fines day (nI i) (nI mix) post := by
  obtain ⟨⟨hc, ht, hw, hk'⟩, ⟨e1, e2, e3, e4⟩, -⟩ := id hD
  unfold wp_X0_noticedBy
  rw [nI_clamp (by omega), ek, ef, ed, e1]
  exact ⟨vp_in_nI (by omega) (by decide), vp_in_nI (by omega) (by decide), s0_noticedAs hc hm hf hk hd (DR_okM hD).1 p⟩
theorem nset_bit {kd fn d c : Nat} {mi : Nat → Nat} {mix i : Nat} (hi : i < c) : (nset kd fn d c mi mix).testBit i = nb kd fn d c mi mix i := by
  unfold nset; rw [setTo_bit]; simp [hi]
set_option maxRecDepth 20000 in
theorem st_notices : Step_notices RR := by
  intro v f g x1 x2 x3 keep
  obtain ⟨⟨c, t, w, k, hD⟩, hK, hT, hS⟩ := id keep
  obtain ⟨⟨hc, ht, hw, hk⟩, ⟨e1, e2, e3, e4⟩, ⟨m4, m13, m22⟩, hmi, hta, hmo, hpast⟩ := id hD
  obtain ⟨hok, h5⟩ := DR_okM hD
  rcases ix x1 (n := t) (by omega) with h | ⟨i, hi, rfl⟩
  · exact s7t_bad e2 h (q_t rfl (s8_isTaster_bad m13 ht h (q_t rfl ⟨rfl, keep⟩)))
  · refine s7t_ok e2 ht hi (q_f ne10 ?_)
    rcases mixc x2 hc with h | ⟨m, m1, m2, rfl⟩
    · exact s7_isMix_bad e1 hc h (q_t rfl (s8_isTaster_ok m13 ht hi (q_f ne10 (s8_isMix_bad m4 hc h (q_t rfl ⟨rfl, keep⟩)))))
    · refine s7_isMix_ok e1 hc m1 m2 (q_f ne10 ?_)
      rcases ix x3 (n := c) (by omega) with h | ⟨b, hb, rfl⟩
      · exact s7c_bad e1 h (n_f rfl (s8_isTaster_ok m13 ht hi (q_f ne10 (s8_isMix_ok m4 hc m1 m2 (q_f ne10 (s8_isCow_bad m4 hc h (n_f rfl ⟨rfl, keep⟩)))))))
      · obtain ⟨kd, fn, d, hkd, hfn1, hfn, hd, ek, ef, nk, nf, ed, nd⟩ := tas hD hi
        refine s7c_ok e1 hc hb (n_t ne10 (s0_noticedBy hD hi m2 hkd hfn hd ek ef ed (s8_isTaster_ok m13 ht hi (q_f ne10 (s8_isMix_ok m4 hc m1 m2 (q_f ne10 (s8_isCow_ok m4 hc hb (n_t ne10 (s8_noticesIn hc (by omega) m2 hfn hkd hd hb m4 h5 hok nk nf nd ?_)))))))))
        have hlt := nset_lt kd fn d c (tn (f 0)) m
        have := pow_le8 hc
        rw [shb (by omega) (by omega), nset_bit hb]
        cases nb kd fn d c (tn (f 0)) m b with
        | true => exact q_f (by decide) ⟨rfl, keep⟩
        | false => exact q_t rfl ⟨rfl, keep⟩
set_option maxRecDepth 20000 in
theorem st_tells : Step_tells RR := by
  intro v f g x1 x2 keep
  obtain ⟨⟨c, t, w, k, hD⟩, hK, hT, hS⟩ := id keep
  obtain ⟨⟨hc, ht, hw, hk⟩, ⟨e1, e2, e3, e4⟩, ⟨m4, m13, m22⟩, hmi, hta, ⟨q0, q1, q2, q3, hM⟩, hpast⟩ := id hD
  obtain ⟨hok, h5⟩ := DR_okM hD
  rcases ix x1 (n := t) (by omega) with h | ⟨i, hi, rfl⟩
  · exact s7t_bad e2 h (q_t rfl (s8_isTaster_bad m13 ht h (q_t rfl ⟨rfl, keep⟩)))
  · refine s7t_ok e2 ht hi (q_f ne10 ?_)
    rcases mixc x2 hc with h | ⟨m, m1, m2, rfl⟩
    · exact s7_isMix_bad e1 hc h (n_f rfl (s8_isTaster_ok m13 ht hi (q_f ne10 (s8_isMix_bad m4 hc h (n_f rfl ⟨rfl, keep⟩)))))
    · obtain ⟨kd, fn, d, hkd, hfn1, hfn, hd, ek, ef, nk, nf, ed, nd⟩ := tas hD hi
      exact s7_isMix_ok e1 hc m1 m2 (n_t ne10 (s0_noticedBy hD hi m2 hkd hfn hd ek ef ed (s8_isTaster_ok m13 ht hi (q_f ne10 (s8_isMix_ok m4 hc m1 m2 (n_t ne10 (s8_noticedBy hc (by omega) m2 hfn hkd hd m4 h5 hok nk nf nd ⟨by rw [q0], keep⟩)))))))
set_option maxRecDepth 20000 in
theorem st_count : Step_count RR := by
  intro v f g x1 keep
  obtain ⟨⟨c, t, w, k, hD⟩, hK, hT, hS⟩ := id keep
  obtain ⟨⟨hc, ht, hw, hk⟩, ⟨e1, e2, e3, e4⟩, ⟨m4, m13, m22⟩, hmi, hta, ⟨q0, q1, q2, q3, hM⟩, hpast⟩ := id hD
  obtain ⟨hok, h5⟩ := DR_okM hD
  unfold wp_X7_count
  by_cases h0 : x1 = 0
  · exact q_t h0 (q_t h0 ⟨e1.trans m4.symm, keep⟩)
  refine q_f h0 ?_
  by_cases h1 : x1 = 1
  · exact q_t h1 (q_f h0 (q_t h1 ⟨e2.trans m13.symm, keep⟩))
  refine q_f h1 ?_
  by_cases h2 : x1 = 2
  · exact q_t h2 (q_f h0 (q_f h1 (q_t h2 ⟨q2.symm, keep⟩)))
  refine q_f h2 ?_
  by_cases h3 : x1 = 3
  · exact q_t h3 (q_f h0 (q_f h1 (q_f h2 (q_t h3 ⟨q0.symm, keep⟩))))
  refine q_f h3 ?_
  by_cases h4 : x1 = 4
  · exact q_t h4 (q_f h0 (q_f h1 (q_f h2 (q_f h3 (q_t h4 ⟨q1.symm, keep⟩)))))
  refine q_f h4 ?_
  by_cases h5' : x1 = 5
  · refine q_t h5' ?_
    rw [e1]
    exact s0_all hc (s0_milkOf hc (pow_pos2 c) hok (q_f h0 (q_f h1 (q_f h2 (q_f h3 (q_f h4 (q_t h5' (s8_all hc m4 (s8_milkOf hc (pow_pos2 c) m4 h5 hok ⟨rfl, keep⟩)))))))))
  refine q_f h5' ?_
  by_cases h6 : x1 = 6
  · refine q_t h6 ?_
    obtain ⟨x, hx, ex⟩ := hM.1
    rw [e1, ex]
    refine s0_milkOf hc hx hok (q_f h0 (q_f h1 (q_f h2 (q_f h3 (q_f h4 (q_f h5' (q_t h6 ?_)))))))
    rw [q0, ex]
    exact s8_milkOf hc hx m4 h5 hok ⟨rfl, keep⟩
  refine q_f h6 ?_
  by_cases h7 : x1 = 7
  · exact q_t h7 (q_f h0 (q_f h1 (q_f h2 (q_f h3 (q_f h4 (q_f h5' (q_f h6 (q_t h7 ⟨e4.trans m22.symm, keep⟩))))))))
  exact q_f h7 (q_f h0 (q_f h1 (q_f h2 (q_f h3 (q_f h4 (q_f h5' (q_f h6 (q_f h7 ⟨rfl, keep⟩))))))))
