/-! pure part 7: answers told and mixes drunk -/
def mnew (b : Bool) (x n c : Nat) : Nat := setTo (fun i => x.testBit i && (n.testBit i == b)) c
theorem mn_lt (b : Bool) (x n c : Nat) : mnew b x n c < 2 ^ c := setTo_lt _ c
theorem mn_t {x n c : Nat} (hx : x < 2 ^ c) : nI x &&& nI n = nI (mnew true x n c) := by
  rw [nI_and]; congr 1
  apply Nat.eq_of_testBit_eq
  intro i
  unfold mnew
  rw [Nat.testBit_and, setTo_bit]
  cases h : x.testBit i with
  | true => simp [bit_lt hx h]
  | false => simp
theorem mn_f {x n c : Nat} (hx : x < 2 ^ c) (hc : c ≤ 8) : nI x &&& (nI n ^^^ (-1)) = nI (mnew false x n c) := by
  rw [andn hx hc]; congr 1
  apply setTo_ext
  intro i hi
  cases x.testBit i <;> cases n.testBit i <;> rfl
theorem mn_g {x n c : Nat} (hx : x < 2 ^ c) (hc : c ≤ 8) : nI x &&& (nI (2 ^ c - 1) &&& (nI n ^^^ (-1))) = nI (mnew false x n c) := by
  rw [andn (pow_pos2 c) hc, nI_and]; congr 1
  apply Nat.eq_of_testBit_eq
  intro i
  unfold mnew
  rw [Nat.testBit_and, setTo_bit, setTo_bit, Nat.testBit_two_pow_sub_one]
  cases h : x.testBit i with
  | true => simp [bit_lt hx h]
  | false => simp
section HR
variable {c t w k : Nat} {cows tasters newest known mayBe bearer day draw : Int32} {milks kinds fines pm pb pd pw now : Nat → Int32}
theorem DR_hear (hD : DR c t w k cows tasters newest known mayBe bearer day draw milks kinds fines pm pb pd pw now) {d : Nat} (hd : d < 9999) (b : Bool) (x n : Nat) : DR c t w k cows tasters newest known (nI (mnew b x n c)) bearer (nI (d + 1)) draw milks kinds fines pm pb pd pw (upd (upd now 2 (nI (mnew b x n c))) 0 (nI (d + 1))) := by
  obtain ⟨-, -, -, -, -, ⟨q0, q1, q2, q3, hM⟩, -⟩ := id hD
  refine DR_cur hD ⟨⟨_, mn_lt b x n c, rfl⟩, hM.2.1, ⟨d + 1, by omega, rfl⟩, hM.2.2.2⟩ (u_s rfl) ?_ ?_ ?_ (fun i hi => ?_)
  · simp (disch := omega) only [u_n, u_s]; exact q3
  · simp (disch := omega) only [u_n, u_s]
  · simp (disch := omega) only [u_n, u_s]; exact q1
  · simp (disch := omega) only [u_n, u_s]
theorem s8_answers (hD : DR c t w k cows tasters newest known mayBe bearer day draw milks kinds fines pm pb pd pw now) {i mix kd fn d x : Nat} (hi : i < t) (hm : mix < 2 ^ c) (hk : kd < 5) (hf : fn ≤ 9) (hd : d ≤ 9999) (nk : now (14 + i) = nI kd) (nf : now (18 + i) = nI fn) (nd : now 0 = nI d) (hx : x < 2 ^ c) (ex : mayBe = nI x) (b : Bool) {post : (Nat → Int32) → Prop}
    (p : post (upd (upd now 2 (nI (mnew b x (nset kd fn d c (tn milks) mix) c))) 0 (nI (d + 1)))) : wp_X8_answers now (nI i) (nI mix) (bi b) post := by
  obtain ⟨⟨hc, ht, hw, hk'⟩, -, ⟨m4, m13, m22⟩, -, -, ⟨q0, q1, q2, q3, hM⟩, -⟩ := id hD
  obtain ⟨hok, h5⟩ := DR_okM hD
  refine s8_noticedBy hc (by omega) hm hf hk hd m4 h5 hok nk nf nd ?_
  have J : ∀ z : Int32, now 2 &&& z = nI (mnew b x (nset kd fn d c (tn milks) mix) c) → wp_X8_answers_J35 now z (now 2) 2 post := by
    intro z hz
    unfold wp_X8_answers_J35
    rw [hz]
    refine ⟨x_in (by decide), ?_⟩
    have e : ((2 : Int32)).toNatClampNeg = 2 := by decide
    rw [e, u_n (by decide), nd, ← nI_succ]; exact p
  cases b with
  | true => exact q_f (by decide) (J _ (by rw [q0, ex, mn_t hx]))
  | false => exact q_t rfl (J _ (by rw [q0, ex, mn_f hx hc]))
theorem s0_agree (hD : DR c t w k cows tasters newest known mayBe bearer day draw milks kinds fines pm pb pd pw now) {mix kd fn d x : Nat} (hm : mix < 2 ^ c) (hk : kd < 5) (hf : fn ≤ 9) (hd : d ≤ 9999) (ed : day = nI d) (hx : x < 2 ^ c) (ex : mayBe = nI x) (b : Bool) {post : Int32 → Int32 → Prop}
    (p : post (nI (mnew b x (nset kd fn d c (tn milks) mix) c)) (nI (d + 1))) : wp_X0_agreeing cows milks day (nI kd) (nI fn) (nI mix) (bi b) (fun r5 => wp_X0_hear mayBe day r5 post) := by
  obtain ⟨⟨hc, ht, hw, hk'⟩, ⟨e1, e2, e3, e4⟩, -⟩ := id hD
  unfold wp_X0_agreeing wp_X0_hear
  rw [ed, e1, ex]
  refine s0_noticedAs hc hm hf hk hd (DR_okM hD).1 ?_
  cases b with
  | true =>
    refine n_f rfl ?_
    show post (nI x &&& nI _) (nI d + 1)
    rw [mn_t hx, ← nI_succ]; exact p
  | false =>
    refine n_t (by decide) (s0_all hc ?_)
    show post (nI x &&& (nI (2 ^ c - 1) &&& (nI _ ^^^ (-1)))) (nI d + 1)
    rw [mn_g hx hc, ← nI_succ]; exact p
theorem s0_swallow (hD : DR c t w k cows tasters newest known mayBe bearer day draw milks kinds fines pm pb pd pw now) {i mix kd fn d x y : Nat} (hi : i < t) (hm : mix < 2 ^ c) (hk : kd < 5) (hf : fn ≤ 9) (hd : d ≤ 9999) (ek : kinds i = nI kd) (ef : fines i = nI fn) (ed : day = nI d) (hx : x < 2 ^ c) (ex : mayBe = nI x) (hy : y < c) (ey : bearer = nI y) {post : Int32 → Int32 → Int32 → Prop}
    (p : post (bi (nb kd fn d c (tn milks) mix y)) (nI (mnew (nb kd fn d c (tn milks) mix y) x (nset kd fn d c (tn milks) mix) c)) (nI (d + 1))) : wp_X0_swallow cows milks kinds fines mayBe bearer day (nI i) (nI mix) post := by
  obtain ⟨⟨hc, ht, hw, hk'⟩, ⟨e1, e2, e3, e4⟩, -⟩ := id hD
  have hlt := nset_lt kd fn d c (tn milks) mix
  have := pow_le8 hc
  refine s0_noticedBy hD hi hm hk hf hd ek ef ed ?_
  unfold wp_X0_hear
  rw [ey, shb (by omega) (by omega), nset_bit hy, ex, ed, ← nI_succ]
  cases hb : nb kd fn d c (tn milks) mix y with
  | true =>
    rw [hb] at p
    refine n_f rfl ?_
    rw [mn_t hx]; exact p
  | false =>
    rw [hb] at p
    refine n_t (by decide) ?_
    rw [mn_f hx hc]; exact p
end HR
theorem d9999 {d : Nat} (hd : d ≤ 9999) : (nI d < (9999 : Int32) ↔ d < 9999) ∧ (nI d = (9999 : Int32) ↔ d = 9999) := ⟨nI_ltI (by omega) (by decide), nIk d 9999 (by omega) (by decide)⟩
theorem s_eitherb (b : Bool) {post : Int32 → Prop} (p : post 1) : wp_X7_isEither (bi b) post := by
  cases b with
  | true => exact s_either1 p
  | false => exact s_either0 p
theorem s_in01 (b : Bool) {post : Int32 → Prop} (p : post 1) : wp_X8_in (bi b) 0 1 post := by
  cases b with
  | true => exact s_in_ok (by decide) (by decide) p
  | false => exact s_in_ok (by decide) (by decide) p
/-- 0 or 1, or neither: then both sides refuse -/
theorem eith (x : Int32) : (∃ b : Bool, x = bi b) ∨ ((∀ post : Int32 → Prop, post 0 → wp_X7_isEither x post) ∧ ∀ post : Int32 → Prop, post 0 → wp_X8_in x 0 1 post) := by
  rcases rng x 0 1 (by decide) (by decide) with h | ⟨h, h2⟩ | ⟨j, j0, j1, rfl, h, h2⟩
  · refine Or.inr ⟨fun post p => s_either_bad (fun e => ?_) (fun e => ?_) p, fun post p => s_in_lo h p⟩ <;> (rw [e] at h; exact absurd h (by decide))
  · refine Or.inr ⟨fun post p => s_either_bad (fun e => ?_) (fun e => ?_) p, fun post p => s_in_hi h h2 p⟩ <;> (rw [e] at h2; exact absurd h2 (by decide))
  · rcases (show j = 0 ∨ j = 1 by omega) with rfl | rfl
    · exact Or.inl ⟨false, rfl⟩
    · exact Or.inl ⟨true, rfl⟩
set_option maxRecDepth 20000 in
theorem st_answer : Step_answer RR := by
  intro v f g x1 x2 x3 keep
  obtain ⟨⟨c, t, w, k, hD⟩, hK, hT, hS⟩ := id keep
  obtain ⟨⟨hc, ht, hw, hk⟩, ⟨e1, e2, e3, e4⟩, ⟨m4, m13, m22⟩, hmi, hta, ⟨q0, q1, q2, q3, hM⟩, hpast⟩ := id hD
  rcases ix x1 (n := t) (by omega) with h | ⟨i, hi, rfl⟩
  · exact s7t_bad e2 h (q_t rfl (s8_isTaster_bad m13 ht h (q_t rfl ⟨rfl, keep⟩)))
  refine s7t_ok e2 ht hi (q_f ne10 ?_)
  rcases mixc x2 hc with h | ⟨m, m1, m2, rfl⟩
  · exact s7_isMix_bad e1 hc h (q_t rfl (s8_isTaster_ok m13 ht hi (q_f ne10 (s8_isMix_bad m4 hc h (q_t rfl ⟨rfl, keep⟩)))))
  refine s7_isMix_ok e1 hc m1 m2 (q_f ne10 ?_)
  obtain ⟨kd, fn, d, hkd, hfn1, hfn, hd, ek, ef, nk, nf, ed, nd⟩ := tas hD hi
  obtain ⟨x, hx, ex⟩ := hM.1
  rcases eith x3 with ⟨b, rfl⟩ | ⟨hE, hI⟩
  · refine s_eitherb b (n_t ne10 ?_)
    rcases Nat.lt_or_ge d 9999 with h | h
    · refine q_t (by rw [ed]; exact (d9999 hd).1.mpr h) (s_remember hD ?_)
      rw [nI_clamp (by omega), ek, ef]
      refine ⟨vp_in_nI (by omega) (by decide), vp_in_nI (by omega) (by decide), s0_agree hD m2 hkd hfn hd ed hx ex b ?_⟩
      obtain ⟨n4, hD4, hn4⟩ := s_noteE hD
      obtain ⟨-, -, -, -, hta4, ⟨p0, p1, p2, p3, hM4⟩, -⟩ := id hD4
      have hk4 : n4 (14 + i) = nI kd := (hta4 i hi).1.trans ek
      have hf4 : n4 (18 + i) = nI fn := (hta4 i hi).2.1.trans ef
      have hd4 : n4 0 = nI d := p2.trans ed
      refine s8_isTaster_ok m13 ht hi (q_f ne10 (s8_isMix_ok m4 hc m1 m2 (q_f ne10 (s_in01 b (n_t ne10 (n_t (by rw [nd]; exact fun e => absurd ((d9999 hd).2.mp e) (by omega)) (hn4 _ ?_)))))))
      have A := s8_answers hD4 hi m2 hkd hfn hd hk4 hf4 hd4 hx ex b (post := fun n5 => nI (mnew b x (nset kd fn d c (tn (f 0)) m) c) = n5 2 ∧ RR (va_up (va_up (va_up (va_up v 3 (nI ((w + 1) % 8))) 4 (nI (min 8 (k + 1)))) 5 (nI (mnew b x (nset kd fn d c (tn (f 0)) m) c))) 7 (nI (d + 1))) (va_up (va_up (va_up (va_up (va_up f 3 (upd (f 3) ((w + 1) % 8) (v 5))) 4 (upd (f 4) ((w + 1) % 8) (v 6))) 5 (upd (f 5) ((w + 1) % 8) (v 7))) 6 (upd (f 6) ((w + 1) % 8) (v 8))) 29 n5) g) ⟨by rw [u_n (by decide), u_s rfl], ⟨c, t, (w + 1) % 8, min 8 (k + 1), DR_hear hD4 h b x _⟩, hK, hT, hS⟩
      cases b with
      | true => exact n_f rfl A
      | false => exact n_t (by decide) A
    · have hd9 : d = 9999 := by omega
      exact q_f (by rw [ed]; exact fun e => absurd ((d9999 hd).1.mp e) (by omega)) (s8_isTaster_ok m13 ht hi (q_f ne10 (s8_isMix_ok m4 hc m1 m2 (q_f ne10 (s_in01 b (n_t ne10 (n_f (by rw [nd]; exact (d9999 hd).2.mpr hd9) ⟨rfl, keep⟩)))))))
  · exact hE _ (n_f rfl (s8_isTaster_ok m13 ht hi (q_f ne10 (s8_isMix_ok m4 hc m1 m2 (q_f ne10 (hI _ (n_f rfl ⟨rfl, keep⟩)))))))
set_option maxRecDepth 20000 in
theorem st_drink : Step_drink RR := by
  intro v f g x1 x2 keep
  obtain ⟨⟨c, t, w, k, hD⟩, hK, hT, hS⟩ := id keep
  obtain ⟨⟨hc, ht, hw, hk⟩, ⟨e1, e2, e3, e4⟩, ⟨m4, m13, m22⟩, hmi, hta, ⟨q0, q1, q2, q3, hM⟩, hpast⟩ := id hD
  rcases ix x1 (n := t) (by omega) with h | ⟨i, hi, rfl⟩
  · exact s7t_bad e2 h (q_t rfl (s8_isTaster_bad m13 ht h (q_t rfl ⟨rfl, keep⟩)))
  refine s7t_ok e2 ht hi (q_f ne10 ?_)
  rcases mixc x2 hc with h | ⟨m, m1, m2, rfl⟩
  · exact s7_isMix_bad e1 hc h (n_f rfl (s8_isTaster_ok m13 ht hi (q_f ne10 (s8_isMix_bad m4 hc h (n_f rfl ⟨rfl, keep⟩)))))
  refine s7_isMix_ok e1 hc m1 m2 (n_t ne10 ?_)
  obtain ⟨kd, fn, d, hkd, hfn1, hfn, hd, ek, ef, nk, nf, ed, nd⟩ := tas hD hi
  obtain ⟨x, hx, ex⟩ := hM.1
  rcases Nat.lt_or_ge d 9999 with h | h
  · refine q_t (by rw [ed]; exact (d9999 hd).1.mpr h) ?_
    have n9 : ¬ f 29 0 = 9999 := by rw [nd]; exact fun e => absurd ((d9999 hd).2.mp e) (by omega)
    rcases hM.2.1 with hb | ⟨y, hy, ey⟩
    · exact n_f hb (s8_isTaster_ok m13 ht hi (q_f ne10 (s8_isMix_ok m4 hc m1 m2 (n_t ne10 (n_t n9 (n_f (q1.trans hb) ⟨rfl, keep⟩))))))
    · have nb4 : ¬ v 6 = -4 := fun e => nI_pos (n := y) (by omega) (by rw [← ey, e]; decide)
      refine n_t nb4 (s_remember hD (s0_swallow hD hi m2 hkd hfn hd ek ef ed hx ex hy ey ?_))
      obtain ⟨n4, hD4, hn4⟩ := s_noteE hD
      obtain ⟨-, -, ⟨p4, p13, p22⟩, -, hta4, ⟨p0, p1, p2, p3, hM4⟩, -⟩ := id hD4
      obtain ⟨hok4, h54⟩ := DR_okM hD4
      have hk4 : n4 (14 + i) = nI kd := (hta4 i hi).1.trans ek
      have hf4 : n4 (18 + i) = nI fn := (hta4 i hi).2.1.trans ef
      have hd4 : n4 0 = nI d := p2.trans ed
      refine s8_isTaster_ok m13 ht hi (q_f ne10 (s8_isMix_ok m4 hc m1 m2 (n_t ne10 (n_t n9 (n_t (by rw [q1]; exact nb4) (hn4 _ ?_))))))
      rw [show n4 3 = nI y from p1.trans ey]
      refine s8_noticesIn hc (by omega) m2 hfn hkd hd hy p4 h54 hok4 hk4 hf4 hd4 ?_
      refine s8_answers hD4 hi m2 hkd hfn hd hk4 hf4 hd4 hx ex _ ?_
      cases nb kd fn d c (tn (f 0)) m y with
      | true => exact q_f (by decide) ⟨rfl, ⟨c, t, (w + 1) % 8, min 8 (k + 1), DR_hear hD4 h true x _⟩, hK, hT, hS⟩
      | false => exact q_t rfl ⟨rfl, ⟨c, t, (w + 1) % 8, min 8 (k + 1), DR_hear hD4 h false x _⟩, hK, hT, hS⟩
  · have hd9 : d = 9999 := by omega
    exact q_f (by rw [ed]; exact fun e => absurd ((d9999 hd).1.mp e) (by omega)) (s8_isTaster_ok m13 ht hi (q_f ne10 (s8_isMix_ok m4 hc m1 m2 (n_t ne10 (n_f (by rw [nd]; exact (d9999 hd).2.mpr hd9) ⟨rfl, keep⟩)))))
