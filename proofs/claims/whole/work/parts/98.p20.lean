/-! pure part 20: herd, the step -/
section HF
variable {n : Nat} {lt : Nat → Nat} {letters tape : Nat → Int32} {dr : Int32}
theorem s_stay8 (hn : n ≤ 40) (hl : ∀ i, i < n → lt i ≤ 126 ∧ letters i = nI (lt i) ∧ tape i = nI (lt i)) {q : Nat} (hq : NBl n lt q) {post : Int32 → Int32 → Prop} (p : post (nI (Ltr n lt q)) (nI q)) : wp_X8_peek (nI n) (nI q) tape post := by
  obtain ⟨a, b⟩ := s_at hn hl hq
  refine ⟨1, ⟨fun _ => b post p, fun h => ?_⟩⟩
  have hlt : q < n := by
    rcases Nat.lt_or_ge q n with z | z
    · exact z
    · exact absurd (nI_le z (by have := hq.1; omega)) h
  obtain ⟨a1, a2, a3⟩ := hl q hlt
  have hne : ¬ nI (lt q) = (32 : Int32) := fun e => hq.2 hlt ((nIk (lt q) 32 (by omega) (by decide)).mp e)
  rw [nI_clamp (by omega), a3]
  exact ⟨vp_in_nI (by omega) (by decide), n_t hne (b post p)⟩
theorem simH (hn : n ≤ 40) (hl : ∀ i, i < n → lt i ≤ 126 ∧ letters i = nI (lt i) ∧ tape i = nI (lt i)) {mk ks fs rd : Nat → Int32} (hR : Rd 0 (-4) mk 0 ks fs dr rd) :
    ∃ (r : Bool) (p' m' t' : Nat) (B' num' : Int32) (mk' ks' fs' rd' : Nat → Int32), (r = true → 0 < m' ∧ Rd m' B' mk' t' ks' fs' dr rd') ∧
      (∀ post : Int32 → Int32 → Int32 → Int32 → Int32 → (Nat → Int32) → (Nat → Int32) → (Nat → Int32) → Prop, post (bi r) (nI p') (nI m') B' (nI t') mk' ks' fs' → wp_X5_readHerd (nI n) letters mk ks fs post) ∧
      (∀ post : Int32 → Int32 → Int32 → (Nat → Int32) → Prop, post (bi r) (nI p') num' rd' → wp_X8_isHerd (nI n) 0 tape rd post) := by
  obtain ⟨q, hpq, hnb, ha7, ha8⟩ := s_ah hn hl (p := 0) (by omega)
  have hL := Ltr_le (fun i hi => (hl i hi).1) q
  rcases s_dig hL with ⟨z, z1, z9, ez, hpos, hd7, hd8⟩ | ⟨hd7, hd8⟩
  · obtain ⟨m1, p1, B1, num1, mk1, rd1, k1, k2, k3, k7, k8⟩ := simS hn hl (simC hn hl 7) (m := 0) (d := 7) (by decide) (Ltr_in hpos) z1 z9 hR
    have hm8 : m1 ≤ 8 := k3.1.1
    have nz : ¬ nI m1 = 0 := nI_ne0 (by omega) (by omega)
    obtain ⟨q2, h12, hnb2, hb7, hb8⟩ := s_ah hn hl k2
    -- up to the sign behind the cows
    have C : ∀ post : Int32 → Int32 → Int32 → Int32 → Int32 → (Nat → Int32) → (Nat → Int32) → (Nat → Int32) → Prop, ((¬ nI (Ltr n lt q2) = (59 : Int32) → wp_X5_readHerd_J62 (nI n) (nI q2) (nI m1) B1 (0 : Int32) letters mk1 ks fs post) ∧ (nI (Ltr n lt q2) = (59 : Int32) → wp_X5_readTasters (nI n) (nI (q2 + 1)) (0 : Int32) letters ks fs (fun r3 t_place_3 t_tasters_3 t_kinds_3 t_fines_3 => (¬ r3 = 0 → wp_X5_readHerd_J62 (nI n) t_place_3 (nI m1) B1 t_tasters_3 letters mk1 t_kinds_3 t_fines_3 post) ∧ (r3 = 0 → post (0 : Int32) t_place_3 (nI m1) B1 t_tasters_3 mk1 t_kinds_3 t_fines_3)))) → wp_X5_readHerd (nI n) letters mk ks fs post := by
      intro post h
      refine ⟨7 + 1 + 1, stepC (m := 0) (p := 0) (d := 7) hn hl (by decide) hnb ez ha7 hd7 (k7 _ (n_t nz (hb7 _ ?_)))⟩
      rw [ix1]; exact h
    have D : ∀ post : Int32 → Int32 → Int32 → (Nat → Int32) → Prop, ((¬ nI (Ltr n lt q2) = (59 : Int32) → ∃ f, wp_X8_isHerd_L16 (nI n) tape post f (nI q2) num1 rd1 0) ∧ (nI (Ltr n lt q2) = (59 : Int32) → ∃ f, wp_X8_isHerd_L16 (nI n) tape post f (nI (q2 + 1)) num1 rd1 1)) → wp_X8_isHerd (nI n) 0 tape rd post := by
      intro post h
      refine ha8 _ (hd8 _ (n_t ne10 (n_t ne10 ⟨7 + 1 + 1, ?_⟩)))
      rw [ez, ix1]
      refine k8 _ (n_t ne10 (hb8 _ ⟨fun e => ?_, fun e => h.1 e⟩))
      rw [ix1]; exact h.2 e
    by_cases h59 : nI (Ltr n lt q2) = (59 : Int32)
    · have hqn : q2 < n := by
        rcases Nat.lt_or_ge q2 n with y | y
        · exact y
        · unfold Ltr at h59; rw [if_neg (by omega)] at h59; exact absurd h59 (by decide)
      rcases simI (num := num1) hn hl (p := q2 + 1) (t := 0) (by decide) (by omega) k3 with ⟨p3, num3, h7, h8⟩ | ⟨p3, kk, zz, hp3, hR3, h7, h8⟩
      · exact ⟨false, p3, m1, 0, B1, num3, mk1, ks, fs, rd1, fun e => (by cases e), fun post w => C post (n_f h59 ⟨5, q_f (by decide) (q_t (by decide) (h7 _ _ _ (n_f rfl w)))⟩), fun post w => D post (n_f h59 ⟨1, h8 0 post w⟩)⟩
      · obtain ⟨r, p4, t4, num4, ks4, fs4, rd4, i1, i2, i7, i8⟩ := simT hn hl 3 1 p3 (nI zz) _ _ _ (by decide) (by decide) hp3 hR3
        cases r with
        | false =>
          exact ⟨false, p4, m1, t4, B1, num4, mk1, ks4, fs4, rd4, fun e => (by cases e), fun post w => C post (n_f h59 ⟨5, q_f (by decide) (q_t (by decide) (h7 _ _ _ (i7 _ (n_f rfl w))))⟩), fun post w => D post (n_f h59 ⟨5, h8 4 post (i8 post (fun _ => w) (fun e => (by cases e)))⟩)⟩
        | true =>
          obtain ⟨q5, h45, hnb5, hc7, hc8⟩ := s_ah hn hl (i1 rfl)
          have hL5 := Ltr_le (fun i hi => (hl i hi).1) q5
          by_cases h0 : nI (Ltr n lt q5) = 0
          · exact ⟨true, q5, m1, t4, B1, num4, mk1, ks4, fs4, rd4, fun _ => ⟨by omega, i2⟩, fun post w => C post (n_f h59 ⟨5, q_f (by decide) (q_t (by decide) (h7 _ _ _ (i7 _ (n_t ne10 (hc7 _ (n_f h0 w))))))⟩), fun post w => D post (n_f h59 ⟨5, h8 4 post (i8 post (fun e => (by cases e)) (fun _ => hc8 _ (n_f h0 w)))⟩)⟩
          · exact ⟨false, q5, m1, t4, B1, num4, mk1, ks4, fs4, rd4, fun e => (by cases e), fun post w => C post (n_f h59 ⟨5, q_f (by decide) (q_t (by decide) (h7 _ _ _ (i7 _ (n_t ne10 (hc7 _ (n_t h0 w))))))⟩), fun post w => D post (n_f h59 ⟨5, h8 4 post (i8 post (fun e => (by cases e)) (fun _ => hc8 _ (n_t h0 w)))⟩)⟩
    · by_cases h0 : nI (Ltr n lt q2) = 0
      · exact ⟨true, q2, m1, 0, B1, num1, mk1, ks, fs, rd1, fun _ => ⟨by omega, k3⟩, fun post w => C post (n_t h59 (s_stay hn hl hnb2 (n_f h0 w))), fun post w => D post (n_t h59 ⟨1, q_t rfl (s_stay8 hn hl hnb2 (n_f h0 w))⟩)⟩
      · exact ⟨false, q2, m1, 0, B1, num1, mk1, ks, fs, rd1, fun e => (by cases e), fun post w => C post (n_t h59 (s_stay hn hl hnb2 (n_t h0 w))), fun post w => D post (n_t h59 ⟨1, q_t rfl (s_stay8 hn hl hnb2 (n_t h0 w))⟩)⟩
  · refine ⟨false, q, 0, 0, -4, nI (Ltr n lt q) - (48 : Int32), mk, ks, fs, rd, fun e => (by cases e), fun post w => ⟨9, q_f (by decide) (ha7 _ (hd7 _ (q_t rfl (n_f rfl w))))⟩, fun post w => ha8 _ (hd8 _ (n_f rfl (n_f rfl (n_f rfl w))))⟩
end HF
theorem s_settle {milks kinds fines mk ks fs : Nat → Int32} {m t : Nat} {B : Int32} (hm : m ≤ 8) (ht : t ≤ 4) {post : Int32 → Int32 → Int32 → (Nat → Int32) → (Nat → Int32) → (Nat → Int32) → Int32 → Int32 → Int32 → Prop}
    (p : ∀ milks' kinds' fines' : Nat → Int32, (∀ i, i < m → milks' i = mk i) → (∀ i, i < t → kinds' i = ks i ∧ fines' i = fs i) → post (nI m) (nI t) 0 milks' kinds' fines' (nI (2 ^ m - 1)) B 0) : wp_X0_settle milks kinds fines (nI m) B (nI t) mk ks fs post := by
  have L7 : ∀ (d k : Nat) (mi : Nat → Int32), k + d = m → (∀ i, i < k → mi i = mk i) → wp_X0_settle_L7 kinds fines (nI m) B (nI t) mk ks fs post (d + 1) (nI k) mi (nI k) := by
    intro d
    induction d with
    | zero =>
      intro k mi hk hmi
      have : k = m := by omega
      subst this
      refine q_t (nI_le (Nat.le_refl _) (by omega)) ⟨t + 1, ?_⟩
      have L38 : ∀ (d j : Nat) (kk ff : Nat → Int32), j + d = t → (∀ i, i < j → kk i = ks i ∧ ff i = fs i) → wp_X0_settle_L38 (nI k) mi B (nI t) ks fs post (d + 1) (nI j) kk ff (nI j) := by
        intro d
        induction d with
        | zero =>
          intro j kk ff hj hkf
          have : j = t := by omega
          subst this
          exact q_t (nI_le (Nat.le_refl _) (by omega)) (s0_all hm (p mi kk ff hmi hkf))
        | succ d ih =>
          intro j kk ff hj hkf
          have v4 : vp_in (nI j) 4 := vp_in_nI (by omega) (by decide)
          refine q_f (nI_ge (by omega) (by omega)) ⟨v4, v4, v4, v4, ?_⟩
          rw [nI_clamp (by omega), ix1]
          refine ih (j + 1) _ _ (by omega) (fun i hi => ?_)
          by_cases e : i = j
          · rw [u_s e, u_s e, e]; exact ⟨rfl, rfl⟩
          · rw [u_n e, u_n e]; exact hkf i (by omega)
      exact L38 t 0 kinds fines (by omega) (fun i hi => absurd hi (by omega))
    | succ d ih =>
      intro k mi hk hmi
      have v8 : vp_in (nI k) 8 := vp_in_nI (by omega) (by decide)
      refine q_f (nI_ge (by omega) (by omega)) ⟨v8, v8, ?_⟩
      rw [nI_clamp (by omega), ix1]
      refine ih (k + 1) _ (by omega) (fun i hi => ?_)
      by_cases e : i = k
      · rw [u_s e, e]
      · rw [u_n e]; exact hmi i (by omega)
  exact ⟨m + 1, L7 m 0 milks (by omega) (fun i hi => absurd hi (by omega))⟩
theorem s_herdZ {letters : Int32} {tape now rd : Nat → Int32} {post : Int32 → Int32 → Int32 → Int32 → (Nat → Int32) → (Nat → Int32) → Prop}
    (p : ∀ rd' : Nat → Int32, (∀ y, y < 55 → rd' y = 0) → wp_X8_isHerd letters (0 : Int32) tape (upd (upd rd' 1 (now 1)) 3 (-4 : Int32)) (fun r1 m_position_1 m_number_1 m_read_1 => (¬ r1 = 0 → wp_X8_bring m_read_1 now (0 : Int32) (0 : Int32) (55 : Int32) (fun v2_2 => post (v2_2 4) (0 : Int32) m_position_1 m_number_1 v2_2 m_read_1)) ∧ (r1 = 0 → post ((-20 : Int32) - m_position_1) (0 : Int32) m_position_1 m_number_1 now m_read_1))) : wp_X8_herd letters tape now rd post := by
  have L : ∀ (d k : Nat) (rd' : Nat → Int32), k + d = 55 → (∀ y, y < k → rd' y = 0) → wp_X8_herd_L2 letters tape now post (d + 1) rd' (nI k) := by
    intro d
    induction d with
    | zero =>
      intro k rd' hk hz
      have : k = 55 := by omega
      subst this
      exact q_t (by decide) (p rd' hz)
    | succ d ih =>
      intro k rd' hk hz
      refine q_f (nI_ge (a := k) (b := 55) (by omega) (by decide)) ⟨vp_in_nI (by omega) (by decide), ?_⟩
      rw [nI_clamp (by omega), ← nI_succ]
      refine ih (k + 1) _ (by omega) (fun y hy => ?_)
      by_cases e : y = k
      · rw [u_s e]
      · rw [u_n e]; exact hz y (by omega)
  exact ⟨56, L 55 0 rd (by omega) (fun y hy => absurd hy (by omega))⟩
set_option maxRecDepth 20000 in
theorem st_herd : Step_herd RR := by
  intro v f g keep
  obtain ⟨⟨c, t, w, k, hD⟩, hK, hT, hS⟩ := id keep
  obtain ⟨⟨hc, ht, hw, hk⟩, ⟨e1, e2, e3, e4⟩, ⟨m4, m13, m22⟩, hmi, hta, ⟨q0, q1, q2, q3, hM⟩, hpast⟩ := id hD
  obtain ⟨n, hn, z1, z2, hlt⟩ := id hT
  have hl : ∀ i, i < n → tn (f 14) i ≤ 126 ∧ f 14 i = nI (tn (f 14) i) ∧ f 28 i = nI (tn (f 14) i) := by
    intro i hi
    obtain ⟨a, x, x1, x2, ex⟩ := hlt i hi
    have : tn (f 14) i = x := by unfold tn; rw [ex, nI_clamp (by omega)]
    rw [this]; exact ⟨x2, ex, a.trans ex⟩
  -- what the parsers come to does not hang on the zeros behind the read state
  unfold wp_X7_herd
  rw [z1, z2]
  have ZR : ∀ rd' : Nat → Int32, (∀ y, y < 55 → rd' y = 0) → Rd 0 (-4) (f 15) 0 (f 16) (f 17) (v 8) (upd (upd rd' 1 (f 29 1)) 3 (-4 : Int32)) := by
    intro rd' hz
    refine ⟨⟨by decide, by decide⟩, ⟨?_, u_s rfl, ?_, ?_, ?_, ?_⟩, Or.inl rfl, fun i hi => absurd hi (by omega), fun h => absurd h (by omega), fun i hi => absurd hi (by omega)⟩
    · simp (disch := omega) only [u_n, u_s]; exact hz 4 (by decide)
    · simp (disch := omega) only [u_n, u_s]; exact hz 0 (by decide)
    · simp (disch := omega) only [u_n, u_s]; exact q3
    · simp (disch := omega) only [u_n, u_s]; exact hz 13 (by decide)
    · simp (disch := omega) only [u_n, u_s]; exact hz 22 (by decide)
  have T0 : TR 0 (f 14) 0 (f 28) := ⟨0, by decide, rfl, rfl, fun i hi => absurd hi (by omega)⟩
  -- the model's side is asked for one read state; it is fixed first
  obtain ⟨rz, hrz, hZ⟩ : ∃ rz : Nat → Int32, (∀ y, y < 55 → rz y = 0) ∧ ∀ post : Int32 → Int32 → Int32 → Int32 → (Nat → Int32) → (Nat → Int32) → Prop, wp_X8_isHerd (nI n) (0 : Int32) (f 28) (upd (upd rz 1 (f 29 1)) 3 (-4 : Int32)) (fun r1 m_position_1 m_number_1 m_read_1 => (¬ r1 = 0 → wp_X8_bring m_read_1 (f 29) (0 : Int32) (0 : Int32) (55 : Int32) (fun v2_2 => post (v2_2 4) (0 : Int32) m_position_1 m_number_1 v2_2 m_read_1)) ∧ (r1 = 0 → post ((-20 : Int32) - m_position_1) (0 : Int32) m_position_1 m_number_1 (f 29) m_read_1)) → wp_X8_herd (nI n) (f 28) (f 29) (f 31) post := by
    have L : ∀ (d k : Nat) (rd' : Nat → Int32), k + d = 55 → (∀ y, y < k → rd' y = 0) → ∃ rz : Nat → Int32, (∀ y, y < 55 → rz y = 0) ∧ ∀ post : Int32 → Int32 → Int32 → Int32 → (Nat → Int32) → (Nat → Int32) → Prop, wp_X8_isHerd (nI n) (0 : Int32) (f 28) (upd (upd rz 1 (f 29 1)) 3 (-4 : Int32)) (fun r1 m_position_1 m_number_1 m_read_1 => (¬ r1 = 0 → wp_X8_bring m_read_1 (f 29) (0 : Int32) (0 : Int32) (55 : Int32) (fun v2_2 => post (v2_2 4) (0 : Int32) m_position_1 m_number_1 v2_2 m_read_1)) ∧ (r1 = 0 → post ((-20 : Int32) - m_position_1) (0 : Int32) m_position_1 m_number_1 (f 29) m_read_1)) → wp_X8_herd_L2 (nI n) (f 28) (f 29) post (d + 1) rd' (nI k) := by
      intro d
      induction d with
      | zero =>
        intro k rd' hk hz
        have : k = 55 := by omega
        subst this
        exact ⟨rd', hz, fun post h => q_t (by decide) h⟩
      | succ d ih =>
        intro k rd' hk hz
        obtain ⟨rz, h1, h2⟩ := ih (k + 1) (upd rd' k 0) (by omega) (fun y hy => by
          by_cases e : y = k
          · rw [u_s e]
          · rw [u_n e]; exact hz y (by omega))
        refine ⟨rz, h1, fun post h => q_f (nI_ge (a := k) (b := 55) (by omega) (by decide)) ⟨vp_in_nI (by omega) (by decide), ?_⟩⟩
        rw [nI_clamp (by omega), ← nI_succ]
        exact h2 post h
    obtain ⟨rz, h1, h2⟩ := L 55 0 (f 31) (by omega) (fun y hy => absurd hy (by omega))
    exact ⟨rz, h1, fun post h => ⟨56, h2 post h⟩⟩
  obtain ⟨r, p', m', t', B', num', mk', ks', fs', rd', hr, h7, h8⟩ := simH hn hl (ZR rz hrz)
  refine h7 _ ?_
  cases r with
  | false =>
    refine n_f rfl (hZ _ (h8 _ (n_f rfl ⟨rfl, ⟨c, t, w, k, hD⟩, hK, T0, hS⟩)))
  | true =>
    obtain ⟨hpos, hR⟩ := hr rfl
    obtain ⟨⟨hm8, ht4⟩, ⟨a4, a3, a0, a1, a13, a22⟩, hB, hmk, hr2, htt⟩ := hR
    refine n_t ne10 (s_settle hm8 ht4 (fun milks' kinds' fines' hmi' hkf' => hZ _ (h8 _ (n_t ne10 (s_bring (i := 0) (j := 0) (n := 55) (by decide) (by decide) ?_)))))
    have BR : ∀ y, y < 55 → fb_put (f 29) (fun x => rd' (0 + x)) 0 55 y = rd' y := by
      intro y hy
      rw [fb_put_in (by omega) (by omega)]; congr 1; omega
    have hDn : DR m' t' w 0 (nI m') (nI t') (v 3) 0 (nI (2 ^ m' - 1)) B' 0 (v 8) milks' kinds' fines' (f 3) (f 4) (f 5) (f 6) (fb_put (f 29) (fun x => rd' (0 + x)) 0 55) := by
      refine ⟨⟨hm8, ht4, hw, by decide⟩, ⟨rfl, rfl, e3, rfl⟩, ⟨?_, ?_, ?_⟩, fun i hi => ?_, fun i hi => ?_, ⟨?_, ?_, ?_, ?_, ⟨2 ^ m' - 1, pow_pos2 m', rfl⟩, hB, ⟨0, by decide, rfl⟩, hM.2.2.2⟩, fun j hj => absurd hj (by omega)⟩
      · rw [BR _ (by decide)]; exact a4
      · rw [BR _ (by decide)]; exact a13
      · rw [BR _ (by decide)]; exact a22
      · rw [BR _ (by omega), hmi' i hi]; exact hmk i hi
      · rw [BR _ (by omega), BR _ (by omega), (hkf' i hi).1, (hkf' i hi).2]; exact htt i hi
      · rw [BR _ (by decide)]; exact hr2 hpos
      · rw [BR _ (by decide)]; exact a3
      · rw [BR _ (by decide)]; exact a0
      · rw [BR _ (by decide)]; exact a1
    refine ⟨?_, ⟨m', t', w, 0, hDn⟩, hK, T0, hS⟩
    rw [BR _ (by decide)]; exact a4.symm
