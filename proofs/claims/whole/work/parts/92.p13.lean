/-! pure part 13: looking ahead; halves -/
def dif (c a b : Nat) : Nat := setTo (fun i => a.testBit i && !b.testBit i) c
theorem dif_lt (c a b : Nat) : dif c a b < 2 ^ c := setTo_lt _ c
theorem dif_bit {c a b i : Nat} (ha : a < 2 ^ c) : (dif c a b).testBit i = (a.testBit i && !b.testBit i) := by
  unfold dif
  rw [setTo_bit]
  cases h : a.testBit i with
  | true => simp [bit_lt ha h]
  | false => simp
theorem and_dif {c a b : Nat} (hc : c ≤ 8) (ha : a < 2 ^ c) : nI a &&& (nI b ^^^ (-1)) = nI (dif c a b) := andn ha hc
theorem one1 : ∀ m, m < 256 → ((nI m &&& (nI m - 1)) = 0 ↔ cnt m < 2) := by decide +kernel
theorem s_one {m : Nat} (hm : m < 256) {post : Int32 → Prop} (p : post (bi (decide (cnt m < 2)))) : wp_X2_isOneAtMost (nI m) post := by
  unfold wp_X2_isOneAtMost
  by_cases h : cnt m < 2
  · rw [decide_eq_true h] at p
    exact n_f ((one1 m hm).mpr h) p
  · rw [decide_eq_false h] at p
    exact n_t (fun q => h ((one1 m hm).mp q)) p
theorem cnt_split {c a b : Nat} (ha : a < 2 ^ c) : cnt (a &&& b) + cnt (dif c a b) = cnt a := by
  unfold cnt
  rw [← fb_ct_or]
  · apply fb_ct_cong
    intro k _
    rw [Nat.testBit_and, dif_bit ha]
    cases a.testBit k <;> cases b.testBit k <;> rfl
  · intro k _ h
    rw [Nat.testBit_and, dif_bit ha] at h
    cases ha : a.testBit k <;> cases hb : b.testBit k <;> rw [ha, hb] at h <;> simp at h
section LA
variable {c t w k : Nat} {cows tasters newest known mayBe bearer day draw : Int32} {milks kinds fines pm pb pd pw now : Nat → Int32}
theorem s_look (hD : DR c t w k cows tasters newest known mayBe bearer day draw milks kinds fines pm pb pd pw now) {i kd fn d x : Nat} (hi : i < t) (hk : kd < 5) (hf : fn ≤ 9) (hd : d ≤ 9999) (ek : kinds i = nI kd) (ef : fines i = nI fn) (ed : day = nI d) (ex : mayBe = nI x) {told : Nat → Int32} {post : Int32 → Int32 → (Nat → Int32) → Prop}
    (p : ∀ told' : Nat → Int32, (∀ m, 1 ≤ m → m < 2 ^ c → told' m = nI (nset kd fn d c (tn milks) m &&& x)) → post (nI x) (nI (2 ^ c - 1)) told') : wp_X2_lookAhead told cows milks kinds fines mayBe day (nI i) post := by
  obtain ⟨⟨hc, ht, hw, hk'⟩, ⟨e1, e2, e3, e4⟩, -⟩ := id hD
  have h2 := pow_le8 hc
  have h0 := Nat.two_pow_pos c
  have L : ∀ (dd m : Nat) (told' : Nat → Int32), m + dd = 2 ^ c → 1 ≤ m → (∀ j, 1 ≤ j → j < m → told' j = nI (nset kd fn d c (tn milks) j &&& x)) → wp_X2_lookAhead_L21 (nI x) (nI (2 ^ c - 1)) cows milks kinds fines day (nI i) post (dd + 1) told' (nI m) := by
    intro dd
    induction dd with
    | zero =>
      intro m told' hm h1 hj
      have : m = 2 ^ c := by omega
      subst this
      exact q_t (nI_lt (by omega) (by omega)) (p told' hj)
    | succ dd ih =>
      intro m told' hm h1 hj
      refine q_f (nI_nlt (by omega) (by omega)) (s0_noticedBy hD hi (by omega) hk hf hd ek ef ed ⟨vp_in_nI (by omega) (by decide), ?_⟩)
      rw [nI_and, nI_clamp (by omega), ← nI_succ]
      refine ih (m + 1) _ (by omega) (by omega) (fun j j1 j2 => ?_)
      by_cases e : j = m
      · rw [u_s e, e]
      · rw [u_n e]; exact hj j j1 (by omega)
  unfold wp_X2_lookAhead
  rw [e1, ex]
  refine s0_all hc ⟨2 ^ c - 1 + 1, ?_⟩
  rw [e1] at L
  exact L (2 ^ c - 1) 1 told (by omega) (by omega) (fun j h1 h2 => absurd h1 (by omega))
theorem s_lay (hD : DR c t w k cows tasters newest known mayBe bearer day draw milks kinds fines pm pb pd pw now) {i kd fn d : Nat} (hi : i < t) (hk : kd < 5) (hf : fn ≤ 9) (hd : d ≤ 9999) (nk : now (14 + i) = nI kd) (nf : now (18 + i) = nI fn) (nd : now 0 = nI d) {told : Nat → Int32} {post : (Nat → Int32) → Prop}
    (p : ∀ told' : Nat → Int32, (∀ m, 1 ≤ m → m < 2 ^ c → told' m = nI (nset kd fn d c (tn milks) m)) → post told') : wp_X8_layNoticed now told (nI i) post := by
  obtain ⟨⟨hc, ht, hw, hk'⟩, ⟨e1, e2, e3, e4⟩, ⟨m4, m13, m22⟩, -⟩ := id hD
  obtain ⟨hok, h5⟩ := DR_okM hD
  have h2 := pow_le8 hc
  have h0 := Nat.two_pow_pos c
  have L : ∀ (dd m : Nat) (told' : Nat → Int32), m + dd = 2 ^ c → 1 ≤ m → (∀ j, 1 ≤ j → j < m → told' j = nI (nset kd fn d c (tn milks) j)) → wp_X8_layNoticed_L2 now (nI i) post (dd + 1) told' (nI m) := by
    intro dd
    induction dd with
    | zero =>
      intro m told' hm h1 hj
      have : m = 2 ^ c := by omega
      subst this
      exact s8_all hc m4 (q_t (nI_lt (by omega) (by omega)) (p told' hj))
    | succ dd ih =>
      intro m told' hm h1 hj
      refine s8_all hc m4 (q_f (nI_nlt (by omega) (by omega)) (s8_noticedBy hc (by omega) (by omega) hf hk hd m4 h5 hok nk nf nd ⟨vp_in_nI (by omega) (by decide), ?_⟩))
      rw [nI_clamp (by omega), ← nI_succ]
      refine ih (m + 1) _ (by omega) (by omega) (fun j j1 j2 => ?_)
      by_cases e : j = m
      · rw [u_s e, e]
      · rw [u_n e]; exact hj j j1 (by omega)
  exact ⟨2 ^ c - 1 + 1, L (2 ^ c - 1) 1 told (by omega) (by omega) (fun j h1 h2 => absurd h1 (by omega))⟩
end LA
/-- the best mix so far, and its greater part -/
def hb (G : Nat → Nat) : Nat → Nat × Nat
  | 0 => (1, G 1)
  | k + 1 => if G (k + 2) < (hb G k).2 then (k + 2, G (k + 2)) else hb G k
theorem hb_ok (G : Nat → Nat) : ∀ k, 1 ≤ (hb G k).1 ∧ (hb G k).1 ≤ k + 1 ∧ (hb G k).2 = G (hb G k).1
  | 0 => ⟨Nat.le_refl _, Nat.le_refl _, rfl⟩
  | k + 1 => by
    have ih := hb_ok G k
    unfold hb
    split
    · exact ⟨by show 1 ≤ k + 2; omega, Nat.le_refl _, rfl⟩
    · exact ⟨ih.1, by omega, ih.2.2⟩
theorem s_gp {c x m : Nat} (hc : c ≤ 8) (hx : x < 2 ^ c) (hm : m < 256) {told : Nat → Int32} {n : Nat} (e : told m = nI (n &&& x)) {post : Int32 → Prop} (p : post (nI (max (cnt (x &&& n)) (cnt (dif c x n))))) : wp_X2_greaterPart (nI x) told (nI m) post := by
  have h2 := pow_le8 hc
  have hl : n &&& x < 2 ^ c := and_lt hx
  have hd : dif c x (n &&& x) = dif c x n := by
    apply Nat.eq_of_testBit_eq
    intro i
    rw [dif_bit hx, dif_bit hx, Nat.testBit_and]
    cases x.testBit i <;> cases n.testBit i <;> rfl
  have hdl := dif_lt c x n
  unfold wp_X2_greaterPart
  rw [nI_clamp (by omega), e, and_dif hc hx, hd]
  refine ⟨vp_in_nI hm (by decide), s_bc (by omega) ⟨vp_in_nI hm (by decide), s_bc (by omega) ?_⟩⟩
  have b1 := cnt_le (n &&& x)
  have b2 := cnt_le (dif c x n)
  rw [Nat.and_comm] at p
  by_cases h : cnt (n &&& x) < cnt (dif c x n)
  · rw [if_pos (nI_lt h (by omega))]
    rw [Nat.max_eq_right (by omega)] at p; exact p
  · rw [if_neg (nI_nlt (by omega) (by omega))]
    rw [Nat.max_eq_left (by omega)] at p; exact p
theorem ev_class {c x : Nat} (hc : c ≤ 8) (hx : x < 2 ^ c) {told : Nat → Int32} {N : Nat → Nat} (ht : ∀ m, 1 ≤ m → m < 2 ^ c → told m = nI (N m &&& x)) (h1 : 1 < 2 ^ c) (h2 : ¬ cnt x < 2) {post : Int32 → Prop}
    (p : post (nI (hb (fun m => max (cnt (x &&& N m)) (cnt (dif c x (N m)))) (2 ^ c - 2)).1)) : wp_X2_evenestMix (nI x) (nI (2 ^ c - 1)) told post := by
  have hp := pow_le8 hc
  obtain ⟨G, hG⟩ : ∃ G : Nat → Nat, G = fun m => max (cnt (x &&& N m)) (cnt (dif c x (N m))) := ⟨_, rfl⟩
  have hGe : ∀ m, max (cnt (x &&& N m)) (cnt (dif c x (N m))) = G m := fun m => by rw [hG]
  have hG8 : ∀ m, G m ≤ 8 := fun m => by
    have b1 := cnt_le (x &&& N m)
    have b2 := cnt_le (dif c x (N m))
    rw [hG]; exact Nat.max_le.mpr ⟨b1, b2⟩
  rw [← hG] at p
  refine s_one (by omega) ?_
  rw [decide_eq_false h2]
  refine q_t rfl ⟨2 ^ c - 2 + 1 + 1, ?_⟩
  have L : ∀ (dd k : Nat), k + dd = 2 ^ c - 2 → wp_X2_evenestMix_L21 (nI x) (nI (2 ^ c - 1)) told post (dd + 1) (nI (hb G k).1) (nI (hb G k).2) (nI (k + 2)) := by
    intro dd
    induction dd with
    | zero =>
      intro k hk
      have : k = 2 ^ c - 2 := by omega
      subst this
      exact q_t (nI_lt (by omega) (by omega)) p
    | succ dd ih =>
      intro k hk
      have b := hG8 (hb G k).1
      rw [← (hb_ok G k).2.2] at b
      have b2 := hG8 (k + 2)
      refine q_f (nI_nlt (by omega) (by omega)) (s_gp hc hx (by omega) (ht (k + 2) (by omega) (by omega)) ?_)
      rw [hGe]
      have e := ih (k + 1) (by omega)
      unfold hb at e
      by_cases h : G (k + 2) < (hb G k).2
      · rw [if_pos h] at e
        refine q_f (nI_ge h (by omega)) (s_gp hc hx (by omega) (ht (k + 2) (by omega) (by omega)) ?_)
        rw [hGe, ← nI_succ]; exact e
      · rw [if_neg h] at e
        refine q_t (nI_le (by omega) (by omega)) ?_
        rw [← nI_succ]; exact e
  have b := hG8 1
  refine q_f (nI_nlt (a := 2 ^ c - 1) (b := 1) (by omega) (by omega)) (s_gp (m := 1) hc hx (by omega) (ht 1 (by omega) (by omega)) ?_)
  rw [hGe]
  refine q_f (nI_ge (b := 9) (by omega) (by decide)) (s_gp (m := 1) hc hx (by omega) (ht 1 (by omega) (by omega)) ?_)
  rw [hGe]
  exact L (2 ^ c - 2) 0 (by omega)
theorem mx8 {a s : Nat} (hs : s ≤ 8) (ha : a ≤ s) {post : Int32 → Prop} (p : post (nI (max a (s - a)))) : (nI a ≤ nI s - nI a → post (nI s - nI a)) ∧ (¬ nI a ≤ nI s - nI a → post (nI a)) := by
  have e : nI s - nI a = nI (s - a) := by
    rw [fa_eq, fb_subI] <;> rw [nI_toInt (by omega), nI_toInt (by omega)] <;> first | (rw [nI_toInt (by omega)]; omega) | omega
  rw [e]
  by_cases h : a ≤ s - a
  · rw [Nat.max_eq_right h] at p
    exact q_t (nI_le h (by omega)) p
  · rw [Nat.max_eq_left (by omega)] at p
    exact q_f (nI_ge (by omega) (by omega)) p
set_option maxRecDepth 20000 in
theorem st_halves : Step_halves RR := by
  intro v f g x1 x2 keep
  obtain ⟨⟨c, t, w, k, hD⟩, hK, hT, hS⟩ := id keep
  obtain ⟨⟨hc, ht, hw, hk⟩, ⟨e1, e2, e3, e4⟩, ⟨m4, m13, m22⟩, hmi, hta, ⟨q0, q1, q2, q3, hM⟩, hpast⟩ := id hD
  obtain ⟨hok, h5⟩ := DR_okM hD
  obtain ⟨x, hx, ex⟩ := hM.1
  have hp := pow_le8 hc
  rcases ix x1 (n := t) (by omega) with h | ⟨i, hi, rfl⟩
  · exact s7t_bad e2 h (q_t rfl (s8_isTaster_bad m13 ht h (q_t rfl ⟨rfl, keep⟩)))
  refine s7t_ok e2 ht hi (q_f ne10 ?_)
  rcases eith x2 with ⟨b, rfl⟩ | ⟨hE, hI⟩
  · obtain ⟨kd, fn, d, hkd, hfn1, hfn, hd, ek, ef, nk, nf, ed, nd⟩ := tas hD hi
    refine s_eitherb b (n_t ne10 (s_look hD hi hkd hfn hd ek ef ed ex (fun told ht' => ?_)))
    by_cases h2 : cnt x < 2
    · unfold wp_X2_evenestMix
      refine s_one (by omega) ?_
      rw [decide_eq_true h2]
      refine q_f (by decide) (q_t rfl (s8_isTaster_ok m13 ht hi (q_f ne10 (s_in01 b (n_t ne10 ?_)))))
      rw [q0, ex]
      exact s_bits (by omega) (q_f (nI_ge (b := 2) h2 (by decide)) ⟨rfl, keep⟩)
    · have h1 : 1 < 2 ^ c := by
        rcases Nat.eq_zero_or_pos c with h | h
        · subst h
          have : x = 0 := by omega
          rw [this] at h2
          exact absurd (by decide) h2
        · exact Nat.one_lt_two_pow (by omega)
      have ho := hb_ok (fun m => max (cnt (x &&& nset kd fn d c (tn (f 0)) m)) (cnt (dif c x (nset kd fn d c (tn (f 0)) m)))) (2 ^ c - 2)
      -- what the model finds
      have M : ∀ P : Int32 → Prop, P (if b then nI (hb (fun m => max (cnt (x &&& nset kd fn d c (tn (f 0)) m)) (cnt (dif c x (nset kd fn d c (tn (f 0)) m)))) (2 ^ c - 2)).2 else nI (hb (fun m => max (cnt (x &&& nset kd fn d c (tn (f 0)) m)) (cnt (dif c x (nset kd fn d c (tn (f 0)) m)))) (2 ^ c - 2)).1) → wp_X8_halves (f 29) (nI i) (bi b) P := by
        intro P p
        obtain ⟨G, hG⟩ : ∃ G : Nat → Nat, G = fun m => max (cnt (x &&& nset kd fn d c (tn (f 0)) m)) (cnt (dif c x (nset kd fn d c (tn (f 0)) m))) := ⟨_, rfl⟩
        have hGe : ∀ m, max (cnt (x &&& nset kd fn d c (tn (f 0)) m)) (cnt x - cnt (x &&& nset kd fn d c (tn (f 0)) m)) = G m := fun m => by
          rw [hG]; dsimp only
          have := cnt_split (b := nset kd fn d c (tn (f 0)) m) hx
          rw [show cnt x - cnt (x &&& nset kd fn d c (tn (f 0)) m) = cnt (dif c x (nset kd fn d c (tn (f 0)) m)) by omega]
        have hG8 : ∀ m, G m ≤ 8 := fun m => by
          have b1 := cnt_le (x &&& nset kd fn d c (tn (f 0)) m)
          have b2 := cnt_le (dif c x (nset kd fn d c (tn (f 0)) m))
          rw [hG]; exact Nat.max_le.mpr ⟨b1, b2⟩
        rw [← hG] at p
        have c8 := cnt_le x
        have B : ∀ (m : Nat) (K : Int32 → Prop), 1 ≤ m → m < 2 ^ c → K (nI (G m)) → wp_X8_noticedBy (f 29) (nI i) (nI m) (fun r5 => wp_X8_bits ((f 29 2) &&& r5) (fun r6 => (r6 ≤ (nI (cnt x) - r6) → K (nI (cnt x) - r6)) ∧ (¬ r6 ≤ (nI (cnt x) - r6) → K r6))) := by
          intro m K m1 m2 hK
          refine s8_noticedBy hc (by omega) m2 hfn hkd hd m4 h5 hok nk nf nd ?_
          rw [q0, ex, nI_and]
          have hlt : x &&& nset kd fn d c (tn (f 0)) m < 2 ^ c := and_lt (nset_lt kd fn d c (tn (f 0)) m)
          refine s_bits (by omega) ?_
          have := cnt_split (b := nset kd fn d c (tn (f 0)) m) hx
          refine mx8 c8 (by omega) ?_
          rw [hGe]; exact hK
        refine s8_isTaster_ok m13 ht hi (q_f ne10 (s_in01 b (n_t ne10 ?_)))
        rw [q0, ex]
        refine s_bits (by omega) (q_t (nI_le (a := 2) (by omega) (by omega)) ⟨2 ^ c - 2 + 1 + 1, ?_⟩)
        have L : ∀ (dd k : Nat), k + dd = 2 ^ c - 2 → wp_X8_halves_L48 (f 29) (nI i) (bi b) (nI (cnt x)) P (dd + 1) (nI (hb G k).1) (nI (hb G k).2) (nI (k + 2)) := by
          intro dd
          induction dd with
          | zero =>
            intro k hk
            have : k = 2 ^ c - 2 := by omega
            subst this
            refine s8_all hc m4 (q_t (nI_lt (by omega) (by omega)) ?_)
            cases b with
            | true => exact n_t (by decide) p
            | false => exact n_f rfl p
          | succ dd ih =>
            intro k hk
            have b1 := hG8 (hb G k).1
            rw [← (hb_ok G k).2.2] at b1
            have b2 := hG8 (k + 2)
            have e := ih (k + 1) (by omega)
            unfold hb at e
            refine s8_all hc m4 (q_f (nI_nlt (by omega) (by omega)) (B (k + 2) (fun z => wp_X8_halves_J100 _ _ _ z _ _) (by omega) (by omega) ?_))
            unfold wp_X8_halves_J100 wp_X8_halves_J116
            rw [← nI_succ]
            by_cases h : G (k + 2) < (hb G k).2
            · rw [if_pos h] at e
              exact q_f (nI_ge h (by omega)) (q_f (nI_ge h (by omega)) e)
            · rw [if_neg h] at e
              exact q_t (nI_le (by omega) (by omega)) (q_t (nI_le (by omega) (by omega)) e)
        have b1 := hG8 1
        refine s8_all hc m4 (q_f (nI_nlt (b := 1) (by omega) (by omega)) (B 1 (fun z => wp_X8_halves_J100 _ _ _ z _ _) (by omega) (by omega) ?_))
        exact q_f (nI_ge (b := 99) (by omega) (by decide)) (q_f (nI_ge (b := 99) (by omega) (by decide)) (L (2 ^ c - 2) 0 (by omega)))
      refine ev_class (N := nset kd fn d c (tn (f 0))) hc hx ht' h1 h2 ?_
      have hn4 : ¬ nI (hb (fun m => max (cnt (x &&& nset kd fn d c (tn (f 0)) m)) (cnt (dif c x (nset kd fn d c (tn (f 0)) m)))) (2 ^ c - 2)).1 = -4 := fun e => nI_pos (n := (hb (fun m => max (cnt (x &&& nset kd fn d c (tn (f 0)) m)) (cnt (dif c x (nset kd fn d c (tn (f 0)) m)))) (2 ^ c - 2)).1) (by omega) (by rw [e]; decide)
      refine q_f hn4 ?_
      cases b with
      | true =>
        refine n_t (by decide) (s_gp hc hx (by omega) (ht' _ (by omega) (by omega)) (M _ ⟨?_, keep⟩))
        rw [if_pos rfl, ho.2.2]
      | false =>
        refine n_f rfl (M _ ⟨?_, keep⟩)
        rw [if_neg (by decide)]
  · exact hE _ (n_f rfl (s8_isTaster_ok m13 ht hi (q_f ne10 (hI _ (n_f rfl ⟨rfl, keep⟩)))))
