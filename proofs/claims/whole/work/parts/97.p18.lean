/-! pure part 18: the row of cows to try one by one -/
def Rb (mk : Nat → Nat) (a b : Nat) : Prop := mk b < mk a ∨ (mk a = mk b ∧ a < b)
def Srt (mk : Nat → Nat) (x c' sz : Nat) (o : Nat → Nat) : Prop :=
  (∀ j, j < sz → o j < c' ∧ x.testBit (o j) = true) ∧ (∀ i, i < c' → x.testBit i = true → ∃ j, j < sz ∧ o j = i) ∧ (∀ j k, j < k → k < sz → Rb mk (o j) (o k))
def OrdF (mk : Nat → Nat) (x c n : Nat) (F : Nat → Nat) : Prop :=
  (∀ j, j < n → F j < c ∧ x.testBit (F j) = true) ∧ (∀ i, i < c → x.testBit i = true → ∃ j, j < n ∧ F j = i) ∧ (∀ k j, k < j → j < n → ¬ F k = F j ∧ (k + 2 < n → Rb mk (F k) (F j)) ∧ (n ≤ k + 2 → F k < F j))
theorem nI_m1 (n : Nat) : nI (n + 1) + (-1) = nI n := by
  rw [nI_succ, Int32.add_assoc]
  exact Int32.add_zero _
theorem cnt_c {c x : Nat} (hc : c ≤ 8) (hx : x < 2 ^ c) : cnt x = fb_ct (fun k => x.testBit k) c := by
  unfold cnt
  have e := fb_ct_split (fun k => x.testBit k) c (8 - c)
  rw [show c + (8 - c) = 8 by omega] at e
  have z : fb_ct (fun k => x.testBit (c + k)) (8 - c) = 0 := fb_ct_zero.mpr (fun k hk => by
    cases h : x.testBit (c + k) with
    | false => rfl
    | true => exact absurd (bit_lt hx h) (by omega))
  rw [e, z, Nat.add_zero]
theorem s_insert {milks : Nat → Int32} {c x c' sz : Nat} {o : Nat → Nat} (hc : c ≤ 8) (hok : okM c milks) (hc' : c' < c) (hsz : sz ≤ c') (hS : Srt (tn milks) x c' sz o) (hb : x.testBit c' = true) :
    ∃ o', Srt (tn milks) x (c' + 1) (sz + 1) o' ∧ ∀ (ord : Nat → Int32), (∀ j, j < sz → ord j = nI (o j)) → ∀ post : Int32 → (Nat → Int32) → Prop, (∀ ord' : Nat → Int32, (∀ j, j < sz + 1 → ord' j = nI (o' j)) → post (nI (sz + 1)) ord') → wp_X6_insert (nI sz) ord milks (nI c') post := by
  obtain ⟨h1, h2, h3⟩ := hS
  obtain ⟨p, ⟨hp, hp2⟩, hmin⟩ := first_ex (p := fun p => p ≤ sz ∧ ∀ k, p ≤ k → k < sz → tn milks (o k) < tn milks c') ⟨sz, Nat.le_refl _, fun k a b => absurd a (by omega)⟩
  have hp0 : p = 0 ∨ tn milks c' ≤ tn milks (o (p - 1)) := by
    rcases Nat.eq_zero_or_pos p with z | z
    · exact Or.inl z
    · right
      rcases Nat.lt_or_ge (tn milks (o (p - 1))) (tn milks c') with q | q
      · refine absurd ⟨by omega, fun k a b => ?_⟩ (hmin (p - 1) (by omega))
        by_cases e : k = p - 1
        · rw [e]; exact q
        · exact hp2 k (by omega) b
      · exact q
  have hlow : ∀ k, k < p → tn milks c' ≤ tn milks (o k) := by
    intro k hk
    rcases hp0 with z | z
    · omega
    · by_cases e : k = p - 1
      · rw [e]; exact z
      · rcases h3 k (p - 1) (by omega) (by omega) with q | q <;> omega
  refine ⟨fun k => if k < p then o k else if k = p then c' else o (k - 1), ⟨fun j hj => ?_, fun i hi hbi => ?_, fun j k hjk hk => ?_⟩, fun ord hord post pp => ?_⟩
  · dsimp only
    by_cases a : j < p
    · rw [if_pos a]; exact ⟨by have := (h1 j (by omega)).1; omega, (h1 j (by omega)).2⟩
    · rw [if_neg a]
      by_cases e : j = p
      · rw [if_pos e]; exact ⟨by omega, hb⟩
      · rw [if_neg e]; exact ⟨by have := (h1 (j - 1) (by omega)).1; omega, (h1 (j - 1) (by omega)).2⟩
  · by_cases e : i = c'
    · refine ⟨p, by omega, ?_⟩
      dsimp only
      rw [if_neg (by omega), if_pos rfl, e]
    · obtain ⟨j, hj, ej⟩ := h2 i (by omega) hbi
      by_cases a : j < p
      · exact ⟨j, by omega, by dsimp only; rw [if_pos a]; exact ej⟩
      · exact ⟨j + 1, by omega, by dsimp only; rw [if_neg (by omega), if_neg (by omega)]; exact ej⟩
  · dsimp only
    by_cases a : k < p
    · rw [if_pos a, if_pos (show j < p by omega)]; exact h3 j k hjk (by omega)
    · rw [if_neg a]
      by_cases e : k = p
      · rw [if_pos e, if_pos (show j < p by omega)]
        have q1 := hlow j (by omega)
        have q2 := (h1 j (by omega)).1
        rcases Nat.lt_or_ge (tn milks c') (tn milks (o j)) with z | z
        · exact Or.inl z
        · exact Or.inr ⟨by omega, q2⟩
      · rw [if_neg e]
        by_cases b : j < p
        · rw [if_pos b]; exact h3 j (k - 1) (by omega) (by omega)
        · rw [if_neg b]
          by_cases e2 : j = p
          · rw [if_pos e2]; exact Or.inl (hp2 (k - 1) (by omega) (by omega))
          · rw [if_neg e2]; exact h3 (j - 1) (k - 1) (by omega) (by omega)
  · have hq := hok c' hc'
    have J : ∀ (ord : Nat → Int32), (∀ k, k < p → ord k = nI (o k)) → (∀ k, p ≤ k → k < sz → ord (k + 1) = nI (o k)) → wp_X6_insert_J51 (nI sz) ord (nI c') (nI p) post := by
      intro ord a b
      unfold wp_X6_insert_J51
      rw [nI_clamp (by omega), show nI sz + (1 : Int32) = nI (sz + 1) from (nI_succ sz).symm]
      refine ⟨vp_in_nI (by omega) (by decide), pp _ (fun j hj => ?_)⟩
      dsimp only
      by_cases e : j = p
      · rw [u_s e, if_neg (by omega), if_pos e]
      · rw [u_n e]
        by_cases q : j < p
        · rw [if_pos q]; exact a j q
        · rw [if_neg q, if_neg e]
          have := b (j - 1) (by omega) (by omega)
          rw [show j - 1 + 1 = j by omega] at this
          exact this
    have L : ∀ (d y : Nat) (ord : Nat → Int32), y = p + d → y ≤ sz → (∀ k, k < y → ord k = nI (o k)) → (∀ k, y ≤ k → k < sz → ord (k + 1) = nI (o k)) → wp_X6_insert_L5 (nI sz) milks (nI c') post (d + 1) ord (nI y) := by
      intro d
      induction d with
      | zero =>
        intro y ord hy hys a b
        have : y = p := by omega
        subst this
        rcases Nat.eq_zero_or_pos y with z | z
        · refine q_t (by rw [z]; decide) (J ord a b)
        · obtain ⟨y', rfl⟩ : ∃ y', y = y' + 1 := ⟨y - 1, by omega⟩
          have hoy := (h1 y' (by omega)).1
          have hmo := hok (o y') (by omega)
          refine q_f (nI_nle z (by omega)) ?_
          rw [nI_pred, nI_clamp (n := y') (by omega), a y' (by omega), nI_clamp (n := o y') (by omega), nI_clamp (n := c') (by omega), hq.1, hmo.1]
          have hle : tn milks c' ≤ tn milks (o y') := hlow y' (by omega)
          exact ⟨vp_in_nI (by omega) (by decide), vp_in_nI (by omega) (by decide), vp_in_nI (by omega) (by decide), q_t (nI_le hle (by omega)) (J ord a b)⟩
      | succ d ih =>
        intro y ord hy hys a b
        obtain ⟨y', rfl⟩ : ∃ y', y = y' + 1 := ⟨y - 1, by omega⟩
        have hoy := (h1 y' (by omega)).1
        have hmo := hok (o y') (by omega)
        refine q_f (nI_nle (by omega) (by omega)) ?_
        rw [nI_m1, nI_pred, nI_clamp (n := y') (by omega), a y' (by omega), nI_clamp (n := o y') (by omega), nI_clamp (n := c') (by omega), nI_clamp (n := y' + 1) (by omega), hq.1, hmo.1]
        have hlt := hp2 y' (by omega) (by omega)
        refine ⟨vp_in_nI (by omega) (by decide), vp_in_nI (by omega) (by decide), vp_in_nI (by omega) (by decide), q_f (nI_ge hlt (by omega)) ⟨vp_in_nI (by omega) (by decide), vp_in_nI (by omega) (by decide), ih y' _ (by omega) (by omega) (fun k hk => ?_) (fun k h4 h5 => ?_)⟩⟩
        · rw [u_n (by omega)]; exact a k (by omega)
        · by_cases e : k = y'
          · rw [u_s (by omega), e]
          · rw [u_n (by omega)]; exact b k (by omega) h5
    exact ⟨sz - p + 1, L (sz - p) sz ord (by omega) (Nat.le_refl _) hord (fun k a b => absurd a (by omega))⟩
theorem s_last {n c : Nat} (hn : n ≤ 8) (hc : c ≤ 8) {mk : Nat → Nat} {x : Nat} {o : Nat → Nat} (hS : Srt mk x c n o) : ∃ F, OrdF mk x c n F ∧ ∀ (ord : Nat → Int32), (∀ j, j < n → ord j = nI (o j)) → ∀ post : (Nat → Int32) → Prop, (∀ ord' : Nat → Int32, (∀ j, j < n → ord' j = nI (F j)) → post ord') → wp_X6_sortLastTwo (nI n) ord post := by
  obtain ⟨h1, h2, h3⟩ := hS
  have hne : ∀ j k, j < k → k < n → ¬ o j = o k := by
    intro j k a b e
    rcases h3 j k a b with q | q
    · rw [e] at q; omega
    · omega
  by_cases h : n < 2
  · refine ⟨o, ⟨h1, h2, fun k j a b => absurd a (by omega)⟩, fun ord hord post pp => q_t (nI_lt (b := 2) h (by decide)) (pp ord hord)⟩
  have e2 : nI n - (2 : Int32) = nI (n - 2) := (by decide : ∀ n, n < 9 → 2 ≤ n → nI n - (2 : Int32) = nI (n - 2)) n (by omega) (by omega)
  have e1 : nI n - (1 : Int32) = nI (n - 1) := (by decide : ∀ n, n < 9 → 2 ≤ n → nI n - (1 : Int32) = nI (n - 1)) n (by omega) (by omega)
  have b1 := (h1 (n - 1) (by omega)).1
  have b2 := (h1 (n - 2) (by omega)).1
  have v1 : vp_in (nI (n - 1)) 8 := vp_in_nI (by omega) (by decide)
  have v2 : vp_in (nI (n - 2)) 8 := vp_in_nI (by omega) (by decide)
  by_cases hle : o (n - 2) ≤ o (n - 1)
  · refine ⟨o, ⟨h1, h2, fun k j a b => ⟨hne k j a b, fun _ => h3 k j a b, fun q => ?_⟩⟩, fun ord hord post pp => q_f (nI_nlt (b := 2) (by omega) (by omega)) ?_⟩
    · have k2 : k = n - 2 := by omega
      have j1 : j = n - 1 := by omega
      have := hne (n - 2) (n - 1) (by omega) (by omega)
      rw [k2, j1]; omega
    · rw [e1, e2, nI_clamp (by omega), nI_clamp (by omega), hord _ (by omega), hord _ (by omega)]
      exact ⟨v2, v1, q_t (nI_le hle (by omega)) (pp ord hord)⟩
  · refine ⟨fun j => if j = n - 2 then o (n - 1) else if j = n - 1 then o (n - 2) else o j, ⟨fun j hj => ?_, fun i hi hbi => ?_, fun k j a b => ?_⟩, fun ord hord post pp => q_f (nI_nlt (b := 2) (by omega) (by omega)) ?_⟩
    · dsimp only
      split
      · exact h1 _ (by omega)
      · split
        · exact h1 _ (by omega)
        · exact h1 _ (by omega)
    · obtain ⟨j, hj, ej⟩ := h2 i hi hbi
      by_cases z : j = n - 2
      · refine ⟨n - 1, by omega, ?_⟩
        dsimp only
        rw [if_neg (by omega), if_pos rfl, ← z]; exact ej
      · by_cases z1 : j = n - 1
        · refine ⟨n - 2, by omega, ?_⟩
          dsimp only
          rw [if_pos rfl, ← z1]; exact ej
        · refine ⟨j, hj, ?_⟩
          dsimp only
          rw [if_neg z, if_neg z1]; exact ej
    · dsimp only
      by_cases z : k = n - 2
      · have z1 : j = n - 1 := by omega
        rw [if_pos z, if_neg (by omega), if_pos z1]
        exact ⟨fun e => hne (n - 2) (n - 1) (by omega) (by omega) e.symm, fun q => absurd q (by omega), fun _ => by omega⟩
      · have kn : k < n - 2 := by omega
        rw [if_neg z, if_neg (show ¬ k = n - 1 by omega)]
        by_cases y : j = n - 2
        · rw [if_pos y]
          exact ⟨hne _ _ (by omega) (by omega), fun _ => h3 _ _ (by omega) (by omega), fun q => absurd q (by omega)⟩
        · rw [if_neg y]
          by_cases y1 : j = n - 1
          · rw [if_pos y1]
            exact ⟨hne _ _ (by omega) (by omega), fun _ => h3 _ _ (by omega) (by omega), fun q => absurd q (by omega)⟩
          · rw [if_neg y1]
            exact ⟨hne _ _ a b, fun _ => h3 _ _ a b, fun q => absurd q (by omega)⟩
    · rw [e1, e2, nI_clamp (by omega), nI_clamp (by omega), hord _ (by omega), hord _ (by omega)]
      refine ⟨v2, v1, q_f (nI_ge (by omega) (by omega)) ⟨v1, v2, v1, v2, pp _ (fun j hj => ?_)⟩⟩
      dsimp only
      by_cases z : j = n - 2
      · rw [u_s z, if_pos z]
      · rw [u_n z, if_neg z]
        by_cases z1 : j = n - 1
        · rw [u_s z1, if_pos z1]
        · rw [u_n z1, if_neg z1]; exact hord j hj
theorem s_arrange {milks : Nat → Int32} {c x : Nat} (hc : c ≤ 8) (hok : okM c milks) (hx : x < 2 ^ c) :
    ∃ F, OrdF (tn milks) x c (cnt x) F ∧ ∀ (ord : Nat → Int32) (post : Int32 → (Nat → Int32) → Prop), (∀ ord' : Nat → Int32, (∀ j, j < cnt x → ord' j = nI (F j)) → post (nI (cnt x)) ord') → wp_X6_arrange ord (nI c) milks (nI x) post := by
  have hp := pow_le8 hc
  have hcc := cnt_c hc hx
  have h8 := cnt_le x
  have L : ∀ (d c' : Nat) (o : Nat → Nat), c' + d = c → Srt (tn milks) x c' (fb_ct (fun k => x.testBit k) c') o → ∃ F, OrdF (tn milks) x c (cnt x) F ∧ ∀ (ord : Nat → Int32) (post : Int32 → (Nat → Int32) → Prop), (∀ j, j < fb_ct (fun k => x.testBit k) c' → ord j = nI (o j)) → (∀ ord' : Nat → Int32, (∀ j, j < cnt x → ord' j = nI (F j)) → post (nI (cnt x)) ord') → wp_X6_arrange_L7 (nI c) milks (nI x) post (d + 1) (nI (fb_ct (fun k => x.testBit k) c')) ord (nI c') := by
    intro d
    induction d with
    | zero =>
      intro c' o hcd hS
      have : c' = c := by omega
      subst this
      rw [← hcc] at hS ⊢
      obtain ⟨F, hF, hrun⟩ := s_last h8 hc hS
      refine ⟨F, hF, fun ord post ho pp => q_t (nI_le (Nat.le_refl _) (by omega)) (hrun ord ho _ pp)⟩
    | succ d ih =>
      intro c' o hcd hS
      have hszc : fb_ct (fun k => x.testBit k) c' ≤ c' := fb_ct_le _ c'
      have hn : ¬ nI c ≤ nI c' := nI_ge (by omega) (by omega)
      have hst : fb_ct (fun k => x.testBit k) (c' + 1) = fb_ct (fun k => x.testBit k) c' + (if x.testBit c' then 1 else 0) := rfl
      cases hb : x.testBit c' with
      | true =>
        obtain ⟨o', hS', hrun⟩ := s_insert hc hok (by omega) hszc hS hb
        rw [hb, if_pos rfl] at hst
        have := ih (c' + 1) o' (by omega) (by rw [hst]; exact hS')
        obtain ⟨F, hF, hr⟩ := this
        refine ⟨F, hF, fun ord post ho pp => q_f hn (n_f ((shb1 (by omega) (by omega)).mpr hb) (hrun ord ho _ (fun ord' ho' => ?_)))⟩
        have := hr ord' post (by rw [hst]; exact ho') pp
        rw [hst, nI_succ c'] at this
        exact this
      | false =>
        rw [hb, if_neg (by decide), Nat.add_zero] at hst
        obtain ⟨h1, h2, h3⟩ := hS
        have hS' : Srt (tn milks) x (c' + 1) (fb_ct (fun k => x.testBit k) c') o := ⟨fun j hj => ⟨by have := (h1 j hj).1; omega, (h1 j hj).2⟩, fun i hi hbi => by
          by_cases e : i = c'
          · rw [e, hb] at hbi; cases hbi
          · exact h2 i (by omega) hbi, h3⟩
        obtain ⟨F, hF, hr⟩ := ih (c' + 1) o (by omega) (by rw [hst]; exact hS')
        refine ⟨F, hF, fun ord post ho pp => q_f hn (n_t (fun q => by rw [shb1 (by omega) (by omega), hb] at q; cases q) ?_)⟩
        have := hr ord post (by rw [hst]; exact ho) pp
        rw [hst, nI_succ c'] at this
        exact this
  obtain ⟨F, hF, hr⟩ := L c 0 (fun _ => 0) (by omega) ⟨fun j hj => absurd hj (Nat.not_lt_zero j), fun i hi => absurd hi (by omega), fun j k _ hk => absurd hk (Nat.not_lt_zero k)⟩
  exact ⟨F, hF, fun ord post pp => ⟨c + 1, hr ord post (fun j hj => absurd hj (Nat.not_lt_zero j)) pp⟩⟩
/-- the model's search for the next -/
theorem s_scan {milks now ord : Nat → Int32} {c x n k z : Nat} (hc : c ≤ 8) (hok : okM c milks) (h4 : now 4 = nI c) (h5 : ∀ i, i < c → now (5 + i) = milks i) (hx : x < 2 ^ c) (hn : n ≤ 8) (hk : k < n) (hz : z < c) (hzb : x.testBit z = true)
    (hA : k + 2 < n → ∀ i, i < c → x.testBit i = true → (i < z → tn milks i < tn milks z) ∧ (z < i → tn milks i ≤ tn milks z)) (hB : n ≤ k + 2 → ∀ i, i < z → x.testBit i = false) {K : (Nat → Int32) → Int32 → Int32 → Prop} {post : Int32 → (Nat → Int32) → Prop}
    (p : K (upd ord k (nI z)) (nI (dif c x (2 ^ z))) (nI (k + 1))) : ∃ m, wp_X8_layOrder_L26 now ord (nI x) (nI n) (nI k) K post m (-4) 0 := by
  have hp := pow_le8 hc
  have hx31 : x < 2 ^ 31 := by omega
  have hcmp : (nI n - (2 : Int32) ≤ nI k) ↔ n ≤ k + 2 := by
    have e : (nI n - (2 : Int32)).toInt = (n : Int) - 2 := by
      rw [fb_subI] <;> rw [nI_toInt (by omega), show ((2 : Int32)).toInt = 2 from by decide] <;> omega
    rw [fa_le, e, nI_toInt (by omega)]; omega
  have nn4 : ∀ e : Nat, e < 8 → ¬ nI e = (-4 : Int32) := fun e he q => nI_pos (n := e) (by omega) (by rw [q]; decide)
  have L : ∀ (d i : Nat) (best : Int32), i + d = c → ((i ≤ z ∧ (best = -4 ∨ (k + 2 < n ∧ ∃ e, e < c ∧ best = nI e ∧ tn milks e < tn milks z))) ∨ (z < i ∧ best = nI z)) → wp_X8_layOrder_L26 now ord (nI x) (nI n) (nI k) K post (d + 1) best (nI i) := by
    intro d
    induction d with
    | zero =>
      intro i best hi hb
      have : i = c := by omega
      subst this
      rcases hb with ⟨q, -⟩ | ⟨q, rfl⟩
      · omega
      · refine q_t (by rw [h4]; exact nI_le (Nat.le_refl _) (by omega)) ⟨vp_in_nI (by omega) (by decide), ?_⟩
        rw [nI_clamp (by omega), one_sh (by omega), and_dif hc hx, ← nI_succ]
        exact p
    | succ d ih =>
      intro i best hi hb
      have hmi := hok i (by omega)
      refine q_f (by rw [h4]; exact nI_ge (by omega) (by omega)) ?_
      -- where more is true, and where it isn't
      have J1 : ∀ best : Int32, ((x.testBit i = true → wp_X8_layOrder_L26 now ord (nI x) (nI n) (nI k) K post (d + 1) (nI i) (nI i + 1)) ∧ (x.testBit i = false → wp_X8_layOrder_L26 now ord (nI x) (nI n) (nI k) K post (d + 1) best (nI i + 1))) → wp_X8_layOrder_J72 (nI x) best (nI i) (wp_X8_layOrder_L26 now ord (nI x) (nI n) (nI k) K post (d + 1)) post := by
        intro best h
        unfold wp_X8_layOrder_J72 wp_X8_layOrder_J77
        cases hbit : x.testBit i with
        | true => exact s_has_t hx31 (by omega) hbit (q_f ne10 (q_f ne10 (h.1 hbit)))
        | false => exact s_has_f hx31 (by omega) hbit (q_t rfl (h.2 hbit))
      have J0 : ∀ best : Int32, wp_X8_layOrder_L26 now ord (nI x) (nI n) (nI k) K post (d + 1) best (nI i + 1) → wp_X8_layOrder_J76 (nI x) best (nI i) (wp_X8_layOrder_L26 now ord (nI x) (nI n) (nI k) K post (d + 1)) post := by
        intro best h
        unfold wp_X8_layOrder_J76 wp_X8_layOrder_J77
        cases hbit : x.testBit i with
        | true => exact s_has_t hx31 (by omega) hbit (q_f ne10 (q_t rfl h))
        | false => exact s_has_f hx31 (by omega) hbit (q_t rfl h)
      have nx : ∀ best : Int32, ((i + 1 ≤ z ∧ (best = -4 ∨ (k + 2 < n ∧ ∃ e, e < c ∧ best = nI e ∧ tn milks e < tn milks z))) ∨ (z < i + 1 ∧ best = nI z)) → wp_X8_layOrder_L26 now ord (nI x) (nI n) (nI k) K post (d + 1) best (nI i + 1) := by
        intro best h
        rw [← nI_succ]; exact ih (i + 1) best (by omega) h
      -- a cow ahead of the one that is sought
      have early : i < z → x.testBit i = true → k + 2 < n ∧ tn milks i < tn milks z := by
        intro hiz hbit
        rcases Nat.lt_or_ge (k + 2) n with q | q
        · exact ⟨q, (hA q i (by omega) hbit).1 hiz⟩
        · rw [hB q i hiz] at hbit; cases hbit
      rcases hb with ⟨hiz, rfl | ⟨hkn, e, he, rfl, hlt⟩⟩ | ⟨hzi, rfl⟩
      · refine q_t rfl (J1 _ ⟨fun hbit => nx _ ?_, fun hbit => nx _ ?_⟩)
        · by_cases q : i = z
          · exact Or.inr ⟨by omega, by rw [q]⟩
          · have := early (by omega) hbit
            exact Or.inl ⟨by omega, Or.inr ⟨this.1, i, by omega, rfl, this.2⟩⟩
        · by_cases q : i = z
          · rw [q, hzb] at hbit; cases hbit
          · exact Or.inl ⟨by omega, Or.inl rfl⟩
      · refine q_f (nn4 e (by omega)) (q_f (fun q => absurd (hcmp.mp q) (by omega)) ?_)
        have hme := hok e he
        rw [lit_add 5, lit_add 5, nI_clamp (n := 5 + i) (by omega), nI_clamp (n := 5 + e) (by omega), h5 i (by omega), h5 e he, hmi.1, hme.1]
        refine ⟨vp_in_nI (by omega) (by decide), vp_in_nI (by omega) (by decide), ?_⟩
        by_cases hle : tn milks i ≤ tn milks e
        · refine q_t (nI_le hle (by omega)) (J0 _ (nx _ ?_))
          by_cases q : i = z
          · rw [q] at hle; omega
          · exact Or.inl ⟨by omega, Or.inr ⟨hkn, e, he, rfl, hlt⟩⟩
        · refine q_f (nI_ge (by omega) (by omega)) (J1 _ ⟨fun hbit => nx _ ?_, fun hbit => nx _ ?_⟩)
          · by_cases q : i = z
            · exact Or.inr ⟨by omega, by rw [q]⟩
            · have := early (by omega) hbit
              exact Or.inl ⟨by omega, Or.inr ⟨this.1, i, by omega, rfl, this.2⟩⟩
          · by_cases q : i = z
            · rw [q, hzb] at hbit; cases hbit
            · exact Or.inl ⟨by omega, Or.inr ⟨hkn, e, he, rfl, hlt⟩⟩
      · refine q_f (nn4 z (by omega)) ?_
        have stay := nx (nI z) (Or.inr ⟨by omega, rfl⟩)
        by_cases hkn : n ≤ k + 2
        · exact q_t (hcmp.mpr hkn) (J0 _ stay)
        · refine q_f (fun q => hkn (hcmp.mp q)) ?_
          have hmz := hok z hz
          rw [lit_add 5, lit_add 5, nI_clamp (n := 5 + i) (by omega), nI_clamp (n := 5 + z) (by omega), h5 i (by omega), h5 z hz, hmi.1, hmz.1]
          refine ⟨vp_in_nI (by omega) (by decide), vp_in_nI (by omega) (by decide), ?_⟩
          by_cases hle : tn milks i ≤ tn milks z
          · exact q_t (nI_le hle (by omega)) (J0 _ stay)
          · refine q_f (nI_ge (by omega) (by omega)) (J1 _ ⟨fun hbit => ?_, fun _ => stay⟩)
            have := (hA (by omega) i (by omega) hbit).2 hzi
            omega
  exact ⟨c + 1, L c 0 (-4) (by omega) (Or.inl ⟨by omega, Or.inl rfl⟩)⟩
theorem s_layOrder {milks now ord : Nat → Int32} {c x : Nat} (hc : c ≤ 8) (hok : okM c milks) (h4 : now 4 = nI c) (h5 : ∀ i, i < c → now (5 + i) = milks i) (hx : x < 2 ^ c) (q0 : now 2 = nI x) {F : Nat → Nat} (hF : OrdF (tn milks) x c (cnt x) F) {post : Int32 → (Nat → Int32) → Prop}
    (p : ∀ ord' : Nat → Int32, (∀ j, j < cnt x → ord' j = nI (F j)) → post (nI (cnt x)) ord') : wp_X8_layOrder now ord post := by
  have hp := pow_le8 hc
  have h8 := cnt_le x
  obtain ⟨h1, h2, h3⟩ := hF
  unfold wp_X8_layOrder
  rw [q0]
  refine s_bits (by omega) ⟨cnt x + 1, ?_⟩
  have L : ∀ (d k y : Nat) (ord : Nat → Int32), k + d = cnt x → y < 2 ^ c → (∀ i, y.testBit i = true ↔ ∃ j, k ≤ j ∧ j < cnt x ∧ F j = i) → (∀ j, j < k → ord j = nI (F j)) → wp_X8_layOrder_L14 now (nI (cnt x)) post (d + 1) ord (nI y) (nI k) := by
    intro d
    induction d with
    | zero =>
      intro k y ord hk hy hyb ho
      have : k = cnt x := by omega
      subst this
      exact q_t (nI_le (Nat.le_refl _) (by omega)) (p ord ho)
    | succ d ih =>
      intro k y ord hk hy hyb ho
      have hzc := (h1 k (by omega)).1
      refine q_f (nI_ge (by omega) (by omega)) (s_scan hc hok h4 h5 hy h8 (by omega) hzc ((hyb (F k)).mpr ⟨k, Nat.le_refl _, by omega, rfl⟩) (fun hkn i hi hbi => ?_) (fun hkn i hi => ?_) ?_)
      · obtain ⟨j, j1, j2, ej⟩ := (hyb i).mp hbi
        subst ej
        by_cases e : j = k
        · rw [e]; exact ⟨fun q => absurd q (by omega), fun q => absurd q (by omega)⟩
        · rcases (h3 k j (by omega) j2).2.1 hkn with q | q
          · exact ⟨fun _ => q, fun _ => by omega⟩
          · exact ⟨fun z => by omega, fun _ => by omega⟩
      · cases hbi : y.testBit i with
        | false => rfl
        | true =>
          obtain ⟨j, j1, j2, ej⟩ := (hyb i).mp hbi
          subst ej
          by_cases e : j = k
          · rw [e] at hi; omega
          · have := (h3 k j (by omega) j2).2.2 hkn
            omega
      · refine ih (k + 1) _ _ (by omega) (dif_lt c y _) (fun i => ?_) (fun j hj => ?_)
        · rw [dif_bit hy, Nat.testBit_two_pow]
          constructor
          · intro hq
            have hyi : y.testBit i = true := by
              cases h : y.testBit i with
              | true => rfl
              | false => rw [h] at hq; cases hq
            obtain ⟨j, j1, j2, ej⟩ := (hyb i).mp hyi
            refine ⟨j, ?_, j2, ej⟩
            by_cases e : j = k
            · rw [hyi, Bool.true_and, ← ej, e] at hq
              simp at hq
            · omega
          · rintro ⟨j, j1, j2, ej⟩
            have hyi := (hyb i).mpr ⟨j, by omega, j2, ej⟩
            have hne := (h3 k j (by omega) j2).1
            rw [ej] at hne
            rw [hyi, Bool.true_and]
            simp [hne]
        · by_cases e : j = k
          · rw [u_s e, e]
          · rw [u_n e]; exact ho j (by omega)
  refine L (cnt x) 0 x ord (by omega) hx (fun i => ⟨fun hb => ?_, fun ⟨j, _, hj, ej⟩ => ?_⟩) (fun j hj => absurd hj (by omega))
  · obtain ⟨j, hj, ej⟩ := h2 i (bit_lt hx hb) hb
    exact ⟨j, by omega, hj, ej⟩
  · rw [← ej]; exact (h1 j hj).2
def trl (mk F : Nat → Nat) (n k : Nat) : Nat := mk (F k) * (if k + 1 < n then k + 1 else k)
theorem s_trials {milks ord : Nat → Int32} {c x n : Nat} {F : Nat → Nat} (hc : c ≤ 8) (hn : n ≤ 8) (hok : okM c milks) (hF : OrdF (tn milks) x c n F) (ho : ∀ j, j < n → ord j = nI (F j)) {post : Int32 → Prop} (p : post (nI (fb_sm (trl (tn milks) F n) n))) : wp_X6_allTrials (nI n) ord milks post := by
  have L : ∀ (d k : Nat), k + d = n → wp_X6_allTrials_L4 (nI n) ord milks post (d + 1) (nI (fb_sm (trl (tn milks) F n) k)) (nI k) := by
    intro d
    induction d with
    | zero =>
      intro k hk
      have : k = n := by omega
      subst this
      exact q_t (nI_le (Nat.le_refl _) (by omega)) p
    | succ d ih =>
      intro k hk
      have hf := (hF.1 k (by omega)).1
      have hm := hok (F k) hf
      refine q_f (nI_ge (by omega) (by omega)) ?_
      have e : (if (nI n - (1 : Int32)) < (nI k + (1 : Int32)) then (nI n - (1 : Int32)) else (nI k + (1 : Int32))) = nI (if k + 1 < n then k + 1 else k) := by
        obtain ⟨n', rfl⟩ : ∃ n', n = n' + 1 := ⟨n - 1, by omega⟩
        rw [nI_pred, ix1]
        by_cases h : k + 1 < n' + 1
        · rw [if_neg (nI_nlt (by omega) (by omega)), if_pos h]
        · rw [if_pos (nI_lt (by omega) (by omega)), if_neg h]
          congr 1; omega
      rw [e, nI_clamp (n := k) (by omega), ho k (by omega), nI_clamp (n := F k) (by omega), hm.1, pk_mul, nI_add, ← nI_succ]
      exact ⟨vp_in_nI (by omega) (by decide), vp_in_nI (by omega) (by decide), ih (k + 1) (by omega)⟩
  exact ⟨n + 1, L n 0 (by omega)⟩
set_option maxRecDepth 20000 in
theorem st_single : Step_single RR := by
  intro v f g x1 keep
  obtain ⟨⟨c, t, w, k, hD⟩, hK, hT, hS⟩ := id keep
  obtain ⟨⟨hc, ht, hw, hk⟩, ⟨e1, e2, e3, e4⟩, ⟨m4, m13, m22⟩, hmi, hta, ⟨q0, q1, q2, q3, hM⟩, hpast⟩ := id hD
  obtain ⟨hok, h5⟩ := DR_okM hD
  obtain ⟨x, hx, ex⟩ := hM.1
  have hp := pow_le8 hc
  have h8 := cnt_le x
  by_cases hm2 : (-2 : Int32) ≤ x1
  · obtain ⟨F, hF, hrun⟩ := s_arrange hc hok hx
    refine q_t hm2 ?_
    rw [e1, ex]
    refine hrun _ _ (fun ord ho => ?_)
    have M : ∀ P : Int32 → (Nat → Int32) → Prop, (∀ ord', (∀ j, j < cnt x → ord' j = nI (F j)) → (x1 < 0 → (∃ n, wp_X8_single_L39 (f 29) ord' x1 (nI (cnt x)) P n (0 : Int32) (0 : Int32))) ∧ (¬ x1 < 0 → (nI (cnt x) ≤ x1 → P (-4 : Int32) ord') ∧ (¬ nI (cnt x) ≤ x1 → vp_in x1 8 ∧ P (ord' x1.toNatClampNeg) ord'))) → wp_X8_single (f 29) (f 35) x1 P := fun P hP => q_t hm2 (s_layOrder hc hok m4 h5 hx (q0.trans ex) hF hP)
    by_cases h0 : x1 < 0
    · have h0' : ¬ 0 ≤ x1 := by rw [fa_le]; rw [fa_lt] at h0; omega
      obtain ⟨b, hb⟩ : ∃ b : Bool, (-1 : Int32) - x1 = bi b := by
        have z : x1.toInt = -1 ∨ x1.toInt = -2 := by
          rw [fa_lt] at h0; rw [fa_le] at hm2
          have t0 : ((0 : Int32)).toInt = 0 := by decide
          have t2 : ((-2 : Int32)).toInt = -2 := by decide
          omega
        rcases z with z | z
        · have : x1 = -1 := by rw [fa_eq, z]; decide
          exact ⟨false, by rw [this]; decide⟩
        · have : x1 = -2 := by rw [fa_eq, z]; decide
          exact ⟨true, by rw [this]; decide⟩
      refine q_f h0' (s_trials hc h8 hok hF ho (s0_milkOf hc hx hok ?_))
      have b2 := smk_le hok x (Nat.le_refl c)
      have b1 : fb_sm (trl (tn (f 0)) F (cnt x)) (cnt x) ≤ cnt x * 72 := by
        apply fb_sm_bound
        intro j hj
        have hj' := (hok (F j) (hF.1 j hj).1).2.2
        have : (if j + 1 < cnt x then j + 1 else j) ≤ 8 := by split <;> omega
        exact Nat.mul_le_mul hj' this
      have hab : 0 < fb_sm (trl (tn (f 0)) F (cnt x)) (cnt x) → 0 < smk (tn (f 0)) x c := by
        intro hpos
        rcases Nat.eq_zero_or_pos (cnt x) with z | z
        · rw [z] at hpos; exact absurd hpos (Nat.lt_irrefl 0)
        · obtain ⟨f1, f2⟩ := hF.1 0 z
          have := fb_sm_part (fun i => if x.testBit i then tn (f 0) i else 0) f1
          have hmf := (hok (F 0) f1).2.1
          rw [if_pos f2] at this
          unfold smk
          omega
      rw [nI_l (by omega), nI_l (by omega), hb]
      refine s7_fraction (by omega) (by omega) hab b (M _ (fun ord' ho' => q_t h0 ⟨cnt x + 1, ?_⟩))
      rw [lN_i]
      have L : ∀ (P : Int32 → (Nat → Int32) → Prop), P (nI (fr (fb_sm (trl (tn (f 0)) F (cnt x)) (cnt x)) (smk (tn (f 0)) x c) b)) ord' → ∀ (d k : Nat), k + d = cnt x → wp_X8_single_L39 (f 29) ord' x1 (nI (cnt x)) P (d + 1) (nI (fb_sm (trl (tn (f 0)) F (cnt x)) k)) (nI k) := by
        intro P pp d
        induction d with
        | zero =>
          intro k hk
          have : k = cnt x := by omega
          rw [this]
          refine q_t (nI_le (Nat.le_refl _) (by omega)) ?_
          unfold wp_X8_single_J110
          rw [hb]
          rcases Nat.eq_zero_or_pos (fb_sm (trl (tn (f 0)) F (cnt x)) (cnt x)) with z | z
          · rw [z] at pp ⊢
            refine n_f rfl (s8_part0 (b := smk (tn (f 0)) x c) b ?_)
            rw [lN_i]; exact pp
          · refine n_t (nI_ne0 z (by omega)) ?_
            rw [q0, ex]
            refine s8_milkOf hc hx m4 h5 hok ?_
            rw [nI_l (by omega), nI_l (by omega)]
            refine s8_part (by omega) (by omega) z b ?_
            rw [lN_i]; exact pp
        | succ d ih =>
          intro k hk
          have hf := (hF.1 k (by omega)).1
          have hm := hok (F k) hf
          have e := ih (k + 1) (by omega)
          rw [nI_succ] at e
          have e2 : fb_sm (trl (tn (f 0)) F (cnt x)) (k + 1) = fb_sm (trl (tn (f 0)) F (cnt x)) k + tn (f 0) (F k) * (if k + 1 < cnt x then k + 1 else k) := rfl
          rw [e2] at e
          refine q_f (nI_ge (by omega) (by omega)) ?_
          rw [nI_clamp (n := k) (by omega), ho' k (by omega), lit_add 5, nI_clamp (n := 5 + F k) (by omega), h5 _ hf, hm.1]
          refine ⟨vp_in_nI (by omega) (by decide), vp_in_nI (by omega) (by decide), ?_⟩
          unfold wp_X8_single_J77
          obtain ⟨n', hn'⟩ : ∃ n', cnt x = n' + 1 := ⟨cnt x - 1, by omega⟩
          rw [show nI (cnt x) - (1 : Int32) = nI n' by rw [hn', nI_pred], ix1, pk_mul, pk_mul, nI_add, nI_add]
          rw [ix1] at e
          by_cases h : k + 1 < cnt x
          · rw [if_pos h] at e
            exact q_f (nI_ge (by omega) (by omega)) e
          · rw [if_neg h] at e
            exact q_t (nI_le (by omega) (by omega)) e
      exact L _ ⟨rfl, keep⟩ (cnt x) 0 (by omega)
    · have h0' : 0 ≤ x1 := by rw [fa_le]; rw [fa_lt] at h0; omega
      obtain ⟨q, hq, rfl⟩ := nI_of h0
      refine q_t h0' ?_
      rcases Nat.lt_or_ge q (cnt x) with z | z
      · refine q_f (nI_ge z (by omega)) ⟨vp_in_nI (by omega) (by decide), M _ (fun ord' ho' => q_f h0 (q_f (nI_ge z (by omega)) ⟨vp_in_nI (by omega) (by decide), ?_, keep⟩))⟩
        rw [nI_clamp (by omega), ho q z, ho' q z]
      · exact q_t (nI_le z hq) (M _ (fun ord' ho' => q_f h0 (q_t (nI_le z hq) ⟨rfl, keep⟩)))
  · exact q_f hm2 (q_f hm2 ⟨rfl, keep⟩)
