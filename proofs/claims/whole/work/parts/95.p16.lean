/-! pure part 16: rows of pairs: who fits -/
theorem cm_gt (a b : Int64) : 0 < lg_cmp a b ↔ b < a := by
  rcases cm_3 a b with ⟨h, e⟩ | ⟨h, e⟩ | ⟨h, e⟩ <;> rw [e]
  · exact ⟨fun q => absurd q (by decide), fun q => by rw [fa_lt64] at q h; omega⟩
  · rw [h]; exact ⟨fun q => absurd q (by decide), fun q => by rw [fa_lt64] at q; omega⟩
  · exact ⟨fun _ => h, fun _ => by decide⟩
def bN (b : Bool) : Nat := if b then 1 else 0
theorem bN_i (b : Bool) : (lN (bN b)).toInt32 = bi b := by cases b <;> decide
theorem lN_of {r : Int64} {n : Nat} (h0 : 0 ≤ r.toInt) (h : r.toInt ≤ n) (hn : n < 2 ^ 31) : ∃ m, m ≤ n ∧ r = lN m := by
  refine ⟨r.toInt.toNat, by omega, ?_⟩
  rw [fa_eq64, lN_toInt (by omega)]; omega
/-- a pair that is none is refused on both sides -/
theorem pr_case (r1 r2 : Int64) {c : Nat} (hc : c ≤ 8) {now : Nat → Int32} (m4 : now 4 = nI c) :
    (∃ M b, 1 ≤ M ∧ M < 2 ^ c ∧ r1 = lN M ∧ r2 = lN (bN b) ∧
      (∀ {A B : Prop}, B → ((lg_cmp r1 (1 : Int64)) < 0 → A) ∧ (¬ (lg_cmp r1 (1 : Int64)) < 0 → (0 < (lg_cmp r1 ((nI (2 ^ c - 1)).toInt64)) → A) ∧ (¬ 0 < (lg_cmp r1 ((nI (2 ^ c - 1)).toInt64)) → ((lg_cmp r2 (0 : Int64)) < 0 → A) ∧ (¬ (lg_cmp r2 (0 : Int64)) < 0 → ((lg_cmp r2 (1 : Int64)) ≤ 0 → B) ∧ (¬ (lg_cmp r2 (1 : Int64)) ≤ 0 → A))))) ∧
      (∀ {A B : Prop}, B → ((lg_cmp r1 (1 : Int64)) < 0 → A) ∧ (¬ (lg_cmp r1 (1 : Int64)) < 0 → wp_X8_allOf now (fun r2' => (0 < (lg_cmp r1 (r2'.toInt64)) → A) ∧ (¬ 0 < (lg_cmp r1 (r2'.toInt64)) → ((lg_cmp r2 (0 : Int64)) < 0 → A) ∧ (¬ (lg_cmp r2 (0 : Int64)) < 0 → (0 < (lg_cmp r2 (1 : Int64)) → A) ∧ (¬ 0 < (lg_cmp r2 (1 : Int64)) → B))))))) ∨
    ((∀ {A B : Prop}, A → ((lg_cmp r1 (1 : Int64)) < 0 → A) ∧ (¬ (lg_cmp r1 (1 : Int64)) < 0 → (0 < (lg_cmp r1 ((nI (2 ^ c - 1)).toInt64)) → A) ∧ (¬ 0 < (lg_cmp r1 ((nI (2 ^ c - 1)).toInt64)) → ((lg_cmp r2 (0 : Int64)) < 0 → A) ∧ (¬ (lg_cmp r2 (0 : Int64)) < 0 → ((lg_cmp r2 (1 : Int64)) ≤ 0 → B) ∧ (¬ (lg_cmp r2 (1 : Int64)) ≤ 0 → A))))) ∧
      (∀ {A B : Prop}, A → ((lg_cmp r1 (1 : Int64)) < 0 → A) ∧ (¬ (lg_cmp r1 (1 : Int64)) < 0 → wp_X8_allOf now (fun r2' => (0 < (lg_cmp r1 (r2'.toInt64)) → A) ∧ (¬ 0 < (lg_cmp r1 (r2'.toInt64)) → ((lg_cmp r2 (0 : Int64)) < 0 → A) ∧ (¬ (lg_cmp r2 (0 : Int64)) < 0 → (0 < (lg_cmp r2 (1 : Int64)) → A) ∧ (¬ 0 < (lg_cmp r2 (1 : Int64)) → B))))))) := by
  have hp := pow_le8 hc
  have h0 := Nat.two_pow_pos c
  have t1 : ((1 : Int64)).toInt = 1 := by decide
  have t0 : ((0 : Int64)).toInt = 0 := by decide
  have tl : ((nI (2 ^ c - 1)).toInt64).toInt = ((2 ^ c - 1 : Nat) : Int) := by rw [nI_l (by omega), lN_toInt (by omega)]
  by_cases h1 : lg_cmp r1 1 < 0
  · exact Or.inr ⟨fun a => q_t h1 a, fun a => q_t h1 a⟩
  by_cases h2 : 0 < lg_cmp r1 ((nI (2 ^ c - 1)).toInt64)
  · exact Or.inr ⟨fun a => q_f h1 (q_t h2 a), fun a => q_f h1 (s8_all hc m4 (q_t h2 a))⟩
  by_cases h3 : lg_cmp r2 0 < 0
  · exact Or.inr ⟨fun a => q_f h1 (q_f h2 (q_t h3 a)), fun a => q_f h1 (s8_all hc m4 (q_f h2 (q_t h3 a)))⟩
  by_cases h4 : 0 < lg_cmp r2 1
  · have h4' : ¬ lg_cmp r2 1 ≤ 0 := fun e => by
      rw [cm_le, fa_le64] at e; rw [cm_gt, fa_lt64] at h4; omega
    exact Or.inr ⟨fun a => q_f h1 (q_f h2 (q_f h3 (q_f h4' a))), fun a => q_f h1 (s8_all hc m4 (q_f h2 (q_f h3 (q_t h4 a))))⟩
  have h4' : lg_cmp r2 1 ≤ 0 := by
    rw [cm_le, fa_le64]; rw [cm_gt, fa_lt64] at h4; omega
  have z1 := h1; have z2 := h2; have z3 := h3; have z4 := h4
  rw [cm_lt, fa_lt64] at z1 z3
  rw [cm_gt, fa_lt64] at z2 z4
  obtain ⟨M, hM, rfl⟩ := lN_of (r := r1) (n := 2 ^ c - 1) (by omega) (by omega) (by omega)
  obtain ⟨b, hb, rfl⟩ := lN_of (r := r2) (n := 1) (by omega) (by omega) (by decide)
  rw [lN_toInt (by omega)] at z1
  refine Or.inl ⟨M, decide (b = 1), by omega, by omega, rfl, ?_, fun p => q_f h1 (q_f h2 (q_f h3 (q_t h4' p))), fun p => q_f h1 (s8_all hc m4 (q_f h2 (q_f h3 (q_f h4 p))))⟩
  rcases (show b = 0 ∨ b = 1 by omega) with rfl | rfl <;> rfl
theorem ix2 (a k : Nat) : nI a + (2 : Int32) * nI k = nI (a + 2 * k) := by rw [show (2 : Int32) * nI k = nI (2 * k) from pk_mul 2 k, nI_add]
theorem ix1 (a : Nat) : nI a + (1 : Int32) = nI (a + 1) := (nI_succ a).symm
def pairs (it : Nat → Int64) (c a n : Nat) (M : Nat → Nat) (b : Nat → Bool) : Prop := ∀ k, k < n → 1 ≤ M k ∧ M k < 2 ^ c ∧ it (a + 2 * k) = lN (M k) ∧ it (a + 2 * k + 1) = lN (bN (b k))
/-- the row is read: both sides refuse alike, or there are pairs -/
theorem s_rowE {it : Nat → Int64} {mi : Nat → Int64} {c a n n' j : Nat} (hc : c ≤ 8) {now : Nat → Int32} (m4 : now 4 = nI c) (hj : j < 4) (hn : n ≤ 6) (han : a + 2 * n ≤ n') (hn' : n' ≤ 24) (he : ∀ x, x < 24 → it x = mi (24 * j + x)) :
    (∃ M b, pairs it c a n M b ∧ pairs mi c (24 * j + a) n M b ∧
      (∀ (post : Int32 → Int32 → (Nat → Int32) → (Nat → Int32) → Prop) (mx an : Nat → Int32), (∀ mx' an' : Nat → Int32, (∀ k, k < n → mx' k = nI (M k) ∧ an' k = bi (b k)) → post 1 (nI n) mx' an') → wp_X3_read mx an it (nI a) (nI n) (nI (2 ^ c - 1)) post) ∧
      (∀ post : Int32 → Prop, post 0 → ∃ k, wp_X8_wrongPairs_L19 mi now (nI j) (nI a) (nI n) 0 post k 1 0)) ∨
    ((∀ (post : Int32 → Int32 → (Nat → Int32) → (Nat → Int32) → Prop) (mx an : Nat → Int32), (∀ p mx' an', post 0 p mx' an') → wp_X3_read mx an it (nI a) (nI n) (nI (2 ^ c - 1)) post) ∧
      (∀ post : Int32 → Prop, post (-2) → ∃ k, wp_X8_wrongPairs_L19 mi now (nI j) (nI a) (nI n) 0 post k 1 0)) := by
  have hp := pow_le8 hc
  -- by the number of pairs that are left
  have L : ∀ (d m : Nat), m + d = n →
      (∃ (M : Nat → Nat) (b : Nat → Bool), (∀ k, m ≤ k → k < n → 1 ≤ M k ∧ M k < 2 ^ c ∧ it (a + 2 * k) = lN (M k) ∧ it (a + 2 * k + 1) = lN (bN (b k))) ∧
        (∀ (post : Int32 → Int32 → (Nat → Int32) → (Nat → Int32) → Prop) (mx an : Nat → Int32), (∀ mx' an' : Nat → Int32, (∀ k, m ≤ k → k < n → mx' k = nI (M k) ∧ an' k = bi (b k)) → (∀ k, k < m → mx' k = mx k ∧ an' k = an k) → post 1 (nI n) mx' an') → wp_X3_read_L8 it (nI a) (nI n) (nI (2 ^ c - 1)) post (d + 1) (nI m) mx an (nI m)) ∧
        (∀ post : Int32 → Prop, post 0 → wp_X8_wrongPairs_L19 mi now (nI j) (nI a) (nI n) 0 post (d + 1) 1 (nI m))) ∨
      ((∀ (post : Int32 → Int32 → (Nat → Int32) → (Nat → Int32) → Prop) (mx an : Nat → Int32), (∀ p mx' an', post 0 p mx' an') → wp_X3_read_L8 it (nI a) (nI n) (nI (2 ^ c - 1)) post (d + 1) (nI m) mx an (nI m)) ∧
        (∀ post : Int32 → Prop, post (-2) → wp_X8_wrongPairs_L19 mi now (nI j) (nI a) (nI n) 0 post (d + 1) 1 (nI m))) := by
    intro d
    induction d with
    | zero =>
      intro m hm
      have : m = n := by omega
      subst this
      have hl : nI m ≤ nI m := nI_le (Nat.le_refl _) (by omega)
      exact Or.inl ⟨fun _ => 0, fun _ => false, fun k h1 h2 => absurd h1 (by omega), fun post mx an p => q_t hl (p mx an (fun k h1 h2 => absurd h1 (by omega)) (fun k hk => ⟨rfl, rfl⟩)), fun post p => q_t hl (q_t rfl (q_f ne10 p))⟩
    | succ d ih =>
      intro m hm
      have hl : ¬ nI n ≤ nI m := nI_ge (by omega) (by omega)
      have v1 : vp_in (nI (a + 2 * m)) 24 := vp_in_nI (by omega) (by decide)
      have v2 : vp_in (nI (a + 2 * m + 1)) 24 := vp_in_nI (by omega) (by decide)
      have u1 : vp_in (nI (24 * j + a + 2 * m)) 96 := vp_in_nI (by omega) (by decide)
      have u2 : vp_in (nI (24 * j + a + 2 * m + 1)) 96 := vp_in_nI (by omega) (by decide)
      have w1 : vp_in (nI m) 6 := vp_in_nI (by omega) (by decide)
      have g1 : it (a + 2 * m) = mi (24 * j + a + 2 * m) := by rw [he _ (by omega)]; congr 1; omega
      have g2 : it (a + 2 * m + 1) = mi (24 * j + a + 2 * m + 1) := by rw [he _ (by omega)]; congr 1; omega
      -- the two sides at this pair
      have C : ∀ (post : Int32 → Int32 → (Nat → Int32) → (Nat → Int32) → Prop) (mx an : Nat → Int32), (((lg_cmp (it (a + 2 * m)) (1 : Int64)) < 0 → post 0 (nI m) mx an) ∧ (¬ (lg_cmp (it (a + 2 * m)) (1 : Int64)) < 0 → (0 < (lg_cmp (it (a + 2 * m)) ((nI (2 ^ c - 1)).toInt64)) → post 0 (nI m) mx an) ∧ (¬ 0 < (lg_cmp (it (a + 2 * m)) ((nI (2 ^ c - 1)).toInt64)) → ((lg_cmp (it (a + 2 * m + 1)) (0 : Int64)) < 0 → post 0 (nI m) mx an) ∧ (¬ (lg_cmp (it (a + 2 * m + 1)) (0 : Int64)) < 0 → ((lg_cmp (it (a + 2 * m + 1)) (1 : Int64)) ≤ 0 → vp_in (nI m) 6 ∧ vp_in (nI m) 6 ∧ wp_X3_read_L8 it (nI a) (nI n) (nI (2 ^ c - 1)) post (d + 1) (nI m + (1 : Int32)) (upd mx (nI m).toNatClampNeg ((it (a + 2 * m)).toInt32)) (upd an (nI m).toNatClampNeg ((it (a + 2 * m + 1)).toInt32)) (nI m + 1)) ∧ (¬ (lg_cmp (it (a + 2 * m + 1)) (1 : Int64)) ≤ 0 → post 0 (nI m) mx an))))) → wp_X3_read_L8 it (nI a) (nI n) (nI (2 ^ c - 1)) post (d + 1 + 1) (nI m) mx an (nI m) := by
        intro post mx an h
        refine q_f hl ?_
        unfold wp_X4_valueAt
        rw [ix2, ix1, nI_clamp (n := a + 2 * m) (by omega), nI_clamp (n := a + 2 * m + 1) (by omega)]
        exact ⟨v1, v2, h⟩
      have D : ∀ (post : Int32 → Prop), (((lg_cmp (it (a + 2 * m)) (1 : Int64)) < 0 → wp_X8_wrongPairs_L19 mi now (nI j) (nI a) (nI n) 0 post (d + 1) 0 (nI m + 1)) ∧ (¬ (lg_cmp (it (a + 2 * m)) (1 : Int64)) < 0 → wp_X8_allOf now (fun r2' => (0 < (lg_cmp (it (a + 2 * m)) (r2'.toInt64)) → wp_X8_wrongPairs_L19 mi now (nI j) (nI a) (nI n) 0 post (d + 1) 0 (nI m + 1)) ∧ (¬ 0 < (lg_cmp (it (a + 2 * m)) (r2'.toInt64)) → ((lg_cmp (it (a + 2 * m + 1)) (0 : Int64)) < 0 → wp_X8_wrongPairs_L19 mi now (nI j) (nI a) (nI n) 0 post (d + 1) 0 (nI m + 1)) ∧ (¬ (lg_cmp (it (a + 2 * m + 1)) (0 : Int64)) < 0 → (0 < (lg_cmp (it (a + 2 * m + 1)) (1 : Int64)) → wp_X8_wrongPairs_L19 mi now (nI j) (nI a) (nI n) 0 post (d + 1) 0 (nI m + 1)) ∧ (¬ 0 < (lg_cmp (it (a + 2 * m + 1)) (1 : Int64)) → wp_X8_wrongPairs_L19 mi now (nI j) (nI a) (nI n) 0 post (d + 1) 1 (nI m + 1))))))) → wp_X8_wrongPairs_L19 mi now (nI j) (nI a) (nI n) 0 post (d + 1 + 1) 1 (nI m) := by
        intro post h
        refine q_f hl (n_f rfl ?_)
        rw [ix24, ix2, ix1, nI_clamp (n := 24 * j + a + 2 * m) (by omega), nI_clamp (n := 24 * j + a + 2 * m + 1) (by omega), ← g1, ← g2]
        exact ⟨u1, u2, q_f ne10 h⟩
      -- once a pair was wrong, the model goes on to the end
      have Z : ∀ (post : Int32 → Prop), post (-2) → ∀ (dd k : Nat), k + dd = n → wp_X8_wrongPairs_L19 mi now (nI j) (nI a) (nI n) 0 post (dd + 1) 0 (nI k) := by
        intro post p dd
        induction dd with
        | zero =>
          intro k hk
          have : k = n := by omega
          subst this
          exact q_t (nI_le (Nat.le_refl _) (by omega)) (q_t rfl (q_t rfl p))
        | succ dd ih2 =>
          intro k hk
          refine q_f (nI_ge (by omega) (by omega)) (n_f rfl ?_)
          rw [ix24, ix2, ix1, ← nI_succ]
          exact ⟨vp_in_nI (by omega) (by decide), vp_in_nI (by omega) (by decide), q_t rfl (ih2 (k + 1) (by omega))⟩
      rcases pr_case (it (a + 2 * m)) (it (a + 2 * m + 1)) hc m4 with ⟨Mm, bm, M1, M2, i1, i2, c7, c8⟩ | ⟨c7, c8⟩
      · rcases ih (m + 1) (by omega) with ⟨M, b, hMb, h7, h8⟩ | ⟨h7, h8⟩
        · refine Or.inl ⟨fun k => if k = m then Mm else M k, fun k => if k = m then bm else b k, fun k h1 h2 => ?_, fun post mx an p => C post mx an (c7 ⟨w1, w1, ?_⟩), fun post p => D post (c8 ?_)⟩
          · by_cases e : k = m
            · subst e
              simp only [if_true]
              exact ⟨M1, M2, i1, i2⟩
            · simp only [if_neg e]
              exact hMb k (by omega) h2
          · rw [ix1, nI_clamp (n := m) (by omega), i1, i2, bN_i, lN_i]
            refine h7 post _ _ (fun mx' an' q1 q2 => p mx' an' (fun k h1 h2 => ?_) (fun k hk => ?_))
            · by_cases e : k = m
              · subst e
                simp only [if_true]
                have := q2 k (by omega)
                rw [u_s rfl, u_s rfl] at this
                exact this
              · simp only [if_neg e]
                exact q1 k (by omega) h2
            · have := q2 k (by omega)
              rw [u_n (by omega), u_n (by omega)] at this
              exact this
          · rw [← nI_succ]; exact h8 post p
        · refine Or.inr ⟨fun post mx an p => C post mx an (c7 ⟨w1, w1, ?_⟩), fun post p => D post (c8 ?_)⟩
          · rw [ix1]; exact h7 post _ _ p
          · rw [← nI_succ]; exact h8 post p
      · refine Or.inr ⟨fun post mx an p => C post mx an (c7 (p _ _ _)), fun post p => D post (c8 ?_)⟩
        rw [← nI_succ]; exact Z post p d (m + 1) (by omega)
  rcases L n 0 (by omega) with ⟨M, b, hMb, h7, h8⟩ | ⟨h7, h8⟩
  · refine Or.inl ⟨M, b, fun k hk => hMb k (by omega) hk, fun k hk => ?_, fun post mx an p => ⟨n + 1, h7 post mx an (fun mx' an' q1 _ => p mx' an' (fun k hk => q1 k (by omega) hk))⟩, fun post p => ⟨n + 1, h8 post p⟩⟩
    obtain ⟨z1, z2, z3, z4⟩ := hMb k (by omega) hk
    refine ⟨z1, z2, ?_, ?_⟩
    · rw [← z3, he _ (by omega)]; congr 1; omega
    · rw [← z4, he _ (by omega)]; congr 1; omega
  · exact Or.inr ⟨fun post mx an p => ⟨n + 1, h7 post mx an p⟩, fun post p => ⟨n + 1, h8 post p⟩⟩
theorem s_row {lane size : Int32} {it : Nat → Int64} {ml ms : Nat → Int32} {mi : Nat → Int64} {c j l n : Nat} (hc : c ≤ 8) {now : Nat → Int32} (m4 : now 4 = nI c) (hj : j < 4) (hl : l < 4) (n1 : 1 ≤ n) (hn : n ≤ 6) (h : SR lane size it (ml j) (ms j) (fun x => mi (24 * j + x))) (x : Int32) :
    (∃ r : Int32, ¬ r = 0 ∧ (∀ (post : Int32 → Int32 → (Nat → Int32) → (Nat → Int32) → Prop) (wp : Int32) (mx an : Nat → Int32), (∀ wp' mx' an', post r wp' mx' an') → wp_X7_readRow (nI c) wp mx an lane size it (nI j) (nI l) x (nI n) post) ∧ ∀ post : Int32 → Prop, post r → wp_X8_wrongPairs ml ms mi now (nI j) (nI l) x (nI n) post) ∨
    ∃ a M b, x = nI a ∧ a + 2 * n ≤ 24 ∧ pairs mi c (24 * j + a) n M b ∧
      (∀ (post : Int32 → Int32 → (Nat → Int32) → (Nat → Int32) → Prop) (wp : Int32) (mx an : Nat → Int32), (∀ mx' an' : Nat → Int32, (∀ k, k < n → mx' k = nI (M k) ∧ an' k = bi (b k)) → post 0 (nI n) mx' an') → wp_X7_readRow (nI c) wp mx an lane size it (nI j) (nI l) x (nI n) post) ∧
      ∀ post : Int32 → Prop, post 0 → wp_X8_wrongPairs ml ms mi now (nI j) (nI l) x (nI n) post := by
  have e2 : (2 : Int32) * nI n = nI (2 * n) := pk_mul 2 n
  unfold wp_X7_readRow wp_X8_wrongPairs
  rw [e2]
  rcases s_refuse hj hl h x (nI (2 * n)) with ⟨r, hr, hr7, hr8⟩ | ⟨n', a, b, hn', hl1, hl2, hs1, hs2, hit, rfl, hb, hab, hr7, hr8⟩
  · refine Or.inl ⟨r, hr, fun post wp mx an p => ⟨x_in1 hj, hr7 _ (q_f hr (p _ _ _))⟩, fun post p => hr8 _ ⟨1, ?_⟩⟩
    exact q_f (nI_ge (b := n) (a := 0) (by omega) (by omega)) (n_t hr (q_f hr p))
  · have hbn : b = 2 * n := by
      rcases Nat.lt_or_ge b (2 ^ 31) with q | q
      · exact ((nI_eq (by omega) q).mp hb).symm
      · omega
    subst hbn
    rcases s_rowE hc m4 hj hn hab hn' hit with ⟨M, b, p1, p2, h7, h8⟩ | ⟨h7, h8⟩
    · exact Or.inr ⟨a, M, b, rfl, by omega, p2, fun post wp mx an p => ⟨x_in1 hj, hr7 _ (q_t rfl ⟨x_in1 hj, s0_all hc (h7 _ mx an (fun mx' an' q => q_f ne10 (p mx' an' q)))⟩)⟩, fun post p => hr8 _ (h8 _ p)⟩
    · exact Or.inl ⟨-2, by decide, fun post wp mx an p => ⟨x_in1 hj, hr7 _ (q_t rfl ⟨x_in1 hj, s0_all hc (h7 _ mx an (fun wp' mx' an' => q_t rfl (p _ _ _)))⟩)⟩, fun post p => hr8 _ (h8 _ p)⟩
def ags (kind fine day c : Nat) (mi : Nat → Nat) (M : Nat → Nat) (b : Nat → Bool) (k i : Nat) : Bool := nb kind fine day c mi (M k) i == b k
def ly (kind fine day c : Nat) (mi : Nat → Nat) (M : Nat → Nat) (b : Nat → Bool) (n i : Nat) : Nat := fb_ct (fun k => !ags kind fine day c mi M b k i) n
theorem s0_agreeing {c mix kd fn d : Nat} (hc : c ≤ 8) (hm : mix < 2 ^ c) (hk : kd < 5) (hf : fn ≤ 9) (hd : d ≤ 9999) {milks : Nat → Int32} (hok : okM c milks) (b : Bool) {post : Int32 → Prop}
    (p : post (nI (setTo (fun i => nb kd fn d c (tn milks) mix i == b) c))) : wp_X0_agreeing (nI c) milks (nI d) (nI kd) (nI fn) (nI mix) (bi b) post := by
  refine s0_noticedAs hc hm hf hk hd hok ?_
  cases b with
  | true =>
    refine n_f rfl ?_
    have e : setTo (fun i => nb kd fn d c (tn milks) mix i == true) c = nset kd fn d c (tn milks) mix := by
      unfold nset; apply setTo_ext; intro i hi; cases nb kd fn d c (tn milks) mix i <;> rfl
    rw [e] at p; exact p
  | false =>
    refine n_t (by decide) (s0_all hc ?_)
    rw [andn (pow_pos2 c) hc]
    have e : setTo (fun i => nb kd fn d c (tn milks) mix i == false) c = setTo (fun i => (2 ^ c - 1).testBit i && !(nset kd fn d c (tn milks) mix).testBit i) c := by
      apply setTo_ext; intro i hi
      rw [Nat.testBit_two_pow_sub_one, nset_bit hi]
      simp [hi]
    rw [e] at p; exact p
theorem nI_or (a b : Nat) : nI a ||| nI b = nI (a ||| b) := fa_or a b
section FT
variable {c n d : Nat} {milks : Nat → Int32} {M : Nat → Nat} {b : Nat → Bool} {mx an : Nat → Int32}
theorem s_fitting (hc : c ≤ 8) (hn : n ≤ 6) (hM : ∀ k, k < n → M k < 2 ^ c) (hd : d ≤ 9999) (hok : okM c milks) (hr : ∀ k, k < n → mx k = nI (M k) ∧ an k = bi (b k)) {kd fn : Nat} (hk : kd < 5) (hf : fn ≤ 9) {post : Int32 → Prop}
    (p : post (nI (setTo (fun i => decide (ly kd fn d c (tn milks) M b n i ≤ 0)) c))) : wp_X3_fitting (nI n) mx an (nI c) milks (nI d) (nI kd) (nI fn) post := by
  have hp := pow_le8 hc
  refine s0_all hc ⟨n + 1, ?_⟩
  have L : ∀ (dd k : Nat), k + dd = n → wp_X3_fitting_L9 (nI n) mx an (nI c) milks (nI d) (nI kd) (nI fn) post (dd + 1) (nI (setTo (fun i => decide (ly kd fn d c (tn milks) M b k i ≤ 0)) c)) (nI k) := by
    intro dd
    induction dd with
    | zero =>
      intro k hk2
      have : k = n := by omega
      subst this
      exact q_t (nI_le (Nat.le_refl _) (by omega)) p
    | succ dd ih =>
      intro k hk2
      refine q_f (nI_ge (by omega) (by omega)) ?_
      rw [nI_clamp (by omega), (hr k (by omega)).1, (hr k (by omega)).2, ← nI_succ]
      refine ⟨vp_in_nI (by omega) (by decide), vp_in_nI (by omega) (by decide), s0_agreeing hc (hM k (by omega)) hk hf hd hok (b k) ?_⟩
      have e : setTo (fun i => decide (ly kd fn d c (tn milks) M b k i ≤ 0)) c &&& setTo (fun i => nb kd fn d c (tn milks) (M k) i == b k) c = setTo (fun i => decide (ly kd fn d c (tn milks) M b (k + 1) i ≤ 0)) c := by
        apply Nat.eq_of_testBit_eq
        intro i
        rw [Nat.testBit_and, setTo_bit, setTo_bit, setTo_bit]
        have e1 : ly kd fn d c (tn milks) M b (k + 1) i = ly kd fn d c (tn milks) M b k i + (if (!(nb kd fn d c (tn milks) (M k) i == b k)) then 1 else 0) := rfl
        rw [e1]
        cases decide (i < c) <;> cases (nb kd fn d c (tn milks) (M k) i == b k) <;> simp
      rw [nI_and, e]
      exact ih (k + 1) (by omega)
  have e0 : setTo (fun i => decide (ly kd fn d c (tn milks) M b 0 i ≤ 0)) c = 2 ^ c - 1 := by
    rw [← setTo_true]; apply setTo_ext; intro i hi; rfl
  have := L n 0 (by omega)
  rw [e0] at this; exact this
theorem s_butOne (hc : c ≤ 8) (hn : n ≤ 6) (hM : ∀ k, k < n → M k < 2 ^ c) (hd : d ≤ 9999) (hok : okM c milks) (hr : ∀ k, k < n → mx k = nI (M k) ∧ an k = bi (b k)) {kd fn : Nat} (hk : kd < 5) (hf : fn ≤ 9) {post : Int32 → Prop}
    (p : post (nI (setTo (fun i => decide (ly kd fn d c (tn milks) M b n i ≤ 1)) c))) : wp_X3_fittingButOne (nI n) mx an (nI c) milks (nI d) (nI kd) (nI fn) post := by
  have hp := pow_le8 hc
  refine s0_all hc ⟨n + 1, ?_⟩
  have L : ∀ (dd k : Nat), k + dd = n → wp_X3_fittingButOne_L12 (nI n) mx an (nI c) milks (nI d) (nI kd) (nI fn) post (dd + 1) (nI (setTo (fun i => decide (ly kd fn d c (tn milks) M b k i = 0)) c)) (nI (setTo (fun i => decide (ly kd fn d c (tn milks) M b k i = 1)) c)) (nI k) := by
    intro dd
    induction dd with
    | zero =>
      intro k hk2
      have : k = n := by omega
      subst this
      refine q_t (nI_le (Nat.le_refl _) (by omega)) ?_
      have e : setTo (fun i => decide (ly kd fn d c (tn milks) M b k i = 0)) c ||| setTo (fun i => decide (ly kd fn d c (tn milks) M b k i = 1)) c = setTo (fun i => decide (ly kd fn d c (tn milks) M b k i ≤ 1)) c := by
        apply Nat.eq_of_testBit_eq
        intro i
        rw [Nat.testBit_or, setTo_bit, setTo_bit, setTo_bit]
        cases decide (i < c) with
        | false => rfl
        | true =>
          rw [Bool.true_and, Bool.true_and, Bool.true_and, ← Bool.decide_or]
          exact decide_eq_decide.mpr (by omega)
      rw [nI_or, e]; exact p
    | succ dd ih =>
      intro k hk2
      refine q_f (nI_ge (by omega) (by omega)) ?_
      rw [nI_clamp (by omega), (hr k (by omega)).1, (hr k (by omega)).2, ← nI_succ]
      refine ⟨vp_in_nI (by omega) (by decide), vp_in_nI (by omega) (by decide), s0_agreeing hc (hM k (by omega)) hk hf hd hok (b k) ?_⟩
      have e1 : ∀ i, ly kd fn d c (tn milks) M b (k + 1) i = ly kd fn d c (tn milks) M b k i + (if (!(nb kd fn d c (tn milks) (M k) i == b k)) then 1 else 0) := fun i => rfl
      have e : setTo (fun i => decide (ly kd fn d c (tn milks) M b k i = 0)) c &&& setTo (fun i => nb kd fn d c (tn milks) (M k) i == b k) c = setTo (fun i => decide (ly kd fn d c (tn milks) M b (k + 1) i = 0)) c := by
        apply Nat.eq_of_testBit_eq
        intro i
        rw [Nat.testBit_and, setTo_bit, setTo_bit, setTo_bit, e1]
        cases decide (i < c) <;> cases (nb kd fn d c (tn milks) (M k) i == b k) <;> simp
      have e' : (setTo (fun i => decide (ly kd fn d c (tn milks) M b k i = 1)) c &&& setTo (fun i => nb kd fn d c (tn milks) (M k) i == b k) c) ||| setTo (fun i => (setTo (fun i => decide (ly kd fn d c (tn milks) M b k i = 0)) c).testBit i && !(setTo (fun i => nb kd fn d c (tn milks) (M k) i == b k) c).testBit i) c = setTo (fun i => decide (ly kd fn d c (tn milks) M b (k + 1) i = 1)) c := by
        apply Nat.eq_of_testBit_eq
        intro i
        rw [Nat.testBit_or, Nat.testBit_and, setTo_bit, setTo_bit, setTo_bit, setTo_bit, setTo_bit, setTo_bit, e1]
        cases decide (i < c) with
        | false => simp
        | true => cases (nb kd fn d c (tn milks) (M k) i == b k) <;> simp
      rw [nI_and, nI_and, andn (setTo_lt _ c) hc, nI_or, e, e']
      exact ih (k + 1) (by omega)
  have e0 : setTo (fun i => decide (ly kd fn d c (tn milks) M b 0 i = 0)) c = 2 ^ c - 1 := by
    rw [← setTo_true]; apply setTo_ext; intro i hi; rfl
  have e1 : setTo (fun i => decide (ly kd fn d c (tn milks) M b 0 i = 1)) c = 0 := by
    have h : setTo (fun i => decide (ly kd fn d c (tn milks) M b 0 i = 1)) c = setTo (fun _ => false) c := setTo_ext (fun i hi => rfl)
    rw [h, setTo_false]
  have := L n 0 (by omega)
  rw [e0, e1] at this; exact this
theorem or_step2 (p : Nat → Bool) {n : Nat} (hn : n < 10) : nI (setTo p n) ||| ((1 : Int32) <<< (nI n &&& 31)) = nI (setTo p n + 2 ^ n) := by
  have e : (1 : Int32) <<< (nI n &&& 31) = nI (2 ^ n) := (by decide : ∀ n, n < 10 → (1 : Int32) <<< (nI n &&& 31) = nI (2 ^ n)) n hn
  rw [e, fa_or, Nat.or_two_pow_eq_add_of_lt (setTo_lt p n)]
def fitS (kd fn d c : Nat) (mi : Nat → Nat) (M : Nat → Nat) (b : Nat → Bool) (n : Nat) : Nat := setTo (fun i => decide (ly kd fn d c mi M b n i ≤ 0)) c
theorem fitS_lt (kd fn d c : Nat) (mi : Nat → Nat) (M : Nat → Nat) (b : Nat → Bool) (n : Nat) : fitS kd fn d c mi M b n < 2 ^ c := setTo_lt _ c
theorem setTo_s (p : Nat → Bool) (n : Nat) : setTo p (n + 1) = setTo p n + if p n then 2 ^ n else 0 := rfl
theorem s_kinds (hc : c ≤ 8) (hn : n ≤ 6) (hM : ∀ k, k < n → M k < 2 ^ c) (hd : d ≤ 9999) (hok : okM c milks) (hr : ∀ k, k < n → mx k = nI (M k) ∧ an k = bi (b k)) {fn : Nat} (hf : fn ≤ 9) {post : Int32 → Prop}
    (p : post (nI (setTo (fun kd => !decide (fitS kd fn d c (tn milks) M b n = 0)) 5))) : wp_X3_kindsThatFit (nI n) mx an (nI c) milks (nI d) (nI fn) post := by
  have hp := pow_le8 hc
  have L : ∀ (dd k : Nat), k + dd = 5 → wp_X3_kindsThatFit_L5 (nI n) mx an (nI c) milks (nI d) (nI fn) post (dd + 1) (nI (setTo (fun kd => !decide (fitS kd fn d c (tn milks) M b n = 0)) k)) (nI k) := by
    intro dd
    induction dd with
    | zero =>
      intro k hk
      have : k = 5 := by omega
      subst this
      exact q_t (by decide) p
    | succ dd ih =>
      intro k hk
      have hl := fitS_lt k fn d c (tn milks) M b n
      refine q_f (nI_ge (a := k) (b := 5) (by omega) (by decide)) (s_fitting hc hn hM hd hok hr (by omega) hf ?_)
      have e := ih (k + 1) (by omega)
      rw [setTo_s] at e
      rw [← nI_succ, show setTo (fun i => decide (ly k fn d c (tn milks) M b n i ≤ 0)) c = fitS k fn d c (tn milks) M b n from rfl]
      by_cases h : fitS k fn d c (tn milks) M b n = 0
      · rw [if_neg (by simp [h]), Nat.add_zero] at e
        exact q_t ((nI0 (by omega)).mpr h) e
      · rw [if_pos (by simp [h])] at e
        refine q_f (fun q => h ((nI0 (by omega)).mp q)) ?_
        rw [or_step2 _ (by omega)]; exact e
  exact ⟨6, L 5 0 (by omega)⟩
theorem s_fines (hc : c ≤ 8) (hn : n ≤ 6) (hM : ∀ k, k < n → M k < 2 ^ c) (hd : d ≤ 9999) (hok : okM c milks) (hr : ∀ k, k < n → mx k = nI (M k) ∧ an k = bi (b k)) {kd : Nat} (hk : kd < 5) {post : Int32 → Prop}
    (p : post (nI (setTo (fun fn => decide (1 ≤ fn) && !decide (fitS kd fn d c (tn milks) M b n = 0)) 10))) : wp_X3_finesThatFit (nI n) mx an (nI c) milks (nI d) (nI kd) post := by
  have hp := pow_le8 hc
  have L : ∀ (dd k : Nat), k + dd = 10 → 1 ≤ k → wp_X3_finesThatFit_L5 (nI n) mx an (nI c) milks (nI d) (nI kd) post (dd + 1) (nI (setTo (fun fn => decide (1 ≤ fn) && !decide (fitS kd fn d c (tn milks) M b n = 0)) k)) (nI k) := by
    intro dd
    induction dd with
    | zero =>
      intro k hk _
      have : k = 10 := by omega
      subst this
      exact q_t (by decide) p
    | succ dd ih =>
      intro k hk2 k1
      have hl := fitS_lt kd k d c (tn milks) M b n
      refine q_f (nI_nlt (b := k) (a := 9) (by omega) (by decide)) (s_fitting hc hn hM hd hok hr hk (by omega) ?_)
      have e := ih (k + 1) (by omega) (by omega)
      rw [setTo_s] at e
      rw [← nI_succ, show setTo (fun i => decide (ly kd k d c (tn milks) M b n i ≤ 0)) c = fitS kd k d c (tn milks) M b n from rfl]
      by_cases h : fitS kd k d c (tn milks) M b n = 0
      · rw [if_neg (by simp [h]), Nat.add_zero] at e
        exact q_t ((nI0 (by omega)).mpr h) e
      · rw [if_pos (by simp [h]; omega)] at e
        refine q_f (fun q => h ((nI0 (by omega)).mp q)) ?_
        rw [or_step2 _ (by omega)]; exact e
  exact ⟨10, L 9 1 (by omega) (by omega)⟩
/-- the model's lies, by any state that is like this one -/
theorem s_liesN {mi : Nat → Int64} {P : Nat → Int32} {j a t kd fn : Nat} (hc : c ≤ 8) (hn : n ≤ 6) (hj : j < 4) (ha : a + 2 * n ≤ 24) (hpr : pairs mi c (24 * j + a) n M b) (ht : t < 4) (hk : kd < 5) (hf : fn ≤ 9) (hd : d ≤ 9999) (h4 : P 4 = nI c) (h5 : ∀ i, i < c → P (5 + i) = milks i) (hok : okM c milks) (hkd : P (14 + t) = nI kd) (hfn : P (18 + t) = nI fn) (h0 : P 0 = nI d) {i : Nat} (hi : i < c) {post : Int32 → Prop}
    (p : post (nI (ly kd fn d c (tn milks) M b n i))) : wp_X8_liesN mi P (nI t) (nI j) (nI a) (nI n) (nI i) post := by
  have L : ∀ (dd k : Nat), k + dd = n → wp_X8_liesN_L6 mi P (nI t) (nI j) (nI a) (nI n) (nI i) post (dd + 1) (nI (ly kd fn d c (tn milks) M b k i)) (nI k) := by
    intro dd
    induction dd with
    | zero =>
      intro k hk2
      have : k = n := by omega
      subst this
      exact q_t (nI_le (Nat.le_refl _) (by omega)) p
    | succ dd ih =>
      intro k hk2
      obtain ⟨M1, M2, i1, i2⟩ := hpr k (by omega)
      have e := ih (k + 1) (by omega)
      have e1 : ly kd fn d c (tn milks) M b (k + 1) i = ly kd fn d c (tn milks) M b k i + (if (!(nb kd fn d c (tn milks) (M k) i == b k)) then 1 else 0) := rfl
      rw [e1] at e
      refine q_f (nI_ge (by omega) (by omega)) ?_
      rw [ix24, ix2, ix1, nI_clamp (n := 24 * j + a + 2 * k) (by omega), nI_clamp (n := 24 * j + a + 2 * k + 1) (by omega), i1, i2, lN_i]
      refine ⟨vp_in_nI (by omega) (by decide), s8_noticesIn hc ht M2 hf hk hd hi h4 h5 hok hkd hfn h0 ⟨vp_in_nI (by omega) (by decide), ?_⟩⟩
      unfold wp_X8_liesN_J73
      rw [← nI_succ k, show nI (ly kd fn d c (tn milks) M b k i) + (1 : Int32) = nI (ly kd fn d c (tn milks) M b k i + 1) from nI_add _ 1, show nI (ly kd fn d c (tn milks) M b k i) + (0 : Int32) = nI (ly kd fn d c (tn milks) M b k i + 0) from nI_add _ 0]
      cases hb : b k with
      | false =>
        rw [hb] at e
        refine n_t (by decide) ?_
        cases hnb : nb kd fn d c (tn milks) (M k) i with
        | false => rw [hnb] at e; exact n_f rfl e
        | true => rw [hnb] at e; exact n_t (by decide) e
      | true =>
        rw [hb] at e
        refine n_f (by decide) ?_
        cases hnb : nb kd fn d c (tn milks) (M k) i with
        | false => rw [hnb] at e; exact n_t (by decide) e
        | true => rw [hnb] at e; exact n_f rfl e
  exact ⟨n + 1, L n 0 (by omega)⟩
theorem s_fitByN {mi : Nat → Int64} {now : Nat → Int32} {j a t kd fn : Nat} (hc : c ≤ 8) (hn : n ≤ 6) (hj : j < 4) (ha : a + 2 * n ≤ 24) (hpr : pairs mi c (24 * j + a) n M b) (ht : t < 4) (hk : kd < 5) (hf : fn ≤ 9) (hd : d ≤ 9999) (h4 : now 4 = nI c) (h5 : ∀ i, i < c → now (5 + i) = milks i) (hok : okM c milks) (hkd : now (14 + t) = nI kd) (hfn : now (18 + t) = nI fn) (h0 : now 0 = nI d) {most : Nat} (hm : most ≤ 9) {post : Int32 → Prop}
    (p : post (nI (setTo (fun i => decide (ly kd fn d c (tn milks) M b n i ≤ most)) c))) : wp_X8_fitByN mi now (nI t) (nI j) (nI a) (nI n) (nI most) post := by
  have L : ∀ (dd k : Nat), k + dd = c → wp_X8_fitByN_L6 mi now (nI t) (nI j) (nI a) (nI n) (nI most) post (dd + 1) (nI (setTo (fun i => decide (ly kd fn d c (tn milks) M b n i ≤ most)) k)) (nI k) := by
    intro dd
    induction dd with
    | zero =>
      intro k hk2
      have : k = c := by omega
      subst this
      exact q_t (by rw [h4]; exact nI_le (Nat.le_refl _) (by omega)) p
    | succ dd ih =>
      intro k hk2
      have e := ih (k + 1) (by omega)
      rw [setTo_s] at e
      have bnd : ly kd fn d c (tn milks) M b n k ≤ n := fb_ct_le _ n
      refine q_f (by rw [h4]; exact nI_ge (by omega) (by omega)) (s_liesN hc hn hj ha hpr ht hk hf hd h4 h5 hok hkd hfn h0 (by omega) ?_)
      rw [← nI_succ]
      by_cases h : ly kd fn d c (tn milks) M b n k ≤ most
      · rw [if_pos (by simp [h])] at e
        refine q_f (nI_nlt h (by omega)) ?_
        rw [or_step _ (by omega)]; exact e
      · rw [if_neg (by simp [h]), Nat.add_zero] at e
        refine q_t (nI_lt (by omega) (by omega)) ?_
        rw [show nI (setTo (fun i => decide (ly kd fn d c (tn milks) M b n i ≤ most)) k) ||| (0 : Int32) = nI (setTo (fun i => decide (ly kd fn d c (tn milks) M b n i ≤ most)) k) from (fa_or _ 0).trans (by rw [Nat.or_zero])]
        exact e
  exact ⟨c + 1, L c 0 (by omega)⟩
theorem s_liesT {mi : Nat → Int64} {P : Nat → Int32} {j a t kd fn : Nat} (hc : c ≤ 8) (hn : n ≤ 6) (hj : j < 4) (ha : a + 2 * n ≤ 24) (hpr : pairs mi c (24 * j + a) n M b) (ht : t < 4) (hk : kd < 5) (hf : fn ≤ 9) (hd : d ≤ 9999) (h4 : P 4 = nI c) (h5 : ∀ i, i < c → P (5 + i) = milks i) (hok : okM c milks) (hkd : P (14 + t) = nI kd) (hfn : P (18 + t) = nI fn) (h0 : P 0 = nI d) {i : Nat} (hi : i < c) {post : Int32 → Prop}
    (p : post (nI (ly kd fn d c (tn milks) M b n i))) : wp_X8_liesT mi P (nI t) (nI j) (nI a) (nI n) (nI i) post := by
  have L : ∀ (dd k : Nat), k + dd = n → wp_X8_liesT_L6 mi P (nI t) (nI j) (nI a) (nI n) (nI i) post (dd + 1) (nI (ly kd fn d c (tn milks) M b k i)) (nI k) := by
    intro dd
    induction dd with
    | zero =>
      intro k hk2
      have : k = n := by omega
      subst this
      exact q_t (nI_le (Nat.le_refl _) (by omega)) p
    | succ dd ih =>
      intro k hk2
      obtain ⟨M1, M2, i1, i2⟩ := hpr k (by omega)
      have e := ih (k + 1) (by omega)
      have e1 : ly kd fn d c (tn milks) M b (k + 1) i = ly kd fn d c (tn milks) M b k i + (if (!(nb kd fn d c (tn milks) (M k) i == b k)) then 1 else 0) := rfl
      rw [e1] at e
      refine q_f (nI_ge (by omega) (by omega)) ?_
      rw [ix24, ix2, ix1, nI_clamp (n := 24 * j + a + 2 * k) (by omega), nI_clamp (n := 24 * j + a + 2 * k + 1) (by omega), i1, i2, lN_i]
      refine ⟨vp_in_nI (by omega) (by decide), s8_noticesIn hc ht M2 hf hk hd hi h4 h5 hok hkd hfn h0 ⟨vp_in_nI (by omega) (by decide), ?_⟩⟩
      unfold wp_X8_liesT_J73
      rw [← nI_succ k, show nI (ly kd fn d c (tn milks) M b k i) + (1 : Int32) = nI (ly kd fn d c (tn milks) M b k i + 1) from nI_add _ 1, show nI (ly kd fn d c (tn milks) M b k i) + (0 : Int32) = nI (ly kd fn d c (tn milks) M b k i + 0) from nI_add _ 0]
      cases hb : b k with
      | false =>
        rw [hb] at e
        refine n_t (by decide) ?_
        cases hnb : nb kd fn d c (tn milks) (M k) i with
        | false => rw [hnb] at e; exact n_f rfl e
        | true => rw [hnb] at e; exact n_t (by decide) e
      | true =>
        rw [hb] at e
        refine n_f (by decide) ?_
        cases hnb : nb kd fn d c (tn milks) (M k) i with
        | false => rw [hnb] at e; exact n_t (by decide) e
        | true => rw [hnb] at e; exact n_f rfl e
  exact ⟨n + 1, L n 0 (by omega)⟩
theorem s_fitByT {mi : Nat → Int64} {now P : Nat → Int32} {j a t kd fn : Nat} (hc : c ≤ 8) (hn : n ≤ 6) (hj : j < 4) (ha : a + 2 * n ≤ 24) (hpr : pairs mi c (24 * j + a) n M b) (ht : t < 4) (hk : kd < 5) (hf : fn ≤ 9) (hd : d ≤ 9999) (h4 : now 4 = nI c) (g4 : P 4 = nI c) (h5 : ∀ i, i < c → P (5 + i) = milks i) (hok : okM c milks) (hkd : P (14 + t) = nI kd) (hfn : P (18 + t) = nI fn) (h0 : P 0 = nI d) {most : Nat} (hm : most ≤ 9) {post : Int32 → Prop}
    (p : post (nI (setTo (fun i => decide (ly kd fn d c (tn milks) M b n i ≤ most)) c))) : wp_X8_fitByT mi now P (nI t) (nI j) (nI a) (nI n) (nI most) post := by
  have L : ∀ (dd k : Nat), k + dd = c → wp_X8_fitByT_L6 mi now P (nI t) (nI j) (nI a) (nI n) (nI most) post (dd + 1) (nI (setTo (fun i => decide (ly kd fn d c (tn milks) M b n i ≤ most)) k)) (nI k) := by
    intro dd
    induction dd with
    | zero =>
      intro k hk2
      have : k = c := by omega
      subst this
      exact q_t (by rw [h4]; exact nI_le (Nat.le_refl _) (by omega)) p
    | succ dd ih =>
      intro k hk2
      have e := ih (k + 1) (by omega)
      rw [setTo_s] at e
      have bnd : ly kd fn d c (tn milks) M b n k ≤ n := fb_ct_le _ n
      refine q_f (by rw [h4]; exact nI_ge (by omega) (by omega)) (s_liesT hc hn hj ha hpr ht hk hf hd g4 h5 hok hkd hfn h0 (by omega) ?_)
      rw [← nI_succ]
      by_cases h : ly kd fn d c (tn milks) M b n k ≤ most
      · rw [if_pos (by simp [h])] at e
        refine q_f (nI_nlt h (by omega)) ?_
        rw [or_step _ (by omega)]; exact e
      · rw [if_neg (by simp [h]), Nat.add_zero] at e
        refine q_t (nI_lt (by omega) (by omega)) ?_
        rw [show nI (setTo (fun i => decide (ly kd fn d c (tn milks) M b n i ≤ most)) k) ||| (0 : Int32) = nI (setTo (fun i => decide (ly kd fn d c (tn milks) M b n i ≤ most)) k) from (fa_or _ 0).trans (by rw [Nat.or_zero])]
        exact e
  exact ⟨c + 1, L c 0 (by omega)⟩
end FT
