/-! pure part 1: the relation of the class's state and the reference's, and the plain steps -/
theorem q_t {c A B : Prop} (h : c) (a : A) : (c → A) ∧ (¬ c → B) := ⟨fun _ => a, fun n => absurd h n⟩
theorem q_f {c A B : Prop} (h : ¬ c) (b : B) : (c → A) ∧ (¬ c → B) := ⟨fun n => absurd n h, fun _ => b⟩
theorem n_t {c A B : Prop} (h : ¬ c) (a : A) : (¬ c → A) ∧ (c → B) := ⟨fun _ => a, fun n => absurd n h⟩
theorem n_f {c A B : Prop} (h : c) (b : B) : (¬ c → A) ∧ (c → B) := ⟨fun n => absurd h n, fun _ => b⟩
theorem rng (x : Int32) (lo hi : Nat) (hh : hi < 2 ^ 31) (hl : lo ≤ hi) : x < nI lo ∨ (¬ x < nI lo ∧ nI hi < x) ∨ ∃ j, lo ≤ j ∧ j ≤ hi ∧ x = nI j ∧ ¬ nI j < nI lo ∧ ¬ nI hi < nI j := by
  have e1 : (nI lo).toInt = lo := nI_toInt (by omega)
  have e2 : (nI hi).toInt = hi := nI_toInt hh
  rcases Int.lt_or_le x.toInt lo with h | h
  · left; rw [fa_lt, e1]; exact h
  · right
    rcases Int.lt_or_le hi x.toInt with h2 | h2
    · left; exact ⟨by rw [fa_lt, e1]; omega, by rw [fa_lt, e2]; exact h2⟩
    · right
      refine ⟨x.toInt.toNat, by omega, by omega, ?_, nI_nlt (by omega) (by omega), nI_nlt (by omega) hh⟩
      rw [fa_eq, nI_toInt (by omega)]; omega
theorem s_in_lo {x lo hi : Int32} {post : Int32 → Prop} (h : x < lo) (p : post 0) : wp_X8_in x lo hi post := q_t h p
theorem s_in_hi {x lo hi : Int32} {post : Int32 → Prop} (h : ¬ x < lo) (h2 : hi < x) (p : post 0) : wp_X8_in x lo hi post := q_f h (q_t h2 p)
theorem s_in_ok {x lo hi : Int32} {post : Int32 → Prop} (h : ¬ x < lo) (h2 : ¬ hi < x) (p : post 1) : wp_X8_in x lo hi post := q_f h (q_f h2 p)
def MO (c : Nat) (m b d r : Int32) : Prop := (∃ x, x < 2 ^ c ∧ m = nI x) ∧ (b = -4 ∨ ∃ y, y < c ∧ b = nI y) ∧ (∃ z, z ≤ 9999 ∧ d = nI z) ∧ (∃ z, z < 2 ^ 31 ∧ r = nI z)
def ri (w k j : Nat) : Nat := (w + 9 + j - k) % 8
def DR (c t w k : Nat) (cows tasters newest known mayBe bearer day draw : Int32) (milks kinds fines pm pb pd pw now : Nat → Int32) : Prop :=
  (c ≤ 8 ∧ t ≤ 4 ∧ w < 8 ∧ k ≤ 8) ∧ (cows = nI c ∧ tasters = nI t ∧ newest = nI w ∧ known = nI k) ∧ (now 4 = nI c ∧ now 13 = nI t ∧ now 22 = nI k) ∧
  (∀ i, i < c → now (5 + i) = milks i ∧ ∃ x, 1 ≤ x ∧ x ≤ 9 ∧ milks i = nI x) ∧
  (∀ i, i < t → now (14 + i) = kinds i ∧ now (18 + i) = fines i ∧ (∃ x, x < 5 ∧ kinds i = nI x) ∧ ∃ y, 1 ≤ y ∧ y ≤ 9 ∧ fines i = nI y) ∧
  (now 2 = mayBe ∧ now 3 = bearer ∧ now 0 = day ∧ now 1 = draw ∧ MO c mayBe bearer day draw) ∧
  (∀ j, j < k → now (23 + 4 * j) = pd (ri w k j) ∧ now (24 + 4 * j) = pw (ri w k j) ∧ now (25 + 4 * j) = pm (ri w k j) ∧ now (26 + 4 * j) = pb (ri w k j) ∧ MO c (pm (ri w k j)) (pb (ri w k j)) (pd (ri w k j)) (pw (ri w k j)))
def SR (lane size : Int32) (items : Nat → Int64) (mlane msize : Int32) (mitem : Nat → Int64) : Prop :=
  (size = -1 ∧ mlane = -1) ∨ ∃ l n, l < 4 ∧ n ≤ 24 ∧ lane = nI l ∧ mlane = nI l ∧ size = nI n ∧ msize = nI n ∧ ∀ i, i < 24 → items i = mitem i
def TR (size : Int32) (letters : Nat → Int32) (ml : Int32) (mt : Nat → Int32) : Prop := ∃ n, n ≤ 40 ∧ size = nI n ∧ ml = nI n ∧ ∀ i, i < n → mt i = letters i ∧ ∃ x, 32 ≤ x ∧ x ≤ 126 ∧ letters i = nI x
abbrev RR (v : Nat → Int32) (f : Nat → Nat → Int32) (g : Nat → Nat → Int64) : Prop :=
  (∃ c t w k, DR c t w k (v 1) (v 2) (v 3) (v 4) (v 5) (v 6) (v 7) (v 8) (f 0) (f 1) (f 2) (f 3) (f 4) (f 5) (f 6) (f 29)) ∧
  ((v 0 = 0 ∧ v 40 = 0) ∨ (v 0 = 1 ∧ v 40 = 1 ∧ ∃ c t w k, DR c t w k (v 9) (v 10) (v 11) (v 12) (v 13) (v 14) (v 15) (v 16) (f 7) (f 8) (f 9) (f 10) (f 11) (f 12) (f 13) (f 32))) ∧
  TR (v 17) (f 14) (v 37) (f 28) ∧
  SR (v 29) (v 33) (g 0) (f 26 0) (f 27 0) (fun i => g 4 i) ∧ SR (v 30) (v 34) (g 1) (f 26 1) (f 27 1) (fun i => g 4 (24 + i)) ∧ SR (v 31) (v 35) (g 2) (f 26 2) (f 27 2) (fun i => g 4 (48 + i)) ∧ SR (v 32) (v 36) (g 3) (f 26 3) (f 27 3) (fun i => g 4 (72 + i))
theorem u_s {f : Nat → Int32} {k j : Nat} {x : Int32} (h : j = k) : upd f k x j = x := by rw [h]; exact if_pos rfl
theorem u_n {f : Nat → Int32} {k j : Nat} {x : Int32} (h : j ≠ k) : upd f k x j = f j := if_neg h
theorem sh1 : ∀ n, n < 9 → ((1 : Int32) <<< (nI n &&& 31)) - 1 = nI (2 ^ n - 1) := by decide
theorem lit_add (a n : Nat) : (OfNat.ofNat a : Int32) + nI n = nI (a + n) := by rw [fa_lit]; exact nI_add a n
/-- an int against a count -/
theorem s7_isCow_bad {cows x : Int32} {post : Int32 → Prop} (h : x < 0 ∨ cows ≤ x) (p : post 0) : wp_X7_isCow cows x post := by
  rcases h with h | h
  · exact q_t h p
  · exact ⟨fun _ => p, fun _ => q_t h p⟩
theorem s7_isCow_ok {c i : Nat} {post : Int32 → Prop} (hc : c ≤ 8) (h : i < c) (p : post 1) : wp_X7_isCow (nI c) (nI i) post := q_f (nI_pos (by omega)) (q_f (nI_ge h (by omega)) p)
theorem s7_isTaster_bad {cows x : Int32} {post : Int32 → Prop} (h : x < 0 ∨ cows ≤ x) (p : post 0) : wp_X7_isTaster cows x post := s7_isCow_bad h p
theorem s7_isTaster_ok {c i : Nat} {post : Int32 → Prop} (hc : c ≤ 4) (h : i < c) (p : post 1) : wp_X7_isTaster (nI c) (nI i) post := q_f (nI_pos (by omega)) (q_f (nI_ge h (by omega)) p)
theorem in_below_bad {c : Nat} (hc : c ≤ 8) {x : Int32} {post : Int32 → Prop} (h : x < 0 ∨ nI c ≤ x) (p : post 0) : wp_X8_in x 0 (nI c - 1) post := by
  rcases h with h | h
  · exact s_in_lo h p
  · by_cases h0 : x < 0
    · exact s_in_lo h0 p
    · refine s_in_hi h0 ?_ p
      rw [fa_le, nI_toInt (by omega)] at h
      rcases Nat.eq_zero_or_pos c with rfl | hp
      · rw [fa_lt]; have e : (nI 0 - 1).toInt = -1 := by decide
        rw [e]; omega
      · obtain ⟨d, rfl⟩ : ∃ d, c = d + 1 := ⟨c - 1, by omega⟩
        rw [nI_pred, fa_lt, nI_toInt (by omega)]; omega
theorem in_below_ok {c i : Nat} (hc : c ≤ 8) (h : i < c) {post : Int32 → Prop} (p : post 1) : wp_X8_in (nI i) 0 (nI c - 1) post := by
  obtain ⟨d, rfl⟩ : ∃ d, c = d + 1 := ⟨c - 1, by omega⟩
  rw [nI_pred]
  exact s_in_ok (nI_pos (by omega)) (nI_nlt (by omega) (by omega)) p
theorem s8_isCow_bad {c : Nat} {now : Nat → Int32} (e : now 4 = nI c) (hc : c ≤ 8) {x : Int32} {post : Int32 → Prop} (h : x < 0 ∨ nI c ≤ x) (p : post 0) : wp_X8_isCow now x post := by
  unfold wp_X8_isCow; rw [e]; exact in_below_bad hc h ⟨rfl, p⟩
theorem s8_isCow_ok {c i : Nat} {now : Nat → Int32} (e : now 4 = nI c) (hc : c ≤ 8) (h : i < c) {post : Int32 → Prop} (p : post 1) : wp_X8_isCow now (nI i) post := by
  unfold wp_X8_isCow; rw [e]; exact in_below_ok hc h ⟨rfl, p⟩
theorem s8_isTaster_bad {c : Nat} {now : Nat → Int32} (e : now 13 = nI c) (hc : c ≤ 4) {x : Int32} {post : Int32 → Prop} (h : x < 0 ∨ nI c ≤ x) (p : post 0) : wp_X8_isTaster now x post := by
  unfold wp_X8_isTaster; rw [e]; exact in_below_bad (by omega) h ⟨rfl, p⟩
theorem s8_isTaster_ok {c i : Nat} {now : Nat → Int32} (e : now 13 = nI c) (hc : c ≤ 4) (h : i < c) {post : Int32 → Prop} (p : post 1) : wp_X8_isTaster now (nI i) post := by
  unfold wp_X8_isTaster; rw [e]; exact in_below_ok (by omega) h ⟨rfl, p⟩
theorem ix (x : Int32) {n : Nat} (hn : n < 2 ^ 31) : (x < 0 ∨ nI n ≤ x) ∨ ∃ j : Nat, j < n ∧ x = nI j := by
  rcases pk_ix x hn with h | h | h
  · exact Or.inl (Or.inl h)
  · exact Or.inl (Or.inr h)
  · exact Or.inr h
theorem ne10 : ¬ (1 : Int32) = 0 := by decide
theorem nI0 {n : Nat} (h : n < 2 ^ 31) : nI n = 0 ↔ n = 0 := nI_eq h (by decide)
theorem nIk (n k : Nat) (h : n < 2 ^ 31) (hk : k < 2 ^ 31) : nI n = (OfNat.ofNat k : Int32) ↔ n = k := by rw [fa_lit]; exact nI_eq h hk
