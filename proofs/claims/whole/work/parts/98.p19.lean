/-! pure part 19: herds as texts -/
theorem ch_n {x : Nat} (h : x < 127) : narrow .char (.int (nI x)) = .int (nI x) := congrArg Value.int (ch_ok x h).2
section HE
variable {n : Nat} {lt : Nat → Nat} {letters tape : Nat → Int32}
def Ltr (n : Nat) (lt : Nat → Nat) (q : Nat) : Nat := if q < n then lt q else 0
def NBl (n : Nat) (lt : Nat → Nat) (q : Nat) : Prop := q ≤ n ∧ (q < n → ¬ lt q = 32)
theorem Ltr_le (hl : ∀ i, i < n → lt i ≤ 126) (q : Nat) : Ltr n lt q < 127 := by
  unfold Ltr
  split
  · have := hl q (by assumption); omega
  · omega
theorem s_at (hn : n ≤ 40) (hl : ∀ i, i < n → lt i ≤ 126 ∧ letters i = nI (lt i) ∧ tape i = nI (lt i)) {q : Nat} (hq : NBl n lt q) : (∀ post : Int32 → Int32 → Prop, post (nI (Ltr n lt q)) (nI q) → wp_X5_ahead_J38 (nI n) (nI q) letters post) ∧ (∀ post : Int32 → Int32 → Prop, post (nI (Ltr n lt q)) (nI q) → wp_X8_peek_J38 (nI n) (nI q) tape post) := by
  obtain ⟨h1, h2⟩ := hq
  refine ⟨fun post p => ?_, fun post p => ?_⟩
  · unfold wp_X5_ahead_J38
    unfold Ltr at p
    by_cases h : q < n
    · rw [if_pos h] at p
      obtain ⟨a1, a2, a3⟩ := hl q h
      rw [nI_clamp (by omega), a2]
      exact q_f (nI_ge h (by omega)) ⟨vp_in_nI (by omega) (by decide), ch_n (by omega), p⟩
    · rw [if_neg h] at p
      exact q_t (nI_le (by omega) (by omega)) p
  · unfold wp_X8_peek_J38
    unfold Ltr at p
    by_cases h : q < n
    · rw [if_pos h] at p
      obtain ⟨a1, a2, a3⟩ := hl q h
      rw [nI_clamp (by omega), a3]
      exact q_f (nI_ge h (by omega)) ⟨vp_in_nI (by omega) (by decide), p⟩
    · rw [if_neg h] at p
      exact q_t (nI_le (by omega) (by omega)) p
/-- the place behind blanks -/
theorem s_ah (hn : n ≤ 40) (hl : ∀ i, i < n → lt i ≤ 126 ∧ letters i = nI (lt i) ∧ tape i = nI (lt i)) {p : Nat} (hp : p ≤ n) : ∃ q, p ≤ q ∧ NBl n lt q ∧ (∀ post : Int32 → Int32 → Prop, post (nI (Ltr n lt q)) (nI q) → wp_X5_ahead (nI n) (nI p) letters post) ∧ (∀ post : Int32 → Int32 → Prop, post (nI (Ltr n lt q)) (nI q) → wp_X8_peek (nI n) (nI p) tape post) := by
  obtain ⟨d, hd⟩ : ∃ d, p + d = n := ⟨n - p, by omega⟩
  induction d generalizing p with
  | zero =>
    have : p = n := by omega
    subst this
    have hq : NBl p lt p := ⟨Nat.le_refl _, fun h => absurd h (by omega)⟩
    obtain ⟨a, b⟩ := s_at hn hl hq
    have hle : nI p ≤ nI p := nI_le (Nat.le_refl _) (by omega)
    exact ⟨p, Nat.le_refl _, hq, fun post z => ⟨1, q_t hle (a post z)⟩, fun post z => ⟨1, q_t hle (b post z)⟩⟩
  | succ d ih =>
    have hlt : p < n := by omega
    obtain ⟨a1, a2, a3⟩ := hl p hlt
    have hnl : ¬ nI n ≤ nI p := nI_ge hlt (by omega)
    by_cases hb : lt p = 32
    · obtain ⟨q, h1, h2, h3, h4⟩ := ih (p := p + 1) (by omega) (by omega)
      refine ⟨q, by omega, h2, fun post z => ?_, fun post z => ?_⟩
      · obtain ⟨k, hk⟩ := h3 post z
        refine ⟨k + 1, q_f hnl ?_⟩
        rw [nI_clamp (by omega), a2, hb, ix1]
        exact ⟨vp_in_nI (by omega) (by decide), n_f rfl hk⟩
      · obtain ⟨k, hk⟩ := h4 post z
        refine ⟨k + 1, q_f hnl ?_⟩
        rw [nI_clamp (by omega), a3, hb, ix1]
        exact ⟨vp_in_nI (by omega) (by decide), n_f rfl hk⟩
    · have hq : NBl n lt p := ⟨hp, fun _ => hb⟩
      obtain ⟨a, b⟩ := s_at hn hl hq
      have hne : ¬ nI (lt p) = (32 : Int32) := fun e => hb ((nIk (lt p) 32 (by omega) (by decide)).mp e)
      refine ⟨p, Nat.le_refl _, hq, fun post z => ⟨1, q_f hnl ?_⟩, fun post z => ⟨1, q_f hnl ?_⟩⟩
      · rw [nI_clamp (by omega), a2]
        exact ⟨vp_in_nI (by omega) (by decide), n_t hne (a post z)⟩
      · rw [nI_clamp (by omega), a3]
        exact ⟨vp_in_nI (by omega) (by decide), n_t hne (b post z)⟩
/-- once behind blanks, there it stays -/
theorem s_stay (hn : n ≤ 40) (hl : ∀ i, i < n → lt i ≤ 126 ∧ letters i = nI (lt i) ∧ tape i = nI (lt i)) {q : Nat} (hq : NBl n lt q) {post : Int32 → Int32 → Prop} (p : post (nI (Ltr n lt q)) (nI q)) : wp_X5_ahead (nI n) (nI q) letters post := by
  obtain ⟨a, b⟩ := s_at hn hl hq
  refine ⟨1, ⟨fun _ => a post p, fun h => ?_⟩⟩
  have hlt : q < n := by
    rcases Nat.lt_or_ge q n with z | z
    · exact z
    · exact absurd (nI_le z (by have := hq.1; omega)) h
  obtain ⟨a1, a2, a3⟩ := hl q hlt
  have hne : ¬ nI (lt q) = (32 : Int32) := fun e => hq.2 hlt ((nIk (lt q) 32 (by omega) (by decide)).mp e)
  rw [nI_clamp (by omega), a2]
  exact ⟨vp_in_nI (by omega) (by decide), n_t hne (a post p)⟩
theorem dgt : ∀ L, L < 127 → (49 ≤ L ∧ L ≤ 57 ∧ ¬ nI L < (49 : Int32) ∧ ¬ (57 : Int32) < nI L ∧ ¬ nI L - (48 : Int32) < (1 : Int32) ∧ ¬ (9 : Int32) < nI L - (48 : Int32) ∧ nI L - (48 : Int32) = nI (L - 48)) ∨ (nI L < (49 : Int32) ∧ nI L - (48 : Int32) < (1 : Int32)) ∨ (¬ nI L < (49 : Int32) ∧ (57 : Int32) < nI L ∧ ¬ nI L - (48 : Int32) < (1 : Int32) ∧ (9 : Int32) < nI L - (48 : Int32)) := by decide
/-- a digit, or none, on both sides -/
theorem s_dig {L : Nat} (hL : L < 127) : (∃ z, 1 ≤ z ∧ z ≤ 9 ∧ nI L - (48 : Int32) = nI z ∧ 0 < L ∧ (∀ post : Int32 → Prop, post 1 → wp_X5_isDigit (nI L) post) ∧ (∀ post : Int32 → Prop, post 1 → wp_X8_in (nI L - (48 : Int32)) 1 9 post)) ∨ ((∀ post : Int32 → Prop, post 0 → wp_X5_isDigit (nI L) post) ∧ (∀ post : Int32 → Prop, post 0 → wp_X8_in (nI L - (48 : Int32)) 1 9 post)) := by
  rcases dgt L hL with ⟨h1, h2, h3, h4, h5, h6, h7⟩ | ⟨h1, h2⟩ | ⟨h1, h2, h3, h4⟩
  · exact Or.inl ⟨L - 48, by omega, by omega, h7, by omega, fun post p => q_f h3 (q_f h4 p), fun post p => s_in_ok h5 h6 p⟩
  · exact Or.inr ⟨fun post p => q_t h1 p, fun post p => s_in_lo h2 p⟩
  · exact Or.inr ⟨fun post p => q_f h1 (q_t h2 p), fun post p => s_in_hi h3 h4 p⟩
end HE
/-- the letters of kinds -/
def kbl (L : Nat) : Option Nat := if L = 112 then some 0 else if L = 100 then some 1 else if L = 102 then some 2 else if L = 115 then some 3 else if L = 111 then some 4 else none
def kbi (L : Nat) : Int32 := match kbl L with
  | some k => nI k
  | none => -1
theorem s_kind8 {L : Nat} (hL : L < 127) {post : Int32 → Prop} (p : post (kbi L)) : wp_X8_kindBy (nI L) post := by
  have ne : ∀ k : Nat, k < 127 → ¬ L = k → ¬ nI L = nI k := fun k hk h e => h ((nI_eq (by omega) (by omega)).mp e)
  unfold wp_X8_kindBy
  unfold kbi kbl at p
  by_cases h1 : L = 112
  · rw [if_pos h1] at p; subst h1; exact n_f rfl p
  rw [if_neg h1] at p
  refine n_t (ne 112 (by decide) h1) ?_
  by_cases h2 : L = 100
  · rw [if_pos h2] at p; subst h2; exact n_f rfl p
  rw [if_neg h2] at p
  refine n_t (ne 100 (by decide) h2) ?_
  by_cases h3 : L = 102
  · rw [if_pos h3] at p; subst h3; exact n_f rfl p
  rw [if_neg h3] at p
  refine n_t (ne 102 (by decide) h3) ?_
  by_cases h4 : L = 115
  · rw [if_pos h4] at p; subst h4; exact n_f rfl p
  rw [if_neg h4] at p
  refine n_t (ne 115 (by decide) h4) ?_
  by_cases h5 : L = 111
  · rw [if_pos h5] at p; subst h5; exact n_f rfl p
  rw [if_neg h5] at p
  exact n_t (ne 111 (by decide) h5) p
theorem s_l7 {L : Nat} (hL : L < 127) {post : Int32 → Prop} (p : post (kbi L)) : wp_J1_indexOfChar_4cfef_L7 (nI 5) (nI L) post 6 (nI 0) := by
  have ne : ∀ k : Nat, k < 127 → ¬ L = k → ¬ nI k = nI L := fun k hk h e => h ((nI_eq (by omega) (by omega)).mp e).symm
  have S : ∀ (k m f : Nat), k < 5 → x_pd k = nI m → m < 127 → (L = m → post (nI k)) → (¬ L = m → wp_J1_indexOfChar_4cfef_L7 (nI 5) (nI L) post f (nI (k + 1))) → wp_J1_indexOfChar_4cfef_L7 (nI 5) (nI L) post (f + 1) (nI k) := by
    intro k m f hk e hm a b
    refine q_f (nI_ge hk (by decide)) ?_
    rw [nI_clamp (by omega), e, ← nI_succ]
    refine ⟨vp_in_nI hk (by decide), ?_⟩
    by_cases h : L = m
    · exact n_f (by rw [h]) (a h)
    · exact n_t (ne m hm h) (b h)
  unfold kbi kbl at p
  refine S 0 112 5 (by decide) rfl (by decide) (fun h => ?_) (fun h1 => S 1 100 4 (by decide) rfl (by decide) (fun h => ?_) (fun h2 => S 2 102 3 (by decide) rfl (by decide) (fun h => ?_) (fun h3 => S 3 115 2 (by decide) rfl (by decide) (fun h => ?_) (fun h4 => S 4 111 1 (by decide) rfl (by decide) (fun h => ?_) (fun h5 => q_t (by decide) ?_)))))
  · rw [if_pos h] at p; exact p
  · rw [if_neg h1, if_pos h] at p; exact p
  · rw [if_neg h1, if_neg h2, if_pos h] at p; exact p
  · rw [if_neg h1, if_neg h2, if_neg h3, if_pos h] at p; exact p
  · rw [if_neg h1, if_neg h2, if_neg h3, if_neg h4, if_pos h] at p; exact p
  · rw [if_neg h1, if_neg h2, if_neg h3, if_neg h4, if_neg h5] at p; exact p
theorem s_kind7 {L : Nat} (hL : L < 127) {post : Int32 → Prop} (p : post (kbi L)) : wp_J0_indexOf_0f7a4 (nI L) post := by
  unfold wp_J0_indexOf_0f7a4 wp_J0_indexOf_7cf53 wp_J0_isLatin1_aae02 wp_J0_length_8abf5 wp_J0_coder_7d493 wp_J1_indexOf_4cfef wp_J1_canEncode_9a6ad wp_J1_indexOfChar_4cfef
  refine q_f ne10 (q_f (nI_pos (by omega)) (q_f (nI_nlt (a := 255) (by omega) (by decide)) (n_t ne10 (q_t (by decide) ⟨6, ?_⟩))))
  rw [show (if (0 : Int32) < 0 then (0 : Int32) else 0) = nI 0 from by decide, show (if (5 : Int32) < ((5 : Int32) >>> ((0 : Int32) &&& 31)) then (5 : Int32) else ((5 : Int32) >>> ((0 : Int32) &&& 31))) = nI 5 from by decide, fa_byte_small (by omega)]
  exact s_l7 hL p
theorem kbi_3 (L : Nat) : (∃ k, k < 5 ∧ kbi L = nI k) ∨ kbi L = -1 := by
  unfold kbi kbl
  by_cases h1 : L = 112
  · rw [if_pos h1]; exact Or.inl ⟨0, by decide, rfl⟩
  rw [if_neg h1]
  by_cases h2 : L = 100
  · rw [if_pos h2]; exact Or.inl ⟨1, by decide, rfl⟩
  rw [if_neg h2]
  by_cases h3 : L = 102
  · rw [if_pos h3]; exact Or.inl ⟨2, by decide, rfl⟩
  rw [if_neg h3]
  by_cases h4 : L = 115
  · rw [if_pos h4]; exact Or.inl ⟨3, by decide, rfl⟩
  rw [if_neg h4]
  by_cases h5 : L = 111
  · rw [if_pos h5]; exact Or.inl ⟨4, by decide, rfl⟩
  rw [if_neg h5]; exact Or.inr rfl
theorem kbi_pos {L : Nat} {k : Nat} (hk : k < 5) (h : kbi L = nI k) : 0 < L := by
  rcases Nat.eq_zero_or_pos L with z | z
  · subst z
    have : kbi 0 = -1 := rfl
    rw [this] at h
    exact absurd (by rw [← h]; decide) (nI_pos (n := k) (by omega))
  · exact z
/-- what has been read, on both sides -/
def Rd (m : Nat) (B : Int32) (mk : Nat → Int32) (t : Nat) (ks fs : Nat → Int32) (dr : Int32) (rd : Nat → Int32) : Prop :=
  (m ≤ 8 ∧ t ≤ 4) ∧ (rd 4 = nI m ∧ rd 3 = B ∧ rd 0 = 0 ∧ rd 1 = dr ∧ rd 13 = nI t ∧ rd 22 = 0) ∧ (B = -4 ∨ ∃ y, y < m ∧ B = nI y) ∧ (∀ i, i < m → rd (5 + i) = mk i ∧ ∃ z, 1 ≤ z ∧ z ≤ 9 ∧ mk i = nI z) ∧ (0 < m → rd 2 = nI (2 ^ m - 1)) ∧
  (∀ i, i < t → rd (14 + i) = ks i ∧ rd (18 + i) = fs i ∧ (∃ x, x < 5 ∧ ks i = nI x) ∧ ∃ y, 1 ≤ y ∧ y ≤ 9 ∧ fs i = nI y)
def rdC (rd : Nat → Int32) (m z : Nat) : Nat → Int32 := upd (upd (upd rd (5 + m) (nI z)) 4 (nI (m + 1))) 2 (nI (2 ^ (m + 1) - 1))
def rdT (rd : Nat → Int32) (t k z : Nat) : Nat → Int32 := upd (upd (upd rd (14 + t) (nI k)) (18 + t) (nI z)) 13 (nI (t + 1))
theorem s8_addCow {rd : Nat → Int32} {m z : Nat} (hm : m < 8) (h4 : rd 4 = nI m) {post : Int32 → (Nat → Int32) → Prop} (p : post (nI m) (rdC rd m z)) : wp_X8_addCow rd (nI z) post := by
  unfold wp_X8_addCow wp_X8_allOf
  rw [h4, lit_add 5, nI_clamp (by omega)]
  simp (disch := omega) only [u_n, u_s, h4]
  rw [ix1, sh1 (m + 1) (by omega)]
  exact ⟨vp_in_nI (by omega) (by decide), p⟩
theorem s8_addTaster {rd : Nat → Int32} {t k z : Nat} (ht : t < 4) (h13 : rd 13 = nI t) {post : Int32 → (Nat → Int32) → Prop} (p : post (nI t) (rdT rd t k z)) : wp_X8_addTaster rd (nI k) (nI z) post := by
  unfold wp_X8_addTaster
  rw [h13, lit_add 14, lit_add 18, nI_clamp (by omega), nI_clamp (by omega)]
  simp (disch := omega) only [u_n, u_s, h13]
  rw [ix1]
  exact ⟨vp_in_nI (by omega) (by decide), vp_in_nI (by omega) (by decide), p⟩
section RD
variable {m t : Nat} {B dr : Int32} {mk ks fs rd : Nat → Int32}
theorem Rd_cow (h : Rd m B mk 0 ks fs dr rd) (hm : m < 8) {z : Nat} (z1 : 1 ≤ z) (z9 : z ≤ 9) : Rd (m + 1) B (upd mk m (nI z)) 0 ks fs dr (rdC rd m z) := by
  obtain ⟨⟨hm8, ht⟩, ⟨a4, a3, a0, a1, a13, a22⟩, hB, hmk, h2, htt⟩ := h
  unfold rdC
  refine ⟨⟨by omega, by decide⟩, ⟨?_, ?_, ?_, ?_, ?_, ?_⟩, ?_, fun i hi => ?_, fun _ => u_s rfl, fun i hi => absurd hi (by omega)⟩
  · simp (disch := omega) only [u_n, u_s]
  · simp (disch := omega) only [u_n, u_s]; exact a3
  · simp (disch := omega) only [u_n, u_s]; exact a0
  · simp (disch := omega) only [u_n, u_s]; exact a1
  · simp (disch := omega) only [u_n, u_s]; exact a13
  · simp (disch := omega) only [u_n, u_s]; exact a22
  · rcases hB with q | ⟨y, hy, q⟩
    · exact Or.inl q
    · exact Or.inr ⟨y, by omega, q⟩
  · by_cases e : i = m
    · subst e
      simp (disch := omega) only [u_n, u_s]
      exact ⟨trivial, z, z1, z9, rfl⟩
    · simp (disch := omega) only [u_n, u_s]
      exact hmk i (by omega)
theorem Rd_bear (h : Rd m B mk t ks fs dr rd) {y : Nat} (hy : y < m) : Rd m (nI y) mk t ks fs dr (upd rd 3 (nI y)) := by
  obtain ⟨hm8, ⟨a4, a3, a0, a1, a13, a22⟩, hB, hmk, h2, htt⟩ := h
  refine ⟨hm8, ⟨?_, u_s rfl, ?_, ?_, ?_, ?_⟩, Or.inr ⟨y, hy, rfl⟩, fun i hi => ?_, fun h0 => ?_, fun i hi => ?_⟩
  · rw [u_n (by decide)]; exact a4
  · rw [u_n (by decide)]; exact a0
  · rw [u_n (by decide)]; exact a1
  · rw [u_n (by decide)]; exact a13
  · rw [u_n (by decide)]; exact a22
  · rw [u_n (by omega)]; exact hmk i hi
  · rw [u_n (by decide)]; exact h2 h0
  · rw [u_n (by omega), u_n (by omega)]; exact htt i hi
theorem Rd_tas (h : Rd m B mk t ks fs dr rd) (ht4 : t < 4) {k z : Nat} (hk : k < 5) (z1 : 1 ≤ z) (z9 : z ≤ 9) : Rd m B mk (t + 1) (upd ks t (nI k)) (upd fs t (nI z)) dr (rdT rd t k z) := by
  obtain ⟨⟨hm8, ht⟩, ⟨a4, a3, a0, a1, a13, a22⟩, hB, hmk, h2, htt⟩ := h
  unfold rdT
  refine ⟨⟨hm8, by omega⟩, ⟨?_, ?_, ?_, ?_, u_s rfl, ?_⟩, hB, fun i hi => ?_, fun h0 => ?_, fun i hi => ?_⟩
  · simp (disch := omega) only [u_n, u_s]; exact a4
  · simp (disch := omega) only [u_n, u_s]; exact a3
  · simp (disch := omega) only [u_n, u_s]; exact a0
  · simp (disch := omega) only [u_n, u_s]; exact a1
  · simp (disch := omega) only [u_n, u_s]; exact a22
  · simp (disch := omega) only [u_n, u_s]; exact hmk i hi
  · simp (disch := omega) only [u_n, u_s]; exact h2 h0
  · by_cases e : i = t
    · subst e
      simp (disch := omega) only [u_n, u_s]
      exact ⟨trivial, trivial, ⟨k, hk, rfl⟩, z, z1, z9, rfl⟩
    · simp (disch := omega) only [u_n, u_s]
      exact htt i (by omega)
end RD
section PA
variable {n : Nat} {lt : Nat → Nat} {letters tape : Nat → Int32} {ks fs : Nat → Int32} {dr : Int32}
/-- the cows of a text, from where one stands -/
def SimC (n : Nat) (letters tape ks fs : Nat → Int32) (dr : Int32) (d : Nat) : Prop := ∀ (m p : Nat) (B num : Int32) (mk rd : Nat → Int32), m + d = 8 → p ≤ n → Rd m B mk 0 ks fs dr rd →
    ∃ (m' p' : Nat) (B' num' : Int32) (mk' rd' : Nat → Int32), m ≤ m' ∧ p' ≤ n ∧ Rd m' B' mk' 0 ks fs dr rd' ∧
      (∀ post : Int32 → Int32 → Int32 → (Nat → Int32) → Prop, post (nI p') (nI m') B' mk' → wp_X5_readCows_L0 (nI n) letters post (d + 1) (nI p) (nI m) B mk) ∧
      (∀ post : Int32 → Int32 → Int32 → (Nat → Int32) → Prop, post 1 (nI p') num' rd' → wp_X8_isCows_J64 (nI n) (nI p) num tape rd (wp_X8_isCows_L14 (nI n) tape post (d + 1)) post)
/-- behind a digit -/
theorem simS (hn : n ≤ 40) (hl : ∀ i, i < n → lt i ≤ 126 ∧ letters i = nI (lt i) ∧ tape i = nI (lt i)) {d : Nat} (H : SimC n letters tape ks fs dr d) {m q z : Nat} {B : Int32} {mk rd : Nat → Int32} (hm : m + (d + 1) = 8) (hq : q < n) (z1 : 1 ≤ z) (z9 : z ≤ 9) (hR : Rd m B mk 0 ks fs dr rd) :
    ∃ (m' p' : Nat) (B' num' : Int32) (mk' rd' : Nat → Int32), m + 1 ≤ m' ∧ p' ≤ n ∧ Rd m' B' mk' 0 ks fs dr rd' ∧
      (∀ post : Int32 → Int32 → Int32 → (Nat → Int32) → Prop, post (nI p') (nI m') B' mk' → ((¬ B = (-4 : Int32) → wp_X5_readCows_L0 (nI n) letters post (d + 1) (nI (q + 1)) (nI (m + 1)) B (upd mk m (nI z))) ∧ (B = (-4 : Int32) → wp_X5_ahead (nI n) (nI (q + 1)) letters (fun r4 t_place_4 => (¬ r4 = (33 : Int32) → wp_X5_readCows_L0 (nI n) letters post (d + 1) t_place_4 (nI (m + 1)) B (upd mk m (nI z))) ∧ (r4 = (33 : Int32) → wp_X5_readCows_L0 (nI n) letters post (d + 1) (t_place_4 + (1 : Int32)) (nI (m + 1)) (nI m) (upd mk m (nI z))))))) ∧
      (∀ post : Int32 → Int32 → Int32 → (Nat → Int32) → Prop, post 1 (nI p') num' rd' → wp_X8_isCows_L14 (nI n) tape post (d + 1 + 1) (nI (q + 1)) (nI z) rd 1) := by
  obtain ⟨-, ⟨a4, a3, a0, a1, a13, a22⟩, hB, hmk, h2, htt⟩ := id hR
  have hR1 := Rd_cow hR (by omega) z1 z9
  obtain ⟨-, ⟨b4, b3, -⟩, -⟩ := id hR1
  have b3' : rdC rd m z 3 = B := b3
  have D : ∀ post : Int32 → Int32 → Int32 → (Nat → Int32) → Prop, ((¬ B = (-4 : Int32) → wp_X8_isCows_J64 (nI n) (nI (q + 1)) (nI z) tape (rdC rd m z) (wp_X8_isCows_L14 (nI n) tape post (d + 1)) post) ∧ (B = (-4 : Int32) → wp_X8_isSign (nI n) (nI (q + 1)) tape (33 : Int32) (fun r3 m_position_3 => (r3 = 0 → wp_X8_isCows_J64 (nI n) m_position_3 (nI z) tape (rdC rd m z) (wp_X8_isCows_L14 (nI n) tape post (d + 1)) post) ∧ (¬ r3 = 0 → wp_X8_isCows_J64 (nI n) m_position_3 (nI z) tape (upd (rdC rd m z) 3 (nI m)) (wp_X8_isCows_L14 (nI n) tape post (d + 1)) post)))) → wp_X8_isCows_L14 (nI n) tape post (d + 1 + 1) (nI (q + 1)) (nI z) rd 1 := by
    intro post h
    refine q_f ne10 (s8_addCow (by omega) a4 ?_)
    rw [b3', b4, nI_pred]
    exact h
  by_cases hB4 : B = -4
  · obtain ⟨q4, hq4, hnb4, hb7, hb8⟩ := s_ah hn hl (p := q + 1) (by omega)
    by_cases h33 : nI (Ltr n lt q4) = (33 : Int32)
    · have hq4n : q4 < n := by
        rcases Nat.lt_or_ge q4 n with y | y
        · exact y
        · unfold Ltr at h33; rw [if_neg (by omega)] at h33; exact absurd h33 (by decide)
      obtain ⟨m', p', B', num', mk', rd', k1, k2, k3, k7, k8⟩ := H (m + 1) (q4 + 1) (nI m) (nI z) (upd mk m (nI z)) _ (by omega) (by omega) (Rd_bear hR1 (y := m) (by omega))
      refine ⟨m', p', B', num', mk', rd', k1, k2, k3, fun post w => ⟨fun e => absurd hB4 e, fun _ => hb7 _ (n_f h33 ?_)⟩, fun post w => D post ⟨fun e => absurd hB4 e, fun _ => hb8 _ (q_t h33 (q_f ne10 ?_))⟩⟩
      · rw [ix1]; exact k7 post w
      · rw [ix1]; exact k8 post w
    · obtain ⟨m', p', B', num', mk', rd', k1, k2, k3, k7, k8⟩ := H (m + 1) q4 B (nI z) (upd mk m (nI z)) _ (by omega) hnb4.1 hR1
      exact ⟨m', p', B', num', mk', rd', k1, k2, k3, fun post w => ⟨fun e => absurd hB4 e, fun _ => hb7 _ (n_t h33 (k7 post w))⟩, fun post w => D post ⟨fun e => absurd hB4 e, fun _ => hb8 _ (q_f h33 (q_t rfl (k8 post w)))⟩⟩
  · obtain ⟨m', p', B', num', mk', rd', k1, k2, k3, k7, k8⟩ := H (m + 1) (q + 1) B (nI z) (upd mk m (nI z)) _ (by omega) (by omega) hR1
    exact ⟨m', p', B', num', mk', rd', k1, k2, k3, fun post w => n_t hB4 (k7 post w), fun post w => D post (n_t hB4 (k8 post w))⟩
theorem stepC (hn : n ≤ 40) (hl : ∀ i, i < n → lt i ≤ 126 ∧ letters i = nI (lt i) ∧ tape i = nI (lt i)) {m q z p d : Nat} {B : Int32} {mk : Nat → Int32} (hm : m < 8) (hnb : NBl n lt q) (ez : nI (Ltr n lt q) - (48 : Int32) = nI z) (ha7 : ∀ post : Int32 → Int32 → Prop, post (nI (Ltr n lt q)) (nI q) → wp_X5_ahead (nI n) (nI p) letters post) (hd7 : ∀ post : Int32 → Prop, post 1 → wp_X5_isDigit (nI (Ltr n lt q)) post) {post : Int32 → Int32 → Int32 → (Nat → Int32) → Prop}
    (h : ((¬ B = (-4 : Int32) → wp_X5_readCows_L0 (nI n) letters post (d + 1) (nI (q + 1)) (nI (m + 1)) B (upd mk m (nI z))) ∧ (B = (-4 : Int32) → wp_X5_ahead (nI n) (nI (q + 1)) letters (fun r4 t_place_4 => (¬ r4 = (33 : Int32) → wp_X5_readCows_L0 (nI n) letters post (d + 1) t_place_4 (nI (m + 1)) B (upd mk m (nI z))) ∧ (r4 = (33 : Int32) → wp_X5_readCows_L0 (nI n) letters post (d + 1) (t_place_4 + (1 : Int32)) (nI (m + 1)) (nI m) (upd mk m (nI z))))))) : wp_X5_readCows_L0 (nI n) letters post (d + 1 + 1) (nI p) (nI m) B mk := by
  refine q_f (nI_ge (b := 8) hm (by decide)) (ha7 _ (hd7 _ (q_f ne10 (s_stay hn hl hnb ⟨vp_in_nI (by omega) (by decide), ?_⟩))))
  rw [nI_clamp (n := m) (by omega), ez, ix1, ix1, nI_pred]
  exact h
theorem Ltr_in {q : Nat} (h : 0 < Ltr n lt q) : q < n := by
  rcases Nat.lt_or_ge q n with y | y
  · exact y
  · unfold Ltr at h; rw [if_neg (by omega)] at h; omega
theorem simC (hn : n ≤ 40) (hl : ∀ i, i < n → lt i ≤ 126 ∧ letters i = nI (lt i) ∧ tape i = nI (lt i)) : ∀ d, SimC n letters tape ks fs dr d := by
  intro d
  induction d with
  | zero =>
    intro m p B num mk rd hm hp hR
    have : m = 8 := by omega
    subst this
    obtain ⟨-, ⟨a4, -⟩, -⟩ := id hR
    exact ⟨8, p, B, num, mk, rd, Nat.le_refl _, hp, hR, fun post q => q_t (by decide) q, fun post q => q_t (by rw [a4]; decide) (q_t rfl q)⟩
  | succ d ih =>
    intro m p B num mk rd hm hp hR
    obtain ⟨-, ⟨a4, a3, a0, a1, a13, a22⟩, hB, hmk, h2, htt⟩ := id hR
    have n8 : ¬ (8 : Int32) ≤ nI m := nI_ge (b := 8) (by omega) (by decide)
    obtain ⟨q, hpq, hnb, ha7, ha8⟩ := s_ah hn hl hp
    have hL := Ltr_le (fun i hi => (hl i hi).1) q
    rcases s_dig hL with ⟨z, z1, z9, ez, hpos, hd7, hd8⟩ | ⟨hd7, hd8⟩
    · obtain ⟨m', p', B', num', mk', rd', k1, k2, k3, k7, k8⟩ := simS hn hl ih hm (Ltr_in hpos) z1 z9 hR
      refine ⟨m', p', B', num', mk', rd', by omega, k2, k3, fun post w => stepC hn hl (by omega) hnb ez ha7 hd7 (k7 post w), fun post w => q_f (by rw [a4]; exact n8) (ha8 _ (hd8 _ (n_t ne10 (q_f ne10 ?_))))⟩
      rw [ez, ix1]
      exact k8 post w
    · exact ⟨m, q, B, nI (Ltr n lt q) - (48 : Int32), mk, rd, Nat.le_refl _, hnb.1, hR, fun post w => q_f n8 (ha7 _ (hd7 _ (q_t rfl w))), fun post w => q_f (by rw [a4]; exact n8) (ha8 _ (hd8 _ (n_f rfl (q_t rfl (q_t rfl w)))))⟩
/-- where the model asks whether there is one more taster -/
def M44 (n : Nat) (tape : Nat → Int32) (post : Int32 → Int32 → Int32 → (Nat → Int32) → Prop) (f : Nat) (p num : Int32) (rd : Nat → Int32) : Prop := ((4 : Int32) ≤ (rd 13) → wp_X8_isHerd_L16 (nI n) tape post f p num rd (0 : Int32)) ∧ (¬ (4 : Int32) ≤ (rd 13) → wp_X8_isSign (nI n) p tape (44 : Int32) (fun r5 m_position_5 => (r5 = 0 → wp_X8_isHerd_L16 (nI n) tape post f m_position_5 num rd (0 : Int32)) ∧ (¬ r5 = 0 → wp_X8_isHerd_L16 (nI n) tape post f m_position_5 num rd (1 : Int32))))
theorem simI (hn : n ≤ 40) (hl : ∀ i, i < n → lt i ≤ 126 ∧ letters i = nI (lt i) ∧ tape i = nI (lt i)) {m t p : Nat} {B num : Int32} {mk ks fs rd : Nat → Int32} (ht : t < 4) (hp : p ≤ n) (hR : Rd m B mk t ks fs dr rd) :
    (∃ (p' : Nat) (num' : Int32), (∀ (x1 : Int32) (K : Int32 → Int32 → (Nat → Int32) → (Nat → Int32) → Int32 → Prop) (post : Int32 → Int32 → Int32 → (Nat → Int32) → (Nat → Int32) → Prop), post 0 (nI p') (nI t) ks fs → wp_X5_readTasters_J32 (nI n) (nI p) (nI t) letters ks fs x1 K post) ∧ (∀ (f : Nat) (post : Int32 → Int32 → Int32 → (Nat → Int32) → Prop), post 0 (nI p') num' rd → wp_X8_isHerd_L16 (nI n) tape post (f + 1) (nI p) num rd 1)) ∨
    (∃ (p' k z : Nat), p' ≤ n ∧ Rd m B mk (t + 1) (upd ks t (nI k)) (upd fs t (nI z)) dr (rdT rd t k z) ∧ (∀ (x1 : Int32) (K : Int32 → Int32 → (Nat → Int32) → (Nat → Int32) → Int32 → Prop) (post : Int32 → Int32 → Int32 → (Nat → Int32) → (Nat → Int32) → Prop), K (nI p') (nI (t + 1)) (upd ks t (nI k)) (upd fs t (nI z)) (x1 + 1) → wp_X5_readTasters_J32 (nI n) (nI p) (nI t) letters ks fs x1 K post) ∧ (∀ (f : Nat) (post : Int32 → Int32 → Int32 → (Nat → Int32) → Prop), M44 n tape post f (nI p') (nI z) (rdT rd t k z) → wp_X8_isHerd_L16 (nI n) tape post (f + 1) (nI p) num rd 1)) := by
  obtain ⟨-, ⟨a4, a3, a0, a1, a13, a22⟩, hB, hmk, h2, htt⟩ := id hR
  obtain ⟨q, hpq, hnb, ha7, ha8⟩ := s_ah hn hl hp
  have hL := Ltr_le (fun i hi => (hl i hi).1) q
  have v4 : vp_in (nI t) 4 := vp_in_nI ht (by decide)
  rcases kbi_3 (Ltr n lt q) with ⟨k, hk, ek⟩ | ek
  · have hqn : q < n := Ltr_in (kbi_pos hk ek)
    obtain ⟨q3, hq3, hnb3, hb7, hb8⟩ := s_ah hn hl (p := q + 1) (by omega)
    have hL3 := Ltr_le (fun i hi => (hl i hi).1) q3
    have hk0 : 0 ≤ nI k := nI_pos' (by omega)
    rcases s_dig hL3 with ⟨z, z1, z9, ez, hpos, hd7, hd8⟩ | ⟨hd7, hd8⟩
    · refine Or.inr ⟨q3 + 1, k, z, Ltr_in hpos, Rd_tas hR ht hk z1 z9, fun x1 K post w => ha7 _ (s_kind7 hL ?_), fun f post w => q_f ne10 (ha8 _ (s_kind8 hL ?_))⟩
      · rw [ek, ix1]
        refine q_t hk0 (hb7 _ (hd7 _ (n_t ne10 ⟨v4, s_stay hn hl hnb3 ⟨v4, n_t ne10 ?_⟩⟩)))
        rw [ez, ix1, ix1, nI_clamp (n := t) (by omega)]
        exact w
      · rw [ek, ix1]
        refine q_t hk0 (hb8 _ (hd8 _ (n_t ne10 (n_t ne10 ?_))))
        rw [ez, ix1]
        exact s8_addTaster ht a13 (n_t ne10 w)
    · refine Or.inl ⟨q3, nI (Ltr n lt q3) - (48 : Int32), fun x1 K post w => ha7 _ (s_kind7 hL ?_), fun f post w => q_f ne10 (ha8 _ (s_kind8 hL ?_))⟩
      · rw [ek, ix1]
        exact q_t hk0 (hb7 _ (hd7 _ (n_f rfl (n_f rfl w))))
      · rw [ek, ix1]
        exact q_t hk0 (hb8 _ (hd8 _ (n_f rfl (n_f rfl (n_f rfl w)))))
  · refine Or.inl ⟨q, num, fun x1 K post w => ha7 _ (s_kind7 hL ?_), fun f post w => q_f ne10 (ha8 _ (s_kind8 hL ?_))⟩
    · rw [ek]; exact q_f (by decide) (n_f rfl w)
    · rw [ek]; exact q_f (by decide) (n_f rfl w)
/-- the end of the text is asked for -/
def Fin8 (post : Int32 → Int32 → Int32 → (Nat → Int32) → Prop) (num : Int32) (rd : Nat → Int32) : Int32 → Int32 → Prop := fun r3 q => (¬ r3 = 0 → post (0 : Int32) q num rd) ∧ (r3 = 0 → post (1 : Int32) q num rd)
theorem simT (hn : n ≤ 40) (hl : ∀ i, i < n → lt i ≤ 126 ∧ letters i = nI (lt i) ∧ tape i = nI (lt i)) {m : Nat} {B : Int32} {mk : Nat → Int32} : ∀ (d t p : Nat) (num : Int32) (ks fs rd : Nat → Int32), t + d = 4 → 1 ≤ t → p ≤ n → Rd m B mk t ks fs dr rd →
    ∃ (r : Bool) (p' t' : Nat) (num' : Int32) (ks' fs' rd' : Nat → Int32), (r = true → p' ≤ n) ∧ Rd m B mk t' ks' fs' dr rd' ∧
      (∀ post : Int32 → Int32 → Int32 → (Nat → Int32) → (Nat → Int32) → Prop, post (bi r) (nI p') (nI t') ks' fs' → wp_X5_readTasters_L2 (nI n) letters post (d + 1) (nI p) (nI t) ks fs (nI t)) ∧
      (∀ post : Int32 → Int32 → Int32 → (Nat → Int32) → Prop, (r = false → post 0 (nI p') num' rd') → (r = true → wp_X8_peek (nI n) (nI p') tape (Fin8 post num' rd')) → M44 n tape post (d + 1) (nI p) num rd) := by
  intro d
  induction d with
  | zero =>
    intro t p num ks fs rd ht t1 hp hR
    have : t = 4 := by omega
    subst this
    obtain ⟨-, ⟨-, -, -, -, a13, -⟩, -⟩ := id hR
    exact ⟨true, p, 4, num, ks, fs, rd, fun _ => hp, hR, fun post w => q_t (by decide) w, fun post _ w => q_t (by rw [a13]; decide) (q_t rfl (w rfl))⟩
  | succ d ih =>
    intro t p num ks fs rd ht t1 hp hR
    obtain ⟨-, ⟨-, -, -, -, a13, -⟩, -⟩ := id hR
    have n4 : ¬ (4 : Int32) ≤ nI t := nI_ge (b := 4) (by omega) (by decide)
    have n0 : ¬ nI t ≤ 0 := nI_nle t1 (by omega)
    have n4' : ¬ (4 : Int32) ≤ rd 13 := by rw [a13]; exact n4
    obtain ⟨q, hpq, hnb, ha7, ha8⟩ := s_ah hn hl hp
    by_cases h44 : nI (Ltr n lt q) = (44 : Int32)
    · have hqn : q < n := by
        rcases Nat.lt_or_ge q n with y | y
        · exact y
        · unfold Ltr at h44; rw [if_neg (by omega)] at h44; exact absurd h44 (by decide)
      rcases simI (num := num) hn hl (p := q + 1) (by omega) (by omega) hR with ⟨p', num', h7, h8⟩ | ⟨p', k, z, hp', hR', h7, h8⟩
      · refine ⟨false, p', t, num', ks, fs, rd, fun e => (by cases e), hR, fun post w => q_f n4 (q_f n0 (ha7 _ (q_t h44 ?_))), fun post w _ => q_f n4' (ha8 _ (q_t h44 (q_f ne10 ?_)))⟩
        · rw [ix1]; exact h7 _ _ _ w
        · rw [ix1]; exact h8 _ _ (w rfl)
      · obtain ⟨r, p2, t2, num2, ks2, fs2, rd2, i1, i2, i7, i8⟩ := ih (t + 1) p' (nI z) _ _ _ (by omega) (by omega) hp' hR'
        refine ⟨r, p2, t2, num2, ks2, fs2, rd2, i1, i2, fun post w => q_f n4 (q_f n0 (ha7 _ (q_t h44 ?_))), fun post w w' => q_f n4' (ha8 _ (q_t h44 (q_f ne10 ?_)))⟩
        · rw [ix1]
          refine h7 _ _ _ ?_
          rw [← nI_succ]; exact i7 post w
        · rw [ix1]; exact h8 _ _ (i8 post w w')
    · exact ⟨true, q, t, num, ks, fs, rd, fun _ => hnb.1, hR, fun post w => q_f n4 (q_f n0 (ha7 _ (q_f h44 w))), fun post _ w => q_f n4' (ha8 _ (q_f h44 (q_t rfl (q_t rfl (w rfl)))))⟩
end PA
