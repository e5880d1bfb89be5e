/-! pure part 14: two mixes at once -/
theorem first_ex {p : Nat → Prop} (h : ∃ i, p i) : ∃ i, p i ∧ ∀ j, j < i → ¬ p j := by
  obtain ⟨n, hn⟩ := h
  induction n using Nat.strongRecOn with
  | ind n ih =>
    by_cases h : ∃ m, m < n ∧ p m
    · obtain ⟨m, hm, hp⟩ := h
      exact ih m hm hp
    · exact ⟨n, hn, fun j hj hp => h ⟨j, hj, hp⟩⟩
def lo (m : Nat) : Bool := decide (cnt m < 2)
def kn (c x F S : Nat) : Bool := lo (x &&& F &&& S) && (lo (dif c (x &&& F) S) && (lo (dif c x F &&& S) && lo (dif c (dif c x F) S)))
theorem dif_0 {c a : Nat} (ha : a < 2 ^ c) : dif c a 0 = a := by
  apply Nat.eq_of_testBit_eq
  intro i
  rw [dif_bit ha, Nat.zero_testBit]; simp
theorem lo_0 : lo 0 = true := by decide
theorem kn_0 {c x F : Nat} (hx : x < 2 ^ c) (hF : F < 2 ^ c) : kn c x F 0 = (lo (x &&& F) && lo (dif c x F)) := by
  unfold kn
  rw [Nat.and_zero, Nat.and_zero, lo_0, dif_0 (and_lt hF), dif_0 (dif_lt c x F), Bool.true_and, Bool.true_and]
theorem kn_00 {c x : Nat} (hx : x < 2 ^ c) : kn c x 0 0 = lo x := by
  rw [kn_0 hx (Nat.two_pow_pos c), Nat.and_zero, lo_0, dif_0 hx, Bool.true_and]
theorem s_b2 {m : Nat} (hm : m < 256) {post : Int32 → Prop} {q : Prop} (a : lo m = false → q) (b : lo m = true → post 0) : wp_X8_bits (nI m) (fun r => ((2 : Int32) ≤ r → q) ∧ (¬ (2 : Int32) ≤ r → post 0)) := by
  have h8 := cnt_le m
  refine s_bits hm ?_
  unfold lo at a b
  by_cases h : cnt m < 2
  · exact q_f (nI_ge (b := 2) h (by decide)) (b (decide_eq_true h))
  · exact q_t (nI_le (a := 2) (by omega) (by omega)) (a (decide_eq_false h))
theorem s8_J37 {c x F S : Nat} (hc : c ≤ 8) (hx : x < 2 ^ c) (hF : F < 2 ^ c) (hS : S < 2 ^ c) {post : Int32 → Prop} (p : post (bi (kn c x F S))) : wp_X8_isKnown_J37 (nI x) (nI F) (nI S) post := by
  have hp := pow_le8 hc
  have a1 : x &&& F < 2 ^ c := and_lt hF
  have a2 : x &&& F &&& S < 2 ^ c := and_lt hS
  have a3 := dif_lt c (x &&& F) S
  have a4 := dif_lt c x F
  have a5 : dif c x F &&& S < 2 ^ c := and_lt hS
  have a6 := dif_lt c (dif c x F) S
  unfold wp_X8_isKnown_J37
  rw [and_dif hc hx, nI_and, nI_and, and_dif hc a1, nI_and, and_dif hc a4]
  have z : ∀ {m : Nat} {A B : Prop}, m < 256 → (lo m = false → A) → (lo m = true → B) → wp_X8_bits (nI m) (fun r => ((2 : Int32) ≤ r → A) ∧ (¬ (2 : Int32) ≤ r → B)) := fun {m A B} hm a b => s_b2 (post := fun _ => B) hm a b
  unfold kn at p
  refine z (by omega) (fun h => ?_) (fun h => z (by omega) (fun h2 => ?_) (fun h2 => z (by omega) (fun h3 => ?_) (fun h3 => z (by omega) (fun h4 => ?_) (fun h4 => ?_))))
  · rw [h] at p; exact p
  · rw [h, h2] at p; exact p
  · rw [h, h2, h3] at p; exact p
  · rw [h, h2, h3, h4] at p; exact p
  · rw [h, h2, h3, h4] at p; exact p
/-- the class: a set parted by what a mix tells -/
theorem s_pw {c s u : Nat} (hc : c ≤ 8) (hs : s < 2 ^ c) (hu : u < 2 ^ c) {post : Int32 → Prop} (p : post (bi (lo (s &&& u) && lo (dif c s u)))) : wp_X2_partsWell (nI s) (nI u) post := by
  have hp := pow_le8 hc
  have a1 : s &&& u < 2 ^ c := and_lt hu
  have a2 := dif_lt c s u
  unfold wp_X2_partsWell
  rw [nI_and, and_dif hc hs]
  refine s_one (by omega) ?_
  show (bi (lo (s &&& u)) = 0 → _) ∧ (¬ bi (lo (s &&& u)) = 0 → _)
  cases h : lo (s &&& u) with
  | false => rw [h] at p; exact q_t rfl p
  | true =>
    refine q_f (by decide) (s_one (by omega) ?_)
    show (bi (lo (dif c s u)) = 0 → _) ∧ (¬ bi (lo (dif c s u)) = 0 → _)
    cases h2 : lo (dif c s u) with
    | false => rw [h, h2] at p; exact q_t rfl p
    | true => rw [h, h2] at p; exact q_f (by decide) p
theorem cut_eqs {c x F S : Nat} (hx : x < 2 ^ c) (hF : F < 2 ^ c) : (F &&& x) &&& (S &&& x) = x &&& F &&& S ∧ dif c (F &&& x) (S &&& x) = dif c (x &&& F) S ∧ dif c x F &&& (S &&& x) = dif c x F &&& S ∧ dif c (dif c x F) (S &&& x) = dif c (dif c x F) S ∧ dif c x (F &&& x) = dif c x F := by
  have a1 : F &&& x < 2 ^ c := and_lt hx
  have a2 : x &&& F < 2 ^ c := and_lt hF
  have a3 := dif_lt c x F
  refine ⟨?_, ?_, ?_, ?_, ?_⟩ <;> apply Nat.eq_of_testBit_eq <;> intro i
  · simp only [Nat.testBit_and]
    cases x.testBit i <;> cases F.testBit i <;> cases S.testBit i <;> rfl
  · rw [dif_bit a1, dif_bit a2]
    simp only [Nat.testBit_and]
    cases x.testBit i <;> cases F.testBit i <;> cases S.testBit i <;> rfl
  · simp only [Nat.testBit_and, dif_bit hx]
    cases x.testBit i <;> cases F.testBit i <;> cases S.testBit i <;> rfl
  · rw [dif_bit a3, dif_bit a3, dif_bit hx]
    simp only [Nat.testBit_and]
    cases x.testBit i <;> cases F.testBit i <;> cases S.testBit i <;> rfl
  · rw [dif_bit hx, dif_bit hx]
    simp only [Nat.testBit_and]
    cases x.testBit i <;> cases F.testBit i <;> rfl
theorem kn_cut {c x F S : Nat} (hx : x < 2 ^ c) (hF : F < 2 ^ c) : kn c x F S = ((lo ((F &&& x) &&& (S &&& x)) && lo (dif c (F &&& x) (S &&& x))) && (lo (dif c x F &&& (S &&& x)) && lo (dif c (dif c x F) (S &&& x)))) := by
  obtain ⟨q1, q2, q3, q4, q5⟩ := cut_eqs (S := S) hx hF
  rw [q1, q2, q3, q4]
  unfold kn
  cases lo (x &&& F &&& S) <;> cases lo (dif c (x &&& F) S) <;> rfl
theorem big_no {c s S : Nat} (hs : s < 2 ^ c) (h : 2 < cnt s) : (lo (s &&& S) && lo (dif c s S)) = false := by
  have e := cnt_split (b := S) hs
  unfold lo
  by_cases h1 : cnt (s &&& S) < 2
  · have h2 : ¬ cnt (dif c s S) < 2 := by omega
    rw [decide_eq_false h2, Bool.and_false]
  · rw [decide_eq_false h1, Bool.false_and]
section ON
variable {c x : Nat} {N : Nat → Nat} {told : Nat → Int32}
theorem s_partner (hc : c ≤ 8) (hx : x < 2 ^ c) (hN : ∀ m, N m < 2 ^ c) (ht : ∀ m, 1 ≤ m → m < 2 ^ c → told m = nI (N m &&& x)) {a b : Nat} (a1 : 1 ≤ a) (ab : a < b) (hb : b ≤ 2 ^ c) (hno : ∀ j, a < j → j < b → kn c x (N a) (N j) = false) {post : Int32 → Prop}
    (p : (b = 2 ^ c ∧ post (-4)) ∨ (b < 2 ^ c ∧ kn c x (N a) (N b) = true ∧ post (nI b))) : wp_X2_partnerOf (nI x) (nI (2 ^ c - 1)) told (nI a) post := by
  have hp := pow_le8 hc
  have hT : ∀ m, N m &&& x < 2 ^ c := fun m => and_lt hx
  have hTa := hT a
  obtain ⟨-, -, -, -, q5⟩ := cut_eqs (S := 0) hx (hN a)
  have hd := dif_lt c x (N a)
  have h8 := cnt_le (N a &&& x)
  have h8' := cnt_le (dif c x (N a))
  unfold wp_X2_partnerOf
  rw [nI_clamp (by omega), ht a a1 (by omega), and_dif hc hx, q5]
  refine ⟨vp_in_nI (by omega) (by decide), s_bc (by omega) ?_⟩
  have big : (2 < cnt (N a &&& x) ∨ 2 < cnt (dif c x (N a))) → post (-4) := by
    intro h
    have all : ∀ j, kn c x (N a) (N j) = false := by
      intro j
      rw [kn_cut hx (hN a)]
      rcases h with h | h
      · rw [big_no hTa h, Bool.false_and]
      · rw [big_no hd h, Bool.and_false]
    rcases p with p | p
    · exact p.2
    · have := p.2.1
      rw [all b] at this; cases this
  by_cases h1 : 2 < cnt (N a &&& x)
  · exact q_t (nI_lt (a := 2) h1 (by omega)) (big (Or.inl h1))
  refine q_f (nI_nlt (b := cnt (N a &&& x)) (a := 2) (by omega) (by decide)) (s_bc (by omega) ?_)
  by_cases h2 : 2 < cnt (dif c x (N a))
  · exact q_f (nI_ge (a := 2) h2 (by omega)) (big (Or.inr h2))
  refine q_t (nI_le (b := 2) (by omega) (by decide)) ⟨b - (a + 1) + 1, ?_⟩
  rw [show nI a + (1 : Int32) = nI (a + 1) from (nI_succ a).symm]
  have L : ∀ (d j : Nat), j + d = b → a < j → wp_X2_partnerOf_L40 (nI (2 ^ c - 1)) told (nI (N a &&& x)) (nI (dif c x (N a))) post (d + 1) (nI j) := by
    intro d
    induction d with
    | zero =>
      intro j hj haj
      have : j = b := by omega
      subst this
      rcases p with ⟨e, p⟩ | ⟨hlt, hk, p⟩
      · exact q_t (nI_lt (by omega) (by omega)) p
      · refine q_f (nI_nlt (by omega) (by omega)) ?_
        rw [nI_clamp (by omega), ht j (by omega) hlt]
        rw [kn_cut hx (hN a)] at hk
        refine ⟨vp_in_nI (by omega) (by decide), s_pw hc hTa (hT j) ?_⟩
        cases h : (lo ((N a &&& x) &&& (N j &&& x)) && lo (dif c (N a &&& x) (N j &&& x))) with
        | false => rw [h] at hk; cases hk
        | true =>
          refine q_f (by decide) ⟨vp_in_nI (by omega) (by decide), s_pw hc hd (hT j) ?_⟩
          rw [h, Bool.true_and] at hk
          rw [hk]
          exact q_f (by decide) p
    | succ d ih =>
      intro j hj haj
      have hk := hno j haj (by omega)
      refine q_f (nI_nlt (by omega) (by omega)) ?_
      rw [nI_clamp (by omega), ht j (by omega) (by omega)]
      rw [kn_cut hx (hN a)] at hk
      have e := ih (j + 1) (by omega) (by omega)
      rw [nI_succ] at e
      refine ⟨vp_in_nI (by omega) (by decide), s_pw hc hTa (hT j) ?_⟩
      cases h : (lo ((N a &&& x) &&& (N j &&& x)) && lo (dif c (N a &&& x) (N j &&& x))) with
      | false => exact q_t rfl e
      | true =>
        refine q_f (by decide) ⟨vp_in_nI (by omega) (by decide), s_pw hc hd (hT j) ?_⟩
        rw [h, Bool.true_and] at hk
        rw [hk]
        exact q_t rfl e
  exact L (b - (a + 1)) (a + 1) (by omega) (by omega)
/-- what two mixes at once come to -/
def onceO (c x : Nat) (N : Nat → Nat) (many one two : Int32) : Prop :=
  (cnt x < 2 ∧ many = 0 ∧ one = -4 ∧ two = -4) ∨
  (¬ cnt x < 2 ∧ ∃ m, 1 ≤ m ∧ m < 2 ^ c ∧ kn c x (N m) 0 = true ∧ (∀ j, 1 ≤ j → j < m → kn c x (N j) 0 = false) ∧ many = 1 ∧ one = nI m ∧ two = -4) ∨
  (¬ cnt x < 2 ∧ (∀ j, 1 ≤ j → j < 2 ^ c → kn c x (N j) 0 = false) ∧ ∃ a b, 1 ≤ a ∧ a < b ∧ b < 2 ^ c ∧ kn c x (N a) (N b) = true ∧ (∀ a' b', 1 ≤ a' → a' < a → a' < b' → b' < 2 ^ c → kn c x (N a') (N b') = false) ∧ (∀ b', a < b' → b' < b → kn c x (N a) (N b') = false) ∧ many = 2 ∧ one = nI a ∧ two = nI b) ∨
  (¬ cnt x < 2 ∧ (∀ j, 1 ≤ j → j < 2 ^ c → kn c x (N j) 0 = false) ∧ (∀ a' b', 1 ≤ a' → a' < b' → b' < 2 ^ c → kn c x (N a') (N b') = false) ∧ many = -4 ∧ one = -4 ∧ two = -4)
theorem once_ex (c x : Nat) (N : Nat → Nat) : ∃ many one two, onceO c x N many one two := by
  by_cases h : cnt x < 2
  · exact ⟨_, _, _, Or.inl ⟨h, rfl, rfl, rfl⟩⟩
  by_cases h1 : ∃ m, 1 ≤ m ∧ m < 2 ^ c ∧ kn c x (N m) 0 = true
  · obtain ⟨m, ⟨m1, m2, m3⟩, hm⟩ := first_ex h1
    refine ⟨_, _, _, Or.inr (Or.inl ⟨h, m, m1, m2, m3, fun j j1 j2 => ?_, rfl, rfl, rfl⟩)⟩
    cases hk : kn c x (N j) 0 with
    | false => rfl
    | true => exact absurd ⟨j1, by omega, hk⟩ (hm j j2)
  have h1' : ∀ j, 1 ≤ j → j < 2 ^ c → kn c x (N j) 0 = false := by
    intro j j1 j2
    cases hk : kn c x (N j) 0 with
    | false => rfl
    | true => exact absurd ⟨j, j1, j2, hk⟩ h1
  by_cases h2 : ∃ a, 1 ≤ a ∧ ∃ b, a < b ∧ b < 2 ^ c ∧ kn c x (N a) (N b) = true
  · obtain ⟨a, ⟨a1, hb⟩, ha⟩ := first_ex h2
    obtain ⟨b, ⟨b1, b2, b3⟩, hb'⟩ := first_ex hb
    refine ⟨_, _, _, Or.inr (Or.inr (Or.inl ⟨h, h1', a, b, a1, b1, b2, b3, fun a' b' q1 q2 q3 q4 => ?_, fun b' q1 q2 => ?_, rfl, rfl, rfl⟩))⟩
    · cases hk : kn c x (N a') (N b') with
      | false => rfl
      | true => exact absurd ⟨q1, b', q3, q4, hk⟩ (ha a' q2)
    · cases hk : kn c x (N a) (N b') with
      | false => rfl
      | true => exact absurd ⟨q1, by omega, hk⟩ (hb' b' q2)
  · refine ⟨_, _, _, Or.inr (Or.inr (Or.inr ⟨h, h1', fun a' b' q1 q2 q3 => ?_, rfl, rfl, rfl⟩))⟩
    cases hk : kn c x (N a') (N b') with
    | false => rfl
    | true => exact absurd ⟨a', q1, b', q2, q3, hk⟩ h2
theorem c1 (h : ¬ cnt x < 2) (hx : x < 2 ^ c) : 1 < 2 ^ c := by
  rcases Nat.eq_zero_or_pos c with h0 | h0
  · subst h0
    have : x = 0 := by omega
    rw [this] at h
    exact absurd (by decide) h
  · exact Nat.one_lt_two_pow (by omega)
theorem s_choose (hc : c ≤ 8) (hx : x < 2 ^ c) (hN : ∀ m, N m < 2 ^ c) (ht : ∀ m, 1 ≤ m → m < 2 ^ c → told m = nI (N m &&& x)) {many one two l g : Int32} (ho : onceO c x N many one two) {post : Int32 → Int32 → Int32 → Prop}
    (p : ∀ l' g', (¬ many = 0 → ¬ many = -4 → l' = one) → (many = 2 → g' = two) → post many l' g') : wp_X2_chooseAhead (nI x) (nI (2 ^ c - 1)) l g told post := by
  have hp := pow_le8 hc
  refine s_one (by omega) ?_
  rcases ho with ⟨h, rfl, rfl, rfl⟩ | ho
  · rw [decide_eq_true h]
    exact q_f (by decide) (p l g (fun q => absurd rfl q) (fun q => absurd q (by decide)))
  have hn : ¬ cnt x < 2 := by
    rcases ho with ⟨h, -⟩ | ⟨h, -⟩ | ⟨h, -⟩ <;> exact h
  have hc1 := c1 hn hx
  rw [decide_eq_false hn]
  refine q_t rfl ?_
  -- one step of the first loop
  have S1 : ∀ (j n : Nat), 1 ≤ j → j < 2 ^ c → (kn c x (N j) 0 = true → post 1 (nI j) g) → (kn c x (N j) 0 = false → wp_X2_chooseAhead_L14 (nI x) (nI (2 ^ c - 1)) l g told post n (nI (j + 1))) → wp_X2_chooseAhead_L14 (nI x) (nI (2 ^ c - 1)) l g told post (n + 1) (nI j) := by
    intro j n j1 j2 ha hb
    have hT : N j &&& x < 2 ^ c := and_lt hx
    have hd := dif_lt c x (N j)
    obtain ⟨-, -, -, -, q5⟩ := cut_eqs (S := 0) hx (hN j)
    rw [kn_0 hx (hN j), Nat.and_comm] at ha hb
    rw [nI_succ] at hb
    refine q_f (nI_nlt (by omega) (by omega)) ?_
    rw [nI_clamp (by omega), ht j j1 j2, and_dif hc hx, q5]
    refine ⟨vp_in_nI (by omega) (by decide), s_one (by omega) ?_⟩
    show (bi (lo (N j &&& x)) = 0 → _) ∧ (¬ bi (lo (N j &&& x)) = 0 → _)
    cases h : lo (N j &&& x) with
    | false => exact q_t rfl (hb (by rw [h]; rfl))
    | true =>
      refine q_f (by decide) ⟨vp_in_nI (by omega) (by decide), s_one (by omega) ?_⟩
      show (bi (lo (dif c x (N j))) = 0 → _) ∧ (¬ bi (lo (dif c x (N j))) = 0 → _)
      cases h2 : lo (dif c x (N j)) with
      | false => exact q_t rfl (hb (by rw [h, h2]; rfl))
      | true => exact q_f (by decide) (ha (by rw [h, h2]; rfl))
  rcases ho with ⟨-, m, m1, m2, m3, m4, rfl, rfl, rfl⟩ | ho
  · have L : ∀ (d j : Nat), j + d = m → 1 ≤ j → wp_X2_chooseAhead_L14 (nI x) (nI (2 ^ c - 1)) l g told post (d + 1) (nI j) := by
      intro d
      induction d with
      | zero =>
        intro j hj j1
        have : j = m := by omega
        subst this
        exact S1 j 0 j1 m2 (fun _ => p (nI j) g (fun _ _ => rfl) (fun q => absurd q (by decide))) (fun q => by rw [m3] at q; cases q)
      | succ d ih =>
        intro j hj j1
        exact S1 j _ j1 (by omega) (fun q => by rw [m4 j j1 (by omega)] at q; cases q) (fun _ => ih (j + 1) (by omega) (by omega))
    exact ⟨m - 1 + 1, L (m - 1) 1 (by omega) (by omega)⟩
  have hno : ∀ j, 1 ≤ j → j < 2 ^ c → kn c x (N j) 0 = false := by
    rcases ho with ⟨-, h, -⟩ | ⟨-, h, -⟩ <;> exact h
  have L1 : (∃ n, wp_X2_chooseAhead_L68 (nI x) (nI (2 ^ c - 1)) l g told post n (1 : Int32)) → ∀ (d j : Nat), j + d = 2 ^ c → 1 ≤ j → wp_X2_chooseAhead_L14 (nI x) (nI (2 ^ c - 1)) l g told post (d + 1) (nI j) := by
    intro h68 d
    induction d with
    | zero =>
      intro j hj j1
      exact q_t (nI_lt (by omega) (by omega)) h68
    | succ d ih =>
      intro j hj j1
      exact S1 j _ j1 (by omega) (fun q => by rw [hno j j1 (by omega)] at q; cases q) (fun _ => ih (j + 1) (by omega) (by omega))
  refine ⟨2 ^ c - 1 + 1, L1 ?_ (2 ^ c - 1) 1 (by omega) (by omega)⟩
  rcases ho with ⟨-, -, a, b, a1, ab, b2, hk, hlo, hlb, rfl, rfl, rfl⟩ | ⟨-, -, hall, rfl, rfl, rfl⟩
  · have L : ∀ (d j : Nat), j + d = a → 1 ≤ j → wp_X2_chooseAhead_L68 (nI x) (nI (2 ^ c - 1)) l g told post (d + 1) (nI j) := by
      intro d
      induction d with
      | zero =>
        intro j hj j1
        have : j = a := by omega
        subst this
        refine q_f (nI_ge (by omega) (by omega)) (s_partner hc hx hN ht j1 ab (by omega) hlb (Or.inr ⟨b2, hk, ?_⟩))
        exact q_f (fun e => nI_pos (n := b) (by omega) (by rw [e]; decide)) (p _ _ (fun _ _ => rfl) (fun _ => rfl))
      | succ d ih =>
        intro j hj j1
        refine q_f (nI_ge (by omega) (by omega)) (s_partner (b := 2 ^ c) hc hx hN ht j1 (by omega) (by omega) (fun b' q1 q2 => hlo j b' j1 (by omega) q1 q2) (Or.inl ⟨rfl, q_t rfl ?_⟩))
        rw [← nI_succ]
        exact ih (j + 1) (by omega) (by omega)
    exact ⟨a - 1 + 1, L (a - 1) 1 (by omega) (by omega)⟩
  · have L : ∀ (d j : Nat), j + d = 2 ^ c - 1 → 1 ≤ j → wp_X2_chooseAhead_L68 (nI x) (nI (2 ^ c - 1)) l g told post (d + 1) (nI j) := by
      intro d
      induction d with
      | zero =>
        intro j hj j1
        exact q_t (nI_le (by omega) (by omega)) (p l g (fun _ q => absurd rfl q) (fun q => absurd q (by decide)))
      | succ d ih =>
        intro j hj j1
        refine q_f (nI_ge (by omega) (by omega)) (s_partner (b := 2 ^ c) hc hx hN ht j1 (by omega) (by omega) (fun b' q1 q2 => hall j b' j1 q1 q2) (Or.inl ⟨rfl, q_t rfl ?_⟩))
        rw [← nI_succ]
        exact ih (j + 1) (by omega) (by omega)
    exact ⟨2 ^ c - 1 - 1 + 1, L (2 ^ c - 1 - 1) 1 (by omega) (by omega)⟩
variable {now noticed : Nat → Int32}
theorem s8_known (hc : c ≤ 8) (hx : x < 2 ^ c) (hN : ∀ m, N m < 2 ^ c) (ht : ∀ m, 1 ≤ m → m < 2 ^ c → noticed m = nI (N m)) (q0 : now 2 = nI x) {a b : Nat} (a1 : 1 ≤ a) (ha : a < 2 ^ c) (b1 : 1 ≤ b) (hb : b < 2 ^ c) {post : Int32 → Prop} (p : post (bi (kn c x (N a) (N b)))) : wp_X8_isKnown now noticed (nI a) (nI b) post := by
  have hp := pow_le8 hc
  unfold wp_X8_isKnown wp_X8_isKnown_J21
  rw [nI_clamp (by omega), nI_clamp (by omega), ht a a1 ha, ht b b1 hb, q0]
  exact n_t (nI_ne0 (by omega) (by omega)) ⟨vp_in_nI (by omega) (by decide), n_t (nI_ne0 (by omega) (by omega)) ⟨vp_in_nI (by omega) (by decide), s8_J37 hc hx (hN a) (hN b) p⟩⟩
theorem s8_known0 (hc : c ≤ 8) (hx : x < 2 ^ c) (hN : ∀ m, N m < 2 ^ c) (ht : ∀ m, 1 ≤ m → m < 2 ^ c → noticed m = nI (N m)) (q0 : now 2 = nI x) {a : Nat} (a1 : 1 ≤ a) (ha : a < 2 ^ c) {post : Int32 → Prop} (p : post (bi (kn c x (N a) 0))) : wp_X8_isKnown now noticed (nI a) 0 post := by
  have hp := pow_le8 hc
  unfold wp_X8_isKnown wp_X8_isKnown_J21
  rw [nI_clamp (by omega), ht a a1 ha, q0]
  exact n_t (nI_ne0 (by omega) (by omega)) ⟨vp_in_nI (by omega) (by decide), n_f rfl (s8_J37 (S := 0) hc hx (hN a) (Nat.two_pow_pos c) p)⟩
theorem s8_known00 (hc : c ≤ 8) (hx : x < 2 ^ c) (q0 : now 2 = nI x) {post : Int32 → Prop} (p : post (bi (lo x))) : wp_X8_isKnown now noticed 0 0 post := by
  unfold wp_X8_isKnown wp_X8_isKnown_J21
  rw [q0]
  refine n_f rfl (n_f rfl (s8_J37 (F := 0) (S := 0) hc hx (Nat.two_pow_pos c) (Nat.two_pow_pos c) ?_))
  rw [kn_00 hx]; exact p
theorem s_layOnce (hc : c ≤ 8) (hx : x < 2 ^ c) (hN : ∀ m, N m < 2 ^ c) (ht : ∀ m, 1 ≤ m → m < 2 ^ c → noticed m = nI (N m)) (q0 : now 2 = nI x) (m4 : now 4 = nI c) {many one two : Int32} (ho : onceO c x N many one two) {post : Int32 → Int32 → Int32 → (Nat → Int32) → Prop} (p : post many one two noticed) :
    wp_X8_isKnown now noticed (0 : Int32) (0 : Int32) (fun r2 => (r2 = 0 → wp_X8_layOnce_J21 now noticed (-4 : Int32) post) ∧ (¬ r2 = 0 → wp_X8_layOnce_J21 now noticed (0 : Int32) post)) := by
  have hp := pow_le8 hc
  have h0 := Nat.two_pow_pos c
  have D85 : ∀ (m o t : Int32) (k n : Nat), ¬ m = -4 → post m o t noticed → wp_X8_layOnce_L85 now noticed post (n + 1) m o t (nI k) := fun m o t k n hm hp => s8_all hc m4 ⟨fun _ => hp, fun _ => n_t hm hp⟩
  have D38 : ∀ (m o : Int32) (k n : Nat), ¬ m = -4 → post m o (-4) noticed → wp_X8_layOnce_L38 (-4) now noticed post (n + 1) m o (nI k) := fun m o k n hm hp => s8_all hc m4 ⟨fun _ => ⟨1, D85 m o (-4) 1 0 hm hp⟩, fun _ => n_t hm ⟨1, D85 m o (-4) 1 0 hm hp⟩⟩
  refine s8_known00 hc hx q0 ?_
  rcases ho with ⟨h, rfl, rfl, rfl⟩ | ho
  · unfold lo
    rw [decide_eq_true h]
    exact q_f (by decide) ⟨1, D38 0 (-4) 1 0 (by decide) p⟩
  have hn : ¬ cnt x < 2 := by
    rcases ho with ⟨h, -⟩ | ⟨h, -⟩ | ⟨h, -⟩ <;> exact h
  have hc1 := c1 hn hx
  unfold lo
  rw [decide_eq_false hn]
  refine q_t rfl ?_
  unfold wp_X8_layOnce_J21
  have S1 : ∀ (j n : Nat), 1 ≤ j → j < 2 ^ c → (kn c x (N j) 0 = true → wp_X8_layOnce_L38 (-4) now noticed post n 1 (nI j) (nI (j + 1))) → (kn c x (N j) 0 = false → wp_X8_layOnce_L38 (-4) now noticed post n (-4) (-4) (nI (j + 1))) → wp_X8_layOnce_L38 (-4) now noticed post (n + 1) (-4) (-4) (nI j) := by
    intro j n j1 j2 ha hb
    rw [nI_succ] at ha hb
    refine s8_all hc m4 (q_f (nI_nlt (by omega) (by omega)) (n_f rfl (s8_known0 hc hx hN ht q0 j1 j2 ?_)))
    cases h : kn c x (N j) 0 with
    | false => exact q_t rfl (hb h)
    | true => exact q_f (by decide) (ha h)
  rcases ho with ⟨-, m, m1, m2, m3, mm4, rfl, rfl, rfl⟩ | ho
  · have L : ∀ (d j : Nat), j + d = m → 1 ≤ j → wp_X8_layOnce_L38 (-4) now noticed post (d + 1 + 1) (-4) (-4) (nI j) := by
      intro d
      induction d with
      | zero =>
        intro j hj j1
        have : j = m := by omega
        subst this
        exact S1 j 1 j1 m2 (fun _ => D38 1 (nI j) (j + 1) 0 (by decide) p) (fun q => by rw [m3] at q; cases q)
      | succ d ih =>
        intro j hj j1
        exact S1 j _ j1 (by omega) (fun q => by rw [mm4 j j1 (by omega)] at q; cases q) (fun _ => ih (j + 1) (by omega) (by omega))
    exact ⟨m - 1 + 1 + 1, L (m - 1) 1 (by omega) (by omega)⟩
  have hno : ∀ j, 1 ≤ j → j < 2 ^ c → kn c x (N j) 0 = false := by
    rcases ho with ⟨-, h, -⟩ | ⟨-, h, -⟩ <;> exact h
  have L1 : (∃ n, wp_X8_layOnce_L85 now noticed post n (-4) (-4) (-4) (1 : Int32)) → ∀ (d j : Nat), j + d = 2 ^ c → 1 ≤ j → wp_X8_layOnce_L38 (-4) now noticed post (d + 1) (-4) (-4) (nI j) := by
    intro h85 d
    induction d with
    | zero =>
      intro j hj j1
      exact s8_all hc m4 (q_t (nI_lt (by omega) (by omega)) h85)
    | succ d ih =>
      intro j hj j1
      exact S1 j _ j1 (by omega) (fun q => by rw [hno j j1 (by omega)] at q; cases q) (fun _ => ih (j + 1) (by omega) (by omega))
  refine ⟨2 ^ c - 1 + 1, L1 ?_ (2 ^ c - 1) 1 (by omega) (by omega)⟩
  -- the inner loop, where nothing is found, and where something is
  have I0 : ∀ (a : Nat) (K : Int32 → Int32 → Int32 → Int32 → Prop), 1 ≤ a → a < 2 ^ c → (∀ b, a < b → b < 2 ^ c → kn c x (N a) (N b) = false) → K (-4) (-4) (-4) (nI (a + 1)) → ∃ n, wp_X8_layOnce_L109 now noticed (nI a) K post n (-4) (-4) (-4) (nI a + 1) := by
    intro a K a1 a2 hno2 hK
    rw [nI_succ] at hK
    have L : ∀ (d j : Nat), j + d = 2 ^ c → a < j → wp_X8_layOnce_L109 now noticed (nI a) K post (d + 1) (-4) (-4) (-4) (nI j) := by
      intro d
      induction d with
      | zero =>
        intro j hj j1
        exact s8_all hc m4 (q_t (nI_lt (by omega) (by omega)) hK)
      | succ d ih =>
        intro j hj j1
        refine s8_all hc m4 (q_f (nI_nlt (by omega) (by omega)) (n_f rfl (s8_known hc hx hN ht q0 a1 a2 (by omega) (by omega) ?_)))
        rw [hno2 j j1 (by omega)]
        refine q_t rfl ?_
        rw [← nI_succ]
        exact ih (j + 1) (by omega) (by omega)
    rw [← nI_succ]
    exact ⟨2 ^ c - (a + 1) + 1, L _ (a + 1) (by omega) (by omega)⟩
  rcases ho with ⟨-, -, a, b, a1, ab, b2, hk, hlo, hlb, rfl, rfl, rfl⟩ | ⟨-, -, hall, rfl, rfl, rfl⟩
  · have I1 : ∀ (K : Int32 → Int32 → Int32 → Int32 → Prop), K 2 (nI a) (nI b) (nI (a + 1)) → ∃ n, wp_X8_layOnce_L109 now noticed (nI a) K post n (-4) (-4) (-4) (nI a + 1) := by
      intro K hK
      rw [nI_succ] at hK
      have L : ∀ (d j : Nat), j + d = b → a < j → wp_X8_layOnce_L109 now noticed (nI a) K post (d + 1 + 1) (-4) (-4) (-4) (nI j) := by
        intro d
        induction d with
        | zero =>
          intro j hj j1
          have : j = b := by omega
          subst this
          refine s8_all hc m4 (q_f (nI_nlt (by omega) (by omega)) (n_f rfl (s8_known hc hx hN ht q0 a1 (by omega) (by omega) (by omega) ?_)))
          rw [hk]
          exact q_f (by decide) (s8_all hc m4 ⟨fun _ => hK, fun _ => n_t (by decide) hK⟩)
        | succ d ih =>
          intro j hj j1
          refine s8_all hc m4 (q_f (nI_nlt (by omega) (by omega)) (n_f rfl (s8_known hc hx hN ht q0 a1 (by omega) (by omega) (by omega) ?_)))
          rw [hlb j j1 (by omega)]
          refine q_t rfl ?_
          rw [← nI_succ]
          exact ih (j + 1) (by omega) (by omega)
      rw [← nI_succ]
      exact ⟨b - (a + 1) + 1 + 1, L _ (a + 1) (by omega) (by omega)⟩
    have L : ∀ (d j : Nat), j + d = a → 1 ≤ j → wp_X8_layOnce_L85 now noticed post (d + 1 + 1) (-4) (-4) (-4) (nI j) := by
      intro d
      induction d with
      | zero =>
        intro j hj j1
        have : j = a := by omega
        subst this
        exact s8_all hc m4 (q_f (nI_nlt (by omega) (by omega)) (n_f rfl (I1 _ (D85 2 (nI j) (nI b) (j + 1) 0 (by decide) p))))
      | succ d ih =>
        intro j hj j1
        exact s8_all hc m4 (q_f (nI_nlt (by omega) (by omega)) (n_f rfl (I0 j _ j1 (by omega) (fun b' q1 q2 => hlo j b' j1 (by omega) q1 q2) (ih (j + 1) (by omega) (by omega)))))
    exact ⟨a - 1 + 1 + 1, L (a - 1) 1 (by omega) (by omega)⟩
  · have L : ∀ (d j : Nat), j + d = 2 ^ c → 1 ≤ j → wp_X8_layOnce_L85 now noticed post (d + 1) (-4) (-4) (-4) (nI j) := by
      intro d
      induction d with
      | zero =>
        intro j hj j1
        exact s8_all hc m4 (q_t (nI_lt (by omega) (by omega)) p)
      | succ d ih =>
        intro j hj j1
        exact s8_all hc m4 (q_f (nI_nlt (by omega) (by omega)) (n_f rfl (I0 j _ j1 (by omega) (fun b' q1 q2 => hall j b' j1 q1 q2) (ih (j + 1) (by omega) (by omega)))))
    exact ⟨2 ^ c - 1 + 1, L (2 ^ c - 1) 1 (by omega) (by omega)⟩
end ON
set_option maxRecDepth 20000 in
theorem st_once : Step_once RR := by
  intro v f g x1 x2 keep
  obtain ⟨⟨c, t, w, k, hD⟩, hK, hT, hS⟩ := id keep
  obtain ⟨⟨hc, ht, hw, hk⟩, ⟨e1, e2, e3, e4⟩, ⟨m4, m13, m22⟩, hmi, hta, ⟨q0, q1, q2, q3, hM⟩, hpast⟩ := id hD
  obtain ⟨hok, h5⟩ := DR_okM hD
  obtain ⟨x, hx, ex⟩ := hM.1
  have hp := pow_le8 hc
  rcases ix x1 (n := t) (by omega) with h | ⟨i, hi, rfl⟩
  · exact s7t_bad e2 h (q_t rfl (s8_isTaster_bad m13 ht h (q_t rfl ⟨rfl, keep⟩)))
  refine s7t_ok e2 ht hi (q_f ne10 ?_)
  by_cases hm1 : (-1 : Int32) ≤ x2
  · obtain ⟨kd, fn, d, hkd, hfn1, hfn, hd, ek, ef, nk, nf, ed, nd⟩ := tas hD hi
    obtain ⟨many, one, two, ho⟩ := once_ex c x (nset kd fn d c (tn (f 0)))
    refine q_t hm1 (s_look hD hi hkd hfn hd ek ef ed ex (fun told ht' => s_choose hc hx (nset_lt kd fn d c (tn (f 0))) ht' ho (fun l' g' hl hg => ?_)))
    have M : ∀ P : Int32 → Int32 → Int32 → Int32 → (Nat → Int32) → Prop, (∀ nn, (¬ x2 = (-1 : Int32) → (¬ x2 = 0 → (¬ x2 = (1 : Int32) → P (-4 : Int32) many one two nn) ∧ (x2 = (1 : Int32) → P two many one two nn)) ∧ (x2 = 0 → P one many one two nn)) ∧ (x2 = (-1 : Int32) → P many many one two nn)) → wp_X8_once (v 41) (v 42) (v 43) (f 29) (f 33) (nI i) x2 P := by
      intro P hP
      exact s8_isTaster_ok m13 ht hi (q_f ne10 (q_t hm1 (s_lay hD hi hkd hfn hd nk nf nd (fun nn hnn => s_layOnce hc hx (nset_lt kd fn d c (tn (f 0))) hnn (q0.trans ex) m4 ho (hP nn)))))
    by_cases h1 : x2 = -1
    · exact q_t h1 (M _ (fun nn => n_f h1 ⟨rfl, keep⟩))
    refine q_f h1 ?_
    have h0 : ¬ x2 < 0 := by
      rw [fa_le] at hm1; rw [fa_eq] at h1; rw [fa_lt]
      have z : ((-1 : Int32)).toInt = -1 := by decide
      have z' : ((0 : Int32)).toInt = 0 := by decide
      omega
    obtain ⟨q, hq, rfl⟩ := nI_of h0
    have A : ∀ P : Int32 → Int32 → Int32 → Int32 → (Nat → Int32) → Prop, (∀ nn, P (if q = 0 then one else if q = 1 then two else -4) many one two nn) → wp_X8_once (v 41) (v 42) (v 43) (f 29) (f 33) (nI i) (nI q) P := by
      intro P hP
      refine M P (fun nn => n_t h1 ?_)
      have := hP nn
      by_cases z : q = 0
      · rw [if_pos z] at this
        exact n_f ((nI0 hq).mpr z) this
      · rw [if_neg z] at this
        refine n_t (fun e => z ((nI0 hq).mp e)) ?_
        by_cases z1 : q = 1
        · rw [if_pos z1] at this
          exact n_f ((nIk q 1 hq (by decide)).mpr z1) this
        · rw [if_neg z1] at this
          exact n_t (fun e => z1 ((nIk q 1 hq (by decide)).mp e)) this
    rcases ho with ⟨h, rfl, rfl, rfl⟩ | ⟨h, m, mm1, mm2, mm3, mm4, rfl, rfl, rfl⟩ | ⟨h, hno, a, b, a1, ab, b2, hkk, hlo, hlb, rfl, rfl, rfl⟩ | ⟨h, hno, hall, rfl, rfl, rfl⟩
    · refine n_t (by decide) (q_f h0 (A _ (fun nn => ⟨?_, keep⟩)))
      split
      · rfl
      · split <;> rfl
    · refine n_t (by decide) ?_
      rcases Nat.eq_zero_or_pos q with z | z
      · subst z
        exact q_t (by decide) (n_f rfl (A _ (fun nn => ⟨hl (by decide) (by decide), keep⟩)))
      · refine q_f (nI_nlt (b := 1) z hq) (A _ (fun nn => ⟨?_, keep⟩))
        rw [if_neg (by omega)]
        split <;> rfl
    · refine n_t (by decide) ?_
      rcases Nat.lt_or_ge q 2 with z | z
      · refine q_t (nI_lt (b := 2) z (by decide)) ?_
        rcases Nat.eq_zero_or_pos q with z' | z'
        · subst z'
          exact n_f rfl (A _ (fun nn => ⟨hl (by decide) (by decide), keep⟩))
        · have : q = 1 := by omega
          subst this
          exact n_t (by decide) (A _ (fun nn => ⟨hg rfl, keep⟩))
      · refine q_f (nI_nlt (b := 2) z hq) (A _ (fun nn => ⟨?_, keep⟩))
        rw [if_neg (by omega), if_neg (by omega)]
    · refine n_f rfl (A _ (fun nn => ⟨?_, keep⟩))
      split
      · rfl
      · split <;> rfl
  · exact q_f hm1 (s8_isTaster_ok m13 ht hi (q_f ne10 (q_f hm1 ⟨rfl, keep⟩)))
