/-! pure part 10: copies of sheets -/
theorem st_copyB : Step_copyB RR := by
  intro v f g x1 x2 x3 x4 x5 hno keep
  have kk : RR v f (va_up g 4 (g 4)) := by rw [w_id]; exact keep
  rcases ix x1 (n := 4) (by decide) with h | ⟨i, hi, rfl⟩
  · exact s7s_bad h (q_t rfl (s8s_bad h (q_t rfl ⟨rfl, kk⟩)))
  rcases ix x3 (n := 4) (by decide) with h | ⟨j, hj, rfl⟩
  · exact s7s_ok hi (q_f ne10 (s7s_bad h (n_f rfl (s8s_ok hi (q_f ne10 (s8s_bad h (n_f rfl ⟨rfl, kk⟩)))))))
  exact absurd ⟨x_in1 hi, x_in1 hj⟩ hno
theorem nneg {l : Nat} (h : l < 4) : ¬ nI l < 0 ∧ (0 : Int32) ≤ nI l := ⟨nI_pos (by omega), nI_pos' (by omega)⟩
theorem nm1 {n : Nat} (h : n ≤ 24) : ¬ nI n = (-1 : Int32) := fun e => nI_pos (n := n) (by omega) (by rw [e]; decide)
/-- what a copy leaves of two rows that were the same -/
theorem cp_same {it1 it2 : Nat → Int64} {mi : Nat → Int64} {i j a b n n1 : Nat} (h1 : ∀ x, x < 24 → it1 x = mi (24 * j + x)) (h2 : ∀ x, x < 24 → it2 x = mi (24 * i + x)) (hn1 : n1 ≤ 24) (ha : a + n ≤ n1) : ∀ x, x < 24 → va_cpy it1 it2 a b n x = fb_put mi (fun x => mi (24 * j + a + x)) (24 * i + b) n (24 * i + x) := by
  intro x hx
  show (fb_put it2 (fun x => it1 (a + x)) b n) x = _
  by_cases e : b ≤ x ∧ x < b + n
  · rw [fb_put_in e.1 e.2, fb_put_in (by omega) (by omega), h1 _ (by omega)]; congr 1; omega
  · rw [fb_put_out (by omega), fb_put_out (by omega)]; exact h2 x hx
theorem st_copyD : Step_copyD RR := by
  intro v f g x1 x2 x3 x4 x5 j i hsj hsi hne keep
  have hS := RR_SH keep
  have kk : RR v f (va_up (va_up g i (g i)) 4 (g 4)) := by rw [w_id, w_id]; exact keep
  rcases ix x1 (n := 4) (by decide) with h | ⟨j', hj, rfl⟩
  · exact s7s_bad h (q_t rfl (s8s_bad h (q_t rfl ⟨rfl, kk⟩)))
  rcases ix x3 (n := 4) (by decide) with h | ⟨i', hi, rfl⟩
  · exact s7s_ok hj (q_f ne10 (s7s_bad h (n_f rfl (s8s_ok hj (q_f ne10 (s8s_bad h (n_f rfl ⟨rfl, kk⟩)))))))
  have e := SJ_eq hj hsj; subst e
  have e := SJ_eq hi hsi; subst e
  refine s7s_ok hj (q_f ne10 (s7s_ok hi (n_t ne10 ⟨x_in1 hj, x_in1 hi, ?_⟩)))
  rcases hS j' hj with ⟨hs, hl⟩ | ⟨l, n, hl, hn, a1, a2, a3, a4, a5⟩
  · exact q_t hs (s8s_ok hj (q_f ne10 (s8s_ok hi (n_t ne10 ⟨x_in1 hj, q_t (by rw [clam hj, hl]; decide) ⟨rfl, kk⟩⟩))))
  refine q_f (by rw [a3]; exact nm1 hn) ?_
  have z1 : ¬ f 26 (nI j').toNatClampNeg < 0 := by rw [clam hj, a2]; exact (nneg hl).1
  rcases hS i' hi with ⟨hs, hl'⟩ | ⟨l', n', hl', hn', b1, b2, b3, b4, b5⟩
  · exact n_f hs (s8s_ok hj (q_f ne10 (s8s_ok hi (n_t ne10 ⟨x_in1 hj, q_f z1 ⟨x_in1 hi, q_f (by rw [clam hi, hl']; decide) ⟨rfl, kk⟩⟩⟩))))
  refine n_t (by rw [b3]; exact nm1 hn') ?_
  have z2 : 0 ≤ f 26 (nI i').toNatClampNeg := by rw [clam hi, b2]; exact (nneg hl').2
  by_cases hll : nI l = nI l'
  · refine q_t (by rw [a1, b1]; exact hll) ?_
    have z3 : f 26 (nI j').toNatClampNeg = f 26 (nI i').toNatClampNeg := by rw [clam hj, clam hi, a2, b2]; exact hll
    have M : ∀ (P : Int32 → (Nat → Int64) → Prop), wp_X8_isPart x2 x5 (nI n) (fun r3 => (r3 = 0 → P (-13) (g 4)) ∧ (¬ r3 = 0 → wp_X8_isPart x4 x5 (nI n') (fun r4 => (¬ r4 = 0 → (∃ n, wp_X8_copy_L110 (nI j') x2 (nI i') x4 x5 0 P n (g 4) 0)) ∧ (r4 = 0 → P (-13) (g 4))))) → wp_X8_copy (f 26) (f 27) (g 4) (nI j') x2 (nI i') x4 x5 P := by
      intro P h
      refine s8s_ok hj (q_f ne10 (s8s_ok hi (n_t ne10 ⟨x_in1 hj, q_f z1 ⟨x_in1 hi, q_t z2 ⟨x_in1 hj, x_in1 hi, q_t z3 ⟨x_in1 hj, ?_⟩⟩⟩⟩)))
      rw [clam hj, clam hi, a4, b4]
      have nij : ¬ nI j' = nI i' := fun e => hne ((nI_eq (by omega) (by omega)).mp e).symm
      have F : ∀ (r4 : Int32), ((¬ r4 = 0 → (∃ n, wp_X8_copy_L110 (nI j') x2 (nI i') x4 x5 0 P n (g 4) 0)) ∧ (r4 = 0 → P (-13) (g 4))) → ((¬ r4 = 0 → ((¬ nI j' = nI i' → (∃ n, wp_X8_copy_L110 (nI j') x2 (nI i') x4 x5 (0 : Int32) P n (g 4) (0 : Int32))) ∧ (nI j' = nI i' → (x4 ≤ x2 → (∃ n, wp_X8_copy_L110 (nI j') x2 (nI i') x4 x5 (0 : Int32) P n (g 4) (0 : Int32))) ∧ (¬ x4 ≤ x2 → (∃ n, wp_X8_copy_L110 (nI j') x2 (nI i') x4 x5 (1 : Int32) P n (g 4) (0 : Int32)))))) ∧ (r4 = 0 → P (-13) (g 4))) := fun r4 q => ⟨fun e => n_t nij (q.1 e), q.2⟩
      have MP : ∀ {x y z : Int32} {p q : Int32 → Prop}, (∀ r, p r → q r) → wp_X8_isPart x y z p → wp_X8_isPart x y z q := by
        intro x y z p q hpq hh
        unfold wp_X8_isPart at hh ⊢
        exact ⟨fun e => hpq _ (hh.1 e), fun e => ⟨fun e1 => hpq _ ((hh.2 e).1 e1), fun e1 => ⟨fun e2 => hpq _ (((hh.2 e).2 e1).1 e2), fun e2 => ⟨fun e3 => hpq _ ((((hh.2 e).2 e1).2 e2).1 e3), fun e3 => hpq _ ((((hh.2 e).2 e1).2 e2).2 e3)⟩⟩⟩⟩
      exact MP (fun r3 hr => ⟨hr.1, fun e => ⟨x_in1 hi, MP F (hr.2 e)⟩⟩) h
    rw [a3, b3]
    rcases s_part n hn x2 x5 with ⟨a, m, rfl, rfl, hab, p7, p8⟩ | ⟨p7, p8⟩
    · refine p7 _ (q_f ne10 ?_)
      rcases s_part n' hn' x4 (nI m) with ⟨b, m', rfl, hmm, hab', r7, r8⟩ | ⟨r7, r8⟩
      · have em : m' = m := by
          rcases Nat.lt_or_ge m' (2 ^ 31) with q | q
          · exact ((nI_eq (by omega) q).mp hmm).symm
          · omega
        subst em
        refine r7 _ (n_t ne10 ⟨⟨nI_pos (by omega), nI_pos (by omega), nI_pos (by omega), ?_, ?_⟩, ?_⟩)
        · rw [nI_clamp (by omega), nI_clamp (by omega)]; omega
        · rw [nI_clamp (by omega), nI_clamp (by omega)]; omega
        rw [nI_clamp (by omega), nI_clamp (by omega), nI_clamp (by omega)]
        refine M _ (p8 _ (q_f ne10 (r8 _ (n_t ne10 (cp_up (by omega) (by omega) (by omega) ⟨rfl, ?_⟩)))))
        refine RR_mk keep (fun x hx => rfl) (fun x hx hx' => rfl) (SH_up hS (j := i') (fun x hx hn => rfl) (fun x hx hn => rfl) (fun x hx hn => by rw [w_n (by omega), w_n hn]) (fun x hx hn => rfl) (fun x hx hn => rfl) (fun x y hx hn hy => ?_) (Or.inr ⟨l', n', hl', hn', b1, b2, b3, b4, fun x hx => ?_⟩))
        · rw [w_s rfl, fb_put_out (by omega)]
        · dsimp only
          rw [w_n (by omega), w_s rfl, w_s rfl]
          exact cp_same a5 b5 hn hab x hx
      · exact r7 _ (n_f rfl (M _ (p8 _ (q_f ne10 (r8 _ (n_f rfl ⟨rfl, kk⟩))))))
    · exact p7 _ (q_t rfl (M _ (p8 _ (q_t rfl ⟨rfl, kk⟩))))
  · refine q_f (by rw [a1, b1]; exact hll) (s8s_ok hj (q_f ne10 (s8s_ok hi (n_t ne10 ⟨x_in1 hj, q_f z1 ⟨x_in1 hi, q_t z2 ⟨x_in1 hj, x_in1 hi, q_f ?_ ⟨rfl, kk⟩⟩⟩⟩))))
    rw [clam hj, clam hi, a2, b2]; exact hll
theorem st_copyS : Step_copyS RR := by
  intro v f g x1 x2 x4 x5 j hsj keep
  have hS := RR_SH keep
  have kk : RR v f (va_up (va_up g j (g j)) 4 (g 4)) := by rw [w_id, w_id]; exact keep
  rcases ix x1 (n := 4) (by decide) with h | ⟨i, hi, rfl⟩
  · exact s7s_bad h (q_t rfl (s8s_bad h (q_t rfl ⟨rfl, kk⟩)))
  have e := SJ_eq hi hsj; subst e
  refine s7s_ok hi (q_f ne10 (s7s_ok hi (n_t ne10 ⟨x_in1 hi, x_in1 hi, ?_⟩)))
  rcases hS i hi with ⟨hs, hl⟩ | ⟨l, n, hl, hn, a1, a2, a3, a4, a5⟩
  · exact q_t hs (s8s_ok hi (q_f ne10 (s8s_ok hi (n_t ne10 ⟨x_in1 hi, q_t (by rw [clam hi, hl]; decide) ⟨rfl, kk⟩⟩))))
  have nz : ¬ v (33 + i) = -1 := by rw [a3]; exact nm1 hn
  refine q_f nz (n_t nz (q_t rfl ?_))
  have z1 : ¬ f 26 (nI i).toNatClampNeg < 0 := by rw [clam hi, a2]; exact (nneg hl).1
  have z2 : 0 ≤ f 26 (nI i).toNatClampNeg := by rw [clam hi, a2]; exact (nneg hl).2
  have MP : ∀ {x y z : Int32} {p q : Int32 → Prop}, (∀ r, p r → q r) → wp_X8_isPart x y z p → wp_X8_isPart x y z q := by
    intro x y z p q hpq hh
    unfold wp_X8_isPart at hh ⊢
    exact ⟨fun e => hpq _ (hh.1 e), fun e => ⟨fun e1 => hpq _ ((hh.2 e).1 e1), fun e1 => ⟨fun e2 => hpq _ (((hh.2 e).2 e1).1 e2), fun e2 => ⟨fun e3 => hpq _ ((((hh.2 e).2 e1).2 e2).1 e3), fun e3 => hpq _ ((((hh.2 e).2 e1).2 e2).2 e3)⟩⟩⟩⟩
  have M : ∀ (P : Int32 → (Nat → Int64) → Prop), wp_X8_isPart x2 x5 (nI n) (fun r3 => (r3 = 0 → P (-13) (g 4)) ∧ (¬ r3 = 0 → wp_X8_isPart x4 x5 (nI n) (fun r4 => (¬ r4 = 0 → (x4 ≤ x2 → ∃ n, wp_X8_copy_L110 (nI i) x2 (nI i) x4 x5 0 P n (g 4) 0) ∧ (¬ x4 ≤ x2 → ∃ n, wp_X8_copy_L110 (nI i) x2 (nI i) x4 x5 1 P n (g 4) 0)) ∧ (r4 = 0 → P (-13) (g 4))))) → wp_X8_copy (f 26) (f 27) (g 4) (nI i) x2 (nI i) x4 x5 P := by
    intro P h
    refine s8s_ok hi (q_f ne10 (s8s_ok hi (n_t ne10 ⟨x_in1 hi, q_f z1 ⟨x_in1 hi, q_t z2 ⟨x_in1 hi, x_in1 hi, q_t rfl ⟨x_in1 hi, ?_⟩⟩⟩⟩)))
    rw [clam hi, a4]
    exact MP (fun r3 hr => ⟨hr.1, fun e => ⟨x_in1 hi, MP (fun r4 q => ⟨fun e => n_f rfl (q.1 e), q.2⟩) (hr.2 e)⟩⟩) h
  rw [a3]
  rcases s_part n hn x2 x5 with ⟨a, m, rfl, rfl, hab, p7, p8⟩ | ⟨p7, p8⟩
  · refine p7 _ (q_f ne10 ?_)
    rcases s_part n hn x4 (nI m) with ⟨b, m', rfl, hmm, hab', r7, r8⟩ | ⟨r7, r8⟩
    · have em : m' = m := by
        rcases Nat.lt_or_ge m' (2 ^ 31) with q | q
        · exact ((nI_eq (by omega) q).mp hmm).symm
        · omega
      subst em
      refine r7 _ (n_t ne10 ⟨⟨nI_pos (by omega), nI_pos (by omega), nI_pos (by omega), ?_, ?_⟩, ?_⟩)
      · rw [nI_clamp (by omega), nI_clamp (by omega)]; omega
      · rw [nI_clamp (by omega), nI_clamp (by omega)]; omega
      rw [nI_clamp (by omega), nI_clamp (by omega), nI_clamp (by omega)]
      refine M _ (p8 _ (q_f ne10 (r8 _ (n_t ne10 ?_))))
      have G : RR v f (va_up (va_up g i (va_cpy (g i) (g i) a b m')) 4 (fb_put (g 4) (fun x => g 4 (24 * i + a + x)) (24 * i + b) m')) := by
        refine RR_mk keep (fun x hx => rfl) (fun x hx hx' => rfl) (SH_up hS (j := i) (fun x hx hn => rfl) (fun x hx hn => rfl) (fun x hx hn => by rw [w_n (by omega), w_n hn]) (fun x hx hn => rfl) (fun x hx hn => rfl) (fun x y hx hn hy => ?_) (Or.inr ⟨l, n, hl, hn, a1, a2, a3, a4, fun x hx => ?_⟩))
        · rw [w_s rfl, fb_put_out (by omega)]
        · dsimp only
          rw [w_n (by omega), w_s rfl, w_s rfl]
          exact cp_same a5 a5 hn hab x hx
      rcases Nat.lt_or_ge a b with q | q
      · exact q_f (nI_ge q (by omega)) (cp_dn (by omega) (by omega) (by omega) ⟨rfl, G⟩)
      · exact q_t (nI_le q (by omega)) (cp_up (by omega) (by omega) (by omega) ⟨rfl, G⟩)
    · exact r7 _ (n_f rfl (M _ (p8 _ (q_f ne10 (r8 _ (n_f rfl ⟨rfl, kk⟩))))))
  · exact p7 _ (q_t rfl (M _ (p8 _ (q_t rfl ⟨rfl, kk⟩))))
