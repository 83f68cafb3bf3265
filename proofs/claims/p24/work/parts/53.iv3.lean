-- ===== what every run keeps: new people, circles, members; starts
theorem mn_0 {S : MS} {c : Nat} (h : S.a 517 c = 0) : mn S c = 0 := by unfold mn; rw [h]; decide
theorem IV.person {n : Nat} {S : MS} {x y : Int32} (h : IV n S) (hp : nP S < 16) (x0 : ¬ x < 1) : IV (n + 1) (fpers (S.setS 500 0) x y) := by
  obtain ⟨i1, i2, i3, i4, i5, i6, i7, i8, i9, i10, i11, i12, a, b, hab, m1, m2⟩ := h
  obtain ⟨T, hT⟩ : ∃ T, T = S.setS 500 0 := ⟨_, rfl⟩
  have N : Nm S T := by rw [hT]; exact Nm.rf.ss (by decide)
  have eTa : ∀ r i, T.a r i = S.a r i := fun r i => by rw [hT]; rfl
  have eTp : nP T = nP S := N.p
  rw [← hT]
  have eP : nP (fpers T x y) = nP S + 1 := by rw [fpers_p (by rw [eTp]; omega), eTp]
  have eC : nC (fpers T x y) = nC S := by rw [fpers_c, N.c]
  have em : mn (fpers T x y) = mn S := by rw [fpers_m, N.m]
  have ew : wh (fpers T x y) = wh S := by rw [fpers_w, N.w]
  have ea : ∀ r i, r ≠ 502 → r ≠ 503 → (fpers T x y).a r i = S.a r i := fun r i a b => by rw [fpers_a a b, eTa]
  have es : ∀ f, f ≠ 501 → f ≠ 500 → (fpers T x y).s f = S.s f := fun f a b => by rw [fpers_s a, hT, s_f b]
  have sm : ∀ R : List Nat, (∀ r, r ∈ R → r ≠ 502 ∧ r ≠ 503) → Sm R S (fpers T x y) := fun R hR r hr i => ea r i (hR r hr).1 (hR r hr).2
  refine ⟨⟨?_, by rw [eP]; omega, by rw [es 513 (by decide) (by decide), eC]; exact i1.2.2.1, by rw [eC]; exact i1.2.2.2.1, fun c hc => ?_⟩, fun c hc k k' hk hk' e => ?_, fun c hc => ?_, i4.sm (sm _ (by decide)), fun c hc h0 k hk => ?_, fun c hc hm => ?_, fun i hi => ?_, fun i hi h16 => ?_, fun c hc => ?_, i10.sm (sm _ (by decide)), i11.sm (sm _ (by decide)), fun c hc => ?_, a, b, by omega, m1.sm (sm _ (by decide)) (es 528 (by decide) (by decide)) (es 529 (by decide) (by decide)), m2.sm (Nat.le_refl _) (Nat.le_refl _) (sm _ (by decide))⟩
  · rw [eP, ← eTp]; exact s_e
  · rw [eC] at hc
    rw [em, ew, eP, ea 517 c (by decide) (by decide)]
    obtain ⟨j1, j2, j3⟩ := i1.2.2.2.2 c hc
    refine ⟨j1, j2, fun k hk => ?_⟩
    rw [ea 521 _ (by decide) (by decide)]
    have := j3 k hk
    exact ⟨this.1, by omega⟩
  · rw [eC] at hc; rw [em] at hk hk'; rw [ew] at e
    exact i2 c hc k k' hk hk' e
  · rw [eC] at hc
    rw [ea 515 c (by decide) (by decide), ea 520 c (by decide) (by decide)]; exact i3 c hc
  · rw [eC] at hc; rw [ea 520 c (by decide) (by decide)] at h0; rw [em] at hk
    rw [ea 526 _ (by decide) (by decide), ea 527 _ (by decide) (by decide), ea 522 _ (by decide) (by decide)]
    exact i5 c hc h0 k hk
  · rw [eC] at hc; rw [em] at hm ⊢
    obtain ⟨k, hk, h0⟩ := i6 c hc hm
    exact ⟨k, hk, by rw [ea 527 _ (by decide) (by decide)]; exact h0⟩
  · rw [eP] at hi
    by_cases e : i = nP S
    · have e2 : (fpers T x y).a 502 i = x := by
        rw [e, ← eTp]; unfold fpers; rw [setS_a, a_f (by decide), a_e]
      rw [e2, le0_iff]
      have := n_lt (k := 1) (by decide) x0
      omega
    · have e2 : (fpers T x y).a 502 i = S.a 502 i := by rw [fpers_b (by rw [eTp]; exact e), eTa]
      rw [e2]; exact i7 i (by omega)
  · rw [eP] at hi
    obtain ⟨z1, z2, z3, z4, z5, z6, z7⟩ := i8 i (by omega) h16
    refine ⟨by rw [ea 504 _ (by decide) (by decide)]; exact z1, by rw [ea 505 _ (by decide) (by decide)]; exact z2, by rw [ea 506 _ (by decide) (by decide)]; exact z3, by rw [ea 510 _ (by decide) (by decide)]; exact z4, by rw [ea 511 _ (by decide) (by decide)]; exact z5, by rw [ea 512 _ (by decide) (by decide)]; exact z6, fun b hb => by rw [ea 530 _ (by decide) (by decide)]; exact z7 b hb⟩
  · rw [eC] at hc
    obtain ⟨z1, z2, z3, z4, z5⟩ := i9 c hc
    exact ⟨by rw [ea 516 _ (by decide) (by decide)]; exact z1, by rw [ea 517 _ (by decide) (by decide)]; exact z2, by rw [ea 518 _ (by decide) (by decide)]; exact z3, by rw [ea 519 _ (by decide) (by decide)]; exact z4, by rw [ea 520 _ (by decide) (by decide)]; exact z5⟩
  · rw [eC] at hc
    obtain ⟨h1, h2, h3⟩ := i12 c hc
    rw [em, ea 514 _ (by decide) (by decide)]
    refine ⟨h1, h2, fun k hk => ?_⟩
    rw [ea 522 _ (by decide) (by decide)]
    have := h3 k hk
    have hb : n * 2 ^ (10 - mn S c) ≤ (n + 1) * 2 ^ (10 - mn S c) := Nat.mul_le_mul_right _ (Nat.le_succ n)
    omega
theorem IV.circle {n : Nat} {S : MS} {x y : Int32} (h : IV n S) (hc4 : nC S < 4) (x0 : ¬ x < 1) (x1 : x ≤ 1000) (y0 : ¬ y < 0) (y1 : y ≤ 3) : IV (n + 1) (fcirc (S.setS 500 0) x y) := by
  obtain ⟨i1, i2, i3, i4, i5, i6, i7, i8, i9, i10, i11, i12, a, b, hab, m1, m2⟩ := h
  obtain ⟨T, hT⟩ : ∃ T, T = S.setS 500 0 := ⟨_, rfl⟩
  have N : Nm S T := by rw [hT]; exact Nm.rf.ss (by decide)
  have eTa : ∀ r i, T.a r i = S.a r i := fun r i => by rw [hT]; rfl
  have eTc : nC T = nC S := N.c
  rw [← hT]
  have eC : nC (fcirc T x y) = nC S + 1 := by rw [fcirc_c (by rw [eTc]; omega), eTc]
  have eP : nP (fcirc T x y) = nP S := by rw [fcirc_p, N.p]
  have em : mn (fcirc T x y) = mn S := by rw [fcirc_m, N.m]
  have ew : wh (fcirc T x y) = wh S := by rw [fcirc_w, N.w]
  have ea : ∀ r i, r ≠ 514 → r ≠ 515 → (fcirc T x y).a r i = S.a r i := fun r i a b => by rw [fcirc_a a b, eTa]
  have eb : ∀ r i, i ≠ nC S → (fcirc T x y).a r i = S.a r i := fun r i a => by rw [fcirc_b (by rw [eTc]; exact a), eTa]
  have es : ∀ f, f ≠ 513 → f ≠ 500 → (fcirc T x y).s f = S.s f := fun f a b => by rw [fcirc_s a, hT, s_f b]
  have sm : ∀ R : List Nat, (∀ r, r ∈ R → r ≠ 514 ∧ r ≠ 515) → Sm R S (fcirc T x y) := fun R hR r hr i => ea r i (hR r hr).1 (hR r hr).2
  obtain ⟨z16, z17, z18, z19, z20⟩ := i9 (nC S) (Nat.le_refl _)
  have m0 := mn_0 z17
  refine ⟨⟨by rw [es 501 (by decide) (by decide), eP]; exact i1.1, by rw [eP]; exact i1.2.1, ?_, by rw [eC]; omega, fun c hc => ?_⟩, fun c hc k k' hk hk' e => ?_, fun c hc => ?_, i4.sm (sm _ (by decide)), fun c hc h0 k hk => ?_, fun c hc hm => ?_, i7.sm eP (sm _ (by decide)), fun i hi h16 => ?_, fun c hc => ?_, i10.sm (sm _ (by decide)), i11.sm (sm _ (by decide)), fun c hc => ?_, a, b, by omega, m1.sm (sm _ (by decide)) (es 528 (by decide) (by decide)) (es 529 (by decide) (by decide)), m2.sm (Nat.le_refl _) (Nat.le_refl _) (sm _ (by decide))⟩
  · rw [eC, ← eTc]; exact s_e
  · rw [eC] at hc
    rw [em, ew, eP, ea 517 c (by decide) (by decide)]
    by_cases e : c = nC S
    · rw [e, m0, z17]; exact ⟨rfl, by decide, fun k hk => absurd hk (Nat.not_lt_zero _)⟩
    · obtain ⟨j1, j2, j3⟩ := i1.2.2.2.2 c (by omega)
      refine ⟨j1, j2, fun k hk => ?_⟩
      rw [ea 521 _ (by decide) (by decide)]; exact j3 k hk
  · rw [eC] at hc; rw [em] at hk hk'; rw [ew] at e
    by_cases ec : c = nC S
    · rw [ec, m0] at hk; exact absurd hk (Nat.not_lt_zero _)
    · exact i2 c (by omega) k k' hk hk' e
  · rw [eC] at hc
    by_cases e : c = nC S
    · have e5 : (fcirc T x y).a 515 c = y := by
        rw [e, ← eTc]; unfold fcirc; rw [setS_a, a_e]
      have e20 : (fcirc T x y).a 520 c = 0 := by rw [ea 520 _ (by decide) (by decide), e]; exact z20
      rw [e5, e20]
      refine ⟨?_, Or.inl rfl⟩
      obtain ⟨j, hj, rfl⟩ := nI_of2 (M := 3) (n := 3) (by decide) y0 y1
      rcases (by omega : j = 0 ∨ j = 1 ∨ j = 2 ∨ j = 3) with q | q | q | q <;> subst q <;> simp [nI] <;> decide
    · rw [eb 515 c e, eb 520 c e]; exact i3 c (by omega)
  · rw [eC] at hc; rw [em] at hk
    by_cases ec : c = nC S
    · rw [ec, m0] at hk; exact absurd hk (Nat.not_lt_zero _)
    · rw [ea 520 c (by decide) (by decide)] at h0
      rw [ea 526 _ (by decide) (by decide), ea 527 _ (by decide) (by decide), ea 522 _ (by decide) (by decide)]
      exact i5 c (by omega) h0 k hk
  · rw [eC] at hc; rw [em] at hm ⊢
    by_cases ec : c = nC S
    · rw [ec, m0] at hm; exact absurd hm (Nat.lt_irrefl _)
    · obtain ⟨k, hk, h0⟩ := i6 c (by omega) hm
      exact ⟨k, hk, by rw [ea 527 _ (by decide) (by decide)]; exact h0⟩
  · rw [eP] at hi
    obtain ⟨z1, z2, z3, z4, z5, z6, z7⟩ := i8 i hi h16
    refine ⟨by rw [ea 504 _ (by decide) (by decide)]; exact z1, by rw [ea 505 _ (by decide) (by decide)]; exact z2, by rw [ea 506 _ (by decide) (by decide)]; exact z3, by rw [ea 510 _ (by decide) (by decide)]; exact z4, by rw [ea 511 _ (by decide) (by decide)]; exact z5, by rw [ea 512 _ (by decide) (by decide)]; exact z6, fun b hb => by rw [ea 530 _ (by decide) (by decide)]; exact z7 b hb⟩
  · rw [eC] at hc
    obtain ⟨z1, z2, z3, z4, z5⟩ := i9 c (by omega)
    exact ⟨by rw [ea 516 _ (by decide) (by decide)]; exact z1, by rw [ea 517 _ (by decide) (by decide)]; exact z2, by rw [ea 518 _ (by decide) (by decide)]; exact z3, by rw [ea 519 _ (by decide) (by decide)]; exact z4, by rw [ea 520 _ (by decide) (by decide)]; exact z5⟩
  · rw [eC] at hc
    rw [em]
    by_cases ec : c = nC S
    · have e4 : (fcirc T x y).a 514 c = x := by
        rw [ec, ← eTc]; unfold fcirc; rw [setS_a, a_f (by decide), a_e]
      rw [e4]
      refine ⟨n_lt (by decide) x0, p_le (by decide) x1, fun k hk => ?_⟩
      rw [ec, m0] at hk; exact absurd hk (Nat.not_lt_zero _)
    · obtain ⟨h1, h2, h3⟩ := i12 c (by omega)
      rw [eb 514 c ec]
      refine ⟨h1, h2, fun k hk => ?_⟩
      rw [ea 522 _ (by decide) (by decide)]
      have := h3 k hk
      have hb : n * 2 ^ (10 - mn S c) ≤ (n + 1) * 2 ^ (10 - mn S c) := Nat.mul_le_mul_right _ (Nat.le_succ n)
      omega
theorem IV.enter {n c i : Nat} {S : MS} (h : IV n S) (hc : c < nC S) (hi : i < nP S) (hs : S.a 520 c = 0) (hm : mn S c < 10) (hno : ∀ k, k < mn S c → wh S (10 * c + k) ≠ i) : IV (n + 1) (fent (S.setS 500 0) c i) := by
  obtain ⟨i1, i2, i3, i4, i5, i6, i7, i8, i9, i10, i11, i12, a, b, hab, m1, m2⟩ := h
  have hi16 : i < 16 := by have := i1.2.1; omega
  have hm10 : ∀ c', c' < nC S → mn S c' ≤ 10 := fun c' hc' => (i1.2.2.2.2 c' hc').2.1
  obtain ⟨T, hT⟩ : ∃ T, T = S.setS 500 0 := ⟨_, rfl⟩
  have N : Nm S T := by rw [hT]; exact Nm.rf.ss (by decide)
  have eTa : ∀ r i, T.a r i = S.a r i := fun r i => by rw [hT]; rfl
  have eTm : mn T = mn S := N.m
  rw [← hT]
  have eP : nP (fent T c i) = nP S := by rw [fent_p.1, N.p]
  have eC : nC (fent T c i) = nC S := by rw [fent_p.2, N.c]
  have em : ∀ x, mn (fent T c i) x = if x = c then mn S c + 1 else mn S x := fun x => by rw [fent_m (by rw [eTm]; omega), eTm]
  have ew : ∀ x, wh (fent T c i) x = if x = 10 * c + mn S c then i else wh S x := fun x => by rw [fent_w hi16, eTm, N.w]
  have eo : ∀ r x, r ≠ 517 → ¬ r7 r → (fent T c i).a r x = S.a r x := fun r x a b => by rw [fent_o a b, eTa]
  have ex : ∀ r x, r ≠ 517 → x ≠ 10 * c + mn S c → (fent T c i).a r x = S.a r x := fun r x a b => by rw [fent_x a (by rw [eTm]; exact b), eTa]
  have en : ∀ r, r = 522 ∨ r = 523 ∨ r = 524 ∨ r = 525 ∨ r = 527 → (fent T c i).a r (10 * c + mn S c) = 0 := fun r hr => by rw [← eTm]; exact fent_new hr
  have en6 : (fent T c i).a 526 (10 * c + mn S c) = -1 := by rw [← eTm]; unfold fent; rw [a_f (by decide), a_f (by decide), a_e]
  have en1 : (fent T c i).a 521 (10 * c + mn S c) = nI i := by rw [← eTm]; unfold fent; rw [a_f (by decide), a_f (by decide), a_f (by decide), a_f (by decide), a_f (by decide), a_f (by decide), a_f (by decide), a_e]
  have e17 : ∀ x, (fent T c i).a 517 x = if x = c then nI (mn S c + 1) else S.a 517 x := fun x => by
    unfold fent
    rw [eTm]
    by_cases e : x = c
    · rw [e, a_e, if_pos rfl]
    · rw [a_b e, if_neg e, a_f (by decide), a_f (by decide), a_f (by decide), a_f (by decide), a_f (by decide), a_f (by decide), a_f (by decide), eTa]
  have es : ∀ f, f ≠ 500 → (fent T c i).s f = S.s f := fun f a => by rw [fent_s, hT, s_f a]
  have n7 : ∀ r, r < 521 ∨ 527 < r → ¬ r7 r := fun r hr => by unfold r7; omega
  have sm : ∀ R : List Nat, (∀ r, r ∈ R → r ≠ 517 ∧ (r < 521 ∨ 527 < r)) → Sm R S (fent T c i) := fun R hR r hr x => eo r x (hR r hr).1 (n7 r (hR r hr).2)
  have oth : ∀ c' k, c' < nC S → c' ≠ c → k < mn S c' → 10 * c' + k ≠ 10 * c + mn S c := fun c' k h1 h2 h3 => by
    have := hm10 c' h1; omega
  refine ⟨⟨by rw [es 501 (by decide), eP]; exact i1.1, by rw [eP]; exact i1.2.1, by rw [es 513 (by decide), eC]; exact i1.2.2.1, by rw [eC]; exact i1.2.2.2.1, fun c' hc' => ?_⟩, fun c' hc' k k' hk hk' e => ?_, fun c' hc' => ?_, fun x => ?_, fun c' hc' h0 k hk => ?_, fun c' hc' hm' => ?_, i7.sm eP (sm _ (by decide)), fun i' hi' h16 => ?_, fun c' hc' => ?_, i10.sm (sm _ (by decide)), i11.sm (sm _ (by decide)), fun c' hc' => ?_, a, b, by omega, m1.sm (sm _ (by decide)) (es 528 (by decide)) (es 529 (by decide)), fun x => ?_⟩
  · rw [eC] at hc'
    rw [em, e17, eP]
    obtain ⟨j1, j2, j3⟩ := i1.2.2.2.2 c' hc'
    by_cases e : c' = c
    · subst e
      rw [if_pos rfl, if_pos rfl]
      refine ⟨rfl, by omega, fun k hk => ?_⟩
      by_cases e : k = mn S c'
      · rw [e, en1, ew, if_pos rfl]; exact ⟨rfl, hi⟩
      · rw [ex 521 _ (by decide) (by omega), ew, if_neg (by omega)]; exact j3 k (by omega)
    · rw [if_neg e, if_neg e]
      refine ⟨j1, j2, fun k hk => ?_⟩
      have := oth c' k hc' e hk
      rw [ex 521 _ (by decide) this, ew, if_neg this]; exact j3 k hk
  · rw [eC] at hc'
    rw [em] at hk hk'
    rw [ew, ew] at e
    by_cases ec : c' = c
    · subst ec
      rw [if_pos rfl] at hk hk'
      by_cases a1 : k = mn S c' <;> by_cases a2 : k' = mn S c'
      · omega
      · rw [if_pos (by omega), if_neg (by omega)] at e
        exact absurd e.symm (hno k' (by omega))
      · rw [if_neg (by omega), if_pos (by omega)] at e
        exact absurd e (hno k (by omega))
      · rw [if_neg (by omega), if_neg (by omega)] at e
        exact i2 c' hc' k k' (by omega) (by omega) e
    · rw [if_neg ec] at hk hk'
      have n1 := oth c' k hc' ec hk
      have n2 := oth c' k' hc' ec hk'
      rw [if_neg n1, if_neg n2] at e
      exact i2 c' hc' k k' hk hk' e
  · rw [eC] at hc'
    rw [eo 515 _ (by decide) (n7 _ (by decide)), eo 520 _ (by decide) (n7 _ (by decide))]; exact i3 c' hc'
  · by_cases e : x = 10 * c + mn S c
    · rw [e, en 527 (by decide)]; exact Or.inl rfl
    · rw [ex 527 x (by decide) e]; exact i4 x
  · rw [eC] at hc'
    rw [eo 520 _ (by decide) (n7 _ (by decide))] at h0
    rw [em] at hk
    by_cases ec : c' = c
    · subst ec
      rw [if_pos rfl] at hk
      by_cases a1 : k = mn S c'
      · rw [a1, en6, en 527 (by decide), en 522 (by decide)]; exact ⟨rfl, rfl, rfl⟩
      · rw [ex 526 _ (by decide) (by omega), ex 527 _ (by decide) (by omega), ex 522 _ (by decide) (by omega)]
        exact i5 c' hc' h0 k (by omega)
    · rw [if_neg ec] at hk
      have n1 := oth c' k hc' ec hk
      rw [ex 526 _ (by decide) n1, ex 527 _ (by decide) n1, ex 522 _ (by decide) n1]
      exact i5 c' hc' h0 k hk
  · rw [eC] at hc'
    rw [em] at hm' ⊢
    by_cases ec : c' = c
    · subst ec
      rw [if_pos rfl]
      exact ⟨mn S c', Nat.lt_succ_self _, en 527 (by decide)⟩
    · rw [if_neg ec] at hm' ⊢
      obtain ⟨k, hk, h0⟩ := i6 c' hc' hm'
      exact ⟨k, hk, by rw [ex 527 _ (by decide) (oth c' k hc' ec hk)]; exact h0⟩
  · rw [eP] at hi'
    obtain ⟨z1, z2, z3, z4, z5, z6, z7⟩ := i8 i' hi' h16
    have eo' : ∀ r x, r ≠ 517 → (r < 521 ∨ 527 < r) → (fent T c i).a r x = S.a r x := fun r x a b => eo r x a (n7 r b)
    refine ⟨by rw [eo' 504 _ (by decide) (by decide)]; exact z1, by rw [eo' 505 _ (by decide) (by decide)]; exact z2, by rw [eo' 506 _ (by decide) (by decide)]; exact z3, by rw [eo' 510 _ (by decide) (by decide)]; exact z4, by rw [eo' 511 _ (by decide) (by decide)]; exact z5, by rw [eo' 512 _ (by decide) (by decide)]; exact z6, fun b hb => by rw [eo' 530 _ (by decide) (by decide)]; exact z7 b hb⟩
  · rw [eC] at hc'
    have eo' : ∀ r x, r ≠ 517 → (r < 521 ∨ 527 < r) → (fent T c i).a r x = S.a r x := fun r x a b => eo r x a (n7 r b)
    obtain ⟨z1, z2, z3, z4, z5⟩ := i9 c' hc'
    exact ⟨by rw [eo' 516 _ (by decide) (by decide)]; exact z1, by rw [e17, if_neg (by omega)]; exact z2, by rw [eo' 518 _ (by decide) (by decide)]; exact z3, by rw [eo' 519 _ (by decide) (by decide)]; exact z4, by rw [eo' 520 _ (by decide) (by decide)]; exact z5⟩
  · rw [eC] at hc'
    obtain ⟨h1, h2, h3⟩ := i12 c' hc'
    rw [em, eo 514 _ (by decide) (n7 _ (by decide))]
    refine ⟨h1, h2, fun k hk => ?_⟩
    by_cases ec : c' = c
    · subst ec
      rw [if_pos rfl] at hk ⊢
      have z : (fent T c' i).a 522 (10 * c' + k) = 0 := by
        by_cases a1 : k = mn S c'
        · rw [a1]; exact en 522 (by decide)
        · rw [ex 522 _ (by decide) (by omega)]; exact (i5 c' hc' hs k (by omega)).2.2
      rw [z, Int32.toInt_zero]
      exact ⟨Int.le_refl _, Int.mul_nonneg (by decide) (Int.natCast_nonneg _)⟩
    · rw [if_neg ec] at hk ⊢
      rw [ex 522 _ (by decide) (oth c' k hc' ec hk)]
      have := h3 k hk
      have hb : n * 2 ^ (10 - mn S c') ≤ (n + 1) * 2 ^ (10 - mn S c') := Nat.mul_le_mul_right _ (Nat.le_succ n)
      omega
  · by_cases e : x = 10 * c + mn S c
    · rw [e, en 525 (by decide), Int32.toInt_zero]; omega
    · rw [ex 525 x (by decide) e]; exact m2 x
theorem IV.start {n c s : Nat} {S : MS} (h : IV n S) (hc : c < nC S) : IV (n + 1) (fstart S c s) := by
  obtain ⟨i1, i2, i3, i4, i5, i6, i7, i8, i9, i10, i11, i12, a, b, hab, m1, m2⟩ := h
  have hm10 : ∀ c', c' < nC S → mn S c' ≤ 10 := fun c' hc' => (i1.2.2.2.2 c' hc').2.1
  obtain ⟨Y, hY⟩ : ∃ Y, Y = fstart S c s := ⟨_, rfl⟩
  have fb : ∀ r x, r ≠ 520 → (fbeg S c).a r x = S.a r x := fun r x hr => by unfold fbeg; rw [a_f hr]; rfl
  have ea : ∀ r x, r ≠ 520 → r ≠ 526 → Y.a r x = S.a r x := fun r x h1 h2 => by
    rw [hY]; unfold fstart
    by_cases e : S.a 515 c ≤ 1
    · rw [if_pos e, sT_o h2, fb r x h1]
    · rw [if_neg e, fb r x h1]
  have e20 : ∀ x, Y.a 520 x = if x = c then 1 else S.a 520 x := fun x => by
    have q : (fbeg S c).a 520 x = if x = c then 1 else S.a 520 x := by
      unfold fbeg
      by_cases e : x = c
      · rw [e, a_e, if_pos rfl]
      · rw [a_b e, if_neg e]; rfl
    rw [hY]; unfold fstart
    by_cases e : S.a 515 c ≤ 1
    · rw [if_pos e, sT_o (by decide), q]
    · rw [if_neg e, q]
  have e26 : ∀ x, x < 10 * c ∨ 10 * c + mn S c ≤ x → Y.a 526 x = S.a 526 x := fun x hx => by
    rw [hY]; unfold fstart
    by_cases e : S.a 515 c ≤ 1
    · rw [if_pos e, sT_x hx _ (Nat.le_refl _), fb 526 x (by decide)]
    · rw [if_neg e, fb 526 x (by decide)]
  have es : ∀ f, f ≠ 500 → Y.s f = S.s f := fun f hf => by
    have q : (fbeg S c).s f = S.s f := by unfold fbeg; rw [setA_s, s_f hf]
    rw [hY]; unfold fstart
    by_cases e : S.a 515 c ≤ 1
    · rw [if_pos e, sT_s, q]
    · rw [if_neg e, q]
  rw [← hY]
  have eP : nP Y = nP S := by unfold nP; rw [es 501 (by decide)]
  have eC : nC Y = nC S := by unfold nC; rw [es 513 (by decide)]
  have em : mn Y = mn S := by funext x; unfold mn; rw [ea 517 x (by decide) (by decide)]
  have ew : wh Y = wh S := by funext x; unfold wh; rw [ea 521 x (by decide) (by decide)]
  have sm : ∀ R : List Nat, (∀ r, r ∈ R → r ≠ 520 ∧ r ≠ 526) → Sm R S Y := fun R hR r hr x => ea r x (hR r hr).1 (hR r hr).2
  refine ⟨⟨by rw [es 501 (by decide), eP]; exact i1.1, by rw [eP]; exact i1.2.1, by rw [es 513 (by decide), eC]; exact i1.2.2.1, by rw [eC]; exact i1.2.2.2.1, fun c' hc' => ?_⟩, fun c' hc' k k' hk hk' e => ?_, fun c' hc' => ?_, i4.sm (sm _ (by decide)), fun c' hc' h0 k hk => ?_, fun c' hc' hm' => ?_, i7.sm eP (sm _ (by decide)), fun i' hi' h16 => ?_, fun c' hc' => ?_, i10.sm (sm _ (by decide)), i11.sm (sm _ (by decide)), fun c' hc' => ?_, a, b, by omega, m1.sm (sm _ (by decide)) (es 528 (by decide)) (es 529 (by decide)), m2.sm (Nat.le_refl _) (Nat.le_refl _) (sm _ (by decide))⟩
  · rw [eC] at hc'
    rw [em, ew, eP, ea 517 c' (by decide) (by decide)]
    obtain ⟨j1, j2, j3⟩ := i1.2.2.2.2 c' hc'
    refine ⟨j1, j2, fun k hk => ?_⟩
    rw [ea 521 _ (by decide) (by decide)]; exact j3 k hk
  · rw [eC] at hc'; rw [em] at hk hk'; rw [ew] at e
    exact i2 c' hc' k k' hk hk' e
  · rw [eC] at hc'
    rw [ea 515 _ (by decide) (by decide), e20]
    refine ⟨(i3 c' hc').1, ?_⟩
    by_cases e : c' = c
    · rw [if_pos e]; exact Or.inr rfl
    · rw [if_neg e]; exact (i3 c' hc').2
  · rw [eC] at hc'
    rw [e20] at h0
    rw [em] at hk
    by_cases e : c' = c
    · rw [if_pos e] at h0; exact absurd h0 (by decide)
    · rw [if_neg e] at h0
      have h1 := hm10 c' hc'
      have h2 := hm10 c hc
      rw [e26 _ (by omega), ea 527 _ (by decide) (by decide), ea 522 _ (by decide) (by decide)]
      exact i5 c' hc' h0 k hk
  · rw [eC] at hc'; rw [em] at hm' ⊢
    obtain ⟨k, hk, h0⟩ := i6 c' hc' hm'
    exact ⟨k, hk, by rw [ea 527 _ (by decide) (by decide)]; exact h0⟩
  · rw [eP] at hi'
    obtain ⟨z1, z2, z3, z4, z5, z6, z7⟩ := i8 i' hi' h16
    refine ⟨by rw [ea 504 _ (by decide) (by decide)]; exact z1, by rw [ea 505 _ (by decide) (by decide)]; exact z2, by rw [ea 506 _ (by decide) (by decide)]; exact z3, by rw [ea 510 _ (by decide) (by decide)]; exact z4, by rw [ea 511 _ (by decide) (by decide)]; exact z5, by rw [ea 512 _ (by decide) (by decide)]; exact z6, fun b hb => by rw [ea 530 _ (by decide) (by decide)]; exact z7 b hb⟩
  · rw [eC] at hc'
    obtain ⟨z1, z2, z3, z4, z5⟩ := i9 c' hc'
    exact ⟨by rw [ea 516 _ (by decide) (by decide)]; exact z1, by rw [ea 517 _ (by decide) (by decide)]; exact z2, by rw [ea 518 _ (by decide) (by decide)]; exact z3, by rw [ea 519 _ (by decide) (by decide)]; exact z4, by rw [e20, if_neg (by omega)]; exact z5⟩
  · rw [eC] at hc'
    obtain ⟨h1, h2, h3⟩ := i12 c' hc'
    rw [em, ea 514 _ (by decide) (by decide)]
    refine ⟨h1, h2, fun k hk => ?_⟩
    rw [ea 522 _ (by decide) (by decide)]
    have := h3 k hk
    have hb : n * 2 ^ (10 - mn S c') ≤ (n + 1) * 2 ^ (10 - mn S c') := Nat.mul_le_mul_right _ (Nat.le_succ n)
    omega
