-- ===== what every run keeps: places that go, new rounds, leaving, deaths
def TX (c : Nat) (S : MS) : Prop := ∀ c', c' < nC S → c' ≠ c → 0 < mn S c' → ∃ k, k < mn S c' ∧ S.a 527 (10 * c' + k) = 0
def AX (n c : Nat) (S : MS) : Prop := ∀ c', c' < nC S → 1 ≤ (S.a 514 c').toInt ∧ (S.a 514 c').toInt ≤ 1000 ∧ ∀ k, k < mn S c' → 0 ≤ (S.a 522 (10 * c' + k)).toInt ∧ (S.a 522 (10 * c' + k)).toInt ≤ 1100 * (n * 2 ^ (10 - if c' = c then mn S c' - 1 else mn S c') : Nat)
/-- as IV, but for circle c: nobody need be without a turn, and arrears may be higher -/
def IX (n c : Nat) (S : MS) (A : Prop) : Prop := SH S ∧ DI S ∧ WY S ∧ HB S ∧ US S ∧ TX c S ∧ AG S ∧ ZP S ∧ ZC S ∧ DB S ∧ SB S ∧ A ∧ ∃ a b, a + b ≤ n ∧ MO 0 a S ∧ PB a b S
theorem fclr_x {S : MS} {c r x : Nat} (hr : r = 525 ∨ r = 527) : ∀ k, (fclr S c k).a r x = if 10 * c ≤ x ∧ x < 10 * c + k then 0 else S.a r x := by
  intro k
  induction k with
  | zero => rw [if_neg (by omega)]; rfl
  | succ k ih =>
    have e1 : (fclr S c (k + 1)).a r x = if x = 10 * c + k then 0 else (fclr S c k).a r x := by
      rw [fclr]
      rcases hr with e | e <;> subst e <;> by_cases ex : x = 10 * c + k <;> simp [a_if, ex]
    rw [e1, ih]
    by_cases ex : x = 10 * c + k
    · rw [if_pos ex, if_pos (by omega)]
    · rw [if_neg ex]
      by_cases e2 : 10 * c ≤ x ∧ x < 10 * c + k
      · rw [if_pos e2, if_pos (by omega)]
      · rw [if_neg e2, if_neg (by omega)]
theorem frnd_a {S : MS} {c r x : Nat} (h1 : r ≠ 519) (h2 : r ≠ 525) (h3 : r ≠ 527) : (frnd S c).a r x = S.a r x := by
  unfold frnd
  by_cases q0 : mn S c = 0
  · rw [if_pos q0]
  · rw [if_neg q0]
    by_cases q1 : allb S c (mn S c) = true
    · rw [if_pos q1, fclr_a h3 h2, a_f h1]
    · rw [if_neg q1]
theorem frnd_z {S : MS} {c r x : Nat} (hr : r = 525 ∨ r = 527) : (frnd S c).a r x = 0 ∨ (frnd S c).a r x = S.a r x := by
  unfold frnd
  by_cases q0 : mn S c = 0
  · rw [if_pos q0]; exact Or.inr rfl
  · rw [if_neg q0]
    by_cases q1 : allb S c (mn S c) = true
    · rw [if_pos q1, fclr_x hr]
      by_cases e : 10 * c ≤ x ∧ x < 10 * c + mn S c
      · rw [if_pos e]; exact Or.inl rfl
      · rw [if_neg e, a_f (by omega)]; exact Or.inr rfl
    · rw [if_neg q1]; exact Or.inr rfl
theorem frnd_o {S : MS} {c c' k : Nat} (hk : k < 10) (hm : mn S c ≤ 10) (hne : c' ≠ c) : (frnd S c).a 527 (10 * c' + k) = S.a 527 (10 * c' + k) := by
  unfold frnd
  by_cases q0 : mn S c = 0
  · rw [if_pos q0]
  · rw [if_neg q0]
    by_cases q1 : allb S c (mn S c) = true
    · rw [if_pos q1, fclr_x (Or.inr rfl), if_neg (by omega), a_f (by decide)]
    · rw [if_neg q1]
theorem frnd_t {S : MS} {c : Nat} (h0 : 0 < mn S c) : ∃ k, k < mn S c ∧ (frnd S c).a 527 (10 * c + k) = 0 := by
  unfold frnd
  rw [if_neg (by omega)]
  by_cases q1 : allb S c (mn S c) = true
  · rw [if_pos q1]
    exact ⟨0, h0, by rw [fclr_x (Or.inr rfl), if_pos (by omega)]⟩
  · rw [if_neg q1]
    refine Classical.byContradiction fun hn => q1 ((allb_iff _).mpr fun j hj h => hn ⟨j, hj, h⟩)
theorem frnd_lg {S : MS} {c : Nat} (hc : c < nC S) : LG S (frnd S c) := by
  have hfc : ∀ (X : MS) k, LG X (fclr X c k) := fun X k => by
    induction k with
    | zero => exact LG.rf
    | succ k ih => exact (ih.xpl (by decide)).xpl (by decide)
  unfold frnd
  by_cases q0 : mn S c = 0
  · rw [if_pos q0]; exact LG.rf
  · rw [if_neg q0]
    by_cases q1 : allb S c (mn S c) = true
    · rw [if_pos q1]; exact (LG.ci (by decide) hc).tr (hfc _ _)
    · rw [if_neg q1]; exact LG.rf
theorem IX.rnd {n c : Nat} {S : MS} (h : IX n c S (AB n S)) (hc : c < nC S) : IV n (frnd S c) := by
  obtain ⟨i1, i2, i3, i4, i5, i6, i7, i8, i9, i10, i11, i12, a, b, hab, m1, m2⟩ := h
  have L := frnd_lg hc
  have N := L.1
  have hm10 : ∀ c', c' < nC S → mn S c' ≤ 10 := fun c' hc' => (i1.2.2.2.2 c' hc').2.1
  have sm : ∀ R : List Nat, (∀ r, r ∈ R → r ≠ 519 ∧ r ≠ 525 ∧ r ≠ 527) → Sm R S (frnd S c) := fun R hR r hr x => frnd_a (hR r hr).1 (hR r hr).2.1 (hR r hr).2.2
  refine ⟨N.sh i1, N.di i2, N.wy i3, frnd_hb i4, fun c' hc' h0 k hk => ?_, fun c' hc' hm' => ?_, i7.sm N.p (sm _ (by decide)), L.zp i8, L.zc i9, i10.sm (sm _ (by decide)), i11.sm (sm _ (by decide)), i12.sm (Nat.le_refl _) N (sm _ (by decide)), a, b, hab, m1.sm (sm _ (by decide)) frnd_s frnd_s, fun x => ?_⟩
  · rw [N.c] at hc'
    rw [N.2.2.2.2.2] at h0
    rw [N.m] at hk
    obtain ⟨u1, u2, u3⟩ := i5 c' hc' h0 k hk
    rw [frnd_a (by decide) (by decide) (by decide), frnd_a (r := 522) (by decide) (by decide) (by decide)]
    refine ⟨u1, ?_, u3⟩
    rcases frnd_z (S := S) (c := c) (x := 10 * c' + k) (Or.inr rfl : (527 : Nat) = 525 ∨ 527 = 527) with e | e
    · exact e
    · rw [e]; exact u2
  · rw [N.c] at hc'
    rw [N.m] at hm' ⊢
    by_cases e : c' = c
    · subst e; exact frnd_t hm'
    · obtain ⟨k, hk, h0⟩ := i6 c' hc' e hm'
      exact ⟨k, hk, by rw [frnd_o (by have := hm10 c' hc'; omega) (hm10 c hc) e]; exact h0⟩
  · rcases frnd_z (S := S) (c := c) (x := x) (Or.inl rfl : (525 : Nat) = 525 ∨ 525 = 527) with e | e
    · rw [e, Int32.toInt_zero]; exact ⟨Int.le_refl _, Int.natCast_nonneg _⟩
    · rw [e]; exact m2 x
theorem fgo_17 {S : MS} {c p x : Nat} : (fgo S c p).a 517 x = if x = c then nI (mn S c - 1) else S.a 517 x := by
  unfold fgo
  rw [fcpN_o (by unfold r7; omega), a_if]
  by_cases e : x = c
  · rw [if_pos ⟨rfl, e⟩, if_pos e]
  · rw [if_neg (fun z => e z.2), if_neg e]
theorem IX.go {n c p : Nat} {S : MS} (h : IX n c S (AX n c S)) (hc : c < nC S) (hp : p < mn S c) : IX n c (fgo S c p) (AB n (fgo S c p)) := by
  obtain ⟨i1, i2, i3, i4, i5, i6, i7, i8, i9, i10, i11, i12, a, b, hab, m1, m2⟩ := h
  have hm10 : ∀ c', c' < nC S → mn S c' ≤ 10 := fun c' hc' => (i1.2.2.2.2 c' hc').2.1
  have eP : nP (fgo S c p) = nP S := fgo_p.1
  have eC : nC (fgo S c p) = nC S := fgo_p.2
  have em : ∀ x, mn (fgo S c p) x = if x = c then mn S c - 1 else mn S x := fun x => fgo_m (hm10 c hc)
  have n7 : ∀ r, r < 521 ∨ 527 < r → ¬ r7 r := fun r hr => by unfold r7; omega
  have eo : ∀ r x, r ≠ 517 → (r < 521 ∨ 527 < r) → (fgo S c p).a r x = S.a r x := fun r x a b => fgo_o (n7 r b) a
  have e7 : ∀ r x, 521 ≤ r → r ≤ 527 → (fgo S c p).a r x = S.a r (sh S c p x) := fun r x a b => fgo_a i4 hp ⟨a, b⟩
  have sm : ∀ R : List Nat, (∀ r, r ∈ R → r ≠ 517 ∧ (r < 521 ∨ 527 < r)) → Sm R S (fgo S c p) := fun R hR r hr x => eo r x (hR r hr).1 (hR r hr).2
  have own : ∀ k, k < mn S c - 1 → ∃ k', k' < mn S c ∧ sh S c p (10 * c + k) = 10 * c + k' := fun k hk => by
    obtain ⟨k', a1, a2, a3, a4⟩ := sh_own2 (p := p) hk
    exact ⟨k', a1, a3⟩
  have oth : ∀ c' k, c' < nC S → c' ≠ c → k < mn S c' → sh S c p (10 * c' + k) = 10 * c' + k := fun c' k h1 h2 h3 => sh_oth (hm10 c hc) (by have := hm10 c' h1; omega) h2
  refine ⟨fgo_sh i1 i4 hc hp, fgo_di i1 i4 i2 hc hp, fun c' hc' => ?_, fgo_hb i4 hp, fun c' hc' h0 k hk => ?_, fun c' hc' hne hm' => ?_, i7.sm eP (sm _ (by decide)), fun i' hi' h16 => ?_, fun c' hc' => ?_, i10.sm (sm _ (by decide)), i11.sm (sm _ (by decide)), fun c' hc' => ?_, a, b, hab, m1.sm (sm _ (by decide)) fgo_s fgo_s, fun x => by rw [e7 525 x (by decide) (by decide)]; exact m2 _⟩
  · rw [eC] at hc'
    rw [eo 515 _ (by decide) (by decide), eo 520 _ (by decide) (by decide)]; exact i3 c' hc'
  · rw [eC] at hc'
    rw [eo 520 _ (by decide) (by decide)] at h0
    rw [em] at hk
    rw [e7 526 _ (by decide) (by decide), e7 527 _ (by decide) (by decide), e7 522 _ (by decide) (by decide)]
    by_cases e : c' = c
    · subst e
      rw [if_pos rfl] at hk
      obtain ⟨k', a1, a2⟩ := own k hk
      rw [a2]; exact i5 c' hc' h0 k' a1
    · rw [if_neg e] at hk
      rw [oth c' k hc' e hk]; exact i5 c' hc' h0 k hk
  · rw [eC] at hc'
    rw [em, if_neg hne] at hm' ⊢
    obtain ⟨k, hk, h0⟩ := i6 c' hc' hne hm'
    exact ⟨k, hk, by rw [e7 527 _ (by decide) (by decide), oth c' k hc' hne hk]; exact h0⟩
  · rw [eP] at hi'
    obtain ⟨z1, z2, z3, z4, z5, z6, z7⟩ := i8 i' hi' h16
    refine ⟨by rw [eo 504 _ (by decide) (by decide)]; exact z1, by rw [eo 505 _ (by decide) (by decide)]; exact z2, by rw [eo 506 _ (by decide) (by decide)]; exact z3, by rw [eo 510 _ (by decide) (by decide)]; exact z4, by rw [eo 511 _ (by decide) (by decide)]; exact z5, by rw [eo 512 _ (by decide) (by decide)]; exact z6, fun b hb => by rw [eo 530 _ (by decide) (by decide)]; exact z7 b hb⟩
  · rw [eC] at hc'
    obtain ⟨z1, z2, z3, z4, z5⟩ := i9 c' hc'
    exact ⟨by rw [eo 516 _ (by decide) (by decide)]; exact z1, by rw [fgo_17, if_neg (by omega)]; exact z2, by rw [eo 518 _ (by decide) (by decide)]; exact z3, by rw [eo 519 _ (by decide) (by decide)]; exact z4, by rw [eo 520 _ (by decide) (by decide)]; exact z5⟩
  · rw [eC] at hc'
    obtain ⟨h1, h2, h3⟩ := i12 c' hc'
    rw [em, eo 514 _ (by decide) (by decide)]
    refine ⟨h1, h2, fun k hk => ?_⟩
    rw [e7 522 _ (by decide) (by decide)]
    by_cases e : c' = c
    · subst e
      rw [if_pos rfl] at hk ⊢
      obtain ⟨k', a1, a2⟩ := own k hk
      have := h3 k' a1
      rw [if_pos rfl] at this
      rw [a2]; exact this
    · rw [if_neg e] at hk ⊢
      have := h3 k hk
      rw [if_neg e] at this
      rw [oth c' k hc' e hk]; exact this
theorem pow_le {n m : Nat} : n * 2 ^ (10 - m) ≤ n * 2 ^ (10 - (m - 1)) := Nat.mul_le_mul_left _ (Nat.pow_le_pow_right (by decide) (by omega))
theorem IV.ix {n c : Nat} {S : MS} (h : IV n S) : IX n c S (AX n c S) := by
  obtain ⟨i1, i2, i3, i4, i5, i6, i7, i8, i9, i10, i11, i12, r⟩ := h
  refine ⟨i1, i2, i3, i4, i5, fun c' hc' _ hm => i6 c' hc' hm, i7, i8, i9, i10, i11, fun c' hc' => ?_, r⟩
  obtain ⟨h1, h2, h3⟩ := i12 c' hc'
  refine ⟨h1, h2, fun k hk => ?_⟩
  have := h3 k hk
  by_cases e : c' = c
  · rw [if_pos e]
    have hb := pow_le (n := n) (m := mn S c')
    omega
  · rw [if_neg e]; exact this
theorem IV.goes {n c p : Nat} {S : MS} (h : IX n c S (AX n c S)) (hc : c < nC S) (hp : p < mn S c) : IV n (frnd (fgo S c p) c) :=
  (h.go hc hp).rnd (by rw [fgo_p.2]; exact hc)
theorem IV.leave {n c k : Nat} {S : MS} (h : IV n S) (hn : n ≤ 512) (hc : c < nC S) (hk : k < mn S c) : IV (n + 1) (fleave S c k) := by
  have h16 := h.1.2.1
  have h4 := h.1.2.2.2.1
  have hp := ((h.1.2.2.2.2 c hc).2.2 k hk).2
  unfold fleave
  obtain ⟨F, hF⟩ : ∃ F, F = fgive (S.setS 500 0) c (wh S (10 * c + k)) (fback S c k) := ⟨_, rfl⟩
  rw [← hF]
  have L : LG S F := by rw [hF]; exact ((LG.rf.xsc (by decide)).xci (by decide) hc).xpay hp
  have sm : ∀ R : List Nat, (∀ r, r ∈ R → r ≠ 504 ∧ r ≠ 511 ∧ r ≠ 516) → Sm R S F := fun R hR r hr x => by
    rw [hF, fgive_a (hR r hr).1 (hR r hr).2.1 (hR r hr).2.2]; rfl
  obtain ⟨-, -, -, -, -, -, -, -, -, i10, i11, -, a0, b0, hab, m0, pb0⟩ := id h
  have hpb := pb0 (10 * c + k)
  have hbk : ∀ a, MO 0 a S → 0 ≤ (fback S c k).toInt ∧ (fback S c k).toInt ≤ (S.a 516 c).toInt := fun a m => by
    have hb := m.2.1 c (by omega)
    unfold fback
    by_cases e : S.a 516 c < S.a 525 (10 * c + k)
    · rw [if_pos e]; exact ⟨hb, Int.le_refl _⟩
    · rw [if_neg e]; exact ⟨hpb.1, Int32.le_iff_toInt_le.mp (i_nle e)⟩
  have hF1 : IV (n + 1) F := h.step L (sm _ (by decide)) (i10.sm (sm _ (by decide))) (i11.sm (sm _ (by decide))) (fun a ha m => ⟨a, Nat.le_refl _, Nat.le_succ _, by
    rw [hF]
    have mt : MO 0 a (S.setS 500 0) := m.sm Sm.rf rfl rfl
    exact mt.give (by omega) (by omega) (hbk a m).1 (hbk a m).2 (by omega)⟩)
  exact IV.goes (hF1.ix (c := c)) (by rw [L.1.c]; exact hc) (by rw [L.1.m]; exact hk)
theorem IV.who {n c k h : Nat} {S : MS} (hV : IV n S) (hc : c < nC S) (hk : k < mn S c) (hh : h < nP S) (hno : ∀ k, k < mn S c → wh S (10 * c + k) ≠ h) : IV n (S.setA 521 (10 * c + k) (nI h)) := by
  obtain ⟨i1, i2, i3, i4, i5, i6, i7, i8, i9, i10, i11, i12, a, b, hab, m1, m2⟩ := hV
  obtain ⟨k1, k2, k3, k4, k5⟩ := fwho_kp i1 i2 i4 hc hk hh hno
  have em : mn (S.setA 521 (10 * c + k) (nI h)) = mn S := mn_setA (by decide)
  have ea : ∀ r x, r ≠ 521 → (S.setA 521 (10 * c + k) (nI h)).a r x = S.a r x := fun r x hr => a_f hr
  have sm : ∀ R : List Nat, (∀ r, r ∈ R → r ≠ 521) → Sm R S (S.setA 521 (10 * c + k) (nI h)) := fun R hR r hr x => ea r x (hR r hr)
  obtain ⟨Y, hY⟩ : ∃ Y, Y = S.setA 521 (10 * c + k) (nI h) := ⟨_, rfl⟩
  have es : ∀ f, Y.s f = S.s f := fun f => by rw [hY]; exact setA_s
  rw [← hY] at k1 k2 k3 k4 k5 em ea sm ⊢
  refine ⟨k1, k2, fun c' hc' => ?_, k3, fun c' hc' h0 k hk => ?_, fun c' hc' hm' => ?_, i7.sm k4 (sm _ (by decide)), fun i' hi' h16 => ?_, fun c' hc' => ?_, i10.sm (sm _ (by decide)), i11.sm (sm _ (by decide)), fun c' hc' => ?_, a, b, hab, m1.sm (sm _ (by decide)) (es _) (es _), m2.sm (Nat.le_refl _) (Nat.le_refl _) (sm _ (by decide))⟩
  · rw [k5] at hc'
    rw [ea 515 _ (by decide), ea 520 _ (by decide)]; exact i3 c' hc'
  · rw [k5] at hc'
    rw [ea 520 _ (by decide)] at h0
    rw [em] at hk
    rw [ea 526 _ (by decide), ea 527 _ (by decide), ea 522 _ (by decide)]; exact i5 c' hc' h0 k hk
  · rw [k5] at hc'
    rw [em] at hm' ⊢
    obtain ⟨k, hk, h0⟩ := i6 c' hc' hm'
    exact ⟨k, hk, by rw [ea 527 _ (by decide)]; exact h0⟩
  · rw [k4] at hi'
    obtain ⟨z1, z2, z3, z4, z5, z6, z7⟩ := i8 i' hi' h16
    exact ⟨by rw [ea 504 _ (by decide)]; exact z1, by rw [ea 505 _ (by decide)]; exact z2, by rw [ea 506 _ (by decide)]; exact z3, by rw [ea 510 _ (by decide)]; exact z4, by rw [ea 511 _ (by decide)]; exact z5, by rw [ea 512 _ (by decide)]; exact z6, fun b hb => by rw [ea 530 _ (by decide)]; exact z7 b hb⟩
  · rw [k5] at hc'
    obtain ⟨z1, z2, z3, z4, z5⟩ := i9 c' hc'
    exact ⟨by rw [ea 516 _ (by decide)]; exact z1, by rw [ea 517 _ (by decide)]; exact z2, by rw [ea 518 _ (by decide)]; exact z3, by rw [ea 519 _ (by decide)]; exact z4, by rw [ea 520 _ (by decide)]; exact z5⟩
  · rw [k5] at hc'
    obtain ⟨h1, h2, h3⟩ := i12 c' hc'
    rw [em, ea 514 _ (by decide)]
    exact ⟨h1, h2, fun k hk => by rw [ea 522 _ (by decide)]; exact h3 k hk⟩
theorem IV.join {n c kp kh : Nat} {S : MS} (h : IV n S) (hn : n ≤ 513) (hc : c < nC S) (hp : kp < mn S c) (hh : kh < mn S c) (hne : kp ≠ kh) : IV n (fjoin S c kp kh) := by
  have hm10 : ∀ c', c' < nC S → mn S c' ≤ 10 := fun c' hc' => (h.1.2.2.2.2 c' hc').2.1
  unfold fjoin
  obtain ⟨T, hT⟩ : ∃ T, T = S.setA 522 (10 * c + kh) (S.a 522 (10 * c + kh) + S.a 522 (10 * c + kp)) := ⟨_, rfl⟩
  rw [← hT]
  have L : LG S T := by rw [hT]; exact LG.pl (by decide)
  have N := L.1
  have sm : ∀ R : List Nat, (∀ r, r ∈ R → r ≠ 522) → Sm R S T := fun R hR r hr x => by rw [hT]; exact a_f (hR r hr)
  refine IV.goes ?_ (by rw [N.c]; exact hc) (by rw [N.m]; exact hp)
  obtain ⟨i1, i2, i3, i4, i5, i6, i7, i8, i9, i10, i11, i12, a, b, hab, m1, m2⟩ := h
  have hmc := hm10 c hc
  obtain ⟨s1, s2, s3⟩ := i12 c hc
  have a1 := s3 kp hp
  have a2 := s3 kh hh
  have hpw : 2 ^ (10 - (mn S c - 1)) = 2 * 2 ^ (10 - mn S c) := by
    rw [show 10 - (mn S c - 1) = (10 - mn S c) + 1 by omega, Nat.pow_succ]; omega
  have hb2 : n * 2 ^ (10 - (mn S c - 1)) = 2 * (n * 2 ^ (10 - mn S c)) := by
    rw [hpw, Nat.mul_left_comm]
  have hbig : n * 2 ^ (10 - mn S c) ≤ 513 * 256 := Nat.mul_le_mul hn (Nat.le_trans (Nat.pow_le_pow_right (by decide) (show 10 - mn S c ≤ 8 by omega)) (by decide))
  have hs : (S.a 522 (10 * c + kh) + S.a 522 (10 * c + kp)).toInt = (S.a 522 (10 * c + kh)).toInt + (S.a 522 (10 * c + kp)).toInt := z_add (by omega) (by omega)
  refine ⟨N.sh i1, N.di i2, N.wy i3, i4.sm (sm _ (by decide)), fun c' hc' h0 k hk => ?_, fun c' hc' _ hm' => ?_, i7.sm N.p (sm _ (by decide)), L.zp i8, L.zc i9, i10.sm (sm _ (by decide)), i11.sm (sm _ (by decide)), fun c' hc' => ?_, a, b, hab, m1.sm (sm _ (by decide)) (by rw [hT]; rfl) (by rw [hT]; rfl), m2.sm (Nat.le_refl _) (Nat.le_refl _) (sm _ (by decide))⟩
  · rw [N.c] at hc'
    rw [N.2.2.2.2.2] at h0
    rw [N.m] at hk
    obtain ⟨u1, u2, u3⟩ := i5 c' hc' h0 k hk
    rw [sm [526] (by decide) 526 (by decide), sm [527] (by decide) 527 (by decide)]
    refine ⟨u1, u2, ?_⟩
    rw [hT]
    by_cases e : 10 * c' + k = 10 * c + kh
    · have e2 : c' = c := by have := hm10 c' hc'; omega
      subst e2
      rw [e, a_e, (i5 c' hc' h0 kh hh).2.2, (i5 c' hc' h0 kp hp).2.2]; decide
    · rw [a_b e]; exact u3
  · rw [N.c] at hc'
    rw [N.m] at hm' ⊢
    obtain ⟨k, hk, h0⟩ := i6 c' hc' hm'
    exact ⟨k, hk, by rw [sm [527] (by decide) 527 (by decide)]; exact h0⟩
  · rw [N.c] at hc'
    obtain ⟨h1, h2, h3⟩ := i12 c' hc'
    rw [N.m, sm [514] (by decide) 514 (by decide)]
    refine ⟨h1, h2, fun k hk => ?_⟩
    have h3k := h3 k hk
    have hpl := pow_le (n := n) (m := mn S c')
    rw [hT]
    by_cases e : 10 * c' + k = 10 * c + kh
    · have e2 : c' = c := by have := hm10 c' hc'; omega
      subst e2
      rw [e, a_e, hs, if_pos rfl, hb2]
      omega
    · rw [a_b e]
      by_cases e2 : c' = c
      · rw [if_pos e2]; omega
      · rw [if_neg e2]; exact h3k
theorem IV.pass {n c p h : Nat} {S : MS} (hV : IV n S) (hn : n ≤ 513) (hc : c < nC S) (hh : h < nP S) (hne : p ≠ h) : IV n (fpass S c p h) := by
  unfold fpass
  cases ep : pl S c p with
  | none => exact hV
  | some kp =>
    obtain ⟨p1, p2⟩ := plc_some _ ep
    cases eh : pl S c h with
    | none => exact hV.who hc p1 hh (plc_none _ eh)
    | some kh =>
      obtain ⟨h1, h2⟩ := plc_some _ eh
      exact hV.join hn hc p1 h1 (fun e => hne (by rw [← p2, ← h2, e]))
