-- ===== the ledger: a month
theorem vch_all {S : MS} {T : Nat → Int} {v a : Nat} {x : Int32} (hT : TG S T) (hv : v < 16) (hx : 0 ≤ x.toInt) (mo : MO 0 a S) (ha : a ≤ 512) : ∃ T1 y, 0 ≤ y ∧ y ≤ x.toInt ∧ TG (fvch S v x) T1 ∧ (∀ q, T1 q + ((fvch S v x).a 504 q).toInt = T q + (S.a 504 q).toInt) ∧ ((fvch S v x).s 528).toInt = (S.s 528).toInt + y ∧ (∀ q, T q ≤ T1 q ∧ T1 q ≤ T q + y) ∧ ∀ q, ¬ S.a 512 q = 0 → T1 q = T q := by
  unfold fvch
  by_cases e : S.a 512 v = 0
  · rw [if_pos e]
    have p0 := mo.1 v hv
    obtain ⟨u, hu⟩ : ∃ u, u = if S.a 504 v < x then S.a 504 v else x := ⟨_, rfl⟩
    have hs : 0 ≤ u.toInt ∧ u.toInt ≤ (S.a 504 v).toInt ∧ u.toInt ≤ x.toInt := by
      rw [hu]
      by_cases q : S.a 504 v < x
      · rw [if_pos q]
        have := Int32.lt_iff_toInt_lt.mp q
        omega
      · rw [if_neg q]
        have := Int32.le_iff_toInt_le.mp (i_nle q)
        omega
    have c0 := mo.2.2.1
    have c1 := mo.fm
    have p1 := mo.pm hv
    rw [← hu]
    obtain ⟨r1, r2, r3⟩ := pf_all (S := S) (T := T) (i := v) (v := u) hT hs.1 hs.2.1 c0 (by omega)
    exact ⟨tu T v u.toInt, u.toInt, hs.1, hs.2.2, r1, r2, r3, fun q => tu_nn hs.1, fun q hd => tu_n (fun z => hd (by rw [z]; exact e))⟩
  · rw [if_neg e]
    exact ⟨T, 0, Int.le_refl _, hx, hT, fun q => rfl, by omega, fun q => ⟨Int.le_refl _, by omega⟩, fun q _ => rfl⟩
def its (S : MS) (k : Nat) : Int := if 0 < (S.a 506 k).toInt then ((S.a 506 k).toInt + 19) / 20 else 0
def itm (S : MS) : Nat → Int
  | 0 => 0
  | k + 1 => itm S k + its S k
theorem its_0 {S : MS} {k : Nat} : 0 ≤ its S k := by
  unfold its
  by_cases e : 0 < (S.a 506 k).toInt
  · rw [if_pos e]; omega
  · rw [if_neg e]; omega
theorem itm_0 {S : MS} : ∀ k, 0 ≤ itm S k := by
  intro k
  induction k with
  | zero => exact Int.le_refl _
  | succ k ih => rw [itm]; have := its_0 (S := S) (k := k); omega
/-- one person's month -/
theorem mst_all {X : MS} {T : Nat → Int} {i n a : Nat} (hI : nP X ≤ 16) (hdb : DB X) (hi : i < nP X) (hn : n ≤ 512) (ha : a ≤ n) (mo : MO 0 a X) (hV : 0 < X.a 506 i → ∃ a b, a < nP X ∧ b < nP X ∧ X.a 508 i = nI a ∧ X.a 509 i = nI b) (hT : TG X T) :
    ∃ T1, TG (fmst X i).1 T1 ∧ (∀ q, T1 q + ((fmst X i).1.a 504 q).toInt = T q + (X.a 504 q).toInt) ∧ (∀ q, -T1 q + ((fmst X i).1.s 528).toInt + DDm (fmst X i).1 ≤ -T q + (X.s 528).toInt + DDm X + its X i) ∧ (∀ q, T1 q + DDm (fmst X i).1 ≤ T q + DDm X + its X i) ∧ (∀ q, ¬ X.a 512 q = 0 → T1 q = T q) ∧
    ((fmst X i).2 = 0 ∧ (fmst X i).1.a 506 i = X.a 506 i + (X.a 506 i + 19) / 20 ∧ ((fmst X i).1.a 506 i).toInt = (X.a 506 i).toInt + its X i ∨ (fmst X i).2 = 1 ∧ (fmst X i).1.a 506 i = 0 ∧ (fmst X i).1.a 510 i = 0) ∧ ∀ x, x ≠ i → (fmst X i).1.a 506 x = X.a 506 x ∧ (fmst X i).1.a 510 x = X.a 510 x := by
  have hi16 : i < 16 := by omega
  unfold fmst its
  by_cases e : X.a 506 i ≤ 0
  · rw [if_pos e]
    have h0 := le0_iff.mp e
    have h1 := (hdb i hi16).1
    have ez : X.a 506 i = 0 := eq0_of (by omega)
    rw [if_neg (by omega)]
    exact ⟨T, hT, fun q => rfl, fun q => by show -T q + (X.s 528).toInt + DDm X ≤ _; omega, fun q => by show T q + DDm X ≤ _; omega, fun q _ => rfl, Or.inl ⟨rfl, by rw [ez]; decide, by show (X.a 506 i).toInt = _; omega⟩, fun x _ => ⟨rfl, rfl⟩⟩
  rw [if_neg e]
  have hd := i_le e
  have hd' := pos_iff.mp hd
  rw [if_pos hd']
  obtain ⟨g1, g2⟩ := hdb.hG hi16 hd
  obtain ⟨A, hA⟩ : ∃ A, A = fage X i := ⟨_, rfl⟩
  have a6 : A.a 506 i = X.a 506 i + (X.a 506 i + 19) / 20 := by rw [hA]; unfold fage; rw [a_f (by decide), a_e]
  have a6o : ∀ x, x ≠ i → A.a 506 x = X.a 506 x := fun x hx => by rw [hA]; unfold fage; rw [a_f (by decide), a_b hx]
  have ao : ∀ r x, r ≠ 506 → r ≠ 507 → A.a r x = X.a r x := fun r x h1 h2 => by rw [hA]; unfold fage; rw [a_f h2, a_f h1]
  by_cases e2 : X.a 507 i + 1 ≤ 6
  · rw [if_pos e2]
    show ∃ T1, TG (fage X i) T1 ∧ (∀ q, T1 q + ((fage X i).a 504 q).toInt = T q + (X.a 504 q).toInt) ∧ (∀ q, -T1 q + ((fage X i).s 528).toInt + DDm (fage X i) ≤ _) ∧ (∀ q, T1 q + DDm (fage X i) ≤ _) ∧ (∀ q, ¬ X.a 512 q = 0 → T1 q = T q) ∧ ((0 : Int32) = 0 ∧ (fage X i).a 506 i = _ ∧ ((fage X i).a 506 i).toInt = _ ∨ (0 : Int32) = 1 ∧ _) ∧ ∀ x, x ≠ i → (fage X i).a 506 x = X.a 506 x ∧ (fage X i).a 510 x = X.a 510 x
    rw [← hA]
    have eD := DD_up (S := X) (S' := A) hi16 a6o
    rw [a6, g2] at eD
    have e8 : A.s 528 = X.s 528 := by rw [hA]; rfl
    exact ⟨T, fun q => by rw [ao 511 q (by decide) (by decide)]; exact hT q, fun q => by rw [ao 504 q (by decide) (by decide)], fun q => by rw [e8, eD]; omega, fun q => by rw [eD]; omega, fun q _ => rfl, Or.inl ⟨rfl, a6, by rw [a6, g2]⟩, fun x hx => ⟨a6o x hx, ao 510 x (by decide) (by decide)⟩⟩
  · rw [if_neg e2]
    show ∃ T1, TG (fdfl (fage X i) i) T1 ∧ (∀ q, T1 q + ((fdfl (fage X i) i).a 504 q).toInt = T q + (X.a 504 q).toInt) ∧ (∀ q, -T1 q + ((fdfl (fage X i) i).s 528).toInt + DDm (fdfl (fage X i) i) ≤ _) ∧ (∀ q, T1 q + DDm (fdfl (fage X i) i) ≤ _) ∧ (∀ q, ¬ X.a 512 q = 0 → T1 q = T q) ∧ ((1 : Int32) = 0 ∧ (fdfl (fage X i) i).a 506 i = _ ∧ ((fdfl (fage X i) i).a 506 i).toInt = _ ∨ (1 : Int32) = 1 ∧ (fdfl (fage X i) i).a 506 i = 0 ∧ (fdfl (fage X i) i).a 510 i = 0) ∧ ∀ x, x ≠ i → (fdfl (fage X i) i).a 506 x = X.a 506 x ∧ (fdfl (fage X i) i).a 510 x = X.a 510 x
    obtain ⟨p, r, hp, hr, v8, v9⟩ := hV hd
    have a8 : av A i = p := by unfold av; rw [ao 508 i (by decide) (by decide), v8, nI_clamp (by omega)]
    have a9 : bv A i = r := by unfold bv; rw [ao 509 i (by decide) (by decide), v9, nI_clamp (by omega)]
    have ht : (A.a 506 i).toInt = (X.a 506 i).toInt + ((X.a 506 i).toInt + 19) / 20 := by rw [a6, g2]
    have hh : (A.a 506 i / 2).toInt = (A.a 506 i).toInt / 2 := half_i (by omega)
    have hrr : (A.a 506 i - A.a 506 i / 2).toInt = (A.a 506 i).toInt - (A.a 506 i).toInt / 2 := by
      have := z_hi (A.a 506 i)
      rw [z_sub (by omega) (by omega), hh]
    obtain ⟨B, hB⟩ : ∃ B, B = (A.setA 506 i 0).setA 510 i 0 := ⟨_, rfl⟩
    have bo : ∀ z x, z ≠ 506 → z ≠ 507 → z ≠ 510 → B.a z x = X.a z x := fun z x h1 h2 h3 => by rw [hB, a_f h3, a_f h1, ao z x h1 h2]
    have b6 : B.a 506 i = 0 := by rw [hB, a_f (by decide), a_e]
    have b6o : ∀ x, x ≠ i → B.a 506 x = X.a 506 x := fun x hx => by rw [hB, a_f (by decide), a_b hx, a6o x hx]
    have b10 : B.a 510 i = 0 := by rw [hB, a_e]
    have b10o : ∀ x, x ≠ i → B.a 510 x = X.a 510 x := fun x hx => by rw [hB, a_b hx, a_f (by decide), ao 510 x (by decide) (by decide)]
    have b8 : B.s 528 = X.s 528 := by rw [hB, hA]; rfl
    have b9 : B.s 529 = X.s 529 := by rw [hB, hA]; rfl
    have TB : TG B T := fun q => by rw [bo 511 q (by decide) (by decide) (by decide)]; exact hT q
    have moB : MO 0 a B := mo.sm (fun z hz x => by
      have : z = 504 ∨ z = 516 := by simpa using hz
      exact bo z x (by omega) (by omega) (by omega)) b8 b9
    obtain ⟨T1, y1, k1, k2, k3, k4, k5, k6, k7⟩ := vch_all (S := B) (v := p) (x := A.a 506 i / 2) TB (by omega) (by rw [hh]; omega) moB (by omega)
    obtain ⟨C, hC⟩ : ∃ C, C = fvch B p (A.a 506 i / 2) := ⟨_, rfl⟩
    have nB : nP B = nP X := by unfold nP; rw [hB, hA]; rfl
    have moC : MO 0 a C := by rw [hC]; exact (fvch_k (by rw [nB]; exact hp) (by rw [nB]; exact hI) (by rw [hh]; omega) (by omega)).2 moB
    have co : ∀ z x, z ≠ 504 → z ≠ 511 → C.a z x = B.a z x := fun z x h1 h2 => by rw [hC]; exact fvch_a h1 h2
    rw [← hC] at k3 k4 k5
    obtain ⟨T2, y2, m1, m2, m3, m4, m5, m6, m7⟩ := vch_all (S := C) (v := r) (x := A.a 506 i - A.a 506 i / 2) k3 (by omega) (by rw [hrr]; omega) moC (by omega)
    obtain ⟨E, hE⟩ : ∃ E, E = fvch C r (A.a 506 i - A.a 506 i / 2) := ⟨_, rfl⟩
    rw [← hE] at m3 m4 m5
    have eo : ∀ z x, z ≠ 504 → z ≠ 511 → E.a z x = B.a z x := fun z x h1 h2 => by rw [hE, fvch_a h1 h2, co z x h1 h2]
    have hfd : fdfl (fage X i) i = E := by unfold fdfl; rw [← hA, a8, a9, ← hB, ← hC, ← hE]
    rw [hfd]
    have eD := DD_up (S := X) (S' := E) hi16 (fun x hx => by rw [eo 506 x (by decide) (by decide)]; exact b6o x hx)
    rw [eo 506 i (by decide) (by decide), b6, Int32.toInt_zero] at eD
    rw [hh] at k2
    rw [hrr] at m2
    rw [b8] at k5
    refine ⟨T2, m3, fun q => ?_, fun q => ?_, fun q => ?_, fun q hq => ?_, Or.inr ⟨rfl, by rw [eo 506 i (by decide) (by decide)]; exact b6, by rw [eo 510 i (by decide) (by decide)]; exact b10⟩, fun x hx => ⟨by rw [eo 506 x (by decide) (by decide)]; exact b6o x hx, by rw [eo 510 x (by decide) (by decide)]; exact b10o x hx⟩⟩
    · have z1 := k4 q
      have z2 := m4 q
      rw [bo 504 q (by decide) (by decide) (by decide)] at z1
      omega
    · have z1 := k6 q
      have z2 := m6 q
      rw [m5, k5, eD]; omega
    · have z1 := k6 q
      have z2 := m6 q
      rw [eD]; omega
    · rw [m7 q (by rw [co 512 q (by decide) (by decide), bo 512 q (by decide) (by decide) (by decide)]; exact hq), k7 q (by rw [bo 512 q (by decide) (by decide) (by decide)]; exact hq)]
theorem mon_all {n : Nat} {S : MS} {T : Nat → Int} (h : IV n S) (hn : n ≤ 512) (hV : VO S) (hT : TG S T) : ∀ k, k ≤ nP S → ∃ T1, TG (fmon (S.setS 500 0) k).1 T1 ∧ (∀ q, T1 q + ((fmon (S.setS 500 0) k).1.a 504 q).toInt = T q + (S.a 504 q).toInt) ∧ (∀ q, -T1 q + ((fmon (S.setS 500 0) k).1.s 528).toInt + DDm (fmon (S.setS 500 0) k).1 ≤ -T q + (S.s 528).toInt + DDm S + itm S k) ∧ (∀ q, T1 q + DDm (fmon (S.setS 500 0) k).1 ≤ T q + DDm S + itm S k) ∧ (∀ q, ¬ S.a 512 q = 0 → T1 q = T q) ∧
    (0 ≤ (fmon (S.setS 500 0) k).2.toInt ∧ (fmon (S.setS 500 0) k).2.toInt ≤ k) ∧ ∀ q, q < k → ((fmon (S.setS 500 0) k).1.a 506 q = S.a 506 q + (S.a 506 q + 19) / 20 ∧ ((fmon (S.setS 500 0) k).1.a 506 q).toInt = (S.a 506 q).toInt + its S q) ∨ (fmon (S.setS 500 0) k).1.a 506 q = 0 ∧ (fmon (S.setS 500 0) k).1.a 510 q = 0 ∧ 1 ≤ (fmon (S.setS 500 0) k).2.toInt := by
  have h16 := h.1.2.1
  have hdb := h.2.2.2.2.2.2.2.2.2.1
  obtain ⟨-, -, -, -, -, -, -, -, -, -, -, -, a0, b0, hab, mo0, -⟩ := id h
  have key : ∀ k, k ≤ nP S → LG S (fmon (S.setS 500 0) k).1 ∧ DB (fmon (S.setS 500 0) k).1 ∧ MO 0 a0 (fmon (S.setS 500 0) k).1 := by
    intro k
    induction k with
    | zero => intro _; exact ⟨LG.sc (by decide), hdb.sm Sm.rf.ss, mo0.sm Sm.rf rfl rfl⟩
    | succ k ih =>
      intro hk
      obtain ⟨l1, l3, l4⟩ := ih (by omega)
      have e8 : ∀ r, r ≠ 504 → r ≠ 511 → r ≠ 510 → (fmon (S.setS 500 0) k).1.a r k = S.a r k := fun r a b c => (fmon_a (S := S.setS 500 0) a b c k (Nat.le_refl _)).trans rfl
      obtain ⟨j1, j2, j3, j4⟩ := fmst_k (i := k) (n := n) (by rw [l1.1.p]; exact h16) l3 (by rw [l1.1.p]; omega) hn (fun hd => by
        rw [e8 506 (by decide) (by decide) (by decide)] at hd
        rw [e8 508 (by decide) (by decide) (by decide), e8 509 (by decide) (by decide) (by decide), l1.1.p]
        exact hV k (by omega) hd)
      exact ⟨l1.tr j1, j3, j4 a0 (by omega) l4⟩
  intro k
  induction k with
  | zero => intro _; exact ⟨T, hT, fun q => rfl, fun q => by show -T q + (S.s 528).toInt + DDm S ≤ _; rw [itm]; omega, fun q => by show T q + DDm S ≤ _; rw [itm]; omega, fun q _ => rfl, ⟨by show 0 ≤ (0 : Int32).toInt; decide, by show (0 : Int32).toInt ≤ 0; decide⟩, fun q hq => absurd hq (Nat.not_lt_zero _)⟩
  | succ k ih =>
    intro hk
    obtain ⟨T1, t1, t2, t3, t4, t5, t6, t7⟩ := ih (by omega)
    obtain ⟨l1, l3, l4⟩ := key k (by omega)
    obtain ⟨X, hX⟩ : ∃ X, X = (fmon (S.setS 500 0) k).1 := ⟨_, rfl⟩
    obtain ⟨u, hu⟩ : ∃ u, u = (fmon (S.setS 500 0) k).2 := ⟨_, rfl⟩
    have e8 : ∀ r x, r ≠ 504 → r ≠ 511 → r ≠ 510 → k ≤ x → X.a r x = S.a r x := fun r x a b c hx => by rw [hX]; exact (fmon_a (S := S.setS 500 0) a b c k hx).trans rfl
    have e12 : ∀ x, X.a 512 x = S.a 512 x := fun x => by rw [hX, fmon_b (by decide) (by decide) (by decide) (by decide) (by decide)]; rfl
    have hX1 : (fmon (S.setS 500 0) (k + 1)).1 = (fmst X k).1 := by rw [hX]; rfl
    have hX2 : (fmon (S.setS 500 0) (k + 1)).2 = u + (fmst X k).2 := by rw [hX, hu]; rfl
    rw [← hX] at t1 t2 t3 t4 t7 l1 l3 l4
    rw [← hu] at t6 t7
    have e6 := e8 506 k (by decide) (by decide) (by decide) (Nat.le_refl _)
    have eit : its X k = its S k := by unfold its; rw [e6]
    obtain ⟨T2, s1, s2, s3, s4, s5, s6, s7⟩ := mst_all (X := X) (T := T1) (i := k) (n := n) (a := a0) (by rw [l1.1.p]; exact h16) l3 (by rw [l1.1.p]; omega) hn (by omega) l4 (fun hd => by
        rw [e6] at hd
        rw [e8 508 k (by decide) (by decide) (by decide) (Nat.le_refl _), e8 509 k (by decide) (by decide) (by decide) (Nat.le_refl _), l1.1.p]
        exact hV k (by omega) hd) t1
    rw [eit] at s3 s4 s6
    rw [e6] at s6
    rw [hX1, hX2, itm]
    have hv : 0 ≤ (u + (fmst X k).2).toInt ∧ (u + (fmst X k).2).toInt ≤ ((k + 1 : Nat) : Int) ∧ u.toInt ≤ (u + (fmst X k).2).toInt ∧ ((fmst X k).2 = 1 → 1 ≤ (u + (fmst X k).2).toInt) := by
      have k1 : (1 : Int32).toInt = 1 := by decide
      rcases s6 with ⟨z, -⟩ | ⟨z, -⟩ <;> rw [z]
      · rw [Int32.add_zero]; exact ⟨t6.1, by omega, Int.le_refl _, fun z => absurd z (by decide)⟩
      · rw [z_add (by rw [k1]; omega) (by rw [k1]; omega), k1]; omega
    refine ⟨T2, s1, fun q => (s2 q).trans (t2 q), fun q => ?_, fun q => ?_, fun q hd => ?_, ⟨hv.1, hv.2.1⟩, fun q hq => ?_⟩
    · have z1 := s3 q
      have z2 := t3 q
      omega
    · have z1 := s4 q
      have z2 := t4 q
      omega
    · rw [s5 q (by rw [e12]; exact hd), t5 q hd]
    · by_cases e : q = k
      · subst e
        rcases s6 with ⟨-, z, z2⟩ | ⟨z, z2, z3⟩
        · exact Or.inl ⟨z, z2⟩
        · exact Or.inr ⟨z2, z3, hv.2.2.2 z⟩
      · have z := s7 q e
        rw [z.1, z.2]
        rcases t7 q (by omega) with y | ⟨y1, y2, y3⟩
        · exact Or.inl y
        · exact Or.inr ⟨y1, y2, by omega⟩
theorem its_b {d : Int} {o g : Nat} (h0 : 0 < d) (h : d ≤ ((o * g : Nat) : Int)) : (d + 19) / 20 ≤ ((o * ((g + 19) / 20) : Nat) : Int) := by
  obtain ⟨c, hc⟩ : ∃ c, c = (g + 19) / 20 := ⟨_, rfl⟩
  have hg : g ≤ 20 * c := by omega
  have h2 : o * g ≤ o * (20 * c) := Nat.mul_le_mul_left _ hg
  have h3 : o * (20 * c) = 20 * (o * c) := Nat.mul_left_comm o 20 c
  rw [← hc]
  omega
theorem itm_b {S : MS} {o : Nat → Nat} {g : Nat} (h : ∀ q, q < 7 → (S.a 506 q).toInt ≤ ((o q * g : Nat) : Int)) : ∀ k, k ≤ 7 → itm S k ≤ ((ns o k * ((g + 19) / 20) : Nat) : Int) := by
  intro k
  induction k with
  | zero => intro _; rw [itm, ns]; omega
  | succ k ih =>
    intro hk
    have h1 := ih (by omega)
    have h2 := h k (by omega)
    rw [itm, ns, Nat.add_mul]
    unfold its
    by_cases e : 0 < (S.a 506 k).toInt
    · rw [if_pos e]
      have := its_b e h2
      omega
    · rw [if_neg e]; omega
/-- a month without drought -/
theorem BG.month {k n : Nat} {S : MS} {T : Nat → Int} {e j w s : Nat} {o1 o2 : Nat → Nat} {F : Int} (h : BG k S T e j w s o1 o2 F) (v : JV n S) (hn : n ≤ 511) (hV : VO S) (h7 : nP S = 7) : ∃ T' F', BG (k + 1) (fmon (S.setS 500 0) (nP S)).1 T' e (j + 1) (w + 1) s o1 o2 F' := by
  obtain ⟨T1, t1, t2, t3, t4, t5, -, t7⟩ := mon_all v.1 (by omega) hV h.1 (nP S) (Nat.le_refl _)
  have vj := jv_month v (by omega) hV (S' := (fmon (S.setS 500 0) (nP S)).1) (x1 := 0) (r := (fmon (S.setS 500 0) (nP S)).2) (Or.inr ⟨rfl, rfl, rfl⟩)
  obtain ⟨a, b, -, mo, -⟩ := vj.mo
  have sm : Sm [512, 516, 517, 518, 520, 521, 522] S (fmon (S.setS 500 0) (nP S)).1 := fun r hr x => by
    have : r = 512 ∨ r = 516 ∨ r = 517 ∨ r = 518 ∨ r = 520 ∨ r = 521 ∨ r = 522 := by simpa using hr
    rw [fmon_b (by omega) (by omega) (by omega) (by omega) (by omega)]; rfl
  have hb := itm_b (S := S) (o := o2) (g := gg w) (fun q hq => (h.2.1 q hq).1) 7 (Nat.le_refl _)
  rw [h.2.2.1] at hb
  have eE : ∀ k, (fmon (S.setS 500 0) k).1.s 529 = S.s 529 := by
    intro k
    induction k with
    | zero => rfl
    | succ k ih =>
      rw [← ih]
      show (fmst (fmon (S.setS 500 0) k).1 k).1.s 529 = _
      unfold fmst
      by_cases z : (fmon (S.setS 500 0) k).1.a 506 k ≤ 0
      · rw [if_pos z]
      · rw [if_neg z]
        by_cases z2 : (fmon (S.setS 500 0) k).1.a 507 k + 1 ≤ 6
        · rw [if_pos z2]; rfl
        · rw [if_neg z2]
          have fv : ∀ (Y : MS) v x, (fvch Y v x).s 529 = Y.s 529 := fun Y v x => by
            unfold fvch
            by_cases y : Y.a 512 v = 0
            · rw [if_pos y]; rfl
            · rw [if_neg y]
          show (fdfl (fage (fmon (S.setS 500 0) k).1 k) k).s 529 = _
          unfold fdfl
          rw [fv, fv]; rfl
  refine ⟨T1, _, h.fund (f := itm S (nP S)) sm ⟨t1, fun q _ _ => t2 q, fun q _ => t3 q, fun q _ => t4 q, fun q _ hd => t5 q hd⟩ (eE _) mo (fun q hq => ?_) (itm_0 _) (Or.inr (Or.inr ⟨rfl, rfl, by rw [h7]; exact hb⟩))⟩
  have d0 := (h.2.1 q hq).1
  have dd := (v.db q (by omega)).1
  rw [gg_q, Nat.mul_add]
  rcases t7 q (by omega) with ⟨-, z⟩ | ⟨z, -, -⟩
  · rw [z]
    unfold its
    by_cases y : 0 < (S.a 506 q).toInt
    · rw [if_pos y]
      have := its_b y d0
      omega
    · rw [if_neg y]; omega
  · rw [z, Int32.toInt_zero]; omega
