-- ===== what every run keeps: deaths, meetings
theorem IV.leaves {n p q : Nat} {S : MS} (h : IV n S) (hn : n ≤ 512) (hp : p < nP S) (hq : q < nP S) (hne : p ≠ q) (d1 : S.a 512 p = 0) (d2 : S.a 512 q = 0) (hsh : S.a 505 p + S.a 505 q ≤ 100) : IV (n + 1) (fleaves (S.setS 500 0) p q) := by
  have h16 := h.1.2.1
  have hp16 : p < 16 := by omega
  have hq16 : q < 16 := by omega
  obtain ⟨T, hT⟩ : ∃ T, T = S.setS 500 0 := ⟨_, rfl⟩
  have eT : ∀ r x, T.a r x = S.a r x := fun r x => by rw [hT]; rfl
  rw [← hT]
  obtain ⟨-, -, -, -, -, -, -, -, -, hdb, hsb, -, -⟩ := id h
  obtain ⟨B, hB⟩ : ∃ B, B = fgot T p q := ⟨_, rfl⟩
  obtain ⟨C, hC⟩ : ∃ C, C = flo B p q := ⟨_, rfl⟩
  have hF : fleaves T p q = fend C p q := by rw [hC, hB]; rfl
  rw [hF]
  have LB : LG S B := by rw [hB, hT]; exact ((LG.rf.xsc (by decide)).xpe (by decide) hq).xpe (by decide) hq
  have LC : LG B C := by
    rw [hC]; unfold flo
    have hqB : q < nP B := by rw [LB.1.p]; exact hq
    by_cases e : ¬ B.a 506 p ≤ 0 ∧ B.a 506 q = 0
    · rw [if_pos e]; exact ((LG.rf.xpe (by decide) hqB).xpe (by decide) hqB).xpe (by decide) hqB
    · rw [if_neg e]; exact LG.rf
  have L : LG S (fend C p q) := by
    have hl := LB.tr LC
    exact ((((hl.xpe (by decide) hq).xpe (by decide) hp).xpe (by decide) hp).xpe (by decide) hp).xpe (by decide) hp
  have eB : ∀ r x, r ≠ 504 → r ≠ 505 → B.a r x = S.a r x := fun r x a b => by rw [hB, fgot_a a b, eT]
  have eC : ∀ r x, r ≠ 507 → r ≠ 508 → r ≠ 509 → C.a r x = B.a r x := fun r x a b c => by rw [hC, flo_a a b c]
  have sm : ∀ R : List Nat, (∀ r, r ∈ R → ¬ (504 ≤ r ∧ r ≤ 509) ∧ r ≠ 512) → Sm R S (fend C p q) := fun R hR r hr x => by
    have hr := hR r hr
    rw [fend_a (by omega) (by omega) (by omega) hr.2, eC r x (by omega) (by omega) (by omega), eB r x (by omega) (by omega)]
  -- the rows that change
  have f12 : ∀ x, (fend C p q).a 512 x = if x = p then 1 else S.a 512 x := fun x => by
    unfold fend
    by_cases e : x = p
    · rw [e, a_e, if_pos rfl]
    · rw [a_b e, if_neg e, a_f (by decide), a_f (by decide), a_f (by decide), a_f (by decide), eC 512 x (by decide) (by decide) (by decide), eB 512 x (by decide) (by decide)]
  have f6 : ∀ x, (fend C p q).a 506 x = if x = p then 0 else if x = q then S.a 506 q + S.a 506 p else S.a 506 x := fun x => by
    have c6 : ∀ x, C.a 506 x = S.a 506 x := fun x => by rw [eC 506 x (by decide) (by decide) (by decide), eB 506 x (by decide) (by decide)]
    unfold fend
    rw [a_f (by decide)]
    by_cases e : x = p
    · rw [e, a_e, if_pos rfl]
    · rw [a_b e, if_neg e, a_f (by decide), a_f (by decide)]
      by_cases e2 : x = q
      · rw [e2, a_e, if_pos rfl, c6, c6]
      · rw [a_b e2, if_neg e2, c6]
  have f5 : ∀ x, (fend C p q).a 505 x = if x = p then 0 else if x = q then S.a 505 q + S.a 505 p else S.a 505 x := fun x => by
    have b5 : ∀ x, B.a 505 x = if x = q then S.a 505 q + S.a 505 p else S.a 505 x := fun x => by
      rw [hB]; unfold fgot
      by_cases e2 : x = q
      · rw [e2, a_e, if_pos rfl, eT, eT]
      · rw [a_b e2, if_neg e2, a_f (by decide), eT]
    unfold fend
    rw [a_f (by decide), a_f (by decide)]
    by_cases e : x = p
    · rw [e, a_e, if_pos rfl]
    · rw [a_b e, if_neg e, a_f (by decide), a_f (by decide), eC 505 x (by decide) (by decide) (by decide), b5]
  have f7 : ∀ x, (fend C p q).a 507 x = if x = q ∧ ¬ S.a 506 p ≤ 0 ∧ S.a 506 q = 0 then S.a 507 p else S.a 507 x := fun x => by
    rw [fend_a (by decide) (by decide) (by decide) (by decide), hC]; unfold flo
    rw [eB 506 p (by decide) (by decide), eB 506 q (by decide) (by decide)]
    by_cases e : ¬ S.a 506 p ≤ 0 ∧ S.a 506 q = 0
    · rw [if_pos e, a_f (by decide), a_f (by decide), eB 507 p (by decide) (by decide)]
      by_cases e2 : x = q
      · rw [e2, a_e, if_pos ⟨rfl, e⟩]
      · rw [a_b e2, if_neg (fun z => e2 z.1), eB 507 x (by decide) (by decide)]
    · rw [if_neg e, if_neg (fun z => e z.2), eB 507 x (by decide) (by decide)]
  have hcnt : cnt (fend C p q) 16 = cnt S 16 + 1 := cnt_up d1 (by rw [f12, if_pos rfl]; decide) (fun x hx => by rw [f12, if_neg hx]) 16 hp16
  refine h.step L (sm _ (by decide)) (fun i hi => ?_) (fun i hi => ?_) (fun a ha m => ⟨a, Nat.le_refl _, Nat.le_succ _, ?_⟩)
  · rw [hcnt, f6, f7, f12]
    have up : ∀ m, uu (cnt S 16) m ≤ uu (cnt S 16 + 1) m := fun m => by have := uu_D (D := cnt S 16) (m := m); omega
    by_cases e : i = p
    · rw [if_pos e, Int32.toInt_zero]
      exact ⟨Int.le_refl _, fun z => absurd z (by decide), fun _ => rfl⟩
    · rw [if_neg e, if_neg e]
      obtain ⟨c1, c2, c3⟩ := hdb i hi
      by_cases e2 : i = q
      · rw [e2, if_pos rfl]
        obtain ⟨q1, q2, q3⟩ := hdb q hq16
        obtain ⟨p1, p2, p3⟩ := hdb p hp16
        have qu := (hdb.u hq16).2
        have pu := (hdb.u hp16).2
        have hb := (uu_b (cnt S 16) (cnt_le 16)).2
        have u67 := uu_7 (D := cnt S 16)
        have hs : (S.a 506 q + S.a 506 p).toInt = (S.a 506 q).toInt + (S.a 506 p).toInt := z_add (by omega) (by omega)
        refine ⟨by rw [hs]; omega, fun hpos => ?_, fun z => absurd d2 z⟩
        rw [hs] at hpos ⊢
        by_cases z : ¬ S.a 506 p ≤ 0 ∧ S.a 506 q = 0
        · rw [if_pos ⟨rfl, z⟩]
          obtain ⟨m, m1, m2, m3⟩ := p2 (pos_iff.mp (i_le z.1))
          have := up m
          refine ⟨m, m1, m2, ?_⟩
          rw [z.2, Int32.toInt_zero]; omega
        · rw [if_neg (fun y => z y.2)]
          have hq0 : 0 < (S.a 506 q).toInt := by
            rcases (by omega : (S.a 506 q).toInt = 0 ∨ 0 < (S.a 506 q).toInt) with y | y
            · exact absurd ⟨fun w => by have := le0_iff.mp w; omega, eq0_of y⟩ z
            · exact y
          obtain ⟨m, m1, m2, m3⟩ := q2 hq0
          have := uu_D (D := cnt S 16) (m := m)
          exact ⟨m, m1, m2, by omega⟩
      · rw [if_neg e2, if_neg (fun y => e2 y.1)]
        refine ⟨c1, fun hpos => ?_, c3⟩
        obtain ⟨m, m1, m2, m3⟩ := c2 hpos
        have := up m
        exact ⟨m, m1, m2, by omega⟩
  · rw [f5]
    by_cases e : i = p
    · rw [if_pos e]; decide
    · rw [if_neg e]
      by_cases e2 : i = q
      · rw [if_pos e2]
        have q1 := hsb q hq16
        have p1 := hsb p hp16
        have h1 := p_le (k := 100) (by decide) hsh
        rw [z_add (by omega) (by omega)] at h1
        rw [z_add (by omega) (by omega)]; omega
      · rw [if_neg e2]; exact hsb i hi
  · have mT : MO 0 a T := by rw [hT]; exact m.sm Sm.rf rfl rfl
    have p0 := m.1 p hp16
    have q0 := m.1 q hq16
    have p1 := m.pm hp16
    have q1 := m.pm hq16
    have hs : (T.a 504 q + T.a 504 p).toInt = (T.a 504 q).toInt + (T.a 504 p).toInt := by rw [eT, eT]; exact z_add (by omega) (by omega)
    have ep : (T.a 504 p).toInt = (S.a 504 p).toInt := by rw [eT]
    have eq' : (T.a 504 q).toInt = (S.a 504 q).toInt := by rw [eT]
    have m1 := mT.p (d := (T.a 504 p).toInt) hq16 hs (by rw [hs]; omega)
    have m2 : MO (0 + (T.a 504 p).toInt) a B := by rw [hB]; exact m1.sm (Sm.rf.st (by decide)) rfl rfl
    have m3 : MO (0 + (T.a 504 p).toInt) a (C.setA 506 q (C.a 506 q + C.a 506 p)) :=
      m2.sm (fun r hr x => by
        rw [a_f (by have : r = 504 ∨ r = 516 := by simpa using hr
                    omega)]
        exact eC r x (by have : r = 504 ∨ r = 516 := by simpa using hr
                         omega) (by have : r = 504 ∨ r = 516 := by simpa using hr
                                    omega) (by have : r = 504 ∨ r = 516 := by simpa using hr
                                               omega)) (by rw [setA_s, hC, flo_s]) (by rw [setA_s, hC, flo_s])
    have e504 : (C.setA 506 q (C.a 506 q + C.a 506 p)).a 504 p = T.a 504 p := by
      rw [a_f (by decide), eC 504 p (by decide) (by decide) (by decide), hB]; unfold fgot
      rw [a_f (by decide), a_b hne]
    have m4 := m3.p (d := -(T.a 504 p).toInt) (y := 0) hp16 (by rw [e504, Int32.toInt_zero]; omega) (by decide)
    rw [show (0 : Int) + (T.a 504 p).toInt + -(T.a 504 p).toInt = 0 by omega] at m4
    exact m4.sm (((Sm.rf.st (by decide)).st (by decide)).st (by decide)) rfl rfl
theorem IV.die {n p q : Nat} {S : MS} (h : IV n S) (hn : n ≤ 512) (hp : p < nP S) (hq : q < nP S) (hne : p ≠ q) (d1 : S.a 512 p = 0) (d2 : S.a 512 q = 0) (hsh : S.a 505 p + S.a 505 q ≤ 100) : IV (n + 1) (fdied S p q) := by
  have hF := h.leaves hn hp hq hne d1 d2 hsh
  unfold fdied
  obtain ⟨F, hFd⟩ : ∃ F, F = fleaves (S.setS 500 0) p q := ⟨_, rfl⟩
  have N : Nm S F := by rw [hFd]; exact (Nm.rf.ss (by decide)).tr fleaves_Nm
  rw [← hFd] at hF ⊢
  have key : ∀ k, k ≤ nC S → IV (n + 1) (fdie F p q k).1 ∧ KP F (fdie F p q k).1 := by
    intro k
    induction k with
    | zero => intro _; exact ⟨hF, hF.1, hF.2.1, hF.2.2.2.1, rfl, rfl⟩
    | succ k ih =>
      intro hk
      obtain ⟨i1, i2, i3, i4, i5, i6⟩ := ih (by omega)
      have hkk : k < nC (fdie F p q k).1 := by rw [i6, N.c]; omega
      have hqq : q < nP (fdie F p q k).1 := by rw [i5, N.p]; exact hq
      obtain ⟨a1, a2, a3, a4, a5⟩ := fpass_kp (p := p) (h := q) i2 i3 i4 hkk hqq
      exact ⟨i1.pass (by omega) hkk hqq hne, a1, a2, a3, a4.trans i5, a5.trans i6⟩
  exact (key (nC S) (Nat.le_refl _)).1
theorem mul_4 {a b : Nat} (h : a + b ≤ 513) : 10000 * (a * b) ≤ 660000000 := by
  have h2 : 2 * (a * b) ≤ a * a + b * b := by
    rcases Nat.le_total a b with e | e
    · obtain ⟨d, rfl⟩ := Nat.le.dest e
      simp only [Nat.mul_add, Nat.add_mul, Nat.mul_comm d a]; omega
    · obtain ⟨d, rfl⟩ := Nat.le.dest e
      simp only [Nat.mul_add, Nat.add_mul, Nat.mul_comm d b]; omega
  have h3 : (a + b) * (a + b) = a * a + b * b + 2 * (a * b) := by
    rw [Nat.mul_add, Nat.add_mul, Nat.add_mul, Nat.mul_comm b a]; omega
  have h4 : (a + b) * (a + b) ≤ 513 * 513 := Nat.mul_le_mul h h
  omega
theorem fcol_k {X : MS} {c j i a : Nat} {m : Int32} (hw : wh X j = i) (hi : i < 16) (hc : c < 4) (ha : a ≤ 512) (mo : MO 0 a X) (s1 : 1 ≤ (X.a 514 c).toInt) (s2 : (X.a 514 c).toInt ≤ 1000) (r1 : 0 ≤ (X.a 522 j).toInt) (r2 : (X.a 522 j).toInt ≤ 300000000) (p1 : 0 ≤ (X.a 525 j).toInt) (p2 : (X.a 525 j).toInt ≤ 1500000000) : MO 0 a (fcol X c j m) ∧ (0 ≤ ((fcol X c j m).a 522 j).toInt ∧ ((fcol X c j m).a 522 j).toInt ≤ (X.a 522 j).toInt + 1100) ∧ (0 ≤ ((fcol X c j m).a 525 j).toInt ∧ ((fcol X c j m).a 525 j).toInt ≤ (X.a 525 j).toInt + 10000 * a) := by
  have ho : (owes X c j).toInt = (X.a 514 c).toInt + (X.a 522 j).toInt := z_add (by omega) (by omega)
  have q0 := mo.1 i hi
  have q1 := mo.pm hi
  have hp : 0 ≤ (cpay X c j).toInt ∧ (cpay X c j).toInt ≤ (X.a 504 i).toInt ∧ (cpay X c j).toInt ≤ (owes X c j).toInt := by
    unfold cpay
    rw [hw]
    by_cases e : X.a 504 i < owes X c j
    · rw [if_pos e]
      have := Int32.lt_iff_toInt_lt.mp e
      omega
    · rw [if_neg e]
      have := Int32.le_iff_toInt_le.mp (i_nle e)
      omega
  have hrest : (owes X c j - cpay X c j).toInt = (owes X c j).toInt - (cpay X c j).toInt := z_sub (by omega) (by omega)
  have k10 : (10 : Int32).toInt = 10 := by decide
  have hten : (X.a 514 c / 10).toInt = (X.a 514 c).toInt / 10 := by
    rw [Int32.toInt_div_of_ne_right _ _ (by decide), k10, Int.tdiv_eq_ediv_of_nonneg (by omega)]
  have hcr : 0 ≤ (crest X c j m).toInt ∧ (crest X c j m).toInt ≤ (X.a 522 j).toInt + 1100 := by
    unfold crest
    by_cases e : owes X c j - cpay X c j ≤ 0 ∨ ¬ m = 0
    · rw [if_pos e, hrest]; omega
    · rw [if_neg e, z_add (by omega) (by omega), hrest, hten]; omega
  have e22 : (fcol X c j m).a 522 j = crest X c j m := a_e
  have e25 : (fcol X c j m).a 525 j = X.a 525 j + cpay X c j := by unfold fcol; rw [a_f (by decide), a_e]
  have hpd : (X.a 525 j + cpay X c j).toInt = (X.a 525 j).toInt + (cpay X c j).toInt := z_add (by omega) (by omega)
  refine ⟨?_, by rw [e22]; exact hcr, by rw [e25, hpd]; omega⟩
  have m1 := mo.pay (v := cpay X c j) hi hp.1 hp.2.1
  have b0 := mo.2.1 c hc
  have b1 := mo.bm hc
  have e6 : (fpay X i (cpay X c j)).a 516 c = X.a 516 c := fpay_a (by decide) (by decide)
  have hb : (X.a 516 c + cpay X c j).toInt = (X.a 516 c).toInt + (cpay X c j).toInt := z_add (by omega) (by omega)
  have m2 := m1.b (d := (cpay X c j).toInt) (y := X.a 516 c + cpay X c j) hc (by rw [e6, hb]) (by rw [hb]; omega)
  rw [show (0 : Int) - (cpay X c j).toInt + (cpay X c j).toInt = 0 by omega] at m2
  unfold fcol
  rw [hw]
  exact m2.sm ((Sm.rf.st (by decide)).st (by decide)) rfl rfl
theorem fcols_k {S : MS} {c a b n : Nat} {m : Int32} (hI : SH S) (hc : c < nC S) (hn : n ≤ 512) (hab : a + b ≤ n) (mo : MO 0 a S) (ar : AB n S) (pb : PB a b S) : ∀ k, k ≤ mn S c → LG S (fcols (S.setS 500 0) c m k) ∧ (∀ x, (∀ k', k' < k → x ≠ 10 * c + k') → (fcols (S.setS 500 0) c m k).a 522 x = S.a 522 x ∧ (fcols (S.setS 500 0) c m k).a 525 x = S.a 525 x) ∧ (∀ k', k' < k → (0 ≤ ((fcols (S.setS 500 0) c m k).a 522 (10 * c + k')).toInt ∧ ((fcols (S.setS 500 0) c m k).a 522 (10 * c + k')).toInt ≤ (S.a 522 (10 * c + k')).toInt + 1100) ∧ (0 ≤ ((fcols (S.setS 500 0) c m k).a 525 (10 * c + k')).toInt ∧ ((fcols (S.setS 500 0) c m k).a 525 (10 * c + k')).toInt ≤ (S.a 525 (10 * c + k')).toInt + 10000 * a)) ∧ MO 0 a (fcols (S.setS 500 0) c m k) := by
  obtain ⟨j1, j2, j3⟩ := hI.2.2.2.2 c hc
  have h16 := hI.2.1
  have h4 := hI.2.2.2.1
  obtain ⟨s1, s2, s3⟩ := ar c hc
  have hm4 := mul_4 (a := a) (b := b) (by omega)
  intro k
  induction k with
  | zero => intro _; exact ⟨LG.sc (by decide), fun x _ => ⟨rfl, rfl⟩, fun k' hk => absurd hk (Nat.not_lt_zero _), mo.sm Sm.rf rfl rfl⟩
  | succ k ih =>
    intro hk
    obtain ⟨l1, l2, l3, l4⟩ := ih (by omega)
    have hbig : n * 2 ^ (10 - mn S c) ≤ 512 * 512 := Nat.mul_le_mul hn (Nat.le_trans (Nat.pow_le_pow_right (by decide) (show 10 - mn S c ≤ 9 by omega)) (by decide))
    obtain ⟨X, hX⟩ : ∃ X, X = fcols (S.setS 500 0) c m k := ⟨_, rfl⟩
    have hX1 : fcols (S.setS 500 0) c m (k + 1) = fcol X c (10 * c + k) m := by rw [hX]; rfl
    rw [← hX] at l1 l2 l3 l4
    rw [hX1]
    have N := l1.1
    have hwk : wh X (10 * c + k) = wh S (10 * c + k) := by rw [N.w]
    have hpk := (j3 k (by omega)).2
    have e14 : X.a 514 c = S.a 514 c := by rw [hX]; exact fcols_a (by decide) (by decide) (by decide) (by decide) (by decide) k
    obtain ⟨e22, e25⟩ := l2 (10 * c + k) (fun k' hk' => by omega)
    have ar0 := s3 k (by omega)
    have pb0 := pb (10 * c + k)
    obtain ⟨f1, f2, f3⟩ := fcol_k (m := m) (X := X) (c := c) (j := 10 * c + k) (i := wh S (10 * c + k)) (a := a) hwk (by omega) (by omega) (by omega) l4 (by rw [e14]; exact s1) (by rw [e14]; exact s2) (by rw [e22]; exact ar0.1) (by rw [e22]; omega) (by rw [e25]; exact pb0.1) (by rw [e25]; omega)
    have fo : ∀ x, x ≠ 10 * c + k → (fcol X c (10 * c + k) m).a 522 x = X.a 522 x ∧ (fcol X c (10 * c + k) m).a 525 x = X.a 525 x := fun x hx => by
      unfold fcol
      rw [a_b hx, a_f (by decide), a_f (by decide), fpay_a (by decide) (by decide), a_f (by decide), a_b hx, a_f (by decide), fpay_a (by decide) (by decide)]
      exact ⟨rfl, rfl⟩
    refine ⟨?_, fun x hx => ?_, fun k' hk' => ?_, f1⟩
    · unfold fcol
      exact (((l1.xpay (by rw [hwk]; exact hpk)).xci (by decide) hc).xpl (by decide)).xpl (by decide)
    · have := fo x (hx k (by omega))
      rw [this.1, this.2]
      exact l2 x (fun k' hk' => hx k' (by omega))
    · by_cases e : k' = k
      · subst e
        rw [e22, e25] at *
        exact ⟨f2, f3⟩
      · have := fo (10 * c + k') (by omega)
        rw [this.1, this.2]
        exact l3 k' (by omega)
/-- bids are no debts -/
def BD (S : MS) : Prop := ∀ x, 0 ≤ (S.a 524 x).toInt
theorem fpot_i {S : MS} {c a : Nat} (mo : MO 0 a S) (hc : c < 4) (s1 : 1 ≤ (S.a 514 c).toInt) (s2 : (S.a 514 c).toInt ≤ 1000) (hm : S.a 517 c = nI (mn S c)) (hm10 : mn S c ≤ 10) : 0 ≤ (fpot S c).toInt ∧ (fpot S c).toInt ≤ (S.a 516 c).toInt := by
  have b0 := mo.2.1 c hc
  have hmi : (S.a 517 c).toInt = mn S c := by rw [hm, nI_toInt (by omega)]
  have hp0 : 0 ≤ (S.a 514 c).toInt * (S.a 517 c).toInt := Int.mul_nonneg (by omega) (by omega)
  have hp1 : (S.a 514 c).toInt * (S.a 517 c).toInt ≤ 1000 * 10 := Int.mul_le_mul s2 (by omega) (by omega) (by decide)
  have hs : (S.a 514 c * S.a 517 c).toInt = (S.a 514 c).toInt * (S.a 517 c).toInt := z_mul (by omega) (by omega)
  unfold fpot
  by_cases e : S.a 514 c * S.a 517 c < S.a 516 c
  · rw [if_pos e]
    have := Int32.lt_iff_toInt_lt.mp e
    omega
  · rw [if_neg e]; exact ⟨b0, Int.le_refl _⟩
theorem fdis_i {S : MS} {c t : Nat} (bd : BD S) (hp : 0 ≤ (fpot S c).toInt) : 0 ≤ (fdis S c t).toInt ∧ (fdis S c t).toInt ≤ (fpot S c).toInt := by
  have hh := half_i hp
  unfold fdis
  by_cases e : S.a 515 c = 3
  · rw [if_pos e]
    by_cases e2 : fpot S c / 2 < S.a 524 (10 * c + t)
    · rw [if_pos e2, hh]; omega
    · rw [if_neg e2]
      have := Int32.le_iff_toInt_le.mp (i_nle e2)
      have := bd (10 * c + t)
      omega
  · rw [if_neg e]; rw [Int32.toInt_zero]; omega
def gsum (t : Nat) (g e : Int) : Nat → Int
  | 0 => 0
  | k + 1 => gsum t g e k + if k = t then g else e
theorem gsum_v {t : Nat} {g e : Int} : ∀ k, gsum t g e k = if t < k then g + ((k : Int) - 1) * e else (k : Int) * e := by
  intro k
  induction k with
  | zero => rw [if_neg (Nat.not_lt_zero _)]; simp [gsum]
  | succ k ih =>
    rw [gsum, ih]
    rcases Nat.lt_trichotomy t k with z | z | z
    · rw [if_pos z, if_neg (show ¬ k = t by omega), if_pos (show t < k + 1 by omega)]
      rw [show ((k + 1 : Nat) : Int) - 1 = ((k : Int) - 1) + 1 by omega, Int.add_mul]; omega
    · rw [if_neg (show ¬ t < k by omega), if_pos z.symm, if_pos (show t < k + 1 by omega)]
      rw [show ((k + 1 : Nat) : Int) - 1 = (k : Int) by omega]; omega
    · rw [if_neg (show ¬ t < k by omega), if_neg (show ¬ k = t by omega), if_neg (show ¬ t < k + 1 by omega)]
      rw [show ((k + 1 : Nat) : Int) = (k : Int) + 1 by omega, Int.add_mul]; omega
theorem gsum_mono {t : Nat} {g e : Int} (hg : 0 ≤ g) (he : 0 ≤ e) : ∀ d k, gsum t g e k ≤ gsum t g e (k + d) := by
  intro d
  induction d with
  | zero => intro k; exact Int.le_refl _
  | succ d ih =>
    intro k
    have := ih k
    rw [show k + (d + 1) = (k + d) + 1 by omega, gsum]
    by_cases z : k + d = t
    · rw [if_pos z]; omega
    · rw [if_neg z]; omega
theorem fpo_k {D : MS} {c t a n : Nat} {g e : Int32} (hI : SH D) (hc : c < nC D) (hn : mn D c = n) (ha : a ≤ 512) (mo : MO 0 a D) (hg : 0 ≤ g.toInt) (he : 0 ≤ e.toInt) (htot : gsum t g.toInt e.toInt n ≤ (D.a 516 c).toInt) : ∀ k, k ≤ n → LG D (fpo D c t g e k) ∧ ((fpo D c t g e k).a 516 c).toInt = (D.a 516 c).toInt - gsum t g.toInt e.toInt k ∧ MO 0 a (fpo D c t g e k) := by
  obtain ⟨j1, j2, j3⟩ := hI.2.2.2.2 c hc
  have h16 := hI.2.1
  have h4 := hI.2.2.2.1
  intro k
  induction k with
  | zero => intro _; exact ⟨LG.rf, by rw [gsum, Int.sub_zero]; rfl, mo⟩
  | succ k ih =>
    intro hk
    obtain ⟨l1, l2, l3⟩ := ih (by omega)
    have hpk := (j3 k (by omega)).2
    obtain ⟨X, hX⟩ : ∃ X, X = fpo D c t g e k := ⟨_, rfl⟩
    have hX1 : fpo D c t g e (k + 1) = fgive X c (wh D (10 * c + k)) (if k = t then g else e) := by rw [hX]; rfl
    rw [← hX] at l1 l2 l3
    rw [hX1]
    obtain ⟨v, hv⟩ : ∃ v, v = if k = t then g else e := ⟨_, rfl⟩
    have hvi : v.toInt = if k = t then g.toInt else e.toInt := by rw [hv]; by_cases z : k = t <;> simp [z]
    have hv0 : 0 ≤ v.toInt := by rw [hvi]; by_cases z : k = t <;> simp [z] <;> omega
    have hmn := gsum_mono (t := t) hg he (n - (k + 1)) (k + 1)
    rw [show k + 1 + (n - (k + 1)) = n by omega] at hmn
    have hgs : gsum t g.toInt e.toInt (k + 1) = gsum t g.toInt e.toInt k + v.toInt := by rw [gsum, hvi]
    rw [← hv]
    have hle : v.toInt ≤ (X.a 516 c).toInt := by rw [l2]; omega
    have e6 : (fgive X c (wh D (10 * c + k)) v).a 516 c = X.a 516 c - v := by unfold fgive; rw [fpay_a (by decide) (by decide), a_e]
    have hb := z_hi (X.a 516 c)
    refine ⟨?_, ?_, l3.give (by omega) (by omega) hv0 hle (by omega)⟩
    · unfold fgive
      exact (l1.xci (by decide) hc).xpay hpk
    · rw [e6, z_sub (by omega) (by omega), l2, hgs]; omega
