-- ===== what every run keeps: months, feasts, new ones, starts
theorem fvch_k {S : MS} {v a : Nat} {x : Int32} (hv : v < nP S) (h16 : nP S ≤ 16) (hx : 0 ≤ x.toInt) (ha : a ≤ 512) : LG S (fvch S v x) ∧ (MO 0 a S → MO 0 a (fvch S v x)) := by
  unfold fvch
  by_cases e : S.a 512 v = 0
  · rw [if_pos e]
    refine ⟨(LG.rf.xpay hv).xsc (by decide), fun m => ?_⟩
    have hv16 : v < 16 := by omega
    have p0 := m.1 v hv16
    have hs : 0 ≤ (if S.a 504 v < x then S.a 504 v else x).toInt ∧ (if S.a 504 v < x then S.a 504 v else x).toInt ≤ (S.a 504 v).toInt := by
      by_cases q : S.a 504 v < x
      · rw [if_pos q]; exact ⟨p0, Int.le_refl _⟩
      · rw [if_neg q]; exact ⟨hx, Int32.le_iff_toInt_le.mp (i_nle q)⟩
    exact m.pf hv16 hs.1 hs.2 (by omega)
  · rw [if_neg e]
    exact ⟨LG.rf, fun m => m⟩
theorem fvch_sm {S : MS} {v : Nat} {x : Int32} {R : List Nat} (hR : ∀ r, r ∈ R → r ≠ 504 ∧ r ≠ 511) : Sm R S (fvch S v x) := fun r hr i => fvch_a (hR r hr).1 (hR r hr).2
theorem half_i {x : Int32} (h : 0 ≤ x.toInt) : (x / 2).toInt = x.toInt / 2 := by
  have k2 : (2 : Int32).toInt = 2 := by decide
  rw [Int32.toInt_div_of_ne_right _ _ (by decide), k2, Int.tdiv_eq_ediv_of_nonneg h]
theorem fmst_k {S : MS} {i n : Nat} (hI : nP S ≤ 16) (hdb : DB S) (hi : i < nP S) (hn : n ≤ 512) (hV : 0 < S.a 506 i → ∃ a b, a < nP S ∧ b < nP S ∧ S.a 508 i = nI a ∧ S.a 509 i = nI b) : LG S (fmst S i).1 ∧ Sm [502, 505, 512, 514, 522, 525, 526, 527] S (fmst S i).1 ∧ DB (fmst S i).1 ∧ ∀ a, a ≤ n → MO 0 a S → MO 0 a (fmst S i).1 := by
  have hi16 : i < 16 := by omega
  unfold fmst
  by_cases e : S.a 506 i ≤ 0
  · rw [if_pos e]; exact ⟨LG.rf, Sm.rf, hdb, fun a _ m => m⟩
  rw [if_neg e]
  have hd := i_le e
  have hd' := pos_iff.mp hd
  obtain ⟨c1, c2, c3⟩ := hdb i hi16
  obtain ⟨m, m1, m2, m3⟩ := c2 hd'
  obtain ⟨g1, g2⟩ := hdb.hG hi16 hd
  have hdead : S.a 512 i = 0 := Classical.byContradiction fun z => by rw [c3 z] at hd; exact absurd hd (by decide)
  by_cases e2 : S.a 507 i + 1 ≤ 6
  · rw [if_pos e2]
    have sm : Sm [502, 505, 512, 514, 522, 525, 526, 527] S (fage S i) := (Sm.rf.st (by decide)).st (by decide)
    refine ⟨(LG.rf.xpe (by decide) hi).xpe (by decide) hi, sm, fun j hj => ?_, fun a _ m => m.sm ((Sm.rf.st (by decide)).st (by decide)) rfl rfl⟩
    rw [cnt_ext 16 (fun x _ => sm 512 (by decide) x), sm 512 (by decide)]
    by_cases ej : j = i
    · subst ej
      have e6 : (fage S j).a 506 j = S.a 506 j + (S.a 506 j + 19) / 20 := by unfold fage; rw [a_f (by decide), a_e]
      have e7 : (fage S j).a 507 j = S.a 507 j + 1 := a_e
      rw [e6, e7, g2]
      refine ⟨by omega, fun _ => ⟨m + 1, ?_, by rw [m2, nI_1], ?_⟩, fun z => absurd hdead z⟩
      · rw [m2, nI_1] at e2
        have := (nI_leI (b := 6) (by omega) (by decide)).mp e2
        omega
      · have := uu_s (D := cnt S 16) (m := m)
        omega
    · have e6 : (fage S i).a 506 j = S.a 506 j := by unfold fage; rw [a_f (by decide), a_b ej]
      have e7 : (fage S i).a 507 j = S.a 507 j := by unfold fage; rw [a_b ej, a_f (by decide)]
      rw [e6, e7]; exact hdb j hj
  · rw [if_neg e2]
    show LG S (fdfl (fage S i) i) ∧ Sm [502, 505, 512, 514, 522, 525, 526, 527] S (fdfl (fage S i) i) ∧ DB (fdfl (fage S i) i) ∧ ∀ a, a ≤ n → MO 0 a S → MO 0 a (fdfl (fage S i) i)
    obtain ⟨p, q, hp, hq, v8, v9⟩ := hV hd
    obtain ⟨A, hA⟩ : ∃ A, A = fage S i := ⟨_, rfl⟩
    have a6 : A.a 506 i = S.a 506 i + (S.a 506 i + 19) / 20 := by rw [hA]; unfold fage; rw [a_f (by decide), a_e]
    have a8 : av A i = p := by unfold av; rw [hA, fage_a (by decide) (by decide), v8, nI_clamp (by omega)]
    have a9 : bv A i = q := by unfold bv; rw [hA, fage_a (by decide) (by decide), v9, nI_clamp (by omega)]
    have L0 : LG S ((A.setA 506 i 0).setA 510 i 0) := by rw [hA]; exact (((LG.rf.xpe (by decide) hi).xpe (by decide) hi).xpe (by decide) hi).xpe (by decide) hi
    have sm0 : Sm [502, 505, 512, 514, 522, 525, 526, 527] S ((A.setA 506 i 0).setA 510 i 0) := by rw [hA]; exact (((Sm.rf.st (by decide)).st (by decide)).st (by decide)).st (by decide)
    have sm1 : Sm [504, 516] S ((A.setA 506 i 0).setA 510 i 0) := by rw [hA]; exact (((Sm.rf.st (by decide)).st (by decide)).st (by decide)).st (by decide)
    have s8 : ((A.setA 506 i 0).setA 510 i 0).s 528 = S.s 528 := by rw [hA]; rfl
    have s9 : ((A.setA 506 i 0).setA 510 i 0).s 529 = S.s 529 := by rw [hA]; rfl
    obtain ⟨B, hB⟩ : ∃ B, B = (A.setA 506 i 0).setA 510 i 0 := ⟨_, rfl⟩
    have ht : (A.a 506 i).toInt = (S.a 506 i).toInt + ((S.a 506 i).toInt + 19) / 20 := by rw [a6, g2]
    have hh : (A.a 506 i / 2).toInt = (A.a 506 i).toInt / 2 := half_i (by omega)
    have hr : (A.a 506 i - A.a 506 i / 2).toInt = (A.a 506 i).toInt - (A.a 506 i).toInt / 2 := by
      have := z_hi (A.a 506 i)
      rw [z_sub (by omega) (by omega), hh]
    unfold fdfl
    rw [← hA, a8, a9, ← hB]
    rw [← hB] at L0 sm0 sm1 s8 s9
    have hpB : p < nP B := by rw [L0.1.p]; exact hp
    have f1 := fun a (ha : a ≤ 512) => fvch_k (v := p) (a := a) (x := A.a 506 i / 2) hpB (by rw [L0.1.p]; exact hI) (by rw [hh]; omega) ha
    obtain ⟨C, hC⟩ : ∃ C, C = fvch B p (A.a 506 i / 2) := ⟨_, rfl⟩
    rw [← hC] at f1 ⊢
    have LC := (f1 0 (by decide)).1
    have hqC : q < nP C := by rw [LC.1.p, L0.1.p]; exact hq
    have f2 := fun a (ha : a ≤ 512) => fvch_k (v := q) (a := a) (x := A.a 506 i - A.a 506 i / 2) hqC (by rw [LC.1.p, L0.1.p]; exact hI) (by rw [hr]; omega) ha
    have smC : ∀ R : List Nat, (∀ r, r ∈ R → r ≠ 504 ∧ r ≠ 511) → Sm R B (fvch C q (A.a 506 i - A.a 506 i / 2)) := fun R hR => by
      have : Sm R B C := by rw [hC]; exact fvch_sm hR
      exact this.tr (fvch_sm hR)
    refine ⟨L0.tr (LC.tr (f2 0 (by decide)).1), sm0.tr (smC _ (by decide)), fun j hj => ?_, fun a ha mo => ?_⟩
    · have sm2 : Sm [506, 507, 512] B (fvch C q (A.a 506 i - A.a 506 i / 2)) := smC _ (by decide)
      rw [cnt_ext 16 (fun x _ => sm2 512 (by decide) x), sm2 506 (by decide), sm2 507 (by decide), sm2 512 (by decide), cnt_ext 16 (fun x _ => sm0 512 (by decide) x), sm0 512 (by decide)]
      by_cases ej : j = i
      · subst ej
        have e6 : B.a 506 j = 0 := by rw [hB, a_f (by decide), a_e]
        rw [e6, Int32.toInt_zero]
        exact ⟨Int.le_refl _, fun z => absurd z (by decide), fun _ => rfl⟩
      · have e6 : B.a 506 j = S.a 506 j := by rw [hB, a_f (by decide), a_b ej, hA]; unfold fage; rw [a_f (by decide), a_b ej]
        have e7 : B.a 507 j = S.a 507 j := by rw [hB, a_f (by decide), a_f (by decide), hA]; unfold fage; rw [a_b ej, a_f (by decide)]
        rw [e6, e7]; exact hdb j hj
    · exact (f2 a (by omega)).2 ((f1 a (by omega)).2 (mo.sm sm1 s8 s9))
theorem IV.month {n : Nat} {S : MS} (h : IV n S) (hn : n ≤ 512) (hV : ∀ i, i < nP S → 0 < S.a 506 i → ∃ a b, a < nP S ∧ b < nP S ∧ S.a 508 i = nI a ∧ S.a 509 i = nI b) : IV (n + 1) (fmon (S.setS 500 0) (nP S)).1 := by
  have h16 := h.1.2.1
  have hdb := h.2.2.2.2.2.2.2.2.2.1
  have key : ∀ k, k ≤ nP S → LG S (fmon (S.setS 500 0) k).1 ∧ Sm [502, 505, 512, 514, 522, 525, 526, 527] S (fmon (S.setS 500 0) k).1 ∧ DB (fmon (S.setS 500 0) k).1 ∧ ∀ a, a ≤ n → MO 0 a S → MO 0 a (fmon (S.setS 500 0) k).1 := by
    intro k
    induction k with
    | zero => intro _; exact ⟨LG.sc (by decide), Sm.rf.ss, hdb.sm Sm.rf.ss, fun a _ m => m.sm Sm.rf rfl rfl⟩
    | succ k ih =>
      intro hk
      obtain ⟨l1, l2, l3, l4⟩ := ih (by omega)
      have e8 : ∀ r, r ≠ 504 → r ≠ 511 → r ≠ 510 → (fmon (S.setS 500 0) k).1.a r k = S.a r k := fun r a b c => (fmon_a (S := S.setS 500 0) a b c k (Nat.le_refl _)).trans rfl
      obtain ⟨j1, j2, j3, j4⟩ := fmst_k (i := k) (n := n) (by rw [l1.1.p]; exact h16) l3 (by rw [l1.1.p]; omega) hn (fun hd => by
        rw [e8 506 (by decide) (by decide) (by decide)] at hd
        rw [e8 508 (by decide) (by decide) (by decide), e8 509 (by decide) (by decide) (by decide), l1.1.p]
        exact hV k (by omega) hd)
      exact ⟨l1.tr j1, l2.tr j2, j3, fun a ha m => j4 a ha (l4 a ha m)⟩
  obtain ⟨k1, k2, k3, k4⟩ := key (nP S) (Nat.le_refl _)
  exact h.step k1 (k2.sub (by decide)) k3 (h.2.2.2.2.2.2.2.2.2.2.1.sm (k2.sub (by decide))) (fun a ha m => ⟨a, Nat.le_refl _, Nat.le_succ _, k4 a ha m⟩)
theorem IV.feast {n : Nat} {S : MS} (h : IV n S) (hn : n ≤ 512) (h0 : ¬ fsum S 505 (nP S) = 0) : IV (n + 1) (ffe (S.setS 500 0) (S.s 528 / fsum S 505 (nP S)) (nP S)) := by
  have h16 := h.1.2.1
  have hdb := h.2.2.2.2.2.2.2.2.2.1
  have hsb := h.2.2.2.2.2.2.2.2.2.2.1
  obtain ⟨t1, t2, t3⟩ := hsb.h1 (nP S) h16
  have t0 : 1 ≤ sumf (S.a 505) (nP S) := by
    rcases (by omega : (fsum S 505 (nP S)).toInt = 0 ∨ 1 ≤ (fsum S 505 (nP S)).toInt) with e | e
    · exact absurd (eq0_of e) h0
    · omega
  obtain ⟨-, -, -, -, -, -, -, -, -, -, -, -, a0, b0, hab, mo0, -⟩ := id h
  have hf0 := mo0.2.2.1
  obtain ⟨e, he⟩ : ∃ e, e = S.s 528 / fsum S 505 (nP S) := ⟨_, rfl⟩
  have hne : fsum S 505 (nP S) ≠ -1 := fun z => by rw [z] at t1; exact absurd t1 (by decide)
  have het : e.toInt = (S.s 528).toInt / sumf (S.a 505) (nP S) := by
    rw [he, Int32.toInt_div_of_ne_right _ _ hne, t3, Int.tdiv_eq_ediv_of_nonneg hf0]
  have he0 : 0 ≤ e.toInt := by rw [het]; exact Int.ediv_nonneg hf0 (by omega)
  have hem : e.toInt * sumf (S.a 505) (nP S) ≤ (S.s 528).toInt := by rw [het]; exact Int.ediv_mul_le _ (by omega)
  have hpart : ∀ k, k ≤ nP S → sumf (S.a 505) k ≤ sumf (S.a 505) (nP S) := by
    intro k hk
    have : ∀ d, k + d ≤ 16 → sumf (S.a 505) k ≤ sumf (S.a 505) (k + d) := by
      intro d
      induction d with
      | zero => intro _; exact Int.le_refl _
      | succ d ih =>
        intro hd
        have i1 := ih (by omega)
        have i2 := (hsb (k + d) (by omega)).1
        rw [show k + (d + 1) = (k + d) + 1 by omega, sumf]; omega
    have := this (nP S - k) (by omega)
    rw [show k + (nP S - k) = nP S by omega] at this; exact this
  rw [← he]
  have key : ∀ k, k ≤ nP S → LG S (ffe (S.setS 500 0) e k) ∧ Sm [502, 506, 507, 512, 514, 522, 525, 526, 527] S (ffe (S.setS 500 0) e k) ∧ SB (ffe (S.setS 500 0) e k) ∧ (∀ j, k ≤ j → (ffe (S.setS 500 0) e k).a 505 j = S.a 505 j) ∧ ((ffe (S.setS 500 0) e k).s 528).toInt = (S.s 528).toInt - e.toInt * sumf (S.a 505) k ∧ ∀ a, a ≤ n → MO 0 a S → MO 0 a (ffe (S.setS 500 0) e k) := by
    intro k
    induction k with
    | zero => intro _; exact ⟨LG.sc (by decide), Sm.rf.ss, hsb.sm Sm.rf.ss, fun _ _ => rfl, by rw [sumf, Int.mul_zero, Int.sub_zero]; rfl, fun a _ m => m.sm Sm.rf rfl rfl⟩
    | succ k ih =>
      intro hk
      obtain ⟨l1, l2, l3, l4, l5, l6⟩ := ih (by omega)
      have hk16 : k < 16 := by omega
      have hp1 := hpart (k + 1) hk
      rw [sumf] at hp1
      have hm1 : e.toInt * (sumf (S.a 505) k + (S.a 505 k).toInt) ≤ e.toInt * sumf (S.a 505) (nP S) := Int.mul_le_mul_of_nonneg_left hp1 he0
      rw [Int.mul_add] at hm1
      have hs0 := hsb k hk16
      have hnn : 0 ≤ e.toInt * (S.a 505 k).toInt := Int.mul_nonneg he0 hs0.1
      have hsn : 0 ≤ e.toInt * sumf (S.a 505) k := Int.mul_nonneg he0 (sumf_nn k (fun x hx => (hsb x (by omega)).1))
      have hhi := z_hi (S.s 528)
      have hv : (e * S.a 505 k).toInt = e.toInt * (S.a 505 k).toInt := z_mul (by omega) (by omega)
      obtain ⟨U, hU⟩ : ∃ U, U = ffe (S.setS 500 0) e k := ⟨_, rfl⟩
      have hU1 : ffe (S.setS 500 0) e (k + 1) = ((fpay U k (-(e * U.a 505 k))).setS 528 (U.s 528 - e * U.a 505 k)).setA 505 k 0 := by rw [hU]; rfl
      rw [← hU] at l1 l2 l3 l4 l5 l6
      rw [hU1]
      have e5 := l4 k (Nat.le_refl _)
      have hsub : (U.s 528 - e * U.a 505 k).toInt = (S.s 528).toInt - e.toInt * sumf (S.a 505) k - e.toInt * (S.a 505 k).toInt := by
        rw [e5, z_sub (by rw [l5, hv]; omega) (by rw [l5, hv]; omega), l5, hv]
      refine ⟨((l1.xpay (by omega)).xsc (by decide)).xpe (by decide) (by omega), ((((l2.st (by decide)).st (by decide)).ss).st (by decide)), fun j hj => ?_, fun j hj => ?_, ?_, fun a ha m => ?_⟩
      · by_cases ej : j = k
        · rw [ej, a_e]; decide
        · rw [a_b ej, setS_a, fpay_a (by decide) (by decide)]; exact l3 j hj
      · rw [a_b (by omega), setS_a, fpay_a (by decide) (by decide)]; exact l4 j (by omega)
      · rw [setA_s, s_e, hsub, sumf, Int.mul_add]; omega
      · have mU := l6 a ha m
        have hve : (e * U.a 505 k).toInt = e.toInt * (S.a 505 k).toInt := by rw [e5]; exact hv
        have hfa := m.fm
        have g1 := mU.get (v := e * U.a 505 k) hk16 (by rw [hve]; exact hnn) (by rw [hve]; omega)
        have e8 : (fpay U k (-(e * U.a 505 k))).s 528 = U.s 528 := rfl
        have g2 := g1.f (d := -(e * U.a 505 k).toInt) (y := U.s 528 - e * U.a 505 k) (by rw [e8, hsub, l5, hve]; omega) (by rw [hsub]; omega)
        rw [show (0 : Int) + (e * U.a 505 k).toInt + -(e * U.a 505 k).toInt = 0 by omega] at g2
        exact g2.sm (Sm.rf.st (by decide)) rfl rfl
  obtain ⟨k1, k2, k3, k4, k5, k6⟩ := key (nP S) (Nat.le_refl _)
  exact h.step k1 (k2.sub (by decide)) (hdb.sm (k2.sub (by decide))) k3 (fun a ha m => ⟨a, Nat.le_refl _, Nat.le_succ _, k6 a ha m⟩)
