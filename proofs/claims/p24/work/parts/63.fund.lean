-- ===== the ledger: what the fund's acts do
theorem pay_pu {S : MS} {i q : Nat} {v : Int32} (h0 : 0 ≤ v.toInt) (h1 : v.toInt ≤ (S.a 504 i).toInt) : ((fpay S i v).a 504 q).toInt = (S.a 504 q).toInt - if q = i then v.toInt else 0 := by
  have hz := z_hi (S.a 504 i)
  unfold fpay
  rw [a_f (by decide)]
  by_cases e : q = i
  · rw [e, a_e, if_pos rfl, z_sub (by omega) (by omega)]
  · rw [a_b e, if_neg e]; omega
theorem get_pu {S : MS} {i q : Nat} {v : Int32} (h0 : 0 ≤ v.toInt) (h1 : 0 ≤ (S.a 504 i).toInt) (h2 : (S.a 504 i).toInt + v.toInt < 2147483648) : ((fpay S i (-v)).a 504 q).toInt = (S.a 504 q).toInt + if q = i then v.toInt else 0 := by
  unfold fpay
  rw [a_f (by decide)]
  by_cases e : q = i
  · rw [e, a_e, if_pos rfl, i_subneg, z_add (by omega) (by omega)]
  · rw [a_b e, if_neg e]; omega
theorem pf_all {S : MS} {T : Nat → Int} {i : Nat} {v : Int32} (hT : TG S T) (h0 : 0 ≤ v.toInt) (h1 : v.toInt ≤ (S.a 504 i).toInt) (c0 : 0 ≤ (S.s 528).toInt) (c1 : (S.s 528).toInt + v.toInt < 2147483648) : TG ((fpay S i v).setS 528 (S.s 528 + v)) (tu T i v.toInt) ∧ (∀ q, tu T i v.toInt q + (((fpay S i v).setS 528 (S.s 528 + v)).a 504 q).toInt = T q + (S.a 504 q).toInt) ∧ (((fpay S i v).setS 528 (S.s 528 + v)).s 528).toInt = (S.s 528).toInt + v.toInt := by
  refine ⟨hT.pos, fun q => ?_, by rw [s_e, z_add (by omega) (by omega)]⟩
  have hp := pay_pu (q := q) h0 h1
  rw [setS_a, hp]
  by_cases e : q = i
  · rw [e, tu_e, if_pos rfl]; omega
  · rw [tu_n e, if_neg e]; omega
theorem tu_nn {T : Nat → Int} {i q : Nat} {d : Int} (h : 0 ≤ d) : T q ≤ tu T i d q ∧ tu T i d q ≤ T q + d := by
  by_cases e : q = i
  · rw [e, tu_e]; omega
  · rw [tu_n e]; omega
theorem DD_up {S S' : MS} {i : Nat} (hi : i < 16) (hf : ∀ x, x ≠ i → S'.a 506 x = S.a 506 x) : DDm S' = DDm S - (S.a 506 i).toInt + (S'.a 506 i).toInt := sumf_up hf 16 hi
theorem LR_buy {S : MS} {T : Nat → Int} {i : Nat} {v y : Int32} (hT : TG S T) (h0 : 0 ≤ v.toInt) (h1 : v.toInt ≤ (S.a 504 i).toInt) (c0 : 0 ≤ (S.s 528).toInt) (c1 : (S.s 528).toInt + v.toInt < 2147483648) (hl : S.a 512 i = 0) : LR S T (((fpay (S.setS 500 0) i v).setS 528 (S.s 528 + v)).setA 505 i y) (tu T i v.toInt) v.toInt := by
  obtain ⟨p1, p2, p3⟩ := pf_all (S := S.setS 500 0) (T := T) (i := i) (v := v) hT h0 h1 c0 c1
  have eD : DDm (((fpay (S.setS 500 0) i v).setS 528 (S.s 528 + v)).setA 505 i y) = DDm S := DD_same (((Sm.rf.ss.st (by decide)).st (by decide)).ss.st (by decide))
  have e8 : ((((fpay (S.setS 500 0) i v).setS 528 (S.s 528 + v)).setA 505 i y).s 528).toInt = (S.s 528).toInt + v.toInt := p3
  refine ⟨p1.sm (Sm.rf.st (by decide)), fun q _ _ => ?_, fun q _ => ?_, fun q _ => ?_, fun q _ hd => tu_n (fun e => hd (by rw [e]; exact hl))⟩
  · rw [a_f (by decide)]; exact p2 q
  · have := tu_nn (T := T) (i := i) (q := q) h0
    rw [eD, e8]; omega
  · have := tu_nn (T := T) (i := i) (q := q) h0
    rw [eD]; omega
theorem LR_repay {S : MS} {T : Nat → Int} {i : Nat} {s y : Int32} (hT : TG S T) (hi : i < 16) (h0 : 0 ≤ s.toInt) (h1 : s.toInt ≤ (S.a 504 i).toInt) (h2 : s.toInt ≤ (S.a 506 i).toInt) (c0 : 0 ≤ (S.s 528).toInt) (c1 : (S.s 528).toInt + s.toInt < 2147483648) (hl : S.a 512 i = 0) : LR S T ((frepay S i s).setA 510 i y) (tu T i s.toInt) 0 := by
  obtain ⟨p1, p2, p3⟩ := pf_all (S := S.setS 500 0) (T := T) (i := i) (v := s) hT h0 h1 c0 c1
  have hz := z_hi (S.a 506 i)
  have e6 : ((frepay S i s).setA 510 i y).a 506 i = S.a 506 i - s := by unfold frepay; rw [a_f (by decide), a_e]
  have eD := DD_up (S := S) (S' := (frepay S i s).setA 510 i y) hi (fun x hx => by unfold frepay; rw [a_f (by decide), a_b hx, setS_a, fpay_a (by decide) (by decide)]; rfl)
  rw [e6, z_sub (by omega) (by omega)] at eD
  have e8 : (((frepay S i s).setA 510 i y).s 528).toInt = (S.s 528).toInt + s.toInt := p3
  refine ⟨p1.sm ((Sm.rf.st (by decide)).st (by decide)), fun q _ _ => ?_, fun q _ => ?_, fun q _ => ?_, fun q _ hd => tu_n (fun e => hd (by rw [e]; exact hl))⟩
  · unfold frepay
    rw [a_f (by decide), a_f (by decide)]; exact p2 q
  · have := tu_nn (T := T) (i := i) (q := q) h0
    rw [eD, e8]; omega
  · have := tu_nn (T := T) (i := i) (q := q) h0
    rw [eD]; omega
theorem LR_borrow {S : MS} {T : Nat → Int} {p a b : Nat} {x : Int32} (hT : TG S T) (hp : p < 16) (h0 : 0 ≤ x.toInt) (h1 : x.toInt ≤ (S.s 528).toInt) (h2 : S.a 506 p = 0) (q0 : 0 ≤ (S.a 504 p).toInt) (q1 : (S.a 504 p).toInt + x.toInt < 2147483648) (hl : S.a 512 p = 0) : LR S T (fborrow S p x a b) (tu T p (-x.toInt)) x.toInt := by
  obtain ⟨X, hX⟩ : ∃ X, X = floan (S.setS 500 0) p x a b := ⟨_, rfl⟩
  have smX : ∀ R : List Nat, (∀ r, r ∈ R → r ≠ 506 ∧ r ≠ 507 ∧ r ≠ 508 ∧ r ≠ 509) → Sm R S X := fun R hR r hr y => by
    obtain ⟨z1, z2, z3, z4⟩ := hR r hr
    rw [hX]; unfold floan
    rw [a_f z1, a_f z4, a_f z3, a_f z2]; rfl
  have e4 : X.a 504 p = S.a 504 p := smX [504] (by decide) 504 (by decide) p
  have e8 : X.s 528 = S.s 528 := by rw [hX]; rfl
  have e6 : (fborrow S p x a b).a 506 p = x := by unfold fborrow; rw [setS_a, fpay_a (by decide) (by decide)]; exact a_e
  have eD := DD_up (S := S) (S' := fborrow S p x a b) hp (fun y hy => by unfold fborrow; rw [setS_a, fpay_a (by decide) (by decide)]; unfold floan; rw [a_b hy, a_f (by decide), a_f (by decide), a_f (by decide)]; rfl)
  rw [e6, h2, Int32.toInt_zero] at eD
  have hTX : TG X T := hT.sm (smX [511] (by decide))
  have hg := fun q => get_pu (S := X) (i := p) (q := q) (v := x) h0 (by rw [e4]; exact q0) (by rw [e4]; exact q1)
  have eb : fborrow S p x a b = (fpay X p (-x)).setS 528 (S.s 528 - x) := by rw [hX]; rfl
  have c8 : ((fborrow S p x a b).s 528).toInt = (S.s 528).toInt - x.toInt := by
    rw [eb, s_e, z_sub (by omega) (by have := z_hi (S.s 528); omega)]
  have key : ∀ q, tu T p (-x.toInt) q = T q - if q = p then x.toInt else 0 := fun q => by
    by_cases e : q = p
    · rw [e, tu_e, if_pos rfl]; omega
    · rw [tu_n e, if_neg e]; omega
  refine ⟨?_, fun q _ _ => ?_, fun q _ => ?_, fun q _ => ?_, fun q _ hd => tu_n (fun e => hd (by rw [e]; exact hl))⟩
  · rw [eb]; exact hTX.neg
  · rw [eb, setS_a, hg q, key q, smX [504] (by decide) 504 (by decide) q]; omega
  · rw [eD, c8, key q]
    by_cases e : q = p
    · rw [if_pos e]; omega
    · rw [if_neg e]; omega
  · rw [eD, key q]
    by_cases e : q = p
    · rw [if_pos e]; omega
    · rw [if_neg e]; omega
-- ===== a feast
theorem LR_feast {n : Nat} {S : MS} {T : Nat → Int} (h : IV n S) (hn : n ≤ 512) (hT : TG S T) (h0 : ¬ fsum S 505 (nP S) = 0) (hds : ∀ q, q < 16 → ¬ S.a 512 q = 0 → S.a 505 q = 0) : ∃ T', LR S T (ffe (S.setS 500 0) (S.s 528 / fsum S 505 (nP S)) (nP S)) T' 0 := by
  have h16 := h.1.2.1
  have hsb := h.2.2.2.2.2.2.2.2.2.2.1
  obtain ⟨t1, t2, t3⟩ := hsb.h1 (nP S) h16
  have t0 : 1 ≤ sumf (S.a 505) (nP S) := by
    rcases (by omega : (fsum S 505 (nP S)).toInt = 0 ∨ 1 ≤ (fsum S 505 (nP S)).toInt) with e | e
    · exact absurd (eq0_of e) h0
    · omega
  obtain ⟨-, -, -, -, -, -, -, -, -, -, -, -, a0, b0, hab, mo0, -⟩ := id h
  have hf0 := mo0.2.2.1
  have hfm := mo0.fm
  obtain ⟨e, he⟩ : ∃ e, e = S.s 528 / fsum S 505 (nP S) := ⟨_, rfl⟩
  have hne : fsum S 505 (nP S) ≠ -1 := fun z => by rw [z] at t1; exact absurd t1 (by decide)
  have het : e.toInt = (S.s 528).toInt / sumf (S.a 505) (nP S) := by
    rw [he, Int32.toInt_div_of_ne_right _ _ hne, t3, Int.tdiv_eq_ediv_of_nonneg hf0]
  have he0 : 0 ≤ e.toInt := by rw [het]; exact Int.ediv_nonneg hf0 (by omega)
  have hem : e.toInt * sumf (S.a 505) (nP S) ≤ (S.s 528).toInt := by rw [het]; exact Int.ediv_mul_le _ (by omega)
  have hpart : ∀ k, k ≤ nP S → sumf (S.a 505) k ≤ sumf (S.a 505) (nP S) := by
    intro k hk
    have : ∀ d, k + d ≤ 16 → sumf (S.a 505) k ≤ sumf (S.a 505) (k + d) := by
      intro d
      induction d with
      | zero => intro _; exact Int.le_refl _
      | succ d ih =>
        intro hd
        have i1 := ih (by omega)
        have i2 := (hsb (k + d) (by omega)).1
        rw [show k + (d + 1) = (k + d) + 1 by omega, sumf]; omega
    have := this (nP S - k) (by omega)
    rw [show k + (nP S - k) = nP S by omega] at this; exact this
  rw [← he]
  have key : ∀ k, k ≤ nP S → ∃ T', TG (ffe (S.setS 500 0) e k) T' ∧ Sm [506, 512] S (ffe (S.setS 500 0) e k) ∧ (∀ j, k ≤ j → (ffe (S.setS 500 0) e k).a 505 j = S.a 505 j ∧ (ffe (S.setS 500 0) e k).a 504 j = S.a 504 j) ∧ ((ffe (S.setS 500 0) e k).s 528).toInt = (S.s 528).toInt - e.toInt * sumf (S.a 505) k ∧ (∀ q, T' q + ((ffe (S.setS 500 0) e k).a 504 q).toInt = T q + (S.a 504 q).toInt) ∧ (∀ q, -T' q + ((ffe (S.setS 500 0) e k).s 528).toInt ≤ -T q + (S.s 528).toInt) ∧ (∀ q, T' q ≤ T q) ∧ ∀ q, q < 16 → ¬ S.a 512 q = 0 → T' q = T q := by
    intro k
    induction k with
    | zero => intro _; exact ⟨T, hT, Sm.rf.ss, fun _ _ => ⟨rfl, rfl⟩, by rw [sumf, Int.mul_zero, Int.sub_zero]; rfl, fun q => rfl, fun q => Int.le_refl _, fun q => Int.le_refl _, fun q _ _ => rfl⟩
    | succ k ih =>
      intro hk
      obtain ⟨T', l1, l2, l4, l5, l6, l7, l8, l9⟩ := ih (by omega)
      have hk16 : k < 16 := by omega
      have hp1 := hpart (k + 1) hk
      rw [sumf] at hp1
      have hm1 : e.toInt * (sumf (S.a 505) k + (S.a 505 k).toInt) ≤ e.toInt * sumf (S.a 505) (nP S) := Int.mul_le_mul_of_nonneg_left hp1 he0
      rw [Int.mul_add] at hm1
      have hs0 := hsb k hk16
      have hnn : 0 ≤ e.toInt * (S.a 505 k).toInt := Int.mul_nonneg he0 hs0.1
      have hsn : 0 ≤ e.toInt * sumf (S.a 505) k := Int.mul_nonneg he0 (sumf_nn k (fun x hx => (hsb x (by omega)).1))
      have hv : (e * S.a 505 k).toInt = e.toInt * (S.a 505 k).toInt := z_mul (by omega) (by omega)
      obtain ⟨U, hU⟩ : ∃ U, U = ffe (S.setS 500 0) e k := ⟨_, rfl⟩
      have hU1 : ffe (S.setS 500 0) e (k + 1) = ((fpay U k (-(e * U.a 505 k))).setS 528 (U.s 528 - e * U.a 505 k)).setA 505 k 0 := by rw [hU]; rfl
      rw [← hU] at l1 l2 l4 l5 l6 l7
      rw [hU1]
      obtain ⟨e5, e4⟩ := l4 k (Nat.le_refl _)
      have hpk := mo0.1 k hk16
      have hpm := mo0.pm hk16
      have hve : (e * U.a 505 k).toInt = e.toInt * (S.a 505 k).toInt := by rw [e5]; exact hv
      have hsub : (U.s 528 - e * U.a 505 k).toInt = (S.s 528).toInt - e.toInt * sumf (S.a 505) k - e.toInt * (S.a 505 k).toInt := by
        rw [z_sub (by rw [l5, hve]; omega) (by rw [l5, hve]; omega), l5, hve]
      have hg := fun q => get_pu (S := U) (i := k) (q := q) (v := e * U.a 505 k) (by rw [hve]; exact hnn) (by rw [e4]; exact hpk) (by rw [e4, hve]; omega)
      have kt : ∀ q, tu T' k (-(e * U.a 505 k).toInt) q = T' q - if q = k then e.toInt * (S.a 505 k).toInt else 0 := fun q => by
        by_cases z : q = k
        · rw [z, tu_e, if_pos rfl, hve]; omega
        · rw [tu_n z, if_neg z]; omega
      have e8' : (((fpay U k (-(e * U.a 505 k))).setS 528 (U.s 528 - e * U.a 505 k)).setA 505 k 0).s 528 = U.s 528 - e * U.a 505 k := by rw [setA_s, s_e]
      refine ⟨tu T' k (-(e * U.a 505 k).toInt), (l1.neg).sm ((Sm.rf.ss).st (by decide)), ((l2.st (by decide)).st (by decide)).ss.st (by decide), fun j hj => ?_, ?_, fun q => ?_, fun q => ?_, fun q => ?_, fun q hq hd => ?_⟩
      · have := l4 j (by omega)
        have hjk : j ≠ k := by omega
        rw [a_b hjk, setS_a, fpay_a (by decide) (by decide), a_f (by decide), setS_a]
        unfold fpay
        rw [a_f (by decide), a_b hjk]; exact this
      · rw [e8', hsub, sumf, Int.mul_add]; omega
      · rw [a_f (by decide), setS_a, hg q, kt q, hve]
        have := l6 q
        by_cases z : q = k
        · rw [if_pos z]; omega
        · rw [if_neg z]; omega
      · have := l7 q
        rw [e8', hsub, kt q]
        rw [l5] at this
        by_cases z : q = k
        · rw [if_pos z]; omega
        · rw [if_neg z]; omega
      · have := l8 q
        rw [kt q]
        by_cases z : q = k
        · rw [if_pos z]; omega
        · rw [if_neg z]; omega
      · rw [kt q]
        by_cases z : q = k
        · subst z
          rw [if_pos rfl, hds q hq hd, Int32.toInt_zero, Int.mul_zero, l9 q hq hd]; omega
        · rw [if_neg z, l9 q hq hd]; omega
  obtain ⟨T', k1, k2, k4, k5, k6, k7, k8, k9⟩ := key (nP S) (Nat.le_refl _)
  have eD : DDm (ffe (S.setS 500 0) e (nP S)) = DDm S := DD_same (k2.sub (by decide))
  refine ⟨T', k1, fun q _ _ => k6 q, fun q _ => ?_, fun q _ => ?_, fun q hq hd => k9 q (by omega) hd⟩
  · have := k7 q
    rw [eD]; omega
  · have := k8 q
    rw [eD]; omega
