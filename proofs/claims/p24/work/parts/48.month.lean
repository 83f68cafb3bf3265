-- ===== a month, on both sides
def fvch (S : MS) (v : Nat) (x : Int32) : MS := if S.a 512 v = 0 then (fpay S v (if S.a 504 v < x then S.a 504 v else x)).setS 528 (S.s 528 + if S.a 504 v < x then S.a 504 v else x) else S
theorem fvch_Nm {S : MS} {v : Nat} {x : Int32} : Nm S (fvch S v x) := by
  unfold fvch
  by_cases e : S.a 512 v = 0
  · rw [if_pos e]; exact (fpay_Nm Nm.rf).ss (by decide)
  · rw [if_neg e]; exact Nm.rf
theorem fvch_a {S : MS} {v r i : Nat} {x : Int32} (h1 : r ≠ 504) (h2 : r ≠ 511) : (fvch S v x).a r i = S.a r i := by
  unfold fvch
  by_cases e : S.a 512 v = 0
  · rw [if_pos e, setS_a, fpay_a h1 h2]
  · rw [if_neg e]
theorem fvch_set {S : MS} {v r j : Nat} {x y : Int32} (h1 : 504 ≠ r) (h2 : 511 ≠ r) (h3 : 512 ≠ r) : (fvch S v x).setA r j y = fvch (S.setA r j y) v x := by
  unfold fvch
  rw [a_f h3, a_f h1]
  by_cases e : S.a 512 v = 0
  · rw [if_pos e, if_pos e]
    show ((fpay S v _).setA r j y).setS 528 _ = (fpay (S.setA r j y) v _).setS 528 _
    unfold fpay
    rw [setA_comm h2, setA_comm h1, a_f h1, a_f h2]; rfl
  · rw [if_neg e, if_neg e]
theorem fvch_s {S : MS} {v f : Nat} {x : Int32} (h : f ≠ 528) : (fvch S v x).s f = S.s f := by
  unfold fvch
  by_cases e : S.a 512 v = 0
  · rw [if_pos e, s_f h]; rfl
  · rw [if_neg e]
theorem k_payForOther {w : Wd} {G : GH} {S S0 : MS} {v : Nat} {x : Int32} {Q : Wd → Prop} (h : RC w G S S0) (hv : v < nP S) (hQ : ∀ w1, RC w1 G (fvch S v x) S0 → Q w1) : wp_X3_payForOther G.x (some (G.P v)) x w Q := by
  have g12 : w.I 212 (G.P v) = S.a 512 v := h.get (k := 2) (f := 212) (r := 512) (by decide) hv
  have g4 : w.I 204 (G.P v) = S.a 504 v := h.get (k := 2) (f := 204) (r := 504) (by decide) hv
  refine ⟨fun w2 => RC w2 G (fvch S v x) S0, fun w2 q => hQ w2 q, fun z => (by cases z), fun _ => ⟨_, rfl, h.kP hv, fun v4 h4 => ⟨fun z => ?_, fun z => ⟨h.kP hv, fun v5 h5 v6 h6 => ⟨h.kx, k_payFund h hv (fun w7 q => ?_)⟩⟩⟩⟩⟩
  · unfold fvch; rw [if_neg (fun e => z (by rw [h4, g12, e]))]; exact h
  · unfold fvch; rw [if_pos (by rw [← g12, ← h4]; exact z), ← g4, ← h5, ← h6]; exact q
theorem m_vouches {S : MS} {v : Nat} {y x : Int32} {Q : MS → Prop} (hy : y = nI v) (hv : v < 16) (hQ : Q (fvch S v x)) : sp_X4_vouches y x S Q := by
  subst hy
  refine ⟨v, rfl, hv, fun v2 h2 => ⟨fun y => y = if S.a 512 v = 0 then (if S.a 504 v < x then S.a 504 v else x) else 0, fun y4 hy => m_pays hv (fun v6 h6 v7 h7 S8 h8 => ?_), fun z => ⟨v, rfl, hv, fun v10 h10 => ⟨fun z2 => ⟨v, rfl, hv, fun v12 h12 => ?_⟩, fun z2 => ?_⟩⟩, fun z => ?_⟩⟩
  · have e : S8 = fvch S v x := by
      have h6 : v6 = S.s 528 := h6
      rw [h8, h7, h6]
      unfold fvch
      by_cases e : S.a 512 v = 0
      · rw [if_pos e] at hy ⊢; rw [hy]
      · rw [if_neg e] at hy ⊢
        rw [hy, Int32.add_zero]
        unfold fpay
        rw [Int32.sub_zero, Int32.add_zero, setA_self, setA_self]
        refine Prod.ext ?_ rfl
        funext f
        show va_up S.1 528 (S.1 528) f = S.1 f
        by_cases ef : f = 528
        · rw [ef, vu_eq]
        · rw [vu_ne ef]
    rw [e]; exact hQ
  · rw [if_pos (h2.symm.trans z), min_le, if_pos (by rw [← h10]; exact z2), h12]
  · rw [if_pos (h2.symm.trans z), min_le, if_neg (by rw [← h10]; exact z2)]
  · rw [if_neg (fun e => z (h2.trans e))]
/-- a loan's months are put on both sides -/
theorem RC.months {w : Wd} {G : GH} {S S0 : MS} {i : Nat} {v : Int32} (h : RC w G S S0) (hi : i < nP S) : RC (w.setI 207 (G.P i) v) G (S.setA 507 i v) S0 := by
  obtain ⟨q1, q2, q3, q4, q5, q6, q7⟩ := h
  refine ⟨q1.setI (by decide), q2, (q3.setI (by decide) (by decide)).row ⟨by decide, by decide⟩, q4.row (by decide), ⟨fun f r k j he hj => ?_, (I_f (by decide)).trans q5.2.1, (I_f (by decide)).trans q5.2.2.1, fun i' b hi' hb => ?_⟩, fun j hj hdj => ?_, q7.row (by decide) (by decide) (by decide) (by decide)⟩
  · rw [a_f (et_o _ he).2.2.2.2.2.2.2.1]
    exact (I_f (fun z => (et_o _ he).2.2.1 z)).trans (q5.1 f r k j he ((inr_setA (by decide)).mp hj))
  · rw [a_f (by decide)]; exact q5.2.2.2 i' b hi' hb
  · rw [a_f (by decide)] at hdj
    rw [a_f (r := 507) (g := 508) (by decide), a_f (r := 507) (g := 509) (by decide)]
    obtain ⟨g1, g2⟩ := q6 j hj hdj
    refine ⟨?_, g2⟩
    by_cases e : j = i
    · subst e; rw [a_e]; exact I_e
    · rw [a_b e]
      exact (I_b (fun z => e (q4.1 2 j i (by decide) (by decide) hj hi z))).trans g1
def fage (S : MS) (i : Nat) : MS := (S.setA 506 i (S.a 506 i + (S.a 506 i + 19) / 20)).setA 507 i (S.a 507 i + 1)
theorem fage_Nm {S : MS} {i : Nat} : Nm S (fage S i) := (Nm.rf.st (by decide)).st (by decide)
theorem fage_a {S : MS} {i r x : Nat} (h1 : r ≠ 506) (h2 : r ≠ 507) : (fage S i).a r x = S.a r x := by
  unfold fage; rw [a_f h2, a_f h1]
theorem k_ageLoan {w : Wd} {G : GH} {S S0 : MS} {i : Nat} {Q : Wd → Prop} (h : RC w G S S0) (hi : i < nP S) (hd : 0 < S.a 506 i) (hQ : ∀ w1, RC w1 G (fage S i) S0 → w1.I 207 (G.P i) = S.a 507 i + 1 → Q w1) : wp_X1_ageLoan (G.P i) w Q := by
  have g6 : w.I 206 (G.P i) = S.a 506 i := h.get (k := 2) (f := 206) (r := 506) (by decide) hi
  have g7 : w.I 207 (G.P i) = S.a 507 i := (h.2.2.2.2.2.1 i hi hd).1
  refine ⟨h.kP hi, fun v1 h1 => ⟨h.kP hi, fun v2 h2 v3 h3 => ⟨by decide, fun v4 h4 v5 h5 => ⟨h.kP hi, fun w6 h6 => ?_⟩⟩⟩⟩
  have e5 : v5 = S.a 506 i + (S.a 506 i + 19) / 20 := by rw [h5, h4, h3, h2, h1, g6]
  have q6 : RC w6 G (S.setA 506 i (S.a 506 i + (S.a 506 i + 19) / 20)) S0 := by
    rw [h6, e5]; exact h.debt hi (fun _ => Or.inl hd)
  have g76 : w6.I 207 (G.P i) = S.a 507 i := by rw [h6]; exact (I_f (by decide)).trans g7
  refine ⟨q6.kP hi, fun v7 h7 v8 h8 => ⟨q6.kP hi, fun w9 h9 => hQ w9 ?_ ?_⟩⟩
  · rw [h9, h8, h7, g76]; exact q6.months hi
  · rw [h9, I_e, h8, h7, g76]
def av (S : MS) (i : Nat) : Nat := (S.a 508 i).toNatClampNeg
def bv (S : MS) (i : Nat) : Nat := (S.a 509 i).toNatClampNeg
def fdfl (S : MS) (i : Nat) : MS := fvch (fvch ((S.setA 506 i 0).setA 510 i 0) (av S i) (S.a 506 i / 2)) (bv S i) (S.a 506 i - S.a 506 i / 2)
theorem fdfl_cls {S : MS} {i : Nat} : ((fvch (fvch S (av S i) (S.a 506 i / 2)) (bv S i) (S.a 506 i - S.a 506 i / 2)).setA 506 i 0).setA 510 i 0 = fdfl S i := by
  unfold fdfl
  rw [fvch_set (by decide) (by decide) (by decide), fvch_set (by decide) (by decide) (by decide), fvch_set (by decide) (by decide) (by decide), fvch_set (by decide) (by decide) (by decide)]
theorem k_defaultLoan {w : Wd} {G : GH} {S S0 : MS} {i : Nat} {Q : Wd → Prop} (h : RC w G S S0) (h16 : nP S ≤ 16) (hi : i < nP S) (hd : 0 < S.a 506 i) (hQ : ∀ w1, RC w1 G (fdfl S i) S0 → Q w1) : wp_X3_defaultLoan G.x (some (G.P i)) w Q := by
  have g6 : w.I 206 (G.P i) = S.a 506 i := h.get (k := 2) (f := 206) (r := 506) (by decide) hi
  obtain ⟨-, a, b, ha, hb, n4, n5, n6, n7⟩ := h.2.2.2.2.2.1 i hi hd
  have ea : av S i = a := by unfold av; rw [n4, nI_clamp (by omega)]
  have eb : bv S i = b := by unfold bv; rw [n5, nI_clamp (by omega)]
  refine ⟨_, rfl, h.kP hi, fun v2 h2 => ⟨by decide, fun v3 h3 => ⟨h.kP hi, fun v4 h4 v5 h5 => ⟨h.kP hi, fun z6 hz => ⟨h.kx, ?_⟩⟩⟩⟩⟩
  rw [n6] at hz
  have e3 : v3 = S.a 506 i / 2 := by rw [h3, h2, g6]
  have e5 : v5 = S.a 506 i - S.a 506 i / 2 := by rw [h5, h4, e3, g6]
  rw [hz, e3]
  refine k_payForOther h ha (fun w7 q7 => ?_)
  obtain ⟨T, hT⟩ : ∃ T, T = fvch S a (S.a 506 i / 2) := ⟨_, rfl⟩
  rw [← hT] at q7
  have N : Nm S T := by rw [hT]; exact fvch_Nm
  have hiT : i < nP T := by rw [N.p]; exact hi
  have hdT : 0 < T.a 506 i := by rw [hT, fvch_a (by decide) (by decide)]; exact hd
  obtain ⟨-, a', b', ha', hb', p4, p5, p6, p7⟩ := q7.2.2.2.2.2.1 i hiT hdT
  have ebb : b' = b := by
    rw [hT, fvch_a (by decide) (by decide), n5] at p5
    rw [N.p] at hb'
    exact ((nI_eq (by omega) (by omega)).mp p5).symm
  subst ebb
  refine ⟨q7.kP hiT, fun z8 hz8 => ⟨q7.kx, ?_⟩⟩
  rw [p7] at hz8
  rw [hz8, e5]
  refine k_payForOther q7 hb' (fun w9 q9 => ?_)
  obtain ⟨U, hU⟩ : ∃ U, U = fvch T b' (S.a 506 i - S.a 506 i / 2) := ⟨_, rfl⟩
  rw [← hU] at q9
  have NU : Nm T U := by rw [hU]; exact fvch_Nm
  have hiU : i < nP U := by rw [NU.p]; exact hiT
  refine ⟨q9.kP hiU, fun w10 h10 => ?_⟩
  have q10 : RC w10 G (U.setA 506 i 0) S0 := by rw [h10]; exact q9.debt hiU (fun z => absurd z (by decide))
  refine ⟨q10.kP hiU, fun w11 h11 => hQ w11 ?_⟩
  rw [← fdfl_cls, ea, eb, ← hT, ← hU, h11]
  exact RC.set (k := 2) q10 (by decide) (by decide) (by decide) (by decide) hiU
def fmst (S : MS) (i : Nat) : MS × Int32 := if S.a 506 i ≤ 0 then (S, 0) else if S.a 507 i + 1 ≤ 6 then (fage S i, 0) else (fdfl (fage S i) i, 1)
theorem fdfl_Nm {S : MS} {i : Nat} : Nm S (fdfl S i) := (((Nm.rf.st (by decide)).st (by decide)).tr fvch_Nm).tr fvch_Nm
theorem fmst_Nm {S : MS} {i : Nat} : Nm S (fmst S i).1 := by
  unfold fmst
  by_cases e : S.a 506 i ≤ 0
  · rw [if_pos e]; exact Nm.rf
  · rw [if_neg e]
    by_cases e2 : S.a 507 i + 1 ≤ 6
    · rw [if_pos e2]; exact fage_Nm
    · rw [if_neg e2]; exact fage_Nm.tr fdfl_Nm
theorem fdfl_a {S : MS} {i r x : Nat} (h1 : r ≠ 504) (h2 : r ≠ 511) (h3 : r ≠ 510) (h4 : r = 506 → x ≠ i) : (fdfl S i).a r x = S.a r x := by
  unfold fdfl
  rw [fvch_a h1 h2, fvch_a h1 h2, a_f h3]
  by_cases e : r = 506
  · exact a_b (h4 e)
  · exact a_f e
theorem fmst_a {S : MS} {i r x : Nat} (h1 : r ≠ 504) (h2 : r ≠ 511) (h3 : r ≠ 510) (h4 : r = 506 → x ≠ i) (h5 : r = 507 → x ≠ i) : (fmst S i).1.a r x = S.a r x := by
  have ea : (fage S i).a r x = S.a r x := by
    unfold fage
    by_cases e : r = 507
    · rw [a_b (h5 e)]
      exact a_f (by omega)
    · rw [a_f e]
      by_cases e2 : r = 506
      · exact a_b (h4 e2)
      · exact a_f e2
  unfold fmst
  by_cases e : S.a 506 i ≤ 0
  · rw [if_pos e]
  · rw [if_neg e]
    by_cases e2 : S.a 507 i + 1 ≤ 6
    · rw [if_pos e2]; exact ea
    · rw [if_neg e2]
      show (fdfl (fage S i) i).a r x = S.a r x
      rw [fdfl_a h1 h2 h3 h4]; exact ea
def fmon (S : MS) : Nat → MS × Int32
  | 0 => (S, 0)
  | k + 1 => ((fmst (fmon S k).1 k).1, (fmon S k).2 + (fmst (fmon S k).1 k).2)
theorem fmon_Nm {S : MS} : ∀ k, Nm S (fmon S k).1 := by
  intro k
  induction k with
  | zero => exact Nm.rf
  | succ k ih => exact ih.tr fmst_Nm
theorem fmon_a {S : MS} {r x : Nat} (h1 : r ≠ 504) (h2 : r ≠ 511) (h3 : r ≠ 510) : ∀ k, k ≤ x → (fmon S k).1.a r x = S.a r x := by
  intro k
  induction k with
  | zero => intro _; rfl
  | succ k ih =>
    intro hk
    rw [fmon]
    show (fmst (fmon S k).1 k).1.a r x = S.a r x
    rw [fmst_a h1 h2 h3 (fun _ => by omega) (fun _ => by omega), ih (by omega)]
theorem k_pat {w : Wd} {G : GH} {S S0 : MS} {k : Nat} {y : Int32} {Q : Option Nat → Wd → Prop} (h : RC w G S S0) (hk : k < nP S) (hy : y = nI k) (hQ : Q (some (G.P k)) w) : w.K G.x = 4 ∧ ∀ z : Option Nat, z = w.R 400 G.x → ∃ a, z = some a ∧ w.K a = 6 ∧ wp_Jx4a65c_get_915e3 a y w (fun z1 w1 => (∀ y, z1 = some y → w1.K y = 2) ∧ Q z1 w1) := by
  refine ⟨h.kx, fun z hz => ⟨_, hz.trans h.2.2.1.2.1, h.lP.1, s_get h.als h.lP hy (by rw [map_len]; exact hk) ?_⟩⟩
  rw [map_get hk]
  exact ⟨fun y hy => by cases hy; exact h.kP hk, hQ⟩
def OD (w : Wd) (G : GH) (S : MS) (lw : (Int32 → Wd → Prop) → Prop) (md : (Int32 → MS → Prop) → Prop) (I : Int32 → MS → Prop) : Prop :=
  ∃ r S', I r S' ∧ (∀ Q : Int32 → Wd → Prop, (∀ w1 (G' : GH), G'.x = G.x → G'.o = G.o → G'.mo = G.mo → RC w1 G' S' S → Q r w1) → lw Q) ∧ md (fun r' S1 => r' = r ∧ S1 = S')
/-- what month answers and does -/
def I_month (S : MS) (x1 : Int32) (r : Int32) (S' : MS) : Prop :=
  (¬ x1 = 0 ∧ r = 0 ∧ S' = S.setS 500 0) ∨ (x1 = 0 ∧ r = (fmon (S.setS 500 0) (nP S)).2 ∧ S' = (fmon (S.setS 500 0) (nP S)).1)
theorem o_month {w : Wd} {G : GH} {S : MS} {x1 : Int32} (h : RC w G S S) (hI : SH S) (hG : ∀ i, i < nP S → 0 < S.a 506 i → 0 < S.a 506 i + (S.a 506 i + 19) / 20) (hV : ∀ i, i < nP S → 0 < S.a 506 i → ∃ a b, a < nP S ∧ b < nP S ∧ S.a 508 i = nI a ∧ S.a 509 i = nI b) : OD w G S (fun Q => wp_X3_month G.x x1 w Q) (fun Q => sp_X4_month x1 S Q) (I_month S x1) := by
  have h16 := hI.2.1
  by_cases hx : x1 = 0
  · subst hx
    obtain ⟨T, hT⟩ : ∃ T, T = S.setS 500 0 := ⟨_, rfl⟩
    have N0 : Nm S T := by rw [hT]; exact Nm.rf.ss (by decide)
    have hTa : ∀ r i, T.a r i = S.a r i := fun r i => by rw [hT]; rfl
    refine ⟨(fmon T (nP S)).2, (fmon T (nP S)).1, Or.inr ⟨rfl, by rw [← hT], by rw [← hT]⟩, fun Q hQ => ⟨fun _ => ?_, fun z => absurd rfl z⟩, fun S1 h1 => ?_⟩
    · refine ⟨fun n y3 y4 w5 => ∃ k, k ≤ nP S ∧ n = nP S - k ∧ y4 = nI k ∧ y3 = (fmon T k).2 ∧ RC w5 G (fmon T k).1 S, ⟨_, 0, Nat.zero_le _, rfl, rfl, rfl, by rw [hT]; exact h.thrown⟩, fun n y3 y4 w5 hIv => ?_⟩
      obtain ⟨k, hk, rfl, rfl, rfl, q⟩ := hIv
      obtain ⟨U, hU⟩ : ∃ U, U = (fmon T k).1 := ⟨_, rfl⟩
      have N : Nm S U := by rw [hU]; exact N0.tr (fmon_Nm k)
      have hU1 : (fmon T (k + 1)).1 = (fmst U k).1 := by rw [hU]; rfl
      have hU2 : (fmon T (k + 1)).2 = (fmon T k).2 + (fmst U k).2 := by rw [hU]; rfl
      have eU : ∀ r, r ≠ 504 → r ≠ 511 → r ≠ 510 → U.a r k = S.a r k := fun r a b c => by rw [hU, fmon_a a b c k (Nat.le_refl _), hTa]
      rw [← hU] at q
      have eP : nP U = nP S := N.p
      refine k_psz q ?_
      rw [eP]
      refine ⟨fun hcc => ?_, fun hcc => ?_⟩
      · have := (nI_leI (by omega) (by omega)).mp hcc
        have e : k = nP S := by omega
        rw [e]
        refine hQ w5 G rfl rfl rfl ?_
        rw [← e, ← hU]; exact q
      · have hk2 : k < nP S := Nat.lt_of_not_le (fun z => hcc (nI_le z (by omega)))
        have hkU : k < nP U := by rw [eP]; exact hk2
        have nx : ∀ y19 w20, y19 = (fmon T (k + 1)).2 → RC w20 G (fmon T (k + 1)).1 S → ∀ v21 : Int32, v21 = nI k + 1 → ∃ n, n < nP S - k ∧ ∃ k, k ≤ nP S ∧ n = nP S - k ∧ v21 = nI k ∧ y19 = (fmon T k).2 ∧ RC w20 G (fmon T k).1 S := fun y19 w20 a b v21 h21 => ⟨nP S - (k + 1), by omega, k + 1, by omega, rfl, by rw [h21, nI_1], a, b⟩
        refine k_pat q hkU rfl ⟨_, rfl, q.kP hkU, k_hasLoan q hkU (fun z => ?_) (fun z => ?_)⟩
        · have e0 : fmst U k = (U, 0) := by unfold fmst; rw [if_pos z]
          refine ⟨fun y w20 => y = (fmon T (k + 1)).2 ∧ RC w20 G (fmon T (k + 1)).1 S, fun y w20 hj => nx y w20 hj.1 hj.2, fun _ => ⟨by rw [hU2, e0, Int32.add_zero], by rw [hU1, e0]; exact q⟩, fun z2 => absurd rfl z2⟩
        · have hd := i_le z
          refine ⟨fun y w20 => y = (fmon T (k + 1)).2 ∧ RC w20 G (fmon T (k + 1)).1 S, fun y w20 hj => nx y w20 hj.1 hj.2, fun z2 => absurd z2 (by decide), fun _ => ⟨q.kP hkU, k_ageLoan q hkU hd (fun w22 q22 g22 => ?_)⟩⟩
          have NA : Nm U (fage U k) := fage_Nm
          have hkA : k < nP (fage U k) := by rw [NA.p]; exact hkU
          refine ⟨q22.kP hkA, fun v23 h23 => ⟨fun z3 => ?_, fun z3 => ⟨q22.kx, ?_⟩⟩⟩
          · rw [h23, g22] at z3
            have e0 : fmst U k = (fage U k, 0) := by unfold fmst; rw [if_neg z, if_pos z3]
            exact ⟨by rw [hU2, e0, Int32.add_zero], by rw [hU1, e0]; exact q22⟩
          · rw [h23, g22] at z3
            have e0 : fmst U k = (fdfl (fage U k) k, 1) := by unfold fmst; rw [if_neg z, if_neg z3]
            have hdA : 0 < (fage U k).a 506 k := by
              unfold fage
              rw [a_f (by decide), a_e, eU 506 (by decide) (by decide) (by decide)]
              exact hG k hk2 (by rw [← eU 506 (by decide) (by decide) (by decide)]; exact hd)
            refine k_defaultLoan q22 (by rw [NA.p, eP]; exact h16) hkA hdA (fun w24 q24 v25 h25 => ⟨by rw [hU2, e0, h25], by rw [hU1, e0]; exact q24⟩)
    · rw [← hT] at h1; subst h1
      refine ⟨fun n y4 y5 S6 => ∃ k, k ≤ nP S ∧ n = nP S - k ∧ y5 = nI k ∧ y4 = (fmon S1 k).2 ∧ S6 = (fmon S1 k).1, ⟨_, 0, Nat.zero_le _, rfl, rfl, rfl, rfl⟩, fun n y4 y5 S6 hIv v7 h7 => ?_⟩
      obtain ⟨k, hk, rfl, rfl, rfl, rfl⟩ := hIv
      obtain ⟨U, hU⟩ : ∃ U, U = (fmon S1 k).1 := ⟨_, rfl⟩
      have N : Nm S U := by rw [hU]; exact N0.tr (fmon_Nm k)
      have hU1 : (fmon S1 (k + 1)).1 = (fmst U k).1 := by rw [hU]; rfl
      have hU2 : (fmon S1 (k + 1)).2 = (fmon S1 k).2 + (fmst U k).2 := by rw [hU]; rfl
      have eU : ∀ r, r ≠ 504 → r ≠ 511 → r ≠ 510 → U.a r k = S.a r k := fun r a b c => by rw [hU, fmon_a a b c k (Nat.le_refl _), hTa]
      rw [← hU] at h7 ⊢
      rw [N.1, hI.1] at h7; subst h7
      refine ⟨k = nP S, fun z => ⟨by rw [z], by rw [hU, z]⟩, fun hcc => ?_, fun hcc => ⟨fun z => absurd rfl z, fun _ => ?_⟩⟩
      · have := (nI_leI (by omega) (by omega)).mp hcc
        omega
      · have hk2 : k < nP S := Nat.lt_of_not_le (fun z => hcc (nI_le z (by omega)))
        have hk16 : k < 16 := by omega
        refine ⟨k, rfl, hk16, fun v10 h10 => ⟨fun y S13 => y = (fmon S1 (k + 1)).2 ∧ S13 = (fmon S1 (k + 1)).1, fun y12 S13 hj v14 h14 => ⟨nP S - (k + 1), by omega, k + 1, by omega, rfl, by rw [h14, nI_1], hj.1, hj.2⟩, fun z => ?_, fun z => ⟨k, rfl, hk16, fun v16 h16' => ⟨k, rfl, hk16, fun v18 h18 v19 h19 => ⟨by decide, fun v20 h20 v21 h21 => ⟨k, rfl, hk16, fun S23 h23 => ⟨k, rfl, hk16, fun v25 h25 v26 h26 => ⟨k, rfl, hk16, fun S28 h28 => ⟨k, rfl, hk16, fun v30 h30 => ?_⟩⟩⟩⟩⟩⟩⟩⟩⟩
        · rw [h10] at z
          have e0 : fmst U k = (U, 0) := by unfold fmst; rw [if_pos z]
          exact ⟨by rw [hU2, e0, Int32.add_zero], by rw [hU1, e0]⟩
        · rw [h10] at z
          have e28 : S28 = fage U k := by
            rw [h28, h26, h25, h23, h21, h20, h19, h18, h16', a_f (by decide)]; rfl
          have e30 : v30 = U.a 507 k + 1 := by rw [h30, e28]; exact a_e
          rw [e28]
          refine ⟨fun z3 => ?_, fun z3 => ?_⟩
          · rw [e30] at z3
            have e0 : fmst U k = (fage U k, 0) := by unfold fmst; rw [if_neg z, if_pos z3]
            exact ⟨by rw [hU2, e0, Int32.add_zero], by rw [hU1, e0]⟩
          · rw [e30] at z3
            have e0 : fmst U k = (fdfl (fage U k) k, 1) := by unfold fmst; rw [if_neg z, if_neg z3]
            have hdS : 0 < S.a 506 k := by rw [← eU 506 (by decide) (by decide) (by decide)]; exact i_le z
            obtain ⟨a, b, ha, hb, n4, n5⟩ := hV k hk2 hdS
            have ea8 : (fage U k).a 508 k = nI a := by rw [fage_a (by decide) (by decide), eU 508 (by decide) (by decide) (by decide), n4]
            have eb9 : (fage U k).a 509 k = nI b := by rw [fage_a (by decide) (by decide), eU 509 (by decide) (by decide) (by decide), n5]
            have ea : av (fage U k) k = a := by unfold av; rw [ea8, nI_clamp (by omega)]
            have eb : bv (fage U k) k = b := by unfold bv; rw [eb9, nI_clamp (by omega)]
            refine ⟨k, rfl, hk16, fun v32 h32 => ⟨by decide, fun v33 h33 => ⟨k, rfl, hk16, fun v35 h35 v36 h36 => ⟨k, rfl, hk16, fun S38 h38 => ⟨k, rfl, hk16, fun S40 h40 => ⟨k, rfl, hk16, fun v42 h42 => ?_⟩⟩⟩⟩⟩⟩
            have e42 : v42 = nI a := by rw [h42, h40, a_f (by decide), h38, a_f (by decide)]; exact ea8
            refine m_vouches e42 (by omega) ⟨k, rfl, hk16, fun v45 h45 => ?_⟩
            have e45 : v45 = nI b := by rw [h45, fvch_a (by decide) (by decide), h40, a_f (by decide), h38, a_f (by decide)]; exact eb9
            refine m_vouches e45 (by omega) (fun v47 h47 => ⟨by rw [hU2, e0, h47], ?_⟩)
            rw [hU1, e0, h40, h38, h36, h35, h33, h32]
            show _ = fdfl (fage U k) k
            unfold fdfl
            rw [ea, eb]
  · refine ⟨0, S.setS 500 0, Or.inl ⟨hx, rfl, rfl⟩, fun Q hQ => ⟨fun z => absurd z hx, fun _ => hQ w G rfl rfl rfl h.thrown⟩, fun S1 h1 => ?_⟩
    refine ⟨fun n y4 y5 S6 => y4 = 0 ∧ S6 = S.setS 500 0, ⟨0, rfl, h1⟩, fun n y4 y5 S6 hIv v7 h7 => ⟨True, fun _ => hIv, fun _ => trivial, fun _ => ⟨fun _ => trivial, fun z => absurd z hx⟩⟩⟩
