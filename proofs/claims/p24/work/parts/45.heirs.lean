-- ===== deaths: what is left, and places passed on
def plc (S : MS) (c i : Nat) : Nat → Option Nat
  | 0 => none
  | k + 1 => if wh S (10 * c + k) = i then some k else plc S c i k
def pl (S : MS) (c i : Nat) : Option Nat := plc S c i (mn S c)
theorem plc_some {S : MS} {c i k : Nat} : ∀ n, plc S c i n = some k → k < n ∧ wh S (10 * c + k) = i := by
  intro n
  induction n with
  | zero => intro h; cases h
  | succ n ih =>
    intro h
    rw [plc] at h
    by_cases e : wh S (10 * c + n) = i
    · rw [if_pos e] at h; cases h; exact ⟨Nat.lt_succ_self _, e⟩
    · rw [if_neg e] at h; have := ih h; exact ⟨by omega, this.2⟩
theorem plc_none {S : MS} {c i : Nat} : ∀ n, plc S c i n = none → ∀ k, k < n → wh S (10 * c + k) ≠ i := by
  intro n
  induction n with
  | zero => exact fun _ k hk => absurd hk (Nat.not_lt_zero _)
  | succ n ih =>
    intro h k hk
    rw [plc] at h
    by_cases e : wh S (10 * c + n) = i
    · rw [if_pos e] at h; cases h
    · rw [if_neg e] at h
      rcases Nat.lt_or_ge k n with q | q
      · exact ih h k q
      · rw [show k = n by omega]; exact e
theorem pl_eq {S : MS} {c i k : Nat} (hD : DI S) (hc : c < nC S) (hk : k < mn S c) (hw : wh S (10 * c + k) = i) : pl S c i = some k := by
  cases h : pl S c i with
  | none => exact absurd hw (plc_none _ h k hk)
  | some k' =>
    obtain ⟨h1, h2⟩ := plc_some _ h
    rw [hD c hc k' k h1 hk (by rw [h2, hw])]
theorem pl_no {S : MS} {c i : Nat} (h : ∀ k, k < mn S c → wh S (10 * c + k) ≠ i) : pl S c i = none := by
  cases e : pl S c i with
  | none => rfl
  | some k =>
    obtain ⟨h1, h2⟩ := plc_some _ e
    exact absurd h2 (h k h1)
theorem k_pl {w : Wd} {G : GH} {S S0 : MS} {c i : Nat} {Q : Option Nat → Wd → Prop} (h : RC w G S S0) (hI : SH S) (hD : DI S) (hc : c < nC S) (hi : i < nP S) (hQ : Q ((pl S c i).map (fun k => G.L (10 * c + k))) w) : wp_X0_placeOf (G.C c) (some (G.P i)) w Q :=
  k_placeOf h hI hc hi (fun k hk hw => by rw [pl_eq hD hc hk hw] at hQ; exact hQ) (fun hn => by rw [pl_no hn] at hQ; exact hQ)
theorem m_pl {S : MS} {c i : Nat} {Q : Int32 → MS → Prop} (hI : SH S) (hD : DI S) (hc : c < nC S) (hi : i < nP S) (hQ : Q (tI (pl S c i)) S) : sp_X4_placeOf (nI c) (nI i) S Q :=
  m_placeOf hI hD hc hi (fun k hk hw => by rw [pl_eq hD hc hk hw] at hQ; exact hQ) (fun hn => by rw [pl_no hn] at hQ; exact hQ)
def flo (S : MS) (p h : Nat) : MS := if ¬ S.a 506 p ≤ 0 ∧ S.a 506 h = 0 then ((S.setA 507 h (S.a 507 p)).setA 508 h (S.a 508 p)).setA 509 h (S.a 509 p) else S
def fgot (S : MS) (p h : Nat) : MS := (S.setA 504 h (S.a 504 h + S.a 504 p)).setA 505 h (S.a 505 h + S.a 505 p)
def fend (S : MS) (p h : Nat) : MS := ((((S.setA 506 h (S.a 506 h + S.a 506 p)).setA 504 p 0).setA 505 p 0).setA 506 p 0).setA 512 p 1
def fleaves (S : MS) (p h : Nat) : MS := fend (flo (fgot S p h) p h) p h
theorem flo_a {S : MS} {p h r x : Nat} (h1 : r ≠ 507) (h2 : r ≠ 508) (h3 : r ≠ 509) : (flo S p h).a r x = S.a r x := by
  unfold flo
  by_cases e : ¬ S.a 506 p ≤ 0 ∧ S.a 506 h = 0
  · rw [if_pos e, a_f h3, a_f h2, a_f h1]
  · rw [if_neg e]
theorem flo_Nm {S : MS} {p h : Nat} : Nm S (flo S p h) := by
  unfold flo
  by_cases e : ¬ S.a 506 p ≤ 0 ∧ S.a 506 h = 0
  · rw [if_pos e]; exact ((Nm.rf.st (by decide)).st (by decide)).st (by decide)
  · rw [if_neg e]; exact Nm.rf
theorem fgot_Nm {S : MS} {p h : Nat} : Nm S (fgot S p h) := (Nm.rf.st (by decide)).st (by decide)
theorem fend_Nm {S : MS} {p h : Nat} : Nm S (fend S p h) := ((((Nm.rf.st (by decide)).st (by decide)).st (by decide)).st (by decide)).st (by decide)
theorem fleaves_Nm {S : MS} {p h : Nat} : Nm S (fleaves S p h) := (fgot_Nm.tr flo_Nm).tr fend_Nm
theorem fgot_a {S : MS} {p h r x : Nat} (h1 : r ≠ 504) (h2 : r ≠ 505) : (fgot S p h).a r x = S.a r x := by
  unfold fgot; rw [a_f h2, a_f h1]
theorem fend_a {S : MS} {p h r x : Nat} (h1 : r ≠ 504) (h2 : r ≠ 505) (h3 : r ≠ 506) (h4 : r ≠ 512) : (fend S p h).a r x = S.a r x := by
  unfold fend; rw [a_f h4, a_f h3, a_f h2, a_f h1, a_f h3]
theorem fleaves_a {S : MS} {p h r x : Nat} (h1 : r ≠ 504) (h2 : r ≠ 505) (h3 : r ≠ 506) (h4 : r ≠ 512) (h5 : r ≠ 507) (h6 : r ≠ 508) (h7 : r ≠ 509) : (fleaves S p h).a r x = S.a r x := by
  unfold fleaves; rw [fend_a h1 h2 h3 h4, flo_a h5 h6 h7, fgot_a h1 h2]
theorem flo_s {S : MS} {p h f : Nat} : (flo S p h).s f = S.s f := by
  unfold flo
  by_cases e : ¬ S.a 506 p ≤ 0 ∧ S.a 506 h = 0
  · rw [if_pos e]; rfl
  · rw [if_neg e]
theorem fleaves_s {S : MS} {p h f : Nat} : (fleaves S p h).s f = S.s f := by
  unfold fleaves fend
  rw [setA_s, setA_s, setA_s, setA_s, setA_s, flo_s]; rfl
theorem ge0 {x : Int32} (h : ¬ x < 0) : x ≤ 0 ↔ x = 0 := by
  obtain ⟨a, ha, e⟩ := nI_of h
  rw [e]
  exact ⟨fun z => by rw [show (0 : Int32) = nI 0 from rfl] at z ⊢; rw [nI_leI ha (by decide)] at z; rw [nI_eq ha (by decide)]; omega, fun z => by rw [z]; decide⟩
theorem k_bequeath {w : Wd} {G : GH} {S S0 : MS} {p h : Nat} {Q : Wd → Prop} (hR : RC w G S S0) (hp : p < nP S) (hh : h < nP S) (hne : p ≠ h) (hD : ∀ i, i < nP S → ¬ S.a 506 i < 0) (hQ : ∀ w1, RC w1 G (fleaves S p h) S0 → Q w1) : wp_X1_bequeath (G.P p) (some (G.P h)) w Q := by
  have e1 : ∀ i, i < nP S → w.I 204 (G.P i) = S.a 504 i := fun i hi => hR.get (k := 2) (f := 204) (r := 504) (by decide) hi
  refine ⟨_, rfl, hR.kP hh, fun v2 h2 => ⟨hR.kP hp, fun v3 h3 v4 h4 => ⟨hR.kP hh, fun w5 h5 => ?_⟩⟩⟩
  have q5 : RC w5 G (S.setA 504 h (S.a 504 h + S.a 504 p)) S0 := by
    rw [h5, h4, h3, h2, e1 h hh, e1 p hp]
    exact RC.set (k := 2) hR (by decide) (by decide) (by decide) (by decide) hh
  have e2 : ∀ i, i < nP S → w5.I 205 (G.P i) = S.a 505 i := fun i hi => (q5.get (k := 2) (f := 205) (r := 505) (by decide) hi).trans (a_f (by decide))
  refine ⟨q5.kP hh, fun v6 h6 => ⟨q5.kP hp, fun v7 h7 v8 h8 => ⟨q5.kP hh, fun w9 h9 => ?_⟩⟩⟩
  have q9 : RC w9 G (fgot S p h) S0 := by
    rw [h9, h8, h7, h6, e2 h hh, e2 p hp]
    exact RC.set (k := 2) q5 (by decide) (by decide) (by decide) (by decide) hh
  obtain ⟨T, hT⟩ : ∃ T, T = fgot S p h := ⟨_, rfl⟩
  have NT : Nm S T := by rw [hT]; exact fgot_Nm
  rw [← hT] at q9
  have hpT : p < nP T := by rw [NT.p]; exact hp
  have hhT : h < nP T := by rw [NT.p]; exact hh
  have eT : ∀ r i, r ≠ 504 → r ≠ 505 → T.a r i = S.a r i := fun r i a b => by rw [hT]; exact fgot_a a b
  have dp := hD p hp
  have dh := hD h hh
  rw [← eT 506 p (by decide) (by decide)] at dp
  rw [← eT 506 h (by decide) (by decide)] at dh
  have eFl : fleaves S p h = fend (flo T p h) p h := by rw [hT]; rfl
  -- what is common: the loan stands right on both sides
  have fin : ∀ w13, RC w13 G (flo T p h) S0 → (¬ T.a 506 p ≤ 0 ∧ T.a 506 h = 0 → w13.I 207 (G.P h) = (flo T p h).a 507 h ∧ ∃ a b, a < nP (flo T p h) ∧ b < nP (flo T p h) ∧ (flo T p h).a 508 h = nI a ∧ (flo T p h).a 509 h = nI b ∧ w13.R 208 (G.P h) = some (G.P a) ∧ w13.R 209 (G.P h) = some (G.P b)) → w13.K (G.P h) = 2 ∧ ∀ v14 : Int32, v14 = w13.I 206 (G.P h) → w13.K (G.P p) = 2 ∧ ∀ v15 : Int32, v15 = w13.I 206 (G.P p) → ∀ v16 : Int32, v16 = v14 + v15 → w13.K (G.P h) = 2 ∧ ∀ w17 : Wd, w17 = w13.setI 206 (G.P h) v16 → w17.K (G.P p) = 2 ∧ ∀ w18 : Wd, w18 = w17.setI 204 (G.P p) (0 : Int32) → w18.K (G.P p) = 2 ∧ ∀ w19 : Wd, w19 = w18.setI 205 (G.P p) (0 : Int32) → w19.K (G.P p) = 2 ∧ ∀ w20 : Wd, w20 = w19.setI 206 (G.P p) (0 : Int32) → w20.K (G.P p) = 2 ∧ ((1 : Int32) = 0 ∨ (1 : Int32) = 1) ∧ ∀ w21 : Wd, w21 = w20.setI 212 (G.P p) (1 : Int32) → Q w21 := by
    intro w13 q13 hl
    obtain ⟨Y, hYd⟩ : ∃ Y, Y = flo T p h := ⟨_, rfl⟩
    have NY : Nm T Y := by rw [hYd]; exact flo_Nm
    rw [← hYd] at q13 hl
    have eY : ∀ i, Y.a 506 i = T.a 506 i := fun i => by rw [hYd]; exact flo_a (by decide) (by decide) (by decide)
    have hpY : p < nP Y := by rw [NY.p]; exact hpT
    have hhY : h < nP Y := by rw [NY.p]; exact hhT
    have g14 : w13.I 206 (G.P h) = Y.a 506 h := q13.get (k := 2) (f := 206) (r := 506) (by decide) hhY
    have g15 : w13.I 206 (G.P p) = Y.a 506 p := q13.get (k := 2) (f := 206) (r := 506) (by decide) hpY
    refine ⟨q13.kP hhY, fun v14 h14 => ⟨q13.kP hpY, fun v15 h15 v16 h16 => ⟨q13.kP hhY, fun w17 h17 => ?_⟩⟩⟩
    have q17 : RC w17 G (Y.setA 506 h (Y.a 506 h + Y.a 506 p)) S0 := by
      rw [h17, h16, h15, h14, g14, g15]
      refine q13.debt hhY (fun hv => ?_)
      rw [eY, eY] at hv
      rw [eY]
      by_cases z : T.a 506 h = 0
      · by_cases z2 : T.a 506 p ≤ 0
        · rw [z, (ge0 dp).mp z2] at hv; exact absurd hv (by decide)
        · exact Or.inr (hl ⟨z2, z⟩)
      · exact Or.inl (i_le (fun q => z ((ge0 dh).mp q)))
    refine ⟨q17.kP hpY, fun w18 h18 => ?_⟩
    have q18 : RC w18 G ((Y.setA 506 h (Y.a 506 h + Y.a 506 p)).setA 504 p 0) S0 := by
      rw [h18]; exact RC.set (k := 2) q17 (by decide) (by decide) (by decide) (by decide) hpY
    refine ⟨q18.kP hpY, fun w19 h19 => ?_⟩
    have q19 : RC w19 G (((Y.setA 506 h (Y.a 506 h + Y.a 506 p)).setA 504 p 0).setA 505 p 0) S0 := by
      rw [h19]; exact RC.set (k := 2) q18 (by decide) (by decide) (by decide) (by decide) hpY
    refine ⟨q19.kP hpY, fun w20 h20 => ?_⟩
    have q20 : RC w20 G ((((Y.setA 506 h (Y.a 506 h + Y.a 506 p)).setA 504 p 0).setA 505 p 0).setA 506 p 0) S0 := by
      rw [h20]; exact q19.debt hpY (fun z => absurd z (by decide))
    refine ⟨q20.kP hpY, Or.inr rfl, fun w21 h21 => hQ w21 ?_⟩
    rw [eFl, ← hYd, h21]
    exact RC.set (k := 2) q20 (by decide) (by decide) (by decide) (by decide) hpY
  refine ⟨q9.kP hhT, k_hasLoan q9 hhT (fun z => ?_) (fun z => ?_)⟩
  · -- the heir has no loan
    have zh : T.a 506 h = 0 := (ge0 dh).mp z
    have nd : ¬ 0 < T.a 506 h := fun q => i_nlt z q
    refine ⟨fun w13 => RC w13 G (flo T p h) S0 ∧ (¬ T.a 506 p ≤ 0 ∧ T.a 506 h = 0 → w13.I 207 (G.P h) = (flo T p h).a 507 h ∧ ∃ a b, a < nP (flo T p h) ∧ b < nP (flo T p h) ∧ (flo T p h).a 508 h = nI a ∧ (flo T p h).a 509 h = nI b ∧ w13.R 208 (G.P h) = some (G.P a) ∧ w13.R 209 (G.P h) = some (G.P b)), fun w13 hj => fin w13 hj.1 hj.2, fun q => absurd rfl q, fun _ => ⟨q9.kP hpT, fun v22 h22 => ⟨q9.kP hhT, fun w23 h23 => ?_⟩⟩⟩
    have q23 : RC w23 G T S0 := by rw [h23]; exact q9.loanI hhT nd
    refine ⟨q23.kP hpT, fun z24 h24 => ⟨q23.kP hhT, fun w25 h25 => ?_⟩⟩
    have q25 : RC w25 G T S0 := by rw [h25]; exact q23.loanR (Or.inl rfl) hhT nd
    refine ⟨q25.kP hpT, fun z26 h26 => ⟨q25.kP hhT, fun w27 h27 => ?_⟩⟩
    have q27 : RC w27 G T S0 := by rw [h27]; exact q25.loanR (Or.inr rfl) hhT nd
    have hPne : G.P p ≠ G.P h := fun e => hne (q9.pinj hpT hhT e)
    by_cases zp : T.a 506 p ≤ 0
    · have ef : flo T p h = T := by unfold flo; rw [if_neg (fun q => q.1 zp)]
      rw [ef]
      exact ⟨q27, fun q => absurd zp q.1⟩
    · have ef : flo T p h = ((T.setA 507 h (T.a 507 p)).setA 508 h (T.a 508 p)).setA 509 h (T.a 509 p) := by unfold flo; rw [if_pos ⟨zp, zh⟩]
      obtain ⟨n1, a, b, n2, n3, n4, n5, n6, n7⟩ := q9.2.2.2.2.2.1 p hpT (i_le zp)
      have qq : RC w27 G (flo T p h) S0 := by
        rw [ef]
        refine RC.loanS (Or.inr (Or.inr rfl)) (RC.loanS (Or.inr (Or.inl rfl)) (RC.loanS (Or.inl rfl) q27 nd) ?_) ?_
        · rw [a_f (by decide)]; exact nd
        · rw [a_f (by decide), a_f (by decide)]; exact nd
      refine ⟨qq, fun _ => ?_⟩
      have NF : Nm T (flo T p h) := flo_Nm
      refine ⟨?_, a, b, by rw [NF.p]; exact n2, by rw [NF.p]; exact n3, ?_, ?_, ?_, ?_⟩
      · rw [ef, a_f (by decide), a_f (by decide), a_e, h27]
        show w25.I 207 (G.P h) = _
        rw [h25]
        show w23.I 207 (G.P h) = _
        rw [h23, I_e, h22, n1]
      · rw [ef, a_f (by decide), a_e]; exact n4
      · rw [ef, a_e]; exact n5
      · rw [h27, R_f (by decide), h25, R_e, h24, h23]; exact n6
      · rw [h27, R_e, h26, h25, R_f (by decide), h23]; exact n7
  · -- the heir has one
    have ef : flo T p h = T := by unfold flo; rw [if_neg (fun q => z (by rw [q.2]; decide))]
    refine ⟨fun w13 => w13 = w9, fun w13 hj => ?_, fun _ => rfl, fun q => absurd q (by decide)⟩
    subst hj
    exact fin w13 (by rw [ef]; exact q9) (fun q => absurd (by rw [q.2]; decide) z)
theorem m_leaves {S : MS} {p h : Nat} {Q : MS → Prop} (hp : p < 16) (hh : h < 16) (hQ : Q (fleaves S p h)) : sp_X4_leaves (nI p) (nI h) S Q := by
  refine ⟨h, rfl, hh, fun v2 h2 => ⟨p, rfl, hp, fun v4 h4 v5 h5 => ⟨h, rfl, hh, fun S7 h7 => ⟨h, rfl, hh, fun v9 h9 => ⟨p, rfl, hp, fun v11 h11 v12 h12 => ⟨h, rfl, hh, fun S14 h14 => ⟨p, rfl, hp, fun v16 h16 => ?_⟩⟩⟩⟩⟩⟩⟩
  have e14 : S14 = fgot S p h := by
    rw [h14, h12, h11, h9, h7, h5, h4, h2, a_f (by decide), a_f (by decide)]; rfl
  obtain ⟨T, hT⟩ : ∃ T, T = fgot S p h := ⟨_, rfl⟩
  rw [← hT] at e14
  have eFl : fleaves S p h = fend (flo T p h) p h := by rw [hT]; rfl
  rw [e14] at h16 ⊢
  refine ⟨fun S18 => S18 = flo T p h, fun S18 h18 => ⟨h, rfl, hh, fun v20 h20 => ⟨p, rfl, hp, fun v22 h22 v23 h23 => ⟨h, rfl, hh, fun S25 h25 => ⟨p, rfl, hp, fun S27 h27 => ⟨p, rfl, hp, fun S29 h29 => ⟨p, rfl, hp, fun S31 h31 => ⟨p, rfl, hp, fun S33 h33 => ?_⟩⟩⟩⟩⟩⟩⟩, fun z => ?_, fun z => ⟨h, rfl, hh, fun v35 h35 => ⟨fun z2 => ?_, fun z2 => ⟨p, rfl, hp, fun v37 h37 => ⟨h, rfl, hh, fun S39 h39 => ⟨p, rfl, hp, fun v41 h41 => ⟨h, rfl, hh, fun S43 h43 => ⟨p, rfl, hp, fun v45 h45 => ⟨h, rfl, hh, fun S47 h47 => ?_⟩⟩⟩⟩⟩⟩⟩⟩⟩
  · have e : S33 = fleaves S p h := by
      rw [eFl, h33, nar1, h31, h29, h27, h25, h23, h22, h20, h18]; rfl
    rw [e]; exact hQ
  · unfold flo; rw [if_neg (fun q => q.1 (by rw [← h16]; exact z))]
  · unfold flo; rw [if_neg (fun q => z2 (h35.trans q.2))]
  · unfold flo
    rw [if_pos ⟨by rw [← h16]; exact z, h35.symm.trans z2⟩, h47, h45, h43, h41, h39, h37, a_f (by decide), a_f (by decide), a_f (by decide)]
