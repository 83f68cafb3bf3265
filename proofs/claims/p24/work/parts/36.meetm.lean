-- ===== a meeting: the reference, and both
theorem nar0 : vp_nar .boolean (0 : Int32) = 0 := by decide +kernel
theorem nar1 : vp_nar .boolean (1 : Int32) = 1 := by decide +kernel
theorem m_rounds {S : MS} {c : Nat} {Q : MS → Prop} (hI : SH S) (hc : c < nC S) (hQ : Q (frnd S c)) : sp_X4_rounds (nI c) S Q := by
  obtain ⟨m1, m2, m3⟩ := hI.2.2.2.2 c hc
  have hc4 : c < 4 := by have := hI.2.2.2.1; omega
  refine ⟨c, rfl, hc4, fun v2 h2 => ⟨fun y => y = if mn S c = 0 then 0 else 1, fun y4 hy => ⟨fun n y7 y8 => ∃ k, k ≤ mn S c ∧ n = mn S c - k ∧ y8 = nI k ∧ y7 = (if mn S c = 0 then 0 else if allb S c k = true then 1 else 0), ⟨_, 0, Nat.zero_le _, rfl, rfl, by rw [hy, allb, if_pos (show true = true from rfl)]⟩, fun n y7 y8 hIv => ?_⟩, fun z => ?_, fun z => ?_⟩⟩
  · obtain ⟨k, hk, rfl, rfl, e7⟩ := hIv
    refine ⟨c, rfl, hc4, fun v10 h10 => ?_⟩
    rw [m1] at h10; subst h10
    refine ⟨fun hcc => ?_, fun hcc => ?_⟩
    · have := (nI_leI (by omega) (by omega)).mp hcc
      have e : k = mn S c := by omega
      subst e
      have hcase : (y7 = 0 ∧ frnd S c = S) ∨ (y7 = 1 ∧ frnd S c = fclr (S.setA 519 c (S.a 519 c + 1)) c (mn S c)) := by
        unfold frnd
        by_cases h0 : mn S c = 0
        · rw [if_pos h0] at e7 ⊢; exact Or.inl ⟨e7, rfl⟩
        · rw [if_neg h0] at e7 ⊢
          by_cases h1 : allb S c (mn S c) = true
          · rw [if_pos h1] at e7 ⊢; exact Or.inr ⟨e7, rfl⟩
          · rw [if_neg h1] at e7 ⊢; exact Or.inl ⟨e7, rfl⟩
      refine ⟨c, rfl, hc4, fun v12 h12 => ⟨fun a b d => a = nI c ∧ b = S.a 519 c ∧ d = y7, fun a b d hj v17 h17 => ?_, fun z => ⟨rfl, h12, z.symm⟩, fun z => ⟨rfl, h12, ?_⟩⟩⟩
      · obtain ⟨rfl, rfl, rfl⟩ := hj
        refine ⟨c, rfl, hc4, fun S19 h19 => ?_⟩
        rcases hcase with ⟨e0, hf⟩ | ⟨e1, hf⟩
        · have e19 : S19 = S := by rw [h19, h17, e0, Int32.add_zero, setA_self]
          exact ⟨fun n y S23 => S23 = S, ⟨0, e19⟩, fun n y22 S23 hS => ⟨c, rfl, hc4, fun v25 h25 => ⟨Q S23, fun z => z, fun _ => by rw [hS, ← hf]; exact hQ, fun _ => ⟨fun _ => by rw [hS, ← hf]; exact hQ, fun z => absurd e0 z⟩⟩⟩⟩
        · rw [e1] at h17
          rw [h17] at h19
          rw [← h19] at hf
          rw [hf] at hQ
          refine ⟨fun n y S23 => ∃ k, k ≤ mn S c ∧ n = mn S c - k ∧ y = nI k ∧ S23 = fclr S19 c k, ⟨_, 0, Nat.zero_le _, rfl, rfl, rfl⟩, fun n y22 S23 hS => ?_⟩
          obtain ⟨k, hk, rfl, rfl, rfl⟩ := hS
          have N : Nm S (fclr S19 c k) := (show Nm S S19 by rw [h19]; exact Nm.rf.st (by decide)).tr (fclr_Nm k)
          refine ⟨c, rfl, hc4, fun v25 h25 => ⟨Q (fclr S19 c k), fun z => z, fun z => ?_, fun z => ⟨fun z2 => absurd (e1.symm.trans z2) (by decide), fun _ v27 h27 v28 h28 => ?_⟩⟩⟩
          · rw [N.2.2.1, m1] at h25; subst h25
            have := (nI_leI (by omega) (by omega)).mp z
            rw [show k = mn S c by omega]; exact hQ
          · rw [N.2.2.1, m1] at h25; subst h25
            have hk2 : k < mn S c := Nat.lt_of_not_le (fun q => z (nI_le q (by omega)))
            rw [h27, at_ix] at h28
            refine ⟨_, h28, by omega, fun S30 h30 v31 h31 v32 h32 => ?_⟩
            rw [h31, at_ix] at h32
            refine ⟨_, h32, by omega, fun S34 h34 v35 h35 => ⟨mn S c - (k + 1), by omega, k + 1, by omega, rfl, by rw [h35, nI_1], ?_⟩⟩
            rw [h34, h30, nar0]; rfl
      · rcases hcase with ⟨e0, hf⟩ | ⟨e1, hf⟩
        · exact absurd e0 z
        · exact e1.symm
    · have hk2 : k < mn S c := Nat.lt_of_not_le (fun z => hcc (nI_le z (by omega)))
      have h0 : ¬ mn S c = 0 := by omega
      rw [if_neg h0] at e7
      have ex : ∀ b : Bool, allb S c (k + 1) = b → ∀ v : Int32, v = (if b = true then 1 else 0) → v = (if mn S c = 0 then 0 else if allb S c (k + 1) = true then 1 else 0) := fun b hb v hv => by rw [if_neg h0, hb]; exact hv
      refine ⟨fun y => y = (if mn S c = 0 then 0 else if allb S c (k + 1) = true then 1 else 0), fun y37 hj v38 h38 => ⟨mn S c - (k + 1), by omega, k + 1, by omega, rfl, by rw [h38, nI_1], hj⟩, allb S c (k + 1) = false, fun z => ex false z 0 rfl, fun z => ?_, fun z v40 h40 v41 h41 => ?_⟩
      · rw [allb]
        by_cases ha : allb S c k = true
        · rw [if_pos ha] at e7; rw [e7] at z; exact absurd z (by decide)
        · rw [Bool.not_eq_true] at ha; rw [ha]; rfl
      · have ha : allb S c k = true := Classical.byContradiction fun q => z (by rw [e7, if_neg q])
        rw [h40, at_ix] at h41
        refine ⟨_, h41, by omega, fun v43 h43 => ⟨fun z => ?_, fun z => ex true ?_ 1 rfl⟩⟩
        · rw [allb, ha, ← h43, z]; rfl
        · rw [allb, ha, ← h43, Bool.true_and, decide_eq_true_iff]; exact z
  · rw [h2, m1] at z
    have := (nI_leI (a := mn S c) (b := 0) (by omega) (by decide)).mp z
    rw [if_pos (by omega)]
  · rw [h2, m1] at z
    rw [if_neg (fun e => z (by rw [e]; decide))]
theorem fbid_set {S : MS} {c r j : Nat} {v : Int32} (h1 : 524 ≠ r) : ∀ k, (fbid S c k).setA r j v = fbid (S.setA r j v) c k := by
  intro k
  induction k with
  | zero => rfl
  | succ k ih => rw [fbid, fbid, setA_comm h1, ih]
theorem fbid_a {S : MS} {c r j : Nat} (h1 : r ≠ 524) : ∀ k, (fbid S c k).a r j = S.a r j := by
  intro k
  induction k with
  | zero => rfl
  | succ k ih => rw [fbid, a_f h1, ih]
theorem fbid_give {S : MS} {c i : Nat} {v : Int32} (k : Nat) : fgive (fbid S c k) c i v = fbid (fgive S c i v) c k := by
  unfold fgive fpay
  rw [fbid_a (by decide), fbid_set (by decide), fbid_a (by decide), fbid_set (by decide), fbid_a (by decide), fbid_set (by decide)]
theorem m_paysE {S : MS} {i : Nat} {x v : Int32} {Q : MS → Prop} (hx : x = nI i) (hi : i < 16) (hQ : Q (fpay S i v)) : sp_X4_pays x v S Q := by subst hx; exact m_pays hi hQ
def fmeet (S : MS) (c : Nat) (m : Int32) (t : Nat) : MS := frnd (fbid ((fpaid (fcols (S.setS 500 0) c m (mn S c)) c t).setA 518 c ((fpaid (fcols (S.setS 500 0) c m (mn S c)) c t).a 518 c + 1)) c (mn S c)) c
/-- what meet answers and does -/
def I_meet (S : MS) (x1 x2 : Int32) (r : Int32) (S' : MS) : Prop :=
  (S' = S.setS 500 1 ∧ (x1 < 0 ∨ nI (nC S) ≤ x1)) ∨ (∃ c, c < nC S ∧ x1 = nI c ∧ S' = S.setS 500 2 ∧ (S.a 520 c = 0 ∨ mn S c < 2)) ∨
  ∃ c t, c < nC S ∧ x1 = nI c ∧ ¬ S.a 520 c = 0 ∧ 2 ≤ mn S c ∧ t < mn S c ∧ S.a 527 (10 * c + t) = 0 ∧ tof (fcols (S.setS 500 0) c x2 (mn S c)) c (mn S c) = some t ∧ r = nI (wh S (10 * c + t)) ∧ S' = fmeet S c x2 t
theorem o_meet {w : Wd} {G : GH} {S : MS} {x1 x2 : Int32} (h : RC w G S S) (hI : SH S) (hY : WY S) (hT : ∀ c, c < nC S → 0 < mn S c → ∃ k, k < mn S c ∧ S.a 527 (10 * c + k) = 0) (hP : ∀ c m, c < nC S → ¬ fpot (fcols (S.setS 500 0) c m (mn S c)) c / 2 < 0) : OC w G S (fun Q => wp_L_meet (some G.x) x1 x2 (some G.o) w Q) (fun Q => sp_X4_meet x1 x2 S Q) (I_meet S x1 x2) := by
  have hn := hI.2.1
  have hnc := hI.2.2.2.1
  have er : ∀ k : Int32, k ≠ 0 → ∀ (P : Prop) (v7 : Int32), v7 = (S.setS 500 k).s 500 → (v7 = 0 → P) ∧ (¬ v7 = 0 → (k = 0 → (0 : Int32) = 0) ∧ S.setS 500 k = S.setS 500 k) :=
    fun k hk P v7 h7 => ⟨fun z => absurd (show k = 0 from h7.symm.trans z) hk, fun _ => ⟨fun z => absurd z hk, rfl⟩⟩
  rcases ix_c x1 hnc with hx | ⟨c, hc, rfl⟩
  · refine ⟨1, 0, S.setS 500 1, G, rfl, Or.inl ⟨rfl, hx⟩, rfl, rfl, rfl, fun Q hQ => ?_, ?_⟩
    · exact ⟨G.x, rfl, h.kx, h.kx, k_circleAt h hnc (fun i hi e => absurd hx (by rw [e]; exact ix_cne hi hnc)) (fun _ => Or.inl ⟨rfl, hQ w h.thrown (fun z => by cases z)⟩)⟩
    · refine m_isCircle_n hI hx ⟨fun y => y = 1, fun y hy S5 h5 v6 h6 => ?_, fun z => absurd rfl z, fun _ => rfl⟩
      subst hy h5
      exact er 1 (by decide) _ _ h6
  have hc4 : c < 4 := by omega
  obtain ⟨m1, m2, m3⟩ := hI.2.2.2.2 c hc
  have g4 : w.I 104 (G.C c) = S.a 520 c := h.get (k := 1) (f := 104) (r := 520) (by decide) hc
  have le2 : (2 : Int32) ≤ nI (mn S c) ↔ 2 ≤ mn S c := nI_leI (a := 2) (by decide) (by omega)
  by_cases hb : S.a 520 c = 0 ∨ mn S c < 2
  · refine ⟨2, 0, S.setS 500 2, G, rfl, Or.inr (Or.inl ⟨c, hc, rfl, rfl, hb⟩), rfl, rfl, rfl, fun Q hQ => ?_, ?_⟩
    · refine ⟨G.x, rfl, h.kx, h.kx, k_circleAt h hnc (fun j hj e => ?_) (fun z => absurd z (ix_cne hc hnc))⟩
      obtain rfl : c = j := (nI_eq (by omega) (by omega)).mp e
      exact ⟨_, rfl, h.kC hc, fun v4 h4 => ⟨fun w6 => w6 = w, fun w6 hw => by subst hw; exact Or.inr ⟨rfl, hQ w6 h.thrown (fun z => by cases z)⟩, fun _ => rfl, fun z => k_sz h hc ⟨fun z2 => (hb.elim (fun q => z (by rw [h4, g4, q])) (fun q => by have := le2.mp z2; omega)).elim, fun _ => rfl⟩⟩⟩
    · refine m_isCircle_y hI hc ⟨fun y => y = 2, fun y hy S5 h5 v6 h6 => ?_, fun _ => ⟨c, rfl, hc4, fun v91 h91 => ⟨True, fun _ => rfl, fun _ => trivial, fun z => ⟨c, rfl, hc4, fun v94 h94 => ⟨fun z2 => ?_, fun _ => trivial⟩⟩⟩⟩, fun z => absurd z (by decide)⟩
      · subst hy h5
        exact er 2 (by decide) _ _ h6
      · rw [h94, m1] at z2
        exact (hb.elim (fun q => z (h91.trans q)) (fun q => by have := le2.mp z2; omega)).elim
  have b1 : ¬ S.a 520 c = 0 := fun z => hb (Or.inl z)
  have b2 : 2 ≤ mn S c := by
    rcases Nat.lt_or_ge (mn S c) 2 with e | e
    · exact absurd (Or.inr e) hb
    · exact e
  obtain ⟨D, hD⟩ : ∃ D, D = fcols (S.setS 500 0) c x2 (mn S c) := ⟨_, rfl⟩
  have N0 : Nm S (S.setS 500 0) := Nm.rf.ss (by decide)
  have N : Nm S D := by rw [hD]; exact N0.tr (fcols_Nm _)
  have hI' := N.sh hI
  have hY' := N.wy hY
  have hc' : c < nC D := by rw [N.c]; exact hc
  have hmn : mn D c = mn S c := by rw [N.m]
  have ha : ∀ r i, r ≠ 504 → r ≠ 511 → r ≠ 516 → r ≠ 525 → r ≠ 522 → D.a r i = S.a r i := fun r i q1 q2 q3 q4 q5 => by rw [hD]; exact fcols_a (S := S.setS 500 0) q1 q2 q3 q4 q5 _
  obtain ⟨t, ht⟩ : ∃ t, tof D c (mn D c) = some t := by
    cases ht : tof D c (mn D c) with
    | some t => exact ⟨t, rfl⟩
    | none =>
      exfalso
      obtain ⟨k, hk, h0⟩ := hT c hc (by omega)
      exact tof_none _ ht k (by rw [hmn]; exact hk) (by rw [ha 527 _ (by decide) (by decide) (by decide) (by decide) (by decide)]; exact h0)
  obtain ⟨t1, t2⟩ := tof_lt _ _ ht
  have t1' : t < mn S c := by rw [← hmn]; exact t1
  have hin : 10 * c + t < 40 := by omega
  have m3' := hI'.2.2.2.2 c hc'
  have hfm : fmeet S c x2 t = frnd (fbid ((fpaid D c t).setA 518 c ((fpaid D c t).a 518 c + 1)) c (mn S c)) c := by rw [hD]; rfl
  have NP : Nm S (fpaid D c t) := N.tr ((fpo_Nm _).st (by decide))
  have NQ : Nm S ((fpaid D c t).setA 518 c ((fpaid D c t).a 518 c + 1)) := NP.st (by decide)
  have NB : Nm S (fbid ((fpaid D c t).setA 518 c ((fpaid D c t).a 518 c + 1)) c (mn S c)) := NQ.tr (fbid_Nm _)
  have NF : Nm S (fmeet S c x2 t) := by rw [hfm]; exact NB.tr frnd_Nm
  have hpot := hP c x2 hc
  rw [← hD] at hpot
  have hthr : (fmeet S c x2 t).s 500 = 0 := by
    rw [hfm]
    have e1 : ∀ (X : MS) k, (fpo X c t (fpot D c - fdis D c t) (feach D c t) k).s 500 = X.s 500 := fun X k => by
      induction k with
      | zero => rfl
      | succ k ih => exact ih
    have e2 : ∀ (X : MS) k, (fbid X c k).s 500 = X.s 500 := fun X k => by
      induction k with
      | zero => rfl
      | succ k ih => exact ih
    have e3 : ∀ (X : MS) k, (fclr X c k).s 500 = X.s 500 := fun X k => by
      induction k with
      | zero => rfl
      | succ k ih => exact ih
    have e4 : ∀ (X : MS), (frnd X c).s 500 = X.s 500 := fun X => by
      unfold frnd
      by_cases q0 : mn X c = 0
      · rw [if_pos q0]
      · rw [if_neg q0]
        by_cases q1 : allb X c (mn X c) = true
        · rw [if_pos q1, e3]; rfl
        · rw [if_neg q1]
    rw [e4, e2]
    show (fpo D c t (fpot D c - fdis D c t) (feach D c t) (mn D c)).s 500 = 0
    rw [e1, hD, fcols_s]; rfl
  refine ⟨0, nI (wh S (10 * c + t)), fmeet S c x2 t, G, hthr, Or.inr (Or.inr ⟨c, t, hc, rfl, b1, b2, t1', by rw [← ha 527 _ (by decide) (by decide) (by decide) (by decide) (by decide)]; exact t2, by rw [← hD, ← hmn]; exact ht, rfl, rfl⟩), rfl, rfl, rfl, fun Q hQ => ?_, ?_⟩
  · refine ⟨G.x, rfl, h.kx, h.kx, k_circleAt h hnc (fun j hj e => ?_) (fun z => absurd z (ix_cne hc hnc))⟩
    obtain rfl : c = j := (nI_eq (by omega) (by omega)).mp e
    refine ⟨_, rfl, h.kC hc, fun v4 h4 => ⟨fun w6 => False, fun w6 hw => hw.elim, fun z => absurd (by rw [← g4, ← h4]; exact z) b1, fun _ => k_sz h hc ⟨fun _ => ⟨h.kC hc, ?_⟩, fun z => absurd (le2.mpr b2) z⟩⟩⟩
    refine k_collect (S := S.setS 500 0) (m := x2) h.thrown (N0.sh hI) hc (fun w11 q11 => ?_)
    have q11 : RC w11 G D S := by rw [hD]; exact q11
    refine ⟨q11.kC hc', k_upNext q11 hI' hY' hc' (by rw [ha 520 _ (by decide) (by decide) (by decide) (by decide) (by decide)]; exact b1) ?_⟩
    rw [ht]
    refine ⟨q11.kC hc', k_payOut q11 hI' hc' t1 (by rw [hmn]; exact b2) (fun w14 q14 => ?_)⟩
    have hcP : c < nC (fpaid D c t) := by rw [NP.c]; exact hc
    have g15 : w14.I 106 (G.C c) = (fpaid D c t).a 518 c := q14.get (k := 1) (f := 106) (r := 518) (by decide) hcP
    refine ⟨q14.kC hcP, fun v15 h15 v16 h16 => ⟨q14.kC hcP, fun w17 h17 => ?_⟩⟩
    have q17 : RC w17 G ((fpaid D c t).setA 518 c ((fpaid D c t).a 518 c + 1)) S := by
      rw [h17, h16, h15, g15]
      exact RC.set (k := 1) q14 (by decide) (by decide) (by decide) (by decide) hcP
    have hcQ : c < nC ((fpaid D c t).setA 518 c ((fpaid D c t).a 518 c + 1)) := by rw [NQ.c]; exact hc
    refine ⟨q17.kC hcQ, k_clearBids q17 (NQ.sh hI) hcQ (fun w18 q18 => ?_)⟩
    have q18 : RC w18 G (fbid ((fpaid D c t).setA 518 c ((fpaid D c t).a 518 c + 1)) c (mn S c)) S := by
      rw [NQ.m] at q18; exact q18
    have hcB : c < nC (fbid ((fpaid D c t).setA 518 c ((fpaid D c t).a 518 c + 1)) c (mn S c)) := by rw [NB.c]; exact hc
    refine ⟨q18.kC hcB, k_endRound q18 (NB.sh hI) hcB (fun w19 q19 => ?_)⟩
    rw [← hfm] at q19
    refine k_numberAt (o := some t) q19 (NF.sh hI) (by rw [NF.c]; exact hc) (fun b hb' => by cases hb'; rw [NF.m]; exact t1') ?_
    refine out_ok q19 (fun w1 q r => hQ w1 q (fun _ => ?_))
    rw [r]; unfold whoT; rw [NF.w]
  · refine m_isCircle_y hI hc ⟨fun y => y = 0, fun y hy S5 h5 v6 h6 => ?_, fun _ => ⟨c, rfl, hc4, fun v91 h91 => ⟨False, fun z => z.elim, fun z => b1 (h91.symm.trans z), fun z => ⟨c, rfl, hc4, fun v94 h94 => ⟨fun _ => rfl, fun z2 => z2 (by rw [h94, m1]; exact le2.mpr b2)⟩⟩⟩⟩, fun z => absurd z (by decide)⟩
    subst hy h5
    refine ⟨fun _ => ⟨fun n y S10 => ∃ k, k ≤ mn S c ∧ n = mn S c - k ∧ y = nI k ∧ S10 = fcols (S.setS 500 0) c x2 k, ⟨_, 0, Nat.zero_le _, rfl, rfl, rfl⟩, fun n y9 S10 hIv => ?_⟩, fun z => absurd h6 z⟩
    obtain ⟨k, hk, rfl, rfl, rfl⟩ := hIv
    have Nk : Nm S (fcols (S.setS 500 0) c x2 k) := N0.tr (fcols_Nm k)
    refine ⟨c, rfl, hc4, fun v12 h12 => ?_⟩
    rw [Nk.2.2.1, m1] at h12; subst h12
    refine ⟨fun hcc => ?_, fun hcc v86 h86 v87 h87 => ?_⟩
    · have := (nI_leI (by omega) (by omega)).mp hcc
      have e : k = mn S c := by omega
      subst e
      rw [← hD]
      refine m_turnOf hI' hc' ?_
      rw [ht]
      intro v15 h15 v16 h16
      rw [h15] at h16
      have h16 : v16 = nI (10 * c + t) := h16.trans at_ix
      refine ⟨_, h16, hin, fun v18 h18 => ⟨c, rfl, hc4, fun v20 h20 => ⟨c, rfl, hc4, fun v22 h22 => ⟨c, rfl, hc4, fun v24 h24 v25 h25 => ⟨fun y => y = fpot D c, fun y27 hy27 => ⟨c, rfl, hc4, fun v29 h29 => ⟨fun y => y = if D.a 515 c = 3 then D.a 524 (10 * c + t) else 0, fun y31 hy31 => ⟨by decide, fun v32 h32 => ⟨fun y => y = fdis D c t, fun y34 hy34 => ⟨c, rfl, hc4, fun v36 h36 v37 h37 => ⟨?_, fun v38 h38 => ?_⟩⟩, fun z => ⟨by decide, fun v74 h74 => ?_⟩, fun z => ?_⟩⟩, fun z => ?_, fun z v75 h75 v76 h76 => ⟨_, (show v76 = nI (10 * c + t) by rw [h76, h75]; exact at_ix), hin, fun v78 h78 => ?_⟩⟩⟩, fun z => ⟨c, rfl, hc4, fun v80 h80 => ⟨c, rfl, hc4, fun v82 h82 v83 h83 => ?_⟩⟩, fun z => ⟨c, rfl, hc4, fun v85 h85 => ?_⟩⟩⟩⟩⟩⟩
      · rw [h37, h36, m3'.1, hmn]
        obtain ⟨m, hm⟩ : ∃ m, mn S c = m + 1 := ⟨mn S c - 1, by omega⟩
        rw [hm, nI_pred]
        exact nI_ne0 (by omega) (by omega)
      · have e38 : v38 = feach D c t := by rw [h38, hy34, h37, h36]; rfl
        refine ⟨fun n y S42 => ∃ k, k ≤ mn S c ∧ n = mn S c - k ∧ y = nI k ∧ S42 = fbid (fpo D c t (fpot D c - fdis D c t) (feach D c t) k) c k, ⟨_, 0, Nat.zero_le _, rfl, rfl, rfl⟩, fun n y41 S42 hIv => ?_⟩
        obtain ⟨k, hk, rfl, rfl, rfl⟩ := hIv
        have Nf : Nm S (fbid (fpo D c t (fpot D c - fdis D c t) (feach D c t) k) c k) := (N.tr (fpo_Nm k)).tr (fbid_Nm k)
        refine ⟨c, rfl, hc4, fun v44 h44 => ?_⟩
        rw [Nf.2.2.1, m1] at h44; subst h44
        refine ⟨fun hcc v45 h45 v46 h46 => ?_, fun hcc => ?_⟩
        · have := (nI_leI (by omega) (by omega)).mp hcc
          have e : k = mn S c := by omega
          subst e
          rw [h45] at h46
          refine ⟨_, h46.trans at_ix, hin, fun S48 h48 => ⟨c, rfl, hc4, fun v50 h50 v51 h51 => ⟨c, rfl, hc4, fun S53 h53 => ?_⟩⟩⟩
          have e48 : S48 = fbid (fpaid D c t) c (mn S c) := by rw [h48, nar1, fbid_set (by decide)]; unfold fpaid; rw [hmn]
          have e53 : S53 = fbid ((fpaid D c t).setA 518 c ((fpaid D c t).a 518 c + 1)) c (mn S c) := by
            rw [h53, h51, h50, e48, fbid_a (by decide), fbid_set (by decide)]
          rw [e53]
          refine m_rounds (NB.sh hI) (by rw [NB.c]; exact hc) ⟨fun _ => ?_, hfm.symm⟩
          rw [h18, (m3'.2.2 t t1).1, N.w]
        · have hk2 : k < mn S c := Nat.lt_of_not_le (fun z => hcc (nI_le z (by omega)))
          refine ⟨fun y => y = if k = t then (fpot D c - fdis D c t) else (feach D c t), fun y56 hy56 v57 h57 v58 h58 => ?_, fun z => ?_, fun z v73 h73 => ?_⟩
          · rw [h57, at_ix] at h58
            refine ⟨_, h58, by omega, fun v60 h60 v61 h61 => ?_⟩
            rw [Nf.2.2.2.1, (m3 k hk2).1] at h60
            have hp := (m3 k hk2).2
            refine m_paysE h60 (by omega) ⟨c, rfl, hc4, fun v64 h64 v65 h65 => ⟨c, rfl, hc4, fun S67 h67 v68 h68 v69 h69 => ?_⟩⟩
            rw [h68, at_ix] at h69
            refine ⟨_, h69, by omega, fun S71 h71 v72 h72 => ⟨mn S c - (k + 1), by omega, k + 1, by omega, rfl, by rw [h72, nI_1], ?_⟩⟩
            rw [h71, h67, h65, h64, fpay_a (by decide) (by decide), h61, ← fgive_comm, fbid_give, hy56, ← N.w]; rfl
          · rw [e38, if_neg (fun e => z (by rw [e]; rfl))]
          · have e : k = t := (nI_eq (by omega) (by omega)).mp z
            rw [h73, hy27, hy34, if_pos e]
      · -- the discount is the half
        rw [h32, hy27, hy31] at z
        rw [h74, hy27]
        unfold fdis
        by_cases e : D.a 515 c = 3
        · rw [if_pos e] at z ⊢; rw [min_le, if_pos z]
        · rw [if_neg e] at z ⊢; exact Int32.le_antisymm z (i_nle hpot)
      · rw [h32, hy27, hy31] at z
        rw [hy31]
        unfold fdis
        by_cases e : D.a 515 c = 3
        · rw [if_pos e] at z ⊢; rw [if_pos e, min_le, if_neg z]
        · rw [if_neg e, if_neg e]
      · rw [if_neg (fun e => z (h29.trans e))]
      · rw [if_pos (h29.symm.trans z), h78]
      · rw [h25, h24, h22, h20] at z
        rw [h83, h82, h80]; unfold fpot; rw [min_le, if_pos z]
      · rw [h25, h24, h22, h20] at z
        rw [h85]; unfold fpot; rw [min_le, if_neg z]
    · have hk2 : k < mn S c := Nat.lt_of_not_le (fun z => hcc (nI_le z (by omega)))
      rw [h86, at_ix] at h87; subst h87
      have hp := (m3 k hk2)
      refine m_collects hc4 (by omega) (by rw [Nk.2.2.2.1, Nk.w]; exact hp.1) (by rw [Nk.w]; omega) (fun v89 h89 => ⟨mn S c - (k + 1), by omega, k + 1, by omega, rfl, by rw [h89, nI_1], rfl⟩)
