-- ===== a meeting, on both sides
/-- numbers, places, ways and starts are the same -/
def Nm (S S' : MS) : Prop := S'.s 501 = S.s 501 ∧ S'.s 513 = S.s 513 ∧ S'.a 517 = S.a 517 ∧ S'.a 521 = S.a 521 ∧ S'.a 515 = S.a 515 ∧ S'.a 520 = S.a 520
theorem Nm.rf {S : MS} : Nm S S := ⟨rfl, rfl, rfl, rfl, rfl, rfl⟩
theorem Nm.tr {S S1 S2 : MS} (h : Nm S S1) (g : Nm S1 S2) : Nm S S2 := ⟨g.1.trans h.1, g.2.1.trans h.2.1, g.2.2.1.trans h.2.2.1, g.2.2.2.1.trans h.2.2.2.1, g.2.2.2.2.1.trans h.2.2.2.2.1, g.2.2.2.2.2.trans h.2.2.2.2.2⟩
theorem Nm.st {S S1 : MS} {r j : Nat} {v : Int32} (hr : 517 ≠ r ∧ 521 ≠ r ∧ 515 ≠ r ∧ 520 ≠ r) (h : Nm S S1) : Nm S (S1.setA r j v) :=
  ⟨h.1, h.2.1, (funext fun _ => a_f hr.1).trans h.2.2.1, (funext fun _ => a_f hr.2.1).trans h.2.2.2.1, (funext fun _ => a_f hr.2.2.1).trans h.2.2.2.2.1, (funext fun _ => a_f hr.2.2.2).trans h.2.2.2.2.2⟩
theorem Nm.ss {S S1 : MS} {f : Nat} {v : Int32} (hf : 501 ≠ f ∧ 513 ≠ f) (h : Nm S S1) : Nm S (S1.setS f v) :=
  ⟨(s_f hf.1).trans h.1, (s_f hf.2).trans h.2.1, h.2.2⟩
theorem Nm.p {S S1 : MS} (h : Nm S S1) : nP S1 = nP S := by unfold nP; rw [h.1]
theorem Nm.c {S S1 : MS} (h : Nm S S1) : nC S1 = nC S := by unfold nC; rw [h.2.1]
theorem Nm.m {S S1 : MS} (h : Nm S S1) : mn S1 = mn S := by funext x; unfold mn; rw [h.2.2.1]
theorem Nm.w {S S1 : MS} (h : Nm S S1) : wh S1 = wh S := by funext x; unfold wh; rw [h.2.2.2.1]
theorem Nm.sh {S S1 : MS} (h : Nm S S1) (g : SH S) : SH S1 := by
  unfold SH at g ⊢; rw [h.p, h.c, h.m, h.w, h.1, h.2.1, h.2.2.1, h.2.2.2.1]; exact g
theorem Nm.di {S S1 : MS} (h : Nm S S1) (g : DI S) : DI S1 := by
  unfold DI at g ⊢; rw [h.c, h.m, h.w]; exact g
theorem Nm.wy {S S1 : MS} (h : Nm S S1) (g : WY S) : WY S1 := by
  unfold WY at g ⊢; rw [h.c, h.2.2.2.2.1, h.2.2.2.2.2]; exact g
theorem Nm.i3 {S S1 : MS} {j : Nat} (h : Nm S S1) (g : inr 3 j S) : inr 3 j S1 := by
  obtain ⟨c, i, e, hc, hi⟩ := g
  exact ⟨c, i, e, by rw [h.c]; exact hc, by rw [h.m]; exact hi⟩
theorem fpay_Nm {S S1 : MS} {i : Nat} {v : Int32} (h : Nm S S1) : Nm S (fpay S1 i v) := (h.st (by decide)).st (by decide)
theorem fgive_Nm {S S1 : MS} {c i : Nat} {v : Int32} (h : Nm S S1) : Nm S (fgive S1 c i v) := fpay_Nm (h.st (by decide))
theorem fcol_Nm {S S1 : MS} {c j : Nat} {m : Int32} (h : Nm S S1) : Nm S (fcol S1 c j m) := (((fpay_Nm h).st (by decide)).st (by decide)).st (by decide)
theorem fcols_Nm {S : MS} {c : Nat} {m : Int32} : ∀ k, Nm S (fcols S c m k) := by
  intro k
  induction k with
  | zero => exact Nm.rf
  | succ k ih => exact fcol_Nm ih
theorem k_collect {w : Wd} {G : GH} {S S0 : MS} {c : Nat} {m : Int32} {Q : Wd → Prop} (h : RC w G S S0) (hI : SH S) (hc : c < nC S) (hQ : ∀ w1, RC w1 G (fcols S c m (mn S c)) S0 → Q w1) : wp_X0_collect (G.C c) m w Q := by
  obtain ⟨m1, m2, m3⟩ := hI.2.2.2.2 c hc
  refine ⟨fun n y w4 => ∃ k, k ≤ mn S c ∧ n = mn S c - k ∧ y = nI k ∧ RC w4 G (fcols S c m k) S0, ⟨_, 0, Nat.zero_le _, rfl, rfl, h⟩, fun n y w4 hIv => ?_⟩
  obtain ⟨k, hk, rfl, rfl, q⟩ := hIv
  have N : Nm S (fcols S c m k) := fcols_Nm k
  obtain ⟨T, hT⟩ : ∃ T, T = fcols S c m k := ⟨_, rfl⟩
  have hT1 : fcols S c m (k + 1) = fcol T c (10 * c + k) m := by rw [hT]; rfl
  rw [← hT] at q N
  have hc' : c < nC T := by rw [N.c]; exact hc
  have hmn : mn T c = mn S c := by rw [N.m]
  refine k_sz q hc' ?_
  rw [hmn]
  refine ⟨fun hcc => ?_, fun hcc => ?_⟩
  · have := (nI_leI (by omega) (by omega)).mp hcc
    have e : k = mn S c := by omega
    subst e; subst hT
    exact hQ _ q
  have hk2 : k < mn S c := Nat.lt_of_not_le (fun z => hcc (nI_le z (by omega)))
  obtain ⟨j, hj⟩ : ∃ j, j = 10 * c + k := ⟨_, rfl⟩
  refine k_at q hc' (by rw [hmn]; exact hk2) rfl ?_
  rw [← hj] at hT1 ⊢
  have hin : inr 3 j T := ⟨c, k, hj, hc', by rw [hmn]; exact hk2⟩
  obtain ⟨i, hi⟩ : ∃ i, i = wh T j := ⟨_, rfl⟩
  have hp : i < nP T := by rw [hi, N.w, N.p, hj]; exact (m3 k hk2).2
  have hold := q.hold hin
  rw [← hi] at hold
  have g14 : w4.I 100 (G.C c) = T.a 514 c := q.get (k := 1) (f := 100) (r := 514) (by decide) hc'
  have g16 : w4.I 301 (G.L j) = T.a 522 j := q.get (k := 3) (f := 301) (r := 522) (by decide) hin
  have g20 : w4.I 204 (G.P i) = T.a 504 i := q.get (k := 2) (f := 204) (r := 504) (by decide) hp
  refine ⟨q.kC hc', fun v14 h14 => ⟨_, rfl, q.kL hin, fun v16 h16 v17 h17 => ⟨q.kL hin, fun z18 h18 => ⟨_, h18.trans hold, q.kP hp, fun v20 h20 v21 h21 => ⟨q.kL hin, fun z22 h22 => ⟨_, h22.trans hold, q.kP hp, k_payIn q hp (fun w24 q24 => ?_)⟩⟩⟩⟩⟩⟩
  have e17 : v17 = owes T c j := by rw [h17, h14, h16, g14, g16]; rfl
  have e21 : v21 = cpay T c j := by rw [h21, h20, g20, e17, cpay, hi]
  have hin24 : inr 3 j (fpay T i v21) := (fpay_Nm Nm.rf).i3 hin
  have g25 : w24.I 304 (G.L j) = T.a 525 j := (q24.get (k := 3) (f := 304) (r := 525) (by decide) hin24).trans (fpay_a (by decide) (by decide))
  refine ⟨q24.kL hin24, fun v25 h25 v26 h26 => ⟨q24.kL hin24, fun w27 h27 => ?_⟩⟩
  have q27 : RC w27 G ((fpay T i v21).setA 525 j (T.a 525 j + v21)) S0 := by
    rw [h27, h26, h25, g25]
    exact RC.set (k := 3) q24 (by decide) (by decide) (by decide) (by decide) hin24
  have hin27 : inr 3 j ((fpay T i v21).setA 525 j (T.a 525 j + v21)) := ((fpay_Nm Nm.rf).st (by decide)).i3 hin
  have g28 : w27.I 105 (G.C c) = T.a 516 c := (q27.get (k := 1) (f := 105) (r := 516) (by decide) hc').trans ((a_f (by decide)).trans (fpay_a (by decide) (by decide)))
  refine ⟨q27.kC hc', fun v28 h28 v29 h29 => ⟨q27.kC hc', fun w30 h30 v31 h31 => ?_⟩⟩
  have q30 : RC w30 G (((fpay T i v21).setA 525 j (T.a 525 j + v21)).setA 516 c (T.a 516 c + v21)) S0 := by
    rw [h30, h29, h28, g28]
    exact RC.set (k := 1) q27 (by decide) (by decide) (by decide) (by decide) hc'
  rw [setA_comm (by decide)] at q30
  obtain ⟨U, hU⟩ : ∃ U, U = ((fpay T i v21).setA 516 c (T.a 516 c + v21)).setA 525 j (T.a 525 j + v21) := ⟨_, rfl⟩
  rw [← hU] at q30
  have hin30 : inr 3 j U := by rw [hU]; exact (((fpay_Nm Nm.rf).st (by decide)).st (by decide)).i3 hin
  refine ⟨q30.kL hin30, fun w32 h32 => ?_⟩
  have q32 : RC w32 G (U.setA 522 j (owes T c j - cpay T c j)) S0 := by
    rw [h32, h31, e17, e21]
    exact RC.set (k := 3) q30 (by decide) (by decide) (by decide) (by decide) hin30
  have hin32 : inr 3 j (U.setA 522 j (owes T c j - cpay T c j)) := (inr_setA (by decide)).mpr hin30
  have g33 : w32.I 301 (G.L j) = owes T c j - cpay T c j := (q32.get (k := 3) (f := 301) (r := 522) (by decide) hin32).trans a_e
  have hfin : ∀ z, z = crest T c j m → U.setA 522 j z = fcols S c m (k + 1) := fun z hz => by rw [hT1, hz, hU, e21, hi]; rfl
  have hcU : c < nC U := by rw [hU]; exact hc'
  have g38 : w32.I 100 (G.C c) = T.a 514 c := (q32.get (k := 1) (f := 100) (r := 514) (by decide) hcU).trans ((a_f (by decide)).trans (by rw [hU, a_f (by decide), a_f (by decide), fpay_a (by decide) (by decide)]))
  refine ⟨q32.kL hin32, fun v33 h33 => ⟨fun w35 => RC w35 G (fcols S c m (k + 1)) S0, fun w35 q35 v36 h36 => ⟨mn S c - (k + 1), by omega, k + 1, by omega, rfl, by rw [h36, nI_1], q35⟩, fun hz => ?_, fun hz => ⟨fun hm => ?_, fun hm => ⟨q32.kL hin32, fun v37 h37 => ⟨q32.kC hcU, fun v38 h38 => ⟨by decide, fun v39 h39 v40 h40 => ⟨q32.kL hin32, fun w41 h41 => ?_⟩⟩⟩⟩⟩⟩⟩
  · rw [← hfin (owes T c j - cpay T c j) (by rw [crest, if_pos (Or.inl (by rw [← g33, ← h33]; exact hz))])]; exact q32
  · rw [← hfin (owes T c j - cpay T c j) (by rw [crest, if_pos (Or.inr hm)])]; exact q32
  · have q41 : RC w41 G ((U.setA 522 j (owes T c j - cpay T c j)).setA 522 j v40) S0 := by
      rw [h41]; exact RC.set (k := 3) q32 (by decide) (by decide) (by decide) (by decide) hin32
    rw [setA_idem, hfin v40 (by rw [crest, if_neg (fun z => z.elim (fun z => hz (by rw [h33, g33]; exact z)) (fun z => z hm)), h40, h39, h38, h37, g33, g38])] at q41
    exact q41
/-- who has the turn: one of those who had none -/
theorem tof_none {S : MS} {c : Nat} : ∀ k, tof S c k = none → ∀ j, j < k → ¬ S.a 527 (10 * c + j) = 0 := by
  intro k
  induction k with
  | zero => exact fun _ j hj => absurd hj (Nat.not_lt_zero _)
  | succ k ih =>
    intro h j hj h0
    rw [tof] at h
    by_cases e : S.a 527 (10 * c + k) = 0
    · rw [if_pos e] at h
      cases ht : tof S c k with
      | none => rw [ht] at h; cases h
      | some b =>
        rw [ht] at h
        have h : (if bet S c k b = true then some k else some b) = none := h
        by_cases e2 : bet S c k b = true
        · rw [if_pos e2] at h; cases h
        · rw [if_neg e2] at h; cases h
    · rw [if_neg e] at h
      rcases Nat.lt_or_ge j k with e2 | e2
      · exact ih h j e2 h0
      · rw [show j = k by omega] at h0; exact e h0
/-- the first k members get g, or e -/
def fpo (S : MS) (c t : Nat) (g e : Int32) : Nat → MS
  | 0 => S
  | k + 1 => fgive (fpo S c t g e k) c (wh S (10 * c + k)) (if k = t then g else e)
theorem fpo_Nm {S : MS} {c t : Nat} {g e : Int32} : ∀ k, Nm S (fpo S c t g e k) := by
  intro k
  induction k with
  | zero => exact Nm.rf
  | succ k ih => exact fgive_Nm ih
def fpot (S : MS) (c : Nat) : Int32 := if S.a 514 c * S.a 517 c < S.a 516 c then S.a 514 c * S.a 517 c else S.a 516 c
def fdis (S : MS) (c t : Nat) : Int32 := if S.a 515 c = 3 then (if fpot S c / 2 < S.a 524 (10 * c + t) then fpot S c / 2 else S.a 524 (10 * c + t)) else 0
def feach (S : MS) (c t : Nat) : Int32 := fdis S c t / (S.a 517 c - 1)
def fpaid (S : MS) (c t : Nat) : MS := (fpo S c t (fpot S c - fdis S c t) (feach S c t) (mn S c)).setA 527 (10 * c + t) 1
theorem k_payOut {w : Wd} {G : GH} {S S0 : MS} {c t : Nat} {Q : Wd → Prop} (h : RC w G S S0) (hI : SH S) (hc : c < nC S) (ht : t < mn S c) (h2 : 2 ≤ mn S c) (hQ : ∀ w1, RC w1 G (fpaid S c t) S0 → Q w1) : wp_X0_payOut (G.C c) (some (G.L (10 * c + t))) w Q := by
  obtain ⟨m1, m2, m3⟩ := hI.2.2.2.2 c hc
  have g1 : w.I 105 (G.C c) = S.a 516 c := h.get (k := 1) (f := 105) (r := 516) (by decide) hc
  have g2 : w.I 100 (G.C c) = S.a 514 c := h.get (k := 1) (f := 100) (r := 514) (by decide) hc
  have g9 : w.I 101 (G.C c) = S.a 515 c := h.get (k := 1) (f := 101) (r := 515) (by decide) hc
  have hint : inr 3 (10 * c + t) S := ⟨c, t, rfl, hc, ht⟩
  refine ⟨fun _ => ⟨h.kC hc, fun v1 h1 => ⟨h.kC hc, fun v2 e2 => k_sz h hc (fun v7 h7 v8 h8 => ⟨h.kC hc, fun v9 h9 => ⟨fun y => y = fdis S c t, fun y11 hy => k_sz h hc (fun v16 h16 => ⟨fun y => y = feach S c t, fun y18 h18 => ?_, fun z => ?_, fun _ => ⟨?_, fun v42 h42 => ?_⟩⟩), fun z => ?_, fun z => ⟨_, rfl, h.kL hint, fun v44 h44 => ⟨by decide, fun v45 h45 v46 h46 => ?_⟩⟩⟩⟩)⟩⟩, fun z => by cases z⟩
  · have e8 : v8 = fpot S c := by rw [h8, h7, h1, e2, g1, g2, ← m1]; rfl
    refine ⟨fun n y w4 => ∃ k, k ≤ mn S c ∧ n = mn S c - k ∧ y = nI k ∧ RC w4 G (fpo S c t (fpot S c - fdis S c t) (feach S c t) k) S0, ⟨_, 0, Nat.zero_le _, rfl, rfl, h⟩, fun n y w4 hIv => ?_⟩
    obtain ⟨k, hk, rfl, rfl, q⟩ := hIv
    have N : Nm S (fpo S c t (fpot S c - fdis S c t) (feach S c t) k) := fpo_Nm k
    have hT1 : fpo S c t (fpot S c - fdis S c t) (feach S c t) (k + 1) = fgive (fpo S c t (fpot S c - fdis S c t) (feach S c t) k) c (wh S (10 * c + k)) (if k = t then (fpot S c - fdis S c t) else (feach S c t)) := rfl
    obtain ⟨T, hT⟩ : ∃ T, T = fpo S c t (fpot S c - fdis S c t) (feach S c t) k := ⟨_, rfl⟩
    rw [← hT] at q N hT1
    have hc' : c < nC T := by rw [N.c]; exact hc
    have hmn : mn T c = mn S c := by rw [N.m]
    refine k_sz q hc' ?_
    rw [hmn]
    refine ⟨fun hcc => ?_, fun hcc => ?_⟩
    · have := (nI_leI (by omega) (by omega)).mp hcc
      have e : k = mn S c := by omega
      have hin : inr 3 (10 * c + t) T := N.i3 hint
      refine ⟨_, rfl, q.kL hin, Or.inr rfl, fun w28 h28 => hQ w28 ?_⟩
      rw [h28]
      unfold fpaid
      rw [← e, ← hT]
      exact RC.set (k := 3) q (by decide) (by decide) (by decide) (by decide) hin
    · have hk2 : k < mn S c := Nat.lt_of_not_le (fun z => hcc (nI_le z (by omega)))
      refine k_at q hc' (by rw [hmn]; exact hk2) rfl ?_
      have hin : inr 3 (10 * c + k) T := ⟨c, k, rfl, hc', by rw [hmn]; exact hk2⟩
      have hp : wh T (10 * c + k) < nP T := by rw [N.w, N.p]; exact (m3 k hk2).2
      refine ⟨fun q1 q2 y => q1 = some (G.C c) ∧ q2 = some (G.L (10 * c + k)) ∧ y = if k = t then (fpot S c - fdis S c t) else (feach S c t), fun q1 q2 y hj => ?_, fun z => ⟨rfl, rfl, ?_⟩, fun z v41 h41 => ⟨rfl, rfl, ?_⟩⟩
      · obtain ⟨rfl, rfl, rfl⟩ := hj
        refine ⟨_, rfl, q.kC hc', k_giveOut q hc' hin hp (fun w39 q39 v40 h40 => ⟨mn S c - (k + 1), by omega, k + 1, by omega, rfl, by rw [h40, nI_1], ?_⟩)⟩
        rw [hT1, ← N.w]; exact q39
      · rw [if_neg (fun e => z (by rw [e])), h18]
      · have e : 10 * c + k = 10 * c + t := q.linj hin (N.i3 hint) (by injection z)
        rw [if_pos (by omega), h41, e8, hy]
  · rw [h16] at z
    obtain ⟨m, hm⟩ : ∃ m, mn S c = m + 1 := ⟨mn S c - 1, by omega⟩
    rw [hm, nI_pred] at z
    exact absurd z (nI_nle (by omega) (by omega))
  · rw [h16]
    obtain ⟨m, hm⟩ : ∃ m, mn S c = m + 1 := ⟨mn S c - 1, by omega⟩
    rw [hm, nI_pred]
    exact nI_ne0 (by omega) (by omega)
  · rw [h42, hy, h16, ← m1]; rfl
  · rw [h9, g9] at z
    unfold fdis; rw [if_neg z]
  · rw [h9, g9] at z
    have g44 : w.I 303 (G.L (10 * c + t)) = S.a 524 (10 * c + t) := h.get (k := 3) (f := 303) (r := 524) (by decide) hint
    have e8 : v8 = fpot S c := by rw [h8, h7, h1, e2, g1, g2, ← m1]; rfl
    unfold fdis; rw [if_pos z, h46, h45, e8, h44, g44]
/-- bids of the first k members are 0 -/
def fbid (S : MS) (c : Nat) : Nat → MS
  | 0 => S
  | k + 1 => (fbid S c k).setA 524 (10 * c + k) 0
theorem fbid_Nm {S : MS} {c : Nat} : ∀ k, Nm S (fbid S c k) := by
  intro k
  induction k with
  | zero => exact Nm.rf
  | succ k ih => exact ih.st (by decide)
theorem k_clearBids {w : Wd} {G : GH} {S S0 : MS} {c : Nat} {Q : Wd → Prop} (h : RC w G S S0) (hI : SH S) (hc : c < nC S) (hQ : ∀ w1, RC w1 G (fbid S c (mn S c)) S0 → Q w1) : wp_X0_clearBids (G.C c) w Q := by
  obtain ⟨m1, m2, m3⟩ := hI.2.2.2.2 c hc
  refine ⟨fun n y w4 => ∃ k, k ≤ mn S c ∧ n = mn S c - k ∧ y = nI k ∧ RC w4 G (fbid S c k) S0, ⟨_, 0, Nat.zero_le _, rfl, rfl, h⟩, fun n y w4 hIv => ?_⟩
  obtain ⟨k, hk, rfl, rfl, q⟩ := hIv
  have N : Nm S (fbid S c k) := fbid_Nm k
  have hc' : c < nC (fbid S c k) := by rw [N.c]; exact hc
  have hmn : mn (fbid S c k) c = mn S c := by rw [N.m]
  refine k_sz q hc' ?_
  rw [hmn]
  refine ⟨fun hcc => ?_, fun hcc => ?_⟩
  · have := (nI_leI (by omega) (by omega)).mp hcc
    have e : k = mn S c := by omega
    subst e
    exact hQ _ q
  · have hk2 : k < mn S c := Nat.lt_of_not_le (fun z => hcc (nI_le z (by omega)))
    have hin : inr 3 (10 * c + k) (fbid S c k) := ⟨c, k, rfl, hc', by rw [hmn]; exact hk2⟩
    refine k_at q hc' (by rw [hmn]; exact hk2) rfl ⟨_, rfl, q.kL hin, fun w15 h15 v16 h16 => ⟨mn S c - (k + 1), by omega, k + 1, by omega, rfl, by rw [h16, nI_1], ?_⟩⟩
    rw [h15]
    exact RC.set (k := 3) q (by decide) (by decide) (by decide) (by decide) hin
/-- did the first k all have a turn -/
def allb (S : MS) (c : Nat) : Nat → Bool
  | 0 => true
  | k + 1 => allb S c k && decide (¬ S.a 527 (10 * c + k) = 0)
theorem allb_iff {S : MS} {c : Nat} : ∀ k, allb S c k = true ↔ ∀ j, j < k → ¬ S.a 527 (10 * c + j) = 0 := by
  intro k
  induction k with
  | zero => exact ⟨fun _ j hj => absurd hj (Nat.not_lt_zero _), fun _ => rfl⟩
  | succ k ih =>
    rw [allb, Bool.and_eq_true, decide_eq_true_iff, ih]
    constructor
    · rintro ⟨h1, h2⟩ j hj
      rcases Nat.lt_or_ge j k with e | e
      · exact h1 j e
      · rw [show j = k by omega]; exact h2
    · exact fun h => ⟨fun j hj => h j (by omega), h k (by omega)⟩
def fclr (S : MS) (c : Nat) : Nat → MS
  | 0 => S
  | k + 1 => ((fclr S c k).setA 527 (10 * c + k) 0).setA 525 (10 * c + k) 0
theorem fclr_Nm {S : MS} {c : Nat} : ∀ k, Nm S (fclr S c k) := by
  intro k
  induction k with
  | zero => exact Nm.rf
  | succ k ih => exact (ih.st (by decide)).st (by decide)
theorem fclr_set {S : MS} {c r j : Nat} {v : Int32} (h1 : 527 ≠ r) (h2 : 525 ≠ r) : ∀ k, (fclr S c k).setA r j v = fclr (S.setA r j v) c k := by
  intro k
  induction k with
  | zero => rfl
  | succ k ih => rw [fclr, fclr, setA_comm h2, setA_comm h1, ih]
theorem fclr_a {S : MS} {c r j : Nat} (h1 : r ≠ 527) (h2 : r ≠ 525) : ∀ k, (fclr S c k).a r j = S.a r j := by
  intro k
  induction k with
  | zero => rfl
  | succ k ih => rw [fclr, a_f h2, a_f h1, ih]
/-- a new round, if all members had a turn -/
def frnd (S : MS) (c : Nat) : MS := if mn S c = 0 then S else if allb S c (mn S c) = true then fclr (S.setA 519 c (S.a 519 c + 1)) c (mn S c) else S
theorem frnd_Nm {S : MS} {c : Nat} : Nm S (frnd S c) := by
  unfold frnd
  by_cases h0 : mn S c = 0
  · rw [if_pos h0]; exact Nm.rf
  · rw [if_neg h0]
    by_cases h1 : allb S c (mn S c) = true
    · rw [if_pos h1]; exact (Nm.rf.st (by decide)).tr (fclr_Nm _)
    · rw [if_neg h1]; exact Nm.rf
theorem k_endRound {w : Wd} {G : GH} {S S0 : MS} {c : Nat} {Q : Wd → Prop} (h : RC w G S S0) (hI : SH S) (hc : c < nC S) (hQ : ∀ w1, RC w1 G (frnd S c) S0 → Q w1) : wp_X0_endRoundIfAllHadTurns (G.C c) w Q := by
  obtain ⟨m1, m2, m3⟩ := hI.2.2.2.2 c hc
  obtain ⟨l1, l2⟩ := h.lL hc
  have hz : ∀ {Q : Int32 → Wd → Prop}, Q (if mn S c = 0 then 1 else 0) w → w.K (G.C c) = 1 ∧ ∀ z : Option Nat, z = w.R 102 (G.C c) → ∃ a, z = some a ∧ w.K a = 6 ∧ wp_Jx4a65c_isEmpty_aae02 a w Q := fun {Q} hq =>
    ⟨h.kC hc, fun z hz => ⟨_, hz.trans l1, l2.1, s_isEmpty (by rw [map_len]; omega) l2 (by rw [map_len]; exact hq)⟩⟩
  refine hz ?_
  by_cases h0 : mn S c = 0
  · rw [if_pos h0]
    refine ⟨fun z => absurd z (by decide), fun _ => hQ w ?_⟩
    unfold frnd; rw [if_pos h0]; exact h
  rw [if_neg h0]
  refine ⟨fun _ => ⟨fun n y w4 => ∃ k, k ≤ mn S c ∧ n = mn S c - k ∧ y = nI k ∧ (∀ j, j < k → ¬ S.a 527 (10 * c + j) = 0) ∧ w4 = w, ⟨_, 0, Nat.zero_le _, rfl, rfl, fun j hj => absurd hj (Nat.not_lt_zero _), rfl⟩, fun n y w4 hIv => ?_⟩, fun z => absurd rfl z⟩
  obtain ⟨k, hk, rfl, rfl, ha, rfl⟩ := hIv
  refine k_sz h hc ⟨fun hcc => ?_, fun hcc => ?_⟩
  · have := (nI_leI (by omega) (by omega)).mp hcc
    have e : k = mn S c := by omega
    subst e
    have hr : frnd S c = fclr (S.setA 519 c (S.a 519 c + 1)) c (mn S c) := by
      unfold frnd; rw [if_neg h0, if_pos ((allb_iff _).mpr ha)]
    refine ⟨fun n y w5 => ∃ k, k ≤ mn S c ∧ n = mn S c - k ∧ y = nI k ∧ RC w5 G (fclr S c k) S0, ⟨_, 0, Nat.zero_le _, rfl, rfl, h⟩, fun n y w5 hIv => ?_⟩
    obtain ⟨k, hk, rfl, rfl, q⟩ := hIv
    have N : Nm S (fclr S c k) := fclr_Nm k
    have hc' : c < nC (fclr S c k) := by rw [N.c]; exact hc
    have hmn : mn (fclr S c k) c = mn S c := by rw [N.m]
    refine k_sz q hc' ?_
    rw [hmn]
    refine ⟨fun hcc => ?_, fun hcc => ?_⟩
    · have := (nI_leI (by omega) (by omega)).mp hcc
      have e : k = mn S c := by omega
      have g : w5.I 107 (G.C c) = S.a 519 c := (q.get (k := 1) (f := 107) (r := 519) (by decide) hc').trans (fclr_a (by decide) (by decide) _)
      refine ⟨q.kC hc', fun v21 h21 v22 h22 => ⟨q.kC hc', fun w23 h23 => hQ w23 ?_⟩⟩
      rw [hr, ← e, ← fclr_set (by decide) (by decide), h23, h22, h21, g]
      exact RC.set (k := 1) q (by decide) (by decide) (by decide) (by decide) hc'
    · have hk2 : k < mn S c := Nat.lt_of_not_le (fun z => hcc (nI_le z (by omega)))
      have hin : inr 3 (10 * c + k) (fclr S c k) := ⟨c, k, rfl, hc', by rw [hmn]; exact hk2⟩
      refine k_at q hc' (by rw [hmn]; exact hk2) rfl ⟨_, rfl, q.kL hin, Or.inl rfl, fun w30 h30 => ?_⟩
      have q30 : RC w30 G ((fclr S c k).setA 527 (10 * c + k) 0) S0 := by
        rw [h30]; exact RC.set (k := 3) q (by decide) (by decide) (by decide) (by decide) hin
      have hmn2 : mn ((fclr S c k).setA 527 (10 * c + k) 0) c = mn S c := by rw [mn_setA (by decide)]; exact hmn
      have hin2 : inr 3 (10 * c + k) ((fclr S c k).setA 527 (10 * c + k) 0) := (inr_setA (by decide)).mpr hin
      refine k_at q30 hc' (by rw [hmn2]; exact hk2) rfl ⟨_, rfl, q30.kL hin2, fun w37 h37 v38 h38 => ⟨mn S c - (k + 1), by omega, k + 1, by omega, rfl, by rw [h38, nI_1], ?_⟩⟩
      rw [h37]
      exact RC.set (k := 3) q30 (by decide) (by decide) (by decide) (by decide) hin2
  · have hk2 : k < mn S c := Nat.lt_of_not_le (fun z => hcc (nI_le z (by omega)))
    have hin : inr 3 (10 * c + k) S := ⟨c, k, rfl, hc, hk2⟩
    have g : w4.I 305 (G.L (10 * c + k)) = S.a 527 (10 * c + k) := h.get (k := 3) (f := 305) (r := 527) (by decide) hin
    refine k_at h hc hk2 rfl ⟨_, rfl, h.kL hin, fun v45 h45 => ⟨fun z v46 h46 => ⟨mn S c - (k + 1), by omega, k + 1, by omega, rfl, by rw [h46, nI_1], fun j hj => ?_, rfl⟩, fun z => hQ w4 ?_⟩⟩
    · rcases Nat.lt_or_ge j k with e | e
      · exact ha j e
      · rw [show j = k by omega, ← g, ← h45]; exact z
    · unfold frnd
      rw [if_neg h0, if_neg (fun q => (allb_iff _).mp q k hk2 (by rw [← g, ← h45]; exact z))]; exact h
