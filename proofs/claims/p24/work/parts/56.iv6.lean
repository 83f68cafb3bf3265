-- ===== what every run keeps: meetings; bids
theorem fpo_a {S : MS} {c t r x : Nat} {g e : Int32} (h1 : r ≠ 504) (h2 : r ≠ 511) (h3 : r ≠ 516) : ∀ k, (fpo S c t g e k).a r x = S.a r x := by
  intro k
  induction k with
  | zero => rfl
  | succ k ih => rw [fpo, fgive_a h1 h2 h3, ih]
theorem fpo_s {S : MS} {c t f : Nat} {g e : Int32} : ∀ k, (fpo S c t g e k).s f = S.s f := by
  intro k
  induction k with
  | zero => rfl
  | succ k ih => rw [fpo, ← ih]; rfl
theorem fbid_s {S : MS} {c f : Nat} : ∀ k, (fbid S c k).s f = S.s f := by
  intro k
  induction k with
  | zero => rfl
  | succ k ih => rw [fbid, setA_s, ih]
theorem fbid_4 {S : MS} {c x : Nat} : ∀ k, (fbid S c k).a 524 x = 0 ∨ (fbid S c k).a 524 x = S.a 524 x := by
  intro k
  induction k with
  | zero => exact Or.inr rfl
  | succ k ih =>
    rw [fbid]
    by_cases e : x = 10 * c + k
    · rw [e, a_e]; exact Or.inl rfl
    · rw [a_b e]; exact ih
theorem fbid_lg {S : MS} {c : Nat} : ∀ k, LG S (fbid S c k) := by
  intro k
  induction k with
  | zero => exact LG.rf
  | succ k ih => exact ih.xpl (by decide)
theorem BD.sm {S S' : MS} (h : BD S) (hr : Sm [524] S S') : BD S' := fun x => by rw [hr 524 (by decide)]; exact h x
theorem meet_D {n c a b : Nat} {m : Int32} {S : MS} (h : IV n S) (hn : n ≤ 512) (hc : c < nC S) (hab : a + b ≤ n) (mo : MO 0 a S) (pb : PB a b S) : 0 ≤ (fpot (fcols (S.setS 500 0) c m (mn S c)) c).toInt ∧ (fpot (fcols (S.setS 500 0) c m (mn S c)) c).toInt ≤ ((fcols (S.setS 500 0) c m (mn S c)).a 516 c).toInt := by
  obtain ⟨i1, -, -, -, -, -, -, -, -, -, -, i12, -⟩ := id h
  obtain ⟨l1, l2, l3, l4⟩ := fcols_k (m := m) i1 hc hn hab mo i12 pb (mn S c) (Nat.le_refl _)
  obtain ⟨s1, s2, -⟩ := i12 c hc
  have e14 : (fcols (S.setS 500 0) c m (mn S c)).a 514 c = S.a 514 c := fcols_a (S := S.setS 500 0) (by decide) (by decide) (by decide) (by decide) (by decide) _
  have hIX := l1.1.sh i1
  have hcX : c < nC (fcols (S.setS 500 0) c m (mn S c)) := by rw [l1.1.c]; exact hc
  exact fpot_i l4 (by have := i1.2.2.2.1; omega) (by rw [e14]; exact s1) (by rw [e14]; exact s2) (hIX.2.2.2.2 c hcX).1 (hIX.2.2.2.2 c hcX).2.1
theorem IV.hP {n : Nat} {S : MS} (h : IV n S) (hn : n ≤ 512) (c : Nat) (m : Int32) (hc : c < nC S) : ¬ fpot (fcols (S.setS 500 0) c m (mn S c)) c / 2 < 0 := by
  obtain ⟨-, -, -, -, -, -, -, -, -, -, -, -, a, b, hab, mo, pb⟩ := id h
  have h1 := (meet_D (m := m) h hn hc hab mo pb).1
  refine nneg_of ?_
  rw [half_i h1]; omega
theorem IV.meet {n c t : Nat} {m : Int32} {S : MS} (h : IV n S) (bd : BD S) (hn : n ≤ 512) (hc : c < nC S) (hs : ¬ S.a 520 c = 0) (h2 : 2 ≤ mn S c) (ht : t < mn S c) : IV (n + 1) (fmeet S c m t) ∧ BD (fmeet S c m t) := by
  obtain ⟨i1, i2, i3, i4, i5, i6, i7, i8, i9, i10, i11, i12, a, b, hab, mo, pb⟩ := id h
  have hm10 : ∀ c', c' < nC S → mn S c' ≤ 10 := fun c' hc' => (i1.2.2.2.2 c' hc').2.1
  have hmc := hm10 c hc
  obtain ⟨l1, l2, l3, l4⟩ := fcols_k (m := m) i1 hc hn hab mo i12 pb (mn S c) (Nat.le_refl _)
  obtain ⟨p0, p1⟩ := meet_D (m := m) h hn hc hab mo pb
  obtain ⟨D, hD⟩ : ∃ D, D = fcols (S.setS 500 0) c m (mn S c) := ⟨_, rfl⟩
  have ea : ∀ r x, r ≠ 504 → r ≠ 511 → r ≠ 516 → r ≠ 525 → r ≠ 522 → D.a r x = S.a r x := fun r x q1 q2 q3 q4 q5 => by rw [hD]; exact fcols_a (S := S.setS 500 0) q1 q2 q3 q4 q5 _
  have hfm : fmeet S c m t = frnd (fbid ((fpaid D c t).setA 518 c ((fpaid D c t).a 518 c + 1)) c (mn S c)) c := by rw [hD]; rfl
  rw [← hD] at l1 l2 l3 l4 p0 p1
  rw [hfm]
  have N := l1.1
  have hcD : c < nC D := by rw [N.c]; exact hc
  have hmD : mn D c = mn S c := by rw [N.m]
  have hID := N.sh i1
  have bdD : BD D := bd.sm (fun r hr x => by have : r = 524 := by simpa using hr
                                             subst this; exact ea 524 x (by decide) (by decide) (by decide) (by decide) (by decide))
  obtain ⟨d0, d1⟩ := fdis_i (t := t) bdD p0
  have b1 := l4.bm (show c < 4 by have := i1.2.2.2.1; omega)
  have hg : (fpot D c - fdis D c t).toInt = (fpot D c).toInt - (fdis D c t).toInt := z_sub (by omega) (by omega)
  have h17 : (D.a 517 c - 1).toInt = (mn S c : Int) - 1 := by
    rw [(hID.2.2.2.2 c hcD).1, hmD]
    obtain ⟨k, hk⟩ : ∃ k, mn S c = k + 1 := ⟨mn S c - 1, by omega⟩
    rw [hk, nI_pred, nI_toInt (by omega)]; omega
  have hne : D.a 517 c - 1 ≠ -1 := fun z => by
    rw [z] at h17
    have : (-1 : Int32).toInt = -1 := by decide
    omega
  have he : (feach D c t).toInt = (fdis D c t).toInt / ((mn S c : Int) - 1) := by
    unfold feach
    rw [Int32.toInt_div_of_ne_right _ _ hne, h17, Int.tdiv_eq_ediv_of_nonneg d0]
  have he0 : 0 ≤ (feach D c t).toInt := by rw [he]; exact Int.ediv_nonneg d0 (by omega)
  have hem : (feach D c t).toInt * ((mn S c : Int) - 1) ≤ (fdis D c t).toInt := by rw [he]; exact Int.ediv_mul_le _ (by omega)
  have htot : gsum t (fpot D c - fdis D c t).toInt (feach D c t).toInt (mn S c) ≤ (D.a 516 c).toInt := by
    rw [gsum_v, if_pos ht, hg]
    rw [Int.mul_comm] at hem
    omega
  obtain ⟨q1, q2, q3⟩ := fpo_k (t := t) (g := fpot D c - fdis D c t) (e := feach D c t) hID hcD hmD (by omega : a ≤ 512) l4 (by rw [hg]; omega) he0 htot (mn S c) (Nat.le_refl _)
  obtain ⟨P, hP⟩ : ∃ P, P = fpo D c t (fpot D c - fdis D c t) (feach D c t) (mn S c) := ⟨_, rfl⟩
  have hpd : fpaid D c t = P.setA 527 (10 * c + t) 1 := by unfold fpaid; rw [hmD, hP]
  rw [hpd]
  rw [← hP] at q1 q3
  have eP : ∀ r x, r ≠ 504 → r ≠ 511 → r ≠ 516 → P.a r x = D.a r x := fun r x a1 a2 a3 => by rw [hP]; exact fpo_a a1 a2 a3 _
  obtain ⟨v, hv⟩ : ∃ v, v = (P.setA 527 (10 * c + t) 1).a 518 c + 1 := ⟨_, rfl⟩
  rw [← hv]
  obtain ⟨E, hE⟩ : ∃ E, E = fbid ((P.setA 527 (10 * c + t) 1).setA 518 c v) c (mn S c) := ⟨_, rfl⟩
  rw [← hE]
  have eE : ∀ r x, r ≠ 524 → r ≠ 518 → r ≠ 527 → E.a r x = P.a r x := fun r x a1 a2 a3 => by rw [hE, fbid_a a1, a_f a2, a_f a3]
  have e27 : ∀ x, E.a 527 x = if x = 10 * c + t then 1 else S.a 527 x := fun x => by
    rw [hE, fbid_a (by decide), a_f (by decide)]
    by_cases e : x = 10 * c + t
    · rw [e, a_e, if_pos rfl]
    · rw [a_b e, if_neg e, eP 527 x (by decide) (by decide) (by decide), ea 527 x (by decide) (by decide) (by decide) (by decide) (by decide)]
  have LE : LG S E := by
    have L1 : LG S P := l1.tr q1
    have L2 : LG S ((P.setA 527 (10 * c + t) 1).setA 518 c v) := (L1.xpl (by decide)).xci (by decide) hc
    rw [hE]; exact L2.tr (fbid_lg _)
  have NE := LE.1
  have smE : ∀ R : List Nat, (∀ r, r ∈ R → r ≠ 504 ∧ r ≠ 511 ∧ r ≠ 516 ∧ r ≠ 518 ∧ r ≠ 522 ∧ r ≠ 524 ∧ r ≠ 525 ∧ r ≠ 527) → Sm R S E := fun R hR r hr x => by
    obtain ⟨a1, a2, a3, a4, a5, a6, a7, a8⟩ := hR r hr
    rw [eE r x a6 a4 a8, eP r x a1 a2 a3, ea r x a1 a2 a3 a7 a5]
  have e22 : ∀ x, E.a 522 x = D.a 522 x := fun x => by rw [eE 522 x (by decide) (by decide) (by decide), eP 522 x (by decide) (by decide) (by decide)]
  have e25 : ∀ x, E.a 525 x = D.a 525 x := fun x => by rw [eE 525 x (by decide) (by decide) (by decide), eP 525 x (by decide) (by decide) (by decide)]
  have oth : ∀ c' k, c' < nC S → c' ≠ c → k < mn S c' → ∀ k', k' < mn S c → 10 * c' + k ≠ 10 * c + k' := fun c' k h1 h2 h3 k' hk' => by
    have := hm10 c' h1; omega
  have bdE : BD E := fun x => by
    have e4 : ((P.setA 527 (10 * c + t) 1).setA 518 c v).a 524 x = D.a 524 x := by
      rw [a_f (by decide), a_f (by decide), eP 524 x (by decide) (by decide) (by decide)]
    rcases fbid_4 (S := (P.setA 527 (10 * c + t) 1).setA 518 c v) (c := c) (x := x) (mn S c) with z | z
    · rw [hE, z, Int32.toInt_zero]; exact Int.le_refl _
    · rw [hE, z, e4]; exact bdD x
  refine ⟨?_, fun x => by rw [frnd_a (by decide) (by decide) (by decide)]; exact bdE x⟩
  have hIX : IX (n + 1) c E (AB (n + 1) E) := by
    refine ⟨NE.sh i1, NE.di i2, NE.wy i3, fun x => ?_, fun c' hc' h0 k hk => ?_, fun c' hc' hne hm' => ?_, i7.sm NE.p (smE _ (by decide)), LE.zp i8, LE.zc i9, i10.sm (smE _ (by decide)), i11.sm (smE _ (by decide)), fun c' hc' => ?_, a, b + 1, by omega, ?_, fun x => ?_⟩
    · rw [e27]
      by_cases e : x = 10 * c + t
      · rw [if_pos e]; exact Or.inr rfl
      · rw [if_neg e]; exact i4 x
    · rw [NE.c] at hc'
      rw [NE.2.2.2.2.2] at h0
      rw [NE.m] at hk
      have hne : c' ≠ c := fun e => hs (by rw [← e]; exact h0)
      have no := oth c' k hc' hne hk
      obtain ⟨u1, u2, u3⟩ := i5 c' hc' h0 k hk
      rw [smE [526] (by decide) 526 (by decide), e27, if_neg (no t ht), e22, (l2 _ (fun k' hk' => no k' hk')).1]
      exact ⟨u1, u2, u3⟩
    · rw [NE.c] at hc'
      rw [NE.m] at hm' ⊢
      obtain ⟨k, hk, h0⟩ := i6 c' hc' hm'
      exact ⟨k, hk, by rw [e27, if_neg (oth c' k hc' hne hk t ht)]; exact h0⟩
    · rw [NE.c] at hc'
      obtain ⟨s1, s2, s3⟩ := i12 c' hc'
      rw [NE.m, smE [514] (by decide) 514 (by decide)]
      refine ⟨s1, s2, fun k hk => ?_⟩
      have s3k := s3 k hk
      have hpw : 1 ≤ 2 ^ (10 - mn S c') := Nat.one_le_two_pow
      have hsum : (n + 1) * 2 ^ (10 - mn S c') = n * 2 ^ (10 - mn S c') + 2 ^ (10 - mn S c') := by rw [Nat.add_mul, Nat.one_mul]
      rw [e22, hsum]
      by_cases e : c' = c
      · subst e
        have := (l3 k hk).1
        omega
      · rw [(l2 _ (fun k' hk' => oth c' k hc' e hk k' hk')).1]
        omega
    · exact q3.sm (fun r hr x => by
        have h5 : r = 504 ∨ r = 516 := by simpa using hr
        exact eE r x (by omega) (by omega) (by omega)) (by rw [hE, fbid_s]; rfl) (by rw [hE, fbid_s]; rfl)
    · rw [e25]
      have hab2 : 10000 * (a * (b + 1)) = 10000 * (a * b) + 10000 * a := by rw [Nat.mul_succ, Nat.mul_add]
      have pbx := pb x
      rw [hab2]
      by_cases e : ∃ k', k' < mn S c ∧ x = 10 * c + k'
      · obtain ⟨k', hk', rfl⟩ := e
        have := (l3 k' hk').2
        omega
      · rw [(l2 x (fun k' hk' z => e ⟨k', hk', z⟩)).2]
        omega
  exact hIX.rnd (by rw [NE.c]; exact hc)
theorem fmon_b {S : MS} {r x : Nat} (h1 : r ≠ 504) (h2 : r ≠ 511) (h3 : r ≠ 510) (h4 : r ≠ 506) (h5 : r ≠ 507) : ∀ k, (fmon S k).1.a r x = S.a r x := by
  intro k
  induction k with
  | zero => rfl
  | succ k ih =>
    show (fmst (fmon S k).1 k).1.a r x = S.a r x
    rw [fmst_a h1 h2 h3 (fun z => absurd z h4) (fun z => absurd z h5), ih]
theorem ffe_a {S : MS} {e : Int32} {r x : Nat} (h1 : r ≠ 504) (h2 : r ≠ 511) (h3 : r ≠ 505) : ∀ k, (ffe S e k).a r x = S.a r x := by
  intro k
  induction k with
  | zero => rfl
  | succ k ih => rw [ffe, a_f h3, setS_a, fpay_a h1 h2, ih]
theorem fjoin_bd {S : MS} {c kp kh : Nat} (h : BD S) (hB : HB S) (hp : kp < mn S c) : BD (fjoin S c kp kh) := by
  intro x
  unfold fjoin
  obtain ⟨T, hT⟩ : ∃ T, T = S.setA 522 (10 * c + kh) (S.a 522 (10 * c + kh) + S.a 522 (10 * c + kp)) := ⟨_, rfl⟩
  have N : Nm S T := by rw [hT]; exact Nm.rf.st (by decide)
  rw [← hT, frnd_a (by decide) (by decide) (by decide), fgo_a (fun x => by rw [hT, a_f (by decide)]; exact hB x) (by rw [N.m]; exact hp) (by unfold r7; omega), hT, a_f (by decide)]
  exact h _
theorem fpass_bd {S : MS} {c p q : Nat} (h : BD S) (hB : HB S) : BD (fpass S c p q) := by
  unfold fpass
  cases ep : pl S c p with
  | none => exact h
  | some kp =>
    obtain ⟨p1, p2⟩ := plc_some _ ep
    cases eh : pl S c q with
    | none => exact fun x => by rw [a_f (by decide)]; exact h x
    | some kh => exact fjoin_bd h hB p1
theorem fdied_bd {n p q : Nat} {S : MS} (hV : IV n S) (h : BD S) (hq : q < nP S) : BD (fdied S p q) := by
  unfold fdied
  obtain ⟨F, hF⟩ : ∃ F, F = fleaves (S.setS 500 0) p q := ⟨_, rfl⟩
  have N : Nm S F := by rw [hF]; exact (Nm.rf.ss (by decide)).tr fleaves_Nm
  have eF : ∀ r x, ¬ (504 ≤ r ∧ r ≤ 509) → r ≠ 512 → F.a r x = S.a r x := fun r x a b => by
    rw [hF, fleaves_a (by omega) (by omega) (by omega) b (by omega) (by omega) (by omega)]; rfl
  have hBF : HB F := fun x => by rw [eF 527 x (by decide) (by decide)]; exact hV.2.2.2.1 x
  have bF : BD F := fun x => by rw [eF 524 x (by decide) (by decide)]; exact h x
  rw [← hF]
  have key : ∀ k, k ≤ nC S → BD (fdie F p q k).1 := by
    intro k
    induction k with
    | zero => intro _; exact bF
    | succ k ih =>
      intro hk
      have kp := fdie_kp (p := p) (N.sh hV.1) (N.di hV.2.1) hBF (show q < nP F by rw [N.p]; exact hq) k (by rw [N.c]; omega)
      exact fpass_bd (ih (by omega)) kp.2.2.1
  exact key (nC S) (Nat.le_refl _)
theorem fleave_bd {n c k : Nat} {S : MS} (hV : IV n S) (h : BD S) (hc : c < nC S) (hk : k < mn S c) : BD (fleave S c k) := by
  intro x
  unfold fleave
  obtain ⟨F, hF⟩ : ∃ F, F = fgive (S.setS 500 0) c (wh S (10 * c + k)) (fback S c k) := ⟨_, rfl⟩
  have N : Nm S F := by rw [hF]; exact fgive_Nm (Nm.rf.ss (by decide))
  rw [← hF, frnd_a (by decide) (by decide) (by decide), fgo_a (fun x => by rw [hF, fgive_a (by decide) (by decide) (by decide)]; exact hV.2.2.2.1 x) (by rw [N.m]; exact hk) (by unfold r7; omega), hF, fgive_a (by decide) (by decide) (by decide)]
  exact h _
theorem fstart_bd {c s : Nat} {S : MS} (h : BD S) : BD (fstart S c s) := by
  intro x
  have e : (fbeg S c).a 524 x = S.a 524 x := by unfold fbeg; rw [a_f (by decide)]; rfl
  unfold fstart
  by_cases z : S.a 515 c ≤ 1
  · rw [if_pos z, sT_o (by decide), e]; exact h x
  · rw [if_neg z, e]; exact h x
theorem fent_bd {c i : Nat} {S : MS} (h : BD S) : BD (fent (S.setS 500 0) c i) := by
  intro x
  by_cases e : x = 10 * c + mn (S.setS 500 0) c
  · rw [e, fent_new (by decide), Int32.toInt_zero]; exact Int.le_refl _
  · rw [fent_x (by decide) e]; exact h x
