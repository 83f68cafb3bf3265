-- ===== meetings and deaths keep the law's state
theorem fmeet_a {S : MS} {c t r x : Nat} {m : Int32} (h : r = 503 ∨ r = 505 ∨ r = 512 ∨ r = 514 ∨ r = 517 ∨ r = 520 ∨ r = 521 ∨ r = 530) : (fmeet S c m t).a r x = S.a r x := by
  unfold fmeet fpaid
  rw [frnd_a (by omega) (by omega) (by omega), fbid_a (by omega), a_f (by omega), a_f (by omega), fpo_a (by omega) (by omega) (by omega), fcols_a (by omega) (by omega) (by omega) (by omega) (by omega)]; rfl
theorem fmeet_s {S : MS} {c t f : Nat} {m : Int32} (h : f ≠ 500) : (fmeet S c m t).s f = S.s f := by
  unfold fmeet fpaid
  rw [frnd_s, fbid_s, setA_s, setA_s, fpo_s, fcols_s, s_f h]
theorem fmeet_518 {S : MS} {c t x : Nat} {m : Int32} : (fmeet S c m t).a 518 x = if x = c then S.a 518 c + 1 else S.a 518 x := by
  have e : ∀ y, (fpaid (fcols (S.setS 500 0) c m (mn S c)) c t).a 518 y = S.a 518 y := fun y => by
    unfold fpaid
    rw [a_f (by decide), fpo_a (by decide) (by decide) (by decide), fcols_a (by decide) (by decide) (by decide) (by decide) (by decide)]; rfl
  unfold fmeet
  rw [frnd_a (by decide) (by decide) (by decide), fbid_a (by decide), e]
  by_cases z : x = c
  · rw [if_pos z, z, a_e]
  · rw [if_neg z, a_b z, e]
theorem st_meet {o k n : Nat} {S S' : MS} {x1 x2 r : Int32} (h : ST o k n S) (hn : n ≤ 500) (hk : k ≤ 49) (hI : I_meet S x1 x2 r S') (hJ : JV (n + 1) S') : ST o (k + 1) (n + 1) S' := by
  obtain ⟨v, p, T, e, j, w, s, o1, o2, F, b⟩ := id h
  rcases hI with ⟨rfl, -⟩ | ⟨c, -, -, rfl, -⟩ | ⟨c, t, h1, -, h2, h3, h4, h5, h6, -, rfl⟩
  · exact h.thr
  · exact h.thr
  · obtain ⟨p1, p2, p3, p4, p5, p6, p7, p8⟩ := p
    have hc2 : c < 2 := by omega
    have hm10 : ∀ c', c' < 2 → mn S c' ≤ 10 := fun c' hc' => (v.sh.2.2.2.2 c' (by omega)).2.1
    obtain ⟨T', b'⟩ := b.meet (m := x2) v (by omega) hk hc2 p2 p1 h2 h3 h4 (p3 c hc2) (fun x hx => p4 c _ hc2 ⟨x, hx, rfl⟩)
    have em : ∀ x, mn (fmeet S c x2 t) x = mn S x := fun x => by unfold mn; rw [fmeet_a (by decide)]
    have ew : ∀ x, wh (fmeet S c x2 t) x = wh S x := fun x => by unfold wh; rw [fmeet_a (by decide)]
    refine ⟨hJ, ⟨by unfold nP; rw [fmeet_s (by decide)]; exact p1, by unfold nC; rw [fmeet_s (by decide)]; exact p2, fun c' hc' => by rw [fmeet_a (by decide)]; exact p3 c' hc', fun c' q hc' hm => ?_, fun c' hc' => ?_, fun q hq hd => ?_, fun q hq => by rw [fmeet_a (by decide)]; exact p7 q hq, fun q hq => by rw [fmeet_a (by decide)]; exact p8 q hq⟩, T', e, j, w, s, o1, o2, F, b'⟩
    · rw [fmeet_a (by decide)]
      exact p4 c' q hc' (hm.cg (em c') (fun k _ => ew _))
    · -- rounds
      unfold fmeet
      obtain ⟨Y, hY⟩ : ∃ Y, Y = fpaid (fcols (S.setS 500 0) c x2 (mn S c)) c t := ⟨_, rfl⟩
      rw [← hY]
      have yo : ∀ r x, (r = 517 ∨ r = 518 ∨ r = 519) → Y.a r x = S.a r x := fun r x hr => by
        rw [hY]; unfold fpaid
        rw [a_f (by omega), fpo_a (by omega) (by omega) (by omega), fcols_a (by omega) (by omega) (by omega) (by omega) (by omega)]; rfl
      have y7 : ∀ x, x ≠ 10 * c + t → Y.a 527 x = S.a 527 x := fun x hx => by
        rw [hY]; unfold fpaid
        rw [a_b hx, fpo_a (by decide) (by decide) (by decide), fcols_a (by decide) (by decide) (by decide) (by decide) (by decide)]; rfl
      have ym : ∀ x, mn Y x = mn S x := fun x => by unfold mn; rw [yo 517 _ (Or.inl rfl)]
      obtain ⟨Z, hZ⟩ : ∃ Z, Z = fbid (Y.setA 518 c (Y.a 518 c + 1)) c (mn S c) := ⟨_, rfl⟩
      rw [← hZ]
      have zo : ∀ r x, r ≠ 524 → r ≠ 518 → Z.a r x = Y.a r x := fun r x a b => by rw [hZ, fbid_a a, a_f b]
      have z8 : ∀ x, Z.a 518 x = if x = c then S.a 518 c + 1 else S.a 518 x := fun x => by
        rw [hZ, fbid_a (by decide)]
        by_cases z : x = c
        · rw [if_pos z, z, a_e, yo 518 _ (by decide)]
        · rw [if_neg z, a_b z, yo 518 _ (by decide)]
      have zm : ∀ x, mn Z x = mn S x := fun x => by
        have : mn Z x = mn Y x := by unfold mn; rw [zo 517 _ (by decide) (by decide)]
        rw [this, ym]
      have hP : PR Z c' := by
        obtain ⟨q1, q2, q3, q4⟩ := p5 c' hc'
        have e9 : Z.a 519 c' = S.a 519 c' := by rw [zo 519 _ (by decide) (by decide), yo 519 _ (by decide)]
        by_cases z : c' = c
        · subst z
          have k1 : (1 : Int32).toInt = 1 := by decide
          -- few meetings
          have g5 := b.2.2.2.2.1
          have g7 := b.2.2.2.2.2.2.1.1
          have g50 := g5 0 (by decide)
          have g51 := g5 1 (by decide)
          have hm : (S.a 518 c').toInt ≤ 49 := by
            have : (S.a 518 c').toInt ≤ mt S := by
              unfold mt
              rcases (by omega : c' = 0 ∨ c' = 1) with y | y <;> rw [y] <;> omega
            omega
          have e8 : (Z.a 518 c').toInt = (S.a 518 c').toInt + 1 := by rw [z8, if_pos rfl, z_add (by rw [k1]; omega) (by rw [k1]; omega), k1]
          unfold PR
          rw [e8, e9]
          exact ⟨q1, by omega, by omega, fun _ => by omega⟩
        · refine PR.cg ⟨q1, q2, q3, q4⟩ e9 (by rw [z8, if_neg z]) (fun hx => ?_)
          obtain ⟨y, y1, y2⟩ := hx
          rw [zm] at y1
          have a1 := hm10 c' hc'
          have a2 := hm10 c hc2
          rw [zo 527 _ (by decide) (by decide), y7 _ (by omega)] at y2
          exact ⟨y, y1, y2⟩
      refine hP.rnd (fun d => ?_)
      by_cases z : d < 2
      · left; rw [zm]; exact hm10 d z
      · right; omega
    · rw [fmeet_a (by decide)] at hd
      rw [fmeet_a (by decide)]; exact p6 q hq hd
theorem fdied_2 {S : MS} {p q : Nat} (hn2 : nC S = 2) : fdied S p q = fpass (fpass (fleaves (S.setS 500 0) p q) 0 p q) 1 p q := by unfold fdied; rw [hn2]; rfl
theorem st_die {o k n : Nat} {S S' : MS} {x1 x2 r : Int32} (h : ST o k n S) (hn : n ≤ 500) (hI : I_die S x1 x2 r S') (hJ : JV (n + 1) S') : ST o (k + 1) (n + 1) S' := by
  obtain ⟨v, p, T, e, j, w, s, o1, o2, F, b⟩ := id h
  rcases hI with ⟨rfl, -⟩ | ⟨rfl, -⟩ | ⟨p0, q0, -, -, -, -, rfl, -⟩ | ⟨p0, q0, h1, h2, -, -, h3, h4, h5, h6, rfl⟩
  · exact h.thr
  · exact h.thr
  · exact h.thr
  · obtain ⟨p1, p2, p3, p4, p5, p6, p7, p8⟩ := p
    obtain ⟨u1, u2, b', hme⟩ := b.die v (by omega) p2 p1 (by omega) (by omega) h3 h4 h5 h6
    obtain ⟨r4, r6, r12, r5⟩ := leaves_rows (S := S) h3
    have hF := v.1.leaves (by omega) h1 h2 h3 h4 h5 h6
    obtain ⟨X, hX⟩ : ∃ X, X = fleaves (S.setS 500 0) p0 q0 := ⟨_, rfl⟩
    have N : Nm S X := by rw [hX]; exact (Nm.rf.ss (by decide)).tr fleaves_Nm
    have eZ : fdied S p0 q0 = fpass (fpass X 0 p0 q0) 1 p0 q0 := by rw [hX]; exact fdied_2 p2
    rw [← hX] at r12 r5 hF
    have xo : ∀ r x, (r < 504 ∨ 509 < r) → r ≠ 512 → X.a r x = S.a r x := fun r x y z => by
      rw [hX, fleaves_a (by omega) (by omega) (by omega) z (by omega) (by omega) (by omega)]; rfl
    have kp := fpass_kp (p := p0) (h := q0) (c := 0) hF.1 hF.2.1 hF.2.2.2.1 (by rw [N.c]; omega) (by rw [N.p]; exact h2)
    have i1 := hF.pass (p := p0) (h := q0) (c := 0) (by omega) (by rw [N.c]; omega) (by rw [N.p]; exact h2) h3
    have kp2 := fpass_kp (p := p0) (h := q0) (c := 1) i1.1 i1.2.1 i1.2.2.2.1 (by rw [kp.2.2.2.2, N.c]; omega) (by rw [kp.2.2.2.1, N.p]; exact h2)
    have zo : ∀ r x, r ≠ 517 → r ≠ 519 → (r < 521 ∨ 527 < r) → (fdied S p0 q0).a r x = X.a r x := fun r x a b c => by
      rw [eZ, fpass_o a b c, fpass_o a b c]
    refine ⟨hJ, ⟨?_, ?_, fun c' hc' => by rw [zo 514 _ (by decide) (by decide) (by decide), xo 514 _ (by decide) (by decide)]; exact p3 c' hc', fun c' i hc' hm => ?_, fun c' hc' => ?_, fun i hi hd => ?_, fun i hi => by rw [zo 503 _ (by decide) (by decide) (by decide), xo 503 _ (by decide) (by decide)]; exact p7 i hi, fun i hi => by rw [zo 530 _ (by decide) (by decide) (by decide), xo 530 _ (by decide) (by decide)]; exact p8 i hi⟩, T, e, j, w, s, u1, u2, F, b'⟩
    · rw [eZ, kp2.2.2.2.1, kp.2.2.2.1, N.p]; exact p1
    · rw [eZ, kp2.2.2.2.2, kp.2.2.2.2, N.c]; exact p2
    · obtain ⟨m1, m2⟩ := hme c' i hc' hm
      rw [zo 512 _ (by decide) (by decide) (by decide), r12, if_neg m1]
      rcases m2 with m2 | m2
      · rw [m2]; exact h5
      · exact p4 c' i hc' m2
    · have q1 : PR X c' := (p5 c' hc').cg (xo 519 _ (by decide) (by decide)) (xo 518 _ (by decide) (by decide)) (fun hx => by
        obtain ⟨y, y1, y2⟩ := hx
        rw [N.m] at y1
        rw [xo 527 _ (by decide) (by decide)] at y2
        exact ⟨y, y1, y2⟩)
      rw [eZ]
      exact (q1.pass hF hc' (by decide) (by rw [N.c]; exact p2)).pass i1 hc' (by decide) (by rw [kp.2.2.2.2, N.c]; exact p2)
    · rw [zo 512 _ (by decide) (by decide) (by decide), r12] at hd
      rw [zo 505 _ (by decide) (by decide) (by decide), r5]
      by_cases z : i = p0
      · rw [if_pos z]
      · rw [if_neg z] at hd ⊢
        rw [if_neg (fun y => hd (by rw [y]; exact h5))]
        exact p6 i hi hd
