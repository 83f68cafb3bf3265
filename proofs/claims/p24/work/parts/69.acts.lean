-- ===== each act keeps the law's state
theorem st_repay {o k n : Nat} {S S' : MS} {x1 x2 r : Int32} (h : ST o k n S) (hn : n ≤ 500) (hI : I_repay S x1 x2 r S') (hJ : JV (n + 1) S') : ST o (k + 1) (n + 1) S' := by
  obtain ⟨v, p, T, e, j, w, s, o1, o2, F, b⟩ := id h
  rcases hI with ⟨rfl, -⟩ | ⟨rfl, -⟩ | ⟨i, -, -, rfl, -⟩ | ⟨i, h1, -, h2, h3, h4, h5, rfl⟩
  · exact h.thr
  · exact h.thr
  · exact h.thr
  · obtain ⟨a, b0, hab, mo, -⟩ := v.mo
    obtain ⟨a', b', hab', mo', -⟩ := hJ.mo
    have hi7 : i < 7 := by rw [← p.1]; exact h1
    have mf := mo.fm
    have d0 := v.db i (by omega)
    have u1 := (v.db.u (show i < 16 by omega)).2
    have hb := (uu_b (cnt S 16) (cnt_le 16)).2
    have u67 := uu_7 (D := cnt S 16)
    obtain ⟨y, hy⟩ : ∃ y, y = rsome (S.a 506 i) x2 := ⟨_, rfl⟩
    have x4 : 1 ≤ x2.toInt := Int32.le_iff_toInt_le.mp (i_nle h2)
    have hy0 : 0 ≤ y.toInt ∧ y.toInt ≤ (S.a 506 i).toInt := by
      rw [hy]; unfold rsome
      by_cases z : S.a 506 i < x2
      · rw [if_pos z]; exact ⟨d0.1, Int.le_refl _⟩
      · rw [if_neg z]; exact ⟨by omega, Int32.le_iff_toInt_le.mp (i_nle z)⟩
    rw [← hy] at h5 hJ mo' ⊢
    have h5' := Int32.le_iff_toInt_le.mp h5
    have hl : S.a 512 i = 0 := Classical.byContradiction fun z => h4 (d0.2.2 z)
    have hpm := mo.pm (show i < 16 by omega)
    have hL := LR_repay (T := T) (i := i) (s := y) (y := S.a 510 i + if S.a 506 i - y = 0 then 1 else 0) b.1 (by omega) hy0.1 h5' hy0.2 mo.2.2.1 (by omega) hl
    have sm : ∀ R : List Nat, (∀ r, r ∈ R → r ≠ 504 ∧ r ≠ 511 ∧ r ≠ 506 ∧ r ≠ 510) → Sm R S ((frepay S i y).setA 510 i (S.a 510 i + if S.a 506 i - y = 0 then 1 else 0)) := fun R hR r hr x => by
      have := hR r hr
      unfold frepay
      rw [a_f this.2.2.2, a_f this.2.2.1, setS_a, fpay_a this.1 this.2.1]; rfl
    have := b.fund (w' := w) (j' := j) (f := 0) (sm _ (by decide)) hL rfl mo' (fun q hq => ?_) (Int.le_refl _) (Or.inl ⟨rfl, rfl, rfl⟩)
    · exact ⟨hJ, p.sm (sm _ (by decide)) rfl rfl, _, e, j, w, s, o1, o2, _, this⟩
    · have g := (b.2.1 q hq).1
      unfold frepay
      rw [a_f (by decide)]
      by_cases z : q = i
      · rw [z] at g ⊢
        rw [a_e, z_sub (by omega) (by omega)]; omega
      · rw [a_b z, setS_a, fpay_a (by decide) (by decide)]; exact g
theorem st_borrow {o k n : Nat} {S S' : MS} {x1 x2 x3 x4 r : Int32} (h : ST o k n S) (hn : n ≤ 500) (hx : x2 ≤ 120) (hI : I_borrow S x1 x2 x3 x4 r S') (hJ : JV (n + 1) S') : ST o (k + 1) (n + 1) S' := by
  obtain ⟨v, p, T, e, j, w, s, o1, o2, F, b⟩ := id h
  rcases hI with ⟨rfl, -⟩ | ⟨i, a, c, -, -, -, -, -, -, rfl, -⟩ | ⟨i, a, c, -, -, -, -, -, -, rfl, -⟩ | ⟨i, a, c, h1, h2, h3, -, -, -, h4, h5, h6, h7, h8, h9, h10, h11, h12, rfl⟩
  · exact h.thr
  · exact h.thr
  · exact h.thr
  · obtain ⟨a0, b0, hab, mo, -⟩ := v.mo
    obtain ⟨a', b', hab', mo', -⟩ := hJ.mo
    have hi7 : i < 7 := by rw [← p.1]; exact h1
    have x3 : x2.toInt ≤ 120 := p_le (k := 120) (by decide) hx
    have x4 : 1 ≤ x2.toInt := Int32.le_iff_toInt_le.mp (i_nle h4)
    have h12' := Int32.le_iff_toInt_le.mp h12
    have hp0 := mo.1 i (by omega)
    have hpm := mo.pm (show i < 16 by omega)
    have hL := LR_borrow (T := T) (p := i) (a := a) (b := c) (x := x2) b.1 (by omega) (by omega) h12' h9 hp0 (by omega) h6.1
    have sm : ∀ R : List Nat, (∀ r, r ∈ R → r ≠ 504 ∧ r ≠ 511 ∧ r ≠ 506 ∧ r ≠ 507 ∧ r ≠ 508 ∧ r ≠ 509) → Sm R S (fborrow S i x2 a c) := fun R hR r hr x => by
      have := hR r hr
      unfold fborrow floan
      rw [setS_a, fpay_a this.1 this.2.1, a_f this.2.2.1, a_f this.2.2.2.2.2, a_f this.2.2.2.2.1, a_f this.2.2.2.1]; rfl
    have := b.fund (w' := w) (j' := j + 1) (f := x2.toInt) (sm _ (by decide)) hL rfl mo' (fun q hq => ?_) (by omega) (Or.inr (Or.inl ⟨rfl, rfl, x3⟩))
    · exact ⟨hJ, p.sm (sm _ (by decide)) rfl rfl, _, e, j + 1, w, s, o1, o2, _, this⟩
    · obtain ⟨g1, -, g2, -⟩ := b.2.1 q hq
      unfold fborrow floan
      rw [setS_a, fpay_a (by decide) (by decide)]
      by_cases z : q = i
      · rw [z, a_e]
        rw [z] at g2
        have q1 := g2 h6.1
        have q2 := gg_120 w
        have q3 : 1 * 120 ≤ o2 i * gg w := Nat.mul_le_mul q1 q2
        omega
      · rw [a_b z, a_f (by decide), a_f (by decide), a_f (by decide)]; exact g1
theorem st_month {o k n : Nat} {S S' : MS} {x1 r : Int32} (h : ST o k n S) (hn : n ≤ 500) (hV : VO S) (hI : I_month S x1 r S') (hJ : JV (n + 1) S') : ST o (k + 1) (n + 1) S' := by
  obtain ⟨v, p, T, e, j, w, s, o1, o2, F, b⟩ := id h
  rcases hI with ⟨-, -, rfl⟩ | ⟨-, -, rfl⟩
  · exact h.thr
  · obtain ⟨T', F', b'⟩ := b.month v (by omega) hV p.1
    have N : Nm S (fmon (S.setS 500 0) (nP S)).1 := (Nm.rf.ss (by decide)).tr (fmon_Nm _)
    refine ⟨hJ, p.sm (fun r hr x => ?_) N.p N.c, T', e, j + 1, w + 1, s, o1, o2, F', b'⟩
    have : r = 503 ∨ r = 505 ∨ r = 512 ∨ r = 514 ∨ r = 517 ∨ r = 518 ∨ r = 519 ∨ r = 521 ∨ r = 527 ∨ r = 530 := by simpa using hr
    rw [fmon_b (by omega) (by omega) (by omega) (by omega) (by omega)]; rfl
theorem ffe_5 {S : MS} {e : Int32} {q : Nat} : ∀ k, (ffe S e k).a 505 q = if q < k then 0 else S.a 505 q := by
  intro k
  induction k with
  | zero => exact (if_neg (Nat.not_lt_zero _)).symm
  | succ k ih =>
    rw [ffe]
    by_cases z : q = k
    · rw [z, a_e, if_pos (Nat.lt_succ_self _)]
    · rw [a_b z, setS_a, fpay_a (by decide) (by decide), ih]
      by_cases y : q < k
      · rw [if_pos y, if_pos (by omega)]
      · rw [if_neg y, if_neg (by omega)]
theorem ffe_9 {S : MS} {e : Int32} : ∀ k, (ffe S e k).s 529 = S.s 529 := by
  intro k
  induction k with
  | zero => rfl
  | succ k ih => rw [ffe, setA_s, s_f (by decide)]; exact ih
theorem st_feast {o k n : Nat} {S S' : MS} {r : Int32} (h : ST o k n S) (hn : n ≤ 500) (hI : I_feast S r S') (hJ : JV (n + 1) S') : ST o (k + 1) (n + 1) S' := by
  obtain ⟨v, p, T, e, j, w, s, o1, o2, F, b⟩ := id h
  rcases hI with rfl | ⟨h1, h2, -, rfl⟩
  · exact h.thr
  · obtain ⟨a', b', hab', mo', -⟩ := hJ.mo
    obtain ⟨T', hL⟩ := LR_feast v.1 (by omega) b.1 h1 p.2.2.2.2.2.1
    obtain ⟨y, hy⟩ : ∃ y, y = S.s 528 / fsum S 505 (nP S) := ⟨_, rfl⟩
    rw [← hy] at hL mo' hJ ⊢
    have N : Nm S (ffe (S.setS 500 0) y (nP S)) := (Nm.rf.ss (by decide)).tr (ffe_Nm _)
    have sm : ∀ R : List Nat, (∀ r, r ∈ R → r ≠ 504 ∧ r ≠ 511 ∧ r ≠ 505) → Sm R S (ffe (S.setS 500 0) y (nP S)) := fun R hR r hr x => by
      have := hR r hr
      rw [ffe_a this.1 this.2.1 this.2.2]; rfl
    have := b.fund (w' := w) (j' := j) (f := 0) (sm _ (by decide)) hL (by rw [ffe_9]; rfl) mo' (fun q hq => ?_) (Int.le_refl _) (Or.inl ⟨rfl, rfl, rfl⟩)
    · refine ⟨hJ, p.sm5 (sm _ (by decide)) N.p N.c (fun q hq hd => ?_), T', e, j, w, s, o1, o2, _, this⟩
      rw [ffe_5]
      by_cases z : q < nP S
      · rw [if_pos z]
      · rw [if_neg z]; exact p.2.2.2.2.2.1 q hq hd
    · rw [sm [506] (by decide) 506 (by decide)]
      exact (b.2.1 q hq).1
theorem fstart_a {S : MS} {c s r x : Nat} (h1 : r ≠ 526) (h2 : r ≠ 520) : (fstart S c s).a r x = S.a r x := by
  unfold fstart fbeg
  by_cases z : S.a 515 c ≤ 1
  · rw [if_pos z, sT_o h1, a_f h2]; rfl
  · rw [if_neg z, a_f h2]; rfl
theorem fstart_s {S : MS} {c s f : Nat} (h : f ≠ 500) : (fstart S c s).s f = S.s f := by
  unfold fstart fbeg
  by_cases z : S.a 515 c ≤ 1
  · rw [if_pos z, sT_s, setA_s, s_f h]
  · rw [if_neg z, setA_s, s_f h]
theorem st_start {o k n : Nat} {S S' : MS} {x1 x2 r : Int32} (h : ST o k n S) (hI : I_start S x1 x2 r S') (hJ : JV (n + 1) S') : ST o (k + 1) (n + 1) S' := by
  obtain ⟨v, p, T, e, j, w, s, o1, o2, F, b⟩ := id h
  rcases hI with ⟨rfl, -⟩ | ⟨rfl, -⟩ | rfl | ⟨c, s0, h1, -, h2, h3, rfl⟩
  · exact h.thr
  · exact h.thr
  · exact h.thr
  · have sm : ∀ R : List Nat, (∀ r, r ∈ R → r ≠ 526 ∧ r ≠ 520) → Sm R S (fstart S c s0) := fun R hR r hr x => fstart_a (hR r hr).1 (hR r hr).2
    exact ⟨hJ, p.sm (sm _ (by decide)) (by unfold nP; rw [fstart_s (by decide)]) (by unfold nC; rw [fstart_s (by decide)]), T, e, j, w, s + 1, o1, o2, F, b.start (sm _ (by decide)) (fstart_s (by decide)) (fstart_s (by decide))⟩
theorem st_want {o k n : Nat} {S S' : MS} {x1 x2 x3 x4 r : Int32} (h : ST o k n S) (hI : I_want S x1 x2 x3 x4 r S') (hJ : JV (n + 1) S') : ST o (k + 1) (n + 1) S' := by
  obtain ⟨v, p, T, e, j, w, s, o1, o2, F, b⟩ := id h
  rcases hI with ⟨rfl, -⟩ | ⟨rfl, -⟩ | ⟨c, i, -, -, -, -, rfl, -⟩ | ⟨c, i, m, q, h1, h2, -, -, h3, h4, hq, h5, h6, rfl⟩
  · exact h.thr
  · exact h.thr
  · exact h.thr
  · have sm : ∀ R : List Nat, (∀ r, r ∈ R → r ≠ 523 ∧ r ≠ 524) → Sm R S ((S.setS 500 0).setA q (10 * c + m) x3) := fun R hR r hr x => by
      have := hR r hr
      rw [a_f (by omega)]; rfl
    exact ⟨hJ, p.sm (sm _ (by decide)) rfl rfl, T, e, j, w, s, o1, o2, F, (b.cong (sm _ (by decide)) rfl rfl).up⟩
theorem st_enter {o k n : Nat} {S S' : MS} {x1 x2 r : Int32} (h : ST o k n S) (hI : I_enter S x1 x2 r S') (hJ : JV (n + 1) S') : ST o (k + 1) (n + 1) S' := by
  obtain ⟨v, p, T, e, j, w, s, o1, o2, F, b⟩ := id h
  rcases hI with ⟨rfl, -⟩ | rfl | ⟨c, i, h1, h2, -, -, h3, h4, h5, h6, rfl⟩
  · exact h.thr
  · exact h.thr
  · obtain ⟨p1, p2, p3, p4, p5, p6, p7, p8⟩ := p
    have hc2 : c < 2 := by omega
    have hi7 : i < 7 := by omega
    obtain ⟨o1', b'⟩ := b.enter v hc2 p2 h4 hi7 h5 h6
    have hm10 : ∀ c', c' < 2 → mn S c' ≤ 10 := fun c' hc' => (v.sh.2.2.2.2 c' (by omega)).2.1
    obtain ⟨X, hX⟩ : ∃ X, X = S.setS 500 0 := ⟨_, rfl⟩
    have xa : ∀ r x, X.a r x = S.a r x := fun r x => by rw [hX]; rfl
    have xm : mn X = mn S := by rw [hX]; rfl
    have xw : wh X = wh S := by rw [hX]; rfl
    have xp : nP X = nP S ∧ nC X = nC S := by rw [hX]; exact ⟨rfl, rfl⟩
    rw [← hX] at b' hJ ⊢
    have em : ∀ x, mn (fent X c i) x = if x = c then mn S c + 1 else mn S x := fun x => by
      rw [fent_m (by rw [xm]; omega), xm]
    have ew : ∀ x, wh (fent X c i) x = if x = 10 * c + mn S c then i else wh S x := fun x => by
      rw [fent_w (by omega), xm, xw]
    have eo : ∀ r x, r ≠ 517 → (r < 521 ∨ 527 < r) → (fent X c i).a r x = S.a r x := fun r x a b => by rw [fent_o a (by unfold r7; omega), xa]
    have idx : ∀ c' k, c' < 2 → k < mn (fent X c i) c' → (c' = c ∧ k = mn S c) ∨ (k < mn S c' ∧ 10 * c' + k ≠ 10 * c + mn S c) := fun c' k hc' hk => by
      rw [em] at hk
      have := hm10 c' hc'
      by_cases z : c' = c
      · subst z
        rw [if_pos rfl] at hk
        by_cases y : k = mn S c'
        · exact Or.inl ⟨rfl, y⟩
        · exact Or.inr ⟨by omega, by omega⟩
      · rw [if_neg z] at hk
        exact Or.inr ⟨hk, by omega⟩
    refine ⟨hJ, ⟨fent_p.1.trans (xp.1.trans p1), fent_p.2.trans (xp.2.trans p2), fun c' hc' => by rw [eo 514 _ (by decide) (by decide)]; exact p3 c' hc', fun c' q hc' hm => ?_, fun c' hc' => (p5 c' hc').cg (eo 519 _ (by decide) (by decide)) (eo 518 _ (by decide) (by decide)) (fun hx => ?_), fun q hq hd => ?_, fun q hq => by rw [eo 503 _ (by decide) (by decide)]; exact p7 q hq, fun q hq => by rw [eo 530 _ (by decide) (by decide)]; exact p8 q hq⟩, T, e, j, w, s, o1', o2, F, b'⟩
    · rw [eo 512 _ (by decide) (by decide)]
      obtain ⟨m, m1, m2⟩ := hm
      rcases idx c' m hc' m1 with ⟨z1, z2⟩ | ⟨z1, z2⟩
      · subst z1 z2
        rw [ew, if_pos rfl] at m2
        rw [← m2]; exact h5
      · rw [ew, if_neg z2] at m2
        exact p4 c' q hc' ⟨m, z1, m2⟩
    · obtain ⟨m, m1, m2⟩ := hx
      rcases idx c' m hc' m1 with ⟨z1, z2⟩ | ⟨z1, z2⟩
      · subst z1 z2
        rw [← xm, fent_new (by decide)] at m2
        exact absurd rfl m2
      · rw [fent_x (by decide) (by rw [xm]; exact z2), xa] at m2
        exact ⟨m, z1, m2⟩
    · rw [eo 512 _ (by decide) (by decide)] at hd
      rw [eo 505 _ (by decide) (by decide)]; exact p6 q hq hd
theorem st_leave {o k n : Nat} {S S' : MS} {x1 x2 r : Int32} (h : ST o k n S) (hn : n ≤ 500) (hI : I_leave S x1 x2 r S') (hJ : JV (n + 1) S') : ST o (k + 1) (n + 1) S' := by
  obtain ⟨v, p, T, e, j, w, s, o1, o2, F, b⟩ := id h
  rcases hI with ⟨rfl, -⟩ | ⟨c, i, -, -, -, -, rfl, -⟩ | ⟨c, i, m, -, -, -, -, -, -, rfl, -⟩ | ⟨c, i, m, h1, h2, -, -, h3, h4, h5, h6, -, rfl⟩
  · exact h.thr
  · exact h.thr
  · exact h.thr
  · obtain ⟨p1, p2, p3, p4, p5, p6, p7, p8⟩ := p
    have hc2 : c < 2 := by omega
    obtain ⟨T', b'⟩ := b.leave v (by omega) hc2 p2 h3 (p4 c _ hc2 ⟨m, h3, rfl⟩) h6
    have hm10 : ∀ c', c' < 2 → mn S c' ≤ 10 := fun c' hc' => (v.sh.2.2.2.2 c' (by omega)).2.1
    refine ⟨hJ, ?_, T', e, j, w, s, o1, o2, F, b'⟩
    unfold fleave
    obtain ⟨X, hX⟩ : ∃ X, X = fgive (S.setS 500 0) c (wh S (10 * c + m)) (fback S c m) := ⟨_, rfl⟩
    rw [← hX]
    have N : Nm S X := by rw [hX]; exact fgive_Nm (Nm.rf.ss (by decide))
    have ex : ∀ r x, r ≠ 504 → r ≠ 511 → r ≠ 516 → X.a r x = S.a r x := fun r x a b c => by rw [hX, fgive_a a b c]; rfl
    have hBX : HB X := fun x => by rw [ex 527 x (by decide) (by decide) (by decide)]; exact v.hb x
    have hpX : m < mn X c := by rw [N.m]; exact h3
    have hmX : ∀ c', c' < 2 → mn X c' ≤ 10 := fun c' hc' => by rw [N.m]; exact hm10 c' hc'
    have zo : ∀ r x, r ≠ 504 → r ≠ 511 → r ≠ 516 → r ≠ 517 → r ≠ 519 → (r < 521 ∨ 527 < r) → (frnd (fgo X c m) c).a r x = S.a r x := fun r x a1 a2 a3 a4 a5 a6 => by
      rw [frnd_a a5 (by omega) (by omega), fgo_o (by unfold r7; omega) a4, ex r x a1 a2 a3]
    refine ⟨?_, ?_, fun c' hc' => by rw [zo 514 _ (by decide) (by decide) (by decide) (by decide) (by decide) (by decide)]; exact p3 c' hc', fun c' q hc' hm => ?_, fun c' hc' => ?_, fun q hq hd => ?_, fun q hq => by rw [zo 503 _ (by decide) (by decide) (by decide) (by decide) (by decide) (by decide)]; exact p7 q hq, fun q hq => by rw [zo 530 _ (by decide) (by decide) (by decide) (by decide) (by decide) (by decide)]; exact p8 q hq⟩
    · unfold nP; rw [frnd_s]; exact fgo_p.1.trans (N.p.trans p1)
    · unfold nC; rw [frnd_s]; exact fgo_p.2.trans (N.c.trans p2)
    · rw [zo 512 _ (by decide) (by decide) (by decide) (by decide) (by decide) (by decide)]
      obtain ⟨y, y1, y2⟩ := hm
      have e1 : mn (frnd (fgo X c m) c) c' = mn (fgo X c m) c' := by unfold mn; rw [frnd_a (by decide) (by decide) (by decide)]
      have e2 : wh (frnd (fgo X c m) c) (10 * c' + y) = wh (fgo X c m) (10 * c' + y) := by unfold wh; rw [frnd_a (by decide) (by decide) (by decide)]
      rw [e1, fgo_m (hmX c hc2), N.m] at y1
      rw [e2, fgo_w hBX hpX, N.w] at y2
      by_cases z : c' = c
      · subst z
        rw [if_pos rfl] at y1
        obtain ⟨k', a1, -, a3, -⟩ := sh_own2 (S := X) (p := m) (by rw [N.m]; exact y1)
        rw [N.m] at a1
        rw [a3] at y2
        exact p4 c' q hc' ⟨k', a1, y2⟩
      · rw [if_neg z] at y1
        rw [sh_oth (hmX c hc2) (by have := hm10 c' hc'; omega) z] at y2
        exact p4 c' q hc' ⟨y, y1, y2⟩
    · have q1 : PR X c' := (p5 c' hc').cg (ex 519 _ (by decide) (by decide) (by decide)) (ex 518 _ (by decide) (by decide) (by decide)) (fun hx => by
        obtain ⟨y, y1, y2⟩ := hx
        rw [N.m] at y1
        rw [ex 527 _ (by decide) (by decide) (by decide)] at y2
        exact ⟨y, y1, y2⟩)
      refine (q1.go (c0 := c) (p := m) hBX hpX (hmX c hc2) (hmX c' hc')).rnd (fun d => ?_)
      by_cases e : d < 2
      · left
        rw [fgo_m (hmX c hc2)]
        have a1 := hmX d e
        have a2 := hmX c hc2
        by_cases z : d = c
        · rw [if_pos z]; omega
        · rw [if_neg z]; exact a1
      · right; omega
    · rw [zo 512 _ (by decide) (by decide) (by decide) (by decide) (by decide) (by decide)] at hd
      rw [zo 505 _ (by decide) (by decide) (by decide) (by decide) (by decide) (by decide)]; exact p6 q hq hd
