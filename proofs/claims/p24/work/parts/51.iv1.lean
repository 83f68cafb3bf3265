-- ===== what every run keeps: people, the fund, books
theorem LG.xpe {S S1 : MS} {r j : Nat} {v : Int32} (h : LG S S1) (hr : 502 ≤ r ∧ r ≤ 512) (hj : j < nP S) : LG S (S1.setA r j v) := h.tr (LG.pe hr (by rw [h.1.p]; exact hj))
theorem LG.xci {S S1 : MS} {r j : Nat} {v : Int32} (h : LG S S1) (hr : r = 516 ∨ r = 518 ∨ r = 519) (hj : j < nC S) : LG S (S1.setA r j v) := h.tr (LG.ci hr (by rw [h.1.c]; exact hj))
theorem LG.xpl {S S1 : MS} {r j : Nat} {v : Int32} (h : LG S S1) (hr : 522 ≤ r ∧ r ≤ 527) : LG S (S1.setA r j v) := h.tr (LG.pl hr)
theorem LG.xsc {S S1 : MS} {f : Nat} {v : Int32} (h : LG S S1) (hf : 501 ≠ f ∧ 513 ≠ f) : LG S (S1.setS f v) := h.tr (LG.sc hf)
theorem LG.xpay {S S1 : MS} {i : Nat} {v : Int32} (h : LG S S1) (hi : i < nP S) : LG S (fpay S1 i v) := h.tr (LG.pay (by rw [h.1.p]; exact hi))
theorem n_lt {x c : Int32} {k : Int} (hc : c.toInt = k) (h : ¬ x < c) : k ≤ x.toInt := by
  rw [← hc]; exact Int32.le_iff_toInt_le.mp (i_nle h)
theorem p_le {x c : Int32} {k : Int} (hc : c.toInt = k) (h : x ≤ c) : x.toInt ≤ k := by
  rw [← hc]; exact Int32.le_iff_toInt_le.mp h
theorem nneg_of {x : Int32} (h : 0 ≤ x.toInt) : ¬ x < 0 := fun z => by
  have := Int32.lt_iff_toInt_lt.mp z
  rw [Int32.toInt_zero] at this; omega
theorem pos_iff {x : Int32} : 0 < x ↔ 0 < x.toInt := by rw [Int32.lt_iff_toInt_lt, Int32.toInt_zero]
theorem le0_iff {x : Int32} : x ≤ 0 ↔ x.toInt ≤ 0 := by rw [Int32.le_iff_toInt_le, Int32.toInt_zero]
theorem eq0_of {x : Int32} (h : x.toInt = 0) : x = 0 := Int32.toInt_inj.mp (by rw [h, Int32.toInt_zero])
theorem MO.e0 {e : Int} {a : Nat} {S : MS} (h : MO e a S) : 0 ≤ (S.s 529).toInt + e := by
  have h1 := sumf_nn 4 h.2.1
  have h2 := sumf_nn 16 h.1
  have h3 := h.2.2
  omega
theorem MO.pf {e : Int} {a i : Nat} {v : Int32} {S : MS} (h : MO e a S) (hi : i < 16) (hv : 0 ≤ v.toInt) (hle : v.toInt ≤ (S.a 504 i).toInt) (hb : 10000 * a + e < 2147483648) : MO e a ((fpay S i v).setS 528 (S.s 528 + v)) := by
  have h1 := h.pay hi hv hle
  have h2 := h1.fm
  have h3 := h1.2.2.1
  have e1 : (fpay S i v).s 528 = S.s 528 := rfl
  rw [e1] at h2 h3
  have hs : (S.s 528 + v).toInt = (S.s 528).toInt + v.toInt := z_add (by omega) (by omega)
  have := h1.f (d := v.toInt) (y := S.s 528 + v) (by rw [e1, hs]) (by rw [hs]; omega)
  rw [show e - v.toInt + v.toInt = e by omega] at this
  exact this
theorem IV.earn {n i : Nat} {S : MS} {x : Int32} (h : IV n S) (hn : n ≤ 512) (hi : i < nP S) (x0 : ¬ x < -10000) (x1 : x ≤ 10000) (y0 : ¬ S.a 504 i + x < 0) : IV (n + 1) (((S.setS 500 0).setA 504 i (S.a 504 i + x)).setS 529 (S.s 529 + x)) := by
  have h16 := h.1.2.1
  have hi16 : i < 16 := by omega
  have a1 := n_lt (k := -10000) (by decide) x0
  have a2 := p_le (k := 10000) (by decide) x1
  refine h.step (((LG.rf.xsc (by decide)).xpe (by decide) hi).xsc (by decide)) ((Sm.rf.ss.st (by decide)).ss) (h.2.2.2.2.2.2.2.2.2.1.sm ((Sm.rf.ss.st (by decide)).ss)) (h.2.2.2.2.2.2.2.2.2.2.1.sm ((Sm.rf.ss.st (by decide)).ss)) (fun a ha m => ⟨a + 1, Nat.le_succ _, Nat.le_refl _, ?_⟩)
  have m0 : MO 0 a (S.setS 500 0) := m.sm Sm.rf rfl rfl
  have b1 := m.1 i hi16
  have b2 := m.pm hi16
  have b3 := m.e0
  have b4 := m.2.2.2.2
  have hs : (S.a 504 i + x).toInt = (S.a 504 i).toInt + x.toInt := z_add (by omega) (by omega)
  have y1 := n_lt (k := 0) (by decide) y0
  have m1 := m0.p (d := x.toInt) (y := S.a 504 i + x) hi16 hs y1
  have hs2 : (S.s 529 + x).toInt = (S.s 529).toInt + x.toInt := z_add (by omega) (by omega)
  have m2 := m1.en (b := a + 1) (d := x.toInt) (y := S.s 529 + x) (by rw [setA_s]; exact hs2) (by rw [hs2]; omega)
  rw [show (0 : Int) + x.toInt - x.toInt = 0 by omega] at m2
  exact m2
theorem IV.buy {n i : Nat} {S : MS} {x : Int32} (h : IV n S) (hn : n ≤ 512) (hi : i < nP S) (x0 : ¬ x < 1) (x1 : x ≤ 100) (y0 : ¬ 100 < S.a 505 i + x) (y1 : 10 * x ≤ S.a 504 i) : IV (n + 1) (((fpay (S.setS 500 0) i (10 * x)).setS 528 (S.s 528 + 10 * x)).setA 505 i (S.a 505 i + x)) := by
  have h16 := h.1.2.1
  have hi16 : i < 16 := by omega
  have a1 := n_lt (k := 1) (by decide) x0
  have a2 := p_le (k := 100) (by decide) x1
  have k10 : (10 : Int32).toInt = 10 := by decide
  have hx : (10 * x).toInt = 10 * x.toInt := by rw [z_mul (by rw [k10]; omega) (by rw [k10]; omega), k10]
  have a3 := Int32.le_iff_toInt_le.mp y1
  refine h.step ((((LG.rf.xsc (by decide)).xpay hi).xsc (by decide)).xpe (by decide) hi) ?_ (h.2.2.2.2.2.2.2.2.2.1.sm ?_) (fun j hj => ?_) (fun a ha m => ⟨a, Nat.le_refl _, Nat.le_succ _, ?_⟩)
  · exact (((Sm.rf.ss.st (by decide)).st (by decide)).ss).st (by decide)
  · exact (((Sm.rf.ss.st (by decide)).st (by decide)).ss).st (by decide)
  · have hsb := h.2.2.2.2.2.2.2.2.2.2.1
    by_cases e : j = i
    · subst e
      rw [a_e]
      have c1 := hsb j hj
      have hs : (S.a 505 j + x).toInt = (S.a 505 j).toInt + x.toInt := z_add (by omega) (by omega)
      have c2 := p_le (k := 100) (by decide) (i_nle y0)
      rw [hs] at c2 ⊢
      omega
    · rw [a_b e, setS_a, fpay_a (by decide) (by decide)]
      exact hsb j hj
  · have m0 : MO 0 a (S.setS 500 0) := m.sm Sm.rf rfl rfl
    have m1 := m0.pf (v := 10 * x) hi16 (by omega) a3 (by omega)
    exact m1.sm (Sm.rf.st (by decide)) rfl rfl
theorem rsome_i {d x : Int32} (hd : 0 ≤ d.toInt) (hx : 1 ≤ x.toInt) : 0 ≤ (rsome d x).toInt ∧ (rsome d x).toInt ≤ d.toInt := by
  unfold rsome
  by_cases e : d < x
  · rw [if_pos e]; omega
  · rw [if_neg e]; have := Int32.le_iff_toInt_le.mp (i_nle e); omega
theorem IV.repay {n i : Nat} {S : MS} {x v : Int32} (h : IV n S) (hn : n ≤ 512) (hi : i < nP S) (x0 : ¬ x < 1) (d0 : ¬ S.a 506 i = 0) (y1 : rsome (S.a 506 i) x ≤ S.a 504 i) : IV (n + 1) ((frepay S i (rsome (S.a 506 i) x)).setA 510 i v) := by
  have h16 := h.1.2.1
  have hi16 : i < 16 := by omega
  have hdb := h.2.2.2.2.2.2.2.2.2.1
  have a1 := n_lt (k := 1) (by decide) x0
  obtain ⟨s1, s2⟩ := rsome_i (hdb i hi16).1 a1
  obtain ⟨s, hs⟩ : ∃ s, s = rsome (S.a 506 i) x := ⟨_, rfl⟩
  rw [← hs] at s1 s2 y1 ⊢
  have a3 := Int32.le_iff_toInt_le.mp y1
  have hsub : (S.a 506 i - s).toInt = (S.a 506 i).toInt - s.toInt := z_sub (by have := z_hi (S.a 506 i); omega) (by have := z_hi (S.a 506 i); omega)
  unfold frepay
  refine h.step (((((LG.rf.xsc (by decide)).xpay hi).xsc (by decide)).xpe (by decide) hi).xpe (by decide) hi) ?_ (fun j hj => ?_) (h.2.2.2.2.2.2.2.2.2.2.1.sm ?_) (fun a ha m => ⟨a, Nat.le_refl _, Nat.le_succ _, ?_⟩)
  · exact ((((Sm.rf.ss.st (by decide)).st (by decide)).ss).st (by decide)).st (by decide)
  · have hc : Sm [507, 512] S ((((fpay (S.setS 500 0) i s).setS 528 (S.s 528 + s)).setA 506 i (S.a 506 i - s)).setA 510 i v) := ((((Sm.rf.ss.st (by decide)).st (by decide)).ss).st (by decide)).st (by decide)
    rw [cnt_ext 16 (fun x _ => hc 512 (by decide) x), hc 507 (by decide), hc 512 (by decide)]
    obtain ⟨c1, c2, c3⟩ := hdb j hj
    rw [a_f (by decide)]
    by_cases e : j = i
    · subst e
      rw [a_e, hsub]
      refine ⟨by omega, fun hp => ?_, fun z => absurd (c3 z) d0⟩
      obtain ⟨m, m1, m2, m3⟩ := c2 (by omega)
      exact ⟨m, m1, m2, by omega⟩
    · rw [a_b e, setS_a, fpay_a (by decide) (by decide)]
      exact ⟨c1, c2, c3⟩
  · exact ((((Sm.rf.ss.st (by decide)).st (by decide)).ss).st (by decide)).st (by decide)
  · have m0 : MO 0 a (S.setS 500 0) := m.sm Sm.rf rfl rfl
    have m1 := m0.pf (v := s) hi16 (by omega) a3 (by omega)
    exact m1.sm ((Sm.rf.st (by decide)).st (by decide)) rfl rfl
theorem cnt_mono {S : MS} : ∀ k, k ≤ 16 → k - cnt S k ≤ 16 - cnt S 16 := by
  have h1 : ∀ k, k - cnt S k ≤ (k + 1) - cnt S (k + 1) := fun k => by
    have := cnt_le (S := S) k
    rw [cnt]
    by_cases e : S.a 512 k = 0
    · rw [if_pos e]; omega
    · rw [if_neg e]; omega
  have h2 : ∀ d k, k + d = 16 → k - cnt S k ≤ 16 - cnt S 16 := by
    intro d
    induction d with
    | zero => intro k hk; have hk : k = 16 := hk; rw [hk]; exact Nat.le_refl _
    | succ d ih => intro k hk; exact Nat.le_trans (h1 k) (ih (k + 1) (by omega))
  exact fun k hk => h2 (16 - k) k (by omega)
theorem fold_b {S : MS} {f : Nat → Int32} {U : Nat} (hU : (16 - cnt S 16) * U < 2 ^ 30) (F : Nat → Int32) (F0 : F 0 = 0) (FS : ∀ k, F (k + 1) = F k ∨ F (k + 1) = F k + f k) (hf : ∀ k, k < 16 → 0 ≤ (f k).toInt ∧ (f k).toInt ≤ U) (hd : ∀ k, k < 16 → ¬ S.a 512 k = 0 → F (k + 1) = F k ∨ (f k).toInt = 0) : ∀ k, k ≤ 16 → 0 ≤ (F k).toInt ∧ (F k).toInt ≤ ((k - cnt S k) * U : Nat) := by
  intro k
  induction k with
  | zero => intro _; rw [F0, Int32.toInt_zero]; omega
  | succ k ih =>
    intro hk
    obtain ⟨i1, i2⟩ := ih (by omega)
    have hm := cnt_mono (S := S) (k + 1) hk
    have hm0 := cnt_mono (S := S) k (by omega)
    have hb : (k - cnt S k) * U ≤ (16 - cnt S 16) * U := Nat.mul_le_mul_right _ hm0
    have hb1 : (k + 1 - cnt S (k + 1)) * U ≤ (16 - cnt S 16) * U := Nat.mul_le_mul_right _ hm
    have hcl := cnt_le (S := S) k
    by_cases hdead : S.a 512 k = 0
    · have e : k + 1 - cnt S (k + 1) = (k - cnt S k) + 1 := by rw [cnt, if_pos hdead]; omega
      rw [e, Nat.add_mul, Nat.one_mul] at hb1 ⊢
      rcases FS k with q | q
      · rw [q]; omega
      · obtain ⟨f1, f2⟩ := hf k (by omega)
        rw [q, z_add (by omega) (by omega)]; omega
    · have e : k + 1 - cnt S (k + 1) = k - cnt S k := by rw [cnt, if_neg hdead]; omega
      rw [e]
      rcases hd k (by omega) hdead with q | q
      · rw [q]; omega
      · rcases FS k with q2 | q2
        · rw [q2]; omega
        · rw [q2, z_add (by omega) (by omega)]; omega
theorem DB.u {S : MS} (h : DB S) {i : Nat} (hi : i < 16) : 0 ≤ (S.a 506 i).toInt ∧ (S.a 506 i).toInt ≤ (uu (cnt S 16) 6 : Nat) := by
  obtain ⟨h1, h2, h3⟩ := h i hi
  refine ⟨h1, ?_⟩
  by_cases e : 0 < (S.a 506 i).toInt
  · obtain ⟨m, m1, m2, m3⟩ := h2 e
    have := uu_6 (D := cnt S 16) m m1
    omega
  · omega
theorem uu_s {D m : Nat} : uu D (m + 1) = uu D m + (uu D m + 19) / 20 := rfl
theorem uu_7 {D : Nat} : uu D 6 ≤ uu D 7 := by
  have h : uu D 7 = uu D 6 + (uu D 6 + 19) / 20 := rfl
  omega
theorem DB.b {S : MS} (h : DB S) : (16 - cnt S 16) * uu (cnt S 16) 6 < 2 ^ 30 := by
  have h1 := (uu_b (cnt S 16) (cnt_le 16)).1
  have h2 : (16 - cnt S 16) * uu (cnt S 16) 6 ≤ (16 - cnt S 16) * uu (cnt S 16) 7 := Nat.mul_le_mul_left _ uu_7
  omega
theorem DB.hH {S : MS} (h : DB S) (h16 : nP S ≤ 16) (i : Nat) : 0 ≤ (hdeb S i).toInt ∧ (hdeb S i).toInt < 2 ^ 30 := by
  have hb := h.b
  have hm := cnt_mono (S := S) (nP S) h16
  have := fold_b (f := fun k => S.a 506 k) hb (fun k => hcnt S i (fun k => S.a 506 k) k) rfl (fun k => ?_) (fun k hk => h.u hk) (fun k hk hd => ?_) (nP S) h16
  · have hb1 : (nP S - cnt S (nP S)) * uu (cnt S 16) 6 ≤ (16 - cnt S 16) * uu (cnt S 16) 6 := Nat.mul_le_mul_right _ hm
    unfold hdeb; omega
  · show hcnt S i (fun k => S.a 506 k) (k + 1) = _ ∨ _
    rw [hcnt]
    by_cases e : S.a 512 k = 0 ∧ ¬ 1 < al 5 (S.a 503 i) (S.a 503 k) 0
    · rw [if_pos e]; exact Or.inr rfl
    · rw [if_neg e, Int32.add_zero]; exact Or.inl rfl
  · right
    show (S.a 506 k).toInt = 0
    rw [(h k hk).2.2 hd]; decide
theorem DB.h2 {S : MS} (h : DB S) (h16 : nP S ≤ 16) : fsum S 506 (nP S) ≤ 0 ↔ ∀ i, i < nP S → S.a 506 i ≤ 0 := by
  have hb := h.b
  have key := fold_b (f := fun k => S.a 506 k) hb (fun k => fsum S 506 k) rfl (fun k => Or.inr rfl) (fun k hk => h.u hk) (fun k hk hd => Or.inr (by show (S.a 506 k).toInt = 0; rw [(h k hk).2.2 hd]; decide))
  have st : ∀ k, k < 16 → (fsum S 506 (k + 1)).toInt = (fsum S 506 k).toInt + (S.a 506 k).toInt := fun k hk => by
    have k1 := key k (by omega)
    have k2 := h.u hk
    have hm0 := cnt_mono (S := S) k (by omega)
    have hb0 : (k - cnt S k) * uu (cnt S 16) 6 ≤ (16 - cnt S 16) * uu (cnt S 16) 6 := Nat.mul_le_mul_right _ hm0
    have u7 := (uu_b (cnt S 16) (cnt_le 16)).2
    have u6 := uu_7 (D := cnt S 16)
    rw [fsum]
    have k1 : 0 ≤ (fsum S 506 k).toInt ∧ (fsum S 506 k).toInt ≤ ((k - cnt S k) * uu (cnt S 16) 6 : Nat) := k1
    exact z_add (by omega) (by omega)
  have all : ∀ k, k ≤ 16 → ((fsum S 506 k).toInt ≤ 0 ↔ ∀ i, i < k → S.a 506 i ≤ 0) := by
    intro k
    induction k with
    | zero => intro _; exact ⟨fun _ i hi => absurd hi (Nat.not_lt_zero _), fun _ => by rw [fsum, Int32.toInt_zero]; omega⟩
    | succ k ih =>
      intro hk
      have k1 : 0 ≤ (fsum S 506 k).toInt := (key k (by omega)).1
      have k2 := (h.u (show k < 16 by omega)).1
      rw [st k (by omega)]
      constructor
      · intro z i hi
        rcases Nat.lt_or_ge i k with e | e
        · exact (ih (by omega)).mp (by omega) i e
        · rw [show i = k by omega, le0_iff]; omega
      · intro z
        have z1 := (ih (by omega)).mpr (fun i hi => z i (by omega))
        have z2 := le0_iff.mp (z k (by omega))
        omega
  rw [le0_iff]; exact all (nP S) h16
theorem SB.h1 {S : MS} (h : SB S) : ∀ k, k ≤ 16 → 0 ≤ (fsum S 505 k).toInt ∧ (fsum S 505 k).toInt ≤ 100 * k ∧ (fsum S 505 k).toInt = sumf (S.a 505) k := by
  intro k
  induction k with
  | zero => intro _; rw [fsum, sumf, Int32.toInt_zero]; omega
  | succ k ih =>
    intro hk
    obtain ⟨i1, i2, i3⟩ := ih (by omega)
    have := h k (by omega)
    rw [fsum, sumf, z_add (by omega) (by omega), ← i3]
    omega
theorem DB.hG {S : MS} (h : DB S) {i : Nat} (hi : i < 16) (hd : 0 < S.a 506 i) : 0 < S.a 506 i + (S.a 506 i + 19) / 20 ∧ (S.a 506 i + (S.a 506 i + 19) / 20).toInt = (S.a 506 i).toInt + ((S.a 506 i).toInt + 19) / 20 := by
  have h1 := pos_iff.mp hd
  have h2 := (h.u hi).2
  have u7 := (uu_b (cnt S 16) (cnt_le 16)).2
  have u6 := uu_7 (D := cnt S 16)
  have k19 : (19 : Int32).toInt = 19 := by decide
  have k20 : (20 : Int32).toInt = 20 := by decide
  have s1 : (S.a 506 i + 19).toInt = (S.a 506 i).toInt + 19 := by rw [z_add (by rw [k19]; omega) (by rw [k19]; omega), k19]
  have s2 : ((S.a 506 i + 19) / 20).toInt = ((S.a 506 i).toInt + 19) / 20 := by
    rw [Int32.toInt_div_of_ne_right _ _ (by decide), s1, k20, Int.tdiv_eq_ediv_of_nonneg (by omega)]
  have s3 : (S.a 506 i + (S.a 506 i + 19) / 20).toInt = (S.a 506 i).toInt + ((S.a 506 i).toInt + 19) / 20 := by
    rw [z_add (by rw [s2]; omega) (by rw [s2]; omega), s2]
  exact ⟨pos_iff.mpr (by rw [s3]; omega), s3⟩
theorem IV.borrow {n p a b : Nat} {S : MS} {x : Int32} (h : IV n S) (hn : n ≤ 512) (hp : p < nP S) (x0 : ¬ x < 1) (x1 : x ≤ 1000) (hs : hasP S p) (y0 : ¬ 500 < hdeb S p + x) (y1 : x ≤ S.s 528) : IV (n + 1) (fborrow S p x a b) := by
  have h16 := h.1.2.1
  have hp16 : p < 16 := by omega
  have hdb := h.2.2.2.2.2.2.2.2.2.1
  have a1 := n_lt (k := 1) (by decide) x0
  have a2 := p_le (k := 1000) (by decide) x1
  have a3 := Int32.le_iff_toInt_le.mp y1
  obtain ⟨d1, d2⟩ := hdb.hH h16 p
  have a4 := p_le (k := 500) (by decide) (i_nle y0)
  rw [z_add (by omega) (by omega)] at a4
  unfold fborrow
  have L1 : LG S (floan (S.setS 500 0) p x a b) := ((((LG.rf.xsc (by decide)).xpe (by decide) hp).xpe (by decide) hp).xpe (by decide) hp).xpe (by decide) hp
  refine h.step ((L1.xpay hp).xsc (by decide)) ?_ (fun j hj => ?_) (h.2.2.2.2.2.2.2.2.2.2.1.sm ?_) (fun a' ha m => ⟨a', Nat.le_refl _, Nat.le_succ _, ?_⟩)
  · exact ((((((Sm.rf.ss.st (by decide)).st (by decide)).st (by decide)).st (by decide)).st (by decide)).st (by decide)).ss
  · have hc : Sm [512] S ((fpay (floan (S.setS 500 0) p x a b) p (-x)).setS 528 (S.s 528 - x)) := ((((((Sm.rf.ss.st (by decide)).st (by decide)).st (by decide)).st (by decide)).st (by decide)).st (by decide)).ss
    rw [cnt_ext 16 (fun x _ => hc 512 (by decide) x), hc 512 (by decide), setS_a, setS_a, fpay_a (by decide) (by decide), fpay_a (by decide) (by decide)]
    by_cases e : j = p
    · subst e
      have e6 : (floan (S.setS 500 0) j x a b).a 506 j = x := a_e
      have e7 : (floan (S.setS 500 0) j x a b).a 507 j = 0 := by unfold floan; rw [a_f (by decide), a_f (by decide), a_f (by decide), a_e]
      rw [e6, e7]
      have := uu_0 (cnt S 16)
      exact ⟨by omega, fun _ => ⟨0, Nat.zero_le _, rfl, by omega⟩, fun z => absurd hs.1 z⟩
    · have e6 : (floan (S.setS 500 0) p x a b).a 506 j = S.a 506 j := by unfold floan; rw [a_b e, a_b e, a_b e, a_b e]; rfl
      have e7 : (floan (S.setS 500 0) p x a b).a 507 j = S.a 507 j := by unfold floan; rw [a_b e, a_b e, a_b e, a_b e]; rfl
      rw [e6, e7]; exact hdb j hj
  · exact ((((((Sm.rf.ss.st (by decide)).st (by decide)).st (by decide)).st (by decide)).st (by decide)).st (by decide)).ss
  · have m0 : MO 0 a' (floan (S.setS 500 0) p x a b) := m.sm ((((Sm.rf.ss.st (by decide)).st (by decide)).st (by decide)).st (by decide)) rfl rfl
    have m1 := m0.get (v := x) hp16 (by omega) (by omega)
    have e8 : (fpay (floan (S.setS 500 0) p x a b) p (-x)).s 528 = S.s 528 := rfl
    have hs2 : (S.s 528 - x).toInt = (S.s 528).toInt - x.toInt := z_sub (by have := z_hi (S.s 528); omega) (by have := z_hi (S.s 528); omega)
    have m2 := m1.f (d := -x.toInt) (y := S.s 528 - x) (by rw [e8, hs2]; omega) (by rw [hs2]; omega)
    rw [show (0 : Int) + x.toInt + -x.toInt = 0 by omega] at m2
    exact m2
theorem IV.note {n b i : Nat} {S : MS} {v : Int32} (h : IV n S) (hi : i < nP S) : IV (n + 1) ((S.setS 500 0).setA 530 (16 * b + i) v) :=
  h.step ((LG.sc (by decide)).tr (LG.nt (S := S.setS 500 0) hi h.1.2.1)) (Sm.rf.ss.st (by decide)) (h.2.2.2.2.2.2.2.2.2.1.sm (Sm.rf.ss.st (by decide))) (h.2.2.2.2.2.2.2.2.2.2.1.sm (Sm.rf.ss.st (by decide))) (fun a _ m => ⟨a, Nat.le_refl _, Nat.le_succ _, m.sm (Sm.rf.ss.st (by decide)) rfl rfl⟩)
theorem IV.want {n j r : Nat} {S : MS} {v : Int32} (h : IV n S) (hr : r = 523 ∨ r = 524) : IV (n + 1) ((S.setS 500 0).setA r j v) := by
  rcases hr with e | e <;> subst e
  · exact h.step ((LG.sc (by decide)).tr (LG.pl (S := S.setS 500 0) (by decide))) (Sm.rf.ss.st (by decide)) (h.2.2.2.2.2.2.2.2.2.1.sm (Sm.rf.ss.st (by decide))) (h.2.2.2.2.2.2.2.2.2.2.1.sm (Sm.rf.ss.st (by decide))) (fun a _ m => ⟨a, Nat.le_refl _, Nat.le_succ _, m.sm (Sm.rf.ss.st (by decide)) rfl rfl⟩)
  · exact h.step ((LG.sc (by decide)).tr (LG.pl (S := S.setS 500 0) (by decide))) (Sm.rf.ss.st (by decide)) (h.2.2.2.2.2.2.2.2.2.1.sm (Sm.rf.ss.st (by decide))) (h.2.2.2.2.2.2.2.2.2.2.1.sm (Sm.rf.ss.st (by decide))) (fun a _ m => ⟨a, Nat.le_refl _, Nat.le_succ _, m.sm (Sm.rf.ss.st (by decide)) rfl rfl⟩)
