-- ===== the ledger: a meeting
theorem inj_le : ∀ (m n : Nat) (f : Nat → Nat), (∀ i, i < n → f i < m) → (∀ i j, i < n → j < n → f i = f j → i = j) → n ≤ m := by
  intro m
  induction m with
  | zero =>
    intro n f h1 _
    rcases Nat.eq_zero_or_pos n with z | z
    · omega
    · exact absurd (h1 0 z) (Nat.not_lt_zero _)
  | succ m ih =>
    intro n f h1 h2
    cases n with
    | zero => omega
    | succ n =>
      have := ih n (fun i => if f i = m then f n else f i) (fun i hi => by
        have a1 := h1 i (by omega)
        have a2 := h1 n (by omega)
        by_cases z : f i = m
        · simp only [if_pos z]
          have : f n ≠ m := fun y => by have := h2 i n (by omega) (by omega) (z.trans y.symm); omega
          omega
        · simp only [if_neg z]; omega) (fun i j hi hj e => by
        by_cases z : f i = m <;> by_cases y : f j = m
        · exact h2 i j (by omega) (by omega) (z.trans y.symm)
        · simp only [if_pos z, if_neg y] at e
          have := h2 n j (by omega) (by omega) e; omega
        · simp only [if_neg z, if_pos y] at e
          have := h2 i n (by omega) (by omega) e; omega
        · simp only [if_neg z, if_neg y] at e
          exact h2 i j (by omega) (by omega) e)
      omega
theorem mn_7 {n : Nat} {S : MS} (v : JV n S) (h7 : nP S = 7) {c : Nat} (hc : c < nC S) : mn S c ≤ 7 :=
  inj_le 7 (mn S c) (fun k => wh S (10 * c + k)) (fun k hk => by have := ((v.sh.2.2.2.2 c hc).2.2 k hk).2; omega) (fun i j hi hj e => v.di c hc i j hi hj e)
theorem cols_led {S : MS} {T : Nat → Int} {c a b n : Nat} {m : Int32} (hI : SH S) (hD : DI S) (hc : c < nC S) (hn : n ≤ 512) (hab : a + b ≤ n) (mo : MO 0 a S) (ar : AB n S) (pb : PB a b S) (hT : TG S T) (s40 : (S.a 514 c).toInt ≤ 40) : ∀ k, k ≤ mn S c → ∃ T1, TG (fcols (S.setS 500 0) c m k) T1 ∧ (∀ q, T1 q + ((fcols (S.setS 500 0) c m k).a 504 q).toInt = T q + (S.a 504 q).toInt) ∧ (∀ q, T q ≤ T1 q) ∧ (∀ q, (∀ j, j < k → wh S (10 * c + j) ≠ q) → T1 q = T q) ∧
    (∀ j, j < k → T1 (wh S (10 * c + j)) + ((fcols (S.setS 500 0) c m k).a 522 (10 * c + j)).toInt ≤ T (wh S (10 * c + j)) + (S.a 522 (10 * c + j)).toInt + 44 ∧ ((fcols (S.setS 500 0) c m k).a 522 (10 * c + j)).toInt ≤ (S.a 522 (10 * c + j)).toInt + 44) ∧
    ∀ p, -T1 p + BBm (fcols (S.setS 500 0) c m k) + sumf (fun x => (fcols (S.setS 500 0) c m k).a 522 (10 * c + x)) (mn S c) ≤ -T p + BBm S + sumf (fun x => S.a 522 (10 * c + x)) (mn S c) + 44 * k := by
  obtain ⟨j1, j2, j3⟩ := hI.2.2.2.2 c hc
  have h16 := hI.2.1
  have h4 := hI.2.2.2.1
  obtain ⟨s1, s2, s3⟩ := ar c hc
  intro k
  induction k with
  | zero => intro _; exact ⟨T, hT, fun q => rfl, fun q => Int.le_refl _, fun q _ => rfl, fun j hj => absurd hj (Nat.not_lt_zero _), fun p => by show -T p + BBm S + sumf (fun x => S.a 522 (10 * c + x)) (mn S c) ≤ _; omega⟩
  | succ k ih =>
    intro hk
    obtain ⟨T1, t1, t2, t3, t4, t5, t6⟩ := ih (by omega)
    obtain ⟨l1, l2, l3, l4⟩ := fcols_k (m := m) hI hc hn hab mo ar pb k (by omega)
    obtain ⟨X, hX⟩ : ∃ X, X = fcols (S.setS 500 0) c m k := ⟨_, rfl⟩
    have hX1 : fcols (S.setS 500 0) c m (k + 1) = fcol X c (10 * c + k) m := by rw [hX]; rfl
    rw [← hX] at t1 t2 t5 t6 l1 l2 l3 l4
    rw [hX1]
    have N := l1.1
    obtain ⟨i, hi⟩ : ∃ i, i = wh S (10 * c + k) := ⟨_, rfl⟩
    have hwk : wh X (10 * c + k) = i := by rw [N.w, hi]
    have hpk : i < nP S := by rw [hi]; exact (j3 k (by omega)).2
    have hi16 : i < 16 := by omega
    have e14 : X.a 514 c = S.a 514 c := by rw [hX]; exact fcols_a (by decide) (by decide) (by decide) (by decide) (by decide) k
    have e22 := (l2 (10 * c + k) (fun k' hk' => by omega)).1
    have ar0 := s3 k (by omega)
    have hbig : n * 2 ^ (10 - mn S c) ≤ 512 * 512 := Nat.mul_le_mul hn (Nat.le_trans (Nat.pow_le_pow_right (by decide) (show 10 - mn S c ≤ 9 by omega)) (by decide))
    have ho : (owes X c (10 * c + k)).toInt = (S.a 514 c).toInt + (S.a 522 (10 * c + k)).toInt := by
      unfold owes
      rw [e14, e22]; exact z_add (by omega) (by omega)
    have q0 := l4.1 i hi16
    have q1 := l4.pm hi16
    obtain ⟨v, hv⟩ : ∃ v, v = cpay X c (10 * c + k) := ⟨_, rfl⟩
    have hp : 0 ≤ v.toInt ∧ v.toInt ≤ (X.a 504 i).toInt ∧ v.toInt ≤ (owes X c (10 * c + k)).toInt := by
      rw [hv]
      unfold cpay
      rw [hwk]
      by_cases e : X.a 504 i < owes X c (10 * c + k)
      · rw [if_pos e]
        have := Int32.lt_iff_toInt_lt.mp e
        omega
      · rw [if_neg e]
        have := Int32.le_iff_toInt_le.mp (i_nle e)
        omega
    have hrest : (owes X c (10 * c + k) - v).toInt = (owes X c (10 * c + k)).toInt - v.toInt := z_sub (by omega) (by omega)
    have k10 : (10 : Int32).toInt = 10 := by decide
    have hten : (X.a 514 c / 10).toInt = (S.a 514 c).toInt / 10 := by
      rw [Int32.toInt_div_of_ne_right _ _ (by decide), k10, e14, Int.tdiv_eq_ediv_of_nonneg (by omega)]
    obtain ⟨r, hr⟩ : ∃ r, r = crest X c (10 * c + k) m := ⟨_, rfl⟩
    have hcr : r.toInt + v.toInt ≤ (S.a 522 (10 * c + k)).toInt + 44 := by
      rw [hr]
      unfold crest
      rw [← hv]
      by_cases e : owes X c (10 * c + k) - v ≤ 0 ∨ ¬ m = 0
      · rw [if_pos e, hrest]; omega
      · rw [if_neg e, z_add (by omega) (by omega), hrest, hten]; omega
    have f22 : ∀ x, (fcol X c (10 * c + k) m).a 522 x = if x = 10 * c + k then r else X.a 522 x := fun x => by
      unfold fcol
      by_cases z : x = 10 * c + k
      · rw [z, a_e, if_pos rfl, hr]
      · rw [a_b z, if_neg z, a_f (by decide), a_f (by decide), fpay_a (by decide) (by decide)]
    have f16 : (fcol X c (10 * c + k) m).a 516 c = X.a 516 c + v := by
      unfold fcol
      rw [a_f (by decide), a_f (by decide), a_e, hv]
    have f16o : ∀ x, x ≠ c → (fcol X c (10 * c + k) m).a 516 x = X.a 516 x := fun x hx => by
      unfold fcol
      rw [a_f (by decide), a_f (by decide), a_b hx, fpay_a (by decide) (by decide)]
    have f4 : ∀ q, (fcol X c (10 * c + k) m).a 504 q = (fpay X i v).a 504 q := fun q => by
      unfold fcol
      rw [a_f (by decide), a_f (by decide), a_f (by decide), hwk, hv]
    have f11 : ∀ q, (fcol X c (10 * c + k) m).a 511 q = (fpay X i v).a 511 q := fun q => by
      unfold fcol
      rw [a_f (by decide), a_f (by decide), a_f (by decide), hwk, hv]
    have bx := l4.bm (show c < 4 by omega)
    have bx0 := l4.2.1 c (by omega)
    have hB := BB_up (S := X) (S' := fcol X c (10 * c + k) m) (show c < 4 by omega) f16o
    rw [f16, z_add (by omega) (by omega)] at hB
    have hS := sumf_up (f := fun x => X.a 522 (10 * c + x)) (g := fun x => (fcol X c (10 * c + k) m).a 522 (10 * c + x)) (i := k) (fun x hx => by
      show (fcol X c (10 * c + k) m).a 522 (10 * c + x) = X.a 522 (10 * c + x)
      rw [f22, if_neg (by omega)]) (mn S c) (by omega)
    have hS2 : ((fun x => (fcol X c (10 * c + k) m).a 522 (10 * c + x)) k).toInt = r.toInt := by
      show ((fcol X c (10 * c + k) m).a 522 (10 * c + k)).toInt = _
      rw [f22, if_pos rfl]
    have hS3 : ((fun x => X.a 522 (10 * c + x)) k).toInt = (S.a 522 (10 * c + k)).toInt := by
      show (X.a 522 (10 * c + k)).toInt = _
      rw [e22]
    rw [hS2, hS3] at hS
    have hdi : ∀ j, j < k → wh S (10 * c + j) ≠ i := fun j hj e => by
      rw [hi] at e
      have := hD c hc j k (by omega) (by omega) e
      omega
    have hTi : T1 i = T i := t4 i hdi
    have hpp := fun q => pay_pu (S := X) (i := i) (q := q) (v := v) hp.1 hp.2.1
    refine ⟨tu T1 i v.toInt, fun q => by rw [f11]; exact t1.pos q, fun q => ?_, fun q => ?_, fun q hq => ?_, fun j hj => ?_, fun p => ?_⟩
    · rw [f4, hpp q]
      have := t2 q
      by_cases z : q = i
      · rw [z, tu_e, if_pos rfl]; rw [z] at this; omega
      · rw [tu_n z, if_neg z]; omega
    · have a1 := t3 q
      have a2 := tu_nn (T := T1) (i := i) (q := q) hp.1
      omega
    · rw [tu_n (fun z => hq k (by omega) (by rw [z, hi]))]
      exact t4 q (fun j hj => hq j (by omega))
    · rw [f22]
      by_cases z : j = k
      · subst z
        rw [if_pos rfl, ← hi, tu_e, hTi]
        have := (hp.1)
        exact ⟨by omega, by omega⟩
      · rw [if_neg (by omega), tu_n (hdi j (by omega))]
        exact t5 j (by omega)
    · have a1 := t6 p
      rw [hB, hS]
      by_cases z : p = i
      · rw [z, tu_e]; rw [z] at a1; omega
      · rw [tu_n z]; omega
theorem fgive_518 {X : MS} {c i c' : Nat} {a v : Int32} : (fgive X c i a).setA 518 c' v = fgive (X.setA 518 c' v) c i a := by
  have e1 : (X.setA 518 c' v).a 516 c = X.a 516 c := a_f (by decide)
  unfold fgive fpay
  rw [e1]
  have e2 : ((X.setA 518 c' v).setA 516 c (X.a 516 c - a)).a 504 i = (X.setA 516 c (X.a 516 c - a)).a 504 i := by rw [a_f (by decide), a_f (by decide), a_f (by decide)]
  have e3 : ((X.setA 518 c' v).setA 516 c (X.a 516 c - a)).a 511 i = (X.setA 516 c (X.a 516 c - a)).a 511 i := by rw [a_f (by decide), a_f (by decide), a_f (by decide)]
  rw [e2, e3, setA_comm (r := 511) (r' := 518) (by decide), setA_comm (r := 504) (r' := 518) (by decide), setA_comm (r := 516) (r' := 518) (by decide)]
/-- after all have paid in, the meeting counted -/
theorem BG.cols {k n : Nat} {S : MS} {T : Nat → Int} {e j w s : Nat} {o1 o2 : Nat → Nat} {F : Int} (h : BG k S T e j w s o1 o2 F) (v : JV n S) (hn : n ≤ 511) (hk : k ≤ 49) {c : Nat} {m : Int32} (hc : c < 2) (hn2 : nC S = 2) (h7 : nP S = 7) (hs : ¬ S.a 520 c = 0) (h2 : 2 ≤ mn S c) (s40 : (S.a 514 c).toInt ≤ 40) (hlive : ∀ x, x < mn S c → S.a 512 (wh S (10 * c + x)) = 0) : ∃ T1, BG (k + 1) ((fcols (S.setS 500 0) c m (mn S c)).setA 518 c (S.a 518 c + 1)) T1 e j w s o1 o2 F := by
  obtain ⟨a, b, hab, mo, pb⟩ := v.mo
  have hcn : c < nC S := by omega
  have hm7 := mn_7 v h7 hcn
  obtain ⟨T1, t1, t2, t3, t4, t5, t6⟩ := cols_led (m := m) v.sh v.di hcn (show n ≤ 512 by omega) hab mo v.ab pb h.1 s40 (mn S c) (Nat.le_refl _)
  obtain ⟨l1, l2, -, -⟩ := fcols_k (m := m) v.sh hcn (show n ≤ 512 by omega) hab mo v.ab pb (mn S c) (Nat.le_refl _)
  obtain ⟨D, hD⟩ : ∃ D, D = fcols (S.setS 500 0) c m (mn S c) := ⟨_, rfl⟩
  rw [← hD] at t1 t2 t5 t6 l1 l2 ⊢
  obtain ⟨g1, g2, g3, g4, g5, g6, ⟨g7, g7a, g7b⟩, g8, g9, g10, g11, g12, g13⟩ := h
  have da : ∀ r x, r ≠ 504 → r ≠ 511 → r ≠ 516 → r ≠ 525 → r ≠ 522 → D.a r x = S.a r x := fun r x q1 q2 q3 q4 q5 => by rw [hD]; exact fcols_a (S := S.setS 500 0) q1 q2 q3 q4 q5 _
  have ds : ∀ f, f ≠ 500 → D.s f = S.s f := fun f hf => by rw [hD, fcols_s, s_f hf]
  obtain ⟨u, hu⟩ : ∃ u, u = S.a 518 c + 1 := ⟨_, rfl⟩
  rw [← hu]
  obtain ⟨Y, hY⟩ : ∃ Y, Y = D.setA 518 c u := ⟨_, rfl⟩
  rw [← hY]
  have ya : ∀ r x, r ≠ 518 → Y.a r x = D.a r x := fun r x hr => by rw [hY, a_f hr]
  have yo : ∀ r x, r ≠ 504 → r ≠ 511 → r ≠ 516 → r ≠ 525 → r ≠ 522 → r ≠ 518 → Y.a r x = S.a r x := fun r x q1 q2 q3 q4 q5 q6 => by rw [ya r x q6, da r x q1 q2 q3 q4 q5]
  have y18 : ∀ x, Y.a 518 x = if x = c then u else S.a 518 x := fun x => by
    rw [hY]
    by_cases z : x = c
    · rw [z, a_e, if_pos rfl]
    · rw [a_b z, if_neg z, da 518 x (by decide) (by decide) (by decide) (by decide) (by decide)]
  have ys : ∀ f, f ≠ 500 → Y.s f = S.s f := fun f hf => by rw [hY, setA_s, ds f hf]
  have ym : ∀ x, mn Y x = mn S x := fun x => by unfold mn; rw [yo 517 x (by decide) (by decide) (by decide) (by decide) (by decide) (by decide)]
  have yw : ∀ x, wh Y x = wh S x := fun x => by unfold wh; rw [yo 521 x (by decide) (by decide) (by decide) (by decide) (by decide) (by decide)]
  have y12 : ∀ x, Y.a 512 x = S.a 512 x := fun x => yo 512 x (by decide) (by decide) (by decide) (by decide) (by decide) (by decide)
  have c0 := g5 0 (by decide)
  have c1 := g5 1 (by decide)
  have hmt : 0 ≤ mt S := by unfold mt; omega
  have hmtk : mt S ≤ k := by omega
  have hcm : (S.a 518 c).toInt ≤ mt S := by
    unfold mt
    rcases (by omega : c = 0 ∨ c = 1) with z | z <;> subst z <;> omega
  have k1 : (1 : Int32).toInt = 1 := by decide
  have hui : u.toInt = (S.a 518 c).toInt + 1 := by
    have := g5 c hc
    rw [hu, z_add (by rw [k1]; omega) (by rw [k1]; omega), k1]
  have emt : mt Y = mt S + 1 := by
    unfold mt
    rw [y18, y18]
    rcases (by omega : c = 0 ∨ c = 1) with z | z <;> subst z
    · rw [if_pos rfl, if_neg (by decide), hui]; omega
    · rw [if_neg (by decide), if_pos rfl, hui]; omega
  have eDD : DDm Y = DDm S := sumf_ext _ (fun x _ => yo 506 x (by decide) (by decide) (by decide) (by decide) (by decide) (by decide))
  have eBB : BBm Y = BBm D := sumf_ext _ (fun x _ => ya 516 x (by decide))
  have asC : asum Y c = sumf (fun x => D.a 522 (10 * c + x)) (mn S c) := by
    unfold asum
    rw [ym]
    exact sumf_ext _ (fun x _ => ya 522 _ (by decide))
  have hm10 : ∀ c', c' < 2 → mn S c' ≤ 10 := fun c' hc' => (v.sh.2.2.2.2 c' (by omega)).2.1
  have r22 : ∀ c' x, c' < 2 → c' ≠ c → x < mn S c' → Y.a 522 (10 * c' + x) = S.a 522 (10 * c' + x) := fun c' x hc' hne hx => by
    rw [ya 522 _ (by decide)]
    exact (l2 _ (fun k' hk' => by have := hm10 c' hc'; omega)).1
  have asO : ∀ c', c' < 2 → c' ≠ c → asum Y c' = asum S c' := fun c' hc' hne => by
    unfold asum
    rw [ym]
    exact sumf_ext _ (fun x hx => r22 c' x hc' hne hx)
  have hAA : ∀ p, -T1 p + BBm Y + AAm Y ≤ -T p + BBm S + AAm S + 308 := fun p => by
    have := t6 p
    rw [eBB]
    unfold AAm
    have ea : asum S c = sumf (fun x => S.a 522 (10 * c + x)) (mn S c) := rfl
    rcases (by omega : c = 0 ∨ c = 1) with z | z <;> subst z
    · rw [asC, asO 1 (by decide) (by decide)]; omega
    · rw [asC, asO 0 (by decide) (by decide)]; omega
  have aro : ∀ c' q x, c' < 2 → c' ≠ c → AR Y c' q x → AR S c' q x := fun c' q x hc' hne hx => by
    unfold AR at hx
    rw [ym] at hx
    rcases hx with ⟨x0, h1, h3, h4⟩ | ⟨h1, h3⟩
    · rw [yw] at h3
      rw [r22 c' x0 hc' hne h1] at h4
      exact Or.inl ⟨x0, h1, h3, h4⟩
    · exact Or.inr ⟨fun x0 h4 h5 => h1 x0 h4 (by rw [yw]; exact h5), h3⟩
  have arc : ∀ q x, AR Y c q x → (∃ x', AR S c q x' ∧ T1 q + x ≤ T q + x' + 44 ∧ (∃ x0, x0 < mn S c ∧ wh S (10 * c + x0) = q)) ∨ ((∀ x0, x0 < mn S c → wh S (10 * c + x0) ≠ q) ∧ x = 0 ∧ T1 q = T q) := fun q x hx => by
    unfold AR at hx
    rw [ym] at hx
    rcases hx with ⟨x0, h1, h3, h4⟩ | ⟨h1, h3⟩
    · rw [yw] at h3
      rw [ya 522 _ (by decide)] at h4
      have a1 := (t5 x0 h1).1
      rw [h3] at a1
      exact Or.inl ⟨_, Or.inl ⟨x0, h1, h3, rfl⟩, by omega, x0, h1, h3⟩
    · have h1' : ∀ x0, x0 < mn S c → wh S (10 * c + x0) ≠ q := fun x0 h4 h5 => h1 x0 h4 (by rw [yw]; exact h5)
      exact Or.inr ⟨h1', h3, t4 q h1'⟩
  have g6' : ∀ q x y, q < 7 → Y.a 512 q = 0 → AR Y 0 q x → AR Y 1 q y → T1 q + x + y + DDm Y ≤ 44 * (mt Y * (o1 q : Int)) + F := fun q x y hq hl hx hy => by
    rw [y12] at hl
    rw [eDD, emt, Int.add_mul, Int.one_mul]
    have ho : (0 : Int) ≤ (o1 q : Int) := Int.natCast_nonneg _
    rcases (by omega : c = 0 ∨ c = 1) with z | z <;> subst z
    · have hy' := aro 1 q y (by decide) (by decide) hy
      rcases arc q x hx with ⟨x', h1, h3, x0, h4, h5⟩ | ⟨h1, h3, h4⟩
      · have a1 := g6 q x' y hq hl h1 hy'
        have a2 := (g4 0 x0 (by decide) h4).1
        rw [h5] at a2
        omega
      · have a1 := g6 q 0 y hq hl (Or.inr ⟨h1, rfl⟩) hy'
        omega
    · have hx' := aro 0 q x (by decide) (by decide) hx
      rcases arc q y hy with ⟨x', h1, h3, x0, h4, h5⟩ | ⟨h1, h3, h4⟩
      · have a1 := g6 q x x' hq hl hx' h1
        have a2 := (g4 1 x0 (by decide) h4).1
        rw [h5] at a2
        omega
      · have a1 := g6 q x 0 hq hl hx' (Or.inr ⟨h1, rfl⟩)
        omega
  have ynn : ∀ c' q x, c' < 2 → AR Y c' q x → 0 ≤ x := fun c' q x hc' hx => by
    have vj : ∀ x0, x0 < mn S c' → 0 ≤ (Y.a 522 (10 * c' + x0)).toInt := fun x0 h1 => by
      by_cases z : c' = c
      · subst z
        obtain ⟨-, -, l3, -⟩ := fcols_k (m := m) v.sh hcn (show n ≤ 512 by omega) hab mo v.ab pb (mn S c') (Nat.le_refl _)
        rw [ya 522 _ (by decide), hD]
        exact (l3 x0 h1).1.1
      · rw [r22 c' x0 hc' z h1]
        exact ((v.ab c' (by omega)).2.2 x0 h1).1
    unfold AR at hx
    rw [ym] at hx
    rcases hx with ⟨x0, h1, -, h4⟩ | ⟨-, h3⟩
    · rw [h4]; exact vj x0 h1
    · omega
  have hs1 := g7a c hc hs
  refine ⟨T1, fun q => by rw [ya 511 q (by decide)]; exact t1 q, fun q hq => ?_, g3, fun c' x hc' hx => ?_, fun c' hc' => ?_, g6', ⟨by rw [emt]; omega, fun c' hc' => by rw [yo 520 _ (by decide) (by decide) (by decide) (by decide) (by decide) (by decide)]; exact g7a c' hc', g7b⟩, fun q hq => ?_, fun q hq => ?_, fun q hq hl => ?_, fun q hq => ?_, g12, Or.inr hs1⟩
  · rw [y12, yo 506 _ (by decide) (by decide) (by decide) (by decide) (by decide) (by decide)]; exact g2 q hq
  · rw [ym] at hx
    obtain ⟨b1, b2⟩ := g4 c' x hc' hx
    rw [yw]
    refine ⟨b1, ?_⟩
    rw [y18]
    by_cases z : c' = c
    · subst z
      rw [if_pos rfl, ya 522 _ (by decide), hui, Int.add_mul, Int.one_mul]
      have := (t5 x hx).2
      omega
    · rw [if_neg z, r22 c' x hc' z hx]; exact b2
  · rw [y18]
    by_cases z : c' = c
    · rw [if_pos z, hui]; have := g5 c hc; omega
    · rw [if_neg z]; exact g5 c' hc'
  · rw [eDD]
    by_cases hmem : ∃ x0, x0 < mn S c ∧ wh S (10 * c + x0) = q
    · obtain ⟨x0, hx0, hw0⟩ := hmem
      have hl : S.a 512 q = 0 := by rw [← hw0]; exact hlive x0 hx0
      obtain ⟨xa, hxa⟩ := AR.ex Y 0 q
      obtain ⟨xb, hxb⟩ := AR.ex Y 1 q
      have b1 := g6' q xa xb hq (by rw [y12]; exact hl) hxa hxb
      have b2 := ynn 0 q xa (by decide) hxa
      have b3 := ynn 1 q xb (by decide) hxb
      rw [eDD, emt] at b1
      obtain ⟨x1, hx1, hne⟩ : ∃ x1, x1 < mn S c ∧ x1 ≠ x0 := by
        by_cases z : x0 = 0
        · exact ⟨1, by omega, by omega⟩
        · exact ⟨0, by omega, by omega⟩
      obtain ⟨r, hr⟩ : ∃ r, r = wh S (10 * c + x1) := ⟨_, rfl⟩
      have hrq : r ≠ q := fun z => hne (v.di c hcn x1 x0 hx1 hx0 (by rw [← hr, z, hw0]))
      have hr7 : r < 7 := by rw [hr]; have := ((v.sh.2.2.2.2 c hcn).2.2 x1 hx1).2; omega
      have or1 : 1 ≤ o1 r := by rw [hr]; exact (g4 c x1 hc hx1).1
      have oq1 : 1 ≤ o1 q := by rw [← hw0]; exact (g4 c x0 hc hx0).1
      have p1 := (g2 r hr7).2.1
      have p2 := (g2 q hq).2.1
      have p3 := ns_le2 (f := o2) hrq 7 hr7 hq
      have p4 := ns_le2 (f := fun q => 2 * o1 q - 1) hrq 7 hr7 hq
      have p5 : (2 * o1 r - 1) + (2 * o1 q - 1) ≤ ns (fun q => 2 * o1 q - 1) 7 := p4
      have o6 : o1 q = 1 ∨ o1 q = 2 ∨ o1 q = 3 ∨ o1 q = 4 ∨ o1 q = 5 ∨ o1 q = 6 := by omega
      rcases o6 with z | z | z | z | z | z <;> rw [z] at b1 p5 <;> omega
    · have b1 := t4 q (fun x0 h1 h3 => hmem ⟨x0, h1, h3⟩)
      have b2 := g8 q hq
      omega
  · have b1 := g9 q hq
    have b2 := hAA q
    rw [eDD, emt, ys 528 (by decide)]; omega
  · rw [y12] at hl
    have b1 := g10 q hq hl
    have b2 := t2 q
    rw [ys 529 (by decide), ya 504 q (by decide), b2]; exact b1
  · have b1 := g11 q hq
    have b2 := t3 q
    omega
theorem BG.meet {k n : Nat} {S : MS} {T : Nat → Int} {e j w s : Nat} {o1 o2 : Nat → Nat} {F : Int} (h : BG k S T e j w s o1 o2 F) (v : JV n S) (hn : n ≤ 511) (hk : k ≤ 49) {c t : Nat} {m : Int32} (hc : c < 2) (hn2 : nC S = 2) (h7 : nP S = 7) (hs : ¬ S.a 520 c = 0) (h2 : 2 ≤ mn S c) (ht : t < mn S c) (s40 : (S.a 514 c).toInt ≤ 40) (hlive : ∀ x, x < mn S c → S.a 512 (wh S (10 * c + x)) = 0) : ∃ T', BG (k + 1) (fmeet S c m t) T' e j w s o1 o2 F := by
  obtain ⟨T1, hb⟩ := h.cols (m := m) v hn hk hc hn2 h7 hs h2 s40 hlive
  have hcn : c < nC S := by omega
  obtain ⟨a, b, hab, mo, pb⟩ := v.mo
  obtain ⟨l1, -, -, l4⟩ := fcols_k (m := m) v.sh hcn (show n ≤ 512 by omega) hab mo v.ab pb (mn S c) (Nat.le_refl _)
  obtain ⟨p0, p1⟩ := meet_D (m := m) v.1 (by omega) hcn hab mo pb
  obtain ⟨D, hD⟩ : ∃ D, D = fcols (S.setS 500 0) c m (mn S c) := ⟨_, rfl⟩
  have ea : ∀ r x, r ≠ 504 → r ≠ 511 → r ≠ 516 → r ≠ 525 → r ≠ 522 → D.a r x = S.a r x := fun r x q1 q2 q3 q4 q5 => by rw [hD]; exact fcols_a (S := S.setS 500 0) q1 q2 q3 q4 q5 _
  rw [← hD] at l1 l4 p0 p1 hb
  have N := l1.1
  have hcD : c < nC D := by rw [N.c]; exact hcn
  have hmD : mn D c = mn S c := by rw [N.m]
  have hID := N.sh v.sh
  have bdD : BD D := v.2.sm (fun r hr x => by have : r = 524 := by simpa using hr
                                              subst this; exact ea 524 x (by decide) (by decide) (by decide) (by decide) (by decide))
  obtain ⟨d0, d1⟩ := fdis_i (t := t) bdD p0
  have b1 := l4.bm (show c < 4 by omega)
  have hg : (fpot D c - fdis D c t).toInt = (fpot D c).toInt - (fdis D c t).toInt := z_sub (by omega) (by omega)
  have h17 : (D.a 517 c - 1).toInt = (mn S c : Int) - 1 := by
    rw [(hID.2.2.2.2 c hcD).1, hmD]
    obtain ⟨k, hk⟩ : ∃ k, mn S c = k + 1 := ⟨mn S c - 1, by omega⟩
    have hm10 := (v.sh.2.2.2.2 c hcn).2.1
    rw [hk, nI_pred, nI_toInt (by omega)]; omega
  have hne : D.a 517 c - 1 ≠ -1 := fun z => by
    rw [z] at h17
    have : (-1 : Int32).toInt = -1 := by decide
    omega
  have he : (feach D c t).toInt = (fdis D c t).toInt / ((mn S c : Int) - 1) := by
    unfold feach
    rw [Int32.toInt_div_of_ne_right _ _ hne, h17, Int.tdiv_eq_ediv_of_nonneg d0]
  have he0 : 0 ≤ (feach D c t).toInt := by rw [he]; exact Int.ediv_nonneg d0 (by omega)
  have hem : (feach D c t).toInt * ((mn S c : Int) - 1) ≤ (fdis D c t).toInt := by rw [he]; exact Int.ediv_mul_le _ (by omega)
  have htot : gsum t (fpot D c - fdis D c t).toInt (feach D c t).toInt (mn S c) ≤ (D.a 516 c).toInt := by
    rw [gsum_v, if_pos ht, hg]
    rw [Int.mul_comm] at hem
    omega
  have hg0 : 0 ≤ (fpot D c - fdis D c t).toInt := by rw [hg]; omega
  obtain ⟨g, hgd⟩ : ∃ g, g = fpot D c - fdis D c t := ⟨_, rfl⟩
  obtain ⟨f, hfd⟩ : ∃ f, f = feach D c t := ⟨_, rfl⟩
  rw [← hgd] at hg0 htot
  rw [← hfd] at he0 htot
  obtain ⟨u, hu⟩ : ∃ u, u = S.a 518 c + 1 := ⟨_, rfl⟩
  rw [← hu] at hb
  have key : ∀ x, x ≤ mn S c → ∃ T2, BG (k + 1) ((fpo D c t g f x).setA 518 c u) T2 e j w s o1 o2 F := by
    intro x
    induction x with
    | zero => intro _; exact ⟨T1, hb⟩
    | succ x ih =>
      intro hx
      obtain ⟨T2, hb2⟩ := ih (by omega)
      obtain ⟨q1, q2, q3⟩ := fpo_k (t := t) (g := g) (e := f) hID hcD hmD (show a ≤ 512 by omega) l4 hg0 he0 htot x (by omega)
      obtain ⟨X, hX⟩ : ∃ X, X = fpo D c t g f x := ⟨_, rfl⟩
      have hX1 : fpo D c t g f (x + 1) = fgive X c (wh D (10 * c + x)) (if x = t then g else f) := by rw [hX]; rfl
      rw [← hX] at hb2 q1 q2 q3
      rw [hX1, fgive_518]
      obtain ⟨y, hy⟩ : ∃ y, y = if x = t then g else f := ⟨_, rfl⟩
      have hyi : y.toInt = if x = t then g.toInt else f.toInt := by rw [hy]; by_cases z : x = t <;> simp [z]
      have hy0 : 0 ≤ y.toInt := by rw [hyi]; by_cases z : x = t <;> simp [z] <;> omega
      have hmn := gsum_mono (t := t) hg0 he0 (mn S c - (x + 1)) (x + 1)
      rw [show x + 1 + (mn S c - (x + 1)) = mn S c by omega] at hmn
      have hgs : gsum t g.toInt f.toInt (x + 1) = gsum t g.toInt f.toInt x + y.toInt := by rw [gsum, hyi]
      rw [← hy]
      have hwD : wh D (10 * c + x) = wh S (10 * c + x) := by rw [N.w]
      have hpw := ((v.sh.2.2.2.2 c hcn).2.2 x (by omega)).2
      have xl : (X.setA 518 c u).a 512 (wh D (10 * c + x)) = 0 := by
        rw [a_f (by decide), hX, fpo_a (by decide) (by decide) (by decide), ea 512 _ (by decide) (by decide) (by decide) (by decide) (by decide), hwD]
        exact hlive x (by omega)
      exact ⟨_, (hb2.give (c := c) (i := wh D (10 * c + x)) (a := a) (v := y) (by omega) (by rw [hwD]; omega) xl hy0 (by rw [a_f (by decide), q2]; omega) (q3.sm (Sm.rf.st (by decide)) rfl rfl) (by omega)).1⟩
  obtain ⟨T2, hb2⟩ := key (mn S c) (Nat.le_refl _)
  have hpd : fpaid D c t = (fpo D c t g f (mn S c)).setA 527 (10 * c + t) 1 := by unfold fpaid; rw [hmD, ← hgd, ← hfd]
  have e18 : (fpaid D c t).a 518 c = S.a 518 c := by
    rw [hpd, a_f (by decide), fpo_a (by decide) (by decide) (by decide), ea 518 _ (by decide) (by decide) (by decide) (by decide) (by decide)]
  have hfm : fmeet S c m t = frnd (fbid ((fpaid D c t).setA 518 c ((fpaid D c t).a 518 c + 1)) c (mn S c)) c := by rw [hD]; rfl
  rw [hfm, e18, ← hu, hpd, setA_comm (r := 527) (r' := 518) (by decide)]
  refine ⟨T2, BG.rnd (hb2.cong ?_ ?_ ?_) c⟩
  · have s1 : Sm [504, 506, 511, 512, 516, 517, 518, 520, 521, 522] ((fpo D c t g f (mn S c)).setA 518 c u) (((fpo D c t g f (mn S c)).setA 518 c u).setA 527 (10 * c + t) 1) := Sm.rf.st (by decide)
    exact s1.tr (fun r hr x => by
      have : r = 504 ∨ r = 506 ∨ r = 511 ∨ r = 512 ∨ r = 516 ∨ r = 517 ∨ r = 518 ∨ r = 520 ∨ r = 521 ∨ r = 522 := by simpa using hr
      have h5 : r ≠ 524 := by omega
      exact fbid_a (r := r) h5 _)
  · rw [fbid_s]; rfl
  · rw [fbid_s]; rfl
