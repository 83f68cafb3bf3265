-- ===== the law's acts: earnings, entries, starts, wants
theorem i_lt {x y : Int32} : x < y ↔ x.toInt < y.toInt := Int32.lt_iff_toInt_lt
theorem i_leI {x y : Int32} : x ≤ y ↔ x.toInt ≤ y.toInt := Int32.le_iff_toInt_le
theorem nothr {S : MS} {a b : Int32} {P : Prop} (z : (S.setS 500 a).s 500 = b) (h : a ≠ b) : P := absurd (show a = b from z) h
section B1
variable {L : Nat} {xs : Nat → Int32} {x mo o k n : Nat} {S : MS} {w : Wd} {p V : Nat}
theorem b_258 (h : AT x mo o S w) (st : ST o k n S) (hn : n ≤ 20 + 3 * k) (hk : k ≤ 49) (hp : p < 7) (hV : V < 840) : wpc_258 L xs x (nI p) (nI V) (S.a 504 p) w (S.a 511 p) (JJ x mo o (k + 1)) := by
  intro v412 h412
  have k300 : (300 : Int32).toInt = 300 := by decide
  have vI : (nI V).toInt = V := nI_toInt (by omega)
  have hx : v412.toInt = (V : Int) - 300 := by rw [h412, z_sub (by rw [vI, k300]; omega) (by rw [vI, k300]; omega), vI, k300]
  have v := st.1
  obtain ⟨p1, p2, -⟩ := st.2.1
  have hpP : p < nP S := by rw [p1]; exact hp
  obtain ⟨r, S', hI, hm⟩ := h.earn (x1 := nI p) (x2 := v412) v
  have x539 : v412 ≤ 539 := by rw [i_leI, hx, show (539 : Int32).toInt = 539 by decide]; omega
  have st' := st_earn st (by omega) x539 hI
  have v' := st'.1
  obtain ⟨q1, q2, -⟩ := st'.2.1
  have hpP' : p < nP S' := by rw [q1]; exact hp
  obtain ⟨a, b0, hab, mo0, -⟩ := v.mo
  have m1 := mo0.1 p (by omega)
  have m2 := mo0.pm (show p < 16 by omega)
  have hsum : (S.a 504 p + v412).toInt = (S.a 504 p).toInt + v412.toInt := z_add (by omega) (by omega)
  have fin : ∀ y : Int32, (fof S' p 5 = 1 → ∀ v429 : Int32, v429 = S.a 504 p + v412 → (v429 < 0 → y = 0) ∧ (¬ v429 < 0 → y = 1)) → (¬ fof S' p 5 = 1 → y = 0) → S'.a 511 p = S.a 511 p → ∀ w1, AT x mo o S' w1 → w1.K x = 4 ∧ wp_X3_of x (nI p) (5 : Int32) w1 (fun v416 w415 => ∃ J417 : Int32 → Int32 → Prop, (∀ (y418 : Int32) (y419 : Int32), J417 y418 y419 → ∃ J420 : Int32 → Wd → Prop, (∀ (y421 : Int32) (w422 : Wd), J420 y421 w422 → JJ x mo o (k + 1) y421 w422) ∧ ∃ J423 : Wd → Prop, (∀ (w424 : Wd), J423 w424 → J420 (0 : Int32) w424) ∧ (¬ y418 = y419 → J423 w415) ∧ (y418 = y419 → w415.K x = 4 ∧ wp_X3_of x (nI p) (4 : Int32) w415 (fun v426 w425 => (¬ v426 = S.a 511 p → J423 w425) ∧ (v426 = S.a 511 p → J420 (1 : Int32) w425)) (fun _ _ => False))) ∧ ∃ J427 : Int32 → Prop, (∀ (y428 : Int32), J427 y428 → J417 y428 (0 : Int32)) ∧ (¬ v416 = (1 : Int32) → J427 y) ∧ (v416 = (1 : Int32) → ∀ v429 : Int32, v429 = S.a 504 p + v412 → (v429 < 0 → J427 y) ∧ (¬ v429 < 0 → J417 y (1 : Int32)))) (fun _ _ => False) := by
    intro y hy1 hy0 he w1 h1
    refine h1.of v' hpP' (by decide) (by decide) (fun w2 h2 => ⟨fun a b => a = b, fun a b e => ⟨JJ x mo o (k + 1), fun _ _ z => z, fun _ => False, fun _ z => z.elim, fun z => absurd e z, fun _ => h2.of v' hpP' (by decide) (by decide) (fun w3 h3 => ⟨fun z => absurd (fof_4.trans he) z, fun _ => ⟨rfl, S', n + 1, by omega, h3, st'⟩⟩)⟩, fun y => y = 0, fun y z => z, hy0, hy1⟩)
  rcases hI with ⟨rfl, hb⟩ | ⟨rfl, hb⟩ | ⟨i, i1, i2, rfl, hb⟩ | ⟨i, i1, i2, i3, i4, i5, i6, i7, i8, rfl⟩
  · exact absurd hb (nIP v hpP rfl)
  · exfalso
    have k1 : (-10000 : Int32).toInt = -10000 := by decide
    have k2 : (10000 : Int32).toInt = 10000 := by decide
    rcases hb with hb | hb
    · rw [i_lt, hx, k1] at hb; omega
    · rw [i_leI, hx, k2] at hb; omega
  · obtain rfl := nI_P v hpP i1 i2
    refine hm _ (Or.inr rfl) (fun z => nothr z (by decide)) (fun _ w1 h1 => fin 0 (fun z1 v429 h429 => ⟨fun _ => rfl, fun z2 => ?_⟩) (fun _ => rfl) rfl w1 h1)
    exfalso
    rcases hb with hb | hb | hb
    · exact hb (fof_al.mp z1)
    · exact z2 (by rw [h429]; exact hb)
    · refine hb ?_
      rw [i_leI, hsum, show (10000000 : Int32).toInt = 10000000 by decide]; omega
  · obtain rfl := nI_P v hpP i1 i2
    refine hm _ (Or.inl rfl) (fun _ w1 h1 => fin 1 (fun z1 v429 h429 => ⟨fun z2 => absurd (by rw [← h429]; exact z2) i6, fun _ => rfl⟩) (fun z => ?_) ?_ w1 h1) (fun z => absurd (show (0 : Int32) = 3 from z) (by decide))
    · refine absurd (fof_al.mpr ?_) z
      rw [setS_a, a_f (by decide)]; exact i5
    · rw [setS_a, a_f (by decide)]; rfl
theorem b_328 {c : Nat} (h : AT x mo o S w) (st : ST o k n S) (hn : n ≤ 20 + 3 * k) (hk : k ≤ 49) (hp : p < 7) (hc : c < 2) : wpc_328 L xs x (nI p) (nI c) w (JJ x mo o (k + 1)) := by
  have v := st.1
  obtain ⟨p1, p2, -⟩ := st.2.1
  have hpP : p < nP S := by rw [p1]; exact hp
  have hcC : c < nC S := by rw [p2]; exact hc
  refine h.cir v hcC (by decide) (by decide) (fun w1 h1 => ?_)
  obtain ⟨r, S', hI, hm⟩ := h1.enter (x1 := nI c) (x2 := nI p) v
  have st' := st_enter st hI (jv_enter v hI)
  have v' := st'.1
  obtain ⟨q1, q2, -⟩ := st'.2.1
  have hpP' : p < nP S' := by rw [q1]; exact hp
  have hcC' : c < nC S' := by rw [q2]; exact hc
  have no : ∀ w2, AT x mo o S' w2 → JJ x mo o (k + 1) 1 w2 := fun w2 h2 => ⟨rfl, S', n + 1, by omega, h2, st'⟩
  rcases hI with ⟨rfl, hb⟩ | rfl | ⟨c', i, i1, i2, i3, i4, i5, i6, i7, i8, rfl⟩
  · exact (hb.elim (fun z => nIC v hcC rfl z) (fun z => nIP v hpP rfl z)).elim
  · exact hm _ (Or.inr rfl) (fun z => nothr z (by decide)) (fun _ w2 h2 => ⟨JJ x mo o (k + 1), fun _ _ z => z, fun w => JJ x mo o (k + 1) 1 w, fun _ z => z, fun _ => no w2 h2, fun z => absurd rfl z⟩)
  · obtain rfl := nI_C v hcC i1 i3
    obtain rfl := nI_P v hpP i2 i4
    have e0 : (fent (S.setS 500 0) c p).s 500 = 0 := by rw [fent_s]; rfl
    have em : mn (fent (S.setS 500 0) c p) c = mn S c + 1 := by rw [fent_m (S := S.setS 500 0) (show mn S c ≤ 10 by omega), if_pos rfl]; rfl
    have ew : wh (fent (S.setS 500 0) c p) (10 * c + mn S c) = p := by rw [fent_w (by omega)]; exact if_pos rfl
    have hf : ∀ y, fm (fent (S.setS 500 0) c p) c p y = fmem (fent (S.setS 500 0) c p) c (mn S c) y := fun y => fm_y v'.di hcC' (by rw [em]; omega) ew
    have h17 := (v.sh.2.2.2.2 c hcC).1
    refine hm _ (Or.inl e0) (fun _ w2 h2 => ⟨JJ x mo o (k + 1), fun _ _ z => z, fun w => JJ x mo o (k + 1) 1 w, fun _ z => z, fun z => absurd z (by decide), fun _ => h2.mem v' hcC' hpP' (by decide) (by decide) (fun w3 h3 => ⟨fun _ => False, fun _ z => z.elim, fun z => z ?_, fun _ => h3.mem v' hcC' hpP' (by decide) (by decide) (fun w4 h4 => ⟨fun z => z ?_, fun _ => no w4 h4⟩)⟩)⟩) (fun z => absurd (e0.symm.trans z) (by decide))
    · rw [hf, fmem_3, fcir_1, h17]
    · rw [hf, fmem_0]
      exact fent_new (S := S.setS 500 0) (by decide)
theorem fstart_s0 {c s : Nat} : (fstart S c s).s 500 = 0 := by
  unfold fstart fbeg
  by_cases z : S.a 515 c ≤ 1
  · rw [if_pos z, sT_s]; rfl
  · rw [if_neg z]; rfl
theorem fstart_520 {c s : Nat} : (fstart S c s).a 520 c = 1 := by
  unfold fstart fbeg
  by_cases z : S.a 515 c ≤ 1
  · rw [if_pos z, sT_o (by decide), a_e]
  · rw [if_neg z, a_e]
theorem b_393 {c : Nat} (h : AT x mo o S w) (st : ST o k n S) (hn : n ≤ 20 + 3 * k) (hk : k ≤ 49) (hc : c < 2) (hV : V < 840) : wpc_393 L xs x (nI V) (nI c) w (JJ x mo o (k + 1)) := by
  have v := st.1
  obtain ⟨p1, p2, -⟩ := st.2.1
  have hcC : c < nC S := by rw [p2]; exact hc
  have vok : ¬ (nI V < 0 ∨ ¬ nI V ≤ 9999) := fun z => z.elim (fun z => nI_pos (by omega) z) (fun z => z (by rw [i_leI, nI_toInt (by omega), show (9999 : Int32).toInt = 9999 by decide]; omega))
  refine h.cir v hcC (by decide) (by decide) (fun w1 h1 => ?_)
  rw [fcir_1]
  have h17 := (v.sh.2.2.2.2 c hcC).1
  have hm10 := (v.sh.2.2.2.2 c hcC).2.1
  -- the first start, then the second
  refine ⟨fun y => (y = 0 ∧ S.a 517 c ≤ 1) ∨ y = 1, fun y hy => ?_, fun z => Or.inl ⟨rfl, z⟩, fun z => Or.inr rfl⟩
  obtain ⟨r, S', hI, hm⟩ := h1.start (x1 := nI c) (x2 := nI V) v
  have st' := st_start st hI (jv_start v hI)
  have v' := st'.1
  obtain ⟨q1, q2, -⟩ := st'.2.1
  have hcC' : c < nC S' := by rw [q2]; exact hc
  have no : ∀ w2, AT x mo o S' w2 → JJ x mo o (k + 1) 1 w2 := fun w2 h2 => ⟨rfl, S', n + 1, by omega, h2, st'⟩
  have refd : S' = S.setS 500 3 → wp_L_isStart (some x) (nI c) (nI V) w1 (fun v387 w386 => ∃ J388 : Int32 → Wd → Prop, (∀ (y389 : Int32) (w390 : Wd), J388 y389 w390 → JJ x mo o (k + 1) y389 w390) ∧ ∃ J391 : Wd → Prop, (∀ (w392 : Wd), J391 w392 → J388 (1 : Int32) w392) ∧ (v387 = 0 → J391 w386) ∧ (¬ v387 = 0 → ∃ J393 : Wd → Prop, (∀ (w394 : Wd), J393 w394 → J388 (0 : Int32) w394) ∧ (y = 0 → J393 w386) ∧ (¬ y = 0 → wp_L_isStart (some x) (nI c) (nI V) w386 (fun v396 w395 => (¬ v396 = 0 → J393 w395) ∧ (v396 = 0 → J391 w395))))) := fun e => by
    subst e
    exact hm _ (Or.inr rfl) (fun z => nothr z (by decide)) (fun _ w2 h2 => ⟨JJ x mo o (k + 1), fun _ _ z => z, fun w => JJ x mo o (k + 1) 1 w, fun _ z => z, fun _ => no w2 h2, fun z => absurd rfl z⟩)
  rcases hI with ⟨-, hb⟩ | ⟨-, hb⟩ | e | ⟨c', s, i1, i3, i4, i5, rfl⟩
  · exact absurd hb (nIC v hcC rfl)
  · exact absurd hb vok
  · exact refd e
  · obtain rfl := nI_C v hcC i1 i3
    refine hm _ (Or.inl fstart_s0) (fun _ w2 h2 => ⟨JJ x mo o (k + 1), fun _ _ z => z, fun w => JJ x mo o (k + 1) 1 w, fun _ z => z, fun z => absurd z (by decide), fun _ => ⟨fun _ => False, fun _ z => z.elim, fun z => ?_, fun _ => ?_⟩⟩) (fun z => absurd (fstart_s0.symm.trans z) (by decide))
    · rcases hy with ⟨-, hy⟩ | hy
      · rw [h17, show (1 : Int32) = nI 1 from rfl, nI_leI (by omega) (by decide)] at hy; omega
      · rw [hy] at z; exact absurd z (by decide)
    · obtain ⟨r2, S2, hI2, hm2⟩ := h2.start (x1 := nI c) (x2 := nI V) v'
      rcases hI2 with ⟨-, hb⟩ | ⟨-, hb⟩ | rfl | ⟨c', s', j1, j3, j4, j5, -⟩
      · exact absurd hb (nIC v' hcC' rfl)
      · exact absurd hb vok
      · exact hm2 _ (Or.inr rfl) (fun z => nothr z (by decide)) (fun _ w3 h3 => ⟨fun z => absurd rfl z, fun _ => ⟨rfl, _, n + 1 + 1, by omega, h3, st'.thr0⟩⟩)
      · obtain rfl := nI_C v' hcC' j1 j3
        rw [fstart_520] at j4
        exact absurd j4 (by decide)
theorem b_454 {c : Nat} (h : AT x mo o S w) (st : ST o k n S) (hn : n ≤ 20 + 3 * k) (hk : k ≤ 49) (hp : p < 7) (hc : c < 2) (hV : V < 840) : wpc_454 L xs x (nI p) (nI V) (nI c) w (JJ x mo o (k + 1)) := by
  have v := st.1
  obtain ⟨p1, p2, -⟩ := st.2.1
  have hpP : p < nP S := by rw [p1]; exact hp
  have hcC : c < nC S := by rw [p2]; exact hc
  have vok : ¬ (nI V < 0 ∨ ¬ nI V ≤ 10000) := fun z => z.elim (fun z => nI_pos (by omega) z) (fun z => z (by rw [i_leI, nI_toInt (by omega), show (10000 : Int32).toInt = 10000 by decide]; omega))
  refine ⟨by decide, fun v366 _ => ⟨fun q a b d e => q = some x ∧ a = nI c ∧ b = nI p ∧ d = nI V, fun q a b d e hq => ?_, fun _ => ⟨rfl, rfl, rfl, rfl⟩, fun _ => ⟨rfl, rfl, rfl, rfl⟩⟩⟩
  obtain ⟨rfl, rfl, rfl, rfl⟩ := hq
  obtain ⟨r, S', hI, hm⟩ := h.want (x1 := nI c) (x2 := nI p) (x3 := nI V) (x4 := e) v
  have st' := st_want st hI (jv_want v hI)
  have v' := st'.1
  obtain ⟨q1, q2, -⟩ := st'.2.1
  have hpP' : p < nP S' := by rw [q1]; exact hp
  have hcC' : c < nC S' := by rw [q2]; exact hc
  rcases hI with ⟨rfl, hb⟩ | ⟨rfl, hb⟩ | ⟨c', i, i1, i2, i3, i4, rfl, i5⟩ | ⟨c', i, m, q, i1, i2, i3, i4, i5, i6, i7, -, -, rfl⟩
  · exact (hb.elim (fun z => nIC v hcC rfl z) (fun z => nIP v hpP rfl z)).elim
  · exact absurd hb vok
  · obtain rfl := nI_C v hcC i1 i3
    obtain rfl := nI_P v hpP i2 i4
    refine hm _ (Or.inr rfl) (fun z => nothr z (by decide)) (fun _ w2 h2 => h2.mem v' hcC' hpP' (by decide) (by decide) (fun w3 h3 => ⟨fun a b => a = b, fun a b e => ⟨fun y => y = 1, fun y hy => ⟨hy, _, n + 1, by omega, h3, st'⟩, fun z => absurd e z, fun _ => rfl⟩, fun _ => rfl, fun z => ?_⟩))
    rw [fm_n (by exact i5)] at z
    exact absurd (by decide) z
  · obtain rfl := nI_C v hcC i1 i3
    obtain rfl := nI_P v hpP i2 i4
    have e0 : ((S.setS 500 0).setA q (10 * c + m) (nI V)).s 500 = 0 := rfl
    refine hm _ (Or.inl e0) (fun _ w2 h2 => h2.mem v' hcC' hpP' (by decide) (by decide) (fun w3 h3 => ⟨fun a b => a = b, fun a b e => ⟨fun y => y = 1, fun y hy => ⟨hy, _, n + 1, by omega, h3, st'⟩, fun z => absurd e z, fun _ => rfl⟩, fun z => ?_, fun _ => rfl⟩)) (fun z => absurd (e0.symm.trans z) (by decide))
    have hm10 := (v.sh.2.2.2.2 c hcC).2.1
    rw [fm_y v'.di hcC' (k := m) (by unfold mn; rw [a_f (by omega)]; exact i5) (by unfold wh; rw [a_f (by omega)]; exact i6), fmem_3] at z
    exact absurd z (nI_pos (by omega))
end B1
