-- ===== the law's acts: shares, repayments, months, feasts, deaths
def JB (x mo o : Nat) (S : MS) (C : Prop) (y : Int32) (w : Wd) : Prop := AT x mo o S w ∧ ((y = 1 ∧ C) ∨ (y = 0 ∧ ¬ C))
def JN (x mo o : Nat) (S : MS) (C : Prop) (w : Wd) : Prop := AT x mo o S w ∧ ¬ C
section B3
variable {L : Nat} {xs : Nat → Int32} {x mo o k n : Nat} {S : MS} {w : Wd} {p V : Nat}
theorem JN.b {C : Prop} : ∀ w, JN x mo o S C w → JB x mo o S C 0 w := fun _ h => ⟨h.1, Or.inr ⟨rfl, h.2⟩⟩
theorem b_752 (h : AT x mo o S w) (st : ST o k n S) (hn : n ≤ 20 + 3 * k) (hk : k ≤ 49) (hp : p < 7) (hV : V < 840) : wpc_752 L xs x (nI p) (nI V) (S.a 504 p) w (S.a 511 p) (JJ x mo o (k + 1)) := by
  have v := st.1
  obtain ⟨p1, p2, -⟩ := st.2.1
  have hpP : p < nP S := by rw [p1]; exact hp
  refine ⟨by decide, fun v283 h283 v284 h284 => h.of v hpP (by decide) (by decide) (fun w1 h1 => ?_)⟩
  have e284 : v284 = nI (1 + V % 12) := by
    rw [h284, h283, show (12 : Int32) = nI 12 from rfl, rem_nI (by omega) (by decide) (by decide), show (1 : Int32) = nI 1 from rfl, addn (by omega)]
  have i284 : v284.toInt = 1 + ((V % 12 : Nat) : Int) := by rw [e284, nI_toInt (by omega)]; omega
  obtain ⟨C, hC⟩ : ∃ C : Prop, C = (S.a 512 p = 0 ∧ ¬ 100 < S.a 505 p + v284 ∧ ¬ S.a 504 p < 10 * v284) := ⟨_, rfl⟩
  refine ⟨JB x mo o S C, fun y w2 hj => ?_, JN x mo o S C, JN.b, fun z => ⟨h1, fun q => by rw [hC] at q; exact z (fof_al.mpr q.1)⟩, fun z => h1.of v hpP (by decide) (by decide) (fun w2 h2 v314 h314 => ⟨fun z2 => ⟨h2, fun q => by rw [hC] at q; exact q.2.1 (by rw [h314, fof_1] at z2; exact z2)⟩, fun z2 v315 h315 => ⟨fun z3 => ⟨h2, fun q => by rw [hC] at q; exact q.2.2 (by rw [← h315]; exact z3)⟩, fun z3 => ⟨h2, Or.inl ⟨rfl, by rw [hC]; exact ⟨fof_al.mp z, by rw [h314, fof_1] at z2; exact z2, by rw [← h315]; exact z3⟩⟩⟩⟩⟩)⟩
  obtain ⟨h2, hy⟩ := hj
  obtain ⟨r, S', hI, hm⟩ := h2.buy (x1 := nI p) (x2 := v284) v
  have hx12 : v284 ≤ 12 := by rw [i_leI, i284, show (12 : Int32).toInt = 12 by decide]; omega
  have st' := st_buy st (by omega) hx12 hI (jv_buy v (by omega) hI)
  have v' := st'.1
  obtain ⟨q1, q2, -⟩ := st'.2.1
  have hpP' : p < nP S' := by rw [q1]; exact hp
  have no : ∀ w2, AT x mo o S' w2 → JJ x mo o (k + 1) 1 w2 := fun w2 h2 => ⟨rfl, S', n + 1, by omega, h2, st'⟩
  rcases hI with ⟨rfl, hb⟩ | ⟨rfl, hb⟩ | ⟨i, i1, i2, rfl, hb⟩ | ⟨i, i1, i2, i3, i4, i5, i6, i7, rfl⟩
  · exact absurd hb (nIP v hpP rfl)
  · exfalso
    rcases hb with hb | hb
    · rw [i_lt, i284, show (1 : Int32).toInt = 1 by decide] at hb; omega
    · rw [i_leI, i284, show (100 : Int32).toInt = 100 by decide] at hb; omega
  · obtain rfl := nI_P v hpP i1 i2
    have hy0 : y = 0 := hy.elim (fun z => by
      have z2 := z.2
      rw [hC] at z2
      exact (hb.elim (fun a => a z2.1) (fun a => a.elim (fun a => z2.2.1 a) (fun a => z2.2.2 (i_le a)))).elim) (fun z => z.1)
    refine hm _ (Or.inr rfl) (fun z => nothr z (by decide)) (fun _ w3 h3 => ⟨JJ x mo o (k + 1), fun _ _ z => z, fun _ => False, fun _ z => z.elim, fun z => z hy0.symm, fun _ => h3.of v' hpP' (by decide) (by decide) (fun w4 h4 => ⟨fun a b => a = b, fun a b e => ⟨fun z => z e, fun _ => h4.of v' hpP' (by decide) (by decide) (fun w5 h5 v304 h304 => h5.of v' hpP' (by decide) (by decide) (fun w6 h6 v307 h307 => ⟨fun z => z ?_, fun _ => no w6 h6⟩))⟩, fun _ => fof_0, fun z => absurd hy0 z⟩)⟩)
    rw [h304, h307, fof_4, fof_0]
    show S.a 511 p - S.a 511 p = S.a 504 p - S.a 504 p
    rw [Int32.sub_self, Int32.sub_self]
  · obtain rfl := nI_P v hpP i1 i2
    have hy1 : y = 1 := hy.elim (fun z => z.1) (fun z => absurd (by rw [hC]; exact ⟨i5, i6, i_nlt i7⟩) z.2)
    obtain ⟨Z, hZ⟩ : ∃ Z, Z = ((fpay (S.setS 500 0) p (10 * v284)).setS 528 (S.s 528 + 10 * v284)).setA 505 p (S.a 505 p + v284) := ⟨_, rfl⟩
    have e0 : Z.s 500 = 0 := by rw [hZ]; rfl
    have z4 : Z.a 504 p = S.a 504 p - 10 * v284 := by rw [hZ, a_f (by decide), setS_a]; unfold fpay; rw [a_f (by decide), a_e]; rfl
    have z11 : Z.a 511 p = S.a 511 p + 10 * v284 := by rw [hZ, a_f (by decide), setS_a]; unfold fpay; rw [a_e]; rfl
    rw [← hZ] at hm v' hpP' no
    refine hm _ (Or.inl e0) (fun _ w3 h3 => ⟨JJ x mo o (k + 1), fun _ _ z => z, fun _ => False, fun _ z => z.elim, fun z => z hy1.symm, fun _ => h3.of v' hpP' (by decide) (by decide) (fun w4 h4 => ⟨fun a b => a = b, fun a b e => ⟨fun z => z e, fun _ => h4.of v' hpP' (by decide) (by decide) (fun w5 h5 v304 h304 => h5.of v' hpP' (by decide) (by decide) (fun w6 h6 v307 h307 => ⟨fun z => z ?_, fun _ => no w6 h6⟩))⟩, fun z => by rw [hy1] at z; exact absurd z (by decide), fun _ v308 h308 v309 h309 => by rw [fof_0, z4, h309, h308]⟩)⟩) (fun z => absurd (e0.symm.trans z) (by decide))
    rw [h304, h307, fof_4, fof_0, z4, z11, i_can1, i_can2]
theorem b_1130 (h : AT x mo o S w) (st : ST o k n S) (hn : n ≤ 20 + 3 * k) (hk : k ≤ 49) (hp : p < 7) (hV : V < 840) : wpc_1130 L xs x (nI p) (nI V) (S.a 504 p) w (S.a 511 p) (JJ x mo o (k + 1)) := by
  have v := st.1
  obtain ⟨p1, p2, -⟩ := st.2.1
  have hpP : p < nP S := by rw [p1]; exact hp
  have d0 := (v.db p (by omega)).1
  refine h.of v hpP (by decide) (by decide) (fun w1 h1 v199 h199 => ?_)
  rw [fof_2]
  obtain ⟨s, hs⟩ : ∃ s, s = rsome (S.a 506 p) (nI V + 1) := ⟨_, rfl⟩
  obtain ⟨C, hC⟩ : ∃ C : Prop, C = (¬ S.a 506 p ≤ 0 ∧ ¬ S.a 504 p < s) := ⟨_, rfl⟩
  refine ⟨fun y => y = s, fun y hy => ?_, fun z v225 h225 => ?_, fun z => ?_⟩
  · subst hy
    refine ⟨fun y2 => (y2 = 1 ∧ C) ∨ (y2 = 0 ∧ ¬ C), fun y2 hy v204 h204 => ?_, ¬ C, fun z => Or.inr ⟨rfl, z⟩, fun z q => by rw [hC] at q; exact q.1 z, fun z => ⟨fun z2 q => by rw [hC] at q; exact q.2 z2, fun z2 => Or.inl ⟨rfl, by rw [hC]; exact ⟨z, z2⟩⟩⟩⟩
    obtain ⟨r, S', hI, hm⟩ := h1.repay (x1 := nI p) (x2 := v204) v
    have st' := st_repay st (by omega) hI (jv_repay v (by omega) hI)
    have v' := st'.1
    obtain ⟨q1, q2, -⟩ := st'.2.1
    have hpP' : p < nP S' := by rw [q1]; exact hp
    have no : ∀ w2, AT x mo o S' w2 → JJ x mo o (k + 1) 1 w2 := fun w2 h2 => ⟨rfl, S', n + 1, by omega, h2, st'⟩
    have i204 : v204.toInt = (V : Int) + 1 := by
      rw [h204, show (1 : Int32) = nI 1 from rfl, addn (by omega), nI_toInt (by omega)]; omega
    rcases hI with ⟨rfl, hb⟩ | ⟨rfl, hb⟩ | ⟨i, i1, i2, rfl, hb⟩ | ⟨i, i1, i2, i3, i4, i5, i6, rfl⟩
    · exact absurd hb (nIP v hpP rfl)
    · exfalso
      rcases hb with hb | hb
      · rw [i_lt, i204, show (1 : Int32).toInt = 1 by decide] at hb; omega
      · rw [i_leI, i204, show (10000 : Int32).toInt = 10000 by decide] at hb; omega
    · obtain rfl := nI_P v hpP i1 i2
      have hy0 : y2 = 0 := hy.elim (fun z => by
        have z2 := z.2
        rw [hC] at z2
        exact (hb.elim (fun a => z2.1 (by rw [a]; decide)) (fun a => z2.2 (by rw [hs, ← h204]; exact i_le a))).elim) (fun z => z.1)
      exact hm _ (Or.inr rfl) (fun z => nothr z (by decide)) (fun _ w3 h3 => ⟨JJ x mo o (k + 1), fun _ _ z => z, fun _ => False, fun _ z => z.elim, fun z => z hy0.symm, fun _ => h3.of v' hpP' (by decide) (by decide) (fun w4 h4 => ⟨fun a b => a = b, fun a b e => ⟨fun z => z e, fun _ => h4.of v' hpP' (by decide) (by decide) (fun w5 h5 => ⟨fun a b => a = b, fun a b e => ⟨fun z => z e, fun _ => no w5 h5⟩, fun _ => fof_4, fun z => absurd hy0 z⟩)⟩, fun _ => fof_2, fun z => absurd hy0 z⟩)⟩)
    · obtain rfl := nI_P v hpP i1 i2
      rw [h204, ← hs] at i6
      have hy1 : y2 = 1 := hy.elim (fun z => z.1) (fun z => absurd (by rw [hC]; exact ⟨fun q => i5 ((ge0 (nneg_of d0)).mp q), i_nlt i6⟩) z.2)
      obtain ⟨Z, hZ⟩ : ∃ Z, Z = (frepay S p (rsome (S.a 506 p) v204)).setA 510 p (S.a 510 p + if S.a 506 p - rsome (S.a 506 p) v204 = 0 then 1 else 0) := ⟨_, rfl⟩
      have e0 : Z.s 500 = 0 := by rw [hZ]; rfl
      have z6 : Z.a 506 p = S.a 506 p - y := by rw [hZ, h204, ← hs, a_f (by decide)]; unfold frepay; rw [a_e]
      have z11 : Z.a 511 p = S.a 511 p + y := by rw [hZ, h204, ← hs, a_f (by decide)]; unfold frepay fpay; rw [a_f (by decide), setS_a, a_e]; rfl
      rw [← hZ] at hm v' hpP' no
      exact hm _ (Or.inl e0) (fun _ w3 h3 => ⟨JJ x mo o (k + 1), fun _ _ z => z, fun _ => False, fun _ z => z.elim, fun z => z hy1.symm, fun _ => h3.of v' hpP' (by decide) (by decide) (fun w4 h4 => ⟨fun a b => a = b, fun a b e => ⟨fun z => z e, fun _ => h4.of v' hpP' (by decide) (by decide) (fun w5 h5 => ⟨fun a b => a = b, fun a b e => ⟨fun z => z e, fun _ => no w5 h5⟩, fun z => by rw [hy1] at z; exact absurd z (by decide), fun _ v222 h222 => by rw [fof_4, z11, h222]⟩)⟩, fun z => by rw [hy1] at z; exact absurd z (by decide), fun _ v223 h223 => by rw [fof_2, z6, h223]⟩)⟩) (fun z => absurd (e0.symm.trans z) (by decide))
  · rw [hs, h225]; unfold rsome
    rw [if_neg (i_nlt (by rw [← h199]; exact z))]
  · rw [hs]; unfold rsome
    rw [if_pos (by rw [← h199]; exact i_le z)]
theorem b_1259 (h : AT x mo o S w) (st : ST o k n S) (hn : n ≤ 20 + 3 * k) (hk : k ≤ 49) (hp : p < 7) : wpc_1259 L xs x (nI p) (nI V) w (JJ x mo o (k + 1)) := by
  have v := st.1
  obtain ⟨p1, p2, -⟩ := st.2.1
  have hpP : p < nP S := by rw [p1]; exact hp
  refine h.of v hpP (by decide) (by decide) (fun w1 h1 => ?_)
  rw [fof_2]
  refine ⟨fun q y => q = some x ∧ ((y = 0 ∧ nI V ≤ 700) ∨ (y = 1 ∧ ¬ nI V ≤ 700)), fun q y hq => ?_, fun z => ⟨rfl, Or.inl ⟨rfl, z⟩⟩, fun z => ⟨rfl, Or.inr ⟨rfl, z⟩⟩⟩
  obtain ⟨rfl, hy⟩ := hq
  refine ⟨x, rfl, ?_⟩
  obtain ⟨hVO, r, S', hI, hm⟩ := h1.month (x1 := y) v
  have st' := st_month st (by omega) hVO hI (jv_month v (by omega) hVO hI)
  have v' := st'.1
  obtain ⟨q1, q2, -⟩ := st'.2.1
  have hpP' : p < nP S' := by rw [q1]; exact hp
  have no : ∀ w2, AT x mo o S' w2 → JJ x mo o (k + 1) 1 w2 := fun w2 h2 => ⟨rfl, S', n + 1, by omega, h2, st'⟩
  have key : 0 ≤ r.toInt ∧ (S'.a 506 p = (if y = 0 then S.a 506 p + (S.a 506 p + 19) / 20 else S.a 506 p) ∨ (S'.a 506 p = 0 ∧ S'.a 510 p = 0 ∧ 1 ≤ r.toInt)) := by
    rcases hI with ⟨z, rfl, rfl⟩ | ⟨z, e, e'⟩
    · exact ⟨by decide, Or.inl (by rw [if_neg z]; rfl)⟩
    · obtain ⟨T, _, _, _, _, _, _, _, b⟩ := st.2.2
      obtain ⟨T1, -, -, -, -, -, t6, t7⟩ := mon_all v.1 (by omega) hVO b.1 (nP S) (Nat.le_refl _)
      rw [← e, ← e'] at t7
      rw [← e] at t6
      refine ⟨t6.1, ?_⟩
      rw [if_pos z]
      rcases t7 p hpP with q | q
      · exact Or.inl q.1
      · exact Or.inr q
  refine hm _ (fun w2 h2 => ⟨JJ x mo o (k + 1), fun _ _ z => z, fun _ => False, fun _ z => z.elim, fun z => ?_, fun _ => h2.of v' hpP' (by decide) (by decide) (fun w3 h3 => ⟨fun a b => a = S'.a 506 p ∧ b = (if y = 0 then S.a 506 p + (S.a 506 p + 19) / 20 else S.a 506 p), fun a b hab => ⟨fun w => JJ x mo o (k + 1) 1 w, fun _ z => z, fun _ => no w3 h3, fun z => ?_⟩, fun z v194 h194 => ⟨by decide, fun v195 h195 v196 h196 => ⟨fof_2, ?_⟩⟩, fun z => ⟨fof_2, ?_⟩⟩)⟩)
  · exact nneg_of key.1 z
  · rw [hab.1, hab.2] at z
    rcases key.2 with q | ⟨k1, k2, k3⟩
    · exact absurd q z
    · refine ⟨fun z2 => ?_, fun _ => h3.of v' hpP' (by decide) (by decide) (fun w4 h4 => ⟨fun z3 => z3 (fof_2.trans k1), fun _ => h4.of v' hpP' (by decide) (by decide) (fun w5 h5 => ⟨fun z4 => z4 (fof_3.trans k2), fun _ => no w5 h5⟩)⟩)⟩
      have := le0_iff.mp z2
      omega
  · rw [if_pos (hy.elim (fun q => q.1) (fun q => absurd z q.2)), h196, h195, h194]
  · rw [if_neg (fun q => hy.elim (fun a => z a.2) (fun a => by rw [a.1] at q; exact absurd q (by decide)))]
theorem b_1367 {q : Nat} (h : AT x mo o S w) (st : ST o k n S) (hn : n ≤ 20 + 3 * k) (hk : k ≤ 49) (hp : p < 7) (hq : q < 7) : wpc_1367 L xs x (nI p) (nI q) w (JJ x mo o (k + 1)) := by
  have v := st.1
  obtain ⟨p1, p2, -⟩ := st.2.1
  obtain ⟨r, S', hI, hm⟩ := h.feast v
  have st' := st_feast st (by omega) hI (jv_feast v (by omega) hI)
  have v' := st'.1
  obtain ⟨q1, q2, -⟩ := st'.2.1
  have hpP' : p < nP S' := by rw [q1]; exact hp
  have hqP' : q < nP S' := by rw [q1]; exact hq
  have no : ∀ w2, AT x mo o S' w2 → JJ x mo o (k + 1) 1 w2 := fun w2 h2 => ⟨rfl, S', n + 1, by omega, h2, st'⟩
  rcases hI with rfl | ⟨i1, i2, i3, rfl⟩
  · exact hm _ (Or.inr rfl) (fun z => nothr z (by decide)) (fun _ w3 h3 => ⟨JJ x mo o (k + 1), fun _ _ z => z, fun w => JJ x mo o (k + 1) 1 w, fun _ z => z, fun _ => no w3 h3, fun z => absurd (by decide) z⟩)
  · obtain ⟨y, hy⟩ : ∃ y, y = S.s 528 / fsum S 505 (nP S) := ⟨_, rfl⟩
    rw [← hy] at hm v' hpP' hqP' no
    have e0 : (ffe (S.setS 500 0) y (nP S)).s 500 = 0 := by rw [ffe_t]; rfl
    have f5 : ∀ i, i < 7 → fof (ffe (S.setS 500 0) y (nP S)) i 1 = 0 := fun i hi => by rw [fof_1, ffe_5, if_pos (by omega)]
    have f6 : fof (ffe (S.setS 500 0) y (nP S)) p 2 = 0 := by
      rw [fof_2, ffe_a (by decide) (by decide) (by decide)]
      exact (ge0 (nneg_of (v.db p (by omega)).1)).mp (i2 p (by omega))
    exact hm _ (Or.inl e0) (fun _ w3 h3 => ⟨JJ x mo o (k + 1), fun _ _ z => z, fun w => JJ x mo o (k + 1) 1 w, fun _ z => z, fun _ => no w3 h3, fun _ => h3.of v' hpP' (by decide) (by decide) (fun w4 h4 => ⟨fun _ => False, fun _ z => z.elim, fun z => z (f5 p hp), fun _ => h4.of v' hqP' (by decide) (by decide) (fun w5 h5 => ⟨fun z => z (f5 q hq), fun _ => h5.of v' hpP' (by decide) (by decide) (fun w6 h6 => ⟨fun z => z f6, fun _ => no w6 h6⟩)⟩)⟩)⟩) (fun z => absurd (e0.symm.trans z) (by decide))
theorem fdied_s0 {p q : Nat} : (fdied S p q).s 500 = 0 := by unfold fdied; rw [fdie_s, fleaves_s]; rfl
theorem b_1425 {q : Nat} (h : AT x mo o S w) (st : ST o k n S) (hn : n ≤ 20 + 3 * k) (hk : k ≤ 49) (hp : p < 7) (hq : q < 7) (hpq : p ≠ q) : wpc_1425 L xs x (nI p) (nI q) (S.a 504 p) w (S.a 511 p) (JJ x mo o (k + 1)) := by
  have v := st.1
  obtain ⟨p1, p2, -⟩ := st.2.1
  have hpP : p < nP S := by rw [p1]; exact hp
  have hqP : q < nP S := by rw [p1]; exact hq
  obtain ⟨C, hC⟩ : ∃ C : Prop, C = (S.a 512 p = 0 ∧ S.a 512 q = 0 ∧ ¬ 100 < S.a 505 p + S.a 505 q) := ⟨_, rfl⟩
  refine h.of v hpP (by decide) (by decide) (fun w1 h1 => ⟨JB x mo o S C, fun y w2 hj => ?_, JN x mo o S C, JN.b, fun z => ⟨h1, fun g => by rw [hC] at g; exact z (fof_al.mpr g.1)⟩, fun z => h1.of v hqP (by decide) (by decide) (fun w2 h2 => ⟨fun z2 => ⟨h2, fun g => by rw [hC] at g; exact z2 (fof_al.mpr g.2.1)⟩, fun z2 => h2.of v hpP (by decide) (by decide) (fun w3 h3 => h3.of v hqP (by decide) (by decide) (fun w4 h4 v154 h154 => ⟨fun z3 => ⟨h4, fun g => by rw [hC] at g; exact g.2.2 (by rw [h154, fof_1, fof_1] at z3; exact z3)⟩, fun z3 => ⟨h4, Or.inl ⟨rfl, by rw [hC]; exact ⟨fof_al.mp z, fof_al.mp z2, by rw [h154, fof_1, fof_1] at z3; exact z3⟩⟩⟩⟩))⟩)⟩)
  obtain ⟨h2, hy⟩ := hj
  refine h2.of v hqP (by decide) (by decide) (fun w3 h3 v121 h121 => h3.of v hpP (by decide) (by decide) (fun w4 h4 => h4.of v hqP (by decide) (by decide) (fun w5 h5 v126 h126 => ?_)))
  rw [fof_0] at h121
  rw [fof_2, fof_2] at h126
  obtain ⟨r, S', hI, hm⟩ := h5.die (x1 := nI p) (x2 := nI q) v
  have st' := st_die st (by omega) hI (jv_die v (by omega) hI)
  have v' := st'.1
  obtain ⟨q1, q2, -⟩ := st'.2.1
  have hpP' : p < nP S' := by rw [q1]; exact hp
  have hqP' : q < nP S' := by rw [q1]; exact hq
  have no : ∀ w2, AT x mo o S' w2 → JJ x mo o (k + 1) 1 w2 := fun w2 h2 => ⟨rfl, S', n + 1, by omega, h2, st'⟩
  rcases hI with ⟨rfl, hb⟩ | ⟨rfl, hb⟩ | ⟨p', q', i1, i2, i3, i4, rfl, hb⟩ | ⟨p', q', i1, i2, i3, i4, i5, i6, i7, i8, rfl⟩
  · exact (hb.elim (fun z => nIP v hpP rfl z) (fun z => nIP v hqP rfl z)).elim
  · exact absurd (nI_P v hpP hqP hb) hpq
  · obtain rfl := nI_P v hpP i1 i3
    obtain rfl := nI_P v hqP i2 i4
    have hy0 : y = 0 := hy.elim (fun z => by
      have z2 := z.2
      rw [hC] at z2
      exact (hb.elim (fun a => a z2.1) (fun a => a.elim (fun a => a z2.2.1) (fun a => z2.2.2 (i_le a)))).elim) (fun z => z.1)
    exact hm _ (Or.inr rfl) (fun z => nothr z (by decide)) (fun _ w6 h6 => ⟨JJ x mo o (k + 1), fun _ _ z => z, fun _ => False, fun _ z => z.elim, fun z => z hy0.symm, fun _ => ⟨fun w => JJ x mo o (k + 1) 1 w, fun _ z => z, fun _ => no w6 h6, fun z => absurd hy0 z⟩⟩)
  · obtain rfl := nI_P v hpP i1 i3
    obtain rfl := nI_P v hqP i2 i4
    have hy1 : y = 1 := hy.elim (fun z => z.1) (fun z => absurd (by rw [hC]; exact ⟨i6, i7, i_nlt i8⟩) z.2)
    obtain ⟨r4, r6, r12, r5⟩ := leaves_rows (S := S) hpq
    have zo : ∀ r x, r ≠ 517 → r ≠ 519 → (r < 521 ∨ 527 < r) → (fdied S p q).a r x = (fleaves (S.setS 500 0) p q).a r x := fun r x a b c => by
      rw [fdied_2 p2, fpass_o a b c, fpass_o a b c]
    have hqp : ¬ q = p := fun z => hpq z.symm
    refine hm _ (Or.inl fdied_s0) (fun _ w6 h6 => ⟨JJ x mo o (k + 1), fun _ _ z => z, fun _ => False, fun _ z => z.elim, fun z => z hy1.symm, fun _ => ⟨fun w => JJ x mo o (k + 1) 1 w, fun _ z => z, fun _ => no w6 h6, fun _ => h6.of v' hqP' (by decide) (by decide) (fun w7 h7 => ⟨fun z => z ?_, fun _ => h7.of v' hpP' (by decide) (by decide) (fun w8 h8 => ⟨fun z => z ?_, fun _ => h8.of v' hqP' (by decide) (by decide) (fun w9 h9 => ⟨fun z => z ?_, fun _ => h9.of v' hpP' (by decide) (by decide) (fun w10 h10 => ⟨fun z => z ?_, fun _ => h10.of v' hpP' (by decide) (by decide) (fun w11 h11 => ⟨fun z => z ?_, fun _ => no w11 h11⟩)⟩)⟩)⟩)⟩)⟩⟩) (fun z => absurd (fdied_s0.symm.trans z) (by decide))
    · rw [fof_0, zo 504 _ (by decide) (by decide) (by decide), r4, if_neg hqp, if_pos rfl, h121, Int32.add_comm]
    · rw [fof_0, zo 504 _ (by decide) (by decide) (by decide), r4, if_pos rfl]
    · rw [fof_2, zo 506 _ (by decide) (by decide) (by decide), r6, if_neg hqp, if_pos rfl, h126, Int32.add_comm]
    · rw [fof_5, zo 512 _ (by decide) (by decide) (by decide), r12, if_pos rfl, if_neg (by decide)]
    · rw [fof_4, zo 511 _ (by decide) (by decide) (by decide), fleaves_a (by decide) (by decide) (by decide) (by decide) (by decide) (by decide) (by decide)]; rfl
end B3
