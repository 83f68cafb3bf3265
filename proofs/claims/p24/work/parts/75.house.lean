-- ===== houses, as the law counts them; loans
/-- names in k figures: how many differ -/
def lcn (a b : Int32) : Nat → Int32
  | 0 => 0
  | k + 1 => lcn a b k + if a / nI (10 ^ k) - a / nI (10 ^ k) / 10 * 10 = b / nI (10 ^ k) - b / nI (10 ^ k) / 10 * 10 then 0 else 1
theorem lcn_al : ∀ a1, a1 < 3 → ∀ a2, a2 < 3 → ∀ b1, b1 < 3 → ∀ b2, b2 < 3 → (2 ≤ lcn (nI (10101 * a1 + a2)) (nI (10101 * b1 + b2)) 5 ↔ 1 < al 5 (nI (10101 * a1 + a2)) (nI (10101 * b1 + b2)) 0) := by decide +kernel
def NM (o : Nat) : Prop := ∀ q, q < 7 → ∃ a b, a < 3 ∧ b < 3 ∧ o / 100000 ^ q % 100000 = 10101 * a + b
theorem by_10 : ∀ k, k < 5 → ¬ nI (10 ^ k) = 0 ∧ nI (10 ^ k) * 10 = nI (10 ^ (k + 1)) := by decide +kernel
section HS
variable {L : Nat} {xs : Nat → Int32} {x mo o k n : Nat} {S : MS} {w : Wd} {p V : Nat}
theorem AT.row (h : AT x mo o S w) : w.K mo = 11 ∧ w.N mo = 7 ∧ ∀ j, j < 7 → w.A mo j = nmd o j := by
  obtain ⟨G, rfl, rfl, rfl, q⟩ := h
  exact q.1
theorem AT.house {y : Int32} {f : Nat → Int32} {Q : Int32 → Wd → Prop} (h : AT x mo o S w) (v : JV n S) (pv : PV o S) (hnm : NM o) (hp : p < 7) (hf : (y = 2 ∧ f = fun j => S.a 506 j) ∨ (¬ y = 2 ∧ f = fun _ => 1)) (hQ : ∀ w1, AT x mo o S w1 → Q (hcnt S p f 7) w1) : wp_L_house (some x) (some mo) (nI p) y w Q := by
  obtain ⟨p1, p2, -, -, -, -, p7, -⟩ := pv
  refine ⟨fun n y3 y4 w => ∃ q, q ≤ 7 ∧ n = 7 - q ∧ y4 = nI q ∧ y3 = hcnt S p f q ∧ AT x mo o S w, ⟨7, by decide, 0, by decide, rfl, rfl, rfl, h⟩, fun n1 y3 y4 w5 hI => ?_⟩
  obtain ⟨q, hq, rfl, rfl, rfl, h5⟩ := hI
  refine ⟨fun hc => ?_, fun hc => ?_⟩
  · have := (nI_leI (a := 7) (by decide) (by omega)).mp hc
    have e : q = 7 := by omega
    subst e
    exact hQ w5 h5
  · have hq7 : q < 7 := Nat.lt_of_not_le (fun z => hc (nI_le (a := 7) z (by omega)))
    have hqP : q < nP S := by rw [p1]; exact hq7
    obtain ⟨r1, r2, r3⟩ := h5.row
    obtain ⟨a1, a2, ha1, ha2, hA⟩ := hnm p hp
    obtain ⟨b1, b2, hb1, hb2, hB⟩ := hnm q hq7
    have hal : 2 ≤ lcn (nmd o p) (nmd o q) 5 ↔ 1 < al 5 (S.a 503 p) (S.a 503 q) 0 := by
      rw [p7 p hp, p7 q hq7]; unfold nmd
      rw [hA, hB]; exact lcn_al a1 ha1 a2 ha2 b1 hb1 b2 hb2
    refine ⟨fun n a b c => ∃ k, k ≤ 5 ∧ n = 5 - k ∧ c = nI k ∧ b = nI (10 ^ k) ∧ a = lcn (nmd o p) (nmd o q) k, ⟨5, 0, by decide, rfl, rfl, rfl, rfl⟩, fun n6 y8 y9 y10 hJ => ?_⟩
    obtain ⟨j, hj, rfl, rfl, rfl, rfl⟩ := hJ
    refine ⟨fun hc5 => ?_, fun hc5 => ?_⟩
    · have := (nI_leI (a := 5) (by decide) (by omega)).mp hc5
      have e : j = 5 := by omega
      subst e
      refine ⟨fun a b w => a + b = hcnt S p f (q + 1) ∧ AT x mo o S w, fun a b w hw v15 h15 v16 h16 => ⟨7 - (q + 1), by omega, q + 1, by omega, rfl, by rw [h16, nI_1], by rw [h15, hw.1], hw.2⟩, fun a w => a = hcnt S p f (q + 1) ∧ AT x mo o S w, fun a w hw => ⟨by rw [Int32.add_zero]; exact hw.1, hw.2⟩, fun z => ⟨?_, h5⟩, fun z => ⟨x, rfl, h5.of v hqP (by decide) (by decide) (fun w6 h6 => ⟨fun z2 => ⟨?_, h6⟩, fun z2 => ⟨fun z3 => ⟨?_, h6⟩, fun z3 => h6.of v hqP (by decide) (by decide) (fun w7 h7 => ⟨?_, h7⟩)⟩⟩)⟩⟩
      · rw [hcnt, if_neg (fun g => g.2 (hal.mp z)), Int32.add_zero]
      · rw [hcnt, if_neg (fun g => z2 (fof_al.mpr g.1)), Int32.add_zero]
      · rw [hcnt, if_pos ⟨fof_al.mp z2, fun g => z (hal.mpr g)⟩]
        rcases hf with ⟨e, -⟩ | ⟨-, e⟩
        · exact absurd e z3
        · rw [e]
      · rw [hcnt, if_pos ⟨fof_al.mp z2, fun g => z (hal.mpr g)⟩, fof_2]
        rcases hf with ⟨-, e⟩ | ⟨e, -⟩
        · rw [e]
        · exact absurd z3 e
    · have hj5 : j < 5 := Nat.lt_of_not_le (fun z => hc5 (nI_le (a := 5) z (by omega)))
      obtain ⟨t1, t2⟩ := by_10 j hj5
      refine ⟨mo, rfl, r1, p, rfl, by omega, by omega, fun v27 h27 => ⟨t1, fun v28 h28 => ⟨by decide, fun v29 h29 => ⟨r1, q, rfl, by omega, by omega, fun v31 h31 => ⟨t1, fun v32 h32 => ⟨by decide, fun v33 h33 => ⟨fun a b => a + b = lcn (nmd o p) (nmd o q) (j + 1), fun a b hab v37 h37 v38 h38 v39 h39 => ⟨5 - (j + 1), by omega, j + 1, by omega, rfl, by rw [h39, nI_1], by rw [h38, t2], by rw [h37, hab]⟩, fun z => ?_, fun z => ?_⟩⟩⟩⟩⟩⟩⟩
      · rw [h29, h28, h27, r3 p hp, h33, h32, h31, r3 q hq7] at z
        rw [lcn, if_neg z]
      · rw [h29, h28, h27, r3 p hp, h33, h32, h31, r3 q hq7] at z
        rw [lcn, if_pos z]
theorem fborrow_s0 {x : Int32} {a b : Nat} : (fborrow S p x a b).s 500 = 0 := rfl
theorem b_884 {q : Nat} (h : AT x mo o S w) (st : ST o k n S) (hn : n ≤ 20 + 3 * k) (hk : k ≤ 49) (hnm : NM o) (hp : p < 7) (hq : q < 7) (hpq : p ≠ q) (hV : V < 840) : wpc_884 L xs x mo (nI p) (nI V) (nI q) w (S.a 511 p) (JJ x mo o (k + 1)) := by
  have v := st.1
  have pv := st.2.1
  obtain ⟨p1, p2, -, -, -, p6, -, -⟩ := id pv
  have hpP : p < nP S := by rw [p1]; exact hp
  have hqP : q < nP S := by rw [p1]; exact hq
  intro v226 h226 v227 h227 v228 h228
  refine ⟨by decide, fun v229 h229 => ⟨by decide, fun v230 h230 v231 h231 => ⟨by decide, fun v232 h232 => ⟨by decide, fun v233 h233 v234 h234 => ?_⟩⟩⟩⟩
  obtain ⟨O, hO, e232⟩ : ∃ O, O < 7 ∧ v232 = nI O := by
    have e1 : v226 = nI (q + 1) := by rw [h226, show (1 : Int32) = nI 1 from rfl, addn (by omega)]
    have e2 : v227 = nI (p + 7) := by rw [h227, show (7 : Int32) = nI 7 from rfl, addn (by omega)]
    have e3 : v228 = nI (p + 7 - q) := by rw [h228, e2, subn (by omega) (by omega)]
    have e4 : v229 = nI ((p + 7 - q) % 7) := by rw [h229, e3, show (7 : Int32) = nI 7 from rfl, rem_nI (by omega) (by decide) (by decide)]
    have e5 : v230 = nI ((p + 7 - q) % 7 % 2) := by rw [h230, e4, show (2 : Int32) = nI 2 from rfl, rem_nI (by omega) (by decide) (by decide)]
    have e6 : v231 = nI (q + 1 + (p + 7 - q) % 7 % 2) := by rw [h231, e1, e5, addn (by omega)]
    exact ⟨(q + 1 + (p + 7 - q) % 7 % 2) % 7, Nat.mod_lt _ (by decide), by rw [h232, e6, show (7 : Int32) = nI 7 from rfl, rem_nI (by omega) (by decide) (by decide)]⟩
  have hOP : O < nP S := by rw [p1]; exact hO
  have e234 : v234 = nI (1 + V % 120) := by
    rw [h234, h233, show (120 : Int32) = nI 120 from rfl, rem_nI (by omega) (by decide) (by decide), show (1 : Int32) = nI 1 from rfl, addn (by omega)]
  have i234 : v234.toInt = 1 + ((V % 120 : Nat) : Int) := by rw [e234, nI_toInt (by omega)]; omega
  rw [e232]
  have eOp : nI O = nI p ↔ O = p := nI_eq (by omega) (by omega)
  have eOq : nI O = nI q ↔ O = q := nI_eq (by omega) (by omega)
  refine h.cash v (fun w1 h1 => ?_)
  obtain ⟨C1, hC1⟩ : ∃ C : Prop, C = (O ≠ p ∧ O ≠ q ∧ ¬ S.a 505 p ≤ 0 ∧ ¬ S.a 505 q ≤ 0 ∧ ¬ S.a 505 O ≤ 0 ∧ S.a 506 p = 0) := ⟨_, rfl⟩
  obtain ⟨C2, hC2⟩ : ∃ C : Prop, C = (C1 ∧ ¬ 50 * (1 + S.a 510 p) < v234 ∧ ¬ 500 < hdeb S p + v234 ∧ ¬ S.s 528 < v234) := ⟨_, rfl⟩
  have hde : hcnt S p (fun j => S.a 506 j) 7 = hdeb S p := by unfold hdeb; rw [p1]
  refine ⟨JB x mo o S C1, fun y w2 hj => ?_, JN x mo o S C1, JN.b, fun z => ⟨h1, fun g => by rw [hC1] at g; exact g.1 (eOp.mp z)⟩, fun z => ⟨fun z2 => ⟨h1, fun g => by rw [hC1] at g; exact g.2.1 (eOq.mp z2)⟩, fun z2 => h1.of v hpP (by decide) (by decide) (fun w2 h2 => ⟨fun z3 => ⟨h2, fun g => by rw [hC1] at g; exact g.2.2.1 (by rw [fof_1] at z3; exact z3)⟩, fun z3 => h2.of v hqP (by decide) (by decide) (fun w3 h3 => ⟨fun z4 => ⟨h3, fun g => by rw [hC1] at g; exact g.2.2.2.1 (by rw [fof_1] at z4; exact z4)⟩, fun z4 => h3.of v hOP (by decide) (by decide) (fun w4 h4 => ⟨fun z5 => ⟨h4, fun g => by rw [hC1] at g; exact g.2.2.2.2.1 (by rw [fof_1] at z5; exact z5)⟩, fun z5 => h4.of v hpP (by decide) (by decide) (fun w5 h5 => ⟨fun z6 => ⟨h5, fun g => by rw [hC1] at g; exact z6 (fof_2.trans g.2.2.2.2.2)⟩, fun z6 => ⟨h5, Or.inl ⟨rfl, ?_⟩⟩⟩)⟩)⟩)⟩)⟩⟩
  rotate_left
  · rw [hC1]
    rw [fof_1] at z3 z4 z5
    rw [fof_2] at z6
    exact ⟨fun g => z (eOp.mpr g), fun g => z2 (eOq.mpr g), z3, z4, z5, z6⟩
  obtain ⟨h2, hy⟩ := hj
  refine ⟨JB x mo o S C2, fun y2 w3 hj => ?_, JN x mo o S C2, JN.b, fun z => ⟨h2, fun g => by rw [hC2] at g; exact hy.elim (fun a => by rw [a.1] at z; exact absurd z (by decide)) (fun a => a.2 g.1)⟩, fun z => h2.of v hpP (by decide) (by decide) (fun w3 h3 v268 h268 v269 h269 => ⟨fun z2 => ⟨h3, fun g => ?_⟩, fun z2 => h3.house v pv hnm hp (Or.inl ⟨rfl, rfl⟩) (fun w4 h4 v272 h272 => ⟨fun z3 => ⟨h4, fun g => ?_⟩, fun z3 => ⟨fun z4 => ⟨h4, fun g => ?_⟩, fun z4 => ⟨h4, Or.inl ⟨rfl, ?_⟩⟩⟩⟩)⟩)⟩
  rotate_left
  · rw [hC2] at g
    rw [h269, h268, fof_3] at z2
    exact g.2.1 z2
  · rw [hC2] at g
    rw [h272, hde] at z3
    exact g.2.2.1 z3
  · rw [hC2] at g
    exact g.2.2.2 z4
  · rw [hC2]
    rw [h269, h268, fof_3] at z2
    rw [h272, hde] at z3
    exact ⟨hy.elim (fun a => a.2) (fun a => absurd a.1 z), z2, z3, z4⟩
  obtain ⟨h3, hy2⟩ := hj
  have same : ∀ w, AT x mo o S w → JJ x mo o (k + 1) 1 w := fun w hw => ⟨rfl, S, n, by omega, hw, st.up⟩
  refine ⟨JJ x mo o (k + 1), fun _ _ z => z, fun w => JJ x mo o (k + 1) 1 w, fun _ z => z, fun _ => same w3 h3, fun nOp => ⟨fun _ => same w3 h3, fun nOq => ?_⟩⟩
  have nOp' : O ≠ p := fun g => nOp (eOp.mpr g)
  have nOq' : O ≠ q := fun g => nOq (eOq.mpr g)
  obtain ⟨r, S', hI, hm⟩ := h3.borrow (x1 := nI p) (x2 := v234) (x3 := nI q) (x4 := nI O) v
  have hx120 : v234 ≤ 120 := by rw [i_leI, i234, show (120 : Int32).toInt = 120 by decide]; omega
  have st' := st_borrow st (by omega) hx120 hI (jv_borrow v (by omega) hI)
  have v' := st'.1
  obtain ⟨q1, q2, -⟩ := st'.2.1
  have hpP' : p < nP S' := by rw [q1]; exact hp
  have no : ∀ w2, AT x mo o S' w2 → JJ x mo o (k + 1) 1 w2 := fun w2 h2 => ⟨rfl, S', n + 1, by omega, h2, st'⟩
  have hsh : ∀ i, i < 7 → ¬ S.a 505 i ≤ 0 → hasP S i := fun i hi hs => ⟨Classical.byContradiction fun g => hs (by rw [p6 i (by omega) g]; decide), hs⟩
  rcases hI with ⟨rfl, hb⟩ | ⟨p', a', b', i1, i2, i3, i4, i5, i6, rfl, hb⟩ | ⟨p', a', b', i1, i2, i3, i4, i5, i6, rfl, hb⟩ | ⟨p', a', b', i1, i2, i3, i4, i5, i6, i7, i8, i9, i10, i11, i12, i13, i14, i15, rfl⟩
  · exact (hb.elim (fun z => nIP v hpP rfl z) (fun z => z.elim (fun z => nIP v hqP rfl z) (fun z => nIP v hOP rfl z))).elim
  · obtain rfl := nI_P v hpP i1 i4
    obtain rfl := nI_P v hqP i2 i5
    obtain rfl := nI_P v hOP i3 i6
    exfalso
    rcases hb with hb | hb | hb
    · exact hb.elim (fun g => hpq g) (fun g => g.elim (fun g => nOp' g.symm) (fun g => nOq' g.symm))
    · rw [i_lt, i234, show (1 : Int32).toInt = 1 by decide] at hb; omega
    · rw [i_leI, i234, show (1000 : Int32).toInt = 1000 by decide] at hb; omega
  · obtain rfl := nI_P v hpP i1 i4
    obtain rfl := nI_P v hqP i2 i5
    obtain rfl := nI_P v hOP i3 i6
    have hy0 : y2 = 0 := hy2.elim (fun z => by
      have z2 := z.2
      rw [hC2, hC1] at z2
      obtain ⟨⟨c1, c2, c3, c4, c5, c6⟩, c7, c8, c9⟩ := z2
      exact absurd ⟨hsh p hp c3, hsh q hq c4, hsh O hO c5, c6, c7, c8, i_nle c9⟩ hb) (fun z => z.1)
    exact hm _ (Or.inr rfl) (fun z => nothr z (by decide)) (fun _ w4 h4 => ⟨fun _ => False, fun _ z => z.elim, fun z => z hy0.symm, fun _ => h4.cash v' (fun w5 h5 => ⟨fun a b => a = b, fun a b e => ⟨fun z => z e, fun _ => h5.of v' hpP' (by decide) (by decide) (fun w6 h6 => ⟨fun a b => a = b, fun a b e => ⟨fun z => z e, fun _ => no w6 h6⟩, fun _ => fof_4, fun z => absurd hy0 z⟩)⟩, fun _ => rfl, fun z => absurd hy0 z⟩)⟩)
  · obtain rfl := nI_P v hpP i1 i4
    obtain rfl := nI_P v hqP i2 i5
    obtain rfl := nI_P v hOP i3 i6
    have hy1 : y2 = 1 := hy2.elim (fun z => z.1) (fun z => absurd (by rw [hC2, hC1]; exact ⟨⟨nOp', nOq', i9.2, i10.2, i11.2, i12⟩, i13, i14, i_nlt i15⟩) z.2)
    have z8 : (fborrow S p v234 q O).s 528 = S.s 528 - v234 := rfl
    have z11 : (fborrow S p v234 q O).a 511 p = S.a 511 p - v234 := by
      unfold fborrow fpay floan
      rw [setS_a, a_e, a_f (by decide), a_f (by decide), a_f (by decide), a_f (by decide), i_neg]; rfl
    exact hm _ (Or.inl fborrow_s0) (fun _ w4 h4 => ⟨fun _ => False, fun _ z => z.elim, fun z => z hy1.symm, fun _ => h4.cash v' (fun w5 h5 => ⟨fun a b => a = b, fun a b e => ⟨fun z => z e, fun _ => h5.of v' hpP' (by decide) (by decide) (fun w6 h6 => ⟨fun a b => a = b, fun a b e => ⟨fun z => z e, fun _ => no w6 h6⟩, fun z => by rw [hy1] at z; exact absurd z (by decide), fun _ v262 h262 => by rw [fof_4, z11, h262]⟩)⟩, fun z => by rw [hy1] at z; exact absurd z (by decide), fun _ v263 h263 => by rw [z8, h263]⟩)⟩) (fun z => absurd (fborrow_s0.symm.trans z) (by decide))
end HS
