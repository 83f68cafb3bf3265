-- ===== the law's acts: meetings, leaves, shares, loans
theorem i_can1 {a v : Int32} : a + v - a = v := by rw [Int32.add_comm]; exact Int32.add_sub_cancel _ _
theorem i_can2 {b v : Int32} : b - (b - v) = v := by
  rw [Int32.sub_eq_add_neg, Int32.neg_sub, Int32.add_comm]; exact Int32.sub_add_cancel _ _
theorem i_neg {a v : Int32} : a + -v = a - v := (Int32.sub_eq_add_neg _ _).symm
theorem rem_nI {V m : Nat} (hV : V < 2 ^ 20) (h0 : 0 < m) (hm : m < 2 ^ 10) : nI V - nI V / nI m * nI m = nI (V % m) := by
  have hd : nI V / nI m = nI (V / m) := by
    apply Int32.toInt_inj.mp
    have h1 : (nI m).toInt = m := nI_toInt (by omega)
    have h2 : (nI V).toInt = V := nI_toInt (by omega)
    have hle : V / m ≤ V := Nat.div_le_self _ _
    rw [Int32.toInt_div_of_ne_right _ _ (fun z => by rw [z] at h1; have : (-1 : Int32).toInt = -1 := by decide
                                                     omega), h1, h2, nI_toInt (by omega)]
    exact Int.ofNat_tdiv V m |>.symm
  rw [hd]
  apply Int32.toInt_inj.mp
  have h1 : (nI m).toInt = m := nI_toInt (by omega)
  have h2 : (nI V).toInt = V := nI_toInt (by omega)
  have hle : V / m ≤ V := Nat.div_le_self _ _
  have h3 : (nI (V / m)).toInt = ((V / m : Nat) : Int) := nI_toInt (by omega)
  have h4 : V / m * m ≤ V := Nat.div_mul_le_self _ _
  have h5 : V % m + V / m * m = V := by rw [Nat.mul_comm]; exact Nat.mod_add_div V m
  have h6 : ((V / m : Nat) : Int) * (m : Int) = ((V / m * m : Nat) : Int) := by rw [Int.natCast_mul]
  have h7 : (nI (V / m) * nI m).toInt = ((V / m * m : Nat) : Int) := by rw [z_mul (by rw [h3, h1, h6]; omega) (by rw [h3, h1, h6]; omega), h3, h1, h6]
  rw [z_sub (by rw [h2, h7]; omega) (by rw [h2, h7]; omega), h2, h7, nI_toInt (by omega)]
  omega
theorem addn {a b : Nat} (h : a + b < 2 ^ 31) : nI a + nI b = nI (a + b) := by
  apply Int32.toInt_inj.mp
  have h1 : (nI a).toInt = a := nI_toInt (by omega)
  have h2 : (nI b).toInt = b := nI_toInt (by omega)
  rw [z_add (by rw [h1, h2]; omega) (by rw [h1, h2]; omega), h1, h2, nI_toInt h]; omega
theorem subn {a b : Nat} (h : b ≤ a) (h2 : a < 2 ^ 31) : nI a - nI b = nI (a - b) := by
  apply Int32.toInt_inj.mp
  have h1 : (nI a).toInt = a := nI_toInt (by omega)
  have h2 : (nI b).toInt = b := nI_toInt (by omega)
  rw [z_sub (by rw [h1, h2]; omega) (by rw [h1, h2]; omega), h1, h2, nI_toInt (by omega)]; omega
theorem muln {a b : Nat} (h : a * b < 2 ^ 31) (h1 : a < 2 ^ 31) (h2 : b < 2 ^ 31) : nI a * nI b = nI (a * b) := by
  apply Int32.toInt_inj.mp
  have e1 : (nI a).toInt = a := nI_toInt h1
  have e2 : (nI b).toInt = b := nI_toInt h2
  rw [z_mul (by rw [e1, e2, ← Int.natCast_mul]; omega) (by rw [e1, e2, ← Int.natCast_mul]; omega), e1, e2, nI_toInt h, Int.natCast_mul]
theorem tof_cg {S S' : MS} {c : Nat} (hr : Sm [515, 523, 524, 526, 527] S S') : ∀ k, tof S' c k = tof S c k := by
  have hb : ∀ a b, bet S' c a b = bet S c a b := fun a b => by
    unfold bet
    rw [hr 515 (by decide), hr 524 (by decide), hr 524 (by decide), hr 523 (by decide), hr 523 (by decide), hr 526 (by decide), hr 526 (by decide)]
  intro k
  induction k with
  | zero => rfl
  | succ k ih => rw [tof, tof, ih, hr 527 (by decide)]; simp only [hb]
section B2
variable {L : Nat} {xs : Nat → Int32} {x mo o k n : Nat} {S : MS} {w : Wd} {p V : Nat}
theorem fmeet_s0 {c t : Nat} {m : Int32} : (fmeet S c m t).s 500 = 0 := by
  unfold fmeet fpaid
  rw [frnd_s, fbid_s, setA_s, setA_s, fpo_s, fcols_s]; rfl
theorem b_513 {c : Nat} (h : AT x mo o S w) (st : ST o k n S) (hn : n ≤ 20 + 3 * k) (hk : k ≤ 49) (hc : c < 2) : wpc_513 L xs x (nI V) (nI c) w (JJ x mo o (k + 1)) := by
  have v := st.1
  obtain ⟨p1, p2, -⟩ := st.2.1
  have hcC : c < nC S := by rw [p2]; exact hc
  refine h.cir v hcC (by decide) (by decide) (fun w1 h1 => h1.cir v hcC (by decide) (by decide) (fun w2 h2 => ?_))
  refine ⟨fun q a _ => q = some x ∧ a = nI c, fun q a b hq => ?_, fun _ => ⟨rfl, rfl⟩, fun _ => ⟨rfl, rfl⟩⟩
  obtain ⟨rfl, rfl⟩ := hq
  obtain ⟨r, S', hI, hm⟩ := h2.meet (x1 := nI c) (x2 := b) v (by omega)
  have st' := st_meet st (by omega) hk hI (jv_meet v (by omega) hI)
  have v' := st'.1
  obtain ⟨q1, q2, -⟩ := st'.2.1
  have hcC' : c < nC S' := by rw [q2]; exact hc
  have no : ∀ w2, AT x mo o S' w2 → JJ x mo o (k + 1) 1 w2 := fun w2 h2 => ⟨rfl, S', n + 1, by omega, h2, st'⟩
  rcases hI with ⟨rfl, hb⟩ | ⟨c', i1, i2, rfl, -⟩ | ⟨c', t, i1, i2, i3, i4, i5, i6, i7, i8, rfl⟩
  · exact absurd hb (nIC v hcC rfl)
  · refine hm _ (Or.inr rfl) (fun z => nothr z (by decide)) (fun _ w3 h3 => ⟨JJ x mo o (k + 1), fun _ _ z => z, fun z => absurd z (by decide), fun _ => h3.cir v' hcC' (by decide) (by decide) (fun w4 h4 => ⟨fun z => absurd ?_ z, fun _ => no w4 h4⟩)⟩)
    rw [fcir_2, fcir_2]; rfl
  · obtain rfl := nI_C v hcC i1 i2
    have hwl := ((v.sh.2.2.2.2 c hcC).2.2 t i5).2
    have hturn : r = fcir S c 4 := by
      rw [fcir_4, if_neg i3]
      rw [tof_cg (S := S) (fun r hr x => by
        have : r = 515 ∨ r = 523 ∨ r = 524 ∨ r = 526 ∨ r = 527 := by simpa using hr
        rw [fcols_a (by omega) (by omega) (by omega) (by omega) (by omega)]; rfl)] at i7
      rw [i7]; exact i8
    refine hm _ (Or.inl fmeet_s0) (fun _ w3 h3 => ⟨JJ x mo o (k + 1), fun _ _ z => z, fun _ => ⟨fun _ => False, fun _ z => z.elim, fun z => z hturn, fun _ => h3.cir v' hcC' (by decide) (by decide) (fun w4 h4 v363 h363 => ⟨fun z => z ?_, fun _ => no w4 h4⟩)⟩, fun z => absurd ?_ z⟩) (fun z => absurd (fmeet_s0.symm.trans z) (by decide))
    · rw [h363, fcir_2, fcir_2, fmeet_518, if_pos rfl]
    · rw [i8]; exact i_nle (nI_pos (by omega))
theorem i_subn {a v : Int32} : a - -v = a + v := i_subneg a v
theorem b_614 {c : Nat} (h : AT x mo o S w) (st : ST o k n S) (hn : n ≤ 20 + 3 * k) (hk : k ≤ 49) (hp : p < 7) (hc : c < 2) : wpc_614 L xs x (nI p) (nI c) (S.a 504 p) w (S.a 511 p) (JJ x mo o (k + 1)) := by
  have v := st.1
  obtain ⟨p1, p2, -⟩ := st.2.1
  have hpP : p < nP S := by rw [p1]; exact hp
  have hcC : c < nC S := by rw [p2]; exact hc
  refine h.mem v hcC hpP (by decide) (by decide) (fun w1 h1 => ?_)
  refine ⟨fun y w => AT x mo o S w ∧ ((y = 1 ∧ fm S c p 0 = 0 ∧ fm S c p 1 = 0) ∨ (y = 0 ∧ ¬ (fm S c p 0 = 0 ∧ fm S c p 1 = 0))), fun y w2 hj => ?_, fun w => AT x mo o S w ∧ ¬ (fm S c p 0 = 0 ∧ fm S c p 1 = 0), fun w2 hj => ⟨hj.1, Or.inr ⟨rfl, hj.2⟩⟩, fun z => ⟨h1, fun q => z q.1⟩, fun z => h1.mem v hcC hpP (by decide) (by decide) (fun w2 h2 => ⟨fun z2 => ⟨h2, fun q => z2 q.2⟩, fun z2 => ⟨h2, Or.inl ⟨rfl, z, z2⟩⟩⟩)⟩
  obtain ⟨h2, hy⟩ := hj
  refine h2.mem v hcC hpP (by decide) (by decide) (fun w3 h3 => ?_)
  obtain ⟨r, S', hI, hm⟩ := h3.leave (x1 := nI c) (x2 := nI p) v
  have st' := st_leave st (by omega) hI (jv_leave v (by omega) hI)
  have v' := st'.1
  obtain ⟨q1, q2, -⟩ := st'.2.1
  have hpP' : p < nP S' := by rw [q1]; exact hp
  have hcC' : c < nC S' := by rw [q2]; exact hc
  have no : ∀ w2, AT x mo o S' w2 → JJ x mo o (k + 1) 1 w2 := fun w2 h2 => ⟨rfl, S', n + 1, by omega, h2, st'⟩
  have refd : S' = S.setS 500 2 → ¬ (fm S c p 0 = 0 ∧ fm S c p 1 = 0) → ∀ w4, AT x mo o S' w4 → y = 0 ∧ JJ x mo o (k + 1) 1 w4 := fun e hno w4 h4 => ⟨hy.elim (fun z => absurd z.2 hno) (fun z => z.1), no w4 h4⟩
  rcases hI with ⟨rfl, hb⟩ | ⟨c', i, i1, i2, i3, i4, e, i5⟩ | ⟨c', i, m, i1, i2, i3, i4, i5, i6, e, i7⟩ | ⟨c', i, m, i1, i2, i3, i4, i5, i6, i7, i8, i9, rfl⟩
  · exact (hb.elim (fun z => nIC v hcC rfl z) (fun z => nIP v hpP rfl z)).elim
  · obtain rfl := nI_C v hcC i1 i3
    obtain rfl := nI_P v hpP i2 i4
    refine hm _ (Or.inr (by rw [e]; rfl)) (fun z => by rw [e] at z; exact nothr z (by decide)) (fun _ w4 h4 => ?_)
    obtain ⟨e0, e1⟩ := refd e (fun q => by rw [fm_n i5] at q; exact absurd q.1 (by decide)) w4 h4
    exact ⟨fun y' => y' = y, fun y' hy' => ⟨JJ x mo o (k + 1), fun _ _ z => z, fun _ => False, fun _ z => z.elim, fun z => z hy', fun _ => ⟨fun w => JJ x mo o (k + 1) 1 w, fun _ z => z, fun _ => e1, fun z => absurd e0 z⟩⟩, fun _ => e0.symm, fun z => absurd (by decide) z⟩
  · obtain rfl := nI_C v hcC i1 i3
    obtain rfl := nI_P v hpP i2 i4
    refine hm _ (Or.inr (by rw [e]; rfl)) (fun z => by rw [e] at z; exact nothr z (by decide)) (fun _ w4 h4 => ?_)
    obtain ⟨e0, e1⟩ := refd e (fun q => by
      rw [fm_y v.di hcC i5 i6, fm_y v.di hcC i5 i6, fmem_0, fmem_1] at q
      rcases i7 with z | z
      · rw [if_neg z] at q; exact absurd q.2 (by decide)
      · exact z (by rw [q.1]; decide)) w4 h4
    exact ⟨fun y' => y' = y, fun y' hy' => ⟨JJ x mo o (k + 1), fun _ _ z => z, fun _ => False, fun _ z => z.elim, fun z => z hy', fun _ => ⟨fun w => JJ x mo o (k + 1) 1 w, fun _ z => z, fun _ => e1, fun z => absurd e0 z⟩⟩, fun _ => e0.symm, fun z => absurd (by decide) z⟩
  · obtain rfl := nI_C v hcC i1 i3
    obtain rfl := nI_P v hpP i2 i4
    have hm10 := (v.sh.2.2.2.2 c hcC).2.1
    have f0 : fm S c p 0 = 0 := by
      rw [fm_y v.di hcC i5 i6, fmem_0]
      have a1 := ((v.ab c hcC).2.2 m i5).1
      have a2 := le0_iff.mp i8
      exact eq0_of (by omega)
    have f1 : fm S c p 1 = 0 := by rw [fm_y v.di hcC i5 i6, fmem_1, if_pos i7]
    have f2 : fm S c p 2 = S.a 525 (10 * c + m) := by rw [fm_y v.di hcC i5 i6, fmem_2]
    have hy1 : y = 1 := hy.elim (fun z => z.1) (fun z => absurd ⟨f0, f1⟩ z.2)
    obtain ⟨a, b, hab, mo0, pb⟩ := v.mo
    have hb := mo0.2.1 c (by omega)
    have hpb := pb (10 * c + m)
    have r0 : ¬ r < 0 ∧ ¬ S.a 525 (10 * c + m) < r := by
      rw [i9]; unfold fback
      by_cases z : S.a 516 c < S.a 525 (10 * c + m)
      · rw [if_pos z]; exact ⟨nneg_of hb, fun y => Int32.lt_irrefl (Int32.lt_trans z y)⟩
      · rw [if_neg z]; exact ⟨nneg_of hpb.1, fun y => Int32.lt_irrefl y⟩
    have e0 : (fleave S c m).s 500 = 0 := by unfold fleave; rw [frnd_s, fgo_s]; rfl
    obtain ⟨X, hX⟩ : ∃ X, X = fgive (S.setS 500 0) c (wh S (10 * c + m)) (fback S c m) := ⟨_, rfl⟩
    have hL : fleave S c m = frnd (fgo X c m) c := by rw [hX]; rfl
    have N : Nm S X := by rw [hX]; exact fgive_Nm (Nm.rf.ss (by decide))
    have hBX : HB X := fun x => by rw [hX, fgive_a (by decide) (by decide) (by decide)]; exact v.hb x
    have z4 : (fleave S c m).a 504 p = S.a 504 p + r := by
      rw [hL, frnd_a (by decide) (by decide) (by decide), fgo_o (by unfold r7; omega) (by decide), hX, i6, i9]
      unfold fgive fpay
      rw [a_f (by decide), a_e, a_f (by decide), i_subn]; rfl
    have z11 : (fleave S c m).a 511 p = S.a 511 p - r := by
      rw [hL, frnd_a (by decide) (by decide) (by decide), fgo_o (by unfold r7; omega) (by decide), hX, i6, i9]
      unfold fgive fpay
      rw [a_e, a_f (by decide), i_neg]; rfl
    have zn : fm (fleave S c m) c p 3 = -1 := by
      refine fm_n (fun k' hk' hw => ?_)
      have e1 : mn (fleave S c m) c = mn (fgo X c m) c := by rw [hL]; unfold mn; rw [frnd_a (by decide) (by decide) (by decide)]
      have e2 : wh (fleave S c m) (10 * c + k') = wh (fgo X c m) (10 * c + k') := by rw [hL]; unfold wh; rw [frnd_a (by decide) (by decide) (by decide)]
      rw [e1, fgo_m (by rw [N.m]; exact hm10), if_pos rfl, N.m] at hk'
      rw [e2, fgo_w hBX (by rw [N.m]; exact i5), N.w] at hw
      obtain ⟨k2, a1, a2, a3, -⟩ := sh_own2 (S := X) (p := m) (by rw [N.m]; exact hk')
      rw [N.m] at a1
      rw [a3] at hw
      exact a2 (v.di c hcC k2 m a1 i5 (by rw [hw, i6]))
    refine hm _ (Or.inl e0) (fun _ w4 h4 => ⟨fun y' => y' = y, fun y' hy' => ⟨JJ x mo o (k + 1), fun _ _ z => z, fun _ => False, fun _ z => z.elim, fun z => z hy', fun _ => ⟨fun w => JJ x mo o (k + 1) 1 w, fun _ z => z, fun z => by rw [hy1] at z; exact absurd z (by decide), fun _ => ⟨fun z => ?_, fun _ => h4.of v' hpP' (by decide) (by decide) (fun w5 h5 v336 h336 => ⟨fun z => z ?_, fun _ => h5.of v' hpP' (by decide) (by decide) (fun w6 h6 v339 h339 => ⟨fun z => z ?_, fun _ => h6.mem v' hcC' hpP' (by decide) (by decide) (fun w7 h7 => ⟨fun z => z zn, fun _ => no w7 h7⟩)⟩)⟩)⟩⟩⟩, fun z => absurd z r0.1, fun _ => hy1.symm⟩) (fun z => absurd (e0.symm.trans z) (by decide))
    · rw [f2] at z; exact r0.2 z
    · rw [fof_0, z4, h336]
    · rw [fof_4, z11, h339]
end B2
