-- ===== a start, on both sides
def Gord (G : GH) (c : Nat) (l : List Nat) : GH := (G.x, G.li, G.P, G.T, G.C, G.L, fun c' => if c' = c then l else G.O c', fun a => if a ∈ l then l.idxOf a else G.tn a, G.mo, G.ma, G.o)
theorem RCc.gord {w : Wd} {G : GH} {S S0 : MS} {cont : Nat → List Nat} {c : Nat} {l : List Nat} (h : RCc w G S S0 cont) : RCc w (Gord G c l) S S0 cont := h
theorem Go_O {G : GH} {c c' : Nat} {l : List Nat} (h : c' ≠ c) : (Gord G c l).O c' = G.O c' := if_neg h
theorem Go_Oe {G : GH} {c : Nat} {l : List Nat} : (Gord G c l).O c = l := if_pos rfl
theorem Go_t {G : GH} {c a : Nat} {l : List Nat} (h : a ∉ l) : (Gord G c l).tn a = G.tn a := if_neg h
theorem Go_te {G : GH} {c a : Nat} {l : List Nat} (h : a ∈ l) : (Gord G c l).tn a = l.idxOf a := if_pos h
/-- a circle that has not started: no turns, no arrears, no order -/
def US (S : MS) : Prop := ∀ c, c < nC S → S.a 520 c = 0 → ∀ k, k < mn S c → S.a 526 (10 * c + k) = -1 ∧ S.a 527 (10 * c + k) = 0 ∧ S.a 522 (10 * c + k) = 0
theorem RCc.ord {w : Wd} {G : GH} {T X S0 : MS} {c s : Nat} {lot : Bool} {ag : Nat → Int32} {l : List Nat} (h : RCc w G X S0 (ordC G X c l)) (hI : SH X) (hO : RO G T) (hX : X = T.setA 520 c 1) (hc : c < nC X) (h1 : X.a 515 c ≤ 1) (ht : ∀ i, i < mn X c → X.a 526 (10 * c + i) = -1) (hl : l = (sDU lot ag s (mn X c) (mn X c)).1.map (fun i => G.L (10 * c + i))) : RC w (Gord G c l) (sT X c lot ag s (mn X c) (mn X c)) S0 := by
  have hm : ∀ c', c' < nC X → mn X c' ≤ 10 := fun c' hc' => (hI.2.2.2.2 c' hc').2.1
  obtain ⟨n, hn⟩ : ∃ n, n = mn X c := ⟨_, rfl⟩
  have N := sT_Nm (S1 := X) (c := c) (lot := lot) (ag := ag) (s := s) (n := n) n
  have hR := (h.turns (c := c) (s := s) (n := n) (lot := lot) (ag := ag) n).gord (c := c) (l := l)
  have m10 := hm c hc
  rw [← hn] at hl ht m10 ⊢
  obtain ⟨d1, d2, d3, d4⟩ := sDU_ok (lot := lot) (ag := ag) (s := s) n (Nat.le_refl n)
  have e2 : (sDU lot ag s n n).2 = [] := List.length_eq_zero_iff.mp (by omega)
  have hDm : ∀ i, i ∈ (sDU lot ag s n n).1 ↔ i < n := fun i => by
    rw [← sDU_mem (lot := lot) (ag := ag) (s := s) (Nat.le_refl n), e2]
    exact ⟨Or.inl, fun z => z.elim (fun z => z) (fun z => absurd z List.not_mem_nil)⟩
  have hDn : (sDU lot ag s n n).1.Nodup := by
    have := sDU_nd (lot := lot) (ag := ag) (s := s) (Nat.le_refl n)
    rw [e2, List.append_nil] at this; exact this
  have linj : ∀ j j', inr 3 j X → inr 3 j' X → G.L j = G.L j' → j = j' := fun j j' a b e => h.2.2.2.1.1 3 j j' (by decide) (by decide) a b e
  have ml : ∀ a, a ∈ l ↔ ∃ i, i < n ∧ a = G.L (10 * c + i) := fun a => by
    rw [hl, List.mem_map]
    exact ⟨fun ⟨i, h1, h2⟩ => ⟨i, (hDm i).mp h1, h2.symm⟩, fun ⟨i, h1, h2⟩ => ⟨i, (hDm i).mpr h1, h2.symm⟩⟩
  have hln : l.Nodup := by
    rw [hl]
    refine List.pairwise_map.mpr (hDn.imp_of_mem fun ha hb hab e => hab ?_)
    have := linj _ _ ⟨c, _, rfl, hc, by rw [← hn]; exact (hDm _).mp ha⟩ ⟨c, _, rfl, hc, by rw [← hn]; exact (hDm _).mp hb⟩ e
    omega
  have hll : l.length = n := by rw [hl, List.length_map, d1]
  have htn : ∀ j i, (sDU lot ag s n n).1[j]? = some i → (Gord G c l).tn (G.L (10 * c + i)) = j ∧ j < n := fun j i hj => by
    have hi := (hDm i).mp (List.mem_of_getElem? hj)
    have hlj : l[j]? = some (G.L (10 * c + i)) := by rw [hl, List.getElem?_map, hj]; rfl
    obtain ⟨hj1, hj2⟩ := List.getElem?_eq_some_iff.mp hlj
    rw [Go_te ((ml _).mpr ⟨i, hi, rfl⟩), ← hj2, hln.idxOf_getElem j hj1]
    exact ⟨rfl, by omega⟩
  have eCl : ∀ c', cLst (Gord G c l) (sT X c lot ag s n n) c' = cLst G X c' := fun c' => by unfold cLst; rw [N.m]; rfl
  refine hR.toR ?_ ?_ (fun c' hc' => ?_) (fun c' hc' => ?_)
  · rw [ordC_n (by omega), N.p]; rfl
  · rw [ordC_n (by omega), N.c]; rfl
  · rw [N.c] at hc'
    rw [eCl, ordC_n (by omega), stdC_p]
    refine ⟨rfl, ?_⟩
    by_cases e : c' = c
    · subst e; rw [ordC_e, Go_Oe]
    · rw [ordC_n (by omega), stdC_o, Go_O e]
  · rw [N.c] at hc'
    have ho : hasO (sT X c lot ag s n n) c' ↔ hasO X c' := by
      unfold hasO; rw [sT_o (by decide), sT_o (by decide)]
    rw [ho, eCl, N.m]
    by_cases e : c' = c
    · subst e
      rw [Go_Oe]
      refine ⟨fun hn => absurd ⟨by rw [hX]; exact a_e, h1⟩ hn, fun _ => ⟨fun a => ?_, ?_, fun k hk => ?_⟩⟩
      · rw [ml, cL_mem, hn]
      · refine List.pairwise_iff_getElem.mpr fun i j hi hj hij => ?_
        rw [Go_te (List.getElem_mem hi), Go_te (List.getElem_mem hj), hln.idxOf_getElem i hi, hln.idxOf_getElem j hj]
        exact hij
      · rw [← hn] at hk
        obtain ⟨j, hj⟩ := List.getElem?_of_mem ((hDm k).mpr hk)
        obtain ⟨t1, t2⟩ := htn j k hj
        show _ = nI ((Gord G c' l).tn (G.L (10 * c' + k))) ∧ (Gord G c' l).tn (G.L (10 * c' + k)) < 64
        rw [t1]
        exact ⟨(sT_t ht n (Nat.le_refl n)).2 j k hj, by omega⟩
    · have hcT : c' < nC T := by rw [hX] at hc'; exact hc'
      obtain ⟨o1, o2⟩ := hO c' hcT
      have ho2 : hasO X c' ↔ hasO T c' := by
        unfold hasO; rw [hX, a_b e, a_f (by decide)]
      have eC2 : cLst G X c' = cLst G T c' := by rw [hX]; exact cLst_setA (by decide)
      have em : mn X = mn T := by rw [hX]; exact mn_setA (by decide)
      have hnm : ∀ k, k < mn X c' → G.L (10 * c' + k) ∉ l := fun k hk hm' => by
        obtain ⟨i, hi, e3⟩ := (ml _).mp hm'
        have := linj _ _ ⟨c', k, rfl, hc', hk⟩ ⟨c, i, rfl, hc, by omega⟩ e3
        have := hm c' hc'
        omega
      rw [Go_O e, ho2, eC2]
      refine ⟨o1, fun hy => ?_⟩
      obtain ⟨p1, p2, p3⟩ := o2 hy
      refine ⟨p1, p2.imp_of_mem fun {a b} ha hb hab => ?_, fun k hk => ?_⟩
      · have hna : ∀ a, a ∈ G.O c' → a ∉ l := fun a ha => by
          have := (p1 a).mp ha
          rw [← eC2] at this
          obtain ⟨k, hk, rfl⟩ := cL_mem.mp this
          exact hnm k hk
        rw [Go_t (hna a ha), Go_t (hna b hb)]; exact hab
      · have hk2 := hm c' hc'
        show _ = nI ((Gord G c l).tn (G.L (10 * c' + k))) ∧ (Gord G c l).tn (G.L (10 * c' + k)) < 64
        rw [Go_t (hnm k hk), sT_x (by omega) n (Nat.le_refl n), hX, a_f (by decide)]
        rw [em] at hk
        exact p3 k hk
theorem sDU_0 {lot : Bool} {ag : Nat → Int32} {s n : Nat} (hn : 0 < n) : ∀ k, 0 < k → k ≤ n → (sDU lot ag s n k).1[0]? = some ((sDU lot ag s n 0).2.getD (pick lot ag s n 0 (sDU lot ag s n 0).2) 0) := by
  intro k
  induction k with
  | zero => intro h; exact absurd h (Nat.lt_irrefl _)
  | succ k ih =>
    intro _ hk
    have d1 := (sDU_ok (lot := lot) (ag := ag) (s := s) k (by omega : k ≤ n)).1
    rcases Nat.eq_zero_or_pos k with e | e
    · subst e; rfl
    · show ((sDU lot ag s n k).1 ++ [(sDU lot ag s n k).2.getD (pick lot ag s n k (sDU lot ag s n k).2) 0])[0]? = _
      rw [List.getElem?_append_left (by omega)]
      exact ih e (by omega)
def fbeg (S : MS) (c : Nat) : MS := (S.setS 500 0).setA 520 c 1
def fstart (S : MS) (c s : Nat) : MS := if S.a 515 c ≤ 1 then sT (fbeg S c) c (decide (S.a 515 c = 0)) (fun i => S.a 502 (wh S (10 * c + i))) s (mn S c) (mn S c) else fbeg S c
theorem tof_start {S : MS} {c s : Nat} {lot : Bool} {ag : Nat → Int32} {X : MS} (hn : 0 < mn X c) (hm : mn X c ≤ 10) (hw : ¬ 1 < X.a 515 c) (ht : ∀ i, i < mn X c → X.a 526 (10 * c + i) = -1) (hh : ∀ i, i < mn X c → X.a 527 (10 * c + i) = 0) : tof (sT X c lot ag s (mn X c) (mn X c)) c (mn X c) = some ((sDU lot ag s (mn X c) 0).2.getD (pick lot ag s (mn X c) 0 (sDU lot ag s (mn X c) 0).2) 0) := by
  obtain ⟨n, hn0⟩ : ∃ n, n = mn X c := ⟨_, rfl⟩
  rw [← hn0] at hn hm ht hh ⊢
  obtain ⟨Y, hY⟩ : ∃ Y, Y = sT X c lot ag s n n := ⟨_, rfl⟩
  rw [← hY]
  have hw' : ¬ 1 < Y.a 515 c := by rw [hY, sT_o (by decide)]; exact hw
  have hh' : ∀ i, i < n → Y.a 527 (10 * c + i) = 0 := fun i hi => by rw [hY, sT_o (by decide)]; exact hh i hi
  obtain ⟨t1, t2⟩ := tof_min hw' n
  obtain ⟨d1, d2, d3, d4⟩ := sDU_ok (lot := lot) (ag := ag) (s := s) n (Nat.le_refl n)
  have e2 : (sDU lot ag s n n).2 = [] := List.length_eq_zero_iff.mp (by omega)
  have hDm : ∀ i, i ∈ (sDU lot ag s n n).1 ↔ i < n := fun i => by
    rw [← sDU_mem (lot := lot) (ag := ag) (s := s) (Nat.le_refl n), e2]
    exact ⟨Or.inl, fun z => z.elim (fun z => z) (fun z => absurd z List.not_mem_nil)⟩
  have h0 := sDU_0 (lot := lot) (ag := ag) (s := s) hn n hn (Nat.le_refl n)
  obtain ⟨x0, hx0⟩ : ∃ x0, x0 = (sDU lot ag s n 0).2.getD (pick lot ag s n 0 (sDU lot ag s n 0).2) 0 := ⟨_, rfl⟩
  rw [← hx0] at h0 ⊢
  have hx0n := (hDm x0).mp (List.mem_of_getElem? h0)
  have T := (sT_t (lot := lot) (ag := ag) (s := s) ht n (Nat.le_refl n)).2
  rw [← hY] at T
  cases hto : tof Y c n with
  | none => exact absurd (hh' x0 hx0n) (t2 hto x0 hx0n)
  | some b =>
    have hb := (tof_lt _ _ hto).1
    obtain ⟨j, hj⟩ := List.getElem?_of_mem ((hDm b).mpr hb)
    have hj1 := (List.getElem?_eq_some_iff.mp hj).1
    have hle := t1 b hto x0 hx0n (hh' x0 hx0n)
    rw [T j b hj, T 0 x0 h0, nI_leI (by omega) (by decide)] at hle
    have : j = 0 := by omega
    rw [this, h0] at hj
    rw [hj]
/-- what start answers and does -/
def I_start (S : MS) (x1 x2 : Int32) (r : Int32) (S' : MS) : Prop :=
  (S' = S.setS 500 1 ∧ (x1 < 0 ∨ nI (nC S) ≤ x1)) ∨ (S' = S.setS 500 2 ∧ (x2 < 0 ∨ ¬ x2 ≤ 9999)) ∨ S' = S.setS 500 3 ∨
  ∃ c s, c < nC S ∧ x1 = nI c ∧ S.a 520 c = 0 ∧ 2 ≤ mn S c ∧ S' = fstart S c s
theorem o_start {w : Wd} {G : GH} {S : MS} {x1 x2 : Int32} (h : RC w G S S) (hI : SH S) (hY : WY S) (hU : US S) (hage : ∀ i, i < nP S → ¬ S.a 502 i ≤ 0) : OX w G S (fun Q => wp_L_start (some G.x) x1 x2 (some G.o) w Q) (fun Q => sp_X4_start x1 x2 S Q) (I_start S x1 x2) := by
  have hnc := hI.2.2.2.1
  have er : ∀ k : Int32, k ≠ 0 → ∀ (P : Prop) (v7 : Int32), v7 = (S.setS 500 k).s 500 → (v7 = 0 → P) ∧ (¬ v7 = 0 → (k = 0 → (0 : Int32) = 0) ∧ S.setS 500 k = S.setS 500 k) :=
    fun k hk P v7 h7 => ⟨fun z => absurd (show k = 0 from h7.symm.trans z) hk, fun _ => ⟨fun z => absurd z hk, rfl⟩⟩
  rcases ix_c x1 hnc with hx | ⟨c, hc, rfl⟩
  · refine ⟨1, 0, S.setS 500 1, rfl, Or.inl ⟨rfl, hx⟩, fun Q hQ => ?_, ?_⟩
    · exact ⟨G.x, rfl, h.kx, h.kx, k_circleAt h hnc (fun i hi e => absurd hx (by rw [e]; exact ix_cne hi hnc)) (fun _ => Or.inl ⟨rfl, hQ w G rfl rfl rfl h.thrown (fun z => by cases z)⟩)⟩
    · exact m_isCircle_n hI hx ⟨fun z => absurd rfl z, fun _ S45 h45 => ⟨fun _ => rfl, h45⟩⟩
  obtain ⟨m1, m2, m3⟩ := hI.2.2.2.2 c hc
  have hc4 : c < 4 := by omega
  by_cases hr : x2 < (0 : Int32) ∨ ¬ x2 ≤ 9999
  · refine ⟨2, 0, S.setS 500 2, rfl, Or.inr (Or.inl ⟨rfl, hr⟩), fun Q hQ => ?_, ?_⟩
    · exact ⟨G.x, rfl, h.kx, h.kx, k_circleAt h hnc (fun j hj e => k_range (fun a b => (hr.elim (fun z => a z) (fun z => z b)).elim) (fun _ => Or.inr (Or.inl ⟨rfl, hQ w G rfl rfl rfl h.thrown (fun z => by cases z)⟩))) (fun z => absurd z (ix_cne hc hnc))⟩
    · refine m_isCircle_y hI hc ⟨fun _ => m_in_n (hr.imp_right i_le) ⟨fun y => y = 2, fun y hy S7 h7 v8 h8 => ?_, fun z => absurd rfl z, fun _ => rfl⟩, fun z => absurd z (by decide)⟩
      subst hy h7
      exact er 2 (by decide) _ _ h8
  have r1 : ¬ x2 < (0 : Int32) := fun z => hr (Or.inl z)
  have r2 : x2 ≤ 9999 := Classical.byContradiction fun z => hr (Or.inr z)
  obtain ⟨s, hs, rfl⟩ := nI_of2 (M := 9999) (n := 9999) (by decide) r1 r2
  have g4 : w.I 104 (G.C c) = S.a 520 c := h.get (k := 1) (f := 104) (r := 520) (by decide) hc
  have le2 : (2 : Int32) ≤ nI (mn S c) ↔ 2 ≤ mn S c := nI_leI (a := 2) (by decide) (by omega)
  by_cases hb : ¬ S.a 520 c = 0 ∨ mn S c < 2
  · refine ⟨3, 0, S.setS 500 3, rfl, Or.inr (Or.inr (Or.inl rfl)), fun Q hQ => ?_, ?_⟩
    · refine ⟨G.x, rfl, h.kx, h.kx, k_circleAt h hnc (fun j hj e => k_range (fun _ _ => ?_) (fun z => absurd z hr)) (fun z => absurd z (ix_cne hc hnc))⟩
      obtain rfl : c = j := (nI_eq (by omega) (by omega)).mp e
      exact ⟨_, rfl, h.kC hc, fun v5 h5 => ⟨fun w7 => w7 = w, fun w7 hw => by subst hw; exact Or.inr (Or.inr ⟨rfl, hQ w7 G rfl rfl rfl h.thrown (fun z => by cases z)⟩), fun _ => rfl, fun z => k_sz h hc ⟨fun z2 => (hb.elim (fun q => q (by rw [← g4, ← h5]; exact z)) (fun q => by have := le2.mp z2; omega)).elim, fun _ => rfl⟩⟩⟩
    · refine m_isCircle_y hI hc ⟨fun _ => m_in_y r1 (i_nlt r2) ⟨fun y => y = 3, fun y hy S7 h7 v8 h8 => ?_, fun _ => ⟨c, rfl, hc4, fun v41 h41 => ⟨True, fun _ => rfl, fun _ => trivial, fun z => ⟨c, rfl, hc4, fun v44 h44 => ⟨fun z2 => ?_, fun _ => trivial⟩⟩⟩⟩, fun z => absurd z (by decide)⟩, fun z => absurd z (by decide)⟩
      · subst hy h7
        exact er 3 (by decide) _ _ h8
      · rw [h44, m1] at z2
        exact (hb.elim (fun q => q (h41.symm.trans z)) (fun q => by have := le2.mp z2; omega)).elim
  have b1 : S.a 520 c = 0 := Classical.byContradiction fun z => hb (Or.inl z)
  have b2 : 2 ≤ mn S c := by
    rcases Nat.lt_or_ge (mn S c) 2 with e | e
    · exact absurd (Or.inr e) hb
    · exact e
  have y1 := (hY c hc).1
  have hu := hU c hc b1
  obtain ⟨X, hX⟩ : ∃ X, X = fbeg S c := ⟨_, rfl⟩
  have eXa : ∀ r x, r ≠ 520 → X.a r x = S.a r x := fun r x hr => by rw [hX]; unfold fbeg; rw [a_f hr]; rfl
  have eXp : nP X = nP S := by rw [hX]; rfl
  have eXc : nC X = nC S := by rw [hX]; rfl
  have eXm : mn X = mn S := by rw [hX]; unfold fbeg; rw [mn_setA (by decide)]; rfl
  have eXw : wh X = wh S := by rw [hX]; unfold fbeg; rw [wh_setA (by decide)]; rfl
  have hcX : c < nC X := by rw [eXc]; exact hc
  have hIX : SH X := by
    obtain ⟨i1, i2, i3, i4, i5⟩ := hI
    refine ⟨by rw [eXp, hX]; exact i1, by rw [eXp]; exact i2, by rw [eXc, hX]; exact i3, by rw [eXc]; exact i4, fun c' hc' => ?_⟩
    rw [eXc] at hc'
    rw [eXm, eXw, eXp, eXa 517 _ (by decide)]
    refine ⟨(i5 c' hc').1, (i5 c' hc').2.1, fun k hk => ?_⟩
    rw [eXa 521 _ (by decide)]
    exact (i5 c' hc').2.2 k hk
  have hRO : RO G (S.setS 500 0) := h.ro
  have hOc : G.O c = [] := (h.ro c hc).1 (fun z => by have := z.1; rw [b1] at this; exact absurd this (by decide))
  have hstd : stdC G X = stdC G S := by
    funext m
    unfold stdC cLst
    rw [eXp, eXc, eXm]
  -- the class's walk up to the order
  have walk : ∀ (Q : Int32 → Wd → Prop), (∀ w12, RCc w12 G X S (stdC G X) → (w12.K (G.C c) = 1 ∧ wp_X0_makeOrder (G.C c) (nI s) w12 (fun w13 => w13.K (G.C c) = 1 ∧ wp_X0_hasOrder (G.C c) w13 (fun v15 w14 => ∃ J16 : Int32 → Wd → Prop, (∀ (y17 : Int32) (w18 : Wd), J16 y17 w18 → ∃ a5, some G.o = some a5 ∧ True ∧ ∃ j6 : Nat, (0 : Int32) = nI j6 ∧ j6 = 0 ∧ True ∧ ∀ w7 : Wd, w7 = w18.setJ a5 j6 y17.toInt64 → Q (0 : Int32) w7) ∧ (v15 = 0 → J16 (-1 : Int32) w14) ∧ (¬ v15 = 0 → w14.K (G.C c) = 1 ∧ wp_X0_upNext (G.C c) w14 (fun z20 w19 => wp_X3_numberAt z20 w19 (fun v22 w21 => J16 v22 w21))))))) → wp_L_start (some G.x) (nI c) (nI s) (some G.o) w Q := fun Q hQ => by
    refine ⟨G.x, rfl, h.kx, h.kx, k_circleAt h hnc (fun j hj e => k_range (fun _ _ => ?_) (fun z => absurd z hr)) (fun z => absurd z (ix_cne hc hnc))⟩
    obtain rfl : c = j := (nI_eq (by omega) (by omega)).mp e
    refine ⟨_, rfl, h.kC hc, fun v5 h5 => ⟨fun w7 => False, fun w7 hw => hw.elim, fun z => z (by rw [h5, g4]; exact b1), fun _ => k_sz h hc ⟨fun _ => ⟨h.kC hc, Or.inr rfl, fun w12 h12 => hQ w12 ?_⟩, fun z => absurd (le2.mpr b2) z⟩⟩⟩
    rw [h12, hstd, hX]
    exact RCc.set (k := 1) (S := S.setS 500 0) (h.toC) (by decide) (by decide) hc
  by_cases hw1 : S.a 515 c ≤ 1
  · -- by lot or by age
    have hw01 : X.a 515 c = 0 ∨ X.a 515 c = 1 := by
      rw [eXa 515 c (by decide)]
      rcases y1 with e | e | e | e
      · exact Or.inl e
      · exact Or.inr e
      · rw [e] at hw1; exact absurd hw1 (by decide)
      · rw [e] at hw1; exact absurd hw1 (by decide)
    obtain ⟨lot, hlot⟩ : ∃ lot, lot = decide (S.a 515 c = 0) := ⟨_, rfl⟩
    obtain ⟨ag, hag⟩ : ∃ ag : Nat → Int32, ag = fun i => S.a 502 (wh S (10 * c + i)) := ⟨_, rfl⟩
    have hlotX : decide (X.a 515 c = 0) = lot := by rw [hlot, eXa 515 c (by decide)]
    have hagX : (fun i => X.a 502 (wh X (10 * c + i))) = ag := by rw [hag, eXw]; funext i; exact eXa 502 _ (by decide)
    have htX : ∀ i, i < mn X c → X.a 526 (10 * c + i) = -1 := fun i hi => by rw [eXa 526 _ (by decide)]; exact (hu i (by rw [← eXm]; exact hi)).1
    have hhX : ∀ i, i < mn X c → X.a 527 (10 * c + i) = 0 := fun i hi => by rw [eXa 527 _ (by decide)]; exact (hu i (by rw [← eXm]; exact hi)).2.1
    have hwX : X.a 515 c ≤ 1 := by rw [eXa 515 c (by decide)]; exact hw1
    obtain ⟨Y, hYd⟩ : ∃ Y, Y = sT X c lot ag s (mn X c) (mn X c) := ⟨_, rfl⟩
    have hfs : fstart S c s = Y := by unfold fstart; rw [if_pos hw1, hYd, hlot, hag, eXm, hX]
    have htof := tof_start (S := S) (s := s) (lot := lot) (ag := ag) (X := X) (c := c) (by rw [eXm]; omega) (by rw [eXm]; exact m2) (i_nlt hwX) htX hhX
    rw [← hYd] at htof
    have NY : Nm X Y := by rw [hYd]; exact sT_Nm _
    obtain ⟨x0, hx0⟩ : ∃ x0, x0 = (sDU lot ag s (mn X c) 0).2.getD (pick lot ag s (mn X c) 0 (sDU lot ag s (mn X c) 0).2) 0 := ⟨_, rfl⟩
    rw [← hx0] at htof
    have hx0n : x0 < mn S c := by
      have := (tof_lt _ _ htof).1
      rw [eXm] at this; exact this
    have hthr : Y.s 500 = 0 := by rw [hYd, sT_s, hX]; rfl
    refine ⟨0, nI (wh S (10 * c + x0)), Y, hthr, Or.inr (Or.inr (Or.inr ⟨c, s, hc, rfl, b1, b2, hfs.symm⟩)), fun Q hQ => walk Q fun w12 q12 => ?_, ?_⟩
    · have q12' : RCc w12 G X S (ordC G X c []) := by
        have e : ordC G X c [] = stdC G X := by
          funext m
          unfold ordC
          by_cases e : m = 3 + 2 * c
          · rw [if_pos e, e, stdC_o, hOc]
          · rw [if_neg e]
        rw [e]; exact q12
      refine ⟨q12.2.2.1.2.2.2.2.1 1 c (by decide) (by decide) hcX, c_makeOrder q12' hIX hcX hw01 hs (fun i hi => by rw [eXa 502 _ (by decide)]; exact hage i (by rw [← eXp]; exact hi)) (fun w13 q13 => ?_)⟩
      rw [hlotX, hagX] at q13
      have hXT : X = (S.setS 500 0).setA 520 c 1 := hX
      have qf := q13.ord (lot := lot) (ag := ag) (s := s) hIX hRO hXT hcX hwX htX rfl
      rw [← hYd] at qf
      have hcY : c < nC Y := by rw [NY.c]; exact hcX
      have wY : Y.a 515 c = 0 ∨ Y.a 515 c = 1 := by rw [NY.2.2.2.2.1]; exact hw01
      obtain ⟨l, hl⟩ : ∃ l, l = (sDU lot ag s (mn X c) (mn X c)).1.map (fun i => G.L (10 * c + i)) := ⟨_, rfl⟩
      rw [← hl] at qf
      have kCf : w13.K (G.C c) = 1 := qf.kC hcY
      refine ⟨kCf, k_hasOrder (G := Gord G c l) qf hcY (fun _ => ⟨fun y w18 => y = nI (wh S (10 * c + x0)) ∧ w18 = w13, fun y17 w18 hj => ?_, fun z => absurd z (by decide), fun _ => ⟨kCf, k_upNext (G := Gord G c l) qf (NY.sh hIX) ?_ hcY ?_ ?_⟩⟩) (fun a b => (wY.elim a b).elim)⟩
      · obtain ⟨rfl, rfl⟩ := hj
        exact out_ok (G := Gord G c l) qf (fun w1 q r => hQ w1 (Gord G c l) rfl rfl rfl q (fun _ => r))
      · intro c' hc'
        rw [NY.c, eXc] at hc'
        rw [NY.2.2.2.2.1, NY.2.2.2.2.2, eXa 515 _ (by decide)]
        refine ⟨(hY c' hc').1, ?_⟩
        by_cases e : c' = c
        · subst e; right; rw [hX]; exact a_e
        · rw [hX]; unfold fbeg; rw [a_b e]; exact (hY c' hc').2
      · rw [NY.2.2.2.2.2, hX]; show ¬ ((S.setS 500 0).setA 520 c 1).a 520 c = 0; rw [a_e]; decide
      · rw [NY.m, htof]
        refine k_numberAt (G := Gord G c l) (o := some x0) qf (NY.sh hIX) hcY (fun b hb' => by cases hb'; rw [NY.m, eXm]; exact hx0n) ⟨?_, rfl⟩
        unfold whoT; rw [NY.w, eXw]
    · refine m_isCircle_y hI hc ⟨fun _ => m_in_y r1 (i_nlt r2) ⟨fun y => y = 0, fun y hy S7 h7 v8 h8 => ?_, fun _ => ⟨c, rfl, hc4, fun v41 h41 => ⟨False, fun z => z.elim, fun z => z (h41.trans b1), fun z => ⟨c, rfl, hc4, fun v44 h44 => ⟨fun _ => rfl, fun z2 => z2 (by rw [h44, m1]; exact le2.mpr b2)⟩⟩⟩⟩, fun z => absurd z (by decide)⟩, fun z => absurd z (by decide)⟩
      subst hy
      refine ⟨fun _ => ⟨c, rfl, hc4, fun S10 h10 => ?_⟩, fun z => absurd (h8.trans (by rw [h7]; rfl)) z⟩
      have e10 : S10 = X := by rw [h10, nar1, h7, hX]; rfl
      rw [e10]
      refine ⟨fun n y13 y14 S15 => ∃ k, k ≤ mn S c ∧ n = mn S c - k ∧ y14 = nI k ∧ S15 = sT X c lot ag s (mn X c) k ∧ y13 = (if k = 0 then -1 else nI (wh S (10 * c + x0))), ⟨_, 0, Nat.zero_le _, rfl, rfl, rfl, by rw [if_pos rfl]⟩, fun n y13 y14 S15 hIv => ?_⟩
      obtain ⟨k, hk, rfl, rfl, rfl, e13⟩ := hIv
      have Nk : Nm X (sT X c lot ag s (mn X c) k) := sT_Nm k
      refine ⟨c, rfl, hc4, fun v17 h17 => ?_⟩
      rw [Nk.2.2.1, eXa 517 _ (by decide), m1] at h17; subst h17
      have fin : ¬ k < mn S c → (0 = 0 → y13 = nI (wh S (10 * c + x0))) ∧ sT X c lot ag s (mn X c) k = Y := fun z => by
        have e : k = mn S c := by omega
        refine ⟨fun _ => by rw [e13, if_neg (by omega)], by rw [hYd, e, eXm]⟩
      refine ⟨¬ k < mn S c, fun z => ⟨fun _ => (fin z).1 rfl, (fin z).2⟩, fun hcc => by have := (nI_leI (by omega) (by omega)).mp hcc; omega, fun hcc => ⟨c, rfl, hc4, fun v20 h20 => ⟨fun z => ?_, fun _ v21 h21 v22 h22 => ⟨c, rfl, hc4, fun v24 h24 v25 h25 => ?_⟩⟩⟩⟩
      · rw [Nk.2.2.2.2.1] at h20
        rw [h20] at z
        exact absurd z (i_nlt hwX)
      · have hk2 : k < mn S c := Nat.lt_of_not_le (fun z => hcc (nI_le z (by omega)))
        rw [Nk.2.2.1, eXa 517 _ (by decide), m1] at h24
        rw [h24, pk_sub (by omega)] at h25
        rw [show (31 : Int32) = nI 31 from rfl, pk_mul] at h21
        rw [h21, nI_add] at h22
        refine ⟨by rw [h25]; exact nI_ne0 (by omega) (by omega), fun v26 h26 => ?_⟩
        rw [h22, h25, pk_rem (by omega) (by omega) (by omega)] at h26
        have hkX : k ≤ mn X c := by rw [eXm]; exact hk
        obtain ⟨d1, d2, d3, d4⟩ := sDU_ok (lot := lot) (ag := ag) (s := s) k hkX
        have hp := pick_lt (lot := lot) (ag := ag) (s := s) d2 (by rw [eXm]; exact hk2)
        obtain ⟨T1, T2⟩ := sT_t (lot := lot) (ag := ag) (s := s) htX k hkX
        refine m_next (r := pick lot ag s (mn X c) k (sDU lot ag s (mn X c) k).2) (U := (sDU lot ag s (mn X c) k).2) (Nk.sh hIX) (by rw [Nk.c]; exact hcX) d3 (fun i hi => by rw [Nk.m]; exact (sDU_mem hkX).mp (Or.inr hi)) (fun i hi => ⟨fun z hm => ?_, fun z => ?_⟩) hp (fun z => ?_) (fun z => ?_) ?_
        · rw [T1 i hm] at z; exact absurd z (by decide)
        · rw [Nk.m] at hi
          have hD := ((sDU_mem (lot := lot) (ag := ag) (s := s) hkX).mpr hi).resolve_right z
          obtain ⟨j, hj⟩ := List.getElem?_of_mem hD
          have := (List.getElem?_eq_some_iff.mp hj).1
          rw [T2 j i hj]; exact nI_pos' (by omega)
        · rw [Nk.2.2.2.2.1, eXa 515 _ (by decide)] at z
          rw [h26, pick, if_pos (by rw [hlot]; exact decide_eq_true z), eXm]
        · rw [Nk.2.2.2.2.1, eXa 515 _ (by decide)] at z
          have e0 : lot = false := by rw [hlot]; exact decide_eq_false z
          have ea : (fun i => (sT X c lot ag s (mn X c) k).a 502 (wh (sT X c lot ag s (mn X c) k) (10 * c + i))) = ag := by
            rw [Nk.w, ← hagX]; funext i; exact sT_o (by decide) k
          rw [ea, pick, if_neg (by rw [e0]; decide)]
        · intro v29 h29 v30 h30
          rw [h29, at_ix] at h30
          have hx := (sDU_mem (lot := lot) (ag := ag) (s := s) hkX).mp (Or.inr (getD_mem hp))
          have hx2 := Nat.lt_of_lt_of_eq hx (congrFun eXm c)
          refine ⟨_, h30, by omega, fun S32 h32 => ⟨fun y => y = nI (wh S (10 * c + x0)), fun y34 hy v35 h35 => ⟨mn S c - (k + 1), by omega, k + 1, by omega, rfl, by rw [h35, nI_1], ?_, by rw [if_neg (Nat.succ_ne_zero _)]; exact hy⟩, fun z => ?_, fun z v36 h36 v37 h37 => ?_⟩⟩
          · rw [h32]; rfl
          · rw [e13, if_neg (fun e => z (by rw [e]; rfl))]
          · have ek : k = 0 := (nI_eq (b := 0) (by omega) (by decide)).mp z
            rw [h36, at_ix] at h37
            refine ⟨_, h37, by omega, fun v39 h39 => ?_⟩
            rw [h39, h32, a_f (by decide), sT_o (by decide), eXa 521 _ (by decide)]
            subst ek
            rw [(m3 _ hx2).1, ← hx0]
  · -- by need or by bid: no order
    have hw23 : S.a 515 c = 2 ∨ S.a 515 c = 3 := by
      rcases y1 with e | e | e | e
      · rw [e] at hw1; exact absurd (by decide) hw1
      · rw [e] at hw1; exact absurd (by decide) hw1
      · exact Or.inl e
      · exact Or.inr e
    have n0 : ¬ X.a 515 c = 0 := fun e => by rw [eXa 515 _ (by decide)] at e; rw [e] at hw1; exact hw1 (by decide)
    have n1 : ¬ X.a 515 c = 1 := fun e => by rw [eXa 515 _ (by decide)] at e; rw [e] at hw1; exact hw1 (by decide)
    have hfs : fstart S c s = X := by unfold fstart; rw [if_neg hw1, hX]
    have hthr : X.s 500 = 0 := by rw [hX]; rfl
    refine ⟨0, -1, X, hthr, Or.inr (Or.inr (Or.inr ⟨c, s, hc, rfl, b1, b2, hfs.symm⟩)), fun Q hQ => walk Q fun w12 q12 => ?_, ?_⟩
    · have q : RC w12 G X S := by
        refine q12.toR rfl rfl (fun c' hc' => ⟨stdC_p, stdC_o⟩) (fun c' hc' => ?_)
        rw [eXc] at hc'
        have eCl : cLst G X c' = cLst G S c' := by unfold cLst; rw [eXm]
        rw [eCl, eXm]
        by_cases e : c' = c
        · subst e
          refine ⟨fun _ => hOc, fun hy => ?_⟩
          have := hy.2
          rw [eXa 515 _ (by decide)] at this
          exact absurd this hw1
        · have ho : hasO X c' ↔ hasO S c' := by
            unfold hasO; rw [eXa 515 _ (by decide), hX]; unfold fbeg; rw [a_b e]; exact Iff.rfl
          rw [ho]
          obtain ⟨o1, o2⟩ := h.ro c' hc'
          refine ⟨o1, fun hy => ?_⟩
          obtain ⟨p1, p2, p3⟩ := o2 hy
          refine ⟨p1, p2, fun k hk => ?_⟩
          rw [eXa 526 _ (by decide)]; exact p3 k hk
      refine ⟨q.kC hcX, k_makeOrder_n q hcX n0 n1 (by rw [eXa 515 _ (by decide)]; exact hw23) ⟨q.kC hcX, k_hasOrder q hcX (fun z => (z.elim n0 n1).elim) (fun _ _ => ⟨fun y w18 => y = -1 ∧ w18 = w12, fun y w18 hj => ?_, fun _ => ⟨rfl, rfl⟩, fun z => absurd rfl z⟩)⟩⟩
      obtain ⟨rfl, rfl⟩ := hj
      exact out_ok q (fun w1 q r => hQ w1 G rfl rfl rfl q (fun _ => r))
    · refine m_isCircle_y hI hc ⟨fun _ => m_in_y r1 (i_nlt r2) ⟨fun y => y = 0, fun y hy S7 h7 v8 h8 => ?_, fun _ => ⟨c, rfl, hc4, fun v41 h41 => ⟨False, fun z => z.elim, fun z => z (h41.trans b1), fun z => ⟨c, rfl, hc4, fun v44 h44 => ⟨fun _ => rfl, fun z2 => z2 (by rw [h44, m1]; exact le2.mpr b2)⟩⟩⟩⟩, fun z => absurd z (by decide)⟩, fun z => absurd z (by decide)⟩
      subst hy
      refine ⟨fun _ => ⟨c, rfl, hc4, fun S10 h10 => ?_⟩, fun z => absurd (h8.trans (by rw [h7]; rfl)) z⟩
      have e10 : S10 = X := by rw [h10, nar1, h7, hX]; rfl
      rw [e10]
      refine ⟨fun n y13 y14 S15 => y13 = -1 ∧ y14 = 0 ∧ S15 = X, ⟨0, rfl, rfl, rfl⟩, fun n y13 y14 S15 hIv => ?_⟩
      obtain ⟨rfl, rfl, rfl⟩ := hIv
      refine ⟨c, rfl, hc4, fun v17 h17 => ⟨True, fun _ => ⟨fun _ => rfl, rfl⟩, fun _ => trivial, fun _ => ⟨c, rfl, hc4, fun v20 h20 => ⟨fun _ => trivial, fun z => ?_⟩⟩⟩⟩
      rw [h20, eXa 515 _ (by decide)] at z
      exact absurd (i_nle z) hw1
