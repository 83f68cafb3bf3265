-- ===== a call on both sides
/-- numbers and places of the reference's state are in their ranges -/
def SH (S : MS) : Prop := S.s 501 = nI (nP S) ∧ nP S ≤ 16 ∧ S.s 513 = nI (nC S) ∧ nC S ≤ 4 ∧ ∀ c, c < nC S → S.a 517 c = nI (mn S c) ∧ mn S c ≤ 10 ∧ ∀ k, k < mn S c → S.a 521 (10 * c + k) = nI (wh S (10 * c + k)) ∧ wh S (10 * c + k) < nP S
/-- the law's helper (lw) and the reference (md) end alike: code, answer, state -/
def OC (w : Wd) (G : GH) (S : MS) (lw : (Int32 → Wd → Prop) → Prop) (md : (Int32 → MS → Prop) → Prop) (I : Int32 → MS → Prop) : Prop :=
  ∃ k r S' G', S'.s 500 = k ∧ I r S' ∧ G'.x = G.x ∧ G'.o = G.o ∧ G'.mo = G.mo ∧ (∀ Q : Int32 → Wd → Prop, (∀ w1, RC w1 G' S' S → (k = 0 → w1.J G.o 0 = r.toInt64) → Q k w1) → lw Q) ∧ md (fun r' S1 => (k = 0 → r' = r) ∧ S1 = S')
theorem out_ok {w : Wd} {G : GH} {S' S : MS} {v : Int32} {Q : Int32 → Wd → Prop} (h : RC w G S' S) (hQ : ∀ w1, RC w1 G S' S → w1.J G.o 0 = v.toInt64 → Q 0 w1) : ∃ a5, some G.o = some a5 ∧ True ∧ ∃ j6 : Nat, (0 : Int32) = nI j6 ∧ j6 = 0 ∧ True ∧ ∀ w7 : Wd, w7 = w.setJ a5 j6 v.toInt64 → Q (0 : Int32) w7 := by
  exact ⟨G.o, rfl, trivial, 0, rfl, rfl, trivial, fun w7 hw => hQ w7 (by subst hw; exact h) (by subst hw; exact up2_eq)⟩
theorem m_in_y {x lo hi : Int32} {S : MS} {Q : Int32 → MS → Prop} (h1 : ¬ x < lo) (h2 : ¬ hi < x) (hQ : Q 1 S) : sp_X4_in x lo hi S Q :=
  ⟨_, fun _ hj => hj, False, fun z => z.elim, fun hc => h1 hc, fun _ => ⟨fun hc => h2 hc, fun _ => ⟨Or.inr rfl, hQ⟩⟩⟩
theorem m_in_n {x lo hi : Int32} {S : MS} {Q : Int32 → MS → Prop} (h : x < lo ∨ hi < x) (hQ : Q 0 S) : sp_X4_in x lo hi S Q :=
  ⟨fun y => y = 0, fun y hy => by subst hy; exact ⟨Or.inl rfl, hQ⟩, True, fun _ => rfl, fun _ => trivial, fun hc => ⟨fun _ => trivial, fun hc2 => (h.elim (fun z => hc z) (fun z => hc2 z)).elim⟩⟩
theorem ix_bad {x : Int32} {n : Nat} (hn : n < 2 ^ 31) (h : x < 0 ∨ nI n ≤ x) : x < 0 ∨ nI n - 1 < x := by
  rcases h with h | h
  · exact Or.inl h
  · by_cases h0 : x < 0
    · exact Or.inl h0
    · right
      obtain ⟨j, hj, e⟩ := nI_of h0
      subst e
      have := (nI_leI hn hj).mp h
      rcases Nat.eq_zero_or_pos n with e | e
      · subst e
        have e2 : nI 0 - 1 < (0 : Int32) := by decide
        exact Int32.lt_of_lt_of_le e2 (nI_pos' hj)
      · obtain ⟨m, rfl⟩ : ∃ m, n = m + 1 := ⟨n - 1, by omega⟩
        rw [nI_pred]; exact nI_lt (by omega) hj
theorem ix_ok {i n : Nat} (hi : i < n) (hn : n < 2 ^ 31) : ¬ nI i < 0 ∧ ¬ nI n - 1 < nI i := by
  refine ⟨nI_pos (by omega), ?_⟩
  obtain ⟨m, rfl⟩ : ∃ m, n = m + 1 := ⟨n - 1, by omega⟩
  rw [nI_pred]; exact nI_nlt (by omega) (by omega)
theorem m_isOne_y {i : Nat} {S : MS} {Q : Int32 → MS → Prop} (hI : SH S) (hi : i < nP S) (hQ : Q 1 S) : sp_X4_isOne (nI i) S Q := by
  intro v1 h1 v2 h2
  rw [hI.1] at h1; subst h1 h2
  have := ix_ok hi (by have := hI.2.1; omega)
  exact m_in_y this.1 this.2 ⟨Or.inr rfl, hQ⟩
theorem m_isOne_n {x : Int32} {S : MS} {Q : Int32 → MS → Prop} (hI : SH S) (hx : x < 0 ∨ nI (nP S) ≤ x) (hQ : Q 0 S) : sp_X4_isOne x S Q := by
  intro v1 h1 v2 h2
  rw [hI.1] at h1; subst h1 h2
  exact m_in_n (ix_bad (by have := hI.2.1; omega) hx) ⟨Or.inl rfl, hQ⟩
theorem m_isCircle_y {i : Nat} {S : MS} {Q : Int32 → MS → Prop} (hI : SH S) (hi : i < nC S) (hQ : Q 1 S) : sp_X4_isCircle (nI i) S Q := by
  intro v1 h1 v2 h2
  rw [hI.2.2.1] at h1; subst h1 h2
  have := ix_ok hi (by have := hI.2.2.2.1; omega)
  exact m_in_y this.1 this.2 ⟨Or.inr rfl, hQ⟩
theorem m_isCircle_n {x : Int32} {S : MS} {Q : Int32 → MS → Prop} (hI : SH S) (hx : x < 0 ∨ nI (nC S) ≤ x) (hQ : Q 0 S) : sp_X4_isCircle x S Q := by
  intro v1 h1 v2 h2
  rw [hI.2.2.1] at h1; subst h1 h2
  exact m_in_n (ix_bad (by have := hI.2.2.2.1; omega) hx) ⟨Or.inl rfl, hQ⟩
/-- a number is one of the people's, or it isn't -/
theorem ix_p (x : Int32) {n : Nat} (hn : n ≤ 16) : (x < 0 ∨ nI n ≤ x) ∨ ∃ i, i < n ∧ x = nI i := by
  rcases pk_ix x (n := n) (by omega) with h | h | h
  · exact Or.inl (Or.inl h)
  · exact Or.inl (Or.inr h)
  · exact Or.inr h
theorem ix_ne {i n : Nat} (hi : i < n) (hn : n ≤ 16) : ¬ (nI i < 0 ∨ nI n ≤ nI i) := fun z => z.elim (nI_pos (by omega)) (nI_ge hi (by omega))
theorem i_le {x y : Int32} (h : ¬ x ≤ y) : y < x := by
  rcases Int32.lt_or_le y x with e | e
  · exact e
  · exact absurd e h
theorem i_nlt {x y : Int32} (h : x ≤ y) : ¬ y < x := fun z => Int32.lt_irrefl (Int32.lt_of_lt_of_le z h)
theorem i_nle {x y : Int32} (h : ¬ y < x) : x ≤ y := by
  rcases Int32.lt_or_le y x with e | e
  · exact absurd e h
  · exact e
theorem exI {i n : Nat} (hi : i < n) (hn : n ≤ 64) {P : Nat → Prop} (h : P i) : ∃ j : Nat, nI i = nI j ∧ j < n ∧ P j := ⟨i, rfl, hi, h⟩
/-- what earn answers and does -/
def I_earn (S : MS) (x1 x2 : Int32) (r : Int32) (S' : MS) : Prop :=
  (S' = S.setS 500 1 ∧ (x1 < 0 ∨ nI (nP S) ≤ x1)) ∨ (S' = S.setS 500 2 ∧ (x2 < -10000 ∨ ¬ x2 ≤ 10000)) ∨ (∃ i, i < nP S ∧ x1 = nI i ∧ S' = S.setS 500 3 ∧ (¬ S.a 512 i = 0 ∨ S.a 504 i + x2 < 0 ∨ ¬ S.a 504 i + x2 ≤ 10000000)) ∨
  ∃ i, i < nP S ∧ x1 = nI i ∧ ¬ x2 < -10000 ∧ x2 ≤ 10000 ∧ S.a 512 i = 0 ∧ ¬ S.a 504 i + x2 < 0 ∧ S.a 504 i + x2 ≤ 10000000 ∧ r = S.a 504 i + x2 ∧ S' = ((S.setS 500 0).setA 504 i (S.a 504 i + x2)).setS 529 (S.s 529 + x2)
theorem o_earn {w : Wd} {G : GH} {S : MS} {x1 x2 : Int32} (h : RC w G S S) (hI : SH S) : OC w G S (fun Q => wp_L_earn (some G.x) x1 x2 (some G.o) w Q) (fun Q => sp_X4_earn x1 x2 S Q) (I_earn S x1 x2) := by
  have hn := hI.2.1
  rcases ix_p x1 hn with hx | ⟨i, hi, rfl⟩
  · refine ⟨1, 0, S.setS 500 1, G, rfl, Or.inl ⟨rfl, hx⟩, rfl, rfl, rfl, fun Q hQ => ?_, ?_⟩
    · exact ⟨G.x, rfl, h.kx, h.kx, k_personAt h hn (fun i hi e => absurd hx (by rw [e]; exact ix_ne hi hn)) (fun _ => Or.inl ⟨rfl, hQ w h.thrown (fun z => by cases z)⟩)⟩
    · exact m_isOne_n hI hx ⟨fun z => absurd rfl z, fun _ S30 h30 => ⟨fun _ => rfl, h30⟩⟩
  have hi16 : i < 16 := by omega
  by_cases hr : x2 < (-10000 : Int32) ∨ ¬ x2 ≤ 10000
  · refine ⟨2, 0, S.setS 500 2, G, rfl, Or.inr (Or.inl ⟨rfl, hr⟩), rfl, rfl, rfl, fun Q hQ => ?_, ?_⟩
    · refine ⟨G.x, rfl, h.kx, h.kx, k_personAt h hn (fun j hj e => k_range (fun a b => (hr.elim (fun z => a z) (fun z => z b)).elim) (fun _ => Or.inr (Or.inl ⟨rfl, hQ w h.thrown (fun z => by cases z)⟩))) (fun z => absurd z (ix_ne hi hn))⟩
    · refine m_isOne_y hI hi ⟨fun _ => ⟨i, rfl, hi16, fun v4 h4 => ⟨fun _ => True, fun y6 _ => ?_, True, fun _ => trivial, fun _ => trivial, fun _ => ⟨i, rfl, hi16, fun v25 h25 v26 h26 => ⟨fun _ => trivial, fun _ => ⟨i, rfl, hi16, fun v28 h28 v29 h29 => ⟨fun _ => trivial, fun _ => trivial⟩⟩⟩⟩⟩⟩, fun z => by cases z⟩
      refine m_in_n (hr.imp_right i_le) ⟨fun y => y = 2, fun y hy S11 h11 v12 h12 => ?_, fun z => absurd rfl z, fun _ => rfl⟩
      subst hy h11 h12
      exact ⟨fun z => (by cases z), fun _ => ⟨fun z => (by cases z), rfl⟩⟩
  have r1 : ¬ x2 < (-10000 : Int32) := fun z => hr (Or.inl z)
  have r2 : x2 ≤ 10000 := Classical.byContradiction fun z => hr (Or.inr z)
  have g1 : w.I 204 (G.P i) = S.a 504 i := h.get (k := 2) (f := 204) (r := 504) (by decide) hi
  have g2 : w.I 212 (G.P i) = S.a 512 i := h.get (k := 2) (f := 212) (r := 512) (by decide) hi
  by_cases hb : ¬ S.a 512 i = 0 ∨ S.a 504 i + x2 < 0 ∨ ¬ S.a 504 i + x2 ≤ 10000000
  · refine ⟨3, 0, S.setS 500 3, G, rfl, Or.inr (Or.inr (Or.inl ⟨i, hi, rfl, rfl, hb⟩)), rfl, rfl, rfl, fun Q hQ => ?_, ?_⟩
    · refine ⟨G.x, rfl, h.kx, h.kx, k_personAt h hn (fun j hj e => k_range (fun _ _ => ?_) (fun z => absurd z hr)) (fun z => absurd z (ix_ne hi hn))⟩
      obtain rfl : i = j := (nI_eq (by omega) (by omega)).mp e
      have fin : Q 3 w := hQ w h.thrown (fun z => by cases z)
      refine ⟨_, rfl, h.kP hi, fun v5 h5 v6 h6 => ⟨h.kP hi, fun v7 h7 => ⟨True, fun _ => Or.inr (Or.inr ⟨rfl, fin⟩), fun _ => trivial, fun a1 => ⟨fun _ => trivial, fun a2 => ⟨fun a3 => ?_, fun _ => trivial⟩⟩⟩⟩⟩
      rw [g1] at h5; rw [g2] at h7; subst h5 h6 h7
      exact (hb.elim (fun z => z a1) (fun z => z.elim a2 (fun z => z a3))).elim
    · refine m_isOne_y hI hi ⟨fun _ => ⟨i, rfl, hi16, fun v4 h4 => ?_⟩, fun z => by cases z⟩
      subst h4
      refine ⟨fun y => y = 0, fun y6 hy => ?_, True, fun _ => rfl, fun _ => trivial, fun a1 => ⟨i, rfl, hi16, fun v25 h25 v26 h26 => ⟨fun _ => trivial, fun a2 => ⟨i, rfl, hi16, fun v28 h28 v29 h29 => ⟨fun _ => trivial, fun a3 => ?_⟩⟩⟩⟩⟩
      · subst hy
        refine m_in_y r1 (i_nlt r2) ⟨fun y => y = 3, fun y hy S11 h11 v12 h12 => ?_, fun _ => ⟨fun z => absurd rfl z, fun _ => rfl⟩, fun z => by cases z⟩
        subst hy h11 h12
        exact ⟨fun z => (by cases z), fun _ => ⟨fun z => (by cases z), rfl⟩⟩
      · subst h25 h26 h28 h29
        exact (hb.elim (fun z => z a1) (fun z => z.elim a2 (fun z => z (i_nle a3)))).elim
  · have b1 : S.a 512 i = 0 := Classical.byContradiction fun z => hb (Or.inl z)
    have b2 : ¬ S.a 504 i + x2 < 0 := fun z => hb (Or.inr (Or.inl z))
    have b3 : S.a 504 i + x2 ≤ 10000000 := Classical.byContradiction fun z => hb (Or.inr (Or.inr z))
    refine ⟨0, S.a 504 i + x2, ((S.setS 500 0).setA 504 i (S.a 504 i + x2)).setS 529 (S.s 529 + x2), G, rfl, Or.inr (Or.inr (Or.inr ⟨i, hi, rfl, r1, r2, b1, b2, b3, rfl, rfl⟩)), rfl, rfl, rfl, fun Q hQ => ?_, ?_⟩
    · refine ⟨G.x, rfl, h.kx, h.kx, k_personAt h hn (fun j hj e => k_range (fun _ _ => ?_) (fun z => absurd z hr)) (fun z => absurd z (ix_ne hi hn))⟩
      obtain rfl : i = j := (nI_eq (by omega) (by omega)).mp e
      refine ⟨_, rfl, h.kP hi, fun v5 h5 v6 h6 => ⟨h.kP hi, fun v7 h7 => ⟨False, fun z => z.elim, fun a1 => a1 (by rw [h7, g2, b1]), fun a1 => ⟨fun a2 => ?_, fun a2 => ⟨fun a3 => ?_, fun a3 => ?_⟩⟩⟩⟩⟩
      · rw [g1] at h5; subst h5 h6; exact b2 a2
      · rw [g1] at h5; subst h5 h6
        refine ⟨h.kP hi, fun w9 h9 => ?_⟩
        have q9 : RC w9 G ((S.setS 500 0).setA 504 i (S.a 504 i + x2)) S := by
          subst h9; exact RC.set (k := 2) (S := S.setS 500 0) h.thrown (by decide) (by decide) (by decide) (by decide) hi
        refine ⟨q9.kx, fun v10 h10 v11 h11 => ⟨q9.kx, fun w12 h12 => ?_⟩⟩
        rw [q9.2.2.2.2.1.2.2.1] at h10; subst h10 h11
        refine out_ok (S' := ((S.setS 500 0).setA 504 i (S.a 504 i + x2)).setS 529 (S.s 529 + x2)) (by subst h12; exact q9.earned) (fun w1 q r => hQ w1 q (fun _ => r))
      · rw [g1] at h5; subst h5 h6; exact a3 b3
    · refine m_isOne_y hI hi ⟨fun _ => ⟨i, rfl, hi16, fun v4 h4 => ?_⟩, fun z => by cases z⟩
      subst h4
      refine ⟨fun y => y = 1, fun y6 hy => ?_, False, fun z => z.elim, fun a1 => a1 b1, fun a1 => ⟨i, rfl, hi16, fun v25 h25 v26 h26 => ⟨fun a2 => ?_, fun a2 => ⟨i, rfl, hi16, fun v28 h28 v29 h29 => ⟨fun a3 => ?_, fun a3 => rfl⟩⟩⟩⟩⟩
      · subst hy
        refine m_in_y r1 (i_nlt r2) ⟨fun y => y = 0, fun y hy S11 h11 v12 h12 => ?_, fun _ => ⟨fun _ => rfl, fun z => by cases z⟩, fun z => by cases z⟩
        subst hy h11 h12
        refine ⟨fun _ => ⟨i, rfl, hi16, fun v14 h14 v15 h15 => ⟨i, rfl, hi16, fun S17 h17 v18 h18 v19 h19 S20 h20 => ⟨i, rfl, hi16, fun v22 h22 => ?_⟩⟩⟩, fun z => absurd rfl z⟩
        subst h14 h15 h17 h18 h19 h20 h22
        exact ⟨fun _ => a_e, rfl⟩
      · subst h25 h26; exact b2 a2
      · subst h28 h29; exact i_nlt b3 a3
