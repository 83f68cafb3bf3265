-- ===== people and the fund
theorem setA_comm {S : MS} {r j r' j' : Nat} {v v' : Int32} (h : r ≠ r') : (S.setA r j v).setA r' j' v' = (S.setA r' j' v').setA r j v := by
  refine Prod.ext rfl ?_
  funext x y
  show up2 (up2 S.2 r j v) r' j' v' x y = up2 (up2 S.2 r' j' v') r j v x y
  unfold up2
  by_cases h1 : x = r' ∧ y = j'
  · have h2 : ¬ (x = r ∧ y = j) := fun z => h (z.1.symm.trans h1.1)
    simp only [if_pos h1, if_neg h2]
  · by_cases h2 : x = r ∧ y = j
    · simp only [if_neg h1, if_pos h2]
    · simp only [if_neg h1, if_neg h2]
def fpay (S : MS) (i : Nat) (v : Int32) : MS := (S.setA 504 i (S.a 504 i - v)).setA 511 i (S.a 511 i + v)
theorem fpay_a {S : MS} {i r j : Nat} {v : Int32} (h1 : r ≠ 504) (h2 : r ≠ 511) : (fpay S i v).a r j = S.a r j := (a_f h2).trans (a_f h1)
theorem k_payIn {w : Wd} {G : GH} {S S0 : MS} {i : Nat} {v : Int32} {Q : Wd → Prop} (h : RC w G S S0) (hi : i < nP S) (hQ : ∀ w1, RC w1 G (fpay S i v) S0 → Q w1) : wp_X1_payIn (G.P i) v w Q := by
  have g1 : w.I 204 (G.P i) = S.a 504 i := h.get (k := 2) (f := 204) (r := 504) (by decide) hi
  refine ⟨h.kP hi, fun v1 h1 v2 h2 => ⟨h.kP hi, fun w3 h3 => ?_⟩⟩
  rw [g1] at h1; subst h1 h2
  have q3 : RC w3 G (S.setA 504 i (S.a 504 i - v)) S0 := by
    subst h3; exact RC.set (k := 2) h (by decide) (by decide) (by decide) (by decide) hi
  refine ⟨q3.kP hi, fun v4 h4 v5 h5 => ⟨q3.kP hi, fun w6 h6 => hQ w6 ?_⟩⟩
  have g2 : w3.I 211 (G.P i) = (S.setA 504 i (S.a 504 i - v)).a 511 i := q3.get (k := 2) (f := 211) (r := 511) (by decide) hi
  rw [g2, a_f (by decide)] at h4; subst h4 h5
  subst h6
  exact RC.set (k := 2) q3 (by decide) (by decide) (by decide) (by decide) hi
theorem i_subneg (x y : Int32) : x - -y = x + y := by rw [Int32.sub_eq_add_neg, Int32.neg_neg]
theorem k_getOut {w : Wd} {G : GH} {S S0 : MS} {i : Nat} {v : Int32} {Q : Wd → Prop} (h : RC w G S S0) (hi : i < nP S) (hQ : ∀ w1, RC w1 G (fpay S i (-v)) S0 → Q w1) : wp_X1_getOut (G.P i) v w Q := by
  have g1 : w.I 204 (G.P i) = S.a 504 i := h.get (k := 2) (f := 204) (r := 504) (by decide) hi
  refine ⟨h.kP hi, fun v1 h1 v2 h2 => ⟨h.kP hi, fun w3 h3 => ?_⟩⟩
  rw [g1] at h1; subst h1 h2
  have q3 : RC w3 G (S.setA 504 i (S.a 504 i + v)) S0 := by
    subst h3; exact RC.set (k := 2) h (by decide) (by decide) (by decide) (by decide) hi
  refine ⟨q3.kP hi, fun v4 h4 v5 h5 => ⟨q3.kP hi, fun w6 h6 => hQ w6 ?_⟩⟩
  have g2 : w3.I 211 (G.P i) = (S.setA 504 i (S.a 504 i + v)).a 511 i := q3.get (k := 2) (f := 211) (r := 511) (by decide) hi
  rw [g2, a_f (by decide)] at h4; subst h4 h5
  subst h6
  have := RC.set (v := S.a 511 i - v) (f := 211) (r := 511) (k := 2) q3 (by decide) (by decide) (by decide) (by decide) hi
  unfold fpay
  rw [i_subneg, ← Int32.sub_eq_add_neg]
  exact this
theorem k_payFund {w : Wd} {G : GH} {S S0 : MS} {i : Nat} {v : Int32} {Q : Wd → Prop} (h : RC w G S S0) (hi : i < nP S) (hQ : ∀ w1, RC w1 G ((fpay S i v).setS 528 (S.s 528 + v)) S0 → Q w1) : wp_X3_payFund G.x (some (G.P i)) v w Q := by
  refine ⟨_, rfl, h.kP hi, k_payIn h hi (fun w2 q => ⟨q.kx, fun v3 h3 v4 h4 => ⟨q.kx, fun w5 h5 => hQ w5 ?_⟩⟩)⟩
  rw [q.2.2.2.2.1.2.1] at h3; subst h3 h4 h5
  exact q.fund
theorem m_pays {S : MS} {i : Nat} {v : Int32} {Q : MS → Prop} (hi : i < 16) (hQ : Q (fpay S i v)) : sp_X4_pays (nI i) v S Q := by
  refine ⟨i, rfl, hi, fun v2 h2 v3 h3 => ⟨i, rfl, hi, fun S5 h5 => ⟨i, rfl, hi, fun v7 h7 v8 h8 => ⟨i, rfl, hi, fun S10 h10 => ?_⟩⟩⟩⟩
  subst h2 h3 h5
  rw [a_f (by decide)] at h7
  subst h7 h8 h10
  exact hQ
/-- what buy answers and does -/
def I_buy (S : MS) (x1 x2 : Int32) (r : Int32) (S' : MS) : Prop :=
  (S' = S.setS 500 1 ∧ (x1 < 0 ∨ nI (nP S) ≤ x1)) ∨ (S' = S.setS 500 2 ∧ (x2 < 1 ∨ ¬ x2 ≤ 100)) ∨ (∃ i, i < nP S ∧ x1 = nI i ∧ S' = S.setS 500 3 ∧ (¬ S.a 512 i = 0 ∨ 100 < S.a 505 i + x2 ∨ ¬ 10 * x2 ≤ S.a 504 i)) ∨
  ∃ i, i < nP S ∧ x1 = nI i ∧ ¬ x2 < 1 ∧ x2 ≤ 100 ∧ S.a 512 i = 0 ∧ ¬ 100 < S.a 505 i + x2 ∧ 10 * x2 ≤ S.a 504 i ∧ S' = ((fpay (S.setS 500 0) i (10 * x2)).setS 528 (S.s 528 + 10 * x2)).setA 505 i (S.a 505 i + x2)
theorem o_buy {w : Wd} {G : GH} {S : MS} {x1 x2 : Int32} (h : RC w G S S) (hI : SH S) : OC w G S (fun Q => wp_L_buy (some G.x) x1 x2 (some G.o) w Q) (fun Q => sp_X4_buy x1 x2 S Q) (I_buy S x1 x2) := by
  have hn := hI.2.1
  rcases ix_p x1 hn with hx | ⟨i, hi, rfl⟩
  · refine ⟨1, 0, S.setS 500 1, G, rfl, Or.inl ⟨rfl, hx⟩, rfl, rfl, rfl, fun Q hQ => ?_, ?_⟩
    · exact ⟨G.x, rfl, h.kx, h.kx, k_personAt h hn (fun i hi e => absurd hx (by rw [e]; exact ix_ne hi hn)) (fun _ => Or.inl ⟨rfl, hQ w h.thrown (fun z => by cases z)⟩)⟩
    · exact m_isOne_n hI hx ⟨fun z => absurd rfl z, fun _ S30 h30 => ⟨fun _ => rfl, h30⟩⟩
  have hi16 : i < 16 := by omega
  by_cases hr : x2 < (1 : Int32) ∨ ¬ x2 ≤ 100
  · refine ⟨2, 0, S.setS 500 2, G, rfl, Or.inr (Or.inl ⟨rfl, hr⟩), rfl, rfl, rfl, fun Q hQ => ?_, ?_⟩
    · refine ⟨G.x, rfl, h.kx, h.kx, k_personAt h hn (fun j hj e => k_range (fun a b => (hr.elim (fun z => a z) (fun z => z b)).elim) (fun _ => Or.inr (Or.inl ⟨rfl, hQ w h.thrown (fun z => by cases z)⟩))) (fun z => absurd z (ix_ne hi hn))⟩
    · refine m_isOne_y hI hi ⟨fun _ => ?_, fun z => by cases z⟩
      refine m_in_n (hr.imp_right i_le) ⟨fun y => y = 2, fun y hy S11 h11 v12 h12 => ?_, fun z => absurd rfl z, fun _ => rfl⟩
      subst hy h11 h12
      exact ⟨fun z => (by cases z), fun _ => ⟨fun z => (by cases z), rfl⟩⟩
  have r1 : ¬ x2 < (1 : Int32) := fun z => hr (Or.inl z)
  have r2 : x2 ≤ 100 := Classical.byContradiction fun z => hr (Or.inr z)
  have g1 : w.I 204 (G.P i) = S.a 504 i := h.get (k := 2) (f := 204) (r := 504) (by decide) hi
  have g2 : w.I 212 (G.P i) = S.a 512 i := h.get (k := 2) (f := 212) (r := 512) (by decide) hi
  have g3 : w.I 205 (G.P i) = S.a 505 i := h.get (k := 2) (f := 205) (r := 505) (by decide) hi
  by_cases hb : ¬ S.a 512 i = 0 ∨ 100 < S.a 505 i + x2 ∨ ¬ 10 * x2 ≤ S.a 504 i
  · refine ⟨3, 0, S.setS 500 3, G, rfl, Or.inr (Or.inr (Or.inl ⟨i, hi, rfl, rfl, hb⟩)), rfl, rfl, rfl, fun Q hQ => ?_, ?_⟩
    · refine ⟨G.x, rfl, h.kx, h.kx, k_personAt h hn (fun j hj e => k_range (fun _ _ => ?_) (fun z => absurd z hr)) (fun z => absurd z (ix_ne hi hn))⟩
      obtain rfl : i = j := (nI_eq (by omega) (by omega)).mp e
      have fin : Q 3 w := hQ w h.thrown (fun z => by cases z)
      refine fun v4 h4 => ⟨_, rfl, h.kP hi, fun v6 h6 => ⟨True, fun _ => Or.inr (Or.inr ⟨rfl, fin⟩), fun _ => trivial, fun a1 => ⟨h.kP hi, fun v8 h8 v9 h9 => ⟨fun _ => trivial, fun a2 => ⟨h.kP hi, fun v10 h10 => ⟨fun a3 => ?_, fun _ => trivial⟩⟩⟩⟩⟩⟩
      rw [g1] at h10; rw [g2] at h6; rw [g3] at h8; subst h4 h6 h8 h9 h10
      rw [Int32.mul_comm] at a3
      exact (hb.elim (fun z => z a1) (fun z => z.elim a2 (fun z => z a3))).elim
    · refine m_isOne_y hI hi ⟨fun _ => ?_, fun z => by cases z⟩
      refine m_in_y r1 (i_nlt r2) ⟨fun y => y = 3, fun y hy S11 h11 v12 h12 => ?_, fun _ => ⟨i, rfl, hi16, fun v23 h23 => ⟨True, fun _ => rfl, fun _ => trivial, fun a1 => ⟨i, rfl, hi16, fun v26 h26 v27 h27 => ⟨fun _ => trivial, fun a2 => ⟨i, rfl, hi16, fun v29 h29 v30 h30 => ⟨fun a3 => ?_, fun _ => trivial⟩⟩⟩⟩⟩⟩, fun z => by cases z⟩
      · subst hy h11 h12
        exact ⟨fun z => (by cases z), fun _ => ⟨fun z => (by cases z), rfl⟩⟩
      · subst h23 h26 h27 h29 h30
        exact (hb.elim (fun z => z a1) (fun z => z.elim a2 (fun z => z a3))).elim
  · have b1 : S.a 512 i = 0 := Classical.byContradiction fun z => hb (Or.inl z)
    have b2 : ¬ 100 < S.a 505 i + x2 := fun z => hb (Or.inr (Or.inl z))
    have b3 : 10 * x2 ≤ S.a 504 i := Classical.byContradiction fun z => hb (Or.inr (Or.inr z))
    refine ⟨0, S.a 505 i + x2, ((fpay (S.setS 500 0) i (10 * x2)).setS 528 (S.s 528 + 10 * x2)).setA 505 i (S.a 505 i + x2), G, rfl, Or.inr (Or.inr (Or.inr ⟨i, hi, rfl, r1, r2, b1, b2, b3, rfl⟩)), rfl, rfl, rfl, fun Q hQ => ?_, ?_⟩
    · refine ⟨G.x, rfl, h.kx, h.kx, k_personAt h hn (fun j hj e => k_range (fun _ _ => ?_) (fun z => absurd z hr)) (fun z => absurd z (ix_ne hi hn))⟩
      obtain rfl : i = j := (nI_eq (by omega) (by omega)).mp e
      refine fun v4 h4 => ⟨_, rfl, h.kP hi, fun v6 h6 => ⟨False, fun z => z.elim, fun a1 => a1 (by rw [h6, g2, b1]), fun a1 => ⟨h.kP hi, fun v8 h8 v9 h9 => ⟨fun a2 => ?_, fun a2 => ⟨h.kP hi, fun v10 h10 => ⟨fun a3 => ?_, fun a3 => ?_⟩⟩⟩⟩⟩⟩
      · rw [g3] at h8; subst h8 h9; exact b2 a2
      · refine ⟨h.kP hi, fun v11 h11 v12 h12 => ⟨h.kP hi, fun w13 h13 => ?_⟩⟩
        rw [g3] at h11; subst h4 h11 h12
        rw [Int32.mul_comm x2]
        have q13 : RC w13 G ((S.setS 500 0).setA 505 i (S.a 505 i + x2)) S := by
          subst h13; exact RC.set (k := 2) (S := S.setS 500 0) h.thrown (by decide) (by decide) (by decide) (by decide) hi
        refine ⟨q13.kx, k_payFund q13 hi (fun w14 q => ⟨q.kP hi, fun v15 h15 => ?_⟩)⟩
        have e : (fpay ((S.setS 500 0).setA 505 i (S.a 505 i + x2)) i (10 * x2)).setS 528 (((S.setS 500 0).setA 505 i (S.a 505 i + x2)).s 528 + 10 * x2) = ((fpay (S.setS 500 0) i (10 * x2)).setS 528 (S.s 528 + 10 * x2)).setA 505 i (S.a 505 i + x2) := by
          unfold fpay
          rw [a_f (S := S.setS 500 0) (by decide), a_f (S := S.setS 500 0) (by decide), setA_comm (r := 505) (r' := 504) (by decide), setA_comm (r := 505) (r' := 511) (by decide)]
          rfl
        rw [e] at q
        have g4 : w14.I 205 (G.P i) = _ := q.get (k := 2) (f := 205) (r := 505) (by decide) hi
        rw [g4, a_e] at h15; subst h15
        exact out_ok q (fun w1 q r => hQ w1 q (fun _ => r))
      · rw [g1] at h10; subst h4 h10; rw [Int32.mul_comm] at a3; exact a3 b3
    · refine m_isOne_y hI hi ⟨fun _ => ?_, fun z => by cases z⟩
      refine m_in_y r1 (i_nlt r2) ⟨fun y => y = 0, fun y hy S11 h11 v12 h12 => ?_, fun _ => ⟨i, rfl, hi16, fun v23 h23 => ⟨False, fun z => z.elim, fun a1 => a1 (by rw [h23, b1]), fun a1 => ⟨i, rfl, hi16, fun v26 h26 v27 h27 => ⟨fun a2 => ?_, fun a2 => ⟨i, rfl, hi16, fun v29 h29 v30 h30 => ⟨fun a3 => rfl, fun a3 => ?_⟩⟩⟩⟩⟩⟩, fun z => by cases z⟩
      · subst hy h11 h12
        refine ⟨fun _ v9 h9 => m_pays hi16 (fun v11 h11 v12 h12 v13 h13 S14 h14 => ⟨i, rfl, hi16, fun v16 h16 v17 h17 => ⟨i, rfl, hi16, fun S19 h19 => ⟨i, rfl, hi16, fun v21 h21 => ?_⟩⟩⟩), fun z => absurd rfl z⟩
        subst h9 h11 h12 h13 h14 h16 h17 h19 h21
        refine ⟨fun _ => a_e, ?_⟩
        unfold fpay
        rfl
      · subst h26 h27; exact b2 a2
      · subst h29 h30; exact a3 b3
theorem ix_b (x : Int32) : (x < 0 ∨ 2 < x) ∧ (x < 0 ∨ ¬ x < 3) ∨ ∃ b, b < 3 ∧ x = nI b := by
  rcases pk_ix x (n := 3) (by decide) with h | h | h
  · exact Or.inl ⟨Or.inl h, Or.inl h⟩
  · refine Or.inl ⟨Or.inr (Int32.lt_of_lt_of_le (show (2 : Int32) < nI 3 by decide) h), Or.inr (i_nlt h)⟩
  · exact Or.inr h
theorem b_in {b : Nat} (hb : b < 3) : ¬ nI b < 0 ∧ ¬ 2 < nI b ∧ nI b < 3 :=
  ⟨nI_pos (by omega), nI_nlt (a := 2) (by omega) (by decide), nI_lt (b := 3) hb (by decide)⟩
theorem note_ix {b i : Nat} : (16 : Int32) * nI b + nI i = nI (16 * b + i) := by
  rw [show (16 : Int32) = nI 16 from rfl, pk_mul, nI_add]
/-- what note answers and does -/
def I_note (S : MS) (x1 x2 x3 : Int32) (r : Int32) (S' : MS) : Prop :=
  (S' = S.setS 500 1 ∧ ((x1 < 0 ∨ ¬ x1 < 3) ∨ (x2 < 0 ∨ nI (nP S) ≤ x2))) ∨ (S' = S.setS 500 2 ∧ (x3 < -10000 ∨ ¬ x3 ≤ 10000)) ∨
  ∃ b i, b < 3 ∧ i < nP S ∧ x1 = nI b ∧ x2 = nI i ∧ r = S.a 530 (16 * b + i) + x3 ∧ S' = (S.setS 500 0).setA 530 (16 * b + i) (S.a 530 (16 * b + i) + x3)
theorem o_note {w : Wd} {G : GH} {S : MS} {x1 x2 x3 : Int32} (h : RC w G S S) (hI : SH S) : OC w G S (fun Q => wp_L_note (some G.x) x1 x2 x3 (some G.o) w Q) (fun Q => sp_X4_note x1 x2 x3 S Q) (I_note S x1 x2 x3) := by
  have hn := hI.2.1
  have er : ∀ k : Int32, k ≠ 0 → ∀ S1 v, v = (S.setS 500 k).s 500 → (S1 = S.setS 500 k) → ((v = 0 → (∀ v8 : Int32, v8 = (16 : Int32) * x1 → ∀ v9 : Int32, v9 = v8 + x2 → ∃ j10 : Nat, v9 = nI j10 ∧ j10 < 48 ∧ ∀ v11 : Int32, v11 = S1.a 530 j10 → ∀ v12 : Int32, v12 = v11 + x3 → ∃ j13 : Nat, v9 = nI j13 ∧ j13 < 48 ∧ ∀ S14 : MS, S14 = S1.setA 530 j13 v12 → ∀ v15 : Int32, v15 = (16 : Int32) * x1 → ∀ v16 : Int32, v16 = v15 + x2 → ∃ j17 : Nat, v16 = nI j17 ∧ j17 < 48 ∧ ∀ v18 : Int32, v18 = S14.a 530 j17 → (k = 0 → v18 = 0) ∧ S14 = S.setS 500 k)) ∧ (¬ v = 0 → (k = 0 → (0 : Int32) = 0) ∧ S1 = S.setS 500 k)) :=
    fun k hk S1 v hv hS => ⟨fun z => absurd (hv.symm.trans z) hk, fun _ => ⟨fun z => absurd z hk, hS⟩⟩
  rcases ix_b x1 with hx | ⟨b, hb, rfl⟩
  · refine ⟨1, 0, S.setS 500 1, G, rfl, Or.inl ⟨rfl, Or.inl hx.2⟩, rfl, rfl, rfl, fun Q hQ => ?_, ?_⟩
    · exact ⟨G.x, rfl, h.kx, True, fun _ => Or.inl ⟨rfl, hQ w h.thrown (fun z => by cases z)⟩, fun _ => trivial, fun a1 => ⟨fun a2 => (hx.2.elim (fun z => a1 z) (fun z => z a2)).elim, fun _ => trivial⟩⟩
    · exact m_in_n hx.1 ⟨fun y S5 => y = 1 ∧ S5 = S, fun y S5 hy S6 h6 v7 h7 => by obtain ⟨rfl, rfl⟩ := hy; subst h6; exact er 1 (by decide) _ _ h7 rfl, fun S20 => S20 = S, fun S20 hs => ⟨rfl, hs⟩, fun _ => rfl, fun z => absurd rfl z⟩
  obtain ⟨b1, b2, b3⟩ := b_in hb
  rcases ix_p x2 hn with hx | ⟨i, hi, rfl⟩
  · refine ⟨1, 0, S.setS 500 1, G, rfl, Or.inl ⟨rfl, Or.inr hx⟩, rfl, rfl, rfl, fun Q hQ => ?_, ?_⟩
    · exact ⟨G.x, rfl, h.kx, True, fun _ => Or.inl ⟨rfl, hQ w h.thrown (fun z => by cases z)⟩, fun _ => trivial, fun a1 => ⟨fun a2 => ⟨h.kx, k_personAt h hn (fun i hi e => absurd hx (by rw [e]; exact ix_ne hi hn)) (fun _ => Or.inl ⟨rfl, hQ w h.thrown (fun z => by cases z)⟩)⟩, fun _ => trivial⟩⟩
    · exact m_in_y b1 b2 ⟨fun y S5 => y = 1 ∧ S5 = S, fun y S5 hy S6 h6 v7 h7 => by obtain ⟨rfl, rfl⟩ := hy; subst h6; exact er 1 (by decide) _ _ h7 rfl, fun S20 => S20 = S, fun S20 hs => ⟨rfl, hs⟩, fun _ => rfl, fun z => m_isOne_n hI hx ⟨fun z => absurd rfl z, fun _ => rfl⟩⟩
  by_cases hr : x3 < (-10000 : Int32) ∨ ¬ x3 ≤ 10000
  · refine ⟨2, 0, S.setS 500 2, G, rfl, Or.inr (Or.inl ⟨rfl, hr⟩), rfl, rfl, rfl, fun Q hQ => ?_, ?_⟩
    · exact ⟨G.x, rfl, h.kx, False, fun z => z.elim, fun a1 => b1 a1, fun a1 => ⟨fun a2 => ⟨h.kx, k_personAt h hn (fun j hj e => k_range (fun a b => (hr.elim (fun z => a z) (fun z => z b)).elim) (fun _ => Or.inr ⟨rfl, hQ w h.thrown (fun z => by cases z)⟩)) (fun z => absurd z (ix_ne hi hn))⟩, fun z => z b3⟩⟩
    · exact m_in_y b1 b2 ⟨fun y S5 => y = 2 ∧ S5 = S, fun y S5 hy S6 h6 v7 h7 => by obtain ⟨rfl, rfl⟩ := hy; subst h6; exact er 2 (by decide) _ _ h7 rfl, fun S20 => False, fun S20 hs => hs.elim, fun z => absurd z (by decide), fun z => m_isOne_y hI hi ⟨fun _ => m_in_n (hr.imp_right i_le) ⟨fun z => absurd rfl z, fun _ => ⟨rfl, rfl⟩⟩, fun z => absurd z (by decide)⟩⟩
  have r1 : ¬ x3 < (-10000 : Int32) := fun z => hr (Or.inl z)
  have r2 : x3 ≤ 10000 := Classical.byContradiction fun z => hr (Or.inr z)
  have hj : 16 * b + i < 48 := by omega
  have hp := h.2.2.1.2.2.2.2.2.2.1 i hi
  refine ⟨0, S.a 530 (16 * b + i) + x3, (S.setS 500 0).setA 530 (16 * b + i) (S.a 530 (16 * b + i) + x3), G, rfl, Or.inr (Or.inr ⟨b, i, hb, hi, rfl, rfl, rfl, rfl⟩), rfl, rfl, rfl, fun Q hQ => ?_, ?_⟩
  · refine ⟨G.x, rfl, h.kx, False, fun z => z.elim, fun a1 => b1 a1, fun a1 => ⟨fun a2 => ⟨h.kx, k_personAt h hn (fun j hj' e => k_range (fun _ _ => ?_) (fun z => absurd z hr)) (fun z => absurd z (ix_ne hi hn))⟩, fun z => z b3⟩⟩
    obtain rfl : i = j := (nI_eq (by omega) (by omega)).mp e
    refine ⟨_, rfl, h.kP hi, fun z6 h6 => ⟨G.T i, h6.trans hp.2.1, hp.2.2.1, b, rfl, by rw [hp.2.2.2]; exact hb, by rw [hp.2.2.2]; decide, fun v9 h9 v10 h10 => ⟨hp.2.2.1, b, rfl, by rw [hp.2.2.2]; exact hb, by rw [hp.2.2.2]; decide, fun w12 h12 => ?_⟩⟩⟩
    rw [h.2.2.2.2.1.2.2.2 i b hi hb] at h9
    subst h9 h10
    have q : RC w12 G ((S.setS 500 0).setA 530 (16 * b + i) (S.a 530 (16 * b + i) + x3)) S := by
      subst h12; exact RC.note (S := S.setS 500 0) h.thrown hi hb hn
    have hq := q.2.2.1.2.2.2.2.2.2.1 i hi
    refine ⟨q.kP hi, fun z13 h13 => ⟨G.T i, h13.trans hq.2.1, hq.2.2.1, b, rfl, by rw [hq.2.2.2]; exact hb, by rw [hq.2.2.2]; decide, fun v16 h16 => ?_⟩⟩
    rw [q.2.2.2.2.1.2.2.2 i b hi hb, a_e] at h16
    subst h16
    exact out_ok q (fun w1 q r => hQ w1 q (fun _ => r))
  · refine m_in_y b1 b2 ⟨fun y S5 => y = 0 ∧ S5 = S, fun y S5 hy S6 h6 v7 h7 => ?_, fun S20 => False, fun S20 hs => hs.elim, fun z => absurd z (by decide), fun z => m_isOne_y hI hi ⟨fun _ => m_in_y r1 (i_nlt r2) ⟨fun _ => ⟨rfl, rfl⟩, fun z => absurd z (by decide)⟩, fun z => absurd z (by decide)⟩⟩
    obtain ⟨rfl, rfl⟩ := hy
    subst h6
    refine ⟨fun _ v8 h8 v9 h9 => ?_, fun z => absurd h7 z⟩
    subst h8
    rw [note_ix] at h9
    subst h9
    refine ⟨_, rfl, hj, fun v11 h11 v12 h12 => ⟨_, rfl, hj, fun S14 h14 v15 h15 v16 h16 => ?_⟩⟩
    subst h11 h12 h15
    rw [note_ix] at h16
    subst h16
    refine ⟨_, rfl, hj, fun v18 h18 => ?_⟩
    subst h14 h18
    exact ⟨fun _ => a_e, rfl⟩
theorem setA_self {S : MS} {r j : Nat} : S.setA r j (S.a r j) = S := by
  refine Prod.ext rfl ?_
  funext x y
  show up2 S.2 r j (S.2 r j) x y = S.2 x y
  unfold up2
  by_cases h : x = r ∧ y = j
  · rw [if_pos h, h.1, h.2]
  · rw [if_neg h]
theorem k_hasLoan {w : Wd} {G : GH} {S S0 : MS} {i : Nat} {Q : Int32 → Wd → Prop} (h : RC w G S S0) (hi : i < nP S) (h1 : S.a 506 i ≤ 0 → Q 0 w) (h2 : ¬ S.a 506 i ≤ 0 → Q 1 w) : wp_X1_hasLoan (G.P i) w Q := by
  have g : w.I 206 (G.P i) = S.a 506 i := h.get (k := 2) (f := 206) (r := 506) (by decide) hi
  refine ⟨h.kP hi, fun v hv => ⟨fun y => (y = 0 ∧ S.a 506 i ≤ 0) ∨ (y = 1 ∧ ¬ S.a 506 i ≤ 0), fun y hy => ?_, fun hc => Or.inl ⟨rfl, ?_⟩, fun hc => Or.inr ⟨rfl, ?_⟩⟩⟩
  · rcases hy with ⟨rfl, hy⟩ | ⟨rfl, hy⟩
    · exact ⟨Or.inl rfl, h1 hy⟩
    · exact ⟨Or.inr rfl, h2 hy⟩
  · rw [hv, g] at hc; exact hc
  · rw [hv, g] at hc; exact hc
/-- what a repayment pays -/
def rsome (d x : Int32) : Int32 := if d < x then d else x
theorem rsome_left {d x : Int32} (hd : ¬ d < 0) (hx : ¬ x < 1) (hp : ¬ d = 0) : (d - rsome d x = 0 ∨ 0 < d - rsome d x) ∧ rsome d x = if d ≤ x then d else x := by
  obtain ⟨a, ha, rfl⟩ := nI_of hd
  have hx0 : ¬ x < 0 := fun z => hx (by
    have : (0 : Int32) ≤ 1 := by decide
    exact Int32.lt_of_lt_of_le z this)
  obtain ⟨b, hb, rfl⟩ := nI_of hx0
  have hb1 : 1 ≤ b := by
    rcases Nat.eq_zero_or_pos b with e | e
    · subst e; exact absurd (by decide : nI 0 < 1) hx
    · exact e
  unfold rsome
  rcases Nat.lt_trichotomy a b with e | e | e
  · rw [if_pos (nI_lt e hb), if_pos (nI_le (by omega) hb), pk_sub (Nat.le_refl _), Nat.sub_self]
    exact ⟨Or.inl rfl, rfl⟩
  · subst e
    rw [if_neg (nI_nlt (Nat.le_refl _) hb), if_pos (nI_le (Nat.le_refl _) hb), pk_sub (Nat.le_refl _), Nat.sub_self]
    exact ⟨Or.inl rfl, rfl⟩
  · rw [if_neg (nI_nlt (by omega) ha), if_neg (nI_ge e ha), pk_sub (by omega)]
    exact ⟨Or.inr (nI_lt (a := 0) (by omega) (by omega)), rfl⟩
def frepay (S : MS) (i : Nat) (s : Int32) : MS := ((fpay (S.setS 500 0) i s).setS 528 (S.s 528 + s)).setA 506 i (S.a 506 i - s)
/-- what repay answers and does -/
def I_repay (S : MS) (x1 x2 : Int32) (r : Int32) (S' : MS) : Prop :=
  (S' = S.setS 500 1 ∧ (x1 < 0 ∨ nI (nP S) ≤ x1)) ∨ (S' = S.setS 500 2 ∧ (x2 < 1 ∨ ¬ x2 ≤ 10000)) ∨ (∃ i, i < nP S ∧ x1 = nI i ∧ S' = S.setS 500 3 ∧ (S.a 506 i = 0 ∨ ¬ rsome (S.a 506 i) x2 ≤ S.a 504 i)) ∨
  ∃ i, i < nP S ∧ x1 = nI i ∧ ¬ x2 < 1 ∧ x2 ≤ 10000 ∧ ¬ S.a 506 i = 0 ∧ rsome (S.a 506 i) x2 ≤ S.a 504 i ∧ S' = (frepay S i (rsome (S.a 506 i) x2)).setA 510 i (S.a 510 i + if S.a 506 i - rsome (S.a 506 i) x2 = 0 then 1 else 0)
theorem o_repay {w : Wd} {G : GH} {S : MS} {x1 x2 : Int32} (h : RC w G S S) (hI : SH S) (hD : ∀ i, i < nP S → ¬ S.a 506 i < 0) : OC w G S (fun Q => wp_L_repay (some G.x) x1 x2 (some G.o) w Q) (fun Q => sp_X4_repay x1 x2 S Q) (I_repay S x1 x2) := by
  have hn := hI.2.1
  rcases ix_p x1 hn with hx | ⟨i, hi, rfl⟩
  · refine ⟨1, 0, S.setS 500 1, G, rfl, Or.inl ⟨rfl, hx⟩, rfl, rfl, rfl, fun Q hQ => ?_, ?_⟩
    · exact ⟨G.x, rfl, h.kx, h.kx, k_personAt h hn (fun i hi e => absurd hx (by rw [e]; exact ix_ne hi hn)) (fun _ => Or.inl ⟨rfl, hQ w h.thrown (fun z => by cases z)⟩)⟩
    · exact m_isOne_n hI hx ⟨fun z => absurd rfl z, fun _ S30 h30 => ⟨fun _ => rfl, h30⟩⟩
  have hi16 : i < 16 := by omega
  by_cases hr : x2 < (1 : Int32) ∨ ¬ x2 ≤ 10000
  · refine ⟨2, 0, S.setS 500 2, G, rfl, Or.inr (Or.inl ⟨rfl, hr⟩), rfl, rfl, rfl, fun Q hQ => ?_, ?_⟩
    · refine ⟨G.x, rfl, h.kx, h.kx, k_personAt h hn (fun j hj e => k_range (fun a b => (hr.elim (fun z => a z) (fun z => z b)).elim) (fun _ => Or.inr (Or.inl ⟨rfl, hQ w h.thrown (fun z => by cases z)⟩))) (fun z => absurd z (ix_ne hi hn))⟩
    · refine m_isOne_y hI hi ⟨fun _ => ⟨i, rfl, hi16, fun v4 h4 => ⟨fun _ => True, fun y6 _ => ?_, fun _ => ⟨i, rfl, hi16, fun v41 h41 => trivial⟩, fun _ => trivial⟩⟩, fun z => by cases z⟩
      refine m_in_n (hr.imp_right i_le) ⟨fun y => y = 2, fun y hy S11 h11 v12 h12 => ?_, fun z => absurd rfl z, fun _ => rfl⟩
      subst hy h11 h12
      exact ⟨fun z => (by cases z), fun _ => ⟨fun z => (by cases z), rfl⟩⟩
  have r1 : ¬ x2 < (1 : Int32) := fun z => hr (Or.inl z)
  have r2 : x2 ≤ 10000 := Classical.byContradiction fun z => hr (Or.inr z)
  have g1 : w.I 204 (G.P i) = S.a 504 i := h.get (k := 2) (f := 204) (r := 504) (by decide) hi
  have g2 : w.I 206 (G.P i) = S.a 506 i := h.get (k := 2) (f := 206) (r := 506) (by decide) hi
  have hd0 := hD i hi
  have z0 : S.a 506 i ≤ 0 ↔ S.a 506 i = 0 := by
    obtain ⟨a, ha, e⟩ := nI_of hd0
    rw [e]
    exact ⟨fun z => by rw [show (0 : Int32) = nI 0 from rfl] at z ⊢; rw [nI_leI ha (by decide)] at z; rw [nI_eq ha (by decide)]; omega, fun z => by rw [z]; decide⟩
  by_cases hb : S.a 506 i = 0 ∨ ¬ rsome (S.a 506 i) x2 ≤ S.a 504 i
  · refine ⟨3, 0, S.setS 500 3, G, rfl, Or.inr (Or.inr (Or.inl ⟨i, hi, rfl, rfl, hb⟩)), rfl, rfl, rfl, fun Q hQ => ?_, ?_⟩
    · refine ⟨G.x, rfl, h.kx, h.kx, k_personAt h hn (fun j hj e => k_range (fun _ _ => ?_) (fun z => absurd z hr)) (fun z => absurd z (ix_ne hi hn))⟩
      obtain rfl : i = j := (nI_eq (by omega) (by omega)).mp e
      have fin : Q 3 w := hQ w h.thrown (fun z => by cases z)
      refine ⟨_, rfl, h.kP hi, fun v5 h5 v6 h6 => ⟨h.kP hi, k_hasLoan h hi (fun _ => ⟨True, fun _ => Or.inr (Or.inr ⟨rfl, fin⟩), fun _ => trivial, fun z => absurd rfl z⟩) (fun hp => ⟨True, fun _ => Or.inr (Or.inr ⟨rfl, fin⟩), fun _ => trivial, fun _ => ⟨h.kP hi, fun v10 h10 => ⟨fun a3 => ?_, fun _ => trivial⟩⟩⟩)⟩⟩
      rw [g1] at h10; rw [g2] at h5; subst h5 h6 h10
      exact (hb.elim (fun z => hp (z0.mpr z)) (fun z => z a3)).elim
    · refine m_isOne_y hI hi ⟨fun _ => ⟨i, rfl, hi16, fun v4 h4 => ⟨fun y => y = (if S.a 506 i ≤ x2 then S.a 506 i else x2), fun y6 hy6 => ?_, fun hc => ⟨i, rfl, hi16, fun v41 h41 => ?_⟩, fun hc => ?_⟩⟩, fun z => by cases z⟩
      · refine m_in_y r1 (i_nlt r2) ⟨fun y => y = 3, fun y hy S11 h11 v12 h12 => ?_, fun _ => ⟨i, rfl, hi16, fun v36 h36 => ⟨True, fun _ => rfl, fun _ => trivial, fun a1 => ⟨i, rfl, hi16, fun v39 h39 => ⟨fun a3 => ?_, fun _ => trivial⟩⟩⟩⟩, fun z => by cases z⟩
        · subst hy h11 h12
          exact ⟨fun z => (by cases z), fun _ => ⟨fun z => (by cases z), rfl⟩⟩
        · subst h36 h39
          rw [hy6, ← (rsome_left hd0 r1 a1).2] at a3
          exact (hb.elim (fun z => a1 z) (fun z => z a3)).elim
      · rw [h4] at hc; rw [h41, if_pos hc]
      · rw [h4] at hc; rw [if_neg hc]
  · have b1 : ¬ S.a 506 i = 0 := fun z => hb (Or.inl z)
    have b2 : rsome (S.a 506 i) x2 ≤ S.a 504 i := Classical.byContradiction fun z => hb (Or.inr z)
    obtain ⟨hl, hs⟩ := rsome_left hd0 r1 b1
    have hpos : ¬ S.a 506 i ≤ 0 := fun z => b1 (z0.mp z)
    obtain ⟨s, hs0⟩ : ∃ s, s = rsome (S.a 506 i) x2 := ⟨_, rfl⟩
    rw [← hs0] at hl hs b2
    refine ⟨0, S.a 506 i - s, (frepay S i s).setA 510 i (S.a 510 i + if S.a 506 i - s = 0 then 1 else 0), G, rfl, Or.inr (Or.inr (Or.inr ⟨i, hi, rfl, r1, r2, b1, by rw [← hs0]; exact b2, by rw [← hs0]⟩)), rfl, rfl, rfl, fun Q hQ => ?_, ?_⟩
    · refine ⟨G.x, rfl, h.kx, h.kx, k_personAt h hn (fun j hj e => k_range (fun _ _ => ?_) (fun z => absurd z hr)) (fun z => absurd z (ix_ne hi hn))⟩
      obtain rfl : i = j := (nI_eq (by omega) (by omega)).mp e
      refine ⟨_, rfl, h.kP hi, fun v5 h5 v6 h6 => ⟨h.kP hi, k_hasLoan h hi (fun z => absurd z hpos) (fun _ => ⟨False, fun z => z.elim, fun z => absurd z (by decide), fun _ => ⟨h.kP hi, fun v10 h10 => ⟨fun a3 => ?_, fun a3 => ?_⟩⟩⟩)⟩⟩
      · rw [g2] at h5; subst h5
        have h6' : v6 = s := by rw [h6, hs0]; rfl
        subst h6'
        refine ⟨h.kx, k_payFund (S := S.setS 500 0) h.thrown hi (fun w11 q => ⟨q.kP hi, fun v12 h12 v13 h13 => ⟨q.kP hi, fun w14 h14 => ?_⟩⟩)⟩
        have g3 : w11.I 206 (G.P i) = _ := q.get (k := 2) (f := 206) (r := 506) (by decide) hi
        have e6 : ((fpay (S.setS 500 0) i v6).setS 528 ((S.setS 500 0).s 528 + v6)).a 506 i = S.a 506 i := fpay_a (S := S.setS 500 0) (i := i) (v := v6) (r := 506) (j := i) (by decide) (by decide)
        rw [g3, e6] at h12; subst h12 h13
        have q14 : RC w14 G (frepay S i v6) S := by
          subst h14
          exact q.debt hi (fun _ => Or.inl (by rw [e6]; exact i_le hpos))
        have e7 : (frepay S i v6).a 506 i = S.a 506 i - v6 := a_e
        have e8 : (frepay S i v6).a 510 i = S.a 510 i := (a_f (by decide)).trans (fpay_a (S := S.setS 500 0) (i := i) (v := v6) (r := 510) (j := i) (by decide) (by decide))
        refine ⟨q14.kP hi, k_hasLoan q14 hi (fun z => ?_) (fun z => ?_)⟩
        · have hz : S.a 506 i - v6 = 0 := hl.elim id (fun p => by rw [e7] at z; exact absurd p (i_nlt z))
          rw [if_pos hz] at hQ
          refine ⟨_, fun w18 hj => hj, fun z => absurd rfl z, fun _ => ⟨q14.kP hi, fun v20 h20 v21 h21 => ⟨q14.kP hi, fun w22 h22 => ?_⟩⟩⟩
          have g4 : w14.I 210 (G.P i) = _ := q14.get (k := 2) (f := 210) (r := 510) (by decide) hi
          rw [g4, e8] at h20; subst h20 h21
          have q22 : RC w22 G ((frepay S i v6).setA 510 i (S.a 510 i + 1)) S := by
            subst h22; exact RC.set (k := 2) q14 (by decide) (by decide) (by decide) (by decide) hi
          refine ⟨q22.kP hi, fun v19 h19 => ?_⟩
          have g5 : w22.I 206 (G.P i) = _ := q22.get (k := 2) (f := 206) (r := 506) (by decide) hi
          rw [g5, a_f (by decide), e7] at h19; subst h19
          exact out_ok q22 (fun w1 q r => hQ w1 q (fun _ => r))
        · have hz : ¬ S.a 506 i - v6 = 0 := fun e => z (by rw [e7, e]; decide)
          rw [if_neg hz, Int32.add_zero, ← e8, setA_self] at hQ
          refine ⟨_, fun w18 hj => hj, fun _ => ⟨q14.kP hi, fun v19 h19 => ?_⟩, fun z => absurd z (by decide)⟩
          have g5 : w14.I 206 (G.P i) = _ := q14.get (k := 2) (f := 206) (r := 506) (by decide) hi
          rw [g5, e7] at h19; subst h19
          exact out_ok q14 (fun w1 q r => hQ w1 q (fun _ => r))
      · rw [g1] at h10; rw [g2] at h5; subst h5 h10
        rw [h6] at a3; rw [hs0] at b2; exact a3 b2
    · refine m_isOne_y hI hi ⟨fun _ => ⟨i, rfl, hi16, fun v4 h4 => ⟨fun y => y = s, fun y6 hy6 => ?_, fun hc => ⟨i, rfl, hi16, fun v41 h41 => ?_⟩, fun hc => ?_⟩⟩, fun z => by cases z⟩
      · subst hy6
        refine m_in_y r1 (i_nlt r2) ⟨fun y => y = 0, fun y hy S11 h11 v12 h12 => ?_, fun _ => ⟨i, rfl, hi16, fun v36 h36 => ⟨False, fun z => z.elim, fun a1 => b1 (by rw [← h36]; exact a1), fun a1 => ⟨i, rfl, hi16, fun v39 h39 => ⟨fun _ => rfl, fun a3 => a3 (by rw [h39]; exact b2)⟩⟩⟩⟩, fun z => by cases z⟩
        subst hy h11 h12
        refine ⟨fun _ => m_pays hi16 (fun v14 h14 v15 h15 S16 h16 => ⟨i, rfl, hi16, fun v18 h18 v19 h19 => ⟨i, rfl, hi16, fun S21 h21 => ⟨i, rfl, hi16, fun v23 h23 => ⟨i, rfl, hi16, fun v25 h25 => ?_⟩⟩⟩⟩), fun z => absurd rfl z⟩
        have e6 : S16.a 506 i = S.a 506 i := by subst h16; exact fpay_a (S := S.setS 500 0) (i := i) (v := y6) (r := 506) (j := i) (by decide) (by decide)
        rw [e6] at h18
        subst h14 h15 h18 h19
        have e9 : S21 = frepay S i y6 := by subst h21 h16; rfl
        have e7 : S21.a 506 i = S.a 506 i - y6 := by rw [h21]; exact a_e
        have e8 : S21.a 510 i = S.a 510 i := by rw [e9]; exact (a_f (by decide)).trans (fpay_a (S := S.setS 500 0) (i := i) (v := y6) (r := 510) (j := i) (by decide) (by decide))
        rw [e7] at h25; rw [e8] at h23
        refine ⟨fun a b c => a = nI i ∧ b = v23 ∧ c = (if S.a 506 i - y6 = 0 then 1 else 0), fun a b c hj v30 h30 => ?_, fun hc => ⟨rfl, rfl, by rw [h25] at hc; rw [if_neg hc]⟩, fun hc => ⟨rfl, rfl, by rw [h25] at hc; rw [if_pos hc]⟩⟩
        obtain ⟨rfl, rfl, rfl⟩ := hj
        refine ⟨i, rfl, hi16, fun S32 h32 => ⟨i, rfl, hi16, fun v34 h34 => ⟨fun _ => ?_, ?_⟩⟩⟩
        · rw [h34, h32, a_f (by decide), e7]
        · rw [h32, e9, h30, h23]
      · rw [h4] at hc; rw [h41, hs, if_pos hc]
      · rw [h4] at hc; rw [hs, if_neg hc]
