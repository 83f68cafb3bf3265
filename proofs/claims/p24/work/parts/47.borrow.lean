-- ===== borrowing, on both sides
def hasP (S : MS) (i : Nat) : Prop := S.a 512 i = 0 ∧ ¬ S.a 505 i ≤ 0
theorem k_hasShare {w : Wd} {G : GH} {S S0 : MS} {i : Nat} {Q : Int32 → Wd → Prop} (h : RC w G S S0) (hi : i < nP S) (hy : hasP S i → Q 1 w) (hn : ¬ hasP S i → Q 0 w) : wp_X1_hasShare (G.P i) w Q := by
  have g1 : w.I 212 (G.P i) = S.a 512 i := h.get (k := 2) (f := 212) (r := 512) (by decide) hi
  have g2 : w.I 205 (G.P i) = S.a 505 i := h.get (k := 2) (f := 205) (r := 505) (by decide) hi
  refine ⟨h.kP hi, fun v1 h1 => ⟨fun y => (y = 1 ∧ hasP S i) ∨ (y = 0 ∧ ¬ hasP S i), fun y hyy => ?_, ¬ hasP S i, fun z => Or.inr ⟨rfl, z⟩, fun z q => z (by rw [h1, g1]; exact q.1), fun z => ⟨h.kP hi, fun v5 h5 => ⟨fun z2 q => q.2 (by rw [← g2, ← h5]; exact z2), fun z2 => Or.inl ⟨rfl, by rw [← g1, ← h1]; exact z, by rw [← g2, ← h5]; exact z2⟩⟩⟩⟩⟩
  rcases hyy with ⟨rfl, q⟩ | ⟨rfl, q⟩
  · exact ⟨Or.inr rfl, hy q⟩
  · exact ⟨Or.inl rfl, hn q⟩
theorem m_has {S : MS} {i : Nat} {Q : Int32 → MS → Prop} (hi : i < 16) (hy : hasP S i → Q 1 S) (hn : ¬ hasP S i → Q 0 S) : sp_X4_has (nI i) S Q := by
  refine ⟨i, rfl, hi, fun v2 h2 => ⟨fun y => (y = 1 ∧ hasP S i) ∨ (y = 0 ∧ ¬ hasP S i), fun y hyy => ?_, ¬ hasP S i, fun z => Or.inr ⟨rfl, z⟩, fun z q => z (by rw [h2]; exact q.1), fun z => ⟨i, rfl, hi, fun v7 h7 => ⟨fun z2 q => q.2 (by rw [← h7]; exact z2), fun z2 => Or.inl ⟨rfl, by rw [← h2]; exact z, by rw [← h7]; exact z2⟩⟩⟩⟩⟩
  rcases hyy with ⟨rfl, q⟩ | ⟨rfl, q⟩
  · exact ⟨Or.inr rfl, hy q⟩
  · exact ⟨Or.inl rfl, hn q⟩
theorem setI_comm {w : Wd} {f g a b : Nat} {u v : Int32} (h : f ≠ g) : (w.setI f a u).setI g b v = (w.setI g b v).setI f a u := by
  have e : up2 (up2 w.I f a u) g b v = up2 (up2 w.I g b v) f a u := by
    funext x y
    unfold up2
    by_cases h1 : x = g ∧ y = b
    · have h2 : ¬ (x = f ∧ y = a) := fun z => h (z.1.symm.trans h1.1)
      simp only [if_pos h1, if_neg h2]
    · by_cases h2 : x = f ∧ y = a
      · simp only [if_neg h1, if_pos h2]
      · simp only [if_neg h1, if_neg h2]
  show (w.K, up2 (up2 w.I f a u) g b v, w.R, w.N, w.A, w.O, w.J) = (w.K, up2 (up2 w.I g b v) f a u, w.R, w.N, w.A, w.O, w.J)
  rw [e]
def floan (S : MS) (p : Nat) (x : Int32) (a b : Nat) : MS := (((S.setA 507 p 0).setA 508 p (nI a)).setA 509 p (nI b)).setA 506 p x
theorem floan_Nm {S : MS} {p a b : Nat} {x : Int32} : Nm S (floan S p x a b) := (((Nm.rf.st (by decide)).st (by decide)).st (by decide)).st (by decide)
theorem k_takeLoan {w : Wd} {G : GH} {S S0 : MS} {p a b : Nat} {x : Int32} {Q : Wd → Prop} (h : RC w G S S0) (hp : p < nP S) (ha : a < nP S) (hb : b < nP S) (hd : ¬ 0 < S.a 506 p) (hQ : ∀ w1, RC w1 G (fpay (floan S p x a b) p (-x)) S0 → Q w1) : wp_X1_takeLoan (G.P p) x (some (G.P a)) (some (G.P b)) w Q := by
  have k := h.kP hp
  refine ⟨k, fun w1 h1 => ⟨by rw [h1]; exact k, fun w2 h2 => ⟨by rw [h2, h1]; exact k, fun w3 h3 => ⟨by rw [h3, h2, h1]; exact k, fun w4 h4 => ?_⟩⟩⟩⟩
  have q1 : RC (w.setI 207 (G.P p) 0) G S S0 := h.loanI hp hd
  have q2 : RC ((w.setI 207 (G.P p) 0).setR 208 (G.P p) (some (G.P a))) G S S0 := q1.loanR (Or.inl rfl) hp hd
  have q3 : RC (((w.setI 207 (G.P p) 0).setR 208 (G.P p) (some (G.P a))).setR 209 (G.P p) (some (G.P b))) G S S0 := q2.loanR (Or.inr rfl) hp hd
  obtain ⟨u, hu⟩ : ∃ u, u = ((w.setI 207 (G.P p) 0).setR 208 (G.P p) (some (G.P a))).setR 209 (G.P p) (some (G.P b)) := ⟨_, rfl⟩
  rw [← hu] at q3
  have q6 : RC u G (((S.setA 507 p 0).setA 508 p (nI a)).setA 509 p (nI b)) S0 := by
    refine RC.loanS (Or.inr (Or.inr rfl)) (RC.loanS (Or.inr (Or.inl rfl)) (RC.loanS (Or.inl rfl) q3 hd) ?_) ?_
    · rw [a_f (by decide)]; exact hd
    · rw [a_f (by decide), a_f (by decide)]; exact hd
  have e4 : w4 = u.setI 206 (G.P p) x := by
    rw [h4, h3, h2, h1, hu, setI_comm (by decide)]; rfl
  have q7 : RC w4 G (floan S p x a b) S0 := by
    rw [e4]
    refine q6.debt hp (fun _ => Or.inr ⟨?_, a, b, ha, hb, ?_, ?_, ?_, ?_⟩)
    · rw [a_f (by decide), a_f (by decide), a_e, hu]; exact I_e
    · rw [a_f (by decide), a_e]
    · rw [a_e]
    · rw [hu, R_f (by decide)]; exact R_e
    · rw [hu]; exact R_e
  have hp' : p < nP (floan S p x a b) := by rw [floan_Nm.p]; exact hp
  exact ⟨q7.kP hp', k_getOut q7 hp' (fun w5 q5 => hQ w5 q5)⟩
def fborrow (S : MS) (p : Nat) (x : Int32) (a b : Nat) : MS := (fpay (floan (S.setS 500 0) p x a b) p (-x)).setS 528 (S.s 528 - x)
theorem fborrow_ref {T : MS} {p a b : Nat} {x : Int32} : (((fpay T p (-x)).setA 506 p x).setA 507 p 0 |>.setA 508 p (nI a)).setA 509 p (nI b) = fpay (floan T p x a b) p (-x) := by
  have e4 : (floan T p x a b).a 504 p = T.a 504 p := by unfold floan; rw [a_f (by decide), a_f (by decide), a_f (by decide), a_f (by decide)]
  have e11 : (floan T p x a b).a 511 p = T.a 511 p := by unfold floan; rw [a_f (by decide), a_f (by decide), a_f (by decide), a_f (by decide)]
  unfold fpay
  rw [e4, e11]
  unfold floan
  rw [setA_comm (r := 506) (r' := 507) (by decide), setA_comm (r := 506) (r' := 508) (by decide), setA_comm (r := 506) (r' := 509) (by decide), setA_comm (r := 511) (r' := 507) (by decide), setA_comm (r := 511) (r' := 508) (by decide), setA_comm (r := 511) (r' := 509) (by decide), setA_comm (r := 511) (r' := 506) (by decide), setA_comm (r := 504) (r' := 507) (by decide), setA_comm (r := 504) (r' := 508) (by decide), setA_comm (r := 504) (r' := 509) (by decide), setA_comm (r := 504) (r' := 506) (by decide)]
theorem z_bm {n : Int} (h1 : -2147483648 ≤ n) (h2 : n < 2147483648) : n.bmod (2 ^ 32) = n := Int.bmod_eq_of_le_mul_two (by omega) (by omega)
theorem z_add {x y : Int32} (h1 : -2147483648 ≤ x.toInt + y.toInt) (h2 : x.toInt + y.toInt < 2147483648) : (x + y).toInt = x.toInt + y.toInt := by rw [Int32.toInt_add, z_bm h1 h2]
theorem z_sub {x y : Int32} (h1 : -2147483648 ≤ x.toInt - y.toInt) (h2 : x.toInt - y.toInt < 2147483648) : (x - y).toInt = x.toInt - y.toInt := by rw [Int32.toInt_sub, z_bm h1 h2]
theorem z_mul {x y : Int32} (h1 : -2147483648 ≤ x.toInt * y.toInt) (h2 : x.toInt * y.toInt < 2147483648) : (x * y).toInt = x.toInt * y.toInt := by rw [Int32.toInt_mul, z_bm h1 h2]
theorem z_neg {x : Int32} (h : -2147483648 < x.toInt) (h2 : x.toInt ≤ 2147483647) : (-x).toInt = -x.toInt := by rw [Int32.toInt_neg, z_bm (by omega) (by omega)]
theorem z_lo (x : Int32) : -2147483648 ≤ x.toInt := by have := Int32.le_toInt x; omega
theorem z_hi (x : Int32) : x.toInt < 2147483648 := by have := Int32.toInt_lt x; omega
/-- the debts of i's house -/
def hdeb (S : MS) (i : Nat) : Int32 := hcnt S i (fun k => S.a 506 k) (nP S)
theorem may_iff {A H x : Int32} (h0 : 0 ≤ H.toInt) (h1 : H.toInt < 2 ^ 30) (x0 : ¬ x < 1) (x1 : x ≤ 1000) : (if 500 - H < A then 500 - H else A) < x ↔ A < x ∨ 500 < H + x := by
  have k1000 : (1000 : Int32).toInt = 1000 := by decide
  have k1 : (1 : Int32).toInt = 1 := by decide
  have hx1 : x.toInt ≤ 1000 := by rw [← k1000]; exact Int32.le_iff_toInt_le.mp x1
  have hx0 : 1 ≤ x.toInt := by rw [← k1]; exact Int32.le_iff_toInt_le.mp (i_nle x0)
  have e5 : (500 : Int32).toInt = 500 := by decide
  have s1 : (500 - H).toInt = 500 - H.toInt := by rw [z_sub (by omega) (by omega), e5]
  have s2 : (H + x).toInt = H.toInt + x.toInt := z_add (by omega) (by omega)
  by_cases c : 500 - H < A
  · rw [if_pos c, Int32.lt_iff_toInt_lt, Int32.lt_iff_toInt_lt, Int32.lt_iff_toInt_lt, s1, s2, e5]
    rw [Int32.lt_iff_toInt_lt, s1] at c
    omega
  · rw [if_neg c, Int32.lt_iff_toInt_lt, Int32.lt_iff_toInt_lt, s2, e5]
    rw [Int32.lt_iff_toInt_lt, s1] at c
    omega
/-- what borrow answers and does -/
def I_borrow (S : MS) (x1 x2 x3 x4 : Int32) (r : Int32) (S' : MS) : Prop :=
  (S' = S.setS 500 1 ∧ ((x1 < 0 ∨ nI (nP S) ≤ x1) ∨ (x3 < 0 ∨ nI (nP S) ≤ x3) ∨ (x4 < 0 ∨ nI (nP S) ≤ x4))) ∨ (∃ p a b, p < nP S ∧ a < nP S ∧ b < nP S ∧ x1 = nI p ∧ x3 = nI a ∧ x4 = nI b ∧ S' = S.setS 500 2 ∧ ((p = a ∨ p = b ∨ a = b) ∨ x2 < (1 : Int32) ∨ ¬ x2 ≤ 1000)) ∨ (∃ p a b, p < nP S ∧ a < nP S ∧ b < nP S ∧ x1 = nI p ∧ x3 = nI a ∧ x4 = nI b ∧ S' = S.setS 500 3 ∧ ¬ (hasP S p ∧ hasP S a ∧ hasP S b ∧ S.a 506 p = 0 ∧ ¬ 50 * (1 + S.a 510 p) < x2 ∧ ¬ 500 < hdeb S p + x2 ∧ x2 ≤ S.s 528)) ∨
  ∃ p a b, p < nP S ∧ a < nP S ∧ b < nP S ∧ x1 = nI p ∧ x3 = nI a ∧ x4 = nI b ∧ ¬ x2 < 1 ∧ x2 ≤ 1000 ∧ hasP S p ∧ hasP S a ∧ hasP S b ∧ S.a 506 p = 0 ∧ ¬ 50 * (1 + S.a 510 p) < x2 ∧ ¬ 500 < hdeb S p + x2 ∧ x2 ≤ S.s 528 ∧ S' = fborrow S p x2 a b
theorem o_borrow {w : Wd} {G : GH} {S : MS} {x1 x2 x3 x4 : Int32} (h : RC w G S S) (hI : SH S) (hD : ∀ i, i < nP S → ¬ S.a 506 i < 0) (hH : ∀ i, i < nP S → 0 ≤ (hdeb S i).toInt ∧ (hdeb S i).toInt < 2 ^ 30) : OX w G S (fun Q => wp_L_borrow (some G.x) x1 x2 x3 x4 (some G.o) w Q) (fun Q => sp_X4_borrow x1 x2 x3 x4 S Q) (I_borrow S x1 x2 x3 x4) := by
  have hn := hI.2.1
  have er : ∀ k : Int32, k ≠ 0 → ∀ (P : Prop) (v7 : Int32), v7 = (S.setS 500 k).s 500 → (v7 = 0 → P) ∧ (¬ v7 = 0 → (k = 0 → (0 : Int32) = 0) ∧ S.setS 500 k = S.setS 500 k) :=
    fun k hk P v7 h7 => ⟨fun z => absurd (show k = 0 from h7.symm.trans z) hk, fun _ => ⟨fun z => absurd z hk, rfl⟩⟩
  rcases ix_p x1 hn with hx | ⟨p, hp, rfl⟩
  · refine ⟨1, 0, S.setS 500 1, rfl, Or.inl ⟨rfl, Or.inl hx⟩, fun Q hQ => ?_, ?_⟩
    · exact ⟨G.x, rfl, h.kx, h.kx, k_personAt h hn (fun i hi e => absurd hx (by rw [e]; exact ix_ne hi hn)) (fun _ => Or.inl ⟨rfl, hQ w G rfl rfl rfl h.thrown (fun z => by cases z)⟩)⟩
    · refine m_isOne_n hI hx ⟨fun y S5 => y = 1 ∧ S5 = S, fun y S5 hy S6 h6 v7 h7 => ?_, fun S42 => S42 = S, fun S42 hs => ⟨rfl, hs⟩, fun _ => rfl, fun z => absurd rfl z⟩
      obtain ⟨rfl, rfl⟩ := hy
      subst h6
      exact er 1 (by decide) _ _ h7
  have hp16 : p < 16 := by omega
  rcases ix_p x3 hn with hx | ⟨a, ha, rfl⟩
  · refine ⟨1, 0, S.setS 500 1, rfl, Or.inl ⟨rfl, Or.inr (Or.inl hx)⟩, fun Q hQ => ?_, ?_⟩
    · exact ⟨G.x, rfl, h.kx, h.kx, k_personAt h hn (fun j hj e => ⟨h.kx, k_personAt h hn (fun i hi e => absurd hx (by rw [e]; exact ix_ne hi hn)) (fun _ => Or.inl ⟨rfl, hQ w G rfl rfl rfl h.thrown (fun z => by cases z)⟩)⟩) (fun z => absurd z (ix_ne hp hn))⟩
    · refine m_isOne_y hI hp ⟨fun y S5 => y = 1 ∧ S5 = S, fun y S5 hy S6 h6 v7 h7 => ?_, fun S42 => S42 = S, fun S42 hs => ⟨rfl, hs⟩, fun z => absurd z (by decide), fun _ => m_isOne_n hI hx ⟨fun _ => rfl, fun z => absurd rfl z⟩⟩
      obtain ⟨rfl, rfl⟩ := hy
      subst h6
      exact er 1 (by decide) _ _ h7
  have ha16 : a < 16 := by omega
  rcases ix_p x4 hn with hx | ⟨b, hb, rfl⟩
  · refine ⟨1, 0, S.setS 500 1, rfl, Or.inl ⟨rfl, Or.inr (Or.inr hx)⟩, fun Q hQ => ?_, ?_⟩
    · exact ⟨G.x, rfl, h.kx, h.kx, k_personAt h hn (fun j hj e => ⟨h.kx, k_personAt h hn (fun j2 hj2 e2 => ⟨h.kx, k_personAt h hn (fun i hi e => absurd hx (by rw [e]; exact ix_ne hi hn)) (fun _ => Or.inl ⟨rfl, hQ w G rfl rfl rfl h.thrown (fun z => by cases z)⟩)⟩) (fun z => absurd z (ix_ne ha hn))⟩) (fun z => absurd z (ix_ne hp hn))⟩
    · refine m_isOne_y hI hp ⟨fun y S5 => y = 1 ∧ S5 = S, fun y S5 hy S6 h6 v7 h7 => ?_, fun S42 => S42 = S, fun S42 hs => ⟨rfl, hs⟩, fun z => absurd z (by decide), fun _ => m_isOne_y hI ha ⟨fun z => absurd z (by decide), fun _ => m_isOne_n hI hx ⟨fun z => absurd rfl z, fun _ => rfl⟩⟩⟩
      obtain ⟨rfl, rfl⟩ := hy
      subst h6
      exact er 1 (by decide) _ _ h7
  have hb16 : b < 16 := by omega
  -- the class's and the reference's walk to where the numbers are persons
  have cls : ∀ (Q : Int32 → Wd → Prop), (∃ J7 : Prop, (J7 → ("java/lang/IllegalArgumentException" = "java/lang/IndexOutOfBoundsException" ∧ Q (1 : Int32) w) ∨ ("java/lang/IllegalArgumentException" = "java/lang/IllegalArgumentException" ∧ Q (2 : Int32) w) ∨ ("java/lang/IllegalArgumentException" = "java/lang/IllegalStateException" ∧ Q (3 : Int32) w)) ∧ True) → True := fun _ _ => trivial
  by_cases hr : (p = a ∨ p = b ∨ a = b) ∨ x2 < (1 : Int32) ∨ ¬ x2 ≤ 1000
  · refine ⟨2, 0, S.setS 500 2, rfl, Or.inr (Or.inl ⟨p, a, b, hp, ha, hb, rfl, rfl, rfl, rfl, hr⟩), fun Q hQ => ?_, ?_⟩
    · have fin : Q 2 w := hQ w G rfl rfl rfl h.thrown (fun z => by cases z)
      refine ⟨G.x, rfl, h.kx, h.kx, k_personAt h hn (fun j hj e => ⟨h.kx, k_personAt h hn (fun j2 hj2 e2 => ⟨h.kx, k_personAt h hn (fun j3 hj3 e3 => ?_) (fun z => absurd z (ix_ne hb hn))⟩) (fun z => absurd z (ix_ne ha hn))⟩) (fun z => absurd z (ix_ne hp hn))⟩
      refine ⟨True, fun _ => Or.inr (Or.inl ⟨rfl, fin⟩), fun _ => trivial, fun z1 => ⟨fun _ => trivial, fun z2 => ⟨fun z3 => k_range (fun u v => ?_) (fun _ => Or.inr (Or.inl ⟨rfl, fin⟩)), fun _ => trivial⟩⟩⟩
      exact (hr.elim (fun q => q.elim (fun q => z1 (by rw [q])) (fun q => q.elim (fun q => z2 (by rw [q])) (fun q => z3 (by rw [q])))) (fun q => q.elim (fun q => u q) (fun q => q v))).elim
    · refine m_isOne_y hI hp ⟨fun y S5 => y = 2 ∧ S5 = S, fun y S5 hy S6 h6 v7 h7 => ?_, fun S42 => False, fun S42 hs => hs.elim, fun z => absurd z (by decide), fun _ => m_isOne_y hI ha ⟨fun z => absurd z (by decide), fun _ => m_isOne_y hI hb ⟨fun _ => ⟨fun S58 => S58 = S, fun S58 hs => ⟨rfl, hs⟩, fun _ => rfl, fun z1 => ⟨fun _ => rfl, fun z2 => ⟨fun _ => rfl, fun z3 => m_in_n (Or.imp_right i_le ?_) ⟨fun z => absurd rfl z, fun _ => rfl⟩⟩⟩⟩, fun z => absurd z (by decide)⟩⟩⟩
      · obtain ⟨rfl, rfl⟩ := hy
        subst h6
        exact er 2 (by decide) _ _ h7
      · exact hr.elim (fun q => (q.elim (fun q => z1 (by rw [q])) (fun q => q.elim (fun q => z2 (by rw [q])) (fun q => z3 (by rw [q])))).elim) (fun q => q)
  have n1 : ¬ nI p = nI a := fun z => hr (Or.inl (Or.inl ((nI_eq (by omega) (by omega)).mp z)))
  have n2 : ¬ nI p = nI b := fun z => hr (Or.inl (Or.inr (Or.inl ((nI_eq (by omega) (by omega)).mp z))))
  have n3 : ¬ nI a = nI b := fun z => hr (Or.inl (Or.inr (Or.inr ((nI_eq (by omega) (by omega)).mp z))))
  have r1 : ¬ x2 < (1 : Int32) := fun z => hr (Or.inr (Or.inl z))
  have r2 : x2 ≤ 1000 := Classical.byContradiction fun z => hr (Or.inr (Or.inr z))
  have r3 : ¬ (x2 < (1 : Int32) ∨ ¬ x2 ≤ 1000) := fun z => hr (Or.inr z)
  have dp := hD p hp
  have hmay := may_iff (A := 50 * (1 + S.a 510 p)) (hH p hp).1 (hH p hp).2 r1 r2
  have g10 : w.I 210 (G.P p) = S.a 510 p := h.get (k := 2) (f := 210) (r := 510) (by decide) hp
  have g28 : w.I 402 G.x = S.s 528 := h.2.2.2.2.1.2.1
  have walk : ∀ (Q : Int32 → Wd → Prop), (Q (3 : Int32) w ∨ (hasP S p ∧ hasP S a ∧ hasP S b ∧ S.a 506 p = 0 ∧ ¬ 50 * (1 + S.a 510 p) < x2 ∧ ¬ 500 < hdeb S p + x2 ∧ x2 ≤ S.s 528)) → (hasP S p → hasP S a → hasP S b → S.a 506 p = 0 → ¬ (50 * (1 + S.a 510 p) < x2 ∨ 500 < hdeb S p + x2) → x2 ≤ S.s 528 → w.K (G.P p) = 2 ∧ wp_X1_takeLoan (G.P p) x2 (some (G.P a)) (some (G.P b)) w (fun w27 => w27.K G.x = 4 ∧ ∀ v28 : Int32, v28 = w27.I 402 G.x → ∀ v29 : Int32, v29 = v28 - x2 → w27.K G.x = 4 ∧ ∀ w30 : Wd, w30 = w27.setI 402 G.x v29 → w30.K (G.P p) = 2 ∧ ∀ v31 : Int32, v31 = w30.I 204 (G.P p) → ∃ a5, some G.o = some a5 ∧ True ∧ ∃ j6 : Nat, (0 : Int32) = nI j6 ∧ j6 = 0 ∧ True ∧ ∀ w7 : Wd, w7 = w30.setJ a5 j6 v31.toInt64 → Q (0 : Int32) w7)) → wp_L_borrow (some G.x) (nI p) x2 (nI a) (nI b) (some G.o) w Q := fun Q hor hgo => by
    have no : ∀ {P : Prop}, ¬ (hasP S p ∧ hasP S a ∧ hasP S b ∧ S.a 506 p = 0 ∧ ¬ 50 * (1 + S.a 510 p) < x2 ∧ ¬ 500 < hdeb S p + x2 ∧ x2 ≤ S.s 528) → ("java/lang/IllegalStateException" = "java/lang/IndexOutOfBoundsException" ∧ Q (1 : Int32) w) ∨ ("java/lang/IllegalStateException" = "java/lang/IllegalArgumentException" ∧ Q (2 : Int32) w) ∨ ("java/lang/IllegalStateException" = "java/lang/IllegalStateException" ∧ Q (3 : Int32) w) := fun z => Or.inr (Or.inr ⟨rfl, hor.resolve_right z⟩)
    have no := @no True
    refine ⟨G.x, rfl, h.kx, h.kx, k_personAt h hn (fun j hj e => ⟨h.kx, k_personAt h hn (fun j2 hj2 e2 => ⟨h.kx, k_personAt h hn (fun j3 hj3 e3 => ?_) (fun z => absurd z (ix_ne hb hn))⟩) (fun z => absurd z (ix_ne ha hn))⟩) (fun z => absurd z (ix_ne hp hn))⟩
    obtain rfl : p = j := (nI_eq (by omega) (by omega)).mp e
    obtain rfl : a = j2 := (nI_eq (by omega) (by omega)).mp e2
    obtain rfl : b = j3 := (nI_eq (by omega) (by omega)).mp e3
    refine ⟨False, fun z => z.elim, fun z => n1 z, fun _ => ⟨fun z => n2 z, fun _ => ⟨fun _ => k_range (fun _ _ => ⟨_, rfl, h.kP hp, k_hasShare h hp (fun s1 => ⟨fun w13 => w13 = w ∧ ¬ (hasP S p ∧ hasP S a ∧ hasP S b), fun w13 hj => ?_, fun z => absurd z (by decide), fun _ => ⟨_, rfl, h.kP ha, k_hasShare h ha (fun s2 => ⟨fun z => absurd z (by decide), fun _ => ⟨_, rfl, h.kP hb, k_hasShare h hb (fun s3 => ⟨fun _ => ⟨h.kP hp, k_hasLoan h hp (fun l1 => ⟨fun w23 => w23 = w ∧ ((50 * (1 + S.a 510 p) < x2 ∨ 500 < hdeb S p + x2) ∨ ¬ x2 ≤ S.s 528), fun w23 hj => ?_, fun z => absurd rfl z, fun _ => ⟨h.kx, _, rfl, h.kP hp, fun v2 h2 v3 h3 v4 h4 => ⟨h.kx, k_houseDebts h hn hp (fun v7 h7 v8 h8 => ⟨fun z => ⟨rfl, Or.inl ?_⟩, fun z => ⟨h.kx, fun v26 h26 => ⟨fun z2 => ?_, fun z2 => ⟨rfl, Or.inr ?_⟩⟩⟩⟩)⟩⟩⟩) (fun l1 => ⟨fun w23 => w23 = w, fun w23 hj => ?_, fun _ => rfl, fun z => absurd z (by decide)⟩)⟩, fun z => absurd z (by decide)⟩) (fun s3 => ⟨fun z => absurd rfl z, fun _ => ⟨rfl, fun q => s3 q.2.2⟩⟩)⟩⟩) (fun s2 => ⟨fun _ => ⟨rfl, fun q => s2 q.2.1⟩, fun z => absurd rfl z⟩)⟩⟩) (fun s1 => ⟨fun w13 => w13 = w, fun w13 hj => by subst hj; exact no (fun q => s1 q.1), fun _ => rfl, fun z => absurd rfl z⟩)⟩) (fun z => absurd z r3), fun z => n3 z⟩⟩⟩
    · obtain ⟨rfl, hj⟩ := hj
      exact no (fun q => hj ⟨q.1, q.2.1, q.2.2.1⟩)
    · obtain ⟨rfl, hj⟩ := hj
      exact no (fun q => hj.elim (fun z => z.elim q.2.2.2.2.1 q.2.2.2.2.2.1) (fun z => z q.2.2.2.2.2.2))
    · rw [h8, h7, h4, h3, h2, g10] at z
      exact hmay.mp z
    · rw [h8, h7, h4, h3, h2, g10] at z
      rw [h26, g28] at z2
      exact hgo s1 s2 s3 ((ge0 dp).mp l1) (fun q => z (hmay.mpr q)) z2
    · rw [h26, g28] at z2; exact z2
    · subst hj
      exact no (fun q => l1 (by rw [q.2.2.2.1]; decide))
  have mh : ∀ {Q : Int32 → MS → Prop} {T : MS}, T = S.setS 500 0 → Q (hdeb S p) T → sp_X4_house (nI p) (1 : Int32) T Q := fun {Q T} hT hq => by
    subst hT
    refine m_house (S := S.setS 500 0) hI hp ?_
    have e : hcnt (S.setS 500 0) p (fun k => if (1 : Int32) = 0 then 1 else (S.setS 500 0).a 506 k) (nP (S.setS 500 0)) = hdeb S p := by
      rw [hcnt_setS]
      have e2 : (fun k => if (1 : Int32) = 0 then 1 else (S.setS 500 0).a 506 k) = fun k => S.a 506 k := by
        funext k; rw [if_neg (by decide)]; rfl
      rw [e2]; rfl
    rw [e]; exact hq
  by_cases hb' : hasP S p ∧ hasP S a ∧ hasP S b ∧ S.a 506 p = 0 ∧ ¬ 50 * (1 + S.a 510 p) < x2 ∧ ¬ 500 < hdeb S p + x2 ∧ x2 ≤ S.s 528
  · obtain ⟨b1, b2, b3, b4, b5, b6, b7⟩ := hb'
    obtain ⟨T, hT⟩ : ∃ T, T = S.setS 500 0 := ⟨_, rfl⟩
    have hnd : ¬ 0 < S.a 506 p := fun z => by rw [b4] at z; exact absurd z (by decide)
    have efb : fborrow S p x2 a b = (fpay (floan T p x2 a b) p (-x2)).setS 528 (S.s 528 - x2) := by rw [hT]; rfl
    have N : Nm S (fpay (floan T p x2 a b) p (-x2)) := by rw [hT]; exact fpay_Nm ((Nm.rf.ss (by decide)).tr floan_Nm)
    have hpf : p < nP (fpay (floan T p x2 a b) p (-x2)) := by rw [N.p]; exact hp
    have hthr : (fborrow S p x2 a b).s 500 = 0 := by rw [efb, s_f (by decide), hT]; rfl
    have e504 : (fborrow S p x2 a b).a 504 p = S.a 504 p + x2 := by
      rw [efb, setS_a]
      unfold fpay
      rw [a_f (by decide), a_e, hT]
      unfold floan
      rw [a_f (by decide), a_f (by decide), a_f (by decide), a_f (by decide), i_subneg]; rfl
    refine ⟨0, S.a 504 p + x2, fborrow S p x2 a b, hthr, Or.inr (Or.inr (Or.inr ⟨p, a, b, hp, ha, hb, rfl, rfl, rfl, r1, r2, b1, b2, b3, b4, b5, b6, b7, rfl⟩)), fun Q hQ => walk Q (Or.inr ⟨b1, b2, b3, b4, b5, b6, b7⟩) (fun _ _ _ _ _ _ => ?_), ?_⟩
    · refine ⟨h.kP hp, k_takeLoan (S := S.setS 500 0) h.thrown hp ha hb hnd (fun w27 q27 => ?_)⟩
      rw [← hT] at q27
      have g : w27.I 402 G.x = S.s 528 := q27.2.2.2.2.1.2.1.trans (by rw [hT]; rfl)
      refine ⟨q27.kx, fun v28 h28 v29 h29 => ⟨q27.kx, fun w30 h30 => ?_⟩⟩
      have q30 : RC w30 G (fborrow S p x2 a b) S := by
        rw [efb, h30, h29, h28, g]; exact q27.fund
      have hp30 : p < nP (fborrow S p x2 a b) := by rw [efb]; exact hpf
      refine ⟨q30.kP hp30, fun v31 h31 => ?_⟩
      have g31 : w30.I 204 (G.P p) = _ := q30.get (k := 2) (f := 204) (r := 504) (by decide) hp30
      rw [h31, g31, e504]
      exact out_ok q30 (fun w1 q r => hQ w1 G rfl rfl rfl q (fun _ => r))
    · refine m_isOne_y hI hp ⟨fun y S5 => y = 0 ∧ S5 = S, fun y S5 hy S6 h6 v7 h7 => ?_, fun S42 => False, fun S42 hs => hs.elim, fun z => absurd z (by decide), fun _ => m_isOne_y hI ha ⟨fun z => absurd z (by decide), fun _ => m_isOne_y hI hb ⟨fun _ => ⟨fun S58 => False, fun S58 hs => hs.elim, fun z => n1 z, fun _ => ⟨fun z => n2 z, fun _ => ⟨fun z => n3 z, fun _ => m_in_y r1 (i_nlt r2) ⟨fun _ => ⟨rfl, rfl⟩, fun z => absurd z (by decide)⟩⟩⟩⟩, fun z => absurd z (by decide)⟩⟩⟩
      obtain ⟨rfl, rfl⟩ := hy
      rw [← hT] at h6
      rw [h6] at h7 ⊢
      have h7 : v7 = 0 := by rw [h7, hT]; rfl
      have hs : ∀ i, hasP S5 i → hasP T i := fun i hi => by rw [hT]; exact hi
      refine ⟨fun _ => m_has hp16 (fun _ => ⟨fun y S12 => y = 1 ∧ S12 = T, fun y11 S12 hj => ?_, fun S44 => False, fun S44 hs => hs.elim, fun z => absurd z (by decide), fun _ => m_has ha16 (fun _ => ⟨fun z => absurd z (by decide), fun _ => m_has hb16 (fun _ => ⟨fun z => absurd z (by decide), fun _ => ⟨p, rfl, hp16, fun v50 h50 => ⟨fun z => z (by rw [h50, hT]; exact b4), fun _ => ⟨rfl, rfl⟩⟩⟩⟩) (fun z => absurd (hs _ b3) z)⟩) (fun z => absurd (hs _ b2) z)⟩) (fun z => absurd (hs _ b1) z), fun z => absurd h7 z⟩
      obtain ⟨rfl, rfl⟩ := hj
      refine ⟨fun y S15 => y = 0 ∧ S15 = S12, fun y14 S15 hj S16 h16 v17 h17 => ?_, fun S34 => False, fun S34 hs => hs.elim, fun z => absurd z (by decide), fun _ => ⟨p, rfl, hp16, fun v36 h36 v37 h37 v38 h38 => ⟨fun z => ?_, fun _ => mh hT (fun v41 h41 => ⟨fun z => ?_, fun _ v42 h42 => ⟨fun _ => ⟨rfl, rfl⟩, fun z => ?_⟩⟩)⟩⟩⟩
      · obtain ⟨rfl, rfl⟩ := hj
        have e16 : S16 = S15 := by rw [h16, hT]; exact setS_idem
        rw [e16] at h17 ⊢
        have h17 : v17 = 0 := by rw [h17, hT]; rfl
        refine ⟨fun _ v18 h18 => m_pays hp16 (fun v20 h20 v21 h21 S22 h22 => ⟨p, rfl, hp16, fun S24 h24 => ⟨p, rfl, hp16, fun S26 h26 => ⟨p, rfl, hp16, fun S28 h28 => ⟨p, rfl, hp16, fun S30 h30 => ⟨p, rfl, hp16, fun v32 h32 => ?_⟩⟩⟩⟩⟩), fun z => absurd h17 z⟩
        have e20 : v20 = S5.s 528 := by rw [h20, hT]; rfl
        have e30 : S30 = fborrow S5 p x2 a b := by
          rw [efb, ← fborrow_ref, h30, h28, h26, h24, h22, h21, e20, h18]; rfl
        exact ⟨fun _ => by rw [h32, e30]; exact e504, e30⟩
      · rw [h38, h37, h36, hT] at z; exact absurd z b5
      · rw [h41] at z; exact absurd z b6
      · rw [h42, hT] at z; exact absurd b7 z
  · refine ⟨3, 0, S.setS 500 3, rfl, Or.inr (Or.inr (Or.inl ⟨p, a, b, hp, ha, hb, rfl, rfl, rfl, rfl, hb'⟩)), fun Q hQ => walk Q (Or.inl (hQ w G rfl rfl rfl h.thrown (fun z => by cases z))) (fun a1 a2 a3 a4 a5 a6 => absurd ⟨a1, a2, a3, a4, fun z => a5 (Or.inl z), fun z => a5 (Or.inr z), a6⟩ hb'), ?_⟩
    obtain ⟨T, hT⟩ : ∃ T, T = S.setS 500 0 := ⟨_, rfl⟩
    have hs : ∀ i, hasP T i → hasP S i := fun i hi => by rw [hT] at hi; exact hi
    have T3 : T.setS 500 3 = S.setS 500 3 := by rw [hT]; exact setS_idem
    refine m_isOne_y hI hp ⟨fun y S5 => y = 0 ∧ S5 = S, fun y S5 hy S6 h6 v7 h7 => ?_, fun S42 => False, fun S42 hs => hs.elim, fun z => absurd z (by decide), fun _ => m_isOne_y hI ha ⟨fun z => absurd z (by decide), fun _ => m_isOne_y hI hb ⟨fun _ => ⟨fun S58 => False, fun S58 hs => hs.elim, fun z => n1 z, fun _ => ⟨fun z => n2 z, fun _ => ⟨fun z => n3 z, fun _ => m_in_y r1 (i_nlt r2) ⟨fun _ => ⟨rfl, rfl⟩, fun z => absurd z (by decide)⟩⟩⟩⟩, fun z => absurd z (by decide)⟩⟩⟩
    obtain ⟨rfl, rfl⟩ := hy
    rw [← hT] at h6
    rw [h6] at h7 ⊢
    have h7 : v7 = 0 := by rw [h7, hT]; rfl
    refine ⟨fun _ => ?_, fun z => absurd h7 z⟩
    have core : ∀ (y11 : Int32) (S12 : MS), (y11 = 0 ∨ y11 = 1 ∧ hasP S5 p ∧ hasP S5 a ∧ hasP S5 b ∧ S5.a 506 p = 0) → S12 = T → ∃ J13 : Int32 → MS → Prop, (∀ (y14 : Int32) (S15 : MS), J13 y14 S15 → ∀ S16 : MS, S16 = S15.setS 500 y14 → ∀ v17 : Int32, v17 = S16.s 500 → (v17 = 0 → ∀ v18 : Int32, v18 = -x2 → sp_X4_pays (nI p) v18 S16 (fun S19 => ∀ v20 : Int32, v20 = S19.s 528 → ∀ v21 : Int32, v21 = v20 - x2 → ∀ S22 : MS, S22 = S19.setS 528 v21 → ∃ j23 : Nat, nI p = nI j23 ∧ j23 < 16 ∧ ∀ S24 : MS, S24 = S22.setA 506 j23 x2 → ∃ j25 : Nat, nI p = nI j25 ∧ j25 < 16 ∧ ∀ S26 : MS, S26 = S24.setA 507 j25 (0 : Int32) → ∃ j27 : Nat, nI p = nI j27 ∧ j27 < 16 ∧ ∀ S28 : MS, S28 = S26.setA 508 j27 (nI a) → ∃ j29 : Nat, nI p = nI j29 ∧ j29 < 16 ∧ ∀ S30 : MS, S30 = S28.setA 509 j29 (nI b) → ∃ j31 : Nat, nI p = nI j31 ∧ j31 < 16 ∧ ∀ v32 : Int32, v32 = S30.a 504 j31 → ((3 : Int32) = 0 → v32 = 0) ∧ S30 = S5.setS 500 3)) ∧ (¬ v17 = 0 → ((3 : Int32) = 0 → (0 : Int32) = 0) ∧ S16 = S5.setS 500 3)) ∧ ∃ J33 : MS → Prop, (∀ (S34 : MS), J33 S34 → J13 (3 : Int32) S34) ∧ (y11 = 0 → J33 S12) ∧ (¬ y11 = 0 → ∃ j35 : Nat, nI p = nI j35 ∧ j35 < 16 ∧ ∀ v36 : Int32, v36 = S12.a 510 j35 → ∀ v37 : Int32, v37 = (1 : Int32) + v36 → ∀ v38 : Int32, v38 = (50 : Int32) * v37 → (v38 < x2 → J33 S12) ∧ (¬ v38 < x2 → sp_X4_house (nI p) (1 : Int32) S12 (fun v40 S39 => ∀ v41 : Int32, v41 = v40 + x2 → ((500 : Int32) < v41 → J33 S39) ∧ (¬ (500 : Int32) < v41 → ∀ v42 : Int32, v42 = S39.s 528 → (x2 ≤ v42 → J13 (0 : Int32) S39) ∧ (¬ x2 ≤ v42 → J33 S39))))) := by
      intro y11 S12 hy hS
      subst hS
      refine ⟨fun y S15 => y = 3 ∧ S15 = S12, fun y14 S15 hj S16 h16 v17 h17 => ?_, fun S34 => S34 = S12, fun S34 hs => ⟨rfl, hs⟩, fun _ => rfl, fun z => ⟨p, rfl, hp16, fun v36 h36 v37 h37 v38 h38 => ⟨fun _ => rfl, fun z5 => mh hT (fun v41 h41 => ⟨fun _ => rfl, fun z6 v42 h42 => ⟨fun z7 => ?_, fun _ => rfl⟩⟩)⟩⟩⟩
      · obtain ⟨rfl, rfl⟩ := hj
        rw [T3] at h16
        subst h16
        exact er 3 (by decide) _ _ h17
      · obtain ⟨s1, s2, s3, s4⟩ := (hy.resolve_left z).2
        rw [h38, h37, h36, hT] at z5
        rw [h41] at z6
        rw [h42, hT] at z7
        exact absurd ⟨s1, s2, s3, s4, z5, z6, z7⟩ hb'
    refine m_has hp16 (fun s1 => ?_) (fun s1 => ?_)
    · refine ⟨fun y S12 => (y = 0 ∨ y = 1 ∧ hasP S5 p ∧ hasP S5 a ∧ hasP S5 b ∧ S5.a 506 p = 0) ∧ S12 = T, fun y11 S12 hj => core y11 S12 hj.1 hj.2, fun S44 => S44 = T, fun S44 hs => ⟨Or.inl rfl, hs⟩, fun z => absurd z (by decide), fun _ => m_has ha16 (fun s2 => ⟨fun z => absurd z (by decide), fun _ => m_has hb16 (fun s3 => ⟨fun z => absurd z (by decide), fun _ => ⟨p, rfl, hp16, fun v50 h50 => ⟨fun _ => rfl, fun z => ⟨Or.inr ⟨rfl, hs _ s1, hs _ s2, hs _ s3, ?_⟩, rfl⟩⟩⟩⟩) (fun _ => ⟨fun _ => rfl, fun z => absurd rfl z⟩)⟩) (fun _ => ⟨fun _ => rfl, fun z => absurd rfl z⟩)⟩
      rw [h50, hT] at z; exact z
    · exact ⟨fun y S12 => y = 0 ∧ S12 = T, fun y11 S12 hj => core y11 S12 (Or.inl hj.1) hj.2, fun S44 => S44 = T, fun S44 hs => ⟨rfl, hs⟩, fun _ => rfl, fun z => absurd rfl z⟩
