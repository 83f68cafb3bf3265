-- ===== what every run keeps
def sumf (f : Nat → Int32) : Nat → Int
  | 0 => 0
  | k + 1 => sumf f k + (f k).toInt
theorem sumf_ext {f g : Nat → Int32} : ∀ k, (∀ x, x < k → g x = f x) → sumf g k = sumf f k := by
  intro k
  induction k with
  | zero => intro _; rfl
  | succ k ih => intro h; rw [sumf, sumf, ih (fun x hx => h x (by omega)), h k (by omega)]
theorem sumf_up {f g : Nat → Int32} {i : Nat} (hf : ∀ x, x ≠ i → g x = f x) : ∀ k, i < k → sumf g k = sumf f k - (f i).toInt + (g i).toInt := by
  intro k
  induction k with
  | zero => intro h; exact absurd h (Nat.not_lt_zero _)
  | succ k ih =>
    intro h
    rw [sumf, sumf]
    by_cases e : i = k
    · subst e
      rw [sumf_ext i (fun x hx => hf x (by omega))]; omega
    · rw [ih (by omega), hf k (fun z => e z.symm)]; omega
theorem sumf_nn {f : Nat → Int32} : ∀ k, (∀ x, x < k → 0 ≤ (f x).toInt) → 0 ≤ sumf f k := by
  intro k
  induction k with
  | zero => intro _; exact Int.le_refl 0
  | succ k ih =>
    intro h
    have h1 := ih (fun x hx => h x (by omega))
    have h2 := h k (by omega)
    rw [sumf]; omega
theorem sumf_le {f : Nat → Int32} {i : Nat} : ∀ k, (∀ x, x < k → 0 ≤ (f x).toInt) → i < k → (f i).toInt ≤ sumf f k := by
  intro k
  induction k with
  | zero => intro _ h; exact absurd h (Nat.not_lt_zero _)
  | succ k ih =>
    intro h hi
    rw [sumf]
    have h2 := h k (by omega)
    by_cases e : i = k
    · subst e
      have := sumf_nn (f := f) i (fun x hx => h x (by omega)); omega
    · have := ih (fun x hx => h x (by omega)) (by omega); omega
/-- the coins: e are on their way; a earnings so far -/
def MO (e : Int) (a : Nat) (S : MS) : Prop := (∀ i, i < 16 → 0 ≤ (S.a 504 i).toInt) ∧ (∀ c, c < 4 → 0 ≤ (S.a 516 c).toInt) ∧ 0 ≤ (S.s 528).toInt ∧ sumf (S.a 504) 16 + sumf (S.a 516) 4 + (S.s 528).toInt = (S.s 529).toInt + e ∧ (S.s 529).toInt ≤ 10000 * a
theorem MO.pm {e : Int} {a i : Nat} {S : MS} (h : MO e a S) (hi : i < 16) : (S.a 504 i).toInt ≤ 10000 * a + e := by
  have h1 := sumf_le 16 h.1 hi
  have h2 := sumf_nn 4 h.2.1
  have h3 := h.2.2
  omega
theorem MO.bm {e : Int} {a c : Nat} {S : MS} (h : MO e a S) (hc : c < 4) : (S.a 516 c).toInt ≤ 10000 * a + e := by
  have h1 := sumf_le 4 h.2.1 hc
  have h2 := sumf_nn 16 h.1
  have h3 := h.2.2
  omega
theorem MO.fm {e : Int} {a : Nat} {S : MS} (h : MO e a S) : (S.s 528).toInt ≤ 10000 * a + e := by
  have h1 := sumf_nn 4 h.2.1
  have h2 := sumf_nn 16 h.1
  have h3 := h.2.2
  omega
theorem MO.p {e d : Int} {a i : Nat} {y : Int32} {S : MS} (h : MO e a S) (hi : i < 16) (hy : y.toInt = (S.a 504 i).toInt + d) (h0 : 0 ≤ y.toInt) : MO (e + d) a (S.setA 504 i y) := by
  have hs := sumf_up (f := S.a 504) (g := (S.setA 504 i y).a 504) (i := i) (fun x hx => a_b hx) 16 hi
  rw [a_e] at hs
  have hb : sumf ((S.setA 504 i y).a 516) 4 = sumf (S.a 516) 4 := sumf_ext 4 (fun x _ => a_f (by decide))
  refine ⟨fun x hx => ?_, fun c hc => by rw [a_f (by decide)]; exact h.2.1 c hc, h.2.2.1, ?_, h.2.2.2.2⟩
  · by_cases ex : x = i
    · rw [ex, a_e]; exact h0
    · rw [a_b ex]; exact h.1 x hx
  · rw [hs, hb, setA_s, setA_s]; have := h.2.2.2.1; omega
theorem MO.b {e d : Int} {a c : Nat} {y : Int32} {S : MS} (h : MO e a S) (hc : c < 4) (hy : y.toInt = (S.a 516 c).toInt + d) (h0 : 0 ≤ y.toInt) : MO (e + d) a (S.setA 516 c y) := by
  have hs := sumf_up (f := S.a 516) (g := (S.setA 516 c y).a 516) (i := c) (fun x hx => a_b hx) 4 hc
  rw [a_e] at hs
  have hb : sumf ((S.setA 516 c y).a 504) 16 = sumf (S.a 504) 16 := sumf_ext 16 (fun x _ => a_f (by decide))
  refine ⟨fun x hx => by rw [a_f (by decide)]; exact h.1 x hx, fun x hx => ?_, h.2.2.1, ?_, h.2.2.2.2⟩
  · by_cases ex : x = c
    · rw [ex, a_e]; exact h0
    · rw [a_b ex]; exact h.2.1 x hx
  · rw [hs, hb, setA_s, setA_s]; have := h.2.2.2.1; omega
theorem MO.f {e d : Int} {a : Nat} {y : Int32} {S : MS} (h : MO e a S) (hy : y.toInt = (S.s 528).toInt + d) (h0 : 0 ≤ y.toInt) : MO (e + d) a (S.setS 528 y) := by
  refine ⟨h.1, h.2.1, by rw [s_e]; exact h0, ?_, by rw [s_f (by decide)]; exact h.2.2.2.2⟩
  rw [s_e, s_f (by decide)]
  have := h.2.2.2.1
  show sumf (S.a 504) 16 + sumf (S.a 516) 4 + y.toInt = _
  omega
theorem MO.en {e d : Int} {a b : Nat} {y : Int32} {S : MS} (h : MO e a S) (hy : y.toInt = (S.s 529).toInt + d) (h0 : y.toInt ≤ 10000 * b) : MO (e - d) b (S.setS 529 y) := by
  refine ⟨h.1, h.2.1, by rw [s_f (by decide)]; exact h.2.2.1, ?_, by rw [s_e]; exact h0⟩
  rw [s_e, s_f (by decide)]
  have := h.2.2.2.1
  show sumf (S.a 504) 16 + sumf (S.a 516) 4 + (S.s 528).toInt = _
  omega
/-- agreement on rows -/
def Sm (R : List Nat) (S S' : MS) : Prop := ∀ r, r ∈ R → ∀ x, S'.a r x = S.a r x
theorem Sm.tr {R : List Nat} {S S1 S2 : MS} (h : Sm R S S1) (g : Sm R S1 S2) : Sm R S S2 := fun r hr x => (g r hr x).trans (h r hr x)
theorem Sm.rf {R : List Nat} {S : MS} : Sm R S S := fun _ _ _ => rfl
theorem Sm.st {R : List Nat} {S S1 : MS} {r j : Nat} {v : Int32} (h : Sm R S S1) (hr : r ∉ R) : Sm R S (S1.setA r j v) := fun g hg x => (a_f (fun e => hr (by rw [← e]; exact hg))).trans (h g hg x)
theorem Sm.ss {R : List Nat} {S S1 : MS} {f : Nat} {v : Int32} (h : Sm R S S1) : Sm R S (S1.setS f v) := h
theorem MO.sm {e : Int} {a : Nat} {S S' : MS} (h : MO e a S) (hr : Sm [504, 516] S S') (h8 : S'.s 528 = S.s 528) (h9 : S'.s 529 = S.s 529) : MO e a S' := by
  have e4 : sumf (S'.a 504) 16 = sumf (S.a 504) 16 := sumf_ext 16 (fun x _ => hr 504 (by decide) x)
  have e6 : sumf (S'.a 516) 4 = sumf (S.a 516) 4 := sumf_ext 4 (fun x _ => hr 516 (by decide) x)
  refine ⟨fun i hi => by rw [hr 504 (by decide)]; exact h.1 i hi, fun c hc => by rw [hr 516 (by decide)]; exact h.2.1 c hc, by rw [h8]; exact h.2.2.1, by rw [e4, e6, h8, h9]; exact h.2.2.2.1, by rw [h9]; exact h.2.2.2.2⟩
theorem MO.w {e : Int} {a b : Nat} {S : MS} (h : MO e a S) (hb : a ≤ b) : MO e b S := ⟨h.1, h.2.1, h.2.2.1, h.2.2.2.1, by have := h.2.2.2.2; omega⟩
theorem MO.pay {e : Int} {a i : Nat} {v : Int32} {S : MS} (h : MO e a S) (hi : i < 16) (hv : 0 ≤ v.toInt) (hle : v.toInt ≤ (S.a 504 i).toInt) : MO (e - v.toInt) a (fpay S i v) := by
  have h1 := h.1 i hi
  have h2 := z_hi (S.a 504 i)
  have hs : (S.a 504 i - v).toInt = (S.a 504 i).toInt - v.toInt := z_sub (by omega) (by omega)
  have := h.p (d := -v.toInt) hi (by rw [hs]; omega) (by rw [hs]; omega)
  rw [show e - v.toInt = e + -v.toInt by omega]
  exact this.sm (Sm.rf.st (by decide)) rfl rfl
theorem MO.get {e : Int} {a i : Nat} {v : Int32} {S : MS} (h : MO e a S) (hi : i < 16) (hv : 0 ≤ v.toInt) (hb : 10000 * a + e + v.toInt < 2147483648) : MO (e + v.toInt) a (fpay S i (-v)) := by
  have h1 := h.1 i hi
  have h2 := h.pm hi
  have hs : (S.a 504 i - -v).toInt = (S.a 504 i).toInt + v.toInt := by rw [i_subneg]; exact z_add (by omega) (by omega)
  exact (h.p (d := v.toInt) hi hs (by rw [hs]; omega)).sm (Sm.rf.st (by decide)) rfl rfl
/-- out of the box to a person -/
theorem MO.give {e : Int} {a c i : Nat} {v : Int32} {S : MS} (h : MO e a S) (hc : c < 4) (hi : i < 16) (hv : 0 ≤ v.toInt) (hle : v.toInt ≤ (S.a 516 c).toInt) (hb : 10000 * a + e < 2147483648) : MO e a (fgive S c i v) := by
  have h1 := h.2.1 c hc
  have h2 := z_hi (S.a 516 c)
  have hs : (S.a 516 c - v).toInt = (S.a 516 c).toInt - v.toInt := z_sub (by omega) (by omega)
  have h3 := h.b (d := -v.toInt) hc (by rw [hs]; omega) (by rw [hs]; omega)
  have h4 := h3.get (v := v) hi hv (by omega)
  rw [show e + -v.toInt + v.toInt = e by omega] at h4
  exact h4
/-- people's and circles' rows beyond their numbers stay -/
def LG (S S' : MS) : Prop := Nm S S' ∧ (∀ i, nP S ≤ i → i < 16 → ∀ r, 502 ≤ r → r ≤ 512 → S'.a r i = S.a r i) ∧ (∀ b i, b < 3 → nP S ≤ i → i < 16 → S'.a 530 (16 * b + i) = S.a 530 (16 * b + i)) ∧ (∀ c, nC S ≤ c → ∀ r, 514 ≤ r → r ≤ 520 → S'.a r c = S.a r c)
theorem LG.rf {S : MS} : LG S S := ⟨Nm.rf, fun _ _ _ _ _ _ => rfl, fun _ _ _ _ _ => rfl, fun _ _ _ _ _ => rfl⟩
theorem LG.tr {S S1 S2 : MS} (h : LG S S1) (g : LG S1 S2) : LG S S2 := by
  obtain ⟨h1, h2, h3, h4⟩ := h
  obtain ⟨g1, g2, g3, g4⟩ := g
  refine ⟨h1.tr g1, fun i a b r c d => (g2 i (by rw [h1.p]; exact a) b r c d).trans (h2 i a b r c d), fun b i c d e => (g3 b i c (by rw [h1.p]; exact d) e).trans (h3 b i c d e), fun c a r b d => (g4 c (by rw [h1.c]; exact a) r b d).trans (h4 c a r b d)⟩
theorem LG.pe {S : MS} {r j : Nat} {v : Int32} (hr : 502 ≤ r ∧ r ≤ 512) (hj : j < nP S) : LG S (S.setA r j v) :=
  ⟨Nm.rf.st (by omega), fun i a b g c d => a_b (by omega), fun b i c d e => a_f (by omega), fun c a g b d => a_f (by omega)⟩
theorem LG.ci {S : MS} {r j : Nat} {v : Int32} (hr : r = 516 ∨ r = 518 ∨ r = 519) (hj : j < nC S) : LG S (S.setA r j v) :=
  ⟨Nm.rf.st (by omega), fun i a b g c d => a_f (by omega), fun b i c d e => a_f (by omega), fun c a g b d => a_b (by omega)⟩
theorem LG.pl {S : MS} {r j : Nat} {v : Int32} (hr : 522 ≤ r ∧ r ≤ 527) : LG S (S.setA r j v) :=
  ⟨Nm.rf.st (by omega), fun i a b g c d => a_f (by omega), fun b i c d e => a_f (by omega), fun c a g b d => a_f (by omega)⟩
theorem LG.nt {S : MS} {b0 j : Nat} {v : Int32} (hj : j < nP S) (h16 : nP S ≤ 16) : LG S (S.setA 530 (16 * b0 + j) v) :=
  ⟨Nm.rf.st (by decide), fun i a b g c d => a_f (by omega), fun b i c d e => a_b (by omega), fun c a g b d => a_f (by omega)⟩
theorem LG.sc {S : MS} {f : Nat} {v : Int32} (hf : 501 ≠ f ∧ 513 ≠ f) : LG S (S.setS f v) := ⟨Nm.rf.ss hf, fun _ _ _ _ _ _ => rfl, fun _ _ _ _ _ => rfl, fun _ _ _ _ _ => rfl⟩
theorem LG.pay {S : MS} {i : Nat} {v : Int32} (hi : i < nP S) : LG S (fpay S i v) :=
  (LG.pe (S := S) (r := 504) (j := i) (by decide) hi).tr (LG.pe (by decide) hi)
theorem LG.zp {S S' : MS} (h : LG S S') (hZ : ZP S) : ZP S' := by
  intro i hi h16
  rw [h.1.p] at hi
  obtain ⟨z1, z2, z3, z4, z5, z6, z7⟩ := hZ i hi h16
  have e := h.2.1 i hi h16
  refine ⟨by rw [e 504 (by decide) (by decide)]; exact z1, by rw [e 505 (by decide) (by decide)]; exact z2, by rw [e 506 (by decide) (by decide)]; exact z3, by rw [e 510 (by decide) (by decide)]; exact z4, by rw [e 511 (by decide) (by decide)]; exact z5, by rw [e 512 (by decide) (by decide)]; exact z6, fun b hb => by rw [h.2.2.1 b i hb hi h16]; exact z7 b hb⟩
theorem LG.zc {S S' : MS} (h : LG S S') (hZ : ZC S) : ZC S' := by
  intro c hc
  rw [h.1.c] at hc
  obtain ⟨z1, z2, z3, z4, z5⟩ := hZ c hc
  have e := h.2.2.2 c hc
  exact ⟨by rw [e 516 (by decide) (by decide)]; exact z1, by rw [e 517 (by decide) (by decide)]; exact z2, by rw [e 518 (by decide) (by decide)]; exact z3, by rw [e 519 (by decide) (by decide)]; exact z4, by rw [e 520 (by decide) (by decide)]; exact z5⟩
/-- a circle with members has one who had no turn -/
def TT (S : MS) : Prop := ∀ c, c < nC S → 0 < mn S c → ∃ k, k < mn S c ∧ S.a 527 (10 * c + k) = 0
def AG (S : MS) : Prop := ∀ i, i < nP S → ¬ S.a 502 i ≤ 0
-- debts: how high they can be
def gq (x : Nat) : Nat := x + (x + 19) / 20
def gqN : Nat → Nat → Nat
  | 0, x => x
  | m + 1, x => gq (gqN m x)
def vv : Nat → Nat
  | 0 => 500
  | D + 1 => vv D + gqN 6 (vv D)
def uu (D m : Nat) : Nat := gqN m (vv D)
theorem gq_mono {x y : Nat} (h : x ≤ y) : gq x ≤ gq y := by unfold gq; omega
theorem gq_add {x y z : Nat} (h : x + y ≤ z) : gq x + y ≤ gq z := by unfold gq; omega
theorem gqN_add {x y z : Nat} (h : x + y ≤ z) : ∀ m, gqN m x + y ≤ gqN m z := by
  intro m
  induction m with
  | zero => exact h
  | succ m ih => exact gq_add ih
theorem gqN_up {x : Nat} : ∀ m, x ≤ gqN m x := by
  intro m
  induction m with
  | zero => exact Nat.le_refl _
  | succ m ih => rw [gqN]; unfold gq; omega
theorem uu_6 {D : Nat} : ∀ m, m ≤ 6 → uu D m ≤ uu D 6 := by
  have h : ∀ m, uu D m ≤ uu D (m + 1) := fun m => by unfold uu; rw [gqN]; unfold gq; omega
  intro m hm
  have h0 : uu D 0 ≤ uu D 1 := h 0
  have h1 : uu D 1 ≤ uu D 2 := h 1
  have h2 : uu D 2 ≤ uu D 3 := h 2
  have h3 : uu D 3 ≤ uu D 4 := h 3
  have h4 : uu D 4 ≤ uu D 5 := h 4
  have h5 : uu D 5 ≤ uu D 6 := h 5
  rcases (by omega : m = 0 ∨ m = 1 ∨ m = 2 ∨ m = 3 ∨ m = 4 ∨ m = 5 ∨ m = 6) with e | e | e | e | e | e | e <;> subst e <;> omega
theorem uu_D {D m : Nat} : uu D m + uu D 6 ≤ uu (D + 1) m := gqN_add (x := vv D) (y := gqN 6 (vv D)) (z := vv (D + 1)) (Nat.le_refl _) m
theorem uu_0 : ∀ D, 500 ≤ uu D 0 := by
  intro D
  induction D with
  | zero => decide
  | succ D ih => have := uu_D (D := D) (m := 0); omega
theorem uu_b : ∀ D, D ≤ 16 → (16 - D) * uu D 7 < 2 ^ 30 ∧ uu D 7 < 2 ^ 30 := by decide +kernel
def cnt (S : MS) : Nat → Nat
  | 0 => 0
  | k + 1 => cnt S k + if S.a 512 k = 0 then 0 else 1
theorem cnt_le {S : MS} : ∀ k, cnt S k ≤ k := by
  intro k
  induction k with
  | zero => exact Nat.le_refl _
  | succ k ih =>
    rw [cnt]
    by_cases e : S.a 512 k = 0
    · rw [if_pos e]; omega
    · rw [if_neg e]; omega
theorem cnt_ext {S S' : MS} : ∀ k, (∀ x, x < k → S'.a 512 x = S.a 512 x) → cnt S' k = cnt S k := by
  intro k
  induction k with
  | zero => intro _; rfl
  | succ k ih => intro h; rw [cnt, cnt, ih (fun x hx => h x (by omega)), h k (by omega)]
theorem cnt_up {S S' : MS} {p : Nat} (h0 : S.a 512 p = 0) (h1 : ¬ S'.a 512 p = 0) (ho : ∀ x, x ≠ p → S'.a 512 x = S.a 512 x) : ∀ k, p < k → cnt S' k = cnt S k + 1 := by
  intro k
  induction k with
  | zero => intro h; exact absurd h (Nat.not_lt_zero _)
  | succ k ih =>
    intro h
    rw [cnt, cnt]
    by_cases e : p = k
    · subst e
      rw [cnt_ext p (fun x hx => ho x (by omega)), if_pos h0, if_neg h1]
    · rw [ih (by omega), ho k (fun z => e z.symm)]; omega
def DB (S : MS) : Prop := ∀ i, i < 16 → 0 ≤ (S.a 506 i).toInt ∧ (0 < (S.a 506 i).toInt → ∃ m, m ≤ 6 ∧ S.a 507 i = nI m ∧ (S.a 506 i).toInt ≤ uu (cnt S 16) m) ∧ (¬ S.a 512 i = 0 → S.a 506 i = 0)
def SB (S : MS) : Prop := ∀ i, i < 16 → 0 ≤ (S.a 505 i).toInt ∧ (S.a 505 i).toInt ≤ 100
theorem DB.sm {S S' : MS} (h : DB S) (hr : Sm [506, 507, 512] S S') : DB S' := by
  have ec : cnt S' 16 = cnt S 16 := cnt_ext 16 (fun x _ => hr 512 (by decide) x)
  intro i hi
  rw [ec, hr 506 (by decide), hr 507 (by decide), hr 512 (by decide)]; exact h i hi
theorem SB.sm {S S' : MS} (h : SB S) (hr : Sm [505] S S') : SB S' := fun i hi => by rw [hr 505 (by decide)]; exact h i hi
/-- arrears, and what was paid in -/
def AB (n : Nat) (S : MS) : Prop := ∀ c, c < nC S → 1 ≤ (S.a 514 c).toInt ∧ (S.a 514 c).toInt ≤ 1000 ∧ ∀ k, k < mn S c → 0 ≤ (S.a 522 (10 * c + k)).toInt ∧ (S.a 522 (10 * c + k)).toInt ≤ 1100 * (n * 2 ^ (10 - mn S c) : Nat)
def PB (a b : Nat) (S : MS) : Prop := ∀ x, 0 ≤ (S.a 525 x).toInt ∧ (S.a 525 x).toInt ≤ (10000 * (a * b) : Nat)
/-- a earnings and b meetings in at most n calls -/
def IV (n : Nat) (S : MS) : Prop := SH S ∧ DI S ∧ WY S ∧ HB S ∧ US S ∧ TT S ∧ AG S ∧ ZP S ∧ ZC S ∧ DB S ∧ SB S ∧ AB n S ∧ ∃ a b, a + b ≤ n ∧ MO 0 a S ∧ PB a b S
theorem US.sm {S S' : MS} (h : US S) (N : Nm S S') (hr : Sm [522, 526, 527] S S') : US S' := by
  intro c hc h0 k hk
  rw [N.c] at hc
  rw [N.2.2.2.2.2] at h0
  rw [N.m] at hk
  rw [hr 526 (by decide), hr 527 (by decide), hr 522 (by decide)]
  exact h c hc h0 k hk
theorem TT.sm {S S' : MS} (h : TT S) (N : Nm S S') (hr : Sm [527] S S') : TT S' := by
  intro c hc hm
  rw [N.c] at hc
  rw [N.m] at hm ⊢
  obtain ⟨k, hk, h0⟩ := h c hc hm
  exact ⟨k, hk, by rw [hr 527 (by decide)]; exact h0⟩
theorem HB.sm {S S' : MS} (h : HB S) (hr : Sm [527] S S') : HB S' := fun x => by rw [hr 527 (by decide)]; exact h x
theorem AG.sm {S S' : MS} (h : AG S) (N : nP S' = nP S) (hr : Sm [502] S S') : AG S' := fun i hi => by rw [hr 502 (by decide)]; exact h i (by rw [← N]; exact hi)
theorem AB.sm {n m : Nat} {S S' : MS} (h : AB n S) (hnm : n ≤ m) (N : Nm S S') (hr : Sm [514, 522] S S') : AB m S' := by
  intro c hc
  rw [N.c] at hc
  rw [N.m]
  obtain ⟨h1, h2, h3⟩ := h c hc
  rw [hr 514 (by decide)]
  refine ⟨h1, h2, fun k hk => ?_⟩
  rw [hr 522 (by decide)]
  have := h3 k hk
  have hb : n * 2 ^ (10 - mn S c) ≤ m * 2 ^ (10 - mn S c) := Nat.mul_le_mul_right _ hnm
  omega
theorem PB.sm {a b a' b' : Nat} {S S' : MS} (h : PB a b S) (ha : a ≤ a') (hb : b ≤ b') (hr : Sm [525] S S') : PB a' b' S' := by
  intro x
  rw [hr 525 (by decide)]
  have := h x
  have hb : a * b ≤ a' * b' := Nat.mul_le_mul ha hb
  omega
theorem Sm.sub {R R' : List Nat} {S S' : MS} (h : Sm R S S') (hs : ∀ r, r ∈ R' → r ∈ R) : Sm R' S S' := fun r hr x => h r (hs r hr) x
/-- a call that leaves the circles as they are -/
theorem IV.step {n : Nat} {S S' : MS} (h : IV n S) (L : LG S S') (h7 : Sm [502, 514, 522, 525, 526, 527] S S') (hB : DB S') (hS : SB S') (hM : ∀ a, a ≤ n → MO 0 a S → ∃ a', a ≤ a' ∧ a' ≤ a + 1 ∧ MO 0 a' S') : IV (n + 1) S' := by
  obtain ⟨i1, i2, i3, i4, i5, i6, i7, i8, i9, i10, i11, i12, a, b, hab, m1, m2⟩ := h
  have N := L.1
  obtain ⟨a', ha, ha2, m3⟩ := hM a (by omega) m1
  exact ⟨N.sh i1, N.di i2, N.wy i3, i4.sm (h7.sub (by decide)), i5.sm N (h7.sub (by decide)), i6.sm N (h7.sub (by decide)), i7.sm N.p (h7.sub (by decide)), L.zp i8, L.zc i9, hB, hS, i12.sm (Nat.le_succ n) N (h7.sub (by decide)), a', b, by omega, m3, m2.sm ha (Nat.le_refl _) (h7.sub (by decide))⟩
/-- a call that changes nothing but 'thrown' -/
theorem IV.thr {n : Nat} {S : MS} {k : Int32} (h : IV n S) : IV (n + 1) (S.setS 500 k) :=
  h.step (LG.sc (by decide)) Sm.rf (h.2.2.2.2.2.2.2.2.2.1.sm Sm.rf) (h.2.2.2.2.2.2.2.2.2.2.1.sm Sm.rf) (fun a _ m => ⟨a, Nat.le_refl _, Nat.le_succ _, m.sm Sm.rf rfl rfl⟩)
