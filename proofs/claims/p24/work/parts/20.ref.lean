-- ===== the state: scalars and rows, by the numbers of their fields
def MS : Type := (Nat → Int32) × (Nat → Nat → Int32)
def MS.s (S : MS) : Nat → Int32 := S.1
def MS.a (S : MS) : Nat → Nat → Int32 := S.2
def MS.setS (S : MS) (f : Nat) (v : Int32) : MS := (va_up S.1 f v, S.2)
def MS.setA (S : MS) (f j : Nat) (v : Int32) : MS := (S.1, up2 S.2 f j v)
def sp_X4_thrown  (S : MS) (Q : Int32 → MS → Prop) : Prop :=
  ∀ v1 : Int32, v1 = S.s 500 →
  Q v1 S
def sp_X4_in (x0 : Int32) (x1 : Int32) (x2 : Int32) (S : MS) (Q : Int32 → MS → Prop) : Prop :=
  ∃ J1 : Int32 → Prop, (∀ (y2 : Int32), J1 y2 →
  (y2 = 0 ∨ y2 = 1) ∧ Q y2 S) ∧
  ∃ J3 : Prop, (J3 →
  J1 (0 : Int32)) ∧
  (x0 < x1 → J3) ∧ (¬ x0 < x1 → (x2 < x0 → J3) ∧ (¬ x2 < x0 → J1 (1 : Int32)))
def sp_X4_isOne (x1 : Int32) (S : MS) (Q : Int32 → MS → Prop) : Prop :=
  ∀ v1 : Int32, v1 = S.s 501 →
  ∀ v2 : Int32, v2 = v1 - (1 : Int32) →
  sp_X4_in x1 (0 : Int32) v2 S (fun v4 S3 => 
  (v4 = 0 ∨ v4 = 1) ∧ Q v4 S3)
def sp_X4_isCircle (x1 : Int32) (S : MS) (Q : Int32 → MS → Prop) : Prop :=
  ∀ v1 : Int32, v1 = S.s 513 →
  ∀ v2 : Int32, v2 = v1 - (1 : Int32) →
  sp_X4_in x1 (0 : Int32) v2 S (fun v4 S3 => 
  (v4 = 0 ∨ v4 = 1) ∧ Q v4 S3)
def sp_X4_areAlike (x0 : Int32) (x1 : Int32) (S : MS) (Q : Int32 → MS → Prop) : Prop :=
  ∃ Inv2 : Nat → Int32 → Int32 → Int32 → Int32 → Prop, (∃ n : Nat, Inv2 n x0 x1 (0 : Int32) (0 : Int32)) ∧ ∀ (n1 : Nat) (y3 : Int32) (y4 : Int32) (y5 : Int32) (y6 : Int32), Inv2 n1 y3 y4 y5 y6 →
  ((5 : Int32) ≤ y6 → ∃ J7 : Int32 → Prop, (∀ (y8 : Int32), J7 y8 →
  (y8 = 0 ∨ y8 = 1) ∧ Q y8 S) ∧
  ((2 : Int32) ≤ y5 → J7 (0 : Int32)) ∧ (¬ (2 : Int32) ≤ y5 → J7 (1 : Int32))) ∧ (¬ (5 : Int32) ≤ y6 → ¬ (10 : Int32) = 0 ∧ ∀ v9 : Int32, v9 = y3 - y3 / (10 : Int32) * (10 : Int32) →
  ¬ (10 : Int32) = 0 ∧ ∀ v10 : Int32, v10 = y4 - y4 / (10 : Int32) * (10 : Int32) →
  ∃ J11 : Int32 → Int32 → Prop, (∀ (y12 : Int32) (y13 : Int32), J11 y12 y13 →
  ∀ v14 : Int32, v14 = y12 + y13 →
  ¬ (10 : Int32) = 0 ∧ ∀ v15 : Int32, v15 = y3 / (10 : Int32) →
  ¬ (10 : Int32) = 0 ∧ ∀ v16 : Int32, v16 = y4 / (10 : Int32) →
  ∀ v17 : Int32, v17 = y6 + (1 : Int32) →
  ∃ n : Nat, n < n1 ∧ Inv2 n v15 v16 v14 v17) ∧
  (¬ v9 = v10 → J11 y5 (1 : Int32)) ∧ (v9 = v10 → J11 y5 (0 : Int32)))
def sp_X4_placeOf (x1 : Int32) (x2 : Int32) (S : MS) (Q : Int32 → MS → Prop) : Prop :=
  ∃ Inv2 : Nat → Int32 → Int32 → Prop, (∃ n : Nat, Inv2 n (-1 : Int32) (0 : Int32)) ∧ ∀ (n1 : Nat) (y3 : Int32) (y4 : Int32), Inv2 n1 y3 y4 →
  ∃ j5 : Nat, x1 = nI j5 ∧ j5 < 4 ∧
  ∀ v6 : Int32, v6 = S.a 517 j5 →
  (v6 ≤ y4 → Q y3 S) ∧ (¬ v6 ≤ y4 → ∀ v7 : Int32, v7 = (10 : Int32) * x1 →
  ∀ v8 : Int32, v8 = v7 + y4 →
  ∃ j9 : Nat, v8 = nI j9 ∧ j9 < 40 ∧
  ∀ v10 : Int32, v10 = S.a 521 j9 →
  ∃ J11 : Int32 → Prop, (∀ (y12 : Int32), J11 y12 →
  ∀ v13 : Int32, v13 = y4 + (1 : Int32) →
  ∃ n : Nat, n < n1 ∧ Inv2 n y12 v13) ∧
  (¬ v10 = x2 → J11 y3) ∧ (v10 = x2 → J11 y4))
def sp_X4_pays (x1 : Int32) (x2 : Int32) (S : MS) (Q : MS → Prop) : Prop :=
  ∃ j1 : Nat, x1 = nI j1 ∧ j1 < 16 ∧
  ∀ v2 : Int32, v2 = S.a 504 j1 →
  ∀ v3 : Int32, v3 = v2 - x2 →
  ∃ j4 : Nat, x1 = nI j4 ∧ j4 < 16 ∧
  ∀ S5 : MS, S5 = S.setA 504 j4 v3 →
  ∃ j6 : Nat, x1 = nI j6 ∧ j6 < 16 ∧
  ∀ v7 : Int32, v7 = S5.a 511 j6 →
  ∀ v8 : Int32, v8 = v7 + x2 →
  ∃ j9 : Nat, x1 = nI j9 ∧ j9 < 16 ∧
  ∀ S10 : MS, S10 = S5.setA 511 j9 v8 →
  Q S10
def sp_X4_person (x1 : Int32) (x2 : Int32) (S : MS) (Q : Int32 → MS → Prop) : Prop :=
  sp_X4_in x1 (1 : Int32) (120 : Int32) S (fun v2 S1 => 
  ∃ J3 : Int32 → MS → Prop, (∀ (y4 : Int32) (S5 : MS), J3 y4 S5 →
  ∀ S6 : MS, S6 = S5.setS 500 y4 →
  ∀ v7 : Int32, v7 = S6.s 500 →
  (v7 = 0 → ∀ v8 : Int32, v8 = S6.s 501 →
  ∃ j9 : Nat, v8 = nI j9 ∧ j9 < 16 ∧
  ∀ S10 : MS, S10 = S6.setA 502 j9 x1 →
  ∀ v11 : Int32, v11 = S10.s 501 →
  ∃ j12 : Nat, v11 = nI j12 ∧ j12 < 16 ∧
  ∀ S13 : MS, S13 = S10.setA 503 j12 x2 →
  ∀ v14 : Int32, v14 = S13.s 501 →
  ∀ v15 : Int32, v15 = v14 + (1 : Int32) →
  ∀ S16 : MS, S16 = S13.setS 501 v15 →
  ∀ v17 : Int32, v17 = S16.s 501 →
  ∀ v18 : Int32, v18 = v17 - (1 : Int32) →
  Q v18 S16) ∧ (¬ v7 = 0 → Q (0 : Int32) S6)) ∧
  ∃ J19 : MS → Prop, (∀  (S20 : MS), J19  S20 →
  J3 (1 : Int32) S20) ∧
  (v2 = 0 → J19 S1) ∧ (¬ v2 = 0 → sp_X4_in x2 (0 : Int32) (99999 : Int32) S1 (fun v22 S21 => 
  (¬ v22 = 0 → ∀ v23 : Int32, v23 = S21.s 501 →
  (¬ v23 = (16 : Int32) → J3 (0 : Int32) S21) ∧ (v23 = (16 : Int32) → J3 (2 : Int32) S21)) ∧ (v22 = 0 → J19 S21))))
def sp_X4_earn (x1 : Int32) (x2 : Int32) (S : MS) (Q : Int32 → MS → Prop) : Prop :=
  sp_X4_isOne x1 S (fun v2 S1 => 
  (¬ v2 = 0 → ∃ j3 : Nat, x1 = nI j3 ∧ j3 < 16 ∧
  ∀ v4 : Int32, v4 = S1.a 512 j3 →
  ∃ J5 : Int32 → Prop, (∀ (y6 : Int32), J5 y6 →
  sp_X4_in x2 (-10000 : Int32) (10000 : Int32) S1 (fun v8 S7 => 
  ∃ J9 : Int32 → Prop, (∀ (y10 : Int32), J9 y10 →
  ∀ S11 : MS, S11 = S7.setS 500 y10 →
  ∀ v12 : Int32, v12 = S11.s 500 →
  (v12 = 0 → ∃ j13 : Nat, x1 = nI j13 ∧ j13 < 16 ∧
  ∀ v14 : Int32, v14 = S11.a 504 j13 →
  ∀ v15 : Int32, v15 = v14 + x2 →
  ∃ j16 : Nat, x1 = nI j16 ∧ j16 < 16 ∧
  ∀ S17 : MS, S17 = S11.setA 504 j16 v15 →
  ∀ v18 : Int32, v18 = S17.s 529 →
  ∀ v19 : Int32, v19 = v18 + x2 →
  ∀ S20 : MS, S20 = S17.setS 529 v19 →
  ∃ j21 : Nat, x1 = nI j21 ∧ j21 < 16 ∧
  ∀ v22 : Int32, v22 = S20.a 504 j21 →
  Q v22 S20) ∧ (¬ v12 = 0 → Q (0 : Int32) S11)) ∧
  (¬ v8 = 0 → (¬ y6 = 0 → J9 (0 : Int32)) ∧ (y6 = 0 → J9 (3 : Int32))) ∧ (v8 = 0 → J9 (2 : Int32)))) ∧
  ∃ J23 : Prop, (J23 →
  J5 (0 : Int32)) ∧
  (¬ v4 = 0 → J23) ∧ (v4 = 0 → ∃ j24 : Nat, x1 = nI j24 ∧ j24 < 16 ∧
  ∀ v25 : Int32, v25 = S1.a 504 j24 →
  ∀ v26 : Int32, v26 = v25 + x2 →
  (v26 < 0 → J23) ∧ (¬ v26 < 0 → ∃ j27 : Nat, x1 = nI j27 ∧ j27 < 16 ∧
  ∀ v28 : Int32, v28 = S1.a 504 j27 →
  ∀ v29 : Int32, v29 = v28 + x2 →
  ((10000000 : Int32) < v29 → J23) ∧ (¬ (10000000 : Int32) < v29 → J5 (1 : Int32))))) ∧ (v2 = 0 → ∀ S30 : MS, S30 = S1.setS 500 (1 : Int32) →
  Q (0 : Int32) S30))
def sp_X4_copies (x1 : Int32) (x2 : Int32) (S : MS) (Q : MS → Prop) : Prop :=
  ∃ j1 : Nat, x2 = nI j1 ∧ j1 < 40 ∧
  ∀ v2 : Int32, v2 = S.a 521 j1 →
  ∃ j3 : Nat, x1 = nI j3 ∧ j3 < 40 ∧
  ∀ S4 : MS, S4 = S.setA 521 j3 v2 →
  ∃ j5 : Nat, x2 = nI j5 ∧ j5 < 40 ∧
  ∀ v6 : Int32, v6 = S4.a 522 j5 →
  ∃ j7 : Nat, x1 = nI j7 ∧ j7 < 40 ∧
  ∀ S8 : MS, S8 = S4.setA 522 j7 v6 →
  ∃ j9 : Nat, x2 = nI j9 ∧ j9 < 40 ∧
  ∀ v10 : Int32, v10 = S8.a 523 j9 →
  ∃ j11 : Nat, x1 = nI j11 ∧ j11 < 40 ∧
  ∀ S12 : MS, S12 = S8.setA 523 j11 v10 →
  ∃ j13 : Nat, x2 = nI j13 ∧ j13 < 40 ∧
  ∀ v14 : Int32, v14 = S12.a 524 j13 →
  ∃ j15 : Nat, x1 = nI j15 ∧ j15 < 40 ∧
  ∀ S16 : MS, S16 = S12.setA 524 j15 v14 →
  ∃ j17 : Nat, x2 = nI j17 ∧ j17 < 40 ∧
  ∀ v18 : Int32, v18 = S16.a 525 j17 →
  ∃ j19 : Nat, x1 = nI j19 ∧ j19 < 40 ∧
  ∀ S20 : MS, S20 = S16.setA 525 j19 v18 →
  ∃ j21 : Nat, x2 = nI j21 ∧ j21 < 40 ∧
  ∀ v22 : Int32, v22 = S20.a 526 j21 →
  ∃ j23 : Nat, x1 = nI j23 ∧ j23 < 40 ∧
  ∀ S24 : MS, S24 = S20.setA 526 j23 v22 →
  ∃ j25 : Nat, x2 = nI j25 ∧ j25 < 40 ∧
  ∀ v26 : Int32, v26 = S24.a 527 j25 →
  ∃ j27 : Nat, x1 = nI j27 ∧ j27 < 40 ∧
  ∀ S28 : MS, S28 = S24.setA 527 j27 (vp_nar .boolean v26) →
  Q S28
def sp_X4_rounds (x1 : Int32) (S : MS) (Q : MS → Prop) : Prop :=
  ∃ j1 : Nat, x1 = nI j1 ∧ j1 < 4 ∧
  ∀ v2 : Int32, v2 = S.a 517 j1 →
  ∃ J3 : Int32 → Prop, (∀ (y4 : Int32), J3 y4 →
  ∃ Inv6 : Nat → Int32 → Int32 → Prop, (∃ n : Nat, Inv6 n y4 (0 : Int32)) ∧ ∀ (n5 : Nat) (y7 : Int32) (y8 : Int32), Inv6 n5 y7 y8 →
  ∃ j9 : Nat, x1 = nI j9 ∧ j9 < 4 ∧
  ∀ v10 : Int32, v10 = S.a 517 j9 →
  (v10 ≤ y8 → ∃ j11 : Nat, x1 = nI j11 ∧ j11 < 4 ∧
  ∀ v12 : Int32, v12 = S.a 519 j11 →
  ∃ J13 : Int32 → Int32 → Int32 → Prop, (∀ (y14 : Int32) (y15 : Int32) (y16 : Int32), J13 y14 y15 y16 →
  ∀ v17 : Int32, v17 = y15 + y16 →
  ∃ j18 : Nat, y14 = nI j18 ∧ j18 < 4 ∧
  ∀ S19 : MS, S19 = S.setA 519 j18 v17 →
  ∃ Inv21 : Nat → Int32 → MS → Prop, (∃ n : Nat, Inv21 n (0 : Int32) S19) ∧ ∀ (n20 : Nat) (y22 : Int32) (S23 : MS), Inv21 n20 y22 S23 →
  ∃ j24 : Nat, x1 = nI j24 ∧ j24 < 4 ∧
  ∀ v25 : Int32, v25 = S23.a 517 j24 →
  ∃ J26 : Prop, (J26 →
  Q S23) ∧
  (v25 ≤ y22 → J26) ∧ (¬ v25 ≤ y22 → (y7 = 0 → J26) ∧ (¬ y7 = 0 → ∀ v27 : Int32, v27 = (10 : Int32) * x1 →
  ∀ v28 : Int32, v28 = v27 + y22 →
  ∃ j29 : Nat, v28 = nI j29 ∧ j29 < 40 ∧
  ∀ S30 : MS, S30 = S23.setA 527 j29 (vp_nar .boolean (0 : Int32)) →
  ∀ v31 : Int32, v31 = (10 : Int32) * x1 →
  ∀ v32 : Int32, v32 = v31 + y22 →
  ∃ j33 : Nat, v32 = nI j33 ∧ j33 < 40 ∧
  ∀ S34 : MS, S34 = S30.setA 525 j33 (0 : Int32) →
  ∀ v35 : Int32, v35 = y22 + (1 : Int32) →
  ∃ n : Nat, n < n20 ∧ Inv21 n v35 S34))) ∧
  (y7 = 0 → J13 x1 v12 (0 : Int32)) ∧ (¬ y7 = 0 → J13 x1 v12 (1 : Int32))) ∧ (¬ v10 ≤ y8 → ∃ J36 : Int32 → Prop, (∀ (y37 : Int32), J36 y37 →
  ∀ v38 : Int32, v38 = y8 + (1 : Int32) →
  ∃ n : Nat, n < n5 ∧ Inv6 n y37 v38) ∧
  ∃ J39 : Prop, (J39 →
  J36 (0 : Int32)) ∧
  (y7 = 0 → J39) ∧ (¬ y7 = 0 → ∀ v40 : Int32, v40 = (10 : Int32) * x1 →
  ∀ v41 : Int32, v41 = v40 + y8 →
  ∃ j42 : Nat, v41 = nI j42 ∧ j42 < 40 ∧
  ∀ v43 : Int32, v43 = S.a 527 j42 →
  (v43 = 0 → J39) ∧ (¬ v43 = 0 → J36 (1 : Int32))))) ∧
  (v2 ≤ 0 → J3 (0 : Int32)) ∧ (¬ v2 ≤ 0 → J3 (1 : Int32))
def sp_X4_goes (x1 : Int32) (x2 : Int32) (S : MS) (Q : MS → Prop) : Prop :=
  ∃ j1 : Nat, x1 = nI j1 ∧ j1 < 4 ∧
  ∀ v2 : Int32, v2 = S.a 517 j1 →
  ∀ v3 : Int32, v3 = v2 - (1 : Int32) →
  ∃ j4 : Nat, x1 = nI j4 ∧ j4 < 4 ∧
  ∀ S5 : MS, S5 = S.setA 517 j4 v3 →
  ∃ Inv7 : Nat → Int32 → MS → Prop, (∃ n : Nat, Inv7 n x2 S5) ∧ ∀ (n6 : Nat) (y8 : Int32) (S9 : MS), Inv7 n6 y8 S9 →
  ∃ j10 : Nat, x1 = nI j10 ∧ j10 < 4 ∧
  ∀ v11 : Int32, v11 = S9.a 517 j10 →
  (v11 ≤ y8 → sp_X4_rounds x1 S9 (fun S12 => 
  Q S12)) ∧ (¬ v11 ≤ y8 → ∀ v13 : Int32, v13 = (10 : Int32) * x1 →
  ∀ v14 : Int32, v14 = v13 + y8 →
  ∀ v15 : Int32, v15 = (10 : Int32) * x1 →
  ∀ v16 : Int32, v16 = v15 + y8 →
  ∀ v17 : Int32, v17 = v16 + (1 : Int32) →
  sp_X4_copies v14 v17 S9 (fun S18 => 
  ∀ v19 : Int32, v19 = y8 + (1 : Int32) →
  ∃ n : Nat, n < n6 ∧ Inv7 n v19 S18))
def sp_X4_leaves (x1 : Int32) (x2 : Int32) (S : MS) (Q : MS → Prop) : Prop :=
  ∃ j1 : Nat, x2 = nI j1 ∧ j1 < 16 ∧
  ∀ v2 : Int32, v2 = S.a 504 j1 →
  ∃ j3 : Nat, x1 = nI j3 ∧ j3 < 16 ∧
  ∀ v4 : Int32, v4 = S.a 504 j3 →
  ∀ v5 : Int32, v5 = v2 + v4 →
  ∃ j6 : Nat, x2 = nI j6 ∧ j6 < 16 ∧
  ∀ S7 : MS, S7 = S.setA 504 j6 v5 →
  ∃ j8 : Nat, x2 = nI j8 ∧ j8 < 16 ∧
  ∀ v9 : Int32, v9 = S7.a 505 j8 →
  ∃ j10 : Nat, x1 = nI j10 ∧ j10 < 16 ∧
  ∀ v11 : Int32, v11 = S7.a 505 j10 →
  ∀ v12 : Int32, v12 = v9 + v11 →
  ∃ j13 : Nat, x2 = nI j13 ∧ j13 < 16 ∧
  ∀ S14 : MS, S14 = S7.setA 505 j13 v12 →
  ∃ j15 : Nat, x1 = nI j15 ∧ j15 < 16 ∧
  ∀ v16 : Int32, v16 = S14.a 506 j15 →
  ∃ J17 : MS → Prop, (∀  (S18 : MS), J17  S18 →
  ∃ j19 : Nat, x2 = nI j19 ∧ j19 < 16 ∧
  ∀ v20 : Int32, v20 = S18.a 506 j19 →
  ∃ j21 : Nat, x1 = nI j21 ∧ j21 < 16 ∧
  ∀ v22 : Int32, v22 = S18.a 506 j21 →
  ∀ v23 : Int32, v23 = v20 + v22 →
  ∃ j24 : Nat, x2 = nI j24 ∧ j24 < 16 ∧
  ∀ S25 : MS, S25 = S18.setA 506 j24 v23 →
  ∃ j26 : Nat, x1 = nI j26 ∧ j26 < 16 ∧
  ∀ S27 : MS, S27 = S25.setA 504 j26 (0 : Int32) →
  ∃ j28 : Nat, x1 = nI j28 ∧ j28 < 16 ∧
  ∀ S29 : MS, S29 = S27.setA 505 j28 (0 : Int32) →
  ∃ j30 : Nat, x1 = nI j30 ∧ j30 < 16 ∧
  ∀ S31 : MS, S31 = S29.setA 506 j30 (0 : Int32) →
  ∃ j32 : Nat, x1 = nI j32 ∧ j32 < 16 ∧
  ∀ S33 : MS, S33 = S31.setA 512 j32 (vp_nar .boolean (1 : Int32)) →
  Q S33) ∧
  (v16 ≤ 0 → J17 S14) ∧ (¬ v16 ≤ 0 → ∃ j34 : Nat, x2 = nI j34 ∧ j34 < 16 ∧
  ∀ v35 : Int32, v35 = S14.a 506 j34 →
  (¬ v35 = 0 → J17 S14) ∧ (v35 = 0 → ∃ j36 : Nat, x1 = nI j36 ∧ j36 < 16 ∧
  ∀ v37 : Int32, v37 = S14.a 507 j36 →
  ∃ j38 : Nat, x2 = nI j38 ∧ j38 < 16 ∧
  ∀ S39 : MS, S39 = S14.setA 507 j38 v37 →
  ∃ j40 : Nat, x1 = nI j40 ∧ j40 < 16 ∧
  ∀ v41 : Int32, v41 = S39.a 508 j40 →
  ∃ j42 : Nat, x2 = nI j42 ∧ j42 < 16 ∧
  ∀ S43 : MS, S43 = S39.setA 508 j42 v41 →
  ∃ j44 : Nat, x1 = nI j44 ∧ j44 < 16 ∧
  ∀ v45 : Int32, v45 = S43.a 509 j44 →
  ∃ j46 : Nat, x2 = nI j46 ∧ j46 < 16 ∧
  ∀ S47 : MS, S47 = S43.setA 509 j46 v45 →
  J17 S47))
def sp_X4_die (x1 : Int32) (x2 : Int32) (S : MS) (Q : Int32 → MS → Prop) : Prop :=
  sp_X4_isOne x1 S (fun v2 S1 => 
  ∃ J3 : Int32 → MS → Prop, (∀ (y4 : Int32) (S5 : MS), J3 y4 S5 →
  ∀ S6 : MS, S6 = S5.setS 500 y4 →
  ∀ v7 : Int32, v7 = S6.s 500 →
  (v7 = 0 → sp_X4_leaves x1 x2 S6 (fun S8 => 
  ∃ Inv10 : Nat → Int32 → Int32 → MS → Prop, (∃ n : Nat, Inv10 n (0 : Int32) (0 : Int32) S8) ∧ ∀ (n9 : Nat) (y11 : Int32) (y12 : Int32) (S13 : MS), Inv10 n9 y11 y12 S13 →
  ∀ v14 : Int32, v14 = S13.s 513 →
  (v14 ≤ y12 → Q y11 S13) ∧ (¬ v14 ≤ y12 → sp_X4_placeOf y12 x1 S13 (fun v16 S15 => 
  sp_X4_placeOf y12 x2 S15 (fun v18 S17 => 
  ∃ J19 : Int32 → MS → Prop, (∀ (y20 : Int32) (S21 : MS), J19 y20 S21 →
  ∀ v22 : Int32, v22 = y12 + (1 : Int32) →
  ∃ n : Nat, n < n9 ∧ Inv10 n y20 v22 S21) ∧
  ∃ J23 : Prop, (J23 →
  (v16 < 0 → J19 y11 S17) ∧ (¬ v16 < 0 → ∀ v24 : Int32, v24 = (10 : Int32) * y12 →
  ∀ v25 : Int32, v25 = v24 + v16 →
  ∃ j26 : Nat, v25 = nI j26 ∧ j26 < 40 ∧
  ∀ S27 : MS, S27 = S17.setA 521 j26 x2 →
  ∀ v28 : Int32, v28 = y11 + (1 : Int32) →
  J19 v28 S27)) ∧
  (v16 < 0 → J23) ∧ (¬ v16 < 0 → (v18 < 0 → J23) ∧ (¬ v18 < 0 → ∀ v29 : Int32, v29 = (10 : Int32) * y12 →
  ∀ v30 : Int32, v30 = v29 + v18 →
  ∃ j31 : Nat, v30 = nI j31 ∧ j31 < 40 ∧
  ∀ v32 : Int32, v32 = S17.a 522 j31 →
  ∀ v33 : Int32, v33 = (10 : Int32) * y12 →
  ∀ v34 : Int32, v34 = v33 + v16 →
  ∃ j35 : Nat, v34 = nI j35 ∧ j35 < 40 ∧
  ∀ v36 : Int32, v36 = S17.a 522 j35 →
  ∀ v37 : Int32, v37 = v32 + v36 →
  ∃ j38 : Nat, v30 = nI j38 ∧ j38 < 40 ∧
  ∀ S39 : MS, S39 = S17.setA 522 j38 v37 →
  sp_X4_goes y12 v16 S39 (fun S40 => 
  J19 y11 S40)))))))) ∧ (¬ v7 = 0 → Q (0 : Int32) S6)) ∧
  ∃ J41 : MS → Prop, (∀  (S42 : MS), J41  S42 →
  J3 (1 : Int32) S42) ∧
  (v2 = 0 → J41 S1) ∧ (¬ v2 = 0 → sp_X4_isOne x2 S1 (fun v44 S43 => 
  (¬ v44 = 0 → (¬ x1 = x2 → ∃ j45 : Nat, x1 = nI j45 ∧ j45 < 16 ∧
  ∀ v46 : Int32, v46 = S43.a 512 j45 →
  ∃ J47 : Prop, (J47 →
  J3 (3 : Int32) S43) ∧
  (¬ v46 = 0 → J47) ∧ (v46 = 0 → ∃ j48 : Nat, x2 = nI j48 ∧ j48 < 16 ∧
  ∀ v49 : Int32, v49 = S43.a 512 j48 →
  (¬ v49 = 0 → J47) ∧ (v49 = 0 → ∃ j50 : Nat, x1 = nI j50 ∧ j50 < 16 ∧
  ∀ v51 : Int32, v51 = S43.a 505 j50 →
  ∃ j52 : Nat, x2 = nI j52 ∧ j52 < 16 ∧
  ∀ v53 : Int32, v53 = S43.a 505 j52 →
  ∀ v54 : Int32, v54 = v51 + v53 →
  (v54 ≤ (100 : Int32) → J3 (0 : Int32) S43) ∧ (¬ v54 ≤ (100 : Int32) → J47)))) ∧ (x1 = x2 → J3 (2 : Int32) S43)) ∧ (v44 = 0 → J41 S43))))
def sp_X4_circle (x1 : Int32) (x2 : Int32) (S : MS) (Q : Int32 → MS → Prop) : Prop :=
  sp_X4_in x1 (1 : Int32) (1000 : Int32) S (fun v2 S1 => 
  ∃ J3 : Int32 → MS → Prop, (∀ (y4 : Int32) (S5 : MS), J3 y4 S5 →
  ∀ S6 : MS, S6 = S5.setS 500 y4 →
  ∀ v7 : Int32, v7 = S6.s 500 →
  (v7 = 0 → ∀ v8 : Int32, v8 = S6.s 513 →
  ∃ j9 : Nat, v8 = nI j9 ∧ j9 < 4 ∧
  ∀ S10 : MS, S10 = S6.setA 514 j9 x1 →
  ∀ v11 : Int32, v11 = S10.s 513 →
  ∃ j12 : Nat, v11 = nI j12 ∧ j12 < 4 ∧
  ∀ S13 : MS, S13 = S10.setA 515 j12 x2 →
  ∀ v14 : Int32, v14 = S13.s 513 →
  ∀ v15 : Int32, v15 = v14 + (1 : Int32) →
  ∀ S16 : MS, S16 = S13.setS 513 v15 →
  ∀ v17 : Int32, v17 = S16.s 513 →
  ∀ v18 : Int32, v18 = v17 - (1 : Int32) →
  Q v18 S16) ∧ (¬ v7 = 0 → Q (0 : Int32) S6)) ∧
  ∃ J19 : MS → Prop, (∀  (S20 : MS), J19  S20 →
  J3 (1 : Int32) S20) ∧
  (v2 = 0 → J19 S1) ∧ (¬ v2 = 0 → sp_X4_in x2 (0 : Int32) (3 : Int32) S1 (fun v22 S21 => 
  (¬ v22 = 0 → ∀ v23 : Int32, v23 = S21.s 513 →
  (¬ v23 = (4 : Int32) → J3 (0 : Int32) S21) ∧ (v23 = (4 : Int32) → J3 (2 : Int32) S21)) ∧ (v22 = 0 → J19 S21))))
def sp_X4_enter (x1 : Int32) (x2 : Int32) (S : MS) (Q : Int32 → MS → Prop) : Prop :=
  sp_X4_isCircle x1 S (fun v2 S1 => 
  ∃ J3 : Int32 → MS → Prop, (∀ (y4 : Int32) (S5 : MS), J3 y4 S5 →
  ∀ S6 : MS, S6 = S5.setS 500 y4 →
  ∀ v7 : Int32, v7 = S6.s 500 →
  (v7 = 0 → ∃ j8 : Nat, x1 = nI j8 ∧ j8 < 4 ∧
  ∀ v9 : Int32, v9 = S6.a 520 j8 →
  ∃ J10 : Int32 → MS → Prop, (∀ (y11 : Int32) (S12 : MS), J10 y11 S12 →
  ∀ S13 : MS, S13 = S12.setS 500 y11 →
  ∀ v14 : Int32, v14 = S13.s 500 →
  (v14 = 0 → ∀ v15 : Int32, v15 = (10 : Int32) * x1 →
  ∃ j16 : Nat, x1 = nI j16 ∧ j16 < 4 ∧
  ∀ v17 : Int32, v17 = S13.a 517 j16 →
  ∀ v18 : Int32, v18 = v15 + v17 →
  ∃ j19 : Nat, v18 = nI j19 ∧ j19 < 40 ∧
  ∀ S20 : MS, S20 = S13.setA 521 j19 x2 →
  ∃ j21 : Nat, v18 = nI j21 ∧ j21 < 40 ∧
  ∀ S22 : MS, S22 = S20.setA 522 j21 (0 : Int32) →
  ∃ j23 : Nat, v18 = nI j23 ∧ j23 < 40 ∧
  ∀ S24 : MS, S24 = S22.setA 523 j23 (0 : Int32) →
  ∃ j25 : Nat, v18 = nI j25 ∧ j25 < 40 ∧
  ∀ S26 : MS, S26 = S24.setA 524 j25 (0 : Int32) →
  ∃ j27 : Nat, v18 = nI j27 ∧ j27 < 40 ∧
  ∀ S28 : MS, S28 = S26.setA 525 j27 (0 : Int32) →
  ∃ j29 : Nat, v18 = nI j29 ∧ j29 < 40 ∧
  ∀ S30 : MS, S30 = S28.setA 526 j29 (-1 : Int32) →
  ∃ j31 : Nat, v18 = nI j31 ∧ j31 < 40 ∧
  ∀ S32 : MS, S32 = S30.setA 527 j31 (vp_nar .boolean (0 : Int32)) →
  ∃ j33 : Nat, x1 = nI j33 ∧ j33 < 4 ∧
  ∀ v34 : Int32, v34 = S32.a 517 j33 →
  ∀ v35 : Int32, v35 = v34 + (1 : Int32) →
  ∃ j36 : Nat, x1 = nI j36 ∧ j36 < 4 ∧
  ∀ S37 : MS, S37 = S32.setA 517 j36 v35 →
  ∃ j38 : Nat, x1 = nI j38 ∧ j38 < 4 ∧
  ∀ v39 : Int32, v39 = S37.a 517 j38 →
  Q v39 S37) ∧ (¬ v14 = 0 → Q (0 : Int32) S13)) ∧
  ∃ J40 : MS → Prop, (∀  (S41 : MS), J40  S41 →
  J10 (2 : Int32) S41) ∧
  (¬ v9 = 0 → J40 S6) ∧ (v9 = 0 → ∃ j42 : Nat, x1 = nI j42 ∧ j42 < 4 ∧
  ∀ v43 : Int32, v43 = S6.a 517 j42 →
  (v43 = (10 : Int32) → J40 S6) ∧ (¬ v43 = (10 : Int32) → sp_X4_placeOf x1 x2 S6 (fun v45 S44 => 
  (0 ≤ v45 → J40 S44) ∧ (¬ 0 ≤ v45 → ∃ j46 : Nat, x2 = nI j46 ∧ j46 < 16 ∧
  ∀ v47 : Int32, v47 = S44.a 512 j46 →
  (v47 = 0 → J10 (0 : Int32) S44) ∧ (¬ v47 = 0 → J40 S44)))))) ∧ (¬ v7 = 0 → Q (0 : Int32) S6)) ∧
  ∃ J48 : MS → Prop, (∀  (S49 : MS), J48  S49 →
  J3 (1 : Int32) S49) ∧
  (v2 = 0 → J48 S1) ∧ (¬ v2 = 0 → sp_X4_isOne x2 S1 (fun v51 S50 => 
  (¬ v51 = 0 → J3 (0 : Int32) S50) ∧ (v51 = 0 → J48 S50))))
def sp_X4_next (x1 : Int32) (x2 : Int32) (S : MS) (Q : Int32 → MS → Prop) : Prop :=
  ∃ Inv2 : Nat → Int32 → Int32 → Int32 → Prop, (∃ n : Nat, Inv2 n (-1 : Int32) x2 (0 : Int32)) ∧ ∀ (n1 : Nat) (y3 : Int32) (y4 : Int32) (y5 : Int32), Inv2 n1 y3 y4 y5 →
  ∃ j6 : Nat, x1 = nI j6 ∧ j6 < 4 ∧
  ∀ v7 : Int32, v7 = S.a 517 j6 →
  (v7 ≤ y5 → Q y3 S) ∧ (¬ v7 ≤ y5 → ∀ v8 : Int32, v8 = (10 : Int32) * x1 →
  ∀ v9 : Int32, v9 = v8 + y5 →
  ∃ j10 : Nat, v9 = nI j10 ∧ j10 < 40 ∧
  ∀ v11 : Int32, v11 = S.a 526 j10 →
  ∃ J12 : Int32 → Int32 → Prop, (∀ (y13 : Int32) (y14 : Int32), J12 y13 y14 →
  ∀ v15 : Int32, v15 = y5 + (1 : Int32) →
  ∃ n : Nat, n < n1 ∧ Inv2 n y13 y14 v15) ∧
  (0 ≤ v11 → J12 y3 y4) ∧ (¬ 0 ≤ v11 → ∃ j16 : Nat, x1 = nI j16 ∧ j16 < 4 ∧
  ∀ v17 : Int32, v17 = S.a 515 j16 →
  ∃ J18 : Int32 → Prop, (∀ (y19 : Int32), J18 y19 →
  ∃ J20 : Int32 → Prop, (∀ (y21 : Int32), J20 y21 →
  ∀ v22 : Int32, v22 = y4 + (-1 : Int32) →
  J12 y21 v22) ∧
  (y19 = 0 → J20 y3) ∧ (¬ y19 = 0 → J20 y5)) ∧
  (¬ v17 = 0 → ∃ J23 : Prop, (J23 →
  J18 (1 : Int32)) ∧
  (y3 < 0 → J23) ∧ (¬ y3 < 0 → ∃ j24 : Nat, v9 = nI j24 ∧ j24 < 40 ∧
  ∀ v25 : Int32, v25 = S.a 521 j24 →
  ∃ j26 : Nat, v25 = nI j26 ∧ j26 < 16 ∧
  ∀ v27 : Int32, v27 = S.a 502 j26 →
  ∀ v28 : Int32, v28 = (10 : Int32) * x1 →
  ∀ v29 : Int32, v29 = v28 + y3 →
  ∃ j30 : Nat, v29 = nI j30 ∧ j30 < 40 ∧
  ∀ v31 : Int32, v31 = S.a 521 j30 →
  ∃ j32 : Nat, v31 = nI j32 ∧ j32 < 16 ∧
  ∀ v33 : Int32, v33 = S.a 502 j32 →
  (v27 ≤ v33 → J18 (0 : Int32)) ∧ (¬ v27 ≤ v33 → J23))) ∧ (v17 = 0 → (¬ y4 = 0 → J18 (0 : Int32)) ∧ (y4 = 0 → J18 (1 : Int32)))))
def sp_X4_start (x1 : Int32) (x2 : Int32) (S : MS) (Q : Int32 → MS → Prop) : Prop :=
  sp_X4_isCircle x1 S (fun v2 S1 => 
  (¬ v2 = 0 → sp_X4_in x2 (0 : Int32) (9999 : Int32) S1 (fun v4 S3 => 
  ∃ J5 : Int32 → Prop, (∀ (y6 : Int32), J5 y6 →
  ∀ S7 : MS, S7 = S3.setS 500 y6 →
  ∀ v8 : Int32, v8 = S7.s 500 →
  (v8 = 0 → ∃ j9 : Nat, x1 = nI j9 ∧ j9 < 4 ∧
  ∀ S10 : MS, S10 = S7.setA 520 j9 (vp_nar .boolean (1 : Int32)) →
  ∃ Inv12 : Nat → Int32 → Int32 → MS → Prop, (∃ n : Nat, Inv12 n (-1 : Int32) (0 : Int32) S10) ∧ ∀ (n11 : Nat) (y13 : Int32) (y14 : Int32) (S15 : MS), Inv12 n11 y13 y14 S15 →
  ∃ j16 : Nat, x1 = nI j16 ∧ j16 < 4 ∧
  ∀ v17 : Int32, v17 = S15.a 517 j16 →
  ∃ J18 : Prop, (J18 →
  Q y13 S15) ∧
  (v17 ≤ y14 → J18) ∧ (¬ v17 ≤ y14 → ∃ j19 : Nat, x1 = nI j19 ∧ j19 < 4 ∧
  ∀ v20 : Int32, v20 = S15.a 515 j19 →
  ((1 : Int32) < v20 → J18) ∧ (¬ (1 : Int32) < v20 → ∀ v21 : Int32, v21 = (31 : Int32) * y14 →
  ∀ v22 : Int32, v22 = x2 + v21 →
  ∃ j23 : Nat, x1 = nI j23 ∧ j23 < 4 ∧
  ∀ v24 : Int32, v24 = S15.a 517 j23 →
  ∀ v25 : Int32, v25 = v24 - y14 →
  ¬ v25 = 0 ∧ ∀ v26 : Int32, v26 = v22 - v22 / v25 * v25 →
  sp_X4_next x1 v26 S15 (fun v28 S27 => 
  ∀ v29 : Int32, v29 = (10 : Int32) * x1 →
  ∀ v30 : Int32, v30 = v29 + v28 →
  ∃ j31 : Nat, v30 = nI j31 ∧ j31 < 40 ∧
  ∀ S32 : MS, S32 = S27.setA 526 j31 y14 →
  ∃ J33 : Int32 → Prop, (∀ (y34 : Int32), J33 y34 →
  ∀ v35 : Int32, v35 = y14 + (1 : Int32) →
  ∃ n : Nat, n < n11 ∧ Inv12 n y34 v35 S32) ∧
  (¬ y14 = 0 → J33 y13) ∧ (y14 = 0 → ∀ v36 : Int32, v36 = (10 : Int32) * x1 →
  ∀ v37 : Int32, v37 = v36 + v28 →
  ∃ j38 : Nat, v37 = nI j38 ∧ j38 < 40 ∧
  ∀ v39 : Int32, v39 = S32.a 521 j38 →
  J33 v39))))) ∧ (¬ v8 = 0 → Q (0 : Int32) S7)) ∧
  (¬ v4 = 0 → ∃ j40 : Nat, x1 = nI j40 ∧ j40 < 4 ∧
  ∀ v41 : Int32, v41 = S3.a 520 j40 →
  ∃ J42 : Prop, (J42 →
  J5 (3 : Int32)) ∧
  (¬ v41 = 0 → J42) ∧ (v41 = 0 → ∃ j43 : Nat, x1 = nI j43 ∧ j43 < 4 ∧
  ∀ v44 : Int32, v44 = S3.a 517 j43 →
  ((2 : Int32) ≤ v44 → J5 (0 : Int32)) ∧ (¬ (2 : Int32) ≤ v44 → J42))) ∧ (v4 = 0 → J5 (2 : Int32)))) ∧ (v2 = 0 → ∀ S45 : MS, S45 = S1.setS 500 (1 : Int32) →
  Q (0 : Int32) S45))
def sp_X4_want (x1 : Int32) (x2 : Int32) (x3 : Int32) (x4 : Int32) (S : MS) (Q : Int32 → MS → Prop) : Prop :=
  sp_X4_isCircle x1 S (fun v2 S1 => 
  ∃ J3 : Int32 → MS → Prop, (∀ (y4 : Int32) (S5 : MS), J3 y4 S5 →
  ∀ S6 : MS, S6 = S5.setS 500 y4 →
  ∀ v7 : Int32, v7 = S6.s 500 →
  (v7 = 0 → ∀ v8 : Int32, v8 = (10 : Int32) * x1 →
  sp_X4_placeOf x1 x2 S6 (fun v10 S9 => 
  ∀ v11 : Int32, v11 = v8 + v10 →
  ∃ J12 : Int32 → Prop, (∀ (y13 : Int32), J12 y13 →
  ∃ J14 : Int32 → Int32 → Prop, (∀ (y15 : Int32) (y16 : Int32), J14 y15 y16 →
  ∃ j17 : Nat, y15 = nI j17 ∧ j17 < 40 ∧
  ∀ S18 : MS, S18 = S9.setA 524 j17 y16 →
  ∃ J19 : Int32 → Int32 → Prop, (∀ (y20 : Int32) (y21 : Int32), J19 y20 y21 →
  ∃ j22 : Nat, y20 = nI j22 ∧ j22 < 40 ∧
  ∀ S23 : MS, S23 = S18.setA 523 j22 y21 →
  Q y13 S23) ∧
  (x4 = 0 → J19 v11 x3) ∧ (¬ x4 = 0 → ∃ j24 : Nat, v11 = nI j24 ∧ j24 < 40 ∧
  ∀ v25 : Int32, v25 = S18.a 523 j24 →
  J19 v11 v25)) ∧
  (x4 = 0 → ∃ j26 : Nat, v11 = nI j26 ∧ j26 < 40 ∧
  ∀ v27 : Int32, v27 = S9.a 524 j26 →
  J14 v11 v27) ∧ (¬ x4 = 0 → J14 v11 x3)) ∧
  (x4 = 0 → ∃ j28 : Nat, v11 = nI j28 ∧ j28 < 40 ∧
  ∀ v29 : Int32, v29 = S9.a 523 j28 →
  J12 v29) ∧ (¬ x4 = 0 → ∃ j30 : Nat, v11 = nI j30 ∧ j30 < 40 ∧
  ∀ v31 : Int32, v31 = S9.a 524 j30 →
  J12 v31))) ∧ (¬ v7 = 0 → Q (0 : Int32) S6)) ∧
  ∃ J32 : MS → Prop, (∀  (S33 : MS), J32  S33 →
  J3 (1 : Int32) S33) ∧
  (v2 = 0 → J32 S1) ∧ (¬ v2 = 0 → sp_X4_isOne x2 S1 (fun v35 S34 => 
  (¬ v35 = 0 → sp_X4_in x3 (0 : Int32) (10000 : Int32) S34 (fun v37 S36 => 
  (¬ v37 = 0 → sp_X4_placeOf x1 x2 S36 (fun v39 S38 => 
  (0 ≤ v39 → J3 (0 : Int32) S38) ∧ (¬ 0 ≤ v39 → J3 (3 : Int32) S38))) ∧ (v37 = 0 → J3 (2 : Int32) S36))) ∧ (v35 = 0 → J32 S34))))
def sp_X4_turnOf (x1 : Int32) (S : MS) (Q : Int32 → MS → Prop) : Prop :=
  ∃ Inv2 : Nat → Int32 → Int32 → Prop, (∃ n : Nat, Inv2 n (-1 : Int32) (0 : Int32)) ∧ ∀ (n1 : Nat) (y3 : Int32) (y4 : Int32), Inv2 n1 y3 y4 →
  ∃ j5 : Nat, x1 = nI j5 ∧ j5 < 4 ∧
  ∀ v6 : Int32, v6 = S.a 517 j5 →
  (v6 ≤ y4 → Q y3 S) ∧ (¬ v6 ≤ y4 → ∀ v7 : Int32, v7 = (10 : Int32) * x1 →
  ∀ v8 : Int32, v8 = v7 + y4 →
  ∀ v9 : Int32, v9 = (10 : Int32) * x1 →
  ∀ v10 : Int32, v10 = v9 + y3 →
  ∃ J11 : Int32 → Prop, (∀ (y12 : Int32), J11 y12 →
  ∃ j13 : Nat, v8 = nI j13 ∧ j13 < 40 ∧
  ∀ v14 : Int32, v14 = S.a 527 j13 →
  ∃ J15 : Int32 → Prop, (∀ (y16 : Int32), J15 y16 →
  ∀ v17 : Int32, v17 = y4 + (1 : Int32) →
  ∃ n : Nat, n < n1 ∧ Inv2 n y16 v17) ∧
  ∃ J18 : Prop, (J18 →
  J15 y3) ∧
  (¬ v14 = 0 → J18) ∧ (v14 = 0 → (y12 = 0 → J18) ∧ (¬ y12 = 0 → J15 y4))) ∧
  ∃ J19 : Prop, (J19 →
  J11 (1 : Int32)) ∧
  (y3 < 0 → J19) ∧ (¬ y3 < 0 → ∃ j20 : Nat, x1 = nI j20 ∧ j20 < 4 ∧
  ∀ v21 : Int32, v21 = S.a 515 j20 →
  ∃ J22 : Prop, (J22 →
  J11 (0 : Int32)) ∧
  ((1 : Int32) < v21 → ∃ j23 : Nat, x1 = nI j23 ∧ j23 < 4 ∧
  ∀ v24 : Int32, v24 = S.a 515 j23 →
  (¬ v24 = (3 : Int32) → ∃ j25 : Nat, v8 = nI j25 ∧ j25 < 40 ∧
  ∀ v26 : Int32, v26 = S.a 523 j25 →
  ∃ j27 : Nat, v10 = nI j27 ∧ j27 < 40 ∧
  ∀ v28 : Int32, v28 = S.a 523 j27 →
  (v26 ≤ v28 → J22) ∧ (¬ v26 ≤ v28 → J19)) ∧ (v24 = (3 : Int32) → ∃ j29 : Nat, v8 = nI j29 ∧ j29 < 40 ∧
  ∀ v30 : Int32, v30 = S.a 524 j29 →
  ∃ j31 : Nat, v10 = nI j31 ∧ j31 < 40 ∧
  ∀ v32 : Int32, v32 = S.a 524 j31 →
  (v30 ≤ v32 → J22) ∧ (¬ v30 ≤ v32 → J19))) ∧ (¬ (1 : Int32) < v21 → ∃ j33 : Nat, v8 = nI j33 ∧ j33 < 40 ∧
  ∀ v34 : Int32, v34 = S.a 526 j33 →
  ∃ j35 : Nat, v10 = nI j35 ∧ j35 < 40 ∧
  ∀ v36 : Int32, v36 = S.a 526 j35 →
  (v36 ≤ v34 → J22) ∧ (¬ v36 ≤ v34 → J19))))
def sp_X4_collects (x1 : Int32) (x2 : Int32) (x3 : Int32) (S : MS) (Q : MS → Prop) : Prop :=
  ∃ j1 : Nat, x2 = nI j1 ∧ j1 < 40 ∧
  ∀ v2 : Int32, v2 = S.a 521 j1 →
  ∃ j3 : Nat, x1 = nI j3 ∧ j3 < 4 ∧
  ∀ v4 : Int32, v4 = S.a 514 j3 →
  ∃ j5 : Nat, x2 = nI j5 ∧ j5 < 40 ∧
  ∀ v6 : Int32, v6 = S.a 522 j5 →
  ∀ v7 : Int32, v7 = v4 + v6 →
  ∃ j8 : Nat, v2 = nI j8 ∧ j8 < 16 ∧
  ∀ v9 : Int32, v9 = S.a 504 j8 →
  ∃ J10 : Int32 → Prop, (∀ (y11 : Int32), J10 y11 →
  sp_X4_pays v2 y11 S (fun S12 => 
  ∃ j13 : Nat, x1 = nI j13 ∧ j13 < 4 ∧
  ∀ v14 : Int32, v14 = S12.a 516 j13 →
  ∀ v15 : Int32, v15 = v14 + y11 →
  ∃ j16 : Nat, x1 = nI j16 ∧ j16 < 4 ∧
  ∀ S17 : MS, S17 = S12.setA 516 j16 v15 →
  ∃ j18 : Nat, x2 = nI j18 ∧ j18 < 40 ∧
  ∀ v19 : Int32, v19 = S17.a 525 j18 →
  ∀ v20 : Int32, v20 = v19 + y11 →
  ∃ j21 : Nat, x2 = nI j21 ∧ j21 < 40 ∧
  ∀ S22 : MS, S22 = S17.setA 525 j21 v20 →
  ∀ v23 : Int32, v23 = v7 - y11 →
  ∃ j24 : Nat, x2 = nI j24 ∧ j24 < 40 ∧
  ∀ S25 : MS, S25 = S22.setA 522 j24 v23 →
  ∃ j26 : Nat, x2 = nI j26 ∧ j26 < 40 ∧
  ∀ v27 : Int32, v27 = S25.a 522 j26 →
  ∃ j28 : Nat, x2 = nI j28 ∧ j28 < 40 ∧
  ∀ v29 : Int32, v29 = S25.a 522 j28 →
  ∃ J30 : Int32 → Int32 → Int32 → Prop, (∀ (y31 : Int32) (y32 : Int32) (y33 : Int32), J30 y31 y32 y33 →
  ∀ v34 : Int32, v34 = y32 + y33 →
  ∃ j35 : Nat, y31 = nI j35 ∧ j35 < 40 ∧
  ∀ S36 : MS, S36 = S25.setA 522 j35 v34 →
  Q S36) ∧
  ∃ J37 : Int32 → Int32 → Prop, (∀ (y38 : Int32) (y39 : Int32), J37 y38 y39 →
  J30 y38 y39 (0 : Int32)) ∧
  (v29 ≤ 0 → J37 x2 v27) ∧ (¬ v29 ≤ 0 → (¬ x3 = 0 → J37 x2 v27) ∧ (x3 = 0 → ∃ j40 : Nat, x1 = nI j40 ∧ j40 < 4 ∧
  ∀ v41 : Int32, v41 = S25.a 514 j40 →
  ¬ (10 : Int32) = 0 ∧ ∀ v42 : Int32, v42 = v41 / (10 : Int32) →
  J30 x2 v27 v42)))) ∧
  (v9 ≤ v7 → ∃ j43 : Nat, v2 = nI j43 ∧ j43 < 16 ∧
  ∀ v44 : Int32, v44 = S.a 504 j43 →
  J10 v44) ∧ (¬ v9 ≤ v7 → J10 v7)
def sp_X4_meet (x1 : Int32) (x2 : Int32) (S : MS) (Q : Int32 → MS → Prop) : Prop :=
  sp_X4_isCircle x1 S (fun v2 S1 => 
  ∃ J3 : Int32 → Prop, (∀ (y4 : Int32), J3 y4 →
  ∀ S5 : MS, S5 = S1.setS 500 y4 →
  ∀ v6 : Int32, v6 = S5.s 500 →
  (v6 = 0 → ∃ Inv8 : Nat → Int32 → MS → Prop, (∃ n : Nat, Inv8 n (0 : Int32) S5) ∧ ∀ (n7 : Nat) (y9 : Int32) (S10 : MS), Inv8 n7 y9 S10 →
  ∃ j11 : Nat, x1 = nI j11 ∧ j11 < 4 ∧
  ∀ v12 : Int32, v12 = S10.a 517 j11 →
  (v12 ≤ y9 → sp_X4_turnOf x1 S10 (fun v14 S13 => 
  ∀ v15 : Int32, v15 = (10 : Int32) * x1 →
  ∀ v16 : Int32, v16 = v15 + v14 →
  ∃ j17 : Nat, v16 = nI j17 ∧ j17 < 40 ∧
  ∀ v18 : Int32, v18 = S13.a 521 j17 →
  ∃ j19 : Nat, x1 = nI j19 ∧ j19 < 4 ∧
  ∀ v20 : Int32, v20 = S13.a 516 j19 →
  ∃ j21 : Nat, x1 = nI j21 ∧ j21 < 4 ∧
  ∀ v22 : Int32, v22 = S13.a 514 j21 →
  ∃ j23 : Nat, x1 = nI j23 ∧ j23 < 4 ∧
  ∀ v24 : Int32, v24 = S13.a 517 j23 →
  ∀ v25 : Int32, v25 = v22 * v24 →
  ∃ J26 : Int32 → Prop, (∀ (y27 : Int32), J26 y27 →
  ∃ j28 : Nat, x1 = nI j28 ∧ j28 < 4 ∧
  ∀ v29 : Int32, v29 = S13.a 515 j28 →
  ∃ J30 : Int32 → Prop, (∀ (y31 : Int32), J30 y31 →
  ¬ (2 : Int32) = 0 ∧ ∀ v32 : Int32, v32 = y27 / (2 : Int32) →
  ∃ J33 : Int32 → Prop, (∀ (y34 : Int32), J33 y34 →
  ∃ j35 : Nat, x1 = nI j35 ∧ j35 < 4 ∧
  ∀ v36 : Int32, v36 = S13.a 517 j35 →
  ∀ v37 : Int32, v37 = v36 - (1 : Int32) →
  ¬ v37 = 0 ∧ ∀ v38 : Int32, v38 = y34 / v37 →
  ∃ Inv40 : Nat → Int32 → MS → Prop, (∃ n : Nat, Inv40 n (0 : Int32) S13) ∧ ∀ (n39 : Nat) (y41 : Int32) (S42 : MS), Inv40 n39 y41 S42 →
  ∃ j43 : Nat, x1 = nI j43 ∧ j43 < 4 ∧
  ∀ v44 : Int32, v44 = S42.a 517 j43 →
  (v44 ≤ y41 → ∀ v45 : Int32, v45 = (10 : Int32) * x1 →
  ∀ v46 : Int32, v46 = v45 + v14 →
  ∃ j47 : Nat, v46 = nI j47 ∧ j47 < 40 ∧
  ∀ S48 : MS, S48 = S42.setA 527 j47 (vp_nar .boolean (1 : Int32)) →
  ∃ j49 : Nat, x1 = nI j49 ∧ j49 < 4 ∧
  ∀ v50 : Int32, v50 = S48.a 518 j49 →
  ∀ v51 : Int32, v51 = v50 + (1 : Int32) →
  ∃ j52 : Nat, x1 = nI j52 ∧ j52 < 4 ∧
  ∀ S53 : MS, S53 = S48.setA 518 j52 v51 →
  sp_X4_rounds x1 S53 (fun S54 => 
  Q v18 S54)) ∧ (¬ v44 ≤ y41 → ∃ J55 : Int32 → Prop, (∀ (y56 : Int32), J55 y56 →
  ∀ v57 : Int32, v57 = (10 : Int32) * x1 →
  ∀ v58 : Int32, v58 = v57 + y41 →
  ∃ j59 : Nat, v58 = nI j59 ∧ j59 < 40 ∧
  ∀ v60 : Int32, v60 = S42.a 521 j59 →
  ∀ v61 : Int32, v61 = -y56 →
  sp_X4_pays v60 v61 S42 (fun S62 => 
  ∃ j63 : Nat, x1 = nI j63 ∧ j63 < 4 ∧
  ∀ v64 : Int32, v64 = S62.a 516 j63 →
  ∀ v65 : Int32, v65 = v64 - y56 →
  ∃ j66 : Nat, x1 = nI j66 ∧ j66 < 4 ∧
  ∀ S67 : MS, S67 = S62.setA 516 j66 v65 →
  ∀ v68 : Int32, v68 = (10 : Int32) * x1 →
  ∀ v69 : Int32, v69 = v68 + y41 →
  ∃ j70 : Nat, v69 = nI j70 ∧ j70 < 40 ∧
  ∀ S71 : MS, S71 = S67.setA 524 j70 (0 : Int32) →
  ∀ v72 : Int32, v72 = y41 + (1 : Int32) →
  ∃ n : Nat, n < n39 ∧ Inv40 n v72 S71)) ∧
  (¬ y41 = v14 → J55 v38) ∧ (y41 = v14 → ∀ v73 : Int32, v73 = y27 - y34 →
  J55 v73))) ∧
  (v32 ≤ y31 → ¬ (2 : Int32) = 0 ∧ ∀ v74 : Int32, v74 = y27 / (2 : Int32) →
  J33 v74) ∧ (¬ v32 ≤ y31 → J33 y31)) ∧
  (¬ v29 = (3 : Int32) → J30 (0 : Int32)) ∧ (v29 = (3 : Int32) → ∀ v75 : Int32, v75 = (10 : Int32) * x1 →
  ∀ v76 : Int32, v76 = v75 + v14 →
  ∃ j77 : Nat, v76 = nI j77 ∧ j77 < 40 ∧
  ∀ v78 : Int32, v78 = S13.a 524 j77 →
  J30 v78)) ∧
  (v25 ≤ v20 → ∃ j79 : Nat, x1 = nI j79 ∧ j79 < 4 ∧
  ∀ v80 : Int32, v80 = S13.a 514 j79 →
  ∃ j81 : Nat, x1 = nI j81 ∧ j81 < 4 ∧
  ∀ v82 : Int32, v82 = S13.a 517 j81 →
  ∀ v83 : Int32, v83 = v80 * v82 →
  J26 v83) ∧ (¬ v25 ≤ v20 → ∃ j84 : Nat, x1 = nI j84 ∧ j84 < 4 ∧
  ∀ v85 : Int32, v85 = S13.a 516 j84 →
  J26 v85))) ∧ (¬ v12 ≤ y9 → ∀ v86 : Int32, v86 = (10 : Int32) * x1 →
  ∀ v87 : Int32, v87 = v86 + y9 →
  sp_X4_collects x1 v87 x2 S10 (fun S88 => 
  ∀ v89 : Int32, v89 = y9 + (1 : Int32) →
  ∃ n : Nat, n < n7 ∧ Inv8 n v89 S88))) ∧ (¬ v6 = 0 → Q (0 : Int32) S5)) ∧
  (¬ v2 = 0 → ∃ j90 : Nat, x1 = nI j90 ∧ j90 < 4 ∧
  ∀ v91 : Int32, v91 = S1.a 520 j90 →
  ∃ J92 : Prop, (J92 →
  J3 (2 : Int32)) ∧
  (v91 = 0 → J92) ∧ (¬ v91 = 0 → ∃ j93 : Nat, x1 = nI j93 ∧ j93 < 4 ∧
  ∀ v94 : Int32, v94 = S1.a 517 j93 →
  ((2 : Int32) ≤ v94 → J3 (0 : Int32)) ∧ (¬ (2 : Int32) ≤ v94 → J92))) ∧ (v2 = 0 → J3 (1 : Int32)))
def sp_X4_leave (x1 : Int32) (x2 : Int32) (S : MS) (Q : Int32 → MS → Prop) : Prop :=
  sp_X4_isCircle x1 S (fun v2 S1 => 
  ∃ J3 : Int32 → MS → Prop, (∀ (y4 : Int32) (S5 : MS), J3 y4 S5 →
  ∀ S6 : MS, S6 = S5.setS 500 y4 →
  ∀ v7 : Int32, v7 = S6.s 500 →
  (v7 = 0 → sp_X4_placeOf x1 x2 S6 (fun v9 S8 => 
  ∃ J10 : Int32 → Prop, (∀ (y11 : Int32), J10 y11 →
  ∀ S12 : MS, S12 = S8.setS 500 y11 →
  ∀ v13 : Int32, v13 = S12.s 500 →
  (v13 = 0 → ∀ v14 : Int32, v14 = (10 : Int32) * x1 →
  ∀ v15 : Int32, v15 = v14 + v9 →
  ∃ j16 : Nat, v15 = nI j16 ∧ j16 < 40 ∧
  ∀ v17 : Int32, v17 = S12.a 525 j16 →
  ∃ j18 : Nat, x1 = nI j18 ∧ j18 < 4 ∧
  ∀ v19 : Int32, v19 = S12.a 516 j18 →
  ∃ J20 : Int32 → Prop, (∀ (y21 : Int32), J20 y21 →
  ∃ j22 : Nat, x1 = nI j22 ∧ j22 < 4 ∧
  ∀ v23 : Int32, v23 = S12.a 516 j22 →
  ∀ v24 : Int32, v24 = v23 - y21 →
  ∃ j25 : Nat, x1 = nI j25 ∧ j25 < 4 ∧
  ∀ S26 : MS, S26 = S12.setA 516 j25 v24 →
  ∀ v27 : Int32, v27 = -y21 →
  sp_X4_pays x2 v27 S26 (fun S28 => 
  sp_X4_goes x1 v9 S28 (fun S29 => 
  Q y21 S29))) ∧
  (v19 ≤ v17 → ∃ j30 : Nat, x1 = nI j30 ∧ j30 < 4 ∧
  ∀ v31 : Int32, v31 = S12.a 516 j30 →
  J20 v31) ∧ (¬ v19 ≤ v17 → J20 v17)) ∧ (¬ v13 = 0 → Q (0 : Int32) S12)) ∧
  ∃ J32 : Prop, (J32 →
  J10 (2 : Int32)) ∧
  (v9 < 0 → J32) ∧ (¬ v9 < 0 → ∀ v33 : Int32, v33 = (10 : Int32) * x1 →
  ∀ v34 : Int32, v34 = v33 + v9 →
  ∃ j35 : Nat, v34 = nI j35 ∧ j35 < 40 ∧
  ∀ v36 : Int32, v36 = S8.a 527 j35 →
  (¬ v36 = 0 → J32) ∧ (v36 = 0 → ∀ v37 : Int32, v37 = (10 : Int32) * x1 →
  ∀ v38 : Int32, v38 = v37 + v9 →
  ∃ j39 : Nat, v38 = nI j39 ∧ j39 < 40 ∧
  ∀ v40 : Int32, v40 = S8.a 522 j39 →
  (v40 ≤ 0 → J10 (0 : Int32)) ∧ (¬ v40 ≤ 0 → J32))))) ∧ (¬ v7 = 0 → Q (0 : Int32) S6)) ∧
  ∃ J41 : MS → Prop, (∀  (S42 : MS), J41  S42 →
  J3 (1 : Int32) S42) ∧
  (v2 = 0 → J41 S1) ∧ (¬ v2 = 0 → sp_X4_isOne x2 S1 (fun v44 S43 => 
  (¬ v44 = 0 → J3 (0 : Int32) S43) ∧ (v44 = 0 → J41 S43))))
def sp_X4_buy (x1 : Int32) (x2 : Int32) (S : MS) (Q : Int32 → MS → Prop) : Prop :=
  sp_X4_isOne x1 S (fun v2 S1 => 
  (¬ v2 = 0 → sp_X4_in x2 (1 : Int32) (100 : Int32) S1 (fun v4 S3 => 
  ∃ J5 : Int32 → Prop, (∀ (y6 : Int32), J5 y6 →
  ∀ S7 : MS, S7 = S3.setS 500 y6 →
  ∀ v8 : Int32, v8 = S7.s 500 →
  (v8 = 0 → ∀ v9 : Int32, v9 = (10 : Int32) * x2 →
  sp_X4_pays x1 v9 S7 (fun S10 => 
  ∀ v11 : Int32, v11 = S10.s 528 →
  ∀ v12 : Int32, v12 = (10 : Int32) * x2 →
  ∀ v13 : Int32, v13 = v11 + v12 →
  ∀ S14 : MS, S14 = S10.setS 528 v13 →
  ∃ j15 : Nat, x1 = nI j15 ∧ j15 < 16 ∧
  ∀ v16 : Int32, v16 = S14.a 505 j15 →
  ∀ v17 : Int32, v17 = v16 + x2 →
  ∃ j18 : Nat, x1 = nI j18 ∧ j18 < 16 ∧
  ∀ S19 : MS, S19 = S14.setA 505 j18 v17 →
  ∃ j20 : Nat, x1 = nI j20 ∧ j20 < 16 ∧
  ∀ v21 : Int32, v21 = S19.a 505 j20 →
  Q v21 S19)) ∧ (¬ v8 = 0 → Q (0 : Int32) S7)) ∧
  (¬ v4 = 0 → ∃ j22 : Nat, x1 = nI j22 ∧ j22 < 16 ∧
  ∀ v23 : Int32, v23 = S3.a 512 j22 →
  ∃ J24 : Prop, (J24 →
  J5 (3 : Int32)) ∧
  (¬ v23 = 0 → J24) ∧ (v23 = 0 → ∃ j25 : Nat, x1 = nI j25 ∧ j25 < 16 ∧
  ∀ v26 : Int32, v26 = S3.a 505 j25 →
  ∀ v27 : Int32, v27 = v26 + x2 →
  ((100 : Int32) < v27 → J24) ∧ (¬ (100 : Int32) < v27 → ∃ j28 : Nat, x1 = nI j28 ∧ j28 < 16 ∧
  ∀ v29 : Int32, v29 = S3.a 504 j28 →
  ∀ v30 : Int32, v30 = (10 : Int32) * x2 →
  (v30 ≤ v29 → J5 (0 : Int32)) ∧ (¬ v30 ≤ v29 → J24)))) ∧ (v4 = 0 → J5 (2 : Int32)))) ∧ (v2 = 0 → ∀ S31 : MS, S31 = S1.setS 500 (1 : Int32) →
  Q (0 : Int32) S31))
def sp_X4_house (x1 : Int32) (x2 : Int32) (S : MS) (Q : Int32 → MS → Prop) : Prop :=
  ∃ Inv2 : Nat → Int32 → Int32 → MS → Prop, (∃ n : Nat, Inv2 n (0 : Int32) (0 : Int32) S) ∧ ∀ (n1 : Nat) (y3 : Int32) (y4 : Int32) (S5 : MS), Inv2 n1 y3 y4 S5 →
  ∀ v6 : Int32, v6 = S5.s 501 →
  (v6 ≤ y4 → Q y3 S5) ∧ (¬ v6 ≤ y4 → ∃ j7 : Nat, y4 = nI j7 ∧ j7 < 16 ∧
  ∀ v8 : Int32, v8 = S5.a 512 j7 →
  ∃ J9 : Int32 → Int32 → MS → Prop, (∀ (y10 : Int32) (y11 : Int32) (S12 : MS), J9 y10 y11 S12 →
  ∀ v13 : Int32, v13 = y10 + y11 →
  ∀ v14 : Int32, v14 = y4 + (1 : Int32) →
  ∃ n : Nat, n < n1 ∧ Inv2 n v13 v14 S12) ∧
  ∃ J15 : Int32 → MS → Prop, (∀ (y16 : Int32) (S17 : MS), J15 y16 S17 →
  J9 y16 (0 : Int32) S17) ∧
  (¬ v8 = 0 → J15 y3 S5) ∧ (v8 = 0 → ∃ j18 : Nat, x1 = nI j18 ∧ j18 < 16 ∧
  ∀ v19 : Int32, v19 = S5.a 503 j18 →
  ∃ j20 : Nat, y4 = nI j20 ∧ j20 < 16 ∧
  ∀ v21 : Int32, v21 = S5.a 503 j20 →
  sp_X4_areAlike v19 v21 S5 (fun v23 S22 => 
  (v23 = 0 → J15 y3 S22) ∧ (¬ v23 = 0 → (x2 = 0 → J9 y3 (1 : Int32) S22) ∧ (¬ x2 = 0 → ∃ j24 : Nat, y4 = nI j24 ∧ j24 < 16 ∧
  ∀ v25 : Int32, v25 = S22.a 506 j24 →
  J9 y3 v25 S22)))))
def sp_X4_has (x1 : Int32) (S : MS) (Q : Int32 → MS → Prop) : Prop :=
  ∃ j1 : Nat, x1 = nI j1 ∧ j1 < 16 ∧
  ∀ v2 : Int32, v2 = S.a 512 j1 →
  ∃ J3 : Int32 → Prop, (∀ (y4 : Int32), J3 y4 →
  (y4 = 0 ∨ y4 = 1) ∧ Q y4 S) ∧
  ∃ J5 : Prop, (J5 →
  J3 (0 : Int32)) ∧
  (¬ v2 = 0 → J5) ∧ (v2 = 0 → ∃ j6 : Nat, x1 = nI j6 ∧ j6 < 16 ∧
  ∀ v7 : Int32, v7 = S.a 505 j6 →
  (v7 ≤ 0 → J5) ∧ (¬ v7 ≤ 0 → J3 (1 : Int32)))
def sp_X4_borrow (x1 : Int32) (x2 : Int32) (x3 : Int32) (x4 : Int32) (S : MS) (Q : Int32 → MS → Prop) : Prop :=
  sp_X4_isOne x1 S (fun v2 S1 => 
  ∃ J3 : Int32 → MS → Prop, (∀ (y4 : Int32) (S5 : MS), J3 y4 S5 →
  ∀ S6 : MS, S6 = S5.setS 500 y4 →
  ∀ v7 : Int32, v7 = S6.s 500 →
  (v7 = 0 → sp_X4_has x1 S6 (fun v9 S8 => 
  ∃ J10 : Int32 → MS → Prop, (∀ (y11 : Int32) (S12 : MS), J10 y11 S12 →
  ∃ J13 : Int32 → MS → Prop, (∀ (y14 : Int32) (S15 : MS), J13 y14 S15 →
  ∀ S16 : MS, S16 = S15.setS 500 y14 →
  ∀ v17 : Int32, v17 = S16.s 500 →
  (v17 = 0 → ∀ v18 : Int32, v18 = -x2 →
  sp_X4_pays x1 v18 S16 (fun S19 => 
  ∀ v20 : Int32, v20 = S19.s 528 →
  ∀ v21 : Int32, v21 = v20 - x2 →
  ∀ S22 : MS, S22 = S19.setS 528 v21 →
  ∃ j23 : Nat, x1 = nI j23 ∧ j23 < 16 ∧
  ∀ S24 : MS, S24 = S22.setA 506 j23 x2 →
  ∃ j25 : Nat, x1 = nI j25 ∧ j25 < 16 ∧
  ∀ S26 : MS, S26 = S24.setA 507 j25 (0 : Int32) →
  ∃ j27 : Nat, x1 = nI j27 ∧ j27 < 16 ∧
  ∀ S28 : MS, S28 = S26.setA 508 j27 x3 →
  ∃ j29 : Nat, x1 = nI j29 ∧ j29 < 16 ∧
  ∀ S30 : MS, S30 = S28.setA 509 j29 x4 →
  ∃ j31 : Nat, x1 = nI j31 ∧ j31 < 16 ∧
  ∀ v32 : Int32, v32 = S30.a 504 j31 →
  Q v32 S30)) ∧ (¬ v17 = 0 → Q (0 : Int32) S16)) ∧
  ∃ J33 : MS → Prop, (∀  (S34 : MS), J33  S34 →
  J13 (3 : Int32) S34) ∧
  (y11 = 0 → J33 S12) ∧ (¬ y11 = 0 → ∃ j35 : Nat, x1 = nI j35 ∧ j35 < 16 ∧
  ∀ v36 : Int32, v36 = S12.a 510 j35 →
  ∀ v37 : Int32, v37 = (1 : Int32) + v36 →
  ∀ v38 : Int32, v38 = (50 : Int32) * v37 →
  (v38 < x2 → J33 S12) ∧ (¬ v38 < x2 → sp_X4_house x1 (1 : Int32) S12 (fun v40 S39 => 
  ∀ v41 : Int32, v41 = v40 + x2 →
  ((500 : Int32) < v41 → J33 S39) ∧ (¬ (500 : Int32) < v41 → ∀ v42 : Int32, v42 = S39.s 528 →
  (x2 ≤ v42 → J13 (0 : Int32) S39) ∧ (¬ x2 ≤ v42 → J33 S39)))))) ∧
  ∃ J43 : MS → Prop, (∀  (S44 : MS), J43  S44 →
  J10 (0 : Int32) S44) ∧
  (v9 = 0 → J43 S8) ∧ (¬ v9 = 0 → sp_X4_has x3 S8 (fun v46 S45 => 
  (v46 = 0 → J43 S45) ∧ (¬ v46 = 0 → sp_X4_has x4 S45 (fun v48 S47 => 
  (v48 = 0 → J43 S47) ∧ (¬ v48 = 0 → ∃ j49 : Nat, x1 = nI j49 ∧ j49 < 16 ∧
  ∀ v50 : Int32, v50 = S47.a 506 j49 →
  (¬ v50 = 0 → J43 S47) ∧ (v50 = 0 → J10 (1 : Int32) S47)))))))) ∧ (¬ v7 = 0 → Q (0 : Int32) S6)) ∧
  ∃ J51 : MS → Prop, (∀  (S52 : MS), J51  S52 →
  J3 (1 : Int32) S52) ∧
  (v2 = 0 → J51 S1) ∧ (¬ v2 = 0 → sp_X4_isOne x3 S1 (fun v54 S53 => 
  (v54 = 0 → J51 S53) ∧ (¬ v54 = 0 → sp_X4_isOne x4 S53 (fun v56 S55 => 
  (¬ v56 = 0 → ∃ J57 : MS → Prop, (∀  (S58 : MS), J57  S58 →
  J3 (2 : Int32) S58) ∧
  (x1 = x3 → J57 S55) ∧ (¬ x1 = x3 → (x1 = x4 → J57 S55) ∧ (¬ x1 = x4 → (x3 = x4 → J57 S55) ∧ (¬ x3 = x4 → sp_X4_in x2 (1 : Int32) (1000 : Int32) S55 (fun v60 S59 => 
  (¬ v60 = 0 → J3 (0 : Int32) S59) ∧ (v60 = 0 → J57 S59)))))) ∧ (v56 = 0 → J51 S55))))))
def sp_X4_repay (x1 : Int32) (x2 : Int32) (S : MS) (Q : Int32 → MS → Prop) : Prop :=
  sp_X4_isOne x1 S (fun v2 S1 => 
  (¬ v2 = 0 → ∃ j3 : Nat, x1 = nI j3 ∧ j3 < 16 ∧
  ∀ v4 : Int32, v4 = S1.a 506 j3 →
  ∃ J5 : Int32 → Prop, (∀ (y6 : Int32), J5 y6 →
  sp_X4_in x2 (1 : Int32) (10000 : Int32) S1 (fun v8 S7 => 
  ∃ J9 : Int32 → Prop, (∀ (y10 : Int32), J9 y10 →
  ∀ S11 : MS, S11 = S7.setS 500 y10 →
  ∀ v12 : Int32, v12 = S11.s 500 →
  (v12 = 0 → sp_X4_pays x1 y6 S11 (fun S13 => 
  ∀ v14 : Int32, v14 = S13.s 528 →
  ∀ v15 : Int32, v15 = v14 + y6 →
  ∀ S16 : MS, S16 = S13.setS 528 v15 →
  ∃ j17 : Nat, x1 = nI j17 ∧ j17 < 16 ∧
  ∀ v18 : Int32, v18 = S16.a 506 j17 →
  ∀ v19 : Int32, v19 = v18 - y6 →
  ∃ j20 : Nat, x1 = nI j20 ∧ j20 < 16 ∧
  ∀ S21 : MS, S21 = S16.setA 506 j20 v19 →
  ∃ j22 : Nat, x1 = nI j22 ∧ j22 < 16 ∧
  ∀ v23 : Int32, v23 = S21.a 510 j22 →
  ∃ j24 : Nat, x1 = nI j24 ∧ j24 < 16 ∧
  ∀ v25 : Int32, v25 = S21.a 506 j24 →
  ∃ J26 : Int32 → Int32 → Int32 → Prop, (∀ (y27 : Int32) (y28 : Int32) (y29 : Int32), J26 y27 y28 y29 →
  ∀ v30 : Int32, v30 = y28 + y29 →
  ∃ j31 : Nat, y27 = nI j31 ∧ j31 < 16 ∧
  ∀ S32 : MS, S32 = S21.setA 510 j31 v30 →
  ∃ j33 : Nat, x1 = nI j33 ∧ j33 < 16 ∧
  ∀ v34 : Int32, v34 = S32.a 506 j33 →
  Q v34 S32) ∧
  (¬ v25 = 0 → J26 x1 v23 (0 : Int32)) ∧ (v25 = 0 → J26 x1 v23 (1 : Int32)))) ∧ (¬ v12 = 0 → Q (0 : Int32) S11)) ∧
  (¬ v8 = 0 → ∃ j35 : Nat, x1 = nI j35 ∧ j35 < 16 ∧
  ∀ v36 : Int32, v36 = S7.a 506 j35 →
  ∃ J37 : Prop, (J37 →
  J9 (3 : Int32)) ∧
  (v36 = 0 → J37) ∧ (¬ v36 = 0 → ∃ j38 : Nat, x1 = nI j38 ∧ j38 < 16 ∧
  ∀ v39 : Int32, v39 = S7.a 504 j38 →
  (y6 ≤ v39 → J9 (0 : Int32)) ∧ (¬ y6 ≤ v39 → J37))) ∧ (v8 = 0 → J9 (2 : Int32)))) ∧
  (v4 ≤ x2 → ∃ j40 : Nat, x1 = nI j40 ∧ j40 < 16 ∧
  ∀ v41 : Int32, v41 = S1.a 506 j40 →
  J5 v41) ∧ (¬ v4 ≤ x2 → J5 x2)) ∧ (v2 = 0 → ∀ S42 : MS, S42 = S1.setS 500 (1 : Int32) →
  Q (0 : Int32) S42))
def sp_X4_vouches (x1 : Int32) (x2 : Int32) (S : MS) (Q : MS → Prop) : Prop :=
  ∃ j1 : Nat, x1 = nI j1 ∧ j1 < 16 ∧
  ∀ v2 : Int32, v2 = S.a 512 j1 →
  ∃ J3 : Int32 → Prop, (∀ (y4 : Int32), J3 y4 →
  sp_X4_pays x1 y4 S (fun S5 => 
  ∀ v6 : Int32, v6 = S5.s 528 →
  ∀ v7 : Int32, v7 = v6 + y4 →
  ∀ S8 : MS, S8 = S5.setS 528 v7 →
  Q S8)) ∧
  (v2 = 0 → ∃ j9 : Nat, x1 = nI j9 ∧ j9 < 16 ∧
  ∀ v10 : Int32, v10 = S.a 504 j9 →
  (v10 ≤ x2 → ∃ j11 : Nat, x1 = nI j11 ∧ j11 < 16 ∧
  ∀ v12 : Int32, v12 = S.a 504 j11 →
  J3 v12) ∧ (¬ v10 ≤ x2 → J3 x2)) ∧ (¬ v2 = 0 → J3 (0 : Int32))
def sp_X4_month (x1 : Int32) (S : MS) (Q : Int32 → MS → Prop) : Prop :=
  ∀ S1 : MS, S1 = S.setS 500 (0 : Int32) →
  ∃ Inv3 : Nat → Int32 → Int32 → MS → Prop, (∃ n : Nat, Inv3 n (0 : Int32) (0 : Int32) S1) ∧ ∀ (n2 : Nat) (y4 : Int32) (y5 : Int32) (S6 : MS), Inv3 n2 y4 y5 S6 →
  ∀ v7 : Int32, v7 = S6.s 501 →
  ∃ J8 : Prop, (J8 →
  Q y4 S6) ∧
  (v7 ≤ y5 → J8) ∧ (¬ v7 ≤ y5 → (¬ x1 = 0 → J8) ∧ (x1 = 0 → ∃ j9 : Nat, y5 = nI j9 ∧ j9 < 16 ∧
  ∀ v10 : Int32, v10 = S6.a 506 j9 →
  ∃ J11 : Int32 → MS → Prop, (∀ (y12 : Int32) (S13 : MS), J11 y12 S13 →
  ∀ v14 : Int32, v14 = y5 + (1 : Int32) →
  ∃ n : Nat, n < n2 ∧ Inv3 n y12 v14 S13) ∧
  (v10 ≤ 0 → J11 y4 S6) ∧ (¬ v10 ≤ 0 → ∃ j15 : Nat, y5 = nI j15 ∧ j15 < 16 ∧
  ∀ v16 : Int32, v16 = S6.a 506 j15 →
  ∃ j17 : Nat, y5 = nI j17 ∧ j17 < 16 ∧
  ∀ v18 : Int32, v18 = S6.a 506 j17 →
  ∀ v19 : Int32, v19 = v18 + (19 : Int32) →
  ¬ (20 : Int32) = 0 ∧ ∀ v20 : Int32, v20 = v19 / (20 : Int32) →
  ∀ v21 : Int32, v21 = v16 + v20 →
  ∃ j22 : Nat, y5 = nI j22 ∧ j22 < 16 ∧
  ∀ S23 : MS, S23 = S6.setA 506 j22 v21 →
  ∃ j24 : Nat, y5 = nI j24 ∧ j24 < 16 ∧
  ∀ v25 : Int32, v25 = S23.a 507 j24 →
  ∀ v26 : Int32, v26 = v25 + (1 : Int32) →
  ∃ j27 : Nat, y5 = nI j27 ∧ j27 < 16 ∧
  ∀ S28 : MS, S28 = S23.setA 507 j27 v26 →
  ∃ j29 : Nat, y5 = nI j29 ∧ j29 < 16 ∧
  ∀ v30 : Int32, v30 = S28.a 507 j29 →
  (v30 ≤ (6 : Int32) → J11 y4 S28) ∧ (¬ v30 ≤ (6 : Int32) → ∃ j31 : Nat, y5 = nI j31 ∧ j31 < 16 ∧
  ∀ v32 : Int32, v32 = S28.a 506 j31 →
  ¬ (2 : Int32) = 0 ∧ ∀ v33 : Int32, v33 = v32 / (2 : Int32) →
  ∃ j34 : Nat, y5 = nI j34 ∧ j34 < 16 ∧
  ∀ v35 : Int32, v35 = S28.a 506 j34 →
  ∀ v36 : Int32, v36 = v35 - v33 →
  ∃ j37 : Nat, y5 = nI j37 ∧ j37 < 16 ∧
  ∀ S38 : MS, S38 = S28.setA 506 j37 (0 : Int32) →
  ∃ j39 : Nat, y5 = nI j39 ∧ j39 < 16 ∧
  ∀ S40 : MS, S40 = S38.setA 510 j39 (0 : Int32) →
  ∃ j41 : Nat, y5 = nI j41 ∧ j41 < 16 ∧
  ∀ v42 : Int32, v42 = S40.a 508 j41 →
  sp_X4_vouches v42 v33 S40 (fun S43 => 
  ∃ j44 : Nat, y5 = nI j44 ∧ j44 < 16 ∧
  ∀ v45 : Int32, v45 = S43.a 509 j44 →
  sp_X4_vouches v45 v36 S43 (fun S46 => 
  ∀ v47 : Int32, v47 = y4 + (1 : Int32) →
  J11 v47 S46))))))
def sp_X4_feast  (S : MS) (Q : Int32 → MS → Prop) : Prop :=
  ∃ Inv2 : Nat → Int32 → Int32 → Int32 → Prop, (∃ n : Nat, Inv2 n (0 : Int32) (0 : Int32) (0 : Int32)) ∧ ∀ (n1 : Nat) (y3 : Int32) (y4 : Int32) (y5 : Int32), Inv2 n1 y3 y4 y5 →
  ∀ v6 : Int32, v6 = S.s 501 →
  (v6 ≤ y5 → ∃ J7 : Int32 → Prop, (∀ (y8 : Int32), J7 y8 →
  ∀ S9 : MS, S9 = S.setS 500 y8 →
  ∀ v10 : Int32, v10 = S9.s 500 →
  (v10 = 0 → ∀ v11 : Int32, v11 = S9.s 528 →
  ¬ y3 = 0 ∧ ∀ v12 : Int32, v12 = v11 / y3 →
  ∃ Inv14 : Nat → Int32 → MS → Prop, (∃ n : Nat, Inv14 n (0 : Int32) S9) ∧ ∀ (n13 : Nat) (y15 : Int32) (S16 : MS), Inv14 n13 y15 S16 →
  ∀ v17 : Int32, v17 = S16.s 501 →
  (v17 ≤ y15 → Q v12 S16) ∧ (¬ v17 ≤ y15 → ∀ v18 : Int32, v18 = -v12 →
  ∃ j19 : Nat, y15 = nI j19 ∧ j19 < 16 ∧
  ∀ v20 : Int32, v20 = S16.a 505 j19 →
  ∀ v21 : Int32, v21 = v18 * v20 →
  sp_X4_pays y15 v21 S16 (fun S22 => 
  ∀ v23 : Int32, v23 = S22.s 528 →
  ∃ j24 : Nat, y15 = nI j24 ∧ j24 < 16 ∧
  ∀ v25 : Int32, v25 = S22.a 505 j24 →
  ∀ v26 : Int32, v26 = v12 * v25 →
  ∀ v27 : Int32, v27 = v23 - v26 →
  ∀ S28 : MS, S28 = S22.setS 528 v27 →
  ∃ j29 : Nat, y15 = nI j29 ∧ j29 < 16 ∧
  ∀ S30 : MS, S30 = S28.setA 505 j29 (0 : Int32) →
  ∀ v31 : Int32, v31 = y15 + (1 : Int32) →
  ∃ n : Nat, n < n13 ∧ Inv14 n v31 S30))) ∧ (¬ v10 = 0 → Q (0 : Int32) S9)) ∧
  ∃ J32 : Prop, (J32 →
  J7 (1 : Int32)) ∧
  (y3 = 0 → J32) ∧ (¬ y3 = 0 → (y4 ≤ 0 → J7 (0 : Int32)) ∧ (¬ y4 ≤ 0 → J32))) ∧ (¬ v6 ≤ y5 → ∃ j33 : Nat, y5 = nI j33 ∧ j33 < 16 ∧
  ∀ v34 : Int32, v34 = S.a 505 j33 →
  ∀ v35 : Int32, v35 = y3 + v34 →
  ∃ j36 : Nat, y5 = nI j36 ∧ j36 < 16 ∧
  ∀ v37 : Int32, v37 = S.a 506 j36 →
  ∀ v38 : Int32, v38 = y4 + v37 →
  ∀ v39 : Int32, v39 = y5 + (1 : Int32) →
  ∃ n : Nat, n < n1 ∧ Inv2 n v35 v38 v39)
def sp_X4_note (x1 : Int32) (x2 : Int32) (x3 : Int32) (S : MS) (Q : Int32 → MS → Prop) : Prop :=
  sp_X4_in x1 (0 : Int32) (2 : Int32) S (fun v2 S1 => 
  ∃ J3 : Int32 → MS → Prop, (∀ (y4 : Int32) (S5 : MS), J3 y4 S5 →
  ∀ S6 : MS, S6 = S5.setS 500 y4 →
  ∀ v7 : Int32, v7 = S6.s 500 →
  (v7 = 0 → ∀ v8 : Int32, v8 = (16 : Int32) * x1 →
  ∀ v9 : Int32, v9 = v8 + x2 →
  ∃ j10 : Nat, v9 = nI j10 ∧ j10 < 48 ∧
  ∀ v11 : Int32, v11 = S6.a 530 j10 →
  ∀ v12 : Int32, v12 = v11 + x3 →
  ∃ j13 : Nat, v9 = nI j13 ∧ j13 < 48 ∧
  ∀ S14 : MS, S14 = S6.setA 530 j13 v12 →
  ∀ v15 : Int32, v15 = (16 : Int32) * x1 →
  ∀ v16 : Int32, v16 = v15 + x2 →
  ∃ j17 : Nat, v16 = nI j17 ∧ j17 < 48 ∧
  ∀ v18 : Int32, v18 = S14.a 530 j17 →
  Q v18 S14) ∧ (¬ v7 = 0 → Q (0 : Int32) S6)) ∧
  ∃ J19 : MS → Prop, (∀  (S20 : MS), J19  S20 →
  J3 (1 : Int32) S20) ∧
  (v2 = 0 → J19 S1) ∧ (¬ v2 = 0 → sp_X4_isOne x2 S1 (fun v22 S21 => 
  (¬ v22 = 0 → sp_X4_in x3 (-10000 : Int32) (10000 : Int32) S21 (fun v24 S23 => 
  (¬ v24 = 0 → J3 (0 : Int32) S23) ∧ (v24 = 0 → J3 (2 : Int32) S23))) ∧ (v22 = 0 → J19 S21))))
def sp_X4_audit (x1 : Int32) (S : MS) (Q : Int32 → MS → Prop) : Prop :=
  sp_X4_in x1 (0 : Int32) (2 : Int32) S (fun v2 S1 => 
  ∃ J3 : Int32 → Prop, (∀ (y4 : Int32), J3 y4 →
  ∀ S5 : MS, S5 = S1.setS 500 y4 →
  ∀ v6 : Int32, v6 = S5.s 501 →
  ∀ v7 : Int32, v7 = v6 - (1 : Int32) →
  ∃ Inv9 : Nat → Int32 → Int32 → Prop, (∃ n : Nat, Inv9 n (-1 : Int32) v7) ∧ ∀ (n8 : Nat) (y10 : Int32) (y11 : Int32), Inv9 n8 y10 y11 →
  ∃ J12 : Prop, (J12 →
  ∀ v13 : Int32, v13 = S5.s 500 →
  ∃ J14 : Int32 → Prop, (∀ (y15 : Int32), J14 y15 →
  Q y15 S5) ∧
  (v13 = 0 → J14 y10) ∧ (¬ v13 = 0 → J14 (0 : Int32))) ∧
  (y11 < 0 → J12) ∧ (¬ y11 < 0 → ∀ v16 : Int32, v16 = S5.s 500 →
  (¬ v16 = 0 → J12) ∧ (v16 = 0 → ∀ v17 : Int32, v17 = (16 : Int32) * x1 →
  ∀ v18 : Int32, v18 = v17 + y11 →
  ∃ j19 : Nat, v18 = nI j19 ∧ j19 < 48 ∧
  ∀ v20 : Int32, v20 = S5.a 530 j19 →
  ∃ j21 : Nat, y11 = nI j21 ∧ j21 < 16 ∧
  ∀ v22 : Int32, v22 = S5.a 511 j21 →
  ∃ J23 : Int32 → Prop, (∀ (y24 : Int32), J23 y24 →
  ∀ v25 : Int32, v25 = y11 + (-1 : Int32) →
  ∃ n : Nat, n < n8 ∧ Inv9 n y24 v25) ∧
  (¬ v20 = v22 → J23 y11) ∧ (v20 = v22 → J23 y10)))) ∧
  (v2 = 0 → J3 (1 : Int32)) ∧ (¬ v2 = 0 → J3 (0 : Int32)))
def sp_X4_of (x1 : Int32) (x2 : Int32) (S : MS) (Q : Int32 → MS → Prop) : Prop :=
  sp_X4_isOne x1 S (fun v2 S1 => 
  ∃ J3 : Int32 → MS → Prop, (∀ (y4 : Int32) (S5 : MS), J3 y4 S5 →
  ∀ S6 : MS, S6 = S5.setS 500 y4 →
  ∀ v7 : Int32, v7 = S6.s 500 →
  (v7 = 0 → ∃ j8 : Nat, x1 = nI j8 ∧ j8 < 16 ∧
  ∀ v9 : Int32, v9 = S6.a 512 j8 →
  ∃ J10 : Int32 → Prop, (∀ (y11 : Int32), J10 y11 →
  ∃ J12 : Int32 → MS → Prop, (∀ (y13 : Int32) (S14 : MS), J12 y13 S14 →
  Q y13 S14) ∧
  (¬ x2 = 0 → (¬ x2 = (1 : Int32) → (¬ x2 = (2 : Int32) → (¬ x2 = (3 : Int32) → (¬ x2 = (4 : Int32) → (¬ x2 = (5 : Int32) → sp_X4_house x1 (0 : Int32) S6 (fun v16 S15 => 
  J12 v16 S15)) ∧ (x2 = (5 : Int32) → J12 y11 S6)) ∧ (x2 = (4 : Int32) → ∃ j17 : Nat, x1 = nI j17 ∧ j17 < 16 ∧
  ∀ v18 : Int32, v18 = S6.a 511 j17 →
  J12 v18 S6)) ∧ (x2 = (3 : Int32) → ∃ j19 : Nat, x1 = nI j19 ∧ j19 < 16 ∧
  ∀ v20 : Int32, v20 = S6.a 510 j19 →
  J12 v20 S6)) ∧ (x2 = (2 : Int32) → ∃ j21 : Nat, x1 = nI j21 ∧ j21 < 16 ∧
  ∀ v22 : Int32, v22 = S6.a 506 j21 →
  J12 v22 S6)) ∧ (x2 = (1 : Int32) → ∃ j23 : Nat, x1 = nI j23 ∧ j23 < 16 ∧
  ∀ v24 : Int32, v24 = S6.a 505 j23 →
  J12 v24 S6)) ∧ (x2 = 0 → ∃ j25 : Nat, x1 = nI j25 ∧ j25 < 16 ∧
  ∀ v26 : Int32, v26 = S6.a 504 j25 →
  J12 v26 S6)) ∧
  (v9 = 0 → J10 (1 : Int32)) ∧ (¬ v9 = 0 → J10 (0 : Int32))) ∧ (¬ v7 = 0 → Q (0 : Int32) S6)) ∧
  (¬ v2 = 0 → sp_X4_in x2 (0 : Int32) (6 : Int32) S1 (fun v28 S27 => 
  (¬ v28 = 0 → J3 (0 : Int32) S27) ∧ (v28 = 0 → J3 (2 : Int32) S27))) ∧ (v2 = 0 → J3 (1 : Int32) S1))
def sp_X4_member (x1 : Int32) (x2 : Int32) (x3 : Int32) (S : MS) (Q : Int32 → MS → Prop) : Prop :=
  sp_X4_isCircle x1 S (fun v2 S1 => 
  ∃ J3 : Int32 → MS → Prop, (∀ (y4 : Int32) (S5 : MS), J3 y4 S5 →
  ∀ S6 : MS, S6 = S5.setS 500 y4 →
  ∀ v7 : Int32, v7 = S6.s 500 →
  (v7 = 0 → sp_X4_placeOf x1 x2 S6 (fun v9 S8 => 
  (0 ≤ v9 → ∀ v10 : Int32, v10 = (10 : Int32) * x1 →
  ∀ v11 : Int32, v11 = v10 + v9 →
  ∃ J12 : Int32 → Prop, (∀ (y13 : Int32), J12 y13 →
  Q y13 S8) ∧
  (¬ x3 = 0 → (¬ x3 = (1 : Int32) → (¬ x3 = (2 : Int32) → J12 v9) ∧ (x3 = (2 : Int32) → ∃ j14 : Nat, v11 = nI j14 ∧ j14 < 40 ∧
  ∀ v15 : Int32, v15 = S8.a 525 j14 →
  J12 v15)) ∧ (x3 = (1 : Int32) → ∃ j16 : Nat, v11 = nI j16 ∧ j16 < 40 ∧
  ∀ v17 : Int32, v17 = S8.a 527 j16 →
  (v17 = 0 → J12 (0 : Int32)) ∧ (¬ v17 = 0 → J12 (1 : Int32)))) ∧ (x3 = 0 → ∃ j18 : Nat, v11 = nI j18 ∧ j18 < 40 ∧
  ∀ v19 : Int32, v19 = S8.a 522 j18 →
  J12 v19)) ∧ (¬ 0 ≤ v9 → Q (-1 : Int32) S8))) ∧ (¬ v7 = 0 → Q (0 : Int32) S6)) ∧
  ∃ J20 : MS → Prop, (∀  (S21 : MS), J20  S21 →
  J3 (1 : Int32) S21) ∧
  (v2 = 0 → J20 S1) ∧ (¬ v2 = 0 → sp_X4_isOne x2 S1 (fun v23 S22 => 
  (¬ v23 = 0 → sp_X4_in x3 (0 : Int32) (3 : Int32) S22 (fun v25 S24 => 
  (¬ v25 = 0 → J3 (0 : Int32) S24) ∧ (v25 = 0 → J3 (2 : Int32) S24))) ∧ (v23 = 0 → J20 S22))))
def sp_X4_ofCircle (x1 : Int32) (x2 : Int32) (S : MS) (Q : Int32 → MS → Prop) : Prop :=
  sp_X4_isCircle x1 S (fun v2 S1 => 
  ∃ J3 : Int32 → MS → Prop, (∀ (y4 : Int32) (S5 : MS), J3 y4 S5 →
  ∀ S6 : MS, S6 = S5.setS 500 y4 →
  ∀ v7 : Int32, v7 = S6.s 500 →
  (v7 = 0 → ∃ j8 : Nat, x1 = nI j8 ∧ j8 < 4 ∧
  ∀ v9 : Int32, v9 = S6.a 520 j8 →
  ∃ J10 : Int32 → MS → Prop, (∀ (y11 : Int32) (S12 : MS), J10 y11 S12 →
  ∃ J13 : Int32 → Prop, (∀ (y14 : Int32), J13 y14 →
  ∃ J15 : Int32 → Prop, (∀ (y16 : Int32), J15 y16 →
  Q y16 S12) ∧
  (¬ x2 = 0 → (¬ x2 = (1 : Int32) → (¬ x2 = (2 : Int32) → (¬ x2 = (3 : Int32) → J15 y14) ∧ (x2 = (3 : Int32) → ∃ j17 : Nat, x1 = nI j17 ∧ j17 < 4 ∧
  ∀ v18 : Int32, v18 = S12.a 519 j17 →
  J15 v18)) ∧ (x2 = (2 : Int32) → ∃ j19 : Nat, x1 = nI j19 ∧ j19 < 4 ∧
  ∀ v20 : Int32, v20 = S12.a 518 j19 →
  J15 v20)) ∧ (x2 = (1 : Int32) → ∃ j21 : Nat, x1 = nI j21 ∧ j21 < 4 ∧
  ∀ v22 : Int32, v22 = S12.a 517 j21 →
  J15 v22)) ∧ (x2 = 0 → ∃ j23 : Nat, x1 = nI j23 ∧ j23 < 4 ∧
  ∀ v24 : Int32, v24 = S12.a 516 j23 →
  J15 v24)) ∧
  (0 ≤ y11 → ∀ v25 : Int32, v25 = (10 : Int32) * x1 →
  ∀ v26 : Int32, v26 = v25 + y11 →
  ∃ j27 : Nat, v26 = nI j27 ∧ j27 < 40 ∧
  ∀ v28 : Int32, v28 = S12.a 521 j27 →
  J13 v28) ∧ (¬ 0 ≤ y11 → J13 (-1 : Int32))) ∧
  (v9 = 0 → J10 (-1 : Int32) S6) ∧ (¬ v9 = 0 → sp_X4_turnOf x1 S6 (fun v30 S29 => 
  J10 v30 S29))) ∧ (¬ v7 = 0 → Q (0 : Int32) S6)) ∧
  (¬ v2 = 0 → sp_X4_in x2 (0 : Int32) (4 : Int32) S1 (fun v32 S31 => 
  (¬ v32 = 0 → J3 (0 : Int32) S31) ∧ (v32 = 0 → J3 (2 : Int32) S31))) ∧ (v2 = 0 → J3 (1 : Int32) S1))
def sp_X4_cash  (S : MS) (Q : Int32 → MS → Prop) : Prop :=
  ∀ S1 : MS, S1 = S.setS 500 (0 : Int32) →
  ∀ v2 : Int32, v2 = S1.s 528 →
  Q v2 S1
def sp_X4_coins  (S : MS) (Q : Int32 → MS → Prop) : Prop :=
  ∀ S1 : MS, S1 = S.setS 500 (0 : Int32) →
  ∀ v2 : Int32, v2 = S1.s 529 →
  ∀ v3 : Int32, v3 = S1.s 528 →
  ∀ v4 : Int32, v4 = v2 - v3 →
  ∃ Inv6 : Nat → Int32 → Int32 → Prop, (∃ n : Nat, Inv6 n v4 (0 : Int32)) ∧ ∀ (n5 : Nat) (y7 : Int32) (y8 : Int32), Inv6 n5 y7 y8 →
  ∀ v9 : Int32, v9 = S1.s 501 →
  (v9 ≤ y8 → ∃ Inv11 : Nat → Int32 → Int32 → Prop, (∃ n : Nat, Inv11 n y7 (0 : Int32)) ∧ ∀ (n10 : Nat) (y12 : Int32) (y13 : Int32), Inv11 n10 y12 y13 →
  ∀ v14 : Int32, v14 = S1.s 513 →
  (v14 ≤ y13 → Q y12 S1) ∧ (¬ v14 ≤ y13 → ∃ j15 : Nat, y13 = nI j15 ∧ j15 < 4 ∧
  ∀ v16 : Int32, v16 = S1.a 516 j15 →
  ∀ v17 : Int32, v17 = y12 - v16 →
  ∀ v18 : Int32, v18 = y13 + (1 : Int32) →
  ∃ n : Nat, n < n10 ∧ Inv11 n v17 v18)) ∧ (¬ v9 ≤ y8 → ∃ j19 : Nat, y8 = nI j19 ∧ j19 < 16 ∧
  ∀ v20 : Int32, v20 = S1.a 504 j19 →
  ∀ v21 : Int32, v21 = y7 - v20 →
  ∀ v22 : Int32, v22 = y8 + (1 : Int32) →
  ∃ n : Nat, n < n5 ∧ Inv6 n v21 v22)
/-- the law's row of names: where it lies, and what stands in it (told by one number) -/
def nmd (o j : Nat) : Int32 := nI (o / 100000 ^ j % 100000)
def RepM (w : Wd) (mo o : Nat) (_ : MS) : Prop := w.K mo = 11 ∧ w.N mo = 7 ∧ ∀ j, j < 7 → w.A mo j = nmd o j
