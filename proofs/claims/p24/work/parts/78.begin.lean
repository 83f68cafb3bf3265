-- ===== the law's start, and the whole walk
theorem rem_big {V m : Nat} (hV : V < 2 ^ 31) (h0 : 0 < m) (hm : m < 2 ^ 10) : nI V - nI V / nI m * nI m = nI (V % m) := by
  have h1 : (nI m).toInt = m := nI_toInt (by omega)
  have h2 : (nI V).toInt = V := nI_toInt (by omega)
  have hle : V / m ≤ V := Nat.div_le_self _ _
  have hd : nI V / nI m = nI (V / m) := by
    apply Int32.toInt_inj.mp
    rw [Int32.toInt_div_of_ne_right _ _ (fun z => by rw [z] at h1; have : (-1 : Int32).toInt = -1 := by decide
                                                     omega), h1, h2, nI_toInt (by omega)]
    exact Int.ofNat_tdiv V m |>.symm
  rw [hd]
  apply Int32.toInt_inj.mp
  have h3 : (nI (V / m)).toInt = ((V / m : Nat) : Int) := nI_toInt (by omega)
  have h4 : V / m * m ≤ V := Nat.div_mul_le_self _ _
  have h5 : V % m + V / m * m = V := by rw [Nat.mul_comm]; exact Nat.mod_add_div V m
  have h6 : ((V / m : Nat) : Int) * (m : Int) = ((V / m * m : Nat) : Int) := by rw [Int.natCast_mul]
  have h7 : (nI (V / m) * nI m).toInt = ((V / m * m : Nat) : Int) := by rw [z_mul (by rw [h3, h1, h6]; omega) (by rw [h3, h1, h6]; omega), h3, h1, h6]
  rw [z_sub (by rw [h2, h7]; omega) (by rw [h2, h7]; omega), h2, h7, nI_toInt (by omega)]
  omega
theorem dru_nn (x : Int32) : ∃ D, D < 2 ^ 31 ∧ dru x = nI D := by
  obtain ⟨u, hu⟩ : ∃ u, u = x.toUInt32 >>> ((1 : Int32).toUInt32 &&& Int32.toUInt32 31) := ⟨_, rfl⟩
  have h1 : u.toNat < 2 ^ 31 := by
    rw [hu, UInt32.toNat_shiftRight]
    have e : ((1 : Int32).toUInt32 &&& Int32.toUInt32 31).toNat % 32 = 1 := by decide
    rw [e, Nat.shiftRight_eq_div_pow]
    have := x.toUInt32.toNat_lt
    omega
  refine ⟨u.toNat, h1, ?_⟩
  unfold dru
  rw [← hu]
  apply Int32.toInt_inj.mp
  rw [nI_toInt h1]
  show u.toBitVec.toInt = _
  rw [BitVec.toInt_eq_toNat_of_lt (by show 2 * u.toNat < 2 ^ 32; omega)]
  rfl
theorem drd_in (L : Nat) (xs : Nat → Int32) (k : Nat) {m : Nat} (h0 : 0 < m) (hm : m < 2 ^ 10) : ∃ V, V < m ∧ drd L xs k (nI m) = nI V := by
  obtain ⟨D, h1, h2⟩ := dru_nn (drv L xs k)
  refine ⟨D % m, Nat.mod_lt _ h0, ?_⟩
  unfold drd
  rw [h2, rem_big h1 h0 hm]
theorem drn {L : Nat} {xs : Nat → Int32} {a : Int32} {k m : Nat} {w : Wd} {Q : Int32 → Wd → Prop} (ha : a = nI k) (hk : k < 1000) (h0 : 0 < m) (hm : m < 2 ^ 10) (hQ : ∀ V, V < m → Q (nI V) w) : wp_L_drawn L xs a (nI m) w Q := by
  obtain ⟨V, h1, h2⟩ := drd_in L xs k h0 hm
  exact ⟨k, ha, hk, fun z => by have := (nI_eq (b := 0) (by omega) (by decide)).mp z; omega, by rw [h2]; exact hQ V h1⟩
/-- names by figures -/
theorem ncode {o c j : Nat} (h : o < 100000 ^ j) (hc : c < 100000) : (∀ i, i < j → (o + c * 100000 ^ j) / 100000 ^ i % 100000 = o / 100000 ^ i % 100000) ∧ (o + c * 100000 ^ j) / 100000 ^ j % 100000 = c ∧ (∀ i, j < i → (o + c * 100000 ^ j) / 100000 ^ i % 100000 = 0) ∧ o + c * 100000 ^ j < 100000 ^ (j + 1) := by
  have hp : ∀ i, 0 < 100000 ^ i := fun i => Nat.pow_pos (by decide)
  have hlt : o + c * 100000 ^ j < 100000 ^ (j + 1) := by
    have h1 : (c + 1) * 100000 ^ j ≤ 100000 * 100000 ^ j := Nat.mul_le_mul_right _ (by omega)
    rw [Nat.add_mul] at h1
    rw [Nat.pow_succ, Nat.mul_comm _ 100000]; omega
  refine ⟨fun i hi => ?_, ?_, fun i hi => ?_, hlt⟩
  · have e : c * 100000 ^ j = (c * 100000 ^ (j - i - 1) * 100000) * 100000 ^ i := by
      rw [Nat.mul_assoc, Nat.mul_assoc]
      congr 1
      rw [← Nat.pow_succ', ← Nat.pow_add]
      congr 1; omega
    rw [e, Nat.add_mul_div_right _ _ (hp i), Nat.add_mul_mod_self_right]
  · rw [Nat.add_mul_div_right _ _ (hp j), Nat.div_eq_of_lt h, Nat.zero_add, Nat.mod_eq_of_lt hc]
  · have h2 : o + c * 100000 ^ j < 100000 ^ i := Nat.lt_of_lt_of_le hlt (Nat.pow_le_pow_right (by decide) hi)
    rw [Nat.div_eq_of_lt h2]
def sO (G : GH) (o : Nat) : GH := (G.x, G.li, G.P, G.T, G.C, G.L, G.O, G.tn, G.mo, G.ma, o)
theorem RC.name {w : Wd} {G : GH} {S S0 : MS} {j o' : Nat} {v : Int32} (h : RC w G S S0) (ho : ∀ i, i < 7 → nmd o' i = if i = j then v else nmd G.o i) : RC (w.setA G.mo j v) (sO G o') S S0 := by
  obtain ⟨q1, q2, q3, q4, q5, q6, q7⟩ := h
  refine ⟨⟨q1.1, q1.2.1, fun i hi => ?_⟩, q2, q3, q4, ⟨q5.1, q5.2.1, q5.2.2.1, fun i b hi hb => ?_⟩, q6, q7⟩
  · show up2 w.A G.mo j v G.mo i = nmd o' i
    rw [ho i hi]
    by_cases e : i = j
    · rw [if_pos e, e, up2_eq]
    · rw [if_neg e, up2_ne (fun z => e z.2)]
      exact q1.2.2 i hi
  · show up2 w.A G.mo j v (G.T i) b = _
    rw [up2_ne (fun z => q4.2.2.1 i hi z.1)]
    exact q5.2.2.2 i b hi hb
theorem AT.name {x mo o o' j : Nat} {S : MS} {w : Wd} {v : Int32} (h : AT x mo o S w) (ho : ∀ i, i < 7 → nmd o' i = if i = j then v else nmd o i) : AT x mo o' S (w.setA mo j v) := by
  obtain ⟨G, rfl, rfl, rfl, q⟩ := h
  exact ⟨sO G o', rfl, rfl, rfl, q.name ho⟩
def BN (j o : Nat) (S : MS) : Prop := nP S = j ∧ nC S = 2 ∧ (∀ c, c < 2 → (S.a 514 c).toInt ≤ 40) ∧ (∀ r q, r ≠ 502 → r ≠ 503 → r ≠ 504 → r ≠ 514 → r ≠ 515 → S.a r q = 0) ∧ (∀ q, (S.a 504 q).toInt = if q < j then 200 else 0) ∧ (∀ q, q < j → S.a 503 q = nmd o q) ∧ S.s 528 = 0 ∧ (S.s 529).toInt = 200 * (j : Int)
theorem sumf_0 {f : Nat → Int32} : ∀ k, (∀ x, x < k → f x = 0) → sumf f k = 0 := by
  intro k
  induction k with
  | zero => intro _; rfl
  | succ k ih => intro h; rw [sumf, ih (fun x hx => h x (by omega)), h k (by omega), Int32.toInt_zero]; rfl
theorem BN.st {o n : Nat} {S : MS} (h : BN 7 o S) (v : JV n S) : ST o 0 n S := by
  obtain ⟨b1, b2, b3, b4, b5, b6, b7, b8⟩ := h
  have z : ∀ r q, r ≠ 502 → r ≠ 503 → r ≠ 504 → r ≠ 514 → r ≠ 515 → (S.a r q).toInt = 0 := fun r q a b c d e => by rw [b4 r q a b c d e, Int32.toInt_zero]
  have m0 : ∀ c, mn S c = 0 := fun c => by unfold mn; rw [b4 517 c (by decide) (by decide) (by decide) (by decide) (by decide)]; rfl
  have i0 : (0 : Int32).toInt = 0 := Int32.toInt_zero
  have hDD : DDm S = 0 := sumf_0 16 (fun x _ => b4 506 x (by decide) (by decide) (by decide) (by decide) (by decide))
  have hBB : BBm S = 0 := sumf_0 4 (fun x _ => b4 516 x (by decide) (by decide) (by decide) (by decide) (by decide))
  have has : ∀ c, asum S c = 0 := fun c => by unfold asum; rw [m0]; rfl
  have hAA : AAm S = 0 := by unfold AAm; rw [has, has]; rfl
  have hmt : mt S = 0 := by unfold mt; rw [z 518 0 (by decide) (by decide) (by decide) (by decide) (by decide), z 518 1 (by decide) (by decide) (by decide) (by decide) (by decide)]; rfl
  have ar : ∀ c q x, AR S c q x → x = 0 := fun c q x hx => by
    rcases hx with ⟨k, k1, -⟩ | ⟨-, k1⟩
    · rw [m0] at k1; exact absurd k1 (Nat.not_lt_zero _)
    · exact k1
  refine ⟨v, ⟨b1, b2, b3, fun c i _ hm => ?_, fun c _ => ?_, fun q _ _ => b4 505 q (by decide) (by decide) (by decide) (by decide) (by decide), b6, fun q _ => b4 530 _ (by decide) (by decide) (by decide) (by decide) (by decide)⟩, fun _ => 0, 0, 0, 0, 0, fun _ => 0, fun _ => 1, 0, ⟨fun q => ?_, fun q _ => ?_, rfl, fun c k _ hk => ?_, fun c _ => ?_, fun q x y _ _ hx hy => ?_, ⟨?_, fun c _ hs => ?_, Nat.le_refl _⟩, fun q _ => ?_, fun q _ => ?_, fun q hq _ => ?_, fun q _ => ?_, ?_, Or.inl hmt⟩⟩
  · obtain ⟨k, k1, -⟩ := hm
    rw [m0] at k1; exact absurd k1 (Nat.not_lt_zero _)
  · unfold PR
    rw [z 519 c (by decide) (by decide) (by decide) (by decide) (by decide), z 518 c (by decide) (by decide) (by decide) (by decide) (by decide)]
    refine ⟨by decide, by decide, by decide, fun hx => ?_⟩
    obtain ⟨k, k1, -⟩ := hx
    rw [m0] at k1; exact absurd k1 (Nat.not_lt_zero _)
  · rw [b4 511 q (by decide) (by decide) (by decide) (by decide) (by decide)]; rfl
  · refine ⟨?_, Nat.zero_le 1, fun _ => Nat.le_refl 1, fun hd => absurd (b4 512 q (by decide) (by decide) (by decide) (by decide) (by decide)) hd⟩
    rw [z 506 q (by decide) (by decide) (by decide) (by decide) (by decide)]; exact Int.natCast_nonneg _
  · rw [m0] at hk; exact absurd hk (Nat.not_lt_zero _)
  · rw [z 518 c (by decide) (by decide) (by decide) (by decide) (by decide)]; exact Int.le_refl _
  · rw [ar 0 q x hx, ar 1 q y hy, hDD, hmt]
    show (0 : Int) + 0 + 0 + 0 ≤ 44 * (0 * ((0 : Nat) : Int)) + 0
    decide
  · rw [hmt]
    show ((0 : Nat) : Int) + 0 + ((0 : Nat) : Int) + ((ns (fun _ => 2 * 0 - 1) 7 : Nat) : Int) + ((0 : Nat) : Int) ≤ ((0 : Nat) : Int)
    decide
  · exact absurd (b4 520 c (by decide) (by decide) (by decide) (by decide) (by decide)) hs
  · rw [hDD]
    show (0 : Int) + 0 ≤ 200 * (((0 : Nat) : Int) - ((0 : Nat) : Int)) + ((cw 0 : Nat) : Int)
    decide
  · rw [b7, hDD, hBB, hAA, hmt]
    show -(0 : Int) + (0 : Int32).toInt + 0 + 0 + 0 ≤ 308 * 0 + 0
    decide
  · rw [b8, b5, if_pos hq]
    show 200 * ((7 : Nat) : Int) - ((0 : Int) + 200) ≤ 1200 + 539 * ((0 : Nat) : Int)
    decide
  · show -(0 : Int) ≤ 1200 + 539 * ((0 : Nat) : Int)
    decide
  · decide
section GS
variable {L : Nat} {xs : Nat → Int32} {x mo o k n : Nat} {S : MS} {w : Wd}
theorem b_167 {y23 : Int32} (hk : k ≤ 49) (hnm : NM o) (hJ : JJ x mo o k y23 w) : wpc_167 L xs x mo (50 - k) (IM x mo o) y23 (nI k) w := by
  obtain ⟨rfl, S, n, hn, h, st⟩ := hJ
  have v := st.1
  have p1 := st.2.1.1
  have e4 : ∀ d, d < 100 → (4 : Int32) * nI k + nI d = nI (4 * k + d) := fun d hd => by
    rw [show (4 : Int32) = nI 4 from rfl, muln (by omega) (by decide) (by omega), addn (by omega)]
  intro v72 h72 v73 h73
  refine drn (k := 4 * k + 18) (m := 20) (by rw [h73, h72]; exact e4 18 (by decide)) (by omega) (by decide) (by decide) (fun W hW v76 h76 v77 h77 => ?_)
  refine drn (k := 4 * k + 19) (m := 7) (by rw [h77, h76]; exact e4 19 (by decide)) (by omega) (by decide) (by decide) (fun p hp v80 h80 v81 h81 => ?_)
  refine drn (k := 4 * k + 20) (m := 840) (by rw [h81, h80]; exact e4 20 (by decide)) (by omega) (by decide) (by decide) (fun V hV v84 h84 => ?_)
  refine ⟨by decide, fun v85 h85 v86 h86 => ⟨by decide, fun v87 h87 => ⟨by decide, fun v88 h88 => ?_⟩⟩⟩
  obtain ⟨q, hq⟩ : ∃ q, q = (p + 1 + V % 6) % 7 := ⟨_, rfl⟩
  obtain ⟨c, hc⟩ : ∃ c, c = V % 2 := ⟨_, rfl⟩
  have e87 : v87 = nI q := by
    have e1 : v84 = nI (p + 1) := by rw [h84, show (1 : Int32) = nI 1 from rfl, addn (by omega)]
    have e2 : v85 = nI (V % 6) := by rw [h85, show (6 : Int32) = nI 6 from rfl, rem_nI (by omega) (by decide) (by decide)]
    have e3 : v86 = nI (p + 1 + V % 6) := by rw [h86, e1, e2, addn (by omega)]
    rw [h87, e3, show (7 : Int32) = nI 7 from rfl, rem_nI (by omega) (by decide) (by decide), hq]
  have e88 : v88 = nI c := by rw [h88, show (2 : Int32) = nI 2 from rfl, rem_nI (by omega) (by decide) (by decide), hc]
  have hq7 : q < 7 := by omega
  have hpq : p ≠ q := by omega
  have hc2 : c < 2 := by omega
  have hpP : p < nP S := by rw [p1]; exact hp
  rw [e87, e88]
  refine h.of v hpP (by decide) (by decide) (fun w1 h1 => h1.of v hpP (by decide) (by decide) (fun w2 h2 => ?_))
  rw [fof_0, fof_4]
  refine ⟨JJ x mo o (k + 1), fun y w hj => b_1583 hk hnm hp hj, fun _ => ⟨fun _ => ⟨fun _ => ⟨fun _ => ⟨fun _ => ⟨fun _ => ⟨fun _ => ⟨fun _ => ⟨fun _ => ⟨fun _ => ⟨fun _ => ⟨fun _ => ⟨rfl, S, n, by omega, h2, st.up⟩, fun _ => b_1425 h2 st hn hk hp hq7 hpq⟩, fun _ => b_1367 h2 st hn hk hp hq7⟩, fun _ => b_1259 h2 st hn hk hp⟩, fun _ => b_1130 h2 st hn hk hp hV⟩, fun _ => b_884 h2 st hn hk hnm hp hq7 hpq hV⟩, fun _ => b_752 h2 st hn hk hp hV⟩, fun _ => b_614 h2 st hn hk hp hc2⟩, fun _ => b_513 h2 st hn hk hc2⟩, fun _ => b_454 h2 st hn hk hp hc2 hV⟩, fun _ => b_393 h2 st hn hk hc2 hV⟩, fun _ => b_328 h2 st hn hk hp hc2⟩, fun _ => b_258 h2 st hn hk hp hV⟩
theorem b_156 (hnm : NM o) (hJ : JJ x mo o 0 1 w) : wpc_156 L xs x mo 1 w := by
  refine ⟨IM x mo o, ⟨50, by decide, 0, by decide, rfl, rfl, hJ⟩, fun n21 y23 y24 w25 hI => ?_⟩
  obtain ⟨k, hk, rfl, rfl, hj⟩ := hI
  refine ⟨True, fun _ => b_1649 hk hj, fun _ => trivial, fun hc => ⟨fun _ => trivial, fun _ => b_167 ?_ hnm hj⟩⟩
  have : k < 50 := Nat.lt_of_not_le (fun z => hc (nI_le (a := 50) z (by omega)))
  omega
/-- people, one after another -/
def PI (x mo : Nat) (m : Nat) (y18 y19 : Int32) (w : Wd) : Prop := ∃ j o S n, j ≤ 7 ∧ m = 7 - j ∧ y19 = nI j ∧ y18 = 1 ∧ AT x mo o S w ∧ JV n S ∧ n ≤ 2 + 2 * j ∧ BN j o S ∧ o < 100000 ^ j ∧ ∀ q, q < j → ∃ a b, a < 3 ∧ b < 3 ∧ o / 100000 ^ q % 100000 = 10101 * a + b
theorem b_67 {o n : Nat} {S : MS} (h : AT x mo o S w) (v : JV n S) (hn : n ≤ 2) (ho : o = 0) (bn : BN 0 o S) : wpc_67 L xs x mo 1 w := by
  refine ⟨PI x mo, ⟨7, by decide, 0, o, S, n, by decide, rfl, rfl, rfl, h, v, hn, bn, by rw [ho]; decide, fun q hq => absurd hq (Nat.not_lt_zero _)⟩, fun n16 y18 y19 w20 hI => ?_⟩
  obtain ⟨j, o, S, n, hj, rfl, rfl, rfl, h20, v, hn, bn, ho, hnm⟩ := hI
  refine ⟨fun hc => ?_, fun hc => ?_⟩
  · have := (nI_leI (a := 7) (by decide) (by omega)).mp hc
    have e : j = 7 := by omega
    subst e
    exact b_156 hnm ⟨rfl, S, n, by omega, h20, bn.st v⟩
  · have hj7 : j < 7 := Nat.lt_of_not_le (fun z => hc (nI_le (a := 7) z (by omega)))
    intro v430 h430
    refine drn (k := 4 + j) (m := 3) (by rw [h430, show (4 : Int32) = nI 4 from rfl, addn (by omega)]) (by omega) (by decide) (by decide) (fun a ha v433 h433 v434 h434 => ?_)
    refine drn (k := 11 + j) (m := 3) (by rw [h434, show (11 : Int32) = nI 11 from rfl, addn (by omega)]) (by omega) (by decide) (by decide) (fun b hb v437 h437 => ?_)
    have e437 : v437 = nI (10101 * a + b) := by
      rw [h437, h433, show (10101 : Int32) = nI 10101 from rfl, muln (by omega) (by omega) (by decide), addn (by omega), Nat.mul_comm]
    obtain ⟨r1, r2, r3⟩ := h20.row
    obtain ⟨c1, c2, c3, c4⟩ := ncode ho (show 10101 * a + b < 100000 by omega)
    obtain ⟨o', ho'⟩ : ∃ o', o' = o + (10101 * a + b) * 100000 ^ j := ⟨_, rfl⟩
    rw [← ho'] at c1 c2 c3 c4
    have onm : ∀ i, i < 7 → nmd o' i = if i = j then v437 else nmd o i := fun i _ => by
      by_cases e : i = j
      · subst e
        rw [if_pos rfl, e437]; unfold nmd; rw [c2]
      · rw [if_neg e]; unfold nmd
        rcases Nat.lt_or_ge i j with z | z
        · rw [c1 i z]
        · rw [c3 i (by omega), Nat.div_eq_of_lt (Nat.lt_of_lt_of_le ho (Nat.pow_le_pow_right (by decide) z))]
    refine ⟨r1, j, rfl, by omega, by omega, fun w439 h439 => ?_⟩
    have h9 : AT x mo o' S w439 := by rw [h439]; exact h20.name onm
    obtain ⟨s1, s2, s3⟩ := h9.row
    refine ⟨fun y w => y = 1 ∧ ∃ S' n', AT x mo o' S' w ∧ JV n' S' ∧ n' ≤ 2 + 2 * (j + 1) ∧ BN (j + 1) o' S', fun y w hy v443 h443 => ?_, fun _ => False, fun _ z => z.elim, fun z => absurd z (by decide), fun _ v446 h446 v447 h447 => ⟨s1, j, rfl, by omega, by omega, fun v449 h449 => ?_⟩⟩
    · obtain ⟨rfl, S', n', g1, g2, g3, g4⟩ := hy
      refine ⟨7 - (j + 1), by omega, j + 1, o', S', n', by omega, rfl, by rw [h443, nI_1], rfl, g1, g2, g3, g4, c4, fun q hq => ?_⟩
      by_cases e : q = j
      · subst e; exact ⟨a, b, ha, hb, c2⟩
      · obtain ⟨a', b', g5, g6, g7⟩ := hnm q (by omega)
        exact ⟨a', b', g5, g6, by rw [c1 q (by omega)]; exact g7⟩
    · have e449 : v449 = nI (10101 * a + b) := by
        rw [h449, s3 j hj7, onm j hj7, if_pos rfl, e437]
      have e447 : v447 = nI (20 + 5 * j) := by
        rw [h447, h446, show (5 : Int32) = nI 5 from rfl, muln (by omega) (by decide) (by omega), show (20 : Int32) = nI 20 from rfl, addn (by omega)]
      have i449 : v449.toInt = ((10101 * a + b : Nat) : Int) := by rw [e449, nI_toInt (by omega)]
      have i447 : v447.toInt = ((20 + 5 * j : Nat) : Int) := by rw [e447, nI_toInt (by omega)]
      obtain ⟨b1, b2, b3, b4, b5, b6, b7, b8⟩ := bn
      obtain ⟨r, S1, hI, hm⟩ := h9.person0 (x1 := v447) (x2 := v449) v
      have v1 := jv_person v hI
      rcases hI with ⟨-, hx⟩ | ⟨-, hx⟩ | ⟨i1, i2, i3, i4, rfl⟩
      · exfalso
        rcases hx with (hx | hx) | hx | hx
        · rw [i_lt, i447, show (1 : Int32).toInt = 1 by decide] at hx; omega
        · rw [i_leI, i447, show (120 : Int32).toInt = 120 by decide] at hx; omega
        · rw [i_lt, i449, Int32.toInt_zero] at hx; omega
        · rw [i_leI, i449, show (99999 : Int32).toInt = 99999 by decide] at hx; omega
      · exact absurd (by rw [b1]; omega) hx
      · obtain ⟨X, hX⟩ : ∃ X, X = S.setS 500 0 := ⟨_, rfl⟩
        have xa : ∀ r q, X.a r q = S.a r q := fun r q => by rw [hX]; rfl
        have xp : nP X = nP S := by rw [hX]; rfl
        have xc : nC X = nC S := by rw [hX]; rfl
        have xs' : ∀ f, f ≠ 500 → X.s f = S.s f := fun f hf => by rw [hX, s_f hf]
        obtain ⟨Y, hY⟩ : ∃ Y, Y = fpers (S.setS 500 0) v447 v449 := ⟨_, rfl⟩
        rw [← hY] at hm v1
        have yp : nP Y = j + 1 := by rw [hY, ← hX, fpers_p (by rw [xp]; omega), xp, b1]
        have y0 : Y.s 500 = 0 := by rw [hY, fpers_s (by decide)]; rfl
        have hjY : j < nP Y := by rw [yp]; omega
        have ya : ∀ r q, r ≠ 502 → r ≠ 503 → Y.a r q = S.a r q := fun r q a b => by rw [hY, fpers_a a b]; rfl
        refine hm _ y0 (fun w450 h450 => ⟨fun z => z ?_, fun _ => ?_⟩)
        · rw [i4, b1]
        · obtain ⟨r2, S2, hI2, hm2⟩ := h450.earn0 (x1 := nI j) (x2 := 200) v1
          have v2 := jv_earn v1 (by omega) hI2
          have k200 : (200 : Int32).toInt = 200 := by decide
          have yj : (Y.a 504 j).toInt = 0 := by rw [ya 504 j (by decide) (by decide), b5, if_neg (Nat.lt_irrefl _)]
          have hsum : (Y.a 504 j + 200).toInt = 200 := by rw [z_add (by rw [yj, k200]; omega) (by rw [yj, k200]; omega), yj, k200]; rfl
          have e200 : Y.a 504 j + 200 = 200 := Int32.toInt_inj.mp (by rw [hsum, k200])
          rcases hI2 with ⟨-, hx⟩ | ⟨-, hx⟩ | ⟨i, i5, i6, -, hx⟩ | ⟨i, i5, i6, -, -, -, -, -, i7, rfl⟩
          · exact absurd hx (nIP v1 hjY rfl)
          · exact (hx.elim (fun z => absurd z (by decide)) (fun z => z (by decide))).elim
          · obtain rfl := nI_P v1 hjY i5 i6
            exfalso
            rcases hx with hx | hx | hx
            · exact hx (by rw [ya 512 _ (by decide) (by decide)]; exact b4 512 _ (by decide) (by decide) (by decide) (by decide) (by decide))
            · rw [e200] at hx; exact absurd hx (by decide)
            · rw [e200] at hx; exact hx (by decide)
          · obtain rfl := nI_P v1 hjY i5 i6
            refine hm2 _ rfl (fun w452 h452 => ⟨fun z => z (by rw [i7, e200]), fun _ => ⟨rfl, _, n + 1 + 1, h452, v2, by omega, yp, ?_, fun c hc => ?_, fun r q a1 a2 a3 a4 a5 => ?_, fun q => ?_, fun q hq => ?_, ?_, ?_⟩⟩)
            · show nC Y = 2
              rw [hY, fpers_c]; exact b2
            · rw [setS_a, a_f (by decide), setS_a, ya 514 _ (by decide) (by decide)]; exact b3 c hc
            · rw [setS_a, a_f a3, setS_a, ya r q a1 a2]; exact b4 r q a1 a2 a3 a4 a5
            · rw [setS_a]
              by_cases e : q = j
              · rw [e, a_e, hsum, if_pos (Nat.lt_succ_self _)]
              · rw [a_b e, setS_a, ya 504 _ (by decide) (by decide), b5]
                by_cases g : q < j
                · rw [if_pos g, if_pos (by omega)]
                · rw [if_neg g, if_neg (by omega)]
            · rw [setS_a, a_f (by decide), setS_a, hY]
              by_cases e : q = j
              · rw [e, onm j hj7, if_pos rfl, e437, ← e449]
                unfold fpers
                rw [setS_a]
                have ej : nP (S.setS 500 0) = j := b1
                rw [ej, a_e]
              · rw [fpers_b (by show q ≠ nP S; rw [b1]; exact e), onm q (by omega), if_neg e]
                exact b6 q (by omega)
            · rw [s_f (by decide), setA_s, s_f (by decide), hY, fpers_s (by decide)]; exact b7
            · have e9 : (Y.s 529).toInt = 200 * (j : Int) := by rw [hY, fpers_s (by decide)]; exact b8
              rw [s_e, z_add (by rw [e9, k200]; omega) (by rw [e9, k200]; omega), e9, k200]; omega
theorem law_ok {w : Wd} (hA : ALs w) : wp_L_law L xs w := by
  intro q1 hq1 w2 hw2
  subst hw2
  refine i_beg hA hq1 (fun w3 h3 => ?_)
  intro q4 hq4 w5 hw5
  subst hw5
  obtain ⟨G, gx, gm, go, q⟩ := h3 q4 hq4
  have h5 : AT q1 q4 0 S00 (w3.newA 11 q4 7) := ⟨G, gx, gm, go, q⟩
  refine drn (k := 0) (m := 40) rfl (by decide) (by decide) (by decide) (fun A hA' v8 h8 => drn (k := 1) (m := 4) rfl (by decide) (by decide) (by decide) (fun B hB => ?_))
  have e8 : v8 = nI (1 + A) := by rw [h8, show (1 : Int32) = nI 1 from rfl, addn (by omega)]
  have i8 : v8.toInt = 1 + (A : Int) := by rw [e8, nI_toInt (by omega)]; omega
  have iB : (nI B).toInt = B := nI_toInt (by omega)
  have bad : ∀ (v : Int32) (a b : Nat), a < 40 → b < 4 → v.toInt = 1 + (a : Int) → ¬ ((v < 1 ∨ ¬ v ≤ 1000) ∨ (nI b < 0 ∨ ¬ nI b ≤ 3)) := fun v a b ha hb hv z => by
    have ib : (nI b).toInt = b := nI_toInt (by omega)
    rcases z with (z | z) | z | z
    · rw [i_lt, hv, show (1 : Int32).toInt = 1 by decide] at z; omega
    · rw [i_leI, hv, show (1000 : Int32).toInt = 1000 by decide] at z; omega
    · rw [i_lt, ib, Int32.toInt_zero] at z; omega
    · rw [i_leI, ib, show (3 : Int32).toInt = 3 by decide] at z; omega
  obtain ⟨r, S1, hI, hm⟩ := h5.circle0 (x1 := v8) (x2 := nI B) i_JV
  have v1 := jv_circle i_JV hI
  rcases hI with ⟨-, hx⟩ | ⟨-, hx⟩ | ⟨c1, -, -, -, -, c2, rfl⟩
  · exact absurd hx (bad v8 A B hA' hB i8)
  · exact absurd (by rw [n00.2]; decide) hx
  have s10 : (fcirc (S00.setS 500 0) v8 (nI B)).s 500 = 0 := by rw [fcirc_s (by decide)]; rfl
  have nc0 : nC (S00.setS 500 0) = 0 := n00.2
  have nc1 : nC (fcirc (S00.setS 500 0) v8 (nI B)) = 1 := by rw [fcirc_c (by rw [nc0]; decide), nc0]
  refine hm _ s10 (fun w11 h11 => ?_)
  refine ⟨fun y w => y = 1 ∧ ∃ S n, AT q1 q4 0 S w ∧ JV n S ∧ n ≤ 2 ∧ BN 0 0 S, fun y w hj => ?_, fun _ => False, fun _ z => z.elim, fun z => z ?_, fun _ => ?_⟩
  · obtain ⟨rfl, S, n, a1, a2, a3, a4⟩ := hj
    exact b_67 a1 a2 a3 rfl a4
  · rw [c2, n00.2]; rfl
  · refine drn (k := 2) (m := 40) rfl (by decide) (by decide) (by decide) (fun A2 hA2 v9 h9 => drn (k := 3) (m := 4) rfl (by decide) (by decide) (by decide) (fun B2 hB2 => ?_))
    have i9 : v9.toInt = 1 + (A2 : Int) := by rw [h9, show (1 : Int32) = nI 1 from rfl, addn (by omega), nI_toInt (by omega)]; omega
    obtain ⟨T, hT⟩ : ∃ T, T = fcirc (S00.setS 500 0) v8 (nI B) := ⟨_, rfl⟩
    rw [← hT] at h11 v1 nc1
    have tp : nP T = 0 := by rw [hT, fcirc_p]; exact n00.1
    have ta : ∀ r q, r ≠ 514 → r ≠ 515 → T.a r q = 0 := fun r q a b => by rw [hT, fcirc_a a b]; rfl
    have ts : ∀ f, f ≠ 513 → f ≠ 500 → T.s f = 0 := fun f a b => by rw [hT, fcirc_s a, s_f b]; rfl
    have t14 : T.a 514 0 = v8 := by
      rw [hT]; unfold fcirc
      rw [setS_a, a_f (by decide), nc0, a_e]
    obtain ⟨r2, S2, hI2, hm2⟩ := h11.circle0 (x1 := v9) (x2 := nI B2) v1
    have v2 := jv_circle v1 hI2
    rcases hI2 with ⟨-, hx⟩ | ⟨-, hx⟩ | ⟨d1, -, -, -, -, d2, rfl⟩
    · exact absurd hx (bad v9 A2 B2 hA2 hB2 i9)
    · exact absurd (by rw [nc1]; decide) hx
    have s20 : (fcirc (T.setS 500 0) v9 (nI B2)).s 500 = 0 := by rw [fcirc_s (by decide)]; rfl
    have nt1 : nC (T.setS 500 0) = 1 := nc1
    refine hm2 _ s20 (fun w12 h12 => ⟨fun z => z (by rw [d2, nc1]; rfl), fun _ => ⟨rfl, _, 2, h12, v2, Nat.le_refl _, ?_, ?_, fun c hc => ?_, fun r q a1 a2 a3 a4 a5 => ?_, fun q => ?_, fun q hq => absurd hq (Nat.not_lt_zero _), ?_, ?_⟩⟩)
    · rw [fcirc_p]; exact tp
    · rw [fcirc_c (by rw [nt1]; decide), nt1]
    · by_cases e : c = 1
      · subst e
        unfold fcirc
        rw [setS_a, a_f (by decide), nt1, a_e, i9]; omega
      · have e0 : c = 0 := by omega
        subst e0
        rw [fcirc_b (by rw [nt1]; decide), setS_a, t14, i8]; omega
    · rw [fcirc_a a4 a5, setS_a]; exact ta r q a4 a5
    · rw [fcirc_a (by decide) (by decide), setS_a, ta 504 q (by decide) (by decide), Int32.toInt_zero, if_neg (Nat.not_lt_zero _)]
    · rw [fcirc_s (by decide), s_f (by decide)]; exact ts 528 (by decide) (by decide)
    · rw [fcirc_s (by decide), s_f (by decide), ts 529 (by decide) (by decide)]; rfl
end GS
