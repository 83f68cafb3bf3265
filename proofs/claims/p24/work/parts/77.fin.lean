-- ===== the law's end: books that note what is true
theorem o_b {z : Int} (h1 : -2147483648 ≤ z) (h2 : z < 2147483648) : (Int32.ofInt z).toInt = z := by rw [Int32.toInt_ofInt]; exact z_bm h1 h2
theorem truth_ok {o k n : Nat} {S : MS} (st : ST o k n S) (hk : k ≤ 50) : ∀ q, q < 7 → -10000 ≤ (S.a 511 q).toInt ∧ (S.a 511 q).toInt ≤ 10000 := by
  intro q hq
  obtain ⟨v, p, T, e, j, w, s, o1, o2, F, b⟩ := st
  obtain ⟨a, b0, hab, mo, -⟩ := v.mo
  have p2 := p.2.1
  have hA : ∀ c, c < 2 → 0 ≤ asum S c := fun c hc => sumf_nn _ (fun x hx => ((v.ab c (by omega)).2.2 x hx).1)
  have := b.fin hk (sumf_nn 16 (fun x hx => (v.db x hx).1)) (sumf_nn 4 mo.2.1) (by
    have h0 := hA 0 (by decide)
    have h1 := hA 1 (by decide)
    unfold AAm; omega) mo.2.2.1 hq
  rw [b.1 q, o_b (by omega) (by omega)]
  exact this
def fnt (S : MS) (i : Nat) (v : Int32) : MS := (S.setS 500 0).setA 530 (16 + i) (S.a 530 (16 + i) + v)
theorem au_eq {S : MS} {b : Nat} : ∀ m k, (∀ j, k ≤ j → j < k + m → S.a 530 (16 * b + j) = S.a 511 j) → au S b m k = -1 := by
  intro m
  induction m with
  | zero => intro k _; rfl
  | succ m ih =>
    intro k h
    rw [au, if_pos (h k (Nat.le_refl _) (by omega))]
    exact ih (k + 1) (fun j h1 h2 => h j (by omega) (by omega))
theorem au_ne {S : MS} {b i : Nat} : ∀ m k, k ≤ i → i < k + m → (∀ j, k ≤ j → j < i → S.a 530 (16 * b + j) = S.a 511 j) → S.a 530 (16 * b + i) ≠ S.a 511 i → au S b m k = nI i := by
  intro m
  induction m with
  | zero => intro k h1 h2; omega
  | succ m ih =>
    intro k h1 h2 h3 h4
    rw [au]
    by_cases e : k = i
    · subst e; rw [if_neg h4]
    · rw [if_pos (h3 k (Nat.le_refl _) (by omega))]
      exact ih (k + 1) (by omega) (by omega) (fun j a b => h3 j (by omega) b) h4
section FS
variable {L : Nat} {xs : Nat → Int32} {x mo o k n : Nat} {S : MS} {w : Wd} {p V : Nat}
theorem AT.nt {i : Nat} {x3 : Int32} (h : AT x mo o S w) (v : JV n S) (hi : i < nP S) (h1 : -10000 ≤ x3.toInt) (h2 : x3.toInt ≤ 10000) : JV (n + 1) (fnt S i x3) ∧ ∀ Q : Int32 → Wd → Prop, (∀ w1, AT x mo o (fnt S i x3) w1 → Q (S.a 530 (16 + i) + x3) w1) → w.K x = 4 ∧ wp_X3_note x (1 : Int32) (nI i) x3 w Q (fun _ _ => False) := by
  obtain ⟨r, S', hI, hm⟩ := h.note0 (x1 := 1) (x2 := nI i) (x3 := x3) v
  have v' := jv_note v hI
  rcases hI with ⟨-, hb⟩ | ⟨-, hb⟩ | ⟨b, i', i1, i2, i3, i4, rfl, rfl⟩
  · exfalso
    rcases hb with hb | hb
    · exact hb.elim (fun z => absurd z (by decide)) (fun z => z (by decide))
    · exact nIP v hi rfl hb
  · exfalso
    rcases hb with hb | hb
    · rw [i_lt, show (-10000 : Int32).toInt = -10000 by decide] at hb; omega
    · rw [i_leI, show (10000 : Int32).toInt = 10000 by decide] at hb; omega
  · obtain rfl := nI_P v hi i2 i4
    have e : 1 = b := (nI_eq (a := 1) (by decide) (by omega)).mp i3
    subst e
    exact ⟨v', fun Q hQ => hm Q rfl hQ⟩
theorem AT.au {Q : Int32 → Wd → Prop} (h : AT x mo o S w) (v : JV n S) (hQ : ∀ w1, AT x mo o S w1 → Q (au S 1 (nP S) 0) w1) : w.K x = 4 ∧ wp_X3_audit x (1 : Int32) w Q (fun _ _ => False) := by
  obtain ⟨r, S', hI, hm⟩ := h.audit0 (x1 := 1) v
  rcases hI with ⟨-, hb⟩ | ⟨b, i1, i2, rfl, rfl⟩
  · exact (hb.elim (fun z => absurd z (by decide)) (fun z => z (by decide))).elim
  · have e : 1 = b := (nI_eq (a := 1) (by decide) (by omega)).mp i2
    subst e
    exact hm Q rfl (fun w1 h1 => hQ w1 (by
      obtain ⟨G, a, b, c, q⟩ := h1
      exact ⟨G, a, b, c, q⟩))
theorem plus_ne {a v : Int32} (h : v ≠ 0) : a + v ≠ a := fun z => h (by
  have := i_can1 (a := a) (v := v)
  rw [z, Int32.sub_self] at this
  exact this.symm)
theorem fnt_o {i r y : Nat} {v : Int32} (h : r ≠ 530) : (fnt S i v).a r y = S.a r y := by unfold fnt; rw [a_f h]; rfl
theorem fnt_e {i : Nat} {v : Int32} : (fnt S i v).a 530 (16 + i) = S.a 530 (16 + i) + v := by unfold fnt; rw [a_e]
theorem fnt_b {i j : Nat} {v : Int32} (h : j ≠ i) : (fnt S i v).a 530 (16 + j) = S.a 530 (16 + j) := by unfold fnt; rw [a_b (by omega)]; rfl
theorem fnt_p {i : Nat} {v : Int32} : nP (fnt S i v) = nP S := rfl
theorem b_1709 (h : AT x mo o S w) (v : JV n S) (p1 : nP S = 7) (hn : ∀ q, q < 7 → S.a 530 (16 + q) = S.a 511 q) : wpc_1709 L xs x 1 w := by
  obtain ⟨S1, hS1⟩ : ∃ S1, S1 = fnt S 5 1 := ⟨_, rfl⟩
  obtain ⟨S2, hS2⟩ : ∃ S2, S2 = fnt S1 2 (-3) := ⟨_, rfl⟩
  have k3 : (-3 : Int32).toInt = -3 := by decide
  have k1 : (1 : Int32).toInt = 1 := by decide
  refine ⟨fun y w => y = 1 ∧ AT x mo o S1 w, fun y33 w34 hy => ?_, fun _ => False, fun _ z => z.elim, fun z => absurd z (by decide), fun _ => h.au v (fun w1 h1 => ⟨fun z => z ?_, fun _ => ?_⟩)⟩
  · obtain ⟨rfl, h34⟩ := hy
    have v1 : JV (n + 1) S1 := by
      rw [hS1]
      exact (h.nt (i := 5) (x3 := 1) v (by rw [p1]; decide) (by rw [k1]; decide) (by rw [k1]; decide)).1
    have q1 : nP S1 = 7 := by rw [hS1]; exact p1
    obtain ⟨v2, hm2⟩ := h34.nt (i := 2) (x3 := -3) v1 (by rw [q1]; decide) (by rw [k3]; decide) (by rw [k3]; decide)
    rw [← hS2] at v2 hm2
    have q2 : nP S2 = 7 := by rw [hS2]; exact q1
    have a11 : ∀ y, S2.a 511 y = S.a 511 y := fun y => by rw [hS2, fnt_o (by decide), hS1, fnt_o (by decide)]
    have a2 : S1.a 530 (16 + 2) = S.a 511 2 := by rw [hS1, fnt_b (by decide)]; exact hn 2 (by decide)
    have a22 : S2.a 530 (16 + 2) = S.a 511 2 + -3 := by rw [hS2, fnt_e, a2]
    refine ⟨fun y _ => y = 1, fun _ _ z => z, fun _ => False, fun _ z => z.elim, fun z => absurd z (by decide), fun _ => hm2 _ (fun w40 h40 => h40.of v2 (i := 2) (by rw [q2]; decide) (by decide) (by decide) (fun w42 h42 v44 h44 => ⟨fun z => z ?_, fun _ => h42.au v2 (fun w45 h45 => ⟨fun z => z ?_, fun _ => rfl⟩)⟩))⟩
    · rw [a2, h44, fof_4, a11, i_neg]
    · rw [q2]
      refine (au_ne (i := 2) 7 0 (by decide) (by decide) (fun j _ hj => ?_) ?_).trans rfl
      · rw [a11]
        show S2.a 530 (16 + j) = _
        rw [hS2, fnt_b (by omega), hS1, fnt_b (by omega)]
        exact hn j (by omega)
      · rw [a11]
        show S2.a 530 (16 + 2) ≠ _
        rw [a22]
        exact plus_ne (by decide)
  · rw [p1]
    exact au_eq 7 0 (fun j _ hj => hn j (by omega))
  · obtain ⟨v1, hm1⟩ := h1.nt (i := 5) (x3 := 1) v (by rw [p1]; decide) (by rw [k1]; decide) (by rw [k1]; decide)
    rw [← hS1] at v1 hm1
    have q1 : nP S1 = 7 := by rw [hS1]; exact p1
    have a11 : ∀ y, S1.a 511 y = S.a 511 y := fun y => by rw [hS1, fnt_o (by decide)]
    have a5 : S1.a 530 (16 + 5) = S.a 511 5 + 1 := by rw [hS1, fnt_e, hn 5 (by decide)]
    refine hm1 _ (fun w51 h51 => h51.of v1 (i := 5) (by rw [q1]; decide) (by decide) (by decide) (fun w53 h53 v55 h55 => ⟨fun z => z ?_, fun _ => h53.au v1 (fun w56 h56 => ⟨fun z => z ?_, fun _ => ⟨rfl, h56⟩⟩)⟩))
    · rw [hn 5 (by decide), h55, fof_4, a11]
    · rw [q1]
      refine (au_ne (i := 5) 7 0 (by decide) (by decide) (fun j _ hj => ?_) ?_).trans rfl
      · rw [a11]
        show S1.a 530 (16 + j) = _
        rw [hS1, fnt_b (by omega)]
        exact hn j (by omega)
      · rw [a11]
        show S1.a 530 (16 + 5) ≠ _
        rw [a5]
        exact plus_ne (by decide)
theorem b_1649 {y23 : Int32} (hk : k ≤ 50) (hJ : JJ x mo o k y23 w) : wpc_1649 L xs x y23 w := by
  obtain ⟨rfl, S, n, hn, h, st⟩ := hJ
  have hT := truth_ok st hk
  obtain ⟨p1, -, -, -, -, -, -, p8⟩ := st.2.1
  refine ⟨fun m y29 y30 w => ∃ j S' n', j ≤ 7 ∧ m = 7 - j ∧ y30 = nI j ∧ y29 = 1 ∧ AT x mo o S' w ∧ JV n' S' ∧ nP S' = 7 ∧ (∀ q, S'.a 511 q = S.a 511 q) ∧ ∀ q, q < 7 → S'.a 530 (16 + q) = if q < j then S.a 511 q else 0, ⟨7, by decide, 0, S, n, by decide, rfl, rfl, rfl, h, st.1, p1, fun _ => rfl, fun q hq => by rw [if_neg (Nat.not_lt_zero _)]; exact p8 q hq⟩, fun m y29 y30 w31 hI => ?_⟩
  obtain ⟨j, S', n', hj, rfl, rfl, rfl, h', v', q1, q11, qn⟩ := hI
  refine ⟨fun hc => ?_, fun hc => ?_⟩
  · have := (nI_leI (a := 7) (by decide) (by omega)).mp hc
    have e : j = 7 := by omega
    subst e
    exact b_1709 h' v' q1 (fun q hq => by rw [qn q hq, if_pos hq, q11])
  · have hj7 : j < 7 := Nat.lt_of_not_le (fun z => hc (nI_le (a := 7) z (by omega)))
    have hjP : j < nP S' := by rw [q1]; exact hj7
    obtain ⟨a, b0, hab, mo0, -⟩ := v'.mo
    have hz : S'.a 530 (16 + j) = 0 := by rw [qn j hj7, if_neg (Nat.lt_irrefl _)]
    refine ⟨fun y w => y = 1 ∧ AT x mo o (fnt S' j (S.a 511 j)) w ∧ JV (n' + 1) (fnt S' j (S.a 511 j)), fun y w60 hy v61 h61 => ⟨7 - (j + 1), by omega, j + 1, fnt S' j (S.a 511 j), n' + 1, by omega, rfl, by rw [h61, nI_1], hy.1, hy.2.1, hy.2.2, q1, fun q => by rw [fnt_o (by decide), q11], fun q hq => ?_⟩, fun _ => False, fun _ z => z.elim, fun z => absurd z (by decide), fun _ => h'.of v' hjP (by decide) (by decide) (fun w64 h64 => ⟨fun z => ?_, fun _ => h64.of v' hjP (by decide) (by decide) (fun w66 h66 => ?_)⟩)⟩
    · by_cases e : q = j
      · subst e
        rw [fnt_e, hz, Int32.zero_add, if_pos (Nat.lt_succ_self _)]
      · rw [fnt_b e, qn q hq]
        by_cases g : q < j
        · rw [if_pos g, if_pos (by omega)]
        · rw [if_neg g, if_neg (by omega)]
    · rw [fof_0] at z
      exact nneg_of (mo0.1 j (by omega)) z
    · rw [fof_4, q11]
      obtain ⟨v2, hm⟩ := h66.nt (i := j) (x3 := S.a 511 j) v' hjP (hT j hj7).1 (hT j hj7).2
      refine hm _ (fun w68 h68 => h68.of v2 (by rw [fnt_p]; exact hjP) (by decide) (by decide) (fun w70 h70 => ⟨fun z => z ?_, fun _ => ⟨rfl, h70, v2⟩⟩))
      rw [hz, Int32.zero_add, fof_4, fnt_o (by decide), q11]
end FS
