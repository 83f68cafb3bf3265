-- ===== the ledger: a death
def ME (S : MS) (c i : Nat) : Prop := ∃ k, k < mn S c ∧ wh S (10 * c + k) = i
theorem AR.cg {S S' : MS} {c i : Nat} {x : Int} (hm : mn S' c = mn S c) (hw : ∀ k, k < mn S c → wh S' (10 * c + k) = wh S (10 * c + k)) (hx : ∀ k, k < mn S c → S'.a 522 (10 * c + k) = S.a 522 (10 * c + k)) (h : AR S' c i x) : AR S c i x := by
  rcases h with ⟨k, h1, h2, h3⟩ | ⟨h1, h2⟩
  · rw [hm] at h1
    rw [hw k h1] at h2
    rw [hx k h1] at h3
    exact Or.inl ⟨k, h1, h2, h3⟩
  · exact Or.inr ⟨fun k hk z => h1 k (by rw [hm]; exact hk) (by rw [hw k hk]; exact z), h2⟩
theorem ME.cg {S S' : MS} {c i : Nat} (hm : mn S' c = mn S c) (hw : ∀ k, k < mn S c → wh S' (10 * c + k) = wh S (10 * c + k)) (h : ME S' c i) : ME S c i := by
  obtain ⟨k, h1, h2⟩ := h
  rw [hm] at h1
  rw [hw k h1] at h2
  exact ⟨k, h1, h2⟩
/-- places of one circle pass from p to q -/
def PA (c0 p q : Nat) (S S' : MS) : Prop :=
  Sm [504, 506, 511, 512, 516, 518, 520] S S' ∧ S'.s 528 = S.s 528 ∧ S'.s 529 = S.s 529 ∧ (∀ c, c < 2 → asum S' c = asum S c) ∧
  (∀ c, c < 2 → c ≠ c0 → (∀ i x, AR S' c i x → AR S c i x) ∧ ∀ i, ME S' c i → ME S c i) ∧
  (∀ i, i ≠ p → i ≠ q → (∀ x, AR S' c0 i x → AR S c0 i x) ∧ (ME S' c0 i → ME S c0 i)) ∧
  (∀ x, AR S' c0 q x → ∃ a b, x = a + b ∧ AR S c0 p a ∧ AR S c0 q b) ∧ (ME S' c0 q → ME S c0 q ∨ ME S c0 p) ∧ ¬ ME S' c0 p
theorem pass_PA {n c p q : Nat} {S : MS} (h : IV n S) (hn : n ≤ 513) (hc : c < 2) (hn2 : nC S = 2) (hq : q < nP S) (hne : p ≠ q) : PA c p q S (fpass S c p q) := by
  have hm10 : ∀ c', c' < 2 → mn S c' ≤ 10 := fun c' hc' => (h.1.2.2.2.2 c' (by omega)).2.1
  have hcn : c < nC S := by omega
  have hD := h.2.1
  have hB := h.2.2.2.1
  have h16 := h.1.2.1
  unfold fpass
  cases ep : pl S c p with
  | none => exact ⟨Sm.rf, rfl, rfl, fun _ _ => rfl, fun c' _ _ => ⟨fun _ _ z => z, fun _ z => z⟩, fun i _ _ => ⟨fun _ z => z, fun z => z⟩, fun x hx => ⟨0, x, by omega, Or.inr ⟨plc_none _ ep, rfl⟩, hx⟩, Or.inl, fun ⟨k, h1, h2⟩ => plc_none _ ep k h1 h2⟩
  | some kp =>
    obtain ⟨p1, p2⟩ := plc_some _ ep
    have hmc := hm10 c hc
    have oth : ∀ c' k, c' < 2 → c' ≠ c → k < mn S c' → ∀ y, y < mn S c → 10 * c' + k ≠ 10 * c + y := fun c' k h1 h2 h3 y h4 => by
      have := hm10 c' h1
      omega
    cases eh : pl S c q with
    | none =>
      have hno := plc_none _ eh
      show PA c p q S (S.setA 521 (10 * c + kp) (nI q))
      obtain ⟨Y, hY⟩ : ∃ Y, Y = S.setA 521 (10 * c + kp) (nI q) := ⟨_, rfl⟩
      have ea : ∀ r x, r ≠ 521 → Y.a r x = S.a r x := fun r x hr => by rw [hY, a_f hr]
      have em : ∀ c', mn Y c' = mn S c' := fun c' => by unfold mn; rw [ea 517 _ (by decide)]
      have ew : ∀ x, wh Y x = if x = 10 * c + kp then q else wh S x := fun x => by
        by_cases z : x = 10 * c + kp
        · rw [if_pos z, z]; unfold wh; rw [hY, a_e, nI_clamp (by omega)]
        · rw [if_neg z]; unfold wh; rw [hY, a_b z]
      have ew0 : ∀ k, k ≠ kp → wh Y (10 * c + k) = wh S (10 * c + k) := fun k hk => by rw [ew, if_neg (by omega)]
      have ewp : wh Y (10 * c + kp) = q := by rw [ew, if_pos rfl]
      rw [← hY]
      have sm : ∀ R : List Nat, (∀ r, r ∈ R → r ≠ 521) → Sm R S Y := fun R hR r hr x => ea r x (hR r hr)
      refine ⟨sm _ (by decide), by rw [hY]; rfl, by rw [hY]; rfl, fun c' _ => asum_same (sm _ (by decide)), fun c' h1 h2 => ⟨fun i x hx => hx.cg (em c') (fun k hk => by rw [ew, if_neg (oth c' k h1 h2 hk kp p1)]) (fun k _ => ea 522 _ (by decide)), fun i hx => hx.cg (em c') (fun k hk => by rw [ew, if_neg (oth c' k h1 h2 hk kp p1)])⟩, fun i h1 h2 => ⟨fun x hx => ?_, fun hx => ?_⟩, fun x hx => ?_, fun hx => Or.inr ⟨kp, p1, p2⟩, fun hx => ?_⟩
      · rcases hx with ⟨k, k1, k2, k3⟩ | ⟨k1, k2⟩
        · rw [em] at k1
          rw [ea 522 _ (by decide)] at k3
          have : k ≠ kp := fun z => h2 (by rw [← k2, z, ewp])
          rw [ew0 k this] at k2
          exact Or.inl ⟨k, k1, k2, k3⟩
        · refine Or.inr ⟨fun k hk z => ?_, k2⟩
          by_cases y : k = kp
          · exact h1 (by rw [← z, y, p2])
          · exact k1 k (by rw [em]; exact hk) (by rw [ew0 k y]; exact z)
      · obtain ⟨k, k1, k2⟩ := hx
        rw [em] at k1
        have : k ≠ kp := fun z => h2 (by rw [← k2, z, ewp])
        rw [ew0 k this] at k2
        exact ⟨k, k1, k2⟩
      · rcases hx with ⟨k, k1, k2, k3⟩ | ⟨k1, k2⟩
        · rw [em] at k1
          rw [ea 522 _ (by decide)] at k3
          by_cases y : k = kp
          · subst y
            exact ⟨x, 0, by omega, Or.inl ⟨k, p1, p2, k3⟩, Or.inr ⟨hno, rfl⟩⟩
          · rw [ew0 k y] at k2
            exact absurd k2 (hno k k1)
        · exact absurd ewp (k1 kp (by rw [em]; exact p1))
      · obtain ⟨k, k1, k2⟩ := hx
        rw [em] at k1
        by_cases y : k = kp
        · rw [y, ewp] at k2; exact hne k2.symm
        · rw [ew0 k y] at k2
          exact y (hD c hcn k kp k1 p1 (by rw [k2, p2]))
    | some kh =>
      obtain ⟨q1, q2⟩ := plc_some _ eh
      show PA c p q S (fjoin S c kp kh)
      have hkk : kp ≠ kh := fun z => hne (by rw [← p2, ← q2, z])
      unfold fjoin
      obtain ⟨X, hX⟩ : ∃ X, X = S.setA 522 (10 * c + kh) (S.a 522 (10 * c + kh) + S.a 522 (10 * c + kp)) := ⟨_, rfl⟩
      rw [← hX]
      have xo : ∀ r x, r ≠ 522 → X.a r x = S.a r x := fun r x hr => by rw [hX, a_f hr]
      have N : Nm S X := by rw [hX]; exact Nm.rf.st (by decide)
      have hBX : HB X := fun x => by rw [xo 527 x (by decide)]; exact hB x
      have hpX : kp < mn X c := by rw [N.m]; exact p1
      have hmX : mn X c ≤ 10 := by rw [N.m]; exact hmc
      have x22 : ∀ x, X.a 522 x = if x = 10 * c + kh then S.a 522 (10 * c + kh) + S.a 522 (10 * c + kp) else S.a 522 x := fun x => by
        by_cases z : x = 10 * c + kh
        · rw [if_pos z, z, hX, a_e]
        · rw [if_neg z, hX, a_b z]
      -- no overflow
      have hsum : (S.a 522 (10 * c + kh) + S.a 522 (10 * c + kp)).toInt = (S.a 522 (10 * c + kh)).toInt + (S.a 522 (10 * c + kp)).toInt := by
        obtain ⟨-, -, -, -, -, -, -, -, -, -, -, i12, -⟩ := id h
        obtain ⟨s1, s2, s3⟩ := i12 c hcn
        have a1 := s3 kp p1
        have a2 := s3 kh q1
        have hbig : n * 2 ^ (10 - mn S c) ≤ 513 * 256 := Nat.mul_le_mul hn (Nat.le_trans (Nat.pow_le_pow_right (by decide) (show 10 - mn S c ≤ 8 by omega)) (by decide))
        exact z_add (by omega) (by omega)
      obtain ⟨Z, hZ⟩ : ∃ Z, Z = fgo X c kp := ⟨_, rfl⟩
      have zo : ∀ r x, r ≠ 517 → (r < 521 ∨ 527 < r) → Z.a r x = S.a r x := fun r x a b => by
        rw [hZ, fgo_o (by unfold r7; omega) a, xo r x (by omega)]
      have zm : ∀ x, mn Z x = if x = c then mn S c - 1 else mn S x := fun x => by rw [hZ, fgo_m hmX, N.m]
      have z22 : ∀ x, Z.a 522 x = X.a 522 (sh X c kp x) := fun x => by rw [hZ]; exact fgo_a hBX hpX (by unfold r7; omega)
      have zw : ∀ x, wh Z x = wh S (sh X c kp x) := fun x => by rw [hZ, fgo_w hBX hpX, N.w]
      have zoth : ∀ c' k, c' < 2 → c' ≠ c → k < mn S c' → sh X c kp (10 * c' + k) = 10 * c' + k := fun c' k h1 h2 h3 => sh_oth hmX (by have := hm10 c' h1; omega) h2
      -- forth
      have fo : ∀ k, k < mn Z c → ∃ k', k' < mn S c ∧ k' ≠ kp ∧ wh Z (10 * c + k) = wh S (10 * c + k') ∧ Z.a 522 (10 * c + k) = X.a 522 (10 * c + k') := fun k hk => by
        rw [zm, if_pos rfl] at hk
        obtain ⟨k', a1, a2, a3, -⟩ := sh_own2 (S := X) (c := c) (p := kp) (k := k) (by rw [N.m]; exact hk)
        rw [N.m] at a1
        exact ⟨k', a1, a2, by rw [zw, a3], by rw [z22, a3]⟩
      -- back
      have ba : ∀ k', k' < mn S c → k' ≠ kp → ∃ k, k < mn Z c ∧ wh Z (10 * c + k) = wh S (10 * c + k') := fun k' h1 h2 => by
        have e := zm c
        rw [if_pos rfl] at e
        rcases Nat.lt_or_ge k' kp with y | y
        · exact ⟨k', by omega, by rw [zw, sh_own (by rw [N.m]; omega), if_pos y]⟩
        · exact ⟨k' - 1, by omega, by rw [zw, sh_own (by rw [N.m]; omega), if_neg (by omega), show k' - 1 + 1 = k' by omega]⟩
      have hS : Sm [504, 506, 511, 512, 516, 517, 518, 520, 521, 522] Z (frnd Z c) := frnd_smB
      have es : ∀ f, (frnd Z c).s f = S.s f := fun f => by rw [frnd_s, hZ, fgo_s, hX]; rfl
      rw [← hZ]
      have fm : ∀ x, mn (frnd Z c) x = mn Z x := fun x => by unfold mn; rw [hS 517 (by decide)]
      have fw : ∀ x, wh (frnd Z c) x = wh Z x := fun x => by unfold wh; rw [hS 521 (by decide)]
      have AZ : ∀ c' i x, AR (frnd Z c) c' i x → AR Z c' i x := fun c' i x hx => hx.same (hS.sub (by decide))
      have MZ : ∀ c' i, ME (frnd Z c) c' i → ME Z c' i := fun c' i hx => hx.cg (fm c') (fun k _ => fw _)
      have asX : ∀ c', c' < 2 → asum Z c' = asum S c' := fun c' hc' => by
        unfold asum
        rw [zm]
        by_cases z : c' = c
        · subst z
          rw [if_pos rfl]
          have hd := sumf_del (f := fun k => X.a 522 (10 * c' + k)) (g := fun k => X.a 522 (10 * c' + if k < kp then k else k + 1)) (p := kp) (fun k => by
            by_cases y : k < kp
            · simp only [if_pos y]
            · simp only [if_neg y]) (mn S c' - 1) (by omega)
          rw [show mn S c' - 1 + 1 = mn S c' by omega] at hd
          have hx : sumf (fun k => Z.a 522 (10 * c' + k)) (mn S c' - 1) = sumf (fun k => X.a 522 (10 * c' + if k < kp then k else k + 1)) (mn S c' - 1) := sumf_ext _ (fun k hk => by
            show Z.a 522 (10 * c' + k) = _
            rw [z22, sh_own (by rw [N.m]; exact hk)])
          have hu := sumf_up (f := fun k => S.a 522 (10 * c' + k)) (g := fun k => X.a 522 (10 * c' + k)) (i := kh) (fun k hk => by
            show X.a 522 (10 * c' + k) = S.a 522 (10 * c' + k)
            rw [x22, if_neg (by omega)]) (mn S c') q1
          have e1 : (X.a 522 (10 * c' + kh)).toInt = (S.a 522 (10 * c' + kh)).toInt + (S.a 522 (10 * c' + kp)).toInt := by rw [x22, if_pos rfl, hsum]
          have e2 : X.a 522 (10 * c' + kp) = S.a 522 (10 * c' + kp) := by rw [x22, if_neg (by omega)]
          have hu' : sumf (fun k => X.a 522 (10 * c' + k)) (mn S c') = sumf (fun k => S.a 522 (10 * c' + k)) (mn S c') - (S.a 522 (10 * c' + kh)).toInt + (X.a 522 (10 * c' + kh)).toInt := hu
          have hd' : sumf (fun k => X.a 522 (10 * c' + if k < kp then k else k + 1)) (mn S c' - 1) = sumf (fun k => X.a 522 (10 * c' + k)) (mn S c') - (X.a 522 (10 * c' + kp)).toInt := hd
          rw [hx, hd', hu', e1, e2]; omega
        · rw [if_neg z]
          exact sumf_ext _ (fun k hk => by
            show Z.a 522 (10 * c' + k) = S.a 522 (10 * c' + k)
            rw [z22, zoth c' k hc' z hk, x22, if_neg (oth c' k hc' z hk kh q1)])
      refine ⟨fun r hr x => ?_, es _, es _, fun c' hc' => by rw [asum_same (hS.sub (by decide))]; exact asX c' hc', fun c' h1 h2 => ⟨fun i x hx => (AZ c' i x hx).cg (by rw [zm, if_neg h2]) (fun k hk => by rw [zw, zoth c' k h1 h2 hk]) (fun k hk => by rw [z22, zoth c' k h1 h2 hk, x22, if_neg (oth c' k h1 h2 hk kh q1)]), fun i hx => (MZ c' i hx).cg (by rw [zm, if_neg h2]) (fun k hk => by rw [zw, zoth c' k h1 h2 hk])⟩, fun i h1 h2 => ⟨fun x hx => ?_, fun hx => ?_⟩, fun x hx => ?_, fun _ => Or.inl ⟨kh, q1, q2⟩, fun hx => ?_⟩
      · have : r = 504 ∨ r = 506 ∨ r = 511 ∨ r = 512 ∨ r = 516 ∨ r = 518 ∨ r = 520 := by simpa using hr
        rw [frnd_a (by omega) (by omega) (by omega), zo r x (by omega) (by omega)]
      · rcases AZ c i x hx with ⟨k, k1, k2, k3⟩ | ⟨k1, k2⟩
        · obtain ⟨k', a1, a2, a3, a4⟩ := fo k k1
          rw [a3] at k2
          rw [a4, x22, if_neg (fun z => h2 (by rw [← k2, ← q2, z]))] at k3
          exact Or.inl ⟨k', a1, k2, k3⟩
        · refine Or.inr ⟨fun k' hk z => ?_, k2⟩
          obtain ⟨k, b1, b2⟩ := ba k' hk (fun y => h1 (by rw [← z, y, p2]))
          exact k1 k b1 (by rw [b2, z])
      · obtain ⟨k, k1, k2⟩ := MZ c i hx
        obtain ⟨k', a1, a2, a3, a4⟩ := fo k k1
        rw [a3] at k2
        exact ⟨k', a1, k2⟩
      · rcases AZ c q x hx with ⟨k, k1, k2, k3⟩ | ⟨k1, k2⟩
        · obtain ⟨k', a1, a2, a3, a4⟩ := fo k k1
          rw [a3] at k2
          have : k' = kh := hD c hcn k' kh a1 q1 (by rw [k2, q2])
          rw [a4, this, x22, if_pos rfl, hsum] at k3
          exact ⟨_, _, by rw [k3]; exact Int.add_comm _ _, Or.inl ⟨kp, p1, p2, rfl⟩, Or.inl ⟨kh, q1, q2, rfl⟩⟩
        · obtain ⟨k, b1, b2⟩ := ba kh q1 (fun y => hkk y.symm)
          exact absurd (by rw [b2, q2]) (k1 k b1)
      · obtain ⟨k, k1, k2⟩ := MZ c p hx
        obtain ⟨k', a1, a2, a3, a4⟩ := fo k k1
        rw [a3] at k2
        exact a2 (hD c hcn k' kp a1 p1 (by rw [k2, p2]))
/-- what is left goes over: the rows -/
theorem leaves_rows {p q : Nat} {S : MS} (hne : p ≠ q) : (∀ x, (fleaves (S.setS 500 0) p q).a 504 x = if x = p then 0 else if x = q then S.a 504 q + S.a 504 p else S.a 504 x) ∧ (∀ x, (fleaves (S.setS 500 0) p q).a 506 x = if x = p then 0 else if x = q then S.a 506 q + S.a 506 p else S.a 506 x) ∧ (∀ x, (fleaves (S.setS 500 0) p q).a 512 x = if x = p then 1 else S.a 512 x) ∧ (∀ x, (fleaves (S.setS 500 0) p q).a 505 x = if x = p then 0 else if x = q then S.a 505 q + S.a 505 p else S.a 505 x) := by
  obtain ⟨T, hT⟩ : ∃ T, T = S.setS 500 0 := ⟨_, rfl⟩
  have eT : ∀ r x, T.a r x = S.a r x := fun r x => by rw [hT]; rfl
  rw [← hT]
  obtain ⟨B, hB⟩ : ∃ B, B = fgot T p q := ⟨_, rfl⟩
  obtain ⟨C, hC⟩ : ∃ C, C = flo B p q := ⟨_, rfl⟩
  have hF : fleaves T p q = fend C p q := by rw [hC, hB]; rfl
  rw [hF]
  have eB : ∀ r x, r ≠ 504 → r ≠ 505 → B.a r x = S.a r x := fun r x a b => by rw [hB, fgot_a a b, eT]
  have eC : ∀ r x, r ≠ 507 → r ≠ 508 → r ≠ 509 → C.a r x = B.a r x := fun r x a b c => by rw [hC, flo_a a b c]
  refine ⟨fun x => ?_, fun x => ?_, fun x => ?_, fun x => ?_⟩
  · have b4 : ∀ x, B.a 504 x = if x = q then S.a 504 q + S.a 504 p else S.a 504 x := fun x => by
      rw [hB]; unfold fgot
      rw [a_f (by decide)]
      by_cases e2 : x = q
      · rw [e2, a_e, if_pos rfl, eT, eT]
      · rw [a_b e2, if_neg e2, eT]
    unfold fend
    rw [a_f (by decide), a_f (by decide), a_f (by decide)]
    by_cases e : x = p
    · rw [e, a_e, if_pos rfl]
    · rw [a_b e, if_neg e, a_f (by decide), eC 504 x (by decide) (by decide) (by decide), b4]
  · have c6 : ∀ x, C.a 506 x = S.a 506 x := fun x => by rw [eC 506 x (by decide) (by decide) (by decide), eB 506 x (by decide) (by decide)]
    unfold fend
    rw [a_f (by decide)]
    by_cases e : x = p
    · rw [e, a_e, if_pos rfl]
    · rw [a_b e, if_neg e, a_f (by decide), a_f (by decide)]
      by_cases e2 : x = q
      · rw [e2, a_e, if_pos rfl, c6, c6]
      · rw [a_b e2, if_neg e2, c6]
  · unfold fend
    by_cases e : x = p
    · rw [e, a_e, if_pos rfl]
    · rw [a_b e, if_neg e, a_f (by decide), a_f (by decide), a_f (by decide), a_f (by decide), eC 512 x (by decide) (by decide) (by decide), eB 512 x (by decide) (by decide)]
  · have b5 : ∀ x, B.a 505 x = if x = q then S.a 505 q + S.a 505 p else S.a 505 x := fun x => by
      rw [hB]; unfold fgot
      by_cases e2 : x = q
      · rw [e2, a_e, if_pos rfl, eT, eT]
      · rw [a_b e2, if_neg e2, a_f (by decide), eT]
    unfold fend
    rw [a_f (by decide), a_f (by decide)]
    by_cases e : x = p
    · rw [e, a_e, if_pos rfl]
    · rw [a_b e, if_neg e, a_f (by decide), a_f (by decide), eC 505 x (by decide) (by decide) (by decide), b5]
theorem die_st {n p q : Nat} {S : MS} (v : JV n S) (hn : n ≤ 511) (hn2 : nC S = 2) (hp : p < nP S) (hq : q < nP S) (hne : p ≠ q) (d1 : S.a 512 p = 0) (d2 : S.a 512 q = 0) (hsh : S.a 505 p + S.a 505 q ≤ 100) : ∃ B, PA 0 p q (fleaves (S.setS 500 0) p q) B ∧ PA 1 p q B (fdied S p q) ∧ IV (n + 1) B := by
  have hF := v.1.leaves (by omega) hp hq hne d1 d2 hsh
  have N : Nm S (fleaves (S.setS 500 0) p q) := (Nm.rf.ss (by decide)).tr fleaves_Nm
  obtain ⟨F, hFd⟩ : ∃ F, F = fleaves (S.setS 500 0) p q := ⟨_, rfl⟩
  have e : fdied S p q = fpass (fpass F 0 p q) 1 p q := by unfold fdied; rw [hn2, hFd]; rfl
  rw [e]
  rw [← hFd] at hF N ⊢
  have kp := fpass_kp (p := p) (h := q) (c := 0) hF.1 hF.2.1 hF.2.2.2.1 (by rw [N.c]; omega) (by rw [N.p]; exact hq)
  have i1 := hF.pass (p := p) (h := q) (c := 0) (by omega) (by rw [N.c]; omega) (by rw [N.p]; exact hq) hne
  refine ⟨fpass F 0 p q, pass_PA hF (by omega) (by decide) (by rw [N.c]; exact hn2) (by rw [N.p]; exact hq) hne, pass_PA i1 (by omega) (by decide) ?_ ?_ hne, i1⟩
  · rw [kp.2.2.2.2, N.c]; exact hn2
  · rw [kp.2.2.2.1, N.p]; exact hq
theorem BG.die {k n : Nat} {S : MS} {T : Nat → Int} {e j w s : Nat} {o1 o2 : Nat → Nat} {F : Int} (h : BG k S T e j w s o1 o2 F) (v : JV n S) (hn : n ≤ 511) (hn2 : nC S = 2) (h7 : nP S = 7) {p q : Nat} (hp : p < 7) (hq : q < 7) (hne : p ≠ q) (d1 : S.a 512 p = 0) (d2 : S.a 512 q = 0) (hsh : S.a 505 p + S.a 505 q ≤ 100) : ∃ p1 p2, BG (k + 1) (fdied S p q) T e j w s p1 p2 F ∧ ∀ c i, c < 2 → ME (fdied S p q) c i → i ≠ p ∧ (i = q ∨ ME S c i) := by
  obtain ⟨B, A0, A1, -⟩ := die_st v hn hn2 (by omega) (by omega) hne d1 d2 hsh
  obtain ⟨r4, r6, r12, -⟩ := leaves_rows (S := S) hne
  obtain ⟨X, hX⟩ : ∃ X, X = fleaves (S.setS 500 0) p q := ⟨_, rfl⟩
  rw [← hX] at A0 r4 r6 r12
  obtain ⟨Z, hZ⟩ : ∃ Z, Z = fdied S p q := ⟨_, rfl⟩
  rw [← hZ] at A1 ⊢
  obtain ⟨g1, g2, g3, g4, g5, g6, ⟨g7, g7a, g7b⟩, g8, g9, g10, g11, g12, g13⟩ := h
  obtain ⟨a1, a2, a3, a4, a5, a6, a7, a8, a9⟩ := A0
  obtain ⟨b1, b2, b3, b4, b5, b6, b7, b8, b9⟩ := A1
  have sm := a1.tr b1
  have xo : ∀ r x, (r < 504 ∨ 509 < r) → r ≠ 512 → X.a r x = S.a r x := fun r x y z => by
    rw [hX, fleaves_a (by omega) (by omega) (by omega) z (by omega) (by omega) (by omega)]; rfl
  have xs : ∀ f, f ≠ 500 → X.s f = S.s f := fun f hf => by rw [hX, fleaves_s, s_f hf]
  have xm : ∀ c, mn X c = mn S c := fun c => by unfold mn; rw [xo 517 _ (by decide) (by decide)]
  have xw : ∀ y, wh X y = wh S y := fun y => by unfold wh; rw [xo 521 _ (by decide) (by decide)]
  have AX : ∀ c i x, AR X c i x → AR S c i x := fun c i x hx => hx.cg (xm c) (fun k _ => xw _) (fun k _ => xo 522 _ (by decide) (by decide))
  have MX : ∀ c i, ME X c i → ME S c i := fun c i hx => hx.cg (xm c) (fun k _ => xw _)
  -- a circle's money
  have aO : ∀ c i x, c < 2 → i ≠ p → i ≠ q → AR Z c i x → AR S c i x := fun c i x hc h1 h2 hx => by
    rcases (by omega : c = 0 ∨ c = 1) with z | z
    · subst z; exact AX _ _ _ ((a6 i h1 h2).1 x ((b5 0 (by decide) (by decide)).1 i x hx))
    · subst z; exact AX _ _ _ ((a5 1 (by decide) (by decide)).1 i x ((b6 i h1 h2).1 x hx))
  have aQ : ∀ c x, c < 2 → AR Z c q x → ∃ y z, x = y + z ∧ AR S c p y ∧ AR S c q z := fun c x hc hx => by
    rcases (by omega : c = 0 ∨ c = 1) with z | z
    · subst z
      obtain ⟨y, z, e1, e2, e3⟩ := a7 x ((b5 0 (by decide) (by decide)).1 q x hx)
      exact ⟨y, z, e1, AX _ _ _ e2, AX _ _ _ e3⟩
    · subst z
      obtain ⟨y, z, e1, e2, e3⟩ := b7 x hx
      exact ⟨y, z, e1, AX _ _ _ ((a5 1 (by decide) (by decide)).1 p y e2), AX _ _ _ ((a5 1 (by decide) (by decide)).1 q z e3)⟩
  have mO : ∀ c i, c < 2 → i ≠ p → i ≠ q → ME Z c i → ME S c i := fun c i hc h1 h2 hx => by
    rcases (by omega : c = 0 ∨ c = 1) with z | z
    · subst z; exact MX _ _ ((a6 i h1 h2).2 ((b5 0 (by decide) (by decide)).2 i hx))
    · subst z; exact MX _ _ ((a5 1 (by decide) (by decide)).2 i ((b6 i h1 h2).2 hx))
  have mQ : ∀ c, c < 2 → ME Z c q → ME S c q ∨ ME S c p := fun c hc hx => by
    rcases (by omega : c = 0 ∨ c = 1) with z | z
    · subst z; exact (a8 ((b5 0 (by decide) (by decide)).2 q hx)).imp (MX _ _) (MX _ _)
    · subst z; exact (b8 hx).imp (fun y => MX _ _ ((a5 1 (by decide) (by decide)).2 q y)) (fun y => MX _ _ ((a5 1 (by decide) (by decide)).2 p y))
  have mP : ∀ c, c < 2 → ¬ ME Z c p := fun c hc hx => by
    rcases (by omega : c = 0 ∨ c = 1) with z | z
    · subst z; exact a9 ((b5 0 (by decide) (by decide)).2 p hx)
    · subst z; exact b9 hx
  have e18 : ∀ c, Z.a 518 c = S.a 518 c := fun c => by rw [sm 518 (by decide), xo 518 _ (by decide) (by decide)]
  have emt : mt Z = mt S := by unfold mt; rw [e18, e18]
  have easum : ∀ c, c < 2 → asum Z c = asum S c := fun c hc => by
    rw [b4 c hc, a4 c hc]
    exact asum_same (fun r hr x => by
      have : r = 517 ∨ r = 522 := by simpa using hr
      exact xo r x (by omega) (by omega))
  have eAA : AAm Z = AAm S := by unfold AAm; rw [easum 0 (by decide), easum 1 (by decide)]
  have eBB : BBm Z = BBm S := sumf_ext _ (fun x _ => by rw [sm 516 (by decide), xo 516 _ (by decide) (by decide)])
  have z6 : ∀ x, Z.a 506 x = if x = p then 0 else if x = q then S.a 506 q + S.a 506 p else S.a 506 x := fun x => by rw [sm 506 (by decide)]; exact r6 x
  have z4 : ∀ x, Z.a 504 x = if x = p then 0 else if x = q then S.a 504 q + S.a 504 p else S.a 504 x := fun x => by rw [sm 504 (by decide)]; exact r4 x
  have z12 : ∀ x, Z.a 512 x = if x = p then 1 else S.a 512 x := fun x => by rw [sm 512 (by decide)]; exact r12 x
  have s8 : Z.s 528 = S.s 528 := by rw [b2, a2, xs 528 (by decide)]
  have s9 : Z.s 529 = S.s 529 := by rw [b3, a3, xs 529 (by decide)]
  have hs6 : (S.a 506 q + S.a 506 p).toInt = (S.a 506 q).toInt + (S.a 506 p).toInt := by
    have qu := (v.db.u (show q < 16 by omega)).2
    have pu := (v.db.u (show p < 16 by omega)).2
    have hb := (uu_b (cnt S 16) (cnt_le 16)).2
    have u67 := uu_7 (D := cnt S 16)
    have q1 := (v.db q (by omega)).1
    have p1 := (v.db p (by omega)).1
    exact z_add (by omega) (by omega)
  have hs4 : (S.a 504 q + S.a 504 p).toInt = (S.a 504 q).toInt + (S.a 504 p).toInt ∧ 0 ≤ (S.a 504 p).toInt := by
    obtain ⟨a, b, hab, mo, -⟩ := v.mo
    have q0 := mo.1 q (by omega)
    have p0 := mo.1 p (by omega)
    have q1 := mo.pm (show q < 16 by omega)
    have p1 := mo.pm (show p < 16 by omega)
    exact ⟨z_add (by omega) (by omega), p0⟩
  have eDD : DDm Z = DDm S := by
    unfold DDm
    obtain ⟨f, hf⟩ : ∃ f : Nat → Int32, f = fun x => if x = p then 0 else S.a 506 x := ⟨_, rfl⟩
    have fp : f p = 0 := by rw [hf]; exact if_pos rfl
    have fn : ∀ x, x ≠ p → f x = S.a 506 x := fun x hx => by rw [hf]; exact if_neg hx
    have u1 := sumf_up (f := S.a 506) (g := f) (i := p) (fun x hx => fn x hx) 16 (by omega)
    have u2 := sumf_up (f := f) (g := Z.a 506) (i := q) (fun x hx => by
      rw [z6]
      by_cases z : x = p
      · rw [if_pos z, z, fp]
      · rw [if_neg z, if_neg hx, fn x z]) 16 (by omega)
    rw [u2, u1, fp, fn q (fun z => hne z.symm), z6 q, if_neg (fun z => hne z.symm), if_pos rfl, hs6, Int32.toInt_zero]; omega
  obtain ⟨p1, hp1⟩ : ∃ p1 : Nat → Nat, p1 = fun x => if x = p then 0 else if x = q then o1 q + o1 p else o1 x := ⟨_, rfl⟩
  obtain ⟨p2, hp2⟩ : ∃ p2 : Nat → Nat, p2 = fun x => if x = p then 0 else if x = q then o2 q + o2 p else o2 x := ⟨_, rfl⟩
  have hqp : q ≠ p := fun z => hne z.symm
  have p1p : p1 p = 0 := by rw [hp1]; exact if_pos rfl
  have p2p : p2 p = 0 := by rw [hp2]; exact if_pos rfl
  have p1q : p1 q = o1 q + o1 p := by rw [hp1]; exact (if_neg hqp).trans (if_pos rfl)
  have p2q : p2 q = o2 q + o2 p := by rw [hp2]; exact (if_neg hqp).trans (if_pos rfl)
  have p1o : ∀ x, x ≠ p → x ≠ q → p1 x = o1 x := fun x a b => by rw [hp1]; exact (if_neg a).trans (if_neg b)
  have p2o : ∀ x, x ≠ p → x ≠ q → p2 x = o2 x := fun x a b => by rw [hp2]; exact (if_neg a).trans (if_neg b)
  have hns : ∀ f g : Nat → Nat, g p = 0 → (∀ x, x ≠ p → x ≠ q → g x = f x) → ns g 7 + f p + f q = ns f 7 + g q := fun f g gp go => by
    obtain ⟨m, hm⟩ : ∃ m : Nat → Nat, m = fun x => if x = p then 0 else f x := ⟨_, rfl⟩
    have mp : m p = 0 := by rw [hm]; exact if_pos rfl
    have mo : ∀ x, x ≠ p → m x = f x := fun x hx => by rw [hm]; exact if_neg hx
    have u1 := ns_up (f := f) (g := m) (i := p) mo 7 hp
    have u2 := ns_up (f := m) (g := g) (i := q) (fun x hx => by
      by_cases z : x = p
      · rw [z, mp, gp]
      · rw [mo x z, go x z hx]) 7 hq
    rw [mo q hqp] at u2
    omega
  -- arrears are small
  have g4' : ∀ c i x, c < 2 → AR S c i x → x ≤ 44 * ((S.a 518 c).toInt * (o1 i : Int)) := fun c i x hc hx => by
    rcases hx with ⟨k, k1, k2, k3⟩ | ⟨-, k2⟩
    · rw [k3, ← k2]; exact (g4 c k hc k1).2
    · have := Int.mul_nonneg (g5 c hc) (Int.natCast_nonneg (o1 i))
      omega
  have pq : ∀ m : Int, m * (p1 q : Int) = m * (o1 q : Int) + m * (o1 p : Int) := fun m => by
    rw [p1q, Int.natCast_add, Int.mul_add]
  refine ⟨p1, p2, ⟨fun i => ?_, fun i hi => ?_, ?_, fun c k hc hk => ?_, fun c hc => by rw [e18]; exact g5 c hc, fun i x y hi hl hx hy => ?_, ⟨?_, fun c hc => ?_, g7b⟩, fun i hi => ?_, fun i hi => ?_, fun i hi hl => ?_, g11, g12, by rw [emt]; exact g13⟩, fun c i hc hm => ?_⟩
  · rw [sm 511 (by decide), xo 511 _ (by decide) (by decide)]; exact g1 i
  · obtain ⟨c1, c2, c3, c4⟩ := g2 i hi
    rw [z6, z12]
    by_cases ip : i = p
    · rw [if_pos ip, if_pos ip, ip, p1p, p2p, Int32.toInt_zero]
      exact ⟨by omega, Nat.le_refl _, fun z => absurd z (by decide), fun _ => rfl⟩
    · rw [if_neg ip, if_neg ip]
      by_cases iq : i = q
      · subst iq
        obtain ⟨d1', d2', d3, d4⟩ := g2 p hp
        rw [if_pos rfl, p1q, p2q, hs6, Nat.add_mul]
        exact ⟨by omega, by omega, fun z => by have := c3 z; omega, fun z => absurd d2 z⟩
      · rw [if_neg iq, p1o i ip iq, p2o i ip iq]
        exact ⟨c1, c2, c3, c4⟩
  · have := hns o2 p2 p2p p2o
    rw [p2q] at this
    omega
  · have hmm : ME Z c (wh Z (10 * c + k)) := ⟨k, hk, rfl⟩
    have hA : AR Z c (wh Z (10 * c + k)) (Z.a 522 (10 * c + k)).toInt := Or.inl ⟨k, hk, rfl, rfl⟩
    obtain ⟨i, hi⟩ : ∃ i, i = wh Z (10 * c + k) := ⟨_, rfl⟩
    obtain ⟨x, hx⟩ : ∃ x, x = (Z.a 522 (10 * c + k)).toInt := ⟨_, rfl⟩
    rw [← hi] at hmm hA ⊢
    rw [← hx] at hA ⊢
    rw [e18]
    have ip : i ≠ p := fun z => mP c hc (by rw [← z]; exact hmm)
    by_cases iq : i = q
    · subst iq
      obtain ⟨y, z, u1, u2, u3⟩ := aQ c x hc hA
      have u4 := g4' c p y hc u2
      have u5 := g4' c i z hc u3
      have := pq (S.a 518 c).toInt
      refine ⟨?_, by omega⟩
      rw [p1q]
      rcases mQ c hc hmm with ⟨k', k1, k2⟩ | ⟨k', k1, k2⟩
      · have := (g4 c k' hc k1).1
        rw [k2] at this; omega
      · have := (g4 c k' hc k1).1
        rw [k2] at this; omega
    · rw [p1o i ip iq]
      refine ⟨?_, g4' c i x hc (aO c i x hc ip iq hA)⟩
      obtain ⟨k', k1, k2⟩ := mO c i hc ip iq hmm
      have := (g4 c k' hc k1).1
      rw [k2] at this; exact this
  · rw [z12] at hl
    rw [emt, eDD]
    have ip : i ≠ p := fun z => by rw [if_pos z] at hl; exact absurd hl (by decide)
    rw [if_neg ip] at hl
    by_cases iq : i = q
    · subst iq
      obtain ⟨x1, x2, u1, u2, u3⟩ := aQ 0 x (by decide) hx
      obtain ⟨y1, y2, v1, v2, v3⟩ := aQ 1 y (by decide) hy
      have t1 := g6 i x2 y2 hi hl u3 v3
      have t2 := g4' 0 p x1 (by decide) u2
      have t3 := g4' 1 p y1 (by decide) v2
      have t4 := pq (mt S)
      have t5 : mt S * (o1 p : Int) = (S.a 518 0).toInt * (o1 p : Int) + (S.a 518 1).toInt * (o1 p : Int) := by unfold mt; rw [Int.add_mul]
      omega
    · rw [p1o i ip iq]
      exact g6 i x y hi hl (aO 0 i x (by decide) ip iq hx) (aO 1 i y (by decide) ip iq hy)
  · have := hns (fun x => 2 * o1 x - 1) (fun x => 2 * p1 x - 1) (by show 2 * p1 p - 1 = 0; rw [p1p]) (fun x a b => by show 2 * p1 x - 1 = 2 * o1 x - 1; rw [p1o x a b])
    have this : ns (fun x => 2 * p1 x - 1) 7 + (2 * o1 p - 1) + (2 * o1 q - 1) = ns (fun x => 2 * o1 x - 1) 7 + (2 * p1 q - 1) := this
    rw [p1q] at this
    rw [emt]; omega
  · rw [sm 520 (by decide), xo 520 _ (by decide) (by decide)]; exact g7a c hc
  · have := g8 i hi
    rw [eDD]; omega
  · rw [emt, eAA, eBB, eDD, s8]; exact g9 i hi
  · rw [z12] at hl
    have ip : i ≠ p := fun z => by rw [if_pos z] at hl; exact absurd hl (by decide)
    rw [if_neg ip] at hl
    have := g10 i hi hl
    rw [s9, z4, if_neg ip]
    by_cases iq : i = q
    · rw [if_pos iq, hs4.1]
      rw [iq] at this ⊢
      omega
    · rw [if_neg iq]; exact this
  · have ip : i ≠ p := fun z => mP c hc (by rw [← z]; exact hm)
    refine ⟨ip, ?_⟩
    by_cases iq : i = q
    · exact Or.inl iq
    · exact Or.inr (mO c i hc ip iq hm)
