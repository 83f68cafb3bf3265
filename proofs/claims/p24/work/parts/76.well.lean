-- ===== circles are well; the end of an act
theorem sh1 : ∀ m, m < 8 → ((1 : Int32) <<< (nI m &&& 31)) - 1 = nI (2 ^ m - 1) := by decide +kernel
theorem or1 : ∀ s, s < 128 → ∀ k, k < 7 → nI s ||| ((1 : Int32) <<< (nI k &&& 31)) = nI (s ||| 2 ^ k) := by decide +kernel
theorem sr1 : ∀ s, s < 128 → ∀ k, k < 7 → s.testBit k = false → (nI s >>> (nI k &&& 31)) &&& 1 = 0 := by decide +kernel
def hdn (S : MS) (c P : Nat) : Nat → Nat
  | 0 => 0
  | k + 1 => hdn S c P k + if wh S (10 * c + k) < P ∧ ¬ S.a 527 (10 * c + k) = 0 then 1 else 0
theorem hdn_0 {S : MS} {c : Nat} : ∀ m, hdn S c 0 m = 0 := by
  intro m
  induction m with
  | zero => rfl
  | succ m ih => rw [hdn, ih, if_neg (fun z => Nat.not_lt_zero _ z.1)]
theorem hdn_no {S : MS} {c P : Nat} : ∀ m, (∀ j, j < m → wh S (10 * c + j) ≠ P) → hdn S c (P + 1) m = hdn S c P m := by
  intro m
  induction m with
  | zero => intro _; rfl
  | succ m ih =>
    intro h
    rw [hdn, hdn, ih (fun j hj => h j (by omega))]
    have := h m (Nat.lt_succ_self _)
    by_cases z : wh S (10 * c + m) < P ∧ ¬ S.a 527 (10 * c + m) = 0
    · rw [if_pos z, if_pos ⟨by omega, z.2⟩]
    · rw [if_neg z, if_neg (fun q => z ⟨by omega, q.2⟩)]
theorem hdn_so {S : MS} {c P k : Nat} (hw : wh S (10 * c + k) = P) : ∀ m, k < m → (∀ j, j < m → wh S (10 * c + j) = P → j = k) → hdn S c (P + 1) m = hdn S c P m + if S.a 527 (10 * c + k) = 0 then 0 else 1 := by
  intro m
  induction m with
  | zero => intro h; exact absurd h (Nat.not_lt_zero _)
  | succ m ih =>
    intro h hu
    rw [hdn, hdn]
    by_cases e : k = m
    · subst e
      have e1 : (if wh S (10 * c + k) < P ∧ ¬ S.a 527 (10 * c + k) = 0 then 1 else 0) = 0 := if_neg (fun q => by omega)
      rw [hdn_no k (fun j hj z => by have := hu j (by omega) z; omega), e1]
      by_cases z : S.a 527 (10 * c + k) = 0
      · have e2 : (if wh S (10 * c + k) < P + 1 ∧ ¬ S.a 527 (10 * c + k) = 0 then 1 else 0) = 0 := if_neg (fun q => q.2 z)
        have e3 : (if S.a 527 (10 * c + k) = 0 then 0 else 1) = 0 := if_pos z
        omega
      · have e2 : (if wh S (10 * c + k) < P + 1 ∧ ¬ S.a 527 (10 * c + k) = 0 then 1 else 0) = 1 := if_pos ⟨by omega, z⟩
        have e3 : (if S.a 527 (10 * c + k) = 0 then 0 else 1) = 1 := if_neg z
        omega
    · have hi := ih (by omega) (fun j hj => hu j (by omega))
      have hm : wh S (10 * c + m) ≠ P := fun z => e (hu m (Nat.lt_succ_self _) z).symm
      by_cases z : wh S (10 * c + m) < P ∧ ¬ S.a 527 (10 * c + m) = 0
      · have e1 : (if wh S (10 * c + m) < P ∧ ¬ S.a 527 (10 * c + m) = 0 then 1 else 0) = 1 := if_pos z
        have e2 : (if wh S (10 * c + m) < P + 1 ∧ ¬ S.a 527 (10 * c + m) = 0 then 1 else 0) = 1 := if_pos ⟨by omega, z.2⟩
        omega
      · have e1 : (if wh S (10 * c + m) < P ∧ ¬ S.a 527 (10 * c + m) = 0 then 1 else 0) = 0 := if_neg z
        have e2 : (if wh S (10 * c + m) < P + 1 ∧ ¬ S.a 527 (10 * c + m) = 0 then 1 else 0) = 0 := if_neg (fun q => z ⟨by omega, q.2⟩)
        omega
theorem hdn_le {S : MS} {c P : Nat} : ∀ m, hdn S c P m ≤ m := by
  intro m
  induction m with
  | zero => exact Nat.le_refl _
  | succ m ih =>
    rw [hdn]
    by_cases z : wh S (10 * c + m) < P ∧ ¬ S.a 527 (10 * c + m) = 0
    · rw [if_pos z]; omega
    · rw [if_neg z]; omega
theorem hdn_lt {S : MS} {c P k : Nat} (h0 : S.a 527 (10 * c + k) = 0) : ∀ m, k < m → hdn S c P m < m := by
  intro m
  induction m with
  | zero => intro h; exact absurd h (Nat.not_lt_zero _)
  | succ m ih =>
    intro h
    rw [hdn]
    by_cases e : k = m
    · subst e
      have := hdn_le (S := S) (c := c) (P := P) k
      rw [if_neg (fun q => q.2 h0)]; omega
    · have := ih (by omega)
      by_cases z : wh S (10 * c + m) < P ∧ ¬ S.a 527 (10 * c + m) = 0
      · rw [if_pos z]; omega
      · rw [if_neg z]; omega
/-- the bits of places whose holders are below P -/
def BS (S : MS) (c s P : Nat) : Prop := s < 128 ∧ ∀ k, s.testBit k = decide (k < mn S c ∧ wh S (10 * c + k) < P)
section WS
variable {L : Nat} {xs : Nat → Int32} {x mo o k n : Nat} {S : MS} {w : Wd} {p V : Nat}
theorem AT.well {c : Nat} {Q : Int32 → Wd → Prop} (h : AT x mo o S w) (v : JV n S) (pv : PV o S) (hc : c < 2) (hQ : ∀ w1, AT x mo o S w1 → Q 1 w1) : wp_L_isWell (some x) (nI c) w Q := by
  obtain ⟨p1, p2, p3, p4, p5, -⟩ := pv
  have hcC : c < nC S := by rw [p2]; exact hc
  have h17 := (v.sh.2.2.2.2 c hcC).1
  have m7 := mn_7 v p1 hcC
  have m7' : mn S c ≤ 7 := m7
  obtain ⟨a, b, hab, mo0, pb⟩ := v.mo
  refine ⟨x, rfl, h.cir v hcC (by decide) (by decide) (fun w1 h1 => h1.cir v hcC (by decide) (by decide) (fun w2 h2 => ?_))⟩
  rw [fcir_1, fcir_0, h17]
  refine ⟨fun y => y = 1, fun y hy => ?_, fun z => absurd z (nneg_of (mo0.2.1 c (by omega))), fun _ => rfl⟩
  subst hy
  refine ⟨fun n y10 y11 y12 y13 w => ∃ P s, P ≤ 7 ∧ n = 7 - P ∧ y13 = nI P ∧ y12 = 1 ∧ y10 = nI s ∧ BS S c s P ∧ y11 = nI (hdn S c P (mn S c)) ∧ AT x mo o S w, ⟨7, by decide, 0, 0, by decide, rfl, rfl, rfl, rfl, ⟨by decide, fun k => ?_⟩, by rw [hdn_0]; rfl, h2⟩, fun n8 y10 y11 y12 y13 w14 hI => ?_⟩
  · rw [Nat.zero_testBit]
    exact (decide_eq_false (fun z => Nat.not_lt_zero _ z.2)).symm
  obtain ⟨P, s, hP, rfl, rfl, rfl, rfl, hs, rfl, h14⟩ := hI
  refine ⟨fun hcc => ?_, fun hcc => ?_⟩
  · have := (nI_leI (a := 7) (by decide) (by omega)).mp hcc
    have e : P = 7 := by omega
    subst e
    have es : s = 2 ^ mn S c - 1 := by
      apply Nat.eq_of_testBit_eq
      intro i
      rw [hs.2 i, Nat.testBit_two_pow_sub_one]
      apply decide_eq_decide.mpr
      refine ⟨fun z => z.1, fun z => ⟨z, ?_⟩⟩
      have := ((v.sh.2.2.2.2 c hcC).2.2 i z).2
      omega
    have hz : hdn S c 7 (mn S c) ≤ mn S c := hdn_le _
    refine ⟨fun y w => y = 1 ∧ AT x mo o S w, fun y w hy => by rw [hy.1]; exact ⟨Or.inr rfl, hQ w hy.2⟩, fun _ => False, fun _ z => z.elim, fun z => absurd z (by decide), fun _ v20 h20 v21 h21 => ⟨fun z => z ?_, fun _ => ⟨True, fun _ => h14.cir v hcC (by decide) (by decide) (fun w15 h15 => h15.cir v hcC (by decide) (by decide) (fun w16 h16 => ⟨fun z => ?_, fun _ => ⟨rfl, h16⟩⟩)), fun z => ⟨fun z2 => ?_, fun _ => trivial⟩, fun z => ⟨fun z2 => z2 ?_, fun _ => trivial⟩⟩⟩⟩
    · rw [h21, h20, sh1 _ (by omega), es]
    · rw [fcir_2, fcir_3, i_lt] at z
      have := (p5 c hc).2.1
      omega
    · have hm0 : 0 < mn S c := Nat.pos_of_ne_zero (fun g => z (by rw [g]; rfl))
      obtain ⟨k, k1, k2⟩ := v.tt c hcC hm0
      have := hdn_lt (P := 7) k2 (mn S c) k1
      have := (nI_leI (by omega) (by omega)).mp z2
      omega
    · have : mn S c = 0 := (nI_eq (b := 0) (by omega) (by decide)).mp z
      rw [this]; rfl
  · have hP7 : P < 7 := Nat.lt_of_not_le (fun z => hcc (nI_le (a := 7) z (by omega)))
    have hPP : P < nP S := by rw [p1]; exact hP7
    have hz : hdn S c P (mn S c) ≤ mn S c := hdn_le _
    refine h14.mem v hcC hPP (by decide) (by decide) (fun w27 h27 => ?_)
    cases ep : pl S c P with
    | none =>
      have hno := plc_none _ ep
      have e3 : ∀ y, fm S c P y = -1 := fun y => fm_n hno
      have hs' : BS S c s (P + 1) := ⟨hs.1, fun j => by
        rw [hs.2 j]
        apply decide_eq_decide.mpr
        refine ⟨fun z => ⟨z.1, by omega⟩, fun z => ⟨z.1, ?_⟩⟩
        have := hno j z.1
        omega⟩
      have hh : hdn S c (P + 1) (mn S c) = hdn S c P (mn S c) := hdn_no _ hno
      rw [e3]
      refine ⟨fun y w => y = 1 ∧ AT x mo o S w, fun y30 w31 hy => ?_, fun _ => False, fun _ z => z.elim, fun z => absurd z (by decide), fun _ => ⟨fun z => ?_, fun _ => ⟨fun w => AT x mo o S w, fun w hw => ⟨rfl, hw⟩, fun _ => h27, fun z => absurd (by decide) z⟩⟩⟩
      · refine ⟨fun a b => a ||| b = nI s, fun a b hab v35 h35 => ⟨fun a b w => a + b = nI (hdn S c (P + 1) (mn S c)) ∧ AT x mo o S w, fun a b w39 hj v40 h40 v41 h41 => ⟨7 - (P + 1), by omega, P + 1, s, by omega, rfl, by rw [h41, nI_1], hy.1, by rw [h35, hab], hs', by rw [h40, hj.1], hj.2⟩, fun _ => ⟨by rw [hh, Int32.add_zero], hy.2⟩, fun z => absurd (by decide) z⟩, fun z => absurd z (by decide), fun _ => Int32.or_zero⟩
      · exact absurd (Int32.lt_of_le_of_lt z (by decide : (-1 : Int32) < 0)) (nI_pos (by omega))
    | some k =>
      obtain ⟨k1, k2⟩ := plc_some _ ep
      have e3 : ∀ y, fm S c P y = fmem S c k y := fun y => fm_y v.di hcC k1 k2
      have hu : ∀ j, j < mn S c → wh S (10 * c + j) = P → j = k := fun j hj hw => v.di c hcC j k hj k1 (by rw [hw, k2])
      have hh := hdn_so k2 (mn S c) k1 hu
      have hbit : s.testBit k = false := by
        rw [hs.2 k]
        exact decide_eq_false (fun z => by rw [k2] at z; exact Nat.lt_irrefl _ z.2)
      have hs' : BS S c (s ||| 2 ^ k) (P + 1) := by
        refine ⟨?_, fun j => ?_⟩
        · exact Nat.or_lt_two_pow (n := 7) hs.1 (Nat.pow_lt_pow_right (by decide) (by omega))
        · rw [Nat.testBit_or, hs.2 j, Nat.testBit_two_pow]
          rw [← Bool.decide_or]
          apply decide_eq_decide.mpr
          refine ⟨fun z => z.elim (fun z => ⟨z.1, by omega⟩) (fun z => by subst z; exact ⟨k1, by omega⟩), fun z => ?_⟩
          by_cases g : wh S (10 * c + j) = P
          · exact Or.inr (hu j z.1 g).symm
          · exact Or.inl ⟨z.1, by omega⟩
      have nneg : ¬ (nI k : Int32) < 0 := nI_pos (by omega)
      have hlive := p4 c P hc ⟨k, k1, k2⟩
      have hab := (v.ab c hcC).2.2 k k1
      have hpb := pb (10 * c + k)
      rw [e3, fmem_3]
      refine ⟨fun y w => y = 1 ∧ AT x mo o S w, fun y30 w31 hy => ?_, fun _ => False, fun _ z => z.elim, fun z => absurd z (by decide), fun _ => ⟨fun z => ?_, fun _ => ⟨fun w => AT x mo o S w, fun w hw => ⟨rfl, hw⟩, fun z => absurd z nneg, fun _ v49 h49 v50 h50 => ⟨fun z => z ?_, fun _ => h27.of v hPP (by decide) (by decide) (fun w28 h28 => ⟨fun z => z (fof_al.mpr hlive), fun _ => h28.mem v hcC hPP (by decide) (by decide) (fun w29 h29 => ⟨fun z => ?_, fun _ => h29.mem v hcC hPP (by decide) (by decide) (fun w30 h30 => ⟨fun z => ?_, fun _ => h30⟩)⟩)⟩)⟩⟩⟩⟩
      · refine ⟨fun a b => a ||| b = nI (s ||| 2 ^ k), fun a b hab2 v35 h35 => ⟨fun a b w => a + b = nI (hdn S c (P + 1) (mn S c)) ∧ AT x mo o S w, fun a b w39 hj v40 h40 v41 h41 => ⟨7 - (P + 1), by omega, P + 1, s ||| 2 ^ k, by omega, rfl, by rw [h41, nI_1], hy.1, by rw [h35, hab2], hs', by rw [h40, hj.1], hj.2⟩, fun z => absurd z nneg, fun _ => hy.2.mem v hcC hPP (by decide) (by decide) (fun w42 h42 => ⟨?_, h42⟩)⟩, fun _ v44 h44 => ?_, fun z => absurd (i_nle nneg) z⟩
        · rw [e3, fmem_1, hh]
          by_cases g : S.a 527 (10 * c + k) = 0
          · rw [if_pos g, if_pos g, Int32.add_zero, Nat.add_zero]
          · rw [if_neg g, if_neg g, nI_1]
        · rw [h44]; exact or1 s hs.1 k (by omega)
      · have := (nI_leI (by omega) (by omega)).mp z
        omega
      · rw [h50, h49]; exact sr1 s hs.1 k (by omega) hbit
      · rw [e3, fmem_0] at z
        exact nneg_of hab.1 z
      · rw [e3, fmem_2] at z
        exact nneg_of hpb.1 z
/-- the main loop's state -/
def IM (x mo o : Nat) (n : Nat) (y23 y24 : Int32) (w : Wd) : Prop := ∃ k, k ≤ 50 ∧ n = 50 - k ∧ y24 = nI k ∧ JJ x mo o k y23 w
theorem b_1583 {y94 : Int32} (hk : k ≤ 49) (hnm : NM o) (hp : p < 7) (hJ : JJ x mo o (k + 1) y94 w) : wpc_1583 L xs x mo (50 - k) (IM x mo o) (nI k) (nI p) y94 w := by
  obtain ⟨rfl, S, n, hn, h, st⟩ := hJ
  have v := st.1
  have pv := st.2.1
  have p1 := pv.1
  have hpP : p < nP S := by rw [p1]; exact hp
  obtain ⟨a, b, hab, mo0, pb⟩ := v.mo
  refine ⟨fun y w => y = 1 ∧ AT x mo o S w, fun y w hy v99 h99 => ⟨50 - (k + 1), by omega, k + 1, by omega, rfl, by rw [h99, nI_1], hy.1, S, n, hn, hy.2, st⟩, fun _ => False, fun _ z => z.elim, fun z => absurd z (by decide), fun _ => h.coins v (by omega) (fun w1 h1 => ⟨fun z => absurd rfl z, fun _ => h1.well (c := 0) v pv (by decide) (fun w2 h2 => ⟨fun z => absurd z (by decide), fun _ => h2.well (c := 1) v pv (by decide) (fun w3 h3 => ⟨fun z => absurd z (by decide), fun _ => h3.of v hpP (by decide) (by decide) (fun w4 h4 => h4.house v pv hnm hp (Or.inr ⟨by decide, rfl⟩) (fun w5 h5 => ⟨fun z => z ?_, fun _ => h5.cash v (fun w6 h6 => ⟨fun z => nneg_of mo0.2.2.1 z, fun _ => ⟨rfl, h6⟩⟩)⟩))⟩)⟩)⟩)⟩
  rw [fof_6, p1]
end WS
