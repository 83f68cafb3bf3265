-- ===== who has the turn
/-- place a is better than place b -/
def bet (S : MS) (c a b : Nat) : Bool := if 1 < S.a 515 c then (if S.a 515 c = 3 then decide (¬ S.a 524 (10 * c + a) ≤ S.a 524 (10 * c + b)) else decide (¬ S.a 523 (10 * c + a) ≤ S.a 523 (10 * c + b))) else decide (¬ S.a 526 (10 * c + b) ≤ S.a 526 (10 * c + a))
/-- of the first k members: the place with the turn -/
def tof (S : MS) (c : Nat) : Nat → Option Nat
  | 0 => none
  | k + 1 => if S.a 527 (10 * c + k) = 0 then (match tof S c k with
    | none => some k
    | some b => if bet S c k b = true then some k else some b) else tof S c k
def tI : Option Nat → Int32
  | none => -1
  | some k => nI k
theorem tof_lt {S : MS} {c : Nat} : ∀ k b, tof S c k = some b → b < k ∧ S.a 527 (10 * c + b) = 0 := by
  intro k
  induction k with
  | zero => intro b h; cases h
  | succ k ih =>
    intro b h
    rw [tof] at h
    by_cases e : S.a 527 (10 * c + k) = 0
    · rw [if_pos e] at h
      cases ht : tof S c k with
      | none => rw [ht] at h; cases h; exact ⟨Nat.lt_succ_self _, e⟩
      | some b0 =>
        rw [ht] at h
        have h : (if bet S c k b0 = true then some k else some b0) = some b := h
        by_cases e2 : bet S c k b0 = true
        · rw [if_pos e2] at h; cases h; exact ⟨Nat.lt_succ_self _, e⟩
        · rw [if_neg e2] at h; cases h
          have := ih _ ht; exact ⟨by omega, this.2⟩
    · rw [if_neg e] at h
      have := ih b h; exact ⟨by omega, this.2⟩
theorem k_hasOrder {w : Wd} {G : GH} {S S0 : MS} {c : Nat} {Q : Int32 → Wd → Prop} (h : RC w G S S0) (hc : c < nC S) (hy : S.a 515 c = 0 ∨ S.a 515 c = 1 → Q 1 w) (hn : ¬ S.a 515 c = 0 → ¬ S.a 515 c = 1 → Q 0 w) : wp_X0_hasOrder (G.C c) w Q := by
  have g : w.I 101 (G.C c) = S.a 515 c := h.get (k := 1) (f := 101) (r := 515) (by decide) hc
  refine ⟨h.kC hc, fun v1 h1 => ⟨fun y => (y = 1 ∧ (S.a 515 c = 0 ∨ S.a 515 c = 1)) ∨ (y = 0 ∧ ¬ S.a 515 c = 0 ∧ ¬ S.a 515 c = 1), fun y hyy => ?_, S.a 515 c = 0 ∨ S.a 515 c = 1, fun z => Or.inl ⟨rfl, z⟩, fun z => Or.inl (by rw [← g, ← h1]; exact z), fun z => ⟨h.kC hc, fun v5 h5 => ⟨fun z5 => Or.inr ⟨rfl, by rw [← g, ← h1]; exact z, by rw [← g, ← h5]; exact z5⟩, fun z5 => Or.inr (by rw [← g, ← h5]; exact z5)⟩⟩⟩⟩
  rcases hyy with ⟨rfl, z⟩ | ⟨rfl, z1, z2⟩
  · exact ⟨Or.inr rfl, hy z⟩
  · exact ⟨Or.inl rfl, hn z1 z2⟩
theorem k_rank {w : Wd} {G : GH} {S S0 : MS} {j : Nat} {x : Int32} {Q : Int32 → Wd → Prop} (h : RC w G S S0) (hj : inr 3 j S) (hQ : Q (if x = 2 then S.a 523 j else S.a 524 j) w) : wp_X2_rank (G.L j) x w Q := by
  have g1 : w.I 302 (G.L j) = S.a 523 j := h.get (k := 3) (f := 302) (r := 523) (by decide) hj
  have g2 : w.I 303 (G.L j) = S.a 524 j := h.get (k := 3) (f := 303) (r := 524) (by decide) hj
  refine ⟨fun y => y = if x = 2 then S.a 523 j else S.a 524 j, fun y hy => by subst hy; exact hQ, fun z => ⟨h.kL hj, fun v3 h3 => ?_⟩, fun z => ⟨h.kL hj, fun v4 h4 => ?_⟩⟩
  · rw [h3, g2, if_neg z]
  · rw [h4, g1, if_pos z]
def tA (S : MS) (c k : Nat) : Prop := tof S c k = none ∨ ∃ b, tof S c k = some b ∧ bet S c k b = true
theorem tof_A {S : MS} {c k : Nat} (h0 : S.a 527 (10 * c + k) = 0) (h : tA S c k) : tof S c (k + 1) = some k := by
  rw [tof, if_pos h0]
  rcases h with h | ⟨b, h, hb⟩
  · rw [h]
  · rw [h]; exact if_pos hb
theorem tof_N {S : MS} {c k : Nat} (h : ¬ S.a 527 (10 * c + k) = 0 ∨ ¬ tA S c k) : tof S c (k + 1) = tof S c k := by
  rw [tof]
  by_cases h0 : S.a 527 (10 * c + k) = 0
  · rw [if_pos h0]
    have hA := h.resolve_left (fun z => z h0)
    cases ht : tof S c k with
    | none => exact absurd (Or.inl ht) hA
    | some b => exact if_neg (fun z => hA (Or.inr ⟨b, ht, z⟩))
  · rw [if_neg h0]
theorem m_turnOf {S : MS} {c : Nat} {Q : Int32 → MS → Prop} (hI : SH S) (hc : c < nC S) (hQ : Q (tI (tof S c (mn S c))) S) : sp_X4_turnOf (nI c) S Q := by
  obtain ⟨m1, m2, m3⟩ := hI.2.2.2.2 c hc
  have h4 := hI.2.2.2.1
  have hc4 : c < 4 := by omega
  refine ⟨fun n y3 y4 => ∃ k, k ≤ mn S c ∧ n = mn S c - k ∧ y4 = nI k ∧ y3 = tI (tof S c k), ⟨_, 0, Nat.zero_le _, rfl, rfl, rfl⟩, fun n y3 y4 hIv => ?_⟩
  obtain ⟨k, hk, rfl, rfl, rfl⟩ := hIv
  refine ⟨c, rfl, hc4, fun v6 e6 => ?_⟩
  rw [m1] at e6; subst e6
  refine ⟨fun hcc => ?_, fun hcc v7 e7 v8 e8 v9 e9 v10 e10 => ?_⟩
  · have := (nI_leI (by omega) (by omega)).mp hcc
    rw [show k = mn S c by omega]; exact hQ
  · have hk2 : k < mn S c := Nat.lt_of_not_le (fun z => hcc (nI_le z (by omega)))
    have hj : 10 * c + k < 40 := by omega
    rw [e7, at_ix] at e8; subst e8
    refine ⟨fun y => (y = 1 ∧ tA S c k) ∨ (y = 0 ∧ ¬ tA S c k), fun y12 hy => ⟨_, rfl, hj, fun v14 e14 => ⟨fun y => y = tI (tof S c (k + 1)), fun y hyy v17 e17 => ⟨mn S c - (k + 1), by omega, k + 1, by omega, rfl, by rw [e17, nI_1], hyy⟩, tof S c (k + 1) = tof S c k, fun z => by rw [z], fun z => tof_N (Or.inl (fun q => z (e14.trans q))), fun z => ⟨fun z2 => ?_, fun z2 => ?_⟩⟩⟩, tA S c k, fun z => Or.inl ⟨rfl, z⟩, fun z => ?_, fun z => ?_⟩
    · rcases hy with ⟨rfl, hA⟩ | ⟨-, hA⟩
      · exact absurd z2 (by decide)
      · exact tof_N (Or.inr hA)
    · rcases hy with ⟨-, hA⟩ | ⟨rfl, hA⟩
      · rw [tof_A (e14.symm.trans z) hA]; rfl
      · exact absurd rfl z2
    · cases ht : tof S c k with
      | none => exact Or.inl ht
      | some b =>
        rw [ht] at z
        have := (tof_lt k b ht).1
        exact absurd z (nI_pos (by omega))
    · cases ht : tof S c k with
      | none => rw [ht] at z; exact absurd (by decide) z
      | some b =>
        rw [ht] at e10
        have hb := (tof_lt k b ht).1
        have hj2 : 10 * c + b < 40 := by omega
        have e10 : v10 = v9 + nI b := e10
        rw [e9, at_ix] at e10; subst e10
        have hA : ∀ p : Prop, (bet S c k b = true ↔ ¬ p) → (p → ¬ tA S c k) ∧ (¬ p → tA S c k) := fun p hp => ⟨fun q a => by
          rcases a with a | ⟨b2, a, a2⟩
          · rw [ht] at a; cases a
          · rw [ht] at a; cases a; exact hp.mp a2 q, fun q => Or.inr ⟨b, ht, hp.mpr q⟩⟩
        refine ⟨c, rfl, hc4, fun v21 e21 => ⟨¬ tA S c k, fun q => Or.inr ⟨rfl, q⟩, fun c1 => ⟨c, rfl, hc4, fun v24 e24 => ⟨fun c3 => ⟨_, rfl, hj, fun v26 e26 => ⟨_, rfl, hj2, fun v28 e28 => ?_⟩⟩, fun c3 => ⟨_, rfl, hj, fun v26 e26 => ⟨_, rfl, hj2, fun v28 e28 => ?_⟩⟩⟩⟩, fun c1 => ⟨_, rfl, hj, fun v26 e26 => ⟨_, rfl, hj2, fun v28 e28 => ?_⟩⟩⟩⟩
        · subst e21 e24 e26 e28
          exact hA _ (by unfold bet; rw [if_pos c1, if_neg c3, decide_eq_true_iff])
        · subst e21 e24 e26 e28
          exact hA _ (by unfold bet; rw [if_pos c1, if_pos c3, decide_eq_true_iff])
        · subst e21 e26 e28
          exact hA _ (by unfold bet; rw [if_neg c1, decide_eq_true_iff])
theorem k_greatest {w : Wd} {G : GH} {S S0 : MS} {c : Nat} {Q : Option Nat → Wd → Prop} (h : RC w G S S0) (hI : SH S) (hc : c < nC S) (hw : S.a 515 c = 2 ∨ S.a 515 c = 3) (hQ : Q ((tof S c (mn S c)).map (fun b => G.L (10 * c + b))) w) : wp_X0_greatest (G.C c) w Q := by
  obtain ⟨l1, l2⟩ := h.lL hc
  have hm := (hI.2.2.2.2 c hc).2.1
  have gw : w.I 101 (G.C c) = S.a 515 c := h.get (k := 1) (f := 101) (r := 515) (by decide) hc
  refine ⟨fun n q y w4 => ∃ k, k ≤ mn S c ∧ n = mn S c - k ∧ y = nI k ∧ q = (tof S c k).map (fun b => G.L (10 * c + b)) ∧ w4 = w, ⟨_, 0, Nat.zero_le _, rfl, rfl, rfl, rfl⟩, fun n q y w4 hIv => ?_⟩
  obtain ⟨k, hk, rfl, rfl, rfl, rfl⟩ := hIv
  refine ⟨h.kC hc, fun z5 h5 => ⟨_, h5.trans l1, l2.1, s_size l2 ?_⟩⟩
  rw [map_len]
  refine ⟨fun hcc => ?_, fun hcc => ⟨h.kC hc, fun z9 h9 => ⟨_, h9.trans l1, l2.1, ?_⟩⟩⟩
  · have := (nI_leI (by omega) (by omega)).mp hcc
    rw [show k = mn S c by omega]; exact hQ
  · have hk2 : k < mn S c := Nat.lt_of_not_le (fun z => hcc (nI_le z (by omega)))
    have hin : inr 3 (10 * c + k) S := ⟨c, k, rfl, hc, hk2⟩
    refine s_get h.als l2 rfl (by rw [map_len]; exact hk2) ?_
    rw [map_get (f := fun k => G.L (10 * c + k)) hk2]
    have gh : w4.I 305 (G.L (10 * c + k)) = S.a 527 (10 * c + k) := h.get (k := 3) (f := 305) (r := 527) (by decide) hin
    refine ⟨fun y hy => by cases hy; exact h.kL hin, _, rfl, h.kL hin, fun v16 h16 => ⟨fun q w19 => q = (tof S c (k + 1)).map (fun b => G.L (10 * c + b)) ∧ w19 = w4, fun q w19 hj v20 h20 => ⟨mn S c - (k + 1), by omega, k + 1, by omega, rfl, by rw [h20, nI_1], hj.1, hj.2⟩, fun z => ⟨by rw [tof_N (Or.inl (fun p => z (h16.trans (gh.trans p))))], rfl⟩, fun z => ?_⟩⟩
    have h0 : S.a 527 (10 * c + k) = 0 := by rw [← gh, ← h16]; exact z
    refine ⟨fun w22 => w22 = w4 ∧ tA S c k, fun w22 hj => ⟨by rw [tof_A h0 hj.2]; rfl, hj.1⟩, fun hn => ⟨rfl, Or.inl ?_⟩, fun hn => ⟨h.kC hc, fun v23 h23 => ⟨h.kL hin, k_rank h hin ⟨h.kC hc, fun v26 h26 => ?_⟩⟩⟩⟩
    · cases ht : tof S c k with
      | none => rfl
      | some b => rw [ht] at hn; cases hn
    · cases ht : tof S c k with
      | none => rw [ht] at hn; exact absurd rfl hn
      | some b =>
        have hb := (tof_lt k b ht).1
        have hin2 : inr 3 (10 * c + b) S := ⟨c, b, rfl, hc, by omega⟩
        rw [gw] at h23 h26; subst h23 h26
        refine ⟨_, rfl, h.kL hin2, k_rank h hin2 ⟨fun hle => ⟨?_, rfl⟩, fun hle => ⟨rfl, Or.inr ⟨b, ht, ?_⟩⟩⟩⟩
        · rw [tof_N (Or.inr ?_), ht]; · rfl
          intro a
          rcases a with a | ⟨b2, a, a2⟩
          · rw [ht] at a; cases a
          · rw [ht] at a; cases a
            unfold bet at a2
            rcases hw with e | e <;> rw [e] at a2 hle <;> simp at a2 hle <;> exact i_nlt hle a2
        · unfold bet
          rcases hw with e | e <;> rw [e] at hle ⊢ <;> simp at hle ⊢ <;> exact hle
