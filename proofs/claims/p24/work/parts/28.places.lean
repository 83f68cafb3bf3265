-- ===== places
theorem RC.lL {w : Wd} {G : GH} {S S0 : MS} {c : Nat} (h : RC w G S S0) (hc : c < nC S) : w.R 102 (G.C c) = some (G.li (2 + 2 * c)) ∧ Ls w (G.li (2 + 2 * c)) ((List.range (mn S c)).map (fun k => G.L (10 * c + k))) :=
  ⟨(h.2.2.1.2.2.2.2.2.2.2.1 c hc).1, (h.2.2.1.2.2.2.2.2.2.2.1 c hc).2.2.1⟩
theorem RC.hold {w : Wd} {G : GH} {S S0 : MS} {j : Nat} (h : RC w G S S0) (hj : inr 3 j S) : w.R 300 (G.L j) = some (G.P (wh S j)) := h.2.2.1.2.2.2.2.2.2.2.2 j hj
theorem RC.pinj {w : Wd} {G : GH} {S S0 : MS} {i j : Nat} (h : RC w G S S0) (hi : i < nP S) (hj : j < nP S) (e : G.P i = G.P j) : i = j := h.2.2.2.1.1 2 i j (by decide) (by decide) hi hj e
theorem k_indexOf {w : Wd} {G : GH} {S S0 : MS} {c i : Nat} {Q : Int32 → Wd → Prop} (h : RC w G S S0) (hI : SH S) (hc : c < nC S) (hi : i < nP S) (hy : ∀ k, k < mn S c → wh S (10 * c + k) = i → Q (nI k) w) (hn : (∀ k, k < mn S c → wh S (10 * c + k) ≠ i) → Q (-1) w) : wp_X0_indexOf (G.C c) (some (G.P i)) w Q := by
  obtain ⟨l1, l2⟩ := h.lL hc
  have hm := (hI.2.2.2.2 c hc).2.1
  refine ⟨fun n y w4 => ∃ k, k ≤ mn S c ∧ n = mn S c - k ∧ y = nI k ∧ (∀ k', k' < k → wh S (10 * c + k') ≠ i) ∧ w4 = w, ⟨_, 0, Nat.zero_le _, rfl, rfl, fun k' hk => absurd hk (Nat.not_lt_zero _), rfl⟩, fun n y w4 hIv => ?_⟩
  obtain ⟨k, hk, rfl, rfl, ha, rfl⟩ := hIv
  refine ⟨h.kC hc, fun z5 h5 => ⟨_, h5.trans l1, l2.1, s_size l2 ?_⟩⟩
  rw [map_len]
  refine ⟨fun hcc => ?_, fun hcc => ⟨h.kC hc, fun z9 h9 => ⟨_, h9.trans l1, l2.1, ?_⟩⟩⟩
  · have := (nI_leI (by omega) (by omega)).mp hcc
    exact hn (fun k' hk' => ha k' (by omega))
  · have hk2 : k < mn S c := Nat.lt_of_not_le (fun z => hcc (nI_le z (by omega)))
    have hin : inr 3 (10 * c + k) S := ⟨c, k, rfl, hc, hk2⟩
    refine s_get h.als l2 rfl (by rw [map_len]; exact hk2) ?_
    rw [map_get (f := fun k => G.L (10 * c + k)) hk2]
    refine ⟨fun y hy => by cases hy; exact h.kL hin, _, rfl, h.kL hin, fun z15 h15 => ?_⟩
    rw [h.hold hin] at h15
    subst h15
    refine ⟨fun z v16 h16 => ⟨mn S c - (k + 1), by omega, k + 1, by omega, rfl, by rw [h16, nI_1], fun k' hk' => ?_, rfl⟩, fun z => ?_⟩
    · by_cases e : k' = k
      · subst e; exact fun q => z (by rw [q])
      · exact ha k' (by omega)
    · have z2 : G.P (wh S (10 * c + k)) = G.P i := by injection z
      exact hy k hk2 (h.pinj ((hI.2.2.2.2 c hc).2.2 k hk2).2 hi z2)
theorem k_placeOf {w : Wd} {G : GH} {S S0 : MS} {c i : Nat} {Q : Option Nat → Wd → Prop} (h : RC w G S S0) (hI : SH S) (hc : c < nC S) (hi : i < nP S) (hy : ∀ k, k < mn S c → wh S (10 * c + k) = i → Q (some (G.L (10 * c + k))) w) (hn : (∀ k, k < mn S c → wh S (10 * c + k) ≠ i) → Q none w) : wp_X0_placeOf (G.C c) (some (G.P i)) w Q := by
  obtain ⟨l1, l2⟩ := h.lL hc
  have hm := (hI.2.2.2.2 c hc).2.1
  refine ⟨h.kC hc, k_indexOf h hI hc hi (fun k hk hw => ⟨_, fun q4 w5 hj => hj, fun _ => False, fun w7 hj => hj.elim, fun z => absurd z (nI_pos (by omega)), fun _ => ⟨h.kC hc, fun z8 h8 => ⟨_, h8.trans l1, l2.1, s_size l2 ?_⟩⟩⟩) (fun hne => ⟨_, fun q4 w5 hj => hj, fun w7 => w7 = w, fun w7 hj => by subst hj; exact hn hne, fun _ => rfl, fun z => absurd (by decide) z⟩)⟩
  rw [map_len]
  refine ⟨fun z => absurd z (nI_ge hk (by omega)), fun _ => ⟨h.kC hc, fun z12 h12 => ⟨_, h12.trans l1, l2.1, ?_⟩⟩⟩
  have hin : inr 3 (10 * c + k) S := ⟨c, k, rfl, hc, hk⟩
  refine s_get h.als l2 rfl (by rw [map_len]; exact hk) ?_
  rw [map_get (f := fun k => G.L (10 * c + k)) hk]
  exact ⟨fun y hy => by cases hy; exact h.kL hin, hy k hk hw⟩
/-- members of a circle are different persons -/
def DI (S : MS) : Prop := ∀ c, c < nC S → ∀ k k', k < mn S c → k' < mn S c → wh S (10 * c + k) = wh S (10 * c + k') → k = k'
theorem at_ix {c k : Nat} : (10 : Int32) * nI c + nI k = nI (10 * c + k) := by
  rw [show (10 : Int32) = nI 10 from rfl, pk_mul, nI_add]
theorem m_placeOf {S : MS} {c i : Nat} {Q : Int32 → MS → Prop} (hI : SH S) (hD : DI S) (hc : c < nC S) (hi : i < nP S) (hy : ∀ k, k < mn S c → wh S (10 * c + k) = i → Q (nI k) S) (hn : (∀ k, k < mn S c → wh S (10 * c + k) ≠ i) → Q (-1) S) : sp_X4_placeOf (nI c) (nI i) S Q := by
  obtain ⟨m1, m2, m3⟩ := hI.2.2.2.2 c hc
  have h4 := hI.2.2.2.1
  have h16 := hI.2.1
  refine ⟨fun n y3 y4 => ∃ k, k ≤ mn S c ∧ n = mn S c - k ∧ y4 = nI k ∧ ((∀ k', k' < k → wh S (10 * c + k') ≠ i) ∧ y3 = -1 ∨ ∃ k0, k0 < k ∧ wh S (10 * c + k0) = i ∧ y3 = nI k0), ⟨_, 0, Nat.zero_le _, rfl, rfl, Or.inl ⟨fun k' hk => absurd hk (Nat.not_lt_zero _), rfl⟩⟩, fun n y3 y4 hIv => ?_⟩
  obtain ⟨k, hk, rfl, rfl, ha⟩ := hIv
  refine ⟨c, rfl, by omega, fun v6 e6 => ?_⟩
  rw [m1] at e6; subst e6
  refine ⟨fun hcc => ?_, fun hcc v7 e7 v8 e8 => ?_⟩
  · have := (nI_leI (by omega) (by omega)).mp hcc
    rcases ha with ⟨ha, rfl⟩ | ⟨k0, h0, h1, rfl⟩
    · exact hn (fun k' hk' => ha k' (by omega))
    · exact hy k0 (by omega) h1
  · have hk2 : k < mn S c := Nat.lt_of_not_le (fun z => hcc (nI_le z (by omega)))
    rw [e7, at_ix] at e8; subst e8
    obtain ⟨w1, w2⟩ := m3 k hk2
    refine ⟨_, rfl, by omega, fun v10 e10 => ?_⟩
    rw [w1] at e10; subst e10
    refine ⟨fun y => (∀ k', k' < k + 1 → wh S (10 * c + k') ≠ i) ∧ y = -1 ∨ ∃ k0, k0 < k + 1 ∧ wh S (10 * c + k0) = i ∧ y = nI k0, fun y hj v13 e13 => ⟨mn S c - (k + 1), by omega, k + 1, by omega, rfl, by rw [e13, nI_1], hj⟩, fun z => ?_, fun z => ?_⟩
    · rcases ha with ⟨ha, e⟩ | ⟨k0, h0, h1, e⟩
      · refine Or.inl ⟨fun k' hk' => ?_, e⟩
        by_cases ek : k' = k
        · subst ek; exact fun q => z (by rw [q])
        · exact ha k' (by omega)
      · exact Or.inr ⟨k0, by omega, h1, e⟩
    · exact Or.inr ⟨k, by omega, (nI_eq (by omega) (by omega)).mp z, rfl⟩
