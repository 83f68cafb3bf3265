-- ===== houses
def al : Nat → Int32 → Int32 → Int32 → Int32
  | 0, _, _, c => c
  | k + 1, a, b, c => al k (a / 10) (b / 10) (if a - a / 10 * 10 = b - b / 10 * 10 then c else c + 1)
theorem al_sym : ∀ k a b c, al k a b c = al k b a c := by
  intro k
  induction k with
  | zero => intro a b c; rfl
  | succ k ih =>
    intro a b c
    show al k (a / 10) (b / 10) _ = al k (b / 10) (a / 10) _
    rw [ih]
    congr 1
    by_cases h : a - a / 10 * 10 = b - b / 10 * 10
    · rw [if_pos h, if_pos h.symm]
    · rw [if_neg h, if_neg (fun z => h z.symm)]
theorem al_step {k : Nat} {a b c d : Int32} (h : d = if a - a / 10 * 10 = b - b / 10 * 10 then c else c + 1) : al (k + 1) a b c = al k (a / 10) (b / 10) d := by rw [h]; rfl
theorem i12 {c : Int32} : (1 : Int32) < c ↔ 2 ≤ c := by
  rw [Int32.lt_iff_toInt_lt, Int32.le_iff_toInt_le]
  have h1 : (1 : Int32).toInt = 1 := by decide
  have h2 : (2 : Int32).toInt = 2 := by decide
  omega
theorem k_isOfHouse {w : Wd} {G : GH} {S S0 : MS} {i j : Nat} {Q : Int32 → Wd → Prop} (h : RC w G S S0) (hi : i < nP S) (hj : j < nP S) (h1 : 1 < al 5 (S.a 503 i) (S.a 503 j) 0 → Q 0 w) (h2 : ¬ 1 < al 5 (S.a 503 i) (S.a 503 j) 0 → Q 1 w) : wp_X1_isOfHouse (G.P j) (some (G.P i)) w Q := by
  have g1 : w.I 202 (G.P i) = S.a 503 i := h.get (k := 2) (f := 202) (r := 503) (by decide) hi
  have g2 : w.I 202 (G.P j) = S.a 503 j := h.get (k := 2) (f := 202) (r := 503) (by decide) hj
  refine ⟨h.kP hj, fun v1 e1 => ⟨_, rfl, h.kP hi, fun v3 e3 => ?_⟩⟩
  rw [g2] at e1; rw [g1] at e3; subst e1 e3
  rw [al_sym] at h1 h2
  refine ⟨fun n a b c k => n ≤ 5 ∧ k = nI (5 - n) ∧ al n a b c = al 5 (S.a 503 j) (S.a 503 i) 0, ⟨5, Nat.le_refl _, rfl, rfl⟩, fun n a b c k hI => ?_⟩
  obtain ⟨hn, hk, ha⟩ := hI
  subst hk
  refine ⟨fun hc => ?_, fun hc => ?_⟩
  · have : n = 0 := by
      have := (nI_leI (a := 5) (by decide) (by omega)).mp hc
      omega
    subst this
    have ha : c = _ := ha
    rw [← ha] at h1 h2
    exact ⟨fun y => (y = 0 ∧ 1 < c) ∨ (y = 1 ∧ ¬ 1 < c), fun y hy => by
      rcases hy with ⟨rfl, hy⟩ | ⟨rfl, hy⟩
      · exact ⟨Or.inl rfl, h1 hy⟩
      · exact ⟨Or.inr rfl, h2 hy⟩, fun z => Or.inl ⟨rfl, z⟩, fun z => Or.inr ⟨rfl, z⟩⟩
  · have hn0 : 0 < n := by
      rcases Nat.eq_zero_or_pos n with e | e
      · subst e; exact absurd (by decide) hc
      · exact e
    obtain ⟨m, rfl⟩ : ∃ m, n = m + 1 := ⟨n - 1, by omega⟩
    refine ⟨by decide, fun v12 e12 => ⟨by decide, fun v13 e13 => ⟨fun y => y = if v12 = v13 then c else c + 1, fun y hy => ⟨by decide, fun v16 e16 => ⟨by decide, fun v17 e17 v18 e18 => ⟨m, Nat.lt_succ_self m, by omega, ?_, ?_⟩⟩⟩, fun z => (if_pos z).symm, fun z v19 e19 => by rw [e19]; exact (if_neg z).symm⟩⟩⟩
    · rw [e18, nI_1]; congr 1; omega
    · subst e12 e13 e16 e17
      rw [← ha]; exact (al_step hy).symm
theorem m_areAlike {a b : Int32} {S : MS} {Q : Int32 → MS → Prop} (h1 : 1 < al 5 a b 0 → Q 0 S) (h2 : ¬ 1 < al 5 a b 0 → Q 1 S) : sp_X4_areAlike a b S Q := by
  refine ⟨fun n x y c k => n ≤ 5 ∧ k = nI (5 - n) ∧ al n x y c = al 5 a b 0, ⟨5, Nat.le_refl _, rfl, rfl⟩, fun n x y0 c k hI => ?_⟩
  obtain ⟨hn, hk, ha⟩ := hI
  subst hk
  refine ⟨fun hc => ?_, fun hc => ?_⟩
  · have : n = 0 := by
      have := (nI_leI (a := 5) (by decide) (by omega)).mp hc
      omega
    subst this
    have ha : c = _ := ha
    rw [← ha, i12] at h1 h2
    exact ⟨fun y => (y = 0 ∧ 2 ≤ c) ∨ (y = 1 ∧ ¬ 2 ≤ c), fun y hy => by
      rcases hy with ⟨rfl, hy⟩ | ⟨rfl, hy⟩
      · exact ⟨Or.inl rfl, h1 hy⟩
      · exact ⟨Or.inr rfl, h2 hy⟩, fun z => Or.inl ⟨rfl, z⟩, fun z => Or.inr ⟨rfl, z⟩⟩
  · have hn0 : 0 < n := by
      rcases Nat.eq_zero_or_pos n with e | e
      · subst e; exact absurd (by decide) hc
      · exact e
    obtain ⟨m, rfl⟩ : ∃ m, n = m + 1 := ⟨n - 1, by omega⟩
    refine ⟨by decide, fun v12 e12 => ⟨by decide, fun v13 e13 => ⟨fun y z => y = c ∧ z = if v12 = v13 then 0 else 1, fun y z hy v14 e14 => ⟨by decide, fun v16 e16 => ⟨by decide, fun v17 e17 v18 e18 => ⟨m, Nat.lt_succ_self m, by omega, ?_, ?_⟩⟩⟩, fun z => ⟨rfl, (if_neg z).symm⟩, fun z => ⟨rfl, (if_pos z).symm⟩⟩⟩⟩
    · rw [e18, nI_1]; congr 1; omega
    · obtain ⟨rfl, hz⟩ := hy
      rw [← ha, e16, e17]
      refine (al_step ?_).symm
      rw [e14, hz, e12, e13]
      by_cases e : x - x / 10 * 10 = y0 - y0 / 10 * 10
      · rw [if_pos e, if_pos e, Int32.add_zero]
      · rw [if_neg e, if_neg e]
/-- the sum of g over the living of i's house, of the first k people -/
def hcnt (S : MS) (i : Nat) (g : Nat → Int32) : Nat → Int32
  | 0 => 0
  | k + 1 => hcnt S i g k + if S.a 512 k = 0 ∧ ¬ 1 < al 5 (S.a 503 i) (S.a 503 k) 0 then g k else 0
theorem k_houseSize {w : Wd} {G : GH} {S S0 : MS} {i : Nat} {Q : Int32 → Wd → Prop} (h : RC w G S S0) (hn : nP S ≤ 16) (hi : i < nP S) (hQ : Q (hcnt S i (fun _ => 1) (nP S)) w) : wp_X3_houseSize G.x (some (G.P i)) w Q := by
  refine ⟨fun n y3 y4 w5 => ∃ k, k ≤ nP S ∧ n = nP S - k ∧ y4 = nI k ∧ y3 = hcnt S i (fun _ => 1) k ∧ w5 = w, ⟨_, 0, Nat.zero_le _, rfl, rfl, rfl, rfl⟩, fun n y3 y4 w5 hI => ?_⟩
  obtain ⟨k, hk, rfl, rfl, rfl, rfl⟩ := hI
  refine ⟨h.kx, fun z6 h6 => ⟨_, h6.trans h.2.2.1.2.1, h.lP.1, s_size h.lP ?_⟩⟩
  rw [map_len]
  refine ⟨fun hc => ?_, fun hc => ⟨h.kx, fun z10 h10 => ⟨_, h10.trans h.2.2.1.2.1, h.lP.1, ?_⟩⟩⟩
  · have := (nI_leI (by omega) (by omega)).mp hc
    rw [show k = nP S by omega]; exact hQ
  · have hk2 : k < nP S := Nat.lt_of_not_le (fun z => hc (nI_le z (by omega)))
    refine s_get h.als h.lP rfl (by rw [map_len]; exact hk2) ?_
    rw [map_get hk2]
    refine ⟨fun y hy => by cases hy; exact h.kP hk2, _, rfl, h.kP hk2, fun v16 h16 => ?_⟩
    have g : w5.I 212 (G.P k) = S.a 512 k := h.get (k := 2) (f := 212) (r := 512) (by decide) hk2
    rw [g] at h16
    refine ⟨fun y w19 => y = hcnt S i (fun _ => 1) (k + 1) ∧ w19 = w5, fun y w19 hy v20 h20 => ⟨nP S - (k + 1), by omega, k + 1, by omega, rfl, by rw [h20, nI_1], hy.1, hy.2⟩, fun z => ⟨?_, rfl⟩, fun z => ⟨h.kP hk2, k_isOfHouse h hi hk2 (fun a => ⟨fun _ => ⟨?_, rfl⟩, fun q => absurd rfl q⟩) (fun a => ⟨fun q => absurd q (by decide), fun _ v23 h23 => ⟨?_, rfl⟩⟩)⟩⟩
    · rw [hcnt, if_neg (fun q => z (by rw [h16]; exact q.1)), Int32.add_zero]
    · rw [hcnt, if_neg (fun q => q.2 a), Int32.add_zero]
    · rw [hcnt, if_pos ⟨by rw [← h16]; exact z, a⟩, h23]
