-- ===== houses
def al : Nat → Int32 → Int32 → Int32 → Int32
  | 0, _, _, c => c
  | k + 1, a, b, c => al k (a / 10) (b / 10) (if a - a / 10 * 10 = b - b / 10 * 10 then c else c + 1)
theorem al_sym : ∀ k a b c, al k a b c = al k b a c := by
  intro k
  induction k with
  | zero => intro a b c; rfl
  | succ k ih =>
    intro a b c
    show al k (a / 10) (b / 10) _ = al k (b / 10) (a / 10) _
    rw [ih]
    congr 1
    by_cases h : a - a / 10 * 10 = b - b / 10 * 10
    · rw [if_pos h, if_pos h.symm]
    · rw [if_neg h, if_neg (fun z => h z.symm)]
theorem al_step {k : Nat} {a b c d : Int32} (h : d = if a - a / 10 * 10 = b - b / 10 * 10 then c else c + 1) : al (k + 1) a b c = al k (a / 10) (b / 10) d := by rw [h]; rfl
theorem i12 {c : Int32} : (1 : Int32) < c ↔ 2 ≤ c := by
  rw [Int32.lt_iff_toInt_lt, Int32.le_iff_toInt_le]
  have h1 : (1 : Int32).toInt = 1 := by decide
  have h2 : (2 : Int32).toInt = 2 := by decide
  omega
theorem k_isOfHouse {w : Wd} {G : GH} {S S0 : MS} {i j : Nat} {Q : Int32 → Wd → Prop} (h : RC w G S S0) (hi : i < nP S) (hj : j < nP S) (h1 : 1 < al 5 (S.a 503 i) (S.a 503 j) 0 → Q 0 w) (h2 : ¬ 1 < al 5 (S.a 503 i) (S.a 503 j) 0 → Q 1 w) : wp_X1_isOfHouse (G.P j) (some (G.P i)) w Q := by
  have g1 : w.I 202 (G.P i) = S.a 503 i := h.get (k := 2) (f := 202) (r := 503) (by decide) hi
  have g2 : w.I 202 (G.P j) = S.a 503 j := h.get (k := 2) (f := 202) (r := 503) (by decide) hj
  refine ⟨h.kP hj, fun v1 e1 => ⟨_, rfl, h.kP hi, fun v3 e3 => ?_⟩⟩
  rw [g2] at e1; rw [g1] at e3; subst e1 e3
  rw [al_sym] at h1 h2
  refine ⟨fun n a b c k => n ≤ 5 ∧ k = nI (5 - n) ∧ al n a b c = al 5 (S.a 503 j) (S.a 503 i) 0, ⟨5, Nat.le_refl _, rfl, rfl⟩, fun n a b c k hI => ?_⟩
  obtain ⟨hn, hk, ha⟩ := hI
  subst hk
  refine ⟨fun hc => ?_, fun hc => ?_⟩
  · have : n = 0 := by
      have := (nI_leI (a := 5) (by decide) (by omega)).mp hc
      omega
    subst this
    have ha : c = _ := ha
    rw [← ha] at h1 h2
    exact ⟨fun y => (y = 0 ∧ 1 < c) ∨ (y = 1 ∧ ¬ 1 < c), fun y hy => by
      rcases hy with ⟨rfl, hy⟩ | ⟨rfl, hy⟩
      · exact ⟨Or.inl rfl, h1 hy⟩
      · exact ⟨Or.inr rfl, h2 hy⟩, fun z => Or.inl ⟨rfl, z⟩, fun z => Or.inr ⟨rfl, z⟩⟩
  · have hn0 : 0 < n := by
      rcases Nat.eq_zero_or_pos n with e | e
      · subst e; exact absurd (by decide) hc
      · exact e
    obtain ⟨m, rfl⟩ : ∃ m, n = m + 1 := ⟨n - 1, by omega⟩
    refine ⟨by decide, fun v12 e12 => ⟨by decide, fun v13 e13 => ⟨fun y => y = if v12 = v13 then c else c + 1, fun y hy => ⟨by decide, fun v16 e16 => ⟨by decide, fun v17 e17 v18 e18 => ⟨m, Nat.lt_succ_self m, by omega, ?_, ?_⟩⟩⟩, fun z => (if_pos z).symm, fun z v19 e19 => by rw [e19]; exact (if_neg z).symm⟩⟩⟩
    · rw [e18, nI_1]; congr 1; omega
    · subst e12 e13 e16 e17
      rw [← ha]; exact (al_step hy).symm
theorem m_areAlike {a b : Int32} {S : MS} {Q : Int32 → MS → Prop} (h1 : 1 < al 5 a b 0 → Q 0 S) (h2 : ¬ 1 < al 5 a b 0 → Q 1 S) : sp_X4_areAlike a b S Q := by
  refine ⟨fun n x y c k => n ≤ 5 ∧ k = nI (5 - n) ∧ al n x y c = al 5 a b 0, ⟨5, Nat.le_refl _, rfl, rfl⟩, fun n x y0 c k hI => ?_⟩
  obtain ⟨hn, hk, ha⟩ := hI
  subst hk
  refine ⟨fun hc => ?_, fun hc => ?_⟩
  · have : n = 0 := by
      have := (nI_leI (a := 5) (by decide) (by omega)).mp hc
      omega
    subst this
    have ha : c = _ := ha
    rw [← ha, i12] at h1 h2
    exact ⟨fun y => (y = 0 ∧ 2 ≤ c) ∨ (y = 1 ∧ ¬ 2 ≤ c), fun y hy => by
      rcases hy with ⟨rfl, hy⟩ | ⟨rfl, hy⟩
      · exact ⟨Or.inl rfl, h1 hy⟩
      · exact ⟨Or.inr rfl, h2 hy⟩, fun z => Or.inl ⟨rfl, z⟩, fun z => Or.inr ⟨rfl, z⟩⟩
  · have hn0 : 0 < n := by
      rcases Nat.eq_zero_or_pos n with e | e
      · subst e; exact absurd (by decide) hc
      · exact e
    obtain ⟨m, rfl⟩ : ∃ m, n = m + 1 := ⟨n - 1, by omega⟩
    refine ⟨by decide, fun v12 e12 => ⟨by decide, fun v13 e13 => ⟨fun y z => y = c ∧ z = if v12 = v13 then 0 else 1, fun y z hy v14 e14 => ⟨by decide, fun v16 e16 => ⟨by decide, fun v17 e17 v18 e18 => ⟨m, Nat.lt_succ_self m, by omega, ?_, ?_⟩⟩⟩, fun z => ⟨rfl, (if_neg z).symm⟩, fun z => ⟨rfl, (if_pos z).symm⟩⟩⟩⟩
    · rw [e18, nI_1]; congr 1; omega
    · obtain ⟨rfl, hz⟩ := hy
      rw [← ha, e16, e17]
      refine (al_step ?_).symm
      rw [e14, hz, e12, e13]
      by_cases e : x - x / 10 * 10 = y0 - y0 / 10 * 10
      · rw [if_pos e, if_pos e, Int32.add_zero]
      · rw [if_neg e, if_neg e]
/-- the sum of g over the living of i's house, of the first k people -/
def hcnt (S : MS) (i : Nat) (g : Nat → Int32) : Nat → Int32
  | 0 => 0
  | k + 1 => hcnt S i g k + if S.a 512 k = 0 ∧ ¬ 1 < al 5 (S.a 503 i) (S.a 503 k) 0 then g k else 0
theorem k_houseSize {w : Wd} {G : GH} {S S0 : MS} {i : Nat} {Q : Int32 → Wd → Prop} (h : RC w G S S0) (hn : nP S ≤ 16) (hi : i < nP S) (hQ : Q (hcnt S i (fun _ => 1) (nP S)) w) : wp_X3_houseSize G.x (some (G.P i)) w Q := by
  refine ⟨fun n y3 y4 w5 => ∃ k, k ≤ nP S ∧ n = nP S - k ∧ y4 = nI k ∧ y3 = hcnt S i (fun _ => 1) k ∧ w5 = w, ⟨_, 0, Nat.zero_le _, rfl, rfl, rfl, rfl⟩, fun n y3 y4 w5 hI => ?_⟩
  obtain ⟨k, hk, rfl, rfl, rfl, rfl⟩ := hI
  refine ⟨h.kx, fun z6 h6 => ⟨_, h6.trans h.2.2.1.2.1, h.lP.1, s_size h.lP ?_⟩⟩
  rw [map_len]
  refine ⟨fun hc => ?_, fun hc => ⟨h.kx, fun z10 h10 => ⟨_, h10.trans h.2.2.1.2.1, h.lP.1, ?_⟩⟩⟩
  · have := (nI_leI (by omega) (by omega)).mp hc
    rw [show k = nP S by omega]; exact hQ
  · have hk2 : k < nP S := Nat.lt_of_not_le (fun z => hc (nI_le z (by omega)))
    refine s_get h.als h.lP rfl (by rw [map_len]; exact hk2) ?_
    rw [map_get hk2]
    refine ⟨fun y hy => by cases hy; exact h.kP hk2, _, rfl, h.kP hk2, fun v16 h16 => ?_⟩
    have g : w5.I 212 (G.P k) = S.a 512 k := h.get (k := 2) (f := 212) (r := 512) (by decide) hk2
    rw [g] at h16
    refine ⟨fun y w19 => y = hcnt S i (fun _ => 1) (k + 1) ∧ w19 = w5, fun y w19 hy v20 h20 => ⟨nP S - (k + 1), by omega, k + 1, by omega, rfl, by rw [h20, nI_1], hy.1, hy.2⟩, fun z => ⟨?_, rfl⟩, fun z => ⟨h.kP hk2, k_isOfHouse h hi hk2 (fun a => ⟨fun _ => ⟨?_, rfl⟩, fun q => absurd rfl q⟩) (fun a => ⟨fun q => absurd q (by decide), fun _ v23 h23 => ⟨?_, rfl⟩⟩)⟩⟩
    · rw [hcnt, if_neg (fun q => z (by rw [h16]; exact q.1)), Int32.add_zero]
    · rw [hcnt, if_neg (fun q => q.2 a), Int32.add_zero]
    · rw [hcnt, if_pos ⟨by rw [← h16]; exact z, a⟩, h23]
theorem hcnt_setS {S : MS} {i f k : Nat} {v : Int32} {g : Nat → Int32} : hcnt (S.setS f v) i g k = hcnt S i g k := by
  induction k with
  | zero => rfl
  | succ k ih => rw [hcnt, hcnt, ih]; rfl
theorem k_houseDebts {w : Wd} {G : GH} {S S0 : MS} {i : Nat} {Q : Int32 → Wd → Prop} (h : RC w G S S0) (hn : nP S ≤ 16) (hi : i < nP S) (hQ : Q (hcnt S i (fun k => S.a 506 k) (nP S)) w) : wp_X3_houseDebts G.x (some (G.P i)) w Q := by
  refine ⟨fun n y3 y4 w5 => ∃ k, k ≤ nP S ∧ n = nP S - k ∧ y4 = nI k ∧ y3 = hcnt S i (fun k => S.a 506 k) k ∧ w5 = w, ⟨_, 0, Nat.zero_le _, rfl, rfl, rfl, rfl⟩, fun n y3 y4 w5 hI => ?_⟩
  obtain ⟨k, hk, rfl, rfl, rfl, rfl⟩ := hI
  refine ⟨h.kx, fun z6 h6 => ⟨_, h6.trans h.2.2.1.2.1, h.lP.1, s_size h.lP ?_⟩⟩
  rw [map_len]
  refine ⟨fun hc => ?_, fun hc => ⟨h.kx, fun z10 h10 => ⟨_, h10.trans h.2.2.1.2.1, h.lP.1, ?_⟩⟩⟩
  · have := (nI_leI (by omega) (by omega)).mp hc
    rw [show k = nP S by omega]; exact hQ
  · have hk2 : k < nP S := Nat.lt_of_not_le (fun z => hc (nI_le z (by omega)))
    refine s_get h.als h.lP rfl (by rw [map_len]; exact hk2) ?_
    rw [map_get hk2]
    refine ⟨fun y hy => by cases hy; exact h.kP hk2, _, rfl, h.kP hk2, fun v16 h16 => ?_⟩
    have g : w5.I 212 (G.P k) = S.a 512 k := h.get (k := 2) (f := 212) (r := 512) (by decide) hk2
    have g2 : w5.I 206 (G.P k) = S.a 506 k := h.get (k := 2) (f := 206) (r := 506) (by decide) hk2
    rw [g] at h16
    refine ⟨fun y w19 => y = hcnt S i (fun k => S.a 506 k) (k + 1) ∧ w19 = w5, fun y w19 hy v20 h20 => ⟨nP S - (k + 1), by omega, k + 1, by omega, rfl, by rw [h20, nI_1], hy.1, hy.2⟩, fun z => ⟨?_, rfl⟩, fun z => ⟨h.kP hk2, k_isOfHouse h hi hk2 (fun a => ⟨fun _ => ⟨?_, rfl⟩, fun q => absurd rfl q⟩) (fun a => ⟨fun q => absurd q (by decide), fun _ => ⟨h.kP hk2, fun v23 h23 v24 h24 => ⟨?_, rfl⟩⟩⟩)⟩⟩
    · rw [hcnt, if_neg (fun q => z (by rw [h16]; exact q.1)), Int32.add_zero]
    · rw [hcnt, if_neg (fun q => q.2 a), Int32.add_zero]
    · rw [hcnt, if_pos ⟨by rw [← h16]; exact z, a⟩, h24, h23, g2]
theorem m_house {S : MS} {i : Nat} {x2 : Int32} {Q : Int32 → MS → Prop} (hI : SH S) (hi : i < nP S) (hQ : Q (hcnt S i (fun k => if x2 = 0 then 1 else S.a 506 k) (nP S)) S) : sp_X4_house (nI i) x2 S Q := by
  have hn := hI.2.1
  have hi16 : i < 16 := by omega
  refine ⟨fun n y3 y4 S5 => ∃ k, k ≤ nP S ∧ n = nP S - k ∧ y4 = nI k ∧ y3 = hcnt S i (fun k => if x2 = 0 then 1 else S.a 506 k) k ∧ S5 = S, ⟨_, 0, Nat.zero_le _, rfl, rfl, rfl, rfl⟩, fun n y3 y4 S5 hIv v6 h6 => ?_⟩
  obtain ⟨k, hk, rfl, rfl, rfl, rfl⟩ := hIv
  rw [hI.1] at h6; subst h6
  refine ⟨fun hc => ?_, fun hc => ?_⟩
  · have := (nI_leI (by omega) (by omega)).mp hc
    rw [show k = nP S5 by omega]; exact hQ
  · have hk2 : k < nP S5 := Nat.lt_of_not_le (fun z => hc (nI_le z (by omega)))
    refine ⟨k, rfl, by omega, fun v8 h8 => ⟨fun a b S12 => a + b = hcnt S5 i (fun k => if x2 = 0 then 1 else S5.a 506 k) (k + 1) ∧ S12 = S5, fun a b S12 hj v13 h13 v14 h14 => ⟨nP S5 - (k + 1), by omega, k + 1, by omega, rfl, by rw [h14, nI_1], h13.trans hj.1, hj.2⟩, fun a S17 => a = hcnt S5 i (fun k => if x2 = 0 then 1 else S5.a 506 k) k ∧ S17 = S5 ∧ ¬ (S5.a 512 k = 0 ∧ ¬ 1 < al 5 (S5.a 503 i) (S5.a 503 k) 0), fun a S17 hj => ⟨?_, hj.2.1⟩, fun z => ⟨rfl, rfl, fun q => z (h8.trans q.1)⟩, fun z => ⟨i, rfl, hi16, fun v19 h19 => ⟨k, rfl, by omega, fun v21 h21 => ?_⟩⟩⟩⟩
    · rw [hcnt, if_neg hj.2.2, hj.1]
    · subst h19 h21
      refine m_areAlike (fun a => ⟨fun _ => ⟨rfl, rfl, fun q => q.2 a⟩, fun q => absurd rfl q⟩) (fun a => ⟨fun q => absurd q (by decide), fun _ => ⟨fun q => ⟨?_, rfl⟩, fun q => ⟨k, rfl, by omega, fun v25 h25 => ⟨?_, rfl⟩⟩⟩⟩)
      · rw [hcnt, if_pos ⟨h8.symm.trans z, a⟩, if_pos q]
      · rw [hcnt, if_pos ⟨h8.symm.trans z, a⟩, if_neg q, h25]
def fof (S : MS) (i : Nat) (x : Int32) : Int32 := if x = 0 then S.a 504 i else if x = 1 then S.a 505 i else if x = 2 then S.a 506 i else if x = 3 then S.a 510 i else if x = 4 then S.a 511 i else if x = 5 then (if S.a 512 i = 0 then 1 else 0) else hcnt S i (fun _ => 1) (nP S)
/-- what of answers and does -/
def I_of (S : MS) (x1 x2 : Int32) (r : Int32) (S' : MS) : Prop :=
  (S' = S.setS 500 1 ∧ (x1 < 0 ∨ nI (nP S) ≤ x1)) ∨ (S' = S.setS 500 2 ∧ (x2 < 0 ∨ ¬ x2 ≤ 6)) ∨ ∃ i, i < nP S ∧ x1 = nI i ∧ r = fof S i x2 ∧ S' = S.setS 500 0
theorem o_of {w : Wd} {G : GH} {S : MS} {x1 x2 : Int32} (h : RC w G S S) (hI : SH S) : OC w G S (fun Q => wp_L_of (some G.x) x1 x2 (some G.o) w Q) (fun Q => sp_X4_of x1 x2 S Q) (I_of S x1 x2) := by
  have hn := hI.2.1
  have er : ∀ k : Int32, k ≠ 0 → ∀ (P : Prop), ((S.setS 500 k).s 500 = 0 → P) ∧ (¬ (S.setS 500 k).s 500 = 0 → (k = 0 → (0 : Int32) = 0) ∧ S.setS 500 k = S.setS 500 k) :=
    fun k hk P => ⟨fun z => absurd z hk, fun _ => ⟨fun z => absurd z hk, rfl⟩⟩
  rcases ix_p x1 hn with hx | ⟨i, hi, rfl⟩
  · refine ⟨1, 0, S.setS 500 1, G, rfl, Or.inl ⟨rfl, hx⟩, rfl, rfl, rfl, fun Q hQ => ?_, ?_⟩
    · exact ⟨G.x, rfl, h.kx, h.kx, k_personAt h hn (fun i hi e => absurd hx (by rw [e]; exact ix_ne hi hn)) (fun _ => Or.inl ⟨rfl, hQ w h.thrown (fun z => by cases z)⟩)⟩
    · refine m_isOne_n hI hx ⟨fun y S5 => y = 1 ∧ S5 = S, fun y S5 hy S6 h6 v7 h7 => ?_, fun z => absurd rfl z, fun _ => ⟨rfl, rfl⟩⟩
      obtain ⟨rfl, rfl⟩ := hy
      subst h6 h7
      exact er 1 (by decide) _
  have hi16 : i < 16 := by omega
  by_cases hr : x2 < (0 : Int32) ∨ ¬ x2 ≤ 6
  · refine ⟨2, 0, S.setS 500 2, G, rfl, Or.inr (Or.inl ⟨rfl, hr⟩), rfl, rfl, rfl, fun Q hQ => ?_, ?_⟩
    · refine ⟨G.x, rfl, h.kx, h.kx, k_personAt h hn (fun j hj e => k_range (fun a b => (hr.elim (fun z => a z) (fun z => z b)).elim) (fun _ => Or.inr ⟨rfl, hQ w h.thrown (fun z => by cases z)⟩)) (fun z => absurd z (ix_ne hi hn))⟩
    · refine m_isOne_y hI hi ⟨fun y S5 => y = 2 ∧ S5 = S, fun y S5 hy S6 h6 v7 h7 => ?_, fun _ => m_in_n (hr.imp_right i_le) ⟨fun z => absurd rfl z, fun _ => ⟨rfl, rfl⟩⟩, fun z => absurd z (by decide)⟩
      obtain ⟨rfl, rfl⟩ := hy
      subst h6 h7
      exact er 2 (by decide) _
  have r1 : ¬ x2 < (0 : Int32) := fun z => hr (Or.inl z)
  have r2 : x2 ≤ 6 := Classical.byContradiction fun z => hr (Or.inr z)
  have gg : ∀ f r, (f, r, 2) ∈ etab → w.I f (G.P i) = S.a r i := fun f r he => h.get (k := 2) he hi
  refine ⟨0, fof S i x2, S.setS 500 0, G, rfl, Or.inr (Or.inr ⟨i, hi, rfl, rfl, rfl⟩), rfl, rfl, rfl, fun Q hQ => ?_, ?_⟩
  · have fin : ∀ v, v = fof S i x2 → ∃ a5, some G.o = some a5 ∧ True ∧ ∃ j6 : Nat, (0 : Int32) = nI j6 ∧ j6 = 0 ∧ True ∧ ∀ w7 : Wd, w7 = w.setJ a5 j6 v.toInt64 → Q (0 : Int32) w7 := fun v hv => by
      subst hv
      exact out_ok (S' := S.setS 500 0) h.thrown (fun w1 q r => hQ w1 q (fun _ => r))
    refine ⟨G.x, rfl, h.kx, h.kx, k_personAt h hn (fun j hj e => k_range (fun _ _ => ?_) (fun z => absurd z hr)) (fun z => absurd z (ix_ne hi hn))⟩
    obtain rfl : i = j := (nI_eq (by omega) (by omega)).mp e
    refine ⟨fun c => ⟨_, rfl, h.kP hi, fun v hv => fin v ?_⟩, fun c => ⟨_, rfl, h.kP hi, fun v hv => fin v ?_⟩, fun c => ⟨_, rfl, h.kP hi, fun v hv => fin v ?_⟩, fun c => ⟨_, rfl, h.kP hi, fun v hv => fin v ?_⟩, fun c => ⟨_, rfl, h.kP hi, fun v hv => fin v ?_⟩, fun c => ⟨_, rfl, h.kP hi, fun v hv => ⟨fun y => y = fof S i x2, fun y hy => fin y hy, fun z => ?_, fun z => ?_⟩⟩, fun c => ⟨h.kx, k_houseSize h hn hi (fin _ ?_)⟩⟩
    · subst c; exact hv.trans (gg 204 504 (by decide))
    · subst c; exact hv.trans (gg 205 505 (by decide))
    · subst c; exact hv.trans (gg 206 506 (by decide))
    · subst c; exact hv.trans (gg 210 510 (by decide))
    · subst c; exact hv.trans (gg 211 511 (by decide))
    · subst c; rw [hv, gg 212 512 (by decide)] at z
      show (1 : Int32) = if S.a 512 i = 0 then 1 else 0
      rw [if_pos z]
    · subst c; rw [hv, gg 212 512 (by decide)] at z
      show (0 : Int32) = if S.a 512 i = 0 then 1 else 0
      rw [if_neg z]
    · have ne : ∀ m : Int32, (0 ≤ m.toInt ∧ m.toInt ≤ 5) → ¬ x2 = m := fun m hm e => by subst e; omega
      unfold fof
      rw [if_neg (ne 0 (by decide)), if_neg (ne 1 (by decide)), if_neg (ne 2 (by decide)), if_neg (ne 3 (by decide)), if_neg (ne 4 (by decide)), if_neg (ne 5 (by decide))]
  · refine m_isOne_y hI hi ⟨fun y S5 => y = 0 ∧ S5 = S, fun y S5 hy S6 h6 v7 h7 => ?_, fun _ => m_in_y r1 (i_nlt r2) ⟨fun _ => ⟨rfl, rfl⟩, fun z => absurd z (by decide)⟩, fun z => absurd z (by decide)⟩
    obtain ⟨rfl, rfl⟩ := hy
    subst h6
    refine ⟨fun _ => ⟨i, rfl, hi16, fun v9 h9 => ?_⟩, fun z => absurd h7 z⟩
    refine ⟨fun y => y = if S5.a 512 i = 0 then 1 else 0, fun y11 hy => ⟨fun y S14 => y = fof S5 i x2 ∧ S14 = S5.setS 500 0, fun y S14 hj => ⟨fun _ => hj.1, hj.2⟩, ?_⟩, fun z => (if_pos (show S5.a 512 i = 0 from h9.symm.trans z)).symm, fun z => (if_neg (show ¬ S5.a 512 i = 0 from fun q => z (h9.trans q))).symm⟩
    unfold fof
    refine ⟨fun c0 => ⟨fun c1 => ⟨fun c2 => ⟨fun c3 => ⟨fun c4 => ⟨fun c5 => ?_, fun c => ?_⟩, fun c => ⟨i, rfl, hi16, fun v hv => ?_⟩⟩, fun c => ⟨i, rfl, hi16, fun v hv => ?_⟩⟩, fun c => ⟨i, rfl, hi16, fun v hv => ?_⟩⟩, fun c => ⟨i, rfl, hi16, fun v hv => ?_⟩⟩, fun c => ⟨i, rfl, hi16, fun v hv => ?_⟩⟩
    · refine m_house (S := S5.setS 500 0) hI hi ?_
      rw [if_neg c0, if_neg c1, if_neg c2, if_neg c3, if_neg c4, if_neg c5]
      exact ⟨hcnt_setS, rfl⟩
    · subst c; exact ⟨hy, rfl⟩
    · subst c; exact ⟨hv, rfl⟩
    · subst c; exact ⟨hv, rfl⟩
    · subst c; exact ⟨hv, rfl⟩
    · subst c; exact ⟨hv, rfl⟩
    · subst c; exact ⟨hv, rfl⟩
