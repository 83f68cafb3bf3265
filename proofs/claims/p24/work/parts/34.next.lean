-- ===== who is next, on both sides
theorem Ls.len {w : Wd} {a : Nat} {l : List Nat} (hA : ALs w) (h : Ls w a l) : l.length ≤ 64 := by
  obtain ⟨h1, h2, h3, d, h4, h5, h6⟩ := h
  obtain ⟨d', q1, q0, -⟩ := hA a h1
  rw [h4] at q1; cases q1; omega
theorem k_sz {w : Wd} {G : GH} {S S0 : MS} {c : Nat} {Q : Int32 → Wd → Prop} (h : RC w G S S0) (hc : c < nC S) (hQ : Q (nI (mn S c)) w) : w.K (G.C c) = 1 ∧ ∀ z : Option Nat, z = w.R 102 (G.C c) → ∃ a, z = some a ∧ w.K a = 6 ∧ wp_Jx4a65c_size_8abf5 a w Q := by
  obtain ⟨l1, l2⟩ := h.lL hc
  exact ⟨h.kC hc, fun z hz => ⟨_, hz.trans l1, l2.1, s_size l2 (by rw [map_len]; exact hQ)⟩⟩
theorem k_at {w : Wd} {G : GH} {S S0 : MS} {c k : Nat} {y : Int32} {Q : Option Nat → Wd → Prop} (h : RC w G S S0) (hc : c < nC S) (hk : k < mn S c) (hy : y = nI k) (hQ : Q (some (G.L (10 * c + k))) w) : w.K (G.C c) = 1 ∧ ∀ z : Option Nat, z = w.R 102 (G.C c) → ∃ a, z = some a ∧ w.K a = 6 ∧ wp_Jx4a65c_get_915e3 a y w (fun z1 w1 => (∀ y, z1 = some y → w1.K y = 3) ∧ Q z1 w1) := by
  obtain ⟨l1, l2⟩ := h.lL hc
  refine ⟨h.kC hc, fun z hz => ⟨_, hz.trans l1, l2.1, ?_⟩⟩
  refine s_get h.als l2 hy (by rw [map_len]; exact hk) ?_
  rw [map_get (f := fun k => G.L (10 * c + k)) hk]
  exact ⟨fun y hy => by cases hy; exact h.kL ⟨c, k, rfl, hc, hk⟩, hQ⟩
theorem RC.lO {w : Wd} {G : GH} {S S0 : MS} {c : Nat} (h : RC w G S S0) (hc : c < nC S) : w.R 103 (G.C c) = some (G.li (3 + 2 * c)) ∧ Ls w (G.li (3 + 2 * c)) (G.O c) :=
  ⟨(h.2.2.1.2.2.2.2.2.2.2.1 c hc).2.1, (h.2.2.1.2.2.2.2.2.2.2.1 c hc).2.2.2⟩
theorem RC.ro {w : Wd} {G : GH} {S S0 : MS} (h : RC w G S S0) : RO G S := h.2.2.2.2.2.2.1
theorem RC.linj {w : Wd} {G : GH} {S S0 : MS} {i j : Nat} (h : RC w G S S0) (hi : inr 3 i S) (hj : inr 3 j S) (e : G.L i = G.L j) : i = j := h.2.2.2.1.1 3 i j (by decide) (by decide) hi hj e
theorem cL_mem {G : GH} {S : MS} {c a : Nat} : a ∈ cLst G S c ↔ ∃ b, b < mn S c ∧ a = G.L (10 * c + b) := by
  unfold cLst
  rw [List.mem_map]
  constructor
  · rintro ⟨b, h1, h2⟩
    exact ⟨b, List.mem_range.mp h1, h2.symm⟩
  · rintro ⟨b, h1, h2⟩
    exact ⟨b, List.mem_range.mpr h1, h2.symm⟩
theorem tof_min {S : MS} {c : Nat} (hw : ¬ 1 < S.a 515 c) : ∀ k, (∀ b, tof S c k = some b → ∀ j, j < k → S.a 527 (10 * c + j) = 0 → S.a 526 (10 * c + b) ≤ S.a 526 (10 * c + j)) ∧ (tof S c k = none → ∀ j, j < k → ¬ S.a 527 (10 * c + j) = 0) := by
  intro k
  induction k with
  | zero => exact ⟨fun b h => (by cases h), fun _ j hj => absurd hj (Nat.not_lt_zero _)⟩
  | succ k ih =>
    have hbt : ∀ b, bet S c k b = decide (¬ S.a 526 (10 * c + b) ≤ S.a 526 (10 * c + k)) := fun b => by unfold bet; rw [if_neg hw]
    by_cases hA : S.a 527 (10 * c + k) = 0 ∧ tA S c k
    · rw [tof_A hA.1 hA.2]
      refine ⟨fun b hb j hj h0 => ?_, fun z => by cases z⟩
      cases hb
      rcases Nat.lt_or_ge j k with e | e
      · rcases hA.2 with q | ⟨b, q, hb⟩
        · exact absurd h0 (ih.2 q j e)
        · have h1 := ih.1 b q j e h0
          rw [hbt, decide_eq_true_iff] at hb
          exact Int32.le_trans (Int32.le_of_lt (i_le hb)) h1
      · rw [show j = k by omega]; exact Int32.le_refl _
    · have hN : tof S c (k + 1) = tof S c k := tof_N (by
        by_cases h0 : S.a 527 (10 * c + k) = 0
        · exact Or.inr (fun q => hA ⟨h0, q⟩)
        · exact Or.inl h0)
      rw [hN]
      refine ⟨fun b hb j hj h0 => ?_, fun z j hj h0 => ?_⟩
      · rcases Nat.lt_or_ge j k with e | e
        · exact ih.1 b hb j e h0
        · have e : j = k := by omega
          subst e
          refine Classical.byContradiction fun q => hA ⟨h0, Or.inr ⟨b, hb, ?_⟩⟩
          rw [hbt, decide_eq_true_iff]; exact q
      · rcases Nat.lt_or_ge j k with e | e
        · exact ih.2 z j e h0
        · have e : j = k := by omega
          subst e
          exact hA ⟨h0, Or.inl z⟩
theorem k_firstInOrder {w : Wd} {G : GH} {S S0 : MS} {c : Nat} {Q : Option Nat → Wd → Prop} (h : RC w G S S0) (hc : c < nC S) (ho : hasO S c) (hQ : Q ((tof S c (mn S c)).map (fun b => G.L (10 * c + b))) w) : wp_X0_firstInOrder (G.C c) w Q := by
  obtain ⟨l1, l2⟩ := h.lO hc
  obtain ⟨o1, o2, o3⟩ := (h.ro c hc).2 ho
  have hlen := l2.len h.als
  have hw : ¬ 1 < S.a 515 c := i_nlt ho.2
  obtain ⟨t1, t2⟩ := tof_min hw (mn S c)
  have inj : ∀ b b', b < mn S c → b' < mn S c → G.L (10 * c + b) = G.L (10 * c + b') → b = b' := fun b b' hb hb' e => by
    have := h.linj ⟨c, b, rfl, hc, hb⟩ ⟨c, b', rfl, hc, hb'⟩ e
    omega
  refine ⟨fun n y w4 => ∃ k, k ≤ (G.O c).length ∧ n = (G.O c).length - k ∧ y = nI k ∧ (∀ j b, j < k → b < mn S c → (G.O c)[j]? = some (G.L (10 * c + b)) → ¬ S.a 527 (10 * c + b) = 0) ∧ w4 = w, ⟨_, 0, Nat.zero_le _, rfl, rfl, fun j b hj => absurd hj (Nat.not_lt_zero _), rfl⟩, fun n y w4 hIv => ?_⟩
  obtain ⟨k, hk, rfl, rfl, ha, rfl⟩ := hIv
  refine ⟨h.kC hc, fun z5 h5 => ⟨_, h5.trans l1, l2.1, s_size l2 ⟨fun hcc => ?_, fun hcc => ⟨h.kC hc, fun z9 h9 => ⟨_, h9.trans l1, l2.1, ?_⟩⟩⟩⟩⟩
  · have hkk := (nI_leI (by omega) (by omega)).mp hcc
    cases ht : tof S c (mn S c) with
    | none => rw [ht] at hQ; exact hQ
    | some b =>
      exfalso
      obtain ⟨b1, b2⟩ := tof_lt _ _ ht
      obtain ⟨j, hj⟩ := List.getElem?_of_mem ((o1 _).mpr (cL_mem.mpr ⟨b, b1, rfl⟩))
      have hj2 : j < (G.O c).length := (List.getElem?_eq_some_iff.mp hj).1
      exact ha j b (by omega) b1 hj b2
  · have hk2 : k < (G.O c).length := Nat.lt_of_not_le (fun z => hcc (nI_le z (by omega)))
    obtain ⟨b, b1, b2⟩ := cL_mem.mp ((o1 _).mp (List.getElem_mem hk2))
    have hg : (G.O c)[k]? = some (G.L (10 * c + b)) := by rw [List.getElem?_eq_getElem hk2, b2]
    have hin : inr 3 (10 * c + b) S := ⟨c, b, rfl, hc, b1⟩
    refine s_get h.als l2 rfl hk2 ?_
    rw [hg]
    have gh : w4.I 305 (G.L (10 * c + b)) = S.a 527 (10 * c + b) := h.get (k := 3) (f := 305) (r := 527) (by decide) hin
    refine ⟨fun y hy => by cases hy; exact h.kL hin, _, rfl, h.kL hin, fun v15 h15 => ⟨fun z v16 h16 => ⟨(G.O c).length - (k + 1), by omega, k + 1, by omega, rfl, by rw [h16, nI_1], fun j b' hj hb' hjb => ?_, rfl⟩, fun z => ⟨h.kC hc, fun z17 h17 => ⟨_, h17.trans l1, l2.1, ?_⟩⟩⟩⟩
    · rcases Nat.lt_or_ge j k with e | e
      · exact ha j b' e hb' hjb
      · have e : j = k := by omega
        subst e
        rw [hg] at hjb
        have : b = b' := inj b b' b1 hb' (by injection hjb)
        subst this
        rw [← gh, ← h15]; exact z
    · refine s_get h.als l2 rfl hk2 ?_
      rw [hg]
      refine ⟨fun y hy => by cases hy; exact h.kL hin, ?_⟩
      have h0 : S.a 527 (10 * c + b) = 0 := by rw [← gh, ← h15]; exact z
      cases ht : tof S c (mn S c) with
      | none => exact absurd h0 (t2 ht b b1)
      | some b' =>
        rw [ht] at hQ
        obtain ⟨c1, c2⟩ := tof_lt _ _ ht
        obtain ⟨j, hj⟩ := List.getElem?_of_mem ((o1 _).mpr (cL_mem.mpr ⟨b', c1, rfl⟩))
        obtain ⟨hj2, hj3⟩ := List.getElem?_eq_some_iff.mp hj
        rcases Nat.lt_trichotomy j k with e | e | e
        · exact absurd c2 (ha j b' e c1 hj)
        · subst e
          rw [hg] at hj
          have : b = b' := inj b b' b1 c1 (by injection hj)
          subst this; exact hQ
        · exfalso
          have hlt := (List.pairwise_iff_getElem.mp o2) k j hk2 hj2 e
          rw [b2, hj3] at hlt
          have hle := t1 b' ht b b1 h0
          rw [(o3 b' c1).1, (o3 b b1).1, nI_leI (by have := (o3 b' c1).2; omega) (by have := (o3 b b1).2; omega)] at hle
          omega
/-- ways and starts are what they may be -/
def WY (S : MS) : Prop := ∀ c, c < nC S → (S.a 515 c = 0 ∨ S.a 515 c = 1 ∨ S.a 515 c = 2 ∨ S.a 515 c = 3) ∧ (S.a 520 c = 0 ∨ S.a 520 c = 1)
theorem k_upNext {w : Wd} {G : GH} {S S0 : MS} {c : Nat} {Q : Option Nat → Wd → Prop} (h : RC w G S S0) (hI : SH S) (hY : WY S) (hc : c < nC S) (hs : ¬ S.a 520 c = 0) (hQ : Q ((tof S c (mn S c)).map (fun b => G.L (10 * c + b))) w) : wp_X0_upNext (G.C c) w Q := by
  obtain ⟨y1, y2⟩ := hY c hc
  have hs1 := y2.resolve_left hs
  refine ⟨h.kC hc, k_hasOrder h hc (fun hy => ⟨_, fun _ _ hj => hj, fun z => absurd z (by decide), fun _ => ⟨h.kC hc, k_firstInOrder h hc ⟨hs1, ?_⟩ hQ⟩⟩) (fun n0 n1 => ⟨_, fun _ _ hj => hj, fun _ => ⟨h.kC hc, k_greatest h hI hc ((y1.resolve_left n0).resolve_left n1) hQ⟩, fun z => absurd rfl z⟩)⟩
  rcases hy with e | e <;> rw [e] <;> decide
def whoT (S : MS) (c : Nat) : Option Nat → Int32
  | none => -1
  | some b => nI (wh S (10 * c + b))
theorem k_numberAt {w : Wd} {G : GH} {S S0 : MS} {c : Nat} {o : Option Nat} {Q : Int32 → Wd → Prop} (h : RC w G S S0) (hI : SH S) (hc : c < nC S) (ho : ∀ b, o = some b → b < mn S c) (hQ : Q (whoT S c o) w) : wp_X3_numberAt (o.map (fun b => G.L (10 * c + b))) w Q := by
  refine ⟨fun y => y = whoT S c o, fun y hy => by subst hy; exact hQ, fun z => ?_, fun z => ?_⟩
  · cases o with
    | none => exact absurd rfl z
    | some b =>
      have hb := ho b rfl
      have hin : inr 3 (10 * c + b) S := ⟨c, b, rfl, hc, hb⟩
      have hp := ((hI.2.2.2.2 c hc).2.2 b hb).2
      exact ⟨_, rfl, h.kL hin, fun z4 h4 => ⟨_, h4.trans (h.hold hin), h.kP hp, fun v6 h6 => h6.trans (h.2.2.1.2.2.2.2.2.2.1 _ hp).1⟩⟩
  · cases o with
    | none => rfl
    | some b => cases z
theorem tof_b {S : MS} {c b : Nat} (h : tof S c (mn S c) = some b) : b < mn S c := (tof_lt _ _ h).1
def fcir (S : MS) (c : Nat) (x : Int32) : Int32 := if x = 0 then S.a 516 c else if x = 1 then S.a 517 c else if x = 2 then S.a 518 c else if x = 3 then S.a 519 c else if S.a 520 c = 0 then -1 else whoT S c (tof S c (mn S c))
theorem tof_setS {S : MS} {c f : Nat} {v : Int32} : ∀ k, tof (S.setS f v) c k = tof S c k := by
  intro k
  induction k with
  | zero => rfl
  | succ k ih => rw [tof, tof, ih]; rfl
/-- what ofCircle answers and does -/
def I_ofCircle (S : MS) (x1 x2 : Int32) (r : Int32) (S' : MS) : Prop :=
  (S' = S.setS 500 1 ∧ (x1 < 0 ∨ nI (nC S) ≤ x1)) ∨ (S' = S.setS 500 2 ∧ (x2 < 0 ∨ ¬ x2 ≤ 4)) ∨ ∃ c, c < nC S ∧ x1 = nI c ∧ r = fcir S c x2 ∧ S' = S.setS 500 0
theorem o_ofCircle {w : Wd} {G : GH} {S : MS} {x1 x2 : Int32} (h : RC w G S S) (hI : SH S) (hY : WY S) : OC w G S (fun Q => wp_L_ofCircle (some G.x) x1 x2 (some G.o) w Q) (fun Q => sp_X4_ofCircle x1 x2 S Q) (I_ofCircle S x1 x2) := by
  have hn := hI.2.1
  have hnc := hI.2.2.2.1
  have er : ∀ k : Int32, k ≠ 0 → ∀ (P : Prop) (v7 : Int32), v7 = (S.setS 500 k).s 500 → (v7 = 0 → P) ∧ (¬ v7 = 0 → (k = 0 → (0 : Int32) = 0) ∧ S.setS 500 k = S.setS 500 k) :=
    fun k hk P v7 h7 => ⟨fun z => absurd (show k = 0 from h7.symm.trans z) hk, fun _ => ⟨fun z => absurd z hk, rfl⟩⟩
  rcases ix_c x1 hnc with hx | ⟨c, hc, rfl⟩
  · refine ⟨1, 0, S.setS 500 1, G, rfl, Or.inl ⟨rfl, hx⟩, rfl, rfl, rfl, fun Q hQ => ?_, ?_⟩
    · exact ⟨G.x, rfl, h.kx, h.kx, k_circleAt h hnc (fun i hi e => absurd hx (by rw [e]; exact ix_cne hi hnc)) (fun _ => Or.inl ⟨rfl, hQ w h.thrown (fun z => by cases z)⟩)⟩
    · refine m_isCircle_n hI hx ⟨fun y S5 => y = 1 ∧ S5 = S, fun y S5 hy S6 h6 v7 h7 => ?_, fun z => absurd rfl z, fun _ => ⟨rfl, rfl⟩⟩
      obtain ⟨rfl, rfl⟩ := hy
      subst h6
      exact er 1 (by decide) _ _ h7
  have hc4 : c < 4 := by omega
  by_cases hr : x2 < (0 : Int32) ∨ ¬ x2 ≤ 4
  · refine ⟨2, 0, S.setS 500 2, G, rfl, Or.inr (Or.inl ⟨rfl, hr⟩), rfl, rfl, rfl, fun Q hQ => ?_, ?_⟩
    · exact ⟨G.x, rfl, h.kx, h.kx, k_circleAt h hnc (fun j hj e => k_range (fun a b => (hr.elim (fun z => a z) (fun z => z b)).elim) (fun _ => Or.inr ⟨rfl, hQ w h.thrown (fun z => by cases z)⟩)) (fun z => absurd z (ix_cne hc hnc))⟩
    · refine m_isCircle_y hI hc ⟨fun y S5 => y = 2 ∧ S5 = S, fun y S5 hy S6 h6 v7 h7 => ?_, fun _ => m_in_n (hr.imp_right i_le) ⟨fun z => absurd rfl z, fun _ => ⟨rfl, rfl⟩⟩, fun z => absurd z (by decide)⟩
      obtain ⟨rfl, rfl⟩ := hy
      subst h6
      exact er 2 (by decide) _ _ h7
  have r1 : ¬ x2 < (0 : Int32) := fun z => hr (Or.inl z)
  have r2 : x2 ≤ 4 := Classical.byContradiction fun z => hr (Or.inr z)
  obtain ⟨m1, m2, m3⟩ := hI.2.2.2.2 c hc
  have ne : ∀ m : Int32, (0 ≤ m.toInt ∧ m.toInt ≤ 3) → (x2.toInt < 0 ∨ 3 < x2.toInt) → ¬ x2 = m := fun m hm q e => by subst e; omega
  refine ⟨0, fcir S c x2, S.setS 500 0, G, rfl, Or.inr (Or.inr ⟨c, hc, rfl, rfl, rfl⟩), rfl, rfl, rfl, fun Q hQ => ?_, ?_⟩
  · have fin : ∀ v, v = fcir S c x2 → ∃ a5, some G.o = some a5 ∧ True ∧ ∃ j6 : Nat, (0 : Int32) = nI j6 ∧ j6 = 0 ∧ True ∧ ∀ w7 : Wd, w7 = w.setJ a5 j6 v.toInt64 → Q (0 : Int32) w7 := fun v hv => by
      subst hv
      exact out_ok (S' := S.setS 500 0) h.thrown (fun w1 q r => hQ w1 q (fun _ => r))
    have gg : ∀ f r, (f, r, 1) ∈ etab → w.I f (G.C c) = S.a r c := fun f r he => h.get (k := 1) he hc
    refine ⟨G.x, rfl, h.kx, h.kx, k_circleAt h hnc (fun j hj e => k_range (fun _ _ => ?_) (fun z => absurd z hr)) (fun z => absurd z (ix_cne hc hnc))⟩
    obtain rfl : c = j := (nI_eq (by omega) (by omega)).mp e
    refine ⟨fun q => ⟨_, rfl, h.kC hc, fun v hv => fin v ?_⟩, fun q => ⟨_, rfl, k_sz h hc (fin _ ?_)⟩, fun q => ⟨_, rfl, h.kC hc, fun v hv => fin v ?_⟩, fun q => ⟨_, rfl, h.kC hc, fun v hv => fin v ?_⟩, fun q => ⟨_, rfl, h.kC hc, fun v16 h16 => ⟨fun y w19 => y = fcir S c x2 ∧ w19 = w, fun y w19 hj => by obtain ⟨h1, rfl⟩ := hj; exact fin y h1, fun z => ⟨?_, rfl⟩, fun z => ⟨h.kC hc, k_upNext h hI hY hc ?_ (k_numberAt h hI hc (fun b hb => tof_b hb) ⟨?_, rfl⟩)⟩⟩⟩⟩
    · subst q; exact hv.trans (gg 105 516 (by decide))
    · subst q; exact m1.symm
    · subst q; exact hv.trans (gg 106 518 (by decide))
    · subst q; exact hv.trans (gg 107 519 (by decide))
    · unfold fcir
      rw [if_neg (ne 0 (by decide) q), if_neg (ne 1 (by decide) q), if_neg (ne 2 (by decide) q), if_neg (ne 3 (by decide) q), if_pos (by rw [← gg 104 520 (by decide), ← h16]; exact z)]
    · rw [← gg 104 520 (by decide), ← h16]; exact z
    · unfold fcir
      rw [if_neg (ne 0 (by decide) q), if_neg (ne 1 (by decide) q), if_neg (ne 2 (by decide) q), if_neg (ne 3 (by decide) q), if_neg (by rw [← gg 104 520 (by decide), ← h16]; exact z)]
  · refine m_isCircle_y hI hc ⟨fun y S5 => y = 0 ∧ S5 = S, fun y S5 hy S6 h6 v7 h7 => ?_, fun _ => m_in_y r1 (i_nlt r2) ⟨fun _ => ⟨rfl, rfl⟩, fun z => absurd z (by decide)⟩, fun z => absurd z (by decide)⟩
    obtain ⟨rfl, rfl⟩ := hy
    subst h6
    refine ⟨fun _ => ⟨c, rfl, hc4, fun v9 h9 => ?_⟩, fun z => absurd h7 z⟩
    refine ⟨fun y S12 => y = (if S5.a 520 c = 0 then -1 else tI (tof S5 c (mn S5 c))) ∧ S12 = S5.setS 500 0, fun y11 S12 hj => ?_, fun z => ⟨(if_pos (show S5.a 520 c = 0 from h9.symm.trans z)).symm, rfl⟩, fun z => m_turnOf (S := S5.setS 500 0) hI hc ⟨?_, rfl⟩⟩
    · obtain ⟨hy, rfl⟩ := hj
      refine ⟨fun y => y = if S5.a 520 c = 0 then -1 else whoT S5 c (tof S5 c (mn S5 c)), fun y14 h14 => ⟨fun y => y = fcir S5 c x2, fun y hyy => ⟨fun _ => hyy, rfl⟩, fun c0 => ⟨fun c1 => ⟨fun c2 => ⟨fun c3 => ?_, fun q => ⟨c, rfl, hc4, fun v hv => ?_⟩⟩, fun q => ⟨c, rfl, hc4, fun v hv => ?_⟩⟩, fun q => ⟨c, rfl, hc4, fun v hv => ?_⟩⟩, fun q => ⟨c, rfl, hc4, fun v hv => ?_⟩⟩, fun z v25 h25 v26 h26 => ?_, fun z => ?_⟩
      · rw [h14]; unfold fcir; rw [if_neg c0, if_neg c1, if_neg c2, if_neg c3]
      · subst q; exact hv
      · subst q; exact hv
      · subst q; exact hv
      · subst q; exact hv
      · by_cases e : S5.a 520 c = 0
        · rw [if_pos e] at hy; subst hy; exact absurd z (by decide)
        · rw [if_neg e] at hy
          cases ht : tof S5 c (mn S5 c) with
          | none => rw [ht] at hy; subst hy; exact absurd z (by decide)
          | some b =>
            rw [ht] at hy; subst hy
            have hb := tof_b ht
            rw [h25] at h26
            have h26 : v26 = nI (10 * c + b) := h26.trans at_ix
            refine ⟨_, h26, by omega, fun v28 h28 => ?_⟩
            rw [if_neg e, h28]; exact (m3 b hb).1
      · by_cases e : S5.a 520 c = 0
        · rw [if_pos e]
        · rw [if_neg e] at hy ⊢
          cases ht : tof S5 c (mn S5 c) with
          | none => rfl
          | some b =>
            rw [ht] at hy; subst hy
            have hb := tof_b ht
            exact absurd (nI_pos' (by omega)) z
    · have e : ¬ S5.a 520 c = 0 := fun q => z (h9.trans q)
      rw [if_neg e]
      show tI (tof (S5.setS 500 0) c (mn S5 c)) = _
      rw [tof_setS]
