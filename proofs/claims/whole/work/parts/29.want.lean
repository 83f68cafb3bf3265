-- ===== wishes
theorem ix_c (x : Int32) {n : Nat} (hn : n ≤ 4) : (x < 0 ∨ nI n ≤ x) ∨ ∃ i, i < n ∧ x = nI i := ix_p x (by omega)
theorem ix_cne {i n : Nat} (hi : i < n) (hn : n ≤ 4) : ¬ (nI i < 0 ∨ nI n ≤ nI i) := ix_ne hi (by omega)
theorem o_want {w : Wd} {G : GH} {S : MS} {x1 x2 x3 x4 : Int32} (h : RC w G S S) (hI : SH S) (hDI : DI S) : OC w G S (fun Q => wp_L_want (some G.x) x1 x2 x3 x4 (some G.o) w Q) (fun Q => sp_X4_want x1 x2 x3 x4 S Q) (fun S' => (∃ k, S' = S.setS 500 k) ∨ ∃ c k r, c < nC S ∧ k < mn S c ∧ (r = 523 ∨ r = 524) ∧ ¬ x3 < 0 ∧ x3 ≤ 10000 ∧ S' = (S.setS 500 0).setA r (10 * c + k) x3) := by
  have hn := hI.2.1
  have hnc := hI.2.2.2.1
  have er : ∀ k : Int32, k ≠ 0 → ∀ (P : Prop) (v7 : Int32), v7 = (S.setS 500 k).s 500 → (v7 = 0 → P) ∧ (¬ v7 = 0 → (k = 0 → (0 : Int32) = 0) ∧ S.setS 500 k = S.setS 500 k) :=
    fun k hk P v7 h7 => ⟨fun z => absurd (show k = 0 from h7.symm.trans z) hk, fun _ => ⟨fun z => absurd z hk, rfl⟩⟩
  rcases ix_c x1 hnc with hx | ⟨c, hc, rfl⟩
  · refine ⟨1, 0, S.setS 500 1, G, rfl, Or.inl ⟨_, rfl⟩, rfl, rfl, rfl, fun Q hQ => ?_, ?_⟩
    · exact ⟨G.x, rfl, h.kx, h.kx, k_circleAt h hnc (fun i hi e => absurd hx (by rw [e]; exact ix_cne hi hnc)) (fun _ => Or.inl ⟨rfl, hQ w h.thrown (fun z => by cases z)⟩)⟩
    · refine m_isCircle_n hI hx ⟨fun y S5 => y = 1 ∧ S5 = S, fun y S5 hy S6 h6 v7 h7 => ?_, fun S33 => S33 = S, fun S33 hs => ⟨rfl, hs⟩, fun _ => rfl, fun z => absurd rfl z⟩
      obtain ⟨rfl, rfl⟩ := hy
      subst h6
      exact er 1 (by decide) _ _ h7
  rcases ix_p x2 hn with hx | ⟨i, hi, rfl⟩
  · refine ⟨1, 0, S.setS 500 1, G, rfl, Or.inl ⟨_, rfl⟩, rfl, rfl, rfl, fun Q hQ => ?_, ?_⟩
    · exact ⟨G.x, rfl, h.kx, h.kx, k_circleAt h hnc (fun j hj e => ⟨h.kx, k_personAt h hn (fun i hi e => absurd hx (by rw [e]; exact ix_ne hi hn)) (fun _ => Or.inl ⟨rfl, hQ w h.thrown (fun z => by cases z)⟩)⟩) (fun z => absurd z (ix_cne hc hnc))⟩
    · refine m_isCircle_y hI hc ⟨fun y S5 => y = 1 ∧ S5 = S, fun y S5 hy S6 h6 v7 h7 => ?_, fun S33 => S33 = S, fun S33 hs => ⟨rfl, hs⟩, fun z => absurd z (by decide), fun _ => m_isOne_n hI hx ⟨fun z => absurd rfl z, fun _ => rfl⟩⟩
      obtain ⟨rfl, rfl⟩ := hy
      subst h6
      exact er 1 (by decide) _ _ h7
  by_cases hr : x3 < (0 : Int32) ∨ ¬ x3 ≤ 10000
  · refine ⟨2, 0, S.setS 500 2, G, rfl, Or.inl ⟨_, rfl⟩, rfl, rfl, rfl, fun Q hQ => ?_, ?_⟩
    · exact ⟨G.x, rfl, h.kx, h.kx, k_circleAt h hnc (fun j hj e => ⟨h.kx, k_personAt h hn (fun j hj e => k_range (fun a b => (hr.elim (fun z => a z) (fun z => z b)).elim) (fun _ => Or.inr (Or.inl ⟨rfl, hQ w h.thrown (fun z => by cases z)⟩))) (fun z => absurd z (ix_ne hi hn))⟩) (fun z => absurd z (ix_cne hc hnc))⟩
    · refine m_isCircle_y hI hc ⟨fun y S5 => y = 2 ∧ S5 = S, fun y S5 hy S6 h6 v7 h7 => ?_, fun S33 => False, fun S33 hs => hs.elim, fun z => absurd z (by decide), fun _ => m_isOne_y hI hi ⟨fun _ => m_in_n (hr.imp_right i_le) ⟨fun z => absurd rfl z, fun _ => ⟨rfl, rfl⟩⟩, fun z => absurd z (by decide)⟩⟩
      obtain ⟨rfl, rfl⟩ := hy
      subst h6
      exact er 2 (by decide) _ _ h7
  have r1 : ¬ x3 < (0 : Int32) := fun z => hr (Or.inl z)
  have r2 : x3 ≤ 10000 := Classical.byContradiction fun z => hr (Or.inr z)
  have hcl : ∀ Q : Int32 → Wd → Prop, (wp_X0_placeOf (G.C c) (some (G.P i)) w (fun z8 w7 => (¬ z8 = none → ∃ J9 : Int32 → Wd → Prop, (∀ (y10 : Int32) (w11 : Wd), J9 y10 w11 → (∃ a5, some G.o = some a5 ∧ w11.K a5 = 14 ∧ ∃ j6 : Nat, (0 : Int32) = nI j6 ∧ j6 < w11.N a5 ∧ w11.N a5 < 2 ^ 31 ∧ ∀ w7 : Wd, w7 = w11.setJ a5 j6 y10.toInt64 → Q (0 : Int32) w7)) ∧ (x4 = 0 → ∃ a12, z8 = some a12 ∧ w7.K a12 = 3 ∧ wp_X2_changeNeed a12 x3 w7 (fun v14 w13 => J9 v14 w13)) ∧ (¬ x4 = 0 → ∃ a15, z8 = some a15 ∧ w7.K a15 = 3 ∧ wp_X2_changeBid a15 x3 w7 (fun v17 w16 => J9 v17 w16))) ∧ (z8 = none → Q 3 w7))) → wp_L_want (some G.x) (nI c) (nI i) x3 x4 (some G.o) w Q := by
    intro Q hq
    refine ⟨G.x, rfl, h.kx, h.kx, k_circleAt h hnc (fun j hj e => ⟨h.kx, k_personAt h hn (fun j2 hj2 e2 => k_range (fun _ _ => ?_) (fun z => absurd z hr)) (fun z => absurd z (ix_ne hi hn))⟩) (fun z => absurd z (ix_cne hc hnc))⟩
    obtain rfl : c = j := (nI_eq (by omega) (by omega)).mp e
    obtain rfl : i = j2 := (nI_eq (by omega) (by omega)).mp e2
    refine ⟨_, rfl, h.kC hc, ?_⟩
    sorry
  sorry
