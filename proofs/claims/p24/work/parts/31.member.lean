-- ===== members asked
def fmem (S : MS) (c k : Nat) (x : Int32) : Int32 := if x = 0 then S.a 522 (10 * c + k) else if x = 1 then (if S.a 527 (10 * c + k) = 0 then 0 else 1) else if x = 2 then S.a 525 (10 * c + k) else nI k
/-- what member answers and does -/
def I_member (S : MS) (x1 x2 x3 : Int32) (r : Int32) (S' : MS) : Prop :=
  (S' = S.setS 500 1 ∧ ((x1 < 0 ∨ nI (nC S) ≤ x1) ∨ (x2 < 0 ∨ nI (nP S) ≤ x2))) ∨ (S' = S.setS 500 2 ∧ (x3 < 0 ∨ ¬ x3 ≤ 3)) ∨ (∃ c i, c < nC S ∧ i < nP S ∧ x1 = nI c ∧ x2 = nI i ∧ S' = S.setS 500 0 ∧ r = -1 ∧ (∀ k, k < mn S c → wh S (10 * c + k) ≠ i)) ∨
  ∃ c i k, c < nC S ∧ i < nP S ∧ x1 = nI c ∧ x2 = nI i ∧ k < mn S c ∧ wh S (10 * c + k) = i ∧ r = fmem S c k x3 ∧ S' = S.setS 500 0
theorem o_member {w : Wd} {G : GH} {S : MS} {x1 x2 x3 : Int32} (h : RC w G S S) (hI : SH S) (hDI : DI S) : OC w G S (fun Q => wp_L_member (some G.x) x1 x2 x3 (some G.o) w Q) (fun Q => sp_X4_member x1 x2 x3 S Q) (I_member S x1 x2 x3) := by
  have hn := hI.2.1
  have hnc := hI.2.2.2.1
  have er : ∀ k : Int32, k ≠ 0 → ∀ (P : Prop) (v7 : Int32), v7 = (S.setS 500 k).s 500 → (v7 = 0 → P) ∧ (¬ v7 = 0 → (k = 0 → (0 : Int32) = 0) ∧ S.setS 500 k = S.setS 500 k) :=
    fun k hk P v7 h7 => ⟨fun z => absurd (show k = 0 from h7.symm.trans z) hk, fun _ => ⟨fun z => absurd z hk, rfl⟩⟩
  rcases ix_c x1 hnc with hx | ⟨c, hc, rfl⟩
  · refine ⟨1, 0, S.setS 500 1, G, rfl, Or.inl ⟨rfl, Or.inl hx⟩, rfl, rfl, rfl, fun Q hQ => ?_, ?_⟩
    · exact ⟨G.x, rfl, h.kx, h.kx, k_circleAt h hnc (fun i hi e => absurd hx (by rw [e]; exact ix_cne hi hnc)) (fun _ => Or.inl ⟨rfl, hQ w h.thrown (fun z => by cases z)⟩)⟩
    · refine m_isCircle_n hI hx ⟨fun y S5 => y = 1 ∧ S5 = S, fun y S5 hy S6 h6 v7 h7 => ?_, fun S33 => S33 = S, fun S33 hs => ⟨rfl, hs⟩, fun _ => rfl, fun z => absurd rfl z⟩
      obtain ⟨rfl, rfl⟩ := hy
      subst h6
      exact er 1 (by decide) _ _ h7
  rcases ix_p x2 hn with hx | ⟨i, hi, rfl⟩
  · refine ⟨1, 0, S.setS 500 1, G, rfl, Or.inl ⟨rfl, Or.inr hx⟩, rfl, rfl, rfl, fun Q hQ => ?_, ?_⟩
    · exact ⟨G.x, rfl, h.kx, h.kx, k_circleAt h hnc (fun j hj e => ⟨h.kx, k_personAt h hn (fun i hi e => absurd hx (by rw [e]; exact ix_ne hi hn)) (fun _ => Or.inl ⟨rfl, hQ w h.thrown (fun z => by cases z)⟩)⟩) (fun z => absurd z (ix_cne hc hnc))⟩
    · refine m_isCircle_y hI hc ⟨fun y S5 => y = 1 ∧ S5 = S, fun y S5 hy S6 h6 v7 h7 => ?_, fun S33 => S33 = S, fun S33 hs => ⟨rfl, hs⟩, fun z => absurd z (by decide), fun _ => m_isOne_n hI hx ⟨fun z => absurd rfl z, fun _ => rfl⟩⟩
      obtain ⟨rfl, rfl⟩ := hy
      subst h6
      exact er 1 (by decide) _ _ h7
  by_cases hr : x3 < (0 : Int32) ∨ ¬ x3 ≤ 3
  · refine ⟨2, 0, S.setS 500 2, G, rfl, Or.inr (Or.inl ⟨rfl, hr⟩), rfl, rfl, rfl, fun Q hQ => ?_, ?_⟩
    · exact ⟨G.x, rfl, h.kx, h.kx, k_circleAt h hnc (fun j hj e => ⟨h.kx, k_personAt h hn (fun j hj e => k_range (fun a b => (hr.elim (fun z => a z) (fun z => z b)).elim) (fun _ => Or.inr ⟨rfl, hQ w h.thrown (fun z => by cases z)⟩)) (fun z => absurd z (ix_ne hi hn))⟩) (fun z => absurd z (ix_cne hc hnc))⟩
    · refine m_isCircle_y hI hc ⟨fun y S5 => y = 2 ∧ S5 = S, fun y S5 hy S6 h6 v7 h7 => ?_, fun S33 => False, fun S33 hs => hs.elim, fun z => absurd z (by decide), fun _ => m_isOne_y hI hi ⟨fun _ => m_in_n (hr.imp_right i_le) ⟨fun z => absurd rfl z, fun _ => ⟨rfl, rfl⟩⟩, fun z => absurd z (by decide)⟩⟩
      obtain ⟨rfl, rfl⟩ := hy
      subst h6
      exact er 2 (by decide) _ _ h7
  have r1 : ¬ x3 < (0 : Int32) := fun z => hr (Or.inl z)
  have r2 : x3 ≤ 3 := Classical.byContradiction fun z => hr (Or.inr z)
  obtain ⟨-, m2, m3⟩ := hI.2.2.2.2 c hc
  have fin : ∀ (Q : Int32 → Wd → Prop) (v : Int32), (∀ w1, RC w1 G (S.setS 500 0) S → ((0 : Int32) = 0 → w1.J G.o 0 = v.toInt64) → Q 0 w1) → ∃ a5, some G.o = some a5 ∧ True ∧ ∃ j6 : Nat, (0 : Int32) = nI j6 ∧ j6 = 0 ∧ True ∧ ∀ w7 : Wd, w7 = w.setJ a5 j6 v.toInt64 → Q (0 : Int32) w7 := fun Q v hQ =>
    out_ok (S' := S.setS 500 0) h.thrown (fun w1 q r => hQ w1 q (fun _ => r))
  by_cases hk : ∃ k, k < mn S c ∧ wh S (10 * c + k) = i
  · obtain ⟨k, hk, hw⟩ := hk
    have uq : ∀ k', k' < mn S c → wh S (10 * c + k') = i → k' = k := fun k' h1 h2 => hDI c hc k' k h1 hk (by rw [h2, hw])
    have hin : inr 3 (10 * c + k) S := ⟨c, k, rfl, hc, hk⟩
    have hj40 : 10 * c + k < 40 := by omega
    refine ⟨0, fmem S c k x3, S.setS 500 0, G, rfl, Or.inr (Or.inr (Or.inr ⟨c, i, k, hc, hi, rfl, rfl, hk, hw, rfl, rfl⟩)), rfl, rfl, rfl, fun Q hQ => ?_, ?_⟩
    · have fin2 : ∀ v, v = fmem S c k x3 → _ := fun v (hv : v = fmem S c k x3) => fin Q v (by rw [hv]; exact hQ)
      refine ⟨G.x, rfl, h.kx, h.kx, k_circleAt h hnc (fun j hj e => ⟨h.kx, k_personAt h hn (fun j2 hj2 e2 => k_range (fun _ _ => ?_) (fun z => absurd z hr)) (fun z => absurd z (ix_ne hi hn))⟩) (fun z => absurd z (ix_cne hc hnc))⟩
      obtain rfl : c = j := (nI_eq (by omega) (by omega)).mp e
      obtain rfl : i = j2 := (nI_eq (by omega) (by omega)).mp e2
      refine ⟨_, rfl, h.kC hc, k_placeOf h hI hc hi (fun k' hk' hw' => ?_) (fun z => absurd hw (z k hk))⟩
      obtain rfl := uq k' hk' hw'
      have gg : ∀ f r, (f, r, 3) ∈ etab → w.I f (G.L (10 * c + k')) = S.a r (10 * c + k') := fun f r he => h.get (k := 3) he hin
      refine ⟨fun _ => ⟨fun c3 => ⟨_, rfl, h.kL hin, fun v hv => fin2 v ?_⟩, fun c3 => ⟨_, rfl, h.kL hin, fun v hv => ⟨fun y => y = fmem S c k' x3, fun y hy => fin2 y hy, fun z => ?_, fun z => ?_⟩⟩, fun c3 => ⟨_, rfl, h.kL hin, fun v hv => fin2 v ?_⟩, fun c3 => ⟨h.kC hc, k_indexOf h hI hc hi (fun k2 hk2 hw2 => fin2 _ ?_) (fun z => absurd hw (z k' hk))⟩⟩, fun z => by cases z⟩
      · subst c3; exact hv.trans (gg 301 522 (by decide))
      · subst c3; rw [hv, gg 305 527 (by decide)] at z
        show (0 : Int32) = if S.a 527 (10 * c + k') = 0 then 0 else 1
        rw [if_pos z]
      · subst c3; rw [hv, gg 305 527 (by decide)] at z
        show (1 : Int32) = if S.a 527 (10 * c + k') = 0 then 0 else 1
        rw [if_neg z]
      · subst c3; exact hv.trans (gg 304 525 (by decide))
      · have ne : ∀ m : Int32, (0 ≤ m.toInt ∧ m.toInt ≤ 2) → ¬ x3 = m := fun m hm e => by subst e; omega
        unfold fmem
        rw [if_neg (ne 0 (by decide)), if_neg (ne 1 (by decide)), if_neg (ne 2 (by decide)), uq k2 hk2 hw2]
    · refine m_isCircle_y hI hc ⟨fun y S5 => y = 0 ∧ S5 = S, fun y S5 hy S6 h6 v7 h7 => ?_, fun S33 => False, fun S33 hs => hs.elim, fun z => absurd z (by decide), fun _ => m_isOne_y hI hi ⟨fun _ => m_in_y r1 (i_nlt r2) ⟨fun _ => ⟨rfl, rfl⟩, fun z => absurd z (by decide)⟩, fun z => absurd z (by decide)⟩⟩
      obtain ⟨rfl, rfl⟩ := hy
      subst h6
      refine ⟨fun _ => m_placeOf (S := S5.setS 500 0) hI hDI hc hi (fun k' hk' hw' => ⟨fun _ v10 h10 v11 h11 => ?_, fun z => absurd (nI_pos' (by have : k' < mn S5 c := hk'; omega)) z⟩) (fun z => absurd hw (z k hk)), fun z => absurd h7 z⟩
      obtain rfl := uq k' hk' hw'
      rw [h10, at_ix] at h11; subst h11
      refine ⟨fun y => y = fmem S5 c k' x3, fun y hy => ⟨fun _ => hy, rfl⟩, ?_⟩
      unfold fmem
      refine ⟨fun c0 => ⟨fun c1 => ⟨fun c2 => ?_, fun c3 => ⟨_, rfl, hj40, fun v hv => ?_⟩⟩, fun c3 => ⟨_, rfl, hj40, fun v hv => ⟨fun z => ?_, fun z => ?_⟩⟩⟩, fun c3 => ⟨_, rfl, hj40, fun v hv => ?_⟩⟩
      · show nI k' = _
        rw [if_neg c0, if_neg c1, if_neg c2]
      · subst c3; exact hv
      · subst c3
        exact (if_pos (show S5.a 527 (10 * c + k') = 0 from hv.symm.trans z)).symm
      · subst c3
        exact (if_neg (show ¬ S5.a 527 (10 * c + k') = 0 from fun q => z (hv.trans q))).symm
      · subst c3; exact hv
  · have hno : ∀ k, k < mn S c → wh S (10 * c + k) ≠ i := fun k h1 h2 => hk ⟨k, h1, h2⟩
    refine ⟨0, -1, S.setS 500 0, G, rfl, Or.inr (Or.inr (Or.inl ⟨c, i, hc, hi, rfl, rfl, rfl, rfl, hno⟩)), rfl, rfl, rfl, fun Q hQ => ?_, ?_⟩
    · refine ⟨G.x, rfl, h.kx, h.kx, k_circleAt h hnc (fun j hj e => ⟨h.kx, k_personAt h hn (fun j2 hj2 e2 => k_range (fun _ _ => ?_) (fun z => absurd z hr)) (fun z => absurd z (ix_ne hi hn))⟩) (fun z => absurd z (ix_cne hc hnc))⟩
      obtain rfl : c = j := (nI_eq (by omega) (by omega)).mp e
      obtain rfl : i = j2 := (nI_eq (by omega) (by omega)).mp e2
      exact ⟨_, rfl, h.kC hc, k_placeOf h hI hc hi (fun k' hk' hw' => absurd hw' (hno k' hk')) (fun _ => ⟨fun z => absurd rfl z, fun _ => fin Q (-1) hQ⟩)⟩
    · refine m_isCircle_y hI hc ⟨fun y S5 => y = 0 ∧ S5 = S, fun y S5 hy S6 h6 v7 h7 => ?_, fun S33 => False, fun S33 hs => hs.elim, fun z => absurd z (by decide), fun _ => m_isOne_y hI hi ⟨fun _ => m_in_y r1 (i_nlt r2) ⟨fun _ => ⟨rfl, rfl⟩, fun z => absurd z (by decide)⟩, fun z => absurd z (by decide)⟩⟩
      obtain ⟨rfl, rfl⟩ := hy
      subst h6
      exact ⟨fun _ => m_placeOf (S := S5.setS 500 0) hI hDI hc hi (fun k' hk' hw' => absurd hw' (hno k' hk')) (fun _ => ⟨fun z => absurd z (by decide), fun _ => ⟨fun _ => rfl, rfl⟩⟩), fun z => absurd h7 z⟩
