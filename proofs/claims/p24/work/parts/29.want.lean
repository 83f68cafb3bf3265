-- ===== wishes
theorem ix_c (x : Int32) {n : Nat} (hn : n ≤ 4) : (x < 0 ∨ nI n ≤ x) ∨ ∃ i, i < n ∧ x = nI i := ix_p x (by omega)
theorem ix_cne {i n : Nat} (hi : i < n) (hn : n ≤ 4) : ¬ (nI i < 0 ∨ nI n ≤ nI i) := ix_ne hi (by omega)
/-- what want answers and does -/
def I_want (S : MS) (x1 x2 x3 x4 : Int32) (r : Int32) (S' : MS) : Prop :=
  (S' = S.setS 500 1 ∧ ((x1 < 0 ∨ nI (nC S) ≤ x1) ∨ (x2 < 0 ∨ nI (nP S) ≤ x2))) ∨ (S' = S.setS 500 2 ∧ (x3 < 0 ∨ ¬ x3 ≤ 10000)) ∨ (∃ c i, c < nC S ∧ i < nP S ∧ x1 = nI c ∧ x2 = nI i ∧ S' = S.setS 500 3 ∧ (∀ k, k < mn S c → wh S (10 * c + k) ≠ i)) ∨
  ∃ c i k q, c < nC S ∧ i < nP S ∧ x1 = nI c ∧ x2 = nI i ∧ k < mn S c ∧ wh S (10 * c + k) = i ∧ (q = 523 ∨ q = 524) ∧ ¬ x3 < 0 ∧ x3 ≤ 10000 ∧ S' = (S.setS 500 0).setA q (10 * c + k) x3
theorem o_want {w : Wd} {G : GH} {S : MS} {x1 x2 x3 x4 : Int32} (h : RC w G S S) (hI : SH S) (hDI : DI S) : OC w G S (fun Q => wp_L_want (some G.x) x1 x2 x3 x4 (some G.o) w Q) (fun Q => sp_X4_want x1 x2 x3 x4 S Q) (I_want S x1 x2 x3 x4) := by
  have hn := hI.2.1
  have hnc := hI.2.2.2.1
  have er : ∀ k : Int32, k ≠ 0 → ∀ (P : Prop) (v7 : Int32), v7 = (S.setS 500 k).s 500 → (v7 = 0 → P) ∧ (¬ v7 = 0 → (k = 0 → (0 : Int32) = 0) ∧ S.setS 500 k = S.setS 500 k) :=
    fun k hk P v7 h7 => ⟨fun z => absurd (show k = 0 from h7.symm.trans z) hk, fun _ => ⟨fun z => absurd z hk, rfl⟩⟩
  rcases ix_c x1 hnc with hx | ⟨c, hc, rfl⟩
  · refine ⟨1, 0, S.setS 500 1, G, rfl, Or.inl ⟨rfl, Or.inl hx⟩, rfl, rfl, rfl, fun Q hQ => ?_, ?_⟩
    · exact ⟨G.x, rfl, h.kx, h.kx, k_circleAt h hnc (fun i hi e => absurd hx (by rw [e]; exact ix_cne hi hnc)) (fun _ => Or.inl ⟨rfl, hQ w h.thrown (fun z => by cases z)⟩)⟩
    · refine m_isCircle_n hI hx ⟨fun y S5 => y = 1 ∧ S5 = S, fun y S5 hy S6 h6 v7 h7 => ?_, fun S33 => S33 = S, fun S33 hs => ⟨rfl, hs⟩, fun _ => rfl, fun z => absurd rfl z⟩
      obtain ⟨rfl, rfl⟩ := hy
      subst h6
      exact er 1 (by decide) _ _ h7
  rcases ix_p x2 hn with hx | ⟨i, hi, rfl⟩
  · refine ⟨1, 0, S.setS 500 1, G, rfl, Or.inl ⟨rfl, Or.inr hx⟩, rfl, rfl, rfl, fun Q hQ => ?_, ?_⟩
    · exact ⟨G.x, rfl, h.kx, h.kx, k_circleAt h hnc (fun j hj e => ⟨h.kx, k_personAt h hn (fun i hi e => absurd hx (by rw [e]; exact ix_ne hi hn)) (fun _ => Or.inl ⟨rfl, hQ w h.thrown (fun z => by cases z)⟩)⟩) (fun z => absurd z (ix_cne hc hnc))⟩
    · refine m_isCircle_y hI hc ⟨fun y S5 => y = 1 ∧ S5 = S, fun y S5 hy S6 h6 v7 h7 => ?_, fun S33 => S33 = S, fun S33 hs => ⟨rfl, hs⟩, fun z => absurd z (by decide), fun _ => m_isOne_n hI hx ⟨fun z => absurd rfl z, fun _ => rfl⟩⟩
      obtain ⟨rfl, rfl⟩ := hy
      subst h6
      exact er 1 (by decide) _ _ h7
  by_cases hr : x3 < (0 : Int32) ∨ ¬ x3 ≤ 10000
  · refine ⟨2, 0, S.setS 500 2, G, rfl, Or.inr (Or.inl ⟨rfl, hr⟩), rfl, rfl, rfl, fun Q hQ => ?_, ?_⟩
    · exact ⟨G.x, rfl, h.kx, h.kx, k_circleAt h hnc (fun j hj e => ⟨h.kx, k_personAt h hn (fun j hj e => k_range (fun a b => (hr.elim (fun z => a z) (fun z => z b)).elim) (fun _ => Or.inr (Or.inl ⟨rfl, hQ w h.thrown (fun z => by cases z)⟩))) (fun z => absurd z (ix_ne hi hn))⟩) (fun z => absurd z (ix_cne hc hnc))⟩
    · refine m_isCircle_y hI hc ⟨fun y S5 => y = 2 ∧ S5 = S, fun y S5 hy S6 h6 v7 h7 => ?_, fun S33 => False, fun S33 hs => hs.elim, fun z => absurd z (by decide), fun _ => m_isOne_y hI hi ⟨fun _ => m_in_n (hr.imp_right i_le) ⟨fun z => absurd rfl z, fun _ => ⟨rfl, rfl⟩⟩, fun z => absurd z (by decide)⟩⟩
      obtain ⟨rfl, rfl⟩ := hy
      subst h6
      exact er 2 (by decide) _ _ h7
  have r1 : ¬ x3 < (0 : Int32) := fun z => hr (Or.inl z)
  have r2 : x3 ≤ 10000 := Classical.byContradiction fun z => hr (Or.inr z)
  obtain ⟨-, m2, m3⟩ := hI.2.2.2.2 c hc
  by_cases hk : ∃ k, k < mn S c ∧ wh S (10 * c + k) = i
  · obtain ⟨k, hk, hw⟩ := hk
    have uq : ∀ k', k' < mn S c → wh S (10 * c + k') = i → k' = k := fun k' h1 h2 => hDI c hc k' k h1 hk (by rw [h2, hw])
    have hin : inr 3 (10 * c + k) S := ⟨c, k, rfl, hc, hk⟩
    have hj40 : 10 * c + k < 40 := by omega
    obtain ⟨rr, hrr⟩ : ∃ r : Nat, r = if x4 = 0 then 523 else 524 := ⟨_, rfl⟩
    refine ⟨0, S.a rr (10 * c + k), (S.setS 500 0).setA rr (10 * c + k) x3, G, rfl, Or.inr (Or.inr (Or.inr ⟨c, i, k, rr, hc, hi, rfl, rfl, hk, hw, by by_cases e : x4 = 0 <;> simp [hrr, e], r1, r2, rfl⟩)), rfl, rfl, rfl, fun Q hQ => ?_, ?_⟩
    · refine ⟨G.x, rfl, h.kx, h.kx, k_circleAt h hnc (fun j hj e => ⟨h.kx, k_personAt h hn (fun j2 hj2 e2 => k_range (fun _ _ => ?_) (fun z => absurd z hr)) (fun z => absurd z (ix_ne hi hn))⟩) (fun z => absurd z (ix_cne hc hnc))⟩
      obtain rfl : c = j := (nI_eq (by omega) (by omega)).mp e
      obtain rfl : i = j2 := (nI_eq (by omega) (by omega)).mp e2
      refine ⟨_, rfl, h.kC hc, k_placeOf h hI hc hi (fun k' hk' hw' => ?_) (fun z => absurd hw (z k hk))⟩
      obtain rfl := uq k' hk' hw'
      refine ⟨fun _ => ⟨_, fun y w11 hj => hj, fun c4 => ⟨_, rfl, h.kL hin, h.kL hin, fun v1 h1 => ⟨h.kL hin, fun w2 h2 => ?_⟩⟩, fun c4 => ⟨_, rfl, h.kL hin, h.kL hin, fun v1 h1 => ⟨h.kL hin, fun w2 h2 => ?_⟩⟩⟩, fun z => by cases z⟩
      · rw [if_pos c4] at hrr; subst hrr
        have g : w.I 302 (G.L (10 * c + k')) = S.a 523 (10 * c + k') := h.get (k := 3) (f := 302) (r := 523) (by decide) hin
        rw [g] at h1; subst h1 h2
        exact out_ok (S' := (S.setS 500 0).setA 523 (10 * c + k') x3) (RC.set (k := 3) (f := 302) (S := S.setS 500 0) h.thrown (by decide) (by decide) (by decide) (by decide) hin) (fun w1 q r => hQ w1 q (fun _ => r))
      · rw [if_neg c4] at hrr; subst hrr
        have g : w.I 303 (G.L (10 * c + k')) = S.a 524 (10 * c + k') := h.get (k := 3) (f := 303) (r := 524) (by decide) hin
        rw [g] at h1; subst h1 h2
        exact out_ok (S' := (S.setS 500 0).setA 524 (10 * c + k') x3) (RC.set (k := 3) (f := 303) (S := S.setS 500 0) h.thrown (by decide) (by decide) (by decide) (by decide) hin) (fun w1 q r => hQ w1 q (fun _ => r))
    · refine m_isCircle_y hI hc ⟨fun y S5 => y = 0 ∧ S5 = S, fun y S5 hy S6 h6 v7 h7 => ?_, fun S33 => False, fun S33 hs => hs.elim, fun z => absurd z (by decide), fun _ => m_isOne_y hI hi ⟨fun _ => m_in_y r1 (i_nlt r2) ⟨fun _ => m_placeOf hI hDI hc hi (fun k' hk' _ => ⟨fun _ => ⟨rfl, rfl⟩, fun z => absurd (nI_pos' (by omega)) z⟩) (fun z => absurd hw (z k hk)), fun z => absurd z (by decide)⟩, fun z => absurd z (by decide)⟩⟩
      obtain ⟨rfl, rfl⟩ := hy
      subst h6
      refine ⟨fun _ v8 h8 => m_placeOf (S := S5.setS 500 0) hI hDI hc hi (fun k' hk' hw' v11 h11 => ?_) (fun z => absurd hw (z k hk)), fun z => absurd h7 z⟩
      obtain rfl := uq k' hk' hw'
      rw [h8, at_ix] at h11; subst h11
      by_cases c4 : x4 = 0
      · rw [if_pos c4] at hrr; subst hrr
        refine ⟨fun y => y = S5.a 523 (10 * c + k'), fun y hy => ⟨fun a b => a = nI (10 * c + k') ∧ b = S5.a 524 (10 * c + k'), fun a b hab => ?_, fun _ => ⟨_, rfl, hj40, fun v27 h27 => ⟨rfl, h27⟩⟩, fun z => absurd c4 z⟩, fun _ => ⟨_, rfl, hj40, fun v29 h29 => h29⟩, fun z => absurd c4 z⟩
        obtain ⟨rfl, rfl⟩ := hab
        refine ⟨_, rfl, hj40, fun S18 h18 => ⟨fun a b => a = nI (10 * c + k') ∧ b = x3, fun a b hab => ?_, fun _ => ⟨rfl, rfl⟩, fun z => absurd c4 z⟩⟩
        obtain ⟨rfl, rfl⟩ := hab
        refine ⟨_, rfl, hj40, fun S23 h23 => ⟨fun _ => hy, ?_⟩⟩
        have e : S18 = S5.setS 500 0 := h18.trans (setA_self (S := S5.setS 500 0))
        rw [h23, e]
      · rw [if_neg c4] at hrr; subst hrr
        refine ⟨fun y => y = S5.a 524 (10 * c + k'), fun y hy => ⟨fun a b => a = nI (10 * c + k') ∧ b = x3, fun a b hab => ?_, fun z => absurd z c4, fun _ => ⟨rfl, rfl⟩⟩, fun z => absurd z c4, fun _ => ⟨_, rfl, hj40, fun v31 h31 => h31⟩⟩
        obtain ⟨rfl, rfl⟩ := hab
        refine ⟨_, rfl, hj40, fun S18 h18 => ⟨fun a b => a = nI (10 * c + k') ∧ b = S18.a 523 (10 * c + k'), fun a b hab => ?_, fun z => absurd z c4, fun _ => ⟨_, rfl, hj40, fun v25 h25 => ⟨rfl, h25⟩⟩⟩⟩
        obtain ⟨rfl, rfl⟩ := hab
        refine ⟨_, rfl, hj40, fun S23 h23 => ⟨fun _ => hy, ?_⟩⟩
        rw [h23, setA_self, h18]
  · have hno : ∀ k, k < mn S c → wh S (10 * c + k) ≠ i := fun k h1 h2 => hk ⟨k, h1, h2⟩
    refine ⟨3, 0, S.setS 500 3, G, rfl, Or.inr (Or.inr (Or.inl ⟨c, i, hc, hi, rfl, rfl, rfl, hno⟩)), rfl, rfl, rfl, fun Q hQ => ?_, ?_⟩
    · refine ⟨G.x, rfl, h.kx, h.kx, k_circleAt h hnc (fun j hj e => ⟨h.kx, k_personAt h hn (fun j2 hj2 e2 => k_range (fun _ _ => ?_) (fun z => absurd z hr)) (fun z => absurd z (ix_ne hi hn))⟩) (fun z => absurd z (ix_cne hc hnc))⟩
      obtain rfl : c = j := (nI_eq (by omega) (by omega)).mp e
      obtain rfl : i = j2 := (nI_eq (by omega) (by omega)).mp e2
      exact ⟨_, rfl, h.kC hc, k_placeOf h hI hc hi (fun k' hk' hw' => absurd hw' (hno k' hk')) (fun _ => ⟨fun z => absurd rfl z, fun _ => Or.inr (Or.inr ⟨rfl, hQ w h.thrown (fun z => by cases z)⟩)⟩)⟩
    · refine m_isCircle_y hI hc ⟨fun y S5 => y = 3 ∧ S5 = S, fun y S5 hy S6 h6 v7 h7 => ?_, fun S33 => False, fun S33 hs => hs.elim, fun z => absurd z (by decide), fun _ => m_isOne_y hI hi ⟨fun _ => m_in_y r1 (i_nlt r2) ⟨fun _ => m_placeOf hI hDI hc hi (fun k' hk' hw' => absurd hw' (hno k' hk')) (fun _ => ⟨fun z => absurd z (by decide), fun _ => ⟨rfl, rfl⟩⟩), fun z => absurd z (by decide)⟩, fun z => absurd z (by decide)⟩⟩
      obtain ⟨rfl, rfl⟩ := hy
      subst h6
      exact er 3 (by decide) _ _ h7
