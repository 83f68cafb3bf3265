-- ===== leaving, on both sides
theorem setS_idem {S : MS} {f : Nat} {v v' : Int32} : (S.setS f v).setS f v' = S.setS f v' := by
  refine Prod.ext ?_ rfl
  funext x
  show va_up (va_up S.1 f v) f v' x = va_up S.1 f v' x
  by_cases h : x = f
  · subst h; rw [vu_eq, vu_eq]
  · rw [vu_ne h, vu_ne h, vu_ne h]
def fback (S : MS) (c k : Nat) : Int32 := if S.a 516 c < S.a 525 (10 * c + k) then S.a 516 c else S.a 525 (10 * c + k)
def fleave (S : MS) (c k : Nat) : MS := frnd (fgo (fgive (S.setS 500 0) c (wh S (10 * c + k)) (fback S c k)) c k) c
theorem fclr_s {S : MS} {c f : Nat} : ∀ k, (fclr S c k).s f = S.s f := by
  intro k
  induction k with
  | zero => rfl
  | succ k ih => exact ih
theorem frnd_s {S : MS} {c f : Nat} : (frnd S c).s f = S.s f := by
  unfold frnd
  by_cases q0 : mn S c = 0
  · rw [if_pos q0]
  · rw [if_neg q0]
    by_cases q1 : allb S c (mn S c) = true
    · rw [if_pos q1, fclr_s]; rfl
    · rw [if_neg q1]
theorem fgive_a {S : MS} {c i r x : Nat} {v : Int32} (h1 : r ≠ 504) (h2 : r ≠ 511) (h3 : r ≠ 516) : (fgive S c i v).a r x = S.a r x := by
  unfold fgive; rw [fpay_a h1 h2, a_f h3]
/-- what leave answers and does -/
def I_leave (S : MS) (x1 x2 : Int32) (r : Int32) (S' : MS) : Prop :=
  (S' = S.setS 500 1 ∧ ((x1 < 0 ∨ nI (nC S) ≤ x1) ∨ (x2 < 0 ∨ nI (nP S) ≤ x2))) ∨ (∃ c i, c < nC S ∧ i < nP S ∧ x1 = nI c ∧ x2 = nI i ∧ S' = S.setS 500 2 ∧ (∀ k, k < mn S c → wh S (10 * c + k) ≠ i)) ∨ (∃ c i k, c < nC S ∧ i < nP S ∧ x1 = nI c ∧ x2 = nI i ∧ k < mn S c ∧ wh S (10 * c + k) = i ∧ S' = S.setS 500 2 ∧ (¬ S.a 527 (10 * c + k) = 0 ∨ ¬ S.a 522 (10 * c + k) ≤ 0)) ∨
  ∃ c i k, c < nC S ∧ i < nP S ∧ x1 = nI c ∧ x2 = nI i ∧ k < mn S c ∧ wh S (10 * c + k) = i ∧ S.a 527 (10 * c + k) = 0 ∧ S.a 522 (10 * c + k) ≤ 0 ∧ r = fback S c k ∧ S' = fleave S c k
theorem o_leave {w : Wd} {G : GH} {S : MS} {x1 x2 : Int32} (h : RC w G S S) (hI : SH S) (hDI : DI S) (hB : HB S) : OC w G S (fun Q => wp_L_leave (some G.x) x1 x2 (some G.o) w Q) (fun Q => sp_X4_leave x1 x2 S Q) (I_leave S x1 x2) := by
  have hn := hI.2.1
  have hnc := hI.2.2.2.1
  have er : ∀ k : Int32, k ≠ 0 → ∀ (P : Prop) (v7 : Int32), v7 = (S.setS 500 k).s 500 → (v7 = 0 → P) ∧ (¬ v7 = 0 → (k = 0 → (0 : Int32) = 0) ∧ S.setS 500 k = S.setS 500 k) :=
    fun k hk P v7 h7 => ⟨fun z => absurd (show k = 0 from h7.symm.trans z) hk, fun _ => ⟨fun z => absurd z hk, rfl⟩⟩
  rcases ix_c x1 hnc with hx | ⟨c, hc, rfl⟩
  · refine ⟨1, 0, S.setS 500 1, G, rfl, Or.inl ⟨rfl, Or.inl hx⟩, rfl, rfl, rfl, fun Q hQ => ?_, ?_⟩
    · exact ⟨G.x, rfl, h.kx, h.kx, k_circleAt h hnc (fun i hi e => absurd hx (by rw [e]; exact ix_cne hi hnc)) (fun _ => Or.inl ⟨rfl, hQ w h.thrown (fun z => by cases z)⟩)⟩
    · refine m_isCircle_n hI hx ⟨fun y S5 => y = 1 ∧ S5 = S, fun y S5 hy S6 h6 v7 h7 => ?_, fun S42 => S42 = S, fun S42 hs => ⟨rfl, hs⟩, fun _ => rfl, fun z => absurd rfl z⟩
      obtain ⟨rfl, rfl⟩ := hy
      subst h6
      exact er 1 (by decide) _ _ h7
  rcases ix_p x2 hn with hx | ⟨i, hi, rfl⟩
  · refine ⟨1, 0, S.setS 500 1, G, rfl, Or.inl ⟨rfl, Or.inr hx⟩, rfl, rfl, rfl, fun Q hQ => ?_, ?_⟩
    · exact ⟨G.x, rfl, h.kx, h.kx, k_circleAt h hnc (fun j hj e => ⟨h.kx, k_personAt h hn (fun i hi e => absurd hx (by rw [e]; exact ix_ne hi hn)) (fun _ => Or.inl ⟨rfl, hQ w h.thrown (fun z => by cases z)⟩)⟩) (fun z => absurd z (ix_cne hc hnc))⟩
    · refine m_isCircle_y hI hc ⟨fun y S5 => y = 1 ∧ S5 = S, fun y S5 hy S6 h6 v7 h7 => ?_, fun S42 => S42 = S, fun S42 hs => ⟨rfl, hs⟩, fun z => absurd z (by decide), fun _ => m_isOne_n hI hx ⟨fun z => absurd rfl z, fun _ => rfl⟩⟩
      obtain ⟨rfl, rfl⟩ := hy
      subst h6
      exact er 1 (by decide) _ _ h7
  obtain ⟨m1, m2, m3⟩ := hI.2.2.2.2 c hc
  have hc4 : c < 4 := by omega
  have hi16 : i < 16 := by omega
  have S00 : (S.setS 500 0).setS 500 0 = S.setS 500 0 := setS_idem
  have S02 : (S.setS 500 0).setS 500 2 = S.setS 500 2 := setS_idem
  by_cases hk : ∃ k, k < mn S c ∧ wh S (10 * c + k) = i
  · obtain ⟨k, hk, hw⟩ := hk
    have uq : ∀ k', k' < mn S c → wh S (10 * c + k') = i → k' = k := fun k' h1 h2 => hDI c hc k' k h1 hk (by rw [h2, hw])
    have hin : inr 3 (10 * c + k) S := ⟨c, k, rfl, hc, hk⟩
    have hj40 : 10 * c + k < 40 := by omega
    have g5 : w.I 305 (G.L (10 * c + k)) = S.a 527 (10 * c + k) := h.get (k := 3) (f := 305) (r := 527) (by decide) hin
    have g1 : w.I 301 (G.L (10 * c + k)) = S.a 522 (10 * c + k) := h.get (k := 3) (f := 301) (r := 522) (by decide) hin
    have g4 : w.I 304 (G.L (10 * c + k)) = S.a 525 (10 * c + k) := h.get (k := 3) (f := 304) (r := 525) (by decide) hin
    have gb : w.I 105 (G.C c) = S.a 516 c := h.get (k := 1) (f := 105) (r := 516) (by decide) hc
    by_cases hb : ¬ S.a 527 (10 * c + k) = 0 ∨ ¬ S.a 522 (10 * c + k) ≤ 0
    · refine ⟨2, 0, S.setS 500 2, G, rfl, Or.inr (Or.inr (Or.inl ⟨c, i, k, hc, hi, rfl, rfl, hk, hw, rfl, hb⟩)), rfl, rfl, rfl, fun Q hQ => ?_, ?_⟩
      · refine ⟨G.x, rfl, h.kx, h.kx, k_circleAt h hnc (fun j hj e => ⟨h.kx, k_personAt h hn (fun j2 hj2 e2 => ?_) (fun z => absurd z (ix_ne hi hn))⟩) (fun z => absurd z (ix_cne hc hnc))⟩
        obtain rfl : c = j := (nI_eq (by omega) (by omega)).mp e
        obtain rfl : i = j2 := (nI_eq (by omega) (by omega)).mp e2
        refine ⟨_, rfl, h.kC hc, k_placeOf h hI hc hi (fun k' hk' hw' => ?_) (fun z => absurd hw (z k hk))⟩
        obtain rfl := uq k' hk' hw'
        refine ⟨True, fun _ => Or.inr ⟨rfl, hQ w h.thrown (fun z => by cases z)⟩, fun _ => trivial, fun _ => ⟨_, rfl, h.kL hin, fun v10 h10 => ⟨fun _ => trivial, fun z => ⟨h.kL hin, fun v11 h11 => ⟨fun z2 => ?_, fun _ => trivial⟩⟩⟩⟩⟩
        exact (hb.elim (fun q => q (by rw [← g5, ← h10]; exact z)) (fun q => q (by rw [← g1, ← h11]; exact z2))).elim
      · refine m_isCircle_y hI hc ⟨fun y S5 => y = 0 ∧ S5 = S, fun y S5 hy S6 h6 v7 h7 => ?_, fun S42 => False, fun S42 hs => hs.elim, fun z => absurd z (by decide), fun _ => m_isOne_y hI hi ⟨fun _ => ⟨rfl, rfl⟩, fun z => absurd z (by decide)⟩⟩
        obtain ⟨rfl, rfl⟩ := hy
        subst h6
        refine ⟨fun _ => m_placeOf (S := S5.setS 500 0) hI hDI hc hi (fun k' hk' hw' => ?_) (fun z => absurd hw (z k hk)), fun z => absurd h7 z⟩
        obtain rfl := uq k' hk' hw'
        refine ⟨fun y => y = 2, fun y hy S12 h12 v13 h13 => ?_, True, fun _ => rfl, fun _ => trivial, fun _ v33 h33 v34 h34 => ?_⟩
        · subst hy
          rw [S02] at h12; subst h12
          exact er 2 (by decide) _ _ h13
        · rw [h33, at_ix] at h34
          refine ⟨_, h34, hj40, fun v36 h36 => ⟨fun _ => trivial, fun z v37 h37 v38 h38 => ?_⟩⟩
          rw [h37, at_ix] at h38
          refine ⟨_, h38, hj40, fun v40 h40 => ⟨fun z2 => ?_, fun _ => trivial⟩⟩
          exact (hb.elim (fun q => q (h36.symm.trans z)) (fun q => q (by rw [h40] at z2; exact z2))).elim
    · have b1 : S.a 527 (10 * c + k) = 0 := Classical.byContradiction fun z => hb (Or.inl z)
      have b2 : S.a 522 (10 * c + k) ≤ 0 := Classical.byContradiction fun z => hb (Or.inr z)
      obtain ⟨F, hF⟩ : ∃ F, F = fgive (S.setS 500 0) c i (fback S c k) := ⟨_, rfl⟩
      have N : Nm S F := by rw [hF]; exact fgive_Nm (Nm.rf.ss (by decide))
      have hfl : fleave S c k = frnd (fgo F c k) c := by rw [hF, ← hw]; rfl
      have hBF : HB F := fun x => by rw [hF, fgive_a (by decide) (by decide) (by decide)]; exact hB x
      have hcF : c < nC F := by rw [N.c]; exact hc
      have hkF : k < mn F c := by rw [N.m]; exact hk
      have hthr : (fleave S c k).s 500 = 0 := by rw [hfl, frnd_s, fgo_s, hF]; rfl
      refine ⟨0, fback S c k, fleave S c k, Ggo G F c k, hthr, Or.inr (Or.inr (Or.inr ⟨c, i, k, hc, hi, rfl, rfl, hk, hw, b1, b2, rfl, rfl⟩)), rfl, rfl, rfl, fun Q hQ => ?_, ?_⟩
      · refine ⟨G.x, rfl, h.kx, h.kx, k_circleAt h hnc (fun j hj e => ⟨h.kx, k_personAt h hn (fun j2 hj2 e2 => ?_) (fun z => absurd z (ix_ne hi hn))⟩) (fun z => absurd z (ix_cne hc hnc))⟩
        obtain rfl : c = j := (nI_eq (by omega) (by omega)).mp e
        obtain rfl : i = j2 := (nI_eq (by omega) (by omega)).mp e2
        refine ⟨_, rfl, h.kC hc, k_placeOf h hI hc hi (fun k' hk' hw' => ?_) (fun z => absurd hw (z k hk))⟩
        obtain rfl := uq k' hk' hw'
        refine ⟨False, fun z => z.elim, fun z => (by cases z), fun _ => ⟨_, rfl, h.kL hin, fun v10 h10 => ⟨fun z => z (by rw [h10, g5]; exact b1), fun _ => ⟨h.kL hin, fun v11 h11 => ⟨fun _ => ⟨h.kL hin, fun v12 h12 => ⟨h.kC hc, fun v13 h13 v14 h14 => ⟨h.kC hc, ?_⟩⟩⟩, fun z => z (by rw [h11, g1]; exact b2)⟩⟩⟩⟩⟩
        have e14 : v14 = fback S c k' := by rw [h14, h13, h12, gb, g4]; rfl
        refine k_giveOut (S := S.setS 500 0) h.thrown hc hin (by show wh S _ < nP S; rw [hw]; exact hi) (fun w15 q15 => ?_)
        have q15 : RC w15 G F S := by
          rw [hF, ← e14, ← hw]; exact q15
        refine ⟨q15.kC hcF, k_removePlace q15 (N.sh hI) hBF hcF hkF (fun w16 q16 => ?_)⟩
        rw [← hfl] at q16
        rw [e14]
        exact out_ok (G := Ggo G F c k') q16 (fun w1 q r => hQ w1 q (fun _ => r))
      · refine m_isCircle_y hI hc ⟨fun y S5 => y = 0 ∧ S5 = S, fun y S5 hy S6 h6 v7 h7 => ?_, fun S42 => False, fun S42 hs => hs.elim, fun z => absurd z (by decide), fun _ => m_isOne_y hI hi ⟨fun _ => ⟨rfl, rfl⟩, fun z => absurd z (by decide)⟩⟩
        obtain ⟨rfl, rfl⟩ := hy
        subst h6
        refine ⟨fun _ => m_placeOf (S := S5.setS 500 0) hI hDI hc hi (fun k' hk' hw' => ?_) (fun z => absurd hw (z k hk)), fun z => absurd h7 z⟩
        obtain rfl := uq k' hk' hw'
        refine ⟨fun y => y = 0, fun y hy S12 h12 v13 h13 => ?_, False, fun z => z.elim, fun z => nI_pos (by omega) z, fun _ v33 h33 v34 h34 => ?_⟩
        · subst hy
          rw [S00] at h12; subst h12
          refine ⟨fun _ v14 h14 v15 h15 => ?_, fun z => absurd h13 z⟩
          rw [h14, at_ix] at h15
          refine ⟨_, h15, hj40, fun v17 h17 => ⟨c, rfl, hc4, fun v19 h19 => ⟨fun y => y = fback S5 c k', fun y21 hy => ⟨c, rfl, hc4, fun v23 h23 v24 h24 => ⟨c, rfl, hc4, fun S26 h26 v27 h27 => m_pays hi16 ?_⟩⟩, fun z => ⟨c, rfl, hc4, fun v31 h31 => ?_⟩, fun z => ?_⟩⟩⟩
          · have e : fpay S26 i v27 = F := by rw [h26, h27, h24, h23, hy, hF]; rfl
            rw [e]
            refine m_goes (N.sh hI) hBF hcF hkF ⟨fun _ => hy, hfl.symm⟩
          · rw [h17, h19] at z
            rw [h31]; unfold fback; rw [min_le]; exact (if_pos (show S5.a 516 c ≤ S5.a 525 (10 * c + k') from z)).symm
          · rw [h17, h19] at z
            rw [h17]; unfold fback; rw [min_le]; exact (if_neg (show ¬ S5.a 516 c ≤ S5.a 525 (10 * c + k') from z)).symm
        · rw [h33, at_ix] at h34
          refine ⟨_, h34, hj40, fun v36 h36 => ⟨fun z => z (h36.trans b1), fun z v37 h37 v38 h38 => ?_⟩⟩
          rw [h37, at_ix] at h38
          exact ⟨_, h38, hj40, fun v40 h40 => ⟨fun _ => rfl, fun z2 => z2 (by rw [h40]; exact b2)⟩⟩
  · have hno : ∀ k, k < mn S c → wh S (10 * c + k) ≠ i := fun k h1 h2 => hk ⟨k, h1, h2⟩
    refine ⟨2, 0, S.setS 500 2, G, rfl, Or.inr (Or.inl ⟨c, i, hc, hi, rfl, rfl, rfl, hno⟩), rfl, rfl, rfl, fun Q hQ => ?_, ?_⟩
    · refine ⟨G.x, rfl, h.kx, h.kx, k_circleAt h hnc (fun j hj e => ⟨h.kx, k_personAt h hn (fun j2 hj2 e2 => ?_) (fun z => absurd z (ix_ne hi hn))⟩) (fun z => absurd z (ix_cne hc hnc))⟩
      obtain rfl : c = j := (nI_eq (by omega) (by omega)).mp e
      obtain rfl : i = j2 := (nI_eq (by omega) (by omega)).mp e2
      exact ⟨_, rfl, h.kC hc, k_placeOf h hI hc hi (fun k' hk' hw' => absurd hw' (hno k' hk')) (fun _ => ⟨True, fun _ => Or.inr ⟨rfl, hQ w h.thrown (fun z => by cases z)⟩, fun _ => trivial, fun z => absurd rfl z⟩)⟩
    · refine m_isCircle_y hI hc ⟨fun y S5 => y = 0 ∧ S5 = S, fun y S5 hy S6 h6 v7 h7 => ?_, fun S42 => False, fun S42 hs => hs.elim, fun z => absurd z (by decide), fun _ => m_isOne_y hI hi ⟨fun _ => ⟨rfl, rfl⟩, fun z => absurd z (by decide)⟩⟩
      obtain ⟨rfl, rfl⟩ := hy
      subst h6
      refine ⟨fun _ => m_placeOf (S := S5.setS 500 0) hI hDI hc hi (fun k' hk' hw' => absurd hw' (hno k' hk')) (fun _ => ⟨fun y => y = 2, fun y hy S12 h12 v13 h13 => ?_, True, fun _ => rfl, fun _ => trivial, fun z => absurd (by decide) z⟩), fun z => absurd h7 z⟩
      subst hy
      rw [S02] at h12; subst h12
      exact er 2 (by decide) _ _ h13
