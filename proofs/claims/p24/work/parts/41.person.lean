-- ===== a new person, on both sides
def fpers (S : MS) (x y : Int32) : MS := ((S.setA 502 (nP S) x).setA 503 (nP S) y).setS 501 (nI (nP S + 1))
theorem fpers_p {S : MS} {x y : Int32} (h : nP S ≤ 16) : nP (fpers S x y) = nP S + 1 := by
  have e : (fpers S x y).s 501 = nI (nP S + 1) := s_e
  unfold nP at e h ⊢
  rw [e, nI_clamp (by omega)]
theorem fpers_s {S : MS} {x y : Int32} {f : Nat} (h : f ≠ 501) : (fpers S x y).s f = S.s f := by
  unfold fpers
  rw [s_f h, setA_s, setA_s]
theorem fpers_c {S : MS} {x y : Int32} : nC (fpers S x y) = nC S := by unfold nC; rw [fpers_s (by decide)]
theorem fpers_a {S : MS} {x y : Int32} {r i : Nat} (h1 : r ≠ 502) (h2 : r ≠ 503) : (fpers S x y).a r i = S.a r i := by
  unfold fpers
  rw [setS_a, a_f h2, a_f h1]
theorem fpers_b {S : MS} {x y : Int32} {r i : Nat} (h : i ≠ nP S) : (fpers S x y).a r i = S.a r i := by
  unfold fpers
  rw [setS_a, a_b h, a_b h]
theorem fpers_m {S : MS} {x y : Int32} : mn (fpers S x y) = mn S := by
  funext c; unfold mn; rw [fpers_a (by decide) (by decide)]
theorem fpers_w {S : MS} {x y : Int32} : wh (fpers S x y) = wh S := by
  funext c; unfold wh; rw [fpers_a (by decide) (by decide)]
/-- rows beyond the people there are: 0 -/
def ZP (S : MS) : Prop := ∀ i, nP S ≤ i → i < 16 → S.a 504 i = 0 ∧ S.a 505 i = 0 ∧ S.a 506 i = 0 ∧ S.a 510 i = 0 ∧ S.a 511 i = 0 ∧ S.a 512 i = 0 ∧ ∀ b, b < 3 → S.a 530 (16 * b + i) = 0
theorem fpers_i3 {S : MS} {x y : Int32} {j : Nat} (h : inr 3 j (fpers S x y)) : inr 3 j S := by
  obtain ⟨c, k, e, hc, hk⟩ := h
  rw [fpers_c] at hc
  rw [fpers_m] at hk
  exact ⟨c, k, e, hc, hk⟩
def Gpers (G : GH) (n q t : Nat) : GH := (G.x, G.li, fun i => if i = n then q else G.P i, fun i => if i = n then t else G.T i, G.C, G.L, G.O, G.tn, G.mo, G.ma, G.o)
theorem Gp_P {G : GH} {n q t i : Nat} (h : i ≠ n) : (Gpers G n q t).P i = G.P i := if_neg h
theorem Gp_Pe {G : GH} {n q t : Nat} : (Gpers G n q t).P n = q := if_pos rfl
theorem Gp_T {G : GH} {n q t i : Nat} (h : i ≠ n) : (Gpers G n q t).T i = G.T i := if_neg h
theorem Gp_Te {G : GH} {n q t : Nat} : (Gpers G n q t).T n = t := if_pos rfl
theorem RCc.pers {w : Wd} {G : GH} {S S0 : MS} {cont : Nat → List Nat} {q t : Nat} {x y : Int32} (h : RCc w G S S0 cont) (hI : SH S) (hO : RO G S) (hn : nP S < 16) (hZ : ZP S) (hk : w.K q = 2) (ht : w.R 203 q = some t) (kt : w.K t = 11) (nt : w.N t = 3) (at0 : ∀ b, w.A t b = 0) (f0 : w.I 200 q = nI (nP S)) (f1 : w.I 201 q = x) (f2 : w.I 202 q = y) (hz : ∀ f, f ≠ 200 → f ≠ 201 → f ≠ 202 → w.I f q = 0) (nq : ∀ i, i < nP S → G.P i ≠ q) (nT : ∀ i, i < nP S → G.T i ≠ t) (nM : G.mo ≠ t) (h0 : cont 0 = (List.range (nP S)).map G.P ++ [q]) (h1 : cont 1 = (List.range (nC S)).map G.C) (h2 : ∀ c', c' < nC S → cont (2 + 2 * c') = cLst G S c' ∧ cont (3 + 2 * c') = G.O c') : RC w (Gpers G (nP S) q t) (fpers S x y) S0 := by
  obtain ⟨q1, q2, ⟨k1, k2, k3, k4, k6, k7, k8, k9⟩, q4, q5, q6, q7⟩ := h
  have h16 : nP S ≤ 16 := by omega
  have eP : nP (fpers S x y) = nP S + 1 := fpers_p h16
  have eC : nC (fpers S x y) = nC S := fpers_c
  have j2 : ∀ {j}, inr 2 j (fpers S x y) → j < nP S + 1 := fun hj => by rw [← eP]; exact hj
  have j1 : ∀ {j}, inr 1 j (fpers S x y) → j < nC S := fun hj => by rw [← eC]; exact hj
  have i3 : ∀ {j}, inr 3 j (fpers S x y) → inr 3 j S := fun hj => fpers_i3 hj
  have hw : ∀ j, inr 3 j S → wh S j < nP S := fun j hj => by
    obtain ⟨c, k, rfl, hc, hk⟩ := hj
    exact ((hI.2.2.2.2 c hc).2.2 k hk).2
  refine RCc.toR (cont := cont) ⟨q1, q2, ⟨k1, k2, k3, fun n hn => k4 n (by rw [← eC]; exact hn), fun k j a b hj => ?_, fun i' hi' => ?_, fun c' hc' => k8 c' (by rw [← eC]; exact hc'), fun j hj => ?_⟩, ⟨fun k j j' a b hj hj' e => ?_, fun i j hi hj e => ?_, fun i' hi' => ?_, fun m m' hm hm' e => q4.2.2.2 m m' (by rw [← eC]; exact hm) (by rw [← eC]; exact hm') e⟩, ⟨fun f r k j he hj => ?_, ?_, ?_, fun i' b hi' hb => ?_⟩, fun i' hi' hd => ?_, q7⟩ ?_ (by rw [eC]; exact h1) (fun c' hc' => ?_) (fun c' hc' => ?_)
  · rcases k123 a b with e | e | e <;> subst e
    · exact k6 1 j (by decide) (by decide) (j1 hj)
    · show w.K ((Gpers G (nP S) q t).P j) = 2
      by_cases e : j = nP S
      · subst e; rw [Gp_Pe]; exact hk
      · rw [Gp_P e]; exact k6 2 j (by decide) (by decide) (show j < nP S by have := j2 hj; omega)
    · exact k6 3 j (by decide) (by decide) (i3 hj)
  · rw [eP] at hi'
    by_cases e : i' = nP S
    · subst e; rw [Gp_Pe, Gp_Te]; exact ⟨f0, ht, kt, nt⟩
    · rw [Gp_P e, Gp_T e]; exact k7 i' (by omega)
  · have := hw j (i3 hj)
    rw [fpers_w, Gp_P (by omega)]; exact k9 _ (i3 hj)
  · rcases k123 a b with e1 | e1 | e1 <;> subst e1
    · exact q4.1 1 j j' (by decide) (by decide) (j1 hj) (j1 hj') e
    · have e : (Gpers G (nP S) q t).P j = (Gpers G (nP S) q t).P j' := e
      have hj := j2 hj
      have hj' := j2 hj'
      by_cases e1 : j = nP S <;> by_cases e2 : j' = nP S
      · rw [e1, e2]
      · rw [e1, Gp_Pe, Gp_P e2] at e; exact absurd e.symm (nq _ (by omega))
      · rw [e2, Gp_Pe, Gp_P e1] at e; exact absurd e (nq _ (by omega))
      · rw [Gp_P e1, Gp_P e2] at e
        exact q4.1 2 j j' (by decide) (by decide) (show j < nP S by omega) (show j' < nP S by omega) e
    · exact q4.1 3 j j' (by decide) (by decide) (i3 hj) (i3 hj') e
  · rw [eP] at hi hj
    by_cases e1 : i = nP S <;> by_cases e2 : j = nP S
    · rw [e1, e2]
    · rw [e1, Gp_Te, Gp_T e2] at e; exact absurd e.symm (nT _ (by omega))
    · rw [e2, Gp_Te, Gp_T e1] at e; exact absurd e (nT _ (by omega))
    · rw [Gp_T e1, Gp_T e2] at e; exact q4.2.1 i j (by omega) (by omega) e
  · rw [eP] at hi'
    by_cases e1 : i' = nP S
    · rw [e1, Gp_Te]; exact fun e => nM e.symm
    · rw [Gp_T e1]; exact q4.2.2.1 i' (by omega)
  · have eo := (et_o _ he).2.2.2.2.2.2.2.2.2.2
    rcases k123 eo.1 eo.2 with e1 | e1 | e1 <;> simp only at e1 <;> subst e1
    · have hr : r ≠ 502 ∧ r ≠ 503 := (by decide : ∀ e ∈ etab, e.2.2 = 1 → e.2.1 ≠ 502 ∧ e.2.1 ≠ 503) _ he rfl
      rw [fpers_a hr.1 hr.2]; exact q5.1 f r 1 j he (j1 hj)
    · show w.I f ((Gpers G (nP S) q t).P j) = _
      by_cases e : j = nP S
      · subst e
        rw [Gp_Pe]
        have hzz := hZ (nP S) (Nat.le_refl _) hn
        have hh : (f = 201 ∧ r = 502) ∨ (f = 202 ∧ r = 503) ∨ (f = 204 ∧ r = 504) ∨ (f = 205 ∧ r = 505) ∨ (f = 206 ∧ r = 506) ∨ (f = 210 ∧ r = 510) ∨ (f = 211 ∧ r = 511) ∨ (f = 212 ∧ r = 512) :=
          (by decide : ∀ e ∈ etab, e.2.2 = 2 → (e.1 = 201 ∧ e.2.1 = 502) ∨ (e.1 = 202 ∧ e.2.1 = 503) ∨ (e.1 = 204 ∧ e.2.1 = 504) ∨ (e.1 = 205 ∧ e.2.1 = 505) ∨ (e.1 = 206 ∧ e.2.1 = 506) ∨ (e.1 = 210 ∧ e.2.1 = 510) ∨ (e.1 = 211 ∧ e.2.1 = 511) ∨ (e.1 = 212 ∧ e.2.1 = 512)) _ he rfl
        rcases hh with ⟨e1, e2⟩ | ⟨e1, e2⟩ | ⟨e1, e2⟩ | ⟨e1, e2⟩ | ⟨e1, e2⟩ | ⟨e1, e2⟩ | ⟨e1, e2⟩ | ⟨e1, e2⟩ <;> subst e1 e2
        · rw [f1]; unfold fpers; rw [setS_a, a_f (by decide), a_e]
        · rw [f2]; unfold fpers; rw [setS_a, a_e]
        · rw [hz _ (by decide) (by decide) (by decide), fpers_a (by decide) (by decide)]; exact hzz.1.symm
        · rw [hz _ (by decide) (by decide) (by decide), fpers_a (by decide) (by decide)]; exact hzz.2.1.symm
        · rw [hz _ (by decide) (by decide) (by decide), fpers_a (by decide) (by decide)]; exact hzz.2.2.1.symm
        · rw [hz _ (by decide) (by decide) (by decide), fpers_a (by decide) (by decide)]; exact hzz.2.2.2.1.symm
        · rw [hz _ (by decide) (by decide) (by decide), fpers_a (by decide) (by decide)]; exact hzz.2.2.2.2.1.symm
        · rw [hz _ (by decide) (by decide) (by decide), fpers_a (by decide) (by decide)]; exact hzz.2.2.2.2.2.1.symm
      · rw [Gp_P e, fpers_b e]; exact q5.1 f r 2 j he (show j < nP S by have := j2 hj; omega)
    · have hr : r ≠ 502 ∧ r ≠ 503 := (by decide : ∀ e ∈ etab, e.2.2 = 3 → e.2.1 ≠ 502 ∧ e.2.1 ≠ 503) _ he rfl
      rw [fpers_a hr.1 hr.2]; exact q5.1 f r 3 j he (i3 hj)
  · rw [fpers_s (by decide)]; exact q5.2.1
  · rw [fpers_s (by decide)]; exact q5.2.2.1
  · rw [eP] at hi'
    rw [fpers_a (by decide) (by decide)]
    by_cases e1 : i' = nP S
    · rw [e1, Gp_Te, at0]; exact ((hZ (nP S) (Nat.le_refl _) hn).2.2.2.2.2.2 b hb).symm
    · rw [Gp_T e1]; exact q5.2.2.2 i' b (by omega) hb
  · rw [eP] at hi'
    rw [fpers_a (by decide) (by decide)] at hd
    rw [fpers_a (by decide) (by decide), fpers_a (by decide) (by decide), fpers_a (by decide) (by decide), eP]
    by_cases e1 : i' = nP S
    · rw [e1, (hZ (nP S) (Nat.le_refl _) hn).2.2.1] at hd; exact absurd hd (by decide)
    · rw [Gp_P e1]
      obtain ⟨g1, a, b, g2, g3, g4, g5, g6, g7⟩ := q6 i' (by omega) hd
      exact ⟨g1, a, b, by omega, by omega, g4, g5, by rw [Gp_P (by omega)]; exact g6, by rw [Gp_P (by omega)]; exact g7⟩
  · rw [eP, h0, List.range_succ, List.map_append]
    congr 1
    · refine List.map_congr_left fun k hk => ?_
      have hk := List.mem_range.mp hk
      exact (Gp_P (by omega)).symm
    · show [q] = [(Gpers G (nP S) q t).P (nP S)]
      rw [Gp_Pe]
  · rw [eC] at hc'
    have e0 : cLst (Gpers G (nP S) q t) (fpers S x y) c' = cLst G S c' := by unfold cLst; rw [fpers_m]; rfl
    rw [e0]; exact h2 c' hc'
  · rw [eC] at hc'
    have e0 : cLst (Gpers G (nP S) q t) (fpers S x y) c' = cLst G S c' := by unfold cLst; rw [fpers_m]; rfl
    rw [e0, fpers_m]
    have ho : hasO (fpers S x y) c' ↔ hasO S c' := by
      unfold hasO; rw [fpers_a (by decide) (by decide), fpers_a (by decide) (by decide)]
    rw [ho]
    obtain ⟨o1, o2⟩ := hO c' hc'
    refine ⟨o1, fun hy => ?_⟩
    obtain ⟨p1, p2, p3⟩ := o2 hy
    refine ⟨p1, p2, fun k hk => ?_⟩
    rw [fpers_a (by decide) (by decide)]; exact p3 k hk
theorem k_psz {w : Wd} {G : GH} {S S0 : MS} {Q : Int32 → Wd → Prop} (h : RC w G S S0) (hQ : Q (nI (nP S)) w) : w.K G.x = 4 ∧ ∀ z : Option Nat, z = w.R 400 G.x → ∃ a, z = some a ∧ w.K a = 6 ∧ wp_Jx4a65c_size_8abf5 a w Q :=
  ⟨h.kx, fun _ hz => ⟨G.li 0, hz.trans h.2.2.1.2.1, h.lP.1, s_size h.lP (by rw [map_len]; exact hQ)⟩⟩
/-- what person answers and does -/
def I_person (S : MS) (x1 x2 : Int32) (r : Int32) (S' : MS) : Prop :=
  (S' = S.setS 500 1 ∧ ((x1 < 1 ∨ ¬ x1 ≤ 120) ∨ (x2 < 0 ∨ ¬ x2 ≤ 99999))) ∨ (S' = S.setS 500 2 ∧ ¬ nP S < 16) ∨
  nP S < 16 ∧ ¬ x1 < 1 ∧ x1 ≤ 120 ∧ r = nI (nP S) ∧ S' = fpers (S.setS 500 0) x1 x2
theorem o_person {w : Wd} {G : GH} {S : MS} {x1 x2 : Int32} (h : RC w G S S) (hI : SH S) (hZ : ZP S) : OX w G S (fun Q => wp_L_person (some G.x) x1 x2 (some G.o) w Q) (fun Q => sp_X4_person x1 x2 S Q) (I_person S x1 x2) := by
  have hnp := hI.2.1
  have er : ∀ k : Int32, k ≠ 0 → ∀ (P : Prop) (v7 : Int32), v7 = (S.setS 500 k).s 500 → (v7 = 0 → P) ∧ (¬ v7 = 0 → (k = 0 → (0 : Int32) = 0) ∧ S.setS 500 k = S.setS 500 k) :=
    fun k hk P v7 h7 => ⟨fun z => absurd (show k = 0 from h7.symm.trans z) hk, fun _ => ⟨fun z => absurd z hk, rfl⟩⟩
  by_cases hr : x1 < (1 : Int32) ∨ ¬ x1 ≤ 120
  · refine ⟨1, 0, S.setS 500 1, rfl, Or.inl ⟨rfl, Or.inl hr⟩, fun Q hQ => ?_, ?_⟩
    · exact ⟨G.x, rfl, h.kx, k_range (fun a b => (hr.elim (fun z => a z) (fun z => z b)).elim) (fun _ => Or.inl ⟨rfl, hQ w G rfl rfl rfl h.thrown (fun z => by cases z)⟩)⟩
    · refine m_in_n (hr.imp_right i_le) ⟨fun y S5 => y = 1 ∧ S5 = S, fun y S5 hy S6 h6 v7 h7 => ?_, fun S20 => S20 = S, fun S20 hs => ⟨rfl, hs⟩, fun _ => rfl, fun z => absurd rfl z⟩
      obtain ⟨rfl, rfl⟩ := hy
      subst h6
      exact er 1 (by decide) _ _ h7
  have r1 : ¬ x1 < (1 : Int32) := fun z => hr (Or.inl z)
  have r2 : x1 ≤ 120 := Classical.byContradiction fun z => hr (Or.inr z)
  by_cases hr' : x2 < (0 : Int32) ∨ ¬ x2 ≤ 99999
  · refine ⟨1, 0, S.setS 500 1, rfl, Or.inl ⟨rfl, Or.inr hr'⟩, fun Q hQ => ?_, ?_⟩
    · exact ⟨G.x, rfl, h.kx, k_range (fun _ _ => k_range (fun a b => (hr'.elim (fun z => a z) (fun z => z b)).elim) (fun _ => Or.inl ⟨rfl, hQ w G rfl rfl rfl h.thrown (fun z => by cases z)⟩)) (fun z => absurd z hr)⟩
    · refine m_in_y r1 (i_nlt r2) ⟨fun y S5 => y = 1 ∧ S5 = S, fun y S5 hy S6 h6 v7 h7 => ?_, fun S20 => S20 = S, fun S20 hs => ⟨rfl, hs⟩, fun z => absurd z (by decide), fun _ => m_in_n (hr'.imp_right i_le) ⟨fun z => absurd rfl z, fun _ => rfl⟩⟩
      obtain ⟨rfl, rfl⟩ := hy
      subst h6
      exact er 1 (by decide) _ _ h7
  have r3 : ¬ x2 < (0 : Int32) := fun z => hr' (Or.inl z)
  have r4 : x2 ≤ 99999 := Classical.byContradiction fun z => hr' (Or.inr z)
  have lt16 : nI (nP S) < 16 ↔ nP S < 16 := nI_ltI (b := 16) (by omega) (by decide)
  have eq16 : nI (nP S) = 16 ↔ nP S = 16 := nI_eq (b := 16) (by omega) (by decide)
  by_cases hb : nP S < 16
  · obtain ⟨T, hT⟩ : ∃ T, T = S.setS 500 0 := ⟨_, rfl⟩
    have N : Nm S T := by rw [hT]; exact Nm.rf.ss (by decide)
    have hIT := N.sh hI
    have enT : nP T = nP S := N.p
    have hZT : ZP T := by rw [hT]; exact hZ
    have hthr : (fpers T x1 x2).s 500 = 0 := by rw [fpers_s (by decide), hT]; rfl
    refine ⟨0, nI (nP S), fpers T x1 x2, hthr, Or.inr (Or.inr ⟨hb, r1, r2, rfl, by rw [hT]⟩), fun Q hQ => ?_, ?_⟩
    · refine ⟨G.x, rfl, h.kx, k_range (fun _ _ => k_range (fun _ _ => k_psz h ⟨fun _ q hq w8 h8 => ?_, fun z => absurd (lt16.mpr hb) z⟩) (fun z => absurd z hr')) (fun z => absurd z hr)⟩
      have k8 : w8.K q = 2 := by rw [h8]; exact vu_eq
      have F8 : FrZ w w8 := by rw [h8]; exact FrZ.rf.nw hq
      have A8 : ALs w8 := als_Z h.als F8 (fun b hb => by
        by_cases eb : b = q
        · rw [eb, k8] at hb; cases hb
        · rw [h8] at hb; rw [← hb]; exact (vu_ne eb).symm)
      refine k_psz (h.frZ F8 A8) ⟨k8, fun w1 h1 => ⟨by rw [h1]; exact k8, fun w2 h2 => ⟨by rw [h2, h1]; exact k8, fun w3 h3 t ht w5 h5 => ?_⟩⟩⟩
      have k3 : w3.K q = 2 := by rw [h3, h2, h1]; exact k8
      have nqt : q ≠ t := fun e => by rw [← e, k3] at ht; cases ht
      have k5 : w5.K q = 2 := by rw [h5]; exact (vu_ne nqt).trans k3
      have F3 : FrZ w w3 := by rw [h3, h2, h1]; exact ((F8.sI hq).sI hq).sI hq
      have F5 : FrZ w w5 := by rw [h5]; exact F3.nA ht
      refine ⟨k5, fun w13 h13 => ?_⟩
      have F13 : FrZ w w13 := by rw [h13]; exact F5.sR hq
      have k13 : w13.K q = 2 := by rw [h13]; exact k5
      have kt13 : w13.K t = 11 := by rw [h13, h5]; exact vu_eq
      have nt13 : w13.N t = 3 := by rw [h13, h5]; exact vu_eq
      have at13 : ∀ b, w13.A t b = 0 := fun b => by rw [h13, h5]; exact if_pos rfl
      have R13 : w13.R 203 q = some t := by rw [h13, R_e]
      have e3 : w3.K = w8.K := by rw [h3, h2, h1]; rfl
      have A13 : ALs w13 := als_Z h.als F13 (fun b hb => by
        by_cases eb : b = q
        · rw [eb, k13] at hb; cases hb
        · by_cases et : b = t
          · rw [et, kt13] at hb; cases hb
          · rw [h13, h5] at hb
            have hb : w3.K b = 6 := by rw [← hb]; exact (vu_ne et).symm
            rw [e3, h8] at hb; rw [← hb]; exact (vu_ne eb).symm)
      have I13 : ∀ f, w13.I f q = w3.I f q := fun f => by rw [h13, h5]; rfl
      have f200 : w13.I 200 q = nI (nP S) := by rw [I13, h3, I_f (by decide), h2, I_f (by decide), h1, I_e]
      have f201 : w13.I 201 q = x1 := by rw [I13, h3, I_f (by decide), h2, I_e]
      have f202 : w13.I 202 q = x2 := by rw [I13, h3, I_e]
      have fz : ∀ f, f ≠ 200 → f ≠ 201 → f ≠ 202 → w13.I f q = 0 := fun f a b c => by
        rw [I13, h3, I_f c, h2, I_f b, h1, I_f a, h8]; exact if_pos rfl
      have q13 : RC w13 G T S := by rw [hT]; exact RC.thrown (h.frZ F13 A13)
      refine ⟨q13.kx, fun z14 h14 => ⟨_, h14.trans q13.2.2.1.2.1, q13.lP.1, s_add A13 q13.lP (Or.inr (Or.inl k13)) (by rw [map_len, enT]; omega) (fun w16 f16 a16 s16 => ?_)⟩⟩
      have c16 := q13.toC.list (n := 0) (by omega) f16 a16 s16
      have hl0 : w.K (G.li 0) ≠ 0 := by rw [h.lP.1]; decide
      have w3k : ∀ b, w.K b ≠ 0 → w3.K b ≠ 0 := fun b hb => by rw [(F3 b hb).1]; exact hb
      have nqe : q ≠ G.li 0 := fun e => hl0 (by rw [← e]; exact hq)
      have nte : t ≠ G.li 0 := fun e => w3k _ hl0 (by rw [← e]; exact ht)
      have kt0 : w13.K t ≠ 0 := by rw [kt13]; decide
      have q16 : RC w16 (Gpers G (nP T) q t) (fpers T x1 x2) S := by
        refine c16.pers hIT q13.ro (by rw [enT]; exact hb) hZT (by rw [(f16.1 q (by rw [k13]; decide)).1]; exact k13) (by rw [(f16.2.2.1 203 q nqe).2]; exact R13) (by rw [(f16.1 t kt0).1]; exact kt13) (by rw [(f16.1 t kt0).2.1]; exact nt13) (fun b => by rw [(f16.1 t kt0).2.2.1]; exact at13 b) (by rw [(f16.2.2.1 200 q nqe).1, enT]; exact f200) (by rw [(f16.2.2.1 201 q nqe).1]; exact f201) (by rw [(f16.2.2.1 202 q nqe).1]; exact f202) (fun f a b c => by rw [(f16.2.2.1 f q nqe).1]; exact fz f a b c) (fun i hi => ?_) (fun i hi => ?_) ?_ ?_ ?_ (fun c' hc' => ⟨?_, ?_⟩)
        · rw [enT] at hi
          exact k0_ne hq (by rw [h.kP hi]; decide)
        · rw [enT] at hi
          exact k0_ne ht (w3k _ (by rw [(h.2.2.1.2.2.2.2.2.2.1 i hi).2.2.1]; decide))
        · exact k0_ne ht (w3k _ (by rw [h.1.1]; decide))
        · rw [if_pos rfl]
        · rw [if_neg (by omega)]; rfl
        · rw [if_neg (by omega), stdC_p]
        · rw [if_neg (by omega), stdC_o]
      refine ⟨by rw [(f16.1 q (by rw [k13]; decide)).1]; exact k13, fun v18 h18 => ?_⟩
      rw [(f16.2.2.1 200 q nqe).1, f200] at h18
      rw [h18]
      exact out_ok (G := Gpers G (nP T) q t) q16 (fun w1 q' r => hQ w1 (Gpers G (nP T) q t) rfl rfl rfl q' (fun _ => r))
    · refine m_in_y r1 (i_nlt r2) ⟨fun y S5 => y = 0 ∧ S5 = S, fun y S5 hy S6 h6 v7 h7 => ?_, fun S20 => False, fun S20 hs => hs.elim, fun z => absurd z (by decide), fun _ => m_in_y r3 (i_nlt r4) ⟨fun _ v23 h23 => ⟨fun _ => ⟨rfl, rfl⟩, fun z => ?_⟩, fun z => absurd z (by decide)⟩⟩
      · obtain ⟨rfl, rfl⟩ := hy
        rw [← hT] at h6
        rw [h6] at h7 ⊢
        have h7 : v7 = 0 := by rw [h7, hT]; rfl
        refine ⟨fun _ v8 h8 => ?_, fun z => absurd h7 z⟩
        have e8 : v8 = nI (nP T) := h8.trans hIT.1
        refine ⟨_, e8, by rw [enT]; exact hb, fun S10 h10 v11 h11 => ?_⟩
        have e11 : v11 = nI (nP T) := by rw [h11, h10, setA_s]; exact hIT.1
        refine ⟨_, e11, by rw [enT]; exact hb, fun S13 h13 v14 h14 v15 h15 S16 h16 v17 h17 v18 h18 => ?_⟩
        have e14 : v14 = nI (nP T) := by rw [h14, h13, setA_s, h10, setA_s]; exact hIT.1
        have e16 : S16 = fpers T x1 x2 := by rw [h16, h15, e14, nI_1, h13, h10]; rfl
        refine ⟨fun _ => ?_, e16⟩
        rw [h18, h17, h16, s_e, h15, e14, nI_1, nI_pred, enT]
      · have h23 : v23 = nI (nP S) := h23.trans hI.1
        rw [h23, eq16] at z; omega
  · have h4 : nP S = 16 := by omega
    refine ⟨2, 0, S.setS 500 2, rfl, Or.inr (Or.inl ⟨rfl, hb⟩), fun Q hQ => ?_, ?_⟩
    · refine ⟨G.x, rfl, h.kx, k_range (fun _ _ => k_range (fun _ _ => k_psz h ⟨fun z => absurd (lt16.mp z) hb, fun z => Or.inr ⟨rfl, hQ w G rfl rfl rfl h.thrown (fun z => by cases z)⟩⟩) (fun z => absurd z hr')) (fun z => absurd z hr)⟩
    · refine m_in_y r1 (i_nlt r2) ⟨fun y S5 => y = 2 ∧ S5 = S, fun y S5 hy S6 h6 v7 h7 => ?_, fun S20 => False, fun S20 hs => hs.elim, fun z => absurd z (by decide), fun _ => m_in_y r3 (i_nlt r4) ⟨fun _ v23 h23 => ⟨fun z => ?_, fun z => ⟨rfl, rfl⟩⟩, fun z => absurd z (by decide)⟩⟩
      · obtain ⟨rfl, rfl⟩ := hy
        subst h6
        exact er 2 (by decide) _ _ h7
      · exact absurd (by rw [h23.trans hI.1, h4]; rfl) z
