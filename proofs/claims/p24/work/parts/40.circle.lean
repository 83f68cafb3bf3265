-- ===== a new circle, on both sides
def fcirc (S : MS) (x y : Int32) : MS := ((S.setA 514 (nC S) x).setA 515 (nC S) y).setS 513 (nI (nC S + 1))
theorem setS_a {S : MS} {f r i : Nat} {v : Int32} : (S.setS f v).a r i = S.a r i := rfl
theorem fcirc_c {S : MS} {x y : Int32} (h : nC S ≤ 4) : nC (fcirc S x y) = nC S + 1 := by
  have e : (fcirc S x y).s 513 = nI (nC S + 1) := s_e
  unfold nC at e h ⊢
  rw [e, nI_clamp (by omega)]
theorem fcirc_s {S : MS} {x y : Int32} {f : Nat} (h : f ≠ 513) : (fcirc S x y).s f = S.s f := by
  unfold fcirc
  rw [s_f h, setA_s, setA_s]
theorem fcirc_p {S : MS} {x y : Int32} : nP (fcirc S x y) = nP S := by unfold nP; rw [fcirc_s (by decide)]
theorem fcirc_a {S : MS} {x y : Int32} {r i : Nat} (h1 : r ≠ 514) (h2 : r ≠ 515) : (fcirc S x y).a r i = S.a r i := by
  unfold fcirc
  rw [setS_a, a_f h2, a_f h1]
theorem fcirc_b {S : MS} {x y : Int32} {r i : Nat} (h : i ≠ nC S) : (fcirc S x y).a r i = S.a r i := by
  unfold fcirc
  rw [setS_a, a_b h, a_b h]
theorem fcirc_m {S : MS} {x y : Int32} : mn (fcirc S x y) = mn S := by
  funext c; unfold mn; rw [fcirc_a (by decide) (by decide)]
theorem fcirc_w {S : MS} {x y : Int32} : wh (fcirc S x y) = wh S := by
  funext c; unfold wh; rw [fcirc_a (by decide) (by decide)]
/-- rows beyond the circles there are: 0 -/
def ZC (S : MS) : Prop := ∀ c, nC S ≤ c → S.a 516 c = 0 ∧ S.a 517 c = 0 ∧ S.a 518 c = 0 ∧ S.a 519 c = 0 ∧ S.a 520 c = 0
theorem fcirc_i3 {S : MS} {x y : Int32} {j : Nat} (hn : nC S ≤ 4) (hZ : ZC S) (h : inr 3 j (fcirc S x y)) : inr 3 j S := by
  obtain ⟨c, k, e, hc, hk⟩ := h
  rw [fcirc_c hn] at hc
  rw [fcirc_m] at hk
  refine ⟨c, k, e, ?_, hk⟩
  rcases Nat.lt_or_ge c (nC S) with q | q
  · exact q
  · exfalso
    unfold mn at hk
    rw [(hZ c q).2.1] at hk
    exact absurd hk (by rw [show (0 : Int32).toNatClampNeg = 0 by decide]; omega)
def Gcirc (G : GH) (n q a b : Nat) : GH := (G.x, fun m => if m = 2 + 2 * n then a else if m = 3 + 2 * n then b else G.li m, G.P, G.T, fun c => if c = n then q else G.C c, G.L, fun c => if c = n then [] else G.O c, G.tn, G.mo, G.ma, G.o)
theorem Gc_C {G : GH} {n q a b c : Nat} (h : c ≠ n) : (Gcirc G n q a b).C c = G.C c := if_neg h
theorem Gc_Ce {G : GH} {n q a b : Nat} : (Gcirc G n q a b).C n = q := if_pos rfl
theorem Gc_O {G : GH} {n q a b c : Nat} (h : c ≠ n) : (Gcirc G n q a b).O c = G.O c := if_neg h
theorem Gc_Oe {G : GH} {n q a b : Nat} : (Gcirc G n q a b).O n = [] := if_pos rfl
theorem Gc_l {G : GH} {n q a b m : Nat} (h : m < 2 + 2 * n) : (Gcirc G n q a b).li m = G.li m := (if_neg (by omega)).trans (if_neg (by omega))
theorem Gc_la {G : GH} {n q a b : Nat} : (Gcirc G n q a b).li (2 + 2 * n) = a := if_pos rfl
theorem Gc_lb {G : GH} {n q a b : Nat} : (Gcirc G n q a b).li (3 + 2 * n) = b := (if_neg (by omega)).trans (if_pos rfl)
theorem RCc.circ {w : Wd} {G : GH} {S S0 : MS} {cont : Nat → List Nat} {q a b : Nat} {x y : Int32} (h : RCc w G S S0 cont) (hI : SH S) (hO : RO G S) (hn : nC S < 4) (hZ : ZC S) (hk : w.K q = 1) (ha : w.R 102 q = some a) (hb : w.R 103 q = some b) (la : Ls w a []) (lb : Ls w b []) (f0 : w.I 100 q = x) (f1 : w.I 101 q = y) (hz : ∀ f, f ≠ 100 → f ≠ 101 → w.I f q = 0) (nq : ∀ c, c < nC S → G.C c ≠ q) (na : ∀ m, m < 2 + 2 * nC S → G.li m ≠ a ∧ G.li m ≠ b) (nab : a ≠ b) (h0 : cont 0 = (List.range (nP S)).map G.P) (h1 : cont 1 = (List.range (nC S)).map G.C ++ [q]) (h2 : ∀ c', c' < nC S → cont (2 + 2 * c') = cLst G S c' ∧ cont (3 + 2 * c') = G.O c') : RC w (Gcirc G (nC S) q a b) (fcirc S x y) S0 := by
  obtain ⟨q1, q2, ⟨k1, k2, k3, k4, k6, k7, k8, k9⟩, q4, q5, q6, q7⟩ := h
  have h4 : nC S ≤ 4 := by omega
  have eP : nP (fcirc S x y) = nP S := fcirc_p
  have eC : nC (fcirc S x y) = nC S + 1 := fcirc_c h4
  have j2 : ∀ {j}, inr 2 j (fcirc S x y) → j < nP S := fun hj => by rw [← eP]; exact hj
  have j1 : ∀ {j}, inr 1 j (fcirc S x y) → j < nC S + 1 := fun hj => by rw [← eC]; exact hj
  have i3 : ∀ {j}, inr 3 j (fcirc S x y) → inr 3 j S := fun hj => fcirc_i3 h4 hZ hj
  have hz := hz
  refine RCc.toR (cont := fun m => if m = 2 + 2 * nC S ∨ m = 3 + 2 * nC S then [] else cont m) ⟨q1, q2, ⟨k1, ?_, ?_, fun n hn => ?_, fun k j a b hj => ?_, fun i' hi' => k7 i' (by rw [← eP]; exact hi'), fun c' hc' => ?_, fun j hj => ?_⟩, ⟨fun k j j' a b hj hj' e => ?_, fun i j hi hj => q4.2.1 i j (by rw [← eP]; exact hi) (by rw [← eP]; exact hj), fun i' hi' => q4.2.2.1 i' (by rw [← eP]; exact hi'), fun m m' hm hm' e => ?_⟩, ⟨fun f r k j he hj => ?_, ?_, ?_, fun i' b hi' hb => ?_⟩, fun i' hi' hd => ?_, q7⟩ ?_ ?_ (fun c' hc' => ?_) (fun c' hc' => ?_)
  · rw [Gc_l (by omega)]; exact k2
  · rw [Gc_l (by omega)]; exact k3
  · rw [eC] at hn
    show Ls w _ (if n = 2 + 2 * nC S ∨ n = 3 + 2 * nC S then [] else cont n)
    rcases (by omega : n < 2 + 2 * nC S ∨ n = 2 + 2 * nC S ∨ n = 3 + 2 * nC S) with e | e | e
    · rw [Gc_l e, if_neg (by omega)]; exact k4 n e
    · subst e; rw [Gc_la, if_pos (Or.inl rfl)]; exact la
    · subst e; rw [Gc_lb, if_pos (Or.inr rfl)]; exact lb
  · rcases k123 a b with e | e | e <;> subst e
    · show w.K ((Gcirc G (nC S) q _ _).C j) = 1
      by_cases e : j = nC S
      · subst e; rw [Gc_Ce]; exact hk
      · rw [Gc_C e]; exact k6 1 j (by decide) (by decide) (show j < nC S by have := j1 hj; omega)
    · exact k6 2 j (by decide) (by decide) (j2 hj)
    · exact k6 3 j (by decide) (by decide) (i3 hj)
  · rw [eC] at hc'
    by_cases e : c' = nC S
    · subst e; rw [Gc_Ce, Gc_la, Gc_lb]; exact ⟨ha, hb⟩
    · rw [Gc_C e, Gc_l (by omega), Gc_l (by omega)]; exact k8 c' (by omega)
  · rw [fcirc_w]; exact k9 _ (i3 hj)
  · rcases k123 a b with e1 | e1 | e1 <;> subst e1
    · have e : (Gcirc G (nC S) q _ _).C j = (Gcirc G (nC S) q _ _).C j' := e
      have hj := j1 hj
      have hj' := j1 hj'
      by_cases e1 : j = nC S <;> by_cases e2 : j' = nC S
      · rw [e1, e2]
      · rw [e1, Gc_Ce, Gc_C e2] at e; exact absurd e.symm (nq _ (by omega))
      · rw [e2, Gc_Ce, Gc_C e1] at e; exact absurd e (nq _ (by omega))
      · rw [Gc_C e1, Gc_C e2] at e
        exact q4.1 1 j j' (by decide) (by decide) (show j < nC S by omega) (show j' < nC S by omega) e
    · exact q4.1 2 j j' (by decide) (by decide) (j2 hj) (j2 hj') e
    · exact q4.1 3 j j' (by decide) (by decide) (i3 hj) (i3 hj') e
  · rw [eC] at hm hm'
    rcases (by omega : m < 2 + 2 * nC S ∨ m = 2 + 2 * nC S ∨ m = 3 + 2 * nC S) with e1 | e1 | e1 <;> rcases (by omega : m' < 2 + 2 * nC S ∨ m' = 2 + 2 * nC S ∨ m' = 3 + 2 * nC S) with e2 | e2 | e2
    · rw [Gc_l e1, Gc_l e2] at e; exact q4.2.2.2 m m' e1 e2 e
    · rw [Gc_l e1, e2, Gc_la] at e; exact absurd e (na m e1).1
    · rw [Gc_l e1, e2, Gc_lb] at e; exact absurd e (na m e1).2
    · rw [Gc_l e2, e1, Gc_la] at e; exact absurd e.symm (na m' e2).1
    · omega
    · rw [e1, e2, Gc_la, Gc_lb] at e; exact absurd e nab
    · rw [Gc_l e2, e1, Gc_lb] at e; exact absurd e.symm (na m' e2).2
    · rw [e1, e2, Gc_la, Gc_lb] at e; exact absurd e.symm nab
    · omega
  · have eo := (et_o _ he).2.2.2.2.2.2.2.2.2.2
    have er := et_r _ he
    rcases k123 eo.1 eo.2 with e1 | e1 | e1 <;> simp only at e1 <;> subst e1
    · show w.I f ((Gcirc G (nC S) q _ _).C j) = _
      by_cases e : j = nC S
      · subst e
        rw [Gc_Ce]
        have hzz := hZ (nC S) (Nat.le_refl _)
        have hh : (f = 100 ∧ r = 514) ∨ (f = 101 ∧ r = 515) ∨ (f = 104 ∧ r = 520) ∨ (f = 105 ∧ r = 516) ∨ (f = 106 ∧ r = 518) ∨ (f = 107 ∧ r = 519) :=
          (by decide : ∀ e ∈ etab, e.2.2 = 1 → (e.1 = 100 ∧ e.2.1 = 514) ∨ (e.1 = 101 ∧ e.2.1 = 515) ∨ (e.1 = 104 ∧ e.2.1 = 520) ∨ (e.1 = 105 ∧ e.2.1 = 516) ∨ (e.1 = 106 ∧ e.2.1 = 518) ∨ (e.1 = 107 ∧ e.2.1 = 519)) _ he rfl
        rcases hh with ⟨e1, e2⟩ | ⟨e1, e2⟩ | ⟨e1, e2⟩ | ⟨e1, e2⟩ | ⟨e1, e2⟩ | ⟨e1, e2⟩ <;> subst e1 e2
        · rw [f0]; unfold fcirc; rw [setS_a, a_f (by decide), a_e]
        · rw [f1]; unfold fcirc; rw [setS_a, a_e]
        · rw [hz _ (by decide) (by decide), fcirc_a (by decide) (by decide)]; exact hzz.2.2.2.2.symm
        · rw [hz _ (by decide) (by decide), fcirc_a (by decide) (by decide)]; exact hzz.1.symm
        · rw [hz _ (by decide) (by decide), fcirc_a (by decide) (by decide)]; exact hzz.2.2.1.symm
        · rw [hz _ (by decide) (by decide), fcirc_a (by decide) (by decide)]; exact hzz.2.2.2.1.symm
      · rw [Gc_C e, fcirc_b e]; exact q5.1 f r 1 j he (show j < nC S by have := j1 hj; omega)
    · have hr : r ≠ 514 ∧ r ≠ 515 := (by decide : ∀ e ∈ etab, e.2.2 = 2 → e.2.1 ≠ 514 ∧ e.2.1 ≠ 515) _ he rfl
      rw [fcirc_a hr.1 hr.2]; exact q5.1 f r 2 j he (j2 hj)
    · have hr : r ≠ 514 ∧ r ≠ 515 := (by decide : ∀ e ∈ etab, e.2.2 = 3 → e.2.1 ≠ 514 ∧ e.2.1 ≠ 515) _ he rfl
      rw [fcirc_a hr.1 hr.2]; exact q5.1 f r 3 j he (i3 hj)
  · rw [fcirc_s (by decide)]; exact q5.2.1
  · rw [fcirc_s (by decide)]; exact q5.2.2.1
  · rw [fcirc_a (by decide) (by decide)]
    exact q5.2.2.2 i' b (by rw [← eP]; exact hi') hb
  · rw [fcirc_a (by decide) (by decide)] at hd
    rw [fcirc_a (by decide) (by decide), fcirc_a (by decide) (by decide), fcirc_a (by decide) (by decide), eP]
    exact q6 i' (by rw [← eP]; exact hi') hd
  · rw [if_neg (by omega), eP]; exact h0
  · rw [if_neg (by omega), eC, h1, List.range_succ, List.map_append]
    congr 1
    · refine List.map_congr_left fun k hk => ?_
      have hk := List.mem_range.mp hk
      exact (Gc_C (by omega)).symm
    · show [q] = [(Gcirc G (nC S) q a b).C (nC S)]
      rw [Gc_Ce]
  · rw [eC] at hc'
    have e0 : ∀ c, cLst (Gcirc G (nC S) q a b) (fcirc S x y) c = cLst G S c := fun c => by unfold cLst; rw [fcirc_m]; rfl
    rw [e0]
    by_cases e : c' = nC S
    · subst e
      rw [if_pos (Or.inl rfl), if_pos (Or.inr rfl), Gc_Oe]
      refine ⟨?_, rfl⟩
      unfold cLst mn
      rw [(hZ _ (Nat.le_refl _)).2.1]; rfl
    · rw [if_neg (by omega), if_neg (by omega), Gc_O e]; exact h2 c' (by omega)
  · rw [eC] at hc'
    have e0 : cLst (Gcirc G (nC S) q a b) (fcirc S x y) c' = cLst G S c' := by unfold cLst; rw [fcirc_m]; rfl
    rw [e0, fcirc_m]
    by_cases e : c' = nC S
    · subst e
      rw [Gc_Oe]
      refine ⟨fun _ => rfl, fun hy => ?_⟩
      have := hy.1
      rw [fcirc_a (by decide) (by decide), (hZ _ (Nat.le_refl _)).2.2.2.2] at this
      exact absurd this (by decide)
    · rw [Gc_O e]
      have ho : hasO (fcirc S x y) c' ↔ hasO S c' := by
        unfold hasO; rw [fcirc_b e, fcirc_b e]
      rw [ho]
      obtain ⟨o1, o2⟩ := hO c' (by omega)
      refine ⟨o1, fun hy => ?_⟩
      obtain ⟨p1, p2, p3⟩ := o2 hy
      refine ⟨p1, p2, fun k hk => ?_⟩
      rw [fcirc_a (by decide) (by decide)]; exact p3 k hk
/-- what circle answers and does -/
def I_circle (S : MS) (x1 x2 : Int32) (r : Int32) (S' : MS) : Prop :=
  (S' = S.setS 500 1 ∧ ((x1 < 1 ∨ ¬ x1 ≤ 1000) ∨ (x2 < 0 ∨ ¬ x2 ≤ 3))) ∨ (S' = S.setS 500 2 ∧ ¬ nC S < 4) ∨
  nC S < 4 ∧ ¬ x1 < 1 ∧ x1 ≤ 1000 ∧ ¬ x2 < 0 ∧ x2 ≤ 3 ∧ r = nI (nC S) ∧ S' = fcirc (S.setS 500 0) x1 x2
theorem o_circle {w : Wd} {G : GH} {S : MS} {x1 x2 : Int32} (h : RC w G S S) (hI : SH S) (hZ : ZC S) : OX w G S (fun Q => wp_L_circle (some G.x) x1 x2 (some G.o) w Q) (fun Q => sp_X4_circle x1 x2 S Q) (I_circle S x1 x2) := by
  have hnc := hI.2.2.2.1
  have er : ∀ k : Int32, k ≠ 0 → ∀ (P : Prop) (v7 : Int32), v7 = (S.setS 500 k).s 500 → (v7 = 0 → P) ∧ (¬ v7 = 0 → (k = 0 → (0 : Int32) = 0) ∧ S.setS 500 k = S.setS 500 k) :=
    fun k hk P v7 h7 => ⟨fun z => absurd (show k = 0 from h7.symm.trans z) hk, fun _ => ⟨fun z => absurd z hk, rfl⟩⟩
  by_cases hr : x1 < (1 : Int32) ∨ ¬ x1 ≤ 1000
  · refine ⟨1, 0, S.setS 500 1, rfl, Or.inl ⟨rfl, Or.inl hr⟩, fun Q hQ => ?_, ?_⟩
    · exact ⟨G.x, rfl, h.kx, k_range (fun a b => (hr.elim (fun z => a z) (fun z => z b)).elim) (fun _ => Or.inl ⟨rfl, hQ w G rfl rfl rfl h.thrown (fun z => by cases z)⟩)⟩
    · refine m_in_n (hr.imp_right i_le) ⟨fun y S5 => y = 1 ∧ S5 = S, fun y S5 hy S6 h6 v7 h7 => ?_, fun S20 => S20 = S, fun S20 hs => ⟨rfl, hs⟩, fun _ => rfl, fun z => absurd rfl z⟩
      obtain ⟨rfl, rfl⟩ := hy
      subst h6
      exact er 1 (by decide) _ _ h7
  have r1 : ¬ x1 < (1 : Int32) := fun z => hr (Or.inl z)
  have r2 : x1 ≤ 1000 := Classical.byContradiction fun z => hr (Or.inr z)
  by_cases hr' : x2 < (0 : Int32) ∨ ¬ x2 ≤ 3
  · refine ⟨1, 0, S.setS 500 1, rfl, Or.inl ⟨rfl, Or.inr hr'⟩, fun Q hQ => ?_, ?_⟩
    · exact ⟨G.x, rfl, h.kx, k_range (fun _ _ => k_range (fun a b => (hr'.elim (fun z => a z) (fun z => z b)).elim) (fun _ => Or.inl ⟨rfl, hQ w G rfl rfl rfl h.thrown (fun z => by cases z)⟩)) (fun z => absurd z hr)⟩
    · refine m_in_y r1 (i_nlt r2) ⟨fun y S5 => y = 1 ∧ S5 = S, fun y S5 hy S6 h6 v7 h7 => ?_, fun S20 => S20 = S, fun S20 hs => ⟨rfl, hs⟩, fun z => absurd z (by decide), fun _ => m_in_n (hr'.imp_right i_le) ⟨fun z => absurd rfl z, fun _ => rfl⟩⟩
      obtain ⟨rfl, rfl⟩ := hy
      subst h6
      exact er 1 (by decide) _ _ h7
  have r3 : ¬ x2 < (0 : Int32) := fun z => hr' (Or.inl z)
  have r4 : x2 ≤ 3 := Classical.byContradiction fun z => hr' (Or.inr z)
  have lt4 : nI (nC S) < 4 ↔ nC S < 4 := nI_ltI (b := 4) (by omega) (by decide)
  have eq4 : nI (nC S) = 4 ↔ nC S = 4 := nI_eq (b := 4) (by omega) (by decide)
  have gsz : ∀ {Q : Int32 → Wd → Prop}, Q (nI (nC S)) w → w.K G.x = 4 ∧ ∀ z : Option Nat, z = w.R 401 G.x → ∃ a, z = some a ∧ w.K a = 6 ∧ wp_Jx4a65c_size_8abf5 a w Q := fun hq =>
    ⟨h.kx, fun z hz => ⟨G.li 1, hz.trans h.2.2.1.2.2.1, h.lC.1, s_size h.lC (by rw [map_len]; exact hq)⟩⟩
  by_cases hb : nC S < 4
  · obtain ⟨T, hT⟩ : ∃ T, T = S.setS 500 0 := ⟨_, rfl⟩
    have N : Nm S T := by rw [hT]; exact Nm.rf.ss (by decide)
    have hIT := N.sh hI
    have enT : nC T = nC S := N.c
    have hZT : ZC T := by rw [hT]; exact hZ
    have hthr : (fcirc T x1 x2).s 500 = 0 := by rw [fcirc_s (by decide), hT]; rfl
    refine ⟨0, nI (nC S), fcirc T x1 x2, hthr, Or.inr (Or.inr ⟨hb, r1, r2, r3, r4, rfl, by rw [hT]⟩), fun Q hQ => ?_, ?_⟩
    · refine ⟨G.x, rfl, h.kx, k_range (fun _ _ => k_range (fun _ _ => gsz ⟨fun _ => ⟨h.kx, fun z7 h7 q hq w9 h9 => ?_⟩, fun z => absurd (lt4.mpr hb) z⟩) (fun z => absurd z hr')) (fun z => absurd z hr)⟩
      have k9 : w9.K q = 1 := by rw [h9]; exact vu_eq
      refine ⟨k9, fun w1 h1 => ⟨by rw [h1]; exact k9, fun w2 h2 a ha w4 h4 => ?_⟩⟩
      have F2 : FrZ w w2 := by rw [h2, h1, h9]; exact ((FrZ.rf.nw hq).sI hq).sI hq
      have k2 : w2.K q = 1 := by rw [h2, h1]; exact k9
      have A2 : ALs w2 := als_Z h.als F2 (fun b hb => by
        by_cases eb : b = q
        · rw [eb, k2] at hb; cases hb
        · rw [h2, h1, h9] at hb; rw [← hb]; exact (vu_ne eb).symm)
      rw [h4]
      refine s_init A2 ha (fun w5 F5 K5 A5 L5 => ?_)
      have F5w : FrZ w w5 := F2.trans F5.toZ
      have nqa : q ≠ a := fun e => by rw [← e, k2] at ha; cases ha
      have k5 : w5.K q = 1 := by rw [(F5.2 q nqa).1]; exact k2
      refine ⟨k5, fun w6 h6 b hb' w8 h8 => ?_⟩
      have k6 : w6.K q = 1 := by rw [h6]; exact k5
      have F6w : FrZ w w6 := by rw [h6]; exact F5w.sR hq
      have A6 : ALs w6 := by rw [h6]; exact A5.setR (by decide)
      have L6 : Ls w6 a [] := by rw [h6]; exact L5.setR (by decide)
      rw [h8]
      refine s_init A6 hb' (fun w9' F9 K9 A9 L9 => ?_)
      have nqb : q ≠ b := fun e => by rw [← e, k6] at hb'; cases hb'
      have nab : a ≠ b := fun e => by rw [← e, L6.1] at hb'; cases hb'
      have k9' : w9'.K q = 1 := by rw [(F9.2 q nqb).1]; exact k6
      refine ⟨k9', fun w10 h10 => ?_⟩
      have F10 : FrZ w w10 := by rw [h10]; exact (F6w.trans F9.toZ).sR hq
      have A10 : ALs w10 := by rw [h10]; exact A9.setR (by decide)
      have La : Ls w10 a [] := by rw [h10]; exact (L6.frZ A6 F9.toZ).setR (by decide)
      have Lb : Ls w10 b [] := by rw [h10]; exact L9.setR (by decide)
      have k10 : w10.K q = 1 := by rw [h10]; exact k9'
      have Iq : ∀ f, w10.I f q = w2.I f q := fun f => by
        rw [h10]
        exact (((F9.2 q nqb).2.2.2.2.2 f).1).trans (by rw [h6]; exact ((F5.2 q nqa).2.2.2.2.2 f).1)
      have R2 : w10.R 102 q = some a := by
        rw [h10, R_f (by decide), ((F9.2 q nqb).2.2.2.2.2 102).2, h6, R_e]
      have R3 : w10.R 103 q = some b := by rw [h10, R_e]
      have f100 : w10.I 100 q = x1 := by rw [Iq, h2, I_f (by decide), h1, I_e]
      have f101 : w10.I 101 q = x2 := by rw [Iq, h2, I_e]
      have fz : ∀ f, f ≠ 100 → f ≠ 101 → w10.I f q = 0 := fun f a b => by
        rw [Iq, h2, I_f b, h1, I_f a, h9]; exact if_pos rfl
      have q10 : RC w10 G T S := by rw [hT]; exact RC.thrown (h.frZ F10 A10)
      rw [h.2.2.1.2.2.1] at h7
      refine ⟨_, h7, q10.lC.1, s_add A10 q10.lC (Or.inl k10) (by rw [map_len, enT]; omega) (fun w12 f12 a12 s12 => ?_)⟩
      have c12 := q10.toC.list (n := 1) (by omega) f12 a12 s12
      have nl : ∀ m, m < 2 + 2 * nC S → w.K (G.li m) ≠ 0 := fun m hm => by
        rw [(h.toC.2.2.1.2.2.2.1 m hm).1]; decide
      have w2k : ∀ m, m < 2 + 2 * nC S → w2.K (G.li m) ≠ 0 := fun m hm => by rw [(F2 _ (nl m hm)).1]; exact nl m hm
      have w6k : ∀ m, m < 2 + 2 * nC S → w6.K (G.li m) ≠ 0 := fun m hm => by rw [(F6w _ (nl m hm)).1]; exact nl m hm
      have nqe : q ≠ G.li 1 := fun e => nl 1 (by omega) (by rw [← e]; exact hq)
      have nae : ∀ m, m < 2 + 2 * nC S → G.li m ≠ a ∧ G.li m ≠ b := fun m hm => ⟨k0_ne ha (w2k m hm), k0_ne hb' (w6k m hm)⟩
      have q12 : RC w12 (Gcirc G (nC T) q a b) (fcirc T x1 x2) S := by
        refine c12.circ hIT q10.ro (by rw [enT]; exact hb) hZT (by rw [(f12.1 q (by rw [k10]; decide)).1]; exact k10) (by rw [(f12.2.2.1 102 q nqe).2]; exact R2) (by rw [(f12.2.2.1 103 q nqe).2]; exact R3) (La.kept A10 f12 (fun e => (nae 1 (by omega)).1 e.symm) q10.lC.1) (Lb.kept A10 f12 (fun e => (nae 1 (by omega)).2 e.symm) q10.lC.1) (by rw [(f12.2.2.1 100 q nqe).1]; exact f100) (by rw [(f12.2.2.1 101 q nqe).1]; exact f101) (fun f a b => by rw [(f12.2.2.1 f q nqe).1]; exact fz f a b) (fun c hc => ?_) (fun m hm => nae m (by rw [← enT]; exact hm)) nab ?_ ?_ (fun c' hc' => ⟨?_, ?_⟩)
        · rw [enT] at hc
          exact k0_ne hq (by rw [h.kC hc]; decide)
        · rw [if_neg (by omega)]; rfl
        · rw [if_pos rfl]
        · rw [if_neg (by omega), stdC_p]
        · rw [if_neg (by omega), stdC_o]
      refine ⟨q12.kx, fun z14 h14 => ⟨_, h14.trans q12.2.2.1.2.2.1, q12.lC.1, s_size q12.lC (fun v18 h18 => ?_)⟩⟩
      rw [map_len, fcirc_c (by rw [enT]; omega), nI_pred, enT] at h18
      rw [h18]
      exact out_ok (G := Gcirc G (nC T) q a b) q12 (fun w1 q' r => hQ w1 (Gcirc G (nC T) q a b) rfl rfl rfl q' (fun _ => r))
    · refine m_in_y r1 (i_nlt r2) ⟨fun y S5 => y = 0 ∧ S5 = S, fun y S5 hy S6 h6 v7 h7 => ?_, fun S20 => False, fun S20 hs => hs.elim, fun z => absurd z (by decide), fun _ => m_in_y r3 (i_nlt r4) ⟨fun _ v23 h23 => ⟨fun _ => ⟨rfl, rfl⟩, fun z => ?_⟩, fun z => absurd z (by decide)⟩⟩
      · obtain ⟨rfl, rfl⟩ := hy
        rw [← hT] at h6
        rw [h6] at h7 ⊢
        have h7 : v7 = 0 := by rw [h7, hT]; rfl
        refine ⟨fun _ v8 h8 => ?_, fun z => absurd h7 z⟩
        have e8 : v8 = nI (nC T) := h8.trans hIT.2.2.1
        refine ⟨_, e8, by rw [enT]; exact hb, fun S10 h10 v11 h11 => ?_⟩
        have e11 : v11 = nI (nC T) := by rw [h11, h10, setA_s]; exact hIT.2.2.1
        refine ⟨_, e11, by rw [enT]; exact hb, fun S13 h13 v14 h14 v15 h15 S16 h16 v17 h17 v18 h18 => ?_⟩
        have e14 : v14 = nI (nC T) := by rw [h14, h13, setA_s, h10, setA_s]; exact hIT.2.2.1
        have e16 : S16 = fcirc T x1 x2 := by rw [h16, h15, e14, nI_1, h13, h10]; rfl
        refine ⟨fun _ => ?_, e16⟩
        rw [h18, h17, h16, s_e, h15, e14, nI_1, nI_pred, enT]
      · have h23 : v23 = nI (nC S) := h23.trans hI.2.2.1
        rw [h23, eq4] at z; omega
  · have h4 : nC S = 4 := by omega
    refine ⟨2, 0, S.setS 500 2, rfl, Or.inr (Or.inl ⟨rfl, hb⟩), fun Q hQ => ?_, ?_⟩
    · refine ⟨G.x, rfl, h.kx, k_range (fun _ _ => k_range (fun _ _ => gsz ⟨fun z => absurd (lt4.mp z) hb, fun z => Or.inr ⟨rfl, hQ w G rfl rfl rfl h.thrown (fun z => by cases z)⟩⟩) (fun z => absurd z hr')) (fun z => absurd z hr)⟩
    · refine m_in_y r1 (i_nlt r2) ⟨fun y S5 => y = 2 ∧ S5 = S, fun y S5 hy S6 h6 v7 h7 => ?_, fun S20 => False, fun S20 hs => hs.elim, fun z => absurd z (by decide), fun _ => m_in_y r3 (i_nlt r4) ⟨fun _ v23 h23 => ⟨fun z => ?_, fun z => ⟨rfl, rfl⟩⟩, fun z => absurd z (by decide)⟩⟩
      · obtain ⟨rfl, rfl⟩ := hy
        subst h6
        exact er 2 (by decide) _ _ h7
      · exact absurd (by rw [h23.trans hI.2.2.1, h4]; rfl) z
