-- ===== entering, on both sides
theorem als_Z {w w1 : Wd} (hA : ALs w) (hF : FrZ w w1) (h6 : ∀ b, w1.K b = 6 → w.K b = 6) : ALs w1 := by
  intro a ha
  have ha0 := h6 a ha
  obtain ⟨d, g1, g2, g3⟩ := hA a ha0
  have hFa := hF a (by rw [ha0]; decide)
  have hd : w.K d ≠ 0 := by rcases g3 with g | g <;> rw [g.1] <;> decide
  have hFd := hF d hd
  refine ⟨d, by rw [(hFa.2.2.2.2.2 601).2]; exact g1, by rw [hFd.2.1]; exact g2, ?_⟩
  rw [hFd.1, hFd.2.1]
  refine g3.imp_right fun g => ⟨g.1, g.2.1, fun b hb hbd => ?_⟩
  have hb0 := h6 b hb
  rw [((hF b (by rw [hb0]; decide)).2.2.2.2.2 601).2] at hbd
  exact g.2.2 b hb0 hbd
theorem k0_ne {w : Wd} {q b : Nat} (hq : w.K q = 0) (hb : w.K b ≠ 0) : b ≠ q := fun e => hb (by rw [e]; exact hq)
theorem FrZ.rf {w : Wd} : FrZ w w := fun _ _ => ⟨rfl, rfl, rfl, rfl, rfl, fun _ => ⟨rfl, rfl⟩⟩
theorem FrZ.nw {w w1 : Wd} {q k : Nat} (h : FrZ w w1) (hq : w1.K q = 0) : FrZ w (w1.new k q) := fun b hb => by
  have h1 := h b hb
  have hne : b ≠ q := k0_ne hq (by rw [h1.1]; exact hb)
  exact ⟨(vu_ne hne).trans h1.1, h1.2.1, h1.2.2.1, h1.2.2.2.1, h1.2.2.2.2.1, fun f => ⟨(if_neg hne).trans (h1.2.2.2.2.2 f).1, (if_neg hne).trans (h1.2.2.2.2.2 f).2⟩⟩
theorem FrZ.nA {w w1 : Wd} {q k n : Nat} (h : FrZ w w1) (hq : w1.K q = 0) : FrZ w (w1.newA k q n) := fun b hb => by
  have h1 := h b hb
  have hne : b ≠ q := k0_ne hq (by rw [h1.1]; exact hb)
  exact ⟨(vu_ne hne).trans h1.1, (vu_ne hne).trans h1.2.1, (funext fun j => if_neg hne : (fun j => if b = q then (0 : Int32) else w1.A b j) = w1.A b).trans h1.2.2.1, (funext fun j => if_neg hne : (fun j => if b = q then (0 : Int64) else w1.J b j) = w1.J b).trans h1.2.2.2.1, (funext fun j => if_neg hne : (fun j => if b = q then none else w1.O b j) = w1.O b).trans h1.2.2.2.2.1, h1.2.2.2.2.2⟩
theorem FrZ.sI {w w1 : Wd} {q f : Nat} {v : Int32} (h : FrZ w w1) (hq : w.K q = 0) : FrZ w (w1.setI f q v) := fun b hb => by
  have h1 := h b hb
  have hne : b ≠ q := k0_ne hq hb
  exact ⟨h1.1, h1.2.1, h1.2.2.1, h1.2.2.2.1, h1.2.2.2.2.1, fun g => ⟨(up2_ne (fun z => hne z.2)).trans (h1.2.2.2.2.2 g).1, (h1.2.2.2.2.2 g).2⟩⟩
theorem FrZ.sR {w w1 : Wd} {q f : Nat} {v : Option Nat} (h : FrZ w w1) (hq : w.K q = 0) : FrZ w (w1.setR f q v) := fun b hb => by
  have h1 := h b hb
  have hne : b ≠ q := k0_ne hq hb
  exact ⟨h1.1, h1.2.1, h1.2.2.1, h1.2.2.2.1, h1.2.2.2.2.1, fun g => ⟨(h1.2.2.2.2.2 g).1, (up2_ne (fun z => hne z.2)).trans (h1.2.2.2.2.2 g).2⟩⟩
def fent (S : MS) (c i : Nat) : MS := (((((((S.setA 521 (10 * c + mn S c) (nI i)).setA 522 (10 * c + mn S c) 0).setA 523 (10 * c + mn S c) 0).setA 524 (10 * c + mn S c) 0).setA 525 (10 * c + mn S c) 0).setA 526 (10 * c + mn S c) (-1)).setA 527 (10 * c + mn S c) 0).setA 517 c (nI (mn S c + 1))
theorem fent_new {S : MS} {c i r : Nat} (hr : r = 522 ∨ r = 523 ∨ r = 524 ∨ r = 525 ∨ r = 527) : (fent S c i).a r (10 * c + mn S c) = 0 := by
  rcases hr with e | e | e | e | e <;> subst e <;> simp [fent, a_if]
theorem fent_x {S : MS} {c i r x : Nat} (h7 : r ≠ 517) (hx : x ≠ 10 * c + mn S c) : (fent S c i).a r x = S.a r x := by
  unfold fent
  rw [a_f h7, a_b hx, a_b hx, a_b hx, a_b hx, a_b hx, a_b hx, a_b hx]
theorem fent_o {S : MS} {c i r x : Nat} (h7 : r ≠ 517) (hr : ¬ r7 r) : (fent S c i).a r x = S.a r x := by
  unfold r7 at hr
  unfold fent
  rw [a_f h7, a_f (by omega), a_f (by omega), a_f (by omega), a_f (by omega), a_f (by omega), a_f (by omega), a_f (by omega)]
theorem setA_s {S : MS} {r j f : Nat} {v : Int32} : (S.setA r j v).s f = S.s f := rfl
theorem fent_s {S : MS} {c i f : Nat} : (fent S c i).s f = S.s f := by
  unfold fent
  rw [setA_s, setA_s, setA_s, setA_s, setA_s, setA_s, setA_s, setA_s]
theorem fent_p {S : MS} {c i : Nat} : nP (fent S c i) = nP S ∧ nC (fent S c i) = nC S := by
  unfold nP nC; rw [fent_s, fent_s]; exact ⟨rfl, rfl⟩
theorem fent_w {S : MS} {c i x : Nat} (hi : i < 16) : wh (fent S c i) x = if x = 10 * c + mn S c then i else wh S x := by
  by_cases e : x = 10 * c + mn S c
  · rw [if_pos e, e]
    have : (fent S c i).a 521 (10 * c + mn S c) = nI i := by simp [fent, a_if]
    unfold wh; rw [this, nI_clamp (by omega)]
  · rw [if_neg e]; unfold wh; rw [fent_x (by decide) e]
theorem fent_m {S : MS} {c i x : Nat} (hm : mn S c ≤ 10) : mn (fent S c i) x = if x = c then mn S c + 1 else mn S x := by
  by_cases e : x = c
  · rw [if_pos e, e]
    have : (fent S c i).a 517 c = nI (mn S c + 1) := a_e
    unfold mn at this ⊢; rw [this, nI_clamp (by have : (S.a 517 c).toNatClampNeg ≤ 10 := hm; omega)]
  · rw [if_neg e]; unfold mn
    have : (fent S c i).a 517 x = S.a 517 x := by
      unfold fent
      rw [a_b e, a_f (by decide), a_f (by decide), a_f (by decide), a_f (by decide), a_f (by decide), a_f (by decide), a_f (by decide)]
    rw [this]
theorem fent_i3 {S : MS} {c i x : Nat} (hm : ∀ c', c' < nC S → mn S c' ≤ 10) (hc : c < nC S) (hm1 : mn S c < 10) (hx : inr 3 x (fent S c i)) : x = 10 * c + mn S c ∨ (inr 3 x S ∧ x ≠ 10 * c + mn S c) := by
  obtain ⟨c', k, rfl, hc', hk⟩ := hx
  rw [fent_p.2] at hc'
  rw [fent_m (hm c hc)] at hk
  have m2 := hm c' hc'
  by_cases e : c' = c
  · subst e
    rw [if_pos rfl] at hk
    by_cases e : k = mn S c'
    · exact Or.inl (by rw [e])
    · exact Or.inr ⟨⟨c', k, rfl, hc', by omega⟩, by omega⟩
  · rw [if_neg e] at hk
    exact Or.inr ⟨⟨c', k, rfl, hc', hk⟩, by omega⟩
def Gent (G : GH) (j q : Nat) : GH := (G.x, G.li, G.P, G.T, G.C, fun x => if x = j then q else G.L x, G.O, G.tn, G.mo, G.ma, G.o)
theorem Gent_n {G : GH} {j q x : Nat} (h : x ≠ j) : (Gent G j q).L x = G.L x := if_neg h
theorem Gent_e {G : GH} {j q : Nat} : (Gent G j q).L j = q := if_pos rfl
theorem et_3 : ∀ e ∈ etab, e.2.2 = 3 → e.2.1 = 522 ∨ e.2.1 = 523 ∨ e.2.1 = 524 ∨ e.2.1 = 525 ∨ e.2.1 = 527 := by decide
theorem cL_ent {G : GH} {S : MS} {c i q c' : Nat} (hm : ∀ c', c' < nC S → mn S c' ≤ 10) (hc : c < nC S) (hm1 : mn S c < 10) (hc' : c' < nC S) : cLst (Gent G (10 * c + mn S c) q) (fent S c i) c' = if c' = c then cLst G S c ++ [q] else cLst G S c' := by
  unfold cLst
  rw [fent_m (hm c hc)]
  by_cases e : c' = c
  · subst e
    rw [if_pos rfl, if_pos rfl, List.range_succ, List.map_append]
    congr 1
    · refine List.map_congr_left fun k hk => ?_
      have hk := List.mem_range.mp hk
      exact Gent_n (by omega)
    · show [(Gent G (10 * c' + mn S c') q).L (10 * c' + mn S c')] = [q]
      rw [Gent_e]
  · rw [if_neg e, if_neg e]
    refine List.map_congr_left fun k hk => ?_
    have hk := List.mem_range.mp hk
    have := hm c' hc'
    exact Gent_n (by omega)
theorem RCc.enter {w : Wd} {G : GH} {S S0 : MS} {cont : Nat → List Nat} {c i q : Nat} (h : RCc w G S S0 cont) (hI : SH S) (hO : RO G S) (hc : c < nC S) (hm1 : mn S c < 10) (hs : S.a 520 c = 0) (hi : i < nP S) (hk : w.K q = 3) (hr : w.R 300 q = some (G.P i)) (hz : ∀ f, w.I f q = 0) (hn : ∀ x, inr 3 x S → G.L x ≠ q) (h0 : cont 0 = (List.range (nP S)).map G.P) (h1 : cont 1 = (List.range (nC S)).map G.C) (h2 : ∀ c', c' < nC S → cont (2 + 2 * c') = (if c' = c then cLst G S c ++ [q] else cLst G S c') ∧ cont (3 + 2 * c') = G.O c') : RC w (Gent G (10 * c + mn S c) q) (fent S c i) S0 := by
  have hm : ∀ c', c' < nC S → mn S c' ≤ 10 := fun c' hc' => (hI.2.2.2.2 c' hc').2.1
  have hi16 : i < 16 := by have := hI.2.1; omega
  obtain ⟨q1, q2, ⟨k1, k2, k3, k4, k6, k7, k8, k9⟩, q4, q5, q6, q7⟩ := h
  have i3 : ∀ {x}, inr 3 x (fent S c i) → x = 10 * c + mn S c ∨ (inr 3 x S ∧ x ≠ 10 * c + mn S c) := fun hx => fent_i3 hm hc hm1 hx
  have n7 : ∀ r, r < 521 ∨ 527 < r → ¬ r7 r := fun r hr => by unfold r7; omega
  have eP : nP (fent S c i) = nP S := fent_p.1
  have eC : nC (fent S c i) = nC S := fent_p.2
  have j1 : ∀ {j}, inr 1 j (fent S c i) → j < nC S := fun hj => by rw [← eC]; exact hj
  have j2 : ∀ {j}, inr 2 j (fent S c i) → j < nP S := fun hj => by rw [← eP]; exact hj
  refine RCc.toR (cont := cont) ⟨q1, q2, ⟨k1, k2, k3, fun n hn => k4 n (by rw [← eC]; exact hn), fun k j a b hj => ?_, fun i' hi' => k7 i' (by rw [← eP]; exact hi'), fun c' hc' => k8 c' (by rw [← eC]; exact hc'), fun j hj => ?_⟩, ⟨fun k j j' a b hj hj' e => ?_, fun i j hi hj => q4.2.1 i j (by rw [← eP]; exact hi) (by rw [← eP]; exact hj), fun i' hi' => q4.2.2.1 i' (by rw [← eP]; exact hi'), fun a b ha hb => q4.2.2.2 a b (by rw [← eC]; exact ha) (by rw [← eC]; exact hb)⟩, ⟨fun f r k j he hj => ?_, ?_, ?_, fun i' b hi' hb => ?_⟩, fun i' hi' hd => ?_, q7⟩ (by rw [eP]; exact h0) (by rw [eC]; exact h1) (fun c' hc' => ?_) (fun c' hc' => ?_)
  · rcases k123 a b with e | e | e <;> subst e
    · exact k6 1 j (by decide) (by decide) (j1 hj)
    · exact k6 2 j (by decide) (by decide) (j2 hj)
    · show w.K ((Gent G (10 * c + mn S c) q).L j) = 3
      rcases i3 hj with e | ⟨hj, e⟩
      · rw [e, Gent_e]; exact hk
      · rw [Gent_n e]; exact k6 3 _ (by decide) (by decide) hj
  · rw [fent_w hi16]
    rcases i3 hj with e | ⟨hj, e⟩
    · rw [if_pos e, e, Gent_e]; exact hr
    · rw [if_neg e, Gent_n e]; exact k9 _ hj
  · rcases k123 a b with e1 | e1 | e1 <;> subst e1
    · exact q4.1 1 j j' (by decide) (by decide) (j1 hj) (j1 hj') e
    · exact q4.1 2 j j' (by decide) (by decide) (j2 hj) (j2 hj') e
    · have e : (Gent G (10 * c + mn S c) q).L j = (Gent G (10 * c + mn S c) q).L j' := e
      rcases i3 hj with e1 | ⟨hj, e1⟩ <;> rcases i3 hj' with e2 | ⟨hj', e2⟩
      · rw [e1, e2]
      · rw [e1, Gent_e, Gent_n e2] at e; exact absurd e.symm (hn _ hj')
      · rw [e2, Gent_e, Gent_n e1] at e; exact absurd e (hn _ hj)
      · rw [Gent_n e1, Gent_n e2] at e; exact q4.1 3 j j' (by decide) (by decide) hj hj' e
  · have er := et_r _ he
    have eo := (et_o _ he).2.2.2.2.2.2.2.2.2.2
    rcases k123 eo.1 eo.2 with e1 | e1 | e1 <;> simp only at e1 <;> subst e1
    · have er := er.2 (show (1 : Nat) ≠ 3 by decide)
      rw [fent_o er.2 er.1]
      exact q5.1 f r 1 j he (j1 hj)
    · have er := er.2 (show (2 : Nat) ≠ 3 by decide)
      rw [fent_o er.2 er.1]
      exact q5.1 f r 2 j he (j2 hj)
    · show w.I f ((Gent G (10 * c + mn S c) q).L j) = _
      rcases i3 hj with e | ⟨hj, e⟩
      · rw [e, Gent_e, hz, fent_new (et_3 _ he rfl)]
      · rw [Gent_n e, fent_x (by have := er.1 rfl; simp only at this; omega) e]; exact q5.1 f r 3 j he hj
  · rw [fent_s]; exact q5.2.1
  · rw [fent_s]; exact q5.2.2.1
  · rw [fent_o (by decide) (n7 _ (by decide))]
    exact q5.2.2.2 i' b (by rw [← eP]; exact hi') hb
  · rw [fent_o (by decide) (n7 _ (by decide))] at hd
    rw [fent_o (by decide) (n7 _ (by decide)), fent_o (by decide) (n7 _ (by decide)), fent_o (by decide) (n7 _ (by decide)), eP]
    exact q6 i' (by rw [← eP]; exact hi') hd
  · rw [eC] at hc'
    rw [cL_ent hm hc hm1 hc']; exact h2 c' hc'
  · rw [eC] at hc'
    have ho : hasO (fent S c i) c' ↔ hasO S c' := by
      unfold hasO; rw [fent_o (by decide) (n7 _ (by decide)), fent_o (by decide) (n7 _ (by decide))]
    obtain ⟨o1, o2⟩ := hO c' hc'
    rw [ho, cL_ent hm hc hm1 hc', fent_m (hm c hc)]
    refine ⟨o1, fun hy => ?_⟩
    have e : c' ≠ c := fun e => by
      have := hy.1
      rw [e, hs] at this; exact absurd this (by decide)
    obtain ⟨p1, p2, p3⟩ := o2 hy
    rw [if_neg e, if_neg e]
    refine ⟨p1, p2, fun k hk => ?_⟩
    have m2 := hm c' hc'
    have hne : 10 * c' + k ≠ 10 * c + mn S c := by omega
    rw [Gent_n hne, fent_x (by decide) hne]
    exact p3 k hk
/-- OC, with the places of new objects told by the walk -/
def OX (w : Wd) (G : GH) (S : MS) (lw : (Int32 → Wd → Prop) → Prop) (md : (Int32 → MS → Prop) → Prop) (I : Int32 → MS → Prop) : Prop :=
  ∃ k r S', S'.s 500 = k ∧ I r S' ∧ (∀ Q : Int32 → Wd → Prop, (∀ w1 (G' : GH), G'.x = G.x → G'.o = G.o → G'.mo = G.mo → RC w1 G' S' S → (k = 0 → w1.J G.o 0 = r.toInt64) → Q k w1) → lw Q) ∧ md (fun r' S1 => (k = 0 → r' = r) ∧ S1 = S')
theorem OC.x {w : Wd} {G : GH} {S : MS} {lw : (Int32 → Wd → Prop) → Prop} {md : (Int32 → MS → Prop) → Prop} {I : Int32 → MS → Prop} (h : OC w G S lw md I) : OX w G S lw md I := by
  obtain ⟨k, r, S', G', h1, h2, h3, h4, h5, h6, h7⟩ := h
  exact ⟨k, r, S', h1, h2, fun Q hQ => h6 Q (fun w1 q j => hQ w1 G' h3 h4 h5 q j), h7⟩
/-- what enter answers and does -/
def I_enter (S : MS) (x1 x2 : Int32) (r : Int32) (S' : MS) : Prop :=
  (S' = S.setS 500 1 ∧ ((x1 < 0 ∨ nI (nC S) ≤ x1) ∨ (x2 < 0 ∨ nI (nP S) ≤ x2))) ∨ S' = S.setS 500 2 ∨
  ∃ c i, c < nC S ∧ i < nP S ∧ x1 = nI c ∧ x2 = nI i ∧ S.a 520 c = 0 ∧ mn S c < 10 ∧ S.a 512 i = 0 ∧ (∀ k, k < mn S c → wh S (10 * c + k) ≠ i) ∧ S' = fent (S.setS 500 0) c i
theorem o_enter {w : Wd} {G : GH} {S : MS} {x1 x2 : Int32} (h : RC w G S S) (hI : SH S) (hDI : DI S) : OX w G S (fun Q => wp_L_enter (some G.x) x1 x2 (some G.o) w Q) (fun Q => sp_X4_enter x1 x2 S Q) (I_enter S x1 x2) := by
  have hn := hI.2.1
  have hnc := hI.2.2.2.1
  have er : ∀ k : Int32, k ≠ 0 → ∀ (P : Prop) (v7 : Int32), v7 = (S.setS 500 k).s 500 → (v7 = 0 → P) ∧ (¬ v7 = 0 → (k = 0 → (0 : Int32) = 0) ∧ S.setS 500 k = S.setS 500 k) :=
    fun k hk P v7 h7 => ⟨fun z => absurd (show k = 0 from h7.symm.trans z) hk, fun _ => ⟨fun z => absurd z hk, rfl⟩⟩
  rcases ix_c x1 hnc with hx | ⟨c, hc, rfl⟩
  · refine ⟨1, 0, S.setS 500 1, rfl, Or.inl ⟨rfl, Or.inl hx⟩, fun Q hQ => ?_, ?_⟩
    · exact ⟨G.x, rfl, h.kx, h.kx, k_circleAt h hnc (fun i hi e => absurd hx (by rw [e]; exact ix_cne hi hnc)) (fun _ => Or.inl ⟨rfl, hQ w G rfl rfl rfl h.thrown (fun z => by cases z)⟩)⟩
    · refine m_isCircle_n hI hx ⟨fun y S5 => y = 1 ∧ S5 = S, fun y S5 hy S6 h6 v7 h7 => ?_, fun S42 => S42 = S, fun S42 hs => ⟨rfl, hs⟩, fun _ => rfl, fun z => absurd rfl z⟩
      obtain ⟨rfl, rfl⟩ := hy
      subst h6
      exact er 1 (by decide) _ _ h7
  rcases ix_p x2 hn with hx | ⟨i, hi, rfl⟩
  · refine ⟨1, 0, S.setS 500 1, rfl, Or.inl ⟨rfl, Or.inr hx⟩, fun Q hQ => ?_, ?_⟩
    · exact ⟨G.x, rfl, h.kx, h.kx, k_circleAt h hnc (fun j hj e => ⟨h.kx, k_personAt h hn (fun i hi e => absurd hx (by rw [e]; exact ix_ne hi hn)) (fun _ => Or.inl ⟨rfl, hQ w G rfl rfl rfl h.thrown (fun z => by cases z)⟩)⟩) (fun z => absurd z (ix_cne hc hnc))⟩
    · refine m_isCircle_y hI hc ⟨fun y S5 => y = 1 ∧ S5 = S, fun y S5 hy S6 h6 v7 h7 => ?_, fun S42 => S42 = S, fun S42 hs => ⟨rfl, hs⟩, fun z => absurd z (by decide), fun _ => m_isOne_n hI hx ⟨fun z => absurd rfl z, fun _ => rfl⟩⟩
      obtain ⟨rfl, rfl⟩ := hy
      subst h6
      exact er 1 (by decide) _ _ h7
  obtain ⟨m1, m2, m3⟩ := hI.2.2.2.2 c hc
  have hc4 : c < 4 := by omega
  have hi16 : i < 16 := by omega
  have S00 : (S.setS 500 0).setS 500 0 = S.setS 500 0 := setS_idem
  have S02 : (S.setS 500 0).setS 500 2 = S.setS 500 2 := setS_idem
  have g4 : w.I 104 (G.C c) = S.a 520 c := h.get (k := 1) (f := 104) (r := 520) (by decide) hc
  have g12 : w.I 212 (G.P i) = S.a 512 i := h.get (k := 2) (f := 212) (r := 512) (by decide) hi
  have lt10 : nI (mn S c) < 10 ↔ mn S c < 10 := nI_ltI (b := 10) (by omega) (by decide)
  have eq10 : nI (mn S c) = 10 ↔ mn S c = 10 := nI_eq (b := 10) (by omega) (by decide)
  by_cases hb : ¬ S.a 520 c = 0 ∨ ¬ mn S c < 10 ∨ ¬ S.a 512 i = 0 ∨ ∃ k, k < mn S c ∧ wh S (10 * c + k) = i
  · refine ⟨2, 0, S.setS 500 2, rfl, Or.inr (Or.inl rfl), fun Q hQ => ?_, ?_⟩
    · refine ⟨G.x, rfl, h.kx, h.kx, k_circleAt h hnc (fun j hj e => ⟨h.kx, k_personAt h hn (fun j2 hj2 e2 => ?_) (fun z => absurd z (ix_ne hi hn))⟩) (fun z => absurd z (ix_cne hc hnc))⟩
      obtain rfl : c = j := (nI_eq (by omega) (by omega)).mp e
      obtain rfl : i = j2 := (nI_eq (by omega) (by omega)).mp e2
      have fin : Q 2 w := hQ w G rfl rfl rfl h.thrown (fun z => by cases z)
      refine ⟨_, rfl, h.kC hc, fun v6 h6 => ⟨fun w8 => w8 = w, fun w8 hw => by subst hw; exact Or.inr ⟨rfl, fin⟩, fun _ => rfl, fun z1 => k_sz h hc ⟨fun z2 => ⟨_, rfl, h.kP hi, fun v14 h14 => ⟨fun w16 => w16 = w, fun w16 hw => by subst hw; exact Or.inr ⟨rfl, fin⟩, fun _ => rfl, fun z3 => ⟨h.kC hc, k_placeOf h hI hc hi (fun k' hk' hw' => ⟨fun z => (by cases z), fun _ => rfl⟩) (fun hne => ⟨fun _ => ?_, fun z => absurd rfl z⟩)⟩⟩⟩, fun _ => rfl⟩⟩⟩
      exact (hb.elim (fun q => q (by rw [← g4, ← h6]; exact z1)) (fun q => q.elim (fun q => q (lt10.mp z2)) (fun q => q.elim (fun q => q (by rw [← g12, ← h14]; exact z3)) (fun ⟨k, a, b⟩ => hne k a b)))).elim
    · refine m_isCircle_y hI hc ⟨fun y S5 => y = 0 ∧ S5 = S, fun y S5 hy S6 h6 v7 h7 => ?_, fun S42 => False, fun S42 hs => hs.elim, fun z => absurd z (by decide), fun _ => m_isOne_y hI hi ⟨fun _ => ⟨rfl, rfl⟩, fun z => absurd z (by decide)⟩⟩
      obtain ⟨rfl, rfl⟩ := hy
      subst h6
      refine ⟨fun _ => ⟨c, rfl, hc4, fun v9 h9 => ⟨fun y S12 => y = 2 ∧ S12 = S5.setS 500 0, fun y S12 hy S13 h13 v14 h14 => ?_, fun S41 => S41 = S5.setS 500 0, fun S41 hs => ⟨rfl, hs⟩, fun _ => rfl, fun z1 => ⟨c, rfl, hc4, fun v43 h43 => ⟨fun _ => rfl, fun z2 => m_placeOf (S := S5.setS 500 0) hI hDI hc hi (fun k' hk' hw' => ⟨fun _ => rfl, fun z => absurd (nI_pos' (by have : k' < mn S5 c := hk'; omega)) z⟩) (fun hne => ⟨fun z => absurd z (by decide), fun _ => ⟨i, rfl, hi16, fun v47 h47 => ⟨fun z3 => ?_, fun _ => rfl⟩⟩⟩)⟩⟩⟩⟩, fun z => absurd h7 z⟩
      · obtain ⟨rfl, rfl⟩ := hy
        rw [S02] at h13; subst h13
        exact er 2 (by decide) _ _ h14
      · have h43 : v43 = nI (mn S5 c) := h43.trans m1
        rw [h43, eq10] at z2
        exact (hb.elim (fun q => q (h9.symm.trans z1)) (fun q => q.elim (fun q => q (by omega)) (fun q => q.elim (fun q => q (h47.symm.trans z3)) (fun ⟨k, a, b⟩ => hne k a b)))).elim
  · have b1 : S.a 520 c = 0 := Classical.byContradiction fun z => hb (Or.inl z)
    have b2 : mn S c < 10 := Classical.byContradiction fun z => hb (Or.inr (Or.inl z))
    have b3 : S.a 512 i = 0 := Classical.byContradiction fun z => hb (Or.inr (Or.inr (Or.inl z)))
    have b4 : ∀ k, k < mn S c → wh S (10 * c + k) ≠ i := fun k h1 h2 => hb (Or.inr (Or.inr (Or.inr ⟨k, h1, h2⟩)))
    obtain ⟨T, hT⟩ : ∃ T, T = S.setS 500 0 := ⟨_, rfl⟩
    have N : Nm S T := by rw [hT]; exact Nm.rf.ss (by decide)
    have hIT := N.sh hI
    have hcT : c < nC T := by rw [N.c]; exact hc
    have hiT : i < nP T := by rw [N.p]; exact hi
    have emT : mn T c = mn S c := by rw [N.m]
    have emn : mn (fent T c i) c = mn S c + 1 := by rw [fent_m (by rw [emT]; exact m2), if_pos rfl, emT]
    have sT : T.a 520 c = 0 := by rw [hT]; exact b1
    have hthr : (fent T c i).s 500 = 0 := by rw [fent_s, hT]; rfl
    have e517 : (fent T c i).a 517 c = nI (mn S c + 1) := by rw [← emT]; exact a_e
    refine ⟨0, nI (mn S c + 1), fent T c i, hthr, Or.inr (Or.inr ⟨c, i, hc, hi, rfl, rfl, b1, b2, b3, b4, by rw [hT]⟩), fun Q hQ => ?_, ?_⟩
    · refine ⟨G.x, rfl, h.kx, h.kx, k_circleAt h hnc (fun j hj e => ⟨h.kx, k_personAt h hn (fun j2 hj2 e2 => ?_) (fun z => absurd z (ix_ne hi hn))⟩) (fun z => absurd z (ix_cne hc hnc))⟩
      obtain rfl : c = j := (nI_eq (by omega) (by omega)).mp e
      obtain rfl : i = j2 := (nI_eq (by omega) (by omega)).mp e2
      obtain ⟨l1, l2⟩ := h.lL hc
      refine ⟨_, rfl, h.kC hc, fun v6 h6 => ⟨fun w8 => False, fun w8 hw => hw.elim, fun z => z (by rw [h6, g4]; exact b1), fun _ => k_sz h hc ⟨fun _ => ⟨_, rfl, h.kP hi, fun v14 h14 => ⟨fun w16 => False, fun w16 hw => hw.elim, fun z => z (by rw [h14, g12]; exact b3), fun _ => ⟨h.kC hc, k_placeOf h hI hc hi (fun k' hk' hw' => absurd hw' (b4 k' hk')) (fun _ => ⟨fun _ => ⟨h.kC hc, fun z19 h19 q20 hq20 w21 h21 => ?_⟩, fun z => absurd rfl z⟩)⟩⟩⟩, fun z => absurd (lt10.mpr b2) z⟩⟩⟩
      rw [l1] at h19
      have k21 : w21.K q20 = 3 := by rw [h21]; exact vu_eq
      refine ⟨k21, fun w22 h22 => ?_⟩
      have F22 : FrZ w w22 := by rw [h22, h21]; exact (FrZ.rf.nw hq20).sR hq20
      have k22 : w22.K q20 = 3 := by rw [h22]; exact k21
      have A22 : ALs w22 := als_Z h.als F22 (fun b hb => by
        by_cases eb : b = q20
        · rw [eb, k22] at hb; cases hb
        · rw [h22, h21] at hb; rw [← hb]; exact (vu_ne eb).symm)
      have r22 : w22.R 300 q20 = some (G.P i) := by rw [h22]; exact R_e
      have z22 : ∀ f, w22.I f q20 = 0 := fun f => by rw [h22, h21]; exact if_pos rfl
      have q22 : RC w22 G T S := by rw [hT]; exact RC.thrown (h.frZ F22 A22)
      have hne : ∀ x, inr 3 x S → G.L x ≠ q20 := fun x hx => k0_ne hq20 (by rw [h.kL hx]; decide)
      have ls22 : Ls w22 (G.li (2 + 2 * c)) ((List.range (mn T c)).map (fun k => G.L (10 * c + k))) := (q22.lL hcT).2
      refine ⟨_, h19, ls22.1, s_add A22 ls22 (Or.inr (Or.inr k22)) (by rw [map_len, emT]; omega) (fun w24 f24 a24 s24 => ?_)⟩
      have c24 := q22.toC.list (n := 2 + 2 * c) (by omega) f24 a24 s24
      have hqe : q20 ≠ G.li (2 + 2 * c) := fun e => by have := ls22.1; rw [← e, k22] at this; cases this
      have q24 : RC w24 (Gent G (10 * c + mn T c) q20) (fent T c i) S := by
        refine c24.enter hIT q22.ro hcT (by rw [emT]; exact b2) sT hiT (by rw [(f24.1 q20 (by rw [k22]; decide)).1]; exact k22) (by rw [(f24.2.2.1 300 q20 hqe).2]; exact r22) (fun f => by rw [(f24.2.2.1 f q20 hqe).1]; exact z22 f) (fun x hx => hne x (by rw [hT] at hx; exact hx)) ?_ ?_ (fun c' hc' => ⟨?_, ?_⟩)
        · rw [if_neg (by omega)]; rfl
        · rw [if_neg (by omega)]; rfl
        · by_cases e : c' = c
          · subst e; rw [if_pos rfl, if_pos rfl]; rfl
          · rw [if_neg (by omega), if_neg e, stdC_p]
        · rw [if_neg (by omega), stdC_o]
      have hc24 : c < nC (fent T c i) := by rw [fent_p.2]; exact hcT
      refine k_sz (G := Gent G (10 * c + mn T c) q20) q24 hc24 ?_
      rw [emn]
      exact out_ok (G := Gent G (10 * c + mn T c) q20) q24 (fun w1 q r => hQ w1 (Gent G (10 * c + mn T c) q20) rfl rfl rfl q (fun _ => r))
    · refine m_isCircle_y hI hc ⟨fun y S5 => y = 0 ∧ S5 = S, fun y S5 hy S6 h6 v7 h7 => ?_, fun S42 => False, fun S42 hs => hs.elim, fun z => absurd z (by decide), fun _ => m_isOne_y hI hi ⟨fun _ => ⟨rfl, rfl⟩, fun z => absurd z (by decide)⟩⟩
      obtain ⟨rfl, rfl⟩ := hy
      rw [← hT] at h6
      rw [h6] at h7 ⊢
      have h7 : v7 = 0 := by rw [h7, hT]; rfl
      refine ⟨fun _ => ⟨c, rfl, hc4, fun v9 h9 => ⟨fun y S12 => y = 0 ∧ S12 = T, fun y S12 hy S13 h13 v14 h14 => ?_, fun S41 => False, fun S41 hs => hs.elim, fun z => absurd (h9.trans sT) z, fun z1 => ⟨c, rfl, hc4, fun v43 h43 => ⟨fun z => ?_, fun z2 => m_placeOf hIT (N.di hDI) hcT hiT (fun k' hk' hw' => ?_) (fun hne => ⟨fun z => absurd z (by decide), fun _ => ⟨i, rfl, hi16, fun v47 h47 => ⟨fun z3 => ⟨rfl, rfl⟩, fun z3 => ?_⟩⟩⟩)⟩⟩⟩⟩, fun z => absurd h7 z⟩
      · obtain ⟨rfl, rfl⟩ := hy
        have e13 : S13 = S12 := by rw [h13, hT]; exact S00
        subst e13
        have e14 : v14 = 0 := by rw [h14, hT]; rfl
        refine ⟨fun _ v15 h15 => ⟨c, rfl, hc4, fun v17 h17 v18 h18 => ?_⟩, fun z => absurd e14 z⟩
        have e17 : v17 = nI (mn S13 c) := h17.trans (hIT.2.2.2.2 c hcT).1
        rw [h15, e17, at_ix] at h18
        have hj : 10 * c + mn S13 c < 40 := by rw [emT]; omega
        refine ⟨_, h18, hj, fun S20 h20 => ⟨_, h18, hj, fun S22 h22 => ⟨_, h18, hj, fun S24 h24 => ⟨_, h18, hj, fun S26 h26 => ⟨_, h18, hj, fun S28 h28 => ⟨_, h18, hj, fun S30 h30 => ⟨_, h18, hj, fun S32 h32 => ⟨c, rfl, hc4, fun v34 h34 v35 h35 => ⟨c, rfl, hc4, fun S37 h37 => ⟨c, rfl, hc4, fun v39 h39 => ?_⟩⟩⟩⟩⟩⟩⟩⟩⟩⟩
        have e34 : v34 = nI (mn S13 c) := by
          rw [h34, h32, a_f (by decide), h30, a_f (by decide), h28, a_f (by decide), h26, a_f (by decide), h24, a_f (by decide), h22, a_f (by decide), h20, a_f (by decide)]
          exact (hIT.2.2.2.2 c hcT).1
        have e37 : S37 = fent S13 c i := by
          rw [h37, h35, e34, nI_1, h32, nar0, h30, h28, h26, h24, h22, h20]; rfl
        exact ⟨fun _ => by rw [h39, e37]; exact e517, e37⟩
      · have h43 : v43 = nI (mn S5 c) := by rw [h43, hT]; exact m1
        rw [h43, eq10] at z; omega
      · rw [emT] at hk'; rw [N.w] at hw'
        exact absurd hw' (b4 k' hk')
      · exact absurd (by rw [h47, hT]; exact b3) z3
