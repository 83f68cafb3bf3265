-- ===== the class's objects over the reference's state
def nP (S : MS) : Nat := (S.s 501).toNatClampNeg
def nC (S : MS) : Nat := (S.s 513).toNatClampNeg
def mn (S : MS) (c : Nat) : Nat := (S.a 517 c).toNatClampNeg
def wh (S : MS) (j : Nat) : Nat := (S.a 521 j).toNatClampNeg
/-- where things lie: x, the lists (0 people, 1 circles, 2+2c places of c, 3+2c order of c), persons, their notes, circles, places by 10c+k, orders, turns by place, the reference, its rows, the law's own row -/
def GH : Type := Nat × (Nat → Nat) × (Nat → Nat) × (Nat → Nat) × (Nat → Nat) × (Nat → Nat) × (Nat → List Nat) × (Nat → Nat) × Nat × (Nat → Nat) × Nat
def GH.x (G : GH) : Nat := G.1
def GH.li (G : GH) : Nat → Nat := G.2.1
def GH.P (G : GH) : Nat → Nat := G.2.2.1
def GH.T (G : GH) : Nat → Nat := G.2.2.2.1
def GH.C (G : GH) : Nat → Nat := G.2.2.2.2.1
def GH.L (G : GH) : Nat → Nat := G.2.2.2.2.2.1
def GH.O (G : GH) : Nat → List Nat := G.2.2.2.2.2.2.1
def GH.tn (G : GH) : Nat → Nat := G.2.2.2.2.2.2.2.1
def GH.mo (G : GH) : Nat := G.2.2.2.2.2.2.2.2.1
def GH.ma (G : GH) : Nat → Nat := G.2.2.2.2.2.2.2.2.2.1
def GH.o (G : GH) : Nat := G.2.2.2.2.2.2.2.2.2.2
def inr (k j : Nat) (S : MS) : Prop := match k with
  | 1 => j < nC S
  | 2 => j < nP S
  | _ => ∃ c i, j = 10 * c + i ∧ c < nC S ∧ i < mn S c
def adr (G : GH) (k : Nat) : Nat → Nat := match k with
  | 1 => G.C
  | 2 => G.P
  | _ => G.L
/-- the class's field, the reference's row, the kind -/
def etab : List (Nat × Nat × Nat) := [(100, 514, 1), (101, 515, 1), (104, 520, 1), (105, 516, 1), (106, 518, 1), (107, 519, 1), (201, 502, 2), (202, 503, 2), (204, 504, 2), (205, 505, 2), (206, 506, 2), (210, 510, 2), (211, 511, 2), (212, 512, 2), (301, 522, 3), (302, 523, 3), (303, 524, 3), (304, 525, 3), (305, 527, 3)]
def cLst (G : GH) (S : MS) (c : Nat) : List Nat := (List.range (mn S c)).map (fun k => G.L (10 * c + k))
/-- kinds, pointers and lists -/
def RK (w : Wd) (G : GH) (S : MS) : Prop := w.K G.x = 4 ∧ w.R 400 G.x = some (G.li 0) ∧ w.R 401 G.x = some (G.li 1) ∧ Ls w (G.li 0) ((List.range (nP S)).map G.P) ∧ Ls w (G.li 1) ((List.range (nC S)).map G.C) ∧ (∀ k j, 1 ≤ k → k ≤ 3 → inr k j S → w.K (adr G k j) = k) ∧ (∀ i, i < nP S → w.I 200 (G.P i) = nI i ∧ w.R 203 (G.P i) = some (G.T i) ∧ w.K (G.T i) = 11 ∧ w.N (G.T i) = 3) ∧ (∀ c, c < nC S → w.R 102 (G.C c) = some (G.li (2 + 2 * c)) ∧ w.R 103 (G.C c) = some (G.li (3 + 2 * c)) ∧ Ls w (G.li (2 + 2 * c)) (cLst G S c) ∧ Ls w (G.li (3 + 2 * c)) (G.O c)) ∧ ∀ j, inr 3 j S → w.R 300 (G.L j) = some (G.P (wh S j))
/-- what is apart -/
def RD (G : GH) (S : MS) : Prop := (∀ k j j', 1 ≤ k → k ≤ 3 → inr k j S → inr k j' S → adr G k j = adr G k j' → j = j') ∧ (∀ i j, i < nP S → j < nP S → G.T i = G.T j → i = j) ∧ (∀ i, i < nP S → G.T i ≠ G.mo) ∧ (∀ a b, a < 2 + 2 * nC S → b < 2 + 2 * nC S → G.li a = G.li b → a = b)
/-- values -/
def RE (w : Wd) (G : GH) (S : MS) : Prop := (∀ f r k j, (f, r, k) ∈ etab → inr k j S → w.I f (adr G k j) = S.a r j) ∧ w.I 402 G.x = S.s 528 ∧ w.I 403 G.x = S.s 529 ∧ ∀ i b, i < nP S → b < 3 → w.A (G.T i) b = S.a 530 (16 * b + i)
/-- a loan's own: only while there is one -/
def RLn (w : Wd) (G : GH) (S : MS) : Prop := ∀ i, i < nP S → 0 < S.a 506 i → w.I 207 (G.P i) = S.a 507 i ∧ ∃ a b, a < nP S ∧ b < nP S ∧ S.a 508 i = nI a ∧ S.a 509 i = nI b ∧ w.R 208 (G.P i) = some (G.P a) ∧ w.R 209 (G.P i) = some (G.P b)
/-- orders -/
def hasO (S : MS) (c : Nat) : Prop := S.a 520 c = 1 ∧ S.a 515 c ≤ 1
def RO (G : GH) (S : MS) : Prop := ∀ c, c < nC S → (¬ hasO S c → G.O c = []) ∧ (hasO S c → (∀ a, a ∈ G.O c ↔ a ∈ cLst G S c) ∧ (G.O c).Pairwise (fun a b => G.tn a < G.tn b) ∧ ∀ k, k < mn S c → S.a 526 (10 * c + k) = nI (G.tn (G.L (10 * c + k))) ∧ G.tn (G.L (10 * c + k)) < 64)
def RW (w : Wd) (G : GH) (S : MS) : Prop := RO G S ∧ True ∧ True
def RC (w : Wd) (G : GH) (S S0 : MS) : Prop := RepM w G.mo G.o S0 ∧ ALs w ∧ RK w G S ∧ RD G S ∧ RE w G S ∧ RLn w G S ∧ RW w G S
theorem I_f {w : Wd} {f a g b : Nat} {v : Int32} (h : g ≠ f) : (w.setI f a v).I g b = w.I g b := if_neg (fun z => h z.1)
theorem I_b {w : Wd} {f a g b : Nat} {v : Int32} (h : b ≠ a) : (w.setI f a v).I g b = w.I g b := if_neg (fun z => h z.2)
theorem I_e {w : Wd} {f a : Nat} {v : Int32} : (w.setI f a v).I f a = v := if_pos ⟨rfl, rfl⟩
theorem a_f {S : MS} {r j g i : Nat} {v : Int32} (h : g ≠ r) : (S.setA r j v).a g i = S.a g i := if_neg (fun z => h z.1)
theorem a_b {S : MS} {r j g i : Nat} {v : Int32} (h : i ≠ j) : (S.setA r j v).a g i = S.a g i := if_neg (fun z => h z.2)
theorem a_e {S : MS} {r j : Nat} {v : Int32} : (S.setA r j v).a r j = v := if_pos ⟨rfl, rfl⟩
theorem s_f {S : MS} {f g : Nat} {v : Int32} (h : g ≠ f) : (S.setS f v).s g = S.s g := if_neg h
theorem s_e {S : MS} {f : Nat} {v : Int32} : (S.setS f v).s f = v := if_pos rfl
theorem Ls.setI {w : Wd} {f a b : Nat} {v : Int32} {l : List Nat} (hf : f ≠ 602) (h : Ls w b l) : Ls (w.setI f a v) b l :=
  ⟨h.1, (up2_ne (fun z => hf z.1.symm)).trans h.2.1, h.2.2⟩
theorem RepM.setI {w : Wd} {mo o : Nat} {S0 : MS} {f a : Nat} {v : Int32} (_ : f < 500) (h : RepM w mo o S0) : RepM (w.setI f a v) mo o S0 := h
/-- a class's int field is put that the kinds, pointers and lists don't tell of -/
theorem RK.setI {w : Wd} {G : GH} {S : MS} {f a : Nat} {v : Int32} (hf : f ≠ 602) (hf2 : f ≠ 200) (h : RK w G S) : RK (w.setI f a v) G S :=
  ⟨h.1, h.2.1, h.2.2.1, h.2.2.2.1.setI hf, h.2.2.2.2.1.setI hf, h.2.2.2.2.2.1, fun i hi => ⟨(up2_ne (fun z => hf2 z.1.symm)).trans (h.2.2.2.2.2.2.1 i hi).1, (h.2.2.2.2.2.2.1 i hi).2⟩, fun c hc => ⟨(h.2.2.2.2.2.2.2.1 c hc).1, (h.2.2.2.2.2.2.2.1 c hc).2.1, (h.2.2.2.2.2.2.2.1 c hc).2.2.1.setI hf, (h.2.2.2.2.2.2.2.1 c hc).2.2.2.setI hf⟩, h.2.2.2.2.2.2.2.2⟩
/-- rows of the reference that tell of numbers and places -/
def rowOk (r : Nat) : Prop := r ≠ 517 ∧ r ≠ 521
theorem mn_setA {S : MS} {r j : Nat} {v : Int32} (h : r ≠ 517) : mn (S.setA r j v) = mn S := by
  funext c; unfold mn
  exact congrArg _ (up2_ne (fun z => h z.1.symm))
theorem wh_setA {S : MS} {r j : Nat} {v : Int32} (h : r ≠ 521) : wh (S.setA r j v) = wh S := by
  funext c; unfold wh
  exact congrArg _ (up2_ne (fun z => h z.1.symm))
theorem inr_setA {S : MS} {r j k i : Nat} {v : Int32} (h : r ≠ 517) : inr k i (S.setA r j v) ↔ inr k i S := by
  unfold inr; rw [mn_setA h]; exact Iff.rfl
theorem cLst_setA {G : GH} {S : MS} {r j c : Nat} {v : Int32} (h : r ≠ 517) : cLst G (S.setA r j v) c = cLst G S c := by
  unfold cLst; rw [mn_setA h]
theorem RK.row {w : Wd} {G : GH} {S : MS} {r j : Nat} {v : Int32} (hr : rowOk r) (h : RK w G S) : RK w G (S.setA r j v) := by
  refine ⟨h.1, h.2.1, h.2.2.1, h.2.2.2.1, h.2.2.2.2.1, fun k i h1 h2 hi => h.2.2.2.2.2.1 k i h1 h2 ((inr_setA hr.1).mp hi), h.2.2.2.2.2.2.1, fun c hc => ?_, fun i hi => ?_⟩
  · rw [cLst_setA hr.1]; exact h.2.2.2.2.2.2.2.1 c hc
  · rw [wh_setA hr.2]; exact h.2.2.2.2.2.2.2.2 i ((inr_setA hr.1).mp hi)
theorem RD.row {G : GH} {S : MS} {r j : Nat} {v : Int32} (hr : r ≠ 517) (h : RD G S) : RD G (S.setA r j v) :=
  ⟨fun k i i' h1 h2 hi hi' => h.1 k i i' h1 h2 ((inr_setA hr).mp hi) ((inr_setA hr).mp hi'), h.2.1, h.2.2.1, h.2.2.2⟩
theorem RO.row {G : GH} {S : MS} {r j : Nat} {v : Int32} (hr : r ≠ 517) (h1 : r ≠ 520) (h2 : r ≠ 515) (h3 : r ≠ 526) (h : RO G S) : RO G (S.setA r j v) := by
  intro c hc
  have e1 : hasO (S.setA r j v) c ↔ hasO S c := by
    unfold hasO
    rw [show (S.setA r j v).a 520 c = S.a 520 c from up2_ne (fun z => h1 z.1.symm), show (S.setA r j v).a 515 c = S.a 515 c from up2_ne (fun z => h2 z.1.symm)]
  rw [e1, cLst_setA hr, mn_setA hr]
  refine ⟨(h c hc).1, fun ho => ⟨((h c hc).2 ho).1, ((h c hc).2 ho).2.1, fun k hk => ?_⟩⟩
  rw [show (S.setA r j v).a 526 (10 * c + k) = S.a 526 (10 * c + k) from up2_ne (fun z => h3 z.1.symm)]
  exact ((h c hc).2 ho).2.2 k hk
theorem RW.row {w : Wd} {G : GH} {S : MS} {r j : Nat} {v : Int32} (hr : r ≠ 517) (h1 : r ≠ 520) (h2 : r ≠ 515) (h3 : r ≠ 526) (h : RW w G S) : RW w G (S.setA r j v) := ⟨h.1.row hr h1 h2 h3, h.2⟩
theorem et_f : ∀ e ∈ etab, ∀ e' ∈ etab, e.1 = e'.1 ↔ e.2.1 = e'.2.1 := by decide
theorem et_k : ∀ e ∈ etab, ∀ e' ∈ etab, e.1 = e'.1 → e.2.2 = e'.2.2 := by decide
theorem et_o : ∀ e ∈ etab, e.1 < 400 ∧ e.1 ≠ 200 ∧ e.1 ≠ 207 ∧ e.2.1 ≠ 517 ∧ e.2.1 ≠ 521 ∧ e.2.1 ≠ 526 ∧ e.2.1 ≠ 530 ∧ e.2.1 ≠ 507 ∧ e.2.1 ≠ 508 ∧ e.2.1 ≠ 509 ∧ 1 ≤ e.2.2 ∧ e.2.2 ≤ 3 := by decide
theorem RE.set {w : Wd} {G : GH} {S : MS} {f r k j : Nat} {v : Int32} (he : (f, r, k) ∈ etab) (hj : inr k j S) (hD : RD G S) (h : RE w G S) : RE (w.setI f (adr G k j) v) G (S.setA r j v) := by
  have o := et_o _ he
  refine ⟨fun f' r' k' j' he' hj' => ?_, (up2_ne (fun z => by have := o.1; omega)).trans h.2.1, (up2_ne (fun z => by have := o.1; omega)).trans h.2.2.1, fun i b hi hb => (h.2.2.2 i b hi hb).trans (up2_ne (fun z => o.2.2.2.2.2.2.1 z.1.symm)).symm⟩
  have hj2 := (inr_setA o.2.2.2.1).mp hj'
  have o' := et_o _ he'
  show up2 w.I f (adr G k j) v f' (adr G k' j') = up2 S.2 r j v r' j'
  by_cases ef : f' = f
  · have er : r' = r := (et_f _ he' _ he).mp ef
    have ek : k' = k := et_k _ he' _ he ef
    subst ef er ek
    by_cases ej : j' = j
    · subst ej; rw [up2_eq, up2_eq]
    · rw [up2_ne (fun z => ej (hD.1 k' j' j o'.2.2.2.2.2.2.2.2.2.2.1 o'.2.2.2.2.2.2.2.2.2.2.2 hj2 hj z.2)), up2_ne (fun z => ej z.2)]
      exact h.1 f' r' k' j' he' hj2
  · rw [up2_ne (fun z => ef z.1), up2_ne (fun z => ef ((et_f _ he' _ he).mpr z.1))]
    exact h.1 f' r' k' j' he' hj2
/-- a field of the table is put on both sides; debts, starts and ways by their own lemmas -/
theorem RC.set {w : Wd} {G : GH} {S S0 : MS} {f r k j : Nat} {v : Int32} (h : RC w G S S0) (he : (f, r, k) ∈ etab) (h1 : r ≠ 520) (h2 : r ≠ 515) (h3 : r ≠ 506) (hj : inr k j S) : RC (w.setI f (adr G k j) v) G (S.setA r j v) S0 := by
  have o := et_o _ he
  obtain ⟨q1, q2, q3, q4, q5, q6, q7⟩ := h
  refine ⟨q1.setI (by have := o.1; omega), q2, (q3.setI (by have := o.1; omega) o.2.1).row ⟨o.2.2.2.1, o.2.2.2.2.1⟩, q4.row o.2.2.2.1, q5.set he hj q4, fun i hi hd => ?_, q7.row o.2.2.2.1 h1 h2 o.2.2.2.2.2.1⟩
  have e1 : ∀ g, (g = 506 ∨ g = 507 ∨ g = 508 ∨ g = 509) → (S.setA r j v).a g i = S.a g i := fun g hg => a_f (by have a1 := o.2.2.2.2.2.2.2.1; have a2 := o.2.2.2.2.2.2.2.2.1; have a3 := o.2.2.2.2.2.2.2.2.2.1; simp only at a1 a2 a3; omega)
  rw [e1 506 (by omega)] at hd
  rw [e1 507 (by omega), e1 508 (by omega), e1 509 (by omega)]
  obtain ⟨g1, g2⟩ := q6 i hi hd
  exact ⟨(I_f (fun z => o.2.2.1 z.symm)).trans g1, g2⟩
/-- a debt is put -/
theorem RC.debt {w : Wd} {G : GH} {S S0 : MS} {j : Nat} {v : Int32} (h : RC w G S S0) (hj : j < nP S) (hv : 0 < v → 0 < S.a 506 j ∨ (w.I 207 (G.P j) = S.a 507 j ∧ ∃ a b, a < nP S ∧ b < nP S ∧ S.a 508 j = nI a ∧ S.a 509 j = nI b ∧ w.R 208 (G.P j) = some (G.P a) ∧ w.R 209 (G.P j) = some (G.P b))) : RC (w.setI 206 (G.P j) v) G (S.setA 506 j v) S0 := by
  obtain ⟨q1, q2, q3, q4, q5, q6, q7⟩ := h
  refine ⟨q1.setI (by decide), q2, (q3.setI (by decide) (by decide)).row ⟨by decide, by decide⟩, q4.row (by decide), q5.set (k := 2) (by decide) hj q4, fun i hi hd => ?_, q7.row (by decide) (by decide) (by decide) (by decide)⟩
  have e1 : ∀ g, (g = 507 ∨ g = 508 ∨ g = 509) → (S.setA 506 j v).a g i = S.a g i := fun g hg => a_f (by omega)
  rw [e1 507 (by omega), e1 508 (by omega), e1 509 (by omega)]
  have e2 : (w.setI 206 (G.P j) v).I 207 (G.P i) = w.I 207 (G.P i) := I_f (by decide)
  rw [e2]
  by_cases e : i = j
  · subst e
    have hd' : 0 < v := by rw [show (S.setA 506 i v).a 506 i = v from up2_eq] at hd; exact hd
    rcases hv hd' with hv | hv
    · exact q6 i hi hv
    · exact hv
  · rw [show (S.setA 506 j v).a 506 i = S.a 506 i from up2_ne (fun z => e z.2)] at hd
    exact q6 i hi hd
theorem RC.fund {w : Wd} {G : GH} {S S0 : MS} {v : Int32} (h : RC w G S S0) : RC (w.setI 402 G.x v) G (S.setS 528 v) S0 := by
  obtain ⟨q1, q2, q3, q4, q5, q6, q7⟩ := h
  refine ⟨q1.setI (by decide), q2, q3.setI (by decide) (by decide), q4, ⟨fun f r k j he hj => ?_, I_e.trans s_e.symm, ((I_f (by decide)).trans q5.2.2.1).trans (s_f (by decide)).symm, q5.2.2.2⟩, fun i hi hd => ?_, q7⟩
  · have := (et_o _ he).1
    exact (I_f (by simp only at this; omega)).trans (q5.1 f r k j he hj)
  · obtain ⟨g1, g2⟩ := q6 i hi hd
    exact ⟨(I_f (by decide)).trans g1, g2⟩
theorem RC.earned {w : Wd} {G : GH} {S S0 : MS} {v : Int32} (h : RC w G S S0) : RC (w.setI 403 G.x v) G (S.setS 529 v) S0 := by
  obtain ⟨q1, q2, q3, q4, q5, q6, q7⟩ := h
  refine ⟨q1.setI (by decide), q2, q3.setI (by decide) (by decide), q4, ⟨fun f r k j he hj => ?_, ((I_f (by decide)).trans q5.2.1).trans (s_f (by decide)).symm, I_e.trans s_e.symm, q5.2.2.2⟩, fun i hi hd => ?_, q7⟩
  · have := (et_o _ he).1
    exact (I_f (by simp only at this; omega)).trans (q5.1 f r k j he hj)
  · obtain ⟨g1, g2⟩ := q6 i hi hd
    exact ⟨(I_f (by decide)).trans g1, g2⟩
/-- the reference's 'thrown' is not the class's matter -/
theorem RC.thrown {w : Wd} {G : GH} {S S0 : MS} {v : Int32} (h : RC w G S S0) : RC w G (S.setS 500 v) S0 := h
theorem Ls.same {w w1 : Wd} {b : Nat} {l : List Nat} (eK : w1.K = w.K) (eR : w1.R = w.R) (eN : w1.N = w.N) (eO : w1.O = w.O) (eI : w1.I 602 b = w.I 602 b) (h : Ls w b l) : Ls w1 b l := by
  obtain ⟨h1, h2, h3, d, h4, h5, h6⟩ := h
  exact ⟨by rw [eK]; exact h1, by rw [eI]; exact h2, fun y hy => by rw [eK]; exact h3 y hy, d, by rw [eR]; exact h4, by rw [eN]; exact h5, fun i hi => by rw [eO]; exact h6 i hi⟩
/-- a note is put -/
theorem RC.note {w : Wd} {G : GH} {S S0 : MS} {i b : Nat} {v : Int32} (h : RC w G S S0) (hi : i < nP S) (hb : b < 3) (hn : nP S ≤ 16) : RC (w.setA (G.T i) b v) G (S.setA 530 (16 * b + i) v) S0 := by
  obtain ⟨q1, q2, q3, q4, q5, q6, q7⟩ := h
  have e1 : ∀ g j, g ≠ 530 → (S.setA 530 (16 * b + i) v).a g j = S.a g j := fun g j hg => a_f hg
  refine ⟨⟨q1.1, q1.2.1, fun j hj => ?_⟩, q2, RK.row ⟨by decide, by decide⟩ q3, q4.row (by decide), ⟨fun f r k j he hj => ?_, q5.2.1, q5.2.2.1, fun i' b' hi' hb' => ?_⟩, fun i' hi' hd => ?_, q7.row (by decide) (by decide) (by decide) (by decide)⟩
  · exact (if_neg (fun z => q4.2.2.1 i hi z.1.symm)).trans (q1.2.2 j hj)
  · rw [e1 r j (et_o _ he).2.2.2.2.2.2.1]
    exact q5.1 f r k j he ((inr_setA (by decide)).mp hj)
  · show up2 w.A (G.T i) b v (G.T i') b' = up2 S.2 530 (16 * b + i) v 530 (16 * b' + i')
    have hi2 : i' < nP S := hi'
    by_cases e : i' = i ∧ b' = b
    · obtain ⟨e, e2⟩ := e; subst e e2; rw [up2_eq, up2_eq]
    · rw [up2_ne (fun z => e ⟨q4.2.1 i' i hi' hi z.1, z.2⟩), up2_ne (fun z => e (by omega))]
      exact q5.2.2.2 i' b' hi' hb'
  · rw [e1 506 _ (by decide)] at hd
    rw [e1 507 _ (by decide), e1 508 _ (by decide), e1 509 _ (by decide)]
    exact q6 i' hi' hd
/-- a loan's field is put where there's no loan -/
theorem RC.loanI {w : Wd} {G : GH} {S S0 : MS} {i : Nat} {v : Int32} (h : RC w G S S0) (hi : i < nP S) (hd : ¬ 0 < S.a 506 i) : RC (w.setI 207 (G.P i) v) G S S0 := by
  obtain ⟨q1, q2, q3, q4, q5, q6, q7⟩ := h
  refine ⟨q1.setI (by decide), q2, q3.setI (by decide) (by decide), q4, ⟨fun f r k j he hj => ?_, (I_f (by decide)).trans q5.2.1, (I_f (by decide)).trans q5.2.2.1, q5.2.2.2⟩, fun j hj hdj => ?_, q7⟩
  · exact (I_f (fun z => (et_o _ he).2.2.1 z)).trans (q5.1 f r k j he hj)
  · obtain ⟨g1, g2⟩ := q6 j hj hdj
    have hne : G.P j ≠ G.P i := fun e => hd (by rw [← q4.1 2 j i (by decide) (by decide) hj hi e]; exact hdj)
    exact ⟨(I_b hne).trans g1, g2⟩
theorem R_f {w : Wd} {f a g b : Nat} {v : Option Nat} (h : g ≠ f) : (w.setR f a v).R g b = w.R g b := if_neg (fun z => h z.1)
theorem R_b {w : Wd} {f a g b : Nat} {v : Option Nat} (h : b ≠ a) : (w.setR f a v).R g b = w.R g b := if_neg (fun z => h z.2)
theorem R_e {w : Wd} {f a : Nat} {v : Option Nat} : (w.setR f a v).R f a = v := if_pos ⟨rfl, rfl⟩
theorem Ls.setR {w : Wd} {f a b : Nat} {v : Option Nat} {l : List Nat} (hf : f ≠ 601) (h : Ls w b l) : Ls (w.setR f a v) b l := by
  obtain ⟨h1, h2, h3, d, h4, h5, h6⟩ := h
  exact ⟨h1, h2, h3, d, (R_f (fun z => hf z.symm)).trans h4, h5, h6⟩
theorem ALs.setR {w : Wd} {f a : Nat} {v : Option Nat} (hf : f ≠ 601) (h : ALs w) : ALs (w.setR f a v) := by
  intro b hb
  obtain ⟨d, h1, h2, h3⟩ := h b hb
  refine ⟨d, (R_f (fun z => hf z.symm)).trans h1, h2, ?_⟩
  rcases h3 with h3 | h3
  · exact Or.inl h3
  · exact Or.inr ⟨h3.1, h3.2.1, fun c hc hcd => h3.2.2 c hc ((R_f (fun z => hf z.symm)).symm.trans hcd)⟩
theorem RepM.setR {w : Wd} {mo o : Nat} {S0 : MS} {f a : Nat} {v : Option Nat} (_ : f < 500) (h : RepM w mo o S0) : RepM (w.setR f a v) mo o S0 := h
theorem RC.loanR {w : Wd} {G : GH} {S S0 : MS} {i f : Nat} {v : Option Nat} (hf : f = 208 ∨ f = 209) (h : RC w G S S0) (hi : i < nP S) (hd : ¬ 0 < S.a 506 i) : RC (w.setR f (G.P i) v) G S S0 := by
  obtain ⟨q1, q2, q3, q4, q5, q6, q7⟩ := h
  obtain ⟨k1, k2, k3, k4, k5, k6, k7, k8, k9⟩ := q3
  have h6 : f ≠ 601 := by omega
  refine ⟨q1.setR (by omega), q2.setR h6, ⟨k1, (R_f (by omega)).trans k2, (R_f (by omega)).trans k3, k4.setR h6, k5.setR h6, k6, fun j hj => ⟨(k7 j hj).1, (R_f (by omega)).trans (k7 j hj).2.1, (k7 j hj).2.2⟩, fun c hc => ⟨(R_f (by omega)).trans (k8 c hc).1, (R_f (by omega)).trans (k8 c hc).2.1, (k8 c hc).2.2.1.setR h6, (k8 c hc).2.2.2.setR h6⟩, fun j hj => (R_f (by omega)).trans (k9 j hj)⟩, q4, q5, fun j hj hdj => ?_, q7⟩
  obtain ⟨g1, a, b, g2, g3, g4, g5, g6, g7⟩ := q6 j hj hdj
  have hne : G.P j ≠ G.P i := fun e => hd (by rw [← q4.1 2 j i (by decide) (by decide) hj hi e]; exact hdj)
  exact ⟨g1, a, b, g2, g3, g4, g5, (R_b hne).trans g6, (R_b hne).trans g7⟩
/-- rows of the reference that the relation doesn't tell of while there is no loan -/
theorem RC.loanS {w : Wd} {G : GH} {S S0 : MS} {i r : Nat} {v : Int32} (hr : r = 507 ∨ r = 508 ∨ r = 509) (h : RC w G S S0) (hd : ¬ 0 < S.a 506 i) : RC w G (S.setA r i v) S0 := by
  obtain ⟨q1, q2, q3, q4, q5, q6, q7⟩ := h
  refine ⟨q1, q2, q3.row ⟨by omega, by omega⟩, q4.row (by omega), ⟨fun f r' k j he hj => ?_, q5.2.1, q5.2.2.1, fun i' b hi' hb => ?_⟩, fun j hj hdj => ?_, q7.row (by omega) (by omega) (by omega) (by omega)⟩
  · have o := (et_o _ he).2.2.2.2.2.2.2
    rw [a_f (by have a1 := o.1; have a2 := o.2.1; have a3 := o.2.2.1; simp only at a1 a2 a3; omega)]
    exact q5.1 f r' k j he ((inr_setA (by omega)).mp hj)
  · rw [a_f (by omega)]; exact q5.2.2.2 i' b hi' hb
  · rw [a_f (by omega)] at hdj
    have hne : j ≠ i := fun e => hd (by rw [← e]; exact hdj)
    rw [a_b hne, a_b hne, a_b hne]
    exact q6 j hj hdj
