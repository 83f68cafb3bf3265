-- ===== the reference's state: scalars and rows, by the numbers of their fields
def MS : Type := (Nat → Int32) × (Nat → Nat → Int32)
def MS.s (S : MS) : Nat → Int32 := S.1
def MS.a (S : MS) : Nat → Nat → Int32 := S.2
def MS.setS (S : MS) (f : Nat) (v : Int32) : MS := (va_up S.1 f v, S.2)
def MS.setA (S : MS) (f j : Nat) (v : Int32) : MS := (S.1, up2 S.2 f j v)
def msS : List Nat := [500, 501, 513, 528, 529]
def msA : List (Nat × Nat × Nat) := [(502, 11, 16), (503, 11, 16), (504, 11, 16), (505, 11, 16), (506, 11, 16), (507, 11, 16), (508, 11, 16), (509, 11, 16), (510, 11, 16), (511, 11, 16), (512, 12, 16), (514, 11, 4), (515, 11, 4), (516, 11, 4), (517, 11, 4), (518, 11, 4), (519, 11, 4), (520, 12, 4), (521, 11, 40), (522, 11, 40), (523, 11, 40), (524, 11, 40), (525, 11, 40), (526, 11, 40), (527, 12, 40), (530, 11, 48)]
def mk (f : Nat) : Nat := if f = 512 ∨ f = 520 ∨ f = 527 then 12 else 11
def ml (f : Nat) : Nat := match f with | 502 => 16 | 503 => 16 | 504 => 16 | 505 => 16 | 506 => 16 | 507 => 16 | 508 => 16 | 509 => 16 | 510 => 16 | 511 => 16 | 512 => 16 | 514 => 4 | 515 => 4 | 516 => 4 | 517 => 4 | 518 => 4 | 519 => 4 | 520 => 4 | 521 => 40 | 522 => 40 | 523 => 40 | 524 => 40 | 525 => 40 | 526 => 40 | 527 => 40 | 530 => 48 | _ => 0
def isA (f : Nat) : Prop := f ∈ msA.map (fun q => q.1)
def isS (f : Nat) : Prop := f ∈ msS
def RepM (w : Wd) (mo : Nat) (ma : Nat → Nat) (S : MS) : Prop := w.K mo = 5 ∧ (∀ f, f ∈ msS → w.I f mo = S.s f) ∧ (∀ f, f ∈ msA.map (fun q => q.1) → w.R f mo = some (ma f) ∧ w.K (ma f) = mk f ∧ w.N (ma f) = ml f ∧ ∀ j, w.A (ma f) j = S.a f j) ∧ ∀ f g, f ∈ msA.map (fun q => q.1) → g ∈ msA.map (fun q => q.1) → ma f = ma g → f = g
/-- what the reference's methods leave as it was -/
def FrM (mo : Nat) (ma : Nat → Nat) (w w1 : Wd) : Prop := w1.K = w.K ∧ w1.R = w.R ∧ w1.N = w.N ∧ w1.O = w.O ∧ w1.J = w.J ∧ (∀ f a, a ≠ mo → w1.I f a = w.I f a) ∧ ∀ a, (∀ f, f ∈ msA.map (fun q => q.1) → a ≠ ma f) → w1.A a = w.A a
theorem FrM.rfl {mo : Nat} {ma : Nat → Nat} {w : Wd} : FrM mo ma w w := ⟨Eq.refl _, Eq.refl _, Eq.refl _, Eq.refl _, Eq.refl _, fun _ _ _ => Eq.refl _, fun _ _ => Eq.refl _⟩
theorem FrM.trans {mo : Nat} {ma : Nat → Nat} {w w1 w2 : Wd} (h : FrM mo ma w w1) (h1 : FrM mo ma w1 w2) : FrM mo ma w w2 :=
  ⟨h1.1.trans h.1, h1.2.1.trans h.2.1, h1.2.2.1.trans h.2.2.1, h1.2.2.2.1.trans h.2.2.2.1, h1.2.2.2.2.1.trans h.2.2.2.2.1, fun f a ha => (h1.2.2.2.2.2.1 f a ha).trans (h.2.2.2.2.2.1 f a ha), fun a ha => (h1.2.2.2.2.2.2 a ha).trans (h.2.2.2.2.2.2 a ha)⟩
theorem FrM.putS {mo : Nat} {ma : Nat → Nat} {w w1 : Wd} {f : Nat} {v : Int32} (_ : f ∈ msS) (hw : w1 = w.setI f mo v) : FrM mo ma w w1 := by
  subst hw
  refine ⟨Eq.refl _, Eq.refl _, Eq.refl _, Eq.refl _, Eq.refl _, fun g a ha => ?_, fun _ _ => Eq.refl _⟩
  show up2 w.I f mo v g a = _
  simp [up2, ha]
theorem FrM.putA {mo : Nat} {ma : Nat → Nat} {w w1 : Wd} {f j : Nat} {v : Int32} (hf : f ∈ msA.map (fun q => q.1)) (hw : w1 = w.setA (ma f) j v) : FrM mo ma w w1 := by
  subst hw
  refine ⟨Eq.refl _, Eq.refl _, Eq.refl _, Eq.refl _, Eq.refl _, fun g a ha => Eq.refl _, fun a ha => ?_⟩
  show up2 w.A (ma f) j v a = _
  funext x
  simp [up2, ha f hf]
theorem RepM.putS {mo : Nat} {ma : Nat → Nat} {w w1 : Wd} {S S1 : MS} {f : Nat} {v : Int32} (hR : RepM w mo ma S) (hf : f ∈ msS) (hw : w1 = w.setI f mo v) (hS : S1 = S.setS f v) : RepM w1 mo ma S1 := by
  subst hw hS
  refine ⟨hR.1, fun g hg => ?_, hR.2.2.1, hR.2.2.2⟩
  show up2 w.I f mo v g mo = va_up S.1 f v g
  by_cases h : g = f
  · subst h; simp [up2, va_up]
  · simp [up2, va_up, h]; exact hR.2.1 g hg
theorem RepM.putA {mo : Nat} {ma : Nat → Nat} {w w1 : Wd} {S S1 : MS} {f j : Nat} {v : Int32} (hR : RepM w mo ma S) (hf : f ∈ msA.map (fun q => q.1)) (hw : w1 = w.setA (ma f) j v) (hS : S1 = S.setA f j v) : RepM w1 mo ma S1 := by
  subst hw hS
  refine ⟨hR.1, hR.2.1, fun g hg => ⟨(hR.2.2.1 g hg).1, (hR.2.2.1 g hg).2.1, (hR.2.2.1 g hg).2.2.1, fun k => ?_⟩, hR.2.2.2⟩
  show up2 w.A (ma f) j v (ma g) k = up2 S.2 f j v g k
  by_cases h : g = f
  · subst h
    by_cases hk : k = j
    · subst hk; simp [up2]
    · simp [up2, hk]; exact (hR.2.2.1 g hg).2.2.2 k
  · have hne : ma g ≠ ma f := fun e => h (hR.2.2.2 g f hg hf e)
    simp [up2, h, hne]
    exact (hR.2.2.1 g hg).2.2.2 k

def sp_X4_thrown  (S : MS) (Q : Int32 → MS → Prop) : Prop :=
  ∀ v1 : Int32, v1 = S.s 500 →
  Q v1 S
set_option maxHeartbeats 4000000 in
set_option maxRecDepth 100000 in
theorem r_X4_thrown {mo : Nat} {ma : Nat → Nat}  {w : Wd} {S : MS} {Q : Int32 → Wd → Prop} {Q1 : Int32 → MS → Prop} (hR : RepM w mo ma S) (h : sp_X4_thrown  S Q1) (hQ : ∀ r S1 w1, Q1 r S1 → FrM mo ma w w1 → RepM w1 mo ma S1 → Q r w1) : wp_X4_thrown mo  w Q := by
  have hF : FrM mo ma w w := FrM.rfl
  unfold sp_X4_thrown at h
  unfold wp_X4_thrown
  refine ⟨hR.1, fun v1 hv => ?_⟩; replace h := h v1 (hv.trans (hR.2.1 500 (by decide))); clear hv
  exact hQ _ _ _ h hF hR

def sp_X4_in (x0 : Int32) (x1 : Int32) (x2 : Int32) (S : MS) (Q : Int32 → MS → Prop) : Prop :=
  ∃ J1 : Int32 → Prop, (∀ (y2 : Int32), J1 y2 →
  (y2 = 0 ∨ y2 = 1) ∧ Q y2 S) ∧
  ∃ J3 : Prop, (J3 →
  J1 (0 : Int32)) ∧
  (x0 < x1 → J3) ∧ (¬ x0 < x1 → (x2 < x0 → J3) ∧ (¬ x2 < x0 → J1 (1 : Int32)))
set_option maxHeartbeats 4000000 in
set_option maxRecDepth 100000 in
theorem r_X4_in {mo : Nat} {ma : Nat → Nat} {x0 : Int32} {x1 : Int32} {x2 : Int32} {w : Wd} {S : MS} {Q : Int32 → Wd → Prop} {Q1 : Int32 → MS → Prop} (hR : RepM w mo ma S) (h : sp_X4_in x0 x1 x2 S Q1) (hQ : ∀ r S1 w1, Q1 r S1 → FrM mo ma w w1 → RepM w1 mo ma S1 → Q r w1) : wp_X4_in x0 x1 x2 w Q := by
  have hF : FrM mo ma w w := FrM.rfl
  unfold sp_X4_in at h
  unfold wp_X4_in
  obtain ⟨J1, hjJ1, h⟩ := h
  refine ⟨fun y2 => J1 y2, fun y2 hJ => ?_, ?_⟩
  · have h := hjJ1 y2 hJ; clear hJ
    exact ⟨h.1, hQ _ _ _ h.2 hF hR⟩
  obtain ⟨J3, hjJ3, h⟩ := h
  refine ⟨J3, fun hJ => ?_, ?_⟩
  · have h := hjJ3 hJ; clear hJ
    exact h
  refine ⟨fun hc => ?_, fun hc => ?_⟩
  · replace h := h.1 hc; clear hc
    exact h
  · replace h := h.2 hc; clear hc
    refine ⟨fun hc => ?_, fun hc => ?_⟩
    · replace h := h.1 hc; clear hc
      exact h
    · replace h := h.2 hc; clear hc
      exact h

def sp_X4_isOne (x1 : Int32) (S : MS) (Q : Int32 → MS → Prop) : Prop :=
  ∀ v1 : Int32, v1 = S.s 501 →
  ∀ v2 : Int32, v2 = v1 - (1 : Int32) →
  sp_X4_in x1 (0 : Int32) v2 S (fun v4 S3 => 
  (v4 = 0 ∨ v4 = 1) ∧ Q v4 S3)
set_option maxHeartbeats 4000000 in
set_option maxRecDepth 100000 in
theorem r_X4_isOne {mo : Nat} {ma : Nat → Nat} {x1 : Int32} {w : Wd} {S : MS} {Q : Int32 → Wd → Prop} {Q1 : Int32 → MS → Prop} (hR : RepM w mo ma S) (h : sp_X4_isOne x1 S Q1) (hQ : ∀ r S1 w1, Q1 r S1 → FrM mo ma w w1 → RepM w1 mo ma S1 → Q r w1) : wp_X4_isOne mo x1 w Q := by
  have hF : FrM mo ma w w := FrM.rfl
  unfold sp_X4_isOne at h
  unfold wp_X4_isOne
  refine ⟨hR.1, fun v1 hv => ?_⟩; replace h := h v1 (hv.trans (hR.2.1 501 (by decide))); clear hv
  intro v2 hv; replace h := h v2 hv; clear hv
  refine r_X4_in hR h (fun v4 S3 w1 h hF1 hR1 => ?_); replace hF := hF.trans hF1; replace hR := hR1; clear hF1 hR1
  exact ⟨h.1, hQ _ _ _ h.2 hF hR⟩

def sp_X4_isCircle (x1 : Int32) (S : MS) (Q : Int32 → MS → Prop) : Prop :=
  ∀ v1 : Int32, v1 = S.s 513 →
  ∀ v2 : Int32, v2 = v1 - (1 : Int32) →
  sp_X4_in x1 (0 : Int32) v2 S (fun v4 S3 => 
  (v4 = 0 ∨ v4 = 1) ∧ Q v4 S3)
set_option maxHeartbeats 4000000 in
set_option maxRecDepth 100000 in
theorem r_X4_isCircle {mo : Nat} {ma : Nat → Nat} {x1 : Int32} {w : Wd} {S : MS} {Q : Int32 → Wd → Prop} {Q1 : Int32 → MS → Prop} (hR : RepM w mo ma S) (h : sp_X4_isCircle x1 S Q1) (hQ : ∀ r S1 w1, Q1 r S1 → FrM mo ma w w1 → RepM w1 mo ma S1 → Q r w1) : wp_X4_isCircle mo x1 w Q := by
  have hF : FrM mo ma w w := FrM.rfl
  unfold sp_X4_isCircle at h
  unfold wp_X4_isCircle
  refine ⟨hR.1, fun v1 hv => ?_⟩; replace h := h v1 (hv.trans (hR.2.1 513 (by decide))); clear hv
  intro v2 hv; replace h := h v2 hv; clear hv
  refine r_X4_in hR h (fun v4 S3 w1 h hF1 hR1 => ?_); replace hF := hF.trans hF1; replace hR := hR1; clear hF1 hR1
  exact ⟨h.1, hQ _ _ _ h.2 hF hR⟩

def sp_X4_areAlike (x0 : Int32) (x1 : Int32) (S : MS) (Q : Int32 → MS → Prop) : Prop :=
  ∃ Inv2 : Nat → Int32 → Int32 → Int32 → Int32 → Prop, (∃ n : Nat, Inv2 n x0 x1 (0 : Int32) (0 : Int32)) ∧ ∀ (n1 : Nat) (y3 : Int32) (y4 : Int32) (y5 : Int32) (y6 : Int32), Inv2 n1 y3 y4 y5 y6 →
  ((5 : Int32) ≤ y6 → ∃ J7 : Int32 → Prop, (∀ (y8 : Int32), J7 y8 →
  (y8 = 0 ∨ y8 = 1) ∧ Q y8 S) ∧
  ((2 : Int32) ≤ y5 → J7 (0 : Int32)) ∧ (¬ (2 : Int32) ≤ y5 → J7 (1 : Int32))) ∧ (¬ (5 : Int32) ≤ y6 → ¬ (10 : Int32) = 0 ∧ ∀ v9 : Int32, v9 = y3 - y3 / (10 : Int32) * (10 : Int32) →
  ¬ (10 : Int32) = 0 ∧ ∀ v10 : Int32, v10 = y4 - y4 / (10 : Int32) * (10 : Int32) →
  ∃ J11 : Int32 → Int32 → Prop, (∀ (y12 : Int32) (y13 : Int32), J11 y12 y13 →
  ∀ v14 : Int32, v14 = y12 + y13 →
  ¬ (10 : Int32) = 0 ∧ ∀ v15 : Int32, v15 = y3 / (10 : Int32) →
  ¬ (10 : Int32) = 0 ∧ ∀ v16 : Int32, v16 = y4 / (10 : Int32) →
  ∀ v17 : Int32, v17 = y6 + (1 : Int32) →
  ∃ n : Nat, n < n1 ∧ Inv2 n v15 v16 v14 v17) ∧
  (¬ v9 = v10 → J11 y5 (1 : Int32)) ∧ (v9 = v10 → J11 y5 (0 : Int32)))
set_option maxHeartbeats 4000000 in
set_option maxRecDepth 100000 in
theorem r_X4_areAlike {mo : Nat} {ma : Nat → Nat} {x0 : Int32} {x1 : Int32} {w : Wd} {S : MS} {Q : Int32 → Wd → Prop} {Q1 : Int32 → MS → Prop} (hR : RepM w mo ma S) (h : sp_X4_areAlike x0 x1 S Q1) (hQ : ∀ r S1 w1, Q1 r S1 → FrM mo ma w w1 → RepM w1 mo ma S1 → Q r w1) : wp_X4_areAlike x0 x1 w Q := by
  have hF : FrM mo ma w w := FrM.rfl
  unfold sp_X4_areAlike at h
  unfold wp_X4_areAlike
  obtain ⟨Inv2, ⟨n0, hi⟩, hsn1⟩ := h
  refine ⟨Inv2, ⟨n0, hi⟩, fun n1 y3 y4 y5 y6 hI => ?_⟩
  have h := hsn1 n1 y3 y4 y5 y6 hI; clear hI
  refine ⟨fun hc => ?_, fun hc => ?_⟩
  · replace h := h.1 hc; clear hc
    obtain ⟨J7, hjJ7, h⟩ := h
    refine ⟨fun y8 => J7 y8, fun y8 hJ => ?_, ?_⟩
    · have h := hjJ7 y8 hJ; clear hJ
      exact ⟨h.1, hQ _ _ _ h.2 hF hR⟩
    refine ⟨fun hc => ?_, fun hc => ?_⟩
    · replace h := h.1 hc; clear hc
      exact h
    · replace h := h.2 hc; clear hc
      exact h
  · replace h := h.2 hc; clear hc
    refine ⟨h.1, fun v9 hv => ?_⟩; replace h := h.2 v9 hv; clear hv
    refine ⟨h.1, fun v10 hv => ?_⟩; replace h := h.2 v10 hv; clear hv
    obtain ⟨J11, hjJ11, h⟩ := h
    refine ⟨fun y12 y13 => J11 y12 y13, fun y12 y13 hJ => ?_, ?_⟩
    · have h := hjJ11 y12 y13 hJ; clear hJ
      intro v14 hv; replace h := h v14 hv; clear hv
      refine ⟨h.1, fun v15 hv => ?_⟩; replace h := h.2 v15 hv; clear hv
      refine ⟨h.1, fun v16 hv => ?_⟩; replace h := h.2 v16 hv; clear hv
      intro v17 hv; replace h := h v17 hv; clear hv
      obtain ⟨n, hn, h⟩ := h
      exact ⟨n, hn, h⟩
    refine ⟨fun hc => ?_, fun hc => ?_⟩
    · replace h := h.1 hc; clear hc
      exact h
    · replace h := h.2 hc; clear hc
      exact h

def sp_X4_placeOf (x1 : Int32) (x2 : Int32) (S : MS) (Q : Int32 → MS → Prop) : Prop :=
  ∃ Inv2 : Nat → Int32 → Int32 → Prop, (∃ n : Nat, Inv2 n (-1 : Int32) (0 : Int32)) ∧ ∀ (n1 : Nat) (y3 : Int32) (y4 : Int32), Inv2 n1 y3 y4 →
  ∃ j5 : Nat, x1 = nI j5 ∧ j5 < 4 ∧
  ∀ v6 : Int32, v6 = S.a 517 j5 →
  (v6 ≤ y4 → Q y3 S) ∧ (¬ v6 ≤ y4 → ∀ v7 : Int32, v7 = (10 : Int32) * x1 →
  ∀ v8 : Int32, v8 = v7 + y4 →
  ∃ j9 : Nat, v8 = nI j9 ∧ j9 < 40 ∧
  ∀ v10 : Int32, v10 = S.a 521 j9 →
  ∃ J11 : Int32 → Prop, (∀ (y12 : Int32), J11 y12 →
  ∀ v13 : Int32, v13 = y4 + (1 : Int32) →
  ∃ n : Nat, n < n1 ∧ Inv2 n y12 v13) ∧
  (¬ v10 = x2 → J11 y3) ∧ (v10 = x2 → J11 y4))
set_option maxHeartbeats 4000000 in
set_option maxRecDepth 100000 in
theorem r_X4_placeOf {mo : Nat} {ma : Nat → Nat} {x1 : Int32} {x2 : Int32} {w : Wd} {S : MS} {Q : Int32 → Wd → Prop} {Q1 : Int32 → MS → Prop} (hR : RepM w mo ma S) (h : sp_X4_placeOf x1 x2 S Q1) (hQ : ∀ r S1 w1, Q1 r S1 → FrM mo ma w w1 → RepM w1 mo ma S1 → Q r w1) : wp_X4_placeOf mo x1 x2 w Q := by
  have hF : FrM mo ma w w := FrM.rfl
  unfold sp_X4_placeOf at h
  unfold wp_X4_placeOf
  obtain ⟨Inv2, ⟨n0, hi⟩, hsn1⟩ := h
  refine ⟨Inv2, ⟨n0, hi⟩, fun n1 y3 y4 hI => ?_⟩
  have h := hsn1 n1 y3 y4 hI; clear hI
  refine ⟨hR.1, fun z hz => ?_⟩; replace hz := hz.trans (hR.2.2.1 517 (by decide)).1; subst hz
  obtain ⟨j5, hi, hj, h⟩ := h
  refine ⟨ma 517, rfl, (hR.2.2.1 517 (by decide)).2.1, j5, hi, by rw [(hR.2.2.1 517 (by decide)).2.2.1]; exact hj, by rw [(hR.2.2.1 517 (by decide)).2.2.1]; decide, fun v6 hv => ?_⟩; replace h := h v6 (hv.trans ((hR.2.2.1 517 (by decide)).2.2.2 j5)); clear hv hi hj
  refine ⟨fun hc => ?_, fun hc => ?_⟩
  · replace h := h.1 hc; clear hc
    exact hQ _ _ _ h hF hR
  · replace h := h.2 hc; clear hc
    refine ⟨hR.1, fun z hz => ?_⟩; replace hz := hz.trans (hR.2.2.1 521 (by decide)).1; subst hz
    intro v7 hv; replace h := h v7 hv; clear hv
    intro v8 hv; replace h := h v8 hv; clear hv
    obtain ⟨j9, hi, hj, h⟩ := h
    refine ⟨ma 521, rfl, (hR.2.2.1 521 (by decide)).2.1, j9, hi, by rw [(hR.2.2.1 521 (by decide)).2.2.1]; exact hj, by rw [(hR.2.2.1 521 (by decide)).2.2.1]; decide, fun v10 hv => ?_⟩; replace h := h v10 (hv.trans ((hR.2.2.1 521 (by decide)).2.2.2 j9)); clear hv hi hj
    obtain ⟨J11, hjJ11, h⟩ := h
    refine ⟨fun y12 => J11 y12, fun y12 hJ => ?_, ?_⟩
    · have h := hjJ11 y12 hJ; clear hJ
      intro v13 hv; replace h := h v13 hv; clear hv
      obtain ⟨n, hn, h⟩ := h
      exact ⟨n, hn, h⟩
    refine ⟨fun hc => ?_, fun hc => ?_⟩
    · replace h := h.1 hc; clear hc
      exact h
    · replace h := h.2 hc; clear hc
      exact h

def sp_X4_pays (x1 : Int32) (x2 : Int32) (S : MS) (Q : MS → Prop) : Prop :=
  ∃ j1 : Nat, x1 = nI j1 ∧ j1 < 16 ∧
  ∀ v2 : Int32, v2 = S.a 504 j1 →
  ∀ v3 : Int32, v3 = v2 - x2 →
  ∃ j4 : Nat, x1 = nI j4 ∧ j4 < 16 ∧
  ∀ S5 : MS, S5 = S.setA 504 j4 v3 →
  ∃ j6 : Nat, x1 = nI j6 ∧ j6 < 16 ∧
  ∀ v7 : Int32, v7 = S5.a 511 j6 →
  ∀ v8 : Int32, v8 = v7 + x2 →
  ∃ j9 : Nat, x1 = nI j9 ∧ j9 < 16 ∧
  ∀ S10 : MS, S10 = S5.setA 511 j9 v8 →
  Q S10
set_option maxHeartbeats 4000000 in
set_option maxRecDepth 100000 in
theorem r_X4_pays {mo : Nat} {ma : Nat → Nat} {x1 : Int32} {x2 : Int32} {w : Wd} {S : MS} {Q : Wd → Prop} {Q1 : MS → Prop} (hR : RepM w mo ma S) (h : sp_X4_pays x1 x2 S Q1) (hQ : ∀ S1 w1, Q1 S1 → FrM mo ma w w1 → RepM w1 mo ma S1 → Q w1) : wp_X4_pays mo x1 x2 w Q := by
  have hF : FrM mo ma w w := FrM.rfl
  unfold sp_X4_pays at h
  unfold wp_X4_pays
  refine ⟨hR.1, fun z hz => ?_⟩; replace hz := hz.trans (hR.2.2.1 504 (by decide)).1; subst hz
  obtain ⟨j1, hi, hj, h⟩ := h
  refine ⟨ma 504, rfl, (hR.2.2.1 504 (by decide)).2.1, j1, hi, by rw [(hR.2.2.1 504 (by decide)).2.2.1]; exact hj, by rw [(hR.2.2.1 504 (by decide)).2.2.1]; decide, fun v2 hv => ?_⟩; replace h := h v2 (hv.trans ((hR.2.2.1 504 (by decide)).2.2.2 j1)); clear hv hi hj
  intro v3 hv; replace h := h v3 hv; clear hv
  obtain ⟨j4, hi, hj, h⟩ := h
  refine ⟨(hR.2.2.1 504 (by decide)).2.1, j4, hi, by rw [(hR.2.2.1 504 (by decide)).2.2.1]; exact hj, by rw [(hR.2.2.1 504 (by decide)).2.2.1]; decide, fun w1 hw => ?_⟩; obtain ⟨S5, hS⟩ : ∃ z, z = S.setA 504 j4 v3 := ⟨_, rfl⟩; replace h := h S5 hS; replace hF := hF.trans (FrM.putA (by decide) hw); replace hR := hR.putA (by decide) hw hS; clear hw hS hi hj
  refine ⟨hR.1, fun z hz => ?_⟩; replace hz := hz.trans (hR.2.2.1 511 (by decide)).1; subst hz
  obtain ⟨j6, hi, hj, h⟩ := h
  refine ⟨ma 511, rfl, (hR.2.2.1 511 (by decide)).2.1, j6, hi, by rw [(hR.2.2.1 511 (by decide)).2.2.1]; exact hj, by rw [(hR.2.2.1 511 (by decide)).2.2.1]; decide, fun v7 hv => ?_⟩; replace h := h v7 (hv.trans ((hR.2.2.1 511 (by decide)).2.2.2 j6)); clear hv hi hj
  intro v8 hv; replace h := h v8 hv; clear hv
  obtain ⟨j9, hi, hj, h⟩ := h
  refine ⟨(hR.2.2.1 511 (by decide)).2.1, j9, hi, by rw [(hR.2.2.1 511 (by decide)).2.2.1]; exact hj, by rw [(hR.2.2.1 511 (by decide)).2.2.1]; decide, fun w1 hw => ?_⟩; obtain ⟨S10, hS⟩ : ∃ z, z = S5.setA 511 j9 v8 := ⟨_, rfl⟩; replace h := h S10 hS; replace hF := hF.trans (FrM.putA (by decide) hw); replace hR := hR.putA (by decide) hw hS; clear hw hS hi hj
  exact hQ _ _ h hF hR

def sp_X4_person (x1 : Int32) (x2 : Int32) (S : MS) (Q : Int32 → MS → Prop) : Prop :=
  sp_X4_in x1 (1 : Int32) (120 : Int32) S (fun v2 S1 => 
  ∃ J3 : Int32 → MS → Prop, (∀ (y4 : Int32) (S5 : MS), J3 y4 S5 →
  ∀ S6 : MS, S6 = S5.setS 500 y4 →
  ∀ v7 : Int32, v7 = S6.s 500 →
  (v7 = 0 → ∀ v8 : Int32, v8 = S6.s 501 →
  ∃ j9 : Nat, v8 = nI j9 ∧ j9 < 16 ∧
  ∀ S10 : MS, S10 = S6.setA 502 j9 x1 →
  ∀ v11 : Int32, v11 = S10.s 501 →
  ∃ j12 : Nat, v11 = nI j12 ∧ j12 < 16 ∧
  ∀ S13 : MS, S13 = S10.setA 503 j12 x2 →
  ∀ v14 : Int32, v14 = S13.s 501 →
  ∀ v15 : Int32, v15 = v14 + (1 : Int32) →
  ∀ S16 : MS, S16 = S13.setS 501 v15 →
  ∀ v17 : Int32, v17 = S16.s 501 →
  ∀ v18 : Int32, v18 = v17 - (1 : Int32) →
  Q v18 S16) ∧ (¬ v7 = 0 → Q (0 : Int32) S6)) ∧
  ∃ J19 : MS → Prop, (∀  (S20 : MS), J19  S20 →
  J3 (1 : Int32) S20) ∧
  (v2 = 0 → J19 S1) ∧ (¬ v2 = 0 → sp_X4_in x2 (0 : Int32) (99999 : Int32) S1 (fun v22 S21 => 
  (¬ v22 = 0 → ∀ v23 : Int32, v23 = S21.s 501 →
  (¬ v23 = (16 : Int32) → J3 (0 : Int32) S21) ∧ (v23 = (16 : Int32) → J3 (2 : Int32) S21)) ∧ (v22 = 0 → J19 S21))))
set_option maxHeartbeats 4000000 in
set_option maxRecDepth 100000 in
theorem r_X4_person {mo : Nat} {ma : Nat → Nat} {x1 : Int32} {x2 : Int32} {w : Wd} {S : MS} {Q : Int32 → Wd → Prop} {Q1 : Int32 → MS → Prop} (hR : RepM w mo ma S) (h : sp_X4_person x1 x2 S Q1) (hQ : ∀ r S1 w1, Q1 r S1 → FrM mo ma w w1 → RepM w1 mo ma S1 → Q r w1) : wp_X4_person mo x1 x2 w Q := by
  have hF : FrM mo ma w w := FrM.rfl
  unfold sp_X4_person at h
  unfold wp_X4_person
  refine r_X4_in hR h (fun v2 S1 w1 h hF1 hR1 => ?_); replace hF := hF.trans hF1; replace hR := hR1; clear hF1 hR1
  obtain ⟨J3, hjJ3, h⟩ := h
  refine ⟨fun z0_18 y4 w1 => ∃ S1, z0_18 = (some mo) ∧ J3 y4 S1 ∧ FrM mo ma w w1 ∧ RepM w1 mo ma S1, fun z0_18 y4 w1 hJ => ?_, ?_⟩
  · obtain ⟨S5, rfl, hJ, hF, hR⟩ := hJ
    have h := hjJ3 y4 S5 hJ; clear hJ
    refine ⟨mo, rfl, hR.1, fun w1 hw => ?_⟩; obtain ⟨S6, hS⟩ : ∃ z, z = S5.setS 500 y4 := ⟨_, rfl⟩; replace h := h S6 hS; replace hF := hF.trans (FrM.putS (by decide) hw); replace hR := hR.putS (by decide) hw hS; clear hw hS
    refine ⟨hR.1, fun v7 hv => ?_⟩; replace h := h v7 (hv.trans (hR.2.1 500 (by decide))); clear hv
    refine ⟨fun hc => ?_, fun hc => ?_⟩
    · replace h := h.1 hc; clear hc
      refine ⟨hR.1, fun z hz => ?_⟩; replace hz := hz.trans (hR.2.2.1 502 (by decide)).1; subst hz
      refine ⟨hR.1, fun v8 hv => ?_⟩; replace h := h v8 (hv.trans (hR.2.1 501 (by decide))); clear hv
      obtain ⟨j9, hi, hj, h⟩ := h
      refine ⟨ma 502, rfl, (hR.2.2.1 502 (by decide)).2.1, j9, hi, by rw [(hR.2.2.1 502 (by decide)).2.2.1]; exact hj, by rw [(hR.2.2.1 502 (by decide)).2.2.1]; decide, fun w1 hw => ?_⟩; obtain ⟨S10, hS⟩ : ∃ z, z = S6.setA 502 j9 x1 := ⟨_, rfl⟩; replace h := h S10 hS; replace hF := hF.trans (FrM.putA (by decide) hw); replace hR := hR.putA (by decide) hw hS; clear hw hS hi hj
      refine ⟨hR.1, fun z hz => ?_⟩; replace hz := hz.trans (hR.2.2.1 503 (by decide)).1; subst hz
      refine ⟨hR.1, fun v11 hv => ?_⟩; replace h := h v11 (hv.trans (hR.2.1 501 (by decide))); clear hv
      obtain ⟨j12, hi, hj, h⟩ := h
      refine ⟨ma 503, rfl, (hR.2.2.1 503 (by decide)).2.1, j12, hi, by rw [(hR.2.2.1 503 (by decide)).2.2.1]; exact hj, by rw [(hR.2.2.1 503 (by decide)).2.2.1]; decide, fun w1 hw => ?_⟩; obtain ⟨S13, hS⟩ : ∃ z, z = S10.setA 503 j12 x2 := ⟨_, rfl⟩; replace h := h S13 hS; replace hF := hF.trans (FrM.putA (by decide) hw); replace hR := hR.putA (by decide) hw hS; clear hw hS hi hj
      refine ⟨hR.1, fun v14 hv => ?_⟩; replace h := h v14 (hv.trans (hR.2.1 501 (by decide))); clear hv
      intro v15 hv; replace h := h v15 hv; clear hv
      refine ⟨hR.1, fun w1 hw => ?_⟩; obtain ⟨S16, hS⟩ : ∃ z, z = S13.setS 501 v15 := ⟨_, rfl⟩; replace h := h S16 hS; replace hF := hF.trans (FrM.putS (by decide) hw); replace hR := hR.putS (by decide) hw hS; clear hw hS
      refine ⟨hR.1, fun v17 hv => ?_⟩; replace h := h v17 (hv.trans (hR.2.1 501 (by decide))); clear hv
      intro v18 hv; replace h := h v18 hv; clear hv
      exact hQ _ _ _ h hF hR
    · replace h := h.2 hc; clear hc
      exact hQ _ _ _ h hF hR
  obtain ⟨J19, hjJ19, h⟩ := h
  refine ⟨fun z0_20 w1 => ∃ S1, z0_20 = (some mo) ∧ J19  S1 ∧ FrM mo ma w w1 ∧ RepM w1 mo ma S1, fun z0_20 w1 hJ => ?_, ?_⟩
  · obtain ⟨S20, rfl, hJ, hF, hR⟩ := hJ
    have h := hjJ19  S20 hJ; clear hJ
    exact ⟨_, rfl, h, hF, hR⟩
  refine ⟨fun hc => ?_, fun hc => ?_⟩
  · replace h := h.1 hc; clear hc
    exact ⟨_, rfl, h, hF, hR⟩
  · replace h := h.2 hc; clear hc
    refine r_X4_in hR h (fun v22 S21 w1 h hF1 hR1 => ?_); replace hF := hF.trans hF1; replace hR := hR1; clear hF1 hR1
    refine ⟨fun hc => ?_, fun hc => ?_⟩
    · replace h := h.1 hc; clear hc
      refine ⟨hR.1, fun v23 hv => ?_⟩; replace h := h v23 (hv.trans (hR.2.1 501 (by decide))); clear hv
      refine ⟨fun hc => ?_, fun hc => ?_⟩
      · replace h := h.1 hc; clear hc
        exact ⟨_, rfl, h, hF, hR⟩
      · replace h := h.2 hc; clear hc
        exact ⟨_, rfl, h, hF, hR⟩
    · replace h := h.2 hc; clear hc
      exact ⟨_, rfl, h, hF, hR⟩

def sp_X4_earn (x1 : Int32) (x2 : Int32) (S : MS) (Q : Int32 → MS → Prop) : Prop :=
  sp_X4_isOne x1 S (fun v2 S1 => 
  (¬ v2 = 0 → ∃ j3 : Nat, x1 = nI j3 ∧ j3 < 16 ∧
  ∀ v4 : Int32, v4 = S1.a 512 j3 →
  ∃ J5 : Int32 → Prop, (∀ (y6 : Int32), J5 y6 →
  sp_X4_in x2 (-10000 : Int32) (10000 : Int32) S1 (fun v8 S7 => 
  ∃ J9 : Int32 → Prop, (∀ (y10 : Int32), J9 y10 →
  ∀ S11 : MS, S11 = S7.setS 500 y10 →
  ∀ v12 : Int32, v12 = S11.s 500 →
  (v12 = 0 → ∃ j13 : Nat, x1 = nI j13 ∧ j13 < 16 ∧
  ∀ v14 : Int32, v14 = S11.a 504 j13 →
  ∀ v15 : Int32, v15 = v14 + x2 →
  ∃ j16 : Nat, x1 = nI j16 ∧ j16 < 16 ∧
  ∀ S17 : MS, S17 = S11.setA 504 j16 v15 →
  ∀ v18 : Int32, v18 = S17.s 529 →
  ∀ v19 : Int32, v19 = v18 + x2 →
  ∀ S20 : MS, S20 = S17.setS 529 v19 →
  ∃ j21 : Nat, x1 = nI j21 ∧ j21 < 16 ∧
  ∀ v22 : Int32, v22 = S20.a 504 j21 →
  Q v22 S20) ∧ (¬ v12 = 0 → Q (0 : Int32) S11)) ∧
  (¬ v8 = 0 → (¬ y6 = 0 → J9 (0 : Int32)) ∧ (y6 = 0 → J9 (3 : Int32))) ∧ (v8 = 0 → J9 (2 : Int32)))) ∧
  ∃ J23 : Prop, (J23 →
  J5 (0 : Int32)) ∧
  (¬ v4 = 0 → J23) ∧ (v4 = 0 → ∃ j24 : Nat, x1 = nI j24 ∧ j24 < 16 ∧
  ∀ v25 : Int32, v25 = S1.a 504 j24 →
  ∀ v26 : Int32, v26 = v25 + x2 →
  (v26 < 0 → J23) ∧ (¬ v26 < 0 → ∃ j27 : Nat, x1 = nI j27 ∧ j27 < 16 ∧
  ∀ v28 : Int32, v28 = S1.a 504 j27 →
  ∀ v29 : Int32, v29 = v28 + x2 →
  ((10000000 : Int32) < v29 → J23) ∧ (¬ (10000000 : Int32) < v29 → J5 (1 : Int32))))) ∧ (v2 = 0 → ∀ S30 : MS, S30 = S1.setS 500 (1 : Int32) →
  Q (0 : Int32) S30))
set_option maxHeartbeats 4000000 in
set_option maxRecDepth 100000 in
theorem r_X4_earn {mo : Nat} {ma : Nat → Nat} {x1 : Int32} {x2 : Int32} {w : Wd} {S : MS} {Q : Int32 → Wd → Prop} {Q1 : Int32 → MS → Prop} (hR : RepM w mo ma S) (h : sp_X4_earn x1 x2 S Q1) (hQ : ∀ r S1 w1, Q1 r S1 → FrM mo ma w w1 → RepM w1 mo ma S1 → Q r w1) : wp_X4_earn mo x1 x2 w Q := by
  have hF : FrM mo ma w w := FrM.rfl
  unfold sp_X4_earn at h
  unfold wp_X4_earn
  refine ⟨hR.1, r_X4_isOne hR h (fun v2 S1 w1 h hF1 hR1 => ?_)⟩; replace hF := hF.trans hF1; replace hR := hR1; clear hF1 hR1
  refine ⟨fun hc => ?_, fun hc => ?_⟩
  · replace h := h.1 hc; clear hc
    refine ⟨hR.1, fun z hz => ?_⟩; replace hz := hz.trans (hR.2.2.1 512 (by decide)).1; subst hz
    obtain ⟨j3, hi, hj, h⟩ := h
    refine ⟨ma 512, rfl, (hR.2.2.1 512 (by decide)).2.1, j3, hi, by rw [(hR.2.2.1 512 (by decide)).2.2.1]; exact hj, by rw [(hR.2.2.1 512 (by decide)).2.2.1]; decide, fun v4 hv => ?_⟩; replace h := h v4 (hv.trans ((hR.2.2.1 512 (by decide)).2.2.2 j3)); clear hv hi hj
    obtain ⟨J5, hjJ5, h⟩ := h
    refine ⟨fun y6 => J5 y6, fun y6 hJ => ?_, ?_⟩
    · have h := hjJ5 y6 hJ; clear hJ
      refine r_X4_in hR h (fun v8 S7 w1 h hF1 hR1 => ?_); replace hF := hF.trans hF1; replace hR := hR1; clear hF1 hR1
      obtain ⟨J9, hjJ9, h⟩ := h
      refine ⟨fun z0_22 y10 => z0_22 = (some mo) ∧ J9 y10, fun z0_22 y10 hJ => ?_, ?_⟩
      · obtain ⟨rfl, hJ⟩ := hJ
        have h := hjJ9 y10 hJ; clear hJ
        refine ⟨mo, rfl, hR.1, fun w1 hw => ?_⟩; obtain ⟨S11, hS⟩ : ∃ z, z = S7.setS 500 y10 := ⟨_, rfl⟩; replace h := h S11 hS; replace hF := hF.trans (FrM.putS (by decide) hw); replace hR := hR.putS (by decide) hw hS; clear hw hS
        refine ⟨hR.1, fun v12 hv => ?_⟩; replace h := h v12 (hv.trans (hR.2.1 500 (by decide))); clear hv
        refine ⟨fun hc => ?_, fun hc => ?_⟩
        · replace h := h.1 hc; clear hc
          refine ⟨hR.1, fun z hz => ?_⟩; replace hz := hz.trans (hR.2.2.1 504 (by decide)).1; subst hz
          obtain ⟨j13, hi, hj, h⟩ := h
          refine ⟨ma 504, rfl, (hR.2.2.1 504 (by decide)).2.1, j13, hi, by rw [(hR.2.2.1 504 (by decide)).2.2.1]; exact hj, by rw [(hR.2.2.1 504 (by decide)).2.2.1]; decide, fun v14 hv => ?_⟩; replace h := h v14 (hv.trans ((hR.2.2.1 504 (by decide)).2.2.2 j13)); clear hv hi hj
          intro v15 hv; replace h := h v15 hv; clear hv
          obtain ⟨j16, hi, hj, h⟩ := h
          refine ⟨(hR.2.2.1 504 (by decide)).2.1, j16, hi, by rw [(hR.2.2.1 504 (by decide)).2.2.1]; exact hj, by rw [(hR.2.2.1 504 (by decide)).2.2.1]; decide, fun w1 hw => ?_⟩; obtain ⟨S17, hS⟩ : ∃ z, z = S11.setA 504 j16 v15 := ⟨_, rfl⟩; replace h := h S17 hS; replace hF := hF.trans (FrM.putA (by decide) hw); replace hR := hR.putA (by decide) hw hS; clear hw hS hi hj
          refine ⟨hR.1, fun v18 hv => ?_⟩; replace h := h v18 (hv.trans (hR.2.1 529 (by decide))); clear hv
          intro v19 hv; replace h := h v19 hv; clear hv
          refine ⟨hR.1, fun w1 hw => ?_⟩; obtain ⟨S20, hS⟩ : ∃ z, z = S17.setS 529 v19 := ⟨_, rfl⟩; replace h := h S20 hS; replace hF := hF.trans (FrM.putS (by decide) hw); replace hR := hR.putS (by decide) hw hS; clear hw hS
          refine ⟨hR.1, fun z hz => ?_⟩; replace hz := hz.trans (hR.2.2.1 504 (by decide)).1; subst hz
          obtain ⟨j21, hi, hj, h⟩ := h
          refine ⟨ma 504, rfl, (hR.2.2.1 504 (by decide)).2.1, j21, hi, by rw [(hR.2.2.1 504 (by decide)).2.2.1]; exact hj, by rw [(hR.2.2.1 504 (by decide)).2.2.1]; decide, fun v22 hv => ?_⟩; replace h := h v22 (hv.trans ((hR.2.2.1 504 (by decide)).2.2.2 j21)); clear hv hi hj
          exact hQ _ _ _ h hF hR
        · replace h := h.2 hc; clear hc
          exact hQ _ _ _ h hF hR
      refine ⟨fun hc => ?_, fun hc => ?_⟩
      · replace h := h.1 hc; clear hc
        refine ⟨fun hc => ?_, fun hc => ?_⟩
        · replace h := h.1 hc; clear hc
          exact ⟨rfl, h⟩
        · replace h := h.2 hc; clear hc
          exact ⟨rfl, h⟩
      · replace h := h.2 hc; clear hc
        exact ⟨rfl, h⟩
    obtain ⟨J23, hjJ23, h⟩ := h
    refine ⟨J23, fun hJ => ?_, ?_⟩
    · have h := hjJ23 hJ; clear hJ
      exact h
    refine ⟨fun hc => ?_, fun hc => ?_⟩
    · replace h := h.1 hc; clear hc
      exact h
    · replace h := h.2 hc; clear hc
      refine ⟨hR.1, fun z hz => ?_⟩; replace hz := hz.trans (hR.2.2.1 504 (by decide)).1; subst hz
      obtain ⟨j24, hi, hj, h⟩ := h
      refine ⟨ma 504, rfl, (hR.2.2.1 504 (by decide)).2.1, j24, hi, by rw [(hR.2.2.1 504 (by decide)).2.2.1]; exact hj, by rw [(hR.2.2.1 504 (by decide)).2.2.1]; decide, fun v25 hv => ?_⟩; replace h := h v25 (hv.trans ((hR.2.2.1 504 (by decide)).2.2.2 j24)); clear hv hi hj
      intro v26 hv; replace h := h v26 hv; clear hv
      refine ⟨fun hc => ?_, fun hc => ?_⟩
      · replace h := h.1 hc; clear hc
        exact h
      · replace h := h.2 hc; clear hc
        refine ⟨hR.1, fun z hz => ?_⟩; replace hz := hz.trans (hR.2.2.1 504 (by decide)).1; subst hz
        obtain ⟨j27, hi, hj, h⟩ := h
        refine ⟨ma 504, rfl, (hR.2.2.1 504 (by decide)).2.1, j27, hi, by rw [(hR.2.2.1 504 (by decide)).2.2.1]; exact hj, by rw [(hR.2.2.1 504 (by decide)).2.2.1]; decide, fun v28 hv => ?_⟩; replace h := h v28 (hv.trans ((hR.2.2.1 504 (by decide)).2.2.2 j27)); clear hv hi hj
        intro v29 hv; replace h := h v29 hv; clear hv
        refine ⟨fun hc => ?_, fun hc => ?_⟩
        · replace h := h.1 hc; clear hc
          exact h
        · replace h := h.2 hc; clear hc
          exact h
  · replace h := h.2 hc; clear hc
    refine ⟨hR.1, fun w1 hw => ?_⟩; obtain ⟨S30, hS⟩ : ∃ z, z = S1.setS 500 (1 : Int32) := ⟨_, rfl⟩; replace h := h S30 hS; replace hF := hF.trans (FrM.putS (by decide) hw); replace hR := hR.putS (by decide) hw hS; clear hw hS
    exact hQ _ _ _ h hF hR

def sp_X4_copies (x1 : Int32) (x2 : Int32) (S : MS) (Q : MS → Prop) : Prop :=
  ∃ j1 : Nat, x2 = nI j1 ∧ j1 < 40 ∧
  ∀ v2 : Int32, v2 = S.a 521 j1 →
  ∃ j3 : Nat, x1 = nI j3 ∧ j3 < 40 ∧
  ∀ S4 : MS, S4 = S.setA 521 j3 v2 →
  ∃ j5 : Nat, x2 = nI j5 ∧ j5 < 40 ∧
  ∀ v6 : Int32, v6 = S4.a 522 j5 →
  ∃ j7 : Nat, x1 = nI j7 ∧ j7 < 40 ∧
  ∀ S8 : MS, S8 = S4.setA 522 j7 v6 →
  ∃ j9 : Nat, x2 = nI j9 ∧ j9 < 40 ∧
  ∀ v10 : Int32, v10 = S8.a 523 j9 →
  ∃ j11 : Nat, x1 = nI j11 ∧ j11 < 40 ∧
  ∀ S12 : MS, S12 = S8.setA 523 j11 v10 →
  ∃ j13 : Nat, x2 = nI j13 ∧ j13 < 40 ∧
  ∀ v14 : Int32, v14 = S12.a 524 j13 →
  ∃ j15 : Nat, x1 = nI j15 ∧ j15 < 40 ∧
  ∀ S16 : MS, S16 = S12.setA 524 j15 v14 →
  ∃ j17 : Nat, x2 = nI j17 ∧ j17 < 40 ∧
  ∀ v18 : Int32, v18 = S16.a 525 j17 →
  ∃ j19 : Nat, x1 = nI j19 ∧ j19 < 40 ∧
  ∀ S20 : MS, S20 = S16.setA 525 j19 v18 →
  ∃ j21 : Nat, x2 = nI j21 ∧ j21 < 40 ∧
  ∀ v22 : Int32, v22 = S20.a 526 j21 →
  ∃ j23 : Nat, x1 = nI j23 ∧ j23 < 40 ∧
  ∀ S24 : MS, S24 = S20.setA 526 j23 v22 →
  ∃ j25 : Nat, x2 = nI j25 ∧ j25 < 40 ∧
  ∀ v26 : Int32, v26 = S24.a 527 j25 →
  ∃ j27 : Nat, x1 = nI j27 ∧ j27 < 40 ∧
  ∀ S28 : MS, S28 = S24.setA 527 j27 (vp_nar .boolean v26) →
  Q S28
set_option maxHeartbeats 4000000 in
set_option maxRecDepth 100000 in
theorem r_X4_copies {mo : Nat} {ma : Nat → Nat} {x1 : Int32} {x2 : Int32} {w : Wd} {S : MS} {Q : Wd → Prop} {Q1 : MS → Prop} (hR : RepM w mo ma S) (h : sp_X4_copies x1 x2 S Q1) (hQ : ∀ S1 w1, Q1 S1 → FrM mo ma w w1 → RepM w1 mo ma S1 → Q w1) : wp_X4_copies mo x1 x2 w Q := by
  have hF : FrM mo ma w w := FrM.rfl
  unfold sp_X4_copies at h
  unfold wp_X4_copies
  refine ⟨hR.1, fun z hz => ?_⟩; replace hz := hz.trans (hR.2.2.1 521 (by decide)).1; subst hz
  refine ⟨hR.1, fun z hz => ?_⟩; replace hz := hz.trans (hR.2.2.1 521 (by decide)).1; subst hz
  obtain ⟨j1, hi, hj, h⟩ := h
  refine ⟨ma 521, rfl, (hR.2.2.1 521 (by decide)).2.1, j1, hi, by rw [(hR.2.2.1 521 (by decide)).2.2.1]; exact hj, by rw [(hR.2.2.1 521 (by decide)).2.2.1]; decide, fun v2 hv => ?_⟩; replace h := h v2 (hv.trans ((hR.2.2.1 521 (by decide)).2.2.2 j1)); clear hv hi hj
  obtain ⟨j3, hi, hj, h⟩ := h
  refine ⟨ma 521, rfl, (hR.2.2.1 521 (by decide)).2.1, j3, hi, by rw [(hR.2.2.1 521 (by decide)).2.2.1]; exact hj, by rw [(hR.2.2.1 521 (by decide)).2.2.1]; decide, fun w1 hw => ?_⟩; obtain ⟨S4, hS⟩ : ∃ z, z = S.setA 521 j3 v2 := ⟨_, rfl⟩; replace h := h S4 hS; replace hF := hF.trans (FrM.putA (by decide) hw); replace hR := hR.putA (by decide) hw hS; clear hw hS hi hj
  refine ⟨hR.1, fun z hz => ?_⟩; replace hz := hz.trans (hR.2.2.1 522 (by decide)).1; subst hz
  refine ⟨hR.1, fun z hz => ?_⟩; replace hz := hz.trans (hR.2.2.1 522 (by decide)).1; subst hz
  obtain ⟨j5, hi, hj, h⟩ := h
  refine ⟨ma 522, rfl, (hR.2.2.1 522 (by decide)).2.1, j5, hi, by rw [(hR.2.2.1 522 (by decide)).2.2.1]; exact hj, by rw [(hR.2.2.1 522 (by decide)).2.2.1]; decide, fun v6 hv => ?_⟩; replace h := h v6 (hv.trans ((hR.2.2.1 522 (by decide)).2.2.2 j5)); clear hv hi hj
  obtain ⟨j7, hi, hj, h⟩ := h
  refine ⟨ma 522, rfl, (hR.2.2.1 522 (by decide)).2.1, j7, hi, by rw [(hR.2.2.1 522 (by decide)).2.2.1]; exact hj, by rw [(hR.2.2.1 522 (by decide)).2.2.1]; decide, fun w1 hw => ?_⟩; obtain ⟨S8, hS⟩ : ∃ z, z = S4.setA 522 j7 v6 := ⟨_, rfl⟩; replace h := h S8 hS; replace hF := hF.trans (FrM.putA (by decide) hw); replace hR := hR.putA (by decide) hw hS; clear hw hS hi hj
  refine ⟨hR.1, fun z hz => ?_⟩; replace hz := hz.trans (hR.2.2.1 523 (by decide)).1; subst hz
  refine ⟨hR.1, fun z hz => ?_⟩; replace hz := hz.trans (hR.2.2.1 523 (by decide)).1; subst hz
  obtain ⟨j9, hi, hj, h⟩ := h
  refine ⟨ma 523, rfl, (hR.2.2.1 523 (by decide)).2.1, j9, hi, by rw [(hR.2.2.1 523 (by decide)).2.2.1]; exact hj, by rw [(hR.2.2.1 523 (by decide)).2.2.1]; decide, fun v10 hv => ?_⟩; replace h := h v10 (hv.trans ((hR.2.2.1 523 (by decide)).2.2.2 j9)); clear hv hi hj
  obtain ⟨j11, hi, hj, h⟩ := h
  refine ⟨ma 523, rfl, (hR.2.2.1 523 (by decide)).2.1, j11, hi, by rw [(hR.2.2.1 523 (by decide)).2.2.1]; exact hj, by rw [(hR.2.2.1 523 (by decide)).2.2.1]; decide, fun w1 hw => ?_⟩; obtain ⟨S12, hS⟩ : ∃ z, z = S8.setA 523 j11 v10 := ⟨_, rfl⟩; replace h := h S12 hS; replace hF := hF.trans (FrM.putA (by decide) hw); replace hR := hR.putA (by decide) hw hS; clear hw hS hi hj
  refine ⟨hR.1, fun z hz => ?_⟩; replace hz := hz.trans (hR.2.2.1 524 (by decide)).1; subst hz
  refine ⟨hR.1, fun z hz => ?_⟩; replace hz := hz.trans (hR.2.2.1 524 (by decide)).1; subst hz
  obtain ⟨j13, hi, hj, h⟩ := h
  refine ⟨ma 524, rfl, (hR.2.2.1 524 (by decide)).2.1, j13, hi, by rw [(hR.2.2.1 524 (by decide)).2.2.1]; exact hj, by rw [(hR.2.2.1 524 (by decide)).2.2.1]; decide, fun v14 hv => ?_⟩; replace h := h v14 (hv.trans ((hR.2.2.1 524 (by decide)).2.2.2 j13)); clear hv hi hj
  obtain ⟨j15, hi, hj, h⟩ := h
  refine ⟨ma 524, rfl, (hR.2.2.1 524 (by decide)).2.1, j15, hi, by rw [(hR.2.2.1 524 (by decide)).2.2.1]; exact hj, by rw [(hR.2.2.1 524 (by decide)).2.2.1]; decide, fun w1 hw => ?_⟩; obtain ⟨S16, hS⟩ : ∃ z, z = S12.setA 524 j15 v14 := ⟨_, rfl⟩; replace h := h S16 hS; replace hF := hF.trans (FrM.putA (by decide) hw); replace hR := hR.putA (by decide) hw hS; clear hw hS hi hj
  refine ⟨hR.1, fun z hz => ?_⟩; replace hz := hz.trans (hR.2.2.1 525 (by decide)).1; subst hz
  refine ⟨hR.1, fun z hz => ?_⟩; replace hz := hz.trans (hR.2.2.1 525 (by decide)).1; subst hz
  obtain ⟨j17, hi, hj, h⟩ := h
  refine ⟨ma 525, rfl, (hR.2.2.1 525 (by decide)).2.1, j17, hi, by rw [(hR.2.2.1 525 (by decide)).2.2.1]; exact hj, by rw [(hR.2.2.1 525 (by decide)).2.2.1]; decide, fun v18 hv => ?_⟩; replace h := h v18 (hv.trans ((hR.2.2.1 525 (by decide)).2.2.2 j17)); clear hv hi hj
  obtain ⟨j19, hi, hj, h⟩ := h
  refine ⟨ma 525, rfl, (hR.2.2.1 525 (by decide)).2.1, j19, hi, by rw [(hR.2.2.1 525 (by decide)).2.2.1]; exact hj, by rw [(hR.2.2.1 525 (by decide)).2.2.1]; decide, fun w1 hw => ?_⟩; obtain ⟨S20, hS⟩ : ∃ z, z = S16.setA 525 j19 v18 := ⟨_, rfl⟩; replace h := h S20 hS; replace hF := hF.trans (FrM.putA (by decide) hw); replace hR := hR.putA (by decide) hw hS; clear hw hS hi hj
  refine ⟨hR.1, fun z hz => ?_⟩; replace hz := hz.trans (hR.2.2.1 526 (by decide)).1; subst hz
  refine ⟨hR.1, fun z hz => ?_⟩; replace hz := hz.trans (hR.2.2.1 526 (by decide)).1; subst hz
  obtain ⟨j21, hi, hj, h⟩ := h
  refine ⟨ma 526, rfl, (hR.2.2.1 526 (by decide)).2.1, j21, hi, by rw [(hR.2.2.1 526 (by decide)).2.2.1]; exact hj, by rw [(hR.2.2.1 526 (by decide)).2.2.1]; decide, fun v22 hv => ?_⟩; replace h := h v22 (hv.trans ((hR.2.2.1 526 (by decide)).2.2.2 j21)); clear hv hi hj
  obtain ⟨j23, hi, hj, h⟩ := h
  refine ⟨ma 526, rfl, (hR.2.2.1 526 (by decide)).2.1, j23, hi, by rw [(hR.2.2.1 526 (by decide)).2.2.1]; exact hj, by rw [(hR.2.2.1 526 (by decide)).2.2.1]; decide, fun w1 hw => ?_⟩; obtain ⟨S24, hS⟩ : ∃ z, z = S20.setA 526 j23 v22 := ⟨_, rfl⟩; replace h := h S24 hS; replace hF := hF.trans (FrM.putA (by decide) hw); replace hR := hR.putA (by decide) hw hS; clear hw hS hi hj
  refine ⟨hR.1, fun z hz => ?_⟩; replace hz := hz.trans (hR.2.2.1 527 (by decide)).1; subst hz
  refine ⟨hR.1, fun z hz => ?_⟩; replace hz := hz.trans (hR.2.2.1 527 (by decide)).1; subst hz
  obtain ⟨j25, hi, hj, h⟩ := h
  refine ⟨ma 527, rfl, (hR.2.2.1 527 (by decide)).2.1, j25, hi, by rw [(hR.2.2.1 527 (by decide)).2.2.1]; exact hj, by rw [(hR.2.2.1 527 (by decide)).2.2.1]; decide, fun v26 hv => ?_⟩; replace h := h v26 (hv.trans ((hR.2.2.1 527 (by decide)).2.2.2 j25)); clear hv hi hj
  obtain ⟨j27, hi, hj, h⟩ := h
  refine ⟨ma 527, rfl, (hR.2.2.1 527 (by decide)).2.1, j27, hi, by rw [(hR.2.2.1 527 (by decide)).2.2.1]; exact hj, by rw [(hR.2.2.1 527 (by decide)).2.2.1]; decide, fun w1 hw => ?_⟩; obtain ⟨S28, hS⟩ : ∃ z, z = S24.setA 527 j27 (vp_nar .boolean v26) := ⟨_, rfl⟩; replace h := h S28 hS; replace hF := hF.trans (FrM.putA (by decide) hw); replace hR := hR.putA (by decide) hw hS; clear hw hS hi hj
  exact hQ _ _ h hF hR

def sp_X4_rounds (x1 : Int32) (S : MS) (Q : MS → Prop) : Prop :=
  ∃ j1 : Nat, x1 = nI j1 ∧ j1 < 4 ∧
  ∀ v2 : Int32, v2 = S.a 517 j1 →
  ∃ J3 : Int32 → Prop, (∀ (y4 : Int32), J3 y4 →
  ∃ Inv6 : Nat → Int32 → Int32 → Prop, (∃ n : Nat, Inv6 n y4 (0 : Int32)) ∧ ∀ (n5 : Nat) (y7 : Int32) (y8 : Int32), Inv6 n5 y7 y8 →
  ∃ j9 : Nat, x1 = nI j9 ∧ j9 < 4 ∧
  ∀ v10 : Int32, v10 = S.a 517 j9 →
  (v10 ≤ y8 → ∃ j11 : Nat, x1 = nI j11 ∧ j11 < 4 ∧
  ∀ v12 : Int32, v12 = S.a 519 j11 →
  ∃ J13 : Int32 → Int32 → Int32 → Prop, (∀ (y14 : Int32) (y15 : Int32) (y16 : Int32), J13 y14 y15 y16 →
  ∀ v17 : Int32, v17 = y15 + y16 →
  ∃ j18 : Nat, y14 = nI j18 ∧ j18 < 4 ∧
  ∀ S19 : MS, S19 = S.setA 519 j18 v17 →
  ∃ Inv21 : Nat → Int32 → MS → Prop, (∃ n : Nat, Inv21 n (0 : Int32) S19) ∧ ∀ (n20 : Nat) (y22 : Int32) (S23 : MS), Inv21 n20 y22 S23 →
  ∃ j24 : Nat, x1 = nI j24 ∧ j24 < 4 ∧
  ∀ v25 : Int32, v25 = S23.a 517 j24 →
  ∃ J26 : Prop, (J26 →
  Q S23) ∧
  (v25 ≤ y22 → J26) ∧ (¬ v25 ≤ y22 → (y7 = 0 → J26) ∧ (¬ y7 = 0 → ∀ v27 : Int32, v27 = (10 : Int32) * x1 →
  ∀ v28 : Int32, v28 = v27 + y22 →
  ∃ j29 : Nat, v28 = nI j29 ∧ j29 < 40 ∧
  ∀ S30 : MS, S30 = S23.setA 527 j29 (vp_nar .boolean (0 : Int32)) →
  ∀ v31 : Int32, v31 = (10 : Int32) * x1 →
  ∀ v32 : Int32, v32 = v31 + y22 →
  ∃ j33 : Nat, v32 = nI j33 ∧ j33 < 40 ∧
  ∀ S34 : MS, S34 = S30.setA 525 j33 (0 : Int32) →
  ∀ v35 : Int32, v35 = y22 + (1 : Int32) →
  ∃ n : Nat, n < n20 ∧ Inv21 n v35 S34))) ∧
  (y7 = 0 → J13 x1 v12 (0 : Int32)) ∧ (¬ y7 = 0 → J13 x1 v12 (1 : Int32))) ∧ (¬ v10 ≤ y8 → ∃ J36 : Int32 → Prop, (∀ (y37 : Int32), J36 y37 →
  ∀ v38 : Int32, v38 = y8 + (1 : Int32) →
  ∃ n : Nat, n < n5 ∧ Inv6 n y37 v38) ∧
  ∃ J39 : Prop, (J39 →
  J36 (0 : Int32)) ∧
  (y7 = 0 → J39) ∧ (¬ y7 = 0 → ∀ v40 : Int32, v40 = (10 : Int32) * x1 →
  ∀ v41 : Int32, v41 = v40 + y8 →
  ∃ j42 : Nat, v41 = nI j42 ∧ j42 < 40 ∧
  ∀ v43 : Int32, v43 = S.a 527 j42 →
  (v43 = 0 → J39) ∧ (¬ v43 = 0 → J36 (1 : Int32))))) ∧
  (v2 ≤ 0 → J3 (0 : Int32)) ∧ (¬ v2 ≤ 0 → J3 (1 : Int32))
set_option maxHeartbeats 4000000 in
set_option maxRecDepth 100000 in
theorem r_X4_rounds {mo : Nat} {ma : Nat → Nat} {x1 : Int32} {w : Wd} {S : MS} {Q : Wd → Prop} {Q1 : MS → Prop} (hR : RepM w mo ma S) (h : sp_X4_rounds x1 S Q1) (hQ : ∀ S1 w1, Q1 S1 → FrM mo ma w w1 → RepM w1 mo ma S1 → Q w1) : wp_X4_rounds mo x1 w Q := by
  have hF : FrM mo ma w w := FrM.rfl
  unfold sp_X4_rounds at h
  unfold wp_X4_rounds
  refine ⟨hR.1, fun z hz => ?_⟩; replace hz := hz.trans (hR.2.2.1 517 (by decide)).1; subst hz
  obtain ⟨j1, hi, hj, h⟩ := h
  refine ⟨ma 517, rfl, (hR.2.2.1 517 (by decide)).2.1, j1, hi, by rw [(hR.2.2.1 517 (by decide)).2.2.1]; exact hj, by rw [(hR.2.2.1 517 (by decide)).2.2.1]; decide, fun v2 hv => ?_⟩; replace h := h v2 (hv.trans ((hR.2.2.1 517 (by decide)).2.2.2 j1)); clear hv hi hj
  obtain ⟨J3, hjJ3, h⟩ := h
  refine ⟨fun y4 => J3 y4, fun y4 hJ => ?_, ?_⟩
  · have h := hjJ3 y4 hJ; clear hJ
    obtain ⟨Inv6, ⟨n0, hi⟩, hsn5⟩ := h
    refine ⟨Inv6, ⟨n0, hi⟩, fun n5 y7 y8 hI => ?_⟩
    have h := hsn5 n5 y7 y8 hI; clear hI
    refine ⟨hR.1, fun z hz => ?_⟩; replace hz := hz.trans (hR.2.2.1 517 (by decide)).1; subst hz
    obtain ⟨j9, hi, hj, h⟩ := h
    refine ⟨ma 517, rfl, (hR.2.2.1 517 (by decide)).2.1, j9, hi, by rw [(hR.2.2.1 517 (by decide)).2.2.1]; exact hj, by rw [(hR.2.2.1 517 (by decide)).2.2.1]; decide, fun v10 hv => ?_⟩; replace h := h v10 (hv.trans ((hR.2.2.1 517 (by decide)).2.2.2 j9)); clear hv hi hj
    refine ⟨fun hc => ?_, fun hc => ?_⟩
    · replace h := h.1 hc; clear hc
      refine ⟨hR.1, fun z hz => ?_⟩; replace hz := hz.trans (hR.2.2.1 519 (by decide)).1; subst hz
      obtain ⟨j11, hi, hj, h⟩ := h
      refine ⟨ma 519, rfl, (hR.2.2.1 519 (by decide)).2.1, j11, hi, by rw [(hR.2.2.1 519 (by decide)).2.2.1]; exact hj, by rw [(hR.2.2.1 519 (by decide)).2.2.1]; decide, fun v12 hv => ?_⟩; replace h := h v12 (hv.trans ((hR.2.2.1 519 (by decide)).2.2.2 j11)); clear hv hi hj
      obtain ⟨J13, hjJ13, h⟩ := h
      refine ⟨fun z0_35 y14 y15 y16 => z0_35 = (some (ma 519)) ∧ J13 y14 y15 y16, fun z0_35 y14 y15 y16 hJ => ?_, ?_⟩
      · obtain ⟨rfl, hJ⟩ := hJ
        have h := hjJ13 y14 y15 y16 hJ; clear hJ
        intro v17 hv; replace h := h v17 hv; clear hv
        obtain ⟨j18, hi, hj, h⟩ := h
        refine ⟨ma 519, rfl, (hR.2.2.1 519 (by decide)).2.1, j18, hi, by rw [(hR.2.2.1 519 (by decide)).2.2.1]; exact hj, by rw [(hR.2.2.1 519 (by decide)).2.2.1]; decide, fun w1 hw => ?_⟩; obtain ⟨S19, hS⟩ : ∃ z, z = S.setA 519 j18 v17 := ⟨_, rfl⟩; replace h := h S19 hS; replace hF := hF.trans (FrM.putA (by decide) hw); replace hR := hR.putA (by decide) hw hS; clear hw hS hi hj
        obtain ⟨Inv21, ⟨n0, hi⟩, hsn20⟩ := h
        refine ⟨fun n y22 w1 => ∃ S1, Inv21 n y22 S1 ∧ FrM mo ma w w1 ∧ RepM w1 mo ma S1, ⟨n0, _, hi, hF, hR⟩, fun n20 y22 w1 hI => ?_⟩
        obtain ⟨S23, hI, hF, hR⟩ := hI
        have h := hsn20 n20 y22 S23 hI; clear hI
        refine ⟨hR.1, fun z hz => ?_⟩; replace hz := hz.trans (hR.2.2.1 517 (by decide)).1; subst hz
        obtain ⟨j24, hi, hj, h⟩ := h
        refine ⟨ma 517, rfl, (hR.2.2.1 517 (by decide)).2.1, j24, hi, by rw [(hR.2.2.1 517 (by decide)).2.2.1]; exact hj, by rw [(hR.2.2.1 517 (by decide)).2.2.1]; decide, fun v25 hv => ?_⟩; replace h := h v25 (hv.trans ((hR.2.2.1 517 (by decide)).2.2.2 j24)); clear hv hi hj
        obtain ⟨J26, hjJ26, h⟩ := h
        refine ⟨J26, fun hJ => ?_, ?_⟩
        · have h := hjJ26 hJ; clear hJ
          exact hQ _ _ h hF hR
        refine ⟨fun hc => ?_, fun hc => ?_⟩
        · replace h := h.1 hc; clear hc
          exact h
        · replace h := h.2 hc; clear hc
          refine ⟨fun hc => ?_, fun hc => ?_⟩
          · replace h := h.1 hc; clear hc
            exact h
          · replace h := h.2 hc; clear hc
            refine ⟨hR.1, fun z hz => ?_⟩; replace hz := hz.trans (hR.2.2.1 527 (by decide)).1; subst hz
            intro v27 hv; replace h := h v27 hv; clear hv
            intro v28 hv; replace h := h v28 hv; clear hv
            obtain ⟨j29, hi, hj, h⟩ := h
            refine ⟨ma 527, rfl, (hR.2.2.1 527 (by decide)).2.1, j29, hi, by rw [(hR.2.2.1 527 (by decide)).2.2.1]; exact hj, by rw [(hR.2.2.1 527 (by decide)).2.2.1]; decide, fun w1 hw => ?_⟩; obtain ⟨S30, hS⟩ : ∃ z, z = S23.setA 527 j29 (vp_nar .boolean (0 : Int32)) := ⟨_, rfl⟩; replace h := h S30 hS; replace hF := hF.trans (FrM.putA (by decide) hw); replace hR := hR.putA (by decide) hw hS; clear hw hS hi hj
            refine ⟨hR.1, fun z hz => ?_⟩; replace hz := hz.trans (hR.2.2.1 525 (by decide)).1; subst hz
            intro v31 hv; replace h := h v31 hv; clear hv
            intro v32 hv; replace h := h v32 hv; clear hv
            obtain ⟨j33, hi, hj, h⟩ := h
            refine ⟨ma 525, rfl, (hR.2.2.1 525 (by decide)).2.1, j33, hi, by rw [(hR.2.2.1 525 (by decide)).2.2.1]; exact hj, by rw [(hR.2.2.1 525 (by decide)).2.2.1]; decide, fun w1 hw => ?_⟩; obtain ⟨S34, hS⟩ : ∃ z, z = S30.setA 525 j33 (0 : Int32) := ⟨_, rfl⟩; replace h := h S34 hS; replace hF := hF.trans (FrM.putA (by decide) hw); replace hR := hR.putA (by decide) hw hS; clear hw hS hi hj
            intro v35 hv; replace h := h v35 hv; clear hv
            obtain ⟨n, hn, h⟩ := h
            exact ⟨n, hn, _, h, hF, hR⟩
      refine ⟨fun hc => ?_, fun hc => ?_⟩
      · replace h := h.1 hc; clear hc
        exact ⟨rfl, h⟩
      · replace h := h.2 hc; clear hc
        exact ⟨rfl, h⟩
    · replace h := h.2 hc; clear hc
      obtain ⟨J36, hjJ36, h⟩ := h
      refine ⟨fun y37 => J36 y37, fun y37 hJ => ?_, ?_⟩
      · have h := hjJ36 y37 hJ; clear hJ
        intro v38 hv; replace h := h v38 hv; clear hv
        obtain ⟨n, hn, h⟩ := h
        exact ⟨n, hn, h⟩
      obtain ⟨J39, hjJ39, h⟩ := h
      refine ⟨J39, fun hJ => ?_, ?_⟩
      · have h := hjJ39 hJ; clear hJ
        exact h
      refine ⟨fun hc => ?_, fun hc => ?_⟩
      · replace h := h.1 hc; clear hc
        exact h
      · replace h := h.2 hc; clear hc
        refine ⟨hR.1, fun z hz => ?_⟩; replace hz := hz.trans (hR.2.2.1 527 (by decide)).1; subst hz
        intro v40 hv; replace h := h v40 hv; clear hv
        intro v41 hv; replace h := h v41 hv; clear hv
        obtain ⟨j42, hi, hj, h⟩ := h
        refine ⟨ma 527, rfl, (hR.2.2.1 527 (by decide)).2.1, j42, hi, by rw [(hR.2.2.1 527 (by decide)).2.2.1]; exact hj, by rw [(hR.2.2.1 527 (by decide)).2.2.1]; decide, fun v43 hv => ?_⟩; replace h := h v43 (hv.trans ((hR.2.2.1 527 (by decide)).2.2.2 j42)); clear hv hi hj
        refine ⟨fun hc => ?_, fun hc => ?_⟩
        · replace h := h.1 hc; clear hc
          exact h
        · replace h := h.2 hc; clear hc
          exact h
  refine ⟨fun hc => ?_, fun hc => ?_⟩
  · replace h := h.1 hc; clear hc
    exact h
  · replace h := h.2 hc; clear hc
    exact h

def sp_X4_goes (x1 : Int32) (x2 : Int32) (S : MS) (Q : MS → Prop) : Prop :=
  ∃ j1 : Nat, x1 = nI j1 ∧ j1 < 4 ∧
  ∀ v2 : Int32, v2 = S.a 517 j1 →
  ∀ v3 : Int32, v3 = v2 - (1 : Int32) →
  ∃ j4 : Nat, x1 = nI j4 ∧ j4 < 4 ∧
  ∀ S5 : MS, S5 = S.setA 517 j4 v3 →
  ∃ Inv7 : Nat → Int32 → MS → Prop, (∃ n : Nat, Inv7 n x2 S5) ∧ ∀ (n6 : Nat) (y8 : Int32) (S9 : MS), Inv7 n6 y8 S9 →
  ∃ j10 : Nat, x1 = nI j10 ∧ j10 < 4 ∧
  ∀ v11 : Int32, v11 = S9.a 517 j10 →
  (v11 ≤ y8 → sp_X4_rounds x1 S9 (fun S12 => 
  Q S12)) ∧ (¬ v11 ≤ y8 → ∀ v13 : Int32, v13 = (10 : Int32) * x1 →
  ∀ v14 : Int32, v14 = v13 + y8 →
  ∀ v15 : Int32, v15 = (10 : Int32) * x1 →
  ∀ v16 : Int32, v16 = v15 + y8 →
  ∀ v17 : Int32, v17 = v16 + (1 : Int32) →
  sp_X4_copies v14 v17 S9 (fun S18 => 
  ∀ v19 : Int32, v19 = y8 + (1 : Int32) →
  ∃ n : Nat, n < n6 ∧ Inv7 n v19 S18))
set_option maxHeartbeats 4000000 in
set_option maxRecDepth 100000 in
theorem r_X4_goes {mo : Nat} {ma : Nat → Nat} {x1 : Int32} {x2 : Int32} {w : Wd} {S : MS} {Q : Wd → Prop} {Q1 : MS → Prop} (hR : RepM w mo ma S) (h : sp_X4_goes x1 x2 S Q1) (hQ : ∀ S1 w1, Q1 S1 → FrM mo ma w w1 → RepM w1 mo ma S1 → Q w1) : wp_X4_goes mo x1 x2 w Q := by
  have hF : FrM mo ma w w := FrM.rfl
  unfold sp_X4_goes at h
  unfold wp_X4_goes
  refine ⟨hR.1, fun z hz => ?_⟩; replace hz := hz.trans (hR.2.2.1 517 (by decide)).1; subst hz
  obtain ⟨j1, hi, hj, h⟩ := h
  refine ⟨ma 517, rfl, (hR.2.2.1 517 (by decide)).2.1, j1, hi, by rw [(hR.2.2.1 517 (by decide)).2.2.1]; exact hj, by rw [(hR.2.2.1 517 (by decide)).2.2.1]; decide, fun v2 hv => ?_⟩; replace h := h v2 (hv.trans ((hR.2.2.1 517 (by decide)).2.2.2 j1)); clear hv hi hj
  intro v3 hv; replace h := h v3 hv; clear hv
  obtain ⟨j4, hi, hj, h⟩ := h
  refine ⟨(hR.2.2.1 517 (by decide)).2.1, j4, hi, by rw [(hR.2.2.1 517 (by decide)).2.2.1]; exact hj, by rw [(hR.2.2.1 517 (by decide)).2.2.1]; decide, fun w1 hw => ?_⟩; obtain ⟨S5, hS⟩ : ∃ z, z = S.setA 517 j4 v3 := ⟨_, rfl⟩; replace h := h S5 hS; replace hF := hF.trans (FrM.putA (by decide) hw); replace hR := hR.putA (by decide) hw hS; clear hw hS hi hj
  obtain ⟨Inv7, ⟨n0, hi⟩, hsn6⟩ := h
  refine ⟨fun n y8 w1 => ∃ S1, Inv7 n y8 S1 ∧ FrM mo ma w w1 ∧ RepM w1 mo ma S1, ⟨n0, _, hi, hF, hR⟩, fun n6 y8 w1 hI => ?_⟩
  obtain ⟨S9, hI, hF, hR⟩ := hI
  have h := hsn6 n6 y8 S9 hI; clear hI
  refine ⟨hR.1, fun z hz => ?_⟩; replace hz := hz.trans (hR.2.2.1 517 (by decide)).1; subst hz
  obtain ⟨j10, hi, hj, h⟩ := h
  refine ⟨ma 517, rfl, (hR.2.2.1 517 (by decide)).2.1, j10, hi, by rw [(hR.2.2.1 517 (by decide)).2.2.1]; exact hj, by rw [(hR.2.2.1 517 (by decide)).2.2.1]; decide, fun v11 hv => ?_⟩; replace h := h v11 (hv.trans ((hR.2.2.1 517 (by decide)).2.2.2 j10)); clear hv hi hj
  refine ⟨fun hc => ?_, fun hc => ?_⟩
  · replace h := h.1 hc; clear hc
    refine ⟨hR.1, r_X4_rounds hR h (fun S12 w1 h hF1 hR1 => ?_)⟩; replace hF := hF.trans hF1; replace hR := hR1; clear hF1 hR1
    exact hQ _ _ h hF hR
  · replace h := h.2 hc; clear hc
    intro v13 hv; replace h := h v13 hv; clear hv
    intro v14 hv; replace h := h v14 hv; clear hv
    intro v15 hv; replace h := h v15 hv; clear hv
    intro v16 hv; replace h := h v16 hv; clear hv
    intro v17 hv; replace h := h v17 hv; clear hv
    refine ⟨hR.1, r_X4_copies hR h (fun S18 w1 h hF1 hR1 => ?_)⟩; replace hF := hF.trans hF1; replace hR := hR1; clear hF1 hR1
    intro v19 hv; replace h := h v19 hv; clear hv
    obtain ⟨n, hn, h⟩ := h
    exact ⟨n, hn, _, h, hF, hR⟩

def sp_X4_leaves (x1 : Int32) (x2 : Int32) (S : MS) (Q : MS → Prop) : Prop :=
  ∃ j1 : Nat, x2 = nI j1 ∧ j1 < 16 ∧
  ∀ v2 : Int32, v2 = S.a 504 j1 →
  ∃ j3 : Nat, x1 = nI j3 ∧ j3 < 16 ∧
  ∀ v4 : Int32, v4 = S.a 504 j3 →
  ∀ v5 : Int32, v5 = v2 + v4 →
  ∃ j6 : Nat, x2 = nI j6 ∧ j6 < 16 ∧
  ∀ S7 : MS, S7 = S.setA 504 j6 v5 →
  ∃ j8 : Nat, x2 = nI j8 ∧ j8 < 16 ∧
  ∀ v9 : Int32, v9 = S7.a 505 j8 →
  ∃ j10 : Nat, x1 = nI j10 ∧ j10 < 16 ∧
  ∀ v11 : Int32, v11 = S7.a 505 j10 →
  ∀ v12 : Int32, v12 = v9 + v11 →
  ∃ j13 : Nat, x2 = nI j13 ∧ j13 < 16 ∧
  ∀ S14 : MS, S14 = S7.setA 505 j13 v12 →
  ∃ j15 : Nat, x1 = nI j15 ∧ j15 < 16 ∧
  ∀ v16 : Int32, v16 = S14.a 506 j15 →
  ∃ J17 : MS → Prop, (∀  (S18 : MS), J17  S18 →
  ∃ j19 : Nat, x2 = nI j19 ∧ j19 < 16 ∧
  ∀ v20 : Int32, v20 = S18.a 506 j19 →
  ∃ j21 : Nat, x1 = nI j21 ∧ j21 < 16 ∧
  ∀ v22 : Int32, v22 = S18.a 506 j21 →
  ∀ v23 : Int32, v23 = v20 + v22 →
  ∃ j24 : Nat, x2 = nI j24 ∧ j24 < 16 ∧
  ∀ S25 : MS, S25 = S18.setA 506 j24 v23 →
  ∃ j26 : Nat, x1 = nI j26 ∧ j26 < 16 ∧
  ∀ S27 : MS, S27 = S25.setA 504 j26 (0 : Int32) →
  ∃ j28 : Nat, x1 = nI j28 ∧ j28 < 16 ∧
  ∀ S29 : MS, S29 = S27.setA 505 j28 (0 : Int32) →
  ∃ j30 : Nat, x1 = nI j30 ∧ j30 < 16 ∧
  ∀ S31 : MS, S31 = S29.setA 506 j30 (0 : Int32) →
  ∃ j32 : Nat, x1 = nI j32 ∧ j32 < 16 ∧
  ∀ S33 : MS, S33 = S31.setA 512 j32 (vp_nar .boolean (1 : Int32)) →
  Q S33) ∧
  (v16 ≤ 0 → J17 S14) ∧ (¬ v16 ≤ 0 → ∃ j34 : Nat, x2 = nI j34 ∧ j34 < 16 ∧
  ∀ v35 : Int32, v35 = S14.a 506 j34 →
  (¬ v35 = 0 → J17 S14) ∧ (v35 = 0 → ∃ j36 : Nat, x1 = nI j36 ∧ j36 < 16 ∧
  ∀ v37 : Int32, v37 = S14.a 507 j36 →
  ∃ j38 : Nat, x2 = nI j38 ∧ j38 < 16 ∧
  ∀ S39 : MS, S39 = S14.setA 507 j38 v37 →
  ∃ j40 : Nat, x1 = nI j40 ∧ j40 < 16 ∧
  ∀ v41 : Int32, v41 = S39.a 508 j40 →
  ∃ j42 : Nat, x2 = nI j42 ∧ j42 < 16 ∧
  ∀ S43 : MS, S43 = S39.setA 508 j42 v41 →
  ∃ j44 : Nat, x1 = nI j44 ∧ j44 < 16 ∧
  ∀ v45 : Int32, v45 = S43.a 509 j44 →
  ∃ j46 : Nat, x2 = nI j46 ∧ j46 < 16 ∧
  ∀ S47 : MS, S47 = S43.setA 509 j46 v45 →
  J17 S47))
set_option maxHeartbeats 4000000 in
set_option maxRecDepth 100000 in
theorem r_X4_leaves {mo : Nat} {ma : Nat → Nat} {x1 : Int32} {x2 : Int32} {w : Wd} {S : MS} {Q : Wd → Prop} {Q1 : MS → Prop} (hR : RepM w mo ma S) (h : sp_X4_leaves x1 x2 S Q1) (hQ : ∀ S1 w1, Q1 S1 → FrM mo ma w w1 → RepM w1 mo ma S1 → Q w1) : wp_X4_leaves mo x1 x2 w Q := by
  have hF : FrM mo ma w w := FrM.rfl
  unfold sp_X4_leaves at h
  unfold wp_X4_leaves
  refine ⟨hR.1, fun z hz => ?_⟩; replace hz := hz.trans (hR.2.2.1 504 (by decide)).1; subst hz
  obtain ⟨j1, hi, hj, h⟩ := h
  refine ⟨ma 504, rfl, (hR.2.2.1 504 (by decide)).2.1, j1, hi, by rw [(hR.2.2.1 504 (by decide)).2.2.1]; exact hj, by rw [(hR.2.2.1 504 (by decide)).2.2.1]; decide, fun v2 hv => ?_⟩; replace h := h v2 (hv.trans ((hR.2.2.1 504 (by decide)).2.2.2 j1)); clear hv hi hj
  refine ⟨hR.1, fun z hz => ?_⟩; replace hz := hz.trans (hR.2.2.1 504 (by decide)).1; subst hz
  obtain ⟨j3, hi, hj, h⟩ := h
  refine ⟨ma 504, rfl, (hR.2.2.1 504 (by decide)).2.1, j3, hi, by rw [(hR.2.2.1 504 (by decide)).2.2.1]; exact hj, by rw [(hR.2.2.1 504 (by decide)).2.2.1]; decide, fun v4 hv => ?_⟩; replace h := h v4 (hv.trans ((hR.2.2.1 504 (by decide)).2.2.2 j3)); clear hv hi hj
  intro v5 hv; replace h := h v5 hv; clear hv
  obtain ⟨j6, hi, hj, h⟩ := h
  refine ⟨(hR.2.2.1 504 (by decide)).2.1, j6, hi, by rw [(hR.2.2.1 504 (by decide)).2.2.1]; exact hj, by rw [(hR.2.2.1 504 (by decide)).2.2.1]; decide, fun w1 hw => ?_⟩; obtain ⟨S7, hS⟩ : ∃ z, z = S.setA 504 j6 v5 := ⟨_, rfl⟩; replace h := h S7 hS; replace hF := hF.trans (FrM.putA (by decide) hw); replace hR := hR.putA (by decide) hw hS; clear hw hS hi hj
  refine ⟨hR.1, fun z hz => ?_⟩; replace hz := hz.trans (hR.2.2.1 505 (by decide)).1; subst hz
  obtain ⟨j8, hi, hj, h⟩ := h
  refine ⟨ma 505, rfl, (hR.2.2.1 505 (by decide)).2.1, j8, hi, by rw [(hR.2.2.1 505 (by decide)).2.2.1]; exact hj, by rw [(hR.2.2.1 505 (by decide)).2.2.1]; decide, fun v9 hv => ?_⟩; replace h := h v9 (hv.trans ((hR.2.2.1 505 (by decide)).2.2.2 j8)); clear hv hi hj
  refine ⟨hR.1, fun z hz => ?_⟩; replace hz := hz.trans (hR.2.2.1 505 (by decide)).1; subst hz
  obtain ⟨j10, hi, hj, h⟩ := h
  refine ⟨ma 505, rfl, (hR.2.2.1 505 (by decide)).2.1, j10, hi, by rw [(hR.2.2.1 505 (by decide)).2.2.1]; exact hj, by rw [(hR.2.2.1 505 (by decide)).2.2.1]; decide, fun v11 hv => ?_⟩; replace h := h v11 (hv.trans ((hR.2.2.1 505 (by decide)).2.2.2 j10)); clear hv hi hj
  intro v12 hv; replace h := h v12 hv; clear hv
  obtain ⟨j13, hi, hj, h⟩ := h
  refine ⟨(hR.2.2.1 505 (by decide)).2.1, j13, hi, by rw [(hR.2.2.1 505 (by decide)).2.2.1]; exact hj, by rw [(hR.2.2.1 505 (by decide)).2.2.1]; decide, fun w1 hw => ?_⟩; obtain ⟨S14, hS⟩ : ∃ z, z = S7.setA 505 j13 v12 := ⟨_, rfl⟩; replace h := h S14 hS; replace hF := hF.trans (FrM.putA (by decide) hw); replace hR := hR.putA (by decide) hw hS; clear hw hS hi hj
  refine ⟨hR.1, fun z hz => ?_⟩; replace hz := hz.trans (hR.2.2.1 506 (by decide)).1; subst hz
  obtain ⟨j15, hi, hj, h⟩ := h
  refine ⟨ma 506, rfl, (hR.2.2.1 506 (by decide)).2.1, j15, hi, by rw [(hR.2.2.1 506 (by decide)).2.2.1]; exact hj, by rw [(hR.2.2.1 506 (by decide)).2.2.1]; decide, fun v16 hv => ?_⟩; replace h := h v16 (hv.trans ((hR.2.2.1 506 (by decide)).2.2.2 j15)); clear hv hi hj
  obtain ⟨J17, hjJ17, h⟩ := h
  refine ⟨fun  w1 => ∃ S1, J17  S1 ∧ FrM mo ma w w1 ∧ RepM w1 mo ma S1, fun  w1 hJ => ?_, ?_⟩
  · obtain ⟨S18, hJ, hF, hR⟩ := hJ
    have h := hjJ17  S18 hJ; clear hJ
    refine ⟨hR.1, fun z hz => ?_⟩; replace hz := hz.trans (hR.2.2.1 506 (by decide)).1; subst hz
    obtain ⟨j19, hi, hj, h⟩ := h
    refine ⟨ma 506, rfl, (hR.2.2.1 506 (by decide)).2.1, j19, hi, by rw [(hR.2.2.1 506 (by decide)).2.2.1]; exact hj, by rw [(hR.2.2.1 506 (by decide)).2.2.1]; decide, fun v20 hv => ?_⟩; replace h := h v20 (hv.trans ((hR.2.2.1 506 (by decide)).2.2.2 j19)); clear hv hi hj
    refine ⟨hR.1, fun z hz => ?_⟩; replace hz := hz.trans (hR.2.2.1 506 (by decide)).1; subst hz
    obtain ⟨j21, hi, hj, h⟩ := h
    refine ⟨ma 506, rfl, (hR.2.2.1 506 (by decide)).2.1, j21, hi, by rw [(hR.2.2.1 506 (by decide)).2.2.1]; exact hj, by rw [(hR.2.2.1 506 (by decide)).2.2.1]; decide, fun v22 hv => ?_⟩; replace h := h v22 (hv.trans ((hR.2.2.1 506 (by decide)).2.2.2 j21)); clear hv hi hj
    intro v23 hv; replace h := h v23 hv; clear hv
    obtain ⟨j24, hi, hj, h⟩ := h
    refine ⟨(hR.2.2.1 506 (by decide)).2.1, j24, hi, by rw [(hR.2.2.1 506 (by decide)).2.2.1]; exact hj, by rw [(hR.2.2.1 506 (by decide)).2.2.1]; decide, fun w1 hw => ?_⟩; obtain ⟨S25, hS⟩ : ∃ z, z = S18.setA 506 j24 v23 := ⟨_, rfl⟩; replace h := h S25 hS; replace hF := hF.trans (FrM.putA (by decide) hw); replace hR := hR.putA (by decide) hw hS; clear hw hS hi hj
    refine ⟨hR.1, fun z hz => ?_⟩; replace hz := hz.trans (hR.2.2.1 504 (by decide)).1; subst hz
    obtain ⟨j26, hi, hj, h⟩ := h
    refine ⟨ma 504, rfl, (hR.2.2.1 504 (by decide)).2.1, j26, hi, by rw [(hR.2.2.1 504 (by decide)).2.2.1]; exact hj, by rw [(hR.2.2.1 504 (by decide)).2.2.1]; decide, fun w1 hw => ?_⟩; obtain ⟨S27, hS⟩ : ∃ z, z = S25.setA 504 j26 (0 : Int32) := ⟨_, rfl⟩; replace h := h S27 hS; replace hF := hF.trans (FrM.putA (by decide) hw); replace hR := hR.putA (by decide) hw hS; clear hw hS hi hj
    refine ⟨hR.1, fun z hz => ?_⟩; replace hz := hz.trans (hR.2.2.1 505 (by decide)).1; subst hz
    obtain ⟨j28, hi, hj, h⟩ := h
    refine ⟨ma 505, rfl, (hR.2.2.1 505 (by decide)).2.1, j28, hi, by rw [(hR.2.2.1 505 (by decide)).2.2.1]; exact hj, by rw [(hR.2.2.1 505 (by decide)).2.2.1]; decide, fun w1 hw => ?_⟩; obtain ⟨S29, hS⟩ : ∃ z, z = S27.setA 505 j28 (0 : Int32) := ⟨_, rfl⟩; replace h := h S29 hS; replace hF := hF.trans (FrM.putA (by decide) hw); replace hR := hR.putA (by decide) hw hS; clear hw hS hi hj
    refine ⟨hR.1, fun z hz => ?_⟩; replace hz := hz.trans (hR.2.2.1 506 (by decide)).1; subst hz
    obtain ⟨j30, hi, hj, h⟩ := h
    refine ⟨ma 506, rfl, (hR.2.2.1 506 (by decide)).2.1, j30, hi, by rw [(hR.2.2.1 506 (by decide)).2.2.1]; exact hj, by rw [(hR.2.2.1 506 (by decide)).2.2.1]; decide, fun w1 hw => ?_⟩; obtain ⟨S31, hS⟩ : ∃ z, z = S29.setA 506 j30 (0 : Int32) := ⟨_, rfl⟩; replace h := h S31 hS; replace hF := hF.trans (FrM.putA (by decide) hw); replace hR := hR.putA (by decide) hw hS; clear hw hS hi hj
    refine ⟨hR.1, fun z hz => ?_⟩; replace hz := hz.trans (hR.2.2.1 512 (by decide)).1; subst hz
    obtain ⟨j32, hi, hj, h⟩ := h
    refine ⟨ma 512, rfl, (hR.2.2.1 512 (by decide)).2.1, j32, hi, by rw [(hR.2.2.1 512 (by decide)).2.2.1]; exact hj, by rw [(hR.2.2.1 512 (by decide)).2.2.1]; decide, fun w1 hw => ?_⟩; obtain ⟨S33, hS⟩ : ∃ z, z = S31.setA 512 j32 (vp_nar .boolean (1 : Int32)) := ⟨_, rfl⟩; replace h := h S33 hS; replace hF := hF.trans (FrM.putA (by decide) hw); replace hR := hR.putA (by decide) hw hS; clear hw hS hi hj
    exact hQ _ _ h hF hR
  refine ⟨fun hc => ?_, fun hc => ?_⟩
  · replace h := h.1 hc; clear hc
    exact ⟨_, h, hF, hR⟩
  · replace h := h.2 hc; clear hc
    refine ⟨hR.1, fun z hz => ?_⟩; replace hz := hz.trans (hR.2.2.1 506 (by decide)).1; subst hz
    obtain ⟨j34, hi, hj, h⟩ := h
    refine ⟨ma 506, rfl, (hR.2.2.1 506 (by decide)).2.1, j34, hi, by rw [(hR.2.2.1 506 (by decide)).2.2.1]; exact hj, by rw [(hR.2.2.1 506 (by decide)).2.2.1]; decide, fun v35 hv => ?_⟩; replace h := h v35 (hv.trans ((hR.2.2.1 506 (by decide)).2.2.2 j34)); clear hv hi hj
    refine ⟨fun hc => ?_, fun hc => ?_⟩
    · replace h := h.1 hc; clear hc
      exact ⟨_, h, hF, hR⟩
    · replace h := h.2 hc; clear hc
      refine ⟨hR.1, fun z hz => ?_⟩; replace hz := hz.trans (hR.2.2.1 507 (by decide)).1; subst hz
      refine ⟨hR.1, fun z hz => ?_⟩; replace hz := hz.trans (hR.2.2.1 507 (by decide)).1; subst hz
      obtain ⟨j36, hi, hj, h⟩ := h
      refine ⟨ma 507, rfl, (hR.2.2.1 507 (by decide)).2.1, j36, hi, by rw [(hR.2.2.1 507 (by decide)).2.2.1]; exact hj, by rw [(hR.2.2.1 507 (by decide)).2.2.1]; decide, fun v37 hv => ?_⟩; replace h := h v37 (hv.trans ((hR.2.2.1 507 (by decide)).2.2.2 j36)); clear hv hi hj
      obtain ⟨j38, hi, hj, h⟩ := h
      refine ⟨ma 507, rfl, (hR.2.2.1 507 (by decide)).2.1, j38, hi, by rw [(hR.2.2.1 507 (by decide)).2.2.1]; exact hj, by rw [(hR.2.2.1 507 (by decide)).2.2.1]; decide, fun w1 hw => ?_⟩; obtain ⟨S39, hS⟩ : ∃ z, z = S14.setA 507 j38 v37 := ⟨_, rfl⟩; replace h := h S39 hS; replace hF := hF.trans (FrM.putA (by decide) hw); replace hR := hR.putA (by decide) hw hS; clear hw hS hi hj
      refine ⟨hR.1, fun z hz => ?_⟩; replace hz := hz.trans (hR.2.2.1 508 (by decide)).1; subst hz
      refine ⟨hR.1, fun z hz => ?_⟩; replace hz := hz.trans (hR.2.2.1 508 (by decide)).1; subst hz
      obtain ⟨j40, hi, hj, h⟩ := h
      refine ⟨ma 508, rfl, (hR.2.2.1 508 (by decide)).2.1, j40, hi, by rw [(hR.2.2.1 508 (by decide)).2.2.1]; exact hj, by rw [(hR.2.2.1 508 (by decide)).2.2.1]; decide, fun v41 hv => ?_⟩; replace h := h v41 (hv.trans ((hR.2.2.1 508 (by decide)).2.2.2 j40)); clear hv hi hj
      obtain ⟨j42, hi, hj, h⟩ := h
      refine ⟨ma 508, rfl, (hR.2.2.1 508 (by decide)).2.1, j42, hi, by rw [(hR.2.2.1 508 (by decide)).2.2.1]; exact hj, by rw [(hR.2.2.1 508 (by decide)).2.2.1]; decide, fun w1 hw => ?_⟩; obtain ⟨S43, hS⟩ : ∃ z, z = S39.setA 508 j42 v41 := ⟨_, rfl⟩; replace h := h S43 hS; replace hF := hF.trans (FrM.putA (by decide) hw); replace hR := hR.putA (by decide) hw hS; clear hw hS hi hj
      refine ⟨hR.1, fun z hz => ?_⟩; replace hz := hz.trans (hR.2.2.1 509 (by decide)).1; subst hz
      refine ⟨hR.1, fun z hz => ?_⟩; replace hz := hz.trans (hR.2.2.1 509 (by decide)).1; subst hz
      obtain ⟨j44, hi, hj, h⟩ := h
      refine ⟨ma 509, rfl, (hR.2.2.1 509 (by decide)).2.1, j44, hi, by rw [(hR.2.2.1 509 (by decide)).2.2.1]; exact hj, by rw [(hR.2.2.1 509 (by decide)).2.2.1]; decide, fun v45 hv => ?_⟩; replace h := h v45 (hv.trans ((hR.2.2.1 509 (by decide)).2.2.2 j44)); clear hv hi hj
      obtain ⟨j46, hi, hj, h⟩ := h
      refine ⟨ma 509, rfl, (hR.2.2.1 509 (by decide)).2.1, j46, hi, by rw [(hR.2.2.1 509 (by decide)).2.2.1]; exact hj, by rw [(hR.2.2.1 509 (by decide)).2.2.1]; decide, fun w1 hw => ?_⟩; obtain ⟨S47, hS⟩ : ∃ z, z = S43.setA 509 j46 v45 := ⟨_, rfl⟩; replace h := h S47 hS; replace hF := hF.trans (FrM.putA (by decide) hw); replace hR := hR.putA (by decide) hw hS; clear hw hS hi hj
      exact ⟨_, h, hF, hR⟩

def sp_X4_die (x1 : Int32) (x2 : Int32) (S : MS) (Q : Int32 → MS → Prop) : Prop :=
  sp_X4_isOne x1 S (fun v2 S1 => 
  ∃ J3 : Int32 → MS → Prop, (∀ (y4 : Int32) (S5 : MS), J3 y4 S5 →
  ∀ S6 : MS, S6 = S5.setS 500 y4 →
  ∀ v7 : Int32, v7 = S6.s 500 →
  (v7 = 0 → sp_X4_leaves x1 x2 S6 (fun S8 => 
  ∃ Inv10 : Nat → Int32 → Int32 → MS → Prop, (∃ n : Nat, Inv10 n (0 : Int32) (0 : Int32) S8) ∧ ∀ (n9 : Nat) (y11 : Int32) (y12 : Int32) (S13 : MS), Inv10 n9 y11 y12 S13 →
  ∀ v14 : Int32, v14 = S13.s 513 →
  (v14 ≤ y12 → Q y11 S13) ∧ (¬ v14 ≤ y12 → sp_X4_placeOf y12 x1 S13 (fun v16 S15 => 
  sp_X4_placeOf y12 x2 S15 (fun v18 S17 => 
  ∃ J19 : Int32 → MS → Prop, (∀ (y20 : Int32) (S21 : MS), J19 y20 S21 →
  ∀ v22 : Int32, v22 = y12 + (1 : Int32) →
  ∃ n : Nat, n < n9 ∧ Inv10 n y20 v22 S21) ∧
  ∃ J23 : Prop, (J23 →
  (v16 < 0 → J19 y11 S17) ∧ (¬ v16 < 0 → ∀ v24 : Int32, v24 = (10 : Int32) * y12 →
  ∀ v25 : Int32, v25 = v24 + v16 →
  ∃ j26 : Nat, v25 = nI j26 ∧ j26 < 40 ∧
  ∀ S27 : MS, S27 = S17.setA 521 j26 x2 →
  ∀ v28 : Int32, v28 = y11 + (1 : Int32) →
  J19 v28 S27)) ∧
  (v16 < 0 → J23) ∧ (¬ v16 < 0 → (v18 < 0 → J23) ∧ (¬ v18 < 0 → ∀ v29 : Int32, v29 = (10 : Int32) * y12 →
  ∀ v30 : Int32, v30 = v29 + v18 →
  ∃ j31 : Nat, v30 = nI j31 ∧ j31 < 40 ∧
  ∀ v32 : Int32, v32 = S17.a 522 j31 →
  ∀ v33 : Int32, v33 = (10 : Int32) * y12 →
  ∀ v34 : Int32, v34 = v33 + v16 →
  ∃ j35 : Nat, v34 = nI j35 ∧ j35 < 40 ∧
  ∀ v36 : Int32, v36 = S17.a 522 j35 →
  ∀ v37 : Int32, v37 = v32 + v36 →
  ∃ j38 : Nat, v30 = nI j38 ∧ j38 < 40 ∧
  ∀ S39 : MS, S39 = S17.setA 522 j38 v37 →
  sp_X4_goes y12 v16 S39 (fun S40 => 
  J19 y11 S40)))))))) ∧ (¬ v7 = 0 → Q (0 : Int32) S6)) ∧
  ∃ J41 : MS → Prop, (∀  (S42 : MS), J41  S42 →
  J3 (1 : Int32) S42) ∧
  (v2 = 0 → J41 S1) ∧ (¬ v2 = 0 → sp_X4_isOne x2 S1 (fun v44 S43 => 
  (¬ v44 = 0 → (¬ x1 = x2 → ∃ j45 : Nat, x1 = nI j45 ∧ j45 < 16 ∧
  ∀ v46 : Int32, v46 = S43.a 512 j45 →
  ∃ J47 : Prop, (J47 →
  J3 (3 : Int32) S43) ∧
  (¬ v46 = 0 → J47) ∧ (v46 = 0 → ∃ j48 : Nat, x2 = nI j48 ∧ j48 < 16 ∧
  ∀ v49 : Int32, v49 = S43.a 512 j48 →
  (¬ v49 = 0 → J47) ∧ (v49 = 0 → ∃ j50 : Nat, x1 = nI j50 ∧ j50 < 16 ∧
  ∀ v51 : Int32, v51 = S43.a 505 j50 →
  ∃ j52 : Nat, x2 = nI j52 ∧ j52 < 16 ∧
  ∀ v53 : Int32, v53 = S43.a 505 j52 →
  ∀ v54 : Int32, v54 = v51 + v53 →
  (v54 ≤ (100 : Int32) → J3 (0 : Int32) S43) ∧ (¬ v54 ≤ (100 : Int32) → J47)))) ∧ (x1 = x2 → J3 (2 : Int32) S43)) ∧ (v44 = 0 → J41 S43))))
set_option maxHeartbeats 4000000 in
set_option maxRecDepth 100000 in
theorem r_X4_die {mo : Nat} {ma : Nat → Nat} {x1 : Int32} {x2 : Int32} {w : Wd} {S : MS} {Q : Int32 → Wd → Prop} {Q1 : Int32 → MS → Prop} (hR : RepM w mo ma S) (h : sp_X4_die x1 x2 S Q1) (hQ : ∀ r S1 w1, Q1 r S1 → FrM mo ma w w1 → RepM w1 mo ma S1 → Q r w1) : wp_X4_die mo x1 x2 w Q := by
  have hF : FrM mo ma w w := FrM.rfl
  unfold sp_X4_die at h
  unfold wp_X4_die
  refine ⟨hR.1, r_X4_isOne hR h (fun v2 S1 w1 h hF1 hR1 => ?_)⟩; replace hF := hF.trans hF1; replace hR := hR1; clear hF1 hR1
  obtain ⟨J3, hjJ3, h⟩ := h
  refine ⟨fun z0_40 y4 w1 => ∃ S1, z0_40 = (some mo) ∧ J3 y4 S1 ∧ FrM mo ma w w1 ∧ RepM w1 mo ma S1, fun z0_40 y4 w1 hJ => ?_, ?_⟩
  · obtain ⟨S5, rfl, hJ, hF, hR⟩ := hJ
    have h := hjJ3 y4 S5 hJ; clear hJ
    refine ⟨mo, rfl, hR.1, fun w1 hw => ?_⟩; obtain ⟨S6, hS⟩ : ∃ z, z = S5.setS 500 y4 := ⟨_, rfl⟩; replace h := h S6 hS; replace hF := hF.trans (FrM.putS (by decide) hw); replace hR := hR.putS (by decide) hw hS; clear hw hS
    refine ⟨hR.1, fun v7 hv => ?_⟩; replace h := h v7 (hv.trans (hR.2.1 500 (by decide))); clear hv
    refine ⟨fun hc => ?_, fun hc => ?_⟩
    · replace h := h.1 hc; clear hc
      refine ⟨hR.1, r_X4_leaves hR h (fun S8 w1 h hF1 hR1 => ?_)⟩; replace hF := hF.trans hF1; replace hR := hR1; clear hF1 hR1
      obtain ⟨Inv10, ⟨n0, hi⟩, hsn9⟩ := h
      refine ⟨fun n y11 y12 w1 => ∃ S1, Inv10 n y11 y12 S1 ∧ FrM mo ma w w1 ∧ RepM w1 mo ma S1, ⟨n0, _, hi, hF, hR⟩, fun n9 y11 y12 w1 hI => ?_⟩
      obtain ⟨S13, hI, hF, hR⟩ := hI
      have h := hsn9 n9 y11 y12 S13 hI; clear hI
      refine ⟨hR.1, fun v14 hv => ?_⟩; replace h := h v14 (hv.trans (hR.2.1 513 (by decide))); clear hv
      refine ⟨fun hc => ?_, fun hc => ?_⟩
      · replace h := h.1 hc; clear hc
        exact hQ _ _ _ h hF hR
      · replace h := h.2 hc; clear hc
        refine ⟨hR.1, r_X4_placeOf hR h (fun v16 S15 w1 h hF1 hR1 => ?_)⟩; replace hF := hF.trans hF1; replace hR := hR1; clear hF1 hR1
        refine ⟨hR.1, r_X4_placeOf hR h (fun v18 S17 w1 h hF1 hR1 => ?_)⟩; replace hF := hF.trans hF1; replace hR := hR1; clear hF1 hR1
        obtain ⟨J19, hjJ19, h⟩ := h
        refine ⟨fun y20 w1 => ∃ S1, J19 y20 S1 ∧ FrM mo ma w w1 ∧ RepM w1 mo ma S1, fun y20 w1 hJ => ?_, ?_⟩
        · obtain ⟨S21, hJ, hF, hR⟩ := hJ
          have h := hjJ19 y20 S21 hJ; clear hJ
          intro v22 hv; replace h := h v22 hv; clear hv
          obtain ⟨n, hn, h⟩ := h
          exact ⟨n, hn, _, h, hF, hR⟩
        obtain ⟨J23, hjJ23, h⟩ := h
        refine ⟨J23, fun hJ => ?_, ?_⟩
        · have h := hjJ23 hJ; clear hJ
          refine ⟨fun hc => ?_, fun hc => ?_⟩
          · replace h := h.1 hc; clear hc
            exact ⟨_, h, hF, hR⟩
          · replace h := h.2 hc; clear hc
            refine ⟨hR.1, fun z hz => ?_⟩; replace hz := hz.trans (hR.2.2.1 521 (by decide)).1; subst hz
            intro v24 hv; replace h := h v24 hv; clear hv
            intro v25 hv; replace h := h v25 hv; clear hv
            obtain ⟨j26, hi, hj, h⟩ := h
            refine ⟨ma 521, rfl, (hR.2.2.1 521 (by decide)).2.1, j26, hi, by rw [(hR.2.2.1 521 (by decide)).2.2.1]; exact hj, by rw [(hR.2.2.1 521 (by decide)).2.2.1]; decide, fun w1 hw => ?_⟩; obtain ⟨S27, hS⟩ : ∃ z, z = S17.setA 521 j26 x2 := ⟨_, rfl⟩; replace h := h S27 hS; replace hF := hF.trans (FrM.putA (by decide) hw); replace hR := hR.putA (by decide) hw hS; clear hw hS hi hj
            intro v28 hv; replace h := h v28 hv; clear hv
            exact ⟨_, h, hF, hR⟩
        refine ⟨fun hc => ?_, fun hc => ?_⟩
        · replace h := h.1 hc; clear hc
          exact h
        · replace h := h.2 hc; clear hc
          refine ⟨fun hc => ?_, fun hc => ?_⟩
          · replace h := h.1 hc; clear hc
            exact h
          · replace h := h.2 hc; clear hc
            refine ⟨hR.1, fun z hz => ?_⟩; replace hz := hz.trans (hR.2.2.1 522 (by decide)).1; subst hz
            intro v29 hv; replace h := h v29 hv; clear hv
            intro v30 hv; replace h := h v30 hv; clear hv
            obtain ⟨j31, hi, hj, h⟩ := h
            refine ⟨ma 522, rfl, (hR.2.2.1 522 (by decide)).2.1, j31, hi, by rw [(hR.2.2.1 522 (by decide)).2.2.1]; exact hj, by rw [(hR.2.2.1 522 (by decide)).2.2.1]; decide, fun v32 hv => ?_⟩; replace h := h v32 (hv.trans ((hR.2.2.1 522 (by decide)).2.2.2 j31)); clear hv hi hj
            refine ⟨hR.1, fun z hz => ?_⟩; replace hz := hz.trans (hR.2.2.1 522 (by decide)).1; subst hz
            intro v33 hv; replace h := h v33 hv; clear hv
            intro v34 hv; replace h := h v34 hv; clear hv
            obtain ⟨j35, hi, hj, h⟩ := h
            refine ⟨ma 522, rfl, (hR.2.2.1 522 (by decide)).2.1, j35, hi, by rw [(hR.2.2.1 522 (by decide)).2.2.1]; exact hj, by rw [(hR.2.2.1 522 (by decide)).2.2.1]; decide, fun v36 hv => ?_⟩; replace h := h v36 (hv.trans ((hR.2.2.1 522 (by decide)).2.2.2 j35)); clear hv hi hj
            intro v37 hv; replace h := h v37 hv; clear hv
            obtain ⟨j38, hi, hj, h⟩ := h
            refine ⟨(hR.2.2.1 522 (by decide)).2.1, j38, hi, by rw [(hR.2.2.1 522 (by decide)).2.2.1]; exact hj, by rw [(hR.2.2.1 522 (by decide)).2.2.1]; decide, fun w1 hw => ?_⟩; obtain ⟨S39, hS⟩ : ∃ z, z = S17.setA 522 j38 v37 := ⟨_, rfl⟩; replace h := h S39 hS; replace hF := hF.trans (FrM.putA (by decide) hw); replace hR := hR.putA (by decide) hw hS; clear hw hS hi hj
            refine ⟨hR.1, r_X4_goes hR h (fun S40 w1 h hF1 hR1 => ?_)⟩; replace hF := hF.trans hF1; replace hR := hR1; clear hF1 hR1
            exact ⟨_, h, hF, hR⟩
    · replace h := h.2 hc; clear hc
      exact hQ _ _ _ h hF hR
  obtain ⟨J41, hjJ41, h⟩ := h
  refine ⟨fun z0_42 w1 => ∃ S1, z0_42 = (some mo) ∧ J41  S1 ∧ FrM mo ma w w1 ∧ RepM w1 mo ma S1, fun z0_42 w1 hJ => ?_, ?_⟩
  · obtain ⟨S42, rfl, hJ, hF, hR⟩ := hJ
    have h := hjJ41  S42 hJ; clear hJ
    exact ⟨_, rfl, h, hF, hR⟩
  refine ⟨fun hc => ?_, fun hc => ?_⟩
  · replace h := h.1 hc; clear hc
    exact ⟨_, rfl, h, hF, hR⟩
  · replace h := h.2 hc; clear hc
    refine ⟨hR.1, r_X4_isOne hR h (fun v44 S43 w1 h hF1 hR1 => ?_)⟩; replace hF := hF.trans hF1; replace hR := hR1; clear hF1 hR1
    refine ⟨fun hc => ?_, fun hc => ?_⟩
    · replace h := h.1 hc; clear hc
      refine ⟨fun hc => ?_, fun hc => ?_⟩
      · replace h := h.1 hc; clear hc
        refine ⟨hR.1, fun z hz => ?_⟩; replace hz := hz.trans (hR.2.2.1 512 (by decide)).1; subst hz
        obtain ⟨j45, hi, hj, h⟩ := h
        refine ⟨ma 512, rfl, (hR.2.2.1 512 (by decide)).2.1, j45, hi, by rw [(hR.2.2.1 512 (by decide)).2.2.1]; exact hj, by rw [(hR.2.2.1 512 (by decide)).2.2.1]; decide, fun v46 hv => ?_⟩; replace h := h v46 (hv.trans ((hR.2.2.1 512 (by decide)).2.2.2 j45)); clear hv hi hj
        obtain ⟨J47, hjJ47, h⟩ := h
        refine ⟨fun z0_47 => z0_47 = (some mo) ∧ J47 , fun z0_47 hJ => ?_, ?_⟩
        · obtain ⟨rfl, hJ⟩ := hJ
          have h := hjJ47  hJ; clear hJ
          exact ⟨_, rfl, h, hF, hR⟩
        refine ⟨fun hc => ?_, fun hc => ?_⟩
        · replace h := h.1 hc; clear hc
          exact ⟨rfl, h⟩
        · replace h := h.2 hc; clear hc
          refine ⟨hR.1, fun z hz => ?_⟩; replace hz := hz.trans (hR.2.2.1 512 (by decide)).1; subst hz
          obtain ⟨j48, hi, hj, h⟩ := h
          refine ⟨ma 512, rfl, (hR.2.2.1 512 (by decide)).2.1, j48, hi, by rw [(hR.2.2.1 512 (by decide)).2.2.1]; exact hj, by rw [(hR.2.2.1 512 (by decide)).2.2.1]; decide, fun v49 hv => ?_⟩; replace h := h v49 (hv.trans ((hR.2.2.1 512 (by decide)).2.2.2 j48)); clear hv hi hj
          refine ⟨fun hc => ?_, fun hc => ?_⟩
          · replace h := h.1 hc; clear hc
            exact ⟨rfl, h⟩
          · replace h := h.2 hc; clear hc
            refine ⟨hR.1, fun z hz => ?_⟩; replace hz := hz.trans (hR.2.2.1 505 (by decide)).1; subst hz
            obtain ⟨j50, hi, hj, h⟩ := h
            refine ⟨ma 505, rfl, (hR.2.2.1 505 (by decide)).2.1, j50, hi, by rw [(hR.2.2.1 505 (by decide)).2.2.1]; exact hj, by rw [(hR.2.2.1 505 (by decide)).2.2.1]; decide, fun v51 hv => ?_⟩; replace h := h v51 (hv.trans ((hR.2.2.1 505 (by decide)).2.2.2 j50)); clear hv hi hj
            refine ⟨hR.1, fun z hz => ?_⟩; replace hz := hz.trans (hR.2.2.1 505 (by decide)).1; subst hz
            obtain ⟨j52, hi, hj, h⟩ := h
            refine ⟨ma 505, rfl, (hR.2.2.1 505 (by decide)).2.1, j52, hi, by rw [(hR.2.2.1 505 (by decide)).2.2.1]; exact hj, by rw [(hR.2.2.1 505 (by decide)).2.2.1]; decide, fun v53 hv => ?_⟩; replace h := h v53 (hv.trans ((hR.2.2.1 505 (by decide)).2.2.2 j52)); clear hv hi hj
            intro v54 hv; replace h := h v54 hv; clear hv
            refine ⟨fun hc => ?_, fun hc => ?_⟩
            · replace h := h.1 hc; clear hc
              exact ⟨_, rfl, h, hF, hR⟩
            · replace h := h.2 hc; clear hc
              exact ⟨rfl, h⟩
      · replace h := h.2 hc; clear hc
        exact ⟨_, rfl, h, hF, hR⟩
    · replace h := h.2 hc; clear hc
      exact ⟨_, rfl, h, hF, hR⟩

def sp_X4_circle (x1 : Int32) (x2 : Int32) (S : MS) (Q : Int32 → MS → Prop) : Prop :=
  sp_X4_in x1 (1 : Int32) (1000 : Int32) S (fun v2 S1 => 
  ∃ J3 : Int32 → MS → Prop, (∀ (y4 : Int32) (S5 : MS), J3 y4 S5 →
  ∀ S6 : MS, S6 = S5.setS 500 y4 →
  ∀ v7 : Int32, v7 = S6.s 500 →
  (v7 = 0 → ∀ v8 : Int32, v8 = S6.s 513 →
  ∃ j9 : Nat, v8 = nI j9 ∧ j9 < 4 ∧
  ∀ S10 : MS, S10 = S6.setA 514 j9 x1 →
  ∀ v11 : Int32, v11 = S10.s 513 →
  ∃ j12 : Nat, v11 = nI j12 ∧ j12 < 4 ∧
  ∀ S13 : MS, S13 = S10.setA 515 j12 x2 →
  ∀ v14 : Int32, v14 = S13.s 513 →
  ∀ v15 : Int32, v15 = v14 + (1 : Int32) →
  ∀ S16 : MS, S16 = S13.setS 513 v15 →
  ∀ v17 : Int32, v17 = S16.s 513 →
  ∀ v18 : Int32, v18 = v17 - (1 : Int32) →
  Q v18 S16) ∧ (¬ v7 = 0 → Q (0 : Int32) S6)) ∧
  ∃ J19 : MS → Prop, (∀  (S20 : MS), J19  S20 →
  J3 (1 : Int32) S20) ∧
  (v2 = 0 → J19 S1) ∧ (¬ v2 = 0 → sp_X4_in x2 (0 : Int32) (3 : Int32) S1 (fun v22 S21 => 
  (¬ v22 = 0 → ∀ v23 : Int32, v23 = S21.s 513 →
  (¬ v23 = (4 : Int32) → J3 (0 : Int32) S21) ∧ (v23 = (4 : Int32) → J3 (2 : Int32) S21)) ∧ (v22 = 0 → J19 S21))))
set_option maxHeartbeats 4000000 in
set_option maxRecDepth 100000 in
theorem r_X4_circle {mo : Nat} {ma : Nat → Nat} {x1 : Int32} {x2 : Int32} {w : Wd} {S : MS} {Q : Int32 → Wd → Prop} {Q1 : Int32 → MS → Prop} (hR : RepM w mo ma S) (h : sp_X4_circle x1 x2 S Q1) (hQ : ∀ r S1 w1, Q1 r S1 → FrM mo ma w w1 → RepM w1 mo ma S1 → Q r w1) : wp_X4_circle mo x1 x2 w Q := by
  have hF : FrM mo ma w w := FrM.rfl
  unfold sp_X4_circle at h
  unfold wp_X4_circle
  refine r_X4_in hR h (fun v2 S1 w1 h hF1 hR1 => ?_); replace hF := hF.trans hF1; replace hR := hR1; clear hF1 hR1
  obtain ⟨J3, hjJ3, h⟩ := h
  refine ⟨fun z0_18 y4 w1 => ∃ S1, z0_18 = (some mo) ∧ J3 y4 S1 ∧ FrM mo ma w w1 ∧ RepM w1 mo ma S1, fun z0_18 y4 w1 hJ => ?_, ?_⟩
  · obtain ⟨S5, rfl, hJ, hF, hR⟩ := hJ
    have h := hjJ3 y4 S5 hJ; clear hJ
    refine ⟨mo, rfl, hR.1, fun w1 hw => ?_⟩; obtain ⟨S6, hS⟩ : ∃ z, z = S5.setS 500 y4 := ⟨_, rfl⟩; replace h := h S6 hS; replace hF := hF.trans (FrM.putS (by decide) hw); replace hR := hR.putS (by decide) hw hS; clear hw hS
    refine ⟨hR.1, fun v7 hv => ?_⟩; replace h := h v7 (hv.trans (hR.2.1 500 (by decide))); clear hv
    refine ⟨fun hc => ?_, fun hc => ?_⟩
    · replace h := h.1 hc; clear hc
      refine ⟨hR.1, fun z hz => ?_⟩; replace hz := hz.trans (hR.2.2.1 514 (by decide)).1; subst hz
      refine ⟨hR.1, fun v8 hv => ?_⟩; replace h := h v8 (hv.trans (hR.2.1 513 (by decide))); clear hv
      obtain ⟨j9, hi, hj, h⟩ := h
      refine ⟨ma 514, rfl, (hR.2.2.1 514 (by decide)).2.1, j9, hi, by rw [(hR.2.2.1 514 (by decide)).2.2.1]; exact hj, by rw [(hR.2.2.1 514 (by decide)).2.2.1]; decide, fun w1 hw => ?_⟩; obtain ⟨S10, hS⟩ : ∃ z, z = S6.setA 514 j9 x1 := ⟨_, rfl⟩; replace h := h S10 hS; replace hF := hF.trans (FrM.putA (by decide) hw); replace hR := hR.putA (by decide) hw hS; clear hw hS hi hj
      refine ⟨hR.1, fun z hz => ?_⟩; replace hz := hz.trans (hR.2.2.1 515 (by decide)).1; subst hz
      refine ⟨hR.1, fun v11 hv => ?_⟩; replace h := h v11 (hv.trans (hR.2.1 513 (by decide))); clear hv
      obtain ⟨j12, hi, hj, h⟩ := h
      refine ⟨ma 515, rfl, (hR.2.2.1 515 (by decide)).2.1, j12, hi, by rw [(hR.2.2.1 515 (by decide)).2.2.1]; exact hj, by rw [(hR.2.2.1 515 (by decide)).2.2.1]; decide, fun w1 hw => ?_⟩; obtain ⟨S13, hS⟩ : ∃ z, z = S10.setA 515 j12 x2 := ⟨_, rfl⟩; replace h := h S13 hS; replace hF := hF.trans (FrM.putA (by decide) hw); replace hR := hR.putA (by decide) hw hS; clear hw hS hi hj
      refine ⟨hR.1, fun v14 hv => ?_⟩; replace h := h v14 (hv.trans (hR.2.1 513 (by decide))); clear hv
      intro v15 hv; replace h := h v15 hv; clear hv
      refine ⟨hR.1, fun w1 hw => ?_⟩; obtain ⟨S16, hS⟩ : ∃ z, z = S13.setS 513 v15 := ⟨_, rfl⟩; replace h := h S16 hS; replace hF := hF.trans (FrM.putS (by decide) hw); replace hR := hR.putS (by decide) hw hS; clear hw hS
      refine ⟨hR.1, fun v17 hv => ?_⟩; replace h := h v17 (hv.trans (hR.2.1 513 (by decide))); clear hv
      intro v18 hv; replace h := h v18 hv; clear hv
      exact hQ _ _ _ h hF hR
    · replace h := h.2 hc; clear hc
      exact hQ _ _ _ h hF hR
  obtain ⟨J19, hjJ19, h⟩ := h
  refine ⟨fun z0_20 w1 => ∃ S1, z0_20 = (some mo) ∧ J19  S1 ∧ FrM mo ma w w1 ∧ RepM w1 mo ma S1, fun z0_20 w1 hJ => ?_, ?_⟩
  · obtain ⟨S20, rfl, hJ, hF, hR⟩ := hJ
    have h := hjJ19  S20 hJ; clear hJ
    exact ⟨_, rfl, h, hF, hR⟩
  refine ⟨fun hc => ?_, fun hc => ?_⟩
  · replace h := h.1 hc; clear hc
    exact ⟨_, rfl, h, hF, hR⟩
  · replace h := h.2 hc; clear hc
    refine r_X4_in hR h (fun v22 S21 w1 h hF1 hR1 => ?_); replace hF := hF.trans hF1; replace hR := hR1; clear hF1 hR1
    refine ⟨fun hc => ?_, fun hc => ?_⟩
    · replace h := h.1 hc; clear hc
      refine ⟨hR.1, fun v23 hv => ?_⟩; replace h := h v23 (hv.trans (hR.2.1 513 (by decide))); clear hv
      refine ⟨fun hc => ?_, fun hc => ?_⟩
      · replace h := h.1 hc; clear hc
        exact ⟨_, rfl, h, hF, hR⟩
      · replace h := h.2 hc; clear hc
        exact ⟨_, rfl, h, hF, hR⟩
    · replace h := h.2 hc; clear hc
      exact ⟨_, rfl, h, hF, hR⟩

def sp_X4_enter (x1 : Int32) (x2 : Int32) (S : MS) (Q : Int32 → MS → Prop) : Prop :=
  sp_X4_isCircle x1 S (fun v2 S1 => 
  ∃ J3 : Int32 → MS → Prop, (∀ (y4 : Int32) (S5 : MS), J3 y4 S5 →
  ∀ S6 : MS, S6 = S5.setS 500 y4 →
  ∀ v7 : Int32, v7 = S6.s 500 →
  (v7 = 0 → ∃ j8 : Nat, x1 = nI j8 ∧ j8 < 4 ∧
  ∀ v9 : Int32, v9 = S6.a 520 j8 →
  ∃ J10 : Int32 → MS → Prop, (∀ (y11 : Int32) (S12 : MS), J10 y11 S12 →
  ∀ S13 : MS, S13 = S12.setS 500 y11 →
  ∀ v14 : Int32, v14 = S13.s 500 →
  (v14 = 0 → ∀ v15 : Int32, v15 = (10 : Int32) * x1 →
  ∃ j16 : Nat, x1 = nI j16 ∧ j16 < 4 ∧
  ∀ v17 : Int32, v17 = S13.a 517 j16 →
  ∀ v18 : Int32, v18 = v15 + v17 →
  ∃ j19 : Nat, v18 = nI j19 ∧ j19 < 40 ∧
  ∀ S20 : MS, S20 = S13.setA 521 j19 x2 →
  ∃ j21 : Nat, v18 = nI j21 ∧ j21 < 40 ∧
  ∀ S22 : MS, S22 = S20.setA 522 j21 (0 : Int32) →
  ∃ j23 : Nat, v18 = nI j23 ∧ j23 < 40 ∧
  ∀ S24 : MS, S24 = S22.setA 523 j23 (0 : Int32) →
  ∃ j25 : Nat, v18 = nI j25 ∧ j25 < 40 ∧
  ∀ S26 : MS, S26 = S24.setA 524 j25 (0 : Int32) →
  ∃ j27 : Nat, v18 = nI j27 ∧ j27 < 40 ∧
  ∀ S28 : MS, S28 = S26.setA 525 j27 (0 : Int32) →
  ∃ j29 : Nat, v18 = nI j29 ∧ j29 < 40 ∧
  ∀ S30 : MS, S30 = S28.setA 526 j29 (-1 : Int32) →
  ∃ j31 : Nat, v18 = nI j31 ∧ j31 < 40 ∧
  ∀ S32 : MS, S32 = S30.setA 527 j31 (vp_nar .boolean (0 : Int32)) →
  ∃ j33 : Nat, x1 = nI j33 ∧ j33 < 4 ∧
  ∀ v34 : Int32, v34 = S32.a 517 j33 →
  ∀ v35 : Int32, v35 = v34 + (1 : Int32) →
  ∃ j36 : Nat, x1 = nI j36 ∧ j36 < 4 ∧
  ∀ S37 : MS, S37 = S32.setA 517 j36 v35 →
  ∃ j38 : Nat, x1 = nI j38 ∧ j38 < 4 ∧
  ∀ v39 : Int32, v39 = S37.a 517 j38 →
  Q v39 S37) ∧ (¬ v14 = 0 → Q (0 : Int32) S13)) ∧
  ∃ J40 : MS → Prop, (∀  (S41 : MS), J40  S41 →
  J10 (2 : Int32) S41) ∧
  (¬ v9 = 0 → J40 S6) ∧ (v9 = 0 → ∃ j42 : Nat, x1 = nI j42 ∧ j42 < 4 ∧
  ∀ v43 : Int32, v43 = S6.a 517 j42 →
  (v43 = (10 : Int32) → J40 S6) ∧ (¬ v43 = (10 : Int32) → sp_X4_placeOf x1 x2 S6 (fun v45 S44 => 
  (0 ≤ v45 → J40 S44) ∧ (¬ 0 ≤ v45 → ∃ j46 : Nat, x2 = nI j46 ∧ j46 < 16 ∧
  ∀ v47 : Int32, v47 = S44.a 512 j46 →
  (v47 = 0 → J10 (0 : Int32) S44) ∧ (¬ v47 = 0 → J40 S44)))))) ∧ (¬ v7 = 0 → Q (0 : Int32) S6)) ∧
  ∃ J48 : MS → Prop, (∀  (S49 : MS), J48  S49 →
  J3 (1 : Int32) S49) ∧
  (v2 = 0 → J48 S1) ∧ (¬ v2 = 0 → sp_X4_isOne x2 S1 (fun v51 S50 => 
  (¬ v51 = 0 → J3 (0 : Int32) S50) ∧ (v51 = 0 → J48 S50))))
set_option maxHeartbeats 4000000 in
set_option maxRecDepth 100000 in
theorem r_X4_enter {mo : Nat} {ma : Nat → Nat} {x1 : Int32} {x2 : Int32} {w : Wd} {S : MS} {Q : Int32 → Wd → Prop} {Q1 : Int32 → MS → Prop} (hR : RepM w mo ma S) (h : sp_X4_enter x1 x2 S Q1) (hQ : ∀ r S1 w1, Q1 r S1 → FrM mo ma w w1 → RepM w1 mo ma S1 → Q r w1) : wp_X4_enter mo x1 x2 w Q := by
  have hF : FrM mo ma w w := FrM.rfl
  unfold sp_X4_enter at h
  unfold wp_X4_enter
  refine ⟨hR.1, r_X4_isCircle hR h (fun v2 S1 w1 h hF1 hR1 => ?_)⟩; replace hF := hF.trans hF1; replace hR := hR1; clear hF1 hR1
  obtain ⟨J3, hjJ3, h⟩ := h
  refine ⟨fun z0_47 y4 w1 => ∃ S1, z0_47 = (some mo) ∧ J3 y4 S1 ∧ FrM mo ma w w1 ∧ RepM w1 mo ma S1, fun z0_47 y4 w1 hJ => ?_, ?_⟩
  · obtain ⟨S5, rfl, hJ, hF, hR⟩ := hJ
    have h := hjJ3 y4 S5 hJ; clear hJ
    refine ⟨mo, rfl, hR.1, fun w1 hw => ?_⟩; obtain ⟨S6, hS⟩ : ∃ z, z = S5.setS 500 y4 := ⟨_, rfl⟩; replace h := h S6 hS; replace hF := hF.trans (FrM.putS (by decide) hw); replace hR := hR.putS (by decide) hw hS; clear hw hS
    refine ⟨hR.1, fun v7 hv => ?_⟩; replace h := h v7 (hv.trans (hR.2.1 500 (by decide))); clear hv
    refine ⟨fun hc => ?_, fun hc => ?_⟩
    · replace h := h.1 hc; clear hc
      refine ⟨hR.1, fun z hz => ?_⟩; replace hz := hz.trans (hR.2.2.1 520 (by decide)).1; subst hz
      obtain ⟨j8, hi, hj, h⟩ := h
      refine ⟨ma 520, rfl, (hR.2.2.1 520 (by decide)).2.1, j8, hi, by rw [(hR.2.2.1 520 (by decide)).2.2.1]; exact hj, by rw [(hR.2.2.1 520 (by decide)).2.2.1]; decide, fun v9 hv => ?_⟩; replace h := h v9 (hv.trans ((hR.2.2.1 520 (by decide)).2.2.2 j8)); clear hv hi hj
      obtain ⟨J10, hjJ10, h⟩ := h
      refine ⟨fun z0_39 y11 w1 => ∃ S1, z0_39 = (some mo) ∧ J10 y11 S1 ∧ FrM mo ma w w1 ∧ RepM w1 mo ma S1, fun z0_39 y11 w1 hJ => ?_, ?_⟩
      · obtain ⟨S12, rfl, hJ, hF, hR⟩ := hJ
        have h := hjJ10 y11 S12 hJ; clear hJ
        refine ⟨mo, rfl, hR.1, fun w1 hw => ?_⟩; obtain ⟨S13, hS⟩ : ∃ z, z = S12.setS 500 y11 := ⟨_, rfl⟩; replace h := h S13 hS; replace hF := hF.trans (FrM.putS (by decide) hw); replace hR := hR.putS (by decide) hw hS; clear hw hS
        refine ⟨hR.1, fun v14 hv => ?_⟩; replace h := h v14 (hv.trans (hR.2.1 500 (by decide))); clear hv
        refine ⟨fun hc => ?_, fun hc => ?_⟩
        · replace h := h.1 hc; clear hc
          intro v15 hv; replace h := h v15 hv; clear hv
          refine ⟨hR.1, fun z hz => ?_⟩; replace hz := hz.trans (hR.2.2.1 517 (by decide)).1; subst hz
          obtain ⟨j16, hi, hj, h⟩ := h
          refine ⟨ma 517, rfl, (hR.2.2.1 517 (by decide)).2.1, j16, hi, by rw [(hR.2.2.1 517 (by decide)).2.2.1]; exact hj, by rw [(hR.2.2.1 517 (by decide)).2.2.1]; decide, fun v17 hv => ?_⟩; replace h := h v17 (hv.trans ((hR.2.2.1 517 (by decide)).2.2.2 j16)); clear hv hi hj
          intro v18 hv; replace h := h v18 hv; clear hv
          refine ⟨hR.1, fun z hz => ?_⟩; replace hz := hz.trans (hR.2.2.1 521 (by decide)).1; subst hz
          obtain ⟨j19, hi, hj, h⟩ := h
          refine ⟨ma 521, rfl, (hR.2.2.1 521 (by decide)).2.1, j19, hi, by rw [(hR.2.2.1 521 (by decide)).2.2.1]; exact hj, by rw [(hR.2.2.1 521 (by decide)).2.2.1]; decide, fun w1 hw => ?_⟩; obtain ⟨S20, hS⟩ : ∃ z, z = S13.setA 521 j19 x2 := ⟨_, rfl⟩; replace h := h S20 hS; replace hF := hF.trans (FrM.putA (by decide) hw); replace hR := hR.putA (by decide) hw hS; clear hw hS hi hj
          refine ⟨hR.1, fun z hz => ?_⟩; replace hz := hz.trans (hR.2.2.1 522 (by decide)).1; subst hz
          obtain ⟨j21, hi, hj, h⟩ := h
          refine ⟨ma 522, rfl, (hR.2.2.1 522 (by decide)).2.1, j21, hi, by rw [(hR.2.2.1 522 (by decide)).2.2.1]; exact hj, by rw [(hR.2.2.1 522 (by decide)).2.2.1]; decide, fun w1 hw => ?_⟩; obtain ⟨S22, hS⟩ : ∃ z, z = S20.setA 522 j21 (0 : Int32) := ⟨_, rfl⟩; replace h := h S22 hS; replace hF := hF.trans (FrM.putA (by decide) hw); replace hR := hR.putA (by decide) hw hS; clear hw hS hi hj
          refine ⟨hR.1, fun z hz => ?_⟩; replace hz := hz.trans (hR.2.2.1 523 (by decide)).1; subst hz
          obtain ⟨j23, hi, hj, h⟩ := h
          refine ⟨ma 523, rfl, (hR.2.2.1 523 (by decide)).2.1, j23, hi, by rw [(hR.2.2.1 523 (by decide)).2.2.1]; exact hj, by rw [(hR.2.2.1 523 (by decide)).2.2.1]; decide, fun w1 hw => ?_⟩; obtain ⟨S24, hS⟩ : ∃ z, z = S22.setA 523 j23 (0 : Int32) := ⟨_, rfl⟩; replace h := h S24 hS; replace hF := hF.trans (FrM.putA (by decide) hw); replace hR := hR.putA (by decide) hw hS; clear hw hS hi hj
          refine ⟨hR.1, fun z hz => ?_⟩; replace hz := hz.trans (hR.2.2.1 524 (by decide)).1; subst hz
          obtain ⟨j25, hi, hj, h⟩ := h
          refine ⟨ma 524, rfl, (hR.2.2.1 524 (by decide)).2.1, j25, hi, by rw [(hR.2.2.1 524 (by decide)).2.2.1]; exact hj, by rw [(hR.2.2.1 524 (by decide)).2.2.1]; decide, fun w1 hw => ?_⟩; obtain ⟨S26, hS⟩ : ∃ z, z = S24.setA 524 j25 (0 : Int32) := ⟨_, rfl⟩; replace h := h S26 hS; replace hF := hF.trans (FrM.putA (by decide) hw); replace hR := hR.putA (by decide) hw hS; clear hw hS hi hj
          refine ⟨hR.1, fun z hz => ?_⟩; replace hz := hz.trans (hR.2.2.1 525 (by decide)).1; subst hz
          obtain ⟨j27, hi, hj, h⟩ := h
          refine ⟨ma 525, rfl, (hR.2.2.1 525 (by decide)).2.1, j27, hi, by rw [(hR.2.2.1 525 (by decide)).2.2.1]; exact hj, by rw [(hR.2.2.1 525 (by decide)).2.2.1]; decide, fun w1 hw => ?_⟩; obtain ⟨S28, hS⟩ : ∃ z, z = S26.setA 525 j27 (0 : Int32) := ⟨_, rfl⟩; replace h := h S28 hS; replace hF := hF.trans (FrM.putA (by decide) hw); replace hR := hR.putA (by decide) hw hS; clear hw hS hi hj
          refine ⟨hR.1, fun z hz => ?_⟩; replace hz := hz.trans (hR.2.2.1 526 (by decide)).1; subst hz
          obtain ⟨j29, hi, hj, h⟩ := h
          refine ⟨ma 526, rfl, (hR.2.2.1 526 (by decide)).2.1, j29, hi, by rw [(hR.2.2.1 526 (by decide)).2.2.1]; exact hj, by rw [(hR.2.2.1 526 (by decide)).2.2.1]; decide, fun w1 hw => ?_⟩; obtain ⟨S30, hS⟩ : ∃ z, z = S28.setA 526 j29 (-1 : Int32) := ⟨_, rfl⟩; replace h := h S30 hS; replace hF := hF.trans (FrM.putA (by decide) hw); replace hR := hR.putA (by decide) hw hS; clear hw hS hi hj
          refine ⟨hR.1, fun z hz => ?_⟩; replace hz := hz.trans (hR.2.2.1 527 (by decide)).1; subst hz
          obtain ⟨j31, hi, hj, h⟩ := h
          refine ⟨ma 527, rfl, (hR.2.2.1 527 (by decide)).2.1, j31, hi, by rw [(hR.2.2.1 527 (by decide)).2.2.1]; exact hj, by rw [(hR.2.2.1 527 (by decide)).2.2.1]; decide, fun w1 hw => ?_⟩; obtain ⟨S32, hS⟩ : ∃ z, z = S30.setA 527 j31 (vp_nar .boolean (0 : Int32)) := ⟨_, rfl⟩; replace h := h S32 hS; replace hF := hF.trans (FrM.putA (by decide) hw); replace hR := hR.putA (by decide) hw hS; clear hw hS hi hj
          refine ⟨hR.1, fun z hz => ?_⟩; replace hz := hz.trans (hR.2.2.1 517 (by decide)).1; subst hz
          obtain ⟨j33, hi, hj, h⟩ := h
          refine ⟨ma 517, rfl, (hR.2.2.1 517 (by decide)).2.1, j33, hi, by rw [(hR.2.2.1 517 (by decide)).2.2.1]; exact hj, by rw [(hR.2.2.1 517 (by decide)).2.2.1]; decide, fun v34 hv => ?_⟩; replace h := h v34 (hv.trans ((hR.2.2.1 517 (by decide)).2.2.2 j33)); clear hv hi hj
          intro v35 hv; replace h := h v35 hv; clear hv
          obtain ⟨j36, hi, hj, h⟩ := h
          refine ⟨(hR.2.2.1 517 (by decide)).2.1, j36, hi, by rw [(hR.2.2.1 517 (by decide)).2.2.1]; exact hj, by rw [(hR.2.2.1 517 (by decide)).2.2.1]; decide, fun w1 hw => ?_⟩; obtain ⟨S37, hS⟩ : ∃ z, z = S32.setA 517 j36 v35 := ⟨_, rfl⟩; replace h := h S37 hS; replace hF := hF.trans (FrM.putA (by decide) hw); replace hR := hR.putA (by decide) hw hS; clear hw hS hi hj
          refine ⟨hR.1, fun z hz => ?_⟩; replace hz := hz.trans (hR.2.2.1 517 (by decide)).1; subst hz
          obtain ⟨j38, hi, hj, h⟩ := h
          refine ⟨ma 517, rfl, (hR.2.2.1 517 (by decide)).2.1, j38, hi, by rw [(hR.2.2.1 517 (by decide)).2.2.1]; exact hj, by rw [(hR.2.2.1 517 (by decide)).2.2.1]; decide, fun v39 hv => ?_⟩; replace h := h v39 (hv.trans ((hR.2.2.1 517 (by decide)).2.2.2 j38)); clear hv hi hj
          exact hQ _ _ _ h hF hR
        · replace h := h.2 hc; clear hc
          exact hQ _ _ _ h hF hR
      obtain ⟨J40, hjJ40, h⟩ := h
      refine ⟨fun z0_41 w1 => ∃ S1, z0_41 = (some mo) ∧ J40  S1 ∧ FrM mo ma w w1 ∧ RepM w1 mo ma S1, fun z0_41 w1 hJ => ?_, ?_⟩
      · obtain ⟨S41, rfl, hJ, hF, hR⟩ := hJ
        have h := hjJ40  S41 hJ; clear hJ
        exact ⟨_, rfl, h, hF, hR⟩
      refine ⟨fun hc => ?_, fun hc => ?_⟩
      · replace h := h.1 hc; clear hc
        exact ⟨_, rfl, h, hF, hR⟩
      · replace h := h.2 hc; clear hc
        refine ⟨hR.1, fun z hz => ?_⟩; replace hz := hz.trans (hR.2.2.1 517 (by decide)).1; subst hz
        obtain ⟨j42, hi, hj, h⟩ := h
        refine ⟨ma 517, rfl, (hR.2.2.1 517 (by decide)).2.1, j42, hi, by rw [(hR.2.2.1 517 (by decide)).2.2.1]; exact hj, by rw [(hR.2.2.1 517 (by decide)).2.2.1]; decide, fun v43 hv => ?_⟩; replace h := h v43 (hv.trans ((hR.2.2.1 517 (by decide)).2.2.2 j42)); clear hv hi hj
        refine ⟨fun hc => ?_, fun hc => ?_⟩
        · replace h := h.1 hc; clear hc
          exact ⟨_, rfl, h, hF, hR⟩
        · replace h := h.2 hc; clear hc
          refine ⟨hR.1, r_X4_placeOf hR h (fun v45 S44 w1 h hF1 hR1 => ?_)⟩; replace hF := hF.trans hF1; replace hR := hR1; clear hF1 hR1
          refine ⟨fun hc => ?_, fun hc => ?_⟩
          · replace h := h.1 hc; clear hc
            exact ⟨_, rfl, h, hF, hR⟩
          · replace h := h.2 hc; clear hc
            refine ⟨hR.1, fun z hz => ?_⟩; replace hz := hz.trans (hR.2.2.1 512 (by decide)).1; subst hz
            obtain ⟨j46, hi, hj, h⟩ := h
            refine ⟨ma 512, rfl, (hR.2.2.1 512 (by decide)).2.1, j46, hi, by rw [(hR.2.2.1 512 (by decide)).2.2.1]; exact hj, by rw [(hR.2.2.1 512 (by decide)).2.2.1]; decide, fun v47 hv => ?_⟩; replace h := h v47 (hv.trans ((hR.2.2.1 512 (by decide)).2.2.2 j46)); clear hv hi hj
            refine ⟨fun hc => ?_, fun hc => ?_⟩
            · replace h := h.1 hc; clear hc
              exact ⟨_, rfl, h, hF, hR⟩
            · replace h := h.2 hc; clear hc
              exact ⟨_, rfl, h, hF, hR⟩
    · replace h := h.2 hc; clear hc
      exact hQ _ _ _ h hF hR
  obtain ⟨J48, hjJ48, h⟩ := h
  refine ⟨fun z0_49 w1 => ∃ S1, z0_49 = (some mo) ∧ J48  S1 ∧ FrM mo ma w w1 ∧ RepM w1 mo ma S1, fun z0_49 w1 hJ => ?_, ?_⟩
  · obtain ⟨S49, rfl, hJ, hF, hR⟩ := hJ
    have h := hjJ48  S49 hJ; clear hJ
    exact ⟨_, rfl, h, hF, hR⟩
  refine ⟨fun hc => ?_, fun hc => ?_⟩
  · replace h := h.1 hc; clear hc
    exact ⟨_, rfl, h, hF, hR⟩
  · replace h := h.2 hc; clear hc
    refine ⟨hR.1, r_X4_isOne hR h (fun v51 S50 w1 h hF1 hR1 => ?_)⟩; replace hF := hF.trans hF1; replace hR := hR1; clear hF1 hR1
    refine ⟨fun hc => ?_, fun hc => ?_⟩
    · replace h := h.1 hc; clear hc
      exact ⟨_, rfl, h, hF, hR⟩
    · replace h := h.2 hc; clear hc
      exact ⟨_, rfl, h, hF, hR⟩

def sp_X4_next (x1 : Int32) (x2 : Int32) (S : MS) (Q : Int32 → MS → Prop) : Prop :=
  ∃ Inv2 : Nat → Int32 → Int32 → Int32 → Prop, (∃ n : Nat, Inv2 n (-1 : Int32) x2 (0 : Int32)) ∧ ∀ (n1 : Nat) (y3 : Int32) (y4 : Int32) (y5 : Int32), Inv2 n1 y3 y4 y5 →
  ∃ j6 : Nat, x1 = nI j6 ∧ j6 < 4 ∧
  ∀ v7 : Int32, v7 = S.a 517 j6 →
  (v7 ≤ y5 → Q y3 S) ∧ (¬ v7 ≤ y5 → ∀ v8 : Int32, v8 = (10 : Int32) * x1 →
  ∀ v9 : Int32, v9 = v8 + y5 →
  ∃ j10 : Nat, v9 = nI j10 ∧ j10 < 40 ∧
  ∀ v11 : Int32, v11 = S.a 526 j10 →
  ∃ J12 : Int32 → Int32 → Prop, (∀ (y13 : Int32) (y14 : Int32), J12 y13 y14 →
  ∀ v15 : Int32, v15 = y5 + (1 : Int32) →
  ∃ n : Nat, n < n1 ∧ Inv2 n y13 y14 v15) ∧
  (0 ≤ v11 → J12 y3 y4) ∧ (¬ 0 ≤ v11 → ∃ j16 : Nat, x1 = nI j16 ∧ j16 < 4 ∧
  ∀ v17 : Int32, v17 = S.a 515 j16 →
  ∃ J18 : Int32 → Prop, (∀ (y19 : Int32), J18 y19 →
  ∃ J20 : Int32 → Prop, (∀ (y21 : Int32), J20 y21 →
  ∀ v22 : Int32, v22 = y4 + (-1 : Int32) →
  J12 y21 v22) ∧
  (y19 = 0 → J20 y3) ∧ (¬ y19 = 0 → J20 y5)) ∧
  (¬ v17 = 0 → ∃ J23 : Prop, (J23 →
  J18 (1 : Int32)) ∧
  (y3 < 0 → J23) ∧ (¬ y3 < 0 → ∃ j24 : Nat, v9 = nI j24 ∧ j24 < 40 ∧
  ∀ v25 : Int32, v25 = S.a 521 j24 →
  ∃ j26 : Nat, v25 = nI j26 ∧ j26 < 16 ∧
  ∀ v27 : Int32, v27 = S.a 502 j26 →
  ∀ v28 : Int32, v28 = (10 : Int32) * x1 →
  ∀ v29 : Int32, v29 = v28 + y3 →
  ∃ j30 : Nat, v29 = nI j30 ∧ j30 < 40 ∧
  ∀ v31 : Int32, v31 = S.a 521 j30 →
  ∃ j32 : Nat, v31 = nI j32 ∧ j32 < 16 ∧
  ∀ v33 : Int32, v33 = S.a 502 j32 →
  (v27 ≤ v33 → J18 (0 : Int32)) ∧ (¬ v27 ≤ v33 → J23))) ∧ (v17 = 0 → (¬ y4 = 0 → J18 (0 : Int32)) ∧ (y4 = 0 → J18 (1 : Int32)))))
set_option maxHeartbeats 4000000 in
set_option maxRecDepth 100000 in
theorem r_X4_next {mo : Nat} {ma : Nat → Nat} {x1 : Int32} {x2 : Int32} {w : Wd} {S : MS} {Q : Int32 → Wd → Prop} {Q1 : Int32 → MS → Prop} (hR : RepM w mo ma S) (h : sp_X4_next x1 x2 S Q1) (hQ : ∀ r S1 w1, Q1 r S1 → FrM mo ma w w1 → RepM w1 mo ma S1 → Q r w1) : wp_X4_next mo x1 x2 w Q := by
  have hF : FrM mo ma w w := FrM.rfl
  unfold sp_X4_next at h
  unfold wp_X4_next
  obtain ⟨Inv2, ⟨n0, hi⟩, hsn1⟩ := h
  refine ⟨Inv2, ⟨n0, hi⟩, fun n1 y3 y4 y5 hI => ?_⟩
  have h := hsn1 n1 y3 y4 y5 hI; clear hI
  refine ⟨hR.1, fun z hz => ?_⟩; replace hz := hz.trans (hR.2.2.1 517 (by decide)).1; subst hz
  obtain ⟨j6, hi, hj, h⟩ := h
  refine ⟨ma 517, rfl, (hR.2.2.1 517 (by decide)).2.1, j6, hi, by rw [(hR.2.2.1 517 (by decide)).2.2.1]; exact hj, by rw [(hR.2.2.1 517 (by decide)).2.2.1]; decide, fun v7 hv => ?_⟩; replace h := h v7 (hv.trans ((hR.2.2.1 517 (by decide)).2.2.2 j6)); clear hv hi hj
  refine ⟨fun hc => ?_, fun hc => ?_⟩
  · replace h := h.1 hc; clear hc
    exact hQ _ _ _ h hF hR
  · replace h := h.2 hc; clear hc
    intro v8 hv; replace h := h v8 hv; clear hv
    intro v9 hv; replace h := h v9 hv; clear hv
    refine ⟨hR.1, fun z hz => ?_⟩; replace hz := hz.trans (hR.2.2.1 526 (by decide)).1; subst hz
    obtain ⟨j10, hi, hj, h⟩ := h
    refine ⟨ma 526, rfl, (hR.2.2.1 526 (by decide)).2.1, j10, hi, by rw [(hR.2.2.1 526 (by decide)).2.2.1]; exact hj, by rw [(hR.2.2.1 526 (by decide)).2.2.1]; decide, fun v11 hv => ?_⟩; replace h := h v11 (hv.trans ((hR.2.2.1 526 (by decide)).2.2.2 j10)); clear hv hi hj
    obtain ⟨J12, hjJ12, h⟩ := h
    refine ⟨fun y13 y14 => J12 y13 y14, fun y13 y14 hJ => ?_, ?_⟩
    · have h := hjJ12 y13 y14 hJ; clear hJ
      intro v15 hv; replace h := h v15 hv; clear hv
      obtain ⟨n, hn, h⟩ := h
      exact ⟨n, hn, h⟩
    refine ⟨fun hc => ?_, fun hc => ?_⟩
    · replace h := h.1 hc; clear hc
      exact h
    · replace h := h.2 hc; clear hc
      refine ⟨hR.1, fun z hz => ?_⟩; replace hz := hz.trans (hR.2.2.1 515 (by decide)).1; subst hz
      obtain ⟨j16, hi, hj, h⟩ := h
      refine ⟨ma 515, rfl, (hR.2.2.1 515 (by decide)).2.1, j16, hi, by rw [(hR.2.2.1 515 (by decide)).2.2.1]; exact hj, by rw [(hR.2.2.1 515 (by decide)).2.2.1]; decide, fun v17 hv => ?_⟩; replace h := h v17 (hv.trans ((hR.2.2.1 515 (by decide)).2.2.2 j16)); clear hv hi hj
      obtain ⟨J18, hjJ18, h⟩ := h
      refine ⟨fun y19 => J18 y19, fun y19 hJ => ?_, ?_⟩
      · have h := hjJ18 y19 hJ; clear hJ
        obtain ⟨J20, hjJ20, h⟩ := h
        refine ⟨fun y21 => J20 y21, fun y21 hJ => ?_, ?_⟩
        · have h := hjJ20 y21 hJ; clear hJ
          intro v22 hv; replace h := h v22 hv; clear hv
          exact h
        refine ⟨fun hc => ?_, fun hc => ?_⟩
        · replace h := h.1 hc; clear hc
          exact h
        · replace h := h.2 hc; clear hc
          exact h
      refine ⟨fun hc => ?_, fun hc => ?_⟩
      · replace h := h.1 hc; clear hc
        obtain ⟨J23, hjJ23, h⟩ := h
        refine ⟨J23, fun hJ => ?_, ?_⟩
        · have h := hjJ23 hJ; clear hJ
          exact h
        refine ⟨fun hc => ?_, fun hc => ?_⟩
        · replace h := h.1 hc; clear hc
          exact h
        · replace h := h.2 hc; clear hc
          refine ⟨hR.1, fun z hz => ?_⟩; replace hz := hz.trans (hR.2.2.1 502 (by decide)).1; subst hz
          refine ⟨hR.1, fun z hz => ?_⟩; replace hz := hz.trans (hR.2.2.1 521 (by decide)).1; subst hz
          obtain ⟨j24, hi, hj, h⟩ := h
          refine ⟨ma 521, rfl, (hR.2.2.1 521 (by decide)).2.1, j24, hi, by rw [(hR.2.2.1 521 (by decide)).2.2.1]; exact hj, by rw [(hR.2.2.1 521 (by decide)).2.2.1]; decide, fun v25 hv => ?_⟩; replace h := h v25 (hv.trans ((hR.2.2.1 521 (by decide)).2.2.2 j24)); clear hv hi hj
          obtain ⟨j26, hi, hj, h⟩ := h
          refine ⟨ma 502, rfl, (hR.2.2.1 502 (by decide)).2.1, j26, hi, by rw [(hR.2.2.1 502 (by decide)).2.2.1]; exact hj, by rw [(hR.2.2.1 502 (by decide)).2.2.1]; decide, fun v27 hv => ?_⟩; replace h := h v27 (hv.trans ((hR.2.2.1 502 (by decide)).2.2.2 j26)); clear hv hi hj
          refine ⟨hR.1, fun z hz => ?_⟩; replace hz := hz.trans (hR.2.2.1 502 (by decide)).1; subst hz
          refine ⟨hR.1, fun z hz => ?_⟩; replace hz := hz.trans (hR.2.2.1 521 (by decide)).1; subst hz
          intro v28 hv; replace h := h v28 hv; clear hv
          intro v29 hv; replace h := h v29 hv; clear hv
          obtain ⟨j30, hi, hj, h⟩ := h
          refine ⟨ma 521, rfl, (hR.2.2.1 521 (by decide)).2.1, j30, hi, by rw [(hR.2.2.1 521 (by decide)).2.2.1]; exact hj, by rw [(hR.2.2.1 521 (by decide)).2.2.1]; decide, fun v31 hv => ?_⟩; replace h := h v31 (hv.trans ((hR.2.2.1 521 (by decide)).2.2.2 j30)); clear hv hi hj
          obtain ⟨j32, hi, hj, h⟩ := h
          refine ⟨ma 502, rfl, (hR.2.2.1 502 (by decide)).2.1, j32, hi, by rw [(hR.2.2.1 502 (by decide)).2.2.1]; exact hj, by rw [(hR.2.2.1 502 (by decide)).2.2.1]; decide, fun v33 hv => ?_⟩; replace h := h v33 (hv.trans ((hR.2.2.1 502 (by decide)).2.2.2 j32)); clear hv hi hj
          refine ⟨fun hc => ?_, fun hc => ?_⟩
          · replace h := h.1 hc; clear hc
            exact h
          · replace h := h.2 hc; clear hc
            exact h
      · replace h := h.2 hc; clear hc
        refine ⟨fun hc => ?_, fun hc => ?_⟩
        · replace h := h.1 hc; clear hc
          exact h
        · replace h := h.2 hc; clear hc
          exact h

def sp_X4_start (x1 : Int32) (x2 : Int32) (S : MS) (Q : Int32 → MS → Prop) : Prop :=
  sp_X4_isCircle x1 S (fun v2 S1 => 
  (¬ v2 = 0 → sp_X4_in x2 (0 : Int32) (9999 : Int32) S1 (fun v4 S3 => 
  ∃ J5 : Int32 → Prop, (∀ (y6 : Int32), J5 y6 →
  ∀ S7 : MS, S7 = S3.setS 500 y6 →
  ∀ v8 : Int32, v8 = S7.s 500 →
  (v8 = 0 → ∃ j9 : Nat, x1 = nI j9 ∧ j9 < 4 ∧
  ∀ S10 : MS, S10 = S7.setA 520 j9 (vp_nar .boolean (1 : Int32)) →
  ∃ Inv12 : Nat → Int32 → Int32 → MS → Prop, (∃ n : Nat, Inv12 n (-1 : Int32) (0 : Int32) S10) ∧ ∀ (n11 : Nat) (y13 : Int32) (y14 : Int32) (S15 : MS), Inv12 n11 y13 y14 S15 →
  ∃ j16 : Nat, x1 = nI j16 ∧ j16 < 4 ∧
  ∀ v17 : Int32, v17 = S15.a 517 j16 →
  ∃ J18 : Prop, (J18 →
  Q y13 S15) ∧
  (v17 ≤ y14 → J18) ∧ (¬ v17 ≤ y14 → ∃ j19 : Nat, x1 = nI j19 ∧ j19 < 4 ∧
  ∀ v20 : Int32, v20 = S15.a 515 j19 →
  ((1 : Int32) < v20 → J18) ∧ (¬ (1 : Int32) < v20 → ∀ v21 : Int32, v21 = (31 : Int32) * y14 →
  ∀ v22 : Int32, v22 = x2 + v21 →
  ∃ j23 : Nat, x1 = nI j23 ∧ j23 < 4 ∧
  ∀ v24 : Int32, v24 = S15.a 517 j23 →
  ∀ v25 : Int32, v25 = v24 - y14 →
  ¬ v25 = 0 ∧ ∀ v26 : Int32, v26 = v22 - v22 / v25 * v25 →
  sp_X4_next x1 v26 S15 (fun v28 S27 => 
  ∀ v29 : Int32, v29 = (10 : Int32) * x1 →
  ∀ v30 : Int32, v30 = v29 + v28 →
  ∃ j31 : Nat, v30 = nI j31 ∧ j31 < 40 ∧
  ∀ S32 : MS, S32 = S27.setA 526 j31 y14 →
  ∃ J33 : Int32 → Prop, (∀ (y34 : Int32), J33 y34 →
  ∀ v35 : Int32, v35 = y14 + (1 : Int32) →
  ∃ n : Nat, n < n11 ∧ Inv12 n y34 v35 S32) ∧
  (¬ y14 = 0 → J33 y13) ∧ (y14 = 0 → ∀ v36 : Int32, v36 = (10 : Int32) * x1 →
  ∀ v37 : Int32, v37 = v36 + v28 →
  ∃ j38 : Nat, v37 = nI j38 ∧ j38 < 40 ∧
  ∀ v39 : Int32, v39 = S32.a 521 j38 →
  J33 v39))))) ∧ (¬ v8 = 0 → Q (0 : Int32) S7)) ∧
  (¬ v4 = 0 → ∃ j40 : Nat, x1 = nI j40 ∧ j40 < 4 ∧
  ∀ v41 : Int32, v41 = S3.a 520 j40 →
  ∃ J42 : Prop, (J42 →
  J5 (3 : Int32)) ∧
  (¬ v41 = 0 → J42) ∧ (v41 = 0 → ∃ j43 : Nat, x1 = nI j43 ∧ j43 < 4 ∧
  ∀ v44 : Int32, v44 = S3.a 517 j43 →
  ((2 : Int32) ≤ v44 → J5 (0 : Int32)) ∧ (¬ (2 : Int32) ≤ v44 → J42))) ∧ (v4 = 0 → J5 (2 : Int32)))) ∧ (v2 = 0 → ∀ S45 : MS, S45 = S1.setS 500 (1 : Int32) →
  Q (0 : Int32) S45))
set_option maxHeartbeats 4000000 in
set_option maxRecDepth 100000 in
theorem r_X4_start {mo : Nat} {ma : Nat → Nat} {x1 : Int32} {x2 : Int32} {w : Wd} {S : MS} {Q : Int32 → Wd → Prop} {Q1 : Int32 → MS → Prop} (hR : RepM w mo ma S) (h : sp_X4_start x1 x2 S Q1) (hQ : ∀ r S1 w1, Q1 r S1 → FrM mo ma w w1 → RepM w1 mo ma S1 → Q r w1) : wp_X4_start mo x1 x2 w Q := by
  have hF : FrM mo ma w w := FrM.rfl
  unfold sp_X4_start at h
  unfold wp_X4_start
  refine ⟨hR.1, r_X4_isCircle hR h (fun v2 S1 w1 h hF1 hR1 => ?_)⟩; replace hF := hF.trans hF1; replace hR := hR1; clear hF1 hR1
  refine ⟨fun hc => ?_, fun hc => ?_⟩
  · replace h := h.1 hc; clear hc
    refine r_X4_in hR h (fun v4 S3 w1 h hF1 hR1 => ?_); replace hF := hF.trans hF1; replace hR := hR1; clear hF1 hR1
    obtain ⟨J5, hjJ5, h⟩ := h
    refine ⟨fun z0_39 y6 => z0_39 = (some mo) ∧ J5 y6, fun z0_39 y6 hJ => ?_, ?_⟩
    · obtain ⟨rfl, hJ⟩ := hJ
      have h := hjJ5 y6 hJ; clear hJ
      refine ⟨mo, rfl, hR.1, fun w1 hw => ?_⟩; obtain ⟨S7, hS⟩ : ∃ z, z = S3.setS 500 y6 := ⟨_, rfl⟩; replace h := h S7 hS; replace hF := hF.trans (FrM.putS (by decide) hw); replace hR := hR.putS (by decide) hw hS; clear hw hS
      refine ⟨hR.1, fun v8 hv => ?_⟩; replace h := h v8 (hv.trans (hR.2.1 500 (by decide))); clear hv
      refine ⟨fun hc => ?_, fun hc => ?_⟩
      · replace h := h.1 hc; clear hc
        refine ⟨hR.1, fun z hz => ?_⟩; replace hz := hz.trans (hR.2.2.1 520 (by decide)).1; subst hz
        obtain ⟨j9, hi, hj, h⟩ := h
        refine ⟨ma 520, rfl, (hR.2.2.1 520 (by decide)).2.1, j9, hi, by rw [(hR.2.2.1 520 (by decide)).2.2.1]; exact hj, by rw [(hR.2.2.1 520 (by decide)).2.2.1]; decide, fun w1 hw => ?_⟩; obtain ⟨S10, hS⟩ : ∃ z, z = S7.setA 520 j9 (vp_nar .boolean (1 : Int32)) := ⟨_, rfl⟩; replace h := h S10 hS; replace hF := hF.trans (FrM.putA (by decide) hw); replace hR := hR.putA (by decide) hw hS; clear hw hS hi hj
        obtain ⟨Inv12, ⟨n0, hi⟩, hsn11⟩ := h
        refine ⟨fun n y13 y14 w1 => ∃ S1, Inv12 n y13 y14 S1 ∧ FrM mo ma w w1 ∧ RepM w1 mo ma S1, ⟨n0, _, hi, hF, hR⟩, fun n11 y13 y14 w1 hI => ?_⟩
        obtain ⟨S15, hI, hF, hR⟩ := hI
        have h := hsn11 n11 y13 y14 S15 hI; clear hI
        refine ⟨hR.1, fun z hz => ?_⟩; replace hz := hz.trans (hR.2.2.1 517 (by decide)).1; subst hz
        obtain ⟨j16, hi, hj, h⟩ := h
        refine ⟨ma 517, rfl, (hR.2.2.1 517 (by decide)).2.1, j16, hi, by rw [(hR.2.2.1 517 (by decide)).2.2.1]; exact hj, by rw [(hR.2.2.1 517 (by decide)).2.2.1]; decide, fun v17 hv => ?_⟩; replace h := h v17 (hv.trans ((hR.2.2.1 517 (by decide)).2.2.2 j16)); clear hv hi hj
        obtain ⟨J18, hjJ18, h⟩ := h
        refine ⟨J18, fun hJ => ?_, ?_⟩
        · have h := hjJ18 hJ; clear hJ
          exact hQ _ _ _ h hF hR
        refine ⟨fun hc => ?_, fun hc => ?_⟩
        · replace h := h.1 hc; clear hc
          exact h
        · replace h := h.2 hc; clear hc
          refine ⟨hR.1, fun z hz => ?_⟩; replace hz := hz.trans (hR.2.2.1 515 (by decide)).1; subst hz
          obtain ⟨j19, hi, hj, h⟩ := h
          refine ⟨ma 515, rfl, (hR.2.2.1 515 (by decide)).2.1, j19, hi, by rw [(hR.2.2.1 515 (by decide)).2.2.1]; exact hj, by rw [(hR.2.2.1 515 (by decide)).2.2.1]; decide, fun v20 hv => ?_⟩; replace h := h v20 (hv.trans ((hR.2.2.1 515 (by decide)).2.2.2 j19)); clear hv hi hj
          refine ⟨fun hc => ?_, fun hc => ?_⟩
          · replace h := h.1 hc; clear hc
            exact h
          · replace h := h.2 hc; clear hc
            intro v21 hv; replace h := h v21 hv; clear hv
            intro v22 hv; replace h := h v22 hv; clear hv
            refine ⟨hR.1, fun z hz => ?_⟩; replace hz := hz.trans (hR.2.2.1 517 (by decide)).1; subst hz
            obtain ⟨j23, hi, hj, h⟩ := h
            refine ⟨ma 517, rfl, (hR.2.2.1 517 (by decide)).2.1, j23, hi, by rw [(hR.2.2.1 517 (by decide)).2.2.1]; exact hj, by rw [(hR.2.2.1 517 (by decide)).2.2.1]; decide, fun v24 hv => ?_⟩; replace h := h v24 (hv.trans ((hR.2.2.1 517 (by decide)).2.2.2 j23)); clear hv hi hj
            intro v25 hv; replace h := h v25 hv; clear hv
            refine ⟨h.1, fun v26 hv => ?_⟩; replace h := h.2 v26 hv; clear hv
            refine ⟨hR.1, r_X4_next hR h (fun v28 S27 w1 h hF1 hR1 => ?_)⟩; replace hF := hF.trans hF1; replace hR := hR1; clear hF1 hR1
            refine ⟨hR.1, fun z hz => ?_⟩; replace hz := hz.trans (hR.2.2.1 526 (by decide)).1; subst hz
            intro v29 hv; replace h := h v29 hv; clear hv
            intro v30 hv; replace h := h v30 hv; clear hv
            obtain ⟨j31, hi, hj, h⟩ := h
            refine ⟨ma 526, rfl, (hR.2.2.1 526 (by decide)).2.1, j31, hi, by rw [(hR.2.2.1 526 (by decide)).2.2.1]; exact hj, by rw [(hR.2.2.1 526 (by decide)).2.2.1]; decide, fun w1 hw => ?_⟩; obtain ⟨S32, hS⟩ : ∃ z, z = S27.setA 526 j31 y14 := ⟨_, rfl⟩; replace h := h S32 hS; replace hF := hF.trans (FrM.putA (by decide) hw); replace hR := hR.putA (by decide) hw hS; clear hw hS hi hj
            obtain ⟨J33, hjJ33, h⟩ := h
            refine ⟨fun y34 => J33 y34, fun y34 hJ => ?_, ?_⟩
            · have h := hjJ33 y34 hJ; clear hJ
              intro v35 hv; replace h := h v35 hv; clear hv
              obtain ⟨n, hn, h⟩ := h
              exact ⟨n, hn, _, h, hF, hR⟩
            refine ⟨fun hc => ?_, fun hc => ?_⟩
            · replace h := h.1 hc; clear hc
              exact h
            · replace h := h.2 hc; clear hc
              refine ⟨hR.1, fun z hz => ?_⟩; replace hz := hz.trans (hR.2.2.1 521 (by decide)).1; subst hz
              intro v36 hv; replace h := h v36 hv; clear hv
              intro v37 hv; replace h := h v37 hv; clear hv
              obtain ⟨j38, hi, hj, h⟩ := h
              refine ⟨ma 521, rfl, (hR.2.2.1 521 (by decide)).2.1, j38, hi, by rw [(hR.2.2.1 521 (by decide)).2.2.1]; exact hj, by rw [(hR.2.2.1 521 (by decide)).2.2.1]; decide, fun v39 hv => ?_⟩; replace h := h v39 (hv.trans ((hR.2.2.1 521 (by decide)).2.2.2 j38)); clear hv hi hj
              exact h
      · replace h := h.2 hc; clear hc
        exact hQ _ _ _ h hF hR
    refine ⟨fun hc => ?_, fun hc => ?_⟩
    · replace h := h.1 hc; clear hc
      refine ⟨hR.1, fun z hz => ?_⟩; replace hz := hz.trans (hR.2.2.1 520 (by decide)).1; subst hz
      obtain ⟨j40, hi, hj, h⟩ := h
      refine ⟨ma 520, rfl, (hR.2.2.1 520 (by decide)).2.1, j40, hi, by rw [(hR.2.2.1 520 (by decide)).2.2.1]; exact hj, by rw [(hR.2.2.1 520 (by decide)).2.2.1]; decide, fun v41 hv => ?_⟩; replace h := h v41 (hv.trans ((hR.2.2.1 520 (by decide)).2.2.2 j40)); clear hv hi hj
      obtain ⟨J42, hjJ42, h⟩ := h
      refine ⟨fun z0_42 => z0_42 = (some mo) ∧ J42 , fun z0_42 hJ => ?_, ?_⟩
      · obtain ⟨rfl, hJ⟩ := hJ
        have h := hjJ42  hJ; clear hJ
        exact ⟨rfl, h⟩
      refine ⟨fun hc => ?_, fun hc => ?_⟩
      · replace h := h.1 hc; clear hc
        exact ⟨rfl, h⟩
      · replace h := h.2 hc; clear hc
        refine ⟨hR.1, fun z hz => ?_⟩; replace hz := hz.trans (hR.2.2.1 517 (by decide)).1; subst hz
        obtain ⟨j43, hi, hj, h⟩ := h
        refine ⟨ma 517, rfl, (hR.2.2.1 517 (by decide)).2.1, j43, hi, by rw [(hR.2.2.1 517 (by decide)).2.2.1]; exact hj, by rw [(hR.2.2.1 517 (by decide)).2.2.1]; decide, fun v44 hv => ?_⟩; replace h := h v44 (hv.trans ((hR.2.2.1 517 (by decide)).2.2.2 j43)); clear hv hi hj
        refine ⟨fun hc => ?_, fun hc => ?_⟩
        · replace h := h.1 hc; clear hc
          exact ⟨rfl, h⟩
        · replace h := h.2 hc; clear hc
          exact ⟨rfl, h⟩
    · replace h := h.2 hc; clear hc
      exact ⟨rfl, h⟩
  · replace h := h.2 hc; clear hc
    refine ⟨hR.1, fun w1 hw => ?_⟩; obtain ⟨S45, hS⟩ : ∃ z, z = S1.setS 500 (1 : Int32) := ⟨_, rfl⟩; replace h := h S45 hS; replace hF := hF.trans (FrM.putS (by decide) hw); replace hR := hR.putS (by decide) hw hS; clear hw hS
    exact hQ _ _ _ h hF hR

def sp_X4_want (x1 : Int32) (x2 : Int32) (x3 : Int32) (x4 : Int32) (S : MS) (Q : Int32 → MS → Prop) : Prop :=
  sp_X4_isCircle x1 S (fun v2 S1 => 
  ∃ J3 : Int32 → MS → Prop, (∀ (y4 : Int32) (S5 : MS), J3 y4 S5 →
  ∀ S6 : MS, S6 = S5.setS 500 y4 →
  ∀ v7 : Int32, v7 = S6.s 500 →
  (v7 = 0 → ∀ v8 : Int32, v8 = (10 : Int32) * x1 →
  sp_X4_placeOf x1 x2 S6 (fun v10 S9 => 
  ∀ v11 : Int32, v11 = v8 + v10 →
  ∃ J12 : Int32 → Prop, (∀ (y13 : Int32), J12 y13 →
  ∃ J14 : Int32 → Int32 → Prop, (∀ (y15 : Int32) (y16 : Int32), J14 y15 y16 →
  ∃ j17 : Nat, y15 = nI j17 ∧ j17 < 40 ∧
  ∀ S18 : MS, S18 = S9.setA 524 j17 y16 →
  ∃ J19 : Int32 → Int32 → Prop, (∀ (y20 : Int32) (y21 : Int32), J19 y20 y21 →
  ∃ j22 : Nat, y20 = nI j22 ∧ j22 < 40 ∧
  ∀ S23 : MS, S23 = S18.setA 523 j22 y21 →
  Q y13 S23) ∧
  (x4 = 0 → J19 v11 x3) ∧ (¬ x4 = 0 → ∃ j24 : Nat, v11 = nI j24 ∧ j24 < 40 ∧
  ∀ v25 : Int32, v25 = S18.a 523 j24 →
  J19 v11 v25)) ∧
  (x4 = 0 → ∃ j26 : Nat, v11 = nI j26 ∧ j26 < 40 ∧
  ∀ v27 : Int32, v27 = S9.a 524 j26 →
  J14 v11 v27) ∧ (¬ x4 = 0 → J14 v11 x3)) ∧
  (x4 = 0 → ∃ j28 : Nat, v11 = nI j28 ∧ j28 < 40 ∧
  ∀ v29 : Int32, v29 = S9.a 523 j28 →
  J12 v29) ∧ (¬ x4 = 0 → ∃ j30 : Nat, v11 = nI j30 ∧ j30 < 40 ∧
  ∀ v31 : Int32, v31 = S9.a 524 j30 →
  J12 v31))) ∧ (¬ v7 = 0 → Q (0 : Int32) S6)) ∧
  ∃ J32 : MS → Prop, (∀  (S33 : MS), J32  S33 →
  J3 (1 : Int32) S33) ∧
  (v2 = 0 → J32 S1) ∧ (¬ v2 = 0 → sp_X4_isOne x2 S1 (fun v35 S34 => 
  (¬ v35 = 0 → sp_X4_in x3 (0 : Int32) (10000 : Int32) S34 (fun v37 S36 => 
  (¬ v37 = 0 → sp_X4_placeOf x1 x2 S36 (fun v39 S38 => 
  (0 ≤ v39 → J3 (0 : Int32) S38) ∧ (¬ 0 ≤ v39 → J3 (3 : Int32) S38))) ∧ (v37 = 0 → J3 (2 : Int32) S36))) ∧ (v35 = 0 → J32 S34))))
set_option maxHeartbeats 4000000 in
set_option maxRecDepth 100000 in
theorem r_X4_want {mo : Nat} {ma : Nat → Nat} {x1 : Int32} {x2 : Int32} {x3 : Int32} {x4 : Int32} {w : Wd} {S : MS} {Q : Int32 → Wd → Prop} {Q1 : Int32 → MS → Prop} (hR : RepM w mo ma S) (h : sp_X4_want x1 x2 x3 x4 S Q1) (hQ : ∀ r S1 w1, Q1 r S1 → FrM mo ma w w1 → RepM w1 mo ma S1 → Q r w1) : wp_X4_want mo x1 x2 x3 x4 w Q := by
  have hF : FrM mo ma w w := FrM.rfl
  unfold sp_X4_want at h
  unfold wp_X4_want
  refine ⟨hR.1, r_X4_isCircle hR h (fun v2 S1 w1 h hF1 hR1 => ?_)⟩; replace hF := hF.trans hF1; replace hR := hR1; clear hF1 hR1
  obtain ⟨J3, hjJ3, h⟩ := h
  refine ⟨fun z0_31 y4 w1 => ∃ S1, z0_31 = (some mo) ∧ J3 y4 S1 ∧ FrM mo ma w w1 ∧ RepM w1 mo ma S1, fun z0_31 y4 w1 hJ => ?_, ?_⟩
  · obtain ⟨S5, rfl, hJ, hF, hR⟩ := hJ
    have h := hjJ3 y4 S5 hJ; clear hJ
    refine ⟨mo, rfl, hR.1, fun w1 hw => ?_⟩; obtain ⟨S6, hS⟩ : ∃ z, z = S5.setS 500 y4 := ⟨_, rfl⟩; replace h := h S6 hS; replace hF := hF.trans (FrM.putS (by decide) hw); replace hR := hR.putS (by decide) hw hS; clear hw hS
    refine ⟨hR.1, fun v7 hv => ?_⟩; replace h := h v7 (hv.trans (hR.2.1 500 (by decide))); clear hv
    refine ⟨fun hc => ?_, fun hc => ?_⟩
    · replace h := h.1 hc; clear hc
      intro v8 hv; replace h := h v8 hv; clear hv
      refine ⟨hR.1, r_X4_placeOf hR h (fun v10 S9 w1 h hF1 hR1 => ?_)⟩; replace hF := hF.trans hF1; replace hR := hR1; clear hF1 hR1
      intro v11 hv; replace h := h v11 hv; clear hv
      obtain ⟨J12, hjJ12, h⟩ := h
      refine ⟨fun y13 => J12 y13, fun y13 hJ => ?_, ?_⟩
      · have h := hjJ12 y13 hJ; clear hJ
        refine ⟨hR.1, fun z hz => ?_⟩; replace hz := hz.trans (hR.2.2.1 524 (by decide)).1; subst hz
        obtain ⟨J14, hjJ14, h⟩ := h
        refine ⟨fun z0_25 y15 y16 => z0_25 = (some (ma 524)) ∧ J14 y15 y16, fun z0_25 y15 y16 hJ => ?_, ?_⟩
        · obtain ⟨rfl, hJ⟩ := hJ
          have h := hjJ14 y15 y16 hJ; clear hJ
          obtain ⟨j17, hi, hj, h⟩ := h
          refine ⟨ma 524, rfl, (hR.2.2.1 524 (by decide)).2.1, j17, hi, by rw [(hR.2.2.1 524 (by decide)).2.2.1]; exact hj, by rw [(hR.2.2.1 524 (by decide)).2.2.1]; decide, fun w1 hw => ?_⟩; obtain ⟨S18, hS⟩ : ∃ z, z = S9.setA 524 j17 y16 := ⟨_, rfl⟩; replace h := h S18 hS; replace hF := hF.trans (FrM.putA (by decide) hw); replace hR := hR.putA (by decide) hw hS; clear hw hS hi hj
          refine ⟨hR.1, fun z hz => ?_⟩; replace hz := hz.trans (hR.2.2.1 523 (by decide)).1; subst hz
          obtain ⟨J19, hjJ19, h⟩ := h
          refine ⟨fun z0_23 y20 y21 => z0_23 = (some (ma 523)) ∧ J19 y20 y21, fun z0_23 y20 y21 hJ => ?_, ?_⟩
          · obtain ⟨rfl, hJ⟩ := hJ
            have h := hjJ19 y20 y21 hJ; clear hJ
            obtain ⟨j22, hi, hj, h⟩ := h
            refine ⟨ma 523, rfl, (hR.2.2.1 523 (by decide)).2.1, j22, hi, by rw [(hR.2.2.1 523 (by decide)).2.2.1]; exact hj, by rw [(hR.2.2.1 523 (by decide)).2.2.1]; decide, fun w1 hw => ?_⟩; obtain ⟨S23, hS⟩ : ∃ z, z = S18.setA 523 j22 y21 := ⟨_, rfl⟩; replace h := h S23 hS; replace hF := hF.trans (FrM.putA (by decide) hw); replace hR := hR.putA (by decide) hw hS; clear hw hS hi hj
            exact hQ _ _ _ h hF hR
          refine ⟨fun hc => ?_, fun hc => ?_⟩
          · replace h := h.1 hc; clear hc
            exact ⟨rfl, h⟩
          · replace h := h.2 hc; clear hc
            refine ⟨hR.1, fun z hz => ?_⟩; replace hz := hz.trans (hR.2.2.1 523 (by decide)).1; subst hz
            obtain ⟨j24, hi, hj, h⟩ := h
            refine ⟨ma 523, rfl, (hR.2.2.1 523 (by decide)).2.1, j24, hi, by rw [(hR.2.2.1 523 (by decide)).2.2.1]; exact hj, by rw [(hR.2.2.1 523 (by decide)).2.2.1]; decide, fun v25 hv => ?_⟩; replace h := h v25 (hv.trans ((hR.2.2.1 523 (by decide)).2.2.2 j24)); clear hv hi hj
            exact ⟨rfl, h⟩
        refine ⟨fun hc => ?_, fun hc => ?_⟩
        · replace h := h.1 hc; clear hc
          refine ⟨hR.1, fun z hz => ?_⟩; replace hz := hz.trans (hR.2.2.1 524 (by decide)).1; subst hz
          obtain ⟨j26, hi, hj, h⟩ := h
          refine ⟨ma 524, rfl, (hR.2.2.1 524 (by decide)).2.1, j26, hi, by rw [(hR.2.2.1 524 (by decide)).2.2.1]; exact hj, by rw [(hR.2.2.1 524 (by decide)).2.2.1]; decide, fun v27 hv => ?_⟩; replace h := h v27 (hv.trans ((hR.2.2.1 524 (by decide)).2.2.2 j26)); clear hv hi hj
          exact ⟨rfl, h⟩
        · replace h := h.2 hc; clear hc
          exact ⟨rfl, h⟩
      refine ⟨fun hc => ?_, fun hc => ?_⟩
      · replace h := h.1 hc; clear hc
        refine ⟨hR.1, fun z hz => ?_⟩; replace hz := hz.trans (hR.2.2.1 523 (by decide)).1; subst hz
        obtain ⟨j28, hi, hj, h⟩ := h
        refine ⟨ma 523, rfl, (hR.2.2.1 523 (by decide)).2.1, j28, hi, by rw [(hR.2.2.1 523 (by decide)).2.2.1]; exact hj, by rw [(hR.2.2.1 523 (by decide)).2.2.1]; decide, fun v29 hv => ?_⟩; replace h := h v29 (hv.trans ((hR.2.2.1 523 (by decide)).2.2.2 j28)); clear hv hi hj
        exact h
      · replace h := h.2 hc; clear hc
        refine ⟨hR.1, fun z hz => ?_⟩; replace hz := hz.trans (hR.2.2.1 524 (by decide)).1; subst hz
        obtain ⟨j30, hi, hj, h⟩ := h
        refine ⟨ma 524, rfl, (hR.2.2.1 524 (by decide)).2.1, j30, hi, by rw [(hR.2.2.1 524 (by decide)).2.2.1]; exact hj, by rw [(hR.2.2.1 524 (by decide)).2.2.1]; decide, fun v31 hv => ?_⟩; replace h := h v31 (hv.trans ((hR.2.2.1 524 (by decide)).2.2.2 j30)); clear hv hi hj
        exact h
    · replace h := h.2 hc; clear hc
      exact hQ _ _ _ h hF hR
  obtain ⟨J32, hjJ32, h⟩ := h
  refine ⟨fun z0_33 w1 => ∃ S1, z0_33 = (some mo) ∧ J32  S1 ∧ FrM mo ma w w1 ∧ RepM w1 mo ma S1, fun z0_33 w1 hJ => ?_, ?_⟩
  · obtain ⟨S33, rfl, hJ, hF, hR⟩ := hJ
    have h := hjJ32  S33 hJ; clear hJ
    exact ⟨_, rfl, h, hF, hR⟩
  refine ⟨fun hc => ?_, fun hc => ?_⟩
  · replace h := h.1 hc; clear hc
    exact ⟨_, rfl, h, hF, hR⟩
  · replace h := h.2 hc; clear hc
    refine ⟨hR.1, r_X4_isOne hR h (fun v35 S34 w1 h hF1 hR1 => ?_)⟩; replace hF := hF.trans hF1; replace hR := hR1; clear hF1 hR1
    refine ⟨fun hc => ?_, fun hc => ?_⟩
    · replace h := h.1 hc; clear hc
      refine r_X4_in hR h (fun v37 S36 w1 h hF1 hR1 => ?_); replace hF := hF.trans hF1; replace hR := hR1; clear hF1 hR1
      refine ⟨fun hc => ?_, fun hc => ?_⟩
      · replace h := h.1 hc; clear hc
        refine ⟨hR.1, r_X4_placeOf hR h (fun v39 S38 w1 h hF1 hR1 => ?_)⟩; replace hF := hF.trans hF1; replace hR := hR1; clear hF1 hR1
        refine ⟨fun hc => ?_, fun hc => ?_⟩
        · replace h := h.1 hc; clear hc
          exact ⟨_, rfl, h, hF, hR⟩
        · replace h := h.2 hc; clear hc
          exact ⟨_, rfl, h, hF, hR⟩
      · replace h := h.2 hc; clear hc
        exact ⟨_, rfl, h, hF, hR⟩
    · replace h := h.2 hc; clear hc
      exact ⟨_, rfl, h, hF, hR⟩

def sp_X4_turnOf (x1 : Int32) (S : MS) (Q : Int32 → MS → Prop) : Prop :=
  ∃ Inv2 : Nat → Int32 → Int32 → Prop, (∃ n : Nat, Inv2 n (-1 : Int32) (0 : Int32)) ∧ ∀ (n1 : Nat) (y3 : Int32) (y4 : Int32), Inv2 n1 y3 y4 →
  ∃ j5 : Nat, x1 = nI j5 ∧ j5 < 4 ∧
  ∀ v6 : Int32, v6 = S.a 517 j5 →
  (v6 ≤ y4 → Q y3 S) ∧ (¬ v6 ≤ y4 → ∀ v7 : Int32, v7 = (10 : Int32) * x1 →
  ∀ v8 : Int32, v8 = v7 + y4 →
  ∀ v9 : Int32, v9 = (10 : Int32) * x1 →
  ∀ v10 : Int32, v10 = v9 + y3 →
  ∃ J11 : Int32 → Prop, (∀ (y12 : Int32), J11 y12 →
  ∃ j13 : Nat, v8 = nI j13 ∧ j13 < 40 ∧
  ∀ v14 : Int32, v14 = S.a 527 j13 →
  ∃ J15 : Int32 → Prop, (∀ (y16 : Int32), J15 y16 →
  ∀ v17 : Int32, v17 = y4 + (1 : Int32) →
  ∃ n : Nat, n < n1 ∧ Inv2 n y16 v17) ∧
  ∃ J18 : Prop, (J18 →
  J15 y3) ∧
  (¬ v14 = 0 → J18) ∧ (v14 = 0 → (y12 = 0 → J18) ∧ (¬ y12 = 0 → J15 y4))) ∧
  ∃ J19 : Prop, (J19 →
  J11 (1 : Int32)) ∧
  (y3 < 0 → J19) ∧ (¬ y3 < 0 → ∃ j20 : Nat, x1 = nI j20 ∧ j20 < 4 ∧
  ∀ v21 : Int32, v21 = S.a 515 j20 →
  ∃ J22 : Prop, (J22 →
  J11 (0 : Int32)) ∧
  ((1 : Int32) < v21 → ∃ j23 : Nat, x1 = nI j23 ∧ j23 < 4 ∧
  ∀ v24 : Int32, v24 = S.a 515 j23 →
  (¬ v24 = (3 : Int32) → ∃ j25 : Nat, v8 = nI j25 ∧ j25 < 40 ∧
  ∀ v26 : Int32, v26 = S.a 523 j25 →
  ∃ j27 : Nat, v10 = nI j27 ∧ j27 < 40 ∧
  ∀ v28 : Int32, v28 = S.a 523 j27 →
  (v26 ≤ v28 → J22) ∧ (¬ v26 ≤ v28 → J19)) ∧ (v24 = (3 : Int32) → ∃ j29 : Nat, v8 = nI j29 ∧ j29 < 40 ∧
  ∀ v30 : Int32, v30 = S.a 524 j29 →
  ∃ j31 : Nat, v10 = nI j31 ∧ j31 < 40 ∧
  ∀ v32 : Int32, v32 = S.a 524 j31 →
  (v30 ≤ v32 → J22) ∧ (¬ v30 ≤ v32 → J19))) ∧ (¬ (1 : Int32) < v21 → ∃ j33 : Nat, v8 = nI j33 ∧ j33 < 40 ∧
  ∀ v34 : Int32, v34 = S.a 526 j33 →
  ∃ j35 : Nat, v10 = nI j35 ∧ j35 < 40 ∧
  ∀ v36 : Int32, v36 = S.a 526 j35 →
  (v36 ≤ v34 → J22) ∧ (¬ v36 ≤ v34 → J19))))
set_option maxHeartbeats 4000000 in
set_option maxRecDepth 100000 in
theorem r_X4_turnOf {mo : Nat} {ma : Nat → Nat} {x1 : Int32} {w : Wd} {S : MS} {Q : Int32 → Wd → Prop} {Q1 : Int32 → MS → Prop} (hR : RepM w mo ma S) (h : sp_X4_turnOf x1 S Q1) (hQ : ∀ r S1 w1, Q1 r S1 → FrM mo ma w w1 → RepM w1 mo ma S1 → Q r w1) : wp_X4_turnOf mo x1 w Q := by
  have hF : FrM mo ma w w := FrM.rfl
  unfold sp_X4_turnOf at h
  unfold wp_X4_turnOf
  obtain ⟨Inv2, ⟨n0, hi⟩, hsn1⟩ := h
  refine ⟨Inv2, ⟨n0, hi⟩, fun n1 y3 y4 hI => ?_⟩
  have h := hsn1 n1 y3 y4 hI; clear hI
  refine ⟨hR.1, fun z hz => ?_⟩; replace hz := hz.trans (hR.2.2.1 517 (by decide)).1; subst hz
  obtain ⟨j5, hi, hj, h⟩ := h
  refine ⟨ma 517, rfl, (hR.2.2.1 517 (by decide)).2.1, j5, hi, by rw [(hR.2.2.1 517 (by decide)).2.2.1]; exact hj, by rw [(hR.2.2.1 517 (by decide)).2.2.1]; decide, fun v6 hv => ?_⟩; replace h := h v6 (hv.trans ((hR.2.2.1 517 (by decide)).2.2.2 j5)); clear hv hi hj
  refine ⟨fun hc => ?_, fun hc => ?_⟩
  · replace h := h.1 hc; clear hc
    exact hQ _ _ _ h hF hR
  · replace h := h.2 hc; clear hc
    intro v7 hv; replace h := h v7 hv; clear hv
    intro v8 hv; replace h := h v8 hv; clear hv
    intro v9 hv; replace h := h v9 hv; clear hv
    intro v10 hv; replace h := h v10 hv; clear hv
    obtain ⟨J11, hjJ11, h⟩ := h
    refine ⟨fun y12 => J11 y12, fun y12 hJ => ?_, ?_⟩
    · have h := hjJ11 y12 hJ; clear hJ
      refine ⟨hR.1, fun z hz => ?_⟩; replace hz := hz.trans (hR.2.2.1 527 (by decide)).1; subst hz
      obtain ⟨j13, hi, hj, h⟩ := h
      refine ⟨ma 527, rfl, (hR.2.2.1 527 (by decide)).2.1, j13, hi, by rw [(hR.2.2.1 527 (by decide)).2.2.1]; exact hj, by rw [(hR.2.2.1 527 (by decide)).2.2.1]; decide, fun v14 hv => ?_⟩; replace h := h v14 (hv.trans ((hR.2.2.1 527 (by decide)).2.2.2 j13)); clear hv hi hj
      obtain ⟨J15, hjJ15, h⟩ := h
      refine ⟨fun y16 => J15 y16, fun y16 hJ => ?_, ?_⟩
      · have h := hjJ15 y16 hJ; clear hJ
        intro v17 hv; replace h := h v17 hv; clear hv
        obtain ⟨n, hn, h⟩ := h
        exact ⟨n, hn, h⟩
      obtain ⟨J18, hjJ18, h⟩ := h
      refine ⟨J18, fun hJ => ?_, ?_⟩
      · have h := hjJ18 hJ; clear hJ
        exact h
      refine ⟨fun hc => ?_, fun hc => ?_⟩
      · replace h := h.1 hc; clear hc
        exact h
      · replace h := h.2 hc; clear hc
        refine ⟨fun hc => ?_, fun hc => ?_⟩
        · replace h := h.1 hc; clear hc
          exact h
        · replace h := h.2 hc; clear hc
          exact h
    obtain ⟨J19, hjJ19, h⟩ := h
    refine ⟨J19, fun hJ => ?_, ?_⟩
    · have h := hjJ19 hJ; clear hJ
      exact h
    refine ⟨fun hc => ?_, fun hc => ?_⟩
    · replace h := h.1 hc; clear hc
      exact h
    · replace h := h.2 hc; clear hc
      refine ⟨hR.1, fun z hz => ?_⟩; replace hz := hz.trans (hR.2.2.1 515 (by decide)).1; subst hz
      obtain ⟨j20, hi, hj, h⟩ := h
      refine ⟨ma 515, rfl, (hR.2.2.1 515 (by decide)).2.1, j20, hi, by rw [(hR.2.2.1 515 (by decide)).2.2.1]; exact hj, by rw [(hR.2.2.1 515 (by decide)).2.2.1]; decide, fun v21 hv => ?_⟩; replace h := h v21 (hv.trans ((hR.2.2.1 515 (by decide)).2.2.2 j20)); clear hv hi hj
      obtain ⟨J22, hjJ22, h⟩ := h
      refine ⟨J22, fun hJ => ?_, ?_⟩
      · have h := hjJ22 hJ; clear hJ
        exact h
      refine ⟨fun hc => ?_, fun hc => ?_⟩
      · replace h := h.1 hc; clear hc
        refine ⟨hR.1, fun z hz => ?_⟩; replace hz := hz.trans (hR.2.2.1 515 (by decide)).1; subst hz
        obtain ⟨j23, hi, hj, h⟩ := h
        refine ⟨ma 515, rfl, (hR.2.2.1 515 (by decide)).2.1, j23, hi, by rw [(hR.2.2.1 515 (by decide)).2.2.1]; exact hj, by rw [(hR.2.2.1 515 (by decide)).2.2.1]; decide, fun v24 hv => ?_⟩; replace h := h v24 (hv.trans ((hR.2.2.1 515 (by decide)).2.2.2 j23)); clear hv hi hj
        refine ⟨fun hc => ?_, fun hc => ?_⟩
        · replace h := h.1 hc; clear hc
          refine ⟨hR.1, fun z hz => ?_⟩; replace hz := hz.trans (hR.2.2.1 523 (by decide)).1; subst hz
          obtain ⟨j25, hi, hj, h⟩ := h
          refine ⟨ma 523, rfl, (hR.2.2.1 523 (by decide)).2.1, j25, hi, by rw [(hR.2.2.1 523 (by decide)).2.2.1]; exact hj, by rw [(hR.2.2.1 523 (by decide)).2.2.1]; decide, fun v26 hv => ?_⟩; replace h := h v26 (hv.trans ((hR.2.2.1 523 (by decide)).2.2.2 j25)); clear hv hi hj
          refine ⟨hR.1, fun z hz => ?_⟩; replace hz := hz.trans (hR.2.2.1 523 (by decide)).1; subst hz
          obtain ⟨j27, hi, hj, h⟩ := h
          refine ⟨ma 523, rfl, (hR.2.2.1 523 (by decide)).2.1, j27, hi, by rw [(hR.2.2.1 523 (by decide)).2.2.1]; exact hj, by rw [(hR.2.2.1 523 (by decide)).2.2.1]; decide, fun v28 hv => ?_⟩; replace h := h v28 (hv.trans ((hR.2.2.1 523 (by decide)).2.2.2 j27)); clear hv hi hj
          refine ⟨fun hc => ?_, fun hc => ?_⟩
          · replace h := h.1 hc; clear hc
            exact h
          · replace h := h.2 hc; clear hc
            exact h
        · replace h := h.2 hc; clear hc
          refine ⟨hR.1, fun z hz => ?_⟩; replace hz := hz.trans (hR.2.2.1 524 (by decide)).1; subst hz
          obtain ⟨j29, hi, hj, h⟩ := h
          refine ⟨ma 524, rfl, (hR.2.2.1 524 (by decide)).2.1, j29, hi, by rw [(hR.2.2.1 524 (by decide)).2.2.1]; exact hj, by rw [(hR.2.2.1 524 (by decide)).2.2.1]; decide, fun v30 hv => ?_⟩; replace h := h v30 (hv.trans ((hR.2.2.1 524 (by decide)).2.2.2 j29)); clear hv hi hj
          refine ⟨hR.1, fun z hz => ?_⟩; replace hz := hz.trans (hR.2.2.1 524 (by decide)).1; subst hz
          obtain ⟨j31, hi, hj, h⟩ := h
          refine ⟨ma 524, rfl, (hR.2.2.1 524 (by decide)).2.1, j31, hi, by rw [(hR.2.2.1 524 (by decide)).2.2.1]; exact hj, by rw [(hR.2.2.1 524 (by decide)).2.2.1]; decide, fun v32 hv => ?_⟩; replace h := h v32 (hv.trans ((hR.2.2.1 524 (by decide)).2.2.2 j31)); clear hv hi hj
          refine ⟨fun hc => ?_, fun hc => ?_⟩
          · replace h := h.1 hc; clear hc
            exact h
          · replace h := h.2 hc; clear hc
            exact h
      · replace h := h.2 hc; clear hc
        refine ⟨hR.1, fun z hz => ?_⟩; replace hz := hz.trans (hR.2.2.1 526 (by decide)).1; subst hz
        obtain ⟨j33, hi, hj, h⟩ := h
        refine ⟨ma 526, rfl, (hR.2.2.1 526 (by decide)).2.1, j33, hi, by rw [(hR.2.2.1 526 (by decide)).2.2.1]; exact hj, by rw [(hR.2.2.1 526 (by decide)).2.2.1]; decide, fun v34 hv => ?_⟩; replace h := h v34 (hv.trans ((hR.2.2.1 526 (by decide)).2.2.2 j33)); clear hv hi hj
        refine ⟨hR.1, fun z hz => ?_⟩; replace hz := hz.trans (hR.2.2.1 526 (by decide)).1; subst hz
        obtain ⟨j35, hi, hj, h⟩ := h
        refine ⟨ma 526, rfl, (hR.2.2.1 526 (by decide)).2.1, j35, hi, by rw [(hR.2.2.1 526 (by decide)).2.2.1]; exact hj, by rw [(hR.2.2.1 526 (by decide)).2.2.1]; decide, fun v36 hv => ?_⟩; replace h := h v36 (hv.trans ((hR.2.2.1 526 (by decide)).2.2.2 j35)); clear hv hi hj
        refine ⟨fun hc => ?_, fun hc => ?_⟩
        · replace h := h.1 hc; clear hc
          exact h
        · replace h := h.2 hc; clear hc
          exact h

def sp_X4_collects (x1 : Int32) (x2 : Int32) (x3 : Int32) (S : MS) (Q : MS → Prop) : Prop :=
  ∃ j1 : Nat, x2 = nI j1 ∧ j1 < 40 ∧
  ∀ v2 : Int32, v2 = S.a 521 j1 →
  ∃ j3 : Nat, x1 = nI j3 ∧ j3 < 4 ∧
  ∀ v4 : Int32, v4 = S.a 514 j3 →
  ∃ j5 : Nat, x2 = nI j5 ∧ j5 < 40 ∧
  ∀ v6 : Int32, v6 = S.a 522 j5 →
  ∀ v7 : Int32, v7 = v4 + v6 →
  ∃ j8 : Nat, v2 = nI j8 ∧ j8 < 16 ∧
  ∀ v9 : Int32, v9 = S.a 504 j8 →
  ∃ J10 : Int32 → Prop, (∀ (y11 : Int32), J10 y11 →
  sp_X4_pays v2 y11 S (fun S12 => 
  ∃ j13 : Nat, x1 = nI j13 ∧ j13 < 4 ∧
  ∀ v14 : Int32, v14 = S12.a 516 j13 →
  ∀ v15 : Int32, v15 = v14 + y11 →
  ∃ j16 : Nat, x1 = nI j16 ∧ j16 < 4 ∧
  ∀ S17 : MS, S17 = S12.setA 516 j16 v15 →
  ∃ j18 : Nat, x2 = nI j18 ∧ j18 < 40 ∧
  ∀ v19 : Int32, v19 = S17.a 525 j18 →
  ∀ v20 : Int32, v20 = v19 + y11 →
  ∃ j21 : Nat, x2 = nI j21 ∧ j21 < 40 ∧
  ∀ S22 : MS, S22 = S17.setA 525 j21 v20 →
  ∀ v23 : Int32, v23 = v7 - y11 →
  ∃ j24 : Nat, x2 = nI j24 ∧ j24 < 40 ∧
  ∀ S25 : MS, S25 = S22.setA 522 j24 v23 →
  ∃ j26 : Nat, x2 = nI j26 ∧ j26 < 40 ∧
  ∀ v27 : Int32, v27 = S25.a 522 j26 →
  ∃ j28 : Nat, x2 = nI j28 ∧ j28 < 40 ∧
  ∀ v29 : Int32, v29 = S25.a 522 j28 →
  ∃ J30 : Int32 → Int32 → Int32 → Prop, (∀ (y31 : Int32) (y32 : Int32) (y33 : Int32), J30 y31 y32 y33 →
  ∀ v34 : Int32, v34 = y32 + y33 →
  ∃ j35 : Nat, y31 = nI j35 ∧ j35 < 40 ∧
  ∀ S36 : MS, S36 = S25.setA 522 j35 v34 →
  Q S36) ∧
  ∃ J37 : Int32 → Int32 → Prop, (∀ (y38 : Int32) (y39 : Int32), J37 y38 y39 →
  J30 y38 y39 (0 : Int32)) ∧
  (v29 ≤ 0 → J37 x2 v27) ∧ (¬ v29 ≤ 0 → (¬ x3 = 0 → J37 x2 v27) ∧ (x3 = 0 → ∃ j40 : Nat, x1 = nI j40 ∧ j40 < 4 ∧
  ∀ v41 : Int32, v41 = S25.a 514 j40 →
  ¬ (10 : Int32) = 0 ∧ ∀ v42 : Int32, v42 = v41 / (10 : Int32) →
  J30 x2 v27 v42)))) ∧
  (v9 ≤ v7 → ∃ j43 : Nat, v2 = nI j43 ∧ j43 < 16 ∧
  ∀ v44 : Int32, v44 = S.a 504 j43 →
  J10 v44) ∧ (¬ v9 ≤ v7 → J10 v7)
set_option maxHeartbeats 4000000 in
set_option maxRecDepth 100000 in
theorem r_X4_collects {mo : Nat} {ma : Nat → Nat} {x1 : Int32} {x2 : Int32} {x3 : Int32} {w : Wd} {S : MS} {Q : Wd → Prop} {Q1 : MS → Prop} (hR : RepM w mo ma S) (h : sp_X4_collects x1 x2 x3 S Q1) (hQ : ∀ S1 w1, Q1 S1 → FrM mo ma w w1 → RepM w1 mo ma S1 → Q w1) : wp_X4_collects mo x1 x2 x3 w Q := by
  have hF : FrM mo ma w w := FrM.rfl
  unfold sp_X4_collects at h
  unfold wp_X4_collects
  refine ⟨hR.1, fun z hz => ?_⟩; replace hz := hz.trans (hR.2.2.1 521 (by decide)).1; subst hz
  obtain ⟨j1, hi, hj, h⟩ := h
  refine ⟨ma 521, rfl, (hR.2.2.1 521 (by decide)).2.1, j1, hi, by rw [(hR.2.2.1 521 (by decide)).2.2.1]; exact hj, by rw [(hR.2.2.1 521 (by decide)).2.2.1]; decide, fun v2 hv => ?_⟩; replace h := h v2 (hv.trans ((hR.2.2.1 521 (by decide)).2.2.2 j1)); clear hv hi hj
  refine ⟨hR.1, fun z hz => ?_⟩; replace hz := hz.trans (hR.2.2.1 514 (by decide)).1; subst hz
  obtain ⟨j3, hi, hj, h⟩ := h
  refine ⟨ma 514, rfl, (hR.2.2.1 514 (by decide)).2.1, j3, hi, by rw [(hR.2.2.1 514 (by decide)).2.2.1]; exact hj, by rw [(hR.2.2.1 514 (by decide)).2.2.1]; decide, fun v4 hv => ?_⟩; replace h := h v4 (hv.trans ((hR.2.2.1 514 (by decide)).2.2.2 j3)); clear hv hi hj
  refine ⟨hR.1, fun z hz => ?_⟩; replace hz := hz.trans (hR.2.2.1 522 (by decide)).1; subst hz
  obtain ⟨j5, hi, hj, h⟩ := h
  refine ⟨ma 522, rfl, (hR.2.2.1 522 (by decide)).2.1, j5, hi, by rw [(hR.2.2.1 522 (by decide)).2.2.1]; exact hj, by rw [(hR.2.2.1 522 (by decide)).2.2.1]; decide, fun v6 hv => ?_⟩; replace h := h v6 (hv.trans ((hR.2.2.1 522 (by decide)).2.2.2 j5)); clear hv hi hj
  intro v7 hv; replace h := h v7 hv; clear hv
  refine ⟨hR.1, fun z hz => ?_⟩; replace hz := hz.trans (hR.2.2.1 504 (by decide)).1; subst hz
  obtain ⟨j8, hi, hj, h⟩ := h
  refine ⟨ma 504, rfl, (hR.2.2.1 504 (by decide)).2.1, j8, hi, by rw [(hR.2.2.1 504 (by decide)).2.2.1]; exact hj, by rw [(hR.2.2.1 504 (by decide)).2.2.1]; decide, fun v9 hv => ?_⟩; replace h := h v9 (hv.trans ((hR.2.2.1 504 (by decide)).2.2.2 j8)); clear hv hi hj
  obtain ⟨J10, hjJ10, h⟩ := h
  refine ⟨fun y11 => J10 y11, fun y11 hJ => ?_, ?_⟩
  · have h := hjJ10 y11 hJ; clear hJ
    refine ⟨hR.1, r_X4_pays hR h (fun S12 w1 h hF1 hR1 => ?_)⟩; replace hF := hF.trans hF1; replace hR := hR1; clear hF1 hR1
    refine ⟨hR.1, fun z hz => ?_⟩; replace hz := hz.trans (hR.2.2.1 516 (by decide)).1; subst hz
    obtain ⟨j13, hi, hj, h⟩ := h
    refine ⟨ma 516, rfl, (hR.2.2.1 516 (by decide)).2.1, j13, hi, by rw [(hR.2.2.1 516 (by decide)).2.2.1]; exact hj, by rw [(hR.2.2.1 516 (by decide)).2.2.1]; decide, fun v14 hv => ?_⟩; replace h := h v14 (hv.trans ((hR.2.2.1 516 (by decide)).2.2.2 j13)); clear hv hi hj
    intro v15 hv; replace h := h v15 hv; clear hv
    obtain ⟨j16, hi, hj, h⟩ := h
    refine ⟨(hR.2.2.1 516 (by decide)).2.1, j16, hi, by rw [(hR.2.2.1 516 (by decide)).2.2.1]; exact hj, by rw [(hR.2.2.1 516 (by decide)).2.2.1]; decide, fun w1 hw => ?_⟩; obtain ⟨S17, hS⟩ : ∃ z, z = S12.setA 516 j16 v15 := ⟨_, rfl⟩; replace h := h S17 hS; replace hF := hF.trans (FrM.putA (by decide) hw); replace hR := hR.putA (by decide) hw hS; clear hw hS hi hj
    refine ⟨hR.1, fun z hz => ?_⟩; replace hz := hz.trans (hR.2.2.1 525 (by decide)).1; subst hz
    obtain ⟨j18, hi, hj, h⟩ := h
    refine ⟨ma 525, rfl, (hR.2.2.1 525 (by decide)).2.1, j18, hi, by rw [(hR.2.2.1 525 (by decide)).2.2.1]; exact hj, by rw [(hR.2.2.1 525 (by decide)).2.2.1]; decide, fun v19 hv => ?_⟩; replace h := h v19 (hv.trans ((hR.2.2.1 525 (by decide)).2.2.2 j18)); clear hv hi hj
    intro v20 hv; replace h := h v20 hv; clear hv
    obtain ⟨j21, hi, hj, h⟩ := h
    refine ⟨(hR.2.2.1 525 (by decide)).2.1, j21, hi, by rw [(hR.2.2.1 525 (by decide)).2.2.1]; exact hj, by rw [(hR.2.2.1 525 (by decide)).2.2.1]; decide, fun w1 hw => ?_⟩; obtain ⟨S22, hS⟩ : ∃ z, z = S17.setA 525 j21 v20 := ⟨_, rfl⟩; replace h := h S22 hS; replace hF := hF.trans (FrM.putA (by decide) hw); replace hR := hR.putA (by decide) hw hS; clear hw hS hi hj
    refine ⟨hR.1, fun z hz => ?_⟩; replace hz := hz.trans (hR.2.2.1 522 (by decide)).1; subst hz
    intro v23 hv; replace h := h v23 hv; clear hv
    obtain ⟨j24, hi, hj, h⟩ := h
    refine ⟨ma 522, rfl, (hR.2.2.1 522 (by decide)).2.1, j24, hi, by rw [(hR.2.2.1 522 (by decide)).2.2.1]; exact hj, by rw [(hR.2.2.1 522 (by decide)).2.2.1]; decide, fun w1 hw => ?_⟩; obtain ⟨S25, hS⟩ : ∃ z, z = S22.setA 522 j24 v23 := ⟨_, rfl⟩; replace h := h S25 hS; replace hF := hF.trans (FrM.putA (by decide) hw); replace hR := hR.putA (by decide) hw hS; clear hw hS hi hj
    refine ⟨hR.1, fun z hz => ?_⟩; replace hz := hz.trans (hR.2.2.1 522 (by decide)).1; subst hz
    obtain ⟨j26, hi, hj, h⟩ := h
    refine ⟨ma 522, rfl, (hR.2.2.1 522 (by decide)).2.1, j26, hi, by rw [(hR.2.2.1 522 (by decide)).2.2.1]; exact hj, by rw [(hR.2.2.1 522 (by decide)).2.2.1]; decide, fun v27 hv => ?_⟩; replace h := h v27 (hv.trans ((hR.2.2.1 522 (by decide)).2.2.2 j26)); clear hv hi hj
    refine ⟨hR.1, fun z hz => ?_⟩; replace hz := hz.trans (hR.2.2.1 522 (by decide)).1; subst hz
    obtain ⟨j28, hi, hj, h⟩ := h
    refine ⟨ma 522, rfl, (hR.2.2.1 522 (by decide)).2.1, j28, hi, by rw [(hR.2.2.1 522 (by decide)).2.2.1]; exact hj, by rw [(hR.2.2.1 522 (by decide)).2.2.1]; decide, fun v29 hv => ?_⟩; replace h := h v29 (hv.trans ((hR.2.2.1 522 (by decide)).2.2.2 j28)); clear hv hi hj
    obtain ⟨J30, hjJ30, h⟩ := h
    refine ⟨fun z0_36 y31 y32 y33 => z0_36 = (some (ma 522)) ∧ J30 y31 y32 y33, fun z0_36 y31 y32 y33 hJ => ?_, ?_⟩
    · obtain ⟨rfl, hJ⟩ := hJ
      have h := hjJ30 y31 y32 y33 hJ; clear hJ
      intro v34 hv; replace h := h v34 hv; clear hv
      obtain ⟨j35, hi, hj, h⟩ := h
      refine ⟨ma 522, rfl, (hR.2.2.1 522 (by decide)).2.1, j35, hi, by rw [(hR.2.2.1 522 (by decide)).2.2.1]; exact hj, by rw [(hR.2.2.1 522 (by decide)).2.2.1]; decide, fun w1 hw => ?_⟩; obtain ⟨S36, hS⟩ : ∃ z, z = S25.setA 522 j35 v34 := ⟨_, rfl⟩; replace h := h S36 hS; replace hF := hF.trans (FrM.putA (by decide) hw); replace hR := hR.putA (by decide) hw hS; clear hw hS hi hj
      exact hQ _ _ h hF hR
    obtain ⟨J37, hjJ37, h⟩ := h
    refine ⟨fun z0_39 y38 y39 => z0_39 = (some (ma 522)) ∧ J37 y38 y39, fun z0_39 y38 y39 hJ => ?_, ?_⟩
    · obtain ⟨rfl, hJ⟩ := hJ
      have h := hjJ37 y38 y39 hJ; clear hJ
      exact ⟨rfl, h⟩
    refine ⟨fun hc => ?_, fun hc => ?_⟩
    · replace h := h.1 hc; clear hc
      exact ⟨rfl, h⟩
    · replace h := h.2 hc; clear hc
      refine ⟨fun hc => ?_, fun hc => ?_⟩
      · replace h := h.1 hc; clear hc
        exact ⟨rfl, h⟩
      · replace h := h.2 hc; clear hc
        refine ⟨hR.1, fun z hz => ?_⟩; replace hz := hz.trans (hR.2.2.1 514 (by decide)).1; subst hz
        obtain ⟨j40, hi, hj, h⟩ := h
        refine ⟨ma 514, rfl, (hR.2.2.1 514 (by decide)).2.1, j40, hi, by rw [(hR.2.2.1 514 (by decide)).2.2.1]; exact hj, by rw [(hR.2.2.1 514 (by decide)).2.2.1]; decide, fun v41 hv => ?_⟩; replace h := h v41 (hv.trans ((hR.2.2.1 514 (by decide)).2.2.2 j40)); clear hv hi hj
        refine ⟨h.1, fun v42 hv => ?_⟩; replace h := h.2 v42 hv; clear hv
        exact ⟨rfl, h⟩
  refine ⟨fun hc => ?_, fun hc => ?_⟩
  · replace h := h.1 hc; clear hc
    refine ⟨hR.1, fun z hz => ?_⟩; replace hz := hz.trans (hR.2.2.1 504 (by decide)).1; subst hz
    obtain ⟨j43, hi, hj, h⟩ := h
    refine ⟨ma 504, rfl, (hR.2.2.1 504 (by decide)).2.1, j43, hi, by rw [(hR.2.2.1 504 (by decide)).2.2.1]; exact hj, by rw [(hR.2.2.1 504 (by decide)).2.2.1]; decide, fun v44 hv => ?_⟩; replace h := h v44 (hv.trans ((hR.2.2.1 504 (by decide)).2.2.2 j43)); clear hv hi hj
    exact h
  · replace h := h.2 hc; clear hc
    exact h

def sp_X4_meet (x1 : Int32) (x2 : Int32) (S : MS) (Q : Int32 → MS → Prop) : Prop :=
  sp_X4_isCircle x1 S (fun v2 S1 => 
  ∃ J3 : Int32 → Prop, (∀ (y4 : Int32), J3 y4 →
  ∀ S5 : MS, S5 = S1.setS 500 y4 →
  ∀ v6 : Int32, v6 = S5.s 500 →
  (v6 = 0 → ∃ Inv8 : Nat → Int32 → MS → Prop, (∃ n : Nat, Inv8 n (0 : Int32) S5) ∧ ∀ (n7 : Nat) (y9 : Int32) (S10 : MS), Inv8 n7 y9 S10 →
  ∃ j11 : Nat, x1 = nI j11 ∧ j11 < 4 ∧
  ∀ v12 : Int32, v12 = S10.a 517 j11 →
  (v12 ≤ y9 → sp_X4_turnOf x1 S10 (fun v14 S13 => 
  ∀ v15 : Int32, v15 = (10 : Int32) * x1 →
  ∀ v16 : Int32, v16 = v15 + v14 →
  ∃ j17 : Nat, v16 = nI j17 ∧ j17 < 40 ∧
  ∀ v18 : Int32, v18 = S13.a 521 j17 →
  ∃ j19 : Nat, x1 = nI j19 ∧ j19 < 4 ∧
  ∀ v20 : Int32, v20 = S13.a 516 j19 →
  ∃ j21 : Nat, x1 = nI j21 ∧ j21 < 4 ∧
  ∀ v22 : Int32, v22 = S13.a 514 j21 →
  ∃ j23 : Nat, x1 = nI j23 ∧ j23 < 4 ∧
  ∀ v24 : Int32, v24 = S13.a 517 j23 →
  ∀ v25 : Int32, v25 = v22 * v24 →
  ∃ J26 : Int32 → Prop, (∀ (y27 : Int32), J26 y27 →
  ∃ j28 : Nat, x1 = nI j28 ∧ j28 < 4 ∧
  ∀ v29 : Int32, v29 = S13.a 515 j28 →
  ∃ J30 : Int32 → Prop, (∀ (y31 : Int32), J30 y31 →
  ¬ (2 : Int32) = 0 ∧ ∀ v32 : Int32, v32 = y27 / (2 : Int32) →
  ∃ J33 : Int32 → Prop, (∀ (y34 : Int32), J33 y34 →
  ∃ j35 : Nat, x1 = nI j35 ∧ j35 < 4 ∧
  ∀ v36 : Int32, v36 = S13.a 517 j35 →
  ∀ v37 : Int32, v37 = v36 - (1 : Int32) →
  ¬ v37 = 0 ∧ ∀ v38 : Int32, v38 = y34 / v37 →
  ∃ Inv40 : Nat → Int32 → MS → Prop, (∃ n : Nat, Inv40 n (0 : Int32) S13) ∧ ∀ (n39 : Nat) (y41 : Int32) (S42 : MS), Inv40 n39 y41 S42 →
  ∃ j43 : Nat, x1 = nI j43 ∧ j43 < 4 ∧
  ∀ v44 : Int32, v44 = S42.a 517 j43 →
  (v44 ≤ y41 → ∀ v45 : Int32, v45 = (10 : Int32) * x1 →
  ∀ v46 : Int32, v46 = v45 + v14 →
  ∃ j47 : Nat, v46 = nI j47 ∧ j47 < 40 ∧
  ∀ S48 : MS, S48 = S42.setA 527 j47 (vp_nar .boolean (1 : Int32)) →
  ∃ j49 : Nat, x1 = nI j49 ∧ j49 < 4 ∧
  ∀ v50 : Int32, v50 = S48.a 518 j49 →
  ∀ v51 : Int32, v51 = v50 + (1 : Int32) →
  ∃ j52 : Nat, x1 = nI j52 ∧ j52 < 4 ∧
  ∀ S53 : MS, S53 = S48.setA 518 j52 v51 →
  sp_X4_rounds x1 S53 (fun S54 => 
  Q v18 S54)) ∧ (¬ v44 ≤ y41 → ∃ J55 : Int32 → Prop, (∀ (y56 : Int32), J55 y56 →
  ∀ v57 : Int32, v57 = (10 : Int32) * x1 →
  ∀ v58 : Int32, v58 = v57 + y41 →
  ∃ j59 : Nat, v58 = nI j59 ∧ j59 < 40 ∧
  ∀ v60 : Int32, v60 = S42.a 521 j59 →
  ∀ v61 : Int32, v61 = -y56 →
  sp_X4_pays v60 v61 S42 (fun S62 => 
  ∃ j63 : Nat, x1 = nI j63 ∧ j63 < 4 ∧
  ∀ v64 : Int32, v64 = S62.a 516 j63 →
  ∀ v65 : Int32, v65 = v64 - y56 →
  ∃ j66 : Nat, x1 = nI j66 ∧ j66 < 4 ∧
  ∀ S67 : MS, S67 = S62.setA 516 j66 v65 →
  ∀ v68 : Int32, v68 = (10 : Int32) * x1 →
  ∀ v69 : Int32, v69 = v68 + y41 →
  ∃ j70 : Nat, v69 = nI j70 ∧ j70 < 40 ∧
  ∀ S71 : MS, S71 = S67.setA 524 j70 (0 : Int32) →
  ∀ v72 : Int32, v72 = y41 + (1 : Int32) →
  ∃ n : Nat, n < n39 ∧ Inv40 n v72 S71)) ∧
  (¬ y41 = v14 → J55 v38) ∧ (y41 = v14 → ∀ v73 : Int32, v73 = y27 - y34 →
  J55 v73))) ∧
  (v32 ≤ y31 → ¬ (2 : Int32) = 0 ∧ ∀ v74 : Int32, v74 = y27 / (2 : Int32) →
  J33 v74) ∧ (¬ v32 ≤ y31 → J33 y31)) ∧
  (¬ v29 = (3 : Int32) → J30 (0 : Int32)) ∧ (v29 = (3 : Int32) → ∀ v75 : Int32, v75 = (10 : Int32) * x1 →
  ∀ v76 : Int32, v76 = v75 + v14 →
  ∃ j77 : Nat, v76 = nI j77 ∧ j77 < 40 ∧
  ∀ v78 : Int32, v78 = S13.a 524 j77 →
  J30 v78)) ∧
  (v25 ≤ v20 → ∃ j79 : Nat, x1 = nI j79 ∧ j79 < 4 ∧
  ∀ v80 : Int32, v80 = S13.a 514 j79 →
  ∃ j81 : Nat, x1 = nI j81 ∧ j81 < 4 ∧
  ∀ v82 : Int32, v82 = S13.a 517 j81 →
  ∀ v83 : Int32, v83 = v80 * v82 →
  J26 v83) ∧ (¬ v25 ≤ v20 → ∃ j84 : Nat, x1 = nI j84 ∧ j84 < 4 ∧
  ∀ v85 : Int32, v85 = S13.a 516 j84 →
  J26 v85))) ∧ (¬ v12 ≤ y9 → ∀ v86 : Int32, v86 = (10 : Int32) * x1 →
  ∀ v87 : Int32, v87 = v86 + y9 →
  sp_X4_collects x1 v87 x2 S10 (fun S88 => 
  ∀ v89 : Int32, v89 = y9 + (1 : Int32) →
  ∃ n : Nat, n < n7 ∧ Inv8 n v89 S88))) ∧ (¬ v6 = 0 → Q (0 : Int32) S5)) ∧
  (¬ v2 = 0 → ∃ j90 : Nat, x1 = nI j90 ∧ j90 < 4 ∧
  ∀ v91 : Int32, v91 = S1.a 520 j90 →
  ∃ J92 : Prop, (J92 →
  J3 (2 : Int32)) ∧
  (v91 = 0 → J92) ∧ (¬ v91 = 0 → ∃ j93 : Nat, x1 = nI j93 ∧ j93 < 4 ∧
  ∀ v94 : Int32, v94 = S1.a 517 j93 →
  ((2 : Int32) ≤ v94 → J3 (0 : Int32)) ∧ (¬ (2 : Int32) ≤ v94 → J92))) ∧ (v2 = 0 → J3 (1 : Int32)))
set_option maxHeartbeats 4000000 in
set_option maxRecDepth 100000 in
theorem r_X4_meet {mo : Nat} {ma : Nat → Nat} {x1 : Int32} {x2 : Int32} {w : Wd} {S : MS} {Q : Int32 → Wd → Prop} {Q1 : Int32 → MS → Prop} (hR : RepM w mo ma S) (h : sp_X4_meet x1 x2 S Q1) (hQ : ∀ r S1 w1, Q1 r S1 → FrM mo ma w w1 → RepM w1 mo ma S1 → Q r w1) : wp_X4_meet mo x1 x2 w Q := by
  have hF : FrM mo ma w w := FrM.rfl
  unfold sp_X4_meet at h
  unfold wp_X4_meet
  refine ⟨hR.1, r_X4_isCircle hR h (fun v2 S1 w1 h hF1 hR1 => ?_)⟩; replace hF := hF.trans hF1; replace hR := hR1; clear hF1 hR1
  obtain ⟨J3, hjJ3, h⟩ := h
  refine ⟨fun z0_89 y4 => z0_89 = (some mo) ∧ J3 y4, fun z0_89 y4 hJ => ?_, ?_⟩
  · obtain ⟨rfl, hJ⟩ := hJ
    have h := hjJ3 y4 hJ; clear hJ
    refine ⟨mo, rfl, hR.1, fun w1 hw => ?_⟩; obtain ⟨S5, hS⟩ : ∃ z, z = S1.setS 500 y4 := ⟨_, rfl⟩; replace h := h S5 hS; replace hF := hF.trans (FrM.putS (by decide) hw); replace hR := hR.putS (by decide) hw hS; clear hw hS
    refine ⟨hR.1, fun v6 hv => ?_⟩; replace h := h v6 (hv.trans (hR.2.1 500 (by decide))); clear hv
    refine ⟨fun hc => ?_, fun hc => ?_⟩
    · replace h := h.1 hc; clear hc
      obtain ⟨Inv8, ⟨n0, hi⟩, hsn7⟩ := h
      refine ⟨fun n y9 w1 => ∃ S1, Inv8 n y9 S1 ∧ FrM mo ma w w1 ∧ RepM w1 mo ma S1, ⟨n0, _, hi, hF, hR⟩, fun n7 y9 w1 hI => ?_⟩
      obtain ⟨S10, hI, hF, hR⟩ := hI
      have h := hsn7 n7 y9 S10 hI; clear hI
      refine ⟨hR.1, fun z hz => ?_⟩; replace hz := hz.trans (hR.2.2.1 517 (by decide)).1; subst hz
      obtain ⟨j11, hi, hj, h⟩ := h
      refine ⟨ma 517, rfl, (hR.2.2.1 517 (by decide)).2.1, j11, hi, by rw [(hR.2.2.1 517 (by decide)).2.2.1]; exact hj, by rw [(hR.2.2.1 517 (by decide)).2.2.1]; decide, fun v12 hv => ?_⟩; replace h := h v12 (hv.trans ((hR.2.2.1 517 (by decide)).2.2.2 j11)); clear hv hi hj
      refine ⟨fun hc => ?_, fun hc => ?_⟩
      · replace h := h.1 hc; clear hc
        refine ⟨hR.1, r_X4_turnOf hR h (fun v14 S13 w1 h hF1 hR1 => ?_)⟩; replace hF := hF.trans hF1; replace hR := hR1; clear hF1 hR1
        refine ⟨hR.1, fun z hz => ?_⟩; replace hz := hz.trans (hR.2.2.1 521 (by decide)).1; subst hz
        intro v15 hv; replace h := h v15 hv; clear hv
        intro v16 hv; replace h := h v16 hv; clear hv
        obtain ⟨j17, hi, hj, h⟩ := h
        refine ⟨ma 521, rfl, (hR.2.2.1 521 (by decide)).2.1, j17, hi, by rw [(hR.2.2.1 521 (by decide)).2.2.1]; exact hj, by rw [(hR.2.2.1 521 (by decide)).2.2.1]; decide, fun v18 hv => ?_⟩; replace h := h v18 (hv.trans ((hR.2.2.1 521 (by decide)).2.2.2 j17)); clear hv hi hj
        refine ⟨hR.1, fun z hz => ?_⟩; replace hz := hz.trans (hR.2.2.1 516 (by decide)).1; subst hz
        obtain ⟨j19, hi, hj, h⟩ := h
        refine ⟨ma 516, rfl, (hR.2.2.1 516 (by decide)).2.1, j19, hi, by rw [(hR.2.2.1 516 (by decide)).2.2.1]; exact hj, by rw [(hR.2.2.1 516 (by decide)).2.2.1]; decide, fun v20 hv => ?_⟩; replace h := h v20 (hv.trans ((hR.2.2.1 516 (by decide)).2.2.2 j19)); clear hv hi hj
        refine ⟨hR.1, fun z hz => ?_⟩; replace hz := hz.trans (hR.2.2.1 514 (by decide)).1; subst hz
        obtain ⟨j21, hi, hj, h⟩ := h
        refine ⟨ma 514, rfl, (hR.2.2.1 514 (by decide)).2.1, j21, hi, by rw [(hR.2.2.1 514 (by decide)).2.2.1]; exact hj, by rw [(hR.2.2.1 514 (by decide)).2.2.1]; decide, fun v22 hv => ?_⟩; replace h := h v22 (hv.trans ((hR.2.2.1 514 (by decide)).2.2.2 j21)); clear hv hi hj
        refine ⟨hR.1, fun z hz => ?_⟩; replace hz := hz.trans (hR.2.2.1 517 (by decide)).1; subst hz
        obtain ⟨j23, hi, hj, h⟩ := h
        refine ⟨ma 517, rfl, (hR.2.2.1 517 (by decide)).2.1, j23, hi, by rw [(hR.2.2.1 517 (by decide)).2.2.1]; exact hj, by rw [(hR.2.2.1 517 (by decide)).2.2.1]; decide, fun v24 hv => ?_⟩; replace h := h v24 (hv.trans ((hR.2.2.1 517 (by decide)).2.2.2 j23)); clear hv hi hj
        intro v25 hv; replace h := h v25 hv; clear hv
        obtain ⟨J26, hjJ26, h⟩ := h
        refine ⟨fun y27 => J26 y27, fun y27 hJ => ?_, ?_⟩
        · have h := hjJ26 y27 hJ; clear hJ
          refine ⟨hR.1, fun z hz => ?_⟩; replace hz := hz.trans (hR.2.2.1 515 (by decide)).1; subst hz
          obtain ⟨j28, hi, hj, h⟩ := h
          refine ⟨ma 515, rfl, (hR.2.2.1 515 (by decide)).2.1, j28, hi, by rw [(hR.2.2.1 515 (by decide)).2.2.1]; exact hj, by rw [(hR.2.2.1 515 (by decide)).2.2.1]; decide, fun v29 hv => ?_⟩; replace h := h v29 (hv.trans ((hR.2.2.1 515 (by decide)).2.2.2 j28)); clear hv hi hj
          obtain ⟨J30, hjJ30, h⟩ := h
          refine ⟨fun y31 => J30 y31, fun y31 hJ => ?_, ?_⟩
          · have h := hjJ30 y31 hJ; clear hJ
            refine ⟨h.1, fun v32 hv => ?_⟩; replace h := h.2 v32 hv; clear hv
            obtain ⟨J33, hjJ33, h⟩ := h
            refine ⟨fun y34 => J33 y34, fun y34 hJ => ?_, ?_⟩
            · have h := hjJ33 y34 hJ; clear hJ
              refine ⟨hR.1, fun z hz => ?_⟩; replace hz := hz.trans (hR.2.2.1 517 (by decide)).1; subst hz
              obtain ⟨j35, hi, hj, h⟩ := h
              refine ⟨ma 517, rfl, (hR.2.2.1 517 (by decide)).2.1, j35, hi, by rw [(hR.2.2.1 517 (by decide)).2.2.1]; exact hj, by rw [(hR.2.2.1 517 (by decide)).2.2.1]; decide, fun v36 hv => ?_⟩; replace h := h v36 (hv.trans ((hR.2.2.1 517 (by decide)).2.2.2 j35)); clear hv hi hj
              intro v37 hv; replace h := h v37 hv; clear hv
              refine ⟨h.1, fun v38 hv => ?_⟩; replace h := h.2 v38 hv; clear hv
              obtain ⟨Inv40, ⟨n0, hi⟩, hsn39⟩ := h
              refine ⟨fun n y41 w1 => ∃ S1, Inv40 n y41 S1 ∧ FrM mo ma w w1 ∧ RepM w1 mo ma S1, ⟨n0, _, hi, hF, hR⟩, fun n39 y41 w1 hI => ?_⟩
              obtain ⟨S42, hI, hF, hR⟩ := hI
              have h := hsn39 n39 y41 S42 hI; clear hI
              refine ⟨hR.1, fun z hz => ?_⟩; replace hz := hz.trans (hR.2.2.1 517 (by decide)).1; subst hz
              obtain ⟨j43, hi, hj, h⟩ := h
              refine ⟨ma 517, rfl, (hR.2.2.1 517 (by decide)).2.1, j43, hi, by rw [(hR.2.2.1 517 (by decide)).2.2.1]; exact hj, by rw [(hR.2.2.1 517 (by decide)).2.2.1]; decide, fun v44 hv => ?_⟩; replace h := h v44 (hv.trans ((hR.2.2.1 517 (by decide)).2.2.2 j43)); clear hv hi hj
              refine ⟨fun hc => ?_, fun hc => ?_⟩
              · replace h := h.1 hc; clear hc
                refine ⟨hR.1, fun z hz => ?_⟩; replace hz := hz.trans (hR.2.2.1 527 (by decide)).1; subst hz
                intro v45 hv; replace h := h v45 hv; clear hv
                intro v46 hv; replace h := h v46 hv; clear hv
                obtain ⟨j47, hi, hj, h⟩ := h
                refine ⟨ma 527, rfl, (hR.2.2.1 527 (by decide)).2.1, j47, hi, by rw [(hR.2.2.1 527 (by decide)).2.2.1]; exact hj, by rw [(hR.2.2.1 527 (by decide)).2.2.1]; decide, fun w1 hw => ?_⟩; obtain ⟨S48, hS⟩ : ∃ z, z = S42.setA 527 j47 (vp_nar .boolean (1 : Int32)) := ⟨_, rfl⟩; replace h := h S48 hS; replace hF := hF.trans (FrM.putA (by decide) hw); replace hR := hR.putA (by decide) hw hS; clear hw hS hi hj
                refine ⟨hR.1, fun z hz => ?_⟩; replace hz := hz.trans (hR.2.2.1 518 (by decide)).1; subst hz
                obtain ⟨j49, hi, hj, h⟩ := h
                refine ⟨ma 518, rfl, (hR.2.2.1 518 (by decide)).2.1, j49, hi, by rw [(hR.2.2.1 518 (by decide)).2.2.1]; exact hj, by rw [(hR.2.2.1 518 (by decide)).2.2.1]; decide, fun v50 hv => ?_⟩; replace h := h v50 (hv.trans ((hR.2.2.1 518 (by decide)).2.2.2 j49)); clear hv hi hj
                intro v51 hv; replace h := h v51 hv; clear hv
                obtain ⟨j52, hi, hj, h⟩ := h
                refine ⟨(hR.2.2.1 518 (by decide)).2.1, j52, hi, by rw [(hR.2.2.1 518 (by decide)).2.2.1]; exact hj, by rw [(hR.2.2.1 518 (by decide)).2.2.1]; decide, fun w1 hw => ?_⟩; obtain ⟨S53, hS⟩ : ∃ z, z = S48.setA 518 j52 v51 := ⟨_, rfl⟩; replace h := h S53 hS; replace hF := hF.trans (FrM.putA (by decide) hw); replace hR := hR.putA (by decide) hw hS; clear hw hS hi hj
                refine ⟨hR.1, r_X4_rounds hR h (fun S54 w1 h hF1 hR1 => ?_)⟩; replace hF := hF.trans hF1; replace hR := hR1; clear hF1 hR1
                exact hQ _ _ _ h hF hR
              · replace h := h.2 hc; clear hc
                obtain ⟨J55, hjJ55, h⟩ := h
                refine ⟨fun y56 => J55 y56, fun y56 hJ => ?_, ?_⟩
                · have h := hjJ55 y56 hJ; clear hJ
                  refine ⟨hR.1, fun z hz => ?_⟩; replace hz := hz.trans (hR.2.2.1 521 (by decide)).1; subst hz
                  intro v57 hv; replace h := h v57 hv; clear hv
                  intro v58 hv; replace h := h v58 hv; clear hv
                  obtain ⟨j59, hi, hj, h⟩ := h
                  refine ⟨ma 521, rfl, (hR.2.2.1 521 (by decide)).2.1, j59, hi, by rw [(hR.2.2.1 521 (by decide)).2.2.1]; exact hj, by rw [(hR.2.2.1 521 (by decide)).2.2.1]; decide, fun v60 hv => ?_⟩; replace h := h v60 (hv.trans ((hR.2.2.1 521 (by decide)).2.2.2 j59)); clear hv hi hj
                  intro v61 hv; replace h := h v61 hv; clear hv
                  refine ⟨hR.1, r_X4_pays hR h (fun S62 w1 h hF1 hR1 => ?_)⟩; replace hF := hF.trans hF1; replace hR := hR1; clear hF1 hR1
                  refine ⟨hR.1, fun z hz => ?_⟩; replace hz := hz.trans (hR.2.2.1 516 (by decide)).1; subst hz
                  obtain ⟨j63, hi, hj, h⟩ := h
                  refine ⟨ma 516, rfl, (hR.2.2.1 516 (by decide)).2.1, j63, hi, by rw [(hR.2.2.1 516 (by decide)).2.2.1]; exact hj, by rw [(hR.2.2.1 516 (by decide)).2.2.1]; decide, fun v64 hv => ?_⟩; replace h := h v64 (hv.trans ((hR.2.2.1 516 (by decide)).2.2.2 j63)); clear hv hi hj
                  intro v65 hv; replace h := h v65 hv; clear hv
                  obtain ⟨j66, hi, hj, h⟩ := h
                  refine ⟨(hR.2.2.1 516 (by decide)).2.1, j66, hi, by rw [(hR.2.2.1 516 (by decide)).2.2.1]; exact hj, by rw [(hR.2.2.1 516 (by decide)).2.2.1]; decide, fun w1 hw => ?_⟩; obtain ⟨S67, hS⟩ : ∃ z, z = S62.setA 516 j66 v65 := ⟨_, rfl⟩; replace h := h S67 hS; replace hF := hF.trans (FrM.putA (by decide) hw); replace hR := hR.putA (by decide) hw hS; clear hw hS hi hj
                  refine ⟨hR.1, fun z hz => ?_⟩; replace hz := hz.trans (hR.2.2.1 524 (by decide)).1; subst hz
                  intro v68 hv; replace h := h v68 hv; clear hv
                  intro v69 hv; replace h := h v69 hv; clear hv
                  obtain ⟨j70, hi, hj, h⟩ := h
                  refine ⟨ma 524, rfl, (hR.2.2.1 524 (by decide)).2.1, j70, hi, by rw [(hR.2.2.1 524 (by decide)).2.2.1]; exact hj, by rw [(hR.2.2.1 524 (by decide)).2.2.1]; decide, fun w1 hw => ?_⟩; obtain ⟨S71, hS⟩ : ∃ z, z = S67.setA 524 j70 (0 : Int32) := ⟨_, rfl⟩; replace h := h S71 hS; replace hF := hF.trans (FrM.putA (by decide) hw); replace hR := hR.putA (by decide) hw hS; clear hw hS hi hj
                  intro v72 hv; replace h := h v72 hv; clear hv
                  obtain ⟨n, hn, h⟩ := h
                  exact ⟨n, hn, _, h, hF, hR⟩
                refine ⟨fun hc => ?_, fun hc => ?_⟩
                · replace h := h.1 hc; clear hc
                  exact h
                · replace h := h.2 hc; clear hc
                  intro v73 hv; replace h := h v73 hv; clear hv
                  exact h
            refine ⟨fun hc => ?_, fun hc => ?_⟩
            · replace h := h.1 hc; clear hc
              refine ⟨h.1, fun v74 hv => ?_⟩; replace h := h.2 v74 hv; clear hv
              exact h
            · replace h := h.2 hc; clear hc
              exact h
          refine ⟨fun hc => ?_, fun hc => ?_⟩
          · replace h := h.1 hc; clear hc
            exact h
          · replace h := h.2 hc; clear hc
            refine ⟨hR.1, fun z hz => ?_⟩; replace hz := hz.trans (hR.2.2.1 524 (by decide)).1; subst hz
            intro v75 hv; replace h := h v75 hv; clear hv
            intro v76 hv; replace h := h v76 hv; clear hv
            obtain ⟨j77, hi, hj, h⟩ := h
            refine ⟨ma 524, rfl, (hR.2.2.1 524 (by decide)).2.1, j77, hi, by rw [(hR.2.2.1 524 (by decide)).2.2.1]; exact hj, by rw [(hR.2.2.1 524 (by decide)).2.2.1]; decide, fun v78 hv => ?_⟩; replace h := h v78 (hv.trans ((hR.2.2.1 524 (by decide)).2.2.2 j77)); clear hv hi hj
            exact h
        refine ⟨fun hc => ?_, fun hc => ?_⟩
        · replace h := h.1 hc; clear hc
          refine ⟨hR.1, fun z hz => ?_⟩; replace hz := hz.trans (hR.2.2.1 514 (by decide)).1; subst hz
          obtain ⟨j79, hi, hj, h⟩ := h
          refine ⟨ma 514, rfl, (hR.2.2.1 514 (by decide)).2.1, j79, hi, by rw [(hR.2.2.1 514 (by decide)).2.2.1]; exact hj, by rw [(hR.2.2.1 514 (by decide)).2.2.1]; decide, fun v80 hv => ?_⟩; replace h := h v80 (hv.trans ((hR.2.2.1 514 (by decide)).2.2.2 j79)); clear hv hi hj
          refine ⟨hR.1, fun z hz => ?_⟩; replace hz := hz.trans (hR.2.2.1 517 (by decide)).1; subst hz
          obtain ⟨j81, hi, hj, h⟩ := h
          refine ⟨ma 517, rfl, (hR.2.2.1 517 (by decide)).2.1, j81, hi, by rw [(hR.2.2.1 517 (by decide)).2.2.1]; exact hj, by rw [(hR.2.2.1 517 (by decide)).2.2.1]; decide, fun v82 hv => ?_⟩; replace h := h v82 (hv.trans ((hR.2.2.1 517 (by decide)).2.2.2 j81)); clear hv hi hj
          intro v83 hv; replace h := h v83 hv; clear hv
          exact h
        · replace h := h.2 hc; clear hc
          refine ⟨hR.1, fun z hz => ?_⟩; replace hz := hz.trans (hR.2.2.1 516 (by decide)).1; subst hz
          obtain ⟨j84, hi, hj, h⟩ := h
          refine ⟨ma 516, rfl, (hR.2.2.1 516 (by decide)).2.1, j84, hi, by rw [(hR.2.2.1 516 (by decide)).2.2.1]; exact hj, by rw [(hR.2.2.1 516 (by decide)).2.2.1]; decide, fun v85 hv => ?_⟩; replace h := h v85 (hv.trans ((hR.2.2.1 516 (by decide)).2.2.2 j84)); clear hv hi hj
          exact h
      · replace h := h.2 hc; clear hc
        intro v86 hv; replace h := h v86 hv; clear hv
        intro v87 hv; replace h := h v87 hv; clear hv
        refine ⟨hR.1, r_X4_collects hR h (fun S88 w1 h hF1 hR1 => ?_)⟩; replace hF := hF.trans hF1; replace hR := hR1; clear hF1 hR1
        intro v89 hv; replace h := h v89 hv; clear hv
        obtain ⟨n, hn, h⟩ := h
        exact ⟨n, hn, _, h, hF, hR⟩
    · replace h := h.2 hc; clear hc
      exact hQ _ _ _ h hF hR
  refine ⟨fun hc => ?_, fun hc => ?_⟩
  · replace h := h.1 hc; clear hc
    refine ⟨hR.1, fun z hz => ?_⟩; replace hz := hz.trans (hR.2.2.1 520 (by decide)).1; subst hz
    obtain ⟨j90, hi, hj, h⟩ := h
    refine ⟨ma 520, rfl, (hR.2.2.1 520 (by decide)).2.1, j90, hi, by rw [(hR.2.2.1 520 (by decide)).2.2.1]; exact hj, by rw [(hR.2.2.1 520 (by decide)).2.2.1]; decide, fun v91 hv => ?_⟩; replace h := h v91 (hv.trans ((hR.2.2.1 520 (by decide)).2.2.2 j90)); clear hv hi hj
    obtain ⟨J92, hjJ92, h⟩ := h
    refine ⟨fun z0_92 => z0_92 = (some mo) ∧ J92 , fun z0_92 hJ => ?_, ?_⟩
    · obtain ⟨rfl, hJ⟩ := hJ
      have h := hjJ92  hJ; clear hJ
      exact ⟨rfl, h⟩
    refine ⟨fun hc => ?_, fun hc => ?_⟩
    · replace h := h.1 hc; clear hc
      exact ⟨rfl, h⟩
    · replace h := h.2 hc; clear hc
      refine ⟨hR.1, fun z hz => ?_⟩; replace hz := hz.trans (hR.2.2.1 517 (by decide)).1; subst hz
      obtain ⟨j93, hi, hj, h⟩ := h
      refine ⟨ma 517, rfl, (hR.2.2.1 517 (by decide)).2.1, j93, hi, by rw [(hR.2.2.1 517 (by decide)).2.2.1]; exact hj, by rw [(hR.2.2.1 517 (by decide)).2.2.1]; decide, fun v94 hv => ?_⟩; replace h := h v94 (hv.trans ((hR.2.2.1 517 (by decide)).2.2.2 j93)); clear hv hi hj
      refine ⟨fun hc => ?_, fun hc => ?_⟩
      · replace h := h.1 hc; clear hc
        exact ⟨rfl, h⟩
      · replace h := h.2 hc; clear hc
        exact ⟨rfl, h⟩
  · replace h := h.2 hc; clear hc
    exact ⟨rfl, h⟩

def sp_X4_leave (x1 : Int32) (x2 : Int32) (S : MS) (Q : Int32 → MS → Prop) : Prop :=
  sp_X4_isCircle x1 S (fun v2 S1 => 
  ∃ J3 : Int32 → MS → Prop, (∀ (y4 : Int32) (S5 : MS), J3 y4 S5 →
  ∀ S6 : MS, S6 = S5.setS 500 y4 →
  ∀ v7 : Int32, v7 = S6.s 500 →
  (v7 = 0 → sp_X4_placeOf x1 x2 S6 (fun v9 S8 => 
  ∃ J10 : Int32 → Prop, (∀ (y11 : Int32), J10 y11 →
  ∀ S12 : MS, S12 = S8.setS 500 y11 →
  ∀ v13 : Int32, v13 = S12.s 500 →
  (v13 = 0 → ∀ v14 : Int32, v14 = (10 : Int32) * x1 →
  ∀ v15 : Int32, v15 = v14 + v9 →
  ∃ j16 : Nat, v15 = nI j16 ∧ j16 < 40 ∧
  ∀ v17 : Int32, v17 = S12.a 525 j16 →
  ∃ j18 : Nat, x1 = nI j18 ∧ j18 < 4 ∧
  ∀ v19 : Int32, v19 = S12.a 516 j18 →
  ∃ J20 : Int32 → Prop, (∀ (y21 : Int32), J20 y21 →
  ∃ j22 : Nat, x1 = nI j22 ∧ j22 < 4 ∧
  ∀ v23 : Int32, v23 = S12.a 516 j22 →
  ∀ v24 : Int32, v24 = v23 - y21 →
  ∃ j25 : Nat, x1 = nI j25 ∧ j25 < 4 ∧
  ∀ S26 : MS, S26 = S12.setA 516 j25 v24 →
  ∀ v27 : Int32, v27 = -y21 →
  sp_X4_pays x2 v27 S26 (fun S28 => 
  sp_X4_goes x1 v9 S28 (fun S29 => 
  Q y21 S29))) ∧
  (v19 ≤ v17 → ∃ j30 : Nat, x1 = nI j30 ∧ j30 < 4 ∧
  ∀ v31 : Int32, v31 = S12.a 516 j30 →
  J20 v31) ∧ (¬ v19 ≤ v17 → J20 v17)) ∧ (¬ v13 = 0 → Q (0 : Int32) S12)) ∧
  ∃ J32 : Prop, (J32 →
  J10 (2 : Int32)) ∧
  (v9 < 0 → J32) ∧ (¬ v9 < 0 → ∀ v33 : Int32, v33 = (10 : Int32) * x1 →
  ∀ v34 : Int32, v34 = v33 + v9 →
  ∃ j35 : Nat, v34 = nI j35 ∧ j35 < 40 ∧
  ∀ v36 : Int32, v36 = S8.a 527 j35 →
  (¬ v36 = 0 → J32) ∧ (v36 = 0 → ∀ v37 : Int32, v37 = (10 : Int32) * x1 →
  ∀ v38 : Int32, v38 = v37 + v9 →
  ∃ j39 : Nat, v38 = nI j39 ∧ j39 < 40 ∧
  ∀ v40 : Int32, v40 = S8.a 522 j39 →
  (v40 ≤ 0 → J10 (0 : Int32)) ∧ (¬ v40 ≤ 0 → J32))))) ∧ (¬ v7 = 0 → Q (0 : Int32) S6)) ∧
  ∃ J41 : MS → Prop, (∀  (S42 : MS), J41  S42 →
  J3 (1 : Int32) S42) ∧
  (v2 = 0 → J41 S1) ∧ (¬ v2 = 0 → sp_X4_isOne x2 S1 (fun v44 S43 => 
  (¬ v44 = 0 → J3 (0 : Int32) S43) ∧ (v44 = 0 → J41 S43))))
set_option maxHeartbeats 4000000 in
set_option maxRecDepth 100000 in
theorem r_X4_leave {mo : Nat} {ma : Nat → Nat} {x1 : Int32} {x2 : Int32} {w : Wd} {S : MS} {Q : Int32 → Wd → Prop} {Q1 : Int32 → MS → Prop} (hR : RepM w mo ma S) (h : sp_X4_leave x1 x2 S Q1) (hQ : ∀ r S1 w1, Q1 r S1 → FrM mo ma w w1 → RepM w1 mo ma S1 → Q r w1) : wp_X4_leave mo x1 x2 w Q := by
  have hF : FrM mo ma w w := FrM.rfl
  unfold sp_X4_leave at h
  unfold wp_X4_leave
  refine ⟨hR.1, r_X4_isCircle hR h (fun v2 S1 w1 h hF1 hR1 => ?_)⟩; replace hF := hF.trans hF1; replace hR := hR1; clear hF1 hR1
  obtain ⟨J3, hjJ3, h⟩ := h
  refine ⟨fun z0_40 y4 w1 => ∃ S1, z0_40 = (some mo) ∧ J3 y4 S1 ∧ FrM mo ma w w1 ∧ RepM w1 mo ma S1, fun z0_40 y4 w1 hJ => ?_, ?_⟩
  · obtain ⟨S5, rfl, hJ, hF, hR⟩ := hJ
    have h := hjJ3 y4 S5 hJ; clear hJ
    refine ⟨mo, rfl, hR.1, fun w1 hw => ?_⟩; obtain ⟨S6, hS⟩ : ∃ z, z = S5.setS 500 y4 := ⟨_, rfl⟩; replace h := h S6 hS; replace hF := hF.trans (FrM.putS (by decide) hw); replace hR := hR.putS (by decide) hw hS; clear hw hS
    refine ⟨hR.1, fun v7 hv => ?_⟩; replace h := h v7 (hv.trans (hR.2.1 500 (by decide))); clear hv
    refine ⟨fun hc => ?_, fun hc => ?_⟩
    · replace h := h.1 hc; clear hc
      refine ⟨hR.1, r_X4_placeOf hR h (fun v9 S8 w1 h hF1 hR1 => ?_)⟩; replace hF := hF.trans hF1; replace hR := hR1; clear hF1 hR1
      obtain ⟨J10, hjJ10, h⟩ := h
      refine ⟨fun z0_31 y11 => z0_31 = (some mo) ∧ J10 y11, fun z0_31 y11 hJ => ?_, ?_⟩
      · obtain ⟨rfl, hJ⟩ := hJ
        have h := hjJ10 y11 hJ; clear hJ
        refine ⟨mo, rfl, hR.1, fun w1 hw => ?_⟩; obtain ⟨S12, hS⟩ : ∃ z, z = S8.setS 500 y11 := ⟨_, rfl⟩; replace h := h S12 hS; replace hF := hF.trans (FrM.putS (by decide) hw); replace hR := hR.putS (by decide) hw hS; clear hw hS
        refine ⟨hR.1, fun v13 hv => ?_⟩; replace h := h v13 (hv.trans (hR.2.1 500 (by decide))); clear hv
        refine ⟨fun hc => ?_, fun hc => ?_⟩
        · replace h := h.1 hc; clear hc
          refine ⟨hR.1, fun z hz => ?_⟩; replace hz := hz.trans (hR.2.2.1 525 (by decide)).1; subst hz
          intro v14 hv; replace h := h v14 hv; clear hv
          intro v15 hv; replace h := h v15 hv; clear hv
          obtain ⟨j16, hi, hj, h⟩ := h
          refine ⟨ma 525, rfl, (hR.2.2.1 525 (by decide)).2.1, j16, hi, by rw [(hR.2.2.1 525 (by decide)).2.2.1]; exact hj, by rw [(hR.2.2.1 525 (by decide)).2.2.1]; decide, fun v17 hv => ?_⟩; replace h := h v17 (hv.trans ((hR.2.2.1 525 (by decide)).2.2.2 j16)); clear hv hi hj
          refine ⟨hR.1, fun z hz => ?_⟩; replace hz := hz.trans (hR.2.2.1 516 (by decide)).1; subst hz
          obtain ⟨j18, hi, hj, h⟩ := h
          refine ⟨ma 516, rfl, (hR.2.2.1 516 (by decide)).2.1, j18, hi, by rw [(hR.2.2.1 516 (by decide)).2.2.1]; exact hj, by rw [(hR.2.2.1 516 (by decide)).2.2.1]; decide, fun v19 hv => ?_⟩; replace h := h v19 (hv.trans ((hR.2.2.1 516 (by decide)).2.2.2 j18)); clear hv hi hj
          obtain ⟨J20, hjJ20, h⟩ := h
          refine ⟨fun y21 => J20 y21, fun y21 hJ => ?_, ?_⟩
          · have h := hjJ20 y21 hJ; clear hJ
            refine ⟨hR.1, fun z hz => ?_⟩; replace hz := hz.trans (hR.2.2.1 516 (by decide)).1; subst hz
            obtain ⟨j22, hi, hj, h⟩ := h
            refine ⟨ma 516, rfl, (hR.2.2.1 516 (by decide)).2.1, j22, hi, by rw [(hR.2.2.1 516 (by decide)).2.2.1]; exact hj, by rw [(hR.2.2.1 516 (by decide)).2.2.1]; decide, fun v23 hv => ?_⟩; replace h := h v23 (hv.trans ((hR.2.2.1 516 (by decide)).2.2.2 j22)); clear hv hi hj
            intro v24 hv; replace h := h v24 hv; clear hv
            obtain ⟨j25, hi, hj, h⟩ := h
            refine ⟨(hR.2.2.1 516 (by decide)).2.1, j25, hi, by rw [(hR.2.2.1 516 (by decide)).2.2.1]; exact hj, by rw [(hR.2.2.1 516 (by decide)).2.2.1]; decide, fun w1 hw => ?_⟩; obtain ⟨S26, hS⟩ : ∃ z, z = S12.setA 516 j25 v24 := ⟨_, rfl⟩; replace h := h S26 hS; replace hF := hF.trans (FrM.putA (by decide) hw); replace hR := hR.putA (by decide) hw hS; clear hw hS hi hj
            intro v27 hv; replace h := h v27 hv; clear hv
            refine ⟨hR.1, r_X4_pays hR h (fun S28 w1 h hF1 hR1 => ?_)⟩; replace hF := hF.trans hF1; replace hR := hR1; clear hF1 hR1
            refine ⟨hR.1, r_X4_goes hR h (fun S29 w1 h hF1 hR1 => ?_)⟩; replace hF := hF.trans hF1; replace hR := hR1; clear hF1 hR1
            exact hQ _ _ _ h hF hR
          refine ⟨fun hc => ?_, fun hc => ?_⟩
          · replace h := h.1 hc; clear hc
            refine ⟨hR.1, fun z hz => ?_⟩; replace hz := hz.trans (hR.2.2.1 516 (by decide)).1; subst hz
            obtain ⟨j30, hi, hj, h⟩ := h
            refine ⟨ma 516, rfl, (hR.2.2.1 516 (by decide)).2.1, j30, hi, by rw [(hR.2.2.1 516 (by decide)).2.2.1]; exact hj, by rw [(hR.2.2.1 516 (by decide)).2.2.1]; decide, fun v31 hv => ?_⟩; replace h := h v31 (hv.trans ((hR.2.2.1 516 (by decide)).2.2.2 j30)); clear hv hi hj
            exact h
          · replace h := h.2 hc; clear hc
            exact h
        · replace h := h.2 hc; clear hc
          exact hQ _ _ _ h hF hR
      obtain ⟨J32, hjJ32, h⟩ := h
      refine ⟨fun z0_32 => z0_32 = (some mo) ∧ J32 , fun z0_32 hJ => ?_, ?_⟩
      · obtain ⟨rfl, hJ⟩ := hJ
        have h := hjJ32  hJ; clear hJ
        exact ⟨rfl, h⟩
      refine ⟨fun hc => ?_, fun hc => ?_⟩
      · replace h := h.1 hc; clear hc
        exact ⟨rfl, h⟩
      · replace h := h.2 hc; clear hc
        refine ⟨hR.1, fun z hz => ?_⟩; replace hz := hz.trans (hR.2.2.1 527 (by decide)).1; subst hz
        intro v33 hv; replace h := h v33 hv; clear hv
        intro v34 hv; replace h := h v34 hv; clear hv
        obtain ⟨j35, hi, hj, h⟩ := h
        refine ⟨ma 527, rfl, (hR.2.2.1 527 (by decide)).2.1, j35, hi, by rw [(hR.2.2.1 527 (by decide)).2.2.1]; exact hj, by rw [(hR.2.2.1 527 (by decide)).2.2.1]; decide, fun v36 hv => ?_⟩; replace h := h v36 (hv.trans ((hR.2.2.1 527 (by decide)).2.2.2 j35)); clear hv hi hj
        refine ⟨fun hc => ?_, fun hc => ?_⟩
        · replace h := h.1 hc; clear hc
          exact ⟨rfl, h⟩
        · replace h := h.2 hc; clear hc
          refine ⟨hR.1, fun z hz => ?_⟩; replace hz := hz.trans (hR.2.2.1 522 (by decide)).1; subst hz
          intro v37 hv; replace h := h v37 hv; clear hv
          intro v38 hv; replace h := h v38 hv; clear hv
          obtain ⟨j39, hi, hj, h⟩ := h
          refine ⟨ma 522, rfl, (hR.2.2.1 522 (by decide)).2.1, j39, hi, by rw [(hR.2.2.1 522 (by decide)).2.2.1]; exact hj, by rw [(hR.2.2.1 522 (by decide)).2.2.1]; decide, fun v40 hv => ?_⟩; replace h := h v40 (hv.trans ((hR.2.2.1 522 (by decide)).2.2.2 j39)); clear hv hi hj
          refine ⟨fun hc => ?_, fun hc => ?_⟩
          · replace h := h.1 hc; clear hc
            exact ⟨rfl, h⟩
          · replace h := h.2 hc; clear hc
            exact ⟨rfl, h⟩
    · replace h := h.2 hc; clear hc
      exact hQ _ _ _ h hF hR
  obtain ⟨J41, hjJ41, h⟩ := h
  refine ⟨fun z0_42 w1 => ∃ S1, z0_42 = (some mo) ∧ J41  S1 ∧ FrM mo ma w w1 ∧ RepM w1 mo ma S1, fun z0_42 w1 hJ => ?_, ?_⟩
  · obtain ⟨S42, rfl, hJ, hF, hR⟩ := hJ
    have h := hjJ41  S42 hJ; clear hJ
    exact ⟨_, rfl, h, hF, hR⟩
  refine ⟨fun hc => ?_, fun hc => ?_⟩
  · replace h := h.1 hc; clear hc
    exact ⟨_, rfl, h, hF, hR⟩
  · replace h := h.2 hc; clear hc
    refine ⟨hR.1, r_X4_isOne hR h (fun v44 S43 w1 h hF1 hR1 => ?_)⟩; replace hF := hF.trans hF1; replace hR := hR1; clear hF1 hR1
    refine ⟨fun hc => ?_, fun hc => ?_⟩
    · replace h := h.1 hc; clear hc
      exact ⟨_, rfl, h, hF, hR⟩
    · replace h := h.2 hc; clear hc
      exact ⟨_, rfl, h, hF, hR⟩

def sp_X4_buy (x1 : Int32) (x2 : Int32) (S : MS) (Q : Int32 → MS → Prop) : Prop :=
  sp_X4_isOne x1 S (fun v2 S1 => 
  (¬ v2 = 0 → sp_X4_in x2 (1 : Int32) (100 : Int32) S1 (fun v4 S3 => 
  ∃ J5 : Int32 → Prop, (∀ (y6 : Int32), J5 y6 →
  ∀ S7 : MS, S7 = S3.setS 500 y6 →
  ∀ v8 : Int32, v8 = S7.s 500 →
  (v8 = 0 → ∀ v9 : Int32, v9 = (10 : Int32) * x2 →
  sp_X4_pays x1 v9 S7 (fun S10 => 
  ∀ v11 : Int32, v11 = S10.s 528 →
  ∀ v12 : Int32, v12 = (10 : Int32) * x2 →
  ∀ v13 : Int32, v13 = v11 + v12 →
  ∀ S14 : MS, S14 = S10.setS 528 v13 →
  ∃ j15 : Nat, x1 = nI j15 ∧ j15 < 16 ∧
  ∀ v16 : Int32, v16 = S14.a 505 j15 →
  ∀ v17 : Int32, v17 = v16 + x2 →
  ∃ j18 : Nat, x1 = nI j18 ∧ j18 < 16 ∧
  ∀ S19 : MS, S19 = S14.setA 505 j18 v17 →
  ∃ j20 : Nat, x1 = nI j20 ∧ j20 < 16 ∧
  ∀ v21 : Int32, v21 = S19.a 505 j20 →
  Q v21 S19)) ∧ (¬ v8 = 0 → Q (0 : Int32) S7)) ∧
  (¬ v4 = 0 → ∃ j22 : Nat, x1 = nI j22 ∧ j22 < 16 ∧
  ∀ v23 : Int32, v23 = S3.a 512 j22 →
  ∃ J24 : Prop, (J24 →
  J5 (3 : Int32)) ∧
  (¬ v23 = 0 → J24) ∧ (v23 = 0 → ∃ j25 : Nat, x1 = nI j25 ∧ j25 < 16 ∧
  ∀ v26 : Int32, v26 = S3.a 505 j25 →
  ∀ v27 : Int32, v27 = v26 + x2 →
  ((100 : Int32) < v27 → J24) ∧ (¬ (100 : Int32) < v27 → ∃ j28 : Nat, x1 = nI j28 ∧ j28 < 16 ∧
  ∀ v29 : Int32, v29 = S3.a 504 j28 →
  ∀ v30 : Int32, v30 = (10 : Int32) * x2 →
  (v30 ≤ v29 → J5 (0 : Int32)) ∧ (¬ v30 ≤ v29 → J24)))) ∧ (v4 = 0 → J5 (2 : Int32)))) ∧ (v2 = 0 → ∀ S31 : MS, S31 = S1.setS 500 (1 : Int32) →
  Q (0 : Int32) S31))
set_option maxHeartbeats 4000000 in
set_option maxRecDepth 100000 in
theorem r_X4_buy {mo : Nat} {ma : Nat → Nat} {x1 : Int32} {x2 : Int32} {w : Wd} {S : MS} {Q : Int32 → Wd → Prop} {Q1 : Int32 → MS → Prop} (hR : RepM w mo ma S) (h : sp_X4_buy x1 x2 S Q1) (hQ : ∀ r S1 w1, Q1 r S1 → FrM mo ma w w1 → RepM w1 mo ma S1 → Q r w1) : wp_X4_buy mo x1 x2 w Q := by
  have hF : FrM mo ma w w := FrM.rfl
  unfold sp_X4_buy at h
  unfold wp_X4_buy
  refine ⟨hR.1, r_X4_isOne hR h (fun v2 S1 w1 h hF1 hR1 => ?_)⟩; replace hF := hF.trans hF1; replace hR := hR1; clear hF1 hR1
  refine ⟨fun hc => ?_, fun hc => ?_⟩
  · replace h := h.1 hc; clear hc
    refine r_X4_in hR h (fun v4 S3 w1 h hF1 hR1 => ?_); replace hF := hF.trans hF1; replace hR := hR1; clear hF1 hR1
    obtain ⟨J5, hjJ5, h⟩ := h
    refine ⟨fun z0_21 y6 => z0_21 = (some mo) ∧ J5 y6, fun z0_21 y6 hJ => ?_, ?_⟩
    · obtain ⟨rfl, hJ⟩ := hJ
      have h := hjJ5 y6 hJ; clear hJ
      refine ⟨mo, rfl, hR.1, fun w1 hw => ?_⟩; obtain ⟨S7, hS⟩ : ∃ z, z = S3.setS 500 y6 := ⟨_, rfl⟩; replace h := h S7 hS; replace hF := hF.trans (FrM.putS (by decide) hw); replace hR := hR.putS (by decide) hw hS; clear hw hS
      refine ⟨hR.1, fun v8 hv => ?_⟩; replace h := h v8 (hv.trans (hR.2.1 500 (by decide))); clear hv
      refine ⟨fun hc => ?_, fun hc => ?_⟩
      · replace h := h.1 hc; clear hc
        intro v9 hv; replace h := h v9 hv; clear hv
        refine ⟨hR.1, r_X4_pays hR h (fun S10 w1 h hF1 hR1 => ?_)⟩; replace hF := hF.trans hF1; replace hR := hR1; clear hF1 hR1
        refine ⟨hR.1, fun v11 hv => ?_⟩; replace h := h v11 (hv.trans (hR.2.1 528 (by decide))); clear hv
        intro v12 hv; replace h := h v12 hv; clear hv
        intro v13 hv; replace h := h v13 hv; clear hv
        refine ⟨hR.1, fun w1 hw => ?_⟩; obtain ⟨S14, hS⟩ : ∃ z, z = S10.setS 528 v13 := ⟨_, rfl⟩; replace h := h S14 hS; replace hF := hF.trans (FrM.putS (by decide) hw); replace hR := hR.putS (by decide) hw hS; clear hw hS
        refine ⟨hR.1, fun z hz => ?_⟩; replace hz := hz.trans (hR.2.2.1 505 (by decide)).1; subst hz
        obtain ⟨j15, hi, hj, h⟩ := h
        refine ⟨ma 505, rfl, (hR.2.2.1 505 (by decide)).2.1, j15, hi, by rw [(hR.2.2.1 505 (by decide)).2.2.1]; exact hj, by rw [(hR.2.2.1 505 (by decide)).2.2.1]; decide, fun v16 hv => ?_⟩; replace h := h v16 (hv.trans ((hR.2.2.1 505 (by decide)).2.2.2 j15)); clear hv hi hj
        intro v17 hv; replace h := h v17 hv; clear hv
        obtain ⟨j18, hi, hj, h⟩ := h
        refine ⟨(hR.2.2.1 505 (by decide)).2.1, j18, hi, by rw [(hR.2.2.1 505 (by decide)).2.2.1]; exact hj, by rw [(hR.2.2.1 505 (by decide)).2.2.1]; decide, fun w1 hw => ?_⟩; obtain ⟨S19, hS⟩ : ∃ z, z = S14.setA 505 j18 v17 := ⟨_, rfl⟩; replace h := h S19 hS; replace hF := hF.trans (FrM.putA (by decide) hw); replace hR := hR.putA (by decide) hw hS; clear hw hS hi hj
        refine ⟨hR.1, fun z hz => ?_⟩; replace hz := hz.trans (hR.2.2.1 505 (by decide)).1; subst hz
        obtain ⟨j20, hi, hj, h⟩ := h
        refine ⟨ma 505, rfl, (hR.2.2.1 505 (by decide)).2.1, j20, hi, by rw [(hR.2.2.1 505 (by decide)).2.2.1]; exact hj, by rw [(hR.2.2.1 505 (by decide)).2.2.1]; decide, fun v21 hv => ?_⟩; replace h := h v21 (hv.trans ((hR.2.2.1 505 (by decide)).2.2.2 j20)); clear hv hi hj
        exact hQ _ _ _ h hF hR
      · replace h := h.2 hc; clear hc
        exact hQ _ _ _ h hF hR
    refine ⟨fun hc => ?_, fun hc => ?_⟩
    · replace h := h.1 hc; clear hc
      refine ⟨hR.1, fun z hz => ?_⟩; replace hz := hz.trans (hR.2.2.1 512 (by decide)).1; subst hz
      obtain ⟨j22, hi, hj, h⟩ := h
      refine ⟨ma 512, rfl, (hR.2.2.1 512 (by decide)).2.1, j22, hi, by rw [(hR.2.2.1 512 (by decide)).2.2.1]; exact hj, by rw [(hR.2.2.1 512 (by decide)).2.2.1]; decide, fun v23 hv => ?_⟩; replace h := h v23 (hv.trans ((hR.2.2.1 512 (by decide)).2.2.2 j22)); clear hv hi hj
      obtain ⟨J24, hjJ24, h⟩ := h
      refine ⟨fun z0_24 => z0_24 = (some mo) ∧ J24 , fun z0_24 hJ => ?_, ?_⟩
      · obtain ⟨rfl, hJ⟩ := hJ
        have h := hjJ24  hJ; clear hJ
        exact ⟨rfl, h⟩
      refine ⟨fun hc => ?_, fun hc => ?_⟩
      · replace h := h.1 hc; clear hc
        exact ⟨rfl, h⟩
      · replace h := h.2 hc; clear hc
        refine ⟨hR.1, fun z hz => ?_⟩; replace hz := hz.trans (hR.2.2.1 505 (by decide)).1; subst hz
        obtain ⟨j25, hi, hj, h⟩ := h
        refine ⟨ma 505, rfl, (hR.2.2.1 505 (by decide)).2.1, j25, hi, by rw [(hR.2.2.1 505 (by decide)).2.2.1]; exact hj, by rw [(hR.2.2.1 505 (by decide)).2.2.1]; decide, fun v26 hv => ?_⟩; replace h := h v26 (hv.trans ((hR.2.2.1 505 (by decide)).2.2.2 j25)); clear hv hi hj
        intro v27 hv; replace h := h v27 hv; clear hv
        refine ⟨fun hc => ?_, fun hc => ?_⟩
        · replace h := h.1 hc; clear hc
          exact ⟨rfl, h⟩
        · replace h := h.2 hc; clear hc
          refine ⟨hR.1, fun z hz => ?_⟩; replace hz := hz.trans (hR.2.2.1 504 (by decide)).1; subst hz
          obtain ⟨j28, hi, hj, h⟩ := h
          refine ⟨ma 504, rfl, (hR.2.2.1 504 (by decide)).2.1, j28, hi, by rw [(hR.2.2.1 504 (by decide)).2.2.1]; exact hj, by rw [(hR.2.2.1 504 (by decide)).2.2.1]; decide, fun v29 hv => ?_⟩; replace h := h v29 (hv.trans ((hR.2.2.1 504 (by decide)).2.2.2 j28)); clear hv hi hj
          intro v30 hv; replace h := h v30 hv; clear hv
          refine ⟨fun hc => ?_, fun hc => ?_⟩
          · replace h := h.1 hc; clear hc
            exact ⟨rfl, h⟩
          · replace h := h.2 hc; clear hc
            exact ⟨rfl, h⟩
    · replace h := h.2 hc; clear hc
      exact ⟨rfl, h⟩
  · replace h := h.2 hc; clear hc
    refine ⟨hR.1, fun w1 hw => ?_⟩; obtain ⟨S31, hS⟩ : ∃ z, z = S1.setS 500 (1 : Int32) := ⟨_, rfl⟩; replace h := h S31 hS; replace hF := hF.trans (FrM.putS (by decide) hw); replace hR := hR.putS (by decide) hw hS; clear hw hS
    exact hQ _ _ _ h hF hR

def sp_X4_house (x1 : Int32) (x2 : Int32) (S : MS) (Q : Int32 → MS → Prop) : Prop :=
  ∃ Inv2 : Nat → Int32 → Int32 → MS → Prop, (∃ n : Nat, Inv2 n (0 : Int32) (0 : Int32) S) ∧ ∀ (n1 : Nat) (y3 : Int32) (y4 : Int32) (S5 : MS), Inv2 n1 y3 y4 S5 →
  ∀ v6 : Int32, v6 = S5.s 501 →
  (v6 ≤ y4 → Q y3 S5) ∧ (¬ v6 ≤ y4 → ∃ j7 : Nat, y4 = nI j7 ∧ j7 < 16 ∧
  ∀ v8 : Int32, v8 = S5.a 512 j7 →
  ∃ J9 : Int32 → Int32 → MS → Prop, (∀ (y10 : Int32) (y11 : Int32) (S12 : MS), J9 y10 y11 S12 →
  ∀ v13 : Int32, v13 = y10 + y11 →
  ∀ v14 : Int32, v14 = y4 + (1 : Int32) →
  ∃ n : Nat, n < n1 ∧ Inv2 n v13 v14 S12) ∧
  ∃ J15 : Int32 → MS → Prop, (∀ (y16 : Int32) (S17 : MS), J15 y16 S17 →
  J9 y16 (0 : Int32) S17) ∧
  (¬ v8 = 0 → J15 y3 S5) ∧ (v8 = 0 → ∃ j18 : Nat, x1 = nI j18 ∧ j18 < 16 ∧
  ∀ v19 : Int32, v19 = S5.a 503 j18 →
  ∃ j20 : Nat, y4 = nI j20 ∧ j20 < 16 ∧
  ∀ v21 : Int32, v21 = S5.a 503 j20 →
  sp_X4_areAlike v19 v21 S5 (fun v23 S22 => 
  (v23 = 0 → J15 y3 S22) ∧ (¬ v23 = 0 → (x2 = 0 → J9 y3 (1 : Int32) S22) ∧ (¬ x2 = 0 → ∃ j24 : Nat, y4 = nI j24 ∧ j24 < 16 ∧
  ∀ v25 : Int32, v25 = S22.a 506 j24 →
  J9 y3 v25 S22)))))
set_option maxHeartbeats 4000000 in
set_option maxRecDepth 100000 in
theorem r_X4_house {mo : Nat} {ma : Nat → Nat} {x1 : Int32} {x2 : Int32} {w : Wd} {S : MS} {Q : Int32 → Wd → Prop} {Q1 : Int32 → MS → Prop} (hR : RepM w mo ma S) (h : sp_X4_house x1 x2 S Q1) (hQ : ∀ r S1 w1, Q1 r S1 → FrM mo ma w w1 → RepM w1 mo ma S1 → Q r w1) : wp_X4_house mo x1 x2 w Q := by
  have hF : FrM mo ma w w := FrM.rfl
  unfold sp_X4_house at h
  unfold wp_X4_house
  obtain ⟨Inv2, ⟨n0, hi⟩, hsn1⟩ := h
  refine ⟨fun n y3 y4 w1 => ∃ S1, Inv2 n y3 y4 S1 ∧ FrM mo ma w w1 ∧ RepM w1 mo ma S1, ⟨n0, _, hi, hF, hR⟩, fun n1 y3 y4 w1 hI => ?_⟩
  obtain ⟨S5, hI, hF, hR⟩ := hI
  have h := hsn1 n1 y3 y4 S5 hI; clear hI
  refine ⟨hR.1, fun v6 hv => ?_⟩; replace h := h v6 (hv.trans (hR.2.1 501 (by decide))); clear hv
  refine ⟨fun hc => ?_, fun hc => ?_⟩
  · replace h := h.1 hc; clear hc
    exact hQ _ _ _ h hF hR
  · replace h := h.2 hc; clear hc
    refine ⟨hR.1, fun z hz => ?_⟩; replace hz := hz.trans (hR.2.2.1 512 (by decide)).1; subst hz
    obtain ⟨j7, hi, hj, h⟩ := h
    refine ⟨ma 512, rfl, (hR.2.2.1 512 (by decide)).2.1, j7, hi, by rw [(hR.2.2.1 512 (by decide)).2.2.1]; exact hj, by rw [(hR.2.2.1 512 (by decide)).2.2.1]; decide, fun v8 hv => ?_⟩; replace h := h v8 (hv.trans ((hR.2.2.1 512 (by decide)).2.2.2 j7)); clear hv hi hj
    obtain ⟨J9, hjJ9, h⟩ := h
    refine ⟨fun y10 y11 w1 => ∃ S1, J9 y10 y11 S1 ∧ FrM mo ma w w1 ∧ RepM w1 mo ma S1, fun y10 y11 w1 hJ => ?_, ?_⟩
    · obtain ⟨S12, hJ, hF, hR⟩ := hJ
      have h := hjJ9 y10 y11 S12 hJ; clear hJ
      intro v13 hv; replace h := h v13 hv; clear hv
      intro v14 hv; replace h := h v14 hv; clear hv
      obtain ⟨n, hn, h⟩ := h
      exact ⟨n, hn, _, h, hF, hR⟩
    obtain ⟨J15, hjJ15, h⟩ := h
    refine ⟨fun y16 w1 => ∃ S1, J15 y16 S1 ∧ FrM mo ma w w1 ∧ RepM w1 mo ma S1, fun y16 w1 hJ => ?_, ?_⟩
    · obtain ⟨S17, hJ, hF, hR⟩ := hJ
      have h := hjJ15 y16 S17 hJ; clear hJ
      exact ⟨_, h, hF, hR⟩
    refine ⟨fun hc => ?_, fun hc => ?_⟩
    · replace h := h.1 hc; clear hc
      exact ⟨_, h, hF, hR⟩
    · replace h := h.2 hc; clear hc
      refine ⟨hR.1, fun z hz => ?_⟩; replace hz := hz.trans (hR.2.2.1 503 (by decide)).1; subst hz
      obtain ⟨j18, hi, hj, h⟩ := h
      refine ⟨ma 503, rfl, (hR.2.2.1 503 (by decide)).2.1, j18, hi, by rw [(hR.2.2.1 503 (by decide)).2.2.1]; exact hj, by rw [(hR.2.2.1 503 (by decide)).2.2.1]; decide, fun v19 hv => ?_⟩; replace h := h v19 (hv.trans ((hR.2.2.1 503 (by decide)).2.2.2 j18)); clear hv hi hj
      refine ⟨hR.1, fun z hz => ?_⟩; replace hz := hz.trans (hR.2.2.1 503 (by decide)).1; subst hz
      obtain ⟨j20, hi, hj, h⟩ := h
      refine ⟨ma 503, rfl, (hR.2.2.1 503 (by decide)).2.1, j20, hi, by rw [(hR.2.2.1 503 (by decide)).2.2.1]; exact hj, by rw [(hR.2.2.1 503 (by decide)).2.2.1]; decide, fun v21 hv => ?_⟩; replace h := h v21 (hv.trans ((hR.2.2.1 503 (by decide)).2.2.2 j20)); clear hv hi hj
      refine r_X4_areAlike hR h (fun v23 S22 w1 h hF1 hR1 => ?_); replace hF := hF.trans hF1; replace hR := hR1; clear hF1 hR1
      refine ⟨fun hc => ?_, fun hc => ?_⟩
      · replace h := h.1 hc; clear hc
        exact ⟨_, h, hF, hR⟩
      · replace h := h.2 hc; clear hc
        refine ⟨fun hc => ?_, fun hc => ?_⟩
        · replace h := h.1 hc; clear hc
          exact ⟨_, h, hF, hR⟩
        · replace h := h.2 hc; clear hc
          refine ⟨hR.1, fun z hz => ?_⟩; replace hz := hz.trans (hR.2.2.1 506 (by decide)).1; subst hz
          obtain ⟨j24, hi, hj, h⟩ := h
          refine ⟨ma 506, rfl, (hR.2.2.1 506 (by decide)).2.1, j24, hi, by rw [(hR.2.2.1 506 (by decide)).2.2.1]; exact hj, by rw [(hR.2.2.1 506 (by decide)).2.2.1]; decide, fun v25 hv => ?_⟩; replace h := h v25 (hv.trans ((hR.2.2.1 506 (by decide)).2.2.2 j24)); clear hv hi hj
          exact ⟨_, h, hF, hR⟩

def sp_X4_has (x1 : Int32) (S : MS) (Q : Int32 → MS → Prop) : Prop :=
  ∃ j1 : Nat, x1 = nI j1 ∧ j1 < 16 ∧
  ∀ v2 : Int32, v2 = S.a 512 j1 →
  ∃ J3 : Int32 → Prop, (∀ (y4 : Int32), J3 y4 →
  (y4 = 0 ∨ y4 = 1) ∧ Q y4 S) ∧
  ∃ J5 : Prop, (J5 →
  J3 (0 : Int32)) ∧
  (¬ v2 = 0 → J5) ∧ (v2 = 0 → ∃ j6 : Nat, x1 = nI j6 ∧ j6 < 16 ∧
  ∀ v7 : Int32, v7 = S.a 505 j6 →
  (v7 ≤ 0 → J5) ∧ (¬ v7 ≤ 0 → J3 (1 : Int32)))
set_option maxHeartbeats 4000000 in
set_option maxRecDepth 100000 in
theorem r_X4_has {mo : Nat} {ma : Nat → Nat} {x1 : Int32} {w : Wd} {S : MS} {Q : Int32 → Wd → Prop} {Q1 : Int32 → MS → Prop} (hR : RepM w mo ma S) (h : sp_X4_has x1 S Q1) (hQ : ∀ r S1 w1, Q1 r S1 → FrM mo ma w w1 → RepM w1 mo ma S1 → Q r w1) : wp_X4_has mo x1 w Q := by
  have hF : FrM mo ma w w := FrM.rfl
  unfold sp_X4_has at h
  unfold wp_X4_has
  refine ⟨hR.1, fun z hz => ?_⟩; replace hz := hz.trans (hR.2.2.1 512 (by decide)).1; subst hz
  obtain ⟨j1, hi, hj, h⟩ := h
  refine ⟨ma 512, rfl, (hR.2.2.1 512 (by decide)).2.1, j1, hi, by rw [(hR.2.2.1 512 (by decide)).2.2.1]; exact hj, by rw [(hR.2.2.1 512 (by decide)).2.2.1]; decide, fun v2 hv => ?_⟩; replace h := h v2 (hv.trans ((hR.2.2.1 512 (by decide)).2.2.2 j1)); clear hv hi hj
  obtain ⟨J3, hjJ3, h⟩ := h
  refine ⟨fun y4 => J3 y4, fun y4 hJ => ?_, ?_⟩
  · have h := hjJ3 y4 hJ; clear hJ
    exact ⟨h.1, hQ _ _ _ h.2 hF hR⟩
  obtain ⟨J5, hjJ5, h⟩ := h
  refine ⟨J5, fun hJ => ?_, ?_⟩
  · have h := hjJ5 hJ; clear hJ
    exact h
  refine ⟨fun hc => ?_, fun hc => ?_⟩
  · replace h := h.1 hc; clear hc
    exact h
  · replace h := h.2 hc; clear hc
    refine ⟨hR.1, fun z hz => ?_⟩; replace hz := hz.trans (hR.2.2.1 505 (by decide)).1; subst hz
    obtain ⟨j6, hi, hj, h⟩ := h
    refine ⟨ma 505, rfl, (hR.2.2.1 505 (by decide)).2.1, j6, hi, by rw [(hR.2.2.1 505 (by decide)).2.2.1]; exact hj, by rw [(hR.2.2.1 505 (by decide)).2.2.1]; decide, fun v7 hv => ?_⟩; replace h := h v7 (hv.trans ((hR.2.2.1 505 (by decide)).2.2.2 j6)); clear hv hi hj
    refine ⟨fun hc => ?_, fun hc => ?_⟩
    · replace h := h.1 hc; clear hc
      exact h
    · replace h := h.2 hc; clear hc
      exact h

def sp_X4_borrow (x1 : Int32) (x2 : Int32) (x3 : Int32) (x4 : Int32) (S : MS) (Q : Int32 → MS → Prop) : Prop :=
  sp_X4_isOne x1 S (fun v2 S1 => 
  ∃ J3 : Int32 → MS → Prop, (∀ (y4 : Int32) (S5 : MS), J3 y4 S5 →
  ∀ S6 : MS, S6 = S5.setS 500 y4 →
  ∀ v7 : Int32, v7 = S6.s 500 →
  (v7 = 0 → sp_X4_has x1 S6 (fun v9 S8 => 
  ∃ J10 : Int32 → MS → Prop, (∀ (y11 : Int32) (S12 : MS), J10 y11 S12 →
  ∃ J13 : Int32 → MS → Prop, (∀ (y14 : Int32) (S15 : MS), J13 y14 S15 →
  ∀ S16 : MS, S16 = S15.setS 500 y14 →
  ∀ v17 : Int32, v17 = S16.s 500 →
  (v17 = 0 → ∀ v18 : Int32, v18 = -x2 →
  sp_X4_pays x1 v18 S16 (fun S19 => 
  ∀ v20 : Int32, v20 = S19.s 528 →
  ∀ v21 : Int32, v21 = v20 - x2 →
  ∀ S22 : MS, S22 = S19.setS 528 v21 →
  ∃ j23 : Nat, x1 = nI j23 ∧ j23 < 16 ∧
  ∀ S24 : MS, S24 = S22.setA 506 j23 x2 →
  ∃ j25 : Nat, x1 = nI j25 ∧ j25 < 16 ∧
  ∀ S26 : MS, S26 = S24.setA 507 j25 (0 : Int32) →
  ∃ j27 : Nat, x1 = nI j27 ∧ j27 < 16 ∧
  ∀ S28 : MS, S28 = S26.setA 508 j27 x3 →
  ∃ j29 : Nat, x1 = nI j29 ∧ j29 < 16 ∧
  ∀ S30 : MS, S30 = S28.setA 509 j29 x4 →
  ∃ j31 : Nat, x1 = nI j31 ∧ j31 < 16 ∧
  ∀ v32 : Int32, v32 = S30.a 504 j31 →
  Q v32 S30)) ∧ (¬ v17 = 0 → Q (0 : Int32) S16)) ∧
  ∃ J33 : MS → Prop, (∀  (S34 : MS), J33  S34 →
  J13 (3 : Int32) S34) ∧
  (y11 = 0 → J33 S12) ∧ (¬ y11 = 0 → ∃ j35 : Nat, x1 = nI j35 ∧ j35 < 16 ∧
  ∀ v36 : Int32, v36 = S12.a 510 j35 →
  ∀ v37 : Int32, v37 = (1 : Int32) + v36 →
  ∀ v38 : Int32, v38 = (50 : Int32) * v37 →
  (v38 < x2 → J33 S12) ∧ (¬ v38 < x2 → sp_X4_house x1 (1 : Int32) S12 (fun v40 S39 => 
  ∀ v41 : Int32, v41 = v40 + x2 →
  ((500 : Int32) < v41 → J33 S39) ∧ (¬ (500 : Int32) < v41 → ∀ v42 : Int32, v42 = S39.s 528 →
  (x2 ≤ v42 → J13 (0 : Int32) S39) ∧ (¬ x2 ≤ v42 → J33 S39)))))) ∧
  ∃ J43 : MS → Prop, (∀  (S44 : MS), J43  S44 →
  J10 (0 : Int32) S44) ∧
  (v9 = 0 → J43 S8) ∧ (¬ v9 = 0 → sp_X4_has x3 S8 (fun v46 S45 => 
  (v46 = 0 → J43 S45) ∧ (¬ v46 = 0 → sp_X4_has x4 S45 (fun v48 S47 => 
  (v48 = 0 → J43 S47) ∧ (¬ v48 = 0 → ∃ j49 : Nat, x1 = nI j49 ∧ j49 < 16 ∧
  ∀ v50 : Int32, v50 = S47.a 506 j49 →
  (¬ v50 = 0 → J43 S47) ∧ (v50 = 0 → J10 (1 : Int32) S47)))))))) ∧ (¬ v7 = 0 → Q (0 : Int32) S6)) ∧
  ∃ J51 : MS → Prop, (∀  (S52 : MS), J51  S52 →
  J3 (1 : Int32) S52) ∧
  (v2 = 0 → J51 S1) ∧ (¬ v2 = 0 → sp_X4_isOne x3 S1 (fun v54 S53 => 
  (v54 = 0 → J51 S53) ∧ (¬ v54 = 0 → sp_X4_isOne x4 S53 (fun v56 S55 => 
  (¬ v56 = 0 → ∃ J57 : MS → Prop, (∀  (S58 : MS), J57  S58 →
  J3 (2 : Int32) S58) ∧
  (x1 = x3 → J57 S55) ∧ (¬ x1 = x3 → (x1 = x4 → J57 S55) ∧ (¬ x1 = x4 → (x3 = x4 → J57 S55) ∧ (¬ x3 = x4 → sp_X4_in x2 (1 : Int32) (1000 : Int32) S55 (fun v60 S59 => 
  (¬ v60 = 0 → J3 (0 : Int32) S59) ∧ (v60 = 0 → J57 S59)))))) ∧ (v56 = 0 → J51 S55))))))
set_option maxHeartbeats 4000000 in
set_option maxRecDepth 100000 in
theorem r_X4_borrow {mo : Nat} {ma : Nat → Nat} {x1 : Int32} {x2 : Int32} {x3 : Int32} {x4 : Int32} {w : Wd} {S : MS} {Q : Int32 → Wd → Prop} {Q1 : Int32 → MS → Prop} (hR : RepM w mo ma S) (h : sp_X4_borrow x1 x2 x3 x4 S Q1) (hQ : ∀ r S1 w1, Q1 r S1 → FrM mo ma w w1 → RepM w1 mo ma S1 → Q r w1) : wp_X4_borrow mo x1 x2 x3 x4 w Q := by
  have hF : FrM mo ma w w := FrM.rfl
  unfold sp_X4_borrow at h
  unfold wp_X4_borrow
  refine ⟨hR.1, r_X4_isOne hR h (fun v2 S1 w1 h hF1 hR1 => ?_)⟩; replace hF := hF.trans hF1; replace hR := hR1; clear hF1 hR1
  obtain ⟨J3, hjJ3, h⟩ := h
  refine ⟨fun z0_50 y4 w1 => ∃ S1, z0_50 = (some mo) ∧ J3 y4 S1 ∧ FrM mo ma w w1 ∧ RepM w1 mo ma S1, fun z0_50 y4 w1 hJ => ?_, ?_⟩
  · obtain ⟨S5, rfl, hJ, hF, hR⟩ := hJ
    have h := hjJ3 y4 S5 hJ; clear hJ
    refine ⟨mo, rfl, hR.1, fun w1 hw => ?_⟩; obtain ⟨S6, hS⟩ : ∃ z, z = S5.setS 500 y4 := ⟨_, rfl⟩; replace h := h S6 hS; replace hF := hF.trans (FrM.putS (by decide) hw); replace hR := hR.putS (by decide) hw hS; clear hw hS
    refine ⟨hR.1, fun v7 hv => ?_⟩; replace h := h v7 (hv.trans (hR.2.1 500 (by decide))); clear hv
    refine ⟨fun hc => ?_, fun hc => ?_⟩
    · replace h := h.1 hc; clear hc
      refine ⟨hR.1, r_X4_has hR h (fun v9 S8 w1 h hF1 hR1 => ?_)⟩; replace hF := hF.trans hF1; replace hR := hR1; clear hF1 hR1
      obtain ⟨J10, hjJ10, h⟩ := h
      refine ⟨fun y11 w1 => ∃ S1, J10 y11 S1 ∧ FrM mo ma w w1 ∧ RepM w1 mo ma S1, fun y11 w1 hJ => ?_, ?_⟩
      · obtain ⟨S12, hJ, hF, hR⟩ := hJ
        have h := hjJ10 y11 S12 hJ; clear hJ
        obtain ⟨J13, hjJ13, h⟩ := h
        refine ⟨fun z0_32 y14 w1 => ∃ S1, z0_32 = (some mo) ∧ J13 y14 S1 ∧ FrM mo ma w w1 ∧ RepM w1 mo ma S1, fun z0_32 y14 w1 hJ => ?_, ?_⟩
        · obtain ⟨S15, rfl, hJ, hF, hR⟩ := hJ
          have h := hjJ13 y14 S15 hJ; clear hJ
          refine ⟨mo, rfl, hR.1, fun w1 hw => ?_⟩; obtain ⟨S16, hS⟩ : ∃ z, z = S15.setS 500 y14 := ⟨_, rfl⟩; replace h := h S16 hS; replace hF := hF.trans (FrM.putS (by decide) hw); replace hR := hR.putS (by decide) hw hS; clear hw hS
          refine ⟨hR.1, fun v17 hv => ?_⟩; replace h := h v17 (hv.trans (hR.2.1 500 (by decide))); clear hv
          refine ⟨fun hc => ?_, fun hc => ?_⟩
          · replace h := h.1 hc; clear hc
            intro v18 hv; replace h := h v18 hv; clear hv
            refine ⟨hR.1, r_X4_pays hR h (fun S19 w1 h hF1 hR1 => ?_)⟩; replace hF := hF.trans hF1; replace hR := hR1; clear hF1 hR1
            refine ⟨hR.1, fun v20 hv => ?_⟩; replace h := h v20 (hv.trans (hR.2.1 528 (by decide))); clear hv
            intro v21 hv; replace h := h v21 hv; clear hv
            refine ⟨hR.1, fun w1 hw => ?_⟩; obtain ⟨S22, hS⟩ : ∃ z, z = S19.setS 528 v21 := ⟨_, rfl⟩; replace h := h S22 hS; replace hF := hF.trans (FrM.putS (by decide) hw); replace hR := hR.putS (by decide) hw hS; clear hw hS
            refine ⟨hR.1, fun z hz => ?_⟩; replace hz := hz.trans (hR.2.2.1 506 (by decide)).1; subst hz
            obtain ⟨j23, hi, hj, h⟩ := h
            refine ⟨ma 506, rfl, (hR.2.2.1 506 (by decide)).2.1, j23, hi, by rw [(hR.2.2.1 506 (by decide)).2.2.1]; exact hj, by rw [(hR.2.2.1 506 (by decide)).2.2.1]; decide, fun w1 hw => ?_⟩; obtain ⟨S24, hS⟩ : ∃ z, z = S22.setA 506 j23 x2 := ⟨_, rfl⟩; replace h := h S24 hS; replace hF := hF.trans (FrM.putA (by decide) hw); replace hR := hR.putA (by decide) hw hS; clear hw hS hi hj
            refine ⟨hR.1, fun z hz => ?_⟩; replace hz := hz.trans (hR.2.2.1 507 (by decide)).1; subst hz
            obtain ⟨j25, hi, hj, h⟩ := h
            refine ⟨ma 507, rfl, (hR.2.2.1 507 (by decide)).2.1, j25, hi, by rw [(hR.2.2.1 507 (by decide)).2.2.1]; exact hj, by rw [(hR.2.2.1 507 (by decide)).2.2.1]; decide, fun w1 hw => ?_⟩; obtain ⟨S26, hS⟩ : ∃ z, z = S24.setA 507 j25 (0 : Int32) := ⟨_, rfl⟩; replace h := h S26 hS; replace hF := hF.trans (FrM.putA (by decide) hw); replace hR := hR.putA (by decide) hw hS; clear hw hS hi hj
            refine ⟨hR.1, fun z hz => ?_⟩; replace hz := hz.trans (hR.2.2.1 508 (by decide)).1; subst hz
            obtain ⟨j27, hi, hj, h⟩ := h
            refine ⟨ma 508, rfl, (hR.2.2.1 508 (by decide)).2.1, j27, hi, by rw [(hR.2.2.1 508 (by decide)).2.2.1]; exact hj, by rw [(hR.2.2.1 508 (by decide)).2.2.1]; decide, fun w1 hw => ?_⟩; obtain ⟨S28, hS⟩ : ∃ z, z = S26.setA 508 j27 x3 := ⟨_, rfl⟩; replace h := h S28 hS; replace hF := hF.trans (FrM.putA (by decide) hw); replace hR := hR.putA (by decide) hw hS; clear hw hS hi hj
            refine ⟨hR.1, fun z hz => ?_⟩; replace hz := hz.trans (hR.2.2.1 509 (by decide)).1; subst hz
            obtain ⟨j29, hi, hj, h⟩ := h
            refine ⟨ma 509, rfl, (hR.2.2.1 509 (by decide)).2.1, j29, hi, by rw [(hR.2.2.1 509 (by decide)).2.2.1]; exact hj, by rw [(hR.2.2.1 509 (by decide)).2.2.1]; decide, fun w1 hw => ?_⟩; obtain ⟨S30, hS⟩ : ∃ z, z = S28.setA 509 j29 x4 := ⟨_, rfl⟩; replace h := h S30 hS; replace hF := hF.trans (FrM.putA (by decide) hw); replace hR := hR.putA (by decide) hw hS; clear hw hS hi hj
            refine ⟨hR.1, fun z hz => ?_⟩; replace hz := hz.trans (hR.2.2.1 504 (by decide)).1; subst hz
            obtain ⟨j31, hi, hj, h⟩ := h
            refine ⟨ma 504, rfl, (hR.2.2.1 504 (by decide)).2.1, j31, hi, by rw [(hR.2.2.1 504 (by decide)).2.2.1]; exact hj, by rw [(hR.2.2.1 504 (by decide)).2.2.1]; decide, fun v32 hv => ?_⟩; replace h := h v32 (hv.trans ((hR.2.2.1 504 (by decide)).2.2.2 j31)); clear hv hi hj
            exact hQ _ _ _ h hF hR
          · replace h := h.2 hc; clear hc
            exact hQ _ _ _ h hF hR
        obtain ⟨J33, hjJ33, h⟩ := h
        refine ⟨fun z0_34 w1 => ∃ S1, z0_34 = (some mo) ∧ J33  S1 ∧ FrM mo ma w w1 ∧ RepM w1 mo ma S1, fun z0_34 w1 hJ => ?_, ?_⟩
        · obtain ⟨S34, rfl, hJ, hF, hR⟩ := hJ
          have h := hjJ33  S34 hJ; clear hJ
          exact ⟨_, rfl, h, hF, hR⟩
        refine ⟨fun hc => ?_, fun hc => ?_⟩
        · replace h := h.1 hc; clear hc
          exact ⟨_, rfl, h, hF, hR⟩
        · replace h := h.2 hc; clear hc
          refine ⟨hR.1, fun z hz => ?_⟩; replace hz := hz.trans (hR.2.2.1 510 (by decide)).1; subst hz
          obtain ⟨j35, hi, hj, h⟩ := h
          refine ⟨ma 510, rfl, (hR.2.2.1 510 (by decide)).2.1, j35, hi, by rw [(hR.2.2.1 510 (by decide)).2.2.1]; exact hj, by rw [(hR.2.2.1 510 (by decide)).2.2.1]; decide, fun v36 hv => ?_⟩; replace h := h v36 (hv.trans ((hR.2.2.1 510 (by decide)).2.2.2 j35)); clear hv hi hj
          intro v37 hv; replace h := h v37 hv; clear hv
          intro v38 hv; replace h := h v38 hv; clear hv
          refine ⟨fun hc => ?_, fun hc => ?_⟩
          · replace h := h.1 hc; clear hc
            exact ⟨_, rfl, h, hF, hR⟩
          · replace h := h.2 hc; clear hc
            refine ⟨hR.1, r_X4_house hR h (fun v40 S39 w1 h hF1 hR1 => ?_)⟩; replace hF := hF.trans hF1; replace hR := hR1; clear hF1 hR1
            intro v41 hv; replace h := h v41 hv; clear hv
            refine ⟨fun hc => ?_, fun hc => ?_⟩
            · replace h := h.1 hc; clear hc
              exact ⟨_, rfl, h, hF, hR⟩
            · replace h := h.2 hc; clear hc
              refine ⟨hR.1, fun v42 hv => ?_⟩; replace h := h v42 (hv.trans (hR.2.1 528 (by decide))); clear hv
              refine ⟨fun hc => ?_, fun hc => ?_⟩
              · replace h := h.1 hc; clear hc
                exact ⟨_, rfl, h, hF, hR⟩
              · replace h := h.2 hc; clear hc
                exact ⟨_, rfl, h, hF, hR⟩
      obtain ⟨J43, hjJ43, h⟩ := h
      refine ⟨fun  w1 => ∃ S1, J43  S1 ∧ FrM mo ma w w1 ∧ RepM w1 mo ma S1, fun  w1 hJ => ?_, ?_⟩
      · obtain ⟨S44, hJ, hF, hR⟩ := hJ
        have h := hjJ43  S44 hJ; clear hJ
        exact ⟨_, h, hF, hR⟩
      refine ⟨fun hc => ?_, fun hc => ?_⟩
      · replace h := h.1 hc; clear hc
        exact ⟨_, h, hF, hR⟩
      · replace h := h.2 hc; clear hc
        refine ⟨hR.1, r_X4_has hR h (fun v46 S45 w1 h hF1 hR1 => ?_)⟩; replace hF := hF.trans hF1; replace hR := hR1; clear hF1 hR1
        refine ⟨fun hc => ?_, fun hc => ?_⟩
        · replace h := h.1 hc; clear hc
          exact ⟨_, h, hF, hR⟩
        · replace h := h.2 hc; clear hc
          refine ⟨hR.1, r_X4_has hR h (fun v48 S47 w1 h hF1 hR1 => ?_)⟩; replace hF := hF.trans hF1; replace hR := hR1; clear hF1 hR1
          refine ⟨fun hc => ?_, fun hc => ?_⟩
          · replace h := h.1 hc; clear hc
            exact ⟨_, h, hF, hR⟩
          · replace h := h.2 hc; clear hc
            refine ⟨hR.1, fun z hz => ?_⟩; replace hz := hz.trans (hR.2.2.1 506 (by decide)).1; subst hz
            obtain ⟨j49, hi, hj, h⟩ := h
            refine ⟨ma 506, rfl, (hR.2.2.1 506 (by decide)).2.1, j49, hi, by rw [(hR.2.2.1 506 (by decide)).2.2.1]; exact hj, by rw [(hR.2.2.1 506 (by decide)).2.2.1]; decide, fun v50 hv => ?_⟩; replace h := h v50 (hv.trans ((hR.2.2.1 506 (by decide)).2.2.2 j49)); clear hv hi hj
            refine ⟨fun hc => ?_, fun hc => ?_⟩
            · replace h := h.1 hc; clear hc
              exact ⟨_, h, hF, hR⟩
            · replace h := h.2 hc; clear hc
              exact ⟨_, h, hF, hR⟩
    · replace h := h.2 hc; clear hc
      exact hQ _ _ _ h hF hR
  obtain ⟨J51, hjJ51, h⟩ := h
  refine ⟨fun z0_52 w1 => ∃ S1, z0_52 = (some mo) ∧ J51  S1 ∧ FrM mo ma w w1 ∧ RepM w1 mo ma S1, fun z0_52 w1 hJ => ?_, ?_⟩
  · obtain ⟨S52, rfl, hJ, hF, hR⟩ := hJ
    have h := hjJ51  S52 hJ; clear hJ
    exact ⟨_, rfl, h, hF, hR⟩
  refine ⟨fun hc => ?_, fun hc => ?_⟩
  · replace h := h.1 hc; clear hc
    exact ⟨_, rfl, h, hF, hR⟩
  · replace h := h.2 hc; clear hc
    refine ⟨hR.1, r_X4_isOne hR h (fun v54 S53 w1 h hF1 hR1 => ?_)⟩; replace hF := hF.trans hF1; replace hR := hR1; clear hF1 hR1
    refine ⟨fun hc => ?_, fun hc => ?_⟩
    · replace h := h.1 hc; clear hc
      exact ⟨_, rfl, h, hF, hR⟩
    · replace h := h.2 hc; clear hc
      refine ⟨hR.1, r_X4_isOne hR h (fun v56 S55 w1 h hF1 hR1 => ?_)⟩; replace hF := hF.trans hF1; replace hR := hR1; clear hF1 hR1
      refine ⟨fun hc => ?_, fun hc => ?_⟩
      · replace h := h.1 hc; clear hc
        obtain ⟨J57, hjJ57, h⟩ := h
        refine ⟨fun z0_58 w1 => ∃ S1, z0_58 = (some mo) ∧ J57  S1 ∧ FrM mo ma w w1 ∧ RepM w1 mo ma S1, fun z0_58 w1 hJ => ?_, ?_⟩
        · obtain ⟨S58, rfl, hJ, hF, hR⟩ := hJ
          have h := hjJ57  S58 hJ; clear hJ
          exact ⟨_, rfl, h, hF, hR⟩
        refine ⟨fun hc => ?_, fun hc => ?_⟩
        · replace h := h.1 hc; clear hc
          exact ⟨_, rfl, h, hF, hR⟩
        · replace h := h.2 hc; clear hc
          refine ⟨fun hc => ?_, fun hc => ?_⟩
          · replace h := h.1 hc; clear hc
            exact ⟨_, rfl, h, hF, hR⟩
          · replace h := h.2 hc; clear hc
            refine ⟨fun hc => ?_, fun hc => ?_⟩
            · replace h := h.1 hc; clear hc
              exact ⟨_, rfl, h, hF, hR⟩
            · replace h := h.2 hc; clear hc
              refine r_X4_in hR h (fun v60 S59 w1 h hF1 hR1 => ?_); replace hF := hF.trans hF1; replace hR := hR1; clear hF1 hR1
              refine ⟨fun hc => ?_, fun hc => ?_⟩
              · replace h := h.1 hc; clear hc
                exact ⟨_, rfl, h, hF, hR⟩
              · replace h := h.2 hc; clear hc
                exact ⟨_, rfl, h, hF, hR⟩
      · replace h := h.2 hc; clear hc
        exact ⟨_, rfl, h, hF, hR⟩

def sp_X4_repay (x1 : Int32) (x2 : Int32) (S : MS) (Q : Int32 → MS → Prop) : Prop :=
  sp_X4_isOne x1 S (fun v2 S1 => 
  (¬ v2 = 0 → ∃ j3 : Nat, x1 = nI j3 ∧ j3 < 16 ∧
  ∀ v4 : Int32, v4 = S1.a 506 j3 →
  ∃ J5 : Int32 → Prop, (∀ (y6 : Int32), J5 y6 →
  sp_X4_in x2 (1 : Int32) (10000 : Int32) S1 (fun v8 S7 => 
  ∃ J9 : Int32 → Prop, (∀ (y10 : Int32), J9 y10 →
  ∀ S11 : MS, S11 = S7.setS 500 y10 →
  ∀ v12 : Int32, v12 = S11.s 500 →
  (v12 = 0 → sp_X4_pays x1 y6 S11 (fun S13 => 
  ∀ v14 : Int32, v14 = S13.s 528 →
  ∀ v15 : Int32, v15 = v14 + y6 →
  ∀ S16 : MS, S16 = S13.setS 528 v15 →
  ∃ j17 : Nat, x1 = nI j17 ∧ j17 < 16 ∧
  ∀ v18 : Int32, v18 = S16.a 506 j17 →
  ∀ v19 : Int32, v19 = v18 - y6 →
  ∃ j20 : Nat, x1 = nI j20 ∧ j20 < 16 ∧
  ∀ S21 : MS, S21 = S16.setA 506 j20 v19 →
  ∃ j22 : Nat, x1 = nI j22 ∧ j22 < 16 ∧
  ∀ v23 : Int32, v23 = S21.a 510 j22 →
  ∃ j24 : Nat, x1 = nI j24 ∧ j24 < 16 ∧
  ∀ v25 : Int32, v25 = S21.a 506 j24 →
  ∃ J26 : Int32 → Int32 → Int32 → Prop, (∀ (y27 : Int32) (y28 : Int32) (y29 : Int32), J26 y27 y28 y29 →
  ∀ v30 : Int32, v30 = y28 + y29 →
  ∃ j31 : Nat, y27 = nI j31 ∧ j31 < 16 ∧
  ∀ S32 : MS, S32 = S21.setA 510 j31 v30 →
  ∃ j33 : Nat, x1 = nI j33 ∧ j33 < 16 ∧
  ∀ v34 : Int32, v34 = S32.a 506 j33 →
  Q v34 S32) ∧
  (¬ v25 = 0 → J26 x1 v23 (0 : Int32)) ∧ (v25 = 0 → J26 x1 v23 (1 : Int32)))) ∧ (¬ v12 = 0 → Q (0 : Int32) S11)) ∧
  (¬ v8 = 0 → ∃ j35 : Nat, x1 = nI j35 ∧ j35 < 16 ∧
  ∀ v36 : Int32, v36 = S7.a 506 j35 →
  ∃ J37 : Prop, (J37 →
  J9 (3 : Int32)) ∧
  (v36 = 0 → J37) ∧ (¬ v36 = 0 → ∃ j38 : Nat, x1 = nI j38 ∧ j38 < 16 ∧
  ∀ v39 : Int32, v39 = S7.a 504 j38 →
  (y6 ≤ v39 → J9 (0 : Int32)) ∧ (¬ y6 ≤ v39 → J37))) ∧ (v8 = 0 → J9 (2 : Int32)))) ∧
  (v4 ≤ x2 → ∃ j40 : Nat, x1 = nI j40 ∧ j40 < 16 ∧
  ∀ v41 : Int32, v41 = S1.a 506 j40 →
  J5 v41) ∧ (¬ v4 ≤ x2 → J5 x2)) ∧ (v2 = 0 → ∀ S42 : MS, S42 = S1.setS 500 (1 : Int32) →
  Q (0 : Int32) S42))
set_option maxHeartbeats 4000000 in
set_option maxRecDepth 100000 in
theorem r_X4_repay {mo : Nat} {ma : Nat → Nat} {x1 : Int32} {x2 : Int32} {w : Wd} {S : MS} {Q : Int32 → Wd → Prop} {Q1 : Int32 → MS → Prop} (hR : RepM w mo ma S) (h : sp_X4_repay x1 x2 S Q1) (hQ : ∀ r S1 w1, Q1 r S1 → FrM mo ma w w1 → RepM w1 mo ma S1 → Q r w1) : wp_X4_repay mo x1 x2 w Q := by
  have hF : FrM mo ma w w := FrM.rfl
  unfold sp_X4_repay at h
  unfold wp_X4_repay
  refine ⟨hR.1, r_X4_isOne hR h (fun v2 S1 w1 h hF1 hR1 => ?_)⟩; replace hF := hF.trans hF1; replace hR := hR1; clear hF1 hR1
  refine ⟨fun hc => ?_, fun hc => ?_⟩
  · replace h := h.1 hc; clear hc
    refine ⟨hR.1, fun z hz => ?_⟩; replace hz := hz.trans (hR.2.2.1 506 (by decide)).1; subst hz
    obtain ⟨j3, hi, hj, h⟩ := h
    refine ⟨ma 506, rfl, (hR.2.2.1 506 (by decide)).2.1, j3, hi, by rw [(hR.2.2.1 506 (by decide)).2.2.1]; exact hj, by rw [(hR.2.2.1 506 (by decide)).2.2.1]; decide, fun v4 hv => ?_⟩; replace h := h v4 (hv.trans ((hR.2.2.1 506 (by decide)).2.2.2 j3)); clear hv hi hj
    obtain ⟨J5, hjJ5, h⟩ := h
    refine ⟨fun y6 => J5 y6, fun y6 hJ => ?_, ?_⟩
    · have h := hjJ5 y6 hJ; clear hJ
      refine r_X4_in hR h (fun v8 S7 w1 h hF1 hR1 => ?_); replace hF := hF.trans hF1; replace hR := hR1; clear hF1 hR1
      obtain ⟨J9, hjJ9, h⟩ := h
      refine ⟨fun z0_34 y10 => z0_34 = (some mo) ∧ J9 y10, fun z0_34 y10 hJ => ?_, ?_⟩
      · obtain ⟨rfl, hJ⟩ := hJ
        have h := hjJ9 y10 hJ; clear hJ
        refine ⟨mo, rfl, hR.1, fun w1 hw => ?_⟩; obtain ⟨S11, hS⟩ : ∃ z, z = S7.setS 500 y10 := ⟨_, rfl⟩; replace h := h S11 hS; replace hF := hF.trans (FrM.putS (by decide) hw); replace hR := hR.putS (by decide) hw hS; clear hw hS
        refine ⟨hR.1, fun v12 hv => ?_⟩; replace h := h v12 (hv.trans (hR.2.1 500 (by decide))); clear hv
        refine ⟨fun hc => ?_, fun hc => ?_⟩
        · replace h := h.1 hc; clear hc
          refine ⟨hR.1, r_X4_pays hR h (fun S13 w1 h hF1 hR1 => ?_)⟩; replace hF := hF.trans hF1; replace hR := hR1; clear hF1 hR1
          refine ⟨hR.1, fun v14 hv => ?_⟩; replace h := h v14 (hv.trans (hR.2.1 528 (by decide))); clear hv
          intro v15 hv; replace h := h v15 hv; clear hv
          refine ⟨hR.1, fun w1 hw => ?_⟩; obtain ⟨S16, hS⟩ : ∃ z, z = S13.setS 528 v15 := ⟨_, rfl⟩; replace h := h S16 hS; replace hF := hF.trans (FrM.putS (by decide) hw); replace hR := hR.putS (by decide) hw hS; clear hw hS
          refine ⟨hR.1, fun z hz => ?_⟩; replace hz := hz.trans (hR.2.2.1 506 (by decide)).1; subst hz
          obtain ⟨j17, hi, hj, h⟩ := h
          refine ⟨ma 506, rfl, (hR.2.2.1 506 (by decide)).2.1, j17, hi, by rw [(hR.2.2.1 506 (by decide)).2.2.1]; exact hj, by rw [(hR.2.2.1 506 (by decide)).2.2.1]; decide, fun v18 hv => ?_⟩; replace h := h v18 (hv.trans ((hR.2.2.1 506 (by decide)).2.2.2 j17)); clear hv hi hj
          intro v19 hv; replace h := h v19 hv; clear hv
          obtain ⟨j20, hi, hj, h⟩ := h
          refine ⟨(hR.2.2.1 506 (by decide)).2.1, j20, hi, by rw [(hR.2.2.1 506 (by decide)).2.2.1]; exact hj, by rw [(hR.2.2.1 506 (by decide)).2.2.1]; decide, fun w1 hw => ?_⟩; obtain ⟨S21, hS⟩ : ∃ z, z = S16.setA 506 j20 v19 := ⟨_, rfl⟩; replace h := h S21 hS; replace hF := hF.trans (FrM.putA (by decide) hw); replace hR := hR.putA (by decide) hw hS; clear hw hS hi hj
          refine ⟨hR.1, fun z hz => ?_⟩; replace hz := hz.trans (hR.2.2.1 510 (by decide)).1; subst hz
          obtain ⟨j22, hi, hj, h⟩ := h
          refine ⟨ma 510, rfl, (hR.2.2.1 510 (by decide)).2.1, j22, hi, by rw [(hR.2.2.1 510 (by decide)).2.2.1]; exact hj, by rw [(hR.2.2.1 510 (by decide)).2.2.1]; decide, fun v23 hv => ?_⟩; replace h := h v23 (hv.trans ((hR.2.2.1 510 (by decide)).2.2.2 j22)); clear hv hi hj
          refine ⟨hR.1, fun z hz => ?_⟩; replace hz := hz.trans (hR.2.2.1 506 (by decide)).1; subst hz
          obtain ⟨j24, hi, hj, h⟩ := h
          refine ⟨ma 506, rfl, (hR.2.2.1 506 (by decide)).2.1, j24, hi, by rw [(hR.2.2.1 506 (by decide)).2.2.1]; exact hj, by rw [(hR.2.2.1 506 (by decide)).2.2.1]; decide, fun v25 hv => ?_⟩; replace h := h v25 (hv.trans ((hR.2.2.1 506 (by decide)).2.2.2 j24)); clear hv hi hj
          obtain ⟨J26, hjJ26, h⟩ := h
          refine ⟨fun z0_34 y27 y28 y29 => z0_34 = (some (ma 510)) ∧ J26 y27 y28 y29, fun z0_34 y27 y28 y29 hJ => ?_, ?_⟩
          · obtain ⟨rfl, hJ⟩ := hJ
            have h := hjJ26 y27 y28 y29 hJ; clear hJ
            intro v30 hv; replace h := h v30 hv; clear hv
            obtain ⟨j31, hi, hj, h⟩ := h
            refine ⟨ma 510, rfl, (hR.2.2.1 510 (by decide)).2.1, j31, hi, by rw [(hR.2.2.1 510 (by decide)).2.2.1]; exact hj, by rw [(hR.2.2.1 510 (by decide)).2.2.1]; decide, fun w1 hw => ?_⟩; obtain ⟨S32, hS⟩ : ∃ z, z = S21.setA 510 j31 v30 := ⟨_, rfl⟩; replace h := h S32 hS; replace hF := hF.trans (FrM.putA (by decide) hw); replace hR := hR.putA (by decide) hw hS; clear hw hS hi hj
            refine ⟨hR.1, fun z hz => ?_⟩; replace hz := hz.trans (hR.2.2.1 506 (by decide)).1; subst hz
            obtain ⟨j33, hi, hj, h⟩ := h
            refine ⟨ma 506, rfl, (hR.2.2.1 506 (by decide)).2.1, j33, hi, by rw [(hR.2.2.1 506 (by decide)).2.2.1]; exact hj, by rw [(hR.2.2.1 506 (by decide)).2.2.1]; decide, fun v34 hv => ?_⟩; replace h := h v34 (hv.trans ((hR.2.2.1 506 (by decide)).2.2.2 j33)); clear hv hi hj
            exact hQ _ _ _ h hF hR
          refine ⟨fun hc => ?_, fun hc => ?_⟩
          · replace h := h.1 hc; clear hc
            exact ⟨rfl, h⟩
          · replace h := h.2 hc; clear hc
            exact ⟨rfl, h⟩
        · replace h := h.2 hc; clear hc
          exact hQ _ _ _ h hF hR
      refine ⟨fun hc => ?_, fun hc => ?_⟩
      · replace h := h.1 hc; clear hc
        refine ⟨hR.1, fun z hz => ?_⟩; replace hz := hz.trans (hR.2.2.1 506 (by decide)).1; subst hz
        obtain ⟨j35, hi, hj, h⟩ := h
        refine ⟨ma 506, rfl, (hR.2.2.1 506 (by decide)).2.1, j35, hi, by rw [(hR.2.2.1 506 (by decide)).2.2.1]; exact hj, by rw [(hR.2.2.1 506 (by decide)).2.2.1]; decide, fun v36 hv => ?_⟩; replace h := h v36 (hv.trans ((hR.2.2.1 506 (by decide)).2.2.2 j35)); clear hv hi hj
        obtain ⟨J37, hjJ37, h⟩ := h
        refine ⟨fun z0_37 => z0_37 = (some mo) ∧ J37 , fun z0_37 hJ => ?_, ?_⟩
        · obtain ⟨rfl, hJ⟩ := hJ
          have h := hjJ37  hJ; clear hJ
          exact ⟨rfl, h⟩
        refine ⟨fun hc => ?_, fun hc => ?_⟩
        · replace h := h.1 hc; clear hc
          exact ⟨rfl, h⟩
        · replace h := h.2 hc; clear hc
          refine ⟨hR.1, fun z hz => ?_⟩; replace hz := hz.trans (hR.2.2.1 504 (by decide)).1; subst hz
          obtain ⟨j38, hi, hj, h⟩ := h
          refine ⟨ma 504, rfl, (hR.2.2.1 504 (by decide)).2.1, j38, hi, by rw [(hR.2.2.1 504 (by decide)).2.2.1]; exact hj, by rw [(hR.2.2.1 504 (by decide)).2.2.1]; decide, fun v39 hv => ?_⟩; replace h := h v39 (hv.trans ((hR.2.2.1 504 (by decide)).2.2.2 j38)); clear hv hi hj
          refine ⟨fun hc => ?_, fun hc => ?_⟩
          · replace h := h.1 hc; clear hc
            exact ⟨rfl, h⟩
          · replace h := h.2 hc; clear hc
            exact ⟨rfl, h⟩
      · replace h := h.2 hc; clear hc
        exact ⟨rfl, h⟩
    refine ⟨fun hc => ?_, fun hc => ?_⟩
    · replace h := h.1 hc; clear hc
      refine ⟨hR.1, fun z hz => ?_⟩; replace hz := hz.trans (hR.2.2.1 506 (by decide)).1; subst hz
      obtain ⟨j40, hi, hj, h⟩ := h
      refine ⟨ma 506, rfl, (hR.2.2.1 506 (by decide)).2.1, j40, hi, by rw [(hR.2.2.1 506 (by decide)).2.2.1]; exact hj, by rw [(hR.2.2.1 506 (by decide)).2.2.1]; decide, fun v41 hv => ?_⟩; replace h := h v41 (hv.trans ((hR.2.2.1 506 (by decide)).2.2.2 j40)); clear hv hi hj
      exact h
    · replace h := h.2 hc; clear hc
      exact h
  · replace h := h.2 hc; clear hc
    refine ⟨hR.1, fun w1 hw => ?_⟩; obtain ⟨S42, hS⟩ : ∃ z, z = S1.setS 500 (1 : Int32) := ⟨_, rfl⟩; replace h := h S42 hS; replace hF := hF.trans (FrM.putS (by decide) hw); replace hR := hR.putS (by decide) hw hS; clear hw hS
    exact hQ _ _ _ h hF hR

def sp_X4_vouches (x1 : Int32) (x2 : Int32) (S : MS) (Q : MS → Prop) : Prop :=
  ∃ j1 : Nat, x1 = nI j1 ∧ j1 < 16 ∧
  ∀ v2 : Int32, v2 = S.a 512 j1 →
  ∃ J3 : Int32 → Prop, (∀ (y4 : Int32), J3 y4 →
  sp_X4_pays x1 y4 S (fun S5 => 
  ∀ v6 : Int32, v6 = S5.s 528 →
  ∀ v7 : Int32, v7 = v6 + y4 →
  ∀ S8 : MS, S8 = S5.setS 528 v7 →
  Q S8)) ∧
  (v2 = 0 → ∃ j9 : Nat, x1 = nI j9 ∧ j9 < 16 ∧
  ∀ v10 : Int32, v10 = S.a 504 j9 →
  (v10 ≤ x2 → ∃ j11 : Nat, x1 = nI j11 ∧ j11 < 16 ∧
  ∀ v12 : Int32, v12 = S.a 504 j11 →
  J3 v12) ∧ (¬ v10 ≤ x2 → J3 x2)) ∧ (¬ v2 = 0 → J3 (0 : Int32))
set_option maxHeartbeats 4000000 in
set_option maxRecDepth 100000 in
theorem r_X4_vouches {mo : Nat} {ma : Nat → Nat} {x1 : Int32} {x2 : Int32} {w : Wd} {S : MS} {Q : Wd → Prop} {Q1 : MS → Prop} (hR : RepM w mo ma S) (h : sp_X4_vouches x1 x2 S Q1) (hQ : ∀ S1 w1, Q1 S1 → FrM mo ma w w1 → RepM w1 mo ma S1 → Q w1) : wp_X4_vouches mo x1 x2 w Q := by
  have hF : FrM mo ma w w := FrM.rfl
  unfold sp_X4_vouches at h
  unfold wp_X4_vouches
  refine ⟨hR.1, fun z hz => ?_⟩; replace hz := hz.trans (hR.2.2.1 512 (by decide)).1; subst hz
  obtain ⟨j1, hi, hj, h⟩ := h
  refine ⟨ma 512, rfl, (hR.2.2.1 512 (by decide)).2.1, j1, hi, by rw [(hR.2.2.1 512 (by decide)).2.2.1]; exact hj, by rw [(hR.2.2.1 512 (by decide)).2.2.1]; decide, fun v2 hv => ?_⟩; replace h := h v2 (hv.trans ((hR.2.2.1 512 (by decide)).2.2.2 j1)); clear hv hi hj
  obtain ⟨J3, hjJ3, h⟩ := h
  refine ⟨fun y4 => J3 y4, fun y4 hJ => ?_, ?_⟩
  · have h := hjJ3 y4 hJ; clear hJ
    refine ⟨hR.1, r_X4_pays hR h (fun S5 w1 h hF1 hR1 => ?_)⟩; replace hF := hF.trans hF1; replace hR := hR1; clear hF1 hR1
    refine ⟨hR.1, fun v6 hv => ?_⟩; replace h := h v6 (hv.trans (hR.2.1 528 (by decide))); clear hv
    intro v7 hv; replace h := h v7 hv; clear hv
    refine ⟨hR.1, fun w1 hw => ?_⟩; obtain ⟨S8, hS⟩ : ∃ z, z = S5.setS 528 v7 := ⟨_, rfl⟩; replace h := h S8 hS; replace hF := hF.trans (FrM.putS (by decide) hw); replace hR := hR.putS (by decide) hw hS; clear hw hS
    exact hQ _ _ h hF hR
  refine ⟨fun hc => ?_, fun hc => ?_⟩
  · replace h := h.1 hc; clear hc
    refine ⟨hR.1, fun z hz => ?_⟩; replace hz := hz.trans (hR.2.2.1 504 (by decide)).1; subst hz
    obtain ⟨j9, hi, hj, h⟩ := h
    refine ⟨ma 504, rfl, (hR.2.2.1 504 (by decide)).2.1, j9, hi, by rw [(hR.2.2.1 504 (by decide)).2.2.1]; exact hj, by rw [(hR.2.2.1 504 (by decide)).2.2.1]; decide, fun v10 hv => ?_⟩; replace h := h v10 (hv.trans ((hR.2.2.1 504 (by decide)).2.2.2 j9)); clear hv hi hj
    refine ⟨fun hc => ?_, fun hc => ?_⟩
    · replace h := h.1 hc; clear hc
      refine ⟨hR.1, fun z hz => ?_⟩; replace hz := hz.trans (hR.2.2.1 504 (by decide)).1; subst hz
      obtain ⟨j11, hi, hj, h⟩ := h
      refine ⟨ma 504, rfl, (hR.2.2.1 504 (by decide)).2.1, j11, hi, by rw [(hR.2.2.1 504 (by decide)).2.2.1]; exact hj, by rw [(hR.2.2.1 504 (by decide)).2.2.1]; decide, fun v12 hv => ?_⟩; replace h := h v12 (hv.trans ((hR.2.2.1 504 (by decide)).2.2.2 j11)); clear hv hi hj
      exact h
    · replace h := h.2 hc; clear hc
      exact h
  · replace h := h.2 hc; clear hc
    exact h

def sp_X4_month (x1 : Int32) (S : MS) (Q : Int32 → MS → Prop) : Prop :=
  ∀ S1 : MS, S1 = S.setS 500 (0 : Int32) →
  ∃ Inv3 : Nat → Int32 → Int32 → MS → Prop, (∃ n : Nat, Inv3 n (0 : Int32) (0 : Int32) S1) ∧ ∀ (n2 : Nat) (y4 : Int32) (y5 : Int32) (S6 : MS), Inv3 n2 y4 y5 S6 →
  ∀ v7 : Int32, v7 = S6.s 501 →
  ∃ J8 : Prop, (J8 →
  Q y4 S6) ∧
  (v7 ≤ y5 → J8) ∧ (¬ v7 ≤ y5 → (¬ x1 = 0 → J8) ∧ (x1 = 0 → ∃ j9 : Nat, y5 = nI j9 ∧ j9 < 16 ∧
  ∀ v10 : Int32, v10 = S6.a 506 j9 →
  ∃ J11 : Int32 → MS → Prop, (∀ (y12 : Int32) (S13 : MS), J11 y12 S13 →
  ∀ v14 : Int32, v14 = y5 + (1 : Int32) →
  ∃ n : Nat, n < n2 ∧ Inv3 n y12 v14 S13) ∧
  (v10 ≤ 0 → J11 y4 S6) ∧ (¬ v10 ≤ 0 → ∃ j15 : Nat, y5 = nI j15 ∧ j15 < 16 ∧
  ∀ v16 : Int32, v16 = S6.a 506 j15 →
  ∃ j17 : Nat, y5 = nI j17 ∧ j17 < 16 ∧
  ∀ v18 : Int32, v18 = S6.a 506 j17 →
  ∀ v19 : Int32, v19 = v18 + (19 : Int32) →
  ¬ (20 : Int32) = 0 ∧ ∀ v20 : Int32, v20 = v19 / (20 : Int32) →
  ∀ v21 : Int32, v21 = v16 + v20 →
  ∃ j22 : Nat, y5 = nI j22 ∧ j22 < 16 ∧
  ∀ S23 : MS, S23 = S6.setA 506 j22 v21 →
  ∃ j24 : Nat, y5 = nI j24 ∧ j24 < 16 ∧
  ∀ v25 : Int32, v25 = S23.a 507 j24 →
  ∀ v26 : Int32, v26 = v25 + (1 : Int32) →
  ∃ j27 : Nat, y5 = nI j27 ∧ j27 < 16 ∧
  ∀ S28 : MS, S28 = S23.setA 507 j27 v26 →
  ∃ j29 : Nat, y5 = nI j29 ∧ j29 < 16 ∧
  ∀ v30 : Int32, v30 = S28.a 507 j29 →
  (v30 ≤ (6 : Int32) → J11 y4 S28) ∧ (¬ v30 ≤ (6 : Int32) → ∃ j31 : Nat, y5 = nI j31 ∧ j31 < 16 ∧
  ∀ v32 : Int32, v32 = S28.a 506 j31 →
  ¬ (2 : Int32) = 0 ∧ ∀ v33 : Int32, v33 = v32 / (2 : Int32) →
  ∃ j34 : Nat, y5 = nI j34 ∧ j34 < 16 ∧
  ∀ v35 : Int32, v35 = S28.a 506 j34 →
  ∀ v36 : Int32, v36 = v35 - v33 →
  ∃ j37 : Nat, y5 = nI j37 ∧ j37 < 16 ∧
  ∀ S38 : MS, S38 = S28.setA 506 j37 (0 : Int32) →
  ∃ j39 : Nat, y5 = nI j39 ∧ j39 < 16 ∧
  ∀ S40 : MS, S40 = S38.setA 510 j39 (0 : Int32) →
  ∃ j41 : Nat, y5 = nI j41 ∧ j41 < 16 ∧
  ∀ v42 : Int32, v42 = S40.a 508 j41 →
  sp_X4_vouches v42 v33 S40 (fun S43 => 
  ∃ j44 : Nat, y5 = nI j44 ∧ j44 < 16 ∧
  ∀ v45 : Int32, v45 = S43.a 509 j44 →
  sp_X4_vouches v45 v36 S43 (fun S46 => 
  ∀ v47 : Int32, v47 = y4 + (1 : Int32) →
  J11 v47 S46))))))
set_option maxHeartbeats 4000000 in
set_option maxRecDepth 100000 in
theorem r_X4_month {mo : Nat} {ma : Nat → Nat} {x1 : Int32} {w : Wd} {S : MS} {Q : Int32 → Wd → Prop} {Q1 : Int32 → MS → Prop} (hR : RepM w mo ma S) (h : sp_X4_month x1 S Q1) (hQ : ∀ r S1 w1, Q1 r S1 → FrM mo ma w w1 → RepM w1 mo ma S1 → Q r w1) : wp_X4_month mo x1 w Q := by
  have hF : FrM mo ma w w := FrM.rfl
  unfold sp_X4_month at h
  unfold wp_X4_month
  refine ⟨hR.1, fun w1 hw => ?_⟩; obtain ⟨S1, hS⟩ : ∃ z, z = S.setS 500 (0 : Int32) := ⟨_, rfl⟩; replace h := h S1 hS; replace hF := hF.trans (FrM.putS (by decide) hw); replace hR := hR.putS (by decide) hw hS; clear hw hS
  obtain ⟨Inv3, ⟨n0, hi⟩, hsn2⟩ := h
  refine ⟨fun n y4 y5 w1 => ∃ S1, Inv3 n y4 y5 S1 ∧ FrM mo ma w w1 ∧ RepM w1 mo ma S1, ⟨n0, _, hi, hF, hR⟩, fun n2 y4 y5 w1 hI => ?_⟩
  obtain ⟨S6, hI, hF, hR⟩ := hI
  have h := hsn2 n2 y4 y5 S6 hI; clear hI
  refine ⟨hR.1, fun v7 hv => ?_⟩; replace h := h v7 (hv.trans (hR.2.1 501 (by decide))); clear hv
  obtain ⟨J8, hjJ8, h⟩ := h
  refine ⟨J8, fun hJ => ?_, ?_⟩
  · have h := hjJ8 hJ; clear hJ
    exact hQ _ _ _ h hF hR
  refine ⟨fun hc => ?_, fun hc => ?_⟩
  · replace h := h.1 hc; clear hc
    exact h
  · replace h := h.2 hc; clear hc
    refine ⟨fun hc => ?_, fun hc => ?_⟩
    · replace h := h.1 hc; clear hc
      exact h
    · replace h := h.2 hc; clear hc
      refine ⟨hR.1, fun z hz => ?_⟩; replace hz := hz.trans (hR.2.2.1 506 (by decide)).1; subst hz
      obtain ⟨j9, hi, hj, h⟩ := h
      refine ⟨ma 506, rfl, (hR.2.2.1 506 (by decide)).2.1, j9, hi, by rw [(hR.2.2.1 506 (by decide)).2.2.1]; exact hj, by rw [(hR.2.2.1 506 (by decide)).2.2.1]; decide, fun v10 hv => ?_⟩; replace h := h v10 (hv.trans ((hR.2.2.1 506 (by decide)).2.2.2 j9)); clear hv hi hj
      obtain ⟨J11, hjJ11, h⟩ := h
      refine ⟨fun y12 w1 => ∃ S1, J11 y12 S1 ∧ FrM mo ma w w1 ∧ RepM w1 mo ma S1, fun y12 w1 hJ => ?_, ?_⟩
      · obtain ⟨S13, hJ, hF, hR⟩ := hJ
        have h := hjJ11 y12 S13 hJ; clear hJ
        intro v14 hv; replace h := h v14 hv; clear hv
        obtain ⟨n, hn, h⟩ := h
        exact ⟨n, hn, _, h, hF, hR⟩
      refine ⟨fun hc => ?_, fun hc => ?_⟩
      · replace h := h.1 hc; clear hc
        exact ⟨_, h, hF, hR⟩
      · replace h := h.2 hc; clear hc
        refine ⟨hR.1, fun z hz => ?_⟩; replace hz := hz.trans (hR.2.2.1 506 (by decide)).1; subst hz
        obtain ⟨j15, hi, hj, h⟩ := h
        refine ⟨ma 506, rfl, (hR.2.2.1 506 (by decide)).2.1, j15, hi, by rw [(hR.2.2.1 506 (by decide)).2.2.1]; exact hj, by rw [(hR.2.2.1 506 (by decide)).2.2.1]; decide, fun v16 hv => ?_⟩; replace h := h v16 (hv.trans ((hR.2.2.1 506 (by decide)).2.2.2 j15)); clear hv hi hj
        refine ⟨hR.1, fun z hz => ?_⟩; replace hz := hz.trans (hR.2.2.1 506 (by decide)).1; subst hz
        obtain ⟨j17, hi, hj, h⟩ := h
        refine ⟨ma 506, rfl, (hR.2.2.1 506 (by decide)).2.1, j17, hi, by rw [(hR.2.2.1 506 (by decide)).2.2.1]; exact hj, by rw [(hR.2.2.1 506 (by decide)).2.2.1]; decide, fun v18 hv => ?_⟩; replace h := h v18 (hv.trans ((hR.2.2.1 506 (by decide)).2.2.2 j17)); clear hv hi hj
        intro v19 hv; replace h := h v19 hv; clear hv
        refine ⟨h.1, fun v20 hv => ?_⟩; replace h := h.2 v20 hv; clear hv
        intro v21 hv; replace h := h v21 hv; clear hv
        obtain ⟨j22, hi, hj, h⟩ := h
        refine ⟨(hR.2.2.1 506 (by decide)).2.1, j22, hi, by rw [(hR.2.2.1 506 (by decide)).2.2.1]; exact hj, by rw [(hR.2.2.1 506 (by decide)).2.2.1]; decide, fun w1 hw => ?_⟩; obtain ⟨S23, hS⟩ : ∃ z, z = S6.setA 506 j22 v21 := ⟨_, rfl⟩; replace h := h S23 hS; replace hF := hF.trans (FrM.putA (by decide) hw); replace hR := hR.putA (by decide) hw hS; clear hw hS hi hj
        refine ⟨hR.1, fun z hz => ?_⟩; replace hz := hz.trans (hR.2.2.1 507 (by decide)).1; subst hz
        obtain ⟨j24, hi, hj, h⟩ := h
        refine ⟨ma 507, rfl, (hR.2.2.1 507 (by decide)).2.1, j24, hi, by rw [(hR.2.2.1 507 (by decide)).2.2.1]; exact hj, by rw [(hR.2.2.1 507 (by decide)).2.2.1]; decide, fun v25 hv => ?_⟩; replace h := h v25 (hv.trans ((hR.2.2.1 507 (by decide)).2.2.2 j24)); clear hv hi hj
        intro v26 hv; replace h := h v26 hv; clear hv
        obtain ⟨j27, hi, hj, h⟩ := h
        refine ⟨(hR.2.2.1 507 (by decide)).2.1, j27, hi, by rw [(hR.2.2.1 507 (by decide)).2.2.1]; exact hj, by rw [(hR.2.2.1 507 (by decide)).2.2.1]; decide, fun w1 hw => ?_⟩; obtain ⟨S28, hS⟩ : ∃ z, z = S23.setA 507 j27 v26 := ⟨_, rfl⟩; replace h := h S28 hS; replace hF := hF.trans (FrM.putA (by decide) hw); replace hR := hR.putA (by decide) hw hS; clear hw hS hi hj
        refine ⟨hR.1, fun z hz => ?_⟩; replace hz := hz.trans (hR.2.2.1 507 (by decide)).1; subst hz
        obtain ⟨j29, hi, hj, h⟩ := h
        refine ⟨ma 507, rfl, (hR.2.2.1 507 (by decide)).2.1, j29, hi, by rw [(hR.2.2.1 507 (by decide)).2.2.1]; exact hj, by rw [(hR.2.2.1 507 (by decide)).2.2.1]; decide, fun v30 hv => ?_⟩; replace h := h v30 (hv.trans ((hR.2.2.1 507 (by decide)).2.2.2 j29)); clear hv hi hj
        refine ⟨fun hc => ?_, fun hc => ?_⟩
        · replace h := h.1 hc; clear hc
          exact ⟨_, h, hF, hR⟩
        · replace h := h.2 hc; clear hc
          refine ⟨hR.1, fun z hz => ?_⟩; replace hz := hz.trans (hR.2.2.1 506 (by decide)).1; subst hz
          obtain ⟨j31, hi, hj, h⟩ := h
          refine ⟨ma 506, rfl, (hR.2.2.1 506 (by decide)).2.1, j31, hi, by rw [(hR.2.2.1 506 (by decide)).2.2.1]; exact hj, by rw [(hR.2.2.1 506 (by decide)).2.2.1]; decide, fun v32 hv => ?_⟩; replace h := h v32 (hv.trans ((hR.2.2.1 506 (by decide)).2.2.2 j31)); clear hv hi hj
          refine ⟨h.1, fun v33 hv => ?_⟩; replace h := h.2 v33 hv; clear hv
          refine ⟨hR.1, fun z hz => ?_⟩; replace hz := hz.trans (hR.2.2.1 506 (by decide)).1; subst hz
          obtain ⟨j34, hi, hj, h⟩ := h
          refine ⟨ma 506, rfl, (hR.2.2.1 506 (by decide)).2.1, j34, hi, by rw [(hR.2.2.1 506 (by decide)).2.2.1]; exact hj, by rw [(hR.2.2.1 506 (by decide)).2.2.1]; decide, fun v35 hv => ?_⟩; replace h := h v35 (hv.trans ((hR.2.2.1 506 (by decide)).2.2.2 j34)); clear hv hi hj
          intro v36 hv; replace h := h v36 hv; clear hv
          refine ⟨hR.1, fun z hz => ?_⟩; replace hz := hz.trans (hR.2.2.1 506 (by decide)).1; subst hz
          obtain ⟨j37, hi, hj, h⟩ := h
          refine ⟨ma 506, rfl, (hR.2.2.1 506 (by decide)).2.1, j37, hi, by rw [(hR.2.2.1 506 (by decide)).2.2.1]; exact hj, by rw [(hR.2.2.1 506 (by decide)).2.2.1]; decide, fun w1 hw => ?_⟩; obtain ⟨S38, hS⟩ : ∃ z, z = S28.setA 506 j37 (0 : Int32) := ⟨_, rfl⟩; replace h := h S38 hS; replace hF := hF.trans (FrM.putA (by decide) hw); replace hR := hR.putA (by decide) hw hS; clear hw hS hi hj
          refine ⟨hR.1, fun z hz => ?_⟩; replace hz := hz.trans (hR.2.2.1 510 (by decide)).1; subst hz
          obtain ⟨j39, hi, hj, h⟩ := h
          refine ⟨ma 510, rfl, (hR.2.2.1 510 (by decide)).2.1, j39, hi, by rw [(hR.2.2.1 510 (by decide)).2.2.1]; exact hj, by rw [(hR.2.2.1 510 (by decide)).2.2.1]; decide, fun w1 hw => ?_⟩; obtain ⟨S40, hS⟩ : ∃ z, z = S38.setA 510 j39 (0 : Int32) := ⟨_, rfl⟩; replace h := h S40 hS; replace hF := hF.trans (FrM.putA (by decide) hw); replace hR := hR.putA (by decide) hw hS; clear hw hS hi hj
          refine ⟨hR.1, fun z hz => ?_⟩; replace hz := hz.trans (hR.2.2.1 508 (by decide)).1; subst hz
          obtain ⟨j41, hi, hj, h⟩ := h
          refine ⟨ma 508, rfl, (hR.2.2.1 508 (by decide)).2.1, j41, hi, by rw [(hR.2.2.1 508 (by decide)).2.2.1]; exact hj, by rw [(hR.2.2.1 508 (by decide)).2.2.1]; decide, fun v42 hv => ?_⟩; replace h := h v42 (hv.trans ((hR.2.2.1 508 (by decide)).2.2.2 j41)); clear hv hi hj
          refine ⟨hR.1, r_X4_vouches hR h (fun S43 w1 h hF1 hR1 => ?_)⟩; replace hF := hF.trans hF1; replace hR := hR1; clear hF1 hR1
          refine ⟨hR.1, fun z hz => ?_⟩; replace hz := hz.trans (hR.2.2.1 509 (by decide)).1; subst hz
          obtain ⟨j44, hi, hj, h⟩ := h
          refine ⟨ma 509, rfl, (hR.2.2.1 509 (by decide)).2.1, j44, hi, by rw [(hR.2.2.1 509 (by decide)).2.2.1]; exact hj, by rw [(hR.2.2.1 509 (by decide)).2.2.1]; decide, fun v45 hv => ?_⟩; replace h := h v45 (hv.trans ((hR.2.2.1 509 (by decide)).2.2.2 j44)); clear hv hi hj
          refine ⟨hR.1, r_X4_vouches hR h (fun S46 w1 h hF1 hR1 => ?_)⟩; replace hF := hF.trans hF1; replace hR := hR1; clear hF1 hR1
          intro v47 hv; replace h := h v47 hv; clear hv
          exact ⟨_, h, hF, hR⟩

def sp_X4_feast  (S : MS) (Q : Int32 → MS → Prop) : Prop :=
  ∃ Inv2 : Nat → Int32 → Int32 → Int32 → Prop, (∃ n : Nat, Inv2 n (0 : Int32) (0 : Int32) (0 : Int32)) ∧ ∀ (n1 : Nat) (y3 : Int32) (y4 : Int32) (y5 : Int32), Inv2 n1 y3 y4 y5 →
  ∀ v6 : Int32, v6 = S.s 501 →
  (v6 ≤ y5 → ∃ J7 : Int32 → Prop, (∀ (y8 : Int32), J7 y8 →
  ∀ S9 : MS, S9 = S.setS 500 y8 →
  ∀ v10 : Int32, v10 = S9.s 500 →
  (v10 = 0 → ∀ v11 : Int32, v11 = S9.s 528 →
  ¬ y3 = 0 ∧ ∀ v12 : Int32, v12 = v11 / y3 →
  ∃ Inv14 : Nat → Int32 → MS → Prop, (∃ n : Nat, Inv14 n (0 : Int32) S9) ∧ ∀ (n13 : Nat) (y15 : Int32) (S16 : MS), Inv14 n13 y15 S16 →
  ∀ v17 : Int32, v17 = S16.s 501 →
  (v17 ≤ y15 → Q v12 S16) ∧ (¬ v17 ≤ y15 → ∀ v18 : Int32, v18 = -v12 →
  ∃ j19 : Nat, y15 = nI j19 ∧ j19 < 16 ∧
  ∀ v20 : Int32, v20 = S16.a 505 j19 →
  ∀ v21 : Int32, v21 = v18 * v20 →
  sp_X4_pays y15 v21 S16 (fun S22 => 
  ∀ v23 : Int32, v23 = S22.s 528 →
  ∃ j24 : Nat, y15 = nI j24 ∧ j24 < 16 ∧
  ∀ v25 : Int32, v25 = S22.a 505 j24 →
  ∀ v26 : Int32, v26 = v12 * v25 →
  ∀ v27 : Int32, v27 = v23 - v26 →
  ∀ S28 : MS, S28 = S22.setS 528 v27 →
  ∃ j29 : Nat, y15 = nI j29 ∧ j29 < 16 ∧
  ∀ S30 : MS, S30 = S28.setA 505 j29 (0 : Int32) →
  ∀ v31 : Int32, v31 = y15 + (1 : Int32) →
  ∃ n : Nat, n < n13 ∧ Inv14 n v31 S30))) ∧ (¬ v10 = 0 → Q (0 : Int32) S9)) ∧
  ∃ J32 : Prop, (J32 →
  J7 (1 : Int32)) ∧
  (y3 = 0 → J32) ∧ (¬ y3 = 0 → (y4 ≤ 0 → J7 (0 : Int32)) ∧ (¬ y4 ≤ 0 → J32))) ∧ (¬ v6 ≤ y5 → ∃ j33 : Nat, y5 = nI j33 ∧ j33 < 16 ∧
  ∀ v34 : Int32, v34 = S.a 505 j33 →
  ∀ v35 : Int32, v35 = y3 + v34 →
  ∃ j36 : Nat, y5 = nI j36 ∧ j36 < 16 ∧
  ∀ v37 : Int32, v37 = S.a 506 j36 →
  ∀ v38 : Int32, v38 = y4 + v37 →
  ∀ v39 : Int32, v39 = y5 + (1 : Int32) →
  ∃ n : Nat, n < n1 ∧ Inv2 n v35 v38 v39)
set_option maxHeartbeats 4000000 in
set_option maxRecDepth 100000 in
theorem r_X4_feast {mo : Nat} {ma : Nat → Nat}  {w : Wd} {S : MS} {Q : Int32 → Wd → Prop} {Q1 : Int32 → MS → Prop} (hR : RepM w mo ma S) (h : sp_X4_feast  S Q1) (hQ : ∀ r S1 w1, Q1 r S1 → FrM mo ma w w1 → RepM w1 mo ma S1 → Q r w1) : wp_X4_feast mo  w Q := by
  have hF : FrM mo ma w w := FrM.rfl
  unfold sp_X4_feast at h
  unfold wp_X4_feast
  obtain ⟨Inv2, ⟨n0, hi⟩, hsn1⟩ := h
  refine ⟨Inv2, ⟨n0, hi⟩, fun n1 y3 y4 y5 hI => ?_⟩
  have h := hsn1 n1 y3 y4 y5 hI; clear hI
  refine ⟨hR.1, fun v6 hv => ?_⟩; replace h := h v6 (hv.trans (hR.2.1 501 (by decide))); clear hv
  refine ⟨fun hc => ?_, fun hc => ?_⟩
  · replace h := h.1 hc; clear hc
    obtain ⟨J7, hjJ7, h⟩ := h
    refine ⟨fun z0_31 y8 => z0_31 = (some mo) ∧ J7 y8, fun z0_31 y8 hJ => ?_, ?_⟩
    · obtain ⟨rfl, hJ⟩ := hJ
      have h := hjJ7 y8 hJ; clear hJ
      refine ⟨mo, rfl, hR.1, fun w1 hw => ?_⟩; obtain ⟨S9, hS⟩ : ∃ z, z = S.setS 500 y8 := ⟨_, rfl⟩; replace h := h S9 hS; replace hF := hF.trans (FrM.putS (by decide) hw); replace hR := hR.putS (by decide) hw hS; clear hw hS
      refine ⟨hR.1, fun v10 hv => ?_⟩; replace h := h v10 (hv.trans (hR.2.1 500 (by decide))); clear hv
      refine ⟨fun hc => ?_, fun hc => ?_⟩
      · replace h := h.1 hc; clear hc
        refine ⟨hR.1, fun v11 hv => ?_⟩; replace h := h v11 (hv.trans (hR.2.1 528 (by decide))); clear hv
        refine ⟨h.1, fun v12 hv => ?_⟩; replace h := h.2 v12 hv; clear hv
        obtain ⟨Inv14, ⟨n0, hi⟩, hsn13⟩ := h
        refine ⟨fun n y15 w1 => ∃ S1, Inv14 n y15 S1 ∧ FrM mo ma w w1 ∧ RepM w1 mo ma S1, ⟨n0, _, hi, hF, hR⟩, fun n13 y15 w1 hI => ?_⟩
        obtain ⟨S16, hI, hF, hR⟩ := hI
        have h := hsn13 n13 y15 S16 hI; clear hI
        refine ⟨hR.1, fun v17 hv => ?_⟩; replace h := h v17 (hv.trans (hR.2.1 501 (by decide))); clear hv
        refine ⟨fun hc => ?_, fun hc => ?_⟩
        · replace h := h.1 hc; clear hc
          exact hQ _ _ _ h hF hR
        · replace h := h.2 hc; clear hc
          intro v18 hv; replace h := h v18 hv; clear hv
          refine ⟨hR.1, fun z hz => ?_⟩; replace hz := hz.trans (hR.2.2.1 505 (by decide)).1; subst hz
          obtain ⟨j19, hi, hj, h⟩ := h
          refine ⟨ma 505, rfl, (hR.2.2.1 505 (by decide)).2.1, j19, hi, by rw [(hR.2.2.1 505 (by decide)).2.2.1]; exact hj, by rw [(hR.2.2.1 505 (by decide)).2.2.1]; decide, fun v20 hv => ?_⟩; replace h := h v20 (hv.trans ((hR.2.2.1 505 (by decide)).2.2.2 j19)); clear hv hi hj
          intro v21 hv; replace h := h v21 hv; clear hv
          refine ⟨hR.1, r_X4_pays hR h (fun S22 w1 h hF1 hR1 => ?_)⟩; replace hF := hF.trans hF1; replace hR := hR1; clear hF1 hR1
          refine ⟨hR.1, fun v23 hv => ?_⟩; replace h := h v23 (hv.trans (hR.2.1 528 (by decide))); clear hv
          refine ⟨hR.1, fun z hz => ?_⟩; replace hz := hz.trans (hR.2.2.1 505 (by decide)).1; subst hz
          obtain ⟨j24, hi, hj, h⟩ := h
          refine ⟨ma 505, rfl, (hR.2.2.1 505 (by decide)).2.1, j24, hi, by rw [(hR.2.2.1 505 (by decide)).2.2.1]; exact hj, by rw [(hR.2.2.1 505 (by decide)).2.2.1]; decide, fun v25 hv => ?_⟩; replace h := h v25 (hv.trans ((hR.2.2.1 505 (by decide)).2.2.2 j24)); clear hv hi hj
          intro v26 hv; replace h := h v26 hv; clear hv
          intro v27 hv; replace h := h v27 hv; clear hv
          refine ⟨hR.1, fun w1 hw => ?_⟩; obtain ⟨S28, hS⟩ : ∃ z, z = S22.setS 528 v27 := ⟨_, rfl⟩; replace h := h S28 hS; replace hF := hF.trans (FrM.putS (by decide) hw); replace hR := hR.putS (by decide) hw hS; clear hw hS
          refine ⟨hR.1, fun z hz => ?_⟩; replace hz := hz.trans (hR.2.2.1 505 (by decide)).1; subst hz
          obtain ⟨j29, hi, hj, h⟩ := h
          refine ⟨ma 505, rfl, (hR.2.2.1 505 (by decide)).2.1, j29, hi, by rw [(hR.2.2.1 505 (by decide)).2.2.1]; exact hj, by rw [(hR.2.2.1 505 (by decide)).2.2.1]; decide, fun w1 hw => ?_⟩; obtain ⟨S30, hS⟩ : ∃ z, z = S28.setA 505 j29 (0 : Int32) := ⟨_, rfl⟩; replace h := h S30 hS; replace hF := hF.trans (FrM.putA (by decide) hw); replace hR := hR.putA (by decide) hw hS; clear hw hS hi hj
          intro v31 hv; replace h := h v31 hv; clear hv
          obtain ⟨n, hn, h⟩ := h
          exact ⟨n, hn, _, h, hF, hR⟩
      · replace h := h.2 hc; clear hc
        exact hQ _ _ _ h hF hR
    obtain ⟨J32, hjJ32, h⟩ := h
    refine ⟨fun z0_32 => z0_32 = (some mo) ∧ J32 , fun z0_32 hJ => ?_, ?_⟩
    · obtain ⟨rfl, hJ⟩ := hJ
      have h := hjJ32  hJ; clear hJ
      exact ⟨rfl, h⟩
    refine ⟨fun hc => ?_, fun hc => ?_⟩
    · replace h := h.1 hc; clear hc
      exact ⟨rfl, h⟩
    · replace h := h.2 hc; clear hc
      refine ⟨fun hc => ?_, fun hc => ?_⟩
      · replace h := h.1 hc; clear hc
        exact ⟨rfl, h⟩
      · replace h := h.2 hc; clear hc
        exact ⟨rfl, h⟩
  · replace h := h.2 hc; clear hc
    refine ⟨hR.1, fun z hz => ?_⟩; replace hz := hz.trans (hR.2.2.1 505 (by decide)).1; subst hz
    obtain ⟨j33, hi, hj, h⟩ := h
    refine ⟨ma 505, rfl, (hR.2.2.1 505 (by decide)).2.1, j33, hi, by rw [(hR.2.2.1 505 (by decide)).2.2.1]; exact hj, by rw [(hR.2.2.1 505 (by decide)).2.2.1]; decide, fun v34 hv => ?_⟩; replace h := h v34 (hv.trans ((hR.2.2.1 505 (by decide)).2.2.2 j33)); clear hv hi hj
    intro v35 hv; replace h := h v35 hv; clear hv
    refine ⟨hR.1, fun z hz => ?_⟩; replace hz := hz.trans (hR.2.2.1 506 (by decide)).1; subst hz
    obtain ⟨j36, hi, hj, h⟩ := h
    refine ⟨ma 506, rfl, (hR.2.2.1 506 (by decide)).2.1, j36, hi, by rw [(hR.2.2.1 506 (by decide)).2.2.1]; exact hj, by rw [(hR.2.2.1 506 (by decide)).2.2.1]; decide, fun v37 hv => ?_⟩; replace h := h v37 (hv.trans ((hR.2.2.1 506 (by decide)).2.2.2 j36)); clear hv hi hj
    intro v38 hv; replace h := h v38 hv; clear hv
    intro v39 hv; replace h := h v39 hv; clear hv
    obtain ⟨n, hn, h⟩ := h
    exact ⟨n, hn, h⟩

def sp_X4_note (x1 : Int32) (x2 : Int32) (x3 : Int32) (S : MS) (Q : Int32 → MS → Prop) : Prop :=
  sp_X4_in x1 (0 : Int32) (2 : Int32) S (fun v2 S1 => 
  ∃ J3 : Int32 → MS → Prop, (∀ (y4 : Int32) (S5 : MS), J3 y4 S5 →
  ∀ S6 : MS, S6 = S5.setS 500 y4 →
  ∀ v7 : Int32, v7 = S6.s 500 →
  (v7 = 0 → ∀ v8 : Int32, v8 = (16 : Int32) * x1 →
  ∀ v9 : Int32, v9 = v8 + x2 →
  ∃ j10 : Nat, v9 = nI j10 ∧ j10 < 48 ∧
  ∀ v11 : Int32, v11 = S6.a 530 j10 →
  ∀ v12 : Int32, v12 = v11 + x3 →
  ∃ j13 : Nat, v9 = nI j13 ∧ j13 < 48 ∧
  ∀ S14 : MS, S14 = S6.setA 530 j13 v12 →
  ∀ v15 : Int32, v15 = (16 : Int32) * x1 →
  ∀ v16 : Int32, v16 = v15 + x2 →
  ∃ j17 : Nat, v16 = nI j17 ∧ j17 < 48 ∧
  ∀ v18 : Int32, v18 = S14.a 530 j17 →
  Q v18 S14) ∧ (¬ v7 = 0 → Q (0 : Int32) S6)) ∧
  ∃ J19 : MS → Prop, (∀  (S20 : MS), J19  S20 →
  J3 (1 : Int32) S20) ∧
  (v2 = 0 → J19 S1) ∧ (¬ v2 = 0 → sp_X4_isOne x2 S1 (fun v22 S21 => 
  (¬ v22 = 0 → sp_X4_in x3 (-10000 : Int32) (10000 : Int32) S21 (fun v24 S23 => 
  (¬ v24 = 0 → J3 (0 : Int32) S23) ∧ (v24 = 0 → J3 (2 : Int32) S23))) ∧ (v22 = 0 → J19 S21))))
set_option maxHeartbeats 4000000 in
set_option maxRecDepth 100000 in
theorem r_X4_note {mo : Nat} {ma : Nat → Nat} {x1 : Int32} {x2 : Int32} {x3 : Int32} {w : Wd} {S : MS} {Q : Int32 → Wd → Prop} {Q1 : Int32 → MS → Prop} (hR : RepM w mo ma S) (h : sp_X4_note x1 x2 x3 S Q1) (hQ : ∀ r S1 w1, Q1 r S1 → FrM mo ma w w1 → RepM w1 mo ma S1 → Q r w1) : wp_X4_note mo x1 x2 x3 w Q := by
  have hF : FrM mo ma w w := FrM.rfl
  unfold sp_X4_note at h
  unfold wp_X4_note
  refine r_X4_in hR h (fun v2 S1 w1 h hF1 hR1 => ?_); replace hF := hF.trans hF1; replace hR := hR1; clear hF1 hR1
  obtain ⟨J3, hjJ3, h⟩ := h
  refine ⟨fun z0_18 y4 w1 => ∃ S1, z0_18 = (some mo) ∧ J3 y4 S1 ∧ FrM mo ma w w1 ∧ RepM w1 mo ma S1, fun z0_18 y4 w1 hJ => ?_, ?_⟩
  · obtain ⟨S5, rfl, hJ, hF, hR⟩ := hJ
    have h := hjJ3 y4 S5 hJ; clear hJ
    refine ⟨mo, rfl, hR.1, fun w1 hw => ?_⟩; obtain ⟨S6, hS⟩ : ∃ z, z = S5.setS 500 y4 := ⟨_, rfl⟩; replace h := h S6 hS; replace hF := hF.trans (FrM.putS (by decide) hw); replace hR := hR.putS (by decide) hw hS; clear hw hS
    refine ⟨hR.1, fun v7 hv => ?_⟩; replace h := h v7 (hv.trans (hR.2.1 500 (by decide))); clear hv
    refine ⟨fun hc => ?_, fun hc => ?_⟩
    · replace h := h.1 hc; clear hc
      refine ⟨hR.1, fun z hz => ?_⟩; replace hz := hz.trans (hR.2.2.1 530 (by decide)).1; subst hz
      intro v8 hv; replace h := h v8 hv; clear hv
      intro v9 hv; replace h := h v9 hv; clear hv
      obtain ⟨j10, hi, hj, h⟩ := h
      refine ⟨ma 530, rfl, (hR.2.2.1 530 (by decide)).2.1, j10, hi, by rw [(hR.2.2.1 530 (by decide)).2.2.1]; exact hj, by rw [(hR.2.2.1 530 (by decide)).2.2.1]; decide, fun v11 hv => ?_⟩; replace h := h v11 (hv.trans ((hR.2.2.1 530 (by decide)).2.2.2 j10)); clear hv hi hj
      intro v12 hv; replace h := h v12 hv; clear hv
      obtain ⟨j13, hi, hj, h⟩ := h
      refine ⟨(hR.2.2.1 530 (by decide)).2.1, j13, hi, by rw [(hR.2.2.1 530 (by decide)).2.2.1]; exact hj, by rw [(hR.2.2.1 530 (by decide)).2.2.1]; decide, fun w1 hw => ?_⟩; obtain ⟨S14, hS⟩ : ∃ z, z = S6.setA 530 j13 v12 := ⟨_, rfl⟩; replace h := h S14 hS; replace hF := hF.trans (FrM.putA (by decide) hw); replace hR := hR.putA (by decide) hw hS; clear hw hS hi hj
      refine ⟨hR.1, fun z hz => ?_⟩; replace hz := hz.trans (hR.2.2.1 530 (by decide)).1; subst hz
      intro v15 hv; replace h := h v15 hv; clear hv
      intro v16 hv; replace h := h v16 hv; clear hv
      obtain ⟨j17, hi, hj, h⟩ := h
      refine ⟨ma 530, rfl, (hR.2.2.1 530 (by decide)).2.1, j17, hi, by rw [(hR.2.2.1 530 (by decide)).2.2.1]; exact hj, by rw [(hR.2.2.1 530 (by decide)).2.2.1]; decide, fun v18 hv => ?_⟩; replace h := h v18 (hv.trans ((hR.2.2.1 530 (by decide)).2.2.2 j17)); clear hv hi hj
      exact hQ _ _ _ h hF hR
    · replace h := h.2 hc; clear hc
      exact hQ _ _ _ h hF hR
  obtain ⟨J19, hjJ19, h⟩ := h
  refine ⟨fun z0_20 w1 => ∃ S1, z0_20 = (some mo) ∧ J19  S1 ∧ FrM mo ma w w1 ∧ RepM w1 mo ma S1, fun z0_20 w1 hJ => ?_, ?_⟩
  · obtain ⟨S20, rfl, hJ, hF, hR⟩ := hJ
    have h := hjJ19  S20 hJ; clear hJ
    exact ⟨_, rfl, h, hF, hR⟩
  refine ⟨fun hc => ?_, fun hc => ?_⟩
  · replace h := h.1 hc; clear hc
    exact ⟨_, rfl, h, hF, hR⟩
  · replace h := h.2 hc; clear hc
    refine ⟨hR.1, r_X4_isOne hR h (fun v22 S21 w1 h hF1 hR1 => ?_)⟩; replace hF := hF.trans hF1; replace hR := hR1; clear hF1 hR1
    refine ⟨fun hc => ?_, fun hc => ?_⟩
    · replace h := h.1 hc; clear hc
      refine r_X4_in hR h (fun v24 S23 w1 h hF1 hR1 => ?_); replace hF := hF.trans hF1; replace hR := hR1; clear hF1 hR1
      refine ⟨fun hc => ?_, fun hc => ?_⟩
      · replace h := h.1 hc; clear hc
        exact ⟨_, rfl, h, hF, hR⟩
      · replace h := h.2 hc; clear hc
        exact ⟨_, rfl, h, hF, hR⟩
    · replace h := h.2 hc; clear hc
      exact ⟨_, rfl, h, hF, hR⟩

def sp_X4_audit (x1 : Int32) (S : MS) (Q : Int32 → MS → Prop) : Prop :=
  sp_X4_in x1 (0 : Int32) (2 : Int32) S (fun v2 S1 => 
  ∃ J3 : Int32 → Prop, (∀ (y4 : Int32), J3 y4 →
  ∀ S5 : MS, S5 = S1.setS 500 y4 →
  ∀ v6 : Int32, v6 = S5.s 501 →
  ∀ v7 : Int32, v7 = v6 - (1 : Int32) →
  ∃ Inv9 : Nat → Int32 → Int32 → Prop, (∃ n : Nat, Inv9 n (-1 : Int32) v7) ∧ ∀ (n8 : Nat) (y10 : Int32) (y11 : Int32), Inv9 n8 y10 y11 →
  ∃ J12 : Prop, (J12 →
  ∀ v13 : Int32, v13 = S5.s 500 →
  ∃ J14 : Int32 → Prop, (∀ (y15 : Int32), J14 y15 →
  Q y15 S5) ∧
  (v13 = 0 → J14 y10) ∧ (¬ v13 = 0 → J14 (0 : Int32))) ∧
  (y11 < 0 → J12) ∧ (¬ y11 < 0 → ∀ v16 : Int32, v16 = S5.s 500 →
  (¬ v16 = 0 → J12) ∧ (v16 = 0 → ∀ v17 : Int32, v17 = (16 : Int32) * x1 →
  ∀ v18 : Int32, v18 = v17 + y11 →
  ∃ j19 : Nat, v18 = nI j19 ∧ j19 < 48 ∧
  ∀ v20 : Int32, v20 = S5.a 530 j19 →
  ∃ j21 : Nat, y11 = nI j21 ∧ j21 < 16 ∧
  ∀ v22 : Int32, v22 = S5.a 511 j21 →
  ∃ J23 : Int32 → Prop, (∀ (y24 : Int32), J23 y24 →
  ∀ v25 : Int32, v25 = y11 + (-1 : Int32) →
  ∃ n : Nat, n < n8 ∧ Inv9 n y24 v25) ∧
  (¬ v20 = v22 → J23 y11) ∧ (v20 = v22 → J23 y10)))) ∧
  (v2 = 0 → J3 (1 : Int32)) ∧ (¬ v2 = 0 → J3 (0 : Int32)))
set_option maxHeartbeats 4000000 in
set_option maxRecDepth 100000 in
theorem r_X4_audit {mo : Nat} {ma : Nat → Nat} {x1 : Int32} {w : Wd} {S : MS} {Q : Int32 → Wd → Prop} {Q1 : Int32 → MS → Prop} (hR : RepM w mo ma S) (h : sp_X4_audit x1 S Q1) (hQ : ∀ r S1 w1, Q1 r S1 → FrM mo ma w w1 → RepM w1 mo ma S1 → Q r w1) : wp_X4_audit mo x1 w Q := by
  have hF : FrM mo ma w w := FrM.rfl
  unfold sp_X4_audit at h
  unfold wp_X4_audit
  refine r_X4_in hR h (fun v2 S1 w1 h hF1 hR1 => ?_); replace hF := hF.trans hF1; replace hR := hR1; clear hF1 hR1
  obtain ⟨J3, hjJ3, h⟩ := h
  refine ⟨fun z0_25 y4 => z0_25 = (some mo) ∧ J3 y4, fun z0_25 y4 hJ => ?_, ?_⟩
  · obtain ⟨rfl, hJ⟩ := hJ
    have h := hjJ3 y4 hJ; clear hJ
    refine ⟨mo, rfl, hR.1, fun w1 hw => ?_⟩; obtain ⟨S5, hS⟩ : ∃ z, z = S1.setS 500 y4 := ⟨_, rfl⟩; replace h := h S5 hS; replace hF := hF.trans (FrM.putS (by decide) hw); replace hR := hR.putS (by decide) hw hS; clear hw hS
    refine ⟨hR.1, fun v6 hv => ?_⟩; replace h := h v6 (hv.trans (hR.2.1 501 (by decide))); clear hv
    intro v7 hv; replace h := h v7 hv; clear hv
    obtain ⟨Inv9, ⟨n0, hi⟩, hsn8⟩ := h
    refine ⟨Inv9, ⟨n0, hi⟩, fun n8 y10 y11 hI => ?_⟩
    have h := hsn8 n8 y10 y11 hI; clear hI
    obtain ⟨J12, hjJ12, h⟩ := h
    refine ⟨J12, fun hJ => ?_, ?_⟩
    · have h := hjJ12 hJ; clear hJ
      refine ⟨hR.1, fun v13 hv => ?_⟩; replace h := h v13 (hv.trans (hR.2.1 500 (by decide))); clear hv
      obtain ⟨J14, hjJ14, h⟩ := h
      refine ⟨fun y15 => J14 y15, fun y15 hJ => ?_, ?_⟩
      · have h := hjJ14 y15 hJ; clear hJ
        exact hQ _ _ _ h hF hR
      refine ⟨fun hc => ?_, fun hc => ?_⟩
      · replace h := h.1 hc; clear hc
        exact h
      · replace h := h.2 hc; clear hc
        exact h
    refine ⟨fun hc => ?_, fun hc => ?_⟩
    · replace h := h.1 hc; clear hc
      exact h
    · replace h := h.2 hc; clear hc
      refine ⟨hR.1, fun v16 hv => ?_⟩; replace h := h v16 (hv.trans (hR.2.1 500 (by decide))); clear hv
      refine ⟨fun hc => ?_, fun hc => ?_⟩
      · replace h := h.1 hc; clear hc
        exact h
      · replace h := h.2 hc; clear hc
        refine ⟨hR.1, fun z hz => ?_⟩; replace hz := hz.trans (hR.2.2.1 530 (by decide)).1; subst hz
        intro v17 hv; replace h := h v17 hv; clear hv
        intro v18 hv; replace h := h v18 hv; clear hv
        obtain ⟨j19, hi, hj, h⟩ := h
        refine ⟨ma 530, rfl, (hR.2.2.1 530 (by decide)).2.1, j19, hi, by rw [(hR.2.2.1 530 (by decide)).2.2.1]; exact hj, by rw [(hR.2.2.1 530 (by decide)).2.2.1]; decide, fun v20 hv => ?_⟩; replace h := h v20 (hv.trans ((hR.2.2.1 530 (by decide)).2.2.2 j19)); clear hv hi hj
        refine ⟨hR.1, fun z hz => ?_⟩; replace hz := hz.trans (hR.2.2.1 511 (by decide)).1; subst hz
        obtain ⟨j21, hi, hj, h⟩ := h
        refine ⟨ma 511, rfl, (hR.2.2.1 511 (by decide)).2.1, j21, hi, by rw [(hR.2.2.1 511 (by decide)).2.2.1]; exact hj, by rw [(hR.2.2.1 511 (by decide)).2.2.1]; decide, fun v22 hv => ?_⟩; replace h := h v22 (hv.trans ((hR.2.2.1 511 (by decide)).2.2.2 j21)); clear hv hi hj
        obtain ⟨J23, hjJ23, h⟩ := h
        refine ⟨fun y24 => J23 y24, fun y24 hJ => ?_, ?_⟩
        · have h := hjJ23 y24 hJ; clear hJ
          intro v25 hv; replace h := h v25 hv; clear hv
          obtain ⟨n, hn, h⟩ := h
          exact ⟨n, hn, h⟩
        refine ⟨fun hc => ?_, fun hc => ?_⟩
        · replace h := h.1 hc; clear hc
          exact h
        · replace h := h.2 hc; clear hc
          exact h
  refine ⟨fun hc => ?_, fun hc => ?_⟩
  · replace h := h.1 hc; clear hc
    exact ⟨rfl, h⟩
  · replace h := h.2 hc; clear hc
    exact ⟨rfl, h⟩

def sp_X4_of (x1 : Int32) (x2 : Int32) (S : MS) (Q : Int32 → MS → Prop) : Prop :=
  sp_X4_isOne x1 S (fun v2 S1 => 
  ∃ J3 : Int32 → MS → Prop, (∀ (y4 : Int32) (S5 : MS), J3 y4 S5 →
  ∀ S6 : MS, S6 = S5.setS 500 y4 →
  ∀ v7 : Int32, v7 = S6.s 500 →
  (v7 = 0 → ∃ j8 : Nat, x1 = nI j8 ∧ j8 < 16 ∧
  ∀ v9 : Int32, v9 = S6.a 512 j8 →
  ∃ J10 : Int32 → Prop, (∀ (y11 : Int32), J10 y11 →
  ∃ J12 : Int32 → MS → Prop, (∀ (y13 : Int32) (S14 : MS), J12 y13 S14 →
  Q y13 S14) ∧
  (¬ x2 = 0 → (¬ x2 = (1 : Int32) → (¬ x2 = (2 : Int32) → (¬ x2 = (3 : Int32) → (¬ x2 = (4 : Int32) → (¬ x2 = (5 : Int32) → sp_X4_house x1 (0 : Int32) S6 (fun v16 S15 => 
  J12 v16 S15)) ∧ (x2 = (5 : Int32) → J12 y11 S6)) ∧ (x2 = (4 : Int32) → ∃ j17 : Nat, x1 = nI j17 ∧ j17 < 16 ∧
  ∀ v18 : Int32, v18 = S6.a 511 j17 →
  J12 v18 S6)) ∧ (x2 = (3 : Int32) → ∃ j19 : Nat, x1 = nI j19 ∧ j19 < 16 ∧
  ∀ v20 : Int32, v20 = S6.a 510 j19 →
  J12 v20 S6)) ∧ (x2 = (2 : Int32) → ∃ j21 : Nat, x1 = nI j21 ∧ j21 < 16 ∧
  ∀ v22 : Int32, v22 = S6.a 506 j21 →
  J12 v22 S6)) ∧ (x2 = (1 : Int32) → ∃ j23 : Nat, x1 = nI j23 ∧ j23 < 16 ∧
  ∀ v24 : Int32, v24 = S6.a 505 j23 →
  J12 v24 S6)) ∧ (x2 = 0 → ∃ j25 : Nat, x1 = nI j25 ∧ j25 < 16 ∧
  ∀ v26 : Int32, v26 = S6.a 504 j25 →
  J12 v26 S6)) ∧
  (v9 = 0 → J10 (1 : Int32)) ∧ (¬ v9 = 0 → J10 (0 : Int32))) ∧ (¬ v7 = 0 → Q (0 : Int32) S6)) ∧
  (¬ v2 = 0 → sp_X4_in x2 (0 : Int32) (6 : Int32) S1 (fun v28 S27 => 
  (¬ v28 = 0 → J3 (0 : Int32) S27) ∧ (v28 = 0 → J3 (2 : Int32) S27))) ∧ (v2 = 0 → J3 (1 : Int32) S1))
set_option maxHeartbeats 4000000 in
set_option maxRecDepth 100000 in
theorem r_X4_of {mo : Nat} {ma : Nat → Nat} {x1 : Int32} {x2 : Int32} {w : Wd} {S : MS} {Q : Int32 → Wd → Prop} {Q1 : Int32 → MS → Prop} (hR : RepM w mo ma S) (h : sp_X4_of x1 x2 S Q1) (hQ : ∀ r S1 w1, Q1 r S1 → FrM mo ma w w1 → RepM w1 mo ma S1 → Q r w1) : wp_X4_of mo x1 x2 w Q := by
  have hF : FrM mo ma w w := FrM.rfl
  unfold sp_X4_of at h
  unfold wp_X4_of
  refine ⟨hR.1, r_X4_isOne hR h (fun v2 S1 w1 h hF1 hR1 => ?_)⟩; replace hF := hF.trans hF1; replace hR := hR1; clear hF1 hR1
  obtain ⟨J3, hjJ3, h⟩ := h
  refine ⟨fun z0_26 y4 w1 => ∃ S1, z0_26 = (some mo) ∧ J3 y4 S1 ∧ FrM mo ma w w1 ∧ RepM w1 mo ma S1, fun z0_26 y4 w1 hJ => ?_, ?_⟩
  · obtain ⟨S5, rfl, hJ, hF, hR⟩ := hJ
    have h := hjJ3 y4 S5 hJ; clear hJ
    refine ⟨mo, rfl, hR.1, fun w1 hw => ?_⟩; obtain ⟨S6, hS⟩ : ∃ z, z = S5.setS 500 y4 := ⟨_, rfl⟩; replace h := h S6 hS; replace hF := hF.trans (FrM.putS (by decide) hw); replace hR := hR.putS (by decide) hw hS; clear hw hS
    refine ⟨hR.1, fun v7 hv => ?_⟩; replace h := h v7 (hv.trans (hR.2.1 500 (by decide))); clear hv
    refine ⟨fun hc => ?_, fun hc => ?_⟩
    · replace h := h.1 hc; clear hc
      refine ⟨hR.1, fun z hz => ?_⟩; replace hz := hz.trans (hR.2.2.1 512 (by decide)).1; subst hz
      obtain ⟨j8, hi, hj, h⟩ := h
      refine ⟨ma 512, rfl, (hR.2.2.1 512 (by decide)).2.1, j8, hi, by rw [(hR.2.2.1 512 (by decide)).2.2.1]; exact hj, by rw [(hR.2.2.1 512 (by decide)).2.2.1]; decide, fun v9 hv => ?_⟩; replace h := h v9 (hv.trans ((hR.2.2.1 512 (by decide)).2.2.2 j8)); clear hv hi hj
      obtain ⟨J10, hjJ10, h⟩ := h
      refine ⟨fun y11 => J10 y11, fun y11 hJ => ?_, ?_⟩
      · have h := hjJ10 y11 hJ; clear hJ
        obtain ⟨J12, hjJ12, h⟩ := h
        refine ⟨fun y13 w1 => ∃ S1, J12 y13 S1 ∧ FrM mo ma w w1 ∧ RepM w1 mo ma S1, fun y13 w1 hJ => ?_, ?_⟩
        · obtain ⟨S14, hJ, hF, hR⟩ := hJ
          have h := hjJ12 y13 S14 hJ; clear hJ
          exact hQ _ _ _ h hF hR
        refine ⟨fun hc => ?_, fun hc => ?_⟩
        · replace h := h.1 hc; clear hc
          refine ⟨fun hc => ?_, fun hc => ?_⟩
          · replace h := h.1 hc; clear hc
            refine ⟨fun hc => ?_, fun hc => ?_⟩
            · replace h := h.1 hc; clear hc
              refine ⟨fun hc => ?_, fun hc => ?_⟩
              · replace h := h.1 hc; clear hc
                refine ⟨fun hc => ?_, fun hc => ?_⟩
                · replace h := h.1 hc; clear hc
                  refine ⟨fun hc => ?_, fun hc => ?_⟩
                  · replace h := h.1 hc; clear hc
                    refine ⟨hR.1, r_X4_house hR h (fun v16 S15 w1 h hF1 hR1 => ?_)⟩; replace hF := hF.trans hF1; replace hR := hR1; clear hF1 hR1
                    exact ⟨_, h, hF, hR⟩
                  · replace h := h.2 hc; clear hc
                    exact ⟨_, h, hF, hR⟩
                · replace h := h.2 hc; clear hc
                  refine ⟨hR.1, fun z hz => ?_⟩; replace hz := hz.trans (hR.2.2.1 511 (by decide)).1; subst hz
                  obtain ⟨j17, hi, hj, h⟩ := h
                  refine ⟨ma 511, rfl, (hR.2.2.1 511 (by decide)).2.1, j17, hi, by rw [(hR.2.2.1 511 (by decide)).2.2.1]; exact hj, by rw [(hR.2.2.1 511 (by decide)).2.2.1]; decide, fun v18 hv => ?_⟩; replace h := h v18 (hv.trans ((hR.2.2.1 511 (by decide)).2.2.2 j17)); clear hv hi hj
                  exact ⟨_, h, hF, hR⟩
              · replace h := h.2 hc; clear hc
                refine ⟨hR.1, fun z hz => ?_⟩; replace hz := hz.trans (hR.2.2.1 510 (by decide)).1; subst hz
                obtain ⟨j19, hi, hj, h⟩ := h
                refine ⟨ma 510, rfl, (hR.2.2.1 510 (by decide)).2.1, j19, hi, by rw [(hR.2.2.1 510 (by decide)).2.2.1]; exact hj, by rw [(hR.2.2.1 510 (by decide)).2.2.1]; decide, fun v20 hv => ?_⟩; replace h := h v20 (hv.trans ((hR.2.2.1 510 (by decide)).2.2.2 j19)); clear hv hi hj
                exact ⟨_, h, hF, hR⟩
            · replace h := h.2 hc; clear hc
              refine ⟨hR.1, fun z hz => ?_⟩; replace hz := hz.trans (hR.2.2.1 506 (by decide)).1; subst hz
              obtain ⟨j21, hi, hj, h⟩ := h
              refine ⟨ma 506, rfl, (hR.2.2.1 506 (by decide)).2.1, j21, hi, by rw [(hR.2.2.1 506 (by decide)).2.2.1]; exact hj, by rw [(hR.2.2.1 506 (by decide)).2.2.1]; decide, fun v22 hv => ?_⟩; replace h := h v22 (hv.trans ((hR.2.2.1 506 (by decide)).2.2.2 j21)); clear hv hi hj
              exact ⟨_, h, hF, hR⟩
          · replace h := h.2 hc; clear hc
            refine ⟨hR.1, fun z hz => ?_⟩; replace hz := hz.trans (hR.2.2.1 505 (by decide)).1; subst hz
            obtain ⟨j23, hi, hj, h⟩ := h
            refine ⟨ma 505, rfl, (hR.2.2.1 505 (by decide)).2.1, j23, hi, by rw [(hR.2.2.1 505 (by decide)).2.2.1]; exact hj, by rw [(hR.2.2.1 505 (by decide)).2.2.1]; decide, fun v24 hv => ?_⟩; replace h := h v24 (hv.trans ((hR.2.2.1 505 (by decide)).2.2.2 j23)); clear hv hi hj
            exact ⟨_, h, hF, hR⟩
        · replace h := h.2 hc; clear hc
          refine ⟨hR.1, fun z hz => ?_⟩; replace hz := hz.trans (hR.2.2.1 504 (by decide)).1; subst hz
          obtain ⟨j25, hi, hj, h⟩ := h
          refine ⟨ma 504, rfl, (hR.2.2.1 504 (by decide)).2.1, j25, hi, by rw [(hR.2.2.1 504 (by decide)).2.2.1]; exact hj, by rw [(hR.2.2.1 504 (by decide)).2.2.1]; decide, fun v26 hv => ?_⟩; replace h := h v26 (hv.trans ((hR.2.2.1 504 (by decide)).2.2.2 j25)); clear hv hi hj
          exact ⟨_, h, hF, hR⟩
      refine ⟨fun hc => ?_, fun hc => ?_⟩
      · replace h := h.1 hc; clear hc
        exact h
      · replace h := h.2 hc; clear hc
        exact h
    · replace h := h.2 hc; clear hc
      exact hQ _ _ _ h hF hR
  refine ⟨fun hc => ?_, fun hc => ?_⟩
  · replace h := h.1 hc; clear hc
    refine r_X4_in hR h (fun v28 S27 w1 h hF1 hR1 => ?_); replace hF := hF.trans hF1; replace hR := hR1; clear hF1 hR1
    refine ⟨fun hc => ?_, fun hc => ?_⟩
    · replace h := h.1 hc; clear hc
      exact ⟨_, rfl, h, hF, hR⟩
    · replace h := h.2 hc; clear hc
      exact ⟨_, rfl, h, hF, hR⟩
  · replace h := h.2 hc; clear hc
    exact ⟨_, rfl, h, hF, hR⟩

def sp_X4_member (x1 : Int32) (x2 : Int32) (x3 : Int32) (S : MS) (Q : Int32 → MS → Prop) : Prop :=
  sp_X4_isCircle x1 S (fun v2 S1 => 
  ∃ J3 : Int32 → MS → Prop, (∀ (y4 : Int32) (S5 : MS), J3 y4 S5 →
  ∀ S6 : MS, S6 = S5.setS 500 y4 →
  ∀ v7 : Int32, v7 = S6.s 500 →
  (v7 = 0 → sp_X4_placeOf x1 x2 S6 (fun v9 S8 => 
  (0 ≤ v9 → ∀ v10 : Int32, v10 = (10 : Int32) * x1 →
  ∀ v11 : Int32, v11 = v10 + v9 →
  ∃ J12 : Int32 → Prop, (∀ (y13 : Int32), J12 y13 →
  Q y13 S8) ∧
  (¬ x3 = 0 → (¬ x3 = (1 : Int32) → (¬ x3 = (2 : Int32) → J12 v9) ∧ (x3 = (2 : Int32) → ∃ j14 : Nat, v11 = nI j14 ∧ j14 < 40 ∧
  ∀ v15 : Int32, v15 = S8.a 525 j14 →
  J12 v15)) ∧ (x3 = (1 : Int32) → ∃ j16 : Nat, v11 = nI j16 ∧ j16 < 40 ∧
  ∀ v17 : Int32, v17 = S8.a 527 j16 →
  (v17 = 0 → J12 (0 : Int32)) ∧ (¬ v17 = 0 → J12 (1 : Int32)))) ∧ (x3 = 0 → ∃ j18 : Nat, v11 = nI j18 ∧ j18 < 40 ∧
  ∀ v19 : Int32, v19 = S8.a 522 j18 →
  J12 v19)) ∧ (¬ 0 ≤ v9 → Q (-1 : Int32) S8))) ∧ (¬ v7 = 0 → Q (0 : Int32) S6)) ∧
  ∃ J20 : MS → Prop, (∀  (S21 : MS), J20  S21 →
  J3 (1 : Int32) S21) ∧
  (v2 = 0 → J20 S1) ∧ (¬ v2 = 0 → sp_X4_isOne x2 S1 (fun v23 S22 => 
  (¬ v23 = 0 → sp_X4_in x3 (0 : Int32) (3 : Int32) S22 (fun v25 S24 => 
  (¬ v25 = 0 → J3 (0 : Int32) S24) ∧ (v25 = 0 → J3 (2 : Int32) S24))) ∧ (v23 = 0 → J20 S22))))
set_option maxHeartbeats 4000000 in
set_option maxRecDepth 100000 in
theorem r_X4_member {mo : Nat} {ma : Nat → Nat} {x1 : Int32} {x2 : Int32} {x3 : Int32} {w : Wd} {S : MS} {Q : Int32 → Wd → Prop} {Q1 : Int32 → MS → Prop} (hR : RepM w mo ma S) (h : sp_X4_member x1 x2 x3 S Q1) (hQ : ∀ r S1 w1, Q1 r S1 → FrM mo ma w w1 → RepM w1 mo ma S1 → Q r w1) : wp_X4_member mo x1 x2 x3 w Q := by
  have hF : FrM mo ma w w := FrM.rfl
  unfold sp_X4_member at h
  unfold wp_X4_member
  refine ⟨hR.1, r_X4_isCircle hR h (fun v2 S1 w1 h hF1 hR1 => ?_)⟩; replace hF := hF.trans hF1; replace hR := hR1; clear hF1 hR1
  obtain ⟨J3, hjJ3, h⟩ := h
  refine ⟨fun z0_19 y4 w1 => ∃ S1, z0_19 = (some mo) ∧ J3 y4 S1 ∧ FrM mo ma w w1 ∧ RepM w1 mo ma S1, fun z0_19 y4 w1 hJ => ?_, ?_⟩
  · obtain ⟨S5, rfl, hJ, hF, hR⟩ := hJ
    have h := hjJ3 y4 S5 hJ; clear hJ
    refine ⟨mo, rfl, hR.1, fun w1 hw => ?_⟩; obtain ⟨S6, hS⟩ : ∃ z, z = S5.setS 500 y4 := ⟨_, rfl⟩; replace h := h S6 hS; replace hF := hF.trans (FrM.putS (by decide) hw); replace hR := hR.putS (by decide) hw hS; clear hw hS
    refine ⟨hR.1, fun v7 hv => ?_⟩; replace h := h v7 (hv.trans (hR.2.1 500 (by decide))); clear hv
    refine ⟨fun hc => ?_, fun hc => ?_⟩
    · replace h := h.1 hc; clear hc
      refine ⟨hR.1, r_X4_placeOf hR h (fun v9 S8 w1 h hF1 hR1 => ?_)⟩; replace hF := hF.trans hF1; replace hR := hR1; clear hF1 hR1
      refine ⟨fun hc => ?_, fun hc => ?_⟩
      · replace h := h.1 hc; clear hc
        intro v10 hv; replace h := h v10 hv; clear hv
        intro v11 hv; replace h := h v11 hv; clear hv
        obtain ⟨J12, hjJ12, h⟩ := h
        refine ⟨fun y13 => J12 y13, fun y13 hJ => ?_, ?_⟩
        · have h := hjJ12 y13 hJ; clear hJ
          exact hQ _ _ _ h hF hR
        refine ⟨fun hc => ?_, fun hc => ?_⟩
        · replace h := h.1 hc; clear hc
          refine ⟨fun hc => ?_, fun hc => ?_⟩
          · replace h := h.1 hc; clear hc
            refine ⟨fun hc => ?_, fun hc => ?_⟩
            · replace h := h.1 hc; clear hc
              exact h
            · replace h := h.2 hc; clear hc
              refine ⟨hR.1, fun z hz => ?_⟩; replace hz := hz.trans (hR.2.2.1 525 (by decide)).1; subst hz
              obtain ⟨j14, hi, hj, h⟩ := h
              refine ⟨ma 525, rfl, (hR.2.2.1 525 (by decide)).2.1, j14, hi, by rw [(hR.2.2.1 525 (by decide)).2.2.1]; exact hj, by rw [(hR.2.2.1 525 (by decide)).2.2.1]; decide, fun v15 hv => ?_⟩; replace h := h v15 (hv.trans ((hR.2.2.1 525 (by decide)).2.2.2 j14)); clear hv hi hj
              exact h
          · replace h := h.2 hc; clear hc
            refine ⟨hR.1, fun z hz => ?_⟩; replace hz := hz.trans (hR.2.2.1 527 (by decide)).1; subst hz
            obtain ⟨j16, hi, hj, h⟩ := h
            refine ⟨ma 527, rfl, (hR.2.2.1 527 (by decide)).2.1, j16, hi, by rw [(hR.2.2.1 527 (by decide)).2.2.1]; exact hj, by rw [(hR.2.2.1 527 (by decide)).2.2.1]; decide, fun v17 hv => ?_⟩; replace h := h v17 (hv.trans ((hR.2.2.1 527 (by decide)).2.2.2 j16)); clear hv hi hj
            refine ⟨fun hc => ?_, fun hc => ?_⟩
            · replace h := h.1 hc; clear hc
              exact h
            · replace h := h.2 hc; clear hc
              exact h
        · replace h := h.2 hc; clear hc
          refine ⟨hR.1, fun z hz => ?_⟩; replace hz := hz.trans (hR.2.2.1 522 (by decide)).1; subst hz
          obtain ⟨j18, hi, hj, h⟩ := h
          refine ⟨ma 522, rfl, (hR.2.2.1 522 (by decide)).2.1, j18, hi, by rw [(hR.2.2.1 522 (by decide)).2.2.1]; exact hj, by rw [(hR.2.2.1 522 (by decide)).2.2.1]; decide, fun v19 hv => ?_⟩; replace h := h v19 (hv.trans ((hR.2.2.1 522 (by decide)).2.2.2 j18)); clear hv hi hj
          exact h
      · replace h := h.2 hc; clear hc
        exact hQ _ _ _ h hF hR
    · replace h := h.2 hc; clear hc
      exact hQ _ _ _ h hF hR
  obtain ⟨J20, hjJ20, h⟩ := h
  refine ⟨fun z0_21 w1 => ∃ S1, z0_21 = (some mo) ∧ J20  S1 ∧ FrM mo ma w w1 ∧ RepM w1 mo ma S1, fun z0_21 w1 hJ => ?_, ?_⟩
  · obtain ⟨S21, rfl, hJ, hF, hR⟩ := hJ
    have h := hjJ20  S21 hJ; clear hJ
    exact ⟨_, rfl, h, hF, hR⟩
  refine ⟨fun hc => ?_, fun hc => ?_⟩
  · replace h := h.1 hc; clear hc
    exact ⟨_, rfl, h, hF, hR⟩
  · replace h := h.2 hc; clear hc
    refine ⟨hR.1, r_X4_isOne hR h (fun v23 S22 w1 h hF1 hR1 => ?_)⟩; replace hF := hF.trans hF1; replace hR := hR1; clear hF1 hR1
    refine ⟨fun hc => ?_, fun hc => ?_⟩
    · replace h := h.1 hc; clear hc
      refine r_X4_in hR h (fun v25 S24 w1 h hF1 hR1 => ?_); replace hF := hF.trans hF1; replace hR := hR1; clear hF1 hR1
      refine ⟨fun hc => ?_, fun hc => ?_⟩
      · replace h := h.1 hc; clear hc
        exact ⟨_, rfl, h, hF, hR⟩
      · replace h := h.2 hc; clear hc
        exact ⟨_, rfl, h, hF, hR⟩
    · replace h := h.2 hc; clear hc
      exact ⟨_, rfl, h, hF, hR⟩

def sp_X4_ofCircle (x1 : Int32) (x2 : Int32) (S : MS) (Q : Int32 → MS → Prop) : Prop :=
  sp_X4_isCircle x1 S (fun v2 S1 => 
  ∃ J3 : Int32 → MS → Prop, (∀ (y4 : Int32) (S5 : MS), J3 y4 S5 →
  ∀ S6 : MS, S6 = S5.setS 500 y4 →
  ∀ v7 : Int32, v7 = S6.s 500 →
  (v7 = 0 → ∃ j8 : Nat, x1 = nI j8 ∧ j8 < 4 ∧
  ∀ v9 : Int32, v9 = S6.a 520 j8 →
  ∃ J10 : Int32 → MS → Prop, (∀ (y11 : Int32) (S12 : MS), J10 y11 S12 →
  ∃ J13 : Int32 → Prop, (∀ (y14 : Int32), J13 y14 →
  ∃ J15 : Int32 → Prop, (∀ (y16 : Int32), J15 y16 →
  Q y16 S12) ∧
  (¬ x2 = 0 → (¬ x2 = (1 : Int32) → (¬ x2 = (2 : Int32) → (¬ x2 = (3 : Int32) → J15 y14) ∧ (x2 = (3 : Int32) → ∃ j17 : Nat, x1 = nI j17 ∧ j17 < 4 ∧
  ∀ v18 : Int32, v18 = S12.a 519 j17 →
  J15 v18)) ∧ (x2 = (2 : Int32) → ∃ j19 : Nat, x1 = nI j19 ∧ j19 < 4 ∧
  ∀ v20 : Int32, v20 = S12.a 518 j19 →
  J15 v20)) ∧ (x2 = (1 : Int32) → ∃ j21 : Nat, x1 = nI j21 ∧ j21 < 4 ∧
  ∀ v22 : Int32, v22 = S12.a 517 j21 →
  J15 v22)) ∧ (x2 = 0 → ∃ j23 : Nat, x1 = nI j23 ∧ j23 < 4 ∧
  ∀ v24 : Int32, v24 = S12.a 516 j23 →
  J15 v24)) ∧
  (0 ≤ y11 → ∀ v25 : Int32, v25 = (10 : Int32) * x1 →
  ∀ v26 : Int32, v26 = v25 + y11 →
  ∃ j27 : Nat, v26 = nI j27 ∧ j27 < 40 ∧
  ∀ v28 : Int32, v28 = S12.a 521 j27 →
  J13 v28) ∧ (¬ 0 ≤ y11 → J13 (-1 : Int32))) ∧
  (v9 = 0 → J10 (-1 : Int32) S6) ∧ (¬ v9 = 0 → sp_X4_turnOf x1 S6 (fun v30 S29 => 
  J10 v30 S29))) ∧ (¬ v7 = 0 → Q (0 : Int32) S6)) ∧
  (¬ v2 = 0 → sp_X4_in x2 (0 : Int32) (4 : Int32) S1 (fun v32 S31 => 
  (¬ v32 = 0 → J3 (0 : Int32) S31) ∧ (v32 = 0 → J3 (2 : Int32) S31))) ∧ (v2 = 0 → J3 (1 : Int32) S1))
set_option maxHeartbeats 4000000 in
set_option maxRecDepth 100000 in
theorem r_X4_ofCircle {mo : Nat} {ma : Nat → Nat} {x1 : Int32} {x2 : Int32} {w : Wd} {S : MS} {Q : Int32 → Wd → Prop} {Q1 : Int32 → MS → Prop} (hR : RepM w mo ma S) (h : sp_X4_ofCircle x1 x2 S Q1) (hQ : ∀ r S1 w1, Q1 r S1 → FrM mo ma w w1 → RepM w1 mo ma S1 → Q r w1) : wp_X4_ofCircle mo x1 x2 w Q := by
  have hF : FrM mo ma w w := FrM.rfl
  unfold sp_X4_ofCircle at h
  unfold wp_X4_ofCircle
  refine ⟨hR.1, r_X4_isCircle hR h (fun v2 S1 w1 h hF1 hR1 => ?_)⟩; replace hF := hF.trans hF1; replace hR := hR1; clear hF1 hR1
  obtain ⟨J3, hjJ3, h⟩ := h
  refine ⟨fun z0_30 y4 w1 => ∃ S1, z0_30 = (some mo) ∧ J3 y4 S1 ∧ FrM mo ma w w1 ∧ RepM w1 mo ma S1, fun z0_30 y4 w1 hJ => ?_, ?_⟩
  · obtain ⟨S5, rfl, hJ, hF, hR⟩ := hJ
    have h := hjJ3 y4 S5 hJ; clear hJ
    refine ⟨mo, rfl, hR.1, fun w1 hw => ?_⟩; obtain ⟨S6, hS⟩ : ∃ z, z = S5.setS 500 y4 := ⟨_, rfl⟩; replace h := h S6 hS; replace hF := hF.trans (FrM.putS (by decide) hw); replace hR := hR.putS (by decide) hw hS; clear hw hS
    refine ⟨hR.1, fun v7 hv => ?_⟩; replace h := h v7 (hv.trans (hR.2.1 500 (by decide))); clear hv
    refine ⟨fun hc => ?_, fun hc => ?_⟩
    · replace h := h.1 hc; clear hc
      refine ⟨hR.1, fun z hz => ?_⟩; replace hz := hz.trans (hR.2.2.1 520 (by decide)).1; subst hz
      obtain ⟨j8, hi, hj, h⟩ := h
      refine ⟨ma 520, rfl, (hR.2.2.1 520 (by decide)).2.1, j8, hi, by rw [(hR.2.2.1 520 (by decide)).2.2.1]; exact hj, by rw [(hR.2.2.1 520 (by decide)).2.2.1]; decide, fun v9 hv => ?_⟩; replace h := h v9 (hv.trans ((hR.2.2.1 520 (by decide)).2.2.2 j8)); clear hv hi hj
      obtain ⟨J10, hjJ10, h⟩ := h
      refine ⟨fun y11 w1 => ∃ S1, J10 y11 S1 ∧ FrM mo ma w w1 ∧ RepM w1 mo ma S1, fun y11 w1 hJ => ?_, ?_⟩
      · obtain ⟨S12, hJ, hF, hR⟩ := hJ
        have h := hjJ10 y11 S12 hJ; clear hJ
        obtain ⟨J13, hjJ13, h⟩ := h
        refine ⟨fun y14 => J13 y14, fun y14 hJ => ?_, ?_⟩
        · have h := hjJ13 y14 hJ; clear hJ
          obtain ⟨J15, hjJ15, h⟩ := h
          refine ⟨fun y16 => J15 y16, fun y16 hJ => ?_, ?_⟩
          · have h := hjJ15 y16 hJ; clear hJ
            exact hQ _ _ _ h hF hR
          refine ⟨fun hc => ?_, fun hc => ?_⟩
          · replace h := h.1 hc; clear hc
            refine ⟨fun hc => ?_, fun hc => ?_⟩
            · replace h := h.1 hc; clear hc
              refine ⟨fun hc => ?_, fun hc => ?_⟩
              · replace h := h.1 hc; clear hc
                refine ⟨fun hc => ?_, fun hc => ?_⟩
                · replace h := h.1 hc; clear hc
                  exact h
                · replace h := h.2 hc; clear hc
                  refine ⟨hR.1, fun z hz => ?_⟩; replace hz := hz.trans (hR.2.2.1 519 (by decide)).1; subst hz
                  obtain ⟨j17, hi, hj, h⟩ := h
                  refine ⟨ma 519, rfl, (hR.2.2.1 519 (by decide)).2.1, j17, hi, by rw [(hR.2.2.1 519 (by decide)).2.2.1]; exact hj, by rw [(hR.2.2.1 519 (by decide)).2.2.1]; decide, fun v18 hv => ?_⟩; replace h := h v18 (hv.trans ((hR.2.2.1 519 (by decide)).2.2.2 j17)); clear hv hi hj
                  exact h
              · replace h := h.2 hc; clear hc
                refine ⟨hR.1, fun z hz => ?_⟩; replace hz := hz.trans (hR.2.2.1 518 (by decide)).1; subst hz
                obtain ⟨j19, hi, hj, h⟩ := h
                refine ⟨ma 518, rfl, (hR.2.2.1 518 (by decide)).2.1, j19, hi, by rw [(hR.2.2.1 518 (by decide)).2.2.1]; exact hj, by rw [(hR.2.2.1 518 (by decide)).2.2.1]; decide, fun v20 hv => ?_⟩; replace h := h v20 (hv.trans ((hR.2.2.1 518 (by decide)).2.2.2 j19)); clear hv hi hj
                exact h
            · replace h := h.2 hc; clear hc
              refine ⟨hR.1, fun z hz => ?_⟩; replace hz := hz.trans (hR.2.2.1 517 (by decide)).1; subst hz
              obtain ⟨j21, hi, hj, h⟩ := h
              refine ⟨ma 517, rfl, (hR.2.2.1 517 (by decide)).2.1, j21, hi, by rw [(hR.2.2.1 517 (by decide)).2.2.1]; exact hj, by rw [(hR.2.2.1 517 (by decide)).2.2.1]; decide, fun v22 hv => ?_⟩; replace h := h v22 (hv.trans ((hR.2.2.1 517 (by decide)).2.2.2 j21)); clear hv hi hj
              exact h
          · replace h := h.2 hc; clear hc
            refine ⟨hR.1, fun z hz => ?_⟩; replace hz := hz.trans (hR.2.2.1 516 (by decide)).1; subst hz
            obtain ⟨j23, hi, hj, h⟩ := h
            refine ⟨ma 516, rfl, (hR.2.2.1 516 (by decide)).2.1, j23, hi, by rw [(hR.2.2.1 516 (by decide)).2.2.1]; exact hj, by rw [(hR.2.2.1 516 (by decide)).2.2.1]; decide, fun v24 hv => ?_⟩; replace h := h v24 (hv.trans ((hR.2.2.1 516 (by decide)).2.2.2 j23)); clear hv hi hj
            exact h
        refine ⟨fun hc => ?_, fun hc => ?_⟩
        · replace h := h.1 hc; clear hc
          refine ⟨hR.1, fun z hz => ?_⟩; replace hz := hz.trans (hR.2.2.1 521 (by decide)).1; subst hz
          intro v25 hv; replace h := h v25 hv; clear hv
          intro v26 hv; replace h := h v26 hv; clear hv
          obtain ⟨j27, hi, hj, h⟩ := h
          refine ⟨ma 521, rfl, (hR.2.2.1 521 (by decide)).2.1, j27, hi, by rw [(hR.2.2.1 521 (by decide)).2.2.1]; exact hj, by rw [(hR.2.2.1 521 (by decide)).2.2.1]; decide, fun v28 hv => ?_⟩; replace h := h v28 (hv.trans ((hR.2.2.1 521 (by decide)).2.2.2 j27)); clear hv hi hj
          exact h
        · replace h := h.2 hc; clear hc
          exact h
      refine ⟨fun hc => ?_, fun hc => ?_⟩
      · replace h := h.1 hc; clear hc
        exact ⟨_, h, hF, hR⟩
      · replace h := h.2 hc; clear hc
        refine ⟨hR.1, r_X4_turnOf hR h (fun v30 S29 w1 h hF1 hR1 => ?_)⟩; replace hF := hF.trans hF1; replace hR := hR1; clear hF1 hR1
        exact ⟨_, h, hF, hR⟩
    · replace h := h.2 hc; clear hc
      exact hQ _ _ _ h hF hR
  refine ⟨fun hc => ?_, fun hc => ?_⟩
  · replace h := h.1 hc; clear hc
    refine r_X4_in hR h (fun v32 S31 w1 h hF1 hR1 => ?_); replace hF := hF.trans hF1; replace hR := hR1; clear hF1 hR1
    refine ⟨fun hc => ?_, fun hc => ?_⟩
    · replace h := h.1 hc; clear hc
      exact ⟨_, rfl, h, hF, hR⟩
    · replace h := h.2 hc; clear hc
      exact ⟨_, rfl, h, hF, hR⟩
  · replace h := h.2 hc; clear hc
    exact ⟨_, rfl, h, hF, hR⟩

def sp_X4_cash  (S : MS) (Q : Int32 → MS → Prop) : Prop :=
  ∀ S1 : MS, S1 = S.setS 500 (0 : Int32) →
  ∀ v2 : Int32, v2 = S1.s 528 →
  Q v2 S1
set_option maxHeartbeats 4000000 in
set_option maxRecDepth 100000 in
theorem r_X4_cash {mo : Nat} {ma : Nat → Nat}  {w : Wd} {S : MS} {Q : Int32 → Wd → Prop} {Q1 : Int32 → MS → Prop} (hR : RepM w mo ma S) (h : sp_X4_cash  S Q1) (hQ : ∀ r S1 w1, Q1 r S1 → FrM mo ma w w1 → RepM w1 mo ma S1 → Q r w1) : wp_X4_cash mo  w Q := by
  have hF : FrM mo ma w w := FrM.rfl
  unfold sp_X4_cash at h
  unfold wp_X4_cash
  refine ⟨hR.1, fun w1 hw => ?_⟩; obtain ⟨S1, hS⟩ : ∃ z, z = S.setS 500 (0 : Int32) := ⟨_, rfl⟩; replace h := h S1 hS; replace hF := hF.trans (FrM.putS (by decide) hw); replace hR := hR.putS (by decide) hw hS; clear hw hS
  refine ⟨hR.1, fun v2 hv => ?_⟩; replace h := h v2 (hv.trans (hR.2.1 528 (by decide))); clear hv
  exact hQ _ _ _ h hF hR

def sp_X4_coins  (S : MS) (Q : Int32 → MS → Prop) : Prop :=
  ∀ S1 : MS, S1 = S.setS 500 (0 : Int32) →
  ∀ v2 : Int32, v2 = S1.s 529 →
  ∀ v3 : Int32, v3 = S1.s 528 →
  ∀ v4 : Int32, v4 = v2 - v3 →
  ∃ Inv6 : Nat → Int32 → Int32 → Prop, (∃ n : Nat, Inv6 n v4 (0 : Int32)) ∧ ∀ (n5 : Nat) (y7 : Int32) (y8 : Int32), Inv6 n5 y7 y8 →
  ∀ v9 : Int32, v9 = S1.s 501 →
  (v9 ≤ y8 → ∃ Inv11 : Nat → Int32 → Int32 → Prop, (∃ n : Nat, Inv11 n y7 (0 : Int32)) ∧ ∀ (n10 : Nat) (y12 : Int32) (y13 : Int32), Inv11 n10 y12 y13 →
  ∀ v14 : Int32, v14 = S1.s 513 →
  (v14 ≤ y13 → Q y12 S1) ∧ (¬ v14 ≤ y13 → ∃ j15 : Nat, y13 = nI j15 ∧ j15 < 4 ∧
  ∀ v16 : Int32, v16 = S1.a 516 j15 →
  ∀ v17 : Int32, v17 = y12 - v16 →
  ∀ v18 : Int32, v18 = y13 + (1 : Int32) →
  ∃ n : Nat, n < n10 ∧ Inv11 n v17 v18)) ∧ (¬ v9 ≤ y8 → ∃ j19 : Nat, y8 = nI j19 ∧ j19 < 16 ∧
  ∀ v20 : Int32, v20 = S1.a 504 j19 →
  ∀ v21 : Int32, v21 = y7 - v20 →
  ∀ v22 : Int32, v22 = y8 + (1 : Int32) →
  ∃ n : Nat, n < n5 ∧ Inv6 n v21 v22)
set_option maxHeartbeats 4000000 in
set_option maxRecDepth 100000 in
theorem r_X4_coins {mo : Nat} {ma : Nat → Nat}  {w : Wd} {S : MS} {Q : Int32 → Wd → Prop} {Q1 : Int32 → MS → Prop} (hR : RepM w mo ma S) (h : sp_X4_coins  S Q1) (hQ : ∀ r S1 w1, Q1 r S1 → FrM mo ma w w1 → RepM w1 mo ma S1 → Q r w1) : wp_X4_coins mo  w Q := by
  have hF : FrM mo ma w w := FrM.rfl
  unfold sp_X4_coins at h
  unfold wp_X4_coins
  refine ⟨hR.1, fun w1 hw => ?_⟩; obtain ⟨S1, hS⟩ : ∃ z, z = S.setS 500 (0 : Int32) := ⟨_, rfl⟩; replace h := h S1 hS; replace hF := hF.trans (FrM.putS (by decide) hw); replace hR := hR.putS (by decide) hw hS; clear hw hS
  refine ⟨hR.1, fun v2 hv => ?_⟩; replace h := h v2 (hv.trans (hR.2.1 529 (by decide))); clear hv
  refine ⟨hR.1, fun v3 hv => ?_⟩; replace h := h v3 (hv.trans (hR.2.1 528 (by decide))); clear hv
  intro v4 hv; replace h := h v4 hv; clear hv
  obtain ⟨Inv6, ⟨n0, hi⟩, hsn5⟩ := h
  refine ⟨Inv6, ⟨n0, hi⟩, fun n5 y7 y8 hI => ?_⟩
  have h := hsn5 n5 y7 y8 hI; clear hI
  refine ⟨hR.1, fun v9 hv => ?_⟩; replace h := h v9 (hv.trans (hR.2.1 501 (by decide))); clear hv
  refine ⟨fun hc => ?_, fun hc => ?_⟩
  · replace h := h.1 hc; clear hc
    obtain ⟨Inv11, ⟨n0, hi⟩, hsn10⟩ := h
    refine ⟨Inv11, ⟨n0, hi⟩, fun n10 y12 y13 hI => ?_⟩
    have h := hsn10 n10 y12 y13 hI; clear hI
    refine ⟨hR.1, fun v14 hv => ?_⟩; replace h := h v14 (hv.trans (hR.2.1 513 (by decide))); clear hv
    refine ⟨fun hc => ?_, fun hc => ?_⟩
    · replace h := h.1 hc; clear hc
      exact hQ _ _ _ h hF hR
    · replace h := h.2 hc; clear hc
      refine ⟨hR.1, fun z hz => ?_⟩; replace hz := hz.trans (hR.2.2.1 516 (by decide)).1; subst hz
      obtain ⟨j15, hi, hj, h⟩ := h
      refine ⟨ma 516, rfl, (hR.2.2.1 516 (by decide)).2.1, j15, hi, by rw [(hR.2.2.1 516 (by decide)).2.2.1]; exact hj, by rw [(hR.2.2.1 516 (by decide)).2.2.1]; decide, fun v16 hv => ?_⟩; replace h := h v16 (hv.trans ((hR.2.2.1 516 (by decide)).2.2.2 j15)); clear hv hi hj
      intro v17 hv; replace h := h v17 hv; clear hv
      intro v18 hv; replace h := h v18 hv; clear hv
      obtain ⟨n, hn, h⟩ := h
      exact ⟨n, hn, h⟩
  · replace h := h.2 hc; clear hc
    refine ⟨hR.1, fun z hz => ?_⟩; replace hz := hz.trans (hR.2.2.1 504 (by decide)).1; subst hz
    obtain ⟨j19, hi, hj, h⟩ := h
    refine ⟨ma 504, rfl, (hR.2.2.1 504 (by decide)).2.1, j19, hi, by rw [(hR.2.2.1 504 (by decide)).2.2.1]; exact hj, by rw [(hR.2.2.1 504 (by decide)).2.2.1]; decide, fun v20 hv => ?_⟩; replace h := h v20 (hv.trans ((hR.2.2.1 504 (by decide)).2.2.2 j19)); clear hv hi hj
    intro v21 hv; replace h := h v21 hv; clear hv
    intro v22 hv; replace h := h v22 hv; clear hv
    obtain ⟨n, hn, h⟩ := h
    exact ⟨n, hn, h⟩
