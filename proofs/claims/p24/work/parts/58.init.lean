-- ===== the start
def S00 : MS := (fun _ => 0, fun _ _ => 0)
theorem i_X3 {w : Wd} {x : Nat} {Q : Wd → Prop} (hA : ALs w) (hx : w.K x = 0) (hQ : ∀ w1 a b, w1.K x = 4 → w1.R 400 x = some a → w1.R 401 x = some b → (∀ f, w1.I f x = 0) → ALs w1 → Ls w1 a [] → Ls w1 b [] → a ≠ b → FrZ w w1 → Q w1) : wp_X3_init x (w.new 4 x) Q := by
  intro a ha w2 h2
  have k0 : (w.new 4 x).K x = 4 := vu_eq
  have F0 : FrZ w (w.new 4 x) := FrZ.rf.nw hx
  have A0 : ALs (w.new 4 x) := als_Z hA F0 (fun b hb => by
    by_cases eb : b = x
    · rw [eb, k0] at hb; cases hb
    · rw [← hb]; exact (vu_ne eb).symm)
  rw [h2]
  refine s_init A0 ha (fun w3 F3 K3 A3 L3 => ?_)
  have nxa : x ≠ a := fun e => by rw [← e, k0] at ha; cases ha
  have k3 : w3.K x = 4 := by rw [(F3.2 x nxa).1]; exact k0
  refine ⟨k3, fun w4 h4 b hb w6 h6 => ?_⟩
  have k4 : w4.K x = 4 := by rw [h4]; exact k3
  have A4 : ALs w4 := by rw [h4]; exact A3.setR (by decide)
  have L4 : Ls w4 a [] := by rw [h4]; exact L3.setR (by decide)
  rw [h6]
  refine s_init A4 hb (fun w7 F7 K7 A7 L7 => ?_)
  have nxb : x ≠ b := fun e => by rw [← e, k4] at hb; cases hb
  have nab : a ≠ b := fun e => by rw [← e, L4.1] at hb; cases hb
  have k7 : w7.K x = 4 := by rw [(F7.2 x nxb).1]; exact k4
  refine ⟨k7, fun w8 h8 => hQ w8 a b ?_ ?_ ?_ (fun f => ?_) ?_ ?_ ?_ nab ?_⟩
  · rw [h8]; exact k7
  · rw [h8, R_f (by decide), ((F7.2 x nxb).2.2.2.2.2 400).2, h4, R_e]
  · rw [h8, R_e]
  · rw [h8]
    refine (((F7.2 x nxb).2.2.2.2.2 f).1).trans ?_
    rw [h4]
    exact (((F3.2 x nxa).2.2.2.2.2 f).1).trans (if_pos rfl)
  · rw [h8]; exact A7.setR (by decide)
  · rw [h8]; exact (L4.frZ A4 F7.toZ).setR (by decide)
  · rw [h8]; exact L7.setR (by decide)
  · have F4 : FrZ w w4 := by rw [h4]; exact (F0.trans F3.toZ).sR hx
    rw [h8]; exact (F4.trans F7.toZ).sR hx
def G00 (x a b mo o : Nat) : GH := (x, fun n => if n = 0 then a else b, fun _ => 0, fun _ => 0, fun _ => 0, fun _ => 0, fun _ => [], fun _ => 0, mo, fun _ => 0, o)
theorem n00 : nP S00 = 0 ∧ nC S00 = 0 := ⟨(by decide : (0 : Int32).toNatClampNeg = 0), (by decide : (0 : Int32).toNatClampNeg = 0)⟩
theorem i_RC {w : Wd} {x a b mo o : Nat} (hR : RepM w mo o S00) (hA : ALs w) (k : w.K x = 4) (r0 : w.R 400 x = some a) (r1 : w.R 401 x = some b) (i0 : ∀ f, w.I f x = 0) (la : Ls w a []) (lb : Ls w b []) (nab : a ≠ b) : RC w (G00 x a b mo o) S00 S00 := by
  have p0 : ∀ i, ¬ i < nP S00 := fun i h => by rw [n00.1] at h; exact absurd h (Nat.not_lt_zero _)
  have c0 : ∀ i, ¬ i < nC S00 := fun i h => by rw [n00.2] at h; exact absurd h (Nat.not_lt_zero _)
  have i3 : ∀ k j, 1 ≤ k → k ≤ 3 → ¬ inr k j S00 := fun k j h1 h2 h => by
    rcases k123 h1 h2 with e | e | e <;> subst e
    · exact c0 j h
    · exact p0 j h
    · obtain ⟨c, i, -, hc, -⟩ := h
      exact c0 c hc
  refine ⟨hR, hA, ⟨k, r0, r1, ?_, ?_, fun k j h1 h2 hj => absurd hj (i3 k j h1 h2), fun i hi => absurd hi (p0 i), fun c hc => absurd hc (c0 c), fun j hj => absurd hj (i3 3 j (by decide) (by decide))⟩, ⟨fun k j j' h1 h2 hj => absurd hj (i3 k j h1 h2), fun i j hi => absurd hi (p0 i), fun i hi => absurd hi (p0 i), fun m m' hm hm' e => ?_⟩, ⟨fun f r k j he hj => ?_, i0 402, i0 403, fun i b hi => absurd hi (p0 i)⟩, fun i hi => absurd hi (p0 i), ⟨fun c hc => absurd hc (c0 c), trivial, trivial⟩⟩
  · rw [n00.1]; exact la
  · rw [n00.2]; exact lb
  · rw [n00.2] at hm hm'
    have e : (if m = 0 then a else b) = (if m' = 0 then a else b) := e
    rcases (by omega : m = 0 ∨ m = 1) with z | z <;> rcases (by omega : m' = 0 ∨ m' = 1) with z' | z' <;> subst z z'
    · rfl
    · exact absurd e nab
    · exact absurd e.symm nab
    · rfl
  · have eo := (et_o _ he).2.2.2.2.2.2.2.2.2.2
    exact absurd hj (i3 k j eo.1 eo.2)
theorem i_JV : JV 0 S00 := by
  have p0 : ∀ i, ¬ i < nP S00 := fun i h => by rw [n00.1] at h; exact absurd h (Nat.not_lt_zero _)
  have c0 : ∀ i, ¬ i < nC S00 := fun i h => by rw [n00.2] at h; exact absurd h (Nat.not_lt_zero _)
  have z : (0 : Int32).toInt = 0 := Int32.toInt_zero
  have za : ∀ r x, S00.a r x = 0 := fun _ _ => rfl
  have zs : ∀ f, S00.s f = 0 := fun _ => rfl
  have hs : ∀ k, sumf (fun _ => (0 : Int32)) k = 0 := fun k => by
    induction k with
    | zero => rfl
    | succ k ih => rw [sumf, ih, z]; rfl
  refine ⟨⟨⟨by rw [n00.1]; rfl, by rw [n00.1]; decide, by rw [n00.2]; rfl, by rw [n00.2]; decide, fun c hc => absurd hc (c0 c)⟩, fun c hc => absurd hc (c0 c), fun c hc => absurd hc (c0 c), fun x => Or.inl rfl, fun c hc => absurd hc (c0 c), fun c hc => absurd hc (c0 c), fun i hi => absurd hi (p0 i), fun i _ _ => ⟨rfl, rfl, rfl, rfl, rfl, rfl, fun _ _ => rfl⟩, fun c _ => ⟨rfl, rfl, rfl, rfl, rfl⟩, fun i _ => ⟨by rw [za, z]; exact Int.le_refl _, fun h => by rw [za, z] at h; exact absurd h (by decide), fun _ => rfl⟩, fun i _ => by rw [za, z]; decide, fun c hc => absurd hc (c0 c), 0, 0, Nat.le_refl _, ⟨fun i _ => by rw [za, z]; exact Int.le_refl _, fun c _ => by rw [za, z]; exact Int.le_refl _, by rw [zs, z]; exact Int.le_refl _, ?_, by rw [zs, z]; decide⟩, fun x => by rw [za, z]; decide⟩, fun x => by rw [za, z]; exact Int.le_refl _⟩
  show sumf (fun _ => (0 : Int32)) 16 + sumf (fun _ => (0 : Int32)) 4 + (0 : Int32).toInt = (0 : Int32).toInt + 0
  rw [hs, hs, z]; rfl

theorem nmd_0 (j : Nat) : nmd 0 j = 0 := by
  unfold nmd
  rw [Nat.zero_div]; rfl
/-- the object, then the law's row of names -/
theorem i_beg {w : Wd} {x : Nat} {Q : Wd → Prop} (hA : ALs w) (hx : w.K x = 0) (hQ2 : ∀ w3, (∀ q, w3.K q = 0 → ∃ G : GH, G.x = x ∧ G.mo = q ∧ G.o = 0 ∧ RC (w3.newA 11 q 7) G S00 S00) → Q w3) : wp_X3_init x (w.new 4 x) Q := by
  refine i_X3 hA hx (fun w3 a b k r0 r1 i0 A3 la lb nab F => hQ2 w3 (fun q hq => ⟨G00 x a b q 0, rfl, rfl, rfl, ?_⟩))
  have F5 : FrZ w3 (w3.newA 11 q 7) := FrZ.rf.nA hq
  have kq : (w3.newA 11 q 7).K q = 11 := vu_eq
  have A5 : ALs (w3.newA 11 q 7) := als_Z A3 F5 (fun b hb => by
    by_cases eb : b = q
    · rw [eb, kq] at hb; cases hb
    · rw [← hb]; exact (vu_ne eb).symm)
  have fx := F5 x (by rw [k]; decide)
  refine i_RC ⟨kq, vu_eq, fun j _ => ?_⟩ A5 (by rw [fx.1]; exact k) (by rw [(fx.2.2.2.2.2 400).2]; exact r0) (by rw [(fx.2.2.2.2.2 401).2]; exact r1) (fun f => by rw [(fx.2.2.2.2.2 f).1]; exact i0 f) (la.frZ A3 F5) (lb.frZ A3 F5) nab
  rw [nmd_0]
  exact if_pos rfl
