-- ===== the start of both sides
def S00 : MS := (fun _ => 0, fun _ _ => 0)
/-- the reference's rows, as far as they are made -/
def RI (w0 w : Wd) (mo : Nat) (d : List Nat) (ma : Nat → Nat) : Prop := w.K mo = 5 ∧ (∀ f, w.I f mo = 0) ∧ FrZ w0 w ∧ (∀ f, f ∈ d → w.R f mo = some (ma f) ∧ w.K (ma f) = mk f ∧ w.N (ma f) = ml f ∧ ∀ j, w.A (ma f) j = 0) ∧ (∀ f g, f ∈ d → g ∈ d → ma f = ma g → f = g) ∧ (∀ b, w.K b = 6 → w0.K b = 6) ∧ w0.K mo = 0
theorem RI.step {w0 w w2 w3 : Wd} {mo f k n q : Nat} {d : List Nat} {ma : Nat → Nat} (h : RI w0 w mo d ma) (hf : f ∉ d) (hq : w.K q = 0) (hk : k = mk f) (hn : n = ml f) (h2 : w2 = w.newA k q n) (h3 : w3 = w2.setR f mo (some q)) : w2.K mo = 5 ∧ RI w0 w3 mo (d ++ [f]) (fun g => if g = f then q else ma g) := by
  obtain ⟨r1, r2, r3, r4, r5, r6, r7⟩ := h
  have k5 : k ≠ 6 := by rw [hk]; rcases @mk_ne f with e | e <;> rw [e] <;> decide
  have hmq : mo ≠ q := fun e => by rw [← e, r1] at hq; cases hq
  have hK : ∀ b, b ≠ q → w3.K b = w.K b := fun b hb => by rw [h3, h2]; exact vu_ne hb
  have hKq : w3.K q = k := by rw [h3, h2]; exact vu_eq
  have hN : ∀ b, b ≠ q → w3.N b = w.N b := fun b hb => by rw [h3, h2]; exact vu_ne hb
  have hNq : w3.N q = n := by rw [h3, h2]; exact vu_eq
  have hA : ∀ b j, b ≠ q → w3.A b j = w.A b j := fun b j hb => by rw [h3, h2]; exact if_neg hb
  have hAq : ∀ j, w3.A q j = 0 := fun j => by rw [h3, h2]; exact if_pos rfl
  have hne : ∀ g, g ∈ d → ma g ≠ q := fun g hg => k0_ne hq (by rw [(r4 g hg).2.1]; rcases @mk_ne g with e | e <;> rw [e] <;> decide)
  refine ⟨by rw [h2]; exact (vu_ne hmq).trans r1, by rw [hK mo hmq]; exact r1, fun g => by rw [h3, h2]; exact r2 g, by rw [h3, h2]; exact (r3.nA hq).sR r7, fun g hg => ?_, fun g g' hg hg' e => ?_, fun b hb => ?_, r7⟩
  · rcases List.mem_append.mp hg with hg | hg
    · have hgf : g ≠ f := fun e => hf (by rw [← e]; exact hg)
      dsimp only
      rw [if_neg hgf]
      obtain ⟨a1, a2, a3, a4⟩ := r4 g hg
      have hn1 := hne g hg
      exact ⟨by rw [h3, R_f hgf, h2]; exact a1, by rw [hK _ hn1]; exact a2, by rw [hN _ hn1]; exact a3, fun j => by rw [hA _ _ hn1]; exact a4 j⟩
    · have hgf : g = f := by simpa using hg
      dsimp only
      rw [if_pos hgf, hgf]
      exact ⟨by rw [h3, R_e], by rw [hKq]; exact hk, by rw [hNq]; exact hn, hAq⟩
  · rcases List.mem_append.mp hg with hg | hg <;> rcases List.mem_append.mp hg' with hg' | hg'
    · have a1 : g ≠ f := fun z => hf (by rw [← z]; exact hg)
      have a2 : g' ≠ f := fun z => hf (by rw [← z]; exact hg')
      dsimp only at e
      rw [if_neg a1, if_neg a2] at e
      exact r5 g g' hg hg' e
    · have a1 : g ≠ f := fun z => hf (by rw [← z]; exact hg)
      have a2 : g' = f := by simpa using hg'
      dsimp only at e
      rw [if_neg a1, if_pos a2] at e
      exact absurd e (hne g hg)
    · have a1 : g = f := by simpa using hg
      have a2 : g' ≠ f := fun z => hf (by rw [← z]; exact hg')
      dsimp only at e
      rw [if_pos a1, if_neg a2] at e
      exact absurd e.symm (hne g' hg')
    · have a1 : g = f := by simpa using hg
      have a2 : g' = f := by simpa using hg'
      rw [a1, a2]
  · by_cases eb : b = q
    · rw [eb, hKq] at hb; exact absurd hb k5
    · rw [hK b eb] at hb; exact r6 b hb
theorem i_X4 {w : Wd} {mo : Nat} {Q : Wd → Prop} (hm : w.K mo = 0) (hQ : ∀ w1 ma, RI w w1 mo (msA.map (fun q => q.1)) ma → Q w1) : wp_X4_init mo (w.new 5 mo) Q := by
  have r0 : RI w (w.new 5 mo) mo [] (fun _ => 0) := by
    refine ⟨vu_eq, fun f => if_pos rfl, FrZ.rf.nw hm, fun f hf => absurd hf List.not_mem_nil, fun f g hf => absurd hf List.not_mem_nil, fun b hb => ?_, hm⟩
    by_cases e : b = mo
    · rw [e] at hb; exact absurd ((vu_eq : (w.new 5 mo).K mo = 5).symm.trans hb) (by decide)
    · rw [← hb]; exact (vu_ne e).symm
  intro q0 hq0 a0 ha0
  refine ⟨(r0.step (f := 502) (by decide) hq0 rfl rfl ha0 rfl).1, fun b0 hb0 => ?_⟩
  have r1 := (r0.step (f := 502) (by decide) hq0 rfl rfl ha0 hb0).2
  intro q1 hq1 a1 ha1
  refine ⟨(r1.step (f := 503) (by decide) hq1 rfl rfl ha1 rfl).1, fun b1 hb1 => ?_⟩
  have r2 := (r1.step (f := 503) (by decide) hq1 rfl rfl ha1 hb1).2
  intro q2 hq2 a2 ha2
  refine ⟨(r2.step (f := 504) (by decide) hq2 rfl rfl ha2 rfl).1, fun b2 hb2 => ?_⟩
  have r3 := (r2.step (f := 504) (by decide) hq2 rfl rfl ha2 hb2).2
  intro q3 hq3 a3 ha3
  refine ⟨(r3.step (f := 505) (by decide) hq3 rfl rfl ha3 rfl).1, fun b3 hb3 => ?_⟩
  have r4 := (r3.step (f := 505) (by decide) hq3 rfl rfl ha3 hb3).2
  intro q4 hq4 a4 ha4
  refine ⟨(r4.step (f := 506) (by decide) hq4 rfl rfl ha4 rfl).1, fun b4 hb4 => ?_⟩
  have r5 := (r4.step (f := 506) (by decide) hq4 rfl rfl ha4 hb4).2
  intro q5 hq5 a5 ha5
  refine ⟨(r5.step (f := 507) (by decide) hq5 rfl rfl ha5 rfl).1, fun b5 hb5 => ?_⟩
  have r6 := (r5.step (f := 507) (by decide) hq5 rfl rfl ha5 hb5).2
  intro q6 hq6 a6 ha6
  refine ⟨(r6.step (f := 508) (by decide) hq6 rfl rfl ha6 rfl).1, fun b6 hb6 => ?_⟩
  have r7 := (r6.step (f := 508) (by decide) hq6 rfl rfl ha6 hb6).2
  intro q7 hq7 a7 ha7
  refine ⟨(r7.step (f := 509) (by decide) hq7 rfl rfl ha7 rfl).1, fun b7 hb7 => ?_⟩
  have r8 := (r7.step (f := 509) (by decide) hq7 rfl rfl ha7 hb7).2
  intro q8 hq8 a8 ha8
  refine ⟨(r8.step (f := 510) (by decide) hq8 rfl rfl ha8 rfl).1, fun b8 hb8 => ?_⟩
  have r9 := (r8.step (f := 510) (by decide) hq8 rfl rfl ha8 hb8).2
  intro q9 hq9 a9 ha9
  refine ⟨(r9.step (f := 511) (by decide) hq9 rfl rfl ha9 rfl).1, fun b9 hb9 => ?_⟩
  have r10 := (r9.step (f := 511) (by decide) hq9 rfl rfl ha9 hb9).2
  intro q10 hq10 a10 ha10
  refine ⟨(r10.step (f := 512) (by decide) hq10 rfl rfl ha10 rfl).1, fun b10 hb10 => ?_⟩
  have r11 := (r10.step (f := 512) (by decide) hq10 rfl rfl ha10 hb10).2
  intro q11 hq11 a11 ha11
  refine ⟨(r11.step (f := 514) (by decide) hq11 rfl rfl ha11 rfl).1, fun b11 hb11 => ?_⟩
  have r12 := (r11.step (f := 514) (by decide) hq11 rfl rfl ha11 hb11).2
  intro q12 hq12 a12 ha12
  refine ⟨(r12.step (f := 515) (by decide) hq12 rfl rfl ha12 rfl).1, fun b12 hb12 => ?_⟩
  have r13 := (r12.step (f := 515) (by decide) hq12 rfl rfl ha12 hb12).2
  intro q13 hq13 a13 ha13
  refine ⟨(r13.step (f := 516) (by decide) hq13 rfl rfl ha13 rfl).1, fun b13 hb13 => ?_⟩
  have r14 := (r13.step (f := 516) (by decide) hq13 rfl rfl ha13 hb13).2
  intro q14 hq14 a14 ha14
  refine ⟨(r14.step (f := 517) (by decide) hq14 rfl rfl ha14 rfl).1, fun b14 hb14 => ?_⟩
  have r15 := (r14.step (f := 517) (by decide) hq14 rfl rfl ha14 hb14).2
  intro q15 hq15 a15 ha15
  refine ⟨(r15.step (f := 518) (by decide) hq15 rfl rfl ha15 rfl).1, fun b15 hb15 => ?_⟩
  have r16 := (r15.step (f := 518) (by decide) hq15 rfl rfl ha15 hb15).2
  intro q16 hq16 a16 ha16
  refine ⟨(r16.step (f := 519) (by decide) hq16 rfl rfl ha16 rfl).1, fun b16 hb16 => ?_⟩
  have r17 := (r16.step (f := 519) (by decide) hq16 rfl rfl ha16 hb16).2
  intro q17 hq17 a17 ha17
  refine ⟨(r17.step (f := 520) (by decide) hq17 rfl rfl ha17 rfl).1, fun b17 hb17 => ?_⟩
  have r18 := (r17.step (f := 520) (by decide) hq17 rfl rfl ha17 hb17).2
  intro q18 hq18 a18 ha18
  refine ⟨(r18.step (f := 521) (by decide) hq18 rfl rfl ha18 rfl).1, fun b18 hb18 => ?_⟩
  have r19 := (r18.step (f := 521) (by decide) hq18 rfl rfl ha18 hb18).2
  intro q19 hq19 a19 ha19
  refine ⟨(r19.step (f := 522) (by decide) hq19 rfl rfl ha19 rfl).1, fun b19 hb19 => ?_⟩
  have r20 := (r19.step (f := 522) (by decide) hq19 rfl rfl ha19 hb19).2
  intro q20 hq20 a20 ha20
  refine ⟨(r20.step (f := 523) (by decide) hq20 rfl rfl ha20 rfl).1, fun b20 hb20 => ?_⟩
  have r21 := (r20.step (f := 523) (by decide) hq20 rfl rfl ha20 hb20).2
  intro q21 hq21 a21 ha21
  refine ⟨(r21.step (f := 524) (by decide) hq21 rfl rfl ha21 rfl).1, fun b21 hb21 => ?_⟩
  have r22 := (r21.step (f := 524) (by decide) hq21 rfl rfl ha21 hb21).2
  intro q22 hq22 a22 ha22
  refine ⟨(r22.step (f := 525) (by decide) hq22 rfl rfl ha22 rfl).1, fun b22 hb22 => ?_⟩
  have r23 := (r22.step (f := 525) (by decide) hq22 rfl rfl ha22 hb22).2
  intro q23 hq23 a23 ha23
  refine ⟨(r23.step (f := 526) (by decide) hq23 rfl rfl ha23 rfl).1, fun b23 hb23 => ?_⟩
  have r24 := (r23.step (f := 526) (by decide) hq23 rfl rfl ha23 hb23).2
  intro q24 hq24 a24 ha24
  refine ⟨(r24.step (f := 527) (by decide) hq24 rfl rfl ha24 rfl).1, fun b24 hb24 => ?_⟩
  have r25 := (r24.step (f := 527) (by decide) hq24 rfl rfl ha24 hb24).2
  intro q25 hq25 a25 ha25
  refine ⟨(r25.step (f := 530) (by decide) hq25 rfl rfl ha25 rfl).1, fun b25 hb25 => ?_⟩
  have r26 := (r25.step (f := 530) (by decide) hq25 rfl rfl ha25 hb25).2
  exact hQ _ _ r26
theorem RI.rep {w0 w : Wd} {mo : Nat} {ma : Nat → Nat} (h : RI w0 w mo (msA.map (fun q => q.1)) ma) : RepM w mo ma S00 :=
  ⟨h.1, fun f _ => h.2.1 f, h.2.2.2.1, h.2.2.2.2.1⟩
theorem i_X3 {w : Wd} {x : Nat} {Q : Wd → Prop} (hA : ALs w) (hx : w.K x = 0) (hQ : ∀ w1 a b, w1.K x = 4 → w1.R 400 x = some a → w1.R 401 x = some b → (∀ f, w1.I f x = 0) → ALs w1 → Ls w1 a [] → Ls w1 b [] → a ≠ b → FrZ w w1 → Q w1) : wp_X3_init x (w.new 4 x) Q := by
  intro a ha w2 h2
  have k0 : (w.new 4 x).K x = 4 := vu_eq
  have F0 : FrZ w (w.new 4 x) := FrZ.rf.nw hx
  have A0 : ALs (w.new 4 x) := als_Z hA F0 (fun b hb => by
    by_cases eb : b = x
    · rw [eb, k0] at hb; cases hb
    · rw [← hb]; exact (vu_ne eb).symm)
  rw [h2]
  refine s_init A0 ha (fun w3 F3 K3 A3 L3 => ?_)
  have nxa : x ≠ a := fun e => by rw [← e, k0] at ha; cases ha
  have k3 : w3.K x = 4 := by rw [(F3.2 x nxa).1]; exact k0
  refine ⟨k3, fun w4 h4 b hb w6 h6 => ?_⟩
  have k4 : w4.K x = 4 := by rw [h4]; exact k3
  have A4 : ALs w4 := by rw [h4]; exact A3.setR (by decide)
  have L4 : Ls w4 a [] := by rw [h4]; exact L3.setR (by decide)
  rw [h6]
  refine s_init A4 hb (fun w7 F7 K7 A7 L7 => ?_)
  have nxb : x ≠ b := fun e => by rw [← e, k4] at hb; cases hb
  have nab : a ≠ b := fun e => by rw [← e, L4.1] at hb; cases hb
  have k7 : w7.K x = 4 := by rw [(F7.2 x nxb).1]; exact k4
  refine ⟨k7, fun w8 h8 => hQ w8 a b ?_ ?_ ?_ (fun f => ?_) ?_ ?_ ?_ nab ?_⟩
  · rw [h8]; exact k7
  · rw [h8, R_f (by decide), ((F7.2 x nxb).2.2.2.2.2 400).2, h4, R_e]
  · rw [h8, R_e]
  · rw [h8]
    refine (((F7.2 x nxb).2.2.2.2.2 f).1).trans ?_
    rw [h4]
    exact (((F3.2 x nxa).2.2.2.2.2 f).1).trans (if_pos rfl)
  · rw [h8]; exact A7.setR (by decide)
  · rw [h8]; exact (L4.frZ A4 F7.toZ).setR (by decide)
  · rw [h8]; exact L7.setR (by decide)
  · have F4 : FrZ w w4 := by rw [h4]; exact (F0.trans F3.toZ).sR hx
    rw [h8]; exact (F4.trans F7.toZ).sR hx
def G00 (x a b mo : Nat) (ma : Nat → Nat) (o : Nat) : GH := (x, fun n => if n = 0 then a else b, fun _ => 0, fun _ => 0, fun _ => 0, fun _ => 0, fun _ => [], fun _ => 0, mo, ma, o)
theorem n00 : nP S00 = 0 ∧ nC S00 = 0 := ⟨(by decide : (0 : Int32).toNatClampNeg = 0), (by decide : (0 : Int32).toNatClampNeg = 0)⟩
theorem i_RC {w : Wd} {x a b mo o : Nat} {ma : Nat → Nat} (hR : RepM w mo ma S00) (hA : ALs w) (k : w.K x = 4) (r0 : w.R 400 x = some a) (r1 : w.R 401 x = some b) (i0 : ∀ f, w.I f x = 0) (la : Ls w a []) (lb : Ls w b []) (nab : a ≠ b) (ko : w.K o = 14) (no : w.N o = 1) : RC w (G00 x a b mo ma o) S00 S00 := by
  have p0 : ∀ i, ¬ i < nP S00 := fun i h => by rw [n00.1] at h; exact absurd h (Nat.not_lt_zero _)
  have c0 : ∀ i, ¬ i < nC S00 := fun i h => by rw [n00.2] at h; exact absurd h (Nat.not_lt_zero _)
  have i3 : ∀ k j, 1 ≤ k → k ≤ 3 → ¬ inr k j S00 := fun k j h1 h2 h => by
    rcases k123 h1 h2 with e | e | e <;> subst e
    · exact c0 j h
    · exact p0 j h
    · obtain ⟨c, i, -, hc, -⟩ := h
      exact c0 c hc
  refine ⟨hR, hA, ⟨k, r0, r1, ?_, ?_, fun k j h1 h2 hj => absurd hj (i3 k j h1 h2), fun i hi => absurd hi (p0 i), fun c hc => absurd hc (c0 c), fun j hj => absurd hj (i3 3 j (by decide) (by decide))⟩, ⟨fun k j j' h1 h2 hj => absurd hj (i3 k j h1 h2), fun i j hi => absurd hi (p0 i), fun i f hi => absurd hi (p0 i), fun m m' hm hm' e => ?_⟩, ⟨fun f r k j he hj => ?_, i0 402, i0 403, fun i b hi => absurd hi (p0 i)⟩, fun i hi => absurd hi (p0 i), ⟨fun c hc => absurd hc (c0 c), ko, no⟩⟩
  · rw [n00.1]; exact la
  · rw [n00.2]; exact lb
  · rw [n00.2] at hm hm'
    have e : (if m = 0 then a else b) = (if m' = 0 then a else b) := e
    rcases (by omega : m = 0 ∨ m = 1) with z | z <;> rcases (by omega : m' = 0 ∨ m' = 1) with z' | z' <;> subst z z'
    · rfl
    · exact absurd e nab
    · exact absurd e.symm nab
    · rfl
  · have eo := (et_o _ he).2.2.2.2.2.2.2.2.2.2
    exact absurd hj (i3 k j eo.1 eo.2)
theorem i_JV : JV 0 S00 := by
  have p0 : ∀ i, ¬ i < nP S00 := fun i h => by rw [n00.1] at h; exact absurd h (Nat.not_lt_zero _)
  have c0 : ∀ i, ¬ i < nC S00 := fun i h => by rw [n00.2] at h; exact absurd h (Nat.not_lt_zero _)
  have z : (0 : Int32).toInt = 0 := Int32.toInt_zero
  have za : ∀ r x, S00.a r x = 0 := fun _ _ => rfl
  have zs : ∀ f, S00.s f = 0 := fun _ => rfl
  have hs : ∀ k, sumf (fun _ => (0 : Int32)) k = 0 := fun k => by
    induction k with
    | zero => rfl
    | succ k ih => rw [sumf, ih, z]; rfl
  refine ⟨⟨⟨by rw [n00.1]; rfl, by rw [n00.1]; decide, by rw [n00.2]; rfl, by rw [n00.2]; decide, fun c hc => absurd hc (c0 c)⟩, fun c hc => absurd hc (c0 c), fun c hc => absurd hc (c0 c), fun x => Or.inl rfl, fun c hc => absurd hc (c0 c), fun c hc => absurd hc (c0 c), fun i hi => absurd hi (p0 i), fun i _ _ => ⟨rfl, rfl, rfl, rfl, rfl, rfl, fun _ _ => rfl⟩, fun c _ => ⟨rfl, rfl, rfl, rfl, rfl⟩, fun i _ => ⟨by rw [za, z]; exact Int.le_refl _, fun h => by rw [za, z] at h; exact absurd h (by decide), fun _ => rfl⟩, fun i _ => by rw [za, z]; decide, fun c hc => absurd hc (c0 c), 0, 0, Nat.le_refl _, ⟨fun i _ => by rw [za, z]; exact Int.le_refl _, fun c _ => by rw [za, z]; exact Int.le_refl _, by rw [zs, z]; exact Int.le_refl _, ?_, by rw [zs, z]; decide⟩, fun x => by rw [za, z]; decide⟩, fun x => by rw [za, z]; exact Int.le_refl _⟩
  show sumf (fun _ => (0 : Int32)) 16 + sumf (fun _ => (0 : Int32)) 4 + (0 : Int32).toInt = (0 : Int32).toInt + 0
  rw [hs, hs, z]; rfl
