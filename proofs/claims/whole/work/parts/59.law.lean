-- ===== the law's loop
theorem IV.wk {n : Nat} {S : MS} (h : IV n S) : IV (n + 1) S := h.step LG.rf Sm.rf h.2.2.2.2.2.2.2.2.2.1 h.2.2.2.2.2.2.2.2.2.2.1 (fun a _ m => ⟨a, Nat.le_refl _, Nat.le_succ _, m⟩)
theorem JV.wk {n : Nat} {S : MS} (h : JV n S) : JV (n + 1) S := ⟨h.1.wk, h.2⟩
/-- behind i calls -/
def JJ (q1 q4 q7 i : Nat) (w : Wd) : Prop := ∃ G S, RC w G S S ∧ G.x = q1 ∧ G.mo = q4 ∧ G.o = q7 ∧ JV i S
theorem l_tail {w1 w' : Wd} {G : GH} {S S' : MS} {q1 q4 q7 n : Nat} {k r r' : Int32} (q : RC w1 G S' S) (hx : G.x = q1) (hmo : G.mo = q4) (ho : G.o = q7) (hk : S'.s 500 = k) (hv : JV n S') (hj : k = 0 → w1.J q7 0 = r.toInt64) (hr : k = 0 → r' = r) (hF : FrM G.mo G.ma w1 w') (hR : RepM w' G.mo G.ma S') : w'.K q4 = 5 ∧ wp_X4_thrown q4 w' (fun v38 w37 => (v38 = k → ∃ J39 : Prop, (J39 → JJ q1 q4 q7 n w37) ∧ (¬ k = 0 → J39) ∧ (k = 0 → w37.K q7 = 14 ∧ ∃ j40 : Nat, (0 : Int32) = nI j40 ∧ j40 < w37.N q7 ∧ w37.N q7 < 2 ^ 31 ∧ ∀ u41 : Int64, u41 = w37.J q7 j40 → ((lg_cmp u41 r'.toInt64) = 0 → J39) ∧ (¬ (lg_cmp u41 r'.toInt64) = 0 → False))) ∧ (¬ v38 = k → False)) := by
  subst hx hmo ho
  have qf : RC w' G S' S' := q.frM hF hR
  refine ⟨hR.1, r_X4_thrown hR (Q1 := fun v S1 => v = k ∧ S1 = S') (fun v h1 => ⟨h1.trans hk, rfl⟩) (fun v S1 w37 h1 hF1 hR1 => ?_)⟩
  obtain ⟨h1, rfl⟩ := h1
  have q37 : RC w37 G S1 S1 := qf.frM hF1 hR1
  obtain ⟨o1, o2⟩ := q37.2.2.2.2.2.2.2
  refine ⟨fun _ => ⟨True, fun _ => ⟨G, S1, q37, rfl, rfl, rfl, hv⟩, fun _ => trivial, fun k0 => ⟨o1, 0, rfl, by rw [o2]; decide, by rw [o2]; decide, fun u hu => ⟨fun _ => trivial, fun hne => hne ((lg_cmp_eq _ _).mpr ?_)⟩⟩⟩, fun h => h h1⟩
  rw [hu, hF1.2.2.2.2.1, hF.2.2.2.2.1, hj k0, hr k0]
theorem l_tailD {w1 w' : Wd} {G : GH} {S S' : MS} {q1 q4 q7 n : Nat} {r r' : Int32} (q : RC w1 G S' S) (hx : G.x = q1) (hmo : G.mo = q4) (ho : G.o = q7) (hv : JV n S') (hr : r' = r) (hF : FrM G.mo G.ma w1 w') (hR : RepM w' G.mo G.ma S') : (r = r' → JJ q1 q4 q7 n w') ∧ (¬ r = r' → False) :=
  ⟨fun _ => ⟨G, S', q.frM hF hR, hx, hmo, ho, hv⟩, fun z => z hr.symm⟩
theorem ixa {i c : Nat} {v : Int32} (h : v = nI (5 * i) + nI c) : v = nI (5 * i + c) := by rw [h, nI_add]
theorem law_more {L i : Nat} (hL : L ≤ 2560) (hi : 5 * i ≤ L) (h : ¬ nI L - 5 < nI (5 * i)) : 5 * i + 5 ≤ L := by
  rw [show (5 : Int32) = nI 5 from rfl] at h
  rcases Nat.lt_or_ge L 5 with e | e
  · exfalso
    have h1 : nI L - nI 5 < 0 := pk_sneg (by decide) e
    exact h (Int32.lt_of_lt_of_le h1 (nI_pos' (by omega)))
  · rw [pk_sub e] at h
    rcases Nat.lt_or_ge (L - 5) (5 * i) with e2 | e2
    · exact absurd (nI_lt e2 (by omega)) h
    · omega
set_option maxHeartbeats 4000000 in
theorem law_ok (e0 L : Nat) (xs : Nat → Int32) (hL : L ≤ 2560) : wp_L_law L xs (w0 e0) := by
  have A0 : ALs (w0 e0) := fun a ha => by
    have h : (if a = e0 then 15 else 0) = 6 := ha
    by_cases e : a = e0
    · rw [if_pos e] at h; cases h
    · rw [if_neg e] at h; cases h
  intro q1 hq1 w2 h2
  rw [h2]
  refine i_X3 A0 hq1 (fun w3 a b k3 ra rb i3 A3 la lb nab F3 => ?_)
  intro q4 hq4 w5 h5
  rw [h5]
  refine i_X4 hq4 (fun w6 ma r6 => ?_)
  intro q7 hq7 w8 h8
  have F8 : FrZ w3 w8 := by rw [h8]; exact r6.2.2.1.nA hq7
  have hK : ∀ b, b ≠ q7 → w8.K b = w6.K b := fun b hb => by rw [h8]; exact vu_ne hb
  have hKq : w8.K q7 = 14 := by rw [h8]; exact vu_eq
  have hNq : w8.N q7 = 1 := by rw [h8]; exact vu_eq
  have A8 : ALs w8 := als_Z A3 F8 (fun b hb => by
    by_cases e : b = q7
    · rw [e, hKq] at hb; cases hb
    · rw [hK b e] at hb; exact r6.2.2.2.2.2.1 b hb)
  have rep6 := r6.rep
  have nmo : q4 ≠ q7 := fun e => by rw [← e, rep6.1] at hq7; cases hq7
  have rep8 : RepM w8 q4 ma S00 := by
    refine ⟨by rw [hK q4 nmo]; exact rep6.1, fun f hf => by rw [h8]; exact rep6.2.1 f hf, fun f hf => ?_, rep6.2.2.2⟩
    obtain ⟨c1, c2, c3, c4⟩ := rep6.2.2.1 f hf
    have hne : ma f ≠ q7 := k0_ne hq7 (by rw [c2]; rcases @mk_ne f with e | e <;> rw [e] <;> decide)
    refine ⟨by rw [h8]; exact c1, by rw [hK _ hne]; exact c2, by rw [h8]; exact (vu_ne hne).trans c3, fun j => ?_⟩
    rw [h8]; exact (if_neg hne).trans (c4 j)
  have kx : w3.K q1 ≠ 0 := by rw [k3]; decide
  have Fx := F8 q1 kx
  have hRC : RC w8 (G00 q1 a b q4 ma q7) S00 S00 := i_RC rep8 A8 (by rw [Fx.1]; exact k3) (by rw [(Fx.2.2.2.2.2 400).2]; exact ra) (by rw [(Fx.2.2.2.2.2 401).2]; exact rb) (fun f => by rw [(Fx.2.2.2.2.2 f).1]; exact i3 f) (la.frZ A3 F8) (lb.frZ A3 F8) nab hKq hNq
  refine ⟨fun n y w => ∃ i, y = nI (5 * i) ∧ 5 * i ≤ L ∧ n = 513 - i ∧ JJ q1 q4 q7 i w, ⟨513, Nat.le_refl _, 0, rfl, Nat.zero_le _, rfl, _, _, hRC, rfl, rfl, rfl, i_JV⟩, fun n9 y11 w12 hIv v13 h13 v14 h14 => ⟨fun _ => trivial, fun hlt => ?_⟩⟩
  obtain ⟨i, rfl, hi, rfl, G, S, hR, gx, gm, go, hv⟩ := hIv
  rw [h14, h13] at hlt
  have h5i := law_more hL hi hlt
  have hn : i ≤ 512 := by omega
  refine ⟨5 * i, rfl, by omega, fun v16 h16 v17 h17 => ⟨JJ q1 q4 q7 (i + 1), fun w19 hj v20 h20 => ⟨513 - (i + 1), by omega, i + 1, (ixa (c := 5) h20).trans (congrArg nI (by omega)), by omega, rfl, hj⟩, fun _ => ?_, fun _ => ?_, fun _ => ?_, fun _ => ?_, fun _ => ?_, fun _ => ?_, fun _ => ?_, fun _ => ?_, fun _ => ?_, fun _ => ?_, fun _ => ?_, fun _ => ?_, fun _ => ?_, fun _ => ?_, fun _ => ?_, fun _ => ?_, fun _ => ?_, fun _ => ?_, fun _ => ?_, fun _ => ?_, fun _ => ?_, fun _ => ?_⟩⟩
  · obtain ⟨k, r, S', hk, hS, hlw, hmd⟩ := v_person (x1 := xs (5 * i + 1)) (x2 := xs (5 * i + 2)) hR hv
    rw [gx, go, gm] at hlw
    intro va1 ea1
    refine ⟨5 * i + 1, ixa (c := 1) ea1, by omega, fun ua1 fa1 => ?_⟩
    subst fa1
    intro va2 ea2
    refine ⟨5 * i + 2, ixa (c := 2) ea2, by omega, fun ua2 fa2 => ?_⟩
    subst fa2
    refine hlw _ (fun w1 G' gx' go' gm' q hj => ?_)
    intro vb1 eb1
    refine ⟨5 * i + 1, ixa (c := 1) eb1, by omega, fun ub1 fb1 => ?_⟩
    subst fb1
    intro vb2 eb2
    refine ⟨5 * i + 2, ixa (c := 2) eb2, by omega, fun ub2 fb2 => ?_⟩
    subst fb2
    refine ⟨by rw [← gm']; exact q.1.1, ?_⟩
    have hRm : RepM w1 q4 G'.ma S := by rw [← gm']; exact q.1
    refine r_X4_person hRm hmd (fun r' S1 w' h1 hF hR' => ?_)
    obtain ⟨hr, rfl⟩ := h1
    rw [← gm'] at hF hR'
    exact l_tail q gx' gm' go' hk hS hj hr hF hR'
  · obtain ⟨k, r, S', hk, hS, hlw, hmd⟩ := v_earn (x1 := xs (5 * i + 1)) (x2 := xs (5 * i + 2)) hR hv hn
    rw [gx, go, gm] at hlw
    intro va1 ea1
    refine ⟨5 * i + 1, ixa (c := 1) ea1, by omega, fun ua1 fa1 => ?_⟩
    subst fa1
    intro va2 ea2
    refine ⟨5 * i + 2, ixa (c := 2) ea2, by omega, fun ua2 fa2 => ?_⟩
    subst fa2
    refine hlw _ (fun w1 G' gx' go' gm' q hj => ?_)
    intro vb1 eb1
    refine ⟨5 * i + 1, ixa (c := 1) eb1, by omega, fun ub1 fb1 => ?_⟩
    subst fb1
    intro vb2 eb2
    refine ⟨5 * i + 2, ixa (c := 2) eb2, by omega, fun ub2 fb2 => ?_⟩
    subst fb2
    refine ⟨by rw [← gm']; exact q.1.1, ?_⟩
    have hRm : RepM w1 q4 G'.ma S := by rw [← gm']; exact q.1
    refine r_X4_earn hRm hmd (fun r' S1 w' h1 hF hR' => ?_)
    obtain ⟨hr, rfl⟩ := h1
    rw [← gm'] at hF hR'
    exact l_tail q gx' gm' go' hk hS hj hr hF hR'
  · obtain ⟨k, r, S', hk, hS, hlw, hmd⟩ := v_die (x1 := xs (5 * i + 1)) (x2 := xs (5 * i + 2)) hR hv hn
    rw [gx, go, gm] at hlw
    intro va1 ea1
    refine ⟨5 * i + 1, ixa (c := 1) ea1, by omega, fun ua1 fa1 => ?_⟩
    subst fa1
    intro va2 ea2
    refine ⟨5 * i + 2, ixa (c := 2) ea2, by omega, fun ua2 fa2 => ?_⟩
    subst fa2
    refine hlw _ (fun w1 G' gx' go' gm' q hj => ?_)
    intro vb1 eb1
    refine ⟨5 * i + 1, ixa (c := 1) eb1, by omega, fun ub1 fb1 => ?_⟩
    subst fb1
    intro vb2 eb2
    refine ⟨5 * i + 2, ixa (c := 2) eb2, by omega, fun ub2 fb2 => ?_⟩
    subst fb2
    refine ⟨by rw [← gm']; exact q.1.1, ?_⟩
    have hRm : RepM w1 q4 G'.ma S := by rw [← gm']; exact q.1
    refine r_X4_die hRm hmd (fun r' S1 w' h1 hF hR' => ?_)
    obtain ⟨hr, rfl⟩ := h1
    rw [← gm'] at hF hR'
    exact l_tail q gx' gm' go' hk hS hj hr hF hR'
  · obtain ⟨k, r, S', hk, hS, hlw, hmd⟩ := v_circle (x1 := xs (5 * i + 1)) (x2 := xs (5 * i + 2)) hR hv
    rw [gx, go, gm] at hlw
    intro va1 ea1
    refine ⟨5 * i + 1, ixa (c := 1) ea1, by omega, fun ua1 fa1 => ?_⟩
    subst fa1
    intro va2 ea2
    refine ⟨5 * i + 2, ixa (c := 2) ea2, by omega, fun ua2 fa2 => ?_⟩
    subst fa2
    refine hlw _ (fun w1 G' gx' go' gm' q hj => ?_)
    intro vb1 eb1
    refine ⟨5 * i + 1, ixa (c := 1) eb1, by omega, fun ub1 fb1 => ?_⟩
    subst fb1
    intro vb2 eb2
    refine ⟨5 * i + 2, ixa (c := 2) eb2, by omega, fun ub2 fb2 => ?_⟩
    subst fb2
    refine ⟨by rw [← gm']; exact q.1.1, ?_⟩
    have hRm : RepM w1 q4 G'.ma S := by rw [← gm']; exact q.1
    refine r_X4_circle hRm hmd (fun r' S1 w' h1 hF hR' => ?_)
    obtain ⟨hr, rfl⟩ := h1
    rw [← gm'] at hF hR'
    exact l_tail q gx' gm' go' hk hS hj hr hF hR'
  · obtain ⟨k, r, S', hk, hS, hlw, hmd⟩ := v_enter (x1 := xs (5 * i + 1)) (x2 := xs (5 * i + 2)) hR hv
    rw [gx, go, gm] at hlw
    intro va1 ea1
    refine ⟨5 * i + 1, ixa (c := 1) ea1, by omega, fun ua1 fa1 => ?_⟩
    subst fa1
    intro va2 ea2
    refine ⟨5 * i + 2, ixa (c := 2) ea2, by omega, fun ua2 fa2 => ?_⟩
    subst fa2
    refine hlw _ (fun w1 G' gx' go' gm' q hj => ?_)
    intro vb1 eb1
    refine ⟨5 * i + 1, ixa (c := 1) eb1, by omega, fun ub1 fb1 => ?_⟩
    subst fb1
    intro vb2 eb2
    refine ⟨5 * i + 2, ixa (c := 2) eb2, by omega, fun ub2 fb2 => ?_⟩
    subst fb2
    refine ⟨by rw [← gm']; exact q.1.1, ?_⟩
    have hRm : RepM w1 q4 G'.ma S := by rw [← gm']; exact q.1
    refine r_X4_enter hRm hmd (fun r' S1 w' h1 hF hR' => ?_)
    obtain ⟨hr, rfl⟩ := h1
    rw [← gm'] at hF hR'
    exact l_tail q gx' gm' go' hk hS hj hr hF hR'
  · obtain ⟨k, r, S', hk, hS, hlw, hmd⟩ := v_start (x1 := xs (5 * i + 1)) (x2 := xs (5 * i + 2)) hR hv
    rw [gx, go, gm] at hlw
    intro va1 ea1
    refine ⟨5 * i + 1, ixa (c := 1) ea1, by omega, fun ua1 fa1 => ?_⟩
    subst fa1
    intro va2 ea2
    refine ⟨5 * i + 2, ixa (c := 2) ea2, by omega, fun ua2 fa2 => ?_⟩
    subst fa2
    refine hlw _ (fun w1 G' gx' go' gm' q hj => ?_)
    intro vb1 eb1
    refine ⟨5 * i + 1, ixa (c := 1) eb1, by omega, fun ub1 fb1 => ?_⟩
    subst fb1
    intro vb2 eb2
    refine ⟨5 * i + 2, ixa (c := 2) eb2, by omega, fun ub2 fb2 => ?_⟩
    subst fb2
    refine ⟨by rw [← gm']; exact q.1.1, ?_⟩
    have hRm : RepM w1 q4 G'.ma S := by rw [← gm']; exact q.1
    refine r_X4_start hRm hmd (fun r' S1 w' h1 hF hR' => ?_)
    obtain ⟨hr, rfl⟩ := h1
    rw [← gm'] at hF hR'
    exact l_tail q gx' gm' go' hk hS hj hr hF hR'
  · obtain ⟨k, r, S', hk, hS, hlw, hmd⟩ := v_want (x1 := xs (5 * i + 1)) (x2 := xs (5 * i + 2)) (x3 := xs (5 * i + 3)) (x4 := (if xs (5 * i + 4) = 0 then (0 : Int32) else 1)) hR hv
    rw [gx, go, gm] at hlw
    intro va1 ea1
    refine ⟨5 * i + 1, ixa (c := 1) ea1, by omega, fun ua1 fa1 => ?_⟩
    subst fa1
    intro va2 ea2
    refine ⟨5 * i + 2, ixa (c := 2) ea2, by omega, fun ua2 fa2 => ?_⟩
    subst fa2
    intro va3 ea3
    refine ⟨5 * i + 3, ixa (c := 3) ea3, by omega, fun ua3 fa3 => ?_⟩
    subst fa3
    intro va4 ea4
    refine ⟨5 * i + 4, ixa (c := 4) ea4, by omega, fun ua4 fa4 => ?_⟩
    subst fa4
    refine ⟨fun qq y1 y2 y3 y4 => qq = some q1 ∧ y1 = xs (5 * i + 1) ∧ y2 = xs (5 * i + 2) ∧ y3 = xs (5 * i + 3) ∧ y4 = (if xs (5 * i + 4) = 0 then (0 : Int32) else 1), fun qq y1 y2 y3 y4 hjj => ?_, fun z => ⟨rfl, rfl, rfl, rfl, (if_pos z).symm⟩, fun z => ⟨rfl, rfl, rfl, rfl, (if_neg z).symm⟩⟩
    obtain ⟨rfl, rfl, rfl, rfl, rfl⟩ := hjj
    refine hlw _ (fun w1 G' gx' go' gm' q hj => ?_)
    intro vb1 eb1
    refine ⟨5 * i + 1, ixa (c := 1) eb1, by omega, fun ub1 fb1 => ?_⟩
    subst fb1
    intro vb2 eb2
    refine ⟨5 * i + 2, ixa (c := 2) eb2, by omega, fun ub2 fb2 => ?_⟩
    subst fb2
    intro vb3 eb3
    refine ⟨5 * i + 3, ixa (c := 3) eb3, by omega, fun ub3 fb3 => ?_⟩
    subst fb3
    intro vb4 eb4
    refine ⟨5 * i + 4, ixa (c := 4) eb4, by omega, fun ub4 fb4 => ?_⟩
    subst fb4
    refine ⟨fun qq y1 y2 y3 y4 => qq = some q4 ∧ y1 = xs (5 * i + 1) ∧ y2 = xs (5 * i + 2) ∧ y3 = xs (5 * i + 3) ∧ y4 = (if xs (5 * i + 4) = 0 then (0 : Int32) else 1), fun qq y1 y2 y3 y4 hjj => ?_, fun z => ⟨rfl, rfl, rfl, rfl, (if_pos z).symm⟩, fun z => ⟨rfl, rfl, rfl, rfl, (if_neg z).symm⟩⟩
    obtain ⟨rfl, rfl, rfl, rfl, rfl⟩ := hjj
    refine ⟨q4, rfl, by rw [← gm']; exact q.1.1, ?_⟩
    have hRm : RepM w1 q4 G'.ma S := by rw [← gm']; exact q.1
    refine r_X4_want hRm hmd (fun r' S1 w' h1 hF hR' => ?_)
    obtain ⟨hr, rfl⟩ := h1
    rw [← gm'] at hF hR'
    exact l_tail q gx' gm' go' hk hS hj hr hF hR'
  · obtain ⟨k, r, S', hk, hS, hlw, hmd⟩ := v_meet (x1 := xs (5 * i + 1)) (x2 := (if xs (5 * i + 2) = 0 then (0 : Int32) else 1)) hR hv hn
    rw [gx, go, gm] at hlw
    intro va1 ea1
    refine ⟨5 * i + 1, ixa (c := 1) ea1, by omega, fun ua1 fa1 => ?_⟩
    subst fa1
    intro va2 ea2
    refine ⟨5 * i + 2, ixa (c := 2) ea2, by omega, fun ua2 fa2 => ?_⟩
    subst fa2
    refine ⟨fun qq y1 y2 => qq = some q1 ∧ y1 = xs (5 * i + 1) ∧ y2 = (if xs (5 * i + 2) = 0 then (0 : Int32) else 1), fun qq y1 y2 hjj => ?_, fun z => ⟨rfl, rfl, (if_pos z).symm⟩, fun z => ⟨rfl, rfl, (if_neg z).symm⟩⟩
    obtain ⟨rfl, rfl, rfl⟩ := hjj
    refine hlw _ (fun w1 G' gx' go' gm' q hj => ?_)
    intro vb1 eb1
    refine ⟨5 * i + 1, ixa (c := 1) eb1, by omega, fun ub1 fb1 => ?_⟩
    subst fb1
    intro vb2 eb2
    refine ⟨5 * i + 2, ixa (c := 2) eb2, by omega, fun ub2 fb2 => ?_⟩
    subst fb2
    refine ⟨fun qq y1 y2 => qq = some q4 ∧ y1 = xs (5 * i + 1) ∧ y2 = (if xs (5 * i + 2) = 0 then (0 : Int32) else 1), fun qq y1 y2 hjj => ?_, fun z => ⟨rfl, rfl, (if_pos z).symm⟩, fun z => ⟨rfl, rfl, (if_neg z).symm⟩⟩
    obtain ⟨rfl, rfl, rfl⟩ := hjj
    refine ⟨q4, rfl, by rw [← gm']; exact q.1.1, ?_⟩
    have hRm : RepM w1 q4 G'.ma S := by rw [← gm']; exact q.1
    refine r_X4_meet hRm hmd (fun r' S1 w' h1 hF hR' => ?_)
    obtain ⟨hr, rfl⟩ := h1
    rw [← gm'] at hF hR'
    exact l_tail q gx' gm' go' hk hS hj hr hF hR'
  · obtain ⟨k, r, S', hk, hS, hlw, hmd⟩ := v_leave (x1 := xs (5 * i + 1)) (x2 := xs (5 * i + 2)) hR hv hn
    rw [gx, go, gm] at hlw
    intro va1 ea1
    refine ⟨5 * i + 1, ixa (c := 1) ea1, by omega, fun ua1 fa1 => ?_⟩
    subst fa1
    intro va2 ea2
    refine ⟨5 * i + 2, ixa (c := 2) ea2, by omega, fun ua2 fa2 => ?_⟩
    subst fa2
    refine hlw _ (fun w1 G' gx' go' gm' q hj => ?_)
    intro vb1 eb1
    refine ⟨5 * i + 1, ixa (c := 1) eb1, by omega, fun ub1 fb1 => ?_⟩
    subst fb1
    intro vb2 eb2
    refine ⟨5 * i + 2, ixa (c := 2) eb2, by omega, fun ub2 fb2 => ?_⟩
    subst fb2
    refine ⟨by rw [← gm']; exact q.1.1, ?_⟩
    have hRm : RepM w1 q4 G'.ma S := by rw [← gm']; exact q.1
    refine r_X4_leave hRm hmd (fun r' S1 w' h1 hF hR' => ?_)
    obtain ⟨hr, rfl⟩ := h1
    rw [← gm'] at hF hR'
    exact l_tail q gx' gm' go' hk hS hj hr hF hR'
  · obtain ⟨k, r, S', hk, hS, hlw, hmd⟩ := v_buy (x1 := xs (5 * i + 1)) (x2 := xs (5 * i + 2)) hR hv hn
    rw [gx, go, gm] at hlw
    intro va1 ea1
    refine ⟨5 * i + 1, ixa (c := 1) ea1, by omega, fun ua1 fa1 => ?_⟩
    subst fa1
    intro va2 ea2
    refine ⟨5 * i + 2, ixa (c := 2) ea2, by omega, fun ua2 fa2 => ?_⟩
    subst fa2
    refine hlw _ (fun w1 G' gx' go' gm' q hj => ?_)
    intro vb1 eb1
    refine ⟨5 * i + 1, ixa (c := 1) eb1, by omega, fun ub1 fb1 => ?_⟩
    subst fb1
    intro vb2 eb2
    refine ⟨5 * i + 2, ixa (c := 2) eb2, by omega, fun ub2 fb2 => ?_⟩
    subst fb2
    refine ⟨by rw [← gm']; exact q.1.1, ?_⟩
    have hRm : RepM w1 q4 G'.ma S := by rw [← gm']; exact q.1
    refine r_X4_buy hRm hmd (fun r' S1 w' h1 hF hR' => ?_)
    obtain ⟨hr, rfl⟩ := h1
    rw [← gm'] at hF hR'
    exact l_tail q gx' gm' go' hk hS hj hr hF hR'
  · obtain ⟨k, r, S', hk, hS, hlw, hmd⟩ := v_borrow (x1 := xs (5 * i + 1)) (x2 := xs (5 * i + 2)) (x3 := xs (5 * i + 3)) (x4 := xs (5 * i + 4)) hR hv hn
    rw [gx, go, gm] at hlw
    intro va1 ea1
    refine ⟨5 * i + 1, ixa (c := 1) ea1, by omega, fun ua1 fa1 => ?_⟩
    subst fa1
    intro va2 ea2
    refine ⟨5 * i + 2, ixa (c := 2) ea2, by omega, fun ua2 fa2 => ?_⟩
    subst fa2
    intro va3 ea3
    refine ⟨5 * i + 3, ixa (c := 3) ea3, by omega, fun ua3 fa3 => ?_⟩
    subst fa3
    intro va4 ea4
    refine ⟨5 * i + 4, ixa (c := 4) ea4, by omega, fun ua4 fa4 => ?_⟩
    subst fa4
    refine hlw _ (fun w1 G' gx' go' gm' q hj => ?_)
    intro vb1 eb1
    refine ⟨5 * i + 1, ixa (c := 1) eb1, by omega, fun ub1 fb1 => ?_⟩
    subst fb1
    intro vb2 eb2
    refine ⟨5 * i + 2, ixa (c := 2) eb2, by omega, fun ub2 fb2 => ?_⟩
    subst fb2
    intro vb3 eb3
    refine ⟨5 * i + 3, ixa (c := 3) eb3, by omega, fun ub3 fb3 => ?_⟩
    subst fb3
    intro vb4 eb4
    refine ⟨5 * i + 4, ixa (c := 4) eb4, by omega, fun ub4 fb4 => ?_⟩
    subst fb4
    refine ⟨by rw [← gm']; exact q.1.1, ?_⟩
    have hRm : RepM w1 q4 G'.ma S := by rw [← gm']; exact q.1
    refine r_X4_borrow hRm hmd (fun r' S1 w' h1 hF hR' => ?_)
    obtain ⟨hr, rfl⟩ := h1
    rw [← gm'] at hF hR'
    exact l_tail q gx' gm' go' hk hS hj hr hF hR'
  · obtain ⟨k, r, S', hk, hS, hlw, hmd⟩ := v_repay (x1 := xs (5 * i + 1)) (x2 := xs (5 * i + 2)) hR hv hn
    rw [gx, go, gm] at hlw
    intro va1 ea1
    refine ⟨5 * i + 1, ixa (c := 1) ea1, by omega, fun ua1 fa1 => ?_⟩
    subst fa1
    intro va2 ea2
    refine ⟨5 * i + 2, ixa (c := 2) ea2, by omega, fun ua2 fa2 => ?_⟩
    subst fa2
    refine hlw _ (fun w1 G' gx' go' gm' q hj => ?_)
    intro vb1 eb1
    refine ⟨5 * i + 1, ixa (c := 1) eb1, by omega, fun ub1 fb1 => ?_⟩
    subst fb1
    intro vb2 eb2
    refine ⟨5 * i + 2, ixa (c := 2) eb2, by omega, fun ub2 fb2 => ?_⟩
    subst fb2
    refine ⟨by rw [← gm']; exact q.1.1, ?_⟩
    have hRm : RepM w1 q4 G'.ma S := by rw [← gm']; exact q.1
    refine r_X4_repay hRm hmd (fun r' S1 w' h1 hF hR' => ?_)
    obtain ⟨hr, rfl⟩ := h1
    rw [← gm'] at hF hR'
    exact l_tail q gx' gm' go' hk hS hj hr hF hR'
  · obtain ⟨r, S', hS, hlw, hmd⟩ := v_month (x1 := (if xs (5 * i + 1) = 0 then (0 : Int32) else 1)) hR hv hn
    rw [gx, go, gm] at hlw
    intro va1 ea1
    refine ⟨5 * i + 1, ixa (c := 1) ea1, by omega, fun ua1 fa1 => ?_⟩
    subst fa1
    refine ⟨fun qq y1 => qq = some q1 ∧ y1 = (if xs (5 * i + 1) = 0 then (0 : Int32) else 1), fun qq y1 hjj => ?_, fun z => ⟨rfl, (if_pos z).symm⟩, fun z => ⟨rfl, (if_neg z).symm⟩⟩
    obtain ⟨rfl, rfl⟩ := hjj
    refine ⟨q1, rfl, by rw [← gx]; exact hR.kx, ?_⟩
    refine hlw _ (fun w1 G' gx' go' gm' q => ?_)
    intro vb1 eb1
    refine ⟨5 * i + 1, ixa (c := 1) eb1, by omega, fun ub1 fb1 => ?_⟩
    subst fb1
    refine ⟨fun rr qq y1 => rr = r ∧ qq = some q4 ∧ y1 = (if xs (5 * i + 1) = 0 then (0 : Int32) else 1), fun rr qq y1 hjj => ?_, fun z => ⟨rfl, rfl, (if_pos z).symm⟩, fun z => ⟨rfl, rfl, (if_neg z).symm⟩⟩
    obtain ⟨rfl, rfl, rfl⟩ := hjj
    refine ⟨q4, rfl, by rw [← gm']; exact q.1.1, ?_⟩
    have hRm : RepM w1 q4 G'.ma S := by rw [← gm']; exact q.1
    refine r_X4_month hRm hmd (fun r' S1 w' h1 hF hR' => ?_)
    obtain ⟨hr, rfl⟩ := h1
    rw [← gm'] at hF hR'
    exact l_tailD q gx' gm' go' hS hr hF hR'
  · obtain ⟨k, r, S', hk, hS, hlw, hmd⟩ := v_feast  hR hv hn
    rw [gx, go, gm] at hlw
    refine hlw _ (fun w1 G' gx' go' gm' q hj => ?_)
    refine ⟨by rw [← gm']; exact q.1.1, ?_⟩
    have hRm : RepM w1 q4 G'.ma S := by rw [← gm']; exact q.1
    refine r_X4_feast hRm hmd (fun r' S1 w' h1 hF hR' => ?_)
    obtain ⟨hr, rfl⟩ := h1
    rw [← gm'] at hF hR'
    exact l_tail q gx' gm' go' hk hS hj hr hF hR'
  · obtain ⟨k, r, S', hk, hS, hlw, hmd⟩ := v_note (x1 := xs (5 * i + 1)) (x2 := xs (5 * i + 2)) (x3 := xs (5 * i + 3)) hR hv
    rw [gx, go, gm] at hlw
    intro va1 ea1
    refine ⟨5 * i + 1, ixa (c := 1) ea1, by omega, fun ua1 fa1 => ?_⟩
    subst fa1
    intro va2 ea2
    refine ⟨5 * i + 2, ixa (c := 2) ea2, by omega, fun ua2 fa2 => ?_⟩
    subst fa2
    intro va3 ea3
    refine ⟨5 * i + 3, ixa (c := 3) ea3, by omega, fun ua3 fa3 => ?_⟩
    subst fa3
    refine hlw _ (fun w1 G' gx' go' gm' q hj => ?_)
    intro vb1 eb1
    refine ⟨5 * i + 1, ixa (c := 1) eb1, by omega, fun ub1 fb1 => ?_⟩
    subst fb1
    intro vb2 eb2
    refine ⟨5 * i + 2, ixa (c := 2) eb2, by omega, fun ub2 fb2 => ?_⟩
    subst fb2
    intro vb3 eb3
    refine ⟨5 * i + 3, ixa (c := 3) eb3, by omega, fun ub3 fb3 => ?_⟩
    subst fb3
    refine ⟨by rw [← gm']; exact q.1.1, ?_⟩
    have hRm : RepM w1 q4 G'.ma S := by rw [← gm']; exact q.1
    refine r_X4_note hRm hmd (fun r' S1 w' h1 hF hR' => ?_)
    obtain ⟨hr, rfl⟩ := h1
    rw [← gm'] at hF hR'
    exact l_tail q gx' gm' go' hk hS hj hr hF hR'
  · obtain ⟨k, r, S', hk, hS, hlw, hmd⟩ := v_audit (x1 := xs (5 * i + 1)) hR hv
    rw [gx, go, gm] at hlw
    intro va1 ea1
    refine ⟨5 * i + 1, ixa (c := 1) ea1, by omega, fun ua1 fa1 => ?_⟩
    subst fa1
    refine hlw _ (fun w1 G' gx' go' gm' q hj => ?_)
    intro vb1 eb1
    refine ⟨5 * i + 1, ixa (c := 1) eb1, by omega, fun ub1 fb1 => ?_⟩
    subst fb1
    refine ⟨by rw [← gm']; exact q.1.1, ?_⟩
    have hRm : RepM w1 q4 G'.ma S := by rw [← gm']; exact q.1
    refine r_X4_audit hRm hmd (fun r' S1 w' h1 hF hR' => ?_)
    obtain ⟨hr, rfl⟩ := h1
    rw [← gm'] at hF hR'
    exact l_tail q gx' gm' go' hk hS hj hr hF hR'
  · obtain ⟨k, r, S', hk, hS, hlw, hmd⟩ := v_of (x1 := xs (5 * i + 1)) (x2 := xs (5 * i + 2)) hR hv
    rw [gx, go, gm] at hlw
    intro va1 ea1
    refine ⟨5 * i + 1, ixa (c := 1) ea1, by omega, fun ua1 fa1 => ?_⟩
    subst fa1
    intro va2 ea2
    refine ⟨5 * i + 2, ixa (c := 2) ea2, by omega, fun ua2 fa2 => ?_⟩
    subst fa2
    refine hlw _ (fun w1 G' gx' go' gm' q hj => ?_)
    intro vb1 eb1
    refine ⟨5 * i + 1, ixa (c := 1) eb1, by omega, fun ub1 fb1 => ?_⟩
    subst fb1
    intro vb2 eb2
    refine ⟨5 * i + 2, ixa (c := 2) eb2, by omega, fun ub2 fb2 => ?_⟩
    subst fb2
    refine ⟨by rw [← gm']; exact q.1.1, ?_⟩
    have hRm : RepM w1 q4 G'.ma S := by rw [← gm']; exact q.1
    refine r_X4_of hRm hmd (fun r' S1 w' h1 hF hR' => ?_)
    obtain ⟨hr, rfl⟩ := h1
    rw [← gm'] at hF hR'
    exact l_tail q gx' gm' go' hk hS hj hr hF hR'
  · obtain ⟨k, r, S', hk, hS, hlw, hmd⟩ := v_member (x1 := xs (5 * i + 1)) (x2 := xs (5 * i + 2)) (x3 := xs (5 * i + 3)) hR hv
    rw [gx, go, gm] at hlw
    intro va1 ea1
    refine ⟨5 * i + 1, ixa (c := 1) ea1, by omega, fun ua1 fa1 => ?_⟩
    subst fa1
    intro va2 ea2
    refine ⟨5 * i + 2, ixa (c := 2) ea2, by omega, fun ua2 fa2 => ?_⟩
    subst fa2
    intro va3 ea3
    refine ⟨5 * i + 3, ixa (c := 3) ea3, by omega, fun ua3 fa3 => ?_⟩
    subst fa3
    refine hlw _ (fun w1 G' gx' go' gm' q hj => ?_)
    intro vb1 eb1
    refine ⟨5 * i + 1, ixa (c := 1) eb1, by omega, fun ub1 fb1 => ?_⟩
    subst fb1
    intro vb2 eb2
    refine ⟨5 * i + 2, ixa (c := 2) eb2, by omega, fun ub2 fb2 => ?_⟩
    subst fb2
    intro vb3 eb3
    refine ⟨5 * i + 3, ixa (c := 3) eb3, by omega, fun ub3 fb3 => ?_⟩
    subst fb3
    refine ⟨by rw [← gm']; exact q.1.1, ?_⟩
    have hRm : RepM w1 q4 G'.ma S := by rw [← gm']; exact q.1
    refine r_X4_member hRm hmd (fun r' S1 w' h1 hF hR' => ?_)
    obtain ⟨hr, rfl⟩ := h1
    rw [← gm'] at hF hR'
    exact l_tail q gx' gm' go' hk hS hj hr hF hR'
  · obtain ⟨k, r, S', hk, hS, hlw, hmd⟩ := v_ofCircle (x1 := xs (5 * i + 1)) (x2 := xs (5 * i + 2)) hR hv
    rw [gx, go, gm] at hlw
    intro va1 ea1
    refine ⟨5 * i + 1, ixa (c := 1) ea1, by omega, fun ua1 fa1 => ?_⟩
    subst fa1
    intro va2 ea2
    refine ⟨5 * i + 2, ixa (c := 2) ea2, by omega, fun ua2 fa2 => ?_⟩
    subst fa2
    refine hlw _ (fun w1 G' gx' go' gm' q hj => ?_)
    intro vb1 eb1
    refine ⟨5 * i + 1, ixa (c := 1) eb1, by omega, fun ub1 fb1 => ?_⟩
    subst fb1
    intro vb2 eb2
    refine ⟨5 * i + 2, ixa (c := 2) eb2, by omega, fun ub2 fb2 => ?_⟩
    subst fb2
    refine ⟨by rw [← gm']; exact q.1.1, ?_⟩
    have hRm : RepM w1 q4 G'.ma S := by rw [← gm']; exact q.1
    refine r_X4_ofCircle hRm hmd (fun r' S1 w' h1 hF hR' => ?_)
    obtain ⟨hr, rfl⟩ := h1
    rw [← gm'] at hF hR'
    exact l_tail q gx' gm' go' hk hS hj hr hF hR'
  · obtain ⟨r, S', hS, hlw, hmd⟩ := v_cash  hR hv
    rw [gx, go, gm] at hlw
    refine ⟨by rw [← gx]; exact hR.kx, ?_⟩
    refine hlw _ (fun w1 G' gx' go' gm' q => ?_)
    refine ⟨by rw [← gm']; exact q.1.1, ?_⟩
    have hRm : RepM w1 q4 G'.ma S := by rw [← gm']; exact q.1
    refine r_X4_cash hRm hmd (fun r' S1 w' h1 hF hR' => ?_)
    obtain ⟨hr, rfl⟩ := h1
    rw [← gm'] at hF hR'
    exact l_tailD q gx' gm' go' hS hr hF hR'
  · obtain ⟨r, S', hS, hlw, hmd⟩ := v_coins  hR hv
    rw [gx, go, gm] at hlw
    refine ⟨by rw [← gx]; exact hR.kx, ?_⟩
    refine hlw _ (fun w1 G' gx' go' gm' q => ?_)
    refine ⟨by rw [← gm']; exact q.1.1, ?_⟩
    have hRm : RepM w1 q4 G'.ma S := by rw [← gm']; exact q.1
    refine r_X4_coins hRm hmd (fun r' S1 w' h1 hF hR' => ?_)
    obtain ⟨hr, rfl⟩ := h1
    rw [← gm'] at hF hR'
    exact l_tailD q gx' gm' go' hS hr hF hR'
  · exact ⟨G, S, hR, gx, gm, go, hv.wk⟩
