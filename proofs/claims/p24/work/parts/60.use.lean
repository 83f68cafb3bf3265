-- ===== a call of the class: what it answers and does, for any road behind it
def GK (G G' : GH) : Prop := G'.x = G.x ∧ G'.o = G.o ∧ G'.mo = G.mo
theorem GK.rf {G : GH} : GK G G := ⟨rfl, rfl, rfl⟩
theorem GK.tr {G G1 G2 : GH} (h : GK G G1) (g : GK G1 G2) : GK G G2 := ⟨g.1.trans h.1, g.2.1.trans h.2.1, g.2.2.trans h.2.2⟩
theorem j64_inj {v r : Int32} (h : v.toInt64 = r.toInt64) : v = r := by
  have h2 := congrArg Int64.toInt h
  rw [Int32.toInt_toInt64, Int32.toInt_toInt64] at h2
  exact Int32.toInt_inj.mp h2
def CM (w : Wd) (G : GH) (S : MS) (c3 : Int32) (m : (Int32 → Wd → Prop) → (String → Wd → Prop) → Prop) (I : Int32 → MS → Prop) : Prop :=
  ∃ k r S', S'.s 500 = k ∧ I r S' ∧ ((k = 0 ∨ k = c3) → ∀ (Q : Int32 → Wd → Prop) (QX : String → Wd → Prop), (k = 0 → ∀ w1 G', GK G G' → RC w1 G' S' S' → Q r w1) → (k = c3 → ∀ w1 G', GK G G' → RC w1 G' S' S' → QX "java/lang/IllegalStateException" w1) → m Q QX)
theorem CM.of {w : Wd} {G : GH} {S : MS} {c3 : Int32} {m : (Int32 → Wd → Prop) → (String → Wd → Prop) → Prop} {I : Int32 → MS → Prop} {lw : (Int32 → Wd → Prop) → Prop} {md : (Int32 → MS → Prop) → Prop} (h : OX w G S lw md I) (h3 : c3 ≠ 0)
    (hm : ∀ Q0 : Int32 → Wd → Prop, lw Q0 → ∃ QX0 : String → Wd → Prop, m (fun v w2 => ∀ w7 : Wd, w7 = w2.setJ G.o 0 v.toInt64 → Q0 0 w7) QX0 ∧ ∀ E w4, QX0 E w4 → (E = "java/lang/IllegalStateException" ∧ Q0 c3 w4) ∨ ∃ k, k ≠ 0 ∧ k ≠ c3 ∧ Q0 k w4)
    (mono : ∀ (Q Q1 : Int32 → Wd → Prop) (QX QX1 : String → Wd → Prop), (∀ r w1, Q r w1 → Q1 r w1) → (∀ E w1, QX E w1 → QX1 E w1) → m Q QX → m Q1 QX1) : CM w G S c3 m I := by
  obtain ⟨k, r, S', h1, h2, h5, -⟩ := h
  refine ⟨k, r, S', h1, h2, fun hk Q QX hQ hX => ?_⟩
  have h6 := h5 (fun code w7 => code = k ∧ ∃ G', GK G G' ∧ RC w7 G' S' S ∧ (k = 0 → w7.J G.o 0 = r.toInt64)) (fun w1 G' a b c q j => ⟨rfl, G', ⟨a, b, c⟩, q, j⟩)
  obtain ⟨QX0, p1, p2⟩ := hm _ h6
  refine mono _ _ _ _ (fun v w2 hv => ?_) (fun E w4 he => ?_) p1
  · obtain ⟨e0, G', g, q, j⟩ := hv _ rfl
    have e : v = r := j64_inj (up2_eq.symm.trans (j e0.symm))
    rw [e]
    exact hQ e0.symm w2 G' g q
  · rcases p2 E w4 he with ⟨e, ek, G', g, q, -⟩ | ⟨k', n0, n3, ek, -⟩
    · rw [e]; exact hX ek.symm w4 G' g q
    · exfalso
      rcases hk with e | e
      · exact n0 (ek.trans e)
      · exact n3 (ek.trans e)
theorem u_person {w : Wd} {G : GH} {S : MS} {n : Nat} {x1 x2 : Int32} (h : RC w G S S) (v : JV n S) : CM w G S 2 (fun Q QX => wp_X3_person G.x x1 x2 w Q QX) (I_person S x1 x2) := by
  refine CM.of (o_person h v.sh v.zp) (by decide) (fun Q0 hl => ?_) (fun Q Q1 QX QX1 a b => mo_X3_person a b)
  obtain ⟨a1, ha, -, hw⟩ := hl
  cases ha
  refine ⟨_, mo_X3_person (fun v w2 hv => ?_) (fun _ _ z => z) hw, fun E w4 he => ?_⟩
  · obtain ⟨a5, h5, -, j6, -, rfl, -, hv⟩ := hv
    cases h5
    exact hv
  · rcases he with ⟨e, q⟩ | ⟨e, q⟩
    · exact Or.inr ⟨1, by decide, by decide, q⟩
    · exact Or.inl ⟨e, q⟩
theorem u_earn {w : Wd} {G : GH} {S : MS} {n : Nat} {x1 x2 : Int32} (h : RC w G S S) (v : JV n S) : CM w G S 3 (fun Q QX => wp_X3_earn G.x x1 x2 w Q QX) (I_earn S x1 x2) := by
  refine CM.of ((o_earn h v.sh).x) (by decide) (fun Q0 hl => ?_) (fun Q Q1 QX QX1 a b => mo_X3_earn a b)
  obtain ⟨a1, ha, -, hw⟩ := hl
  cases ha
  refine ⟨_, mo_X3_earn (fun v w2 hv => ?_) (fun _ _ z => z) hw, fun E w4 he => ?_⟩
  · obtain ⟨a5, h5, -, j6, -, rfl, -, hv⟩ := hv
    cases h5
    exact hv
  · rcases he with ⟨e, q⟩ | ⟨e, q⟩ | ⟨e, q⟩
    · exact Or.inr ⟨1, by decide, by decide, q⟩
    · exact Or.inr ⟨2, by decide, by decide, q⟩
    · exact Or.inl ⟨e, q⟩
theorem u_die {w : Wd} {G : GH} {S : MS} {n : Nat} {x1 x2 : Int32} (h : RC w G S S) (v : JV n S) : CM w G S 3 (fun Q QX => wp_X3_die G.x x1 x2 w Q QX) (I_die S x1 x2) := by
  refine CM.of (o_die h v.sh v.di v.hb v.hD) (by decide) (fun Q0 hl => ?_) (fun Q Q1 QX QX1 a b => mo_X3_die a b)
  obtain ⟨a1, ha, -, hw⟩ := hl
  cases ha
  refine ⟨_, mo_X3_die (fun v w2 hv => ?_) (fun _ _ z => z) hw, fun E w4 he => ?_⟩
  · obtain ⟨a5, h5, -, j6, -, rfl, -, hv⟩ := hv
    cases h5
    exact hv
  · rcases he with ⟨e, q⟩ | ⟨e, q⟩ | ⟨e, q⟩
    · exact Or.inr ⟨1, by decide, by decide, q⟩
    · exact Or.inr ⟨2, by decide, by decide, q⟩
    · exact Or.inl ⟨e, q⟩
theorem u_circle {w : Wd} {G : GH} {S : MS} {n : Nat} {x1 x2 : Int32} (h : RC w G S S) (v : JV n S) : CM w G S 2 (fun Q QX => wp_X3_circle G.x x1 x2 w Q QX) (I_circle S x1 x2) := by
  refine CM.of (o_circle h v.sh v.zc) (by decide) (fun Q0 hl => ?_) (fun Q Q1 QX QX1 a b => mo_X3_circle a b)
  obtain ⟨a1, ha, -, hw⟩ := hl
  cases ha
  refine ⟨_, mo_X3_circle (fun v w2 hv => ?_) (fun _ _ z => z) hw, fun E w4 he => ?_⟩
  · obtain ⟨a5, h5, -, j6, -, rfl, -, hv⟩ := hv
    cases h5
    exact hv
  · rcases he with ⟨e, q⟩ | ⟨e, q⟩
    · exact Or.inr ⟨1, by decide, by decide, q⟩
    · exact Or.inl ⟨e, q⟩
theorem u_enter {w : Wd} {G : GH} {S : MS} {n : Nat} {x1 x2 : Int32} (h : RC w G S S) (v : JV n S) : CM w G S 2 (fun Q QX => wp_X3_enter G.x x1 x2 w Q QX) (I_enter S x1 x2) := by
  refine CM.of (o_enter h v.sh v.di) (by decide) (fun Q0 hl => ?_) (fun Q Q1 QX QX1 a b => mo_X3_enter a b)
  obtain ⟨a1, ha, -, hw⟩ := hl
  cases ha
  refine ⟨_, mo_X3_enter (fun v w2 hv => ?_) (fun _ _ z => z) hw, fun E w4 he => ?_⟩
  · obtain ⟨a5, h5, -, j6, -, rfl, -, hv⟩ := hv
    cases h5
    exact hv
  · rcases he with ⟨e, q⟩ | ⟨e, q⟩
    · exact Or.inr ⟨1, by decide, by decide, q⟩
    · exact Or.inl ⟨e, q⟩
theorem u_start {w : Wd} {G : GH} {S : MS} {n : Nat} {x1 x2 : Int32} (h : RC w G S S) (v : JV n S) : CM w G S 3 (fun Q QX => wp_X3_start G.x x1 x2 w Q QX) (I_start S x1 x2) := by
  refine CM.of (o_start h v.sh v.wy v.us v.ag) (by decide) (fun Q0 hl => ?_) (fun Q Q1 QX QX1 a b => mo_X3_start a b)
  obtain ⟨a1, ha, -, hw⟩ := hl
  cases ha
  refine ⟨_, mo_X3_start (fun v w2 hv => ?_) (fun _ _ z => z) hw, fun E w4 he => ?_⟩
  · obtain ⟨a5, h5, -, j6, -, rfl, -, hv⟩ := hv
    cases h5
    exact hv
  · rcases he with ⟨e, q⟩ | ⟨e, q⟩ | ⟨e, q⟩
    · exact Or.inr ⟨1, by decide, by decide, q⟩
    · exact Or.inr ⟨2, by decide, by decide, q⟩
    · exact Or.inl ⟨e, q⟩
theorem u_want {w : Wd} {G : GH} {S : MS} {n : Nat} {x1 x2 x3 x4 : Int32} (h : RC w G S S) (v : JV n S) : CM w G S 3 (fun Q QX => wp_X3_want G.x x1 x2 x3 x4 w Q QX) (I_want S x1 x2 x3 x4) := by
  refine CM.of ((o_want h v.sh v.di).x) (by decide) (fun Q0 hl => ?_) (fun Q Q1 QX QX1 a b => mo_X3_want a b)
  obtain ⟨a1, ha, -, hw⟩ := hl
  cases ha
  refine ⟨_, mo_X3_want (fun v w2 hv => ?_) (fun _ _ z => z) hw, fun E w4 he => ?_⟩
  · obtain ⟨a5, h5, -, j6, -, rfl, -, hv⟩ := hv
    cases h5
    exact hv
  · rcases he with ⟨e, q⟩ | ⟨e, q⟩ | ⟨e, q⟩
    · exact Or.inr ⟨1, by decide, by decide, q⟩
    · exact Or.inr ⟨2, by decide, by decide, q⟩
    · exact Or.inl ⟨e, q⟩
theorem u_meet {w : Wd} {G : GH} {S : MS} {n : Nat} {x1 x2 : Int32} (h : RC w G S S) (v : JV n S) (hn : n ≤ 512) : CM w G S 2 (fun Q QX => wp_X3_meet G.x x1 x2 w Q QX) (I_meet S x1 x2) := by
  refine CM.of ((o_meet h v.sh v.wy v.tt (fun c m hc => v.1.hP hn c m hc)).x) (by decide) (fun Q0 hl => ?_) (fun Q Q1 QX QX1 a b => mo_X3_meet a b)
  obtain ⟨a1, ha, -, hw⟩ := hl
  cases ha
  refine ⟨_, mo_X3_meet (fun v w2 hv => ?_) (fun _ _ z => z) hw, fun E w4 he => ?_⟩
  · obtain ⟨a5, h5, -, j6, -, rfl, -, hv⟩ := hv
    cases h5
    exact hv
  · rcases he with ⟨e, q⟩ | ⟨e, q⟩
    · exact Or.inr ⟨1, by decide, by decide, q⟩
    · exact Or.inl ⟨e, q⟩
theorem u_leave {w : Wd} {G : GH} {S : MS} {n : Nat} {x1 x2 : Int32} (h : RC w G S S) (v : JV n S) : CM w G S 2 (fun Q QX => wp_X3_leave G.x x1 x2 w Q QX) (I_leave S x1 x2) := by
  refine CM.of ((o_leave h v.sh v.di v.hb).x) (by decide) (fun Q0 hl => ?_) (fun Q Q1 QX QX1 a b => mo_X3_leave a b)
  obtain ⟨a1, ha, -, hw⟩ := hl
  cases ha
  refine ⟨_, mo_X3_leave (fun v w2 hv => ?_) (fun _ _ z => z) hw, fun E w4 he => ?_⟩
  · obtain ⟨a5, h5, -, j6, -, rfl, -, hv⟩ := hv
    cases h5
    exact hv
  · rcases he with ⟨e, q⟩ | ⟨e, q⟩
    · exact Or.inr ⟨1, by decide, by decide, q⟩
    · exact Or.inl ⟨e, q⟩
theorem u_buy {w : Wd} {G : GH} {S : MS} {n : Nat} {x1 x2 : Int32} (h : RC w G S S) (v : JV n S) : CM w G S 3 (fun Q QX => wp_X3_buy G.x x1 x2 w Q QX) (I_buy S x1 x2) := by
  refine CM.of ((o_buy h v.sh).x) (by decide) (fun Q0 hl => ?_) (fun Q Q1 QX QX1 a b => mo_X3_buy a b)
  obtain ⟨a1, ha, -, hw⟩ := hl
  cases ha
  refine ⟨_, mo_X3_buy (fun v w2 hv => ?_) (fun _ _ z => z) hw, fun E w4 he => ?_⟩
  · obtain ⟨a5, h5, -, j6, -, rfl, -, hv⟩ := hv
    cases h5
    exact hv
  · rcases he with ⟨e, q⟩ | ⟨e, q⟩ | ⟨e, q⟩
    · exact Or.inr ⟨1, by decide, by decide, q⟩
    · exact Or.inr ⟨2, by decide, by decide, q⟩
    · exact Or.inl ⟨e, q⟩
theorem u_borrow {w : Wd} {G : GH} {S : MS} {n : Nat} {x1 x2 x3 x4 : Int32} (h : RC w G S S) (v : JV n S) : CM w G S 3 (fun Q QX => wp_X3_borrow G.x x1 x2 x3 x4 w Q QX) (I_borrow S x1 x2 x3 x4) := by
  refine CM.of (o_borrow h v.sh v.hD (fun i _ => v.db.hH v.sh.2.1 i)) (by decide) (fun Q0 hl => ?_) (fun Q Q1 QX QX1 a b => mo_X3_borrow a b)
  obtain ⟨a1, ha, -, hw⟩ := hl
  cases ha
  refine ⟨_, mo_X3_borrow (fun v w2 hv => ?_) (fun _ _ z => z) hw, fun E w4 he => ?_⟩
  · obtain ⟨a5, h5, -, j6, -, rfl, -, hv⟩ := hv
    cases h5
    exact hv
  · rcases he with ⟨e, q⟩ | ⟨e, q⟩ | ⟨e, q⟩
    · exact Or.inr ⟨1, by decide, by decide, q⟩
    · exact Or.inr ⟨2, by decide, by decide, q⟩
    · exact Or.inl ⟨e, q⟩
theorem u_repay {w : Wd} {G : GH} {S : MS} {n : Nat} {x1 x2 : Int32} (h : RC w G S S) (v : JV n S) : CM w G S 3 (fun Q QX => wp_X3_repay G.x x1 x2 w Q QX) (I_repay S x1 x2) := by
  refine CM.of ((o_repay h v.sh v.hD).x) (by decide) (fun Q0 hl => ?_) (fun Q Q1 QX QX1 a b => mo_X3_repay a b)
  obtain ⟨a1, ha, -, hw⟩ := hl
  cases ha
  refine ⟨_, mo_X3_repay (fun v w2 hv => ?_) (fun _ _ z => z) hw, fun E w4 he => ?_⟩
  · obtain ⟨a5, h5, -, j6, -, rfl, -, hv⟩ := hv
    cases h5
    exact hv
  · rcases he with ⟨e, q⟩ | ⟨e, q⟩ | ⟨e, q⟩
    · exact Or.inr ⟨1, by decide, by decide, q⟩
    · exact Or.inr ⟨2, by decide, by decide, q⟩
    · exact Or.inl ⟨e, q⟩
theorem u_feast {w : Wd} {G : GH} {S : MS} {n : Nat} (h : RC w G S S) (v : JV n S) : CM w G S 1 (fun Q QX => wp_X3_feast G.x w Q QX) (I_feast S) := by
  refine CM.of (o_feast h v.sh (nneg_of (v.sb.h1 (nP S) v.sh.2.1).1) (v.db.h2 v.sh.2.1)) (by decide) (fun Q0 hl => ?_) (fun Q Q1 QX QX1 a b => mo_X3_feast a b)
  obtain ⟨a1, ha, -, hw⟩ := hl
  cases ha
  refine ⟨_, mo_X3_feast (fun v w2 hv => ?_) (fun _ _ z => z) hw, fun E w4 he => ?_⟩
  · obtain ⟨a5, h5, -, j6, -, rfl, -, hv⟩ := hv
    cases h5
    exact hv
  · obtain ⟨e, q⟩ := he
    exact Or.inl ⟨e, q⟩
theorem u_note {w : Wd} {G : GH} {S : MS} {n : Nat} {x1 x2 x3 : Int32} (h : RC w G S S) (v : JV n S) : CM w G S 9 (fun Q QX => wp_X3_note G.x x1 x2 x3 w Q QX) (I_note S x1 x2 x3) := by
  refine CM.of ((o_note h v.sh).x) (by decide) (fun Q0 hl => ?_) (fun Q Q1 QX QX1 a b => mo_X3_note a b)
  obtain ⟨a1, ha, -, hw⟩ := hl
  cases ha
  refine ⟨_, mo_X3_note (fun v w2 hv => ?_) (fun _ _ z => z) hw, fun E w4 he => ?_⟩
  · obtain ⟨a5, h5, -, j6, -, rfl, -, hv⟩ := hv
    cases h5
    exact hv
  · rcases he with ⟨e, q⟩ | ⟨e, q⟩
    · exact Or.inr ⟨1, by decide, by decide, q⟩
    · exact Or.inr ⟨2, by decide, by decide, q⟩
theorem u_audit {w : Wd} {G : GH} {S : MS} {n : Nat} {x1 : Int32} (h : RC w G S S) (v : JV n S) : CM w G S 9 (fun Q QX => wp_X3_audit G.x x1 w Q QX) (I_audit S x1) := by
  refine CM.of ((o_audit h v.sh).x) (by decide) (fun Q0 hl => ?_) (fun Q Q1 QX QX1 a b => mo_X3_audit a b)
  obtain ⟨a1, ha, -, hw⟩ := hl
  cases ha
  refine ⟨_, mo_X3_audit (fun v w2 hv => ?_) (fun _ _ z => z) hw, fun E w4 he => ?_⟩
  · obtain ⟨a5, h5, -, j6, -, rfl, -, hv⟩ := hv
    cases h5
    exact hv
  · obtain ⟨e, q⟩ := he
    exact Or.inr ⟨1, by decide, by decide, q⟩
theorem u_of {w : Wd} {G : GH} {S : MS} {n : Nat} {x1 x2 : Int32} (h : RC w G S S) (v : JV n S) : CM w G S 9 (fun Q QX => wp_X3_of G.x x1 x2 w Q QX) (I_of S x1 x2) := by
  refine CM.of ((o_of h v.sh).x) (by decide) (fun Q0 hl => ?_) (fun Q Q1 QX QX1 a b => mo_X3_of a b)
  obtain ⟨a1, ha, -, hw⟩ := hl
  cases ha
  refine ⟨_, mo_X3_of (fun v w2 hv => ?_) (fun _ _ z => z) hw, fun E w4 he => ?_⟩
  · obtain ⟨a5, h5, -, j6, -, rfl, -, hv⟩ := hv
    cases h5
    exact hv
  · rcases he with ⟨e, q⟩ | ⟨e, q⟩
    · exact Or.inr ⟨1, by decide, by decide, q⟩
    · exact Or.inr ⟨2, by decide, by decide, q⟩
theorem u_member {w : Wd} {G : GH} {S : MS} {n : Nat} {x1 x2 x3 : Int32} (h : RC w G S S) (v : JV n S) : CM w G S 9 (fun Q QX => wp_X3_member G.x x1 x2 x3 w Q QX) (I_member S x1 x2 x3) := by
  refine CM.of ((o_member h v.sh v.di).x) (by decide) (fun Q0 hl => ?_) (fun Q Q1 QX QX1 a b => mo_X3_member a b)
  obtain ⟨a1, ha, -, hw⟩ := hl
  cases ha
  refine ⟨_, mo_X3_member (fun v w2 hv => ?_) (fun _ _ z => z) hw, fun E w4 he => ?_⟩
  · obtain ⟨a5, h5, -, j6, -, rfl, -, hv⟩ := hv
    cases h5
    exact hv
  · rcases he with ⟨e, q⟩ | ⟨e, q⟩
    · exact Or.inr ⟨1, by decide, by decide, q⟩
    · exact Or.inr ⟨2, by decide, by decide, q⟩
theorem u_ofCircle {w : Wd} {G : GH} {S : MS} {n : Nat} {x1 x2 : Int32} (h : RC w G S S) (v : JV n S) : CM w G S 9 (fun Q QX => wp_X3_ofCircle G.x x1 x2 w Q QX) (I_ofCircle S x1 x2) := by
  refine CM.of ((o_ofCircle h v.sh v.wy).x) (by decide) (fun Q0 hl => ?_) (fun Q Q1 QX QX1 a b => mo_X3_ofCircle a b)
  obtain ⟨a1, ha, -, hw⟩ := hl
  cases ha
  refine ⟨_, mo_X3_ofCircle (fun v w2 hv => ?_) (fun _ _ z => z) hw, fun E w4 he => ?_⟩
  · obtain ⟨a5, h5, -, j6, -, rfl, -, hv⟩ := hv
    cases h5
    exact hv
  · rcases he with ⟨e, q⟩ | ⟨e, q⟩
    · exact Or.inr ⟨1, by decide, by decide, q⟩
    · exact Or.inr ⟨2, by decide, by decide, q⟩
theorem u_month {w : Wd} {G : GH} {S : MS} {n : Nat} {x1 : Int32} (h : RC w G S S) (v : JV n S) : ∃ r S', I_month S x1 r S' ∧ ∀ Q : Int32 → Wd → Prop, (∀ w1 G', GK G G' → RC w1 G' S' S' → Q r w1) → wp_X3_month G.x x1 w Q := by
  obtain ⟨r, S', h1, h2, -⟩ := o_month h v.sh (fun i hi hd => (v.db.hG (by have := v.sh.2.1; omega) hd).1) h.vo
  exact ⟨r, S', h1, fun Q hQ => h2 Q (fun w1 G' a b c q => hQ w1 G' ⟨a, b, c⟩ q)⟩
theorem u_cash {w : Wd} {G : GH} {S : MS} {n : Nat} (h : RC w G S S) (v : JV n S) : ∃ r S', I_cash S r S' ∧ ∀ Q : Int32 → Wd → Prop, (∀ w1 G', GK G G' → RC w1 G' S' S' → Q r w1) → wp_X3_cash G.x w Q := by
  obtain ⟨r, S', h1, h2, -⟩ := o_cash h
  exact ⟨r, S', h1, fun Q hQ => h2 Q (fun w1 G' a b c q => hQ w1 G' ⟨a, b, c⟩ q)⟩
theorem u_coins {w : Wd} {G : GH} {S : MS} {n : Nat} (h : RC w G S S) (v : JV n S) : ∃ r S', I_coins S r S' ∧ ∀ Q : Int32 → Wd → Prop, (∀ w1 G', GK G G' → RC w1 G' S' S' → Q r w1) → wp_X3_coins G.x w Q := by
  obtain ⟨r, S', h1, h2, -⟩ := o_coins h v.sh
  exact ⟨r, S', h1, fun Q hQ => h2 Q (fun w1 G' a b c q => hQ w1 G' ⟨a, b, c⟩ q)⟩
