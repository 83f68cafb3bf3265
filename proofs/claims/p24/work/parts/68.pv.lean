-- ===== what every state of the law keeps
def HT (S : MS) (c : Nat) : Prop := ∃ k, k < mn S c ∧ ¬ S.a 527 (10 * c + k) = 0
/-- rounds are no more than meetings -/
def PR (S : MS) (c : Nat) : Prop := 0 ≤ (S.a 519 c).toInt ∧ (S.a 519 c).toInt ≤ (S.a 518 c).toInt ∧ (S.a 518 c).toInt ≤ 1000 ∧ (HT S c → (S.a 519 c).toInt + 1 ≤ (S.a 518 c).toInt)
theorem PR.cg {S S' : MS} {c : Nat} (h : PR S c) (e9 : S'.a 519 c = S.a 519 c) (e8 : S'.a 518 c = S.a 518 c) (ht : HT S' c → HT S c) : PR S' c := by
  unfold PR
  rw [e9, e8]
  exact ⟨h.1, h.2.1, h.2.2.1, fun z => h.2.2.2 (ht z)⟩
theorem PR.rnd {S : MS} {c c0 : Nat} (h : PR S c) (hm : ∀ c', mn S c' ≤ 10 ∨ c' ≠ c ∧ c' ≠ c0) : PR (frnd S c0) c := by
  unfold frnd
  by_cases h0 : mn S c0 = 0
  · rw [if_pos h0]; exact h
  rw [if_neg h0]
  by_cases h1 : allb S c0 (mn S c0) = true
  · rw [if_pos h1]
    have hall := (allb_iff _).mp h1
    obtain ⟨Z, hZ⟩ : ∃ Z, Z = fclr (S.setA 519 c0 (S.a 519 c0 + 1)) c0 (mn S c0) := ⟨_, rfl⟩
    rw [← hZ]
    have zo : ∀ r x, r ≠ 527 → r ≠ 525 → r ≠ 519 → Z.a r x = S.a r x := fun r x a b c => by rw [hZ, fclr_a a b, a_f c]
    have zm : ∀ x, mn Z x = mn S x := fun x => by unfold mn; rw [zo 517 _ (by decide) (by decide) (by decide)]
    have z9 : ∀ x, Z.a 519 x = if x = c0 then S.a 519 c0 + 1 else S.a 519 x := fun x => by
      rw [hZ, fclr_a (by decide) (by decide)]
      by_cases e : x = c0
      · rw [if_pos e, e, a_e]
      · rw [if_neg e, a_b e]
    have z7 : ∀ x, Z.a 527 x = if 10 * c0 ≤ x ∧ x < 10 * c0 + mn S c0 then 0 else S.a 527 x := fun x => by
      rw [hZ, fclr_x (Or.inr rfl), a_f (by decide)]
    by_cases e : c = c0
    · subst e
      have hh := h.2.2.2 ⟨0, by omega, hall 0 (by omega)⟩
      obtain ⟨b1, b2, b3, -⟩ := h
      have k1 : (1 : Int32).toInt = 1 := by decide
      have e9 : (Z.a 519 c).toInt = (S.a 519 c).toInt + 1 := by rw [z9, if_pos rfl, z_add (by rw [k1]; omega) (by rw [k1]; omega), k1]
      have e8 : Z.a 518 c = S.a 518 c := zo 518 _ (by decide) (by decide) (by decide)
      unfold PR
      rw [e9, e8]
      refine ⟨by omega, by omega, b3, fun hx => ?_⟩
      obtain ⟨k, k1, k2⟩ := hx
      rw [zm] at k1
      rw [z7, if_pos ⟨by omega, by omega⟩] at k2
      exact absurd rfl k2
    · refine h.cg (by rw [z9, if_neg e]) (zo 518 _ (by decide) (by decide) (by decide)) (fun hx => ?_)
      obtain ⟨k, k1, k2⟩ := hx
      rw [zm] at k1
      have m1 := (hm c).resolve_right (fun z => z.1 rfl)
      have m2 := (hm c0).resolve_right (fun z => z.2 rfl)
      rw [z7, if_neg (by omega)] at k2
      exact ⟨k, k1, k2⟩
  · rw [if_neg h1]; exact h
theorem PR.go {S : MS} {c c0 p : Nat} (h : PR S c) (hB : HB S) (hp : p < mn S c0) (hm0 : mn S c0 ≤ 10) (hm : mn S c ≤ 10) : PR (fgo S c0 p) c := by
  refine h.cg (fgo_o (by unfold r7; omega) (by decide)) (fgo_o (by unfold r7; omega) (by decide)) (fun hx => ?_)
  obtain ⟨k, k1, k2⟩ := hx
  rw [fgo_m hm0] at k1
  rw [fgo_a hB hp (by unfold r7; omega)] at k2
  by_cases e : c = c0
  · subst e
    rw [if_pos rfl] at k1
    obtain ⟨k', a1, -, a3, -⟩ := sh_own2 (p := p) k1
    rw [a3] at k2
    exact ⟨k', a1, k2⟩
  · rw [if_neg e] at k1
    rw [sh_oth hm0 (by omega) e] at k2
    exact ⟨k, k1, k2⟩
theorem fpass_o {S : MS} {c p q r x : Nat} (h1 : r ≠ 517) (h2 : r ≠ 519) (h3 : r < 521 ∨ 527 < r) : (fpass S c p q).a r x = S.a r x := by
  unfold fpass
  cases pl S c p with
  | none => rfl
  | some kp =>
    cases pl S c q with
    | none =>
      show (S.setA 521 (10 * c + kp) (nI q)).a r x = S.a r x
      exact a_f (by omega)
    | some kh =>
      show (fjoin S c kp kh).a r x = S.a r x
      unfold fjoin
      rw [frnd_a h2 (by omega) (by omega), fgo_o (by unfold r7; omega) h1, a_f (by omega)]
theorem PR.pass {n : Nat} {S : MS} {c c0 p q : Nat} (h : PR S c) (v : IV n S) (hc : c < 2) (hc0 : c0 < 2) (hn2 : nC S = 2) : PR (fpass S c0 p q) c := by
  have hm10 : ∀ c', c' < 2 → mn S c' ≤ 10 := fun c' hc' => (v.1.2.2.2.2 c' (by omega)).2.1
  unfold fpass
  cases ep : pl S c0 p with
  | none => exact h
  | some kp =>
    obtain ⟨p1, p2⟩ := plc_some _ ep
    cases pl S c0 q with
    | none =>
      refine h.cg (a_f (by decide)) (a_f (by decide)) (fun hx => ?_)
      obtain ⟨k, k1, k2⟩ := hx
      rw [mn_setA (by decide)] at k1
      rw [a_f (by decide)] at k2
      exact ⟨k, k1, k2⟩
    | some kh =>
      show PR (fjoin S c0 kp kh) c
      unfold fjoin
      obtain ⟨X, hX⟩ : ∃ X, X = S.setA 522 (10 * c0 + kh) (S.a 522 (10 * c0 + kh) + S.a 522 (10 * c0 + kp)) := ⟨_, rfl⟩
      rw [← hX]
      have N : Nm S X := by rw [hX]; exact Nm.rf.st (by decide)
      have xo : ∀ r x, r ≠ 522 → X.a r x = S.a r x := fun r x hr => by rw [hX, a_f hr]
      have hX1 : PR X c := h.cg (xo 519 _ (by decide)) (xo 518 _ (by decide)) (fun hx => by
        obtain ⟨k, k1, k2⟩ := hx
        rw [N.m] at k1
        rw [xo 527 _ (by decide)] at k2
        exact ⟨k, k1, k2⟩)
      have hBX : HB X := fun x => by rw [xo 527 x (by decide)]; exact v.2.2.2.1 x
      have hG := hX1.go (c0 := c0) (p := kp) hBX (by rw [N.m]; exact p1) (by rw [N.m]; exact hm10 c0 hc0) (by rw [N.m]; exact hm10 c hc)
      refine hG.rnd (fun c' => ?_)
      by_cases e : c' < 2
      · left
        rw [fgo_m (by rw [N.m]; exact hm10 c0 hc0), N.m]
        have a1 := hm10 c' e
        have a2 := hm10 c0 hc0
        by_cases z : c' = c0
        · rw [if_pos z]; omega
        · rw [if_neg z]; exact a1
      · right; omega
def PV (o : Nat) (S : MS) : Prop := nP S = 7 ∧ nC S = 2 ∧ (∀ c, c < 2 → (S.a 514 c).toInt ≤ 40) ∧ (∀ c i, c < 2 → ME S c i → S.a 512 i = 0) ∧ (∀ c, c < 2 → PR S c) ∧ (∀ q, q < 16 → ¬ S.a 512 q = 0 → S.a 505 q = 0) ∧ (∀ q, q < 7 → S.a 503 q = nmd o q) ∧ ∀ q, q < 7 → S.a 530 (16 + q) = 0
theorem PV.sm5 {o : Nat} {S S' : MS} (h : PV o S) (hr : Sm [503, 512, 514, 517, 518, 519, 521, 527, 530] S S') (hp : nP S' = nP S) (hc : nC S' = nC S) (h5 : ∀ q, q < 16 → ¬ S.a 512 q = 0 → S'.a 505 q = 0) : PV o S' := by
  obtain ⟨p1, p2, p3, p4, p5, p6, p7, p8⟩ := h
  have em : ∀ c, mn S' c = mn S c := fun c => by unfold mn; rw [hr 517 (by decide)]
  have ew : ∀ y, wh S' y = wh S y := fun y => by unfold wh; rw [hr 521 (by decide)]
  refine ⟨hp.trans p1, hc.trans p2, fun c hc => by rw [hr 514 (by decide)]; exact p3 c hc, fun c i hc hm => ?_, fun c hc => (p5 c hc).cg (hr 519 (by decide) c) (hr 518 (by decide) c) (fun hx => ?_), fun q hq hd => ?_, fun q hq => by rw [hr 503 (by decide)]; exact p7 q hq, fun q hq => by rw [hr 530 (by decide)]; exact p8 q hq⟩
  · rw [hr 512 (by decide)]
    exact p4 c i hc (hm.cg (em c) (fun k _ => ew _))
  · obtain ⟨k, k1, k2⟩ := hx
    rw [em] at k1
    rw [hr 527 (by decide)] at k2
    exact ⟨k, k1, k2⟩
  · rw [hr 512 (by decide)] at hd
    exact h5 q hq hd
theorem PV.sm {o : Nat} {S S' : MS} (h : PV o S) (hr : Sm [503, 505, 512, 514, 517, 518, 519, 521, 527, 530] S S') (hp : nP S' = nP S) (hc : nC S' = nC S) : PV o S' :=
  h.sm5 (hr.sub (by decide)) hp hc (fun q hq hd => by rw [hr 505 (by decide)]; exact h.2.2.2.2.2.1 q hq hd)
theorem PV.thr {o : Nat} {S : MS} {y : Int32} (h : PV o S) : PV o (S.setS 500 y) := h.sm Sm.rf.ss rfl rfl
/-- the law's state: k acts, n calls so far -/
def ST (o k n : Nat) (S : MS) : Prop := JV n S ∧ PV o S ∧ ∃ T e j w s o1 o2 F, BG k S T e j w s o1 o2 F
theorem ST.thr0 {o k n : Nat} {S : MS} {y : Int32} (h : ST o k n S) : ST o k (n + 1) (S.setS 500 y) := by
  obtain ⟨v, p, T, e, j, w, s, o1, o2, F, b⟩ := h
  exact ⟨v.thr, p.thr, T, e, j, w, s, o1, o2, F, b.thr⟩
theorem ST.thr {o k n : Nat} {S : MS} {y : Int32} (h : ST o k n S) : ST o (k + 1) (n + 1) (S.setS 500 y) := by
  obtain ⟨v, p, T, e, j, w, s, o1, o2, F, b⟩ := h
  exact ⟨v.thr, p.thr, T, e, j, w, s, o1, o2, F, b.up.thr⟩
theorem ST.up {o k n : Nat} {S : MS} (h : ST o k n S) : ST o (k + 1) n S := by
  obtain ⟨v, p, T, e, j, w, s, o1, o2, F, b⟩ := h
  exact ⟨v, p, T, e, j, w, s, o1, o2, F, b.up⟩
theorem st_earn {o k n : Nat} {S S' : MS} {x1 x2 r : Int32} (h : ST o k n S) (hn : n ≤ 500) (hx : x2 ≤ 539) (hI : I_earn S x1 x2 r S') : ST o (k + 1) (n + 1) S' := by
  obtain ⟨v, p, T, e, j, w, s, o1, o2, F, b⟩ := id h
  have v' := jv_earn v (by omega) hI
  rcases hI with ⟨rfl, -⟩ | ⟨rfl, -⟩ | ⟨i, -, -, rfl, -⟩ | ⟨i, h1, -, h2, h3, -, h4, -, -, rfl⟩
  · exact h.thr
  · exact h.thr
  · exact h.thr
  · obtain ⟨a, b0, hab, mo, -⟩ := v.mo
    obtain ⟨a', b', hab', mo', -⟩ := v'.mo
    have hi7 : i < 7 := by rw [← p.1]; exact h1
    have m1 := mo.1 i (by omega)
    have m2 := mo.pm (show i < 16 by omega)
    have m3 := mo.2.2.2.2
    have m4 := mo.2.2.2.1
    have m5 := sumf_nn 16 mo.1
    have m6 := sumf_nn 4 mo.2.1
    have m7 := mo.2.2.1
    have x3 : x2.toInt ≤ 539 := p_le (k := 539) (by decide) hx
    have x4 : -10000 ≤ x2.toInt := by
      have := Int32.le_iff_toInt_le.mp (i_nle h2)
      exact this
    refine ⟨v', p.sm ((Sm.rf.ss.st (by decide)).ss) rfl rfl, T, e + 1, j, w, s, o1, o2, F, b.earn (i := i) (d := x2.toInt) hi7 x3 ((Sm.rf.ss.st (by decide)).ss) (fun q hq => ?_) ?_ ?_ mo'⟩
    · show (((S.setS 500 0).setA 504 i (S.a 504 i + x2)).a 504 q).toInt = _
      by_cases z : q = i
      · rw [if_pos z, z, a_e, z_add (by omega) (by omega)]
      · rw [if_neg z, a_b z]; show (S.a 504 q).toInt = _; omega
    · rw [s_f (by decide)]; rfl
    · rw [s_e, z_add (by omega) (by omega)]
theorem gg_120 : ∀ w, 120 ≤ gg w := by
  intro w
  induction w with
  | zero => decide
  | succ w ih => rw [gg_q]; omega
theorem st_buy {o k n : Nat} {S S' : MS} {x1 x2 r : Int32} (h : ST o k n S) (hn : n ≤ 500) (hx : x2 ≤ 12) (hI : I_buy S x1 x2 r S') (hJ : JV (n + 1) S') : ST o (k + 1) (n + 1) S' := by
  obtain ⟨v, p, T, e, j, w, s, o1, o2, F, b⟩ := id h
  rcases hI with ⟨rfl, -⟩ | ⟨rfl, -⟩ | ⟨i, -, -, rfl, -⟩ | ⟨i, h1, -, h2, h3, h4, h5, h6, rfl⟩
  · exact h.thr
  · exact h.thr
  · exact h.thr
  · obtain ⟨a, b0, hab, mo, -⟩ := v.mo
    obtain ⟨a', b', hab', mo', -⟩ := hJ.mo
    have hi7 : i < 7 := by rw [← p.1]; exact h1
    have x3 : x2.toInt ≤ 12 := p_le (k := 12) (by decide) hx
    have x4 : 1 ≤ x2.toInt := Int32.le_iff_toInt_le.mp (i_nle h2)
    have k10 : (10 : Int32).toInt = 10 := by decide
    have xm : (10 * x2).toInt = 10 * x2.toInt := by rw [z_mul (by rw [k10]; omega) (by rw [k10]; omega), k10]
    have h6' := Int32.le_iff_toInt_le.mp h6
    have mf := mo.fm
    refine ⟨hJ, p.sm5 ((((Sm.rf.ss.st (by decide)).st (by decide)).ss).st (by decide)) rfl rfl (fun q hq hd => ?_), _, e, j + 1, w, s, o1, o2, _, b.fund (w' := w) (j' := j + 1) ((((Sm.rf.ss.st (by decide)).st (by decide)).ss).st (by decide)) (LR_buy b.1 (by omega) (by omega) mo.2.2.1 (by omega) h4) rfl mo' (fun q hq => ?_) (by omega) (Or.inr (Or.inl ⟨rfl, rfl, by omega⟩))⟩
    · have : q ≠ i := fun z => hd (by rw [z]; exact h4)
      rw [a_b this, setS_a, fpay_a (by decide) (by decide), setS_a]
      exact p.2.2.2.2.2.1 q hq hd
    · rw [a_f (by decide), setS_a, fpay_a (by decide) (by decide), setS_a]
      exact (b.2.1 q hq).1
