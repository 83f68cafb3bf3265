-- ===== a death, on both sides
/-- a place gets another holder -/
theorem RC.who {w : Wd} {G : GH} {S S0 : MS} {j h : Nat} (hR : RC w G S S0) (hj : inr 3 j S) (hh : h < nP S) (h16 : nP S ≤ 16) : RC (w.setR 300 (G.L j) (some (G.P h))) G (S.setA 521 j (nI h)) S0 := by
  obtain ⟨q1, q2, ⟨k1, k2, k3, k4, k5, k6, k7, k8, k9⟩, q4, q5, q6, q7⟩ := hR
  have i3 : ∀ {k x}, inr k x (S.setA 521 j (nI h)) → inr k x S := fun hx => (inr_setA (by decide)).mp hx
  refine ⟨q1.setR (by decide), q2.setR (by decide), ⟨k1, (R_f (by decide)).trans k2, (R_f (by decide)).trans k3, k4.setR (by decide), k5.setR (by decide), fun k x a b hx => k6 k x a b (i3 hx), fun i hi => ⟨(k7 i hi).1, (R_f (by decide)).trans (k7 i hi).2.1, (k7 i hi).2.2⟩, fun c hc => ⟨(R_f (by decide)).trans (k8 c hc).1, (R_f (by decide)).trans (k8 c hc).2.1, ?_, (k8 c hc).2.2.2.setR (by decide)⟩, fun x hx => ?_⟩, q4.row (by decide), ⟨fun f r k x he hx => ?_, q5.2.1, q5.2.2.1, fun i b hi hb => ?_⟩, fun i hi hd => ?_, q7.row (by decide) (by decide) (by decide) (by decide)⟩
  · rw [cLst_setA (by decide)]; exact (k8 c hc).2.2.1.setR (by decide)
  · by_cases e : x = j
    · subst e
      have ew : wh (S.setA 521 x (nI h)) x = h := by unfold wh; rw [a_e, nI_clamp (by omega)]
      rw [R_e, ew]
    · have ew : wh (S.setA 521 j (nI h)) x = wh S x := by unfold wh; rw [a_b e]
      have hne : G.L x ≠ G.L j := fun z => e (q4.1 3 x j (by decide) (by decide) (i3 hx) hj z)
      rw [R_b hne, ew]
      exact k9 x (i3 hx)
  · rw [a_f (et_o _ he).2.2.2.2.1]; exact q5.1 f r k x he (i3 hx)
  · rw [a_f (by decide)]; exact q5.2.2.2 i b hi hb
  · rw [a_f (by decide)] at hd
    rw [a_f (by decide), a_f (by decide), a_f (by decide)]
    obtain ⟨g1, a, b, g2, g3, g4, g5, g6, g7⟩ := q6 i hi hd
    exact ⟨g1, a, b, g2, g3, g4, g5, (R_f (by decide)).trans g6, (R_f (by decide)).trans g7⟩
/-- ghosts that differ in places alone -/
def GE (G G' : GH) : Prop := G'.x = G.x ∧ G'.o = G.o ∧ G'.mo = G.mo ∧ G'.P = G.P ∧ G'.C = G.C
theorem GE.rf {G : GH} : GE G G := ⟨rfl, rfl, rfl, rfl, rfl⟩
theorem GE.tr {G G1 G2 : GH} (h : GE G G1) (h1 : GE G1 G2) : GE G G2 := ⟨h1.1.trans h.1, h1.2.1.trans h.2.1, h1.2.2.1.trans h.2.2.1, h1.2.2.2.1.trans h.2.2.2.1, h1.2.2.2.2.trans h.2.2.2.2⟩
def fjoin (S : MS) (c kp kh : Nat) : MS := frnd (fgo (S.setA 522 (10 * c + kh) (S.a 522 (10 * c + kh) + S.a 522 (10 * c + kp))) c kp) c
def fpass (S : MS) (c p h : Nat) : MS := match pl S c p with
  | none => S
  | some kp => match pl S c h with
    | none => S.setA 521 (10 * c + kp) (nI h)
    | some kh => fjoin S c kp kh
def cpass (S : MS) (c p h : Nat) : Int32 := match pl S c p with
  | none => 0
  | some _ => match pl S c h with
    | none => 1
    | some _ => 0
theorem k_passOn {w : Wd} {G : GH} {S S0 : MS} {c p h : Nat} {Q : Int32 → Wd → Prop} (hR : RC w G S S0) (hI : SH S) (hD : DI S) (hB : HB S) (hc : c < nC S) (hp : p < nP S) (hh : h < nP S) (hQ : ∀ w1 G', GE G G' → RC w1 G' (fpass S c p h) S0 → Q (cpass S c p h) w1) : wp_X0_passOn (G.C c) (some (G.P p)) (some (G.P h)) w Q := by
  refine ⟨hR.kC hc, k_pl hR hI hD hc hp ?_⟩
  unfold fpass cpass at hQ
  cases ep : pl S c p with
  | none =>
    rw [ep] at hQ
    exact ⟨fun z => absurd rfl z, fun _ => ⟨Or.inl rfl, hQ w G GE.rf hR⟩⟩
  | some kp =>
    rw [ep] at hQ
    obtain ⟨p1, p2⟩ := plc_some _ ep
    have hinp : inr 3 (10 * c + kp) S := ⟨c, kp, rfl, hc, p1⟩
    refine ⟨fun _ => ⟨hR.kC hc, k_pl hR hI hD hc hh ?_⟩, fun z => by cases z⟩
    cases eh : pl S c h with
    | none =>
      rw [eh] at hQ
      refine ⟨fun z => absurd rfl z, fun _ => ⟨_, rfl, hR.kL hinp, fun w13 h13 => ⟨Or.inr rfl, hQ w13 G GE.rf ?_⟩⟩⟩
      rw [h13]; exact hR.who hinp hh hI.2.1
    | some kh =>
      rw [eh] at hQ
      obtain ⟨h1, h2⟩ := plc_some _ eh
      have hinh : inr 3 (10 * c + kh) S := ⟨c, kh, rfl, hc, h1⟩
      have g6 : w.I 301 (G.L (10 * c + kh)) = S.a 522 (10 * c + kh) := hR.get (k := 3) (f := 301) (r := 522) (by decide) hinh
      have g8 : w.I 301 (G.L (10 * c + kp)) = S.a 522 (10 * c + kp) := hR.get (k := 3) (f := 301) (r := 522) (by decide) hinp
      refine ⟨fun _ => ⟨_, rfl, hR.kL hinh, fun v6 h6 => ⟨_, rfl, hR.kL hinp, fun v8 h8 v9 h9 => ⟨hR.kL hinh, fun w10 h10 => ?_⟩⟩⟩, fun z => by cases z⟩
      obtain ⟨T, hT⟩ : ∃ T, T = S.setA 522 (10 * c + kh) (S.a 522 (10 * c + kh) + S.a 522 (10 * c + kp)) := ⟨_, rfl⟩
      have q10 : RC w10 G T S0 := by
        rw [hT, h10, h9, h8, h6, g6, g8]
        exact RC.set (k := 3) hR (by decide) (by decide) (by decide) (by decide) hinh
      have N : Nm S T := by rw [hT]; exact Nm.rf.st (by decide)
      have hBT : HB T := fun x => by rw [hT, a_f (by decide)]; exact hB x
      have hcT : c < nC T := by rw [N.c]; exact hc
      refine ⟨q10.kC hcT, k_removePlace q10 (N.sh hI) hBT hcT (by rw [N.m]; exact p1) (fun w11 q11 => ⟨Or.inl rfl, hQ w11 (Ggo G T c kp) GE.rf ?_⟩)⟩
      show RC w11 (Ggo G T c kp) (fjoin S c kp kh) S0
      unfold fjoin; rw [← hT]; exact q11
theorem sh_own2 {S : MS} {c p k : Nat} (hk : k < mn S c - 1) : ∃ k', k' < mn S c ∧ k' ≠ p ∧ sh S c p (10 * c + k) = 10 * c + k' ∧ (k' = if k < p then k else k + 1) := by
  refine ⟨if k < p then k else k + 1, ?_, ?_, sh_own hk, rfl⟩
  · by_cases e : k < p
    · rw [if_pos e]; omega
    · rw [if_neg e]; omega
  · by_cases e : k < p
    · rw [if_pos e]; omega
    · rw [if_neg e]; omega
theorem fgo_di {S : MS} {c p : Nat} (hI : SH S) (hB : HB S) (hD : DI S) (hc : c < nC S) (hp : p < mn S c) : DI (fgo S c p) := by
  have hm : ∀ c', c' < nC S → mn S c' ≤ 10 := fun c' hc' => (hI.2.2.2.2 c' hc').2.1
  intro c' hc' k k' hk hk' e
  rw [fgo_p.2] at hc'
  rw [fgo_m (hm c hc)] at hk hk'
  rw [fgo_w hB hp, fgo_w hB hp] at e
  by_cases ec : c' = c
  · subst ec
    rw [if_pos rfl] at hk hk'
    obtain ⟨a, a1, a2, a3, a4⟩ := sh_own2 (p := p) hk
    obtain ⟨b, b1, b2, b3, b4⟩ := sh_own2 (p := p) hk'
    rw [a3, b3] at e
    have := hD c' hc a b a1 b1 e
    subst this
    by_cases e1 : k < p <;> by_cases e2 : k' < p <;> simp [e1] at a4 <;> simp [e2] at b4 <;> omega
  · rw [if_neg ec] at hk hk'
    have := hm c' hc'
    rw [sh_oth (hm c hc) (by omega) ec, sh_oth (hm c hc) (by omega) ec] at e
    exact hD c' hc' k k' hk hk' e
theorem fgo_hb {S : MS} {c p : Nat} (hB : HB S) (hp : p < mn S c) : HB (fgo S c p) := fun x => by
  rw [fgo_a hB hp (by unfold r7; omega)]; exact hB _
theorem fclr_hb {S : MS} {c : Nat} (hB : HB S) : ∀ k, HB (fclr S c k) := by
  intro k
  induction k with
  | zero => exact hB
  | succ k ih =>
    intro x
    rw [fclr, a_f (by decide), a_if]
    by_cases e : (527 : Nat) = 527 ∧ x = 10 * c + k
    · rw [if_pos e]; exact Or.inl rfl
    · rw [if_neg e]; exact ih x
theorem frnd_hb {S : MS} {c : Nat} (hB : HB S) : HB (frnd S c) := by
  unfold frnd
  by_cases q0 : mn S c = 0
  · rw [if_pos q0]; exact hB
  · rw [if_neg q0]
    by_cases q1 : allb S c (mn S c) = true
    · rw [if_pos q1]; exact fclr_hb (fun x => by rw [a_f (by decide)]; exact hB x) _
    · rw [if_neg q1]; exact hB
/-- what a walk over the circles keeps -/
def KP (S S1 : MS) : Prop := SH S1 ∧ DI S1 ∧ HB S1 ∧ nP S1 = nP S ∧ nC S1 = nC S
theorem fjoin_kp {S : MS} {c kp kh : Nat} (hI : SH S) (hD : DI S) (hB : HB S) (hc : c < nC S) (p1 : kp < mn S c) : KP S (fjoin S c kp kh) := by
  unfold fjoin
  obtain ⟨T, hT⟩ : ∃ T, T = S.setA 522 (10 * c + kh) (S.a 522 (10 * c + kh) + S.a 522 (10 * c + kp)) := ⟨_, rfl⟩
  have N : Nm S T := by rw [hT]; exact Nm.rf.st (by decide)
  have hBT : HB T := fun x => by rw [hT, a_f (by decide)]; exact hB x
  have hcT : c < nC T := by rw [N.c]; exact hc
  have hpT : kp < mn T c := by rw [N.m]; exact p1
  rw [← hT]
  have N2 : Nm (fgo T c kp) (frnd (fgo T c kp) c) := frnd_Nm
  exact ⟨N2.sh (fgo_sh (N.sh hI) hBT hcT hpT), N2.di (fgo_di (N.sh hI) hBT (N.di hD) hcT hpT), frnd_hb (fgo_hb hBT hpT), by rw [N2.p, fgo_p.1, N.p], by rw [N2.c, fgo_p.2, N.c]⟩
theorem fwho_kp {S : MS} {c kp h : Nat} (hI : SH S) (hD : DI S) (hB : HB S) (hc : c < nC S) (p1 : kp < mn S c) (hh : h < nP S) (hn : ∀ k, k < mn S c → wh S (10 * c + k) ≠ h) : KP S (S.setA 521 (10 * c + kp) (nI h)) := by
  have hm : ∀ c', c' < nC S → mn S c' ≤ 10 := fun c' hc' => (hI.2.2.2.2 c' hc').2.1
  have h16 := hI.2.1
  have em : mn (S.setA 521 (10 * c + kp) (nI h)) = mn S := mn_setA (by decide)
  have e1 : wh (S.setA 521 (10 * c + kp) (nI h)) (10 * c + kp) = h := by unfold wh; rw [a_e, nI_clamp (by omega)]
  have e2 : ∀ x, x ≠ 10 * c + kp → wh (S.setA 521 (10 * c + kp) (nI h)) x = wh S x := fun x hx => by unfold wh; rw [a_b hx]
  obtain ⟨i1, i2, i3, i4, i5⟩ := hI
  refine ⟨⟨i1, i2, i3, i4, fun c' hc' => ?_⟩, fun c' hc' k k' hk hk' e => ?_, fun x => by rw [a_f (by decide)]; exact hB x, rfl, rfl⟩
  · obtain ⟨j1, j2, j3⟩ := i5 c' hc'
    rw [em, a_f (by decide)]
    refine ⟨j1, j2, fun k hk => ?_⟩
    by_cases e : 10 * c' + k = 10 * c + kp
    · rw [e, e1, a_e]; exact ⟨rfl, hh⟩
    · rw [e2 _ e, a_b e]; exact j3 k hk
  · rw [em] at hk hk'
    have hc' : c' < nC S := hc'
    have m1 := hm c hc
    have m2 := hm c' hc'
    by_cases a : 10 * c' + k = 10 * c + kp <;> by_cases b : 10 * c' + k' = 10 * c + kp
    · omega
    · rw [a, e1, e2 _ b] at e
      have : c' = c := by omega
      subst this
      exact absurd e.symm (hn k' hk')
    · rw [b, e1, e2 _ a] at e
      have : c' = c := by omega
      subst this
      exact absurd e (hn k hk)
    · rw [e2 _ a, e2 _ b] at e
      exact hD c' hc' k k' hk hk' e
theorem fpass_kp {S : MS} {c p h : Nat} (hI : SH S) (hD : DI S) (hB : HB S) (hc : c < nC S) (hh : h < nP S) : KP S (fpass S c p h) := by
  unfold fpass
  cases ep : pl S c p with
  | none => exact ⟨hI, hD, hB, rfl, rfl⟩
  | some kp =>
    obtain ⟨p1, p2⟩ := plc_some _ ep
    cases eh : pl S c h with
    | none => exact fwho_kp hI hD hB hc p1 hh (plc_none _ eh)
    | some kh => exact fjoin_kp hI hD hB hc p1
def fdie (S : MS) (p h : Nat) : Nat → MS × Int32
  | 0 => (S, 0)
  | k + 1 => (fpass (fdie S p h k).1 k p h, (fdie S p h k).2 + cpass (fdie S p h k).1 k p h)
theorem fdie_kp {S : MS} {p h : Nat} (hI : SH S) (hD : DI S) (hB : HB S) (hh : h < nP S) : ∀ k, k ≤ nC S → KP S (fdie S p h k).1 := by
  intro k
  induction k with
  | zero => intro _; exact ⟨hI, hD, hB, rfl, rfl⟩
  | succ k ih =>
    intro hk
    obtain ⟨a, b, c, d, e⟩ := ih (by omega)
    obtain ⟨a', b', c', d', e'⟩ := fpass_kp (p := p) (h := h) a b c (by rw [e]; omega : k < nC (fdie S p h k).1) (by rw [d]; exact hh)
    exact ⟨a', b', c', d'.trans d, e'.trans e⟩
theorem fjoin_s {S : MS} {c kp kh f : Nat} : (fjoin S c kp kh).s f = S.s f := by
  unfold fjoin; rw [frnd_s, fgo_s, setA_s]
theorem fpass_s {S : MS} {c p h f : Nat} : (fpass S c p h).s f = S.s f := by
  unfold fpass
  cases ep : pl S c p with
  | none => rfl
  | some kp =>
    cases eh : pl S c h with
    | none => exact setA_s
    | some kh => exact fjoin_s
theorem fdie_s {S : MS} {p h f : Nat} : ∀ k, (fdie S p h k).1.s f = S.s f := by
  intro k
  induction k with
  | zero => rfl
  | succ k ih => rw [fdie, fpass_s, ih]
def fdied (S : MS) (p h : Nat) : MS := (fdie (fleaves (S.setS 500 0) p h) p h (nC S)).1
/-- what die answers and does -/
def I_die (S : MS) (x1 x2 : Int32) (r : Int32) (S' : MS) : Prop :=
  (S' = S.setS 500 1 ∧ ((x1 < 0 ∨ nI (nP S) ≤ x1) ∨ (x2 < 0 ∨ nI (nP S) ≤ x2))) ∨ (S' = S.setS 500 2 ∧ x1 = x2) ∨ (∃ p q, p < nP S ∧ q < nP S ∧ x1 = nI p ∧ x2 = nI q ∧ S' = S.setS 500 3 ∧ (¬ S.a 512 p = 0 ∨ ¬ S.a 512 q = 0 ∨ ¬ S.a 505 p + S.a 505 q ≤ 100)) ∨
  ∃ p q, p < nP S ∧ q < nP S ∧ x1 = nI p ∧ x2 = nI q ∧ p ≠ q ∧ S.a 512 p = 0 ∧ S.a 512 q = 0 ∧ S.a 505 p + S.a 505 q ≤ 100 ∧ S' = fdied S p q
theorem o_die {w : Wd} {G : GH} {S : MS} {x1 x2 : Int32} (h : RC w G S S) (hI : SH S) (hDI : DI S) (hB : HB S) (hD : ∀ i, i < nP S → ¬ S.a 506 i < 0) : OX w G S (fun Q => wp_L_die (some G.x) x1 x2 (some G.o) w Q) (fun Q => sp_X4_die x1 x2 S Q) (I_die S x1 x2) := by
  have hn := hI.2.1
  have hnc := hI.2.2.2.1
  have er : ∀ k : Int32, k ≠ 0 → ∀ (P : Prop) (v7 : Int32), v7 = (S.setS 500 k).s 500 → (v7 = 0 → P) ∧ (¬ v7 = 0 → (k = 0 → (0 : Int32) = 0) ∧ S.setS 500 k = S.setS 500 k) :=
    fun k hk P v7 h7 => ⟨fun z => absurd (show k = 0 from h7.symm.trans z) hk, fun _ => ⟨fun z => absurd z hk, rfl⟩⟩
  rcases ix_p x1 hn with hx | ⟨p, hp, rfl⟩
  · refine ⟨1, 0, S.setS 500 1, rfl, Or.inl ⟨rfl, Or.inl hx⟩, fun Q hQ => ?_, ?_⟩
    · exact ⟨G.x, rfl, h.kx, h.kx, k_personAt h hn (fun i hi e => absurd hx (by rw [e]; exact ix_ne hi hn)) (fun _ => Or.inl ⟨rfl, hQ w G rfl rfl rfl h.thrown (fun z => by cases z)⟩)⟩
    · refine m_isOne_n hI hx ⟨fun y S5 => y = 1 ∧ S5 = S, fun y S5 hy S6 h6 v7 h7 => ?_, fun S42 => S42 = S, fun S42 hs => ⟨rfl, hs⟩, fun _ => rfl, fun z => absurd rfl z⟩
      obtain ⟨rfl, rfl⟩ := hy
      subst h6
      exact er 1 (by decide) _ _ h7
  have hp16 : p < 16 := by omega
  rcases ix_p x2 hn with hx | ⟨q, hq, rfl⟩
  · refine ⟨1, 0, S.setS 500 1, rfl, Or.inl ⟨rfl, Or.inr hx⟩, fun Q hQ => ?_, ?_⟩
    · exact ⟨G.x, rfl, h.kx, h.kx, k_personAt h hn (fun j hj e => ⟨h.kx, k_personAt h hn (fun i hi e => absurd hx (by rw [e]; exact ix_ne hi hn)) (fun _ => Or.inl ⟨rfl, hQ w G rfl rfl rfl h.thrown (fun z => by cases z)⟩)⟩) (fun z => absurd z (ix_ne hp hn))⟩
    · refine m_isOne_y hI hp ⟨fun y S5 => y = 1 ∧ S5 = S, fun y S5 hy S6 h6 v7 h7 => ?_, fun S42 => S42 = S, fun S42 hs => ⟨rfl, hs⟩, fun z => absurd z (by decide), fun _ => m_isOne_n hI hx ⟨fun z => absurd rfl z, fun _ => rfl⟩⟩
      obtain ⟨rfl, rfl⟩ := hy
      subst h6
      exact er 1 (by decide) _ _ h7
  have hq16 : q < 16 := by omega
  have epq : nI p = nI q ↔ p = q := nI_eq (by omega) (by omega)
  by_cases hpq : p = q
  · refine ⟨2, 0, S.setS 500 2, rfl, Or.inr (Or.inl ⟨rfl, epq.mpr hpq⟩), fun Q hQ => ?_, ?_⟩
    · exact ⟨G.x, rfl, h.kx, h.kx, k_personAt h hn (fun j hj e => ⟨h.kx, k_personAt h hn (fun i hi e => ⟨fun z => absurd (epq.mpr hpq) z, fun _ => Or.inr (Or.inl ⟨rfl, hQ w G rfl rfl rfl h.thrown (fun z => by cases z)⟩)⟩) (fun z => absurd z (ix_ne hq hn))⟩) (fun z => absurd z (ix_ne hp hn))⟩
    · refine m_isOne_y hI hp ⟨fun y S5 => y = 2 ∧ S5 = S, fun y S5 hy S6 h6 v7 h7 => ?_, fun S42 => False, fun S42 hs => hs.elim, fun z => absurd z (by decide), fun _ => m_isOne_y hI hq ⟨fun _ => ⟨fun z => absurd (epq.mpr hpq) z, fun _ => ⟨rfl, rfl⟩⟩, fun z => absurd z (by decide)⟩⟩
      obtain ⟨rfl, rfl⟩ := hy
      subst h6
      exact er 2 (by decide) _ _ h7
  have npq : ¬ nI p = nI q := fun z => hpq (epq.mp z)
  have g12 : ∀ i, i < nP S → w.I 212 (G.P i) = S.a 512 i := fun i hi => h.get (k := 2) (f := 212) (r := 512) (by decide) hi
  have g5 : ∀ i, i < nP S → w.I 205 (G.P i) = S.a 505 i := fun i hi => h.get (k := 2) (f := 205) (r := 505) (by decide) hi
  by_cases hb : ¬ S.a 512 p = 0 ∨ ¬ S.a 512 q = 0 ∨ ¬ S.a 505 p + S.a 505 q ≤ 100
  · refine ⟨3, 0, S.setS 500 3, rfl, Or.inr (Or.inr (Or.inl ⟨p, q, hp, hq, rfl, rfl, rfl, hb⟩)), fun Q hQ => ?_, ?_⟩
    · refine ⟨G.x, rfl, h.kx, h.kx, k_personAt h hn (fun j hj e => ⟨h.kx, k_personAt h hn (fun j2 hj2 e2 => ⟨fun _ => ?_, fun z => absurd z npq⟩) (fun z => absurd z (ix_ne hq hn))⟩) (fun z => absurd z (ix_ne hp hn))⟩
      obtain rfl : p = j := (nI_eq (by omega) (by omega)).mp e
      obtain rfl : q = j2 := (nI_eq (by omega) (by omega)).mp e2
      refine ⟨_, rfl, h.kP hp, fun v6 h6 => ⟨True, fun _ => Or.inr (Or.inr ⟨rfl, hQ w G rfl rfl rfl h.thrown (fun z => by cases z)⟩), fun _ => trivial, fun z1 => ⟨_, rfl, h.kP hq, fun v9 h9 => ⟨fun _ => trivial, fun z2 => ⟨h.kP hp, fun v10 h10 => ⟨h.kP hq, fun v11 h11 v12 h12 => ⟨fun z3 => ?_, fun _ => trivial⟩⟩⟩⟩⟩⟩⟩
      rw [h12, h10, h11, g5 p hp, g5 q hq] at z3
      exact (hb.elim (fun a => a (by rw [← g12 p hp, ← h6]; exact z1)) (fun a => a.elim (fun a => a (by rw [← g12 q hq, ← h9]; exact z2)) (fun a => a z3))).elim
    · refine m_isOne_y hI hp ⟨fun y S5 => y = 3 ∧ S5 = S, fun y S5 hy S6 h6 v7 h7 => ?_, fun S42 => False, fun S42 hs => hs.elim, fun z => absurd z (by decide), fun _ => m_isOne_y hI hq ⟨fun _ => ⟨fun _ => ⟨p, rfl, hp16, fun v46 h46 => ⟨True, fun _ => ⟨rfl, rfl⟩, fun _ => trivial, fun z1 => ⟨q, rfl, hq16, fun v49 h49 => ⟨fun _ => trivial, fun z2 => ⟨p, rfl, hp16, fun v51 h51 => ⟨q, rfl, hq16, fun v53 h53 v54 h54 => ⟨fun z3 => ?_, fun _ => trivial⟩⟩⟩⟩⟩⟩⟩, fun z => absurd z npq⟩, fun z => absurd z (by decide)⟩⟩
      · obtain ⟨rfl, rfl⟩ := hy
        subst h6
        exact er 3 (by decide) _ _ h7
      · rw [h54, h51, h53] at z3
        exact (hb.elim (fun a => a (h46.symm.trans z1)) (fun a => a.elim (fun a => a (h49.symm.trans z2)) (fun a => a z3))).elim
  have b1 : S.a 512 p = 0 := Classical.byContradiction fun z => hb (Or.inl z)
  have b2 : S.a 512 q = 0 := Classical.byContradiction fun z => hb (Or.inr (Or.inl z))
  have b3 : S.a 505 p + S.a 505 q ≤ 100 := Classical.byContradiction fun z => hb (Or.inr (Or.inr z))
  obtain ⟨T, hT⟩ : ∃ T, T = fleaves (S.setS 500 0) p q := ⟨_, rfl⟩
  have N0 : Nm S (S.setS 500 0) := Nm.rf.ss (by decide)
  have N : Nm S T := by rw [hT]; exact N0.tr fleaves_Nm
  have hIT := N.sh hI
  have hDT := N.di hDI
  have hBT : HB T := fun x => by rw [hT, fleaves_a (by decide) (by decide) (by decide) (by decide) (by decide) (by decide) (by decide)]; exact hB x
  have hpT : p < nP T := by rw [N.p]; exact hp
  have hqT : q < nP T := by rw [N.p]; exact hq
  have eC : nC T = nC S := N.c
  have hfd : fdied S p q = (fdie T p q (nC S)).1 := by unfold fdied; rw [hT]
  have hthr : (fdied S p q).s 500 = 0 := by rw [hfd, fdie_s, hT, fleaves_s]; rfl
  refine ⟨0, (fdie T p q (nC S)).2, fdied S p q, hthr, Or.inr (Or.inr (Or.inr ⟨p, q, hp, hq, rfl, rfl, hpq, b1, b2, b3, rfl⟩)), fun Q hQ => ?_, ?_⟩
  · refine ⟨G.x, rfl, h.kx, h.kx, k_personAt h hn (fun j hj e => ⟨h.kx, k_personAt h hn (fun j2 hj2 e2 => ⟨fun _ => ?_, fun z => absurd z npq⟩) (fun z => absurd z (ix_ne hq hn))⟩) (fun z => absurd z (ix_ne hp hn))⟩
    obtain rfl : p = j := (nI_eq (by omega) (by omega)).mp e
    obtain rfl : q = j2 := (nI_eq (by omega) (by omega)).mp e2
    refine ⟨_, rfl, h.kP hp, fun v6 h6 => ⟨False, fun z => z.elim, fun z => z (by rw [h6, g12 p hp]; exact b1), fun _ => ⟨_, rfl, h.kP hq, fun v9 h9 => ⟨fun z => z (by rw [h9, g12 q hq]; exact b2), fun _ => ⟨h.kP hp, fun v10 h10 => ⟨h.kP hq, fun v11 h11 v12 h12 => ⟨fun _ => ⟨h.kP hp, ?_⟩, fun z => z (by rw [h12, h10, h11, g5 p hp, g5 q hq]; exact b3)⟩⟩⟩⟩⟩⟩⟩
    refine k_bequeath (S := S.setS 500 0) h.thrown hp hq hpq hD (fun w13 q13 => ?_)
    rw [← hT] at q13
    refine ⟨fun n y16 y17 w18 => ∃ k G', k ≤ nC S ∧ n = nC S - k ∧ y17 = nI k ∧ y16 = (fdie T p q k).2 ∧ GE G G' ∧ RC w18 G' (fdie T p q k).1 S, ⟨_, 0, G, Nat.zero_le _, rfl, rfl, rfl, GE.rf, q13⟩, fun n y16 y17 w18 hIv => ?_⟩
    obtain ⟨k, G', hk, rfl, rfl, rfl, gE, q18⟩ := hIv
    obtain ⟨kI, kD, kB, kP, kC⟩ := fdie_kp (p := p) hIT hDT hBT hqT k (by omega)
    obtain ⟨U, hU⟩ : ∃ U, U = (fdie T p q k).1 := ⟨_, rfl⟩
    have hU1 : (fdie T p q (k + 1)).1 = fpass U k p q := by rw [hU]; rfl
    have hU2 : (fdie T p q (k + 1)).2 = (fdie T p q k).2 + cpass U k p q := by rw [hU]; rfl
    rw [← hU] at q18 kI kD kB kP kC
    rw [eC] at kC
    have eU : ((List.range (nC U)).map G'.C).length = nC S := by rw [map_len, kC]
    refine ⟨by rw [← gE.1]; exact q18.kx, fun z19 h19 => ⟨G'.li 1, by rw [h19, ← gE.1]; exact q18.2.2.1.2.2.1, q18.lC.1, s_size q18.lC ?_⟩⟩
    rw [eU]
    refine ⟨fun hcc => ?_, fun hcc => ⟨by rw [← gE.1]; exact q18.kx, fun z23 h23 => ⟨G'.li 1, by rw [h23, ← gE.1]; exact q18.2.2.1.2.2.1, q18.lC.1, ?_⟩⟩⟩
    · have := (nI_leI (by omega) (by omega)).mp hcc
      have e : k = nC S := by omega
      have qf : RC w18 G' (fdied S p q) S := by rw [hfd, ← e, ← hU]; exact q18
      rw [e, ← gE.2.1]
      exact out_ok (G := G') qf (fun w1 q' r => hQ w1 G' gE.1 gE.2.1 gE.2.2.1 q' (fun _ => by rw [← gE.2.1]; exact r))
    · have hk2 : k < nC S := Nat.lt_of_not_le (fun z => hcc (nI_le z (by omega)))
      have hkU : k < nC U := by rw [kC]; exact hk2
      refine s_get q18.als q18.lC rfl (by rw [eU]; exact hk2) ?_
      rw [map_get hkU]
      refine ⟨fun y hy => by cases hy; exact q18.kC hkU, _, rfl, q18.kC hkU, ?_⟩
      rw [← gE.2.2.2.1]
      refine k_passOn q18 kI kD kB hkU (by rw [kP]; exact hpT) (by rw [kP]; exact hqT) (fun w29 G2 gE2 q29 => ?_)
      rw [← hU1] at q29
      refine ⟨fun y => y = (fdie T p q (k + 1)).2, fun y32 hy v33 h33 => ⟨nC S - (k + 1), by omega, k + 1, G2, by omega, rfl, by rw [h33, nI_1], hy, gE.tr gE2, q29⟩, fun z => ?_, fun z v34 h34 => ?_⟩
      · rw [hU2, z, Int32.add_zero]
      · rw [hU2, h34]
        congr 1
        unfold cpass at z ⊢
        cases ep : pl U k p with
        | none => rw [ep] at z; exact absurd rfl z
        | some kp =>
          rw [ep] at z
          cases eh : pl U k q with
          | none => rfl
          | some kh => rw [eh] at z; exact absurd rfl z
  · refine m_isOne_y hI hp ⟨fun y S5 => y = 0 ∧ S5 = S, fun y S5 hy S6 h6 v7 h7 => ?_, fun S42 => False, fun S42 hs => hs.elim, fun z => absurd z (by decide), fun _ => m_isOne_y hI hq ⟨fun _ => ⟨fun _ => ⟨p, rfl, hp16, fun v46 h46 => ⟨False, fun z => z.elim, fun z => z (h46.trans b1), fun _ => ⟨q, rfl, hq16, fun v49 h49 => ⟨fun z => z (h49.trans b2), fun _ => ⟨p, rfl, hp16, fun v51 h51 => ⟨q, rfl, hq16, fun v53 h53 v54 h54 => ⟨fun _ => ⟨rfl, rfl⟩, fun z => z (by rw [h54, h51, h53]; exact b3)⟩⟩⟩⟩⟩⟩⟩, fun z => absurd z npq⟩, fun z => absurd z (by decide)⟩⟩
    obtain ⟨rfl, rfl⟩ := hy
    rw [h6] at h7 ⊢
    refine ⟨fun _ => m_leaves hp16 hq16 ?_, fun z => absurd h7 z⟩
    rw [← hT]
    refine ⟨fun n y11 y12 S13 => ∃ k, k ≤ nC S5 ∧ n = nC S5 - k ∧ y12 = nI k ∧ y11 = (fdie T p q k).2 ∧ S13 = (fdie T p q k).1, ⟨_, 0, Nat.zero_le _, rfl, rfl, rfl, rfl⟩, fun n y11 y12 S13 hIv v14 h14 => ?_⟩
    obtain ⟨k, hk, rfl, rfl, rfl, rfl⟩ := hIv
    obtain ⟨kI, kD, kB, kP, kC⟩ := fdie_kp (p := p) hIT hDT hBT hqT k (by omega)
    obtain ⟨U, hU⟩ : ∃ U, U = (fdie T p q k).1 := ⟨_, rfl⟩
    have hU1 : (fdie T p q (k + 1)).1 = fpass U k p q := by rw [hU]; rfl
    have hU2 : (fdie T p q (k + 1)).2 = (fdie T p q k).2 + cpass U k p q := by rw [hU]; rfl
    rw [← hU] at h14 kI kD kB kP kC ⊢
    rw [eC] at kC
    rw [kI.2.2.1, kC] at h14; subst h14
    refine ⟨fun hcc => ?_, fun hcc => ?_⟩
    · have := (nI_leI (by omega) (by omega)).mp hcc
      have e : k = nC S5 := by omega
      refine ⟨fun _ => by rw [e], by rw [hU, e, hfd]⟩
    · have hk2 : k < nC S5 := Nat.lt_of_not_le (fun z => hcc (nI_le z (by omega)))
      have hkU : k < nC U := by rw [kC]; exact hk2
      have mU := (kI.2.2.2.2 k hkU).2.1
      have hk4 : k < 4 := by omega
      refine m_pl kI kD hkU (by rw [kP]; exact hpT) (m_pl kI kD hkU (by rw [kP]; exact hqT) ?_)
      refine ⟨fun y S21 => y = (fdie T p q (k + 1)).2 ∧ S21 = (fdie T p q (k + 1)).1, fun y20 S21 hj v22 h22 => ⟨nC S5 - (k + 1), by omega, k + 1, by omega, rfl, by rw [h22, nI_1], hj.1, hj.2⟩, ?_⟩
      rw [hU1, hU2]
      unfold fpass cpass
      cases ep : pl U k p with
      | none =>
        refine ⟨True, fun _ => ⟨fun _ => ⟨(Int32.add_zero _).symm, rfl⟩, fun z => absurd (show (-1 : Int32) < 0 by decide) z⟩, fun _ => trivial, fun z => absurd (show (-1 : Int32) < 0 by decide) z⟩
      | some kp =>
        obtain ⟨p1, p2⟩ := plc_some _ ep
        have nneg : ¬ (tI (some kp) : Int32) < 0 := nI_pos (by omega)
        have hj1 : 10 * k + kp < 40 := by omega
        cases eh : pl U k q with
        | none =>
          refine ⟨True, fun _ => ⟨fun z => absurd z nneg, fun _ v24 h24 v25 h25 => ?_⟩, fun z => absurd z nneg, fun _ => ⟨fun _ => trivial, fun z => absurd (show (-1 : Int32) < 0 by decide) z⟩⟩
          rw [h24] at h25
          refine ⟨_, h25.trans at_ix, hj1, fun S27 h27 v28 h28 => ⟨h28, h27⟩⟩
        | some kh =>
          obtain ⟨e1, e2⟩ := plc_some _ eh
          have nneg2 : ¬ (tI (some kh) : Int32) < 0 := nI_pos (by omega)
          have hj2 : 10 * k + kh < 40 := by omega
          refine ⟨False, fun z => z.elim, fun z => nneg z, fun _ => ⟨fun z => nneg2 z, fun _ v29 h29 v30 h30 => ?_⟩⟩
          rw [h29] at h30
          have h30 : v30 = nI (10 * k + kh) := h30.trans at_ix
          refine ⟨_, h30, hj2, fun v32 h32 v33 h33 v34 h34 => ?_⟩
          rw [h33] at h34
          refine ⟨_, h34.trans at_ix, hj1, fun v36 h36 v37 h37 => ⟨_, h30, hj2, fun S39 h39 => ?_⟩⟩
          have N39 : Nm U S39 := by rw [h39]; exact Nm.rf.st (by decide)
          refine m_goes (N39.sh kI) (fun x => by rw [h39, a_f (by decide)]; exact kB x) (by rw [N39.c]; exact hkU) (by rw [N39.m]; exact p1) ⟨(Int32.add_zero _).symm, ?_⟩
          unfold fjoin
          rw [h39, h37, h36, h32]
