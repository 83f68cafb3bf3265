-- ===== the ledger: places come and go
theorem BG.cong {k : Nat} {S S' : MS} {T : Nat → Int} {e j w s : Nat} {o1 o2 : Nat → Nat} {F : Int} (h : BG k S T e j w s o1 o2 F) (hp : Sm [504, 506, 511, 512, 516, 517, 518, 520, 521, 522] S S') (h8 : S'.s 528 = S.s 528) (hE : S'.s 529 = S.s 529) : BG k S' T e j w s o1 o2 F := by
  obtain ⟨g1, g2, g3, g4, g5, g6, ⟨g7, g7a, g7b⟩, g8, g9, g10, g11, g12, g13⟩ := h
  have em : ∀ c, mn S' c = mn S c := fun c => by unfold mn; rw [hp 517 (by decide)]
  have ew : ∀ y, wh S' y = wh S y := fun y => by unfold wh; rw [hp 521 (by decide)]
  have e18 : ∀ c, S'.a 518 c = S.a 518 c := fun c => hp 518 (by decide) c
  have e12 : ∀ c, S'.a 512 c = S.a 512 c := fun c => hp 512 (by decide) c
  have emt : mt S' = mt S := by unfold mt; rw [e18, e18]
  have eAA : AAm S' = AAm S := by unfold AAm; rw [asum_same (hp.sub (by decide)), asum_same (hp.sub (by decide))]
  have eBB : BBm S' = BBm S := BB_same (hp.sub (by decide))
  have eDD : DDm S' = DDm S := DD_same (hp.sub (by decide))
  refine ⟨g1.sm (hp.sub (by decide)), fun q hq => ?_, g3, fun c k hc hk => ?_, fun c hc => by rw [e18]; exact g5 c hc, fun q x y hq hl hx hy => ?_, ⟨by rw [emt]; exact g7, fun c hc => by rw [hp 520 (by decide)]; exact g7a c hc, g7b⟩, fun q hq => ?_, fun q hq => ?_, fun q hq hl => ?_, g11, g12, by rw [emt]; exact g13⟩
  · rw [e12, hp 506 (by decide)]; exact g2 q hq
  · rw [em] at hk
    rw [ew, hp 522 (by decide), e18]; exact g4 c k hc hk
  · rw [e12] at hl
    have a1 := g6 q x y hq hl (hx.same (hp.sub (by decide))) (hy.same (hp.sub (by decide)))
    rw [emt, eDD]; exact a1
  · rw [eDD]; exact g8 q hq
  · rw [emt, eAA, eBB, eDD, h8]; exact g9 q hq
  · rw [e12] at hl
    rw [hE, hp 504 (by decide)]; exact g10 q hq hl
theorem BG.up {k : Nat} {S : MS} {T : Nat → Int} {e j w s : Nat} {o1 o2 : Nat → Nat} {F : Int} (h : BG k S T e j w s o1 o2 F) : BG (k + 1) S T e j w s o1 o2 F := by
  obtain ⟨g1, g2, g3, g4, g5, g6, ⟨g7, g7a, g7b⟩, g8, g9, g10, g11, g12, g13⟩ := h
  exact ⟨g1, g2, g3, g4, g5, g6, ⟨by omega, g7a, g7b⟩, fun q hq => by have := g8 q hq; omega, g9, g10, g11, g12, g13⟩
theorem BB_up {S S' : MS} {c : Nat} (hc : c < 4) (hf : ∀ x, x ≠ c → S'.a 516 x = S.a 516 x) : BBm S' = BBm S - (S.a 516 c).toInt + (S'.a 516 c).toInt := sumf_up hf 4 hc
/-- out of a box -/
theorem BG.give {k : Nat} {S : MS} {T : Nat → Int} {e j w s : Nat} {o1 o2 : Nat → Nat} {F : Int} (h : BG k S T e j w s o1 o2 F) {c i a : Nat} {v : Int32} (hc : c < 4) (hi : i < 16) (hl : S.a 512 i = 0) (h0 : 0 ≤ v.toInt) (h1 : v.toInt ≤ (S.a 516 c).toInt) (mo : MO 0 a S) (ha : a ≤ 512) : BG k (fgive S c i v) (tu T i (-v.toInt)) e j w s o1 o2 F ∧ MO 0 a (fgive S c i v) := by
  have moG := mo.give hc hi h0 h1 (by omega)
  refine ⟨?_, moG⟩
  obtain ⟨g1, g2, g3, g4, g5, g6, g7, g8, g9, g10, g11, g12, g13⟩ := h
  have ea : ∀ r x, r ≠ 504 → r ≠ 511 → r ≠ 516 → (fgive S c i v).a r x = S.a r x := fun r x h1 h2 h3 => fgive_a h1 h2 h3
  have sm : ∀ R : List Nat, (∀ r, r ∈ R → r ≠ 504 ∧ r ≠ 511 ∧ r ≠ 516) → Sm R S (fgive S c i v) := fun R hR r hr x => ea r x (hR r hr).1 (hR r hr).2.1 (hR r hr).2.2
  have e12 : ∀ x, (fgive S c i v).a 512 x = S.a 512 x := fun x => ea 512 x (by decide) (by decide) (by decide)
  have e18 : ∀ x, (fgive S c i v).a 518 x = S.a 518 x := fun x => ea 518 x (by decide) (by decide) (by decide)
  have emt : mt (fgive S c i v) = mt S := by unfold mt; rw [e18, e18]
  have eAA : AAm (fgive S c i v) = AAm S := by unfold AAm; rw [asum_same (sm _ (by decide)), asum_same (sm _ (by decide))]
  have eDD : DDm (fgive S c i v) = DDm S := DD_same (sm _ (by decide))
  have e8 : (fgive S c i v).s 528 = S.s 528 := rfl
  have e9 : (fgive S c i v).s 529 = S.s 529 := rfl
  have em : ∀ c', mn (fgive S c i v) c' = mn S c' := fun c' => by unfold mn; rw [ea 517 _ (by decide) (by decide) (by decide)]
  have ew : ∀ y, wh (fgive S c i v) y = wh S y := fun y => by unfold wh; rw [ea 521 _ (by decide) (by decide) (by decide)]
  have hbx := z_hi (S.a 516 c)
  have eBB : BBm (fgive S c i v) = BBm S - v.toInt := by
    have b1 : (fgive S c i v).a 516 c = S.a 516 c - v := by unfold fgive; rw [fpay_a (by decide) (by decide), a_e]
    have := BB_up (S := S) (S' := fgive S c i v) hc (fun x hx => by unfold fgive; rw [fpay_a (by decide) (by decide), a_b hx])
    rw [b1, z_sub (by omega) (by omega)] at this
    omega
  have hp0 := mo.1 i hi
  have hpm := mo.pm hi
  have hbm := mo.bm hc
  have hg := fun q => get_pu (S := S.setA 516 c (S.a 516 c - v)) (i := i) (q := q) (v := v) h0 (by rw [a_f (by decide)]; exact hp0) (by rw [a_f (by decide)]; omega)
  have e4 : ∀ q, ((fgive S c i v).a 504 q).toInt = (S.a 504 q).toInt + if q = i then v.toInt else 0 := fun q => by
    have := hg q
    rw [a_f (by decide)] at this
    exact this
  have kt : ∀ q, tu T i (-v.toInt) q = T q - if q = i then v.toInt else 0 := fun q => by
    by_cases z : q = i
    · rw [z, tu_e, if_pos rfl]; omega
    · rw [tu_n z, if_neg z]; omega
  have tle : ∀ q, tu T i (-v.toInt) q ≤ T q ∧ T q - v.toInt ≤ tu T i (-v.toInt) q := fun q => by
    rw [kt q]
    by_cases z : q = i
    · rw [if_pos z]; omega
    · rw [if_neg z]; omega
  have tpu : ∀ q, tu T i (-v.toInt) q + ((fgive S c i v).a 504 q).toInt = T q + (S.a 504 q).toInt := fun q => by
    rw [kt q, e4 q]; omega
  have g10' : ∀ q, q < 7 → (fgive S c i v).a 512 q = 0 → ((fgive S c i v).s 529).toInt - (tu T i (-v.toInt) q + ((fgive S c i v).a 504 q).toInt) ≤ 1200 + 539 * e := fun q hq hl => by
    rw [e12] at hl
    rw [e9, tpu q]; exact g10 q hq hl
  refine ⟨?_, fun q hq => ?_, g3, fun c k hc hk => ?_, fun c hc => by rw [e18]; exact g5 c hc, fun q x y hq hl hx hy => ?_, ⟨by rw [emt]; exact g7.1, fun c hc => by rw [ea 520 _ (by decide) (by decide) (by decide)]; exact g7.2.1 c hc, g7.2.2⟩, fun q hq => ?_, fun q hq => ?_, g10', fun q hq => ?_, g12, by rw [emt]; exact g13⟩
  · exact (g1.sm (S' := S.setA 516 c (S.a 516 c - v)) (Sm.rf.st (by decide))).neg
  · rw [e12, ea 506 _ (by decide) (by decide) (by decide)]; exact g2 q hq
  · rw [em] at hk
    rw [ew, ea 522 _ (by decide) (by decide) (by decide), e18]; exact g4 c k hc hk
  · rw [e12] at hl
    have a1 := g6 q x y hq hl (hx.same (sm _ (by decide))) (hy.same (sm _ (by decide)))
    have a2 := tle q
    rw [emt, eDD]; omega
  · have a1 := g8 q hq
    have a2 := tle q
    rw [eDD]; omega
  · have a1 := g9 q hq
    have a2 := tle q
    rw [emt, eAA, eBB, eDD, e8]; omega
  · by_cases z : q = i
    · have a1 := g10' q hq (by rw [e12, z]; exact hl)
      have a2 := pu_er moG (show q < 16 by omega)
      omega
    · rw [tu_n z]; exact g11 q hq
theorem frnd_smB {S : MS} {c : Nat} : Sm [504, 506, 511, 512, 516, 517, 518, 520, 521, 522] S (frnd S c) := fun r hr x => by
  have : r = 504 ∨ r = 506 ∨ r = 511 ∨ r = 512 ∨ r = 516 ∨ r = 517 ∨ r = 518 ∨ r = 520 ∨ r = 521 ∨ r = 522 := by simpa using hr
  exact frnd_a (by omega) (by omega) (by omega)
theorem BG.rnd {k : Nat} {S : MS} {T : Nat → Int} {e j w s : Nat} {o1 o2 : Nat → Nat} {F : Int} (h : BG k S T e j w s o1 o2 F) (c : Nat) : BG k (frnd S c) T e j w s o1 o2 F := h.cong frnd_smB frnd_s frnd_s
theorem BG.thr {k : Nat} {S : MS} {T : Nat → Int} {e j w s : Nat} {o1 o2 : Nat → Nat} {F : Int} {y : Int32} (h : BG k S T e j w s o1 o2 F) : BG k (S.setS 500 y) T e j w s o1 o2 F := h.cong Sm.rf.ss rfl rfl
/-- a row with one left out -/
theorem sumf_del {f g : Nat → Int32} {p : Nat} (hg : ∀ k, g k = if k < p then f k else f (k + 1)) : ∀ n, p ≤ n → sumf g n = sumf f (n + 1) - (f p).toInt := by
  intro n
  induction n with
  | zero =>
    intro h
    have : p = 0 := by omega
    subst this
    show (0 : Int) = 0 + (f 0).toInt - (f 0).toInt
    omega
  | succ n ih =>
    intro h
    rcases Nat.lt_or_ge n p with z | z
    · have e : p = n + 1 := by omega
      subst e
      have e2 : sumf g (n + 1) = sumf f (n + 1) := sumf_ext (n + 1) (fun x hx => by rw [hg x, if_pos hx])
      rw [e2]
      show _ = sumf f (n + 1) + (f (n + 1)).toInt - (f (n + 1)).toInt
      omega
    · rw [sumf, ih z, hg n, if_neg (by omega)]
      show _ = sumf f (n + 1) + (f (n + 1)).toInt - (f p).toInt
      omega
/-- a place without arrears goes -/
theorem BG.go {k : Nat} {S : MS} {T : Nat → Int} {e j w s : Nat} {o1 o2 : Nat → Nat} {F : Int} (h : BG k S T e j w s o1 o2 F) {c p : Nat} (hI : SH S) (hB : HB S) (hc : c < 2) (hcn : c < nC S) (hp : p < mn S c) (hn2 : nC S = 2) (hr0 : (S.a 522 (10 * c + p)).toInt = 0) : BG k (fgo S c p) T e j w s o1 o2 F := by
  obtain ⟨g1, g2, g3, g4, g5, g6, g7, g8, g9, g10, g11, g12, g13⟩ := h
  have hm10 : ∀ c', c' < 2 → mn S c' ≤ 10 := fun c' hc' => (hI.2.2.2.2 c' (by omega)).2.1
  have em : ∀ x, mn (fgo S c p) x = if x = c then mn S c - 1 else mn S x := fun x => fgo_m (hm10 c hc)
  have eo : ∀ r x, r ≠ 517 → (r < 521 ∨ 527 < r) → (fgo S c p).a r x = S.a r x := fun r x a b => fgo_o (by unfold r7; omega) a
  have e22 : ∀ x, (fgo S c p).a 522 x = S.a 522 (sh S c p x) := fun x => fgo_a hB hp (by unfold r7; omega)
  have ew : ∀ x, wh (fgo S c p) x = wh S (sh S c p x) := fun x => fgo_w hB hp
  have oth : ∀ c' k, c' < 2 → c' ≠ c → k < mn S c' → sh S c p (10 * c' + k) = 10 * c' + k := fun c' k h1 h2 h3 => sh_oth (hm10 c hc) (by have := hm10 c' h1; omega) h2
  have pl : ∀ c' k, c' < 2 → k < mn (fgo S c p) c' → ∃ k', k' < mn S c' ∧ sh S c p (10 * c' + k) = 10 * c' + k' := fun c' k hc' hk => by
    rw [em] at hk
    by_cases z : c' = c
    · subst z
      rw [if_pos rfl] at hk
      obtain ⟨k', a1, -, a3, -⟩ := sh_own2 (p := p) hk
      exact ⟨k', a1, a3⟩
    · rw [if_neg z] at hk
      exact ⟨k, hk, oth c' k hc' z hk⟩
  have ar : ∀ c' q x, c' < 2 → AR (fgo S c p) c' q x → AR S c' q x := fun c' q x hc' hx => by
    rcases hx with ⟨k, hk, hw, hx⟩ | ⟨hno, hx⟩
    · obtain ⟨k', a1, a2⟩ := pl c' k hc' hk
      rw [ew, a2] at hw
      rw [e22, a2] at hx
      exact Or.inl ⟨k', a1, hw, hx⟩
    · by_cases hh : ∃ k, k < mn S c' ∧ wh S (10 * c' + k) = q
      · obtain ⟨k, hk, hw⟩ := hh
        refine Or.inl ⟨k, hk, hw, ?_⟩
        by_cases z : c' = c
        · subst z
          have em' := em c'
          rw [if_pos rfl] at em'
          by_cases zk : k = p
          · subst zk; rw [hx, hr0]
          · exfalso
            rcases Nat.lt_or_ge k p with y | y
            · refine hno k (by rw [em']; omega) ?_
              rw [ew, sh_own (by omega), if_pos y]; exact hw
            · refine hno (k - 1) (by rw [em']; omega) ?_
              rw [ew, sh_own (by omega), if_neg (by omega), show k - 1 + 1 = k by omega]; exact hw
        · exfalso
          refine hno k (by rw [em, if_neg z]; exact hk) ?_
          rw [ew, oth c' k hc' z hk]; exact hw
      · exact Or.inr ⟨fun k h1 h2 => hh ⟨k, h1, h2⟩, hx⟩
  have asm : ∀ c', c' < 2 → asum (fgo S c p) c' = asum S c' := fun c' hc' => by
    unfold asum
    rw [em]
    by_cases z : c' = c
    · subst z
      rw [if_pos rfl]
      have hd := sumf_del (f := fun k => S.a 522 (10 * c' + k)) (g := fun k => S.a 522 (10 * c' + if k < p then k else k + 1)) (p := p) (fun k => by
        by_cases y : k < p
        · simp only [if_pos y]
        · simp only [if_neg y]) (mn S c' - 1) (by omega)
      rw [show mn S c' - 1 + 1 = mn S c' by omega] at hd
      have hx : sumf (fun k => (fgo S c' p).a 522 (10 * c' + k)) (mn S c' - 1) = sumf (fun k => S.a 522 (10 * c' + if k < p then k else k + 1)) (mn S c' - 1) := sumf_ext _ (fun k hk => by
        show (fgo S c' p).a 522 (10 * c' + k) = _
        rw [e22, sh_own hk])
      rw [hx, hd]
      show _ - (S.a 522 (10 * c' + p)).toInt = _
      rw [hr0]; omega
    · rw [if_neg z]
      exact sumf_ext _ (fun k hk => by
        show (fgo S c p).a 522 (10 * c' + k) = S.a 522 (10 * c' + k)
        rw [e22, oth c' k hc' z hk])
  have e12 : ∀ x, (fgo S c p).a 512 x = S.a 512 x := fun x => eo 512 x (by decide) (by decide)
  have e18 : ∀ x, (fgo S c p).a 518 x = S.a 518 x := fun x => eo 518 x (by decide) (by decide)
  have emt : mt (fgo S c p) = mt S := by unfold mt; rw [e18, e18]
  have eAA : AAm (fgo S c p) = AAm S := by unfold AAm; rw [asm 0 (by decide), asm 1 (by decide)]
  have sm : ∀ R : List Nat, (∀ r, r ∈ R → r ≠ 517 ∧ (r < 521 ∨ 527 < r)) → Sm R S (fgo S c p) := fun R hR r hr x => eo r x (hR r hr).1 (hR r hr).2
  have eDD : DDm (fgo S c p) = DDm S := DD_same (sm _ (by decide))
  have eBB : BBm (fgo S c p) = BBm S := BB_same (sm _ (by decide))
  refine ⟨g1.sm (sm _ (by decide)), fun q hq => ?_, g3, fun c' k hc' hk => ?_, fun c' hc' => by rw [e18]; exact g5 c' hc', fun q x y hq hl hx hy => ?_, ⟨by rw [emt]; exact g7.1, fun c' hc' => by rw [eo 520 _ (by decide) (by decide)]; exact g7.2.1 c' hc', g7.2.2⟩, fun q hq => ?_, fun q hq => ?_, fun q hq hl => ?_, g11, g12, by rw [emt]; exact g13⟩
  · rw [e12, eo 506 _ (by decide) (by decide)]; exact g2 q hq
  · obtain ⟨k', a1, a2⟩ := pl c' k hc' hk
    rw [ew, e22, a2, e18]; exact g4 c' k' hc' a1
  · rw [e12] at hl
    rw [emt, eDD]; exact g6 q x y hq hl (ar 0 q x (by decide) hx) (ar 1 q y (by decide) hy)
  · rw [eDD]; exact g8 q hq
  · rw [emt, eAA, eBB, eDD, fgo_s]; exact g9 q hq
  · rw [e12] at hl
    rw [fgo_s, eo 504 _ (by decide) (by decide)]; exact g10 q hq hl
/-- a member leaves -/
theorem BG.leave {k n : Nat} {S : MS} {T : Nat → Int} {e j w s : Nat} {o1 o2 : Nat → Nat} {F : Int} (h : BG k S T e j w s o1 o2 F) (v : JV n S) (hn : n ≤ 512) {c p : Nat} (hc : c < 2) (hn2 : nC S = 2) (hp : p < mn S c) (hl : S.a 512 (wh S (10 * c + p)) = 0) (hr : S.a 522 (10 * c + p) ≤ 0) : ∃ T', BG (k + 1) (fleave S c p) T' e j w s o1 o2 F := by
  obtain ⟨a, b, hab, mo, pb⟩ := v.mo
  have hcn : c < nC S := by omega
  have hw := ((v.sh.2.2.2.2 c hcn).2.2 p hp).2
  have h16 := v.sh.2.1
  have hb := mo.2.1 c (by omega)
  have hpb := pb (10 * c + p)
  have hbk : 0 ≤ (fback S c p).toInt ∧ (fback S c p).toInt ≤ (S.a 516 c).toInt := by
    unfold fback
    by_cases z : S.a 516 c < S.a 525 (10 * c + p)
    · rw [if_pos z]; exact ⟨hb, Int.le_refl _⟩
    · rw [if_neg z]; exact ⟨hpb.1, Int32.le_iff_toInt_le.mp (i_nle z)⟩
  have ab := ((v.ab c hcn).2.2 p hp).1
  have r0 : (S.a 522 (10 * c + p)).toInt = 0 := by have := le0_iff.mp hr; omega
  unfold fleave
  obtain ⟨X, hX⟩ : ∃ X, X = fgive (S.setS 500 0) c (wh S (10 * c + p)) (fback S c p) := ⟨_, rfl⟩
  have h1 := ((h.up).thr (y := 0)).give (c := c) (i := wh S (10 * c + p)) (a := a) (v := fback S c p) (by omega) (by omega) hl hbk.1 hbk.2 (mo.sm Sm.rf rfl rfl) (by omega)
  rw [← hX] at h1 ⊢
  have N : Nm S X := by rw [hX]; exact fgive_Nm (Nm.rf.ss (by decide))
  have ex : ∀ r x, r ≠ 504 → r ≠ 511 → r ≠ 516 → X.a r x = S.a r x := fun r x a b c => by rw [hX, fgive_a a b c]; rfl
  have hBX : HB X := fun x => by rw [ex 527 x (by decide) (by decide) (by decide)]; exact v.hb x
  exact ⟨_, (h1.1.go (c := c) (p := p) (N.sh v.sh) hBX hc (by rw [N.c]; exact hcn) (by rw [N.m]; exact hp) (by rw [N.c]; exact hn2) (by rw [ex 522 _ (by decide) (by decide) (by decide)]; exact r0)).rnd c⟩
/-- somebody enters -/
theorem BG.enter {k n : Nat} {S : MS} {T : Nat → Int} {e j w s : Nat} {o1 o2 : Nat → Nat} {F : Int} (h : BG k S T e j w s o1 o2 F) (v : JV n S) {c i : Nat} (hc : c < 2) (hn2 : nC S = 2) (hm : mn S c < 10) (hi : i < 7) (hl : S.a 512 i = 0) (hno : ∀ k, k < mn S c → wh S (10 * c + k) ≠ i) : ∃ o1', BG (k + 1) (fent (S.setS 500 0) c i) T e j w s o1' o2 F := by
  obtain ⟨g1, g2, g3, g4, g5, g6, ⟨g7, g7a, g7b⟩, g8, g9, g10, g11, g12, g13⟩ := h
  have hm10 : ∀ c', c' < 2 → mn S c' ≤ 10 := fun c' hc' => (v.sh.2.2.2.2 c' (by omega)).2.1
  obtain ⟨X, hX⟩ : ∃ X, X = S.setS 500 0 := ⟨_, rfl⟩
  have xa : ∀ r x, X.a r x = S.a r x := fun r x => by rw [hX]; rfl
  have xm : mn X = mn S := by rw [hX]; rfl
  have xw : wh X = wh S := by rw [hX]; rfl
  rw [← hX]
  have em : ∀ x, mn (fent X c i) x = if x = c then mn S c + 1 else mn S x := fun x => by
    rw [fent_m (by rw [xm]; omega), xm]
  have ew : ∀ x, wh (fent X c i) x = if x = 10 * c + mn S c then i else wh S x := fun x => by
    rw [fent_w (by omega), xm, xw]
  have e22 : ∀ x, (fent X c i).a 522 x = if x = 10 * c + mn S c then 0 else S.a 522 x := fun x => by
    by_cases z : x = 10 * c + mn S c
    · rw [if_pos z, z, ← xm, fent_new (by decide)]
    · rw [if_neg z, fent_x (by decide) (by rw [xm]; exact z), xa]
  have eo : ∀ r x, r ≠ 517 → (r < 521 ∨ 527 < r) → (fent X c i).a r x = S.a r x := fun r x a b => by rw [fent_o a (by unfold r7; omega), xa]
  have idx : ∀ c' k, c' < 2 → k < mn (fent X c i) c' → (c' = c ∧ k = mn S c) ∨ (k < mn S c' ∧ 10 * c' + k ≠ 10 * c + mn S c) := fun c' k hc' hk => by
    rw [em] at hk
    have := hm10 c' hc'
    by_cases z : c' = c
    · subst z
      rw [if_pos rfl] at hk
      by_cases y : k = mn S c'
      · exact Or.inl ⟨rfl, y⟩
      · exact Or.inr ⟨by omega, by omega⟩
    · rw [if_neg z] at hk
      exact Or.inr ⟨hk, by omega⟩
  have ar : ∀ c' q x, c' < 2 → AR (fent X c i) c' q x → AR S c' q x := fun c' q x hc' hx => by
    rcases hx with ⟨k, hk, hw, hx⟩ | ⟨hn, hx⟩
    · rcases idx c' k hc' hk with ⟨z1, z2⟩ | ⟨z1, z2⟩
      · subst z1 z2
        rw [ew, if_pos rfl] at hw
        rw [e22, if_pos rfl, Int32.toInt_zero] at hx
        subst hw
        exact Or.inr ⟨hno, hx⟩
      · rw [ew, if_neg z2] at hw
        rw [e22, if_neg z2] at hx
        exact Or.inl ⟨k, z1, hw, hx⟩
    · refine Or.inr ⟨fun k hk hw => ?_, hx⟩
      have hk' : k < mn (fent X c i) c' := by
        rw [em]
        by_cases z : c' = c
        · subst z; rw [if_pos rfl]; omega
        · rw [if_neg z]; exact hk
      refine hn k hk' ?_
      rw [ew, if_neg ?_]
      · exact hw
      · have := hm10 c' hc'
        by_cases z : c' = c
        · subst z; omega
        · omega
  have asm : ∀ c', c' < 2 → asum (fent X c i) c' = asum S c' := fun c' hc' => by
    unfold asum
    rw [em]
    have h10 := hm10 c' hc'
    by_cases z : c' = c
    · subst z
      rw [if_pos rfl, sumf]
      have e1 : (fent X c' i).a 522 (10 * c' + mn S c') = 0 := by rw [e22, if_pos rfl]
      have e2 : sumf (fun k => (fent X c' i).a 522 (10 * c' + k)) (mn S c') = sumf (fun k => S.a 522 (10 * c' + k)) (mn S c') := sumf_ext _ (fun k hk => by
        show (fent X c' i).a 522 (10 * c' + k) = S.a 522 (10 * c' + k)
        rw [e22, if_neg (by omega)])
      rw [e2]
      show _ + ((fent X c' i).a 522 (10 * c' + mn S c')).toInt = _
      rw [e1, Int32.toInt_zero]; omega
    · rw [if_neg z]
      exact sumf_ext _ (fun k hk => by
        show (fent X c i).a 522 (10 * c' + k) = S.a 522 (10 * c' + k)
        rw [e22, if_neg (by omega)])
  have e12 : ∀ x, (fent X c i).a 512 x = S.a 512 x := fun x => eo 512 x (by decide) (by decide)
  have e18 : ∀ x, (fent X c i).a 518 x = S.a 518 x := fun x => eo 518 x (by decide) (by decide)
  have emt : mt (fent X c i) = mt S := by unfold mt; rw [e18, e18]
  have eAA : AAm (fent X c i) = AAm S := by unfold AAm; rw [asm 0 (by decide), asm 1 (by decide)]
  have sm : ∀ R : List Nat, (∀ r, r ∈ R → r ≠ 517 ∧ (r < 521 ∨ 527 < r)) → Sm R S (fent X c i) := fun R hR r hr x => eo r x (hR r hr).1 (hR r hr).2
  have eDD : DDm (fent X c i) = DDm S := DD_same (sm _ (by decide))
  have eBB : BBm (fent X c i) = BBm S := BB_same (sm _ (by decide))
  have e8 : ∀ f, f ≠ 500 → (fent X c i).s f = S.s f := fun f hf => by rw [fent_s, hX, s_f hf]
  obtain ⟨oi, hoi⟩ : ∃ oi, oi = if o1 i = 0 then 1 else o1 i := ⟨_, rfl⟩
  have hoi1 : 1 ≤ oi ∧ o1 i ≤ oi ∧ oi ≤ o2 i ∧ 2 * oi - 1 ≤ 2 * o1 i - 1 + 1 := by
    have a1 := (g2 i hi).2.2.1 hl
    have a2 := (g2 i hi).2.1
    rw [hoi]
    by_cases z : o1 i = 0
    · rw [if_pos z]; omega
    · rw [if_neg z]; omega
  obtain ⟨p1, hp1⟩ : ∃ p1 : Nat → Nat, p1 = fun x => if x = i then oi else o1 x := ⟨_, rfl⟩
  have pe : p1 i = oi := by rw [hp1]; exact if_pos rfl
  have pn : ∀ x, x ≠ i → p1 x = o1 x := fun x hx => by rw [hp1]; exact if_neg hx
  have ple : ∀ x, o1 x ≤ p1 x := fun x => by
    by_cases z : x = i
    · rw [z, pe]; exact hoi1.2.1
    · rw [pn x z]; exact Nat.le_refl _
  have hmt : 0 ≤ mt S := by
    have a0 := g5 0 (by decide)
    have a1 := g5 1 (by decide)
    unfold mt; omega
  have mul_le : ∀ (m : Int) x, 0 ≤ m → m * (o1 x : Int) ≤ m * (p1 x : Int) := fun m x hm => Int.mul_le_mul_of_nonneg_left (by have := ple x; omega) hm
  have hns := ns_up (f := fun q => 2 * o1 q - 1) (g := fun q => 2 * p1 q - 1) (i := i) (fun x hx => by show 2 * p1 x - 1 = 2 * o1 x - 1; rw [pn x hx]) 7 hi
  have hns' : ns (fun q => 2 * p1 q - 1) 7 ≤ ns (fun q => 2 * o1 q - 1) 7 + 1 := by
    have : 2 * p1 i - 1 ≤ 2 * o1 i - 1 + 1 := by rw [pe]; exact hoi1.2.2.2
    have h2 : ns (fun q => 2 * p1 q - 1) 7 + (2 * o1 i - 1) = ns (fun q => 2 * o1 q - 1) 7 + (2 * p1 i - 1) := hns
    omega
  refine ⟨p1, g1.sm (sm _ (by decide)), fun q hq => ?_, g3, fun c' k hc' hk => ?_, fun c' hc' => by rw [e18]; exact g5 c' hc', fun q x y hq hl hx hy => ?_, ⟨by rw [emt]; omega, fun c' hc' => by rw [eo 520 _ (by decide) (by decide)]; exact g7a c' hc', g7b⟩, fun q hq => ?_, fun q hq => ?_, fun q hq hl => ?_, g11, g12, by rw [emt]; exact g13⟩
  · obtain ⟨a1, a2, a3, a4⟩ := g2 q hq
    rw [e12, eo 506 _ (by decide) (by decide)]
    refine ⟨a1, ?_, a3, a4⟩
    by_cases z : q = i
    · rw [z, pe]; exact hoi1.2.2.1
    · rw [pn q z]; exact a2
  · rw [e18]
    rcases idx c' k hc' hk with ⟨z1, z2⟩ | ⟨z1, z2⟩
    · subst z1 z2
      rw [ew, if_pos rfl, e22, if_pos rfl, pe, Int32.toInt_zero]
      have := Int.mul_nonneg (g5 c' hc') (Int.natCast_nonneg oi)
      exact ⟨hoi1.1, by omega⟩
    · rw [ew, if_neg z2, e22, if_neg z2]
      obtain ⟨a1, a2⟩ := g4 c' k hc' z1
      have a3 := ple (wh S (10 * c' + k))
      have a4 := mul_le (S.a 518 c').toInt (wh S (10 * c' + k)) (g5 c' hc')
      exact ⟨by omega, by omega⟩
  · rw [e12] at hl
    have a1 := g6 q x y hq hl (ar 0 q x (by decide) hx) (ar 1 q y (by decide) hy)
    have a4 := mul_le (mt S) q hmt
    rw [emt, eDD]; omega
  · have := g8 q hq
    rw [eDD]; omega
  · rw [emt, eAA, eBB, eDD, e8 528 (by decide)]; exact g9 q hq
  · rw [e12] at hl
    rw [e8 529 (by decide), eo 504 _ (by decide) (by decide)]; exact g10 q hq hl
