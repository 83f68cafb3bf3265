-- ===== a place is gone, on both sides
theorem erase_first {e : Nat} : ∀ (l : List Nat) (k : Nat), l[k]? = some e → (∀ j, j < k → l[j]? ≠ some e) → l.erase e = l.eraseIdx k := by
  intro l
  induction l with
  | nil => intro k h; cases h
  | cons a l ih =>
    intro k h hn
    rw [List.erase_cons]
    cases k with
    | zero =>
      have h : a = e := by simpa using h
      rw [if_pos (by simp [h])]; rfl
    | succ k =>
      have ha : a ≠ e := fun q => hn 0 (Nat.succ_pos _) (by simp [q])
      rw [if_neg (by simpa using ha), ih k (by simpa using h) (fun j hj => by have := hn (j + 1) (by omega); simpa using this)]
      rfl
theorem FrL.rf {a : Nat} {w : Wd} : FrL a w w := ⟨fun _ _ => ⟨rfl, rfl, rfl, rfl⟩, fun _ h => Or.inl h, fun _ _ _ => ⟨rfl, rfl⟩, fun _ _ _ => rfl⟩
theorem s_removeFrom {w : Wd} {a e : Nat} {l : List Nat} {Q : Wd → Prop} (hA : ALs w) (h : Ls w a l) (hQ : ∀ w1, FrL a w w1 → ALs w1 → Ls w1 a (l.erase e) → Q w1) : wp_X0_removeFrom (some a) (some e) w Q := by
  have hl := h.len hA
  refine ⟨fun n y w4 => ∃ k, k ≤ l.length ∧ n = l.length - k ∧ y = nI k ∧ (∀ j, j < k → l[j]? ≠ some e) ∧ w4 = w, ⟨_, 0, Nat.zero_le _, rfl, rfl, fun j hj => absurd hj (Nat.not_lt_zero _), rfl⟩, fun n y w4 hIv => ?_⟩
  obtain ⟨k, hk, rfl, rfl, ha, rfl⟩ := hIv
  refine ⟨_, rfl, h.1, s_size h ⟨fun hcc => ?_, fun hcc => ⟨h.1, ?_⟩⟩⟩
  · have hkk := (nI_leI (by omega) (by omega)).mp hcc
    refine hQ w4 FrL.rf hA ?_
    rw [List.erase_of_not_mem (fun hm => ?_)]
    · exact h
    · obtain ⟨j, hj⟩ := List.getElem?_of_mem hm
      have := (List.getElem?_eq_some_iff.mp hj).1
      exact ha j (by omega) hj
  · have hk2 : k < l.length := Nat.lt_of_not_le (fun z => hcc (nI_le z (by omega)))
    refine s_get hA h rfl hk2 ⟨fun z v10 h10 => ⟨l.length - (k + 1), by omega, k + 1, by omega, rfl, by rw [h10, nI_1], fun j hj => ?_, rfl⟩, fun z => ⟨h.1, ?_⟩⟩
    · rcases Nat.lt_or_ge j k with q | q
      · exact ha j q
      · rw [show j = k by omega]; exact z
    · refine s_remove hA h rfl hk2 hl (fun w1 f1 f2 f3 => hQ w1 f1 f2 ?_)
      rw [erase_first l k z ha]; exact f3
theorem a_if {S : MS} {r j g i : Nat} {v : Int32} : (S.setA r j v).a g i = if g = r ∧ i = j then v else S.a g i := rfl
/-- what a member has is put from one place to another -/
def fcp (S : MS) (to b : Nat) : MS := ((((((S.setA 521 to (S.a 521 b)).setA 522 to (S.a 522 b)).setA 523 to (S.a 523 b)).setA 524 to (S.a 524 b)).setA 525 to (S.a 525 b)).setA 526 to (S.a 526 b)).setA 527 to (vp_nar .boolean (S.a 527 b))
def r7 (r : Nat) : Prop := 521 ≤ r ∧ r ≤ 527
theorem nar01 {x : Int32} (h : x = 0 ∨ x = 1) : vp_nar .boolean x = x := by
  rcases h with h | h
  · rw [h]; exact nar0
  · rw [h]; exact nar1
theorem fcp_a {S : MS} {a b r x : Nat} (hB : S.a 527 b = 0 ∨ S.a 527 b = 1) (hr : r7 r) : (fcp S a b).a r x = if x = a then S.a r b else S.a r x := by
  obtain ⟨h1, h2⟩ := hr
  rcases (by omega : r = 521 ∨ r = 522 ∨ r = 523 ∨ r = 524 ∨ r = 525 ∨ r = 526 ∨ r = 527) with e | e | e | e | e | e | e <;> subst e <;> by_cases hx : x = a <;> simp [fcp, a_if, hx, nar01 hB]
theorem fcp_o {S : MS} {a b r x : Nat} (hr : ¬ r7 r) : (fcp S a b).a r x = S.a r x := by
  unfold r7 at hr
  unfold fcp
  rw [a_f (by omega), a_f (by omega), a_f (by omega), a_f (by omega), a_f (by omega), a_f (by omega), a_f (by omega)]
def fcpN (S : MS) (c p : Nat) : Nat → MS
  | 0 => S
  | n + 1 => fcp (fcpN S c p n) (10 * c + p + n) (10 * c + p + n + 1)
theorem fcpN_s {S : MS} {c p f : Nat} : ∀ n, (fcpN S c p n).s f = S.s f := by
  intro n
  induction n with
  | zero => rfl
  | succ n ih => rw [fcpN, ← ih]; rfl
theorem fcpN_o {S : MS} {c p r x : Nat} (hr : ¬ r7 r) : ∀ n, (fcpN S c p n).a r x = S.a r x := by
  intro n
  induction n with
  | zero => rfl
  | succ n ih => rw [fcpN, fcp_o hr, ih]
/-- had a turn: 0 or 1 -/
def HB (S : MS) : Prop := ∀ x, S.a 527 x = 0 ∨ S.a 527 x = 1
theorem fcpN_a {S : MS} {c p : Nat} (hB : HB S) : ∀ n r x, r7 r → (fcpN S c p n).a r x = if 10 * c + p ≤ x ∧ x < 10 * c + p + n then S.a r (x + 1) else S.a r x := by
  intro n
  induction n with
  | zero => intro r x _; rw [if_neg (by omega)]; rfl
  | succ n ih =>
    intro r x hr
    have hb : (fcpN S c p n).a 527 (10 * c + p + n + 1) = 0 ∨ (fcpN S c p n).a 527 (10 * c + p + n + 1) = 1 := by
      rw [ih 527 _ (by unfold r7; omega), if_neg (by omega)]; exact hB _
    rw [fcpN, fcp_a hb hr]
    by_cases e : x = 10 * c + p + n
    · rw [if_pos e, ih r _ hr, if_neg (by omega), if_pos (by omega), e]
    · rw [if_neg e, ih r _ hr]
      by_cases e2 : 10 * c + p ≤ x ∧ x < 10 * c + p + n
      · rw [if_pos e2, if_pos (by omega)]
      · rw [if_neg e2, if_neg (by omega)]
def fgo (S : MS) (c p : Nat) : MS := fcpN (S.setA 517 c (nI (mn S c - 1))) c p (mn S c - 1 - p)
/-- where a place's things come from -/
def sh (S : MS) (c p x : Nat) : Nat := if 10 * c + p ≤ x ∧ x < 10 * c + (mn S c - 1) then x + 1 else x
theorem fgo_a {S : MS} {c p r x : Nat} (hB : HB S) (hp : p < mn S c) (hr : r7 r) : (fgo S c p).a r x = S.a r (sh S c p x) := by
  have hB' : HB (S.setA 517 c (nI (mn S c - 1))) := fun x => by rw [a_f (by decide)]; exact hB x
  unfold fgo sh
  rw [fcpN_a hB' _ _ _ hr]
  have hne : r ≠ 517 := by unfold r7 at hr; omega
  by_cases e : 10 * c + p ≤ x ∧ x < 10 * c + (mn S c - 1)
  · rw [if_pos (by omega), if_pos e, a_f hne]
  · rw [if_neg (by omega), if_neg e, a_f hne]
theorem fgo_o {S : MS} {c p r x : Nat} (hr : ¬ r7 r) (h7 : r ≠ 517) : (fgo S c p).a r x = S.a r x := by
  unfold fgo
  rw [fcpN_o hr, a_f h7]
theorem fgo_s {S : MS} {c p f : Nat} : (fgo S c p).s f = S.s f := by
  unfold fgo
  rw [fcpN_s]; rfl
theorem fgo_m {S : MS} {c p x : Nat} (hm : mn S c ≤ 10) : mn (fgo S c p) x = if x = c then mn S c - 1 else mn S x := by
  have hr : ¬ r7 517 := by unfold r7; omega
  unfold mn fgo
  rw [fcpN_o hr, a_if]
  by_cases e : x = c
  · rw [if_pos ⟨rfl, e⟩, if_pos e, nI_clamp (by have : (S.a 517 c).toNatClampNeg ≤ 10 := hm; unfold mn; omega)]; rfl
  · rw [if_neg (fun z => e z.2), if_neg e]
theorem fgo_p {S : MS} {c p : Nat} : nP (fgo S c p) = nP S ∧ nC (fgo S c p) = nC S := by
  unfold nP nC; rw [fgo_s, fgo_s]; exact ⟨rfl, rfl⟩
theorem fgo_w {S : MS} {c p x : Nat} (hB : HB S) (hp : p < mn S c) : wh (fgo S c p) x = wh S (sh S c p x) := by
  unfold wh; rw [fgo_a hB hp (by unfold r7; omega)]
theorem sh_own {S : MS} {c p k : Nat} (hk : k < mn S c - 1) : sh S c p (10 * c + k) = 10 * c + if k < p then k else k + 1 := by
  unfold sh
  by_cases e : k < p
  · rw [if_neg (by omega), if_pos e]
  · rw [if_pos (by omega), if_neg e]; omega
theorem sh_oth {S : MS} {c p c' k : Nat} (hm : mn S c ≤ 10) (hk : k < 10) (hne : c' ≠ c) : sh S c p (10 * c' + k) = 10 * c' + k := by
  unfold sh
  rw [if_neg (by omega)]
theorem fgo_sh {S : MS} {c p : Nat} (hI : SH S) (hB : HB S) (hc : c < nC S) (hp : p < mn S c) : SH (fgo S c p) := by
  have hm := (hI.2.2.2.2 c hc).2.1
  obtain ⟨i1, i2, i3, i4, i5⟩ := hI
  refine ⟨by rw [fgo_s, fgo_p.1]; exact i1, by rw [fgo_p.1]; exact i2, by rw [fgo_s, fgo_p.2]; exact i3, by rw [fgo_p.2]; exact i4, fun c' hc' => ?_⟩
  rw [fgo_p.2] at hc'
  obtain ⟨j1, j2, j3⟩ := i5 c' hc'
  rw [fgo_m hm]
  by_cases e : c' = c
  · subst e
    rw [if_pos rfl]
    refine ⟨?_, by omega, fun k hk => ?_⟩
    · unfold fgo
      rw [fcpN_o (by unfold r7; omega), a_e]
    · rw [fgo_a hB hp (by unfold r7; omega), fgo_w hB hp, fgo_p.1, sh_own hk]
      exact j3 _ (by by_cases e : k < p <;> simp [e] <;> omega)
  · rw [if_neg e]
    refine ⟨?_, j2, fun k hk => ?_⟩
    · unfold fgo
      rw [fcpN_o (by unfold r7; omega), a_b e]; exact j1
    · rw [fgo_a hB hp (by unfold r7; omega), fgo_w hB hp, fgo_p.1, sh_oth hm (by omega) e]
      exact j3 k hk
theorem fgo_i3 {S : MS} {c p x : Nat} (hm : ∀ c', c' < nC S → mn S c' ≤ 10) (hc : c < nC S) (hp : p < mn S c) (hx : inr 3 x (fgo S c p)) : inr 3 (sh S c p x) S ∧ sh S c p x ≠ 10 * c + p ∧ x ≠ 10 * c + (mn S c - 1) := by
  obtain ⟨c', k, rfl, hc', hk⟩ := hx
  rw [fgo_p.2] at hc'
  rw [fgo_m (hm c hc)] at hk
  have m1 := hm c hc
  have m2 := hm c' hc'
  by_cases e : c' = c
  · subst e
    rw [if_pos rfl] at hk
    rw [sh_own hk]
    by_cases e : k < p
    · rw [if_pos e]; exact ⟨⟨c', _, rfl, hc, by omega⟩, by omega, by omega⟩
    · rw [if_neg e]; exact ⟨⟨c', _, rfl, hc, by omega⟩, by omega, by omega⟩
  · rw [if_neg e] at hk
    rw [sh_oth m1 (by omega) e]
    exact ⟨⟨c', k, rfl, hc', hk⟩, by omega, by omega⟩
theorem sh_inj {S : MS} {c p x x' : Nat} (hx : x ≠ 10 * c + (mn S c - 1)) (hx' : x' ≠ 10 * c + (mn S c - 1)) (h : sh S c p x = sh S c p x') : x = x' := by
  unfold sh at h
  by_cases e : 10 * c + p ≤ x ∧ x < 10 * c + (mn S c - 1) <;> by_cases e' : 10 * c + p ≤ x' ∧ x' < 10 * c + (mn S c - 1)
  · rw [if_pos e, if_pos e'] at h; omega
  · rw [if_pos e, if_neg e'] at h; omega
  · rw [if_neg e, if_pos e'] at h; omega
  · rw [if_neg e, if_neg e'] at h; exact h
def Ggo (G : GH) (S : MS) (c p : Nat) : GH := (G.x, G.li, G.P, G.T, G.C, fun x => G.L (sh S c p x), fun c' => if c' = c then (G.O c).erase (G.L (10 * c + p)) else G.O c', G.tn, G.mo, G.ma, G.o)
theorem cL_go {G : GH} {S : MS} {c p c' : Nat} (hm : ∀ c', c' < nC S → mn S c' ≤ 10) (hc : c < nC S) (hp : p < mn S c) (hc' : c' < nC S) : cLst (Ggo G S c p) (fgo S c p) c' = if c' = c then (cLst G S c).eraseIdx p else cLst G S c' := by
  unfold cLst
  rw [fgo_m (hm c hc)]
  by_cases e : c' = c
  · subst e
    rw [if_pos rfl, if_pos rfl]
    refine List.ext_getElem? fun i => ?_
    rw [List.getElem?_eraseIdx]
    by_cases hi : i < mn S c' - 1
    · rw [map_get (f := fun k => (Ggo G S c' p).L (10 * c' + k)) hi]
      show some (G.L (sh S c' p (10 * c' + i))) = _
      rw [sh_own hi]
      by_cases e : i < p
      · rw [if_pos e, if_pos e, map_get (f := fun k => G.L (10 * c' + k)) (by omega)]
      · rw [if_neg e, if_neg e, map_get (f := fun k => G.L (10 * c' + k)) (by omega)]
    · rw [List.getElem?_eq_none (by rw [map_len]; omega)]
      by_cases e : i < p
      · omega
      · rw [if_neg e, List.getElem?_eq_none (by rw [map_len]; omega)]
  · rw [if_neg e, if_neg e]
    refine List.map_congr_left fun k hk => ?_
    have hk := List.mem_range.mp hk
    show G.L (sh S c p (10 * c' + k)) = _
    rw [sh_oth (hm c hc) (by have := hm c' hc'; omega) e]
theorem et_r : ∀ e ∈ etab, (e.2.2 = 3 → 521 ≤ e.2.1 ∧ e.2.1 ≤ 527) ∧ (e.2.2 ≠ 3 → ¬ (521 ≤ e.2.1 ∧ e.2.1 ≤ 527) ∧ e.2.1 ≠ 517) := by decide
theorem k123 {k : Nat} (h1 : 1 ≤ k) (h2 : k ≤ 3) : k = 1 ∨ k = 2 ∨ k = 3 := by omega
theorem RCc.gone {w : Wd} {G : GH} {S S0 : MS} {cont : Nat → List Nat} {c p : Nat} (h : RCc w G S S0 cont) (hI : SH S) (hB : HB S) (hO : RO G S) (hc : c < nC S) (hp : p < mn S c) (h0 : cont 0 = (List.range (nP S)).map G.P) (h1 : cont 1 = (List.range (nC S)).map G.C) (h2 : ∀ c', c' < nC S → cont (2 + 2 * c') = (if c' = c then (cLst G S c).eraseIdx p else cLst G S c') ∧ cont (3 + 2 * c') = if c' = c then (G.O c).erase (G.L (10 * c + p)) else G.O c') : RC w (Ggo G S c p) (fgo S c p) S0 := by
  have hm : ∀ c', c' < nC S → mn S c' ≤ 10 := fun c' hc' => (hI.2.2.2.2 c' hc').2.1
  obtain ⟨q1, q2, ⟨k1, k2, k3, k4, k6, k7, k8, k9⟩, q4, q5, q6, q7⟩ := h
  have eP : nP (fgo S c p) = nP S := fgo_p.1
  have eC : nC (fgo S c p) = nC S := fgo_p.2
  have i3 : ∀ {x}, inr 3 x (fgo S c p) → inr 3 (sh S c p x) S ∧ sh S c p x ≠ 10 * c + p ∧ x ≠ 10 * c + (mn S c - 1) := fun hx => fgo_i3 hm hc hp hx
  have fo : ∀ r x, ¬ r7 r → r ≠ 517 → (fgo S c p).a r x = S.a r x := fun r x a b => fgo_o a b
  have n7 : ∀ r, r < 521 ∨ 527 < r → ¬ r7 r := fun r hr => by unfold r7; omega
  refine RCc.toR (cont := cont) ⟨q1, q2, ⟨k1, k2, k3, fun n hn => k4 n (by rw [← eC]; exact hn), fun k j a b hj => ?_, fun i hi => k7 i (by rw [← eP]; exact hi), fun c' hc' => k8 c' (by rw [← eC]; exact hc'), fun j hj => ?_⟩, ⟨fun k j j' a b hj hj' e => ?_, fun i j hi hj => q4.2.1 i j (by rw [← eP]; exact hi) (by rw [← eP]; exact hj), fun i hi => q4.2.2.1 i (by rw [← eP]; exact hi), fun a b ha hb => q4.2.2.2 a b (by rw [← eC]; exact ha) (by rw [← eC]; exact hb)⟩, ⟨fun f r k j he hj => ?_, ?_, ?_, fun i b hi hb => ?_⟩, fun i hi hd => ?_, q7⟩ (by rw [eP]; exact h0) (by rw [eC]; exact h1) (fun c' hc' => ?_) (fun c' hc' => ?_)
  · rcases k123 a b with e | e | e <;> subst e
    · exact k6 1 j (by decide) (by decide) (show j < nC S by rw [← eC]; exact hj)
    · exact k6 2 j (by decide) (by decide) (show j < nP S by rw [← eP]; exact hj)
    · exact k6 3 _ (by decide) (by decide) (i3 hj).1
  · rw [fgo_w hB hp]; exact k9 _ (i3 hj).1
  · rcases k123 a b with e1 | e1 | e1 <;> subst e1
    · exact q4.1 1 j j' (by decide) (by decide) (show j < nC S by rw [← eC]; exact hj) (show j' < nC S by rw [← eC]; exact hj') e
    · exact q4.1 2 j j' (by decide) (by decide) (show j < nP S by rw [← eP]; exact hj) (show j' < nP S by rw [← eP]; exact hj') e
    · exact sh_inj (i3 hj).2.2 (i3 hj').2.2 (q4.1 3 _ _ (by decide) (by decide) (i3 hj).1 (i3 hj').1 e)
  · have er := et_r _ he
    have eo := (et_o _ he).2.2.2.2.2.2.2.2.2.2
    rcases k123 eo.1 eo.2 with e1 | e1 | e1 <;> simp only at e1 <;> subst e1
    · have er := er.2 (show (1 : Nat) ≠ 3 by decide)
      rw [fo r j er.1 er.2]
      exact q5.1 f r 1 j he (show j < nC S by rw [← eC]; exact hj)
    · have er := er.2 (show (2 : Nat) ≠ 3 by decide)
      rw [fo r j er.1 er.2]
      exact q5.1 f r 2 j he (show j < nP S by rw [← eP]; exact hj)
    · rw [fgo_a hB hp (er.1 rfl)]
      exact q5.1 f r 3 _ he (i3 hj).1
  · rw [fgo_s]; exact q5.2.1
  · rw [fgo_s]; exact q5.2.2.1
  · rw [fo 530 _ (n7 _ (by decide)) (by decide)]
    exact q5.2.2.2 i b (by rw [← eP]; exact hi) hb
  · rw [fo 506 _ (n7 _ (by decide)) (by decide)] at hd
    rw [fo 507 _ (n7 _ (by decide)) (by decide), fo 508 _ (n7 _ (by decide)) (by decide), fo 509 _ (n7 _ (by decide)) (by decide), eP]
    exact q6 i (by rw [← eP]; exact hi) hd
  · rw [eC] at hc'
    rw [cL_go hm hc hp hc']
    exact h2 c' hc'
  · rw [eC] at hc'
    have ho : hasO (fgo S c p) c' ↔ hasO S c' := by
      unfold hasO; rw [fo 520 _ (n7 _ (by decide)) (by decide), fo 515 _ (n7 _ (by decide)) (by decide)]
    obtain ⟨o1, o2⟩ := hO c' hc'
    rw [ho, cL_go hm hc hp hc', fgo_m (hm c hc)]
    by_cases e : c' = c
    · subst e
      have eO : (Ggo G S c' p).O c' = (G.O c').erase (G.L (10 * c' + p)) := if_pos rfl
      rw [eO, if_pos rfl, if_pos rfl]
      refine ⟨fun hn => by rw [o1 hn]; rfl, fun hy => ?_⟩
      obtain ⟨p1, p2, p3⟩ := o2 hy
      have hnd : (G.O c').Nodup := p2.imp (fun hab e => by rw [e] at hab; exact Nat.lt_irrefl _ hab)
      refine ⟨fun a => ?_, p2.sublist List.erase_sublist, fun k hk => ?_⟩
      · rw [hnd.mem_erase_iff, p1, ← cL_go (G := G) hm hc hp hc |>.trans (if_pos rfl), cL_mem, cL_mem, fgo_m (hm c' hc), if_pos rfl]
        constructor
        · rintro ⟨hne, b, hb, rfl⟩
          have hbp : b ≠ p := fun e => hne (by rw [e])
          refine ⟨if b < p then b else b - 1, ?_, ?_⟩
          · by_cases e : b < p
            · rw [if_pos e]; omega
            · rw [if_neg e]; omega
          · show _ = G.L (sh S c' p _)
            by_cases e : b < p
            · rw [if_pos e, sh_own (by omega), if_pos e]
            · rw [if_neg e, sh_own (by omega), if_neg (by omega), show b - 1 + 1 = b by omega]
        · rintro ⟨b, hb, rfl⟩
          show G.L (sh S c' p (10 * c' + b)) ≠ _ ∧ ∃ b_1, b_1 < mn S c' ∧ G.L (sh S c' p (10 * c' + b)) = _
          rw [sh_own hb]
          have hlt : (if b < p then b else b + 1) < mn S c' ∧ (if b < p then b else b + 1) ≠ p := by
            by_cases e : b < p
            · rw [if_pos e]; omega
            · rw [if_neg e]; omega
          refine ⟨fun e => ?_, _, hlt.1, rfl⟩
          have := q4.1 3 _ _ (by decide) (by decide) (⟨c', _, rfl, hc, hlt.1⟩ : inr 3 _ S) (⟨c', _, rfl, hc, hp⟩ : inr 3 _ S) e
          omega
      · rw [fgo_a hB hp (by unfold r7; omega)]
        show S.a 526 (sh S c' p (10 * c' + k)) = nI (G.tn (G.L (sh S c' p (10 * c' + k)))) ∧ G.tn (G.L (sh S c' p (10 * c' + k))) < 64
        rw [sh_own hk]
        exact p3 _ (by by_cases e : k < p <;> simp [e] <;> omega)
    · have eO : (Ggo G S c p).O c' = G.O c' := if_neg e
      rw [eO, if_neg e, if_neg e]
      refine ⟨o1, fun hy => ?_⟩
      obtain ⟨p1, p2, p3⟩ := o2 hy
      refine ⟨p1, p2, fun k hk => ?_⟩
      rw [fgo_a hB hp (by unfold r7; omega)]
      show S.a 526 (sh S c p (10 * c' + k)) = nI (G.tn (G.L (sh S c p (10 * c' + k)))) ∧ G.tn (G.L (sh S c p (10 * c' + k))) < 64
      rw [sh_oth (hm c hc) (by have := hm c' hc'; omega) e]
      exact p3 k hk
theorem k_removePlace {w : Wd} {G : GH} {S S0 : MS} {c p : Nat} {Q : Wd → Prop} (h : RC w G S S0) (hI : SH S) (hB : HB S) (hc : c < nC S) (hp : p < mn S c) (hQ : ∀ w1, RC w1 (Ggo G S c p) (frnd (fgo S c p) c) S0 → Q w1) : wp_X0_removePlace (G.C c) (some (G.L (10 * c + p))) w Q := by
  obtain ⟨l1, l2⟩ := h.lL hc
  have hm : ∀ c', c' < nC S → mn S c' ≤ 10 := fun c' hc' => (hI.2.2.2.2 c' hc').2.1
  refine ⟨h.kC hc, fun z hz => ?_⟩
  rw [l1] at hz; subst hz
  refine s_removeFrom h.als l2 (fun w2 f2 a2 s2 => ?_)
  have q2 := h.toC.list (n := 2 + 2 * c) (by omega) f2 a2 s2
  refine ⟨q2.2.2.1.2.2.2.2.1 1 c (by decide) (by decide) hc, fun z3 h3 => ?_⟩
  rw [(q2.2.2.1.2.2.2.2.2.2.1 c hc).2] at h3; subst h3
  have l3 : Ls w2 (G.li (3 + 2 * c)) (G.O c) := by
    have := q2.2.2.1.2.2.2.1 (3 + 2 * c) (by omega)
    have : Ls w2 (G.li (3 + 2 * c)) (if 3 + 2 * c = 2 + 2 * c then ((List.range (mn S c)).map (fun k => G.L (10 * c + k))).erase (G.L (10 * c + p)) else stdC G S (3 + 2 * c)) := this
    rw [if_neg (by omega), stdC_o] at this; exact this
  refine s_removeFrom a2 l3 (fun w4 f4 a4 s4 => ?_)
  have q4 := q2.list (n := 3 + 2 * c) (by omega) f4 a4 s4
  have eL : ((List.range (mn S c)).map (fun k => G.L (10 * c + k))).erase (G.L (10 * c + p)) = (cLst G S c).eraseIdx p := by
    refine erase_first _ p (map_get (f := fun k => G.L (10 * c + k)) hp) (fun j hj e => ?_)
    rw [map_get (f := fun k => G.L (10 * c + k)) (by omega)] at e
    have := h.linj ⟨c, j, rfl, hc, by omega⟩ ⟨c, p, rfl, hc, hp⟩ (by injection e)
    omega
  have q : RC w4 (Ggo G S c p) (fgo S c p) S0 := by
    refine q4.gone hI hB h.ro hc hp ?_ ?_ (fun c' hc' => ⟨?_, ?_⟩)
    · rw [if_neg (by omega), if_neg (by omega)]; rfl
    · rw [if_neg (by omega), if_neg (by omega)]; rfl
    · rw [if_neg (by omega)]
      by_cases e : c' = c
      · subst e; rw [if_pos rfl, if_pos rfl]; exact eL
      · rw [if_neg (by omega), if_neg e, stdC_p]
    · by_cases e : c' = c
      · subst e; rw [if_pos rfl, if_pos rfl]
      · rw [if_neg (by omega), if_neg (by omega), if_neg e, stdC_o]
  have hc' : c < nC (fgo S c p) := by rw [fgo_p.2]; exact hc
  exact ⟨q.kC hc', k_endRound (G := Ggo G S c p) q (fgo_sh hI hB hc hp) hc' (fun w5 q5 => hQ w5 q5)⟩
theorem m_copies {S : MS} {x1 x2 : Int32} {a b : Nat} {Q : MS → Prop} (h1 : x1 = nI a) (h2 : x2 = nI b) (ha : a < 40) (hb : b < 40) (hQ : Q (fcp S a b)) : sp_X4_copies x1 x2 S Q := by
  refine ⟨b, h2, hb, fun v2 e2 => ⟨a, h1, ha, fun S4 h4 => ⟨b, h2, hb, fun v6 e6 => ⟨a, h1, ha, fun S8 h8 => ⟨b, h2, hb, fun v10 e10 => ⟨a, h1, ha, fun S12 h12 => ⟨b, h2, hb, fun v14 e14 => ⟨a, h1, ha, fun S16 h16 => ⟨b, h2, hb, fun v18 e18 => ⟨a, h1, ha, fun S20 h20 => ⟨b, h2, hb, fun v22 e22 => ⟨a, h1, ha, fun S24 h24 => ⟨b, h2, hb, fun v26 e26 => ⟨a, h1, ha, fun S28 h28 => ?_⟩⟩⟩⟩⟩⟩⟩⟩⟩⟩⟩⟩⟩⟩
  have e : S28 = fcp S a b := by
    subst h28 e26 h24 e22 h20 e18 h16 e14 h12 e10 h8 e6 h4 e2
    unfold fcp
    simp [a_if]
  rw [e]; exact hQ
theorem m_goes {S : MS} {c p : Nat} {Q : MS → Prop} (hI : SH S) (hB : HB S) (hc : c < nC S) (hp : p < mn S c) (hQ : Q (frnd (fgo S c p) c)) : sp_X4_goes (nI c) (nI p) S Q := by
  obtain ⟨m1, m2, m3⟩ := hI.2.2.2.2 c hc
  have hc4 : c < 4 := by have := hI.2.2.2.1; omega
  refine ⟨c, rfl, hc4, fun v2 h2 v3 h3 => ⟨c, rfl, hc4, fun S5 h5 => ?_⟩⟩
  have e3 : v3 = nI (mn S c - 1) := by
    rw [h3, h2, m1]
    obtain ⟨m, hm⟩ : ∃ m, mn S c = m + 1 := ⟨mn S c - 1, by omega⟩
    rw [hm, nI_pred]; rfl
  rw [e3] at h5
  refine ⟨fun n y S9 => ∃ k, p ≤ k ∧ k ≤ mn S c - 1 ∧ n = mn S c - 1 - k ∧ y = nI k ∧ S9 = fcpN S5 c p (k - p), ⟨_, p, Nat.le_refl _, by omega, rfl, rfl, by rw [Nat.sub_self]; rfl⟩, fun n y8 S9 hIv => ?_⟩
  obtain ⟨k, hk, hk1, rfl, rfl, rfl⟩ := hIv
  refine ⟨c, rfl, hc4, fun v11 h11 => ?_⟩
  rw [fcpN_o (by unfold r7; omega), h5, a_e] at h11
  subst h11
  refine ⟨fun hcc => ?_, fun hcc v13 h13 v14 h14 v15 h15 v16 h16 v17 h17 => ?_⟩
  · have := (nI_leI (by omega) (by omega)).mp hcc
    have e : fcpN S5 c p (k - p) = fgo S c p := by
      unfold fgo; rw [h5, show k = mn S c - 1 by omega]
    rw [e]
    exact m_rounds (fgo_sh hI hB hc hp) (by rw [fgo_p.2]; exact hc) hQ
  · have hk2 : k < mn S c - 1 := Nat.lt_of_not_le (fun z => hcc (nI_le z (by omega)))
    refine m_copies (a := 10 * c + k) (b := 10 * c + k + 1) (by rw [h14, h13, at_ix]) (by rw [h17, h16, h15, at_ix, nI_1]) (by omega) (by omega) (fun v19 h19 => ⟨mn S c - 1 - (k + 1), by omega, k + 1, by omega, by omega, rfl, by rw [h19, nI_1], ?_⟩)
    rw [show k + 1 - p = (k - p) + 1 by omega, fcpN, show 10 * c + p + (k - p) = 10 * c + k by omega]
