-- ===== a start: the class's order
theorem RCc.set {w : Wd} {G : GH} {S S0 : MS} {cont : Nat → List Nat} {f r k j : Nat} {v : Int32} (h : RCc w G S S0 cont) (he : (f, r, k) ∈ etab) (h3 : r ≠ 506) (hj : inr k j S) : RCc (w.setI f (adr G k j) v) G (S.setA r j v) S0 cont := by
  have o := et_o _ he
  obtain ⟨q1, q2, ⟨k1, k2, k3, k4, k6, k7, k8, k9⟩, q4, q5, q6, q7⟩ := h
  refine ⟨q1.setI (by have := o.1; omega), q2, ⟨k1, k2, k3, fun n hn => (k4 n hn).setI (by have := o.1; omega), fun k' j' a b hj' => k6 k' j' a b ((inr_setA o.2.2.2.1).mp hj'), fun i hi => ⟨(up2_ne (fun z => o.2.1 z.1.symm)).trans (k7 i hi).1, (k7 i hi).2⟩, k8, fun j' hj' => ?_⟩, q4.row o.2.2.2.1, q5.set he hj q4, fun i hi hd => ?_, q7⟩
  · rw [wh_setA o.2.2.2.2.1]; exact k9 j' ((inr_setA o.2.2.2.1).mp hj')
  · have e1 : ∀ g, (g = 506 ∨ g = 507 ∨ g = 508 ∨ g = 509) → (S.setA r j v).a g i = S.a g i := fun g hg => a_f (by have a1 := o.2.2.2.2.2.2.2.1; have a2 := o.2.2.2.2.2.2.2.2.1; have a3 := o.2.2.2.2.2.2.2.2.2.1; simp only at a1 a2 a3; omega)
    rw [e1 506 (by omega)] at hd
    rw [e1 507 (by omega), e1 508 (by omega), e1 509 (by omega)]
    obtain ⟨g1, g2⟩ := q6 i hi hd
    exact ⟨(I_f (fun z => o.2.2.1 z.symm)).trans g1, g2⟩
theorem RCc.turn {w : Wd} {G : GH} {S S0 : MS} {cont : Nat → List Nat} {j : Nat} {v : Int32} (h : RCc w G S S0 cont) : RCc w G (S.setA 526 j v) S0 cont := by
  obtain ⟨q1, q2, ⟨k1, k2, k3, k4, k6, k7, k8, k9⟩, q4, q5, q6, q7⟩ := h
  refine ⟨q1, q2, ⟨k1, k2, k3, k4, fun k' j' a b hj' => k6 k' j' a b ((inr_setA (by decide)).mp hj'), k7, k8, fun j' hj' => ?_⟩, q4.row (by decide), ⟨fun f r k j he hj => ?_, q5.2.1, q5.2.2.1, fun i b hi hb => ?_⟩, fun i hi hd => ?_, q7⟩
  · rw [wh_setA (by decide)]; exact k9 j' ((inr_setA (by decide)).mp hj')
  · rw [a_f (et_o _ he).2.2.2.2.2.1]; exact q5.1 f r k j he ((inr_setA (by decide)).mp hj)
  · rw [a_f (by decide)]; exact q5.2.2.2 i b hi hb
  · rw [a_f (by decide)] at hd
    rw [a_f (by decide), a_f (by decide), a_f (by decide)]
    exact q6 i hi hd
theorem RCc.turns {w : Wd} {G : GH} {S1 S0 : MS} {cont : Nat → List Nat} {c s n : Nat} {lot : Bool} {ag : Nat → Int32} (h : RCc w G S1 S0 cont) : ∀ k, RCc w G (sT S1 c lot ag s n k) S0 cont := by
  intro k
  induction k with
  | zero => exact h
  | succ k ih => exact ih.turn
def ordC (G : GH) (S : MS) (c : Nat) (l : List Nat) (m : Nat) : List Nat := if m = 3 + 2 * c then l else stdC G S m
theorem ordC_e {G : GH} {S : MS} {c : Nat} {l : List Nat} : ordC G S c l (3 + 2 * c) = l := if_pos rfl
theorem ordC_n {G : GH} {S : MS} {c m : Nat} {l : List Nat} (h : m ≠ 3 + 2 * c) : ordC G S c l m = stdC G S m := if_neg h
theorem ordC_set {G : GH} {S : MS} {c : Nat} {l l' : List Nat} : (fun m => if m = 3 + 2 * c then l' else ordC G S c l m) = ordC G S c l' := by
  funext m
  unfold ordC
  by_cases e : m = 3 + 2 * c
  · rw [if_pos e, if_pos e]
  · rw [if_neg e, if_neg e, if_neg e]
theorem oc_ls {w : Wd} {G : GH} {S S0 : MS} {c : Nat} {l : List Nat} (h : RCc w G S S0 (ordC G S c l)) (hc : c < nC S) : w.K (G.C c) = 1 ∧ w.R 102 (G.C c) = some (G.li (2 + 2 * c)) ∧ w.R 103 (G.C c) = some (G.li (3 + 2 * c)) ∧ Ls w (G.li (2 + 2 * c)) (cLst G S c) ∧ Ls w (G.li (3 + 2 * c)) l := by
  obtain ⟨q1, q2, ⟨k1, k2, k3, k4, k6, k7, k8, k9⟩, q4, q5, q6, q7⟩ := h
  refine ⟨k6 1 c (by decide) (by decide) hc, (k8 c hc).1, (k8 c hc).2, ?_, ?_⟩
  · have := k4 (2 + 2 * c) (by omega)
    rw [ordC_n (by omega), stdC_p] at this; exact this
  · have := k4 (3 + 2 * c) (by omega)
    rw [ordC_e] at this; exact this
theorem oc_sz {w : Wd} {G : GH} {S S0 : MS} {c : Nat} {l : List Nat} {Q : Int32 → Wd → Prop} (h : RCc w G S S0 (ordC G S c l)) (hc : c < nC S) (hQ : Q (nI l.length) w) : w.K (G.C c) = 1 ∧ ∀ z : Option Nat, z = w.R 103 (G.C c) → ∃ a, z = some a ∧ w.K a = 6 ∧ wp_Jx4a65c_size_8abf5 a w Q := by
  obtain ⟨o1, o2, o3, o4, o5⟩ := oc_ls h hc
  exact ⟨o1, fun z hz => ⟨_, hz.trans o3, o5.1, s_size o5 hQ⟩⟩
theorem oc_at {w : Wd} {G : GH} {S S0 : MS} {c i x : Nat} {y : Int32} {l : List Nat} {Q : Option Nat → Wd → Prop} (h : RCc w G S S0 (ordC G S c l)) (hc : c < nC S) (hy : y = nI i) (hx : l[i]? = some (G.L x)) (hin : inr 3 x S) (hQ : Q (some (G.L x)) w) : w.K (G.C c) = 1 ∧ ∀ z : Option Nat, z = w.R 103 (G.C c) → ∃ a, z = some a ∧ w.K a = 6 ∧ wp_Jx4a65c_get_915e3 a y w (fun z1 w1 => (∀ y, z1 = some y → w1.K y = 3) ∧ Q z1 w1) := by
  obtain ⟨o1, o2, o3, o4, o5⟩ := oc_ls h hc
  refine ⟨o1, fun z hz => ⟨_, hz.trans o3, o5.1, s_get h.2.1 o5 hy (List.getElem?_eq_some_iff.mp hx).1 ?_⟩⟩
  rw [hx]
  exact ⟨fun y hy => by cases hy; exact h.2.2.1.2.2.2.2.1 3 x (by decide) (by decide) hin, hQ⟩
theorem c_drawn {w : Wd} {G : GH} {S S0 : MS} {c n k s : Nat} {l : List Nat} {Q : Int32 → Wd → Prop} (h : RCc w G S S0 (ordC G S c l)) (hc : c < nC S) (hl : l.length = n) (hn : n ≤ 10) (hk : k < n) (hs : s ≤ 9999) (hQ : Q (nI (k + (s + 31 * k) % (n - k))) w) : wp_X0_drawn (G.C c) (nI s) (nI k) w Q := by
  refine oc_sz h hc (fun v5 h5 => ?_)
  rw [hl, pk_sub (by omega)] at h5
  subst h5
  refine ⟨fun y => y = nI (k + (s + 31 * k) % (n - k)), fun y hy => by subst hy; exact hQ, fun z => absurd z (nI_nle (by omega) (by omega)), fun _ v8 h8 v9 h9 => ⟨nI_ne0 (by omega) (by omega), fun v10 h10 v11 h11 => ?_⟩⟩
  rw [show (31 : Int32) = nI 31 from rfl, pk_mul] at h8
  rw [h8, nI_add] at h9
  rw [h9, pk_rem (by omega) (by omega) (by omega)] at h10
  rw [h11, h10, nI_add]
theorem c_eldest {w : Wd} {G : GH} {S S0 : MS} {c k : Nat} {D U : List Nat} {Q : Int32 → Wd → Prop} (h : RCc w G S S0 (ordC G S c ((D ++ U).map (fun i => G.L (10 * c + i))))) (hI : SH S) (hc : c < nC S) (hD : D.length = k) (hU : ∀ i, i ∈ U → i < mn S c) (hlen : k + U.length ≤ 10) (hage : ∀ i, i < nP S → ¬ S.a 502 i ≤ 0) (hQ : Q (nI (k + elr (fun i => S.a 502 (wh S (10 * c + i))) U U.length)) w) : wp_X0_eldest (G.C c) (nI k) w Q := by
  obtain ⟨m1, m2, m3⟩ := hI.2.2.2.2 c hc
  obtain ⟨l, hl⟩ : ∃ l, l = (D ++ U).map (fun i => G.L (10 * c + i)) := ⟨_, rfl⟩
  rw [← hl] at h
  have hll : l.length = k + U.length := by rw [hl, List.length_map, List.length_append, hD]
  refine ⟨fun n y3 y4 y5 w6 => ∃ p, p ≤ U.length ∧ n = U.length - p ∧ y5 = nI (k + p) ∧ y3 = nI (k + elr (fun i => S.a 502 (wh S (10 * c + i))) U p) ∧ y4 = (if p = 0 then 0 else S.a 502 (wh S (10 * c + U.getD (elr (fun i => S.a 502 (wh S (10 * c + i))) U p) 0))) ∧ w6 = w, ⟨_, 0, Nat.zero_le _, rfl, rfl, rfl, rfl, rfl⟩, fun n y3 y4 y5 w6 hIv => ?_⟩
  obtain ⟨p, hp, rfl, rfl, rfl, e4, rfl⟩ := hIv
  refine oc_sz h hc ⟨fun hcc => ?_, fun hcc => ?_⟩
  · rw [hll] at hcc
    have := (nI_leI (by omega) (by omega)).mp hcc
    rw [show p = U.length by omega]; exact hQ
  · rw [hll] at hcc
    have hp2 : p < U.length := Nat.lt_of_not_le (fun z => hcc (nI_le (by omega) (by omega)))
    obtain ⟨x, hx⟩ : ∃ x, x = U.getD p 0 := ⟨_, rfl⟩
    have hxm : x ∈ U := by rw [hx]; exact getD_mem hp2
    have hin : inr 3 (10 * c + x) S := ⟨c, x, rfl, hc, hU x hxm⟩
    have hg : l[k + p]? = some (G.L (10 * c + x)) := by
      rw [hl, List.getElem?_map, List.getElem?_append_right (by omega), show k + p - D.length = p by omega, getD_get hp2, ← hx]; rfl
    have hw := (m3 x (hU x hxm)).2
    refine oc_at h hc rfl hg hin ?_
    obtain ⟨q1, q2, ⟨k1, k2, k3, k4, k6, k7, k8, k9⟩, q4, q5, q6, q7⟩ := h
    have g19 : w6.I 201 (G.P (wh S (10 * c + x))) = S.a 502 (wh S (10 * c + x)) := q5.1 201 502 2 _ (by decide) hw
    have hel : ∀ v : Int32, S.a 502 (wh S (10 * c + x)) = v → (p = 0 → elr (fun i => S.a 502 (wh S (10 * c + i))) U (p + 1) = p) := fun v _ e => by subst e; exact elr_1
    have nx : ∀ a b : Int32, a = nI (k + elr (fun i => S.a 502 (wh S (10 * c + i))) U (p + 1)) → b = S.a 502 (wh S (10 * c + U.getD (elr (fun i => S.a 502 (wh S (10 * c + i))) U (p + 1)) 0)) → ∀ v23 : Int32, v23 = nI (k + p) + 1 → ∃ n, n < U.length - p ∧ ∃ p, p ≤ U.length ∧ n = U.length - p ∧ v23 = nI (k + p) ∧ a = nI (k + elr (fun i => S.a 502 (wh S (10 * c + i))) U p) ∧ b = (if p = 0 then 0 else S.a 502 (wh S (10 * c + U.getD (elr (fun i => S.a 502 (wh S (10 * c + i))) U p) 0))) ∧ w6 = w6 := fun a b ha hb v23 h23 =>
      ⟨U.length - (p + 1), by omega, p + 1, by omega, rfl, by rw [h23, nI_1]; rfl, ha, by rw [if_neg (Nat.succ_ne_zero _)]; exact hb, rfl⟩
    refine ⟨_, rfl, k6 3 _ (by decide) (by decide) hin, fun z17 h17 => ⟨_, h17.trans (k9 _ hin), k6 2 _ (by decide) (by decide) hw, fun v19 h19 => ⟨fun a b => a = nI (k + elr (fun i => S.a 502 (wh S (10 * c + i))) U (p + 1)) ∧ b = S.a 502 (wh S (10 * c + U.getD (elr (fun i => S.a 502 (wh S (10 * c + i))) U (p + 1)) 0)), fun a b hab => nx a b hab.1 hab.2, fun hle => ?_, fun hle => ?_⟩⟩⟩
    · rw [h19, g19, e4] at hle
      have hp0 : p ≠ 0 := fun e => by rw [if_pos e] at hle; exact hage _ hw hle
      rw [if_neg hp0] at hle e4
      have ee : elr (fun i => S.a 502 (wh S (10 * c + i))) U (p + 1) = elr (fun i => S.a 502 (wh S (10 * c + i))) U p := by
        rw [elr, ← hx]; exact if_neg (i_nlt hle)
      rw [ee]; exact ⟨rfl, e4⟩
    · rw [h19, g19, e4] at hle
      have ee : elr (fun i => S.a 502 (wh S (10 * c + i))) U (p + 1) = p := by
        by_cases hp0 : p = 0
        · exact hel _ rfl hp0
        · rw [if_neg hp0] at hle
          rw [elr, ← hx]; exact if_pos (i_le hle)
      rw [ee, ← hx]; exact ⟨rfl, h19.trans g19⟩
theorem c_hasOrder {w : Wd} {G : GH} {S S0 : MS} {c : Nat} {cont : Nat → List Nat} {Q : Int32 → Wd → Prop} (h : RCc w G S S0 cont) (hc : c < nC S) (hw : S.a 515 c = 0 ∨ S.a 515 c = 1) (hQ : Q 1 w) : wp_X0_hasOrder (G.C c) w Q := by
  obtain ⟨q1, q2, ⟨k1, k2, k3, k4, k6, k7, k8, k9⟩, q4, q5, q6, q7⟩ := h
  have g : w.I 101 (G.C c) = S.a 515 c := q5.1 101 515 1 c (by decide) hc
  have kC : w.K (G.C c) = 1 := k6 1 c (by decide) (by decide) hc
  refine ⟨kC, fun v1 h1 => ⟨fun y => y = 1, fun y hy => by subst hy; exact ⟨Or.inr rfl, hQ⟩, True, fun _ => rfl, fun _ => trivial, fun z => ⟨kC, fun v5 h5 => ⟨fun z5 => (hw.elim (fun e => z (by rw [h1, g, e])) (fun e => z5 (by rw [h5, g, e]))).elim, fun _ => trivial⟩⟩⟩⟩
theorem k_makeOrder_n {w : Wd} {G : GH} {S S0 : MS} {c : Nat} {x : Int32} {Q : Wd → Prop} (h : RC w G S S0) (hc : c < nC S) (w0 : ¬ S.a 515 c = 0) (w1 : ¬ S.a 515 c = 1) (hy : S.a 515 c = 2 ∨ S.a 515 c = 3) (hQ : Q w) : wp_X0_makeOrder (G.C c) x w Q := by
  have ho : ¬ hasO S c := fun z => by
    have := z.2
    rcases hy with e | e <;> rw [e] at this <;> exact absurd this (by decide)
  have hO : G.O c = [] := (h.ro c hc).1 ho
  obtain ⟨l1, l2⟩ := h.lO hc
  rw [hO] at l2
  have fin : w.K (G.C c) = 1 ∧ ∀ z11 : Option Nat, z11 = w.R 103 (G.C c) → ∃ a12, z11 = some a12 ∧ w.K a12 = 6 ∧ wp_Jx4a65c_size_8abf5 a12 w (fun v w' => v = 0 ∧ w' = w) := ⟨h.kC hc, fun z hz => ⟨_, hz.trans l1, l2.1, s_size l2 ⟨rfl, rfl⟩⟩⟩
  refine ⟨fun n y w4 => w4 = w, ⟨0, by decide, rfl⟩, fun n1 y3 w4 hw => ?_⟩
  subst hw
  refine k_sz h hc ⟨fun w10 => w10 = w4, fun w10 hw => ?_, fun _ => rfl, fun _ => ⟨h.kC hc, k_hasOrder h hc (fun z => (z.elim w0 w1).elim) (fun _ _ => ⟨fun _ => rfl, fun z => absurd rfl z⟩)⟩⟩
  subst hw
  exact ⟨h.kC hc, fun z hz => ⟨_, hz.trans l1, l2.1, s_size l2 ⟨fun n y w18 => y = 0 ∧ w18 = w10, ⟨0, by decide, rfl, rfl⟩, fun n15 y17 w18 hj => by
    obtain ⟨rfl, rfl⟩ := hj
    exact ⟨fun _ => hQ, fun z => absurd (by decide) z⟩⟩⟩⟩
theorem c_makeOrder {w : Wd} {G : GH} {S S0 : MS} {c s : Nat} {Q : Wd → Prop} (h : RCc w G S S0 (ordC G S c [])) (hI : SH S) (hc : c < nC S) (hw : S.a 515 c = 0 ∨ S.a 515 c = 1) (hs : s ≤ 9999) (hage : ∀ i, i < nP S → ¬ S.a 502 i ≤ 0) (hQ : ∀ w1, RCc w1 G S S0 (ordC G S c ((sDU (decide (S.a 515 c = 0)) (fun i => S.a 502 (wh S (10 * c + i))) s (mn S c) (mn S c)).1.map (fun i => G.L (10 * c + i)))) → Q w1) : wp_X0_makeOrder (G.C c) (nI s) w Q := by
  obtain ⟨m1, m2, m3⟩ := hI.2.2.2.2 c hc
  obtain ⟨lot, hlot⟩ : ∃ lot, lot = decide (S.a 515 c = 0) := ⟨_, rfl⟩
  obtain ⟨ag, hag⟩ : ∃ ag : Nat → Int32, ag = fun i => S.a 502 (wh S (10 * c + i)) := ⟨_, rfl⟩
  rw [← hlot, ← hag] at hQ
  refine ⟨fun n y w4 => ∃ i, i ≤ mn S c ∧ n = mn S c - i ∧ y = nI i ∧ RCc w4 G S S0 (ordC G S c ((List.range i).map (fun i => G.L (10 * c + i)))), ⟨mn S c, by omega, 0, Nat.zero_le _, rfl, rfl, h⟩, fun n y w4 hIv => ?_⟩
  obtain ⟨i, hi, rfl, rfl, q⟩ := hIv
  obtain ⟨o1, o2, o3, o4, o5⟩ := oc_ls q hc
  refine ⟨o1, fun z5 h5 => ⟨_, h5.trans o2, o4.1, s_size o4 ⟨fun w10 => RCc w10 G S S0 (ordC G S c ((List.range (mn S c)).map (fun i => G.L (10 * c + i)))), fun w10 q10 => ?_, fun hcc => ?_, fun hcc => ⟨o1, c_hasOrder q hc hw ⟨fun z => absurd z (by decide), fun _ => ⟨o1, fun z48 h48 => ⟨o1, fun z49 h49 => ⟨_, h49.trans o2, o4.1, ?_⟩⟩⟩⟩⟩⟩⟩⟩
  · -- the members are in: the order is made
    refine oc_sz q10 hc ?_
    rw [map_len]
    refine ⟨fun n y w18 => ∃ k, k ≤ mn S c ∧ n = mn S c - k ∧ y = nI k ∧ RCc w18 G S S0 (ordC G S c (((sDU lot ag s (mn S c) k).1 ++ (sDU lot ag s (mn S c) k).2).map (fun i => G.L (10 * c + i)))), ⟨mn S c, by omega, 0, Nat.zero_le _, rfl, rfl, q10⟩, fun n y w18 hIv => ?_⟩
    obtain ⟨k, hk, rfl, rfl, q18⟩ := hIv
    obtain ⟨d1, d2, d3, d4⟩ := sDU_ok (lot := lot) (ag := ag) (s := s) k hk
    refine ⟨fun hcc => hQ w18 ?_, fun hcc => ?_⟩
    · have := (nI_leI (by omega) (by omega)).mp hcc
      have e : k = mn S c := by omega
      rw [e] at q18 d2
      have e2 : (sDU lot ag s (mn S c) (mn S c)).2 = [] := List.length_eq_zero_iff.mp (by omega)
      rw [e2, List.append_nil] at q18; exact q18
    · have hk2 : k < mn S c := Nat.lt_of_not_le (fun z => hcc (nI_le z (by omega)))
      have hnx := sDU_ok (lot := lot) (ag := ag) (s := s) (k + 1) (by omega : k + 1 ≤ mn S c)
      have hsD : sDU lot ag s (mn S c) (k + 1) = ((sDU lot ag s (mn S c) k).1 ++ [(sDU lot ag s (mn S c) k).2.getD (pick lot ag s (mn S c) k (sDU lot ag s (mn S c) k).2) 0], (sDU lot ag s (mn S c) k).2.eraseIdx (pick lot ag s (mn S c) k (sDU lot ag s (mn S c) k).2)) := rfl
      have hUm : ∀ i, i ∈ (sDU lot ag s (mn S c) k).2 → i < mn S c := fun i hi => (sDU_mem hk).mp (Or.inr hi)
      obtain ⟨r, hr⟩ : ∃ r, r = pick lot ag s (mn S c) k (sDU lot ag s (mn S c) k).2 := ⟨_, rfl⟩
      have hp : r < (sDU lot ag s (mn S c) k).2.length := by rw [hr]; exact pick_lt d2 hk2
      rw [← hr] at hsD
      obtain ⟨D, hD⟩ : ∃ D, D = (sDU lot ag s (mn S c) k).1 := ⟨_, rfl⟩
      obtain ⟨U, hU⟩ : ∃ U, U = (sDU lot ag s (mn S c) k).2 := ⟨_, rfl⟩
      rw [← hD, ← hU] at q18 hsD
      rw [← hD] at d1
      rw [← hU] at d2 hUm hp hr
      obtain ⟨x, hx⟩ : ∃ x, x = U.getD r 0 := ⟨_, rfl⟩
      rw [← hx] at hsD
      have hxm : x < mn S c := hUm x (by rw [hx]; exact getD_mem hp)
      have hin : inr 3 (10 * c + x) S := ⟨c, x, rfl, hc, hxm⟩
      have hlen : ((D ++ U).map (fun i => G.L (10 * c + i))).length = mn S c := by rw [List.length_map, List.length_append]; omega
      have hg : ((D ++ U).map (fun i => G.L (10 * c + i)))[k + r]? = some (G.L (10 * c + x)) := by
        rw [List.getElem?_map, List.getElem?_append_right (by omega), show k + r - D.length = r by omega, getD_get hp, ← hx]; rfl
      obtain ⟨p1, p2, p3, p4, p5⟩ := oc_ls q18 hc
      have g19 : w18.I 101 (G.C c) = S.a 515 c := q18.2.2.2.2.1.1 101 515 1 c (by decide) hc
      refine ⟨p1, fun v19 h19 => ⟨fun y w22 => y = nI (k + r) ∧ w22 = w18, fun y21 w22 hj => ?_, fun z => ⟨p1, ?_⟩, fun z => ⟨p1, ?_⟩⟩⟩
      · obtain ⟨rfl, rfl⟩ := hj
        refine ⟨fun w24 => RCc w24 G S S0 (ordC G S c (((sDU lot ag s (mn S c) (k + 1)).1 ++ (sDU lot ag s (mn S c) (k + 1)).2).map (fun i => G.L (10 * c + i)))), fun w24 q24 v25 h25 => ⟨mn S c - (k + 1), by omega, k + 1, by omega, rfl, by rw [h25, nI_1], q24⟩, fun z => absurd z (nI_nlt (by omega) (by omega)), fun _ => oc_sz q18 hc ⟨fun z => absurd z (by rw [hlen]; exact nI_ge (by omega) (by omega)), fun _ => oc_at q18 hc rfl hg hin ⟨p1, fun z35 h35 => ⟨_, h35.trans p3, p5.1, s_remove q18.2.1 p5 rfl (by rw [hlen]; omega) (by rw [hlen]; omega) (fun w37 f37 a37 s37 => ?_)⟩⟩⟩⟩
        have q37 := q18.list (n := 3 + 2 * c) (by omega) f37 a37 s37
        rw [ordC_set] at q37
        obtain ⟨r1, r2, r3, r4, r5⟩ := oc_ls q37 hc
        refine ⟨r1, fun z39 h39 => ⟨_, h39.trans r3, r5.1, ?_⟩⟩
        have el : ((D ++ U).map (fun i => G.L (10 * c + i))).eraseIdx (k + r) = D.map (fun i => G.L (10 * c + i)) ++ (U.eraseIdx r).map (fun i => G.L (10 * c + i)) := by
          rw [List.map_append, List.eraseIdx_append_of_length_le (by rw [List.length_map]; omega), List.length_map, show k + r - D.length = r by omega, map_er]
        rw [el] at r5 q37
        refine s_ins a37 r5 (by rw [List.length_map, d1]) (Or.inr (Or.inr (q37.2.2.1.2.2.2.2.1 3 _ (by decide) (by decide) hin))) (by rw [List.length_append, List.length_map, List.length_map, List.length_eraseIdx_of_lt hp]; omega) (fun w41 f41 a41 s41 => ?_)
        have q41 := q37.list (n := 3 + 2 * c) (by omega) f41 a41 s41
        rw [ordC_set] at q41
        rw [hsD]
        have ee : ((D ++ [x]) ++ U.eraseIdx r).map (fun i => G.L (10 * c + i)) = D.map (fun i => G.L (10 * c + i)) ++ G.L (10 * c + x) :: (U.eraseIdx r).map (fun i => G.L (10 * c + i)) := by
          rw [List.append_assoc, List.map_append]; rfl
        show RCc w41 G S S0 (ordC G S c (((D ++ [x]) ++ U.eraseIdx r).map (fun i => G.L (10 * c + i))))
        rw [ee]; exact q41
      · have e0 : lot = false := by rw [hlot]; exact decide_eq_false (fun e => z (by rw [h19, g19, e]))
        have er : r = elr ag U U.length := by rw [hr, pick, e0]; rfl
        refine c_eldest q18 hI hc d1 hUm (by omega) hage ?_
        rw [← hag, ← er]; exact ⟨rfl, rfl⟩
      · have e0 : lot = true := by rw [hlot]; exact decide_eq_true (by rw [← g19, ← h19]; exact z)
        have er : r = (s + 31 * k) % (mn S c - k) := by rw [hr, pick, if_pos e0]
        refine c_drawn q18 hc hlen m2 hk2 hs ?_
        rw [← er]; exact ⟨rfl, rfl⟩
  · rw [show (cLst G S c).length = mn S c from map_len] at hcc
    have := (nI_leI (by omega) (by omega)).mp hcc
    have e : i = mn S c := by omega
    rw [← e]; exact q
  · rw [show (cLst G S c).length = mn S c from map_len] at hcc
    have hi2 : i < mn S c := Nat.lt_of_not_le (fun z => hcc (nI_le z (by omega)))
    have hin : inr 3 (10 * c + i) S := ⟨c, i, rfl, hc, hi2⟩
    have kL := q.2.2.1.2.2.2.2.1 3 (10 * c + i) (by decide) (by decide) hin
    refine s_get q.2.1 o4 rfl (by rw [show (cLst G S c).length = mn S c from map_len]; exact hi2) ?_
    rw [show (cLst G S c)[i]? = some (G.L (10 * c + i)) from map_get (f := fun k => G.L (10 * c + k)) hi2]
    refine ⟨fun y hy => by cases hy; exact kL, _, h48.trans o3, o5.1, s_add q.2.1 o5 (Or.inr (Or.inr kL)) (by rw [map_len]; omega) (fun w55 f55 a55 s55 v57 h57 => ⟨mn S c - (i + 1), by omega, i + 1, by omega, rfl, by rw [h57, nI_1], ?_⟩)⟩
    have q55 := q.list (n := 3 + 2 * c) (by omega) f55 a55 s55
    rw [ordC_set] at q55
    rw [List.range_succ, List.map_append]; exact q55
