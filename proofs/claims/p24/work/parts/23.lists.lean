-- ===== the relation with the lists' contents apart
def RKc (w : Wd) (G : GH) (S : MS) (cont : Nat → List Nat) : Prop := w.K G.x = 4 ∧ w.R 400 G.x = some (G.li 0) ∧ w.R 401 G.x = some (G.li 1) ∧ (∀ n, n < 2 + 2 * nC S → Ls w (G.li n) (cont n)) ∧ (∀ k j, 1 ≤ k → k ≤ 3 → inr k j S → w.K (adr G k j) = k) ∧ (∀ i, i < nP S → w.I 200 (G.P i) = nI i ∧ w.R 203 (G.P i) = some (G.T i) ∧ w.K (G.T i) = 11 ∧ w.N (G.T i) = 3) ∧ (∀ c, c < nC S → w.R 102 (G.C c) = some (G.li (2 + 2 * c)) ∧ w.R 103 (G.C c) = some (G.li (3 + 2 * c))) ∧ ∀ j, inr 3 j S → w.R 300 (G.L j) = some (G.P (wh S j))
def RCc (w : Wd) (G : GH) (S S0 : MS) (cont : Nat → List Nat) : Prop := RepM w G.mo G.o S0 ∧ ALs w ∧ RKc w G S cont ∧ RD G S ∧ RE w G S ∧ RLn w G S ∧ True ∧ True
def stdC (G : GH) (S : MS) (n : Nat) : List Nat := if n = 0 then (List.range (nP S)).map G.P else if n = 1 then (List.range (nC S)).map G.C else if n % 2 = 0 then cLst G S ((n - 2) / 2) else G.O ((n - 3) / 2)
theorem stdC_p {G : GH} {S : MS} {c : Nat} : stdC G S (2 + 2 * c) = cLst G S c := by
  unfold stdC
  rw [if_neg (by omega), if_neg (by omega), if_pos (by omega), show (2 + 2 * c - 2) / 2 = c by omega]
theorem stdC_o {G : GH} {S : MS} {c : Nat} : stdC G S (3 + 2 * c) = G.O c := by
  unfold stdC
  rw [if_neg (by omega), if_neg (by omega), if_neg (by omega), show (3 + 2 * c - 3) / 2 = c by omega]
theorem RC.toC {w : Wd} {G : GH} {S S0 : MS} (h : RC w G S S0) : RCc w G S S0 (stdC G S) := by
  obtain ⟨q1, q2, ⟨k1, k2, k3, k4, k5, k6, k7, k8, k9⟩, q4, q5, q6, q7⟩ := h
  refine ⟨q1, q2, ⟨k1, k2, k3, fun n hn => ?_, k6, k7, fun c hc => ⟨(k8 c hc).1, (k8 c hc).2.1⟩, k9⟩, q4, q5, q6, q7.2⟩
  rcases Nat.lt_or_ge n 2 with h2 | h2
  · rcases (by omega : n = 0 ∨ n = 1) with e | e
    · subst e; exact k4
    · subst e; exact k5
  · rcases Nat.mod_two_eq_zero_or_one n with e | e
    · obtain ⟨c, hc⟩ : ∃ c, n = 2 + 2 * c := ⟨(n - 2) / 2, by omega⟩
      subst hc; rw [stdC_p]; exact (k8 c (by omega)).2.2.1
    · obtain ⟨c, hc⟩ : ∃ c, n = 3 + 2 * c := ⟨(n - 3) / 2, by omega⟩
      subst hc; rw [stdC_o]; exact (k8 c (by omega)).2.2.2
theorem RCc.toR {w : Wd} {G : GH} {S S0 : MS} {cont : Nat → List Nat} (h : RCc w G S S0 cont) (h0 : cont 0 = (List.range (nP S)).map G.P) (h1 : cont 1 = (List.range (nC S)).map G.C) (h2 : ∀ c, c < nC S → cont (2 + 2 * c) = cLst G S c ∧ cont (3 + 2 * c) = G.O c) (hO : RO G S) : RC w G S S0 := by
  obtain ⟨q1, q2, ⟨k1, k2, k3, k4, k6, k7, k8, k9⟩, q4, q5, q6, q7⟩ := h
  refine ⟨q1, q2, ⟨k1, k2, k3, h0 ▸ k4 0 (by omega), h1 ▸ k4 1 (by omega), k6, k7, fun c hc => ⟨(k8 c hc).1, (k8 c hc).2, ?_, ?_⟩, k9⟩, q4, q5, q6, hO, q7⟩
  · rw [← (h2 c hc).1]; exact k4 _ (by omega)
  · rw [← (h2 c hc).2]; exact k4 _ (by omega)
theorem RCc.list {w w1 : Wd} {G : GH} {S S0 : MS} {cont : Nat → List Nat} {n : Nat} {l : List Nat} (h : RCc w G S S0 cont) (hn : n < 2 + 2 * nC S) (hF : FrL (G.li n) w w1) (hA : ALs w1) (hL : Ls w1 (G.li n) l) : RCc w1 G S S0 (fun m => if m = n then l else cont m) := by
  obtain ⟨q1, q2, ⟨k1, k2, k3, k4, k6, k7, k8, k9⟩, q4, q5, q6, q7⟩ := h
  have hl : w.K (G.li n) = 6 := (k4 n hn).1
  obtain ⟨f1, f2, f3, f4⟩ := id hF
  have ne : ∀ b k, w.K b = k → k ≠ 6 → b ≠ G.li n := fun b k hb hk e => hk (by rw [← hb, e]; exact hl)
  have z : ∀ b k, w.K b = k → k ≠ 0 → w.K b ≠ 0 := fun b k hb hk e => hk (by rw [← hb]; exact e)
  have kk : ∀ b k, w.K b = k → k ≠ 0 → w1.K b = k := fun b k hb hk => by rw [(f1 b (z b k hb hk)).1]; exact hb
  have kP : ∀ i, i < nP S → w.K (G.P i) = 2 := fun i hi => k6 2 i (by decide) (by decide) hi
  have kC : ∀ i, i < nC S → w.K (G.C i) = 1 := fun i hi => k6 1 i (by decide) (by decide) hi
  have kL : ∀ j, inr 3 j S → w.K (G.L j) = 3 := fun i hi => k6 3 i (by decide) (by decide) hi
  refine ⟨⟨kk _ 11 q1.1 (by decide), ?_, fun j hj => ?_⟩, hA, ⟨kk _ 4 k1 (by decide), ?_, ?_, fun m hm => ?_, fun k j h1 h2 hj => kk _ k (k6 k j h1 h2 hj) (by omega), fun i hi => ?_, fun c hc => ?_, fun j hj => ?_⟩, q4, ⟨fun f r k j he hj => ?_, ?_, ?_, fun i b hi hb => ?_⟩, fun i hi hd => ?_, q7⟩
  · rw [(f1 _ (z _ 11 q1.1 (by decide))).2.1]; exact q1.2.1
  · rw [(f1 _ (z _ 11 q1.1 (by decide))).2.2.1]; exact q1.2.2 j hj
  · rw [(f3 400 _ (ne _ 4 k1 (by decide))).2]; exact k2
  · rw [(f3 401 _ (ne _ 4 k1 (by decide))).2]; exact k3
  · show Ls w1 (G.li m) (if m = n then l else cont m)
    by_cases e : m = n
    · subst e; rw [if_pos rfl]; exact hL
    · rw [if_neg e]
      exact (k4 m hm).kept q2 hF (fun z => e (q4.2.2.2 m n hm hn z)) hl
  · obtain ⟨g1, g2, g3, g4⟩ := k7 i hi
    have hz := ne _ 2 (kP i hi) (by decide)
    obtain ⟨e1, e2, e3, e4⟩ := f1 _ (z _ 11 g3 (by decide))
    exact ⟨by rw [(f3 200 _ hz).1]; exact g1, by rw [(f3 203 _ hz).2]; exact g2, by rw [e1]; exact g3, by rw [e2]; exact g4⟩
  · have hz := ne _ 1 (kC c hc) (by decide)
    exact ⟨by rw [(f3 102 _ hz).2]; exact (k8 c hc).1, by rw [(f3 103 _ hz).2]; exact (k8 c hc).2⟩
  · rw [(f3 300 _ (ne _ 3 (kL j hj) (by decide))).2]; exact k9 j hj
  · have o := et_o _ he
    have o3 := o.2.2.2.2.2.2.2.2.2.2.2
    rw [(f3 f _ (ne _ k (k6 k j o.2.2.2.2.2.2.2.2.2.2.1 o3 hj) (by simp only at o3; omega))).1]
    exact q5.1 f r k j he hj
  · rw [(f3 402 _ (ne _ 4 k1 (by decide))).1]; exact q5.2.1
  · rw [(f3 403 _ (ne _ 4 k1 (by decide))).1]; exact q5.2.2.1
  · rw [(f1 _ (z _ 11 (k7 i hi).2.2.1 (by decide))).2.2.1]; exact q5.2.2.2 i b hi hb
  · have hz := ne _ 2 (kP i hi) (by decide)
    rw [(f3 207 _ hz).1, (f3 208 _ hz).2, (f3 209 _ hz).2]; exact q6 i hi hd
/-- only new addresses are touched -/
def FrZ (w w1 : Wd) : Prop := ∀ b, w.K b ≠ 0 → w1.K b = w.K b ∧ w1.N b = w.N b ∧ w1.A b = w.A b ∧ w1.J b = w.J b ∧ w1.O b = w.O b ∧ ∀ f, w1.I f b = w.I f b ∧ w1.R f b = w.R f b
theorem FrN.toZ {q : Nat} {w w1 : Wd} (h : FrN q w w1) : FrZ w w1 := fun b hb => h.2 b (fun e => hb (by rw [e]; exact h.1))
theorem FrZ.trans {w w1 w2 : Wd} (h : FrZ w w1) (h1 : FrZ w1 w2) : FrZ w w2 := fun b hb => by
  obtain ⟨a1, a2, a3, a4, a5, a6⟩ := h b hb
  obtain ⟨b1, b2, b3, b4, b5, b6⟩ := h1 b (by rw [a1]; exact hb)
  exact ⟨b1.trans a1, b2.trans a2, b3.trans a3, b4.trans a4, b5.trans a5, fun f => ⟨(b6 f).1.trans (a6 f).1, (b6 f).2.trans (a6 f).2⟩⟩
theorem Ls.frZ {w w1 : Wd} {b : Nat} {l : List Nat} (hA : ALs w) (hF : FrZ w w1) (h : Ls w b l) : Ls w1 b l := by
  obtain ⟨h1, h2, h3, d, h4, h5, h6⟩ := h
  have hb := hF b (by rw [h1]; decide)
  have hd : w.K d ≠ 0 := by
    obtain ⟨d', q1, -, q2⟩ := hA b h1
    rw [h4] at q1; cases q1
    rcases q2 with q | q <;> rw [q.1] <;> decide
  have hd2 := hF d hd
  refine ⟨by rw [hb.1]; exact h1, by rw [(hb.2.2.2.2.2 602).1]; exact h2, fun y hy => ?_, d, by rw [(hb.2.2.2.2.2 601).2]; exact h4, by rw [hd2.2.1]; exact h5, fun i hi => by rw [hd2.2.2.2.2.1]; exact h6 i hi⟩
  have := h3 y hy
  rw [(hF y (elK.ne this)).1]; exact this
theorem RC.frZ {w w1 : Wd} {G : GH} {S S0 : MS} (h : RC w G S S0) (hF : FrZ w w1) (hA : ALs w1) : RC w1 G S S0 := by
  obtain ⟨q1, q2, ⟨k1, k2, k3, k4, k5, k6, k7, k8, k9⟩, q4, q5, q6, q7⟩ := h
  have kP : ∀ i, i < nP S → w.K (G.P i) ≠ 0 := fun i hi => by rw [show w.K (G.P i) = 2 from k6 2 i (by decide) (by decide) hi]; decide
  have kC : ∀ i, i < nC S → w.K (G.C i) ≠ 0 := fun i hi => by rw [show w.K (G.C i) = 1 from k6 1 i (by decide) (by decide) hi]; decide
  have kL : ∀ j, inr 3 j S → w.K (G.L j) ≠ 0 := fun i hi => by rw [show w.K (G.L i) = 3 from k6 3 i (by decide) (by decide) hi]; decide
  have hx : w.K G.x ≠ 0 := by rw [k1]; decide
  have hm : w.K G.mo ≠ 0 := by rw [q1.1]; decide
  refine ⟨⟨by rw [(hF _ hm).1]; exact q1.1, ?_, fun j hj => ?_⟩, hA, ⟨by rw [(hF _ hx).1]; exact k1, ?_, ?_, k4.frZ q2 hF, k5.frZ q2 hF, fun k j h1 h2 hj => ?_, fun i hi => ?_, fun c hc => ?_, fun j hj => ?_⟩, q4, ⟨fun f r k j he hj => ?_, ?_, ?_, fun i b hi hb => ?_⟩, fun i hi hd => ?_, q7⟩
  · rw [(hF _ hm).2.1]; exact q1.2.1
  · rw [(hF _ hm).2.2.1]; exact q1.2.2 j hj
  · rw [((hF _ hx).2.2.2.2.2 400).2]; exact k2
  · rw [((hF _ hx).2.2.2.2.2 401).2]; exact k3
  · rw [(hF _ (by rw [k6 k j h1 h2 hj]; omega)).1]; exact k6 k j h1 h2 hj
  · obtain ⟨g1, g2, g3, g4⟩ := k7 i hi
    have hT := hF _ (show w.K (G.T i) ≠ 0 by rw [g3]; decide)
    have hP := (hF _ (kP i hi)).2.2.2.2.2
    exact ⟨by rw [(hP 200).1]; exact g1, by rw [(hP 203).2]; exact g2, by rw [hT.1]; exact g3, by rw [hT.2.1]; exact g4⟩
  · have hC := (hF _ (kC c hc)).2.2.2.2.2
    exact ⟨by rw [(hC 102).2]; exact (k8 c hc).1, by rw [(hC 103).2]; exact (k8 c hc).2.1, (k8 c hc).2.2.1.frZ q2 hF, (k8 c hc).2.2.2.frZ q2 hF⟩
  · rw [((hF _ (kL j hj)).2.2.2.2.2 300).2]; exact k9 j hj
  · have o := et_o _ he
    have o3 := o.2.2.2.2.2.2.2.2.2.2.1
    rw [((hF _ (by rw [k6 k j o3 o.2.2.2.2.2.2.2.2.2.2.2 hj]; simp only at o3; omega)).2.2.2.2.2 f).1]
    exact q5.1 f r k j he hj
  · rw [((hF _ hx).2.2.2.2.2 402).1]; exact q5.2.1
  · rw [((hF _ hx).2.2.2.2.2 403).1]; exact q5.2.2.1
  · rw [(hF _ (by rw [(k7 i hi).2.2.1]; decide)).2.2.1]; exact q5.2.2.2 i b hi hb
  · have hP := (hF _ (kP i hi)).2.2.2.2.2
    rw [(hP 207).1, (hP 208).2, (hP 209).2]; exact q6 i hi hd
/-- reading -/
theorem RC.get {w : Wd} {G : GH} {S S0 : MS} {f r k j : Nat} (h : RC w G S S0) (he : (f, r, k) ∈ etab) (hj : inr k j S) : w.I f (adr G k j) = S.a r j := h.2.2.2.2.1.1 f r k j he hj
theorem RC.kP {w : Wd} {G : GH} {S S0 : MS} {i : Nat} (h : RC w G S S0) (hi : i < nP S) : w.K (G.P i) = 2 := h.2.2.1.2.2.2.2.2.1 2 i (by decide) (by decide) hi
theorem RC.kC {w : Wd} {G : GH} {S S0 : MS} {i : Nat} (h : RC w G S S0) (hi : i < nC S) : w.K (G.C i) = 1 := h.2.2.1.2.2.2.2.2.1 1 i (by decide) (by decide) hi
theorem RC.kL {w : Wd} {G : GH} {S S0 : MS} {i : Nat} (h : RC w G S S0) (hi : inr 3 i S) : w.K (G.L i) = 3 := h.2.2.1.2.2.2.2.2.1 3 i (by decide) (by decide) hi
theorem RC.kx {w : Wd} {G : GH} {S S0 : MS} (h : RC w G S S0) : w.K G.x = 4 := h.2.2.1.1
theorem RC.lP {w : Wd} {G : GH} {S S0 : MS} (h : RC w G S S0) : Ls w (G.li 0) ((List.range (nP S)).map G.P) := h.2.2.1.2.2.2.1
theorem RC.lC {w : Wd} {G : GH} {S S0 : MS} (h : RC w G S S0) : Ls w (G.li 1) ((List.range (nC S)).map G.C) := h.2.2.1.2.2.2.2.1
theorem RC.als {w : Wd} {G : GH} {S S0 : MS} (h : RC w G S S0) : ALs w := h.2.1
theorem map_get {f : Nat → Nat} {n i : Nat} (hi : i < n) : ((List.range n).map f)[i]? = some (f i) := by simp [hi]
theorem map_len {f : Nat → Nat} {n : Nat} : ((List.range n).map f).length = n := by simp
/-- a person by number, and the error -/
theorem k_personAt {w : Wd} {G : GH} {S S0 : MS} {x1 : Int32} {Q : Option Nat → Wd → Prop} {QX : String → Wd → Prop} (h : RC w G S S0) (hn : nP S ≤ 16) (hQ : ∀ i, i < nP S → x1 = nI i → Q (some (G.P i)) w) (hX : (x1 < 0 ∨ nI (nP S) ≤ x1) → QX "java/lang/IndexOutOfBoundsException" w) : wp_X3_personAt G.x x1 w Q QX := by
  refine ⟨fun w2 => w2 = w ∧ (x1 < 0 ∨ nI (nP S) ≤ x1), fun w2 hw => by obtain ⟨rfl, hw⟩ := hw; exact hX hw, fun hc => ⟨rfl, Or.inl hc⟩, fun hc => ⟨h.kx, fun z hz => ⟨G.li 0, hz.trans h.2.2.1.2.1, h.lP.1, s_size h.lP ?_⟩⟩⟩
  rw [map_len]
  refine ⟨fun hc2 => ⟨h.kx, fun z7 hz7 => ⟨G.li 0, hz7.trans h.2.2.1.2.1, h.lP.1, ?_⟩⟩, fun hc2 => ⟨rfl, Or.inr (by rcases Int32.lt_or_le x1 (nI (nP S)) with e | e; exact absurd e hc2; exact e)⟩⟩
  rcases pk_ix x1 (n := nP S) (by omega) with e | e | ⟨i, hi, e⟩
  · exact absurd e hc
  · exact (Int32.lt_irrefl (Int32.lt_of_lt_of_le hc2 e)).elim
  · refine s_get h.als h.lP e (by rw [map_len]; exact hi) ?_
    rw [map_get hi]
    exact ⟨fun y hy => by cases hy; exact h.kP hi, hQ i hi e⟩
theorem k_circleAt {w : Wd} {G : GH} {S S0 : MS} {x1 : Int32} {Q : Option Nat → Wd → Prop} {QX : String → Wd → Prop} (h : RC w G S S0) (hn : nC S ≤ 4) (hQ : ∀ i, i < nC S → x1 = nI i → Q (some (G.C i)) w) (hX : (x1 < 0 ∨ nI (nC S) ≤ x1) → QX "java/lang/IndexOutOfBoundsException" w) : wp_X3_circleAt G.x x1 w Q QX := by
  refine ⟨fun w2 => w2 = w ∧ (x1 < 0 ∨ nI (nC S) ≤ x1), fun w2 hw => by obtain ⟨rfl, hw⟩ := hw; exact hX hw, fun hc => ⟨rfl, Or.inl hc⟩, fun hc => ⟨h.kx, fun z hz => ⟨G.li 1, hz.trans h.2.2.1.2.2.1, h.lC.1, s_size h.lC ?_⟩⟩⟩
  rw [map_len]
  refine ⟨fun hc2 => ⟨h.kx, fun z7 hz7 => ⟨G.li 1, hz7.trans h.2.2.1.2.2.1, h.lC.1, ?_⟩⟩, fun hc2 => ⟨rfl, Or.inr (by rcases Int32.lt_or_le x1 (nI (nC S)) with e | e; exact absurd e hc2; exact e)⟩⟩
  rcases pk_ix x1 (n := nC S) (by omega) with e | e | ⟨i, hi, e⟩
  · exact absurd e hc
  · exact (Int32.lt_irrefl (Int32.lt_of_lt_of_le hc2 e)).elim
  · refine s_get h.als h.lC e (by rw [map_len]; exact hi) ?_
    rw [map_get hi]
    exact ⟨fun y hy => by cases hy; exact h.kC hi, hQ i hi e⟩
theorem k_range {w : Wd} {x lo hi : Int32} {Q : Wd → Prop} {QX : String → Wd → Prop} (hQ : ¬ x < lo → x ≤ hi → Q w) (hX : (x < lo ∨ ¬ x ≤ hi) → QX "java/lang/IllegalArgumentException" w) : wp_X3_checkRange x lo hi w Q QX :=
  ⟨x < lo ∨ ¬ x ≤ hi, fun hj => hX hj, fun hc => Or.inl hc, fun hc => ⟨fun h2 => hQ hc h2, fun h2 => Or.inr h2⟩⟩
