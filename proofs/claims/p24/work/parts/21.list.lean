-- ===== lists: their contents in the world, what each of their methods does
theorem vu_ne {α : Type} {f : Nat → α} {a b : Nat} {v : α} (h : ¬ b = a) : va_up f a v b = f b := if_neg h
theorem vu_eq {α : Type} {f : Nat → α} {a : Nat} {v : α} : va_up f a v a = v := if_pos rfl
def ALs (w : Wd) : Prop := ∀ a, w.K a = 6 → ∃ d, w.R 601 a = some d ∧ w.N d ≤ 64 ∧ (w.K d = 15 ∧ w.N d = 0 ∨ w.K d = 13 ∧ 0 < w.N d ∧ ∀ b, w.K b = 6 → w.R 601 b = some d → b = a)
def Ls (w : Wd) (a : Nat) (l : List Nat) : Prop := w.K a = 6 ∧ w.I 602 a = nI l.length ∧ (∀ y ∈ l, w.K y = 1 ∨ w.K y = 2 ∨ w.K y = 3) ∧ ∃ d, w.R 601 a = some d ∧ l.length ≤ w.N d ∧ ∀ i, i < l.length → w.O d i = l[i]?
/-- what a list's method leaves as it was: all but the list's own fields and row -/
def FrL (a : Nat) (w w1 : Wd) : Prop := (∀ b, w.K b ≠ 0 → w1.K b = w.K b ∧ w1.N b = w.N b ∧ w1.A b = w.A b ∧ w1.J b = w.J b) ∧ (∀ b, w.K b = 0 → w1.K b = 0 ∨ w1.K b = 13) ∧ (∀ f b, b ≠ a → w1.I f b = w.I f b ∧ w1.R f b = w.R f b) ∧ (∀ b, w.K b ≠ 0 → w.R 601 a ≠ some b → w1.O b = w.O b)
theorem Ls.kept {w w1 : Wd} {a b : Nat} {l : List Nat} (hA : ALs w) (hF : FrL a w w1) (hb : b ≠ a) (ha : w.K a = 6) (h : Ls w b l) : Ls w1 b l := by
  obtain ⟨h1, h2, h3, d, h4, h5, h6⟩ := h
  obtain ⟨f1, f2, f3, f4⟩ := hF
  have hd : w.K d ≠ 0 := by
    obtain ⟨d', q1, -, q2⟩ := hA b h1
    rw [h4] at q1; cases q1
    rcases q2 with q | q
    · rw [q.1]; decide
    · rw [q.1]; decide
  have hk : ∀ y, w.K y = 1 ∨ w.K y = 2 ∨ w.K y = 3 → w1.K y = 1 ∨ w1.K y = 2 ∨ w1.K y = 3 := fun y hy => by
    rw [(f1 y (by rcases hy with h | h | h <;> rw [h] <;> decide)).1]; exact hy
  refine ⟨by rw [(f1 b (by rw [h1]; decide)).1]; exact h1, by rw [(f3 602 b hb).1]; exact h2, fun y hy => hk y (h3 y hy), d, by rw [(f3 601 b hb).2]; exact h4, by rw [(f1 d hd).2.1]; exact h5, fun i hi => ?_⟩
  by_cases hda : w.R 601 a = some d
  · exfalso
    obtain ⟨d', q1, -, q2⟩ := hA b h1
    rw [h4] at q1; cases q1
    rcases q2 with q | q
    · rw [q.2] at h5; omega
    · exact hb (q.2.2 a ha hda).symm
  · rw [f4 d hd hda]; exact h6 i hi
theorem s_size {w : Wd} {a : Nat} {l : List Nat} {Q : Int32 → Wd → Prop} (h : Ls w a l) (hQ : Q (nI l.length) w) : wp_Jx4a65c_size_8abf5 a w Q :=
  ⟨h.1, fun v hv => by rw [hv, h.2.1]; exact hQ⟩
theorem s_get {w : Wd} {a i : Nat} {x : Int32} {l : List Nat} {Q : Option Nat → Wd → Prop} (hA : ALs w) (h : Ls w a l) (hx : x = nI i) (hi : i < l.length) (hQ : Q l[i]? w) : wp_Jx4a65c_get_915e3 a x w Q := by
  obtain ⟨h1, h2, h3, d, h4, h5, h6⟩ := h
  obtain ⟨d', q1, q0, q2⟩ := hA a h1
  rw [h4] at q1; cases q1
  have hk : w.K d = 13 := by
    rcases q2 with q | q
    · rw [q.2] at h5; omega
    · exact q.1
  refine ⟨h1, fun v hv => ?_⟩
  rw [h2] at hv
  subst hv hx
  refine ⟨_, fun hj => hj, fun hc => nI_pos (by omega) hc, fun _ => ⟨fun _ => ?_, fun hc => hc (nI_lt hi (by omega))⟩⟩
  exact ⟨h1, h1, fun z hz => ⟨d, hz.trans h4, hk, i, rfl, by omega, by omega, fun z4 hz4 => by rw [hz4, h6 i hi]; exact hQ⟩⟩
theorem s_isEmpty {w : Wd} {a : Nat} {l : List Nat} {Q : Int32 → Wd → Prop} (hl : l.length ≤ 64) (h : Ls w a l) (hQ : Q (if l.length = 0 then 1 else 0) w) : wp_Jx4a65c_isEmpty_aae02 a w Q := by
  refine ⟨h.1, fun v hv => ?_⟩
  rw [h.2.1] at hv
  subst hv
  refine ⟨_, fun y hy => hy, fun hc => ?_, fun hc => ?_⟩
  · have h0 : l.length ≠ 0 := fun e => hc (by rw [e]; rfl)
    rw [if_neg h0] at hQ
    exact ⟨Or.inl rfl, hQ⟩
  · have h0 : l.length = 0 := by
      have e : nI l.length = nI 0 := hc
      exact (nI_eq (by omega) (by decide)).mp e
    rw [if_pos h0] at hQ
    exact ⟨Or.inr rfl, hQ⟩
theorem up2_ne {α : Type} {f : Nat → Nat → α} {a b x y : Nat} {v : α} (h : ¬ (x = a ∧ y = b)) : up2 f a b v x y = f x y := if_neg h
theorem up2_eq {α : Type} {f : Nat → Nat → α} {a b : Nat} {v : α} : up2 f a b v a b = v := if_pos ⟨rfl, rfl⟩
/-- a full list's row becomes a longer one -/
theorem s_grow {w : Wd} {a d : Nat} {l : List Nat} {Q : Option Nat → Wd → Prop} (hA : ALs w) (h : Ls w a l) (hd : w.R 601 a = some d) (hf : l.length = w.N d) (hl : l.length ≤ 32) (hQ : ∀ q w1, FrL a w w1 → ALs w1 → Ls w1 a l → w1.R 601 a = some q → w1.K q = 13 → l.length < w1.N q → w.K q = 0 → (∀ f, w1.I f a = w.I f a) → Q (some q) w1) : wp_Jx4a65c_grow_d5877 a w Q := by
  obtain ⟨h1, h2, h3, d', h4, h5, h6⟩ := h
  rw [hd] at h4; cases h4
  obtain ⟨d', q1, q0, q2⟩ := hA a h1
  rw [hd] at q1; cases q1
  refine ⟨h1, fun v hv => ?_⟩
  rw [h2] at hv; subst hv
  intro v2 hv2
  rw [nI_1] at hv2; subst hv2
  refine ⟨h1, h1, fun z hz => ⟨d, hz.trans hd, _, rfl, by rcases q2 with q | q <;> rw [q.1] <;> decide, fun v3 hv3 => ?_⟩⟩
  rw [← hf] at hv3; subst hv3
  -- the world after a new row of length k with the old contents
  have key : ∀ q k w1, w.K q = 0 → l.length < k → k ≤ 64 → (w1.K = va_up w.K q 13) → (w1.I = w.I) → (w1.R = up2 w.R 601 a (some q)) → (w1.N = va_up w.N q k) → (∀ b, b ≠ q → w1.A b = w.A b ∧ w1.J b = w.J b ∧ w1.O b = w.O b) → (∀ i, i < l.length → w1.O q i = l[i]?) → Q (some q) w1 := by
    intro q k w1 hq hk hk2 eK eI eR eN eO eq
    have hne : ∀ b, w.K b ≠ 0 → b ≠ q := fun b hb e => hb (by rw [e]; exact hq)
    have hK : ∀ b, w.K b ≠ 0 → w1.K b = w.K b := fun b hb => by rw [eK]; exact vu_ne (hne b hb)
    have hN : ∀ b, w.K b ≠ 0 → w1.N b = w.N b := fun b hb => by rw [eN]; exact vu_ne (hne b hb)
    have hKq : w1.K q = 13 := by rw [eK]; exact vu_eq
    have hNq : w1.N q = k := by rw [eN]; exact vu_eq
    have hRa : w1.R 601 a = some q := by rw [eR]; exact up2_eq
    have hF : FrL a w w1 := by
      refine ⟨fun b hb => ⟨hK b hb, hN b hb, (eO b (hne b hb)).1, (eO b (hne b hb)).2.1⟩, fun b hb => ?_, fun f b hb => ⟨by rw [eI], by rw [eR]; exact up2_ne (fun e => hb e.2)⟩, fun b hb _ => (eO b (hne b hb)).2.2⟩
      by_cases e : b = q
      · right; rw [e]; exact hKq
      · left; rw [eK]; exact (vu_ne e).trans hb
    have hK6 : ∀ b, w1.K b = 6 → w.K b = 6 := fun b hb => by
      by_cases e : b = q
      · rw [e, hKq] at hb; cases hb
      · rw [eK] at hb; rw [← hb]; exact (vu_ne e).symm
    have hdn : ∀ b d', w.K b = 6 → w.R 601 b = some d' → w.K d' ≠ 0 := fun b d' hb hd' => by
      obtain ⟨d2, g1, -, g2⟩ := hA b hb
      rw [hd'] at g1; cases g1
      rcases g2 with g | g <;> rw [g.1] <;> decide
    refine hQ q w1 hF ?_ ?_ hRa hKq (by rw [hNq]; exact hk) hq (fun f => by rw [eI])
    · intro b hb
      have hb0 := hK6 b hb
      by_cases e : b = a
      · subst e
        refine ⟨q, hRa, by rw [hNq]; exact hk2, Or.inr ⟨hKq, by rw [hNq]; omega, fun c hc hcq => ?_⟩⟩
        by_cases e : c = b
        · exact e
        · rw [eR, up2_ne (fun z => e z.2)] at hcq
          exact absurd hq (hdn c q (hK6 c hc) hcq)
      · obtain ⟨d2, g1, g0, g2⟩ := hA b hb0
        have hd2 := hdn b d2 hb0 g1
        refine ⟨d2, by rw [eR, up2_ne (fun z => e z.2)]; exact g1, by rw [hN d2 hd2]; exact g0, ?_⟩
        rw [hK d2 hd2, hN d2 hd2]
        rcases g2 with g | g
        · exact Or.inl g
        · refine Or.inr ⟨g.1, g.2.1, fun c hc hcq => ?_⟩
          by_cases ec : c = a
          · subst ec
            rw [hRa] at hcq; cases hcq
            exact absurd hq hd2
          · rw [eR, up2_ne (fun z => ec z.2)] at hcq
            exact g.2.2 c (hK6 c hc) hcq
    · refine ⟨by rw [hK a (by rw [h1]; decide)]; exact h1, by rw [eI]; exact h2, fun y hy => ?_, q, hRa, by rw [hNq]; omega, eq⟩
      have := h3 y hy
      rw [hK y (by rcases this with h | h | h <;> rw [h] <;> decide)]; exact this
  refine ⟨_, fun hj => hj, fun hc => ?_, fun hc => ?_⟩
  · -- a row that is full
    have hpos : 0 < l.length := by
      rcases Nat.eq_zero_or_pos l.length with e | e
      · rw [e] at hc; exact absurd hc (by decide)
      · exact e
    have hk : w.K d = 13 := by
      rcases q2 with q | q
      · rw [q.2] at hf; omega
      · exact q.1
    intro v6 hv6 v7 hv7
    rw [pk_sub (by omega), show l.length + 1 - l.length = 1 by omega] at hv6
    rw [show ((1 : Int32) &&& 31) = 1 by decide, pk_shrN (n := l.length) (by omega) 1 1 (by decide), show (2 : Nat) ^ 1 = 2 by decide] at hv7
    subst hv6 hv7
    intro v1 hv1 v2 hv2
    have hv : v1 = nI (max 1 (l.length / 2)) := by
      rw [hv1]
      by_cases e : 1 < l.length / 2
      · rw [if_pos (nI_lt e (by omega)), Nat.max_eq_right (by omega)]
      · rw [if_neg (nI_nlt (by omega) (by omega)), Nat.max_eq_left (by omega)]
    rw [hv, nI_add] at hv2
    obtain ⟨k, hk1⟩ : ∃ k, k = l.length + max 1 (l.length / 2) := ⟨_, rfl⟩
    rw [← hk1] at hv2; subst hv2
    have hkl : l.length < k ∧ k ≤ 64 := by
      rcases Nat.le_total 1 (l.length / 2) with e | e
      · rw [Nat.max_eq_right e] at hk1; omega
      · rw [Nat.max_eq_left e] at hk1; omega
    refine ⟨_, fun hj => hj, fun hc => absurd hc (nI_nle (by omega) (by omega)), fun _ => ⟨fun hc => absurd hc (nI_nlt (a := 2147483639) (by omega) (by decide)), fun _ => ?_⟩⟩
    refine ⟨h1, fun z hz => ⟨d, k, hz.trans hd, rfl, hkl.2, hk, by omega, fun t ht y hy => ?_, fun q hq w1 hw1 => ⟨?_, fun w2 hw2 => ?_⟩⟩⟩
    · rw [h6 t (by omega)] at hy
      exact h3 y (List.mem_of_getElem? hy)
    · subst hw1
      show va_up w.K q 13 a = 6
      rw [vu_ne (fun e => by rw [← e, h1] at hq; cases hq)]; exact h1
    · subst hw1
      subst hw2
      have hdq : d ≠ q := fun e => by rw [← e, hk] at hq; cases hq
      refine key q k _ hq hkl.1 hkl.2 rfl rfl rfl rfl (fun b hb => ⟨?_, ?_, ?_⟩) (fun i hi => ?_)
      · funext j; exact if_neg hb
      · funext j; exact if_neg hb
      · show va_up (α := Nat → Option Nat) _ q _ b = w.O b
        rw [vu_ne hb]; funext j; exact if_neg hb
      · show va_up (α := Nat → Option Nat) _ q _ q i = _
        rw [vu_eq, pk_cpy_in (by omega) (by omega)]
        show (if d = q then none else w.O d (0 + (i - 0))) = _
        rw [if_neg hdq, Nat.zero_add, Nat.sub_zero]; exact h6 i hi
  · -- the row that all empty lists share
    have h0 : l.length = 0 := by
      rcases Nat.eq_zero_or_pos l.length with e | e
      · exact e
      · exact absurd (nI_lt e (by omega)) hc
    have hk : w.K d = 15 := by
      rcases q2 with q | q
      · exact q.1
      · rw [← hf] at q; omega
    refine ⟨h1, fun z hz q15 k15 n15 u15 => ⟨fun hc => ?_, fun hc => absurd (hz.trans (hd.trans (by rw [u15 d hk]))) hc⟩⟩
    intro v16 hv16
    rw [h0] at hv16
    have : v16 = nI 10 := by rw [hv16]; decide
    refine ⟨10, this, by decide, fun q hq w1 hw1 => ⟨?_, fun w2 hw2 => ?_⟩⟩
    · subst hw1
      show va_up w.K q 13 a = 6
      rw [vu_ne (fun e => by rw [← e, h1] at hq; cases hq)]; exact h1
    · subst hw1
      subst hw2
      refine key q 10 _ hq (by omega) (by omega) rfl rfl rfl rfl (fun b hb => ⟨?_, ?_, ?_⟩) (fun i hi => by omega)
      · funext j; exact if_neg hb
      · funext j; exact if_neg hb
      · funext j; exact if_neg hb
/-- what a row may hold -/
def elK (w : Wd) (y : Nat) : Prop := w.K y = 1 ∨ w.K y = 2 ∨ w.K y = 3
theorem elK.ne {w : Wd} {y : Nat} (h : elK w y) : w.K y ≠ 0 := by rcases h with h | h | h <;> rw [h] <;> decide
/-- a list whose row and length alone change, the row being its own -/
theorem ls_put {w w1 : Wd} {a d : Nat} {l l2 : List Nat} (hA : ALs w) (h : Ls w a l) (hd : w.R 601 a = some d) (hk : w.K d = 13) (eK : w1.K = w.K) (eN : w1.N = w.N) (eI : ∀ f b, b ≠ a → w1.I f b = w.I f b) (eR : w1.R = w.R) (eA : w1.A = w.A) (eJ : w1.J = w.J) (eO : ∀ b, b ≠ d → w1.O b = w.O b) (e2 : w1.I 602 a = nI l2.length) (hl : l2.length ≤ w.N d) (hel : ∀ y ∈ l2, elK w y) (hO : ∀ i, i < l2.length → w1.O d i = l2[i]?) : FrL a w w1 ∧ ALs w1 ∧ Ls w1 a l2 := by
  refine ⟨⟨fun b _ => by rw [eK, eN, eA, eJ]; exact ⟨rfl, rfl, rfl, rfl⟩, fun b hb => by rw [eK]; exact Or.inl hb, fun f b hb => ⟨eI f b hb, by rw [eR]⟩, fun b _ hb => eO b (fun e => hb (by rw [e]; exact hd))⟩, ?_, by rw [eK]; exact h.1, e2, fun y hy => by rw [eK]; exact hel y hy, d, by rw [eR]; exact hd, by rw [eN]; exact hl, hO⟩
  intro b hb
  rw [eK] at hb
  rw [eR, eN, eK]
  exact hA b hb
theorem s_add {w : Wd} {a e : Nat} {l : List Nat} {Q : Int32 → Wd → Prop} (hA : ALs w) (h : Ls w a l) (he : elK w e) (hl : l.length ≤ 32) (hQ : ∀ w1, FrL a w w1 → ALs w1 → Ls w1 a (l ++ [e]) → Q 1 w1) : wp_Jx4a65c_add_9ea2d a (some e) w Q := by
  obtain ⟨h1, h2, h3, d, h4, h5, h6⟩ := id h
  obtain ⟨d', q1, q0, q2⟩ := hA a h1
  rw [h4] at q1; cases q1
  refine ⟨h1, fun v hv v2 hv2 => ⟨h1, fun w3 hw3 => ?_⟩⟩
  have hA3 : ALs w3 := by subst hw3; exact hA
  have hL3 : Ls w3 a l := by
    subst hw3
    exact ⟨h1, by show up2 w.I 600 a v2 602 a = _; rw [up2_ne (by omega)]; exact h2, h3, d, h4, h5, h6⟩
  have fin : ∀ q w4, FrL a w3 w4 → ALs w4 → Ls w4 a l → w4.R 601 a = some q → w4.K q = 13 → l.length < w4.N q → ((w3.K q = 0) ∨ (w3.R 601 a = some q)) → (∃ a7, some q = some a7 ∧ w4.K a7 = 13 ∧ ∃ j8 : Nat, nI l.length = nI j8 ∧ j8 < w4.N a7 ∧ w4.N a7 < 2 ^ 31 ∧ (∀ y9, some e = some y9 → w4.K y9 = 1 ∨ w4.K y9 = 2 ∨ w4.K y9 = 3) ∧ ∀ w10 : Wd, w10 = w4.setO a7 j8 (some e) → ∀ v11 : Int32, v11 = nI l.length + (1 : Int32) → w10.K a = 6 ∧ ∀ w12 : Wd, w12 = w10.setI 602 a v11 → ((1 : Int32) = 0 ∨ (1 : Int32) = 1) ∧ Q (1 : Int32) w12) := by
    intro q w4 hF hA4 hL4 hR hK hN hq
    have he4 : elK w4 e := by
      have hK3 : w3.K = w.K := by rw [hw3]; rfl
      have he3 : elK w3 e := by unfold elK; rw [hK3]; exact he
      unfold elK; rw [(hF.1 e he3.ne).1]; exact he3
    obtain ⟨dd, g1, g0, g2⟩ := hA4 a hL4.1
    rw [hR] at g1; cases g1
    refine ⟨q, rfl, hK, l.length, rfl, hN, by omega, fun y hy => by cases hy; exact he4, fun w10 hw10 v11 hv11 => ⟨by subst hw10; exact hL4.1, fun w12 hw12 => ⟨Or.inr rfl, ?_⟩⟩⟩
    rw [nI_1] at hv11
    subst hv11
    have hput : FrL a w4 w12 ∧ ALs w12 ∧ Ls w12 a (l ++ [e]) := by
      refine ls_put (d := q) hA4 hL4 hR hK ?_ ?_ (fun f b hb => ?_) ?_ ?_ ?_ (fun b hb => ?_) ?_ ?_ ?_ (fun i hi => ?_)
      · subst hw12 hw10; rfl
      · subst hw12 hw10; rfl
      · subst hw12 hw10; exact up2_ne (fun z => hb z.2)
      · subst hw12 hw10; rfl
      · subst hw12 hw10; rfl
      · subst hw12 hw10; rfl
      · subst hw12 hw10; funext x; exact up2_ne (fun z => hb z.1)
      · subst hw12 hw10; rw [List.length_append]; exact up2_eq
      · rw [List.length_append]; simp; omega
      · intro y hy
        rcases List.mem_append.mp hy with hy | hy
        · exact hL4.2.2.1 y hy
        · rw [List.mem_singleton.mp hy]; exact he4
      · subst hw12 hw10
        rw [List.length_append] at hi
        show up2 w4.O q l.length (some e) q i = _
        by_cases ei : i = l.length
        · subst ei; rw [up2_eq]; simp
        · have hi2 : i < l.length := by simp at hi; omega
          rw [up2_ne (fun z => ei z.2), List.getElem?_append_left hi2]
          obtain ⟨d9, r1, r2, r3⟩ := hL4.2.2.2
          rw [hR] at r1; cases r1
          exact r3 i hi2
    refine hQ w12 ?_ hput.2.1 hput.2.2
    -- the frames one after another
    obtain ⟨f1, f2, f3, f4⟩ := hF
    obtain ⟨g1, g2, g3, g4⟩ := hput.1
    have hK3 : w3.K = w.K := by rw [hw3]; rfl
    refine ⟨fun b hb => ?_, fun b hb => ?_, fun f b hb => ?_, fun b hb hb2 => ?_⟩
    · have hb3 : w3.K b ≠ 0 := by rw [hK3]; exact hb
      obtain ⟨k1, k2, k3, k4⟩ := f1 b hb3
      obtain ⟨m1, m2, m3, m4⟩ := g1 b (by rw [k1]; exact hb3)
      exact ⟨by rw [m1, k1, hK3], by rw [m2, k2, hw3]; rfl, by rw [m3, k3, hw3]; rfl, by rw [m4, k4, hw3]; rfl⟩
    · have hb3 : w3.K b = 0 := by rw [hK3]; exact hb
      rcases f2 b hb3 with k | k
      · exact g2 b k
      · right; rw [(g1 b (by rw [k]; decide)).1]; exact k
    · exact ⟨((g3 f b hb).1.trans (f3 f b hb).1).trans (by rw [hw3]; exact up2_ne (fun z => hb z.2)), ((g3 f b hb).2.trans (f3 f b hb).2).trans (by rw [hw3]; rfl)⟩
    · have hb3 : w3.K b ≠ 0 := by rw [hK3]; exact hb
      have hR3 : w3.R = w.R := by rw [hw3]; rfl
      have e1 : w4.O b = w3.O b := f4 b hb3 (by rw [hR3]; exact hb2)
      have e2 : w12.O b = w4.O b := g4 b (by rw [(f1 b hb3).1]; exact hb3) (by
        rw [hR]
        intro z; cases z
        rcases hq with hq | hq
        · exact hb3 hq
        · rw [hR3] at hq; exact hb2 hq)
      rw [e2, e1, hw3]; rfl
  refine ⟨hL3.1, fun z hz => ⟨hL3.1, fun v5 hv5 => ⟨hL3.1, ?_⟩⟩⟩
  have hR3 : w3.R 601 a = some d := by rw [hw3]; exact h4
  have hN3 : w3.N = w.N := by rw [hw3]; rfl
  have hK3 : w3.K = w.K := by rw [hw3]; rfl
  rw [hL3.2.1] at hv5
  subst hv5
  refine ⟨d, hz.trans hR3, _, rfl, by rw [hK3]; rcases q2 with q | q <;> rw [q.1] <;> decide, fun v2 hv2 => ⟨_, fun q5 w6 hj => hj, fun hc => ?_, fun hc => ⟨hL3.1, ?_⟩⟩⟩
  · rw [hv2, hN3] at hc
    have hlt : l.length < w.N d := by
      rcases Nat.lt_or_ge l.length (w.N d) with e | e
      · exact e
      · exact absurd (by rw [Nat.le_antisymm h5 e]) hc
    have hk : w.K d = 13 := by
      rcases q2 with q | q
      · omega
      · exact q.1
    exact fin d w3 ⟨fun b _ => ⟨rfl, rfl, rfl, rfl⟩, fun b hb => Or.inl hb, fun f b _ => ⟨rfl, rfl⟩, fun b _ _ => rfl⟩ hA3 hL3 hR3 (by rw [hK3]; exact hk) (by rw [hN3]; exact hlt) (Or.inr hR3)
  · rw [hv2, hN3] at hc
    refine s_grow hA3 hL3 hR3 (by rw [hN3]; exact (nI_eq (by omega) (by omega)).mp hc) hl (fun q w4 hF hA4 hL4 hR4 hK4 hN4 hq4 _ => ?_)
    exact fin q w4 hF hA4 hL4 hR4 hK4 hN4 (Or.inl hq4)
theorem FrL.mod {w w3 : Wd} {a : Nat} {v : Int32} (hw3 : w3 = w.setI 600 a v) {w4 : Wd} (h : FrL a w3 w4) : FrL a w w4 := by
  subst hw3
  exact ⟨h.1, h.2.1, fun f b hb => ⟨(h.2.2.1 f b hb).1.trans (up2_ne (fun z => hb z.2)), (h.2.2.1 f b hb).2⟩, h.2.2.2⟩
theorem s_remove {w : Wd} {a i : Nat} {x : Int32} {l : List Nat} {Q : Option Nat → Wd → Prop} (hA : ALs w) (h : Ls w a l) (hx : x = nI i) (hi : i < l.length) (hl : l.length ≤ 64) (hQ : ∀ w1, FrL a w w1 → ALs w1 → Ls w1 a (l.eraseIdx i) → Q l[i]? w1) : wp_Jx4a65c_remove_915e3 a x w Q := by
  obtain ⟨h1, h2, h3, d, h4, h5, h6⟩ := id h
  obtain ⟨d', q1, q0, q2⟩ := hA a h1
  rw [h4] at q1; cases q1
  have hk : w.K d = 13 := by
    rcases q2 with q | q
    · rw [q.2] at h5; omega
    · exact q.1
  subst hx
  refine ⟨h1, fun v hv => ?_⟩
  rw [h2] at hv
  subst hv
  refine ⟨_, fun hj => hj, fun hc => nI_pos (by omega) hc, fun _ => ⟨fun _ => ?_, fun hc => hc (nI_lt hi (by omega))⟩⟩
  refine ⟨h1, fun z hz => ⟨d, hz.trans h4, hk, i, rfl, by omega, by omega, fun z7 hz7 => ⟨h1, h1, fun v1 hv1 v2 hv2 => ⟨h1, fun w3 hw3 => ⟨by subst hw3; exact h1, fun v4 hv4 v5 hv5 => ?_⟩⟩⟩⟩⟩
  rw [h6 i hi] at hz7
  have hA3 : ALs w3 := by subst hw3; exact hA
  have hL3 : Ls w3 a l := by
    subst hw3
    exact ⟨h1, by show up2 w.I 600 a v2 602 a = _; rw [up2_ne (by omega)]; exact h2, h3, d, h4, h5, h6⟩
  have hR3 : w3.R 601 a = some d := by rw [hw3]; exact h4
  have hK3 : w3.K d = 13 := by rw [hw3]; exact hk
  have hN3 : w3.N d = w.N d := by rw [hw3]; rfl
  have hO3 : w3.O = w.O := by rw [hw3]; rfl
  rw [hL3.2.1] at hv4
  subst hv4
  have e5 : v5 = nI (l.length - 1) := by rw [hv5, show (1 : Int32) = nI 1 from rfl, pk_sub (by omega)]
  have hlen : (l.eraseIdx i).length = l.length - 1 := List.length_eraseIdx_of_lt hi
  have fin : ∀ w7 : Wd, w7.K = w3.K → w7.N = w3.N → w7.I = w3.I → w7.R = w3.R → w7.A = w3.A → w7.J = w3.J → (∀ b, b ≠ d → w7.O b = w3.O b) → (∀ j, j < l.length - 1 → w7.O d j = (l.eraseIdx i)[j]?) → (w7.K a = 6 ∧ ∀ w8 : Wd, w8 = w7.setI 602 a v5 → ∃ a9, some d = some a9 ∧ w8.K a9 = 13 ∧ ∃ j10 : Nat, v5 = nI j10 ∧ j10 < w8.N a9 ∧ w8.N a9 < 2 ^ 31 ∧ (∀ y11, none = some y11 → w8.K y11 = 1 ∨ w8.K y11 = 2 ∨ w8.K y11 = 3) ∧ ∀ w12 : Wd, w12 = w8.setO a9 j10 none → Q z7 w12) := by
    intro w7 eK eN eI eR eA eJ eO eO2
    refine ⟨by rw [eK]; exact hL3.1, fun w8 hw8 => ⟨d, rfl, by subst hw8; show w7.K d = 13; rw [eK]; exact hK3, l.length - 1, e5, by subst hw8; show _ < w7.N d; rw [eN, hN3]; omega, by subst hw8; show w7.N d < _; rw [eN, hN3]; omega, fun y hy => (by cases hy), fun w12 hw12 => ?_⟩⟩
    rw [hz7]
    have hput : FrL a w3 w12 ∧ ALs w12 ∧ Ls w12 a (l.eraseIdx i) := by
      refine ls_put (d := d) hA3 hL3 hR3 hK3 ?_ ?_ (fun f b hb => ?_) ?_ ?_ ?_ (fun b hb => ?_) ?_ ?_ (fun y hy => ?_) (fun j hj => ?_)
      · subst hw12 hw8; exact eK
      · subst hw12 hw8; exact eN
      · subst hw12 hw8; show up2 w7.I 602 a v5 f b = _; rw [up2_ne (fun z => hb z.2), eI]
      · subst hw12 hw8; exact eR
      · subst hw12 hw8; exact eA
      · subst hw12 hw8; exact eJ
      · subst hw12 hw8; show up2 w7.O d (l.length - 1) none b = _; rw [← eO b hb]; funext x; exact up2_ne (fun z => hb z.1)
      · subst hw12 hw8; rw [hlen, ← e5]; exact up2_eq
      · rw [hlen, hN3]; omega
      · exact hL3.2.2.1 y (List.mem_of_mem_eraseIdx hy)
      · rw [hlen] at hj
        subst hw12 hw8
        show up2 w7.O d (l.length - 1) none d j = _
        rw [up2_ne (fun z => by omega)]
        exact eO2 j hj
    exact hQ w12 (FrL.mod hw3 hput.1) hput.2.1 hput.2.2
  refine ⟨_, fun w7 hj => hj, fun hc => ?_, fun hc => ?_⟩
  · rw [e5] at hc
    have hc2 := (nI_leI (by omega) (by omega)).mp hc
    refine fin w3 rfl rfl rfl rfl rfl rfl (fun b _ => rfl) (fun j hj => ?_)
    rw [hO3, h6 j (by omega), List.getElem?_eraseIdx, if_pos (by omega)]
  · rw [e5] at hc
    have hc2 : i < l.length - 1 := Nat.lt_of_not_le (fun z => hc (nI_le z (by omega)))
    intro v13 hv13 v14 hv14
    rw [nI_1] at hv13
    rw [e5, pk_sub (by omega)] at hv14
    refine ⟨d, rfl, i + 1, i, l.length - 1 - i, hK3, hK3, hv13, rfl, hv14, by rw [hN3]; omega, by rw [hN3]; omega, by rw [hN3]; omega, by rw [hN3]; omega, fun t ht y hy => ?_, fun w19 hw19 => ?_⟩
    · rw [hO3, h6 _ (by omega)] at hy
      exact hL3.2.2.1 y (List.mem_of_getElem? hy)
    · subst hw19
      refine fin _ rfl rfl rfl rfl rfl rfl (fun b hb => vu_ne hb) (fun j hj => ?_)
      show va_up (α := Nat → Option Nat) _ d _ d j = _
      rw [vu_eq, List.getElem?_eraseIdx]
      by_cases e : j < i
      · rw [if_pos e, pk_cpy_out (Or.inl e), hO3, h6 j (by omega)]
      · rw [if_neg e, pk_cpy_in (by omega) (by omega), hO3, h6 _ (by omega), show i + 1 + (j - i) = j + 1 by omega]
theorem s_ins {w : Wd} {a e : Nat} {x : Int32} {l1 l2 : List Nat} {Q : Wd → Prop} (hA : ALs w) (h : Ls w a (l1 ++ l2)) (hx : x = nI l1.length) (he : elK w e) (hl : (l1 ++ l2).length ≤ 32) (hQ : ∀ w1, FrL a w w1 → ALs w1 → Ls w1 a (l1 ++ e :: l2) → Q w1) : wp_Jx4a65c_add_7a177 a x (some e) w Q := by
  obtain ⟨h1, h2, h3, d, h4, h5, h6⟩ := id h
  obtain ⟨d', q1, q0, q2⟩ := hA a h1
  rw [h4] at q1; cases q1
  have hle : l1.length ≤ (l1 ++ l2).length := by rw [List.length_append]; omega
  have hlen : (l1 ++ e :: l2).length = (l1 ++ l2).length + 1 := by simp; omega
  obtain ⟨m, hm⟩ : ∃ m, m = (l1 ++ l2).length := ⟨_, rfl⟩
  rw [← hm] at hl hle h2 h5 h6 hlen
  subst hx
  refine ⟨h1, h1, fun v hv => ?_⟩
  rw [h2] at hv
  subst hv
  refine ⟨_, fun hj => hj, fun hc => nI_nlt hle (by omega) hc, fun _ => ⟨fun _ => ?_, fun hc => hc (nI_pos' (by omega))⟩⟩
  refine ⟨h1, fun v2 hv2 v3 hv3 => ⟨h1, fun w4 hw4 => ?_⟩⟩
  have hA3 : ALs w4 := by subst hw4; exact hA
  have hL3 : Ls w4 a (l1 ++ l2) := by
    subst hw4
    exact ⟨h1, by show up2 w.I 600 a v3 602 a = _; rw [up2_ne (by omega), h2, hm], h3, d, h4, by rw [← hm]; exact h5, by rw [← hm]; exact h6⟩
  have hR3 : w4.R 601 a = some d := by rw [hw4]; exact h4
  have hK3 : w4.K = w.K := by rw [hw4]; rfl
  have hN3 : w4.N = w.N := by rw [hw4]; rfl
  have he3 : elK w4 e := by unfold elK; rw [hK3]; exact he
  have fin : ∀ q w5, FrL a w4 w5 → ALs w5 → Ls w5 a (l1 ++ l2) → w5.R 601 a = some q → w5.K q = 13 → m < w5.N q → ((w4.K q = 0) ∨ (w4.R 601 a = some q)) → (∀ v13 : Int32, v13 = nI l1.length + (1 : Int32) → ∀ v14 : Int32, v14 = nI m - nI l1.length → ∃ a15, some q = some a15 ∧ ∃ j16 j17 j18 : Nat, w5.K a15 = 13 ∧ w5.K a15 = 13 ∧ nI l1.length = nI j16 ∧ v13 = nI j17 ∧ v14 = nI j18 ∧ j16 + j18 ≤ w5.N a15 ∧ j17 + j18 ≤ w5.N a15 ∧ w5.N a15 < 2 ^ 31 ∧ w5.N a15 < 2 ^ 31 ∧ (∀ t20, t20 < j18 → ∀ y21, w5.O a15 (j16 + t20) = some y21 → w5.K y21 = 1 ∨ w5.K y21 = 2 ∨ w5.K y21 = 3) ∧ ∀ w19 : Wd, w19 = w5.cpO a15 a15 j16 j17 j18 → w19.K a15 = 13 ∧ ∃ j22 : Nat, nI l1.length = nI j22 ∧ j22 < w19.N a15 ∧ w19.N a15 < 2 ^ 31 ∧ (∀ y23, some e = some y23 → w19.K y23 = 1 ∨ w19.K y23 = 2 ∨ w19.K y23 = 3) ∧ ∀ w24 : Wd, w24 = w19.setO a15 j22 (some e) → ∀ v25 : Int32, v25 = nI m + (1 : Int32) → w24.K a = 6 ∧ ∀ w26 : Wd, w26 = w24.setI 602 a v25 → Q w26) := by
    intro q w5 hF hA4 hL4 hR hK hN hq v13 hv13 v14 hv14
    have he4 : elK w5 e := by unfold elK; rw [(hF.1 e he3.ne).1]; exact he3
    obtain ⟨dd, g1, g0, g2⟩ := hA4 a hL4.1
    rw [hR] at g1; cases g1
    rw [nI_1] at hv13
    rw [pk_sub hle] at hv14
    obtain ⟨d9, r1, r2, r3⟩ := hL4.2.2.2
    rw [hR] at r1; cases r1
    rw [← hm] at r3
    refine ⟨q, rfl, l1.length, l1.length + 1, m - l1.length, hK, hK, rfl, hv13, hv14, by omega, by omega, by omega, by omega, fun t ht y hy => ?_, fun w19 hw19 => ⟨by subst hw19; exact hK, l1.length, rfl, by subst hw19; show _ < w5.N q; omega, by subst hw19; show w5.N q < _; omega, fun y hy => by cases hy; subst hw19; exact he4, fun w24 hw24 v25 hv25 => ⟨by subst hw24 hw19; exact hL4.1, fun w26 hw26 => ?_⟩⟩⟩
    · rw [r3 _ (by omega)] at hy
      exact hL4.2.2.1 y (List.mem_of_getElem? hy)
    rw [nI_1] at hv25
    subst hv25
    have hput : FrL a w5 w26 ∧ ALs w26 ∧ Ls w26 a (l1 ++ e :: l2) := by
      refine ls_put (d := q) hA4 hL4 hR hK ?_ ?_ (fun f b hb => ?_) ?_ ?_ ?_ (fun b hb => ?_) ?_ ?_ (fun y hy => ?_) (fun i hi => ?_)
      · subst hw26 hw24 hw19; rfl
      · subst hw26 hw24 hw19; rfl
      · subst hw26 hw24 hw19; exact up2_ne (fun z => hb z.2)
      · subst hw26 hw24 hw19; rfl
      · subst hw26 hw24 hw19; rfl
      · subst hw26 hw24 hw19; rfl
      · subst hw26 hw24 hw19
        show up2 (va_up w5.O q _) q l1.length (some e) b = w5.O b
        have e1 : up2 (va_up w5.O q (va_cpy (w5.O q) (w5.O q) l1.length (l1.length + 1) (m - l1.length))) q l1.length (some e) b = va_up w5.O q (va_cpy (w5.O q) (w5.O q) l1.length (l1.length + 1) (m - l1.length)) b := by funext x; exact up2_ne (fun z => hb z.1)
        exact e1.trans (vu_ne hb)
      · subst hw26 hw24 hw19; rw [hlen]; exact up2_eq
      · rw [hlen]; omega
      · rcases List.mem_append.mp hy with hy | hy
        · exact hL4.2.2.1 y (List.mem_append.mpr (Or.inl hy))
        · rcases List.mem_cons.mp hy with hy | hy
          · rw [hy]; exact he4
          · exact hL4.2.2.1 y (List.mem_append.mpr (Or.inr hy))
      · rw [hlen] at hi
        subst hw26 hw24 hw19
        show up2 (va_up w5.O q (va_cpy (w5.O q) (w5.O q) l1.length (l1.length + 1) (m - l1.length))) q l1.length (some e) q i = _
        by_cases ei : i = l1.length
        · subst ei; rw [up2_eq]; simp
        · rw [up2_ne (fun z => ei z.2), vu_eq]
          by_cases e2 : i < l1.length
          · rw [pk_cpy_out (Or.inl (by omega)), r3 i (by omega), List.getElem?_append_left e2, List.getElem?_append_left e2]
          · rw [pk_cpy_in (by omega) (by omega), r3 _ (by omega), List.getElem?_append_right (by omega), List.getElem?_append_right (by omega), show i - l1.length = (i - (l1.length + 1)) + 1 by omega, List.getElem?_cons_succ, show l1.length + (i - (l1.length + 1)) - l1.length = i - (l1.length + 1) by omega]
    refine hQ w26 ?_ hput.2.1 hput.2.2
    obtain ⟨f1, f2, f3, f4⟩ := hF
    obtain ⟨g1, g2, g3, g4⟩ := hput.1
    refine ⟨fun b hb => ?_, fun b hb => ?_, fun f b hb => ?_, fun b hb hb2 => ?_⟩
    · have hb3 : w4.K b ≠ 0 := by rw [hK3]; exact hb
      obtain ⟨k1, k2, k3, k4⟩ := f1 b hb3
      obtain ⟨m1, m2, m3, m4⟩ := g1 b (by rw [k1]; exact hb3)
      exact ⟨by rw [m1, k1, hK3], by rw [m2, k2, hw4]; rfl, by rw [m3, k3, hw4]; rfl, by rw [m4, k4, hw4]; rfl⟩
    · have hb3 : w4.K b = 0 := by rw [hK3]; exact hb
      rcases f2 b hb3 with k | k
      · exact g2 b k
      · right; rw [(g1 b (by rw [k]; decide)).1]; exact k
    · exact ⟨((g3 f b hb).1.trans (f3 f b hb).1).trans (by rw [hw4]; exact up2_ne (fun z => hb z.2)), ((g3 f b hb).2.trans (f3 f b hb).2).trans (by rw [hw4]; rfl)⟩
    · have hb3 : w4.K b ≠ 0 := by rw [hK3]; exact hb
      have hR4 : w4.R = w.R := by rw [hw4]; rfl
      have e1 : w5.O b = w4.O b := f4 b hb3 (by rw [hR4]; exact hb2)
      have e2 : w26.O b = w5.O b := g4 b (by rw [(f1 b hb3).1]; exact hb3) (by
        rw [hR]
        intro z; cases z
        rcases hq with hq | hq
        · exact hb3 hq
        · rw [hR4] at hq; exact hb2 hq)
      rw [e2, e1, hw4]; rfl
  refine ⟨hL3.1, fun v5 hv5 => ⟨hL3.1, fun z hz => ?_⟩⟩
  rw [hL3.2.1, ← hm] at hv5
  subst hv5
  refine ⟨d, hz.trans hR3, _, rfl, by rw [hK3]; rcases q2 with q | q <;> rw [q.1] <;> decide, fun v8 hv8 => ⟨_, fun q5 w6 hj => hj, fun hc => ?_, fun hc => ⟨hL3.1, ?_⟩⟩⟩
  · rw [hv8, hN3] at hc
    have hlt : m < w.N d := by
      rcases Nat.lt_or_ge m (w.N d) with e | e
      · exact e
      · exact absurd (by rw [Nat.le_antisymm h5 e]) hc
    have hk : w.K d = 13 := by
      rcases q2 with q | q
      · omega
      · exact q.1
    exact fin d w4 ⟨fun b _ => ⟨rfl, rfl, rfl, rfl⟩, fun b hb => Or.inl hb, fun f b _ => ⟨rfl, rfl⟩, fun b _ _ => rfl⟩ hA3 hL3 hR3 (by rw [hK3]; exact hk) (by rw [hN3]; exact hlt) (Or.inr hR3)
  · rw [hv8, hN3] at hc
    refine s_grow hA3 hL3 hR3 (by rw [hN3, ← hm]; exact (nI_eq (by omega) (by omega)).mp hc) (by rw [← hm]; exact hl) (fun q w5 hF hA4 hL4 hR4 hK4 hN4 hq4 _ => ?_)
    exact fin q w5 hF hA4 hL4 hR4 hK4 (by rw [hm]; exact hN4) (Or.inl hq4)
/-- what a new object leaves as it was -/
def FrN (q : Nat) (w w1 : Wd) : Prop := w.K q = 0 ∧ (∀ b, b ≠ q → w1.K b = w.K b ∧ w1.N b = w.N b ∧ w1.A b = w.A b ∧ w1.J b = w.J b ∧ w1.O b = w.O b ∧ ∀ f, w1.I f b = w.I f b ∧ w1.R f b = w.R f b)
/-- a new list, made -/
theorem s_init {w : Wd} {q : Nat} {Q : Wd → Prop} (hA : ALs w) (hq : w.K q = 0) (hQ : ∀ w1, FrN q w w1 → w1.K q = 6 → ALs w1 → Ls w1 q [] → Q w1) : wp_Jx4a65c_init_da8c8 q (w.new 6 q) Q := by
  have hK : (w.new 6 q).K q = 6 := vu_eq
  refine ⟨hK, fun w2 hw2 => fun e h1 h2 h3 => ⟨by subst hw2; exact hK, fun w3 hw3 => ?_⟩⟩
  have hne : ∀ b, w.K b ≠ 0 → b ≠ q := fun b hb z => hb (by rw [z]; exact hq)
  have k2 : w2.K = va_up w.K q 6 := by rw [hw2]; rfl
  have n2 : w2.N = w.N := by rw [hw2]; rfl
  have hF : FrN q w w3 := by
    refine ⟨hq, fun b hb => ⟨?_, ?_, ?_, ?_, ?_, fun f => ⟨?_, ?_⟩⟩⟩
    · subst hw3 hw2; exact vu_ne hb
    · subst hw3 hw2; rfl
    · subst hw3 hw2; rfl
    · subst hw3 hw2; rfl
    · subst hw3 hw2; rfl
    · subst hw3 hw2; exact (up2_ne (fun z => hb z.2)).trans (if_neg hb)
    · subst hw3 hw2; exact (up2_ne (fun z => hb z.2)).trans (if_neg hb)
  have e0 : w3.K e = 15 ∧ w3.N e = 0 := by rw [hw3]; exact ⟨h1, h2⟩
  have r3 : w3.R 601 q = some e := by rw [hw3]; exact up2_eq
  have k3 : w3.K q = 6 := by rw [hw3, hw2]; exact hK
  refine hQ w3 hF k3 ?_ ⟨k3, by rw [hw3, hw2]; show up2 (w.new 6 q).I 600 q (0 : Int32) 602 q = nI 0; rw [up2_ne (by omega)]; exact if_pos rfl, fun y hy => absurd hy List.not_mem_nil, e, r3, Nat.zero_le _, fun i hi => absurd hi (Nat.not_lt_zero _)⟩
  intro b hb
  by_cases ebq : b = q
  · subst ebq
    exact ⟨e, r3, by rw [e0.2]; decide, Or.inl e0⟩
  · have hb0 : w.K b = 6 := by rw [← (hF.2 b ebq).1]; exact hb
    obtain ⟨d, g1, g0, g2⟩ := hA b hb0
    have hd : d ≠ q := hne d (by rcases g2 with g | g <;> rw [g.1] <;> decide)
    refine ⟨d, by rw [((hF.2 b ebq).2.2.2.2.2 601).2]; exact g1, by rw [(hF.2 d hd).2.1]; exact g0, ?_⟩
    rw [(hF.2 d hd).1, (hF.2 d hd).2.1]
    rcases g2 with g | g
    · exact Or.inl g
    · refine Or.inr ⟨g.1, g.2.1, fun c hc hcd => ?_⟩
      by_cases ec : c = q
      · subst ec
        rw [r3] at hcd
        cases hcd
        have := e0.1
        rw [(hF.2 _ hd).1, g.1] at this
        cases this
      · rw [(hF.2 c ec).1] at hc
        rw [((hF.2 c ec).2.2.2.2.2 601).2] at hcd
        exact g.2.2 c hc hcd
