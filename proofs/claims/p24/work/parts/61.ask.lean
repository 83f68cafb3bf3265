-- ===== what is asked, with arguments in their ranges
section ASK
variable {w : Wd} {G : GH} {S : MS} {n : Nat} {Q : Int32 → Wd → Prop}
theorem nIP {S : MS} {x : Int32} {i : Nat} (v : JV n S) (hi : i < nP S) (e : x = nI i) : ¬ (x < 0 ∨ nI (nP S) ≤ x) := by
  rw [e]; exact ix_ne hi v.sh.2.1
theorem nIC {S : MS} {x : Int32} {i : Nat} (v : JV n S) (hi : i < nC S) (e : x = nI i) : ¬ (x < 0 ∨ nI (nC S) ≤ x) := by
  rw [e]; exact ix_cne hi v.sh.2.2.2.1
theorem nI_P {S : MS} {i j : Nat} (v : JV n S) (hi : i < nP S) (hj : j < nP S) (e : nI i = nI j) : i = j := by
  have := v.sh.2.1
  exact (nI_eq (by omega) (by omega)).mp e
theorem nI_C {S : MS} {i j : Nat} (v : JV n S) (hi : i < nC S) (hj : j < nC S) (e : nI i = nI j) : i = j := by
  have := v.sh.2.2.2.1
  exact (nI_eq (by omega) (by omega)).mp e
theorem a_of {i : Nat} {x : Int32} (h : RC w G S S) (v : JV n S) (hi : i < nP S) (h0 : ¬ x < 0) (h6 : x ≤ 6) (hQ : ∀ w1 G', GK G G' → RC w1 G' S S → Q (fof S i x) w1) : wp_X3_of G.x (nI i) x w Q (fun _ _ => False) := by
  obtain ⟨k, r, S', hk, hI, hm⟩ := u_of (x1 := nI i) (x2 := x) h v
  rcases hI with ⟨-, hb⟩ | ⟨-, hb⟩ | ⟨j, hj, ej, rfl, rfl⟩
  · exact absurd hb (nIP v hi rfl)
  · exact (hb.elim (fun z => h0 z) (fun z => z h6)).elim
  · have e0 : k = 0 := hk.symm
    have := nI_P v hi hj ej
    subst this
    exact hm (Or.inl e0) Q _ (fun _ w1 G' g q => hQ w1 G' g q) (fun z => by rw [e0] at z; exact absurd z (by decide))
theorem a_mem {c i : Nat} {x : Int32} (h : RC w G S S) (v : JV n S) (hc : c < nC S) (hi : i < nP S) (h0 : ¬ x < 0) (h6 : x ≤ 3) (hY : ∀ k, k < mn S c → wh S (10 * c + k) = i → ∀ w1 G', GK G G' → RC w1 G' S S → Q (fmem S c k x) w1) (hN : (∀ k, k < mn S c → wh S (10 * c + k) ≠ i) → ∀ w1 G', GK G G' → RC w1 G' S S → Q (-1) w1) : wp_X3_member G.x (nI c) (nI i) x w Q (fun _ _ => False) := by
  obtain ⟨k, r, S', hk, hI, hm⟩ := u_member (x1 := nI c) (x2 := nI i) (x3 := x) h v
  rcases hI with ⟨-, hb⟩ | ⟨-, hb⟩ | ⟨c', i', hc', hi', ec, ei, rfl, rfl, hno⟩ | ⟨c', i', k', hc', hi', ec, ei, hk', hw, rfl, rfl⟩
  · exact (hb.elim (fun z => nIC v hc rfl z) (fun z => nIP v hi rfl z)).elim
  · exact (hb.elim (fun z => h0 z) (fun z => z h6)).elim
  · have e0 : k = 0 := hk.symm
    have e1 := nI_C v hc hc' ec
    have e2 := nI_P v hi hi' ei
    subst e1 e2
    exact hm (Or.inl e0) Q _ (fun _ w1 G' g q => hN hno w1 G' g q) (fun z => by rw [e0] at z; exact absurd z (by decide))
  · have e0 : k = 0 := hk.symm
    have e1 := nI_C v hc hc' ec
    have e2 := nI_P v hi hi' ei
    subst e1 e2
    exact hm (Or.inl e0) Q _ (fun _ w1 G' g q => hY k' hk' hw w1 G' g q) (fun z => by rw [e0] at z; exact absurd z (by decide))
theorem a_cir {c : Nat} {x : Int32} (h : RC w G S S) (v : JV n S) (hc : c < nC S) (h0 : ¬ x < 0) (h6 : x ≤ 4) (hQ : ∀ w1 G', GK G G' → RC w1 G' S S → Q (fcir S c x) w1) : wp_X3_ofCircle G.x (nI c) x w Q (fun _ _ => False) := by
  obtain ⟨k, r, S', hk, hI, hm⟩ := u_ofCircle (x1 := nI c) (x2 := x) h v
  rcases hI with ⟨-, hb⟩ | ⟨-, hb⟩ | ⟨j, hj, ej, rfl, rfl⟩
  · exact absurd hb (nIC v hc rfl)
  · exact (hb.elim (fun z => h0 z) (fun z => z h6)).elim
  · have e0 : k = 0 := hk.symm
    have := nI_C v hc hj ej
    subst this
    exact hm (Or.inl e0) Q _ (fun _ w1 G' g q => hQ w1 G' g q) (fun z => by rw [e0] at z; exact absurd z (by decide))
theorem a_cash (h : RC w G S S) (v : JV n S) (hQ : ∀ w1 G', GK G G' → RC w1 G' S S → Q (S.s 528) w1) : wp_X3_cash G.x w Q := by
  obtain ⟨r, S', hI, hm⟩ := u_cash h v
  obtain ⟨rfl, rfl⟩ := hI
  exact hm Q (fun w1 G' g q => hQ w1 G' g q)
/-- the coins are 0 -/
theorem fdn_i {f : Nat → Int32} {N : Nat} {v : Int32} (hf : ∀ k, k < N → 0 ≤ (f k).toInt) (hs : sumf f N ≤ v.toInt) : ∀ k, k ≤ N → (fdn v f k).toInt = v.toInt - sumf f k := by
  intro k
  induction k with
  | zero => intro _; rw [fdn, sumf, Int.sub_zero]
  | succ k ih =>
    intro hk
    have h1 := ih (by omega)
    have h2 := hf k (by omega)
    have h3 : 0 ≤ sumf f k := sumf_nn k (fun x hx => hf x (by omega))
    have hv := z_hi v
    have h4 : sumf f (k + 1) ≤ sumf f N := by
      have : ∀ d m, m + d = N → sumf f m ≤ sumf f N := by
        intro d
        induction d with
        | zero => intro m hm; rw [show m = N by omega]; exact Int.le_refl _
        | succ d ihd =>
          intro m hm
          have a := ihd (m + 1) (by omega)
          have b := hf m (by omega)
          rw [sumf] at a; omega
      exact this (N - (k + 1)) (k + 1) (by omega)
    rw [sumf] at h4
    rw [fdn, z_sub (by omega) (by omega), h1, sumf]; omega
theorem sumf_tail {f : Nat → Int32} {a b : Nat} (hab : a ≤ b) (hz : ∀ x, a ≤ x → x < b → f x = 0) : sumf f b = sumf f a := by
  obtain ⟨d, rfl⟩ := Nat.le.dest hab
  induction d with
  | zero => rfl
  | succ d ih =>
    rw [show a + (d + 1) = (a + d) + 1 by omega, sumf, hz (a + d) (by omega) (by omega), Int32.toInt_zero, ih (by omega) (fun x h1 h2 => hz x h1 (by omega))]
    omega
theorem a_coins (h : RC w G S S) (v : JV n S) (hn : n ≤ 512) (hQ : ∀ w1 G', GK G G' → RC w1 G' S S → Q 0 w1) : wp_X3_coins G.x w Q := by
  obtain ⟨r, S', hI, hm⟩ := u_coins h v
  obtain ⟨rfl, rfl⟩ := hI
  have e : fdn (fdn (S.s 529 - S.s 528) (S.a 504) (nP S)) (S.a 516) (nC S) = 0 := by
    obtain ⟨a, b, hab, m, -⟩ := v.mo
    have h16 := v.sh.2.1
    have h4 := v.sh.2.2.2.1
    have t1 : sumf (S.a 504) 16 = sumf (S.a 504) (nP S) := sumf_tail h16 (fun x a1 a2 => (v.zp x a1 a2).1)
    have t2 : sumf (S.a 516) 4 = sumf (S.a 516) (nC S) := sumf_tail h4 (fun x a1 a2 => (v.zc x a1).1)
    have n1 : 0 ≤ sumf (S.a 504) (nP S) := sumf_nn _ (fun x hx => m.1 x (by omega))
    have n2 : 0 ≤ sumf (S.a 516) (nC S) := sumf_nn _ (fun x hx => m.2.1 x (by omega))
    have hm1 := m.2.2.1
    have hm2 := m.2.2.2.1
    have hm3 := m.2.2.2.2
    rw [t1, t2] at hm2
    have e0 : (S.s 529 - S.s 528).toInt = (S.s 529).toInt - (S.s 528).toInt := z_sub (by omega) (by omega)
    have e1 := fdn_i (f := S.a 504) (N := nP S) (v := S.s 529 - S.s 528) (fun k hk => m.1 k (by omega)) (by rw [e0]; omega) (nP S) (Nat.le_refl _)
    have e2 := fdn_i (f := S.a 516) (N := nC S) (v := fdn (S.s 529 - S.s 528) (S.a 504) (nP S)) (fun k hk => m.2.1 k (by omega)) (by rw [e1, e0]; omega) (nC S) (Nat.le_refl _)
    exact eq0_of (by rw [e2, e1, e0]; omega)
  exact hm Q (fun w1 G' g q => by rw [e]; exact hQ w1 G' g q)
end ASK
