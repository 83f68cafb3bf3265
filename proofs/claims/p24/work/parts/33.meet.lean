-- ===== meetings
/-- v goes out of c's box to person i -/
def fgive (S : MS) (c i : Nat) (v : Int32) : MS := fpay (S.setA 516 c (S.a 516 c - v)) i (-v)
theorem fgive_comm {S : MS} {c i : Nat} {v : Int32} : fgive S c i v = (fpay S i (-v)).setA 516 c (S.a 516 c - v) := by
  unfold fgive fpay
  rw [a_f (S := S) (by decide), a_f (S := S) (by decide), setA_comm (r := 516) (r' := 504) (by decide), setA_comm (r := 516) (r' := 511) (by decide)]
theorem k_giveOut {w : Wd} {G : GH} {S S0 : MS} {c j : Nat} {v : Int32} {Q : Wd → Prop} (h : RC w G S S0) (hc : c < nC S) (hj : inr 3 j S) (hh : wh S j < nP S) (hQ : ∀ w1, RC w1 G (fgive S c (wh S j) v) S0 → Q w1) : wp_X0_giveOut (G.C c) (some (G.L j)) v w Q := by
  have g : w.I 105 (G.C c) = S.a 516 c := h.get (k := 1) (f := 105) (r := 516) (by decide) hc
  refine ⟨h.kC hc, fun v1 h1 v2 h2 => ⟨h.kC hc, fun w3 h3 => ?_⟩⟩
  rw [g] at h1; subst h1 h2
  have q : RC w3 G (S.setA 516 c (S.a 516 c - v)) S0 := by
    subst h3; exact RC.set (k := 1) h (by decide) (by decide) (by decide) (by decide) hc
  have hj2 : inr 3 j (S.setA 516 c (S.a 516 c - v)) := (inr_setA (by decide)).mpr hj
  have hw : wh (S.setA 516 c (S.a 516 c - v)) j = wh S j := by rw [wh_setA (by decide)]
  refine ⟨_, rfl, q.kL hj2, fun z5 h5 => ⟨G.P (wh S j), ?_, q.kP hh, k_getOut q hh (fun w7 q7 => hQ w7 q7)⟩⟩
  rw [h5, q.hold hj2, hw]
theorem setA_idem {S : MS} {r j : Nat} {v v' : Int32} : (S.setA r j v).setA r j v' = S.setA r j v' := by
  refine Prod.ext rfl ?_
  funext x y
  show up2 (up2 S.2 r j v) r j v' x y = up2 S.2 r j v' x y
  unfold up2
  by_cases h : x = r ∧ y = j
  · rw [if_pos h, if_pos h]
  · rw [if_neg h, if_neg h, if_neg h]
def owes (S : MS) (c j : Nat) : Int32 := S.a 514 c + S.a 522 j
/-- what the member at j pays -/
def cpay (S : MS) (c j : Nat) : Int32 := if S.a 504 (wh S j) < owes S c j then S.a 504 (wh S j) else owes S c j
def crest (S : MS) (c j : Nat) (m : Int32) : Int32 := if owes S c j - cpay S c j ≤ 0 ∨ ¬ m = 0 then owes S c j - cpay S c j else owes S c j - cpay S c j + S.a 514 c / 10
def fcol (S : MS) (c j : Nat) (m : Int32) : MS := (((fpay S (wh S j) (cpay S c j)).setA 516 c (S.a 516 c + cpay S c j)).setA 525 j (S.a 525 j + cpay S c j)).setA 522 j (crest S c j m)
theorem min_le {a b : Int32} : (if a < b then a else b) = if a ≤ b then a else b := by
  by_cases h : a < b
  · rw [if_pos h, if_pos (Int32.le_of_lt h)]
  · rw [if_neg h]
    by_cases h2 : a ≤ b
    · rw [if_pos h2]; exact Int32.le_antisymm (i_nle h) h2
    · rw [if_neg h2]
theorem m_collects {S : MS} {c j : Nat} {m : Int32} {Q : MS → Prop} (hc : c < 4) (hj : j < 40) (hw : S.a 521 j = nI (wh S j)) (hp : wh S j < 16) (hQ : Q (fcol S c j m)) : sp_X4_collects (nI c) (nI j) m S Q := by
  obtain ⟨i, hi⟩ : ∃ i, i = wh S j := ⟨_, rfl⟩
  obtain ⟨v, hv⟩ : ∃ v, v = cpay S c j := ⟨_, rfl⟩
  rw [← hi] at hw hp
  refine ⟨j, rfl, hj, fun v2 e2 => ⟨c, rfl, hc, fun v4 e4 => ⟨j, rfl, hj, fun v6 e6 v7 e7 => ?_⟩⟩⟩
  rw [hw] at e2; subst e2
  have e7 : v7 = owes S c j := by rw [e7, e4, e6]; rfl
  refine ⟨i, rfl, hp, fun v9 e9 => ⟨fun y => y = v, fun y11 hy => ?_, fun hle => ⟨i, rfl, hp, fun v44 e44 => ?_⟩, fun hle => ?_⟩⟩
  · subst hy
    refine m_pays hp ⟨c, rfl, hc, fun v14 e14 v15 e15 => ⟨c, rfl, hc, fun S17 h17 => ⟨j, rfl, hj, fun v19 e19 v20 e20 => ⟨j, rfl, hj, fun S22 h22 v23 e23 => ⟨j, rfl, hj, fun S25 h25 => ⟨j, rfl, hj, fun v27 e27 => ⟨j, rfl, hj, fun v29 e29 => ?_⟩⟩⟩⟩⟩⟩⟩
    rw [fpay_a (by decide) (by decide)] at e14
    have g19 : S17.a 525 j = S.a 525 j := by rw [h17, a_f (by decide), fpay_a (by decide) (by decide)]
    rw [g19] at e19
    have g27 : S25.a 522 j = owes S c j - y11 := by rw [h25, a_e, e23, e7]
    have g41 : S25.a 514 c = S.a 514 c := by rw [h25, a_f (by decide), h22, a_f (by decide), h17, a_f (by decide), fpay_a (by decide) (by decide)]
    rw [g27] at e27 e29
    have fin : ∀ z, z = crest S c j m → Q (S25.setA 522 j z) := fun z hz => by
      have e : S25.setA 522 j z = fcol S c j m := by
        rw [h25, setA_idem, h22, h17, e20, e19, e15, e14, hz, hi, hv]; rfl
      rw [e]; exact hQ
    refine ⟨fun a b d => a = nI j ∧ b + d = crest S c j m, fun a b d hab v34 e34 => ?_, fun a b => a = nI j ∧ b = crest S c j m, fun a b hab => ⟨hab.1, by rw [Int32.add_zero]; exact hab.2⟩, fun z => ⟨rfl, ?_⟩, fun z => ⟨fun z2 => ⟨rfl, ?_⟩, fun z2 => ⟨c, rfl, hc, fun v41 e41 => ⟨by decide, fun v42 e42 => ⟨rfl, ?_⟩⟩⟩⟩⟩
    · obtain ⟨rfl, hab⟩ := hab
      exact ⟨j, rfl, hj, fun S36 h36 => by rw [h36]; exact fin _ (e34.trans hab)⟩
    · rw [e27, hv, crest, if_pos (Or.inl (by rw [← hv, ← e29]; exact z))]
    · rw [e27, hv, crest, if_pos (Or.inr z2)]
    · rw [e27, e42, e41, g41, hv, crest, if_neg (fun q => q.elim (fun q => z (by rw [e29, hv]; exact q)) (fun q => q z2))]
  · rw [e9, e7] at hle
    rw [e44, hv, cpay, min_le, ← hi, if_pos hle]
  · rw [e9, e7] at hle
    rw [e7, hv, cpay, min_le, ← hi, if_neg hle]
/-- the first k members of c pay in -/
def fcols (S : MS) (c : Nat) (m : Int32) : Nat → MS
  | 0 => S
  | k + 1 => fcol (fcols S c m k) c (10 * c + k) m
theorem fcol_a {S : MS} {c j r i : Nat} {m : Int32} (h1 : r ≠ 504) (h2 : r ≠ 511) (h3 : r ≠ 516) (h4 : r ≠ 525) (h5 : r ≠ 522) : (fcol S c j m).a r i = S.a r i := by
  unfold fcol
  rw [a_f h5, a_f h4, a_f h3, fpay_a h1 h2]
theorem fcols_a {S : MS} {c r i : Nat} {m : Int32} (h1 : r ≠ 504) (h2 : r ≠ 511) (h3 : r ≠ 516) (h4 : r ≠ 525) (h5 : r ≠ 522) : ∀ k, (fcols S c m k).a r i = S.a r i := by
  intro k
  induction k with
  | zero => rfl
  | succ k ih => rw [fcols, fcol_a h1 h2 h3 h4 h5, ih]
theorem fcols_s {S : MS} {c f : Nat} {m : Int32} : ∀ k, (fcols S c m k).s f = S.s f := by
  intro k
  induction k with
  | zero => rfl
  | succ k ih => rw [fcols, ← ih]; rfl
theorem fcols_n {S : MS} {c : Nat} {m : Int32} (k : Nat) : mn (fcols S c m k) = mn S ∧ wh (fcols S c m k) = wh S ∧ nC (fcols S c m k) = nC S ∧ nP (fcols S c m k) = nP S := by
  refine ⟨?_, ?_, ?_, ?_⟩
  · funext x; unfold mn; rw [fcols_a (by decide) (by decide) (by decide) (by decide) (by decide)]
  · funext x; unfold wh; rw [fcols_a (by decide) (by decide) (by decide) (by decide) (by decide)]
  · unfold nC; rw [fcols_s]
  · unfold nP; rw [fcols_s]
