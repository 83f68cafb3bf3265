-- ===== who has the turn
/-- place a is better than place b -/
def bet (S : MS) (c a b : Nat) : Bool := if 1 < S.a 515 c then (if S.a 515 c = 3 then decide (¬ S.a 524 (10 * c + a) ≤ S.a 524 (10 * c + b)) else decide (¬ S.a 523 (10 * c + a) ≤ S.a 523 (10 * c + b))) else decide (¬ S.a 526 (10 * c + b) ≤ S.a 526 (10 * c + a))
/-- of the first k members: the place with the turn -/
def tof (S : MS) (c : Nat) : Nat → Option Nat
  | 0 => none
  | k + 1 => if S.a 527 (10 * c + k) = 0 then (match tof S c k with
    | none => some k
    | some b => if bet S c k b = true then some k else some b) else tof S c k
def tI : Option Nat → Int32
  | none => -1
  | some k => nI k
theorem tof_lt {S : MS} {c : Nat} : ∀ k b, tof S c k = some b → b < k ∧ S.a 527 (10 * c + b) = 0 := by
  intro k
  induction k with
  | zero => intro b h; cases h
  | succ k ih =>
    intro b h
    rw [tof] at h
    by_cases e : S.a 527 (10 * c + k) = 0
    · rw [if_pos e] at h
      cases ht : tof S c k with
      | none => rw [ht] at h; cases h; exact ⟨Nat.lt_succ_self _, e⟩
      | some b0 =>
        rw [ht] at h
        have h : (if bet S c k b0 = true then some k else some b0) = some b := h
        by_cases e2 : bet S c k b0 = true
        · rw [if_pos e2] at h; cases h; exact ⟨Nat.lt_succ_self _, e⟩
        · rw [if_neg e2] at h; cases h
          have := ih _ ht; exact ⟨by omega, this.2⟩
    · rw [if_neg e] at h
      have := ih b h; exact ⟨by omega, this.2⟩
theorem k_hasOrder {w : Wd} {G : GH} {S S0 : MS} {c : Nat} {Q : Int32 → Wd → Prop} (h : RC w G S S0) (hc : c < nC S) (hy : S.a 515 c = 0 ∨ S.a 515 c = 1 → Q 1 w) (hn : ¬ S.a 515 c = 0 → ¬ S.a 515 c = 1 → Q 0 w) : wp_X0_hasOrder (G.C c) w Q := by
  have g : w.I 101 (G.C c) = S.a 515 c := h.get (k := 1) (f := 101) (r := 515) (by decide) hc
  refine ⟨h.kC hc, fun v1 h1 => ⟨fun y => (y = 1 ∧ (S.a 515 c = 0 ∨ S.a 515 c = 1)) ∨ (y = 0 ∧ ¬ S.a 515 c = 0 ∧ ¬ S.a 515 c = 1), fun y hyy => ?_, S.a 515 c = 0 ∨ S.a 515 c = 1, fun z => Or.inl ⟨rfl, z⟩, fun z => Or.inl (by rw [← g, ← h1]; exact z), fun z => ⟨h.kC hc, fun v5 h5 => ⟨fun z5 => Or.inr ⟨rfl, by rw [← g, ← h1]; exact z, by rw [← g, ← h5]; exact z5⟩, fun z5 => Or.inr (by rw [← g, ← h5]; exact z5)⟩⟩⟩⟩
  rcases hyy with ⟨rfl, z⟩ | ⟨rfl, z1, z2⟩
  · exact ⟨Or.inr rfl, hy z⟩
  · exact ⟨Or.inl rfl, hn z1 z2⟩
theorem k_rank {w : Wd} {G : GH} {S S0 : MS} {j : Nat} {x : Int32} {Q : Int32 → Wd → Prop} (h : RC w G S S0) (hj : inr 3 j S) (hQ : Q (if x = 2 then S.a 523 j else S.a 524 j) w) : wp_X2_rank (G.L j) x w Q := by
  have g1 : w.I 302 (G.L j) = S.a 523 j := h.get (k := 3) (f := 302) (r := 523) (by decide) hj
  have g2 : w.I 303 (G.L j) = S.a 524 j := h.get (k := 3) (f := 303) (r := 524) (by decide) hj
  refine ⟨fun y => y = if x = 2 then S.a 523 j else S.a 524 j, fun y hy => by subst hy; exact hQ, fun z => ⟨h.kL hj, fun v3 h3 => ?_⟩, fun z => ⟨h.kL hj, fun v4 h4 => ?_⟩⟩
  · rw [h3, g2, if_neg z]
  · rw [h4, g1, if_pos z]
