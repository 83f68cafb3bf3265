-- ===== the ledger: what is true of people, as whole numbers; how much it can be
def TG (S : MS) (T : Nat → Int) : Prop := ∀ q, S.a 511 q = Int32.ofInt (T q)
def tu (T : Nat → Int) (i : Nat) (d : Int) : Nat → Int := fun x => if x = i then T x + d else T x
theorem tu_e {T : Nat → Int} {i : Nat} {d : Int} : tu T i d i = T i + d := if_pos rfl
theorem tu_n {T : Nat → Int} {i x : Nat} {d : Int} (h : x ≠ i) : tu T i d x = T x := if_neg h
theorem TG.pay {S : MS} {T : Nat → Int} {i : Nat} {v : Int32} {d : Int} (h : TG S T) (hd : Int32.ofInt d = v) : TG (fpay S i v) (tu T i d) := by
  intro q
  unfold fpay
  by_cases e : q = i
  · rw [e, a_e, tu_e, Int32.ofInt_add, hd, h i]
  · rw [a_b e, a_f (by decide), tu_n e, h q]
theorem TG.sm {S S' : MS} {T : Nat → Int} (h : TG S T) (hr : Sm [511] S S') : TG S' T := fun q => by rw [hr 511 (by decide)]; exact h q
theorem TG.pos {S : MS} {T : Nat → Int} {i : Nat} {v : Int32} (h : TG S T) : TG (fpay S i v) (tu T i v.toInt) := h.pay (Int32.ofInt_toInt v)
theorem TG.neg {S : MS} {T : Nat → Int} {i : Nat} {v : Int32} (h : TG S T) : TG (fpay S i (-v)) (tu T i (-v.toInt)) := h.pay (by rw [Int32.ofInt_neg, Int32.ofInt_toInt v])
def DDm (S : MS) : Int := sumf (S.a 506) 16
def asum (S : MS) (c : Nat) : Int := sumf (fun k => S.a 522 (10 * c + k)) (mn S c)
def AAm (S : MS) : Int := asum S 0 + asum S 1
def BBm (S : MS) : Int := sumf (S.a 516) 4
def mt (S : MS) : Int := (S.a 518 0).toInt + (S.a 518 1).toInt
/-- what one owes a circle: nothing, if no member -/
def AR (S : MS) (c q : Nat) (x : Int) : Prop := (∃ k, k < mn S c ∧ wh S (10 * c + k) = q ∧ x = (S.a 522 (10 * c + k)).toInt) ∨ ((∀ k, k < mn S c → wh S (10 * c + k) ≠ q) ∧ x = 0)
theorem AR.ex (S : MS) (c q : Nat) : ∃ x, AR S c q x := by
  by_cases h : ∃ k, k < mn S c ∧ wh S (10 * c + k) = q
  · obtain ⟨k, h1, h2⟩ := h
    exact ⟨_, Or.inl ⟨k, h1, h2, rfl⟩⟩
  · exact ⟨0, Or.inr ⟨fun k h1 h2 => h ⟨k, h1, h2⟩, rfl⟩⟩
def gg : Nat → Nat
  | 0 => 120
  | w + 1 => gq (gg w)
def cw : Nat → Nat
  | 0 => 0
  | w + 1 => cw w + 7 * ((gg w + 19) / 20)
def ns (f : Nat → Nat) : Nat → Nat
  | 0 => 0
  | k + 1 => ns f k + f k
theorem ns_ext {f g : Nat → Nat} : ∀ k, (∀ x, x < k → g x = f x) → ns g k = ns f k := by
  intro k
  induction k with
  | zero => intro _; rfl
  | succ k ih => intro h; rw [ns, ns, ih (fun x hx => h x (by omega)), h k (by omega)]
theorem ns_up {f g : Nat → Nat} {i : Nat} (hf : ∀ x, x ≠ i → g x = f x) : ∀ k, i < k → ns g k + f i = ns f k + g i := by
  intro k
  induction k with
  | zero => intro h; exact absurd h (Nat.not_lt_zero _)
  | succ k ih =>
    intro h
    rw [ns, ns]
    by_cases e : i = k
    · subst e
      rw [ns_ext i (fun x hx => hf x (by omega))]; omega
    · have := ih (by omega)
      rw [hf k (fun z => e z.symm)]; omega
theorem ns_le {f : Nat → Nat} {i : Nat} : ∀ k, i < k → f i ≤ ns f k := by
  intro k
  induction k with
  | zero => intro h; exact absurd h (Nat.not_lt_zero _)
  | succ k ih =>
    intro h
    rw [ns]
    by_cases e : i = k
    · subst e; omega
    · have := ih (by omega); omega
theorem ns_le2 {f : Nat → Nat} {i j : Nat} (hij : i ≠ j) : ∀ k, i < k → j < k → f i + f j ≤ ns f k := by
  intro k
  induction k with
  | zero => intro h; exact absurd h (Nat.not_lt_zero _)
  | succ k ih =>
    intro h1 h2
    rw [ns]
    by_cases e : i = k
    · subst e
      have := ns_le (f := f) i (show j < i by omega); omega
    · by_cases e2 : j = k
      · subst e2
        have := ns_le (f := f) j (show i < j by omega); omega
      · have := ih (by omega) (by omega); omega
theorem cw_200 : ∀ w, w ≤ 50 → cw w ≤ 200 * w := by decide +kernel
theorem gg_q (w : Nat) : gg (w + 1) = gg w + (gg w + 19) / 20 := rfl
theorem cw_s (w : Nat) : cw (w + 1) = cw w + 7 * ((gg w + 19) / 20) := rfl
/-- k acts so far: e earnings, j of the fund (w of them months), s starts; o1, o2: how many people are gone into each, of those who ever were members, and of all -/
def BG (k : Nat) (S : MS) (T : Nat → Int) (e j w s : Nat) (o1 o2 : Nat → Nat) (F : Int) : Prop :=
  TG S T ∧
  (∀ q, q < 7 → (S.a 506 q).toInt ≤ ((o2 q * gg w : Nat) : Int) ∧ o1 q ≤ o2 q ∧ (S.a 512 q = 0 → 1 ≤ o2 q) ∧ (¬ S.a 512 q = 0 → o2 q = 0)) ∧ ns o2 7 = 7 ∧
  (∀ c k, c < 2 → k < mn S c → 1 ≤ o1 (wh S (10 * c + k)) ∧ (S.a 522 (10 * c + k)).toInt ≤ 44 * ((S.a 518 c).toInt * (o1 (wh S (10 * c + k)) : Int))) ∧
  (∀ c, c < 2 → 0 ≤ (S.a 518 c).toInt) ∧
  (∀ q x y, q < 7 → S.a 512 q = 0 → AR S 0 q x → AR S 1 q y → T q + x + y + DDm S ≤ 44 * (mt S * (o1 q : Int)) + F) ∧
  ((e : Int) + mt S + s + (ns (fun q => 2 * o1 q - 1) 7 : Nat) + j ≤ k ∧ (∀ c, c < 2 → ¬ S.a 520 c = 0 → 1 ≤ s) ∧ w ≤ j) ∧
  (∀ q, q < 7 → T q + DDm S ≤ 200 * ((k : Int) - w) + cw w) ∧
  (∀ q, q < 7 → -T q + (S.s 528).toInt + DDm S + BBm S + AAm S ≤ 308 * mt S + F) ∧
  (∀ q, q < 7 → S.a 512 q = 0 → (S.s 529).toInt - (T q + (S.a 504 q).toInt) ≤ 1200 + 539 * e) ∧
  (∀ q, q < 7 → -T q ≤ 1200 + 539 * e) ∧
  F ≤ 120 * ((j : Int) - w) + cw w ∧ (mt S = 0 ∨ 1 ≤ s)
/-- the truth's bounds, after at most 50 acts -/
theorem BG.fin {k : Nat} {S : MS} {T : Nat → Int} {e j w s : Nat} {o1 o2 : Nat → Nat} {F : Int} (h : BG k S T e j w s o1 o2 F) (hk : k ≤ 50) (hD : 0 ≤ DDm S) (hB : 0 ≤ BBm S) (hA : 0 ≤ AAm S) (hC : 0 ≤ (S.s 528).toInt) {q : Nat} (hq : q < 7) : -10000 ≤ T q ∧ T q ≤ 10000 := by
  obtain ⟨-, -, -, -, g5, -, ⟨g7, -, g7b⟩, g8, g9, -, g11, g12, g13⟩ := h
  have a1 := g8 q hq
  have a2 := g9 q hq
  have a3 := g11 q hq
  have c0 := g5 0 (by decide)
  have c1 := g5 1 (by decide)
  have hm : 0 ≤ mt S := by unfold mt; omega
  have hj : (j : Int) ≤ k := by omega
  have hw : w ≤ 50 := by omega
  have c200 := cw_200 w hw
  refine ⟨?_, by omega⟩
  rcases Nat.lt_or_ge e 17 with z | z
  · omega
  · rcases g13 with m0 | s1
    · rw [m0] at a2 g7; omega
    · omega
theorem AR.same {S S' : MS} {c q : Nat} {x : Int} (hp : Sm [517, 521, 522] S S') (h : AR S' c q x) : AR S c q x := by
  have em : mn S' c = mn S c := by unfold mn; rw [hp 517 (by decide)]
  have ew : ∀ y, wh S' y = wh S y := fun y => by unfold wh; rw [hp 521 (by decide)]
  unfold AR at h
  rw [em] at h
  simp only [ew, hp 522 (by decide)] at h
  exact h
theorem asum_same {S S' : MS} {c : Nat} (hp : Sm [517, 522] S S') : asum S' c = asum S c := by
  unfold asum
  have em : mn S' c = mn S c := by unfold mn; rw [hp 517 (by decide)]
  rw [em]
  exact sumf_ext _ (fun x _ => hp 522 (by decide) _)
theorem DD_same {S S' : MS} (hp : Sm [506] S S') : DDm S' = DDm S := sumf_ext _ (fun x _ => hp 506 (by decide) _)
theorem BB_same {S S' : MS} (hp : Sm [516] S S') : BBm S' = BBm S := sumf_ext _ (fun x _ => hp 516 (by decide) _)
theorem pu_er {a : Nat} {e : Int} {S : MS} (m : MO e a S) {q : Nat} (hq : q < 16) : (S.a 504 q).toInt ≤ (S.s 529).toInt + e := by
  have h1 := sumf_le 16 m.1 hq
  have h2 := sumf_nn 4 m.2.1
  have h3 := m.2.2
  omega
/-- money between people and the fund, debts: what it does to the ledger -/
def LR (S : MS) (T : Nat → Int) (S' : MS) (T' : Nat → Int) (f : Int) : Prop :=
  TG S' T' ∧ (∀ q, q < 7 → S.a 512 q = 0 → T' q + (S'.a 504 q).toInt = T q + (S.a 504 q).toInt) ∧
  (∀ q, q < 7 → -T' q + (S'.s 528).toInt + DDm S' ≤ -T q + (S.s 528).toInt + DDm S + f) ∧
  (∀ q, q < 7 → T' q + DDm S' ≤ T q + DDm S + f) ∧ (∀ q, q < 7 → ¬ S.a 512 q = 0 → T' q = T q)
/-- an act of the fund, or one that moves nothing -/
theorem BG.fund {k : Nat} {S S' : MS} {T T' : Nat → Int} {e j w s j' w' : Nat} {o1 o2 : Nat → Nat} {F f : Int} (h : BG k S T e j w s o1 o2 F) (hp : Sm [512, 516, 517, 518, 520, 521, 522] S S') (hL : LR S T S' T' f) (hE : S'.s 529 = S.s 529) {a : Nat} (mo : MO 0 a S')
    (hd : ∀ q, q < 7 → (S'.a 506 q).toInt ≤ ((o2 q * gg w' : Nat) : Int)) (f0 : 0 ≤ f) (hc : (w' = w ∧ j' = j ∧ f = 0) ∨ (w' = w ∧ j' = j + 1 ∧ f ≤ 120) ∨ (w' = w + 1 ∧ j' = j + 1 ∧ f ≤ (7 * ((gg w + 19) / 20) : Nat))) : BG (k + 1) S' T' e j' w' s o1 o2 (F + f) := by
  obtain ⟨g1, g2, g3, g4, g5, g6, ⟨g7, g7a, g7b⟩, g8, g9, g10, g11, g12, g13⟩ := h
  obtain ⟨l1, l2, l3, l4, l5⟩ := hL
  have em : ∀ c, mn S' c = mn S c := fun c => by unfold mn; rw [hp 517 (by decide)]
  have ew : ∀ y, wh S' y = wh S y := fun y => by unfold wh; rw [hp 521 (by decide)]
  have e18 : ∀ c, S'.a 518 c = S.a 518 c := fun c => hp 518 (by decide) c
  have e12 : ∀ c, S'.a 512 c = S.a 512 c := fun c => hp 512 (by decide) c
  have emt : mt S' = mt S := by unfold mt; rw [e18, e18]
  have eAA : AAm S' = AAm S := by unfold AAm; rw [asum_same (hp.sub (by decide)), asum_same (hp.sub (by decide))]
  have eBB : BBm S' = BBm S := BB_same (hp.sub (by decide))
  have hcw := cw_s w
  have hfw : f + 200 * ((k : Int) - w) + cw w ≤ 200 * (((k + 1 : Nat) : Int) - w') + cw w' := by
    rcases hc with ⟨h1, h2, h3⟩ | ⟨h1, h2, h3⟩ | ⟨h1, h2, h3⟩ <;> subst h1 <;> omega
  have hF : F + f ≤ 120 * ((j' : Int) - w') + cw w' := by
    rcases hc with ⟨h1, h2, h3⟩ | ⟨h1, h2, h3⟩ | ⟨h1, h2, h3⟩ <;> subst h1 h2 <;> omega
  have hj : j' ≤ j + 1 ∧ w' ≤ j' := by
    rcases hc with ⟨h1, h2, h3⟩ | ⟨h1, h2, h3⟩ | ⟨h1, h2, h3⟩ <;> omega
  have g10' : ∀ q, q < 7 → S'.a 512 q = 0 → (S'.s 529).toInt - (T' q + (S'.a 504 q).toInt) ≤ 1200 + 539 * e := fun q hq hl => by
    rw [e12] at hl
    rw [hE, l2 q hq hl]; exact g10 q hq hl
  refine ⟨l1, fun q hq => ?_, g3, fun c k hc hk => ?_, fun c hc => by rw [e18]; exact g5 c hc, fun q x y hq hl hx hy => ?_, ⟨by rw [emt]; omega, fun c hc => by rw [hp 520 (by decide)]; exact g7a c hc, hj.2⟩, fun q hq => ?_, fun q hq => ?_, g10', fun q hq => ?_, hF, by rw [emt]; exact g13⟩
  · rw [e12]
    exact ⟨hd q hq, (g2 q hq).2⟩
  · rw [em] at hk
    rw [ew, hp 522 (by decide), e18]; exact g4 c k hc hk
  · rw [e12] at hl
    have a1 := g6 q x y hq hl (hx.same (hp.sub (by decide))) (hy.same (hp.sub (by decide)))
    have a2 := l4 q hq
    rw [emt]; omega
  · have a1 := g8 q hq
    have a2 := l4 q hq
    omega
  · have a1 := g9 q hq
    have a2 := l3 q hq
    rw [emt, eAA, eBB]; omega
  · by_cases hl : S.a 512 q = 0
    · have a1 := g10' q hq (by rw [e12]; exact hl)
      have a2 := pu_er mo (show q < 16 by omega)
      omega
    · rw [l5 q hq hl]; exact g11 q hq
theorem LR.rf {S S' : MS} {T : Nat → Int} (h : TG S T) (hp : Sm [504, 506, 511] S S') (hs : S'.s 528 = S.s 528) : LR S T S' T 0 := by
  have eD : DDm S' = DDm S := DD_same (hp.sub (by decide))
  exact ⟨h.sm (hp.sub (by decide)), fun q _ _ => by rw [hp 504 (by decide)], fun q _ => by rw [hs, eD]; omega, fun q _ => by rw [eD]; omega, fun q _ _ => rfl⟩
/-- nothing of the ledger is touched -/
theorem BG.same {k : Nat} {S S' : MS} {T : Nat → Int} {e j w s : Nat} {o1 o2 : Nat → Nat} {F : Int} (h : BG k S T e j w s o1 o2 F) (hp : Sm [504, 506, 511, 512, 516, 517, 518, 520, 521, 522] S S') (h8 : S'.s 528 = S.s 528) (hE : S'.s 529 = S.s 529) {a : Nat} (mo : MO 0 a S') : BG (k + 1) S' T e j w s o1 o2 F := by
  have := h.fund (S' := S') (T' := T) (j' := j) (w' := w) (f := 0) (hp.sub (by decide)) (LR.rf h.1 (hp.sub (by decide)) h8) hE mo (fun q hq => by rw [hp 506 (by decide)]; exact (h.2.1 q hq).1) (Int.le_refl _) (Or.inl ⟨rfl, rfl, rfl⟩)
  rw [Int.add_zero] at this
  exact this
theorem BG.earn {k : Nat} {S S' : MS} {T : Nat → Int} {e j w s : Nat} {o1 o2 : Nat → Nat} {F : Int} (h : BG k S T e j w s o1 o2 F) {i : Nat} {d : Int} (hi : i < 7) (hd : d ≤ 539) (hp : Sm [506, 511, 512, 516, 517, 518, 520, 521, 522] S S') (h4 : ∀ q, q < 7 → (S'.a 504 q).toInt = (S.a 504 q).toInt + if q = i then d else 0) (h8 : S'.s 528 = S.s 528) (hE : (S'.s 529).toInt = (S.s 529).toInt + d) {a : Nat} (mo : MO 0 a S') : BG (k + 1) S' T (e + 1) j w s o1 o2 F := by
  obtain ⟨g1, g2, g3, g4, g5, g6, ⟨g7, g7a, g7b⟩, g8, g9, g10, g11, g12, g13⟩ := h
  have em : ∀ c, mn S' c = mn S c := fun c => by unfold mn; rw [hp 517 (by decide)]
  have ew : ∀ y, wh S' y = wh S y := fun y => by unfold wh; rw [hp 521 (by decide)]
  have e18 : ∀ c, S'.a 518 c = S.a 518 c := fun c => hp 518 (by decide) c
  have e12 : ∀ c, S'.a 512 c = S.a 512 c := fun c => hp 512 (by decide) c
  have emt : mt S' = mt S := by unfold mt; rw [e18, e18]
  have eAA : AAm S' = AAm S := by unfold AAm; rw [asum_same (hp.sub (by decide)), asum_same (hp.sub (by decide))]
  have eBB : BBm S' = BBm S := BB_same (hp.sub (by decide))
  have eDD : DDm S' = DDm S := DD_same (hp.sub (by decide))
  have g10' : ∀ q, q < 7 → S'.a 512 q = 0 → (S'.s 529).toInt - (T q + (S'.a 504 q).toInt) ≤ 1200 + 539 * ((e + 1 : Nat) : Int) := fun q hq hl => by
    rw [e12] at hl
    have a1 := g10 q hq hl
    have a2 := h4 q hq
    by_cases z : q = i
    · rw [if_pos z] at a2; omega
    · rw [if_neg z] at a2; omega
  refine ⟨g1.sm (hp.sub (by decide)), fun q hq => ?_, g3, fun c k hc hk => ?_, fun c hc => by rw [e18]; exact g5 c hc, fun q x y hq hl hx hy => ?_, ⟨by rw [emt]; omega, fun c hc => by rw [hp 520 (by decide)]; exact g7a c hc, g7b⟩, fun q hq => ?_, fun q hq => ?_, g10', fun q hq => ?_, g12, by rw [emt]; exact g13⟩
  · rw [e12, hp 506 (by decide)]; exact g2 q hq
  · rw [em] at hk
    rw [ew, hp 522 (by decide), e18]; exact g4 c k hc hk
  · rw [e12] at hl
    have a1 := g6 q x y hq hl (hx.same (hp.sub (by decide))) (hy.same (hp.sub (by decide)))
    rw [emt, eDD]; exact a1
  · have a1 := g8 q hq
    rw [eDD]; omega
  · rw [emt, eAA, eBB, eDD, h8]; exact g9 q hq
  · have a1 := g11 q hq
    omega
/-- a circle starts -/
theorem BG.start {k : Nat} {S S' : MS} {T : Nat → Int} {e j w s : Nat} {o1 o2 : Nat → Nat} {F : Int} (h : BG k S T e j w s o1 o2 F) (hp : Sm [504, 506, 511, 512, 516, 517, 518, 521, 522] S S') (h8 : S'.s 528 = S.s 528) (hE : S'.s 529 = S.s 529) : BG (k + 1) S' T e j w (s + 1) o1 o2 F := by
  obtain ⟨g1, g2, g3, g4, g5, g6, ⟨g7, g7a, g7b⟩, g8, g9, g10, g11, g12, g13⟩ := h
  have em : ∀ c, mn S' c = mn S c := fun c => by unfold mn; rw [hp 517 (by decide)]
  have ew : ∀ y, wh S' y = wh S y := fun y => by unfold wh; rw [hp 521 (by decide)]
  have e18 : ∀ c, S'.a 518 c = S.a 518 c := fun c => hp 518 (by decide) c
  have e12 : ∀ c, S'.a 512 c = S.a 512 c := fun c => hp 512 (by decide) c
  have emt : mt S' = mt S := by unfold mt; rw [e18, e18]
  have eAA : AAm S' = AAm S := by unfold AAm; rw [asum_same (hp.sub (by decide)), asum_same (hp.sub (by decide))]
  have eBB : BBm S' = BBm S := BB_same (hp.sub (by decide))
  have eDD : DDm S' = DDm S := DD_same (hp.sub (by decide))
  refine ⟨g1.sm (hp.sub (by decide)), fun q hq => ?_, g3, fun c k hc hk => ?_, fun c hc => by rw [e18]; exact g5 c hc, fun q x y hq hl hx hy => ?_, ⟨by rw [emt]; omega, fun c hc _ => by omega, g7b⟩, fun q hq => ?_, fun q hq => ?_, fun q hq hl => ?_, g11, g12, Or.inr (by omega)⟩
  · rw [e12, hp 506 (by decide)]; exact g2 q hq
  · rw [em] at hk
    rw [ew, hp 522 (by decide), e18]; exact g4 c k hc hk
  · rw [e12] at hl
    have a1 := g6 q x y hq hl (hx.same (hp.sub (by decide))) (hy.same (hp.sub (by decide)))
    rw [emt, eDD]; exact a1
  · have a1 := g8 q hq
    rw [eDD]; omega
  · rw [emt, eAA, eBB, eDD, h8]; exact g9 q hq
  · rw [e12] at hl
    rw [hE, hp 504 (by decide)]; exact g10 q hq hl
