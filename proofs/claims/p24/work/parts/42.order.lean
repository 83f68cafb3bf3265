-- ===== the order that is made at a start: numbers alone, and the reference
theorem getD_get {l : List Nat} {r : Nat} (h : r < l.length) : l[r]? = some (l.getD r 0) := by
  rw [List.getD_eq_getElem?_getD, List.getElem?_eq_getElem h]; rfl
theorem getD_lt {l : List Nat} (h : l.Pairwise (fun a b => a < b)) {p q : Nat} (hpq : p < q) (hq : q < l.length) : l.getD p 0 < l.getD q 0 := by
  have h1 := (List.pairwise_iff_getElem.mp h) p q (by omega) hq hpq
  rw [List.getD_eq_getElem?_getD, List.getD_eq_getElem?_getD, List.getElem?_eq_getElem hq, List.getElem?_eq_getElem (by omega : p < l.length)]
  exact h1
theorem getD_mem {l : List Nat} {r : Nat} (h : r < l.length) : l.getD r 0 ∈ l := List.mem_of_getElem? (getD_get h)
theorem mem_getD {l : List Nat} {x : Nat} (h : x ∈ l) : ∃ r, r < l.length ∧ l.getD r 0 = x := by
  obtain ⟨r, hr⟩ := List.getElem?_of_mem h
  have h1 := (List.getElem?_eq_some_iff.mp hr).1
  rw [getD_get h1] at hr
  exact ⟨r, h1, by injection hr⟩
theorem perm_er : ∀ (l : List Nat) (r x : Nat), l[r]? = some x → l.Perm (x :: l.eraseIdx r) := by
  intro l
  induction l with
  | nil => intro r x h; cases h
  | cons a l ih =>
    intro r x h
    cases r with
    | zero =>
      have h : a = x := by simpa using h
      rw [h]; exact List.Perm.refl _
    | succ r =>
      have h : l[r]? = some x := by simpa using h
      exact ((ih r x h).cons a).trans (List.Perm.swap x a _)
theorem map_er {f : Nat → Nat} {l : List Nat} {r : Nat} : (l.eraseIdx r).map f = (l.map f).eraseIdx r := by
  rw [List.eraseIdx_eq_take_drop_succ, List.eraseIdx_eq_take_drop_succ, List.map_append, List.map_take, List.map_drop]
/-- the place of the eldest of the first p -/
def elr (ag : Nat → Int32) (U : List Nat) : Nat → Nat
  | 0 => 0
  | p + 1 => if ag (U.getD (elr ag U p) 0) < ag (U.getD p 0) then p else elr ag U p
theorem elr_lt {ag : Nat → Int32} {U : List Nat} : ∀ p, 0 < p → elr ag U p < p := by
  intro p
  induction p with
  | zero => intro h; exact absurd h (Nat.lt_irrefl _)
  | succ p ih =>
    intro _
    rw [elr]
    by_cases e : ag (U.getD (elr ag U p) 0) < ag (U.getD p 0)
    · rw [if_pos e]; omega
    · rw [if_neg e]
      rcases Nat.eq_zero_or_pos p with e2 | e2
      · subst e2; exact Nat.succ_pos _
      · have := ih e2; omega
theorem elr_1 {ag : Nat → Int32} {U : List Nat} : elr ag U 1 = 0 := by
  have := elr_lt (ag := ag) (U := U) 1 (by decide); omega
def pick (lot : Bool) (ag : Nat → Int32) (s n k : Nat) (U : List Nat) : Nat := if lot = true then (s + 31 * k) % (n - k) else elr ag U U.length
theorem pick_lt {lot : Bool} {ag : Nat → Int32} {s n k : Nat} {U : List Nat} (h : U.length = n - k) (hk : k < n) : pick lot ag s n k U < U.length := by
  unfold pick
  by_cases e : lot = true
  · rw [if_pos e, h]; exact Nat.mod_lt _ (by omega)
  · rw [if_neg e]; exact elr_lt _ (by omega)
/-- the placed ones, and those left -/
def sDU (lot : Bool) (ag : Nat → Int32) (s n : Nat) : Nat → List Nat × List Nat
  | 0 => ([], List.range n)
  | k + 1 => ((sDU lot ag s n k).1 ++ [(sDU lot ag s n k).2.getD (pick lot ag s n k (sDU lot ag s n k).2) 0], (sDU lot ag s n k).2.eraseIdx (pick lot ag s n k (sDU lot ag s n k).2))
theorem sDU_ok {lot : Bool} {ag : Nat → Int32} {s n : Nat} : ∀ k, k ≤ n → (sDU lot ag s n k).1.length = k ∧ (sDU lot ag s n k).2.length = n - k ∧ (sDU lot ag s n k).2.Pairwise (fun a b => a < b) ∧ ((sDU lot ag s n k).1 ++ (sDU lot ag s n k).2).Perm (List.range n) := by
  intro k
  induction k with
  | zero => intro _; exact ⟨rfl, by rw [sDU]; simp, by rw [sDU]; exact List.pairwise_lt_range, by rw [sDU]; exact List.Perm.refl _⟩
  | succ k ih =>
    intro hk
    obtain ⟨h1, h2, h3, h4⟩ := ih (by omega)
    have hp := pick_lt (lot := lot) (ag := ag) (s := s) h2 (by omega)
    rw [sDU]
    refine ⟨by simp [h1], by rw [List.length_eraseIdx_of_lt hp, h2]; omega, h3.eraseIdx _, ?_⟩
    refine List.Perm.trans ?_ h4
    rw [List.append_assoc]
    refine List.Perm.append_left _ ?_
    exact (perm_er _ _ _ (getD_get hp)).symm
theorem sDU_mem {lot : Bool} {ag : Nat → Int32} {s n k i : Nat} (hk : k ≤ n) : (i ∈ (sDU lot ag s n k).1 ∨ i ∈ (sDU lot ag s n k).2) ↔ i < n := by
  rw [← List.mem_append, (sDU_ok k hk).2.2.2.mem_iff, List.mem_range]
theorem sDU_nd {lot : Bool} {ag : Nat → Int32} {s n k : Nat} (hk : k ≤ n) : ((sDU lot ag s n k).1 ++ (sDU lot ag s n k).2).Nodup := ((sDU_ok k hk).2.2.2.nodup_iff).mpr List.nodup_range
theorem sDU_dj {lot : Bool} {ag : Nat → Int32} {s n k i : Nat} (hk : k ≤ n) (h1 : i ∈ (sDU lot ag s n k).1) (h2 : i ∈ (sDU lot ag s n k).2) : False :=
  (List.nodup_append.mp (sDU_nd hk)).2.2 i h1 i h2 rfl
/-- the reference's state behind k placed ones -/
def sT (S1 : MS) (c : Nat) (lot : Bool) (ag : Nat → Int32) (s n : Nat) : Nat → MS
  | 0 => S1
  | k + 1 => (sT S1 c lot ag s n k).setA 526 (10 * c + (sDU lot ag s n k).2.getD (pick lot ag s n k (sDU lot ag s n k).2) 0) (nI k)
theorem sT_o {S1 : MS} {c : Nat} {lot : Bool} {ag : Nat → Int32} {s n r x : Nat} (hr : r ≠ 526) : ∀ k, (sT S1 c lot ag s n k).a r x = S1.a r x := by
  intro k
  induction k with
  | zero => rfl
  | succ k ih => rw [sT, a_f hr, ih]
theorem sT_s {S1 : MS} {c : Nat} {lot : Bool} {ag : Nat → Int32} {s n f : Nat} : ∀ k, (sT S1 c lot ag s n k).s f = S1.s f := by
  intro k
  induction k with
  | zero => rfl
  | succ k ih => rw [sT, setA_s, ih]
theorem sT_Nm {S1 : MS} {c : Nat} {lot : Bool} {ag : Nat → Int32} {s n : Nat} (k : Nat) : Nm S1 (sT S1 c lot ag s n k) :=
  ⟨sT_s k, sT_s k, funext fun _ => sT_o (by decide) k, funext fun _ => sT_o (by decide) k, funext fun _ => sT_o (by decide) k, funext fun _ => sT_o (by decide) k⟩
theorem sT_x {S1 : MS} {c : Nat} {lot : Bool} {ag : Nat → Int32} {s n x : Nat} (hx : x < 10 * c ∨ 10 * c + n ≤ x) : ∀ k, k ≤ n → (sT S1 c lot ag s n k).a 526 x = S1.a 526 x := by
  intro k
  induction k with
  | zero => intro _; rfl
  | succ k ih =>
    intro hk
    have hp := pick_lt (lot := lot) (ag := ag) (s := s) (sDU_ok (lot := lot) (ag := ag) (s := s) k (by omega : k ≤ n)).2.1 (by omega)
    have := (sDU_mem (lot := lot) (ag := ag) (s := s) (by omega : k ≤ n)).mp (Or.inr (getD_mem hp))
    rw [sT, a_b (by omega), ih (by omega)]
theorem sT_t {S1 : MS} {c : Nat} {lot : Bool} {ag : Nat → Int32} {s n : Nat} (h0 : ∀ i, i < n → S1.a 526 (10 * c + i) = -1) : ∀ k, k ≤ n → (∀ i, i ∈ (sDU lot ag s n k).2 → (sT S1 c lot ag s n k).a 526 (10 * c + i) = -1) ∧ (∀ j i, (sDU lot ag s n k).1[j]? = some i → (sT S1 c lot ag s n k).a 526 (10 * c + i) = nI j) := by
  intro k
  induction k with
  | zero => exact fun _ => ⟨fun i hi => h0 i (List.mem_range.mp hi), fun j i h => by cases h⟩
  | succ k ih =>
    intro hk
    obtain ⟨i1, i2⟩ := ih (by omega)
    obtain ⟨h1, h2, h3, h4⟩ := sDU_ok (lot := lot) (ag := ag) (s := s) k (by omega : k ≤ n)
    have hp := pick_lt (lot := lot) (ag := ag) (s := s) h2 (by omega)
    obtain ⟨r, hr⟩ : ∃ r, r = pick lot ag s n k (sDU lot ag s n k).2 := ⟨_, rfl⟩
    rw [sDU, sT, ← hr]
    rw [← hr] at hp
    obtain ⟨x, hx⟩ : ∃ x, x = (sDU lot ag s n k).2.getD r 0 := ⟨_, rfl⟩
    rw [← hx]
    have hxm : x ∈ (sDU lot ag s n k).2 := by rw [hx]; exact getD_mem hp
    have hnd : ((sDU lot ag s n k).2).Nodup := h3.imp (fun hab e => by omega)
    refine ⟨fun i hi => ?_, fun j i hj => ?_⟩
    · obtain ⟨q, hq, hqi⟩ := List.mem_eraseIdx_iff_getElem?.mp hi
      have hq2 := (List.getElem?_eq_some_iff.mp hqi).1
      have hne : i ≠ x := fun e => by
        rw [getD_get hq2] at hqi
        have e2 : (sDU lot ag s n k).2.getD q 0 = (sDU lot ag s n k).2.getD r 0 := by rw [← hx, ← e]; injection hqi
        rcases Nat.lt_trichotomy q r with z | z | z
        · have := getD_lt h3 z hp; omega
        · exact hq z
        · have := getD_lt h3 z hq2; omega
      rw [a_b (by omega)]
      exact i1 i (List.mem_of_mem_eraseIdx hi)
    · rcases Nat.lt_or_ge j k with e | e
      · rw [List.getElem?_append_left (by omega)] at hj
        have hne : i ≠ x := fun z => sDU_dj (by omega : k ≤ n) (List.mem_of_getElem? hj) (by rw [z]; exact hxm)
        rw [a_b (by omega)]; exact i2 j i hj
      · rw [List.getElem?_append_right (by omega), h1] at hj
        have e2 : j - k = 0 := by
          rcases Nat.eq_zero_or_pos (j - k) with z | z
          · exact z
          · rw [List.getElem?_eq_none (by simp; omega)] at hj; cases hj
        rw [e2] at hj
        have e3 : x = i := by simpa using hj
        rw [← e3, a_e, show j = k by omega]
theorem i_m1 {a b : Int32} : a - b + -1 = a - (b + 1) := by grind
theorem nI_sub0 {a b : Nat} (ha : a < 2 ^ 30) (hb : b < 2 ^ 30) : nI a - nI b = 0 ↔ a = b := by
  have h := pk_sub_toInt ha hb
  constructor
  · intro e
    rw [e] at h
    have : (0 : Int32).toInt = 0 := by decide
    omega
  · intro e; subst e; exact Int32.sub_self _
theorem m_next {S : MS} {c r : Nat} {x : Int32} {U : List Nat} {Q : Int32 → MS → Prop} (hI : SH S) (hc : c < nC S) (hU : U.Pairwise (fun a b => a < b)) (hn : ∀ i, i ∈ U → i < mn S c) (ht : ∀ i, i < mn S c → (0 ≤ S.a 526 (10 * c + i) ↔ i ∉ U)) (hr : r < U.length) (hlot : S.a 515 c = 0 → x = nI r) (hage : ¬ S.a 515 c = 0 → r = elr (fun i => S.a 502 (wh S (10 * c + i))) U U.length) (hQ : Q (nI (U.getD r 0)) S) : sp_X4_next (nI c) x S Q := by
  obtain ⟨m1, m2, m3⟩ := hI.2.2.2.2 c hc
  have hc4 : c < 4 := by have := hI.2.2.2.1; omega
  have h16 := hI.2.1
  have hlen : U.length ≤ 10 := by
    rcases Nat.lt_or_ge 10 U.length with e | e
    · exfalso
      have hb : ∀ p, p < U.length → p ≤ U.getD p 0 := by
        intro p
        induction p with
        | zero => intro _; exact Nat.zero_le _
        | succ p ih =>
          intro hp
          have h1 := ih (by omega)
          have h2 := getD_lt hU (show p < p + 1 by omega) hp
          omega
      have h1 := hb 10 e
      have h2 := hn _ (getD_mem e)
      omega
    · exact e
  refine ⟨fun n1 y3 y4 y5 => ∃ i p, i ≤ mn S c ∧ n1 = mn S c - i ∧ y5 = nI i ∧ p ≤ U.length ∧ (∀ q, q < p → U.getD q 0 < i) ∧ (∀ q, p ≤ q → q < U.length → i ≤ U.getD q 0) ∧ (S.a 515 c = 0 → y4 = nI r - nI p ∧ y3 = if r < p then nI (U.getD r 0) else -1) ∧ (¬ S.a 515 c = 0 → y3 = if p = 0 then -1 else nI (U.getD (elr (fun i => S.a 502 (wh S (10 * c + i))) U p) 0)), ⟨_, 0, 0, Nat.zero_le _, rfl, rfl, Nat.zero_le _, fun q hq => absurd hq (Nat.not_lt_zero _), fun q _ _ => Nat.zero_le _, fun z => ⟨by rw [hlot z, nI_0, Int32.sub_zero], by rw [if_neg (Nat.not_lt_zero _)]⟩, fun _ => by rw [if_pos rfl]⟩, fun n1 y3 y4 y5 hIv => ?_⟩
  obtain ⟨i, p, hi, rfl, rfl, hp, hq1, hq2, hL, hA⟩ := hIv
  refine ⟨c, rfl, hc4, fun v7 h7 => ?_⟩
  rw [m1] at h7; subst h7
  refine ⟨fun hcc => ?_, fun hcc v8 h8 v9 h9 => ?_⟩
  · have hii := (nI_leI (by omega) (by omega)).mp hcc
    have ep : p = U.length := by
      rcases Nat.lt_or_ge p U.length with e | e
      · have h1 := hq2 p (Nat.le_refl _) e
        have h2 := hn _ (getD_mem e)
        omega
      · omega
    by_cases z : S.a 515 c = 0
    · rw [(hL z).2, if_pos (by omega)]; exact hQ
    · rw [hA z, if_neg (by omega), ep, ← hage z]; exact hQ
  · have hi2 : i < mn S c := Nat.lt_of_not_le (fun z => hcc (nI_le z (by omega)))
    rw [h8, at_ix] at h9; subst h9
    have hj : 10 * c + i < 40 := by omega
    refine ⟨_, rfl, hj, fun v11 h11 => ?_⟩
    by_cases hU2 : i ∈ U
    · -- one of those left: it stands at p
      obtain ⟨q, hq, hqi⟩ := mem_getD hU2
      have eq : q = p := by
        rcases Nat.lt_trichotomy q p with e | e | e
        · have := hq1 q e; omega
        · exact e
        · have h1 := hq2 p (Nat.le_refl _) (by omega)
          have h2 := getD_lt hU e hq
          omega
      subst eq
      have hneg : ¬ 0 ≤ v11 := fun z => (ht i hi2).mp (by rw [← h11]; exact z) hU2
      have hw : ∀ i', i' < mn S c → S.a 521 (10 * c + i') = nI (wh S (10 * c + i')) ∧ wh S (10 * c + i') < 16 := fun i' hi' => ⟨(m3 i' hi').1, by have := (m3 i' hi').2; omega⟩
      have nx : ∀ y13 y14, (S.a 515 c = 0 → y14 = nI r - nI (q + 1) ∧ y13 = if r < q + 1 then nI (U.getD r 0) else -1) → (¬ S.a 515 c = 0 → y13 = if q + 1 = 0 then -1 else nI (U.getD (elr (fun i => S.a 502 (wh S (10 * c + i))) U (q + 1)) 0)) → ∀ v15 : Int32, v15 = nI i + 1 → ∃ n, n < mn S c - i ∧ ∃ i p, i ≤ mn S c ∧ n = mn S c - i ∧ v15 = nI i ∧ p ≤ U.length ∧ (∀ q, q < p → U.getD q 0 < i) ∧ (∀ q, p ≤ q → q < U.length → i ≤ U.getD q 0) ∧ (S.a 515 c = 0 → y14 = nI r - nI p ∧ y13 = if r < p then nI (U.getD r 0) else -1) ∧ (¬ S.a 515 c = 0 → y13 = if p = 0 then -1 else nI (U.getD (elr (fun i => S.a 502 (wh S (10 * c + i))) U p) 0)) := fun y13 y14 a b v15 h15 => by
        refine ⟨mn S c - (i + 1), by omega, i + 1, q + 1, by omega, rfl, by rw [h15, nI_1], by omega, fun q' hq' => ?_, fun q' hq' hl => ?_, a, b⟩
        · rcases Nat.lt_or_ge q' q with e | e
          · have := hq1 q' e; omega
          · rw [show q' = q by omega]; omega
        · have := getD_lt hU (show q < q' by omega) hl; omega
      refine ⟨fun y13 y14 => (S.a 515 c = 0 → y14 = nI r - nI (q + 1) ∧ y13 = if r < q + 1 then nI (U.getD r 0) else -1) ∧ (¬ S.a 515 c = 0 → y13 = if q + 1 = 0 then -1 else nI (U.getD (elr (fun i => S.a 502 (wh S (10 * c + i))) U (q + 1)) 0)), fun y13 y14 hj => nx y13 y14 hj.1 hj.2, fun z => absurd z hneg, fun _ => ⟨c, rfl, hc4, fun v17 h17 => ⟨fun y => (S.a 515 c = 0 → y = if r = q then 1 else 0) ∧ (¬ S.a 515 c = 0 → y = if q = 0 ∨ S.a 502 (wh S (10 * c + U.getD (elr (fun i => S.a 502 (wh S (10 * c + i))) U q) 0)) < S.a 502 (wh S (10 * c + i)) then 1 else 0), fun y19 hy => ⟨fun y => (S.a 515 c = 0 → y = if r < q + 1 then nI (U.getD r 0) else -1) ∧ (¬ S.a 515 c = 0 → y = if q + 1 = 0 then -1 else nI (U.getD (elr (fun i => S.a 502 (wh S (10 * c + i))) U (q + 1)) 0)), fun y21 hy21 v22 h22 => ⟨fun z => ⟨by rw [h22, (hL z).1, i_m1, nI_1], hy21.1 z⟩, hy21.2⟩, fun z => ⟨fun z0 => ?_, fun z0 => ?_⟩, fun z => ⟨fun z0 => ?_, fun z0 => ?_⟩⟩, fun z => ⟨S.a 515 c ≠ 0 ∧ (q = 0 ∨ S.a 502 (wh S (10 * c + U.getD (elr (fun i => S.a 502 (wh S (10 * c + i))) U q) 0)) < S.a 502 (wh S (10 * c + i))), fun hj => ⟨fun z0 => absurd z0 hj.1, fun _ => by rw [if_pos hj.2]⟩, fun zy => ?_, fun zy => ?_⟩, fun z => ⟨fun zy => ?_, fun zy => ?_⟩⟩⟩⟩
      · -- not this one, by lot
        have h1 := hy.1 z0
        rw [z] at h1
        have hrq : ¬ r = q := fun e => by rw [if_pos e] at h1; exact absurd h1 (by decide)
        rw [(hL z0).2]
        by_cases e : r < q
        · rw [if_pos e, if_pos (by omega)]
        · rw [if_neg e, if_neg (by omega)]
      · have h1 := hy.2 z0
        rw [z] at h1
        have hrq : ¬ (q = 0 ∨ S.a 502 (wh S (10 * c + U.getD (elr (fun i => S.a 502 (wh S (10 * c + i))) U q) 0)) < S.a 502 (wh S (10 * c + i))) := fun e => by rw [if_pos e] at h1; exact absurd h1 (by decide)
        rw [hA z0, if_neg (fun e => hrq (Or.inl e)), if_neg (Nat.succ_ne_zero _), elr, hqi, if_neg (fun e => hrq (Or.inr e))]
      · have h1 := hy.1 z0
        have hrq : r = q := Classical.byContradiction fun e => by rw [if_neg e] at h1; exact z h1
        rw [if_pos (by omega), hrq, hqi]
      · have h1 := hy.2 z0
        have hrq : q = 0 ∨ S.a 502 (wh S (10 * c + U.getD (elr (fun i => S.a 502 (wh S (10 * c + i))) U q) 0)) < S.a 502 (wh S (10 * c + i)) := Classical.byContradiction fun e => by rw [if_neg e] at h1; exact z h1
        rw [if_neg (Nat.succ_ne_zero _)]
        rcases hrq with e | e
        · subst e; rw [elr_1, hqi]
        · rw [elr, hqi, if_pos e, hqi]
      · have z0 : ¬ S.a 515 c = 0 := fun e => z (h17.trans e)
        refine ⟨z0, Or.inl ?_⟩
        rcases Nat.eq_zero_or_pos q with e | e
        · exact e
        · rw [hA z0, if_neg (by omega)] at zy
          have hel := elr_lt (ag := fun i => S.a 502 (wh S (10 * c + i))) (U := U) q e
          have := hq1 _ hel
          exact absurd zy (nI_pos (by omega))
      · have z0 : ¬ S.a 515 c = 0 := fun e => z (h17.trans e)
        have hq0 : 0 < q := by
          rcases Nat.eq_zero_or_pos q with e | e
          · rw [hA z0, if_pos e] at zy; exact absurd (by decide) zy
          · exact e
        have hel := elr_lt (ag := fun i => S.a 502 (wh S (10 * c + i))) (U := U) q hq0
        have hb := hq1 _ hel
        have ey : y3 = nI (U.getD (elr (fun i => S.a 502 (wh S (10 * c + i))) U q) 0) := by rw [hA z0, if_neg (by omega)]
        obtain ⟨w1, w2⟩ := hw i hi2
        obtain ⟨w3, w4⟩ := hw _ (show U.getD (elr (fun i => S.a 502 (wh S (10 * c + i))) U q) 0 < mn S c by omega)
        refine ⟨_, rfl, hj, fun v25 h25 => ⟨_, h25.trans w1, w2, fun v27 h27 v28 h28 v29 h29 => ?_⟩⟩
        rw [h28, ey, at_ix] at h29
        refine ⟨_, h29, by omega, fun v31 h31 => ⟨_, h31.trans w3, w4, fun v33 h33 => ⟨fun hle => ⟨fun e => absurd e z0, fun _ => ?_⟩, fun hle => ⟨z0, Or.inr ?_⟩⟩⟩⟩
        · rw [if_neg (fun e => e.elim (fun e => by omega) (fun e => i_nlt hle (by rw [h27, h33]; exact e)))]
        · rw [h27, h33] at hle; exact i_le hle
      · have z0 : S.a 515 c = 0 := h17.symm.trans z
        refine ⟨fun _ => ?_, fun e => absurd z0 e⟩
        rw [(hL z0).1, nI_sub0 (by omega) (by omega)] at zy
        rw [if_neg zy]
      · have z0 : S.a 515 c = 0 := h17.symm.trans z
        refine ⟨fun _ => ?_, fun e => absurd z0 e⟩
        rw [(hL z0).1, nI_sub0 (by omega) (by omega)] at zy
        rw [if_pos zy]
    · have hpos : 0 ≤ v11 := by rw [h11]; exact (ht i hi2).mpr hU2
      have hne : ∀ q, p ≤ q → q < U.length → i + 1 ≤ U.getD q 0 := fun q h1 h2 => by
        have h3 := hq2 q h1 h2
        have h4 : U.getD q 0 ≠ i := fun e => hU2 (by rw [← e]; exact getD_mem h2)
        omega
      refine ⟨fun a b => a = y3 ∧ b = y4, fun a b hab v15 h15 => ?_, fun _ => ⟨rfl, rfl⟩, fun z => absurd hpos z⟩
      obtain ⟨rfl, rfl⟩ := hab
      exact ⟨mn S c - (i + 1), by omega, i + 1, p, by omega, rfl, by rw [h15, nI_1], hp, fun q hq => by have := hq1 q hq; omega, hne, hL, hA⟩
