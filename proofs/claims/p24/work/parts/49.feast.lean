-- ===== a feast, cash and coins, on both sides
def fsum (S : MS) (r : Nat) : Nat → Int32
  | 0 => 0
  | k + 1 => fsum S r k + S.a r k
def anyL (S : MS) : Nat → Bool
  | 0 => false
  | k + 1 => anyL S k || decide (¬ S.a 506 k ≤ 0)
theorem anyL_iff {S : MS} : ∀ k, anyL S k = false ↔ ∀ j, j < k → S.a 506 j ≤ 0 := by
  intro k
  induction k with
  | zero => exact ⟨fun _ j hj => absurd hj (Nat.not_lt_zero _), fun _ => rfl⟩
  | succ k ih =>
    rw [anyL, Bool.or_eq_false_iff, ih, decide_eq_false_iff_not, Classical.not_not]
    constructor
    · rintro ⟨h1, h2⟩ j hj
      rcases Nat.lt_or_ge j k with e | e
      · exact h1 j e
      · rw [show j = k by omega]; exact h2
    · exact fun h => ⟨fun j hj => h j (by omega), h k (by omega)⟩
def ffe (S : MS) (e : Int32) : Nat → MS
  | 0 => S
  | k + 1 => ((fpay (ffe S e k) k (-(e * (ffe S e k).a 505 k))).setS 528 ((ffe S e k).s 528 - e * (ffe S e k).a 505 k)).setA 505 k 0
theorem ffe_Nm {S : MS} {e : Int32} : ∀ k, Nm S (ffe S e k) := by
  intro k
  induction k with
  | zero => exact Nm.rf
  | succ k ih => exact ((fpay_Nm ih).ss (by decide)).st (by decide)
theorem ffe_t {S : MS} {e : Int32} : ∀ k, (ffe S e k).s 500 = S.s 500 := by
  intro k
  induction k with
  | zero => rfl
  | succ k ih => rw [ffe, setA_s, s_f (by decide), ← ih]; rfl
theorem fpay_setS {S : MS} {f i : Nat} {u v : Int32} : fpay (S.setS f u) i v = (fpay S i v).setS f u := rfl
/-- what feast answers and does -/
def I_feast (S : MS) (r : Int32) (S' : MS) : Prop :=
  S' = S.setS 500 1 ∨ (¬ fsum S 505 (nP S) = 0 ∧ (∀ i, i < nP S → S.a 506 i ≤ 0) ∧ r = S.s 528 / fsum S 505 (nP S) ∧ S' = ffe (S.setS 500 0) (S.s 528 / fsum S 505 (nP S)) (nP S))
theorem o_feast {w : Wd} {G : GH} {S : MS} (h : RC w G S S) (hI : SH S) (h1 : ¬ fsum S 505 (nP S) < 0) (h2 : fsum S 506 (nP S) ≤ 0 ↔ ∀ i, i < nP S → S.a 506 i ≤ 0) : OX w G S (fun Q => wp_L_feast (some G.x) (some G.o) w Q) (fun Q => sp_X4_feast S Q) (I_feast S) := by
  have h16 := hI.2.1
  have er : ∀ k : Int32, k ≠ 0 → ∀ (P : Prop) (v7 : Int32), v7 = (S.setS 500 k).s 500 → (v7 = 0 → P) ∧ (¬ v7 = 0 → (k = 0 → (0 : Int32) = 0) ∧ S.setS 500 k = S.setS 500 k) :=
    fun k hk P v7 h7 => ⟨fun z => absurd (show k = 0 from h7.symm.trans z) hk, fun _ => ⟨fun z => absurd z hk, rfl⟩⟩
  -- the first walks, on both sides
  have cls : ∀ (Q : Int32 → Wd → Prop), ((fsum S 505 (nP S) ≤ 0 ∨ ¬ anyL S (nP S) = false) → Q (1 : Int32) w) → (¬ fsum S 505 (nP S) ≤ 0 → anyL S (nP S) = false → w.K G.x = 4 ∧ ∀ v12 : Int32, v12 = w.I 402 G.x → ¬ fsum S 505 (nP S) = 0 ∧ ∀ v13 : Int32, v13 = v12 / fsum S 505 (nP S) → ∃ Inv15 : Nat → Int32 → Wd → Prop, (∃ n : Nat, Inv15 n (0 : Int32) w) ∧ ∀ (n14 : Nat) (y16 : Int32) (w17 : Wd), Inv15 n14 y16 w17 → w17.K G.x = 4 ∧ ∀ z18 : Option Nat, z18 = w17.R 400 G.x → ∃ a19, z18 = some a19 ∧ w17.K a19 = 6 ∧ wp_Jx4a65c_size_8abf5 a19 w17 (fun v21 w20 => (v21 ≤ y16 → ∃ a5, some G.o = some a5 ∧ True ∧ ∃ j6 : Nat, (0 : Int32) = nI j6 ∧ j6 = 0 ∧ True ∧ ∀ w7 : Wd, w7 = w20.setJ a5 j6 v13.toInt64 → Q (0 : Int32) w7) ∧ (¬ v21 ≤ y16 → w20.K G.x = 4 ∧ ∀ z22 : Option Nat, z22 = w20.R 400 G.x → ∃ a23, z22 = some a23 ∧ w20.K a23 = 6 ∧ wp_Jx4a65c_get_915e3 a23 y16 w20 (fun z25 w24 => (∀ y26, z25 = some y26 → w24.K y26 = 2) ∧ w24.K G.x = 4 ∧ ∀ v27 : Int32, v27 = w24.I 402 G.x → ∃ a28, z25 = some a28 ∧ w24.K a28 = 2 ∧ ∀ v29 : Int32, v29 = w24.I 205 a28 → ∀ v30 : Int32, v30 = v13 * v29 → ∀ v31 : Int32, v31 = v27 - v30 → w24.K G.x = 4 ∧ ∀ w32 : Wd, w32 = w24.setI 402 G.x v31 → w32.K a28 = 2 ∧ ∀ v33 : Int32, v33 = w32.I 205 a28 → ∀ v34 : Int32, v34 = v13 * v33 → w32.K a28 = 2 ∧ wp_X1_getOut a28 v34 w32 (fun w35 => w35.K a28 = 2 ∧ ∀ w36 : Wd, w36 = w35.setI 205 a28 (0 : Int32) → ∀ v37 : Int32, v37 = y16 + (1 : Int32) → ∃ n : Nat, n < n14 ∧ Inv15 n v37 w36))))) → wp_L_feast (some G.x) (some G.o) w Q := fun Q hno hgo => by
    refine ⟨G.x, rfl, h.kx, fun n y3 y4 y5 w6 => ∃ k, k ≤ nP S ∧ n = nP S - k ∧ y5 = nI k ∧ y3 = fsum S 505 k ∧ y4 = (if anyL S k = true then 1 else 0) ∧ w6 = w, ⟨_, 0, Nat.zero_le _, rfl, rfl, rfl, rfl, rfl⟩, fun n y3 y4 y5 w6 hIv => ?_⟩
    obtain ⟨k, hk, rfl, rfl, rfl, e4, rfl⟩ := hIv
    refine k_psz h ⟨fun hcc => ?_, fun hcc => ?_⟩
    · have := (nI_leI (by omega) (by omega)).mp hcc
      have e : k = nP S := by omega
      rw [e] at e4 ⊢
      refine ⟨fsum S 505 (nP S) ≤ 0 ∨ ¬ anyL S (nP S) = false, fun hj => ⟨rfl, hno hj⟩, fun z => Or.inl z, fun z => ⟨fun z4 => hgo z ?_, fun z4 => Or.inr (fun q => z4 ?_)⟩⟩
      · rw [← Bool.not_eq_true]
        exact fun q => by rw [if_pos q] at e4; rw [e4] at z4; exact absurd z4 (by decide)
      · rw [e4, q]; rfl
    · have hk2 : k < nP S := Nat.lt_of_not_le (fun z => hcc (nI_le z (by omega)))
      have g5 : w6.I 205 (G.P k) = S.a 505 k := h.get (k := 2) (f := 205) (r := 505) (by decide) hk2
      have ex : ∀ b : Bool, anyL S (k + 1) = b → ∀ v : Int32, v = (if b = true then 1 else 0) → v = (if anyL S (k + 1) = true then 1 else 0) := fun b hb v hv => by rw [hb]; exact hv
      refine k_pat h hk2 rfl ⟨_, rfl, h.kP hk2, fun v44 h44 v45 h45 => ⟨fun y w48 => y = (if anyL S (k + 1) = true then 1 else 0) ∧ w48 = w6, fun y47 w48 hj v49 h49 => ⟨nP S - (k + 1), by omega, k + 1, by omega, rfl, by rw [h49, nI_1], by rw [h45, h44, g5]; rfl, hj.1, hj.2⟩, fun w51 => w51 = w6 ∧ anyL S (k + 1) = true, fun w51 hj => ⟨ex true hj.2 1 rfl, hj.1⟩, fun z => ⟨rfl, ?_⟩, fun z => k_pat h hk2 rfl ⟨_, rfl, h.kP hk2, k_hasLoan h hk2 (fun l => ⟨fun _ => ⟨ex false ?_ 0 rfl, rfl⟩, fun z2 => absurd rfl z2⟩) (fun l => ⟨fun z2 => absurd z2 (by decide), fun _ => ⟨rfl, ?_⟩⟩)⟩⟩⟩
      · rw [anyL]
        by_cases q : anyL S k = true
        · rw [q]; rfl
        · rw [if_neg q] at e4; exact absurd e4 z
      · rw [anyL]
        by_cases q : anyL S k = true
        · rw [if_pos q] at e4; rw [e4] at z; exact absurd z (by decide)
        · rw [Bool.not_eq_true] at q; rw [q, Bool.false_or, decide_eq_false_iff_not, Classical.not_not]; exact l
      · rw [anyL, Bool.or_eq_true]; exact Or.inr (decide_eq_true l)
  have aL : anyL S (nP S) = false ↔ fsum S 506 (nP S) ≤ 0 := by rw [anyL_iff, h2]
  by_cases hb : fsum S 505 (nP S) ≤ 0 ∨ ¬ anyL S (nP S) = false
  · refine ⟨1, 0, S.setS 500 1, rfl, Or.inl rfl, fun Q hQ => cls Q (fun _ => hQ w G rfl rfl rfl h.thrown (fun z => by cases z)) (fun a b => (hb.elim (fun z => a z) (fun z => z b)).elim), ?_⟩
    refine ⟨fun n y3 y4 y5 => ∃ k, k ≤ nP S ∧ n = nP S - k ∧ y5 = nI k ∧ y3 = fsum S 505 k ∧ y4 = fsum S 506 k, ⟨_, 0, Nat.zero_le _, rfl, rfl, rfl, rfl⟩, fun n y3 y4 y5 hIv v6 h6 => ?_⟩
    obtain ⟨k, hk, rfl, rfl, rfl, rfl⟩ := hIv
    rw [hI.1] at h6; subst h6
    refine ⟨fun hcc => ?_, fun hcc => ?_⟩
    · have := (nI_leI (by omega) (by omega)).mp hcc
      have e : k = nP S := by omega
      rw [e]
      refine ⟨fun y => y = 1, fun y8 hy S9 h9 v10 h10 => ?_, True, fun _ => rfl, fun _ => trivial, fun z => ⟨fun z2 => ?_, fun _ => trivial⟩⟩
      · subst hy h9
        exact er 1 (by decide) _ _ h10
      · exact (hb.elim (fun q => z ((ge0 h1).mp q)) (fun q => q (aL.mpr z2))).elim
    · have hk2 : k < nP S := Nat.lt_of_not_le (fun z => hcc (nI_le z (by omega)))
      exact ⟨k, rfl, by omega, fun v34 h34 v35 h35 => ⟨k, rfl, by omega, fun v37 h37 v38 h38 v39 h39 => ⟨nP S - (k + 1), by omega, k + 1, by omega, rfl, by rw [h39, nI_1], by rw [h35, h34]; rfl, by rw [h38, h37]; rfl⟩⟩⟩
  · have b1 : ¬ fsum S 505 (nP S) ≤ 0 := fun z => hb (Or.inl z)
    have b2 : anyL S (nP S) = false := Classical.byContradiction fun z => hb (Or.inr z)
    have b0 : ¬ fsum S 505 (nP S) = 0 := fun z => b1 (by rw [z]; decide)
    obtain ⟨T, hT⟩ : ∃ T, T = S.setS 500 0 := ⟨_, rfl⟩
    have N0 : Nm S T := by rw [hT]; exact Nm.rf.ss (by decide)
    obtain ⟨e, he⟩ : ∃ e, e = S.s 528 / fsum S 505 (nP S) := ⟨_, rfl⟩
    have hthr : (ffe T e (nP S)).s 500 = 0 := by rw [ffe_t, hT]; rfl
    have eT : T.s 528 = S.s 528 := by rw [hT]; rfl
    refine ⟨0, e, ffe T e (nP S), hthr, Or.inr ⟨b0, (anyL_iff _).mp b2, he, by rw [hT, he]⟩, fun Q hQ => cls Q (fun z => absurd z hb) (fun _ _ => ⟨h.kx, fun v12 h12 => ⟨b0, fun v13 h13 => ?_⟩⟩), ?_⟩
    · have e13 : v13 = e := by rw [h13, h12, h.2.2.2.2.1.2.1, he]
      subst e13
      refine ⟨fun n y w17 => ∃ k, k ≤ nP S ∧ n = nP S - k ∧ y = nI k ∧ RC w17 G (ffe T v13 k) S, ⟨_, 0, Nat.zero_le _, rfl, rfl, by rw [hT]; exact h.thrown⟩, fun n y w17 hIv => ?_⟩
      obtain ⟨k, hk, rfl, rfl, q⟩ := hIv
      obtain ⟨U, hU⟩ : ∃ U, U = ffe T v13 k := ⟨_, rfl⟩
      have N : Nm S U := by rw [hU]; exact N0.tr (ffe_Nm k)
      have hU1 : ffe T v13 (k + 1) = ((fpay U k (-(v13 * U.a 505 k))).setS 528 (U.s 528 - v13 * U.a 505 k)).setA 505 k 0 := by rw [hU]; rfl
      rw [← hU] at q
      have eP : nP U = nP S := N.p
      refine k_psz q ?_
      rw [eP]
      refine ⟨fun hcc => ?_, fun hcc => ?_⟩
      · have := (nI_leI (by omega) (by omega)).mp hcc
        have ek : k = nP S := by omega
        exact out_ok (S' := ffe T v13 (nP S)) (by rw [← ek, ← hU]; exact q) (fun w1 q r => hQ w1 G rfl rfl rfl q (fun _ => r))
      · have hk2 : k < nP S := Nat.lt_of_not_le (fun z => hcc (nI_le z (by omega)))
        have hkU : k < nP U := by rw [eP]; exact hk2
        refine k_pat q hkU rfl ⟨q.kx, fun v27 h27 => ⟨_, rfl, q.kP hkU, fun v29 h29 v30 h30 v31 h31 => ⟨q.kx, fun w32 h32 => ?_⟩⟩⟩
        have g29 : w17.I 205 (G.P k) = U.a 505 k := q.get (k := 2) (f := 205) (r := 505) (by decide) hkU
        have g27 : w17.I 402 G.x = U.s 528 := q.2.2.2.2.1.2.1
        have q32 : RC w32 G (U.setS 528 (U.s 528 - v13 * U.a 505 k)) S := by
          rw [h32, h31, h30, h29, h27, g29, g27]; exact q.fund
        have g33 : w32.I 205 (G.P k) = U.a 505 k := q32.get (k := 2) (f := 205) (r := 505) (by decide) hkU
        refine ⟨q32.kP hkU, fun v33 h33 v34 h34 => ⟨q32.kP hkU, k_getOut q32 hkU (fun w35 q35 => ?_)⟩⟩
        have e34 : v34 = v13 * U.a 505 k := by rw [h34, h33, g33]
        rw [e34, fpay_setS] at q35
        have hk35 : k < nP ((fpay U k (-(v13 * U.a 505 k))).setS 528 (U.s 528 - v13 * U.a 505 k)) := hkU
        refine ⟨q35.kP hk35, fun w36 h36 v37 h37 => ⟨nP S - (k + 1), by omega, k + 1, by omega, rfl, by rw [h37, nI_1], ?_⟩⟩
        rw [hU1, h36]
        exact RC.set (k := 2) q35 (by decide) (by decide) (by decide) (by decide) hk35
    · refine ⟨fun n y3 y4 y5 => ∃ k, k ≤ nP S ∧ n = nP S - k ∧ y5 = nI k ∧ y3 = fsum S 505 k ∧ y4 = fsum S 506 k, ⟨_, 0, Nat.zero_le _, rfl, rfl, rfl, rfl⟩, fun n y3 y4 y5 hIv v6 h6 => ?_⟩
      obtain ⟨k, hk, rfl, rfl, rfl, rfl⟩ := hIv
      rw [hI.1] at h6; subst h6
      refine ⟨fun hcc => ?_, fun hcc => ?_⟩
      · have := (nI_leI (by omega) (by omega)).mp hcc
        have ek : k = nP S := by omega
        rw [ek]
        refine ⟨fun y => y = 0, fun y8 hy S9 h9 v10 h10 => ?_, False, fun z => z.elim, fun z => b0 z, fun _ => ⟨fun _ => rfl, fun z => z (aL.mp b2)⟩⟩
        subst hy
        rw [← hT] at h9; subst h9
        refine ⟨fun _ v11 h11 => ⟨b0, fun v12 h12 => ?_⟩, fun z => absurd (h10.trans (by rw [hT]; rfl)) z⟩
        have e12 : v12 = e := by rw [h12, h11, eT, he]
        subst e12
        refine ⟨fun n y S16 => ∃ k, k ≤ nP S ∧ n = nP S - k ∧ y = nI k ∧ S16 = ffe S9 v12 k, ⟨_, 0, Nat.zero_le _, rfl, rfl, rfl⟩, fun n y15 S16 hIv v17 h17 => ?_⟩
        obtain ⟨k, hk, rfl, rfl, rfl⟩ := hIv
        obtain ⟨U, hU⟩ : ∃ U, U = ffe S9 v12 k := ⟨_, rfl⟩
        have N : Nm S U := by rw [hU]; exact N0.tr (ffe_Nm k)
        have hU1 : ffe S9 v12 (k + 1) = ((fpay U k (-(v12 * U.a 505 k))).setS 528 (U.s 528 - v12 * U.a 505 k)).setA 505 k 0 := by rw [hU]; rfl
        rw [← hU] at h17 ⊢
        rw [N.1, hI.1] at h17; subst h17
        refine ⟨fun hcc => ?_, fun hcc v18 h18 => ?_⟩
        · have := (nI_leI (by omega) (by omega)).mp hcc
          have ek : k = nP S := by omega
          exact ⟨fun _ => rfl, by rw [hU, ek]⟩
        · have hk2 : k < nP S := Nat.lt_of_not_le (fun z => hcc (nI_le z (by omega)))
          refine ⟨k, rfl, by omega, fun v20 h20 v21 h21 => m_pays (by omega) (fun v23 h23 => ⟨k, rfl, by omega, fun v25 h25 v26 h26 v27 h27 S28 h28 => ⟨k, rfl, by omega, fun S30 h30 v31 h31 => ⟨nP S - (k + 1), by omega, k + 1, by omega, rfl, by rw [h31, nI_1], ?_⟩⟩⟩)⟩
          have e21 : v21 = -(v12 * U.a 505 k) := by rw [h21, h18, h20, Int32.neg_mul]
          have e25 : v25 = U.a 505 k := by rw [h25, fpay_a (by decide) (by decide)]
          have e23 : v23 = U.s 528 := h23
          rw [hU1, h30, h28, h27, h26, e25, e23, e21]
      · have hk2 : k < nP S := Nat.lt_of_not_le (fun z => hcc (nI_le z (by omega)))
        exact ⟨k, rfl, by omega, fun v34 h34 v35 h35 => ⟨k, rfl, by omega, fun v37 h37 v38 h38 v39 h39 => ⟨nP S - (k + 1), by omega, k + 1, by omega, rfl, by rw [h39, nI_1], by rw [h35, h34]; rfl, by rw [h38, h37]; rfl⟩⟩⟩
/-- what cash answers and does -/
def I_cash (S : MS) (r : Int32) (S' : MS) : Prop :=
  r = S.s 528 ∧ S' = S.setS 500 0
theorem o_cash {w : Wd} {G : GH} {S : MS} (h : RC w G S S) : OD w G S (fun Q => wp_X3_cash G.x w Q) (fun Q => sp_X4_cash S Q) (I_cash S) :=
  ⟨S.s 528, S.setS 500 0, ⟨rfl, rfl⟩, fun Q hQ => ⟨h.kx, fun v1 h1 => by rw [h1, h.2.2.2.2.1.2.1]; exact hQ w G rfl rfl rfl h.thrown⟩, fun S1 h1 v2 h2 => ⟨by rw [h2, h1]; rfl, h1⟩⟩
def fdn (v : Int32) (f : Nat → Int32) : Nat → Int32
  | 0 => v
  | k + 1 => fdn v f k - f k
/-- what coins answers and does -/
def I_coins (S : MS) (r : Int32) (S' : MS) : Prop :=
  r = fdn (fdn (S.s 529 - S.s 528) (S.a 504) (nP S)) (S.a 516) (nC S) ∧ S' = S.setS 500 0
theorem o_coins {w : Wd} {G : GH} {S : MS} (h : RC w G S S) (hI : SH S) : OD w G S (fun Q => wp_X3_coins G.x w Q) (fun Q => sp_X4_coins S Q) (I_coins S) := by
  have h16 := hI.2.1
  have h4 := hI.2.2.2.1
  refine ⟨fdn (fdn (S.s 529 - S.s 528) (S.a 504) (nP S)) (S.a 516) (nC S), S.setS 500 0, ⟨rfl, rfl⟩, fun Q hQ => ⟨h.kx, fun v1 h1 => ⟨h.kx, fun v2 h2 v3 h3 => ?_⟩⟩, fun S1 h1 v2 h2 v3 h3 v4 h4' => ?_⟩
  · have e3 : v3 = S.s 529 - S.s 528 := by rw [h3, h1, h2, h.2.2.2.2.1.2.1, h.2.2.2.2.1.2.2.1]
    refine ⟨fun n y6 y7 w8 => ∃ k, k ≤ nP S ∧ n = nP S - k ∧ y7 = nI k ∧ y6 = fdn (S.s 529 - S.s 528) (S.a 504) k ∧ w8 = w, ⟨_, 0, Nat.zero_le _, rfl, rfl, e3, rfl⟩, fun n y6 y7 w8 hIv => ?_⟩
    obtain ⟨k, hk, rfl, rfl, rfl, rfl⟩ := hIv
    refine k_psz h ⟨fun hcc => ?_, fun hcc => ?_⟩
    · have := (nI_leI (by omega) (by omega)).mp hcc
      have e : k = nP S := by omega
      rw [e]
      refine ⟨fun n y6 y7 w9 => ∃ k, k ≤ nC S ∧ n = nC S - k ∧ y7 = nI k ∧ y6 = fdn (fdn (S.s 529 - S.s 528) (S.a 504) (nP S)) (S.a 516) k ∧ w9 = w8, ⟨_, 0, Nat.zero_le _, rfl, rfl, rfl, rfl⟩, fun n y6 y7 w9 hIv => ?_⟩
      obtain ⟨k, hk, rfl, rfl, rfl, rfl⟩ := hIv
      have gsz : ∀ {Q : Int32 → Wd → Prop}, Q (nI (nC S)) w9 → w9.K G.x = 4 ∧ ∀ z : Option Nat, z = w9.R 401 G.x → ∃ a, z = some a ∧ w9.K a = 6 ∧ wp_Jx4a65c_size_8abf5 a w9 Q := fun hq =>
        ⟨h.kx, fun z hz => ⟨G.li 1, hz.trans h.2.2.1.2.2.1, h.lC.1, s_size h.lC (by rw [map_len]; exact hq)⟩⟩
      refine gsz ⟨fun hcc => ?_, fun hcc => ?_⟩
      · have := (nI_leI (by omega) (by omega)).mp hcc
        rw [show k = nC S by omega]
        exact hQ w9 G rfl rfl rfl h.thrown
      · have hk2 : k < nC S := Nat.lt_of_not_le (fun z => hcc (nI_le z (by omega)))
        have g : w9.I 105 (G.C k) = S.a 516 k := h.get (k := 1) (f := 105) (r := 516) (by decide) hk2
        refine ⟨h.kx, fun z hz => ⟨G.li 1, hz.trans h.2.2.1.2.2.1, h.lC.1, s_get h.als h.lC rfl (by rw [map_len]; exact hk2) ?_⟩⟩
        rw [map_get hk2]
        exact ⟨fun y hy => by cases hy; exact h.kC hk2, _, rfl, h.kC hk2, fun v28 h28 v29 h29 v30 h30 => ⟨nC S - (k + 1), by omega, k + 1, by omega, rfl, by rw [h30, nI_1], by rw [h29, h28, g]; rfl, rfl⟩⟩
    · have hk2 : k < nP S := Nat.lt_of_not_le (fun z => hcc (nI_le z (by omega)))
      have g : w8.I 204 (G.P k) = S.a 504 k := h.get (k := 2) (f := 204) (r := 504) (by decide) hk2
      exact k_pat h hk2 rfl ⟨_, rfl, h.kP hk2, fun v37 h37 v38 h38 v39 h39 => ⟨nP S - (k + 1), by omega, k + 1, by omega, rfl, by rw [h39, nI_1], by rw [h38, h37, g]; rfl, rfl⟩⟩
  · have e4 : v4 = S.s 529 - S.s 528 := by rw [h4', h2, h3, h1]; rfl
    refine ⟨fun n y6 y7 => ∃ k, k ≤ nP S ∧ n = nP S - k ∧ y7 = nI k ∧ y6 = fdn (S.s 529 - S.s 528) (S.a 504) k, ⟨_, 0, Nat.zero_le _, rfl, rfl, e4⟩, fun n y6 y7 hIv v9 h9 => ?_⟩
    obtain ⟨k, hk, rfl, rfl, rfl⟩ := hIv
    have e9 : v9 = nI (nP S) := by rw [h9, h1]; exact hI.1
    subst e9
    refine ⟨fun hcc => ?_, fun hcc => ?_⟩
    · have := (nI_leI (by omega) (by omega)).mp hcc
      have e : k = nP S := by omega
      rw [e]
      refine ⟨fun n y6 y7 => ∃ k, k ≤ nC S ∧ n = nC S - k ∧ y7 = nI k ∧ y6 = fdn (fdn (S.s 529 - S.s 528) (S.a 504) (nP S)) (S.a 516) k, ⟨_, 0, Nat.zero_le _, rfl, rfl, rfl⟩, fun n y6 y7 hIv v14 h14 => ?_⟩
      obtain ⟨k, hk, rfl, rfl, rfl⟩ := hIv
      have e14 : v14 = nI (nC S) := by rw [h14, h1]; exact hI.2.2.1
      subst e14
      refine ⟨fun hcc => ?_, fun hcc => ?_⟩
      · have := (nI_leI (by omega) (by omega)).mp hcc
        rw [show k = nC S by omega]
        exact ⟨rfl, h1⟩
      · have hk2 : k < nC S := Nat.lt_of_not_le (fun z => hcc (nI_le z (by omega)))
        exact ⟨k, rfl, by omega, fun v16 h16' v17 h17 v18 h18 => ⟨nC S - (k + 1), by omega, k + 1, by omega, rfl, by rw [h18, nI_1], by rw [h17, h16', h1]; rfl⟩⟩
    · have hk2 : k < nP S := Nat.lt_of_not_le (fun z => hcc (nI_le z (by omega)))
      exact ⟨k, rfl, by omega, fun v20 h20 v21 h21 v22 h22 => ⟨nP S - (k + 1), by omega, k + 1, by omega, rfl, by rw [h22, nI_1], by rw [h21, h20, h1]; rfl⟩⟩
