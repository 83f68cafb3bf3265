-- ===== audits
def au (S : MS) (b : Nat) : Nat → Nat → Int32
  | 0, _ => -1
  | m + 1, k => if S.a 530 (16 * b + k) = S.a 511 k then au S b m (k + 1) else nI k
theorem au_setS {S : MS} {b f : Nat} {v : Int32} : ∀ m k, au (S.setS f v) b m k = au S b m k := by
  intro m
  induction m with
  | zero => intro k; rfl
  | succ m ih => intro k; rw [au, au, ih]; rfl
/-- what audit answers and does -/
def I_audit (S : MS) (x1 : Int32) (r : Int32) (S' : MS) : Prop :=
  (S' = S.setS 500 1 ∧ (x1 < 0 ∨ ¬ x1 < 3)) ∨ ∃ b, b < 3 ∧ x1 = nI b ∧ r = au S b (nP S) 0 ∧ S' = S.setS 500 0
theorem o_audit {w : Wd} {G : GH} {S : MS} {x1 : Int32} (h : RC w G S S) (hI : SH S) : OC w G S (fun Q => wp_L_audit (some G.x) x1 (some G.o) w Q) (fun Q => sp_X4_audit x1 S Q) (I_audit S x1) := by
  have hn := hI.2.1
  rcases ix_b x1 with hx | ⟨b, hb, rfl⟩
  · refine ⟨1, 0, S.setS 500 1, G, rfl, Or.inl ⟨rfl, hx.2⟩, rfl, rfl, rfl, fun Q hQ => ?_, ?_⟩
    · exact ⟨G.x, rfl, h.kx, True, fun _ => ⟨rfl, hQ w h.thrown (fun z => by cases z)⟩, fun _ => trivial, fun a1 => ⟨fun a2 => (hx.2.elim (fun z => a1 z) (fun z => z a2)).elim, fun _ => trivial⟩⟩
    · refine m_in_n hx.1 ⟨fun y => y = 1, fun y hy S5 h5 v6 h6 v7 h7 => ⟨fun _ _ _ => True, ⟨0, trivial⟩, fun n8 y10 y11 _ => ⟨True, fun _ v13 h13 => ?_, fun _ => trivial, fun _ v16 h16 => ⟨fun _ => trivial, fun z => ?_⟩⟩⟩, fun _ => rfl, fun z => absurd rfl z⟩
      · subst hy h5
        exact ⟨fun y => y = 0, fun y15 h15 => ⟨fun z => absurd z (by decide), rfl⟩, fun z => absurd (show (1 : Int32) = 0 from h13.symm.trans z) (by decide), fun _ => rfl⟩
      · subst hy h5
        exact absurd (show (1 : Int32) = 0 from h16.symm.trans z) (by decide)
  obtain ⟨b1, b2, b3⟩ := b_in hb
  refine ⟨0, au S b (nP S) 0, S.setS 500 0, G, rfl, Or.inr ⟨b, hb, rfl, rfl, rfl⟩, rfl, rfl, rfl, fun Q hQ => ?_, ?_⟩
  · have fin : ∀ v, v = au S b (nP S) 0 → ∃ a5, some G.o = some a5 ∧ True ∧ ∃ j6 : Nat, (0 : Int32) = nI j6 ∧ j6 = 0 ∧ True ∧ ∀ w7 : Wd, w7 = w.setJ a5 j6 v.toInt64 → Q (0 : Int32) w7 := fun v hv => by
      subst hv
      exact out_ok (S' := S.setS 500 0) h.thrown (fun w1 q r => hQ w1 q (fun _ => r))
    refine ⟨G.x, rfl, h.kx, False, fun z => z.elim, fun a1 => b1 a1, fun a1 => ⟨fun a2 => ?_, fun z => z b3⟩⟩
    refine ⟨fun n y w5 => ∃ k, k ≤ nP S ∧ n = nP S - k ∧ y = nI k ∧ au S b (nP S - k) k = au S b (nP S) 0 ∧ w5 = w, ⟨_, 0, Nat.zero_le _, rfl, rfl, rfl, rfl⟩, fun n y w5 hIv => ?_⟩
    obtain ⟨k, hk, rfl, rfl, ha, rfl⟩ := hIv
    refine ⟨h.kx, fun z6 h6 => ⟨_, h6.trans h.2.2.1.2.1, h.lP.1, s_size h.lP ?_⟩⟩
    rw [map_len]
    refine ⟨fun hc => ?_, fun hc => ⟨h.kx, fun z10 h10 => ⟨_, h10.trans h.2.2.1.2.1, h.lP.1, ?_⟩⟩⟩
    · have := (nI_leI (by omega) (by omega)).mp hc
      refine fin _ ?_
      rw [← ha, show nP S - k = 0 by omega]; rfl
    · have hk2 : k < nP S := Nat.lt_of_not_le (fun z => hc (nI_le z (by omega)))
      have hp := h.2.2.1.2.2.2.2.2.2.1 k hk2
      rw [show nP S - k = (nP S - (k + 1)) + 1 by omega, au] at ha
      refine s_get h.als h.lP rfl (by rw [map_len]; exact hk2) ?_
      rw [map_get hk2]
      refine ⟨fun y hy => by cases hy; exact h.kP hk2, _, rfl, h.kP hk2, fun z16 h16 => ⟨G.T k, h16.trans hp.2.1, hp.2.2.1, b, rfl, by rw [hp.2.2.2]; exact hb, by rw [hp.2.2.2]; decide, fun v19 h19 => ⟨h.kP hk2, fun v20 h20 => ?_⟩⟩⟩
      have g : w5.I 211 (G.P k) = S.a 511 k := h.get (k := 2) (f := 211) (r := 511) (by decide) hk2
      rw [h.2.2.2.2.1.2.2.2 k b hk2 hb] at h19
      rw [g] at h20
      subst h19 h20
      refine ⟨fun z v21 h21 => ⟨nP S - (k + 1), by omega, k + 1, by omega, rfl, by rw [h21, nI_1], by rw [← ha, if_pos z], rfl⟩, fun z => ⟨h.kP hk2, fun v22 h22 => fin _ ?_⟩⟩
      rw [h22, hp.1, ← ha, if_neg z]
  · refine m_in_y b1 b2 ⟨fun y => y = 0, fun y hy S5 h5 v6 h6 v7 h7 => ?_, fun z => absurd z (by decide), fun _ => rfl⟩
    subst hy h5
    have h6' : v6 = nI (nP S) := h6.trans hI.1
    subst h6' h7
    refine ⟨fun n y10 y11 => n ≤ nP S ∧ y11 = nI n - 1 ∧ y10 = au S b (nP S - n) n, ⟨nP S, Nat.le_refl _, rfl, by rw [Nat.sub_self]; rfl⟩, fun n y10 y11 hIv => ?_⟩
    obtain ⟨hk, rfl, rfl⟩ := hIv
    refine ⟨n = 0, fun hz v13 h13 => ?_, fun hc => ?_, fun hc v16 h16 => ⟨fun z => absurd h16 z, fun _ => ?_⟩⟩
    · subst hz
      exact ⟨fun y => y = au S b (nP S) 0, fun y hy => ⟨fun _ => hy, rfl⟩, fun _ => rfl, fun z => absurd h13 z⟩
    · rcases Nat.eq_zero_or_pos n with e | e
      · exact e
      · obtain ⟨m, rfl⟩ : ∃ m, n = m + 1 := ⟨n - 1, by omega⟩
        rw [nI_pred] at hc
        exact absurd hc (nI_pos (by omega))
    · have hn0 : 0 < n := by
        rcases Nat.eq_zero_or_pos n with e | e
        · subst e; exact absurd (by decide) hc
        · exact e
      obtain ⟨m, rfl⟩ : ∃ m, n = m + 1 := ⟨n - 1, by omega⟩
      rw [nI_pred]
      intro v17 h17 v18 h18
      rw [h17, note_ix] at h18
      subst h18
      refine ⟨_, rfl, by omega, fun v20 h20 => ⟨m, rfl, by omega, fun v22 h22 => ⟨fun y => y = au S b (nP S - m) m, fun y hy v25 h25 => ⟨m, Nat.lt_succ_self m, by omega, by rw [h25, Int32.sub_eq_add_neg], hy⟩, fun z => ?_, fun z => ?_⟩⟩⟩
      · rw [show nP S - m = (nP S - (m + 1)) + 1 by omega, au, if_neg (show ¬ S.a 530 (16 * b + m) = S.a 511 m from fun q => z (h20.trans (Eq.trans q h22.symm)))]
      · rw [show nP S - m = (nP S - (m + 1)) + 1 by omega, au, if_pos (show S.a 530 (16 * b + m) = S.a 511 m from h20.symm.trans (z.trans h22))]
