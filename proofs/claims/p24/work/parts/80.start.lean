-- ===== the start: from what the Statement gives to the law's walk
def w0 (e0 : Nat) : Wd := (fun a => if a = e0 then 15 else 0, fun _ _ => 0, fun _ _ => none, fun _ => 0, fun _ _ => 0, fun _ _ => none, fun _ _ => 0)
theorem st_arr {s : State} {args : Array Value} {ty : FieldType} (hty : ∀ C, ty ≠ .object C) (h : (Cond.arrayClass ty).before args s = true) : ∃ cA : ClassId, ArrOfT s cA ty ∧ va_RA s cA ty := by
  obtain ⟨cA, k, comp, h1, h2, h3⟩ := Cond.arrayClass_spec h
  refine ⟨cA, fun n z => ⟨fun k h => (by cases h), k, h2, comp, h3⟩, ?_⟩
  cases ty <;> first | exact h1 | exact absurd rfl (hty _)
theorem st_arrO {s : State} {args : Array Value} {C : String} (h : (Cond.arrayOver (.object C)).before args s = true) : ∃ cA : ClassId, ArrOfT s cA (.object C) ∧ va_RA s cA (.object C) := by
  obtain ⟨comp, cA, k, h1, h2, h3, h4, h5⟩ := Cond.arrayOver_spec h
  exact ⟨cA, fun n z => ⟨fun k h => (by cases h), k, h3, comp, h4⟩, k, comp, h3, h4, h1, h5⟩
theorem st_str {s : State} {args : Array Value} {own text : String} {i cur : Nat} (hcur : s.vm.findClass own = some cur) (h : (Cond.stringRef own i text).before args s = true) : ∃ a, vk_R own i text a s := by
  obtain ⟨k, cf, j, a, hk, -, -, -, hr, hev⟩ := Cond.stringRef_spec hcur h
  exact ⟨a, vk_R.of h hev⟩
theorem st_cast : ∀ q ∈ gCast, Cond.castable q.1 q.2 ∈ lw_tbl := by decide +kernel
theorem st_decl : ∀ y ∈ gDecl, Cond.declares y ∈ lw_tbl := by decide +kernel
theorem st_strs : ∀ q ∈ gStr, Cond.stringRef q.1 q.2.1 q.2.2 ∈ lw_tbl ∧ q.1 = RX3 := by decide +kernel
def eTm : Term := .static "java/util/ArrayList" "DEFAULTCAPACITY_EMPTY_ELEMENTDATA" "[Ljava/lang/Object;"
set_option maxHeartbeats 4000000 in
set_option maxRecDepth 100000 in
theorem st_GS {s : State} {b : Nat} (hts : ∀ w ∈ lw_tbl, w.before #[Value.ref b] s = true) (hgv : (Jvm.Cond.and given_1 narrow_1).before #[Value.ref b] s = true) : ∃ G : GT, GS G s.heap.size s ∧ G.2.2.2.2.2 < s.heap.size := by
  have hs := flat_of_before _ hgv
  have hA : ∀ a : Nat, a < s.heap.size → ¬ GA s.heap.size a := fun a h => Nat.not_le.mpr h
  have hw : ∀ x ∈ wAll, x.before #[Value.ref b] s = true := fun x hx => hts x (List.mem_filter.mp hx).1
  obtain ⟨c0, i0, k0⟩ := u_known (C := RJx4a65c) (T := TJx4a65c) (N := 3) (n := 3) hw in_Jx4a65c (hts (.instantiable RJx4a65c 3) (by decide +kernel))
  obtain ⟨c1, i1, k1⟩ := u_known (C := RX0) (T := TX0) (N := 8) (n := 8) hw in_X0 (hts (.instantiable RX0 8) (by decide +kernel))
  obtain ⟨c2, i2, k2⟩ := u_known (C := RX1) (T := TX1) (N := 13) (n := 13) hw in_X1 (hts (.instantiable RX1 13) (by decide +kernel))
  obtain ⟨c3, i3, k3⟩ := u_known (C := RX2) (T := TX2) (N := 6) (n := 6) hw in_X2 (hts (.instantiable RX2 6) (by decide +kernel))
  obtain ⟨c4, i4, k4⟩ := u_known (C := RX3) (T := TX3) (N := 4) (n := 4) hw in_X3 (hts (.instantiable RX3 4) (by decide +kernel))
  obtain ⟨D, hKc⟩ : ∃ (D : va_G), ∀ (k : Nat) (q : vw_C), vwCl[k]? = some q → u_Kn s q.1 q.2.1 q.2.2 (D.1 k) (D.2 k) := by
    refine ⟨(fun k => match k with | 0 => c0 | 1 => c1 | 2 => c2 | 3 => c3 | _ => c4, fun k => match k with | 0 => i0 | 1 => i1 | 2 => i2 | 3 => i3 | _ => i4), ?_⟩
    intro k q hq
    match k, hq with
    | 0, hq => cases hq; exact k0
    | 1, hq => cases hq; exact k1
    | 2, hq => cases hq; exact k2
    | 3, hq => cases hq; exact k3
    | 4, hq => cases hq; exact k4
    | k + 5, hq => simp [vwCl] at hq
  obtain ⟨cI, hI⟩ := st_arr (ty := .int) (fun C h => nomatch h) (hts (.arrayClass .int) (by decide +kernel))
  obtain ⟨cO, hO⟩ := st_arrO (C := "java/lang/Object") (hts (.arrayOver (.object "java/lang/Object")) (by decide +kernel))
  obtain ⟨e0, ce, cell, ke, hev, -, hcell, -, -⟩ := Cond.exactly_spec (hs (.exactly eTm "[Ljava/lang/Object;") (by decide +kernel))
  have he0 : e0 < s.heap.size := (Array.getElem?_eq_some_iff.mp hcell).1
  have hao := (Cond.arrayOf_spec (hs (.arrayOf eTm (.object "java/lang/Object")) (by decide +kernel)) hev hcell).1
  have hlen : cell.slots.size.toInt32 = 0 := by
    have h := hs (.eq (.length eTm) (.int 0)) (by decide +kernel)
    cases hl : (Term.length eTm).eval #[Value.ref b] s none [] s with
    | none => simp [Cond.before, Cond.holds, Cond.value, hl] at h
    | some v =>
      have hl2 := hl
      rw [Term.eval, hev] at hl2
      cases hc : s.arrayAt? e0 with
      | none => simp [hc] at hl2
      | some c2 =>
        have h2 := (State.arrayAt?_spec hc).1
        cases hcell.symm.trans h2
        simp [hc] at hl2
        obtain ⟨-, hl3⟩ := hl2
        rw [← hl3] at hl
        have h9 : (Term.int 0).eval #[Value.ref b] s none [] s = some (.int 0) := rfl
        simp only [Cond.before, Cond.holds, Cond.value, hl, h9] at h
        simpa using h
  refine ⟨(D, cI, cI, cO, cI, e0), ⟨Nat.le_refl _, ⟨hKc, ?_⟩, ⟨?_, ?_, ?_, cell, hcell, hao, hlen, hA _ he0⟩, ?_, ?_, ?_, ?_, ?_, ?_, ?_⟩, he0⟩
  · intro k q hq
    match k, hq with
    | 0, hq => cases hq; exact hI
    | 1, hq => cases hq; exact hI
    | 2, hq => cases hq; exact hO
    | 3, hq => cases hq; exact hI
    | k + 4, hq => simp [gTys] at hq
  · exact vx_Zqof (hts _ (by decide +kernel)) (hts _ (by decide +kernel)) (hs _ (by decide +kernel)) hA
  · exact vx_Zqof (hts _ (by decide +kernel)) (hts _ (by decide +kernel)) (hs _ (by decide +kernel)) hA
  · exact va_Zref (hts _ (by decide +kernel)) (hts _ (by decide +kernel)) hev hA
  · exact fun q hq => va_Nw.of rfl (hts _ (st_cast q hq))
  · exact fun q hq => absurd hq List.not_mem_nil
  · exact va_AO.of (hts (.arrayOver (.object "java/lang/Object")) (by decide +kernel))
  · exact va_Dc.of (hts _ (by decide +kernel))
  · exact va_Mi.of (hs _ (by decide +kernel))
  · exact fun y hy => va_Nw.of rfl (hts _ (st_decl y hy))
  · intro q hq
    obtain ⟨h1, h2⟩ := st_strs q hq
    exact st_str (cur := c4) (by rw [h2]; exact k4.2.1) (hts _ h1)
/-- the claim's own part, out of what the law's walk wants -/
theorem whole_of (hlaw : ∀ (e0 L : Nat) (xs : Nat → Int32), L ≤ 260 → wp_L_law L xs (w0 e0)) {p : Program} {e : Env} {s : State} {m : MethodId} {below : List Frame} {meth : Method} {c : Code} (l : Launch) (hflags : l.flags = flags0) {b L : Nat} {xs : Nat → Int32} (hL : L ≤ 260) (C0 : lw_At p s m meth c b L xs) : W p l e room_1 s m #[Value.ref b] below meth c s.heap [] 0 0 (lw_Z below #[Value.ref b] s) (entryFrame m ([Value.ref b] : List Value).toArray 16) := by
  obtain ⟨hx, hb, hr, hml, hown, hts, hX, hbl, hlocks, hgv⟩ := C0
  obtain ⟨G, hGS, he0⟩ := st_GS hts hgv
  have hst : l.stackTraces = false := by
    unfold Launch.stackTraces
    rw [hflags]
    decide +kernel
  have X : GC l G s.heap.size p s m #[Value.ref b] meth c code 16 "SusuRingLaw" := ⟨⟨hx, hb, hml, hown, fun x hx => hts x (List.mem_filter.mp hx).1⟩, hlocks, hst, hGS⟩
  have hG : GWd G s.heap.size (w0 G.2.2.2.2.2) s.heap := by
    refine ⟨[], fun b => ?_, fun k q h => by simp [va_pl] at h, ⟨fun i j p q h => by simp [va_pl] at h, fun k q h => by simp [va_pl] at h⟩, fun b => ?_, rfl, he0⟩
    · show b ∈ [] ↔ ((if b = G.2.2.2.2.2 then 15 else 0) ≠ 0 ∧ (if b = G.2.2.2.2.2 then 15 else 0) ≠ 15)
      by_cases h : b = G.2.2.2.2.2 <;> simp [h]
    · show (if b = G.2.2.2.2.2 then 15 else 0) = 15 ↔ _
      by_cases h : b = G.2.2.2.2.2 <;> simp [h]
  have h := c_L_law (e := e) (below := below) hst rfl X hr hX hbl (Nat.not_le.mpr hbl) (by omega) (hlaw G.2.2.2.2.2 L xs hL) s.heap [] _ hG va_S.rf (lv_entry ([.ref b]) (n := 16) (Nat.le_of_ble_eq_true rfl))
  rw [lg_entry_eq]
  exact h

theorem law_w0 (e0 L : Nat) (xs : Nat → Int32) (_ : L ≤ 260) : wp_L_law L xs (w0 e0) := law_ok (fun a ha => by
  have h : (if a = e0 then 15 else 0) = 6 := ha
  by_cases e : a = e0
  · rw [if_pos e] at h; cases h
  · rw [if_neg e] at h; cases h)
