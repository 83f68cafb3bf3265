-- ===== the law's own methods: with a table of handlers; its script
def GHi (l : Launch) (G : GT) (L0 : Nat) (y : MethodName) (cc : ByteArray) (nL : Nat) (ret : Option FieldType) (hh : List (Nat × Nat × Nat × Nat)) (rm : Room) (As : List Value) (w : Wd) (Q : Int32 → Wd → Prop) : Prop := vx_Met l y (.codeWith y cc nL ret hh :: wAll) rm (gPc G L0 As w) (gQi G L0 Q) (gXC G L0 (fun _ _ => False)) rm.cells rm.slots (GA L0)
theorem g_enterH {l : Launch} {G : GT} {L0 : Nat} {y : MethodName} {cc : ByteArray} {nL : Nat} {ret : Option FieldType} {hh : List (Nat × Nat × Nat × Nat)} {rm : Room} {As : List Value} {w : Wd} {Qc : Array Value → State → Outcome → State → Prop} {XC : String → State → State → Prop} (hst : l.stackTraces = false) (hy : plainName y.cls = true) (q : List (Int32 ⊕ Option Nat)) (hq : As = q.map lcV) (hn : q.length ≤ nL)
    (body : ∀ (p : Program) (e : Env) (s : State) (m : MethodId) (args : Array Value) (below : List Frame) (meth : Method) (c : Code), GC l G L0 p s m args meth c cc nL y.cls → meth.sig.returnType = ret → c.exceptionTable.toList = tableOf hh → Gw l G L0 p e rm s m args below meth c nL 0 0 (vx_MQ below Qc XC args s rm.cells rm.slots (GA L0)) w 0 (lcEnum 0 q) []) : vx_Met l y (.codeWith y cc nL ret hh :: wAll) rm (gPc G L0 As w) Qc XC rm.cells rm.slots (GA L0) := by
  refine vx_ofWH (cc := cc) (maxL := nL) (ret := ret) (hh := hh) hy rfl ?_
  intro p e s m args below meth c s₁ B hml hv
  obtain ⟨rfl, hGS, hG⟩ := hv
  have hts := atoms_spec (ws := .codeWith y cc nL ret hh :: wAll) B.pre
  have hX : GC l G L0 p s m As.toArray meth c cc nL y.cls := ⟨⟨B.exec, B.bytes, hml, findClass_of_methodNamed B.named, fun x hx => hts x (List.mem_cons_of_mem _ hx)⟩, B.notSynchronized, hst, hGS⟩
  have h := body p e s m As.toArray below meth c hX B.returns (vx_table (x := y) B (hts _ List.mem_cons_self)) s.heap [] _ hG va_S.rf (by rw [← lc_args, ← hq]; exact lv_entry As (by rw [hq, lc_len]; exact hn))
  rw [lg_entry_eq]
  exact h
section LWR
variable {l : Launch} {G : GT} {L0 : Nat} {p : Program} {e : Env} {R : Room} {s : State} {m : MethodId} {args : Array Value} {below : List Frame} {meth : Method} {c : Code} {cc : ByteArray} {nL : Nat} {own : String} {cells slots mc ms : Nat} {Q : State → Prop} {w : Wd} {pc : Nat} {lv : Lc} {st : List Value}
theorem g_catch (X : GC l G L0 p s m args meth c cc nL own) {E : String} {H : Heap} {locs : List Loc} {ls : Array Slot} {ce : Cell} {q9 : Addr} (pre : List ExceptionTableEntry) (x : ExceptionTableEntry) (suf : List ExceptionTableEntry) (hsplit : c.exceptionTable.toList = pre ++ x :: suf) (hpass : ∀ z ∈ pre, z.catchType ≠ 0 ∧ ∃ nm : String, Cond.classLink own z.catchType nm ∈ wAll ∧ (E, nm) ∈ gNot) (hx : covers x pc = true) (h0 : x.catchType ≠ 0) (q1 : Cond.classLink own x.catchType E ∈ wAll) (hc : (E, E) ∈ gCast)
    (hG : GWd G L0 w H) (hS : va_S (GA L0) s.heap H locs) (hl : lv_has ls nL (lvV lv)) (hq : H[q9]? = some ce) (hv : ce.vm = .none) (hcl : s.vm.findClass E = some ce.cls) (kk : Gw l G L0 p e R s m args below meth c nL cells slots Q w x.handlerPc lv [va_rf (some q9)]) : vx_W p l e R s m args below meth c H locs cells slots Q (F0 m pc ls st) q9 :=
  vx_catch X.1.2.2.2.1 pre x suf hsplit (fun z hz => Or.inr ⟨(hpass z hz).1, by obtain ⟨nm, h1, h2⟩ := (hpass z hz).2; exact ⟨nm, X.1.2.2.2.2 _ h1, X.2.2.2.2.2.2.2.1 _ h2⟩⟩) hx h0 (X.1.2.2.2.2 _ q1) (va_Nw.use rfl (X.2.2.2.2.2.2.1 _ hc)) hq hv hcl (kk H locs ls hG hS hl)
theorem g_callH_i (X : GC l G L0 p s m args meth c cc nL own) {y : MethodName} {bytes : ByteArray} {maxL n index : Nat} {ret : Option FieldType} {hh : List (Nat × Nat × Nat × Nat)} {rm : Room} {As stk : List Value} {Q1 : Int32 → Wd → Prop} (hM : GHi l G L0 y bytes maxL ret hh rm As w Q1)
    (q1 : Cond.methodLink own index y ∈ wAll) (q3 : Cond.static y ∈ wAll) (q4 : Cond.initialized y.cls ∈ wAll) (q5 : Cond.codeWith y bytes maxL ret hh ∈ wAll) (hd0 : y.cls ≠ "java/lang/invoke/MethodHandle" ∧ y.cls ≠ "java/lang/invoke/VarHandle") (hd1 : (parseMethodDescriptor y.desc).map (fun d => d.parameters.length) = some n) (hR : rm.frames + 1 ≤ R.frames ∧ 8 + (maxL + 11) + rm.locals ≤ R.locals)
    (hn : As.length = n) (hst : stk = As.reverse ++ st) (hW : (st.map fun v => v.category).sum ≤ 8) (hf : cells + rm.cells ≤ R.cells ∧ slots + rm.slots ≤ R.slots) (hd : decode cc pc = .ok (.invokestatic index, 3))
    (kk : ∀ (r : Int32) (w1 : Wd), Q1 r w1 → Gw l G L0 p e R s m args below meth c nL (cells + rm.cells) (slots + rm.slots) Q w1 (pc + 3) lv (.int r :: st)) : Gw l G L0 p e R s m args below meth c nL cells slots Q w pc lv stk := by
  intro H locs ls hG hS hl
  subst hst
  refine vx_calli (vx_runSX X.1 hM ⟨⟨rfl, rfl, hR.1, hR.2, pay_in X.1.2.2.2.2 (wA_good q5), List.mem_cons_self⟩, X.1.2.2.2.2 _ q5, X.1.2.2.2.2 _ q4, hd0, fun sig h => ?_, X.1.2.2.2.2 _ q1, X.1.2.2.2.2 _ q3⟩ ⟨gPc_blind, fun U hU hW => ⟨rfl, GS.call X.2.2.2 hS hU hW, by rw [hU]; exact hG⟩⟩ rfl hn hl.1 rfl (lv_room hW) hd hf) hS (fun q _ h => h) (fun q h => h) (fun q _ h => h)
    (fun E ce q9 u t H1 locs1 ht hvm _ hB hz hk1 hS1 hce hcv hcl => hB.1.elim)
    (fun r u t H1 locs1 ht hvm hq hB hz hk1 hS1 => kk r u hq H1 locs1 ls (by rw [← ht]; exact hB) hS1 hl)
  have h2 := hd1
  rw [h] at h2
  exact (Option.some.inj h2).symm
theorem g_sld (X : GC l G L0 p s m args meth c cc nL own) {b L j : Nat} {xs : Nat → Int32} {i : Int32} (hX : va_X b L xs s s.heap) (hb : b < s.heap.size) (hbA : ¬ GA L0 b) (hi : i = nI j) (hj : j < L) (hL : L < 2 ^ 31) (hd : decode cc pc = .ok (.iaload, 1))
    (kk : ∀ v : Int32, v = xs j → Gw l G L0 p e R s m args below meth c nL cells slots Q w (pc + 1) lv (.int v :: st)) : Gw l G L0 p e R s m args below meth c nL cells slots Q w pc lv (.int i :: .ref b :: st) := by
  intro H locs ls hG hS hl
  subst hi
  refine va_sld X.1.1 X.1.2.1 hX hb hbA hS (vp_in_nI hj hL) hd ?_
  rw [nI_clamp (by omega)]
  exact kk _ rfl H locs ls hG hS hl
theorem g_slen (X : GC l G L0 p s m args meth c cc nL own) {b L : Nat} {xs : Nat → Int32} (hX : va_X b L xs s s.heap) (hb : b < s.heap.size) (hbA : ¬ GA L0 b) (hd : decode cc pc = .ok (.arraylength, 1))
    (kk : ∀ v : Int32, v = nI L → Gw l G L0 p e R s m args below meth c nL cells slots Q w (pc + 1) lv (.int v :: st)) : Gw l G L0 p e R s m args below meth c nL cells slots Q w pc lv (.ref b :: st) :=
  fun H locs ls hG hS hl => va_slen X.1.1 X.1.2.1 hX hb hbA hS hd (kk _ rfl H locs ls hG hS hl)
end LWR
/-! THE CLAIM OUT OF ONE WALK OF THE LAW'S BODY. Your part is whole_start (and what it stands on); all else here is the same for every law, but numbers. -/
def R_law : String := "SusuRingLaw"
def lw_P (b : Addr) (xs : List Int32) (args : Array Value) (s : State) : Prop := args = #[.ref b] ∧ s.IntsAt b xs ∧ xs.length ≤ 260 ∧ (Jvm.Cond.and given_1 narrow_1).before args s = true
def lw_Q (_ : Array Value) (s : State) (o : Outcome) (t : State) : Prop := o = .returned (some (.int 1)) ∧ Framed s o t [] 1097659 5808648
def lw_Z (below : List Frame) (a : Array Value) (s : State) : State → Prop := fun t => ∃ o, t.status = .running ∧ Ended t below o ∧ lw_Q a s o t
/-- the law's own end, with 1 on the stack, nothing written that was there before, its room as the claim has it -/
theorem lw_ret {p : Program} {l : Launch} {e : Env} {s : State} {m : MethodId} {below : List Frame} {meth : Method} {c : Code} {b : Nat} (hx : p.tables.exec = Jvm.exec) (hb : c.code = code) (hr : meth.sig.returnType = ret) (hlocks : meth.locks = false) {pc : Nat} {H : Heap} {ls : Array Slot} (hdg : decode code pc = .ok (.ireturn, 1)) : W p l e room_1 s m #[Value.ref b] below meth c H [] 1097659 5808648 (lw_Z below #[Value.ref b] s) (F0 m pc ls [.int 1]) := by
  intro T hT X
  obtain ⟨fs, hret, hrun, hended, hW, hframe⟩ := X.leave (v := some (.int 1)) (hlocks := hlocks) (fun h => by rw [hr] at h; cases h)
  have hmeth' : T.vm.method? m = some meth := X.method'
  refine ⟨T.setFrames fs, ?_, .returned (some (.int 1)), hrun, hended, rfl, ⟨_, rfl⟩, hW, hframe⟩
  jvm_step X.here [X.here.top, hx, hb, hdg, hmeth', hr, ret, narrow_b1]
  (try refine ⟨rfl, ?_⟩); (try refine ⟨rfl, ?_⟩)
  first | (intro acts; rw [hret _ acts rfl rfl rfl]) | rw [hret _ _ rfl rfl rfl]
  exact Steps.refl _
/-- what holds at the law's entry: the machine, the code, the tables' words (any of lw_tbl by 'hts w (by decide +kernel)'), the script of L ints xs at the cell b, what the Statement gives of the start (any of its parts by flat_of_before) -/
def lw_At (p : Program) (s : State) (m : MethodId) (meth : Method) (c : Code) (b L : Nat) (xs : Nat → Int32) : Prop :=
  p.tables.exec = Jvm.exec ∧ c.code = code ∧ meth.sig.returnType = ret ∧ c.maxLocals = 16 ∧ s.vm.findClass R_law = some m.cls ∧ (∀ w ∈ lw_tbl, w.before #[Value.ref b] s = true) ∧ va_X b L xs s s.heap ∧ b < s.heap.size ∧ meth.locks = false ∧ (Jvm.Cond.and given_1 narrow_1).before #[Value.ref b] s = true
theorem g_lawret {p : Program} {e : Env} {s : State} {m : MethodId} {below : List Frame} {meth : Method} {c : Code} {l : Launch} {G : GT} {L0 b cells slots pc : Nat} {w : Wd} {lv : Lc} {v : Int32} (X : GC l G L0 p s m #[Value.ref b] meth c code 16 "SusuRingLaw") (hL0 : L0 = s.heap.size) (hr : meth.sig.returnType = ret) (h1 : cells ≤ 1097659) (h2 : slots ≤ 5808648) (hd : decode code pc = .ok (.ireturn, 1)) (hv : v = 1) : Gw l G L0 p e room_1 s m #[Value.ref b] below meth c 16 cells slots (lw_Z below #[Value.ref b] s) w pc lv [.int v] := by
  subst hv
  exact fun H locs ls hG hS hl => va_forget (fun q hq => by have h := hS.2.2 q hq; rw [hL0] at h; exact h) (W.widen h1 h2 (lw_ret X.1.1 X.1.2.1 hr X.2.1 hd))
-- ===== a number drawn from the tape
def drv (L : Nat) (xs : Nat → Int32) (k : Nat) : Int32 := if k < L then xs k else (39857 : Int32) * nI k + (20411 : Int32)
def dru (x : Int32) : Int32 := (x.toUInt32 >>> ((1 : Int32).toUInt32 &&& Int32.toUInt32 31)).toInt32
def drd (L : Nat) (xs : Nat → Int32) (k : Nat) (n : Int32) : Int32 := dru (drv L xs k) - dru (drv L xs k) / n * n
def wp_L_drawn (L : Nat) (xs : Nat → Int32) (x1 x2 : Int32) (w : Wd) (Q : Int32 → Wd → Prop) : Prop := ∃ k : Nat, x1 = nI k ∧ k < 1000 ∧ ¬ x2 = 0 ∧ Q (drd L xs k x2) w
abbrev rm_L_drawn : Room := { frames := 1, cells := 0, slots := 0, locals := 20 }
def drE (L0 b L : Nat) (xs : Nat → Int32) : State → Prop := fun U => va_X b L xs U U.heap ∧ b < U.heap.size ∧ ¬ GA L0 b
section DRW
variable {l : Launch} {G : GT} {L0 : Nat} {p : Program} {e : Env} {R : Room} {s : State} {m : MethodId} {args : Array Value} {below : List Frame} {meth : Method} {c : Code} {cc : ByteArray} {nL : Nat} {own : String} {cells slots : Nat} {Q : State → Prop} {w : Wd} {pc : Nat} {lv : Lc} {st : List Value}
theorem g_iushr (X : GC l G L0 p s m args meth c cc nL own) {x y : Int32} (hd : decode cc pc = .ok (.iushr, 1))
    (kk : ∀ v : Int32, v = (x.toUInt32 >>> (y.toUInt32 &&& Int32.toUInt32 31)).toInt32 → Gw l G L0 p e R s m args below meth c nL cells slots Q w (pc + 1) lv (.int v :: st)) : Gw l G L0 p e R s m args below meth c nL cells slots Q w pc lv (.int y :: .int x :: st) :=
  fun H locs ls hG hS hl => lv_iushr X.1.1 X.1.2.1 hd rfl (kk _ rfl H locs ls hG hS hl)
end DRW
set_option maxHeartbeats 4000000 in
theorem c_L_drawn {l : Launch} {G : GT} {L0 : Nat} (hst : l.stackTraces = false) {b L : Nat} {xs : Nat → Int32} (hLL : L < 2 ^ 31) {x1 x2 : Int32} {w : Wd} {Q : Int32 → Wd → Prop} (h : wp_L_drawn L xs x1 x2 w Q) :
    Met l yL_drawn (.code yL_drawn cL_drawn 4 (some .int) :: wAll) rm_L_drawn (gPcE G L0 [va_rf (some b), .int x1, .int x2] w (drE L0 b L xs)) (gQi G L0 Q) rm_L_drawn.cells rm_L_drawn.slots (GA L0) := by
  obtain ⟨k, rfl, hk, hne, h⟩ := h
  refine g_enterE hst (by decide +kernel) [.inr (some b), .inl (nI k), .inl x2] rfl (show 3 ≤ 4 by decide) ?_
  intro p e s m args below meth c X hr hE
  replace X : GC l G L0 p s m args meth c cL_drawn 4 "SusuRingLaw" := X
  obtain ⟨hX, hb, hbA⟩ := hE
  have key : ∀ v : Int32, v = drv L xs k → Gw l G L0 p e rm_L_drawn s m args below meth c 4 0 0 (MQ below (gQi G L0 Q) args s rm_L_drawn.cells rm_L_drawn.slots (GA L0)) w 20 [(0, .inr (some b)), (1, .inl (nI k)), (2, .inl x2)] [.int v] := by
    intro v hv
    refine g_istore_n X [(3, .inl v), (0, .inr (some b)), (1, .inl (nI k)), (2, .inl x2)] dL_drawn_20 rfl (by decide) rfl ?_
    refine g_iload_n X dL_drawn_21 rfl 0 rfl ?_
    refine g_iconst X (v := 1) dL_drawn_22 (by decide) ?_
    refine g_iushr X dL_drawn_23 (fun v1 hv1 => ?_)
    refine g_iload_n X dL_drawn_24 rfl 3 rfl ?_
    refine g_irem X dL_drawn_25 hne (fun v2 hv2 => ?_)
    refine g_iret X hr (by decide) (by decide) dL_drawn_26 ?_
    rw [hv2, hv1, hv]
    exact h
  refine g_iload_n X dL_drawn_0 rfl 1 rfl ?_
  refine g_aload_n X dL_drawn_1 rfl 0 rfl ?_
  refine g_slen X hX hb hbA dL_drawn_2 (fun v hv => ?_)
  refine g_icmp_ge X (tgt := 12) dL_drawn_3 (by decide) (fun hc => ?_) (fun hc => ?_)
  · rw [hv] at hc
    have hkL : ¬ k < L := fun z => by
      have z2 := (nI_leI (by omega) (by omega)).mp hc
      omega
    refine g_ldc X (v := (39857 : Int32)) m_481 dL_drawn_12 ?_
    refine g_iload_n X dL_drawn_14 rfl 1 rfl ?_
    refine g_imul X dL_drawn_15 (fun v1 h1 => ?_)
    refine g_sipush X (v := (20411 : Int32)) dL_drawn_16 (by decide) ?_
    refine g_iadd X dL_drawn_19 (fun v2 h2 => ?_)
    exact key v2 (by rw [h2, h1]; unfold drv; rw [if_neg hkL])
  · rw [hv] at hc
    have hkL : k < L := by
      rcases Nat.lt_or_ge k L with z | z
      · exact z
      · exact absurd ((nI_leI (by omega) (by omega)).mpr z) hc
    refine g_aload_n X dL_drawn_6 rfl 0 rfl ?_
    refine g_iload_n X dL_drawn_7 rfl 1 rfl ?_
    refine g_sld X hX hb hbA rfl hkL hLL dL_drawn_8 (fun v1 h1 => ?_)
    refine g_goto X (tgt := 20) dL_drawn_9 (by decide) ?_
    exact key v1 (by rw [h1]; unfold drv; rw [if_pos hkL])
section DRX
variable {l : Launch} {G : GT} {L0 : Nat} {p : Program} {e : Env} {R : Room} {s : State} {m : MethodId} {args : Array Value} {below : List Frame} {meth : Method} {c : Code} {cc : ByteArray} {nL : Nat} {own : String} {cells slots : Nat} {Q : State → Prop} {w : Wd} {pc : Nat} {lv : Lc} {st : List Value}
theorem g_callD (X : GC l G L0 p s m args meth c cc nL own) {b L index : Nat} {xs : Nat → Int32} {x1 x2 : Int32} {Q1 : Int32 → Wd → Prop} (hX : va_X b L xs s s.heap) (hb : b < s.heap.size) (hbA : ¬ GA L0 b)
    (hM : Met l yL_drawn (.code yL_drawn cL_drawn 4 (some .int) :: wAll) rm_L_drawn (gPcE G L0 [va_rf (some b), .int x1, .int x2] w (drE L0 b L xs)) (gQi G L0 Q1) rm_L_drawn.cells rm_L_drawn.slots (GA L0))
    (q1 : Cond.methodLink own index yL_drawn ∈ wAll) (q3 : Cond.static yL_drawn ∈ wAll) (q4 : Cond.initialized yL_drawn.cls ∈ wAll) (q5 : Cond.code yL_drawn cL_drawn 4 (some .int) ∈ wAll) (hW : (st.map fun v => v.category).sum ≤ 8) (hR : rm_L_drawn.frames + 1 ≤ R.frames ∧ 8 + (4 + 11) + rm_L_drawn.locals ≤ R.locals) (hf : cells ≤ R.cells ∧ slots ≤ R.slots) (hd : decode cc pc = .ok (.invokestatic index, 3))
    (kk : ∀ (r : Int32) (w1 : Wd), Q1 r w1 → Gw l G L0 p e R s m args below meth c nL cells slots Q w1 (pc + 3) lv (.int r :: st)) : Gw l G L0 p e R s m args below meth c nL cells slots Q w pc lv (.int x2 :: .int x1 :: .ref b :: st) := by
  intro H locs ls hG hS hl
  exact va_calli (va_runS (As := [va_rf (some b), .int x1, .int x2]) (rest := st) X.1 hM ⟨callB_of (ws' := wAll) 3 X.1.2.2.2.2 (wA_good q5) rfl rfl rfl (X.1.2.2.2.2 _ q4) (X.1.2.2.2.2 _ q1) (by decide +kernel) hR, X.1.2.2.2.2 _ q3⟩
    ⟨fun _ _ _ _ q => ⟨q.1, ⟨GS.same q.2.1.1 rfl rfl, q.2.1.2⟩, va_X.moved (Vm.Alike.refl _) q.2.2.1, q.2.2.2⟩, fun U hU hV => ⟨rfl, ⟨GS.call X.2.2.2 hS hU hV, by rw [hU]; exact hG⟩, by
      rw [show drE L0 b L xs U = (va_X b L xs U U.heap ∧ b < U.heap.size ∧ ¬ GA L0 b) from rfl, hU]
      exact ⟨va_X.moved hV.alike (hX.kept (hS.2.1 b hb hbA)), Nat.lt_of_lt_of_le hb hS.1, hbA⟩⟩⟩ rfl rfl hl.1 rfl (lv_room hW) hd hf) hS (fun q _ h => h) (fun q h => h)
    (fun r u t H1 locs1 ht hvm hq hB hz hk1 hS1 => kk r u hq H1 locs1 ls (by rw [← ht]; exact hB) hS1 hl)
end DRX
abbrev rm_L_isEarn : Room := { frames := 8, cells := 3, slots := 18, locals := 209 }
def wp_L_isEarn (r0 : Option Nat) (x1 : Int32) (x2 : Int32) (w : Wd) (Q : Int32 → Wd → Prop) : Prop :=
  ∃ a1, r0 = some a1 ∧ w.K a1 = 4 ∧
  wp_X3_earn a1 x1 x2 w (fun v3 w2 => 
  ((1 : Int32) = 0 ∨ (1 : Int32) = 1) ∧ Q (1 : Int32) w2) (fun E w4 => (E = "java/lang/IllegalStateException" ∧ ((0 : Int32) = 0 ∨ (0 : Int32) = 1) ∧ Q (0 : Int32) w4))
set_option maxHeartbeats 4000000 in
set_option maxRecDepth 100000 in
theorem c_L_isEarn {l : Launch} {G : GT} {L0 : Nat} (hst : l.stackTraces = false) {r0 : Option Nat} {x1 : Int32} {x2 : Int32} {w : Wd} {Q : Int32 → Wd → Prop} (h : wp_L_isEarn r0 x1 x2 w Q) : GHi l G L0 yL_isEarn cL_isEarn 4 (some .boolean) [(0, 7, 10, 14)] rm_L_isEarn [va_rf r0, .int x1, .int x2] w Q := by
  refine g_enterH hst (by decide +kernel) [.inr r0, .inl x1, .inl x2] rfl (show 3 ≤ 4 by decide) ?_
  intro p e s m args below meth c X hr htab
  replace X : GC l G L0 p s m args meth c cL_isEarn 4 "SusuRingLaw" := X
  refine g_aload_n X dL_isEarn_0 rfl 0 rfl ?_
  refine g_iload_n X dL_isEarn_1 rfl 1 rfl ?_
  refine g_iload_n X dL_isEarn_2 rfl 2 rfl ?_
  obtain ⟨a1, rfl, hk, h⟩ := h
  refine g_callYV_i X (As := [.int x1, .int x2]) (st := []) (n := 2) (c_X3_earn hst h) rfl (by decide) hk (wE_4 G w a1) m_291 m_292 m_293 m_15 m_294 (by decide +kernel) (by decide +kernel) rfl rfl (Nat.zero_le _) ⟨(by decide +kernel), (by decide +kernel)⟩ dL_isEarn_3 (fun E w4 hE H locs ls ce q9 hG hS hl hq hv hcl => ?_) (fun v3 w2 h => ?_)
  · clear h hk
    rcases hE with ⟨rfl, h⟩
    · refine g_catch X (E := "java/lang/IllegalStateException") [] ⟨0, 7, 10, 14⟩ [] (htab.trans rfl) (fun z hz => by simp at hz) (by decide) (by decide) m_485 (by decide +kernel) hG hS hl hq hv hcl ?_
      refine g_widen (c2 := (3)) (s2 := (18)) (by decide) (by decide) ?_
      refine g_astore_n X [(3, .inr (some q9)), (0, .inr (some a1)), (1, .inl x1), (2, .inl x2)] dL_isEarn_10 rfl (by decide) rfl ?_
      refine g_iconst X (v := (0 : Int32)) dL_isEarn_11 (by decide) ?_
      exact g_zretX X hr (by decide +kernel) (by decide +kernel) dL_isEarn_12 h.1 h.2
  clear hk
  refine g_widen (c2 := (3)) (s2 := (18)) (by decide) (by decide) ?_
  refine g_pop X dL_isEarn_6 rfl ?_
  refine g_goto X (tgt := 13) dL_isEarn_7 (by decide) ?_
  refine g_iconst X (v := (1 : Int32)) dL_isEarn_13 (by decide) ?_
  exact g_zretX X hr (by decide +kernel) (by decide +kernel) dL_isEarn_14 h.1 h.2

abbrev rm_L_isDie : Room := { frames := 8, cells := 4, slots := 24, locals := 259 }
def wp_L_isDie (r0 : Option Nat) (x1 : Int32) (x2 : Int32) (w : Wd) (Q : Int32 → Wd → Prop) : Prop :=
  ∃ a1, r0 = some a1 ∧ w.K a1 = 4 ∧
  wp_X3_die a1 x1 x2 w (fun v3 w2 => 
  ((1 : Int32) = 0 ∨ (1 : Int32) = 1) ∧ Q (1 : Int32) w2) (fun E w4 => (E = "java/lang/IllegalStateException" ∧ ((0 : Int32) = 0 ∨ (0 : Int32) = 1) ∧ Q (0 : Int32) w4))
set_option maxHeartbeats 4000000 in
set_option maxRecDepth 100000 in
theorem c_L_isDie {l : Launch} {G : GT} {L0 : Nat} (hst : l.stackTraces = false) {r0 : Option Nat} {x1 : Int32} {x2 : Int32} {w : Wd} {Q : Int32 → Wd → Prop} (h : wp_L_isDie r0 x1 x2 w Q) : GHi l G L0 yL_isDie cL_isDie 4 (some .boolean) [(0, 7, 10, 14)] rm_L_isDie [va_rf r0, .int x1, .int x2] w Q := by
  refine g_enterH hst (by decide +kernel) [.inr r0, .inl x1, .inl x2] rfl (show 3 ≤ 4 by decide) ?_
  intro p e s m args below meth c X hr htab
  replace X : GC l G L0 p s m args meth c cL_isDie 4 "SusuRingLaw" := X
  refine g_aload_n X dL_isDie_0 rfl 0 rfl ?_
  refine g_iload_n X dL_isDie_1 rfl 1 rfl ?_
  refine g_iload_n X dL_isDie_2 rfl 2 rfl ?_
  obtain ⟨a1, rfl, hk, h⟩ := h
  refine g_callYV_i X (As := [.int x1, .int x2]) (st := []) (n := 2) (c_X3_die hst h) rfl (by decide) hk (wE_4 G w a1) m_489 m_490 m_491 m_15 m_492 (by decide +kernel) (by decide +kernel) rfl rfl (Nat.zero_le _) ⟨(by decide +kernel), (by decide +kernel)⟩ dL_isDie_3 (fun E w4 hE H locs ls ce q9 hG hS hl hq hv hcl => ?_) (fun v3 w2 h => ?_)
  · clear h hk
    rcases hE with ⟨rfl, h⟩
    · refine g_catch X (E := "java/lang/IllegalStateException") [] ⟨0, 7, 10, 14⟩ [] (htab.trans rfl) (fun z hz => by simp at hz) (by decide) (by decide) m_485 (by decide +kernel) hG hS hl hq hv hcl ?_
      refine g_widen (c2 := (4)) (s2 := (24)) (by decide) (by decide) ?_
      refine g_astore_n X [(3, .inr (some q9)), (0, .inr (some a1)), (1, .inl x1), (2, .inl x2)] dL_isDie_10 rfl (by decide) rfl ?_
      refine g_iconst X (v := (0 : Int32)) dL_isDie_11 (by decide) ?_
      exact g_zretX X hr (by decide +kernel) (by decide +kernel) dL_isDie_12 h.1 h.2
  clear hk
  refine g_widen (c2 := (4)) (s2 := (24)) (by decide) (by decide) ?_
  refine g_pop X dL_isDie_6 rfl ?_
  refine g_goto X (tgt := 13) dL_isDie_7 (by decide) ?_
  refine g_iconst X (v := (1 : Int32)) dL_isDie_13 (by decide) ?_
  exact g_zretX X hr (by decide +kernel) (by decide +kernel) dL_isDie_14 h.1 h.2

abbrev rm_L_isEnter : Room := { frames := 8, cells := 7, slots := 158, locals := 282 }
def wp_L_isEnter (r0 : Option Nat) (x1 : Int32) (x2 : Int32) (w : Wd) (Q : Int32 → Wd → Prop) : Prop :=
  ∃ a1, r0 = some a1 ∧ w.K a1 = 4 ∧
  wp_X3_enter a1 x1 x2 w (fun v3 w2 => 
  ((1 : Int32) = 0 ∨ (1 : Int32) = 1) ∧ Q (1 : Int32) w2) (fun E w4 => (E = "java/lang/IllegalStateException" ∧ ((0 : Int32) = 0 ∨ (0 : Int32) = 1) ∧ Q (0 : Int32) w4))
set_option maxHeartbeats 4000000 in
set_option maxRecDepth 100000 in
theorem c_L_isEnter {l : Launch} {G : GT} {L0 : Nat} (hst : l.stackTraces = false) {r0 : Option Nat} {x1 : Int32} {x2 : Int32} {w : Wd} {Q : Int32 → Wd → Prop} (h : wp_L_isEnter r0 x1 x2 w Q) : GHi l G L0 yL_isEnter cL_isEnter 4 (some .boolean) [(0, 7, 10, 14)] rm_L_isEnter [va_rf r0, .int x1, .int x2] w Q := by
  refine g_enterH hst (by decide +kernel) [.inr r0, .inl x1, .inl x2] rfl (show 3 ≤ 4 by decide) ?_
  intro p e s m args below meth c X hr htab
  replace X : GC l G L0 p s m args meth c cL_isEnter 4 "SusuRingLaw" := X
  refine g_aload_n X dL_isEnter_0 rfl 0 rfl ?_
  refine g_iload_n X dL_isEnter_1 rfl 1 rfl ?_
  refine g_iload_n X dL_isEnter_2 rfl 2 rfl ?_
  obtain ⟨a1, rfl, hk, h⟩ := h
  refine g_callYV_i X (As := [.int x1, .int x2]) (st := []) (n := 2) (c_X3_enter hst h) rfl (by decide) hk (wE_4 G w a1) m_532 m_533 m_534 m_15 m_535 (by decide +kernel) (by decide +kernel) rfl rfl (Nat.zero_le _) ⟨(by decide +kernel), (by decide +kernel)⟩ dL_isEnter_3 (fun E w4 hE H locs ls ce q9 hG hS hl hq hv hcl => ?_) (fun v3 w2 h => ?_)
  · clear h hk
    rcases hE with ⟨rfl, h⟩
    · refine g_catch X (E := "java/lang/IllegalStateException") [] ⟨0, 7, 10, 14⟩ [] (htab.trans rfl) (fun z hz => by simp at hz) (by decide) (by decide) m_485 (by decide +kernel) hG hS hl hq hv hcl ?_
      refine g_widen (c2 := (7)) (s2 := (158)) (by decide) (by decide) ?_
      refine g_astore_n X [(3, .inr (some q9)), (0, .inr (some a1)), (1, .inl x1), (2, .inl x2)] dL_isEnter_10 rfl (by decide) rfl ?_
      refine g_iconst X (v := (0 : Int32)) dL_isEnter_11 (by decide) ?_
      exact g_zretX X hr (by decide +kernel) (by decide +kernel) dL_isEnter_12 h.1 h.2
  clear hk
  refine g_widen (c2 := (7)) (s2 := (158)) (by decide) (by decide) ?_
  refine g_pop X dL_isEnter_6 rfl ?_
  refine g_goto X (tgt := 13) dL_isEnter_7 (by decide) ?_
  refine g_iconst X (v := (1 : Int32)) dL_isEnter_13 (by decide) ?_
  exact g_zretX X hr (by decide +kernel) (by decide +kernel) dL_isEnter_14 h.1 h.2

abbrev rm_L_isStart : Room := { frames := 9, cells := 71, slots := 4370, locals := 306 }
def wp_L_isStart (r0 : Option Nat) (x1 : Int32) (x2 : Int32) (w : Wd) (Q : Int32 → Wd → Prop) : Prop :=
  ∃ a1, r0 = some a1 ∧ w.K a1 = 4 ∧
  wp_X3_start a1 x1 x2 w (fun v3 w2 => 
  ((1 : Int32) = 0 ∨ (1 : Int32) = 1) ∧ Q (1 : Int32) w2) (fun E w4 => (E = "java/lang/IllegalStateException" ∧ ((0 : Int32) = 0 ∨ (0 : Int32) = 1) ∧ Q (0 : Int32) w4))
set_option maxHeartbeats 4000000 in
set_option maxRecDepth 100000 in
theorem c_L_isStart {l : Launch} {G : GT} {L0 : Nat} (hst : l.stackTraces = false) {r0 : Option Nat} {x1 : Int32} {x2 : Int32} {w : Wd} {Q : Int32 → Wd → Prop} (h : wp_L_isStart r0 x1 x2 w Q) : GHi l G L0 yL_isStart cL_isStart 4 (some .boolean) [(0, 7, 10, 14)] rm_L_isStart [va_rf r0, .int x1, .int x2] w Q := by
  refine g_enterH hst (by decide +kernel) [.inr r0, .inl x1, .inl x2] rfl (show 3 ≤ 4 by decide) ?_
  intro p e s m args below meth c X hr htab
  replace X : GC l G L0 p s m args meth c cL_isStart 4 "SusuRingLaw" := X
  refine g_aload_n X dL_isStart_0 rfl 0 rfl ?_
  refine g_iload_n X dL_isStart_1 rfl 1 rfl ?_
  refine g_iload_n X dL_isStart_2 rfl 2 rfl ?_
  obtain ⟨a1, rfl, hk, h⟩ := h
  refine g_callYV_i X (As := [.int x1, .int x2]) (st := []) (n := 2) (c_X3_start hst h) rfl (by decide) hk (wE_4 G w a1) m_572 m_573 m_574 m_15 m_575 (by decide +kernel) (by decide +kernel) rfl rfl (Nat.zero_le _) ⟨(by decide +kernel), (by decide +kernel)⟩ dL_isStart_3 (fun E w4 hE H locs ls ce q9 hG hS hl hq hv hcl => ?_) (fun v3 w2 h => ?_)
  · clear h hk
    rcases hE with ⟨rfl, h⟩
    · refine g_catch X (E := "java/lang/IllegalStateException") [] ⟨0, 7, 10, 14⟩ [] (htab.trans rfl) (fun z hz => by simp at hz) (by decide) (by decide) m_485 (by decide +kernel) hG hS hl hq hv hcl ?_
      refine g_widen (c2 := (71)) (s2 := (4370)) (by decide) (by decide) ?_
      refine g_astore_n X [(3, .inr (some q9)), (0, .inr (some a1)), (1, .inl x1), (2, .inl x2)] dL_isStart_10 rfl (by decide) rfl ?_
      refine g_iconst X (v := (0 : Int32)) dL_isStart_11 (by decide) ?_
      exact g_zretX X hr (by decide +kernel) (by decide +kernel) dL_isStart_12 h.1 h.2
  clear hk
  refine g_widen (c2 := (71)) (s2 := (4370)) (by decide) (by decide) ?_
  refine g_pop X dL_isStart_6 rfl ?_
  refine g_goto X (tgt := 13) dL_isStart_7 (by decide) ?_
  refine g_iconst X (v := (1 : Int32)) dL_isStart_13 (by decide) ?_
  exact g_zretX X hr (by decide +kernel) (by decide +kernel) dL_isStart_14 h.1 h.2

abbrev rm_L_isWant : Room := { frames := 8, cells := 4, slots := 24, locals := 235 }
def wp_L_isWant (r0 : Option Nat) (x1 : Int32) (x2 : Int32) (x3 : Int32) (x4 : Int32) (w : Wd) (Q : Int32 → Wd → Prop) : Prop :=
  ∃ a1, r0 = some a1 ∧ w.K a1 = 4 ∧
  wp_X3_want a1 x1 x2 x3 x4 w (fun v3 w2 => 
  ((1 : Int32) = 0 ∨ (1 : Int32) = 1) ∧ Q (1 : Int32) w2) (fun E w4 => (E = "java/lang/IllegalStateException" ∧ ((0 : Int32) = 0 ∨ (0 : Int32) = 1) ∧ Q (0 : Int32) w4))
set_option maxHeartbeats 4000000 in
set_option maxRecDepth 100000 in
theorem c_L_isWant {l : Launch} {G : GT} {L0 : Nat} (hst : l.stackTraces = false) {r0 : Option Nat} {x1 : Int32} {x2 : Int32} {x3 : Int32} {x4 : Int32} {w : Wd} {Q : Int32 → Wd → Prop} (h : wp_L_isWant r0 x1 x2 x3 x4 w Q) : GHi l G L0 yL_isWant cL_isWant 6 (some .boolean) [(0, 10, 13, 14)] rm_L_isWant [va_rf r0, .int x1, .int x2, .int x3, .int x4] w Q := by
  refine g_enterH hst (by decide +kernel) [.inr r0, .inl x1, .inl x2, .inl x3, .inl x4] rfl (show 5 ≤ 6 by decide) ?_
  intro p e s m args below meth c X hr htab
  replace X : GC l G L0 p s m args meth c cL_isWant 6 "SusuRingLaw" := X
  refine g_aload_n X dL_isWant_0 rfl 0 rfl ?_
  refine g_iload_n X dL_isWant_1 rfl 1 rfl ?_
  refine g_iload_n X dL_isWant_2 rfl 2 rfl ?_
  refine g_iload_n X dL_isWant_3 rfl 3 rfl ?_
  refine g_iload X dL_isWant_4 4 rfl ?_
  obtain ⟨a1, rfl, hk, h⟩ := h
  refine g_callYV_i X (As := [.int x1, .int x2, .int x3, .int x4]) (st := []) (n := 4) (c_X3_want hst h) rfl (by decide) hk (wE_4 G w a1) m_602 m_603 m_604 m_15 m_605 (by decide +kernel) (by decide +kernel) rfl rfl (Nat.zero_le _) ⟨(by decide +kernel), (by decide +kernel)⟩ dL_isWant_6 (fun E w4 hE H locs ls ce q9 hG hS hl hq hv hcl => ?_) (fun v3 w2 h => ?_)
  · clear h hk
    rcases hE with ⟨rfl, h⟩
    · refine g_catch X (E := "java/lang/IllegalStateException") [] ⟨0, 10, 13, 14⟩ [] (htab.trans rfl) (fun z hz => by simp at hz) (by decide) (by decide) m_485 (by decide +kernel) hG hS hl hq hv hcl ?_
      refine g_widen (c2 := (4)) (s2 := (24)) (by decide) (by decide) ?_
      refine g_astore X [(5, .inr (some q9)), (0, .inr (some a1)), (1, .inl x1), (2, .inl x2), (3, .inl x3), (4, .inl x4)] dL_isWant_13 (by decide) rfl ?_
      refine g_iconst X (v := (0 : Int32)) dL_isWant_15 (by decide) ?_
      exact g_zretX X hr (by decide +kernel) (by decide +kernel) dL_isWant_16 h.1 h.2
  clear hk
  refine g_widen (c2 := (4)) (s2 := (24)) (by decide) (by decide) ?_
  refine g_pop X dL_isWant_9 rfl ?_
  refine g_goto X (tgt := 17) dL_isWant_10 (by decide) ?_
  refine g_iconst X (v := (1 : Int32)) dL_isWant_17 (by decide) ?_
  exact g_zretX X hr (by decide +kernel) (by decide +kernel) dL_isWant_18 h.1 h.2

abbrev rm_L_meets : Room := { frames := 8, cells := 2, slots := 12, locals := 231 }
def wp_L_meets (r0 : Option Nat) (x1 : Int32) (x2 : Int32) (w : Wd) (Q : Int32 → Wd → Prop) : Prop :=
  ∃ a1, r0 = some a1 ∧ w.K a1 = 4 ∧
  wp_X3_meet a1 x1 x2 w (fun v3 w2 => 
  Q v3 w2) (fun E w4 => (E = "java/lang/IllegalStateException" ∧ Q (-1 : Int32) w4))
set_option maxHeartbeats 4000000 in
set_option maxRecDepth 100000 in
theorem c_L_meets {l : Launch} {G : GT} {L0 : Nat} (hst : l.stackTraces = false) {r0 : Option Nat} {x1 : Int32} {x2 : Int32} {w : Wd} {Q : Int32 → Wd → Prop} (h : wp_L_meets r0 x1 x2 w Q) : GHi l G L0 yL_meets cL_meets 4 (some .int) [(0, 6, 7, 14)] rm_L_meets [va_rf r0, .int x1, .int x2] w Q := by
  refine g_enterH hst (by decide +kernel) [.inr r0, .inl x1, .inl x2] rfl (show 3 ≤ 4 by decide) ?_
  intro p e s m args below meth c X hr htab
  replace X : GC l G L0 p s m args meth c cL_meets 4 "SusuRingLaw" := X
  refine g_aload_n X dL_meets_0 rfl 0 rfl ?_
  refine g_iload_n X dL_meets_1 rfl 1 rfl ?_
  refine g_iload_n X dL_meets_2 rfl 2 rfl ?_
  obtain ⟨a1, rfl, hk, h⟩ := h
  refine g_callYV_i X (As := [.int x1, .int x2]) (st := []) (n := 2) (c_X3_meet hst h) rfl (by decide) hk (wE_4 G w a1) m_618 m_619 m_620 m_15 m_621 (by decide +kernel) (by decide +kernel) rfl rfl (Nat.zero_le _) ⟨(by decide +kernel), (by decide +kernel)⟩ dL_meets_3 (fun E w4 hE H locs ls ce q9 hG hS hl hq hv hcl => ?_) (fun v3 w2 h => ?_)
  · clear h hk
    rcases hE with ⟨rfl, h⟩
    · refine g_catch X (E := "java/lang/IllegalStateException") [] ⟨0, 6, 7, 14⟩ [] (htab.trans rfl) (fun z hz => by simp at hz) (by decide) (by decide) m_485 (by decide +kernel) hG hS hl hq hv hcl ?_
      refine g_widen (c2 := (2)) (s2 := (12)) (by decide) (by decide) ?_
      refine g_astore_n X [(3, .inr (some q9)), (0, .inr (some a1)), (1, .inl x1), (2, .inl x2)] dL_meets_7 rfl (by decide) rfl ?_
      refine g_iconst X (v := (-1 : Int32)) dL_meets_8 (by decide) ?_
      exact g_iretX X hr (by decide +kernel) (by decide +kernel) dL_meets_9 h
  clear hk
  refine g_widen (c2 := (2)) (s2 := (12)) (by decide) (by decide) ?_
  exact g_iretX X hr (by decide +kernel) (by decide +kernel) dL_meets_6 h

abbrev rm_L_leaves : Room := { frames := 8, cells := 3, slots := 18, locals := 235 }
def wp_L_leaves (r0 : Option Nat) (x1 : Int32) (x2 : Int32) (w : Wd) (Q : Int32 → Wd → Prop) : Prop :=
  ∃ a1, r0 = some a1 ∧ w.K a1 = 4 ∧
  wp_X3_leave a1 x1 x2 w (fun v3 w2 => 
  Q v3 w2) (fun E w4 => (E = "java/lang/IllegalStateException" ∧ Q (-1 : Int32) w4))
set_option maxHeartbeats 4000000 in
set_option maxRecDepth 100000 in
theorem c_L_leaves {l : Launch} {G : GT} {L0 : Nat} (hst : l.stackTraces = false) {r0 : Option Nat} {x1 : Int32} {x2 : Int32} {w : Wd} {Q : Int32 → Wd → Prop} (h : wp_L_leaves r0 x1 x2 w Q) : GHi l G L0 yL_leaves cL_leaves 4 (some .int) [(0, 6, 7, 14)] rm_L_leaves [va_rf r0, .int x1, .int x2] w Q := by
  refine g_enterH hst (by decide +kernel) [.inr r0, .inl x1, .inl x2] rfl (show 3 ≤ 4 by decide) ?_
  intro p e s m args below meth c X hr htab
  replace X : GC l G L0 p s m args meth c cL_leaves 4 "SusuRingLaw" := X
  refine g_aload_n X dL_leaves_0 rfl 0 rfl ?_
  refine g_iload_n X dL_leaves_1 rfl 1 rfl ?_
  refine g_iload_n X dL_leaves_2 rfl 2 rfl ?_
  obtain ⟨a1, rfl, hk, h⟩ := h
  refine g_callYV_i X (As := [.int x1, .int x2]) (st := []) (n := 2) (c_X3_leave hst h) rfl (by decide) hk (wE_4 G w a1) m_649 m_650 m_651 m_15 m_652 (by decide +kernel) (by decide +kernel) rfl rfl (Nat.zero_le _) ⟨(by decide +kernel), (by decide +kernel)⟩ dL_leaves_3 (fun E w4 hE H locs ls ce q9 hG hS hl hq hv hcl => ?_) (fun v3 w2 h => ?_)
  · clear h hk
    rcases hE with ⟨rfl, h⟩
    · refine g_catch X (E := "java/lang/IllegalStateException") [] ⟨0, 6, 7, 14⟩ [] (htab.trans rfl) (fun z hz => by simp at hz) (by decide) (by decide) m_485 (by decide +kernel) hG hS hl hq hv hcl ?_
      refine g_widen (c2 := (3)) (s2 := (18)) (by decide) (by decide) ?_
      refine g_astore_n X [(3, .inr (some q9)), (0, .inr (some a1)), (1, .inl x1), (2, .inl x2)] dL_leaves_7 rfl (by decide) rfl ?_
      refine g_iconst X (v := (-1 : Int32)) dL_leaves_8 (by decide) ?_
      exact g_iretX X hr (by decide +kernel) (by decide +kernel) dL_leaves_9 h
  clear hk
  refine g_widen (c2 := (3)) (s2 := (18)) (by decide) (by decide) ?_
  exact g_iretX X hr (by decide +kernel) (by decide +kernel) dL_leaves_6 h

abbrev rm_L_isBuy : Room := { frames := 8, cells := 3, slots := 18, locals := 209 }
def wp_L_isBuy (r0 : Option Nat) (x1 : Int32) (x2 : Int32) (w : Wd) (Q : Int32 → Wd → Prop) : Prop :=
  ∃ a1, r0 = some a1 ∧ w.K a1 = 4 ∧
  wp_X3_buy a1 x1 x2 w (fun v3 w2 => 
  ((1 : Int32) = 0 ∨ (1 : Int32) = 1) ∧ Q (1 : Int32) w2) (fun E w4 => (E = "java/lang/IllegalStateException" ∧ ((0 : Int32) = 0 ∨ (0 : Int32) = 1) ∧ Q (0 : Int32) w4))
set_option maxHeartbeats 4000000 in
set_option maxRecDepth 100000 in
theorem c_L_isBuy {l : Launch} {G : GT} {L0 : Nat} (hst : l.stackTraces = false) {r0 : Option Nat} {x1 : Int32} {x2 : Int32} {w : Wd} {Q : Int32 → Wd → Prop} (h : wp_L_isBuy r0 x1 x2 w Q) : GHi l G L0 yL_isBuy cL_isBuy 4 (some .boolean) [(0, 7, 10, 14)] rm_L_isBuy [va_rf r0, .int x1, .int x2] w Q := by
  refine g_enterH hst (by decide +kernel) [.inr r0, .inl x1, .inl x2] rfl (show 3 ≤ 4 by decide) ?_
  intro p e s m args below meth c X hr htab
  replace X : GC l G L0 p s m args meth c cL_isBuy 4 "SusuRingLaw" := X
  refine g_aload_n X dL_isBuy_0 rfl 0 rfl ?_
  refine g_iload_n X dL_isBuy_1 rfl 1 rfl ?_
  refine g_iload_n X dL_isBuy_2 rfl 2 rfl ?_
  obtain ⟨a1, rfl, hk, h⟩ := h
  refine g_callYV_i X (As := [.int x1, .int x2]) (st := []) (n := 2) (c_X3_buy hst h) rfl (by decide) hk (wE_4 G w a1) m_659 m_660 m_661 m_15 m_662 (by decide +kernel) (by decide +kernel) rfl rfl (Nat.zero_le _) ⟨(by decide +kernel), (by decide +kernel)⟩ dL_isBuy_3 (fun E w4 hE H locs ls ce q9 hG hS hl hq hv hcl => ?_) (fun v3 w2 h => ?_)
  · clear h hk
    rcases hE with ⟨rfl, h⟩
    · refine g_catch X (E := "java/lang/IllegalStateException") [] ⟨0, 7, 10, 14⟩ [] (htab.trans rfl) (fun z hz => by simp at hz) (by decide) (by decide) m_485 (by decide +kernel) hG hS hl hq hv hcl ?_
      refine g_widen (c2 := (3)) (s2 := (18)) (by decide) (by decide) ?_
      refine g_astore_n X [(3, .inr (some q9)), (0, .inr (some a1)), (1, .inl x1), (2, .inl x2)] dL_isBuy_10 rfl (by decide) rfl ?_
      refine g_iconst X (v := (0 : Int32)) dL_isBuy_11 (by decide) ?_
      exact g_zretX X hr (by decide +kernel) (by decide +kernel) dL_isBuy_12 h.1 h.2
  clear hk
  refine g_widen (c2 := (3)) (s2 := (18)) (by decide) (by decide) ?_
  refine g_pop X dL_isBuy_6 rfl ?_
  refine g_goto X (tgt := 13) dL_isBuy_7 (by decide) ?_
  refine g_iconst X (v := (1 : Int32)) dL_isBuy_13 (by decide) ?_
  exact g_zretX X hr (by decide +kernel) (by decide +kernel) dL_isBuy_14 h.1 h.2

abbrev rm_L_isBorrow : Room := { frames := 8, cells := 7, slots := 42, locals := 236 }
def wp_L_isBorrow (r0 : Option Nat) (x1 : Int32) (x2 : Int32) (x3 : Int32) (x4 : Int32) (w : Wd) (Q : Int32 → Wd → Prop) : Prop :=
  ∃ a1, r0 = some a1 ∧ w.K a1 = 4 ∧
  wp_X3_borrow a1 x1 x2 x3 x4 w (fun v3 w2 => 
  ((1 : Int32) = 0 ∨ (1 : Int32) = 1) ∧ Q (1 : Int32) w2) (fun E w4 => (E = "java/lang/IllegalStateException" ∧ ((0 : Int32) = 0 ∨ (0 : Int32) = 1) ∧ Q (0 : Int32) w4))
set_option maxHeartbeats 4000000 in
set_option maxRecDepth 100000 in
theorem c_L_isBorrow {l : Launch} {G : GT} {L0 : Nat} (hst : l.stackTraces = false) {r0 : Option Nat} {x1 : Int32} {x2 : Int32} {x3 : Int32} {x4 : Int32} {w : Wd} {Q : Int32 → Wd → Prop} (h : wp_L_isBorrow r0 x1 x2 x3 x4 w Q) : GHi l G L0 yL_isBorrow cL_isBorrow 6 (some .boolean) [(0, 10, 13, 14)] rm_L_isBorrow [va_rf r0, .int x1, .int x2, .int x3, .int x4] w Q := by
  refine g_enterH hst (by decide +kernel) [.inr r0, .inl x1, .inl x2, .inl x3, .inl x4] rfl (show 5 ≤ 6 by decide) ?_
  intro p e s m args below meth c X hr htab
  replace X : GC l G L0 p s m args meth c cL_isBorrow 6 "SusuRingLaw" := X
  refine g_aload_n X dL_isBorrow_0 rfl 0 rfl ?_
  refine g_iload_n X dL_isBorrow_1 rfl 1 rfl ?_
  refine g_iload_n X dL_isBorrow_2 rfl 2 rfl ?_
  refine g_iload_n X dL_isBorrow_3 rfl 3 rfl ?_
  refine g_iload X dL_isBorrow_4 4 rfl ?_
  obtain ⟨a1, rfl, hk, h⟩ := h
  refine g_callYV_i X (As := [.int x1, .int x2, .int x3, .int x4]) (st := []) (n := 4) (c_X3_borrow hst h) rfl (by decide) hk (wE_4 G w a1) m_667 m_668 m_669 m_15 m_670 (by decide +kernel) (by decide +kernel) rfl rfl (Nat.zero_le _) ⟨(by decide +kernel), (by decide +kernel)⟩ dL_isBorrow_6 (fun E w4 hE H locs ls ce q9 hG hS hl hq hv hcl => ?_) (fun v3 w2 h => ?_)
  · clear h hk
    rcases hE with ⟨rfl, h⟩
    · refine g_catch X (E := "java/lang/IllegalStateException") [] ⟨0, 10, 13, 14⟩ [] (htab.trans rfl) (fun z hz => by simp at hz) (by decide) (by decide) m_485 (by decide +kernel) hG hS hl hq hv hcl ?_
      refine g_widen (c2 := (7)) (s2 := (42)) (by decide) (by decide) ?_
      refine g_astore X [(5, .inr (some q9)), (0, .inr (some a1)), (1, .inl x1), (2, .inl x2), (3, .inl x3), (4, .inl x4)] dL_isBorrow_13 (by decide) rfl ?_
      refine g_iconst X (v := (0 : Int32)) dL_isBorrow_15 (by decide) ?_
      exact g_zretX X hr (by decide +kernel) (by decide +kernel) dL_isBorrow_16 h.1 h.2
  clear hk
  refine g_widen (c2 := (7)) (s2 := (42)) (by decide) (by decide) ?_
  refine g_pop X dL_isBorrow_9 rfl ?_
  refine g_goto X (tgt := 17) dL_isBorrow_10 (by decide) ?_
  refine g_iconst X (v := (1 : Int32)) dL_isBorrow_17 (by decide) ?_
  exact g_zretX X hr (by decide +kernel) (by decide +kernel) dL_isBorrow_18 h.1 h.2

abbrev rm_L_isRepay : Room := { frames := 8, cells := 3, slots := 18, locals := 209 }
def wp_L_isRepay (r0 : Option Nat) (x1 : Int32) (x2 : Int32) (w : Wd) (Q : Int32 → Wd → Prop) : Prop :=
  ∃ a1, r0 = some a1 ∧ w.K a1 = 4 ∧
  wp_X3_repay a1 x1 x2 w (fun v3 w2 => 
  ((1 : Int32) = 0 ∨ (1 : Int32) = 1) ∧ Q (1 : Int32) w2) (fun E w4 => (E = "java/lang/IllegalStateException" ∧ ((0 : Int32) = 0 ∨ (0 : Int32) = 1) ∧ Q (0 : Int32) w4))
set_option maxHeartbeats 4000000 in
set_option maxRecDepth 100000 in
theorem c_L_isRepay {l : Launch} {G : GT} {L0 : Nat} (hst : l.stackTraces = false) {r0 : Option Nat} {x1 : Int32} {x2 : Int32} {w : Wd} {Q : Int32 → Wd → Prop} (h : wp_L_isRepay r0 x1 x2 w Q) : GHi l G L0 yL_isRepay cL_isRepay 4 (some .boolean) [(0, 7, 10, 14)] rm_L_isRepay [va_rf r0, .int x1, .int x2] w Q := by
  refine g_enterH hst (by decide +kernel) [.inr r0, .inl x1, .inl x2] rfl (show 3 ≤ 4 by decide) ?_
  intro p e s m args below meth c X hr htab
  replace X : GC l G L0 p s m args meth c cL_isRepay 4 "SusuRingLaw" := X
  refine g_aload_n X dL_isRepay_0 rfl 0 rfl ?_
  refine g_iload_n X dL_isRepay_1 rfl 1 rfl ?_
  refine g_iload_n X dL_isRepay_2 rfl 2 rfl ?_
  obtain ⟨a1, rfl, hk, h⟩ := h
  refine g_callYV_i X (As := [.int x1, .int x2]) (st := []) (n := 2) (c_X3_repay hst h) rfl (by decide) hk (wE_4 G w a1) m_694 m_695 m_696 m_15 m_697 (by decide +kernel) (by decide +kernel) rfl rfl (Nat.zero_le _) ⟨(by decide +kernel), (by decide +kernel)⟩ dL_isRepay_3 (fun E w4 hE H locs ls ce q9 hG hS hl hq hv hcl => ?_) (fun v3 w2 h => ?_)
  · clear h hk
    rcases hE with ⟨rfl, h⟩
    · refine g_catch X (E := "java/lang/IllegalStateException") [] ⟨0, 7, 10, 14⟩ [] (htab.trans rfl) (fun z hz => by simp at hz) (by decide) (by decide) m_485 (by decide +kernel) hG hS hl hq hv hcl ?_
      refine g_widen (c2 := (3)) (s2 := (18)) (by decide) (by decide) ?_
      refine g_astore_n X [(3, .inr (some q9)), (0, .inr (some a1)), (1, .inl x1), (2, .inl x2)] dL_isRepay_10 rfl (by decide) rfl ?_
      refine g_iconst X (v := (0 : Int32)) dL_isRepay_11 (by decide) ?_
      exact g_zretX X hr (by decide +kernel) (by decide +kernel) dL_isRepay_12 h.1 h.2
  clear hk
  refine g_widen (c2 := (3)) (s2 := (18)) (by decide) (by decide) ?_
  refine g_pop X dL_isRepay_6 rfl ?_
  refine g_goto X (tgt := 13) dL_isRepay_7 (by decide) ?_
  refine g_iconst X (v := (1 : Int32)) dL_isRepay_13 (by decide) ?_
  exact g_zretX X hr (by decide +kernel) (by decide +kernel) dL_isRepay_14 h.1 h.2

abbrev rm_L_feasts : Room := { frames := 7, cells := 1, slots := 6, locals := 189 }
def wp_L_feasts (r0 : Option Nat) (w : Wd) (Q : Int32 → Wd → Prop) : Prop :=
  ∃ a1, r0 = some a1 ∧ w.K a1 = 4 ∧
  wp_X3_feast a1 w (fun v3 w2 => 
  Q v3 w2) (fun E w4 => (E = "java/lang/IllegalStateException" ∧ Q (-1 : Int32) w4))
set_option maxHeartbeats 4000000 in
set_option maxRecDepth 100000 in
theorem c_L_feasts {l : Launch} {G : GT} {L0 : Nat} (hst : l.stackTraces = false) {r0 : Option Nat} {w : Wd} {Q : Int32 → Wd → Prop} (h : wp_L_feasts r0 w Q) : GHi l G L0 yL_feasts cL_feasts 2 (some .int) [(0, 4, 5, 14)] rm_L_feasts [va_rf r0] w Q := by
  refine g_enterH hst (by decide +kernel) [.inr r0] rfl (show 1 ≤ 2 by decide) ?_
  intro p e s m args below meth c X hr htab
  replace X : GC l G L0 p s m args meth c cL_feasts 2 "SusuRingLaw" := X
  refine g_aload_n X dL_feasts_0 rfl 0 rfl ?_
  obtain ⟨a1, rfl, hk, h⟩ := h
  refine g_callYV_i X (As := []) (st := []) (n := 0) (c_X3_feast hst h) rfl (by decide) hk (wE_4 G w a1) m_702 m_703 m_704 m_15 m_705 (by decide +kernel) (by decide +kernel) rfl rfl (Nat.zero_le _) ⟨(by decide +kernel), (by decide +kernel)⟩ dL_feasts_1 (fun E w4 hE H locs ls ce q9 hG hS hl hq hv hcl => ?_) (fun v3 w2 h => ?_)
  · clear h hk
    rcases hE with ⟨rfl, h⟩
    · refine g_catch X (E := "java/lang/IllegalStateException") [] ⟨0, 4, 5, 14⟩ [] (htab.trans rfl) (fun z hz => by simp at hz) (by decide) (by decide) m_485 (by decide +kernel) hG hS hl hq hv hcl ?_
      refine g_widen (c2 := (1)) (s2 := (6)) (by decide) (by decide) ?_
      refine g_astore_n X [(1, .inr (some q9)), (0, .inr (some a1))] dL_feasts_5 rfl (by decide) rfl ?_
      refine g_iconst X (v := (-1 : Int32)) dL_feasts_6 (by decide) ?_
      exact g_iretX X hr (by decide +kernel) (by decide +kernel) dL_feasts_7 h
  clear hk
  refine g_widen (c2 := (1)) (s2 := (6)) (by decide) (by decide) ?_
  exact g_iretX X hr (by decide +kernel) (by decide +kernel) dL_feasts_4 h

abbrev rm_L_house : Room := { frames := 8, cells := 68, slots := 408, locals := 211 }
def wp_L_house (r0 : Option Nat) (r1 : Option Nat) (x2 : Int32) (x3 : Int32) (w : Wd) (Q : Int32 → Wd → Prop) : Prop :=
  ∃ Inv2 : Nat → Int32 → Int32 → Wd → Prop, (∃ n : Nat, n ≤ 16 ∧ Inv2 n (0 : Int32) (0 : Int32) w) ∧ ∀ (n1 : Nat) (y3 : Int32) (y4 : Int32) (w5 : Wd), Inv2 n1 y3 y4 w5 →
  ((7 : Int32) ≤ y4 → Q y3 w5) ∧ (¬ (7 : Int32) ≤ y4 → ∃ Inv7 : Nat → Int32 → Int32 → Int32 → Prop, (∃ n : Nat, Inv7 n (0 : Int32) (1 : Int32) (0 : Int32)) ∧ ∀ (n6 : Nat) (y8 : Int32) (y9 : Int32) (y10 : Int32), Inv7 n6 y8 y9 y10 →
  ((5 : Int32) ≤ y10 → ∃ J11 : Int32 → Int32 → Wd → Prop, (∀ (y12 : Int32) (y13 : Int32) (w14 : Wd), J11 y12 y13 w14 →
  ∀ v15 : Int32, v15 = y12 + y13 →
  ∀ v16 : Int32, v16 = y4 + (1 : Int32) →
  ∃ n : Nat, n < n1 ∧ Inv2 n v15 v16 w14) ∧
  ∃ J17 : Int32 → Wd → Prop, (∀ (y18 : Int32) (w19 : Wd), J17 y18 w19 →
  J11 y18 (0 : Int32) w19) ∧
  ((2 : Int32) ≤ y8 → J17 y3 w5) ∧ (¬ (2 : Int32) ≤ y8 → ∃ a20, r0 = some a20 ∧ w5.K a20 = 4 ∧
  wp_X3_of a20 y4 (5 : Int32) w5 (fun v22 w21 => 
  (¬ v22 = (1 : Int32) → J17 y3 w21) ∧ (v22 = (1 : Int32) → (¬ x3 = (2 : Int32) → J11 y3 (1 : Int32) w21) ∧ (x3 = (2 : Int32) → w21.K a20 = 4 ∧
  wp_X3_of a20 y4 (2 : Int32) w21 (fun v24 w23 => 
  J11 y3 v24 w23) (fun _ _ => False)))) (fun _ _ => False))) ∧ (¬ (5 : Int32) ≤ y10 → ∃ a25, r1 = some a25 ∧ w5.K a25 = 11 ∧
  ∃ j26 : Nat, x2 = nI j26 ∧ j26 < w5.N a25 ∧ w5.N a25 < 2 ^ 31 ∧
  ∀ v27 : Int32, v27 = w5.A a25 j26 →
  ¬ y9 = 0 ∧ ∀ v28 : Int32, v28 = v27 / y9 →
  ¬ (10 : Int32) = 0 ∧ ∀ v29 : Int32, v29 = v28 - v28 / (10 : Int32) * (10 : Int32) →
  w5.K a25 = 11 ∧
  ∃ j30 : Nat, y4 = nI j30 ∧ j30 < w5.N a25 ∧ w5.N a25 < 2 ^ 31 ∧
  ∀ v31 : Int32, v31 = w5.A a25 j30 →
  ¬ y9 = 0 ∧ ∀ v32 : Int32, v32 = v31 / y9 →
  ¬ (10 : Int32) = 0 ∧ ∀ v33 : Int32, v33 = v32 - v32 / (10 : Int32) * (10 : Int32) →
  ∃ J34 : Int32 → Int32 → Prop, (∀ (y35 : Int32) (y36 : Int32), J34 y35 y36 →
  ∀ v37 : Int32, v37 = y35 + y36 →
  ∀ v38 : Int32, v38 = y9 * (10 : Int32) →
  ∀ v39 : Int32, v39 = y10 + (1 : Int32) →
  ∃ n : Nat, n < n6 ∧ Inv7 n v37 v38 v39) ∧
  (¬ v29 = v33 → J34 y8 (1 : Int32)) ∧ (v29 = v33 → J34 y8 (0 : Int32))))
set_option maxHeartbeats 4000000 in
set_option maxRecDepth 100000 in
theorem c_L_house {l : Launch} {G : GT} {L0 : Nat} (hst : l.stackTraces = false) {r0 : Option Nat} {r1 : Option Nat} {x2 : Int32} {x3 : Int32} {w : Wd} {Q : Int32 → Wd → Prop} (h : wp_L_house r0 r1 x2 x3 w Q) : GMi l G L0 yL_house cL_house 9 (some .int) rm_L_house [va_rf r0, va_rf r1, .int x2, .int x3] w Q := by
  refine g_enter hst (by decide +kernel) [.inr r0, .inr r1, .inl x2, .inl x3] rfl (show 4 ≤ 9 by decide) ?_
  intro p e s m args below meth c X hr hnm
  replace X : GC l G L0 p s m args meth c cL_house 9 "SusuRingLaw" := X
  refine g_iconst X (v := (0 : Int32)) dL_house_0 (by decide) ?_
  refine g_istore X [(4, .inl (0 : Int32)), (0, .inr r0), (1, .inr r1), (2, .inl x2), (3, .inl x3)] dL_house_1 (by decide) rfl ?_
  refine g_iconst X (v := (0 : Int32)) dL_house_3 (by decide) ?_
  refine g_istore X [(5, .inl (0 : Int32)), (4, .inl (0 : Int32)), (0, .inr r0), (1, .inr r1), (2, .inl x2), (3, .inl x3)] dL_house_4 (by decide) rfl ?_
  obtain ⟨Inv2, ⟨n0, hn0, hi⟩, hsn1⟩ := h
  have lp2 : ∀ (n1 : Nat), n1 ≤ 16 → ∀ (y3 : Int32) (y4 : Int32) (w5 : Wd), Inv2 n1 y3 y4 w5 → Gw l G L0 p e rm_L_house s m args below meth c 9 (0 + (16 - n1) * 4 + 0) (0 + (16 - n1) * 24 + 0) (MQ below (gQi G L0 Q) args s rm_L_house.cells rm_L_house.slots (GA L0)) w5 6 [(0, .inr r0), (1, .inr r1), (2, .inl x2), (3, .inl x3), (4, .inl y3), (5, .inl y4)] [] := by
    intro n1
    induction n1 using Nat.strongRecOn with
    | ind n1 ihn1 =>
      intro hnbn1 y3 y4 w5 hI
      have h := hsn1 n1 y3 y4 w5 hI
      clear hI
      refine g_iload X dL_house_6 5 rfl ?_
      refine g_bipush X (v := (7 : Int32)) dL_house_8 (by decide) ?_
      refine g_icmp_ge X (tgt := 121) dL_house_10 (by decide) (fun hc => ?_) (fun hc => ?_)
      · replace h := h.1 hc; clear hc
        refine g_iload X dL_house_121 4 rfl ?_
        exact g_iret X hr (by have e1 : rm_L_house.cells = 68 := rfl; have e2 : rm_L_house.slots = 408 := rfl; omega) (by have e1 : rm_L_house.cells = 68 := rfl; have e2 : rm_L_house.slots = 408 := rfl; omega) dL_house_123 h
      · replace h := h.2 hc; clear hc
        refine g_iconst X (v := (0 : Int32)) dL_house_13 (by decide) ?_
        refine g_istore X [(6, .inl (0 : Int32)), (0, .inr r0), (1, .inr r1), (2, .inl x2), (3, .inl x3), (4, .inl y3), (5, .inl y4)] dL_house_14 (by decide) rfl ?_
        refine g_iconst X (v := (1 : Int32)) dL_house_16 (by decide) ?_
        refine g_istore X [(7, .inl (1 : Int32)), (6, .inl (0 : Int32)), (0, .inr r0), (1, .inr r1), (2, .inl x2), (3, .inl x3), (4, .inl y3), (5, .inl y4)] dL_house_17 (by decide) rfl ?_
        refine g_iconst X (v := (0 : Int32)) dL_house_19 (by decide) ?_
        refine g_istore X [(8, .inl (0 : Int32)), (7, .inl (1 : Int32)), (6, .inl (0 : Int32)), (0, .inr r0), (1, .inr r1), (2, .inl x2), (3, .inl x3), (4, .inl y3), (5, .inl y4)] dL_house_20 (by decide) rfl ?_
        obtain ⟨Inv7, ⟨n0, hi⟩, hsn6⟩ := h
        have lp7 : ∀ (n6 : Nat), ∀ (y8 : Int32) (y9 : Int32) (y10 : Int32), Inv7 n6 y8 y9 y10 → Gw l G L0 p e rm_L_house s m args below meth c 9 (0 + (16 - n1) * 4 + 0) (0 + (16 - n1) * 24 + 0) (MQ below (gQi G L0 Q) args s rm_L_house.cells rm_L_house.slots (GA L0)) w5 22 [(0, .inr r0), (1, .inr r1), (2, .inl x2), (3, .inl x3), (4, .inl y3), (5, .inl y4), (6, .inl y8), (7, .inl y9), (8, .inl y10)] [] := by
          intro n6
          induction n6 using Nat.strongRecOn with
          | ind n6 ihn6 =>
            intro y8 y9 y10 hI
            have h := hsn6 n6 y8 y9 y10 hI
            clear hI
            refine g_iload X dL_house_22 8 rfl ?_
            refine g_iconst X (v := (5 : Int32)) dL_house_24 (by decide) ?_
            refine g_icmp_ge X (tgt := 73) dL_house_25 (by decide) (fun hc => ?_) (fun hc => ?_)
            · replace h := h.1 hc; clear hc
              refine g_iload X dL_house_73 4 rfl ?_
              refine g_iload X dL_house_75 6 rfl ?_
              refine g_iconst X (v := (2 : Int32)) dL_house_77 (by decide) ?_
              obtain ⟨J11, hjJ11, h⟩ := h
              have jp11 : ∀ (y12 : Int32) (y13 : Int32) (w14 : Wd), J11 y12 y13 w14 → Gw l G L0 p e rm_L_house s m args below meth c 9 (0 + (16 - n1) * 4 + 4) (0 + (16 - n1) * 24 + 24) (MQ below (gQi G L0 Q) args s rm_L_house.cells rm_L_house.slots (GA L0)) w14 112 [(0, .inr r0), (1, .inr r1), (2, .inl x2), (3, .inl x3), (5, .inl y4)] [.int y13, .int y12] := by
                intro y12 y13 w14 hJ
                have h := hjJ11 y12 y13 w14 hJ
                clear hJ
                refine g_iadd X dL_house_112 (fun v15 hv => ?_)
                replace h := h v15 hv; clear hv
                refine g_istore X [(4, .inl v15), (0, .inr r0), (1, .inr r1), (2, .inl x2), (3, .inl x3), (5, .inl y4)] dL_house_113 (by decide) rfl ?_
                refine g_iinc X dL_house_115 5 rfl (d := (1 : Int32)) (by decide) (by decide) (fun v16 hv => ?_)
                replace h := h v16 hv; clear hv
                refine g_sub [0, 1, 2, 3, 4, 5] [(5, .inl v16), (4, .inl v15), (0, .inr r0), (1, .inr r1), (2, .inl x2), (3, .inl x3)] rfl ?_
                refine g_goto X (tgt := 6) dL_house_118 (by decide) ?_
                obtain ⟨n, hn, hI⟩ := h
                refine g_widen (c2 := (0 + (16 - n) * 4 + 0)) (s2 := (0 + (16 - n) * 24 + 0)) (by omega) (by omega) ?_
                exact g_sub [2, 3, 4, 5, 1, 0] [(0, .inr r0), (1, .inr r1), (2, .inl x2), (3, .inl x3), (4, .inl v15), (5, .inl v16)] rfl (ihn1 n hn (by omega) v15 v16 w14 hI)
              obtain ⟨J17, hjJ17, h⟩ := h
              have jp17 : ∀ (y18 : Int32) (w19 : Wd), J17 y18 w19 → Gw l G L0 p e rm_L_house s m args below meth c 9 (0 + (16 - n1) * 4 + 2) (0 + (16 - n1) * 24 + 12) (MQ below (gQi G L0 Q) args s rm_L_house.cells rm_L_house.slots (GA L0)) w19 111 [(0, .inr r0), (1, .inr r1), (2, .inl x2), (3, .inl x3), (5, .inl y4)] [.int y18] := by
                intro y18 w19 hJ
                have h := hjJ17 y18 w19 hJ
                clear hJ
                refine g_iconst X (v := (0 : Int32)) dL_house_111 (by decide) ?_
                refine g_widen (c2 := (0 + (16 - n1) * 4 + 4)) (s2 := (0 + (16 - n1) * 24 + 24)) (by omega) (by omega) ?_
                exact g_sub [0, 1, 2, 3, 4] [(0, .inr r0), (1, .inr r1), (2, .inl x2), (3, .inl x3), (5, .inl y4)] rfl (jp11 y18 (0 : Int32) w19 h)
              refine g_icmp_ge X (tgt := 111) dL_house_78 (by decide) (fun hc => ?_) (fun hc => ?_)
              · replace h := h.1 hc; clear hc
                refine g_widen (c2 := (0 + (16 - n1) * 4 + 2)) (s2 := (0 + (16 - n1) * 24 + 12)) (by omega) (by omega) ?_
                exact g_sub [0, 1, 2, 3, 5] [(0, .inr r0), (1, .inr r1), (2, .inl x2), (3, .inl x3), (5, .inl y4)] rfl (jp17 y3 w5 h)
              · replace h := h.2 hc; clear hc
                refine g_aload_n X dL_house_81 rfl 0 rfl ?_
                refine g_iload X dL_house_82 5 rfl ?_
                refine g_iconst X (v := (5 : Int32)) dL_house_84 (by decide) ?_
                obtain ⟨a20, rfl, hk, h⟩ := h
                refine g_callFV_i X (As := [.int y4, .int (5 : Int32)]) (st := [.int y3]) (n := 2) (c_X3_of hst h) rfl (by decide) hk (wE_4 G w5 a20) m_410 m_411 m_412 m_15 m_413 (by decide +kernel) (by decide +kernel) rfl rfl (by simp [cat_int, rf_cat]) ⟨(by have e1 : rm_L_house.cells = 68 := rfl; have e2 : rm_L_house.slots = 408 := rfl; have e3 : rm_X3_of.cells = 2 := rfl; have e4 : rm_X3_of.slots = 12 := rfl; omega), (by have e1 : rm_L_house.cells = 68 := rfl; have e2 : rm_L_house.slots = 408 := rfl; have e3 : rm_X3_of.cells = 2 := rfl; have e4 : rm_X3_of.slots = 12 := rfl; omega)⟩ dL_house_85 (fun v22 w21 h => ?_)
                clear hk
                refine g_widen (c2 := (0 + (16 - n1) * 4 + 2)) (s2 := (0 + (16 - n1) * 24 + 12)) (by have e1 : rm_X3_of.cells = 2 := rfl; omega) (by have e1 : rm_X3_of.slots = 12 := rfl; omega) ?_
                refine g_iconst X (v := (1 : Int32)) dL_house_88 (by decide) ?_
                refine g_icmp_ne X (tgt := 111) dL_house_89 (by decide) (fun hc => ?_) (fun hc => ?_)
                · replace h := h.1 hc; clear hc
                  exact g_sub [0, 1, 2, 3, 5] [(0, .inr (some a20)), (1, .inr r1), (2, .inl x2), (3, .inl x3), (5, .inl y4)] rfl (jp17 y3 w21 h)
                · replace h := h.2 hc; clear hc
                  refine g_iload_n X dL_house_92 rfl 3 rfl ?_
                  refine g_iconst X (v := (2 : Int32)) dL_house_93 (by decide) ?_
                  refine g_icmp_ne X (tgt := 107) dL_house_94 (by decide) (fun hc => ?_) (fun hc => ?_)
                  · replace h := h.1 hc; clear hc
                    refine g_iconst X (v := (1 : Int32)) dL_house_107 (by decide) ?_
                    refine g_goto X (tgt := 112) dL_house_108 (by decide) ?_
                    refine g_widen (c2 := (0 + (16 - n1) * 4 + 4)) (s2 := (0 + (16 - n1) * 24 + 24)) (by omega) (by omega) ?_
                    exact g_sub [0, 1, 2, 3, 5] [(0, .inr (some a20)), (1, .inr r1), (2, .inl x2), (3, .inl x3), (5, .inl y4)] rfl (jp11 y3 (1 : Int32) w21 h)
                  · replace h := h.2 hc; clear hc
                    refine g_aload_n X dL_house_97 rfl 0 rfl ?_
                    refine g_iload X dL_house_98 5 rfl ?_
                    refine g_iconst X (v := (2 : Int32)) dL_house_100 (by decide) ?_
                    have hk := h.1
                    replace h := h.2
                    refine g_callFV_i X (As := [.int y4, .int (2 : Int32)]) (st := [.int y3]) (n := 2) (c_X3_of hst h) rfl (by decide) hk (wE_4 G w21 a20) m_410 m_411 m_412 m_15 m_413 (by decide +kernel) (by decide +kernel) rfl rfl (by simp [cat_int, rf_cat]) ⟨(by have e1 : rm_L_house.cells = 68 := rfl; have e2 : rm_L_house.slots = 408 := rfl; have e3 : rm_X3_of.cells = 2 := rfl; have e4 : rm_X3_of.slots = 12 := rfl; omega), (by have e1 : rm_L_house.cells = 68 := rfl; have e2 : rm_L_house.slots = 408 := rfl; have e3 : rm_X3_of.cells = 2 := rfl; have e4 : rm_X3_of.slots = 12 := rfl; omega)⟩ dL_house_101 (fun v24 w23 h => ?_)
                    clear hk
                    refine g_widen (c2 := (0 + (16 - n1) * 4 + 4)) (s2 := (0 + (16 - n1) * 24 + 24)) (by have e1 : rm_X3_of.cells = 2 := rfl; omega) (by have e1 : rm_X3_of.slots = 12 := rfl; omega) ?_
                    refine g_goto X (tgt := 112) dL_house_104 (by decide) ?_
                    exact g_sub [0, 1, 2, 3, 5] [(0, .inr (some a20)), (1, .inr r1), (2, .inl x2), (3, .inl x3), (5, .inl y4)] rfl (jp11 y3 v24 w23 h)
            · replace h := h.2 hc; clear hc
              refine g_iload X dL_house_28 6 rfl ?_
              refine g_aload_n X dL_house_30 rfl 1 rfl ?_
              refine g_iload_n X dL_house_31 rfl 2 rfl ?_
              obtain ⟨a25, rfl, hk, h⟩ := h
              obtain ⟨j26, hi, hj, hN, h⟩ := h
              refine g_iald X hk hi hj hN dL_house_32 (fun v27 hv => ?_)
              replace h := h v27 hv; clear hv hk hi hj hN
              refine g_iload X dL_house_33 7 rfl ?_
              refine g_idiv X dL_house_35 h.1 (fun v28 hv => ?_)
              replace h := h.2 v28 hv; clear hv
              refine g_bipush X (v := (10 : Int32)) dL_house_36 (by decide) ?_
              refine g_irem X dL_house_38 h.1 (fun v29 hv => ?_)
              replace h := h.2 v29 hv; clear hv
              refine g_aload_n X dL_house_39 rfl 1 rfl ?_
              refine g_iload X dL_house_40 5 rfl ?_
              have hk := h.1
              replace h := h.2
              obtain ⟨j30, hi, hj, hN, h⟩ := h
              refine g_iald X hk hi hj hN dL_house_42 (fun v31 hv => ?_)
              replace h := h v31 hv; clear hv hk hi hj hN
              refine g_iload X dL_house_43 7 rfl ?_
              refine g_idiv X dL_house_45 h.1 (fun v32 hv => ?_)
              replace h := h.2 v32 hv; clear hv
              refine g_bipush X (v := (10 : Int32)) dL_house_46 (by decide) ?_
              refine g_irem X dL_house_48 h.1 (fun v33 hv => ?_)
              replace h := h.2 v33 hv; clear hv
              obtain ⟨J34, hjJ34, h⟩ := h
              have jp34 : ∀ (y35 : Int32) (y36 : Int32), J34 y35 y36 → Gw l G L0 p e rm_L_house s m args below meth c 9 (0 + (16 - n1) * 4 + 0) (0 + (16 - n1) * 24 + 0) (MQ below (gQi G L0 Q) args s rm_L_house.cells rm_L_house.slots (GA L0)) w5 57 [(0, .inr r0), (1, .inr (some a25)), (2, .inl x2), (3, .inl x3), (4, .inl y3), (5, .inl y4), (7, .inl y9), (8, .inl y10)] [.int y36, .int y35] := by
                intro y35 y36 hJ
                have h := hjJ34 y35 y36 hJ
                clear hJ
                refine g_iadd X dL_house_57 (fun v37 hv => ?_)
                replace h := h v37 hv; clear hv
                refine g_istore X [(6, .inl v37), (0, .inr r0), (1, .inr (some a25)), (2, .inl x2), (3, .inl x3), (4, .inl y3), (5, .inl y4), (7, .inl y9), (8, .inl y10)] dL_house_58 (by decide) rfl ?_
                refine g_iload X dL_house_60 7 rfl ?_
                refine g_bipush X (v := (10 : Int32)) dL_house_62 (by decide) ?_
                refine g_imul X dL_house_64 (fun v38 hv => ?_)
                replace h := h v38 hv; clear hv
                refine g_istore X [(7, .inl v38), (6, .inl v37), (0, .inr r0), (1, .inr (some a25)), (2, .inl x2), (3, .inl x3), (4, .inl y3), (5, .inl y4), (8, .inl y10)] dL_house_65 (by decide) rfl ?_
                refine g_iinc X dL_house_67 8 rfl (d := (1 : Int32)) (by decide) (by decide) (fun v39 hv => ?_)
                replace h := h v39 hv; clear hv
                refine g_sub [0, 1, 2, 3, 4, 5, 6, 7, 8] [(8, .inl v39), (7, .inl v38), (6, .inl v37), (0, .inr r0), (1, .inr (some a25)), (2, .inl x2), (3, .inl x3), (4, .inl y3), (5, .inl y4)] rfl ?_
                refine g_goto X (tgt := 22) dL_house_70 (by decide) ?_
                obtain ⟨n, hn, hI⟩ := h
                exact g_sub [3, 4, 5, 6, 7, 8, 2, 1, 0] [(0, .inr r0), (1, .inr (some a25)), (2, .inl x2), (3, .inl x3), (4, .inl y3), (5, .inl y4), (6, .inl v37), (7, .inl v38), (8, .inl v39)] rfl (ihn6 n hn v37 v38 v39 hI)
              refine g_icmp_ne X (tgt := 56) dL_house_49 (by decide) (fun hc => ?_) (fun hc => ?_)
              · replace h := h.1 hc; clear hc
                refine g_iconst X (v := (1 : Int32)) dL_house_56 (by decide) ?_
                exact g_sub [0, 1, 2, 3, 4, 5, 7, 8] [(0, .inr r0), (1, .inr (some a25)), (2, .inl x2), (3, .inl x3), (4, .inl y3), (5, .inl y4), (7, .inl y9), (8, .inl y10)] rfl (jp34 y8 (1 : Int32) h)
              · replace h := h.2 hc; clear hc
                refine g_iconst X (v := (0 : Int32)) dL_house_52 (by decide) ?_
                refine g_goto X (tgt := 57) dL_house_53 (by decide) ?_
                exact g_sub [0, 1, 2, 3, 4, 5, 7, 8] [(0, .inr r0), (1, .inr (some a25)), (2, .inl x2), (3, .inl x3), (4, .inl y3), (5, .inl y4), (7, .inl y9), (8, .inl y10)] rfl (jp34 y8 (0 : Int32) h)
        exact g_sub [3, 4, 5, 6, 7, 8, 2, 1, 0] [(0, .inr r0), (1, .inr r1), (2, .inl x2), (3, .inl x3), (4, .inl y3), (5, .inl y4), (6, .inl (0 : Int32)), (7, .inl (1 : Int32)), (8, .inl (0 : Int32))] rfl (lp7 n0 (0 : Int32) (1 : Int32) (0 : Int32) hi)
  refine g_widen (c2 := (0 + (16 - n0) * 4 + 0)) (s2 := (0 + (16 - n0) * 24 + 0)) (by omega) (by omega) ?_
  exact g_sub [2, 3, 4, 5, 1, 0] [(0, .inr r0), (1, .inr r1), (2, .inl x2), (3, .inl x3), (4, .inl (0 : Int32)), (5, .inl (0 : Int32))] rfl (lp2 n0 hn0 (0 : Int32) (0 : Int32) w hi)

abbrev rm_L_isWell : Room := { frames := 8, cells := 246, slots := 1476, locals := 234 }
def wp_L_isWell (r0 : Option Nat) (x1 : Int32) (w : Wd) (Q : Int32 → Wd → Prop) : Prop :=
  ∃ a1, r0 = some a1 ∧ w.K a1 = 4 ∧
  wp_X3_ofCircle a1 x1 (1 : Int32) w (fun v3 w2 => 
  w2.K a1 = 4 ∧
  wp_X3_ofCircle a1 x1 (0 : Int32) w2 (fun v5 w4 => 
  ∃ J6 : Int32 → Prop, (∀ (y7 : Int32), J6 y7 →
  ∃ Inv9 : Nat → Int32 → Int32 → Int32 → Int32 → Wd → Prop, (∃ n : Nat, n ≤ 16 ∧ Inv9 n (0 : Int32) (0 : Int32) y7 (0 : Int32) w4) ∧ ∀ (n8 : Nat) (y10 : Int32) (y11 : Int32) (y12 : Int32) (y13 : Int32) (w14 : Wd), Inv9 n8 y10 y11 y12 y13 w14 →
  ((7 : Int32) ≤ y13 → ∃ J15 : Int32 → Wd → Prop, (∀ (y16 : Int32) (w17 : Wd), J15 y16 w17 →
  (y16 = 0 ∨ y16 = 1) ∧ Q y16 w17) ∧
  ∃ J18 : Wd → Prop, (∀  (w19 : Wd), J18 w19 →
  J15 (0 : Int32) w19) ∧
  (y12 = 0 → J18 w14) ∧ (¬ y12 = 0 → ∀ v20 : Int32, v20 = (1 : Int32) <<< (v3 &&& 31) →
  ∀ v21 : Int32, v21 = v20 - (1 : Int32) →
  (¬ y10 = v21 → J18 w14) ∧ (y10 = v21 → ∃ J22 : Prop, (J22 →
  w14.K a1 = 4 ∧
  wp_X3_ofCircle a1 x1 (3 : Int32) w14 (fun v24 w23 => 
  w23.K a1 = 4 ∧
  wp_X3_ofCircle a1 x1 (2 : Int32) w23 (fun v26 w25 => 
  (v26 < v24 → J18 w25) ∧ (¬ v26 < v24 → J15 (1 : Int32) w25)) (fun _ _ => False)) (fun _ _ => False)) ∧
  (¬ v3 = 0 → (v3 ≤ y11 → J18 w14) ∧ (¬ v3 ≤ y11 → J22)) ∧ (v3 = 0 → (¬ y11 = 0 → J18 w14) ∧ (y11 = 0 → J22))))) ∧ (¬ (7 : Int32) ≤ y13 → w14.K a1 = 4 ∧
  wp_X3_member a1 x1 y13 (3 : Int32) w14 (fun v28 w27 => 
  ∃ J29 : Int32 → Wd → Prop, (∀ (y30 : Int32) (w31 : Wd), J29 y30 w31 →
  ∃ J32 : Int32 → Int32 → Prop, (∀ (y33 : Int32) (y34 : Int32), J32 y33 y34 →
  ∀ v35 : Int32, v35 = y33 ||| y34 →
  ∃ J36 : Int32 → Int32 → Wd → Prop, (∀ (y37 : Int32) (y38 : Int32) (w39 : Wd), J36 y37 y38 w39 →
  ∀ v40 : Int32, v40 = y37 + y38 →
  ∀ v41 : Int32, v41 = y13 + (1 : Int32) →
  ∃ n : Nat, n < n8 ∧ Inv9 n v35 v40 y30 v41 w39) ∧
  (v28 < 0 → J36 y11 (0 : Int32) w31) ∧ (¬ v28 < 0 → w31.K a1 = 4 ∧
  wp_X3_member a1 x1 y13 (1 : Int32) w31 (fun v43 w42 => 
  J36 y11 v43 w42) (fun _ _ => False))) ∧
  (0 ≤ v28 → ∀ v44 : Int32, v44 = (1 : Int32) <<< (v28 &&& 31) →
  J32 y10 v44) ∧ (¬ 0 ≤ v28 → J32 y10 (0 : Int32))) ∧
  ∃ J45 : Wd → Prop, (∀  (w46 : Wd), J45 w46 →
  J29 (0 : Int32) w46) ∧
  (y12 = 0 → J45 w27) ∧ (¬ y12 = 0 → (v3 ≤ v28 → J45 w27) ∧ (¬ v3 ≤ v28 → ∃ J47 : Wd → Prop, (∀  (w48 : Wd), J47 w48 →
  J29 (1 : Int32) w48) ∧
  (v28 < 0 → J47 w27) ∧ (¬ v28 < 0 → ∀ v49 : Int32, v49 = y10 >>> (v28 &&& 31) →
  ∀ v50 : Int32, v50 = v49 &&& (1 : Int32) →
  (¬ v50 = 0 → J45 w27) ∧ (v50 = 0 → w27.K a1 = 4 ∧
  wp_X3_of a1 y13 (5 : Int32) w27 (fun v52 w51 => 
  (¬ v52 = (1 : Int32) → J45 w51) ∧ (v52 = (1 : Int32) → w51.K a1 = 4 ∧
  wp_X3_member a1 x1 y13 (0 : Int32) w51 (fun v54 w53 => 
  (v54 < 0 → J45 w53) ∧ (¬ v54 < 0 → w53.K a1 = 4 ∧
  wp_X3_member a1 x1 y13 (2 : Int32) w53 (fun v56 w55 => 
  (v56 < 0 → J45 w55) ∧ (¬ v56 < 0 → J47 w55)) (fun _ _ => False))) (fun _ _ => False))) (fun _ _ => False)))))) (fun _ _ => False))) ∧
  (v5 < 0 → J6 (0 : Int32)) ∧ (¬ v5 < 0 → J6 (1 : Int32))) (fun _ _ => False)) (fun _ _ => False)
set_option maxHeartbeats 4000000 in
set_option maxRecDepth 100000 in
theorem c_L_isWell {l : Launch} {G : GT} {L0 : Nat} (hst : l.stackTraces = false) {r0 : Option Nat} {x1 : Int32} {w : Wd} {Q : Int32 → Wd → Prop} (h : wp_L_isWell r0 x1 w Q) : GMi l G L0 yL_isWell cL_isWell 8 (some .boolean) rm_L_isWell [va_rf r0, .int x1] w Q := by
  refine g_enter hst (by decide +kernel) [.inr r0, .inl x1] rfl (show 2 ≤ 8 by decide) ?_
  intro p e s m args below meth c X hr hnm
  replace X : GC l G L0 p s m args meth c cL_isWell 8 "SusuRingLaw" := X
  refine g_aload_n X dL_isWell_0 rfl 0 rfl ?_
  refine g_iload_n X dL_isWell_1 rfl 1 rfl ?_
  refine g_iconst X (v := (1 : Int32)) dL_isWell_2 (by decide) ?_
  obtain ⟨a1, rfl, hk, h⟩ := h
  refine g_callFV_i X (As := [.int x1, .int (1 : Int32)]) (st := []) (n := 2) (c_X3_ofCircle hst h) rfl (by decide) hk (wE_4 G w a1) m_443 m_444 m_445 m_15 m_446 (by decide +kernel) (by decide +kernel) rfl rfl (Nat.zero_le _) ⟨(by decide +kernel), (by decide +kernel)⟩ dL_isWell_3 (fun v3 w2 h => ?_)
  clear hk
  refine g_widen (c2 := (2)) (s2 := (12)) (by decide +kernel) (by decide +kernel) ?_
  refine g_istore_n X [(2, .inl v3), (0, .inr (some a1)), (1, .inl x1)] dL_isWell_6 rfl (by decide) rfl ?_
  refine g_iconst X (v := (0 : Int32)) dL_isWell_7 (by decide) ?_
  refine g_istore_n X [(3, .inl (0 : Int32)), (2, .inl v3), (0, .inr (some a1)), (1, .inl x1)] dL_isWell_8 rfl (by decide) rfl ?_
  refine g_iconst X (v := (0 : Int32)) dL_isWell_9 (by decide) ?_
  refine g_istore X [(4, .inl (0 : Int32)), (3, .inl (0 : Int32)), (2, .inl v3), (0, .inr (some a1)), (1, .inl x1)] dL_isWell_10 (by decide) rfl ?_
  refine g_aload_n X dL_isWell_12 rfl 3 rfl ?_
  refine g_iload_n X dL_isWell_13 rfl 4 rfl ?_
  refine g_iconst X (v := (0 : Int32)) dL_isWell_14 (by decide) ?_
  have hk := h.1
  replace h := h.2
  refine g_callFV_i X (As := [.int x1, .int (0 : Int32)]) (st := []) (n := 2) (c_X3_ofCircle hst h) rfl (by decide) hk (wE_4 G w2 a1) m_443 m_444 m_445 m_15 m_446 (by decide +kernel) (by decide +kernel) rfl rfl (Nat.zero_le _) ⟨(by decide +kernel), (by decide +kernel)⟩ dL_isWell_15 (fun v5 w4 h => ?_)
  clear hk
  refine g_widen (c2 := (4)) (s2 := (24)) (by decide +kernel) (by decide +kernel) ?_
  obtain ⟨J6, hjJ6, h⟩ := h
  have jp6 : ∀ (y7 : Int32), J6 y7 → Gw l G L0 p e rm_L_isWell s m args below meth c 8 (4) (24) (MQ below (gQi G L0 Q) args s rm_L_isWell.cells rm_L_isWell.slots (GA L0)) w4 26 [(0, .inr (some a1)), (1, .inl x1), (2, .inl v3), (3, .inl (0 : Int32)), (4, .inl (0 : Int32))] [.int y7] := by
    intro y7 hJ
    have h := hjJ6 y7 hJ
    clear hJ
    refine g_istore X [(5, .inl y7), (0, .inr (some a1)), (1, .inl x1), (2, .inl v3), (3, .inl (0 : Int32)), (4, .inl (0 : Int32))] dL_isWell_26 (by decide) rfl ?_
    refine g_iconst X (v := (0 : Int32)) dL_isWell_28 (by decide) ?_
    refine g_istore X [(6, .inl (0 : Int32)), (5, .inl y7), (0, .inr (some a1)), (1, .inl x1), (2, .inl v3), (3, .inl (0 : Int32)), (4, .inl (0 : Int32))] dL_isWell_29 (by decide) rfl ?_
    obtain ⟨Inv9, ⟨n0, hn0, hi⟩, hsn8⟩ := h
    have lp9 : ∀ (n8 : Nat), n8 ≤ 16 → ∀ (y10 : Int32) (y11 : Int32) (y12 : Int32) (y13 : Int32) (w14 : Wd), Inv9 n8 y10 y11 y12 y13 w14 → Gw l G L0 p e rm_L_isWell s m args below meth c 8 (4 + (16 - n8) * 14 + 0) (24 + (16 - n8) * 84 + 0) (MQ below (gQi G L0 Q) args s rm_L_isWell.cells rm_L_isWell.slots (GA L0)) w14 31 [(0, .inr (some a1)), (1, .inl x1), (2, .inl v3), (3, .inl y10), (4, .inl y11), (5, .inl y12), (6, .inl y13)] [] := by
      intro n8
      induction n8 using Nat.strongRecOn with
      | ind n8 ihn8 =>
        intro hnbn8 y10 y11 y12 y13 w14 hI
        have h := hsn8 n8 y10 y11 y12 y13 w14 hI
        clear hI
        refine g_iload X dL_isWell_31 6 rfl ?_
        refine g_bipush X (v := (7 : Int32)) dL_isWell_33 (by decide) ?_
        refine g_icmp_ge X (tgt := 157) dL_isWell_35 (by decide) (fun hc => ?_) (fun hc => ?_)
        · replace h := h.1 hc; clear hc
          refine g_iload X dL_isWell_157 5 rfl ?_
          obtain ⟨J15, hjJ15, h⟩ := h
          have jp15 : ∀ (y16 : Int32) (w17 : Wd), J15 y16 w17 → Gw l G L0 p e rm_L_isWell s m args below meth c 8 (4 + (16 - n8) * 14 + 4) (24 + (16 - n8) * 84 + 24) (MQ below (gQi G L0 Q) args s rm_L_isWell.cells rm_L_isWell.slots (GA L0)) w17 209 [] [.int y16] := by
            intro y16 w17 hJ
            have h := hjJ15 y16 w17 hJ
            clear hJ
            exact g_zret X hr (by have e1 : rm_L_isWell.cells = 246 := rfl; have e2 : rm_L_isWell.slots = 1476 := rfl; omega) (by have e1 : rm_L_isWell.cells = 246 := rfl; have e2 : rm_L_isWell.slots = 1476 := rfl; omega) dL_isWell_209 h.1 h.2
          obtain ⟨J18, hjJ18, h⟩ := h
          have jp18 : ∀  (w19 : Wd), J18 w19 → Gw l G L0 p e rm_L_isWell s m args below meth c 8 (4 + (16 - n8) * 14 + 4) (24 + (16 - n8) * 84 + 24) (MQ below (gQi G L0 Q) args s rm_L_isWell.cells rm_L_isWell.slots (GA L0)) w19 208 [] [] := by
            intro w19 hJ
            have h := hjJ18 w19 hJ
            clear hJ
            refine g_iconst X (v := (0 : Int32)) dL_isWell_208 (by decide) ?_
            exact g_sub [] [] rfl (jp15 (0 : Int32) w19 h)
          refine g_if_eq X (tgt := 208) dL_isWell_159 (by decide) (fun hc => ?_) (fun hc => ?_)
          · replace h := h.1 hc; clear hc
            refine g_widen (c2 := (4 + (16 - n8) * 14 + 4)) (s2 := (24 + (16 - n8) * 84 + 24)) (by omega) (by omega) ?_
            exact g_sub [] [] rfl (jp18 w14 h)
          · replace h := h.2 hc; clear hc
            refine g_iload_n X dL_isWell_162 rfl 3 rfl ?_
            refine g_iconst X (v := (1 : Int32)) dL_isWell_163 (by decide) ?_
            refine g_iload_n X dL_isWell_164 rfl 2 rfl ?_
            refine g_ishl X dL_isWell_165 (fun v20 hv => ?_)
            replace h := h v20 hv; clear hv
            refine g_iconst X (v := (1 : Int32)) dL_isWell_166 (by decide) ?_
            refine g_isub X dL_isWell_167 (fun v21 hv => ?_)
            replace h := h v21 hv; clear hv
            refine g_icmp_ne X (tgt := 208) dL_isWell_168 (by decide) (fun hc => ?_) (fun hc => ?_)
            · replace h := h.1 hc; clear hc
              refine g_widen (c2 := (4 + (16 - n8) * 14 + 4)) (s2 := (24 + (16 - n8) * 84 + 24)) (by omega) (by omega) ?_
              exact g_sub [] [] rfl (jp18 w14 h)
            · replace h := h.2 hc; clear hc
              refine g_iload_n X dL_isWell_171 rfl 2 rfl ?_
              obtain ⟨J22, hjJ22, h⟩ := h
              have jp22 : J22 → Gw l G L0 p e rm_L_isWell s m args below meth c 8 (4 + (16 - n8) * 14 + 0) (24 + (16 - n8) * 84 + 0) (MQ below (gQi G L0 Q) args s rm_L_isWell.cells rm_L_isWell.slots (GA L0)) w14 189 [(0, .inr (some a1)), (1, .inl x1)] [] := by
                intro hJ
                have h := hjJ22 hJ
                clear hJ
                refine g_aload_n X dL_isWell_189 rfl 0 rfl ?_
                refine g_iload_n X dL_isWell_190 rfl 1 rfl ?_
                refine g_iconst X (v := (3 : Int32)) dL_isWell_191 (by decide) ?_
                have hk := h.1
                replace h := h.2
                refine g_callFV_i X (As := [.int x1, .int (3 : Int32)]) (st := []) (n := 2) (c_X3_ofCircle hst h) rfl (by decide) hk (wE_4 G w14 a1) m_443 m_444 m_445 m_15 m_446 (by decide +kernel) (by decide +kernel) rfl rfl (Nat.zero_le _) ⟨(by have e1 : rm_L_isWell.cells = 246 := rfl; have e2 : rm_L_isWell.slots = 1476 := rfl; have e3 : rm_X3_ofCircle.cells = 2 := rfl; have e4 : rm_X3_ofCircle.slots = 12 := rfl; omega), (by have e1 : rm_L_isWell.cells = 246 := rfl; have e2 : rm_L_isWell.slots = 1476 := rfl; have e3 : rm_X3_ofCircle.cells = 2 := rfl; have e4 : rm_X3_ofCircle.slots = 12 := rfl; omega)⟩ dL_isWell_192 (fun v24 w23 h => ?_)
                clear hk
                refine g_widen (c2 := (4 + (16 - n8) * 14 + 2)) (s2 := (24 + (16 - n8) * 84 + 12)) (by have e1 : rm_X3_ofCircle.cells = 2 := rfl; omega) (by have e1 : rm_X3_ofCircle.slots = 12 := rfl; omega) ?_
                refine g_aload_n X dL_isWell_195 rfl 0 rfl ?_
                refine g_iload_n X dL_isWell_196 rfl 1 rfl ?_
                refine g_iconst X (v := (2 : Int32)) dL_isWell_197 (by decide) ?_
                have hk := h.1
                replace h := h.2
                refine g_callFV_i X (As := [.int x1, .int (2 : Int32)]) (st := [.int v24]) (n := 2) (c_X3_ofCircle hst h) rfl (by decide) hk (wE_4 G w23 a1) m_443 m_444 m_445 m_15 m_446 (by decide +kernel) (by decide +kernel) rfl rfl (by simp [cat_int, rf_cat]) ⟨(by have e1 : rm_L_isWell.cells = 246 := rfl; have e2 : rm_L_isWell.slots = 1476 := rfl; have e3 : rm_X3_ofCircle.cells = 2 := rfl; have e4 : rm_X3_ofCircle.slots = 12 := rfl; omega), (by have e1 : rm_L_isWell.cells = 246 := rfl; have e2 : rm_L_isWell.slots = 1476 := rfl; have e3 : rm_X3_ofCircle.cells = 2 := rfl; have e4 : rm_X3_ofCircle.slots = 12 := rfl; omega)⟩ dL_isWell_198 (fun v26 w25 h => ?_)
                clear hk
                refine g_widen (c2 := (4 + (16 - n8) * 14 + 4)) (s2 := (24 + (16 - n8) * 84 + 24)) (by have e1 : rm_X3_ofCircle.cells = 2 := rfl; omega) (by have e1 : rm_X3_ofCircle.slots = 12 := rfl; omega) ?_
                refine g_icmp_gt X (tgt := 208) dL_isWell_201 (by decide) (fun hc => ?_) (fun hc => ?_)
                · replace h := h.1 hc; clear hc
                  exact g_sub [] [] rfl (jp18 w25 h)
                · replace h := h.2 hc; clear hc
                  refine g_iconst X (v := (1 : Int32)) dL_isWell_204 (by decide) ?_
                  refine g_goto X (tgt := 209) dL_isWell_205 (by decide) ?_
                  exact g_sub [] [] rfl (jp15 (1 : Int32) w25 h)
              refine g_if_ne X (tgt := 183) dL_isWell_172 (by decide) (fun hc => ?_) (fun hc => ?_)
              · replace h := h.1 hc; clear hc
                refine g_iload X dL_isWell_183 4 rfl ?_
                refine g_iload_n X dL_isWell_185 rfl 2 rfl ?_
                refine g_icmp_ge X (tgt := 208) dL_isWell_186 (by decide) (fun hc => ?_) (fun hc => ?_)
                · replace h := h.1 hc; clear hc
                  refine g_widen (c2 := (4 + (16 - n8) * 14 + 4)) (s2 := (24 + (16 - n8) * 84 + 24)) (by omega) (by omega) ?_
                  exact g_sub [] [] rfl (jp18 w14 h)
                · replace h := h.2 hc; clear hc
                  exact g_sub [0, 1] [(0, .inr (some a1)), (1, .inl x1)] rfl (jp22  h)
              · replace h := h.2 hc; clear hc
                refine g_iload X dL_isWell_175 4 rfl ?_
                refine g_if_ne X (tgt := 208) dL_isWell_177 (by decide) (fun hc => ?_) (fun hc => ?_)
                · replace h := h.1 hc; clear hc
                  refine g_widen (c2 := (4 + (16 - n8) * 14 + 4)) (s2 := (24 + (16 - n8) * 84 + 24)) (by omega) (by omega) ?_
                  exact g_sub [] [] rfl (jp18 w14 h)
                · replace h := h.2 hc; clear hc
                  refine g_goto X (tgt := 189) dL_isWell_180 (by decide) ?_
                  exact g_sub [0, 1] [(0, .inr (some a1)), (1, .inl x1)] rfl (jp22  h)
        · replace h := h.2 hc; clear hc
          refine g_aload_n X dL_isWell_38 rfl 0 rfl ?_
          refine g_iload_n X dL_isWell_39 rfl 1 rfl ?_
          refine g_iload X dL_isWell_40 6 rfl ?_
          refine g_iconst X (v := (3 : Int32)) dL_isWell_42 (by decide) ?_
          have hk := h.1
          replace h := h.2
          refine g_callFV_i X (As := [.int x1, .int y13, .int (3 : Int32)]) (st := []) (n := 3) (c_X3_member hst h) rfl (by decide) hk (wE_4 G w14 a1) m_422 m_423 m_424 m_15 m_425 (by decide +kernel) (by decide +kernel) rfl rfl (Nat.zero_le _) ⟨(by have e1 : rm_L_isWell.cells = 246 := rfl; have e2 : rm_L_isWell.slots = 1476 := rfl; have e3 : rm_X3_member.cells = 3 := rfl; have e4 : rm_X3_member.slots = 18 := rfl; omega), (by have e1 : rm_L_isWell.cells = 246 := rfl; have e2 : rm_L_isWell.slots = 1476 := rfl; have e3 : rm_X3_member.cells = 3 := rfl; have e4 : rm_X3_member.slots = 18 := rfl; omega)⟩ dL_isWell_43 (fun v28 w27 h => ?_)
          clear hk
          refine g_widen (c2 := (4 + (16 - n8) * 14 + 3)) (s2 := (24 + (16 - n8) * 84 + 18)) (by have e1 : rm_X3_member.cells = 3 := rfl; omega) (by have e1 : rm_X3_member.slots = 18 := rfl; omega) ?_
          refine g_istore X [(7, .inl v28), (0, .inr (some a1)), (1, .inl x1), (2, .inl v3), (3, .inl y10), (4, .inl y11), (5, .inl y12), (6, .inl y13)] dL_isWell_46 (by decide) rfl ?_
          refine g_iload X dL_isWell_48 6 rfl ?_
          obtain ⟨J29, hjJ29, h⟩ := h
          have jp29 : ∀ (y30 : Int32) (w31 : Wd), J29 y30 w31 → Gw l G L0 p e rm_L_isWell s m args below meth c 8 (4 + (16 - n8) * 14 + 11) (24 + (16 - n8) * 84 + 66) (MQ below (gQi G L0 Q) args s rm_L_isWell.cells rm_L_isWell.slots (GA L0)) w31 111 [(0, .inr (some a1)), (1, .inl x1), (2, .inl v3), (3, .inl y10), (4, .inl y11), (6, .inl y13), (7, .inl v28)] [.int y30] := by
            intro y30 w31 hJ
            have h := hjJ29 y30 w31 hJ
            clear hJ
            refine g_istore X [(5, .inl y30), (0, .inr (some a1)), (1, .inl x1), (2, .inl v3), (3, .inl y10), (4, .inl y11), (6, .inl y13), (7, .inl v28)] dL_isWell_111 (by decide) rfl ?_
            refine g_iload_n X dL_isWell_113 rfl 4 rfl ?_
            refine g_iload X dL_isWell_114 7 rfl ?_
            obtain ⟨J32, hjJ32, h⟩ := h
            have jp32 : ∀ (y33 : Int32) (y34 : Int32), J32 y33 y34 → Gw l G L0 p e rm_L_isWell s m args below meth c 8 (4 + (16 - n8) * 14 + 11) (24 + (16 - n8) * 84 + 66) (MQ below (gQi G L0 Q) args s rm_L_isWell.cells rm_L_isWell.slots (GA L0)) w31 127 [(0, .inr (some a1)), (1, .inl x1), (2, .inl v3), (4, .inl y11), (5, .inl y30), (6, .inl y13), (7, .inl v28)] [.int y34, .int y33] := by
              intro y33 y34 hJ
              have h := hjJ32 y33 y34 hJ
              clear hJ
              refine g_ior X dL_isWell_127 (fun v35 hv => ?_)
              replace h := h v35 hv; clear hv
              refine g_istore_n X [(3, .inl v35), (0, .inr (some a1)), (1, .inl x1), (2, .inl v3), (4, .inl y11), (5, .inl y30), (6, .inl y13), (7, .inl v28)] dL_isWell_128 rfl (by decide) rfl ?_
              refine g_iload X dL_isWell_129 4 rfl ?_
              refine g_iload X dL_isWell_131 7 rfl ?_
              obtain ⟨J36, hjJ36, h⟩ := h
              have jp36 : ∀ (y37 : Int32) (y38 : Int32) (w39 : Wd), J36 y37 y38 w39 → Gw l G L0 p e rm_L_isWell s m args below meth c 8 (4 + (16 - n8) * 14 + 14) (24 + (16 - n8) * 84 + 84) (MQ below (gQi G L0 Q) args s rm_L_isWell.cells rm_L_isWell.slots (GA L0)) w39 148 [(0, .inr (some a1)), (1, .inl x1), (2, .inl v3), (3, .inl v35), (5, .inl y30), (6, .inl y13)] [.int y38, .int y37] := by
                intro y37 y38 w39 hJ
                have h := hjJ36 y37 y38 w39 hJ
                clear hJ
                refine g_iadd X dL_isWell_148 (fun v40 hv => ?_)
                replace h := h v40 hv; clear hv
                refine g_istore X [(4, .inl v40), (0, .inr (some a1)), (1, .inl x1), (2, .inl v3), (3, .inl v35), (5, .inl y30), (6, .inl y13)] dL_isWell_149 (by decide) rfl ?_
                refine g_iinc X dL_isWell_151 6 rfl (d := (1 : Int32)) (by decide) (by decide) (fun v41 hv => ?_)
                replace h := h v41 hv; clear hv
                refine g_sub [0, 1, 2, 3, 4, 5, 6] [(6, .inl v41), (4, .inl v40), (0, .inr (some a1)), (1, .inl x1), (2, .inl v3), (3, .inl v35), (5, .inl y30)] rfl ?_
                refine g_goto X (tgt := 31) dL_isWell_154 (by decide) ?_
                obtain ⟨n, hn, hI⟩ := h
                refine g_widen (c2 := (4 + (16 - n) * 14 + 0)) (s2 := (24 + (16 - n) * 84 + 0)) (by omega) (by omega) ?_
                exact g_sub [2, 3, 4, 5, 1, 6, 0] [(0, .inr (some a1)), (1, .inl x1), (2, .inl v3), (3, .inl v35), (4, .inl v40), (5, .inl y30), (6, .inl v41)] rfl (ihn8 n hn (by omega) v35 v40 y30 v41 w39 hI)
              refine g_if_lt X (tgt := 147) dL_isWell_133 (by decide) (fun hc => ?_) (fun hc => ?_)
              · replace h := h.1 hc; clear hc
                refine g_iconst X (v := (0 : Int32)) dL_isWell_147 (by decide) ?_
                refine g_widen (c2 := (4 + (16 - n8) * 14 + 14)) (s2 := (24 + (16 - n8) * 84 + 84)) (by omega) (by omega) ?_
                exact g_sub [1, 2, 3, 0, 5, 6] [(0, .inr (some a1)), (1, .inl x1), (2, .inl v3), (3, .inl v35), (5, .inl y30), (6, .inl y13)] rfl (jp36 y11 (0 : Int32) w31 h)
              · replace h := h.2 hc; clear hc
                refine g_aload_n X dL_isWell_136 rfl 1 rfl ?_
                refine g_iload_n X dL_isWell_137 rfl 2 rfl ?_
                refine g_iload X dL_isWell_138 6 rfl ?_
                refine g_iconst X (v := (1 : Int32)) dL_isWell_140 (by decide) ?_
                have hk := h.1
                replace h := h.2
                refine g_callFV_i X (As := [.int x1, .int y13, .int (1 : Int32)]) (st := [.int y11]) (n := 3) (c_X3_member hst h) rfl (by decide) hk (wE_4 G w31 a1) m_422 m_423 m_424 m_15 m_425 (by decide +kernel) (by decide +kernel) rfl rfl (by simp [cat_int, rf_cat]) ⟨(by have e1 : rm_L_isWell.cells = 246 := rfl; have e2 : rm_L_isWell.slots = 1476 := rfl; have e3 : rm_X3_member.cells = 3 := rfl; have e4 : rm_X3_member.slots = 18 := rfl; omega), (by have e1 : rm_L_isWell.cells = 246 := rfl; have e2 : rm_L_isWell.slots = 1476 := rfl; have e3 : rm_X3_member.cells = 3 := rfl; have e4 : rm_X3_member.slots = 18 := rfl; omega)⟩ dL_isWell_141 (fun v43 w42 h => ?_)
                clear hk
                refine g_widen (c2 := (4 + (16 - n8) * 14 + 14)) (s2 := (24 + (16 - n8) * 84 + 84)) (by have e1 : rm_X3_member.cells = 3 := rfl; omega) (by have e1 : rm_X3_member.slots = 18 := rfl; omega) ?_
                refine g_goto X (tgt := 148) dL_isWell_144 (by decide) ?_
                exact g_sub [1, 2, 3, 0, 5, 6] [(0, .inr (some a1)), (1, .inl x1), (2, .inl v3), (3, .inl v35), (5, .inl y30), (6, .inl y13)] rfl (jp36 y11 v43 w42 h)
            refine g_if_ge X (tgt := 123) dL_isWell_116 (by decide) (fun hc => ?_) (fun hc => ?_)
            · replace h := h.1 hc; clear hc
              refine g_iconst X (v := (1 : Int32)) dL_isWell_123 (by decide) ?_
              refine g_iload X dL_isWell_124 7 rfl ?_
              refine g_ishl X dL_isWell_126 (fun v44 hv => ?_)
              replace h := h v44 hv; clear hv
              exact g_sub [1, 2, 3, 5, 0, 6, 7] [(0, .inr (some a1)), (1, .inl x1), (2, .inl v3), (4, .inl y11), (5, .inl y30), (6, .inl y13), (7, .inl v28)] rfl (jp32 y10 v44 h)
            · replace h := h.2 hc; clear hc
              refine g_iconst X (v := (0 : Int32)) dL_isWell_119 (by decide) ?_
              refine g_goto X (tgt := 127) dL_isWell_120 (by decide) ?_
              exact g_sub [1, 2, 3, 5, 0, 6, 7] [(0, .inr (some a1)), (1, .inl x1), (2, .inl v3), (4, .inl y11), (5, .inl y30), (6, .inl y13), (7, .inl v28)] rfl (jp32 y10 (0 : Int32) h)
          obtain ⟨J45, hjJ45, h⟩ := h
          have jp45 : ∀  (w46 : Wd), J45 w46 → Gw l G L0 p e rm_L_isWell s m args below meth c 8 (4 + (16 - n8) * 14 + 11) (24 + (16 - n8) * 84 + 66) (MQ below (gQi G L0 Q) args s rm_L_isWell.cells rm_L_isWell.slots (GA L0)) w46 110 [(0, .inr (some a1)), (1, .inl x1), (2, .inl v3), (3, .inl y10), (4, .inl y11), (6, .inl y13), (7, .inl v28)] [] := by
            intro w46 hJ
            have h := hjJ45 w46 hJ
            clear hJ
            refine g_iconst X (v := (0 : Int32)) dL_isWell_110 (by decide) ?_
            exact g_sub [0, 1, 2, 3, 4, 5, 6] [(0, .inr (some a1)), (1, .inl x1), (2, .inl v3), (3, .inl y10), (4, .inl y11), (6, .inl y13), (7, .inl v28)] rfl (jp29 (0 : Int32) w46 h)
          refine g_if_eq X (tgt := 110) dL_isWell_50 (by decide) (fun hc => ?_) (fun hc => ?_)
          · replace h := h.1 hc; clear hc
            refine g_widen (c2 := (4 + (16 - n8) * 14 + 11)) (s2 := (24 + (16 - n8) * 84 + 66)) (by omega) (by omega) ?_
            exact g_sub [1, 2, 3, 4, 5, 7, 0] [(0, .inr (some a1)), (1, .inl x1), (2, .inl v3), (3, .inl y10), (4, .inl y11), (6, .inl y13), (7, .inl v28)] rfl (jp45 w27 h)
          · replace h := h.2 hc; clear hc
            refine g_iload X dL_isWell_53 0 rfl ?_
            refine g_iload_n X dL_isWell_55 rfl 3 rfl ?_
            refine g_icmp_ge X (tgt := 110) dL_isWell_56 (by decide) (fun hc => ?_) (fun hc => ?_)
            · replace h := h.1 hc; clear hc
              refine g_widen (c2 := (4 + (16 - n8) * 14 + 11)) (s2 := (24 + (16 - n8) * 84 + 66)) (by omega) (by omega) ?_
              exact g_sub [1, 2, 3, 4, 5, 7, 0] [(0, .inr (some a1)), (1, .inl x1), (2, .inl v3), (3, .inl y10), (4, .inl y11), (6, .inl y13), (7, .inl v28)] rfl (jp45 w27 h)
            · replace h := h.2 hc; clear hc
              refine g_iload X dL_isWell_59 0 rfl ?_
              obtain ⟨J47, hjJ47, h⟩ := h
              have jp47 : ∀  (w48 : Wd), J47 w48 → Gw l G L0 p e rm_L_isWell s m args below meth c 8 (4 + (16 - n8) * 14 + 11) (24 + (16 - n8) * 84 + 66) (MQ below (gQi G L0 Q) args s rm_L_isWell.cells rm_L_isWell.slots (GA L0)) w48 106 [(0, .inr (some a1)), (1, .inl x1), (2, .inl v3), (3, .inl y10), (4, .inl y11), (6, .inl y13), (7, .inl v28)] [] := by
                intro w48 hJ
                have h := hjJ47 w48 hJ
                clear hJ
                refine g_iconst X (v := (1 : Int32)) dL_isWell_106 (by decide) ?_
                refine g_goto X (tgt := 111) dL_isWell_107 (by decide) ?_
                exact g_sub [0, 1, 2, 3, 4, 5, 6] [(0, .inr (some a1)), (1, .inl x1), (2, .inl v3), (3, .inl y10), (4, .inl y11), (6, .inl y13), (7, .inl v28)] rfl (jp29 (1 : Int32) w48 h)
              refine g_if_lt X (tgt := 106) dL_isWell_61 (by decide) (fun hc => ?_) (fun hc => ?_)
              · replace h := h.1 hc; clear hc
                refine g_widen (c2 := (4 + (16 - n8) * 14 + 11)) (s2 := (24 + (16 - n8) * 84 + 66)) (by omega) (by omega) ?_
                exact g_sub [1, 2, 3, 4, 5, 7, 0] [(0, .inr (some a1)), (1, .inl x1), (2, .inl v3), (3, .inl y10), (4, .inl y11), (6, .inl y13), (7, .inl v28)] rfl (jp47 w27 h)
              · replace h := h.2 hc; clear hc
                refine g_iload_n X dL_isWell_64 rfl 4 rfl ?_
                refine g_iload X dL_isWell_65 0 rfl ?_
                refine g_ishr X dL_isWell_67 (fun v49 hv => ?_)
                replace h := h v49 hv; clear hv
                refine g_iconst X (v := (1 : Int32)) dL_isWell_68 (by decide) ?_
                refine g_iand X dL_isWell_69 (fun v50 hv => ?_)
                replace h := h v50 hv; clear hv
                refine g_if_ne X (tgt := 110) dL_isWell_70 (by decide) (fun hc => ?_) (fun hc => ?_)
                · replace h := h.1 hc; clear hc
                  refine g_widen (c2 := (4 + (16 - n8) * 14 + 11)) (s2 := (24 + (16 - n8) * 84 + 66)) (by omega) (by omega) ?_
                  exact g_sub [1, 2, 3, 4, 5, 7, 0] [(0, .inr (some a1)), (1, .inl x1), (2, .inl v3), (3, .inl y10), (4, .inl y11), (6, .inl y13), (7, .inl v28)] rfl (jp45 w27 h)
                · replace h := h.2 hc; clear hc
                  refine g_aload_n X dL_isWell_73 rfl 1 rfl ?_
                  refine g_iload X dL_isWell_74 7 rfl ?_
                  refine g_iconst X (v := (5 : Int32)) dL_isWell_76 (by decide) ?_
                  have hk := h.1
                  replace h := h.2
                  refine g_callFV_i X (As := [.int y13, .int (5 : Int32)]) (st := []) (n := 2) (c_X3_of hst h) rfl (by decide) hk (wE_4 G w27 a1) m_410 m_411 m_412 m_15 m_413 (by decide +kernel) (by decide +kernel) rfl rfl (Nat.zero_le _) ⟨(by have e1 : rm_L_isWell.cells = 246 := rfl; have e2 : rm_L_isWell.slots = 1476 := rfl; have e3 : rm_X3_of.cells = 2 := rfl; have e4 : rm_X3_of.slots = 12 := rfl; omega), (by have e1 : rm_L_isWell.cells = 246 := rfl; have e2 : rm_L_isWell.slots = 1476 := rfl; have e3 : rm_X3_of.cells = 2 := rfl; have e4 : rm_X3_of.slots = 12 := rfl; omega)⟩ dL_isWell_77 (fun v52 w51 h => ?_)
                  clear hk
                  refine g_widen (c2 := (4 + (16 - n8) * 14 + 5)) (s2 := (24 + (16 - n8) * 84 + 30)) (by have e1 : rm_X3_of.cells = 2 := rfl; omega) (by have e1 : rm_X3_of.slots = 12 := rfl; omega) ?_
                  refine g_iconst X (v := (1 : Int32)) dL_isWell_80 (by decide) ?_
                  refine g_icmp_ne X (tgt := 110) dL_isWell_81 (by decide) (fun hc => ?_) (fun hc => ?_)
                  · replace h := h.1 hc; clear hc
                    refine g_widen (c2 := (4 + (16 - n8) * 14 + 11)) (s2 := (24 + (16 - n8) * 84 + 66)) (by omega) (by omega) ?_
                    exact g_sub [1, 2, 3, 4, 5, 7, 0] [(0, .inr (some a1)), (1, .inl x1), (2, .inl v3), (3, .inl y10), (4, .inl y11), (6, .inl y13), (7, .inl v28)] rfl (jp45 w51 h)
                  · replace h := h.2 hc; clear hc
                    refine g_aload_n X dL_isWell_84 rfl 1 rfl ?_
                    refine g_iload_n X dL_isWell_85 rfl 2 rfl ?_
                    refine g_iload X dL_isWell_86 7 rfl ?_
                    refine g_iconst X (v := (0 : Int32)) dL_isWell_88 (by decide) ?_
                    have hk := h.1
                    replace h := h.2
                    refine g_callFV_i X (As := [.int x1, .int y13, .int (0 : Int32)]) (st := []) (n := 3) (c_X3_member hst h) rfl (by decide) hk (wE_4 G w51 a1) m_422 m_423 m_424 m_15 m_425 (by decide +kernel) (by decide +kernel) rfl rfl (Nat.zero_le _) ⟨(by have e1 : rm_L_isWell.cells = 246 := rfl; have e2 : rm_L_isWell.slots = 1476 := rfl; have e3 : rm_X3_member.cells = 3 := rfl; have e4 : rm_X3_member.slots = 18 := rfl; omega), (by have e1 : rm_L_isWell.cells = 246 := rfl; have e2 : rm_L_isWell.slots = 1476 := rfl; have e3 : rm_X3_member.cells = 3 := rfl; have e4 : rm_X3_member.slots = 18 := rfl; omega)⟩ dL_isWell_89 (fun v54 w53 h => ?_)
                    clear hk
                    refine g_widen (c2 := (4 + (16 - n8) * 14 + 8)) (s2 := (24 + (16 - n8) * 84 + 48)) (by have e1 : rm_X3_member.cells = 3 := rfl; omega) (by have e1 : rm_X3_member.slots = 18 := rfl; omega) ?_
                    refine g_if_lt X (tgt := 110) dL_isWell_92 (by decide) (fun hc => ?_) (fun hc => ?_)
                    · replace h := h.1 hc; clear hc
                      refine g_widen (c2 := (4 + (16 - n8) * 14 + 11)) (s2 := (24 + (16 - n8) * 84 + 66)) (by omega) (by omega) ?_
                      exact g_sub [1, 2, 3, 4, 5, 7, 0] [(0, .inr (some a1)), (1, .inl x1), (2, .inl v3), (3, .inl y10), (4, .inl y11), (6, .inl y13), (7, .inl v28)] rfl (jp45 w53 h)
                    · replace h := h.2 hc; clear hc
                      refine g_aload_n X dL_isWell_95 rfl 1 rfl ?_
                      refine g_iload_n X dL_isWell_96 rfl 2 rfl ?_
                      refine g_iload X dL_isWell_97 7 rfl ?_
                      refine g_iconst X (v := (2 : Int32)) dL_isWell_99 (by decide) ?_
                      have hk := h.1
                      replace h := h.2
                      refine g_callFV_i X (As := [.int x1, .int y13, .int (2 : Int32)]) (st := []) (n := 3) (c_X3_member hst h) rfl (by decide) hk (wE_4 G w53 a1) m_422 m_423 m_424 m_15 m_425 (by decide +kernel) (by decide +kernel) rfl rfl (Nat.zero_le _) ⟨(by have e1 : rm_L_isWell.cells = 246 := rfl; have e2 : rm_L_isWell.slots = 1476 := rfl; have e3 : rm_X3_member.cells = 3 := rfl; have e4 : rm_X3_member.slots = 18 := rfl; omega), (by have e1 : rm_L_isWell.cells = 246 := rfl; have e2 : rm_L_isWell.slots = 1476 := rfl; have e3 : rm_X3_member.cells = 3 := rfl; have e4 : rm_X3_member.slots = 18 := rfl; omega)⟩ dL_isWell_100 (fun v56 w55 h => ?_)
                      clear hk
                      refine g_widen (c2 := (4 + (16 - n8) * 14 + 11)) (s2 := (24 + (16 - n8) * 84 + 66)) (by have e1 : rm_X3_member.cells = 3 := rfl; omega) (by have e1 : rm_X3_member.slots = 18 := rfl; omega) ?_
                      refine g_if_lt X (tgt := 110) dL_isWell_103 (by decide) (fun hc => ?_) (fun hc => ?_)
                      · replace h := h.1 hc; clear hc
                        exact g_sub [1, 2, 3, 4, 5, 7, 0] [(0, .inr (some a1)), (1, .inl x1), (2, .inl v3), (3, .inl y10), (4, .inl y11), (6, .inl y13), (7, .inl v28)] rfl (jp45 w55 h)
                      · replace h := h.2 hc; clear hc
                        exact g_sub [1, 2, 3, 4, 5, 7, 0] [(0, .inr (some a1)), (1, .inl x1), (2, .inl v3), (3, .inl y10), (4, .inl y11), (6, .inl y13), (7, .inl v28)] rfl (jp47 w55 h)
    refine g_widen (c2 := (4 + (16 - n0) * 14 + 0)) (s2 := (24 + (16 - n0) * 84 + 0)) (by omega) (by omega) ?_
    exact g_sub [2, 3, 4, 5, 6, 1, 0] [(0, .inr (some a1)), (1, .inl x1), (2, .inl v3), (3, .inl (0 : Int32)), (4, .inl (0 : Int32)), (5, .inl y7), (6, .inl (0 : Int32))] rfl (lp9 n0 hn0 (0 : Int32) (0 : Int32) y7 (0 : Int32) w4 hi)
  refine g_if_lt X (tgt := 25) dL_isWell_18 (by decide) (fun hc => ?_) (fun hc => ?_)
  · replace h := h.1 hc; clear hc
    refine g_iconst X (v := (0 : Int32)) dL_isWell_25 (by decide) ?_
    exact g_sub [3, 4, 2, 1, 0] [(0, .inr (some a1)), (1, .inl x1), (2, .inl v3), (3, .inl (0 : Int32)), (4, .inl (0 : Int32))] rfl (jp6 (0 : Int32) h)
  · replace h := h.2 hc; clear hc
    refine g_iconst X (v := (1 : Int32)) dL_isWell_21 (by decide) ?_
    refine g_goto X (tgt := 26) dL_isWell_22 (by decide) ?_
    exact g_sub [3, 4, 2, 1, 0] [(0, .inr (some a1)), (1, .inl x1), (2, .inl v3), (3, .inl (0 : Int32)), (4, .inl (0 : Int32))] rfl (jp6 (1 : Int32) h)
