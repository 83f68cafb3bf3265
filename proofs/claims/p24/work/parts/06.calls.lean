def gN2 : List String := ["java/lang/RuntimeException", "java/lang/Exception"]
def gNG : List Cond := gCast.map (fun q => Cond.castable q.1 q.2) ++ gDecl.map Cond.declares
theorem at_IAE_g : ∀ x ∈ (vx_atS "SusuRing" 68 "java/lang/IllegalArgumentException" gN2).filter goodWord, x ∈ wAll := by decide +kernel
theorem at_IAE_b : ∀ x ∈ (vx_atS "SusuRing" 68 "java/lang/IllegalArgumentException" gN2).filter (fun x => !goodWord x), x ∈ gNG := by decide +kernel
theorem at_IAE_o : ∀ x ∈ vx_atS "SusuRing" 68 "java/lang/IllegalArgumentException" gN2, vx_ot x = true := by decide +kernel
theorem at_ISE_g : ∀ x ∈ (vx_atS "SusuRing" 32 "java/lang/IllegalStateException" gN2).filter goodWord, x ∈ wAll := by decide +kernel
theorem at_ISE_b : ∀ x ∈ (vx_atS "SusuRing" 32 "java/lang/IllegalStateException" gN2).filter (fun x => !goodWord x), x ∈ gNG := by decide +kernel
theorem at_ISE_o : ∀ x ∈ vx_atS "SusuRing" 32 "java/lang/IllegalStateException" gN2, vx_ot x = true := by decide +kernel
theorem at_IOB_g : ∀ x ∈ (vx_atS "SusuRing" 243 "java/lang/IndexOutOfBoundsException" gN2).filter goodWord, x ∈ wAll := by decide +kernel
theorem at_IOB_b : ∀ x ∈ (vx_atS "SusuRing" 243 "java/lang/IndexOutOfBoundsException" gN2).filter (fun x => !goodWord x), x ∈ gNG := by decide +kernel
theorem at_IOB_o : ∀ x ∈ vx_atS "SusuRing" 243 "java/lang/IndexOutOfBoundsException" gN2, vx_ot x = true := by decide +kernel
theorem gw_kept {G : GT} {L0 : Nat} {w : Wd} {H H1 : Heap} (h : GWd G L0 w H) (h1 : ∀ q : Nat, q < H.size → H1[q]? = H[q]?) : GWd G L0 w H1 := by
  obtain ⟨L, hL, hP, hD, h15⟩ := h
  exact ⟨L, hL, hP.kept (fun k q hk => h1 q.1 (hP k q hk).lt), hD, h15⟩
-- ===== contracts
def lcEnum : Nat → List (Int32 ⊕ Option Nat) → Lc
  | _, [] => []
  | i, v :: t => (i, v) :: lcEnum (i + 1) t
theorem lc_len : ∀ (q : List (Int32 ⊕ Option Nat)), (lg_sl (q.map lcV)).length = q.length
  | [] => rfl
  | v :: t => by
    have h := lc_len t
    simp [lg_sl, lcV_cat] at h ⊢
    exact h
theorem lc_args : ∀ (q : List (Int32 ⊕ Option Nat)) (i : Nat), lv_args i (q.map lcV) = lvV (lcEnum i q)
  | [], _ => rfl
  | v :: t, i => by
    have h := lc_args t (i + 1)
    simp [lv_args, lcEnum, lvV, lcV_cat] at h ⊢
    exact h
def gPc (G : GT) (L0 : Nat) (As : List Value) (w : Wd) : Array Value → State → Prop := va_Pc As (fun U => GS G L0 U ∧ GWd G L0 w U.heap)
theorem gPc_blind {G : GT} {L0 : Nat} {As : List Value} {w : Wd} : FrameBlind (gPc G L0 As w) := fun _ _ _ _ h => ⟨h.1, GS.same h.2.1 rfl rfl, h.2.2⟩
def gQi (G : GT) (L0 : Nat) (Q : Int32 → Wd → Prop) : Array Value → State → Outcome → State → Prop := va_Qi Q (fun w1 t => GWd G L0 w1 t.heap) (GA L0)
def gQq (G : GT) (L0 : Nat) (Q : Option Nat → Wd → Prop) : Array Value → State → Outcome → State → Prop := va_Qq Q (fun w1 t => GWd G L0 w1 t.heap) (GA L0)
def gQv (G : GT) (L0 : Nat) (Q : Wd → Prop) : Array Value → State → Outcome → State → Prop := va_Qv Q (fun w1 t => GWd G L0 w1 t.heap) (GA L0)
def gXC (G : GT) (L0 : Nat) (QX : String → Wd → Prop) : String → State → State → Prop := vx_X (fun _ : Wd => True) (fun E w1 t => QX E w1 ∧ GWd G L0 w1 t.heap) (GA L0)
def GMi (l : Launch) (G : GT) (L0 : Nat) (y : MethodName) (cc : ByteArray) (nL : Nat) (ret : Option FieldType) (rm : Room) (As : List Value) (w : Wd) (Q : Int32 → Wd → Prop) : Prop := Met l y (.code y cc nL ret :: wAll) rm (gPc G L0 As w) (gQi G L0 Q) rm.cells rm.slots (GA L0)
def GMq (l : Launch) (G : GT) (L0 : Nat) (y : MethodName) (cc : ByteArray) (nL : Nat) (ret : Option FieldType) (rm : Room) (As : List Value) (w : Wd) (Q : Option Nat → Wd → Prop) : Prop := Met l y (.code y cc nL ret :: wAll) rm (gPc G L0 As w) (gQq G L0 Q) rm.cells rm.slots (GA L0)
def GMv (l : Launch) (G : GT) (L0 : Nat) (y : MethodName) (cc : ByteArray) (nL : Nat) (ret : Option FieldType) (rm : Room) (As : List Value) (w : Wd) (Q : Wd → Prop) : Prop := Met l y (.code y cc nL ret :: wAll) rm (gPc G L0 As w) (gQv G L0 Q) rm.cells rm.slots (GA L0)
def GXi (l : Launch) (G : GT) (L0 : Nat) (y : MethodName) (cc : ByteArray) (nL : Nat) (ret : Option FieldType) (rm : Room) (As : List Value) (w : Wd) (Q : Int32 → Wd → Prop) (QX : String → Wd → Prop) : Prop := vx_Met l y (.code y cc nL ret :: wAll) rm (gPc G L0 As w) (gQi G L0 Q) (gXC G L0 QX) rm.cells rm.slots (GA L0)
def GXq (l : Launch) (G : GT) (L0 : Nat) (y : MethodName) (cc : ByteArray) (nL : Nat) (ret : Option FieldType) (rm : Room) (As : List Value) (w : Wd) (Q : Option Nat → Wd → Prop) (QX : String → Wd → Prop) : Prop := vx_Met l y (.code y cc nL ret :: wAll) rm (gPc G L0 As w) (gQq G L0 Q) (gXC G L0 QX) rm.cells rm.slots (GA L0)
def GXv (l : Launch) (G : GT) (L0 : Nat) (y : MethodName) (cc : ByteArray) (nL : Nat) (ret : Option FieldType) (rm : Room) (As : List Value) (w : Wd) (Q : Wd → Prop) (QX : String → Wd → Prop) : Prop := vx_Met l y (.code y cc nL ret :: wAll) rm (gPc G L0 As w) (gQv G L0 Q) (gXC G L0 QX) rm.cells rm.slots (GA L0)
theorem g_enter {l : Launch} {G : GT} {L0 : Nat} {y : MethodName} {cc : ByteArray} {nL : Nat} {ret : Option FieldType} {rm : Room} {As : List Value} {w : Wd} {Qc : Array Value → State → Outcome → State → Prop} (hst : l.stackTraces = false) (hy : plainName y.cls = true) (q : List (Int32 ⊕ Option Nat)) (hq : As = q.map lcV) (hn : q.length ≤ nL)
    (body : ∀ (p : Program) (e : Env) (s : State) (m : MethodId) (args : Array Value) (below : List Frame) (meth : Method) (c : Code), GC l G L0 p s m args meth c cc nL y.cls → meth.sig.returnType = ret → meth.name = y.name → Gw l G L0 p e rm s m args below meth c nL 0 0 (MQ below Qc args s rm.cells rm.slots (GA L0)) w 0 (lcEnum 0 q) []) : Met l y (.code y cc nL ret :: wAll) rm (gPc G L0 As w) Qc rm.cells rm.slots (GA L0) := by
  refine Met.ofW (cc := cc) (maxL := nL) (ret := ret) hy rfl ?_
  intro p e s m args below meth c s₁ B hml hv
  obtain ⟨rfl, hGS, hG⟩ := hv
  have hts := atoms_spec (ws := .code y cc nL ret :: wAll) B.pre
  have hX : GC l G L0 p s m As.toArray meth c cc nL y.cls := ⟨⟨B.exec, B.bytes, hml, findClass_of_methodNamed B.named, fun x hx => hts x (List.mem_cons_of_mem _ hx)⟩, B.notSynchronized, hst, hGS⟩
  have h := body p e s m As.toArray below meth c hX B.returns (name_of_methodNamed B.named B.method).1 s.heap [] _ hG va_S.rf (by rw [← lc_args, ← hq]; exact lv_entry As (by rw [hq, lc_len]; exact hn))
  rw [lg_entry_eq]
  exact h
theorem g_enterX {l : Launch} {G : GT} {L0 : Nat} {y : MethodName} {cc : ByteArray} {nL : Nat} {ret : Option FieldType} {rm : Room} {As : List Value} {w : Wd} {Qc : Array Value → State → Outcome → State → Prop} {XC : String → State → State → Prop} (hst : l.stackTraces = false) (hy : plainName y.cls = true) (q : List (Int32 ⊕ Option Nat)) (hq : As = q.map lcV) (hn : q.length ≤ nL)
    (body : ∀ (p : Program) (e : Env) (s : State) (m : MethodId) (args : Array Value) (below : List Frame) (meth : Method) (c : Code), GC l G L0 p s m args meth c cc nL y.cls → meth.sig.returnType = ret → meth.name = y.name → (∀ x ∈ c.exceptionTable.toList, False) → Gw l G L0 p e rm s m args below meth c nL 0 0 (vx_MQ below Qc XC args s rm.cells rm.slots (GA L0)) w 0 (lcEnum 0 q) []) : vx_Met l y (.code y cc nL ret :: wAll) rm (gPc G L0 As w) Qc XC rm.cells rm.slots (GA L0) := by
  refine vx_ofW (cc := cc) (maxL := nL) (ret := ret) hy rfl ?_
  intro p e s m args below meth c s₁ B hml htab hv
  obtain ⟨rfl, hGS, hG⟩ := hv
  have hts := atoms_spec (ws := .code y cc nL ret :: wAll) B.pre
  have hX : GC l G L0 p s m As.toArray meth c cc nL y.cls := ⟨⟨B.exec, B.bytes, hml, findClass_of_methodNamed B.named, fun x hx => hts x (List.mem_cons_of_mem _ hx)⟩, B.notSynchronized, hst, hGS⟩
  have h := body p e s m As.toArray below meth c hX B.returns (name_of_methodNamed B.named B.method).1 htab s.heap [] _ hG va_S.rf (by rw [← lc_args, ← hq]; exact lv_entry As (by rw [hq, lc_len]; exact hn))
  rw [lg_entry_eq]
  exact h
section GR2
variable {l : Launch} {G : GT} {L0 : Nat} {p : Program} {e : Env} {R : Room} {s : State} {m : MethodId} {args : Array Value} {below : List Frame} {meth : Method} {c : Code} {cc : ByteArray} {nL : Nat} {own : String} {cells slots mc ms : Nat} {Q : State → Prop} {w : Wd} {pc : Nat} {lv : Lc} {st : List Value}
theorem nar_z {v : Int32} (h : v = 0 ∨ v = 1) : narrow .boolean (.int v) = .int v := by
  rcases h with h | h <;> rw [h] <;> decide
theorem fit_z {v : Int32} (h : v = 0 ∨ v = 1) : fits .boolean (.int v) = true := by
  rcases h with h | h <;> rw [h] <;> decide
theorem g_iret (X : GC l G L0 p s m args meth c cc nL own) {v : Int32} {Q : Int32 → Wd → Prop} (hr : meth.sig.returnType = some .int) (h1 : cells ≤ mc) (h2 : slots ≤ ms) (hd : decode cc pc = .ok (.ireturn, 1)) (hq : Q v w) : Gw l G L0 p e R s m args below meth c nL cells slots (MQ below (gQi G L0 Q) args s mc ms (GA L0)) w pc lv [.int v] :=
  fun H locs ls hG hS hl => W.widen h1 h2 ((W.iret X.1.1 X.1.2.1 hr (fun t ht hW => ⟨⟨v, w, rfl, hq, by show GWd G L0 w t.heap; rw [ht]; exact hG⟩, hS.F ht⟩) hS.2.2 hd X.2.1))
theorem g_zret (X : GC l G L0 p s m args meth c cc nL own) {v : Int32} {Q : Int32 → Wd → Prop} (hr : meth.sig.returnType = some .boolean) (h1 : cells ≤ mc) (h2 : slots ≤ ms) (hd : decode cc pc = .ok (.ireturn, 1)) (hz : v = 0 ∨ v = 1) (hq : Q v w) : Gw l G L0 p e R s m args below meth c nL cells slots (MQ below (gQi G L0 Q) args s mc ms (GA L0)) w pc lv [.int v] :=
  fun H locs ls hG hS hl => W.widen h1 h2 ((W.zret X.1.1 X.1.2.1 hr (nar_z hz) (fun t ht hW => ⟨⟨v, w, rfl, hq, by show GWd G L0 w t.heap; rw [ht]; exact hG⟩, hS.F ht⟩) hS.2.2 hd X.2.1))
theorem g_vret (X : GC l G L0 p s m args meth c cc nL own) {Q : Wd → Prop} (hr : meth.sig.returnType = none) (h1 : cells ≤ mc) (h2 : slots ≤ ms) (hd : decode cc pc = .ok (.return_, 1)) (hq : Q w) : Gw l G L0 p e R s m args below meth c nL cells slots (MQ below (gQv G L0 Q) args s mc ms (GA L0)) w pc lv [] :=
  fun H locs ls hG hS hl => W.widen h1 h2 ((W.vret X.1.1 X.1.2.1 hr (fun t ht hW => ⟨⟨w, rfl, hq, by show GWd G L0 w t.heap; rw [ht]; exact hG⟩, hS.F ht⟩) hS.2.2 hd X.2.1))
theorem g_aret (X : GC l G L0 p s m args meth c cc nL own) {v : Option Nat} {rt : FieldType} {Q : Option Nat → Wd → Prop} (hr : meth.sig.returnType = some rt) (hrt : (∃ n, rt = .object n) ∨ ∃ t, rt = .array t) (h1 : cells ≤ mc) (h2 : slots ≤ ms) (hd : decode cc pc = .ok (.areturn, 1)) (hq : Q v w) : Gw l G L0 p e R s m args below meth c nL cells slots (MQ below (gQq G L0 Q) args s mc ms (GA L0)) w pc lv [va_rf v] :=
  fun H locs ls hG hS hl => W.widen h1 h2 ((W.aret X.1.1 X.1.2.1 hr hrt (by cases v with | none => exact Or.inl rfl | some a => exact Or.inr ⟨a, rfl⟩) (fun t ht hW => ⟨⟨v, w, rfl, hq, by show GWd G L0 w t.heap; rw [ht]; exact hG⟩, hS.F ht⟩) hS.2.2 hd X.2.1))
theorem g_iretX (X : GC l G L0 p s m args meth c cc nL own) {v : Int32} {Q : Int32 → Wd → Prop} {XC : String → State → State → Prop} (hr : meth.sig.returnType = some .int) (h1 : cells ≤ mc) (h2 : slots ≤ ms) (hd : decode cc pc = .ok (.ireturn, 1)) (hq : Q v w) : Gw l G L0 p e R s m args below meth c nL cells slots (vx_MQ below (gQi G L0 Q) XC args s mc ms (GA L0)) w pc lv [.int v] :=
  fun H locs ls hG hS hl => W.widen h1 h2 (vx_ret (W.iret X.1.1 X.1.2.1 hr (fun t ht hW => ⟨⟨v, w, rfl, hq, by show GWd G L0 w t.heap; rw [ht]; exact hG⟩, hS.F ht⟩) hS.2.2 hd X.2.1))
theorem g_zretX (X : GC l G L0 p s m args meth c cc nL own) {v : Int32} {Q : Int32 → Wd → Prop} {XC : String → State → State → Prop} (hr : meth.sig.returnType = some .boolean) (h1 : cells ≤ mc) (h2 : slots ≤ ms) (hd : decode cc pc = .ok (.ireturn, 1)) (hz : v = 0 ∨ v = 1) (hq : Q v w) : Gw l G L0 p e R s m args below meth c nL cells slots (vx_MQ below (gQi G L0 Q) XC args s mc ms (GA L0)) w pc lv [.int v] :=
  fun H locs ls hG hS hl => W.widen h1 h2 (vx_ret (W.zret X.1.1 X.1.2.1 hr (nar_z hz) (fun t ht hW => ⟨⟨v, w, rfl, hq, by show GWd G L0 w t.heap; rw [ht]; exact hG⟩, hS.F ht⟩) hS.2.2 hd X.2.1))
theorem g_vretX (X : GC l G L0 p s m args meth c cc nL own) {Q : Wd → Prop} {XC : String → State → State → Prop} (hr : meth.sig.returnType = none) (h1 : cells ≤ mc) (h2 : slots ≤ ms) (hd : decode cc pc = .ok (.return_, 1)) (hq : Q w) : Gw l G L0 p e R s m args below meth c nL cells slots (vx_MQ below (gQv G L0 Q) XC args s mc ms (GA L0)) w pc lv [] :=
  fun H locs ls hG hS hl => W.widen h1 h2 (vx_ret (W.vret X.1.1 X.1.2.1 hr (fun t ht hW => ⟨⟨w, rfl, hq, by show GWd G L0 w t.heap; rw [ht]; exact hG⟩, hS.F ht⟩) hS.2.2 hd X.2.1))
theorem g_aretX (X : GC l G L0 p s m args meth c cc nL own) {v : Option Nat} {rt : FieldType} {Q : Option Nat → Wd → Prop} {XC : String → State → State → Prop} (hr : meth.sig.returnType = some rt) (hrt : (∃ n, rt = .object n) ∨ ∃ t, rt = .array t) (h1 : cells ≤ mc) (h2 : slots ≤ ms) (hd : decode cc pc = .ok (.areturn, 1)) (hq : Q v w) : Gw l G L0 p e R s m args below meth c nL cells slots (vx_MQ below (gQq G L0 Q) XC args s mc ms (GA L0)) w pc lv [va_rf v] :=
  fun H locs ls hG hS hl => W.widen h1 h2 (vx_ret (W.aret X.1.1 X.1.2.1 hr hrt (by cases v with | none => exact Or.inl rfl | some a => exact Or.inr ⟨a, rfl⟩) (fun t ht hW => ⟨⟨v, w, rfl, hq, by show GWd G L0 w t.heap; rw [ht]; exact hG⟩, hS.F ht⟩) hS.2.2 hd X.2.1))
theorem g_callV_i (X : GC l G L0 p s m args meth c cc nL own) {y : MethodName} {bytes : ByteArray} {maxL n index : Nat} {ret : Option FieldType} {rm : Room} {b : Nat} {C : String} {T : u_T} {N ci k : Nat} {fs : List Value} {As stk : List Value} {Q1 : Int32 → Wd → Prop} (hM : GMi l G L0 y bytes maxL ret rm (.ref b :: As) w Q1) (hc : vwCl[ci]? = some (C, T, N)) (h0 : k ≠ 0 ∧ k ≠ 15) (hk : w.K b = k) (he : wE G w k b = .inr (ci, fs)) 
    (q1 : Cond.methodLink own index y ∈ wAll) (q2 : Cond.instanceMethod y ∈ wAll) (q3 : Cond.selects C y y ∈ wAll) (q4 : Cond.initialized y.cls ∈ wAll) (q5 : Cond.code y bytes maxL ret ∈ wAll) (hd0 : y.cls ≠ "java/lang/invoke/MethodHandle" ∧ y.cls ≠ "java/lang/invoke/VarHandle" ∧ (parseMethodDescriptor y.desc).map (fun d => d.parameters.length) = some n) (hR : rm.frames + 1 ≤ R.frames ∧ 8 + (maxL + 11) + rm.locals ≤ R.locals)
    (hn : As.length = n) (hst : stk = As.reverse ++ .ref b :: st) (hW : (st.map fun v => v.category).sum ≤ 8) (hf : cells + rm.cells ≤ R.cells ∧ slots + rm.slots ≤ R.slots) (hd : decode cc pc = .ok (.invokevirtual index, 3))
    (kk : ∀ (r : Int32) (w1 : Wd), Q1 r w1 → Gw l G L0 p e R s m args below meth c nL (cells + rm.cells) (slots + rm.slots) Q w1 (pc + 3) lv (.int r :: st)) : Gw l G L0 p e R s m args below meth c nL cells slots Q w pc lv stk := by
  intro H locs ls hG hS hl
  subst hst
  exact va_calli (va_runV X.1 hM ⟨callB_of (ws' := wAll) n X.1.2.2.2.2 (wA_good q5) rfl rfl rfl (X.1.2.2.2.2 _ q4) (X.1.2.2.2.2 _ q1) hd0 hR, X.1.2.2.2.2 _ q2, X.1.2.2.2.2 _ q3⟩ ⟨gPc_blind, va_recv X.2.2.2.2.1 (gw_one hG hk h0 he) (q0 := 0) hc rfl, fun U hU hW => ⟨rfl, GS.call X.2.2.2 hS hU hW, by rw [hU]; exact hG⟩⟩ rfl hn hl.1 rfl (lv_room hW) hd hf) hS (fun q _ h => h) (fun q h => h) (fun r u t H1 locs1 ht hvm hq hB hz hk1 hS1 => kk r u hq H1 locs1 ls (by rw [← ht]; exact hB) hS1 hl)
theorem g_callV_q (X : GC l G L0 p s m args meth c cc nL own) {y : MethodName} {bytes : ByteArray} {maxL n index : Nat} {ret : Option FieldType} {rm : Room} {b : Nat} {C : String} {T : u_T} {N ci k : Nat} {fs : List Value} {As stk : List Value} {Q1 : Option Nat → Wd → Prop} (hM : GMq l G L0 y bytes maxL ret rm (.ref b :: As) w Q1) (hc : vwCl[ci]? = some (C, T, N)) (h0 : k ≠ 0 ∧ k ≠ 15) (hk : w.K b = k) (he : wE G w k b = .inr (ci, fs)) 
    (q1 : Cond.methodLink own index y ∈ wAll) (q2 : Cond.instanceMethod y ∈ wAll) (q3 : Cond.selects C y y ∈ wAll) (q4 : Cond.initialized y.cls ∈ wAll) (q5 : Cond.code y bytes maxL ret ∈ wAll) (hd0 : y.cls ≠ "java/lang/invoke/MethodHandle" ∧ y.cls ≠ "java/lang/invoke/VarHandle" ∧ (parseMethodDescriptor y.desc).map (fun d => d.parameters.length) = some n) (hR : rm.frames + 1 ≤ R.frames ∧ 8 + (maxL + 11) + rm.locals ≤ R.locals)
    (hn : As.length = n) (hst : stk = As.reverse ++ .ref b :: st) (hW : (st.map fun v => v.category).sum ≤ 8) (hf : cells + rm.cells ≤ R.cells ∧ slots + rm.slots ≤ R.slots) (hd : decode cc pc = .ok (.invokevirtual index, 3))
    (kk : ∀ (r : Option Nat) (w1 : Wd), Q1 r w1 → Gw l G L0 p e R s m args below meth c nL (cells + rm.cells) (slots + rm.slots) Q w1 (pc + 3) lv (va_rf r :: st)) : Gw l G L0 p e R s m args below meth c nL cells slots Q w pc lv stk := by
  intro H locs ls hG hS hl
  subst hst
  exact va_callq (va_runV X.1 hM ⟨callB_of (ws' := wAll) n X.1.2.2.2.2 (wA_good q5) rfl rfl rfl (X.1.2.2.2.2 _ q4) (X.1.2.2.2.2 _ q1) hd0 hR, X.1.2.2.2.2 _ q2, X.1.2.2.2.2 _ q3⟩ ⟨gPc_blind, va_recv X.2.2.2.2.1 (gw_one hG hk h0 he) (q0 := 0) hc rfl, fun U hU hW => ⟨rfl, GS.call X.2.2.2 hS hU hW, by rw [hU]; exact hG⟩⟩ rfl hn hl.1 rfl (lv_room hW) hd hf) hS (fun q _ h => h) (fun q h => h) (fun r u t H1 locs1 ht hvm hq hB hz hk1 hS1 => kk r u hq H1 locs1 ls (by rw [← ht]; exact hB) hS1 hl)
theorem g_callV_v (X : GC l G L0 p s m args meth c cc nL own) {y : MethodName} {bytes : ByteArray} {maxL n index : Nat} {ret : Option FieldType} {rm : Room} {b : Nat} {C : String} {T : u_T} {N ci k : Nat} {fs : List Value} {As stk : List Value} {Q1 : Wd → Prop} (hM : GMv l G L0 y bytes maxL ret rm (.ref b :: As) w Q1) (hc : vwCl[ci]? = some (C, T, N)) (h0 : k ≠ 0 ∧ k ≠ 15) (hk : w.K b = k) (he : wE G w k b = .inr (ci, fs)) 
    (q1 : Cond.methodLink own index y ∈ wAll) (q2 : Cond.instanceMethod y ∈ wAll) (q3 : Cond.selects C y y ∈ wAll) (q4 : Cond.initialized y.cls ∈ wAll) (q5 : Cond.code y bytes maxL ret ∈ wAll) (hd0 : y.cls ≠ "java/lang/invoke/MethodHandle" ∧ y.cls ≠ "java/lang/invoke/VarHandle" ∧ (parseMethodDescriptor y.desc).map (fun d => d.parameters.length) = some n) (hR : rm.frames + 1 ≤ R.frames ∧ 8 + (maxL + 11) + rm.locals ≤ R.locals)
    (hn : As.length = n) (hst : stk = As.reverse ++ .ref b :: st) (hW : (st.map fun v => v.category).sum ≤ 8) (hf : cells + rm.cells ≤ R.cells ∧ slots + rm.slots ≤ R.slots) (hd : decode cc pc = .ok (.invokevirtual index, 3))
    (kk : ∀ w1 : Wd, Q1 w1 → Gw l G L0 p e R s m args below meth c nL (cells + rm.cells) (slots + rm.slots) Q w1 (pc + 3) lv (st)) : Gw l G L0 p e R s m args below meth c nL cells slots Q w pc lv stk := by
  intro H locs ls hG hS hl
  subst hst
  exact va_callv (va_runV X.1 hM ⟨callB_of (ws' := wAll) n X.1.2.2.2.2 (wA_good q5) rfl rfl rfl (X.1.2.2.2.2 _ q4) (X.1.2.2.2.2 _ q1) hd0 hR, X.1.2.2.2.2 _ q2, X.1.2.2.2.2 _ q3⟩ ⟨gPc_blind, va_recv X.2.2.2.2.1 (gw_one hG hk h0 he) (q0 := 0) hc rfl, fun U hU hW => ⟨rfl, GS.call X.2.2.2 hS hU hW, by rw [hU]; exact hG⟩⟩ rfl hn hl.1 rfl (lv_room hW) hd hf) hS (fun q _ h => h) (fun q h => h) (fun u t H1 locs1 ht hvm hq hB hz hk1 hS1 => kk u hq H1 locs1 ls (by rw [← ht]; exact hB) hS1 hl)
theorem g_callS_i (X : GC l G L0 p s m args meth c cc nL own) {y : MethodName} {bytes : ByteArray} {maxL n index : Nat} {ret : Option FieldType} {rm : Room} {As stk : List Value} {Q1 : Int32 → Wd → Prop} (hM : GMi l G L0 y bytes maxL ret rm (As) w Q1) 
    (q1 : Cond.methodLink own index y ∈ wAll) (q3 : Cond.static y ∈ wAll) (q4 : Cond.initialized y.cls ∈ wAll) (q5 : Cond.code y bytes maxL ret ∈ wAll) (hd0 : y.cls ≠ "java/lang/invoke/MethodHandle" ∧ y.cls ≠ "java/lang/invoke/VarHandle" ∧ (parseMethodDescriptor y.desc).map (fun d => d.parameters.length) = some n) (hR : rm.frames + 1 ≤ R.frames ∧ 8 + (maxL + 11) + rm.locals ≤ R.locals)
    (hn : As.length = n) (hst : stk = As.reverse ++ st) (hW : (st.map fun v => v.category).sum ≤ 8) (hf : cells + rm.cells ≤ R.cells ∧ slots + rm.slots ≤ R.slots) (hd : decode cc pc = .ok (.invokestatic index, 3))
    (kk : ∀ (r : Int32) (w1 : Wd), Q1 r w1 → Gw l G L0 p e R s m args below meth c nL (cells + rm.cells) (slots + rm.slots) Q w1 (pc + 3) lv (.int r :: st)) : Gw l G L0 p e R s m args below meth c nL cells slots Q w pc lv stk := by
  intro H locs ls hG hS hl
  subst hst
  exact va_calli (va_runS X.1 hM ⟨callB_of (ws' := wAll) n X.1.2.2.2.2 (wA_good q5) rfl rfl rfl (X.1.2.2.2.2 _ q4) (X.1.2.2.2.2 _ q1) hd0 hR, X.1.2.2.2.2 _ q3⟩ ⟨gPc_blind, fun U hU hW => ⟨rfl, GS.call X.2.2.2 hS hU hW, by rw [hU]; exact hG⟩⟩ rfl hn hl.1 rfl (lv_room hW) hd hf) hS (fun q _ h => h) (fun q h => h) (fun r u t H1 locs1 ht hvm hq hB hz hk1 hS1 => kk r u hq H1 locs1 ls (by rw [← ht]; exact hB) hS1 hl)
theorem g_callS_q (X : GC l G L0 p s m args meth c cc nL own) {y : MethodName} {bytes : ByteArray} {maxL n index : Nat} {ret : Option FieldType} {rm : Room} {As stk : List Value} {Q1 : Option Nat → Wd → Prop} (hM : GMq l G L0 y bytes maxL ret rm (As) w Q1) 
    (q1 : Cond.methodLink own index y ∈ wAll) (q3 : Cond.static y ∈ wAll) (q4 : Cond.initialized y.cls ∈ wAll) (q5 : Cond.code y bytes maxL ret ∈ wAll) (hd0 : y.cls ≠ "java/lang/invoke/MethodHandle" ∧ y.cls ≠ "java/lang/invoke/VarHandle" ∧ (parseMethodDescriptor y.desc).map (fun d => d.parameters.length) = some n) (hR : rm.frames + 1 ≤ R.frames ∧ 8 + (maxL + 11) + rm.locals ≤ R.locals)
    (hn : As.length = n) (hst : stk = As.reverse ++ st) (hW : (st.map fun v => v.category).sum ≤ 8) (hf : cells + rm.cells ≤ R.cells ∧ slots + rm.slots ≤ R.slots) (hd : decode cc pc = .ok (.invokestatic index, 3))
    (kk : ∀ (r : Option Nat) (w1 : Wd), Q1 r w1 → Gw l G L0 p e R s m args below meth c nL (cells + rm.cells) (slots + rm.slots) Q w1 (pc + 3) lv (va_rf r :: st)) : Gw l G L0 p e R s m args below meth c nL cells slots Q w pc lv stk := by
  intro H locs ls hG hS hl
  subst hst
  exact va_callq (va_runS X.1 hM ⟨callB_of (ws' := wAll) n X.1.2.2.2.2 (wA_good q5) rfl rfl rfl (X.1.2.2.2.2 _ q4) (X.1.2.2.2.2 _ q1) hd0 hR, X.1.2.2.2.2 _ q3⟩ ⟨gPc_blind, fun U hU hW => ⟨rfl, GS.call X.2.2.2 hS hU hW, by rw [hU]; exact hG⟩⟩ rfl hn hl.1 rfl (lv_room hW) hd hf) hS (fun q _ h => h) (fun q h => h) (fun r u t H1 locs1 ht hvm hq hB hz hk1 hS1 => kk r u hq H1 locs1 ls (by rw [← ht]; exact hB) hS1 hl)
theorem g_callS_v (X : GC l G L0 p s m args meth c cc nL own) {y : MethodName} {bytes : ByteArray} {maxL n index : Nat} {ret : Option FieldType} {rm : Room} {As stk : List Value} {Q1 : Wd → Prop} (hM : GMv l G L0 y bytes maxL ret rm (As) w Q1) 
    (q1 : Cond.methodLink own index y ∈ wAll) (q3 : Cond.static y ∈ wAll) (q4 : Cond.initialized y.cls ∈ wAll) (q5 : Cond.code y bytes maxL ret ∈ wAll) (hd0 : y.cls ≠ "java/lang/invoke/MethodHandle" ∧ y.cls ≠ "java/lang/invoke/VarHandle" ∧ (parseMethodDescriptor y.desc).map (fun d => d.parameters.length) = some n) (hR : rm.frames + 1 ≤ R.frames ∧ 8 + (maxL + 11) + rm.locals ≤ R.locals)
    (hn : As.length = n) (hst : stk = As.reverse ++ st) (hW : (st.map fun v => v.category).sum ≤ 8) (hf : cells + rm.cells ≤ R.cells ∧ slots + rm.slots ≤ R.slots) (hd : decode cc pc = .ok (.invokestatic index, 3))
    (kk : ∀ w1 : Wd, Q1 w1 → Gw l G L0 p e R s m args below meth c nL (cells + rm.cells) (slots + rm.slots) Q w1 (pc + 3) lv (st)) : Gw l G L0 p e R s m args below meth c nL cells slots Q w pc lv stk := by
  intro H locs ls hG hS hl
  subst hst
  exact va_callv (va_runS X.1 hM ⟨callB_of (ws' := wAll) n X.1.2.2.2.2 (wA_good q5) rfl rfl rfl (X.1.2.2.2.2 _ q4) (X.1.2.2.2.2 _ q1) hd0 hR, X.1.2.2.2.2 _ q3⟩ ⟨gPc_blind, fun U hU hW => ⟨rfl, GS.call X.2.2.2 hS hU hW, by rw [hU]; exact hG⟩⟩ rfl hn hl.1 rfl (lv_room hW) hd hf) hS (fun q _ h => h) (fun q h => h) (fun u t H1 locs1 ht hvm hq hB hz hk1 hS1 => kk u hq H1 locs1 ls (by rw [← ht]; exact hB) hS1 hl)
theorem g_callI_v (X : GC l G L0 p s m args meth c cc nL own) {y : MethodName} {bytes : ByteArray} {maxL n index : Nat} {rm : Room} {b : Nat} {As stk : List Value} {Q1 : Wd → Prop} (hM : GMv l G L0 y bytes maxL none rm (.ref b :: As) w Q1) 
    (q1 : Cond.methodLink own index y ∈ wAll) (q2 : Cond.instanceMethod y ∈ wAll) (hy1 : y.name = "<init>") (q4 : Cond.initialized y.cls ∈ wAll) (q5 : Cond.code y bytes maxL none ∈ wAll) (hd0 : y.cls ≠ "java/lang/invoke/MethodHandle" ∧ y.cls ≠ "java/lang/invoke/VarHandle" ∧ (parseMethodDescriptor y.desc).map (fun d => d.parameters.length) = some n) (hR : rm.frames + 1 ≤ R.frames ∧ 8 + (maxL + 11) + rm.locals ≤ R.locals)
    (hn : As.length = n) (hst : stk = As.reverse ++ .ref b :: st) (hW : (st.map fun v => v.category).sum ≤ 8) (hf : cells + rm.cells ≤ R.cells ∧ slots + rm.slots ≤ R.slots) (hd : decode cc pc = .ok (.invokespecial index, 3))
    (kk : ∀ w1 : Wd, Q1 w1 → Gw l G L0 p e R s m args below meth c nL (cells + rm.cells) (slots + rm.slots) Q w1 (pc + 3) lv (st)) : Gw l G L0 p e R s m args below meth c nL cells slots Q w pc lv stk := by
  intro H locs ls hG hS hl
  subst hst
  exact va_callv (va_runI X.1 hM ⟨callB_of (ws' := wAll) n X.1.2.2.2.2 (wA_good q5) rfl rfl rfl (X.1.2.2.2.2 _ q4) (X.1.2.2.2.2 _ q1) hd0 hR, hy1, X.1.2.2.2.2 _ q2⟩ ⟨gPc_blind, fun U hU hW => ⟨rfl, GS.call X.2.2.2 hS hU hW, by rw [hU]; exact hG⟩⟩ rfl hn hl.1 rfl (lv_room hW) hd hf) hS (fun q _ h => h) (fun q h => h) (fun u t H1 locs1 ht hvm hq hB hz hk1 hS1 => kk u hq H1 locs1 ls (by rw [← ht]; exact hB) hS1 hl)
theorem vx_callq {S SX : Type} {post : Option Nat → S → Prop} {px : SX → Prop} {B : S → State → Prop} {BX : String → SX → State → Prop} {AX A0 A1 free : Nat → Prop} {H H0 : Heap} {locs : List Loc} {a : Array Value} {ls : Array Slot} {st0 rest : List Value} (hr : vx_Run p l e R s m args below meth c H locs cells slots mc ms (F0 m pc ls st0) rest (va_Qq post B A1 a) (vx_X px BX AX) free) (hS : va_S A0 H0 H locs) (hA : ∀ q, q < H.size → A1 q → A0 q) (hf : ∀ q, free q → A0 q) (hAX : ∀ q, q < H.size → AX q → A0 q)
    (kx : ∀ (E : String) (ce : Cell) (q9 : Addr) (u : SX) (t : State) (H1 : Heap) (locs1 : List Loc), t.heap = H1 → s.vm.Alike t.vm → px u → BX E u t → H.size ≤ H1.size → (∀ q : Nat, q < H.size → ¬ AX q → H1[q]? = H[q]?) → va_S A0 H0 H1 locs1 → H1[q9]? = some ce → ce.vm = .none → s.vm.findClass E = some ce.cls → vx_W p l e R s m args below meth c H1 locs1 (cells + mc) (slots + ms) Q (F0 m pc ls rest) q9)
    (kk : ∀ (r : Option Nat) (u : S) (t : State) (H1 : Heap) (locs1 : List Loc), t.heap = H1 → s.vm.Alike t.vm → post r u → B u t → H.size ≤ H1.size → (∀ q : Nat, q < H.size → ¬ A1 q → H1[q]? = H[q]?) → va_S A0 H0 H1 locs1 → W p l e R s m args below meth c H1 locs1 (cells + mc) (slots + ms) Q (F0 m (pc + 3) ls (va_rf r :: rest))) : W p l e R s m args below meth c H locs cells slots Q (F0 m pc ls st0) := by
  intro T hT X
  rcases hr T hT X with ⟨v, st₀, t, T', L, h0, X', hL, e1, e2, ⟨⟨r, u, hv, hp, hb⟩, hF⟩, st⟩ | ⟨q, st₀, t, T', L, E, ce, h0, X', hL, e1, e2, ⟨u, hp, hb, hF⟩, hce, hcv, hcl, st⟩
  · cases hv
    obtain ⟨k1, k2, k3⟩ := vx_keep h0 e1 hS hA hf hL hF
    obtain ⟨t2, a1, b1⟩ := kk r u t T'.heap (locs ++ L) e1.symm (by rw [← e2]; exact X'.warmed.alike) hp hb k1 k2 k3 T' rfl X'
    exact ⟨t2, st t2 a1, b1⟩
  · obtain ⟨k1, k2, k3⟩ := vx_keep h0 e1 hS hAX hf hL hF
    obtain ⟨t2, a1, b1⟩ := kx E ce q u t T'.heap (locs ++ L) e1.symm (by rw [← e2]; exact X'.warmed.alike) hp hb k1 k2 k3 (by rw [e1]; exact hce) hcv hcl T' rfl X'
    exact ⟨t2, st.trans a1, b1⟩
theorem g_callXV_q (X : GC l G L0 p s m args meth c cc nL own) {y : MethodName} {bytes : ByteArray} {maxL n index : Nat} {ret : Option FieldType} {rm : Room} {b : Nat} {C : String} {T : u_T} {N ci k : Nat} {fs : List Value} {As stk : List Value} {Q1 : Option Nat → Wd → Prop} {QX1 : String → Wd → Prop} {Qc : Array Value → State → Outcome → State → Prop} {QX : String → Wd → Prop} (htab : ∀ x ∈ c.exceptionTable.toList, False) (hM : GXq l G L0 y bytes maxL ret rm (.ref b :: As) w Q1 QX1) (hc : vwCl[ci]? = some (C, T, N)) (h0 : k ≠ 0 ∧ k ≠ 15) (hk : w.K b = k) (he : wE G w k b = .inr (ci, fs)) 
    (q1 : Cond.methodLink own index y ∈ wAll) (q2 : Cond.instanceMethod y ∈ wAll) (q3 : Cond.selects C y y ∈ wAll) (q4 : Cond.initialized y.cls ∈ wAll) (q5 : Cond.code y bytes maxL ret ∈ wAll) (hd0 : y.cls ≠ "java/lang/invoke/MethodHandle" ∧ y.cls ≠ "java/lang/invoke/VarHandle" ∧ (parseMethodDescriptor y.desc).map (fun d => d.parameters.length) = some n) (hR : rm.frames + 1 ≤ R.frames ∧ 8 + (maxL + 11) + rm.locals ≤ R.locals)
    (hn : As.length = n) (hst : stk = As.reverse ++ .ref b :: st) (hW : (st.map fun v => v.category).sum ≤ 8) (hf : cells + rm.cells ≤ R.cells ∧ slots + rm.slots ≤ R.slots) (hd : decode cc pc = .ok (.invokevirtual index, 3))
    (hcm : cells + rm.cells ≤ mc) (hsm : slots + rm.slots ≤ ms) (kx : ∀ (E : String) (w1 : Wd), QX1 E w1 → QX E w1)
    (kk : ∀ (r : Option Nat) (w1 : Wd), Q1 r w1 → Gw l G L0 p e R s m args below meth c nL (cells + rm.cells) (slots + rm.slots) (vx_MQ below Qc (gXC G L0 QX) args s mc ms (GA L0)) w1 (pc + 3) lv (va_rf r :: st)) : Gw l G L0 p e R s m args below meth c nL cells slots (vx_MQ below Qc (gXC G L0 QX) args s mc ms (GA L0)) w pc lv stk := by
  intro H locs ls hG hS hl
  subst hst
  exact vx_callq (vx_runV X.1 hM ⟨callB_of (ws' := wAll) n X.1.2.2.2.2 (wA_good q5) rfl rfl rfl (X.1.2.2.2.2 _ q4) (X.1.2.2.2.2 _ q1) hd0 hR, X.1.2.2.2.2 _ q2, X.1.2.2.2.2 _ q3⟩ ⟨gPc_blind, va_recv X.2.2.2.2.1 (gw_one hG hk h0 he) (q0 := 0) hc rfl, fun U hU hW => ⟨rfl, GS.call X.2.2.2 hS hU hW, by rw [hU]; exact hG⟩⟩ rfl hn hl.1 rfl (lv_room hW) hd hf) hS (fun q _ h => h) (fun q h => h) (fun q _ h => h)
    (fun E ce q9 u t H1 locs1 ht hvm _ hB hz hk1 hS1 hce hcv hcl => vx_out (fun x hx => (htab x hx).elim) X.2.1 hce hcv hcl (fun t1 ht1 hvm1 => ⟨u, trivial, ⟨kx E u hB.1, by show GWd G L0 u t1.heap; rw [ht1, ← ht]; exact hB.2⟩, hS1.F ht1⟩) hS1.2.2 hcm hsm)
    (fun r u t H1 locs1 ht hvm hq hB hz hk1 hS1 => kk r u hq H1 locs1 ls (by rw [← ht]; exact hB) hS1 hl)
theorem g_callXS_v (X : GC l G L0 p s m args meth c cc nL own) {y : MethodName} {bytes : ByteArray} {maxL n index : Nat} {ret : Option FieldType} {rm : Room} {As stk : List Value} {Q1 : Wd → Prop} {QX1 : String → Wd → Prop} {Qc : Array Value → State → Outcome → State → Prop} {QX : String → Wd → Prop} (htab : ∀ x ∈ c.exceptionTable.toList, False) (hM : GXv l G L0 y bytes maxL ret rm (As) w Q1 QX1) 
    (q1 : Cond.methodLink own index y ∈ wAll) (q3 : Cond.static y ∈ wAll) (q4 : Cond.initialized y.cls ∈ wAll) (q5 : Cond.code y bytes maxL ret ∈ wAll) (hd0 : y.cls ≠ "java/lang/invoke/MethodHandle" ∧ y.cls ≠ "java/lang/invoke/VarHandle" ∧ (parseMethodDescriptor y.desc).map (fun d => d.parameters.length) = some n) (hR : rm.frames + 1 ≤ R.frames ∧ 8 + (maxL + 11) + rm.locals ≤ R.locals)
    (hn : As.length = n) (hst : stk = As.reverse ++ st) (hW : (st.map fun v => v.category).sum ≤ 8) (hf : cells + rm.cells ≤ R.cells ∧ slots + rm.slots ≤ R.slots) (hd : decode cc pc = .ok (.invokestatic index, 3))
    (hcm : cells + rm.cells ≤ mc) (hsm : slots + rm.slots ≤ ms) (kx : ∀ (E : String) (w1 : Wd), QX1 E w1 → QX E w1)
    (kk : ∀ w1 : Wd, Q1 w1 → Gw l G L0 p e R s m args below meth c nL (cells + rm.cells) (slots + rm.slots) (vx_MQ below Qc (gXC G L0 QX) args s mc ms (GA L0)) w1 (pc + 3) lv (st)) : Gw l G L0 p e R s m args below meth c nL cells slots (vx_MQ below Qc (gXC G L0 QX) args s mc ms (GA L0)) w pc lv stk := by
  intro H locs ls hG hS hl
  subst hst
  exact vx_callv (vx_runS X.1 hM ⟨callB_of (ws' := wAll) n X.1.2.2.2.2 (wA_good q5) rfl rfl rfl (X.1.2.2.2.2 _ q4) (X.1.2.2.2.2 _ q1) hd0 hR, X.1.2.2.2.2 _ q3⟩ ⟨gPc_blind, fun U hU hW => ⟨rfl, GS.call X.2.2.2 hS hU hW, by rw [hU]; exact hG⟩⟩ rfl hn hl.1 rfl (lv_room hW) hd hf) hS (fun q _ h => h) (fun q h => h) (fun q _ h => h)
    (fun E ce q9 u t H1 locs1 ht hvm _ hB hz hk1 hS1 hce hcv hcl => vx_out (fun x hx => (htab x hx).elim) X.2.1 hce hcv hcl (fun t1 ht1 hvm1 => ⟨u, trivial, ⟨kx E u hB.1, by show GWd G L0 u t1.heap; rw [ht1, ← ht]; exact hB.2⟩, hS1.F ht1⟩) hS1.2.2 hcm hsm)
    (fun u t H1 locs1 ht hvm hq hB hz hk1 hS1 => kk u hq H1 locs1 ls (by rw [← ht]; exact hB) hS1 hl)
theorem g_callYV_i (X : GC l G L0 p s m args meth c cc nL own) {y : MethodName} {bytes : ByteArray} {maxL n index : Nat} {ret : Option FieldType} {rm : Room} {b : Nat} {C : String} {T : u_T} {N ci k : Nat} {fs : List Value} {As stk : List Value} {Q1 : Int32 → Wd → Prop} {QX1 : String → Wd → Prop} {Q : State → Prop} (hM : GXi l G L0 y bytes maxL ret rm (.ref b :: As) w Q1 QX1) (hc : vwCl[ci]? = some (C, T, N)) (h0 : k ≠ 0 ∧ k ≠ 15) (hk : w.K b = k) (he : wE G w k b = .inr (ci, fs)) 
    (q1 : Cond.methodLink own index y ∈ wAll) (q2 : Cond.instanceMethod y ∈ wAll) (q3 : Cond.selects C y y ∈ wAll) (q4 : Cond.initialized y.cls ∈ wAll) (q5 : Cond.code y bytes maxL ret ∈ wAll) (hd0 : y.cls ≠ "java/lang/invoke/MethodHandle" ∧ y.cls ≠ "java/lang/invoke/VarHandle" ∧ (parseMethodDescriptor y.desc).map (fun d => d.parameters.length) = some n) (hR : rm.frames + 1 ≤ R.frames ∧ 8 + (maxL + 11) + rm.locals ≤ R.locals)
    (hn : As.length = n) (hst : stk = As.reverse ++ .ref b :: st) (hW : (st.map fun v => v.category).sum ≤ 8) (hf : cells + rm.cells ≤ R.cells ∧ slots + rm.slots ≤ R.slots) (hd : decode cc pc = .ok (.invokevirtual index, 3))
    (kx : ∀ (E : String) (w1 : Wd), QX1 E w1 → ∀ (H : Heap) (locs : List Loc) (ls : Array Slot) (ce : Cell) (q9 : Addr), GWd G L0 w1 H → va_S (GA L0) s.heap H locs → lv_has ls nL (lvV lv) → H[q9]? = some ce → ce.vm = .none → s.vm.findClass E = some ce.cls → vx_W p l e R s m args below meth c H locs (cells + rm.cells) (slots + rm.slots) Q (F0 m pc ls st) q9)
    (kk : ∀ (r : Int32) (w1 : Wd), Q1 r w1 → Gw l G L0 p e R s m args below meth c nL (cells + rm.cells) (slots + rm.slots) Q w1 (pc + 3) lv (.int r :: st)) : Gw l G L0 p e R s m args below meth c nL cells slots Q w pc lv stk := by
  intro H locs ls hG hS hl
  subst hst
  exact vx_calli (vx_runV X.1 hM ⟨callB_of (ws' := wAll) n X.1.2.2.2.2 (wA_good q5) rfl rfl rfl (X.1.2.2.2.2 _ q4) (X.1.2.2.2.2 _ q1) hd0 hR, X.1.2.2.2.2 _ q2, X.1.2.2.2.2 _ q3⟩ ⟨gPc_blind, va_recv X.2.2.2.2.1 (gw_one hG hk h0 he) (q0 := 0) hc rfl, fun U hU hW => ⟨rfl, GS.call X.2.2.2 hS hU hW, by rw [hU]; exact hG⟩⟩ rfl hn hl.1 rfl (lv_room hW) hd hf) hS (fun q _ h => h) (fun q h => h) (fun q _ h => h)
    (fun E ce q9 u t H1 locs1 ht hvm _ hB hz hk1 hS1 hce hcv hcl => kx E u hB.1 H1 locs1 ls ce q9 (by rw [← ht]; exact hB.2) hS1 hl hce hcv hcl)
    (fun r u t H1 locs1 ht hvm hq hB hz hk1 hS1 => kk r u hq H1 locs1 ls (by rw [← ht]; exact hB) hS1 hl)
theorem g_callFV_i (X : GC l G L0 p s m args meth c cc nL own) {y : MethodName} {bytes : ByteArray} {maxL n index : Nat} {ret : Option FieldType} {rm : Room} {b : Nat} {C : String} {T : u_T} {N ci k : Nat} {fs : List Value} {As stk : List Value} {Q1 : Int32 → Wd → Prop} {Q : State → Prop} (hM : GXi l G L0 y bytes maxL ret rm (.ref b :: As) w Q1 (fun _ _ => False)) (hc : vwCl[ci]? = some (C, T, N)) (h0 : k ≠ 0 ∧ k ≠ 15) (hk : w.K b = k) (he : wE G w k b = .inr (ci, fs)) 
    (q1 : Cond.methodLink own index y ∈ wAll) (q2 : Cond.instanceMethod y ∈ wAll) (q3 : Cond.selects C y y ∈ wAll) (q4 : Cond.initialized y.cls ∈ wAll) (q5 : Cond.code y bytes maxL ret ∈ wAll) (hd0 : y.cls ≠ "java/lang/invoke/MethodHandle" ∧ y.cls ≠ "java/lang/invoke/VarHandle" ∧ (parseMethodDescriptor y.desc).map (fun d => d.parameters.length) = some n) (hR : rm.frames + 1 ≤ R.frames ∧ 8 + (maxL + 11) + rm.locals ≤ R.locals)
    (hn : As.length = n) (hst : stk = As.reverse ++ .ref b :: st) (hW : (st.map fun v => v.category).sum ≤ 8) (hf : cells + rm.cells ≤ R.cells ∧ slots + rm.slots ≤ R.slots) (hd : decode cc pc = .ok (.invokevirtual index, 3))
    (kk : ∀ (r : Int32) (w1 : Wd), Q1 r w1 → Gw l G L0 p e R s m args below meth c nL (cells + rm.cells) (slots + rm.slots) Q w1 (pc + 3) lv (.int r :: st)) : Gw l G L0 p e R s m args below meth c nL cells slots Q w pc lv stk :=
  g_callYV_i X hM hc h0 hk he q1 q2 q3 q4 q5 hd0 hR hn hst hW hf hd (fun E w1 hE => hE.elim) kk
theorem g_objInit (X : GC l G L0 p s m args meth c cc nL own) {idx b : Nat} (q1 : Cond.methodLink own idx objectInit ∈ wAll) (q2 : Cond.instanceMethod objectInit ∈ wAll) (q3 : Cond.code objectInit ⟨#[0xb1]⟩ 1 none ∈ wAll) (hf : 1 ≤ R.frames) (hlo : (st.map fun v => v.category).sum + 12 ≤ R.locals) (hd : decode cc pc = .ok (.invokespecial idx, 3))
    (kk : Gw l G L0 p e R s m args below meth c nL cells slots Q w (pc + 3) lv st) : Gw l G L0 p e R s m args below meth c nL cells slots Q w pc lv (.ref b :: st) :=
  fun H locs ls hG hS hl => W.objInit X.1.1 X.1.2.1 X.1.2.2.2.1 (X.1.2.2.2.2 _ q1) (X.1.2.2.2.2 _ q2) (X.1.2.2.2.2 _ q3) rfl (hl.1.trans X.1.2.2.1.symm) rfl hd hf (by show 2 * 0 + _ + 12 ≤ _; omega) (kk H locs ls hG hS hl)
theorem g_throw (X : GC l G L0 p s m args meth c cc nL own) {Qc : Array Value → State → Outcome → State → Prop} {QX : String → Wd → Prop} {cls text : String} {ik is ic : Nat} (htab : ∀ x ∈ c.exceptionTable.toList, False) (hcls : Bundle.fit cls = true) (q1 : Cond.classLink own ik cls ∈ wAll) (q2 : Cond.initialized cls ∈ wAll) (q3 : (own, is, text) ∈ gStr)
    (hg : ∀ x ∈ (vx_atS own ic cls gN2).filter goodWord, x ∈ wAll) (hb : ∀ x ∈ (vx_atS own ic cls gN2).filter (fun x => !goodWord x), x ∈ gNG) (ho : ∀ x ∈ vx_atS own ic cls gN2, vx_ot x = true)
    (d0 : decode cc pc = .ok (.new ik, 3)) (d3 : decode cc (pc + 3) = .ok (.dup, 1)) (d4 : (decode cc (pc + 4) = .ok (.ldc is, 2) ∧ decode cc (pc + 6) = .ok (.invokespecial ic, 3) ∧ decode cc (pc + 9) = .ok (.athrow, 1)) ∨ (decode cc (pc + 4) = .ok (.ldc_w is, 3) ∧ decode cc (pc + 7) = .ok (.invokespecial ic, 3) ∧ decode cc (pc + 10) = .ok (.athrow, 1)))
    (hf : 6 ≤ R.frames) (hlo : (st.map fun v => v.category).sum + 82 ≤ R.locals) (hRc : cells + 1 ≤ R.cells) (hRs : slots + 6 ≤ R.slots) (hc : cells + 1 ≤ mc) (hs : slots + 6 ≤ ms) (hq : QX cls w) : Gw l G L0 p e R s m args below meth c nL cells slots (vx_MQ below Qc (gXC G L0 QX) args s mc ms (GA L0)) w pc lv st := by
  intro H locs ls hG hS hl
  obtain ⟨sa, hsa⟩ := X.2.2.2.2.2.2.2.2.2.2.2.2 _ q3
  have hat : ∀ x ∈ vx_atS own ic cls gN2, x.before args s = true := vx_hat (fun x h => X.1.2.2.2.2 x (hg x h)) hb (fun x hx => by
    rcases List.mem_append.mp hx with h | h
    · obtain ⟨q, hq, rfl⟩ := List.mem_map.mp h
      exact va_Nw.use rfl (X.2.2.2.2.2.2.1 q hq)
    · obtain ⟨q, hq, rfl⟩ := List.mem_map.mp h
      exact va_Nw.use rfl (X.2.2.2.2.2.2.2.2.2.2.2.1 q hq))
  have hot : ∀ x ∈ Cond.classLink own ik cls :: Cond.initialized cls :: vx_atS own ic cls gN2, vx_ot x = true := fun x hx => by
    rcases List.mem_cons.mp hx with h | h
    · rw [h]; rfl
    · rcases List.mem_cons.mp h with h | h
      · rw [h]; rfl
      · exact ho x h
  have hx : ∀ t : State, s.vm.Alike t.vm → H.size ≤ t.heap.size → (∀ q : Nat, q < H.size → t.heap[q]? = H[q]?) → gXC G L0 QX cls s t := by
    intro t _ h1 h2
    refine ⟨w, trivial, ⟨hq, gw_kept hG h2⟩, Nat.le_trans hS.1 h1, fun q h3 h4 => ?_⟩
    rw [h2 q (Nat.lt_of_lt_of_le h3 hS.1)]
    exact hS.2.1 q h3 h4
  rcases d4 with ⟨d4, d6, d9⟩ | ⟨d4, d6, d9⟩
  · exact vx_throwS (names := gN2) X.1.1 X.1.2.1 X.2.2.1 X.1.2.2.2.1 hcls (by decide +kernel) (X.1.2.2.2.2 _ q1) (X.1.2.2.2.2 _ q2) hsa hat hot X.2.2.2.2.2.1.1 X.2.2.2.2.2.1.2.1 hS (hl.1.trans X.1.2.2.1.symm) d0 d3 d4 d6 d9 (fun x hx => (htab x hx).elim) (by show 2 + 3 < _; omega) (by show _ + (13 * (2 + 1) + 43) ≤ _; omega) hRc hRs X.2.1 hx hS.2.2 hc hs
  · exact vx_throwSW (names := gN2) X.1.1 X.1.2.1 X.2.2.1 X.1.2.2.2.1 hcls (by decide +kernel) (X.1.2.2.2.2 _ q1) (X.1.2.2.2.2 _ q2) hsa hat hot X.2.2.2.2.2.1.1 X.2.2.2.2.2.1.2.1 hS (hl.1.trans X.1.2.2.1.symm) d0 d3 d4 d6 d9 (fun x hx => (htab x hx).elim) (by show 2 + 3 < _; omega) (by show _ + (13 * (2 + 1) + 43) ≤ _; omega) hRc hRs X.2.1 hx hS.2.2 hc hs
end GR2
