-- ===== the words that last: one list for every method
def wAll : List Cond := lw_tbl.filter goodWord
theorem wA_in {i : Nat} {w : Cond} (h : lw_tbl[i]? = some w) (hg : goodWord w = true) : w ∈ wAll := List.mem_filter.mpr ⟨List.mem_of_getElem? h, hg⟩
theorem wA_ok {w : Cond} (h : w ∈ wAll) : (w.onTables && w.keeps) = true ∨ ∃ ty, w = .arrayClass ty := good_of_word (List.mem_filter.mp h).2
theorem wA_good {w : Cond} (h : w ∈ wAll) : GoodIn wAll (w :: wAll) := fun x hx => (List.mem_cons.mp hx).elim (fun e => by rw [e]; exact ⟨h, wA_ok h⟩) (fun h => ⟨h, wA_ok h⟩)
-- ===== the world: kinds by address; int fields, references; lengths and contents of arrays
def Wd : Type := (Nat → Nat) × (Nat → Nat → Int32) × (Nat → Nat → Option Nat) × (Nat → Nat) × (Nat → Nat → Int32) × (Nat → Nat → Option Nat) × (Nat → Nat → Int64)
def Wd.K (w : Wd) : Nat → Nat := w.1
def Wd.I (w : Wd) : Nat → Nat → Int32 := w.2.1
def Wd.R (w : Wd) : Nat → Nat → Option Nat := w.2.2.1
def Wd.N (w : Wd) : Nat → Nat := w.2.2.2.1
def Wd.A (w : Wd) : Nat → Nat → Int32 := w.2.2.2.2.1
def Wd.O (w : Wd) : Nat → Nat → Option Nat := w.2.2.2.2.2.1
def Wd.J (w : Wd) : Nat → Nat → Int64 := w.2.2.2.2.2.2
def up2 {α : Type} (f : Nat → Nat → α) (a b : Nat) (v : α) : Nat → Nat → α := fun x y => if x = a ∧ y = b then v else f x y
def Wd.setI (w : Wd) (f a : Nat) (v : Int32) : Wd := (w.K, up2 w.I f a v, w.R, w.N, w.A, w.O, w.J)
def Wd.setR (w : Wd) (f a : Nat) (v : Option Nat) : Wd := (w.K, w.I, up2 w.R f a v, w.N, w.A, w.O, w.J)
def Wd.setA (w : Wd) (a j : Nat) (v : Int32) : Wd := (w.K, w.I, w.R, w.N, up2 w.A a j v, w.O, w.J)
def Wd.setO (w : Wd) (a j : Nat) (v : Option Nat) : Wd := (w.K, w.I, w.R, w.N, w.A, up2 w.O a j v, w.J)
def Wd.setJ (w : Wd) (a j : Nat) (v : Int64) : Wd := (w.K, w.I, w.R, w.N, w.A, w.O, up2 w.J a j v)
def Wd.cpO (w : Wd) (a b sp dp n : Nat) : Wd := (w.K, w.I, w.R, w.N, w.A, va_up w.O b (va_cpy (w.O a) (w.O b) sp dp n), w.J)
def Wd.new (w : Wd) (k a : Nat) : Wd := (va_up w.K a k, fun f x => if x = a then 0 else w.I f x, fun f x => if x = a then none else w.R f x, w.N, w.A, w.O, w.J)
def Wd.newA (w : Wd) (k a n : Nat) : Wd := (va_up w.K a k, w.I, w.R, va_up w.N a n, fun x j => if x = a then 0 else w.A x j, fun x j => if x = a then none else w.O x j, fun x j => if x = a then 0 else w.J x j)
abbrev GT : Type := va_G × ClassId × ClassId × ClassId × ClassId × Nat
def shp (G : GT) (k : Nat) (I : Nat → Int32) (R : Nat → Option Nat) (n : Nat) (A : Nat → Int32) (O : Nat → Option Nat) (J : Nat → Int64) : va_E := match k with
  | 1 => .inr (1, [.int (I 100), .int (I 101), va_rf (R 102), va_rf (R 103), .int (I 104), .int (I 105), .int (I 106), .int (I 107)])
  | 2 => .inr (2, [.int (I 200), .int (I 201), .int (I 202), va_rf (R 203), .int (I 204), .int (I 205), .int (I 206), .int (I 207), va_rf (R 208), va_rf (R 209), .int (I 210), .int (I 211), .int (I 212)])
  | 3 => .inr (3, [va_rf (R 300), .int (I 301), .int (I 302), .int (I 303), .int (I 304), .int (I 305)])
  | 4 => .inr (4, [va_rf (R 400), va_rf (R 401), .int (I 402), .int (I 403)])
  | 6 => .inr (0, [.int (I 600), va_rf (R 601), .int (I 602)])
  | 11 => .inl (G.2.1, (n, .inl A))
  | 12 => .inl (G.2.2.1, (n, .inl A))
  | 13 => .inl (G.2.2.2.1, (n, .inr (.inr (.inr (.inr O)))))
  | _ => .inl (G.2.2.2.2.1, (n, .inr (.inl J)))
def wE (G : GT) (w : Wd) (k a : Nat) : va_E := shp G k (fun f => w.I f a) (fun f => w.R f a) (w.N a) (w.A a) (w.O a) (w.J a)
def GA (L0 : Nat) : Nat → Prop := fun q => L0 ≤ q
def gE15 (G : GT) (L0 : Nat) (w : Wd) : Prop := (∀ b, w.K b = 15 ↔ b = G.2.2.2.2.2) ∧ w.N G.2.2.2.2.2 = 0 ∧ G.2.2.2.2.2 < L0
def GWd (G : GT) (L0 : Nat) (w : Wd) (H : Heap) : Prop := ∃ L : List Nat, (∀ b, b ∈ L ↔ (w.K b ≠ 0 ∧ w.K b ≠ 15)) ∧ va_P G.1 vwCl ([] ++ va_pl L (fun b => wE G w (w.K b) b)) H ∧ va_D (GA L0) ([] ++ va_pl L (fun b => wE G w (w.K b) b)) ∧ gE15 G L0 w
def gTys (G : GT) : List (ClassId × FieldType) := [(G.2.1, .int), (G.2.2.1, .int), (G.2.2.2.1, .object "java/lang/Object"), (G.2.2.2.2.1, .int)]
def GZ (G : GT) (L0 : Nat) (U : State) (H : Heap) : Prop := vx_Zq Bundle.tN "UNASSIGNED_STACK" Bundle.steD (GA L0) U H ∧ vx_Zq Bundle.tN "SUPPRESSED_SENTINEL" Bundle.listD (GA L0) U H ∧ va_Z "java/util/ArrayList" "DEFAULTCAPACITY_EMPTY_ELEMENTDATA" "[Ljava/lang/Object;" (.ref G.2.2.2.2.2) (GA L0) U H ∧ ∃ cell : Cell, H[G.2.2.2.2.2]? = some cell ∧ U.isArrayOf cell (.object "java/lang/Object") ∧ cell.slots.size.toInt32 = 0 ∧ ¬ GA L0 G.2.2.2.2.2
theorem GZ.moved {G : GT} {L0 : Nat} {u U : State} {H : Heap} (hvm : u.vm.Alike U.vm) (h : GZ G L0 u H) : GZ G L0 U H := ⟨vx_Zq.moved hvm h.1, vx_Zq.moved hvm h.2.1, va_Z.moved hvm h.2.2.1, by obtain ⟨cell, q1, q2, q3⟩ := h.2.2.2; exact ⟨cell, q1, State.isArrayOf_alike hvm q2, q3⟩⟩
theorem GZ.kept {G : GT} {L0 : Nat} {U : State} {H H1 : Heap} (h : GZ G L0 U H) (hq : ∀ a : Nat, a < H.size → ¬ GA L0 a → H1[a]? = H[a]?) : GZ G L0 U H1 := ⟨vx_Zq.kept h.1 hq, vx_Zq.kept h.2.1 hq, va_Z.kept h.2.2.1 hq, by obtain ⟨cell, q1, q2, q3, q4⟩ := h.2.2.2; exact ⟨cell, by rw [hq _ (Array.getElem?_eq_some_iff.mp q1).1 q4]; exact q1, q2, q3, q4⟩⟩
def gCast : List (String × String) := [("SusuRing$Person", "java/lang/Object"), ("SusuRing$Circle", "java/lang/Object"), ("SusuRing$Place", "java/lang/Object"), ("java/lang/IllegalArgumentException", "java/lang/IllegalArgumentException"), ("java/lang/IllegalStateException", "java/lang/IllegalStateException"), ("java/lang/IndexOutOfBoundsException", "java/lang/IndexOutOfBoundsException")]
def gNot : List (String × String) := []
def gDecl : List MethodName := [⟨"java/lang/RuntimeException", "<init>", "(Ljava/lang/String;)V"⟩, ⟨"java/lang/Exception", "<init>", "(Ljava/lang/String;)V"⟩, ⟨"java/lang/Throwable", "<init>", "(Ljava/lang/String;)V"⟩]
def gStr : List (String × Nat × String) := [("SusuRing", 30, "there are 16 people"), ("SusuRing", 59, "dead, or the purse has too little or too much"), ("SusuRing", 66, "nobody is the own heir"), ("SusuRing", 72, "one is dead, or the heir would have too many shares"), ("SusuRing", 88, "there are 4 circles"), ("SusuRing", 103, "the circle has started, or is full"), ("SusuRing", 109, "the person is dead, or a member"), ("SusuRing", 115, "the circle has started, or too few members"), ("SusuRing", 133, "the person is no member"), ("SusuRing", 142, "the circle has not started, or too few members"), ("SusuRing", 167, "no member, or with a turn or arrears"), ("SusuRing", 188, "dead, too many shares, or too little in the purse"), ("SusuRing", 194, "two of the three are the same"), ("SusuRing", 199, "one of the three is dead, or has no share"), ("SusuRing", 211, "there is a loan, or the amount is too high"), ("SusuRing", 220, "there is no loan, or too little in the purse"), ("SusuRing", 234, "there are no shares, or somebody has a loan"), ("SusuRing", 241, "there is no such book"), ("SusuRing", 260, "there is no such person"), ("SusuRing", 262, "there is no such circle"), ("SusuRing", 264, "an argument is out of its range")]
def GX (U : State) : Prop := (∀ q ∈ gCast, va_Nw (.castable q.1 q.2) U) ∧ (∀ q ∈ gNot, va_Nc q.1 q.2 U) ∧ va_AO "java/lang/Object" U ∧ va_Dc U ∧ (∃ mi, va_Mi "[Ljava/lang/Object;" mi U) ∧ (∀ y ∈ gDecl, va_Nw (.declares y) U) ∧ ∀ q ∈ gStr, ∃ a, vk_R q.1 q.2.1 q.2.2 a U
theorem GX.warm {s U : State} (hW : s.WarmedH U.vm) (h : GX s) : GX U :=
  ⟨fun q hq => va_Nw.warmC hW (h.1 q hq), fun q hq => va_Nc.moved hW.alike (h.2.1 q hq), va_AO.moved hW.alike h.2.2.1, va_Dc.moved hW.alike h.2.2.2.1, ⟨h.2.2.2.2.1.choose, va_Mi.moved hW.alike h.2.2.2.2.1.choose_spec⟩, fun y hy => va_Nw.warmD hW (h.2.2.2.2.2.1 y hy), fun q hq => ⟨(h.2.2.2.2.2.2 q hq).choose, vk_R.warm hW (h.2.2.2.2.2.2 q hq).choose_spec⟩⟩
def GS (G : GT) (L0 : Nat) (U : State) : Prop := L0 ≤ U.heap.size ∧ va_K G.1 vwCl (gTys G) U ∧ GZ G L0 U U.heap ∧ GX U
/-- a callee's start: the same facts in its state -/
theorem GS.call {G : GT} {L0 : Nat} {s U : State} {H : Heap} {locs : List Loc} (h : GS G L0 s) (hS : va_S (GA L0) s.heap H locs) (hU : U.heap = H) (hW : s.WarmedH U.vm) : GS G L0 U :=
  ⟨by rw [hU]; exact Nat.le_trans h.1 hS.1, va_K.moved hW.alike h.2.1, by rw [hU]; exact GZ.moved hW.alike (h.2.2.1.kept hS.2.1), h.2.2.2.warm hW⟩
theorem GS.same {G : GT} {L0 : Nat} {U V : State} (h : GS G L0 U) (hv : V.vm = U.vm) (hh : V.heap = U.heap) : GS G L0 V :=
  ⟨by rw [hh]; exact h.1, va_K.moved (by rw [hv]; exact Vm.Alike.refl U.vm) h.2.1, by rw [hh]; exact GZ.moved (by rw [hv]; exact Vm.Alike.refl U.vm) h.2.2.1, GX.warm (s := U) (U := V) (by rw [hv]; exact State.WarmedH.refl U) h.2.2.2⟩
def GC (l : Launch) (G : GT) (L0 : Nat) (p : Program) (s : State) (m : MethodId) (args : Array Value) (meth : Method) (c : Code) (cc : ByteArray) (nL : Nat) (own : String) : Prop := CallFix p m c cc nL s args wAll own ∧ meth.locks = false ∧ l.stackTraces = false ∧ GS G L0 s
/-- locals by their numbers: ints and references -/
abbrev Lc : Type := List (Nat × (Int32 ⊕ Option Nat))
def lcV : Int32 ⊕ Option Nat → Value
  | .inl x => .int x
  | .inr r => va_rf r
def lvV (lv : Lc) : List (Nat × Value) := lv.map (fun q => (q.1, lcV q.2))
def lset (lv : Lc) (i : Nat) (v : Int32 ⊕ Option Nat) : Lc := (i, v) :: lv.filter (fun q => !(q.1 == i))
def lpick (lv : Lc) (ks : List Nat) : Lc := ks.filterMap (fun k => lv[k]?)
theorem lvV_at {ls : Array Slot} {nL : Nat} {lv : Lc} (h : lv_has ls nL (lvV lv)) (j : Nat) {i : Nat} {v : Int32 ⊕ Option Nat} (hj : lv[j]? = some (i, v)) : ls[i]? = some (.val (lcV v)) :=
  lv_at h j (by rw [lvV, List.getElem?_map, hj]; rfl)
theorem lcV_cat {v : Int32 ⊕ Option Nat} : (lcV v).category = 1 := by
  cases v with
  | inl x => rfl
  | inr r => cases r <;> rfl
theorem lvV_set {lv lv' : Lc} {i : Nat} {v : Int32 ⊕ Option Nat} (h : lset lv i v = lv') : (i, lcV v) :: (lvV lv).filter (fun q => !(q.1 == i) && !(q.1 + 1 == i && q.2.category == 2)) = lvV lv' := by
  subst h
  show _ = (i, lcV v) :: (lv.filter (fun q => !(q.1 == i))).map (fun q => (q.1, lcV q.2))
  rw [lvV, List.filter_map]
  congr 2
  apply List.filter_congr
  intro q _
  simp [Function.comp, lcV_cat]
theorem lvV_pick {lv lv' : Lc} {ks : List Nat} (h : lpick lv ks = lv') : lv_pick (lvV lv) ks = lvV lv' := by
  subst h
  show ks.filterMap (fun k => (lvV lv)[k]?) = (ks.filterMap (fun k => lv[k]?)).map _
  rw [List.map_filterMap]
  congr 1
  funext k
  rw [lvV, List.getElem?_map]
/-- the judgement: at pc, with these locals and this stack, in any heap that holds the world -/
def Gw (l : Launch) (G : GT) (L0 : Nat) (p : Program) (e : Env) (R : Room) (s : State) (m : MethodId) (args : Array Value) (below : List Frame) (meth : Method) (c : Code) (nL : Nat) (cells slots : Nat) (Q : State → Prop) (w : Wd) (pc : Nat) (lv : Lc) (st : List Value) : Prop :=
  ∀ (H : Heap) (locs : List Loc) (ls : Array Slot), GWd G L0 w H → va_S (GA L0) s.heap H locs → lv_has ls nL (lvV lv) → W p l e R s m args below meth c H locs cells slots Q (F0 m pc ls st)
theorem gw_set {G : GT} {L0 : Nat} {w w1 : Wd} {H H1 H0 : Heap} {L : List Nat} {locs locs1 : List Loc} {k0 a : Nat} {e : va_E} (hL : ∀ b, b ∈ L ↔ (w.K b ≠ 0 ∧ w.K b ≠ 15)) (hD : va_D (GA L0) ([] ++ va_pl L (fun b => wE G w (w.K b) b))) (haL : a ∈ L)
    (hk0 : ([] ++ va_pl L (fun b => wE G w (w.K b) b))[k0]? = some (a, wE G w (w.K a) a)) (h15 : gE15 G L0 w) (h0 : L0 ≤ H0.size) (hS : va_S (GA L0) H0 H locs) (hS1 : va_S (GA L0) H0 H1 locs1)
    (hP1 : va_P G.1 vwCl (([] ++ va_pl L (fun b => wE G w (w.K b) b)).set k0 (a, e)) H1) (hD1 : va_D (GA L0) (([] ++ va_pl L (fun b => wE G w (w.K b) b)).set k0 (a, e))) (hK : w1.K = w.K) (hN : w1.N = w.N) (hE : e = wE G w1 (w.K a) a) (ho : ∀ b, b ≠ a → wE G w1 (w.K b) b = wE G w (w.K b) b) : GWd G L0 w1 H1 := by
  have hf : ∀ b, va_up (fun b => wE G w (w.K b) b) a e b = wE G w1 (w1.K b) b := by
    intro b
    rw [hK]
    by_cases hb : b = a
    · subst hb; rw [va_up_self]; exact hE
    · rw [va_up_ne _ _ hb]; exact (ho b hb).symm
  rw [va_pl_set hD haL hk0, va_pl_congr hf] at hP1 hD1
  obtain ⟨h0', h1, h2⟩ := h15
  exact ⟨L, fun b => by rw [hK]; exact hL b, hP1, hD1, fun b => by rw [hK]; exact h0' b, by rw [hN]; exact h1, h2⟩
theorem gw_push {G : GT} {L0 : Nat} {w w1 : Wd} {H H1 H0 : Heap} {L : List Nat} {locs locs1 : List Loc} {a : Nat} {e : va_E} (hL : ∀ b, b ∈ L ↔ (w.K b ≠ 0 ∧ w.K b ≠ 15)) (haL : a ∉ L) (h15 : gE15 G L0 w) (h0 : L0 ≤ H0.size) (hS : va_S (GA L0) H0 H locs) (hS1 : va_S (GA L0) H0 H1 locs1) (haA : L0 ≤ a)
    (hP1 : va_P G.1 vwCl (([] ++ va_pl L (fun b => wE G w (w.K b) b)) ++ [(a, e)]) H1) (hD1 : va_D (GA L0) (([] ++ va_pl L (fun b => wE G w (w.K b) b)) ++ [(a, e)])) {k : Nat} (hk : k ≠ 0 ∧ k ≠ 15) (hK : ∀ b, w1.K b = va_up w.K a k b) (hN : ∀ b, b ≠ a → w1.N b = w.N b) (hE : e = wE G w1 k a) (ho : ∀ b, b ≠ a → wE G w1 (w.K b) b = wE G w (w.K b) b) : GWd G L0 w1 H1 := by
  have hf : ∀ b, va_up (fun b => wE G w (w.K b) b) a e b = wE G w1 (w1.K b) b := by
    intro b
    rw [hK]
    by_cases hb : b = a
    · subst hb; rw [va_up_self, va_up_self]; exact hE
    · rw [va_up_ne _ _ hb, va_up_ne _ _ hb]; exact (ho b hb).symm
  rw [List.nil_append, va_pl_push haL, va_pl_congr hf] at hP1 hD1
  obtain ⟨h0', h1, h2⟩ := h15
  have hea : G.2.2.2.2.2 ≠ a := by omega
  refine ⟨L ++ [a], fun b => ?_, hP1, hD1, fun b => ?_, by rw [hN _ hea]; exact h1, h2⟩
  · rw [hK, List.mem_append, List.mem_singleton]
    by_cases hb : b = a
    · subst hb; rw [va_up_self]; exact ⟨fun _ => hk, fun _ => Or.inr rfl⟩
    · rw [va_up_ne _ _ hb, ← hL b]
      exact ⟨fun h => h.elim id (fun h => absurd h hb), Or.inl⟩
  · rw [hK]
    by_cases hb : b = a
    · subst hb; rw [va_up_self]; exact ⟨fun h => absurd h hk.2, fun h => absurd h.symm hea⟩
    · rw [va_up_ne _ _ hb]; exact h0' b
theorem gw_new {A : Nat → Prop} {L : List Nat} {f : Nat → va_E} {a : Nat} {e : va_E} (h : va_D A (([] ++ va_pl L f) ++ [(a, e)])) : a ∉ L ∧ A a := by
  have hl : (([] ++ va_pl L f) ++ [(a, e)])[([] ++ va_pl L f).length]? = some (a, e) := by simp
  refine ⟨fun ha => ?_, h.2 _ _ hl⟩
  obtain ⟨k, hk⟩ := va_pl_get (X := []) (f := f) ha
  have hk1 := (List.getElem?_eq_some_iff.mp hk).1
  have hk2 : (([] ++ va_pl L f) ++ [(a, e)])[k]? = some (a, f a) := by rw [List.getElem?_append_left hk1]; exact hk
  have := h.1 _ _ _ _ hk2 hl rfl
  omega
theorem gw_at {G : GT} {L0 : Nat} {w : Wd} {H : Heap} {a : Nat} (hG : GWd G L0 w H) (hk : w.K a ≠ 0 ∧ w.K a ≠ 15) : va_at G.1 vwCl (a, wE G w (w.K a) a) H := by
  obtain ⟨L, hL, hP, -⟩ := hG
  obtain ⟨k0, hk0⟩ := va_pl_get (X := []) (f := fun b => wE G w (w.K b) b) ((hL a).mpr hk)
  exact hP k0 _ hk0
theorem gw_one {G : GT} {L0 : Nat} {w : Wd} {H : Heap} {a : Nat} {ee : va_E} (hG : GWd G L0 w H) {k : Nat} (hk : w.K a = k) (h0 : k ≠ 0 ∧ k ≠ 15) (he : wE G w k a = ee) : va_P G.1 vwCl [(a, ee)] H := by
  intro i q hi
  have hz : i < 1 := (List.getElem?_eq_some_iff.mp hi).1
  rw [show i = 0 by omega] at hi
  cases hi
  have h := gw_at hG (a := a) (by rw [hk]; exact h0)
  rw [hk, he] at h
  exact h
-- how other cells' pictures stay
theorem wE_I {G : GT} {w : Wd} {f a b k : Nat} {v : Int32} (h : b ≠ a) : wE G (w.setI f a v) k b = wE G w k b := by
  show shp G k (fun g => up2 w.I f a v g b) _ _ _ _ _ = _
  rw [show (fun g => up2 w.I f a v g b) = fun g => w.I g b from funext fun g => by simp [up2, h]]
  rfl
theorem wE_R {G : GT} {w : Wd} {f a b k : Nat} {v : Option Nat} (h : b ≠ a) : wE G (w.setR f a v) k b = wE G w k b := by
  show shp G k _ (fun g => up2 w.R f a v g b) _ _ _ _ = _
  rw [show (fun g => up2 w.R f a v g b) = fun g => w.R g b from funext fun g => by simp [up2, h]]
  rfl
theorem wE_A {G : GT} {w : Wd} {a b k j : Nat} {v : Int32} (h : b ≠ a) : wE G (w.setA a j v) k b = wE G w k b := by
  show shp G k _ _ _ (up2 w.A a j v b) _ _ = _
  rw [show up2 w.A a j v b = w.A b from funext fun g => by simp [up2, h]]
  rfl
theorem wE_O {G : GT} {w : Wd} {a b k j : Nat} {v : Option Nat} (h : b ≠ a) : wE G (w.setO a j v) k b = wE G w k b := by
  show shp G k _ _ _ _ (up2 w.O a j v b) _ = _
  rw [show up2 w.O a j v b = w.O b from funext fun g => by simp [up2, h]]
  rfl
theorem wE_J {G : GT} {w : Wd} {a b k j : Nat} {v : Int64} (h : b ≠ a) : wE G (w.setJ a j v) k b = wE G w k b := by
  show shp G k _ _ _ _ _ (up2 w.J a j v b) = _
  rw [show up2 w.J a j v b = w.J b from funext fun g => by simp [up2, h]]
  rfl
theorem wE_C {G : GT} {w : Wd} {a a2 b k sp dp n : Nat} (h : b ≠ a) : wE G (w.cpO a2 a sp dp n) k b = wE G w k b := by
  show shp G k _ _ _ _ (va_up w.O a _ b) _ = _
  rw [va_up_ne _ _ h]
  rfl
theorem wE_n {G : GT} {w : Wd} {a b k k1 : Nat} (h : b ≠ a) : wE G (w.new k1 a) k b = wE G w k b := by
  show shp G k (fun g => if b = a then 0 else w.I g b) (fun g => if b = a then none else w.R g b) _ _ _ _ = _
  simp only [if_neg h]
  rfl
theorem wE_nA {G : GT} {w : Wd} {a b k k1 n : Nat} (h : b ≠ a) : wE G (w.newA k1 a n) k b = wE G w k b := by
  show shp G k _ _ (va_up w.N a n b) (fun j => if b = a then 0 else w.A b j) (fun j => if b = a then none else w.O b j) (fun j => if b = a then 0 else w.J b j) = _
  simp only [if_neg h]
  rw [va_up_ne _ _ h]
  rfl
