def kwd : Cond → Bool
  | .declares _ => true
  | .castable _ _ => true
  | .methodLinkNest _ _ _ _ => true
  | _ => false
def KW : List Cond := lw_tbl.filter kwd
theorem KW_in {w : Cond} (i : Nat) (h : lw_tbl[i]? = some w) (g : kwd w = true) : w ∈ KW := List.mem_filter.mpr ⟨List.mem_of_getElem? h, g⟩
theorem k376 : Cond.castable "java/lang/IllegalArgumentException" "java/lang/IllegalArgumentException" ∈ KW := KW_in 403 (by decide +kernel) rfl
theorem k448 : Cond.castable "java/lang/IllegalStateException" "java/lang/IllegalStateException" ∈ KW := KW_in 475 (by decide +kernel) rfl
theorem k499 : Cond.castable "java/lang/IndexOutOfBoundsException" "java/lang/IndexOutOfBoundsException" ∈ KW := KW_in 526 (by decide +kernel) rfl
theorem k539 : Cond.castable "java/lang/UnsupportedOperationException" "java/lang/UnsupportedOperationException" ∈ KW := KW_in 566 (by decide +kernel) rfl
theorem k722 : Cond.castable "java/util/NoSuchElementException" "java/util/NoSuchElementException" ∈ KW := KW_in 749 (by decide +kernel) rfl
theorem k791 : Cond.castable "java/lang/ArithmeticException" "java/lang/ArithmeticException" ∈ KW := KW_in 818 (by decide +kernel) rfl
theorem k84 : (Jvm.Cond.methodLinkNest "MembranePlant" (18 : Nat) ({ cls := "MembranePlant$State", name := "<init>", desc := "()V" } : Jvm.MethodName) "MembranePlant") ∈ KW := KW_in 111 (by decide +kernel) rfl
theorem k145 : (Jvm.Cond.methodLinkNest "MembranePlant" (25 : Nat) ({ cls := "MembranePlant$Orders", name := "<init>", desc := "()V" } : Jvm.MethodName) "MembranePlant") ∈ KW := KW_in 172 (by decide +kernel) rfl
theorem k168 : (Jvm.Cond.methodLinkNest "MembranePlant$Planner" (32 : Nat) ({ cls := "MembranePlant$State", name := "<init>", desc := "()V" } : Jvm.MethodName) "MembranePlant") ∈ KW := KW_in 195 (by decide +kernel) rfl
theorem k198 : (Jvm.Cond.methodLinkNest "MembranePlant" (41 : Nat) ({ cls := "MembranePlant$Meters", name := "<init>", desc := "()V" } : Jvm.MethodName) "MembranePlant") ∈ KW := KW_in 225 (by decide +kernel) rfl
theorem k673 : (Jvm.Cond.methodLinkNest "MembranePlant$Planner" (52 : Nat) ({ cls := "MembranePlant", name := "slotOf", desc := "(I)I" } : Jvm.MethodName) "MembranePlant") ∈ KW := KW_in 700 (by decide +kernel) rfl
def SRL : List (Nat × String) := [(243, "out of range"), (62, "there are 4 trains"), (247, "no such train"), (249, "the train is being cleaned"), (95, "too little water in the tank 0"), (122, "there are 3 tanks"), (251, "no such tank"), (174, "the half hour has passed"), (180, "there are 6 orders"), (187, "the half hour has no order"), (245, "no schedule is allowed"), (209, "no such half hour in the schedule"), (238, "nothing was demanded"), (241, "no half hour has passed")]
def NCL : List (String × String) := [("java/lang/IllegalStateException", "java/lang/IllegalArgumentException"), ("java/lang/IndexOutOfBoundsException", "java/lang/IllegalArgumentException"), ("java/lang/UnsupportedOperationException", "java/lang/IllegalArgumentException"), ("java/util/NoSuchElementException", "java/lang/IllegalArgumentException"), ("java/lang/ArithmeticException", "java/lang/IllegalArgumentException"), ("java/lang/IllegalArgumentException", "java/lang/IllegalStateException"), ("java/lang/IndexOutOfBoundsException", "java/lang/IllegalStateException"), ("java/lang/UnsupportedOperationException", "java/lang/IllegalStateException"), ("java/util/NoSuchElementException", "java/lang/IllegalStateException"), ("java/lang/ArithmeticException", "java/lang/IllegalStateException"), ("java/lang/IllegalArgumentException", "java/lang/IndexOutOfBoundsException"), ("java/lang/IllegalStateException", "java/lang/IndexOutOfBoundsException"), ("java/lang/UnsupportedOperationException", "java/lang/IndexOutOfBoundsException"), ("java/util/NoSuchElementException", "java/lang/IndexOutOfBoundsException"), ("java/lang/ArithmeticException", "java/lang/IndexOutOfBoundsException"), ("java/lang/IllegalArgumentException", "java/lang/UnsupportedOperationException"), ("java/lang/IllegalStateException", "java/lang/UnsupportedOperationException"), ("java/lang/IndexOutOfBoundsException", "java/lang/UnsupportedOperationException"), ("java/util/NoSuchElementException", "java/lang/UnsupportedOperationException"), ("java/lang/ArithmeticException", "java/lang/UnsupportedOperationException"), ("java/lang/IllegalArgumentException", "java/util/NoSuchElementException"), ("java/lang/IllegalStateException", "java/util/NoSuchElementException"), ("java/lang/IndexOutOfBoundsException", "java/util/NoSuchElementException"), ("java/lang/UnsupportedOperationException", "java/util/NoSuchElementException"), ("java/lang/ArithmeticException", "java/util/NoSuchElementException"), ("java/lang/IllegalArgumentException", "java/lang/ArithmeticException"), ("java/lang/IllegalStateException", "java/lang/ArithmeticException"), ("java/lang/IndexOutOfBoundsException", "java/lang/ArithmeticException"), ("java/lang/UnsupportedOperationException", "java/lang/ArithmeticException"), ("java/util/NoSuchElementException", "java/lang/ArithmeticException")]
/-- facts of the tables (beside the good words) that stay as they are: of castings, strings, names -/
def XF (s : State) : Prop := (∀ w ∈ KW, w.before #[] s = true) ∧ (∀ q ∈ SRL, ∃ a, vk_R RX5 q.1 q.2 a s) ∧ (∀ q ∈ NCL, va_Nc q.1 q.2 s)
theorem XF.warm {s U : State} (hW : s.WarmedH U.vm) (h : XF s) : XF U := by
  refine ⟨fun w hw => ?_, fun q hq => ?_, fun q hq => (h.2.2 q hq).moved hW.alike⟩
  · have h1 := h.1 w hw
    have h2 := (List.mem_filter.mp hw).2
    cases w <;> first | exact absurd (show false = true from h2) Bool.false_ne_true | exact va_Nw.warmD hW h1 | exact va_Nw.warmC hW h1 | exact va_Nw.warmM hW h1
  · obtain ⟨a, ha⟩ := h.2.1 q hq
    exact ⟨a, ha.warm hW⟩
def ZF (ba : Nat) (s : State) : Prop := vx_Zq Bundle.tN "UNASSIGNED_STACK" Bundle.steD (fun q => ba ≤ q) s s.heap ∧ vx_Zq Bundle.tN "SUPPRESSED_SENTINEL" Bundle.listD (fun q => ba ≤ q) s s.heap
/-- what holds at a method's start beside the world: the classes, the addresses, the facts above -/
def Fx (D : va_G) (ad : Nat → Nat) (cy : Nat → ClassId) (ba : Nat) (s : State) : Prop :=
  va_K D cls7 (tysOf cy) s ∧ ((∀ i j, i < 81 → j < 81 → ad i = ad j → i = j) ∧ ∀ i, i < 81 → ba ≤ ad i) ∧ ba ≤ s.heap.size ∧ XF s ∧ ZF ba s
def Wo (D : va_G) (ad : Nat → Nat) (cy : Nat → ClassId) (ba : Nat) (s : State) (σ : Sg) (H : Heap) (locs : List Loc) : Prop := va_P D cls7 (WD ad cy σ) H ∧ va_S (fun q => ba ≤ q) s.heap H locs
theorem Fx.D {D : va_G} {ad : Nat → Nat} {cy : Nat → ClassId} {ba : Nat} {s : State} {σ : Sg} (h : Fx D ad cy ba s) : va_D (fun q => ba ≤ q) (WD ad cy σ) := by
  have key : ∀ (i : Nat) (p : Nat × va_E), (WD ad cy σ)[i]? = some p → i < 81 ∧ p.1 = ad i := by
    intro i p hp
    have hl : i < 81 := by
      have := (List.getElem?_eq_some_iff.mp hp).1
      rwa [WD_len] at this
    rw [WD_get hl] at hp
    cases hp
    exact ⟨hl, rfl⟩
  refine ⟨fun i j p q hp hq e => ?_, fun k q hq => ?_⟩
  · obtain ⟨h1, h2⟩ := key i p hp
    obtain ⟨h3, h4⟩ := key j q hq
    exact h.2.1.1 i j h1 h3 (by rw [← h2, ← h4, e])
  · obtain ⟨h1, h2⟩ := key k q hq
    show ba ≤ q.1
    rw [h2]
    exact h.2.1.2 k h1
theorem Fx.call {D : va_G} {ad : Nat → Nat} {cy : Nat → ClassId} {ba : Nat} {s U : State} {H : Heap} {locs : List Loc} (h : Fx D ad cy ba s) (hS : va_S (fun q => ba ≤ q) s.heap H locs) (hU : U.heap = H) (hW : s.WarmedH U.vm) : Fx D ad cy ba U := by
  obtain ⟨h1, h2, h3, h4, h5, h6⟩ := h
  refine ⟨va_K.moved hW.alike h1, h2, ?_, h4.warm hW, ?_, ?_⟩
  · rw [hU]; exact Nat.le_trans h3 hS.1
  · rw [hU]; exact vx_Zq.moved hW.alike (h5.kept hS.2.1)
  · rw [hU]; exact vx_Zq.moved hW.alike (h6.kept hS.2.1)
theorem Fx.blind {D : va_G} {ad : Nat → Nat} {cy : Nat → ClassId} {ba : Nat} {U : State} (g : JFrame) (mk : MethodId) (a : Array Value) (h : Fx D ad cy ba U) : Fx D ad cy ba (U.calling g mk a) := Fx.call (H := U.heap) (locs := []) h va_S.rf rfl (State.WarmedH.refl U)
def PcW (D : va_G) (ad : Nat → Nat) (cy : Nat → ClassId) (ba : Nat) (av : List Value) (σ : Sg) : Array Value → State → Prop := va_Pc av (fun U => Fx D ad cy ba U ∧ va_P D cls7 (WD ad cy σ) U.heap)
theorem PcW_blind {D : va_G} {ad : Nat → Nat} {cy : Nat → ClassId} {ba : Nat} {av : List Value} {σ : Sg} : FrameBlind (PcW D ad cy ba av σ) := fun a U g mk h => ⟨h.1, h.2.1.blind g mk a, h.2.2⟩
theorem PcW_at {D : va_G} {ad : Nat → Nat} {cy : Nat → ClassId} {ba : Nat} {av : List Value} {σ : Sg} {s : State} {H : Heap} {locs : List Loc} (F : Fx D ad cy ba s) (P : Wo D ad cy ba s σ H locs) : ∀ U : State, U.heap = H → s.WarmedH U.vm → PcW D ad cy ba av σ av.toArray U := fun U hU hW => ⟨rfl, F.call P.2 hU hW, by rw [hU]; exact P.1⟩
def rmK (d mc ms : Nat) : Room := { frames := 10 + d, cells := mc, slots := ms, locals := 200 + 40 * d }
def Qe (D : va_G) (ad : Nat → Nat) (cy : Nat → ClassId) (ba : Nat) (v : Option Value) (σ' : Sg) : Array Value → State → Outcome → State → Prop := fun _ st oc t => (oc = .returned v ∧ va_P D cls7 (WD ad cy σ') t.heap) ∧ va_F (fun q => ba ≤ q) st t
/-- A CONTRACT: from the world σ the method, called with av, answers v and leaves the world σ' -/
def Ct (D : va_G) (ad : Nat → Nat) (cy : Nat → ClassId) (ba : Nat) (l : Launch) (d : Nat) (y : MethodName) (cc : ByteArray) (n : Nat) (ret : Option FieldType) (av : List Value) (σ : Sg) (v : Option Value) (σ' : Sg) : Prop :=
  Met l y (ws_ y cc n ret) (rmK d 0 0) (PcW D ad cy ba av σ) (Qe D ad cy ba v σ') 0 0 (fun q => ba ≤ q)
def exN : Nat → String
  | 1 => "java/lang/IllegalArgumentException"
  | 2 => "java/lang/IllegalStateException"
  | 3 => "java/lang/IndexOutOfBoundsException"
  | 4 => "java/lang/UnsupportedOperationException"
  | 5 => "java/util/NoSuchElementException"
  | 6 => "java/lang/ArithmeticException"
  | _ => ""
def Qx (D : va_G) (ad : Nat → Nat) (cy : Nat → ClassId) (ba : Nat) (k : Nat) (v : Option Value) (σ' : Sg) : Array Value → State → Outcome → State → Prop := fun _ st oc t => (k = 0 ∧ oc = .returned v ∧ va_P D cls7 (WD ad cy σ') t.heap) ∧ va_F (fun q => ba ≤ q) st t
def Xx (D : va_G) (ad : Nat → Nat) (cy : Nat → ClassId) (ba : Nat) (k : Nat) (σ' : Sg) : String → State → State → Prop := fun E st t => (k ≠ 0 ∧ E = exN k ∧ va_P D cls7 (WD ad cy σ') t.heap) ∧ va_F (fun q => ba ≤ q) st t
/-- .. that may throw: k = 0 it answers v, else it throws exN k; at most nx things are thrown on the way -/
def Cx (D : va_G) (ad : Nat → Nat) (cy : Nat → ClassId) (ba : Nat) (l : Launch) (d nx : Nat) (y : MethodName) (cc : ByteArray) (n : Nat) (ret : Option FieldType) (av : List Value) (σ : Sg) (k : Nat) (v : Option Value) (σ' : Sg) : Prop :=
  vx_Met l y (ws_ y cc n ret) (rmK d nx (6 * nx)) (PcW D ad cy ba av σ) (Qx D ad cy ba k v σ') (Xx D ad cy ba k σ') nx (6 * nx) (fun q => ba ≤ q)
/-- .. of a method with a table of its own, that answers -/
def Cw (D : va_G) (ad : Nat → Nat) (cy : Nat → ClassId) (ba : Nat) (l : Launch) (d nx : Nat) (y : MethodName) (cc : ByteArray) (n : Nat) (ret : Option FieldType) (hh : List (Nat × Nat × Nat × Nat)) (av : List Value) (σ : Sg) (v : Option Value) (σ' : Sg) : Prop :=
  Met l y (Cond.codeWith y cc n ret hh :: AW) (rmK d nx (6 * nx)) (PcW D ad cy ba av σ) (Qe D ad cy ba v σ') nx (6 * nx) (fun q => ba ≤ q)
section
variable {D : va_G} {ad : Nat → Nat} {cy : Nat → ClassId} {ba : Nat}
theorem Ct.of {l : Launch} {d : Nat} {y : MethodName} {cc : ByteArray} {n : Nat} {ret : Option FieldType} {av : List Value} {σ : Sg} {v : Option Value} {σ' : Sg} (hy : plainName y.cls = true) (hn : (lg_sl av).length ≤ n)
    (body : ∀ (p : Program) (e : Env) (s : State) (m : MethodId) (below : List Frame) (meth : Method) (c : Code) (ls : Array Slot), CallFix p m c cc n s av.toArray AW y.cls → Fx D ad cy ba s → Wo D ad cy ba s σ s.heap [] → meth.sig.returnType = ret → meth.locks = false → lv_has ls n (lv_args 0 av) →
      W p l e (rmK d 0 0) s m av.toArray below meth c s.heap [] 0 0 (MQ below (Qe D ad cy ba v σ') av.toArray s 0 0 (fun q => ba ≤ q)) (F0 m 0 ls [])) : Ct D ad cy ba l d y cc n ret av σ v σ' := by
  refine Met.ofW (cc := cc) (maxL := n) (ret := ret) hy rfl ?_
  intro p e s m args below meth c s₁ B hml hv
  obtain ⟨rfl, F, P⟩ := hv
  have hts := atoms_spec (ws := ws_ y cc n ret) B.pre
  rw [lg_entry_eq]
  exact body p e s m below meth c _ ⟨B.exec, B.bytes, hml, findClass_of_methodNamed B.named, fun w h => hts w (List.mem_cons_of_mem _ h)⟩ F ⟨P, va_S.rf⟩ B.returns B.notSynchronized (lv_entry av hn)
theorem Cx.of {l : Launch} {d nx : Nat} {y : MethodName} {cc : ByteArray} {n : Nat} {ret : Option FieldType} {av : List Value} {σ : Sg} {k : Nat} {v : Option Value} {σ' : Sg} (hy : plainName y.cls = true) (hn : (lg_sl av).length ≤ n)
    (body : ∀ (p : Program) (e : Env) (s : State) (m : MethodId) (below : List Frame) (meth : Method) (c : Code) (ls : Array Slot), CallFix p m c cc n s av.toArray AW y.cls → Fx D ad cy ba s → Wo D ad cy ba s σ s.heap [] → meth.sig.returnType = ret → meth.locks = false → (∀ x ∈ c.exceptionTable.toList, False) → lv_has ls n (lv_args 0 av) →
      W p l e (rmK d nx (6 * nx)) s m av.toArray below meth c s.heap [] 0 0 (vx_MQ below (Qx D ad cy ba k v σ') (Xx D ad cy ba k σ') av.toArray s nx (6 * nx) (fun q => ba ≤ q)) (F0 m 0 ls [])) : Cx D ad cy ba l d nx y cc n ret av σ k v σ' := by
  refine vx_ofW (cc := cc) (maxL := n) (ret := ret) hy rfl ?_
  intro p e s m args below meth c s₁ B hml ht hv
  obtain ⟨rfl, F, P⟩ := hv
  have hts := atoms_spec (ws := ws_ y cc n ret) B.pre
  rw [lg_entry_eq]
  exact body p e s m below meth c _ ⟨B.exec, B.bytes, hml, findClass_of_methodNamed B.named, fun w h => hts w (List.mem_cons_of_mem _ h)⟩ F ⟨P, va_S.rf⟩ B.returns B.notSynchronized ht (lv_entry av hn)
end
