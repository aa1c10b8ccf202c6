/-! THE MAKING OF THE WORLD: rows for constructors; a world is any list Z of cells, the object that is made at place k of it -/
def Gx (D : va_G) (cy : Nat → ClassId) (ba : Nat) (s : State) : Prop := va_K D cls7 (tysOf cy) s ∧ ba ≤ s.heap.size ∧ (∀ w ∈ KW, w.before #[] s = true) ∧ va_AO RX4 s ∧ va_AOA .int s
theorem kw_warm {s U : State} (hW : s.WarmedH U.vm) (h : ∀ w ∈ KW, w.before #[] s = true) : ∀ w ∈ KW, w.before #[] U = true := fun w hw => by
  have h1 := h w hw
  have h2 := (List.mem_filter.mp hw).2
  cases w <;> first | exact absurd (show false = true from h2) Bool.false_ne_true | exact va_Nw.warmD hW h1 | exact va_Nw.warmC hW h1 | exact va_Nw.warmM hW h1
theorem Gx.call {D : va_G} {cy : Nat → ClassId} {ba : Nat} {s U : State} {H : Heap} {locs : List Loc} (h : Gx D cy ba s) (hS : va_S (fun q => ba ≤ q) s.heap H locs) (hU : U.heap = H) (hW : s.WarmedH U.vm) : Gx D cy ba U :=
  ⟨va_K.moved hW.alike h.1, by rw [hU]; exact Nat.le_trans h.2.1 hS.1, kw_warm hW h.2.2.1, h.2.2.2.1.moved hW.alike, h.2.2.2.2.moved hW.alike⟩
theorem Gx.blind {D : va_G} {cy : Nat → ClassId} {ba : Nat} {U : State} (g : JFrame) (mk : MethodId) (a : Array Value) (h : Gx D cy ba U) : Gx D cy ba (U.calling g mk a) := Gx.call (H := U.heap) (locs := []) h va_S.rf rfl (State.WarmedH.refl U)
def Gw (D : va_G) (ba : Nat) (s : State) (Z : va_W) (H : Heap) (locs : List Loc) : Prop := va_P D cls7 Z H ∧ va_D (fun q => ba ≤ q) Z ∧ va_S (fun q => ba ≤ q) s.heap H locs
def GnP (D : va_G) (cy : Nat → ClassId) (ba : Nat) (av : List Value) (Z : va_W) : Array Value → State → Prop := va_Pc av (fun U => Gx D cy ba U ∧ va_P D cls7 Z U.heap ∧ va_D (fun q => ba ≤ q) Z)
theorem GnP_blind {D : va_G} {cy : Nat → ClassId} {ba : Nat} {av : List Value} {Z : va_W} : FrameBlind (GnP D cy ba av Z) := fun a U g mk h => ⟨h.1, h.2.1.blind g mk a, h.2.2⟩
theorem GnP_at {D : va_G} {cy : Nat → ClassId} {ba : Nat} {av : List Value} {Z : va_W} {s : State} {H : Heap} {locs : List Loc} (G : Gx D cy ba s) (P : Gw D ba s Z H locs) : ∀ U : State, U.heap = H → s.WarmedH U.vm → GnP D cy ba av Z av.toArray U := fun U hU hW => ⟨rfl, G.call P.2.2 hU hW, by rw [hU]; exact P.1, P.2.1⟩
def GnQ (D : va_G) (ba : Nat) (Wf : (Nat → Nat) → va_W) : Array Value → State → Outcome → State → Prop := fun _ st oc t => (oc = .returned none ∧ ∃ r : Nat → Nat, va_P D cls7 (Wf r) t.heap ∧ va_D (fun q => ba ≤ q) (Wf r)) ∧ va_F (fun q => ba ≤ q) st t
/-- A CONTRACT of a constructor: from the world Z to the world Wf r, with new addresses r -/
def Cn (D : va_G) (cy : Nat → ClassId) (ba : Nat) (l : Launch) (d mc ms : Nat) (y : MethodName) (cc : ByteArray) (n : Nat) (av : List Value) (Z : va_W) (Wf : (Nat → Nat) → va_W) : Prop :=
  Met l y (ws_ y cc n none) (rmK d mc ms) (GnP D cy ba av Z) (GnQ D ba Wf) mc ms (fun q => ba ≤ q)
section
variable {D : va_G} {cy : Nat → ClassId} {ba : Nat}
theorem Cn.of {l : Launch} {d mc ms : Nat} {y : MethodName} {cc : ByteArray} {n : Nat} {av : List Value} {Z : va_W} {Wf : (Nat → Nat) → va_W} (hy : plainName y.cls = true) (hn : (lg_sl av).length ≤ n)
    (body : ∀ (p : Program) (e : Env) (s : State) (m : MethodId) (below : List Frame) (meth : Method) (c : Code) (ls : Array Slot), CallFix p m c cc n s av.toArray AW y.cls → Gx D cy ba s → Gw D ba s Z s.heap [] → meth.sig.returnType = none → meth.locks = false → meth.name = y.name → lv_has ls n (lv_args 0 av) →
      W p l e (rmK d mc ms) s m av.toArray below meth c s.heap [] 0 0 (MQ below (GnQ D ba Wf) av.toArray s mc ms (fun q => ba ≤ q)) (F0 m 0 ls [])) : Cn D cy ba l d mc ms y cc n av Z Wf := by
  refine Met.ofW (cc := cc) (maxL := n) (ret := none) hy rfl ?_
  intro p e s m args below meth c s₁ B hml hv
  obtain ⟨rfl, G, P, hD⟩ := hv
  have hts := atoms_spec (ws := ws_ y cc n none) B.pre
  rw [lg_entry_eq]
  exact body p e s m below meth c _ ⟨B.exec, B.bytes, hml, findClass_of_methodNamed B.named, fun w h => hts w (List.mem_cons_of_mem _ h)⟩ G ⟨P, hD, va_S.rf⟩ B.returns B.notSynchronized (name_of_methodNamed B.named B.method).1 (lv_entry av hn)
end
section NROWS
variable {p : Program} {l : Launch} {e : Env} {R : Room} {s : State} {m : MethodId} {args : Array Value} {below : List Frame} {meth : Method} {c : Code} {H : Heap} {locs : List Loc} {cells slots : Nat} {Q : State → Prop}
variable {cc : ByteArray} {nL pc : Nat} {own : String} {ls : Array Slot} {rest : List Value} {D : va_G} {cy : Nat → ClassId} {ba : Nat} {Z : va_W}
theorem Gx.hA (G : Gx D cy ba s) : ∀ q, s.heap.size ≤ q → ba ≤ q := fun _ h => Nat.le_trans G.2.1 h
theorem n_retv (B : CallFix p m c cc nL s args AW own) {mc ms : Nat} {Wf : (Nat → Nat) → va_W} (P : Gw D ba s Z H locs) (r : Nat → Nat) (hz : Z = Wf r) (hr : meth.sig.returnType = none) (hlk : meth.locks = false) (hc : cells ≤ mc) (hs : slots ≤ ms) (d : decode cc pc = .ok (.return_, 1)) : W p l e R s m args below meth c H locs cells slots (MQ below (GnQ D ba Wf) args s mc ms (fun q => ba ≤ q)) (F0 m pc ls []) := by
  obtain ⟨hx, hb, -, -, -⟩ := B
  subst hz
  exact W.widen hc hs (W.vret hx hb hr (fun t ht hW => ⟨⟨rfl, r, by rw [ht]; exact P.1, P.2.1⟩, P.2.2.F ht⟩) P.2.2.2.2 d hlk)
theorem n_call {Wf : (Nat → Nat) → va_W} {a : Array Value} {mc ms : Nat} {st0 : List Value} (P : Gw D ba s Z H locs) (hr : va_Run p l e R s m args below meth c H locs cells slots mc ms (F0 m pc ls st0) rest (GnQ D ba Wf a) (fun q => ba ≤ q))
    (kk : ∀ (r : Nat → Nat) (H : Heap) (locs : List Loc), Gw D ba s (Wf r) H locs → W p l e R s m args below meth c H locs (cells + mc) (slots + ms) Q (F0 m (pc + 3) ls rest)) : W p l e R s m args below meth c H locs cells slots Q (F0 m pc ls st0) := by
  intro T hT X
  obtain ⟨v', st₀, t, T', L, h0, X', hL, e1, e2, ⟨⟨hv, r, hp, hd⟩, hz, hk⟩, st⟩ := hr T hT X
  cases hv
  rw [h0] at hz hk
  obtain ⟨t2, a1, b1⟩ := kk r T'.heap (locs ++ L) ⟨by rw [e1]; exact hp, hd, Nat.le_trans P.2.2.1 (by rw [e1]; exact hz), fun q h1 h2 => by rw [e1, hk q (Nat.lt_of_lt_of_le h1 P.2.2.1) h2]; exact P.2.2.2.1 q h1 h2, fun q hq => by
      rcases List.mem_append.mp hq with h | h
      · exact P.2.2.2.2 q h
      · exact hL q h⟩ T' rfl X'
  exact ⟨t2, st t2 a1, b1⟩
theorem good_I {y : MethodName} {bytes : ByteArray} {n : Nat} (q5 : Cond.code y bytes n none ∈ AW) : GoodIn AW (ws_ y bytes n none) := good_in (fun w hw => by rcases List.mem_cons.mp hw with rfl | h <;> assumption)
theorem n_callI (B : CallFix p m c cc nL s args AW own) (G : Gx D cy ba s) (P : Gw D ba s Z H locs) {d mc ms maxL index n : Nat} {y : MethodName} {bytes : ByteArray} {h0 : Nat} {As : List Value} {Wf : (Nat → Nat) → va_W} {st0 : List Value}
    (hM : Cn D cy ba l d mc ms y bytes maxL (.ref h0 :: As) Z Wf) (q1 : Cond.methodLink own index y ∈ AW) (q2 : Cond.instanceMethod y ∈ AW) (q4 : Cond.initialized y.cls ∈ AW) (q5 : Cond.code y bytes maxL none ∈ AW) (hy1 : y.name = "<init>") (hy : nmOk y y.cls n) (hn : As.length = n)
    (hR : 10 + d + 1 ≤ R.frames ∧ 8 + (maxL + 11) + (200 + 40 * d) ≤ R.locals) (hl : ls.size = nL) (hst : st0 = As.reverse ++ .ref h0 :: rest) (hw : (rest.map fun v => v.category).sum ≤ 8) (dg : decode cc pc = .ok (.invokespecial index, 3)) (hf : cells + mc ≤ R.cells ∧ slots + ms ≤ R.slots)
    (kk : ∀ (r : Nat → Nat) (H : Heap) (locs : List Loc), Gw D ba s (Wf r) H locs → W p l e R s m args below meth c H locs (cells + mc) (slots + ms) Q (F0 m (pc + 3) ls rest)) : W p l e R s m args below meth c H locs cells slots Q (F0 m pc ls st0) :=
  n_call P (va_runI (b := h0) (As := As) (rest := rest) B hM (cwI n B.2.2.2.2 (good_I q5) rfl rfl rfl (B.2.2.2.2 _ q4) (B.2.2.2.2 _ q1) (B.2.2.2.2 _ q2) hy1 hy.2 hR) ⟨GnP_blind, GnP_at G P⟩ rfl hn hl hst (lv_room hw) dg hf) kk
theorem n_callN (B : CallFix p m c cc nL s args AW own) (G : Gx D cy ba s) (P : Gw D ba s Z H locs) {d mc ms maxL index n : Nat} {y : MethodName} {host : String} {bytes : ByteArray} {h0 : Nat} {As : List Value} {Wf : (Nat → Nat) → va_W} {st0 : List Value}
    (hM : Cn D cy ba l d mc ms y bytes maxL (.ref h0 :: As) Z Wf) (q1 : Cond.methodLinkNest own index y host ∈ KW) (q2 : Cond.instanceMethod y ∈ AW) (q4 : Cond.initialized y.cls ∈ AW) (q5 : Cond.code y bytes maxL none ∈ AW) (hy1 : y.name = "<init>") (hy : nmOk y y.cls n) (hn : As.length = n)
    (hR : 10 + d + 1 ≤ R.frames ∧ 8 + (maxL + 11) + (200 + 40 * d) ≤ R.locals) (hl : ls.size = nL) (hst : st0 = As.reverse ++ .ref h0 :: rest) (hw : (rest.map fun v => v.category).sum ≤ 8) (dg : decode cc pc = .ok (.invokespecial index, 3)) (hf : cells + mc ≤ R.cells ∧ slots + ms ≤ R.slots)
    (kk : ∀ (r : Nat → Nat) (H : Heap) (locs : List Loc), Gw D ba s (Wf r) H locs → W p l e R s m args below meth c H locs (cells + mc) (slots + ms) Q (F0 m (pc + 3) ls rest)) : W p l e R s m args below meth c H locs cells slots Q (F0 m pc ls st0) :=
  n_call P (va_runIN (b := h0) (As := As) (rest := rest) (ws := ws_ y bytes maxL none) (rm := rmK d mc ms) B hM ⟨va_cnB n B.2.2.2.2 (good_I q5) rfl rfl rfl (G.2.2.1 _ q1) (B.2.2.2.2 _ q4) hy.2 hR, hy1, B.2.2.2.2 _ q2⟩ ⟨GnP_blind, GnP_at G P⟩ rfl hn hl hst (lv_room hw) dg hf) kk
theorem n_callS (B : CallFix p m c cc nL s args AW own) (G : Gx D cy ba s) (P : Gw D ba s Z H locs) {d mc ms maxL index n : Nat} {y : MethodName} {bytes : ByteArray} {As : List Value} {Wf : (Nat → Nat) → va_W} {st0 : List Value}
    (hM : Cn D cy ba l d mc ms y bytes maxL As Z Wf) (q1 : Cond.methodLink own index y ∈ AW) (q2 : Cond.static y ∈ AW) (q4 : Cond.initialized y.cls ∈ AW) (q5 : Cond.code y bytes maxL none ∈ AW) (hy : nmOk y y.cls n) (hn : As.length = n)
    (hR : 10 + d + 1 ≤ R.frames ∧ 8 + (maxL + 11) + (200 + 40 * d) ≤ R.locals) (hl : ls.size = nL) (hst : st0 = As.reverse ++ rest) (hw : (rest.map fun v => v.category).sum ≤ 8) (dg : decode cc pc = .ok (.invokestatic index, 3)) (hf : cells + mc ≤ R.cells ∧ slots + ms ≤ R.slots)
    (kk : ∀ (r : Nat → Nat) (H : Heap) (locs : List Loc), Gw D ba s (Wf r) H locs → W p l e R s m args below meth c H locs (cells + mc) (slots + ms) Q (F0 m (pc + 3) ls rest)) : W p l e R s m args below meth c H locs cells slots Q (F0 m pc ls st0) :=
  n_call P (va_runS (As := As) (rest := rest) B hM (va_cwS n B.2.2.2.2 (good_S q1 q2 q4 q5) rfl rfl rfl hy.2 hR) ⟨GnP_blind, GnP_at G P⟩ rfl hn hl hst (lv_room hw) dg hf) kk
theorem n_new (B : CallFix p m c cc nL s args AW own) (G : Gx D cy ba s) (P : Gw D ba s Z H locs) {ci N index : Nat} {C : String} {T : u_T} (o : clsOk ci C T N) (ty : Nat → FieldType) (hty : ∀ k, k < N → parseFieldDescriptor (T k).2.2.1 = some (ty k)) (q1 : Cond.classLink own index C ∈ AW) (q2 : Cond.instantiable C N ∈ AW) (q3 : Cond.initialized C ∈ AW) {fs : List Value} (hfs : ∀ j, j < N → defaultValue (ty j) = vp_V fs j) (hc : cells + 1 ≤ R.cells) (hs : slots + N ≤ R.slots) (d : decode cc pc = .ok (.new index, 3))
    (kk : ∀ (q : Nat) (H : Heap), Gw D ba s (Z ++ [(q, .inr (ci, fs))]) H locs → W p l e R s m args below meth c H locs (cells + 1) (slots + N) Q (F0 m (pc + 3) ls (.ref q :: rest))) : W p l e R s m args below meth c H locs cells slots Q (F0 m pc ls rest) := by
  obtain ⟨hx, hb, -, hown, hts⟩ := B
  exact va_new (D := D) hx hb hts o.2.1 ty hty hown (hts _ q1) (hts _ q2) (hts _ q3) G.1 P.1 P.2.1 P.2.2 G.hA o.1 hfs hc hs d (fun q H1 hP hD hS => kk q H1 ⟨hP, hD, hS⟩)
theorem ra_one {cA cB : ClassId} {t : FieldType} (h : va_RA s cA t) (g : va_RA s cB t) : cA = cB := by
  cases t with
  | object C =>
    obtain ⟨_, _, _, _, _, h4⟩ := h
    obtain ⟨_, _, _, _, _, g4⟩ := g
    exact Option.some.inj (h4.symm.trans g4)
  | _ => exact Option.some.inj (Eq.trans (Eq.symm h) g)
theorem n_newa (B : CallFix p m c cc nL s args AW own) (G : Gx D cy ba s) (P : Gw D ba s Z H locs) (atype : ArrayType) {ty : FieldType} (t : Nat) {cA0 : ClassId} (q1 : Cond.arrayClass (newarray.typeOf atype) ∈ AW) (hty : newarray.typeOf atype = ty) (ht : (tysOf cy)[t]? = some (cA0, ty)) {n : Int32} {N' : Nat} {a0 : vp_A} (ha : ∀ cA : ClassId, vp_cell cA a0 = arrV cA N' (fun _ => defaultValue ty)) (hn : ¬ n < 0) (hN : n.toNatClampNeg = N') (hbytes : N' * componentBytes ty ≤ 536870912) (hc : cells + 1 ≤ R.cells) (hs : slots + N' ≤ R.slots) (d : decode cc pc = .ok (.newarray atype, 2))
    (kk : ∀ (q : Nat) (H : Heap), Gw D ba s (Z ++ [(q, .inl (cA0, a0))]) H locs → W p l e R s m args below meth c H locs (cells + 1) (slots + N') Q (F0 m (pc + 2) ls (.ref q :: rest))) : W p l e R s m args below meth c H locs cells slots Q (F0 m pc ls (.int n :: rest)) := by
  obtain ⟨hx, hb, -, hown, hts⟩ := B
  refine va_newa (D := D) hx hb (hts _ q1) hty G.1 P.1 P.2.1 P.2.2 G.hA ha hn hN hbytes hc hs d (fun q cA H1 hK hP hD hS => ?_)
  have e : cA = cA0 := ra_one (hK.2 (tysOf cy).length (cA, ty) (by rw [List.getElem?_append_right (Nat.le_refl _), Nat.sub_self]; rfl)).2 (G.1.2 t _ ht).2
  subst e
  exact kk q H1 ⟨hP, hD, hS⟩
theorem n_newq (B : CallFix p m c cc nL s args AW own) (G : Gx D cy ba s) (P : Gw D ba s Z H locs) {index : Nat} (q1 : Cond.classLink own index RX4 ∈ AW) {n : Int32} {N' : Nat} (hn : ¬ n < 0) (hN : n.toNatClampNeg = N') (hbytes : N' * 4 ≤ 536870912) (hc : cells + 1 ≤ R.cells) (hs : slots + N' ≤ R.slots) (d : decode cc pc = .ok (.anewarray index, 3))
    (kk : ∀ (q : Nat) (H : Heap), Gw D ba s (Z ++ [(q, .inl (cy 11, N', .inr (.inr (.inr (.inr (fun _ => none))))))]) H locs → W p l e R s m args below meth c H locs (cells + 1) (slots + N') Q (F0 m (pc + 3) ls (.ref q :: rest))) : W p l e R s m args below meth c H locs cells slots Q (F0 m pc ls (.int n :: rest)) := by
  obtain ⟨hx, hb, -, hown, hts⟩ := B
  refine va_newq (D := D) hx hb hown (hts _ q1) G.2.2.2.1 G.1 P.1 P.2.1 P.2.2 G.hA hn hN hbytes hc hs d (fun q cA H1 hK hP hD hS => ?_)
  have e : cA = cy 11 := ra_one (hK.2 (tysOf cy).length (cA, .object RX4) (by rw [List.getElem?_append_right (Nat.le_refl _), Nat.sub_self]; rfl)).2 (G.1.2 4 (cy 11, .object RX4) rfl).2
  subst e
  exact kk q H1 ⟨hP, hD, hS⟩
theorem n_mna (B : CallFix p m c cc nL s args AW own) (G : Gx D cy ba s) (P : Gw D ba s Z H locs) {index : Nat} (q1 : Cond.classLink own index "[[I" ∈ AW) (q2 : Cond.arrayClass .int ∈ AW) {n k : Int32} {N' K' : Nat} (hn : ¬ n < 0) (hk : ¬ k < 0) (hN : n.toNatClampNeg = N') (hM : k.toNatClampNeg = K') (hb1 : N' * 4 ≤ 536870912) (hb2 : K' * componentBytes .int ≤ 536870912) (hb3 : K' ≤ 536870912) (hc : cells + (1 + N') ≤ R.cells) (hs : slots + (N' + N' * K') ≤ R.slots) (d : decode cc pc = .ok (.multianewarray index 2, 4))
    (kk : ∀ (q : Nat) (r : Nat → Nat) (H : Heap), Gw D ba s ((Z ++ [(q, .inl (cy 12, N', .inr (.inr (.inr (.inr (fun i => if i < N' then some (r i) else none))))))]) ++ ((List.range N').map r).map (fun a => (a, .inl (cy 7, K', .inl (fun _ => 0))))) H locs → W p l e R s m args below meth c H locs (cells + 1 + N') (slots + N' + N' * K') Q (F0 m (pc + 4) ls (.ref q :: rest))) : W p l e R s m args below meth c H locs cells slots Q (F0 m pc ls (.int k :: .int n :: rest)) := by
  obtain ⟨hx, hb, -, hown, hts⟩ := B
  have e0 : "[" ++ (FieldType.array .int).toString = "[[I" := by decide
  have hcy : s.vm.findClass (FieldType.array .int).toString = some (cy 7) := (G.1.2 0 (cy 7, .int) rfl).2
  refine va_mna (D := D) (X := Z) (L := []) (f := fun _ => .inl (cy 7, K', .inl (fun _ => 0))) (ty := .int) (cy := cy 7) (z := (K', .inl (fun _ => 0))) hx hb hown (by rw [e0]; exact hts _ q1) G.2.2.2.2 (hts _ q2) hcy G.1 (by show va_P D cls7 (Z ++ []) H; rw [List.append_nil]; exact P.1) (by show va_D _ (Z ++ []); rw [List.append_nil]; exact P.2.1) P.2.2 G.hA hn hk hN hM hb1 hb2 hb3 rfl rfl hc hs (fun c => ?_) d (fun q r cA H1 hi hnl hK hP hD hS => ?_)
  · show ({ cls := c, slots := Array.replicate K' (.int 0), vm := .none } : Cell) = arrV c K' (fun _ => .int 0)
    rw [arrV_new]
  · have e : cA = cy 12 := ra_one (hK.2 (tysOf cy).length (cA, .array .int) (by rw [List.getElem?_append_right (Nat.le_refl _), Nat.sub_self]; rfl)).2 (G.1.2 5 (cy 12, .array .int) rfl).2
    subst e
    rw [← vr_rows (fun _ _ h => by cases h)] at hP hD
    exact kk q r H1 ⟨hP, hD, hS⟩
theorem n_putF (B : CallFix p m c cc nL s args AW own) (G : Gx D cy ba s) (P : Gw D ba s Z H locs) {ci k j index N h0 : Nat} {C : String} {T : u_T} {v : Value} {ty : FieldType} {fs : List Value} (o : clsOk ci C T N) (he : Z[k]? = some (h0, .inr (ci, fs))) (hj : j < N) (hfin : (T j).2.2.2 = true) (hin : meth.name = "<init>") (hdecl : (T j).1 = own) (hd : parseFieldDescriptor (T j).2.2.1 = some ty) (hn : narrow ty v = v) (hfit : fits ty v = true) (hl : j < fs.length) (q : Cond.fieldLink own index (T j).1 (T j).2.1 (T j).2.2.1 ∈ AW) (d : decode cc pc = .ok (.putfield index, 3))
    (kk : ∀ (H : Heap) (locs : List Loc), Gw D ba s (Z.set k (h0, .inr (ci, fs.set j v))) H locs → W p l e R s m args below meth c H locs cells slots Q (F0 m (pc + 3) ls rest)) : W p l e R s m args below meth c H locs cells slots Q (F0 m pc ls (v :: .ref h0 :: rest)) := by
  obtain ⟨hx, hb, -, hown, hts⟩ := B
  obtain ⟨ty0, hty, hnm⟩ := o.2.2
  exact va_putF (D := D) (v := v) hx hb hts o.2.1 ty0 hty hnm hown G.1 P.1 P.2.1 P.2.2 k he o.1 j hj (hts _ q) (fun _ h => h) hfin hin hdecl hd hn hfit hl d (fun H1 locs1 hP hD hS => kk H1 locs1 ⟨hP, hD, hS⟩)
theorem n_put (B : CallFix p m c cc nL s args AW own) (G : Gx D cy ba s) (P : Gw D ba s Z H locs) {ci k j index N h0 : Nat} {C : String} {T : u_T} {v : Value} {ty : FieldType} {fs : List Value} (o : clsOk ci C T N) (he : Z[k]? = some (h0, .inr (ci, fs))) (hj : j < N) (hfin : (T j).2.2.2 = false) (hd : parseFieldDescriptor (T j).2.2.1 = some ty) (hn : narrow ty v = v) (hfit : fits ty v = true) (hl : j < fs.length) (q : Cond.fieldLink own index (T j).1 (T j).2.1 (T j).2.2.1 ∈ AW) (d : decode cc pc = .ok (.putfield index, 3))
    (kk : ∀ (H : Heap) (locs : List Loc), Gw D ba s (Z.set k (h0, .inr (ci, fs.set j v))) H locs → W p l e R s m args below meth c H locs cells slots Q (F0 m (pc + 3) ls rest)) : W p l e R s m args below meth c H locs cells slots Q (F0 m pc ls (v :: .ref h0 :: rest)) := by
  obtain ⟨hx, hb, -, hown, hts⟩ := B
  obtain ⟨ty0, hty, hnm⟩ := o.2.2
  exact va_put (D := D) (v := v) hx hb hts o.2.1 ty0 hty hnm hown G.1 P.1 P.2.1 P.2.2 k he o.1 j hj (hts _ q) (fun _ h => h) hfin hd hn hfit hl d (fun H1 locs1 hP hD hS => kk H1 locs1 ⟨hP, hD, hS⟩)
theorem n_get (B : CallFix p m c cc nL s args AW own) (G : Gx D cy ba s) (P : Gw D ba s Z H locs) (k : Nat) {ci j index N h0 : Nat} {C : String} {T : u_T} {v : Value} {fs : List Value} (o : clsOk ci C T N) (he : Z[k]? = some (h0, .inr (ci, fs))) (hj : j < N) (hv : fs[j]? = some v) (q : Cond.fieldLink own index (T j).1 (T j).2.1 (T j).2.2.1 ∈ AW) (d : decode cc pc = .ok (.getfield index, 3))
    (kk : W p l e R s m args below meth c H locs cells slots Q (F0 m (pc + 3) ls (v :: rest))) : W p l e R s m args below meth c H locs cells slots Q (F0 m pc ls (.ref h0 :: rest)) := by
  obtain ⟨hx, hb, -, hown, hts⟩ := B
  exact va_get (D := D) (v := v) hx hb hts o.2.1 hown G.1 P.1 k he o.1 j hj (hts _ q) (fun _ h => h) hv d kk
theorem n_ist (B : CallFix p m c cc nL s args AW own) (G : Gx D cy ba s) (P : Gw D ba s Z H locs) {k a n : Nat} {f : Nat → Int32} {x v : Int32} (he : Z[k]? = some (a, .inl (cy 7, n, .inl f))) (hin : vp_in x n) (d : decode cc pc = .ok (.iastore, 1))
    (kk : ∀ (H : Heap) (locs : List Loc), Gw D ba s (Z.set k (a, .inl (cy 7, n, .inl (upd f x.toNatClampNeg v)))) H locs → W p l e R s m args below meth c H locs cells slots Q (F0 m (pc + 1) ls rest)) : W p l e R s m args below meth c H locs cells slots Q (F0 m pc ls (.int v :: .int x :: .ref a :: rest)) := by
  obtain ⟨hx, hb, -, hown, hts⟩ := B
  exact va_iast (D := D) hx hb G.1 P.1 P.2.1 P.2.2 k 0 he rfl hin d (fun H1 locs1 hP hD hS => kk H1 locs1 ⟨hP, hD, hS⟩)
theorem n_qst (B : CallFix p m c cc nL s args AW own) (G : Gx D cy ba s) (P : Gw D ba s Z H locs) {k kv a n v : Nat} {f : Nat → Option Nat} {vs : List Value} {x : Int32} (he : Z[k]? = some (a, .inl (cy 11, n, .inr (.inr (.inr (.inr f)))))) (hv : Z[kv]? = some (v, .inr (4, vs))) (hin : vp_in x n) (d : decode cc pc = .ok (.aastore, 1))
    (kk : ∀ (H : Heap) (locs : List Loc), Gw D ba s (Z.set k (a, .inl (cy 11, n, .inr (.inr (.inr (.inr (va_up f x.toNatClampNeg (some v)))))))) H locs → W p l e R s m args below meth c H locs cells slots Q (F0 m (pc + 1) ls rest)) : W p l e R s m args below meth c H locs cells slots Q (F0 m pc ls (.ref v :: .int x :: .ref a :: rest)) := by
  obtain ⟨hx, hb, -, hown, hts⟩ := B
  exact va_astq (D := D) hx hb G.1 P.1 P.2.1 P.2.2 k 4 kv 4 (r := (RX4, TX4, 13)) he rfl hv rfl hin d (fun H1 locs1 hP hD hS => kk H1 locs1 ⟨hP, hD, hS⟩)
theorem n_alen (B : CallFix p m c cc nL s args AW own) (G : Gx D cy ba s) (P : Gw D ba s Z H locs) (k : Nat) {a n : Nat} {f : Nat → Int32} {v : Int32} (he : Z[k]? = some (a, .inl (cy 7, n, .inl f))) (hv : Int32.ofNat n = v) (d : decode cc pc = .ok (.arraylength, 1))
    (kk : W p l e R s m args below meth c H locs cells slots Q (F0 m (pc + 1) ls (.int v :: rest))) : W p l e R s m args below meth c H locs cells slots Q (F0 m pc ls (.ref a :: rest)) := by
  obtain ⟨hx, hb, -, hown, hts⟩ := B
  exact va_alen (D := D) hx hb G.1 P.1 k 0 he rfl hv d kk
end NROWS
/-- the object in the making, at its place; behind the list: what was made -/
theorem z_self {Z : va_W} {k : Nat} {e : Nat × va_E} (h : Z[k]? = some e) : Z = Z.set k e ++ [] := by
  rw [List.append_nil]
  apply List.ext_getElem?
  intro i
  by_cases q : i = k
  · rw [q, h, List.getElem?_set_self (List.getElem?_eq_some_iff.mp h).1]
  · rw [List.getElem?_set_ne (Ne.symm q)]
theorem z_len {Z : va_W} {k : Nat} {e : Nat × va_E} (h : Z[k]? = some e) : k < Z.length := (List.getElem?_eq_some_iff.mp h).1
theorem z_at {Z Y : va_W} {k : Nat} {e : Nat × va_E} (hk : k < Z.length) : (Z.set k e ++ Y)[k]? = some e := by
  rw [List.getElem?_append_left (by rw [List.length_set]; exact hk), List.getElem?_set_self hk]
theorem z_set {Z Y : va_W} {k : Nat} {e e' : Nat × va_E} (hk : k < Z.length) : (Z.set k e ++ Y).set k e' = Z.set k e' ++ Y := by
  rw [List.set_append_left _ _ (by rw [List.length_set]; exact hk), List.set_set]
theorem z_in {Z Y : va_W} {k i : Nat} {e x : Nat × va_E} (h : Y[i]? = some x) : (Z.set k e ++ Y)[Z.length + i]? = some x := by
  rw [List.getElem?_append_right (by rw [List.length_set]; omega), List.length_set, Nat.add_sub_cancel_left]; exact h
theorem z_put {Z Y : va_W} {k i : Nat} {e x : Nat × va_E} : (Z.set k e ++ Y).set (Z.length + i) x = Z.set k e ++ Y.set i x := by
  rw [List.set_append_right _ _ (by rw [List.length_set]; omega), List.length_set, Nat.add_sub_cancel_left]
theorem Gw.to {D : va_G} {ba : Nat} {s : State} {Z Z' : va_W} {H : Heap} {locs : List Loc} (h : Gw D ba s Z H locs) (e : Z = Z') : Gw D ba s Z' H locs := e ▸ h
