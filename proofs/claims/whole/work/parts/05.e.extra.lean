/-- Met.ofW for a method of a class like java.lang.Math: the method itself is plain -/
theorem Met.ofWF {l : Launch} {y : MethodName} {ws ws' : List Cond} {rm : Room} {Pc : Array Value → State → Prop} {Qc : Array Value → State → Outcome → State → Prop} {mc ms : Nat} {free : Addr → Prop} {cc : ByteArray} {maxL : Nat} {ret : Option FieldType}
    (hy : plainFor y = true) (hw : ws = Cond.code y cc maxL ret :: ws')
    (body : ∀ p e s m args below meth c s₁, BodyLoose p l y (headSpec ws rm) cc maxL ret e s m args below meth c s₁ → c.maxLocals = maxL → Pc args s →
      W p l e (headSpec ws rm).room s m args below meth c s.heap [] 0 0 (MQ below Qc args s mc ms free) (entryFrame m args maxL)) : Met l y ws rm Pc Qc mc ms free := by
  refine MetFree.of_bodySF (code := cc) (maxLocals := maxL) (ret := ret) hy ?_ ?_
  · intro args s m h hn
    obtain ⟨meth, c, h1, h2, h3, h4, h5, h6, -, -⟩ := Cond.code_spec hn (atoms_spec (ws := ws) h _ (by rw [hw]; exact List.mem_cons_self))
    exact ⟨meth, c, h1, h2, h3, h4, h5, h6⟩
  · intro p e s m args below meth c s₁ B hml hP _
    have hh0 : s₁.heap = s.heap := by rw [B.state]; rfl
    obtain ⟨t, a1, o, b1, b2, b3⟩ := body p e s m args below meth c s₁ B hml hP s₁ hh0 (Stand.of_body B)
    exact ⟨t, o, a1, b1, b2, ⟨b3.1, b3.2⟩⟩
theorem Ct.ofF {D : va_G} {ad : Nat → Nat} {cy : Nat → ClassId} {ba : Nat} {l : Launch} {d : Nat} {y : MethodName} {cc : ByteArray} {n : Nat} {ret : Option FieldType} {av : List Value} {σ : Sg} {v : Option Value} {σ' : Sg} (hy : plainFor y = true) (hn : (lg_sl av).length ≤ n)
    (body : ∀ (p : Program) (e : Env) (s : State) (m : MethodId) (below : List Frame) (meth : Method) (c : Code) (ls : Array Slot), CallFix p m c cc n s av.toArray AW y.cls → Fx D ad cy ba s → Wo D ad cy ba s σ s.heap [] → meth.sig.returnType = ret → meth.locks = false → lv_has ls n (lv_args 0 av) →
      W p l e (rmK d 0 0) s m av.toArray below meth c s.heap [] 0 0 (MQ below (Qe D ad cy ba v σ') av.toArray s 0 0 (fun q => ba ≤ q)) (F0 m 0 ls [])) : Ct D ad cy ba l d y cc n ret av σ v σ' := by
  refine Met.ofWF (cc := cc) (maxL := n) (ret := ret) hy rfl ?_
  intro p e s m args below meth c s₁ B hml hv
  obtain ⟨rfl, F, P⟩ := hv
  have hts := atoms_spec (ws := ws_ y cc n ret) B.pre
  rw [lg_entry_eq]
  exact body p e s m below meth c _ ⟨B.exec, B.bytes, hml, findClass_of_methodNamed B.named, fun w h => hts w (List.mem_cons_of_mem _ h)⟩ F ⟨P, va_S.rf⟩ B.returns B.notSynchronized (lv_entry av hn)
theorem g_getiv {p : Program} {l : Launch} {e : Env} {R : Room} {s : State} {m : MethodId} {args : Array Value} {below : List Frame} {meth : Method} {c : Code} {H : Heap} {locs : List Loc} {cells slots : Nat} {Q : State → Prop} {cc : ByteArray} {nL pc : Nat} {own : String} {ls : Array Slot} {rest : List Value} {D : va_G} {ad : Nat → Nat} {cy : Nat → ClassId} {ba : Nat} {σ : Sg} (B : CallFix p m c cc nL s args AW own) (F : Fx D ad cy ba s) (P : Wo D ad cy ba s σ H locs) {i ci k index N : Nat} {C : String} {T : u_T} {v : Int32} (o : clsOk ci C T N) (hi : i < 81) (hk : kd i = ci) (hs : sk ci k = 0) (hN : nf ci = N) (hkN : k < N) (q : Cond.fieldLink own index (T k).1 (T k).2.1 (T k).2.2.1 ∈ AW) (d : decode cc pc = .ok (.getfield index, 3)) (hv : rI σ i k = v)
    (kk : W p l e R s m args below meth c H locs cells slots Q (F0 m (pc + 3) ls (.int v :: rest))) : W p l e R s m args below meth c H locs cells slots Q (F0 m pc ls (.ref (ad i) :: rest)) := g_geti B F P o hi hk hs hN hkN q d (by rw [hv]; exact kk)
theorem g_getlv {p : Program} {l : Launch} {e : Env} {R : Room} {s : State} {m : MethodId} {args : Array Value} {below : List Frame} {meth : Method} {c : Code} {H : Heap} {locs : List Loc} {cells slots : Nat} {Q : State → Prop} {cc : ByteArray} {nL pc : Nat} {own : String} {ls : Array Slot} {rest : List Value} {D : va_G} {ad : Nat → Nat} {cy : Nat → ClassId} {ba : Nat} {σ : Sg} (B : CallFix p m c cc nL s args AW own) (F : Fx D ad cy ba s) (P : Wo D ad cy ba s σ H locs) {i ci k index N : Nat} {C : String} {T : u_T} {v : Int64} (o : clsOk ci C T N) (hi : i < 81) (hk : kd i = ci) (hs : sk ci k = 1) (hN : nf ci = N) (hkN : k < N) (q : Cond.fieldLink own index (T k).1 (T k).2.1 (T k).2.2.1 ∈ AW) (d : decode cc pc = .ok (.getfield index, 3)) (hv : rL σ i k = v)
    (kk : W p l e R s m args below meth c H locs cells slots Q (F0 m (pc + 3) ls (.long v :: rest))) : W p l e R s m args below meth c H locs cells slots Q (F0 m pc ls (.ref (ad i) :: rest)) := g_getl B F P o hi hk hs hN hkN q d (by rw [hv]; exact kk)
