section WRAP
variable {D : va_G} {ad : Nat → Nat} {cy : Nat → ClassId} {ba : Nat}
theorem Cw.of {l : Launch} {d nx : Nat} {y : MethodName} {cc : ByteArray} {n : Nat} {ret : Option FieldType} {hh : List (Nat × Nat × Nat × Nat)} {av : List Value} {σ : Sg} {v : Option Value} {σ' : Sg} (hy : plainName y.cls = true) (hn : (lg_sl av).length ≤ n)
    (body : ∀ (p : Program) (e : Env) (s : State) (m : MethodId) (below : List Frame) (meth : Method) (c : Code) (ls : Array Slot), CallFix p m c cc n s av.toArray AW y.cls → Fx D ad cy ba s → Wo D ad cy ba s σ s.heap [] → meth.sig.returnType = ret → meth.locks = false → c.exceptionTable.toList = tableOf hh → lv_has ls n (lv_args 0 av) →
      W p l e (rmK d nx (6 * nx)) s m av.toArray below meth c s.heap [] 0 0 (MQ below (Qe D ad cy ba v σ') av.toArray s nx (6 * nx) (fun q => ba ≤ q)) (F0 m 0 ls [])) : Cw D ad cy ba l d nx y cc n ret hh av σ v σ' := by
  refine va_MetW (cc := cc) (maxL := n) (ret := ret) (hh := hh) hy rfl ?_
  intro p e s m args below meth c s₁ B hml hv
  obtain ⟨rfl, F, P⟩ := hv
  have hts := atoms_spec (ws := Cond.codeWith y cc n ret hh :: AW) B.pre
  rw [lg_entry_eq]
  exact body p e s m below meth c _ ⟨B.exec, B.bytes, hml, findClass_of_methodNamed B.named, fun w h => hts w (List.mem_cons_of_mem _ h)⟩ F ⟨P, va_S.rf⟩ B.returns B.notSynchronized (vx_table (x := y) (bytes := cc) (maxL' := n) (ret' := ret) B (hts _ List.mem_cons_self)) (lv_entry av hn)
variable {p : Program} {l : Launch} {e : Env} {R : Room} {s : State} {m : MethodId} {args : Array Value} {below : List Frame} {meth : Method} {c : Code} {H : Heap} {locs : List Loc} {cells slots : Nat} {Q : State → Prop}
variable {cc : ByteArray} {nL pc : Nat} {own : String} {ls : Array Slot} {rest : List Value} {σ : Sg}
theorem g_callSw (B : CallFix p m c cc nL s args AW own) (F : Fx D ad cy ba s) (P : Wo D ad cy ba s σ H locs) {d nx maxL index n : Nat} {y : MethodName} {bytes : ByteArray} {ret : Option FieldType} {hh : List (Nat × Nat × Nat × Nat)} {As : List Value} {v : Option Value} {σ' : Sg} {st0 : List Value}
    (hM : Cw D ad cy ba l d nx y bytes maxL ret hh As σ v σ') (q1 : Cond.methodLink own index y ∈ AW) (q2 : Cond.static y ∈ AW) (q4 : Cond.initialized y.cls ∈ AW) (q5 : Cond.codeWith y bytes maxL ret hh ∈ AW) (hy : nmOk y y.cls n) (hn : As.length = n)
    (hR : 10 + d + 1 ≤ R.frames ∧ 8 + (maxL + 11) + (200 + 40 * d) ≤ R.locals) (hl : ls.size = nL) (hst : st0 = As.reverse ++ rest) (hw : (rest.map fun v => v.category).sum ≤ 8) (dg : decode cc pc = .ok (.invokestatic index, 3)) (hf : cells + nx ≤ R.cells ∧ slots + 6 * nx ≤ R.slots)
    (kk : ∀ (H : Heap) (locs : List Loc), Wo D ad cy ba s σ' H locs → W p l e R s m args below meth c H locs (cells + nx) (slots + 6 * nx) Q (F0 m (pc + 3) ls (v.toList ++ rest))) : W p l e R s m args below meth c H locs cells slots Q (F0 m pc ls st0) :=
  g_call P (vx_runSW (As := As) (rest := rest) (hh := hh) B hM (vx_cwSW (mc := nx) (ms := 6 * nx) n B.2.2.2.2 (good_in (fun w hw => by
    unfold va_wsS at hw
    simp only [List.cons_append, List.nil_append, List.mem_cons] at hw
    rcases hw with rfl | rfl | rfl | rfl | h
    · exact q1
    · exact q2
    · exact q4
    · exact q5
    · exact h)) rfl rfl rfl hy.2 hR) ⟨PcW_blind, PcW_at F P⟩ rfl hn hl hst (lv_room hw) dg hf) kk
end WRAP
theorem ck_rng (v lo hi : Int32) (σ : Sg) : f_X5_checkRange v lo hi σ = 0 ∨ f_X5_checkRange v lo hi σ = 1 := by
  unfold f_X5_checkRange
  split
  · exact Or.inr rfl
  · split
    · exact Or.inl rfl
    · exact Or.inr rfl
theorem ck_slots (a b : Int32) (σ : Sg) : f_X5_checkSlots a b σ = 0 ∨ f_X5_checkSlots a b σ = 1 := by
  unfold f_X5_checkSlots
  split
  · split
    · exact Or.inl rfl
    · exact ck_rng _ _ _ _
  · exact ck_rng _ _ _ _
theorem ck_train (t : Int32) (σ : Sg) : f_X5_checkTrain t σ = 0 ∨ f_X5_checkTrain t σ = 3 := by
  unfold f_X5_checkTrain
  split
  · exact Or.inr rfl
  · split
    · exact Or.inl rfl
    · exact Or.inr rfl
theorem ck_tank (t : Int32) (σ : Sg) : f_X5_checkTank t σ = 0 ∨ f_X5_checkTank t σ = 3 := by
  unfold f_X5_checkTank
  split
  · exact Or.inr rfl
  · split
    · exact Or.inl rfl
    · exact Or.inr rfl
theorem ck_ready (t : Int32) (σ : Sg) : f_X5_checkReady t σ = 0 ∨ f_X5_checkReady t σ = 2 := by
  unfold f_X5_checkReady
  split
  · exact Or.inl rfl
  · exact Or.inr rfl
theorem ck_allowed (c : Int32) (σ : Sg) : f_X5_checkAllowed c σ = 0 ∨ f_X5_checkAllowed c σ = 5 := by
  unfold f_X5_checkAllowed
  split
  · exact Or.inl rfl
  · exact Or.inr rfl
theorem n64_f2d {x : UInt32} (h : x.toNat % 2 ^ 31 ≤ 2139095040) : vf_n64 (FP.f2d x) := (Free.Fl.noNaN_f2d x).mpr (n32_of h)
theorem nan_f' {x y : Int64} (h : y.toInt ≠ 0) : (FP.fdiv (FP.l2f x) (FP.l2f y)).toNat % 2 ^ 31 ≤ 2139095040 := by
  show (FP.Core.fdiv (FP.Core.l2f x) (FP.Core.l2f y)).toNat % 2 ^ 31 ≤ _
  have h1 := FP.Core.fdiv_mag (FP.Core.l2f_mag x) (FP.Core.l2f_big h).1 (FP.Core.l2f_big h).2 (by decide) (by decide)
  omega
theorem ss_nan {σ : Sg} (h : (f_X5_servedShare σ).1 = 0) : (f_X5_servedShare σ).2.toNat % 2 ^ 31 ≤ 2139095040 := by
  unfold f_X5_servedShare at h ⊢
  split at h
  · exact absurd h (by decide)
  · rename_i c
    rw [if_neg c]
    exact nan_f' (l_ne0 c)
theorem kc_addTrain (a : Int32) (σ : Sg) : (f_X5_addTrain a σ).1 = 0 ∨ (f_X5_addTrain a σ).1 = 1 ∨ (f_X5_addTrain a σ).1 = 2 := by
  unfold f_X5_addTrain
  repeat' split
  all_goals try dsimp only
  all_goals (first | omega | with_reducible exact (ck_rng _ _ _ _).elim (fun h => Or.inl h) (fun h => by rw [h]; decide) | with_reducible exact (ck_train _ _).elim (fun h => Or.inl h) (fun h => by rw [h]; decide) | with_reducible exact (ck_tank _ _).elim (fun h => Or.inl h) (fun h => by rw [h]; decide) | with_reducible exact (ck_ready _ _).elim (fun h => Or.inl h) (fun h => by rw [h]; decide) | with_reducible exact (ck_slots _ _ _).elim (fun h => Or.inl h) (fun h => by rw [h]; decide) | with_reducible exact (ck_allowed _ _).elim (fun h => Or.inl h) (fun h => by rw [h]; decide))
def f_L_addTrain (a : Int32) (σ : Sg) : Int32 × Sg := if (f_X5_addTrain a σ).1 = 0 then (0, sL (f_X5_addTrain a σ).2.2 31 (Int32.toNatClampNeg 0) (f_X5_addTrain a σ).2.1.toInt64) else ((if (f_X5_addTrain a σ).1 = 1 then 1 else 2), (f_X5_addTrain a σ).2.2)
theorem nk_X5_addTrain : nmOk yX5_addTrain RX5 1 := ⟨rfl, by decide +kernel, by decide +kernel, by decide +kernel⟩
set_option maxHeartbeats 4000000 in
set_option maxRecDepth 100000 in
theorem cw_L_addTrain {D : va_G} {ad : Nat → Nat} {cy : Nat → ClassId} {ba : Nat} (l : Launch) (a : Int32) (σ : Sg) (hst : l.stackTraces = false) (hC : GC 99000 σ) : Cw D ad cy ba l 2 4 yL_addTrain cL_addTrain 4 (some .int) [(0, 9, 12, 13), (0, 9, 15, 15)] [.ref (ad 0), .int a, .ref (ad 31)] σ (some (.int (f_L_addTrain a σ).1)) (f_L_addTrain a σ).2 := by
  generalize hE : f_L_addTrain a σ = Z
  dsimp only [f_L_addTrain] at hE
  refine Cw.of (by decide +kernel) (Nat.le_of_ble_eq_true rfl) ?_
  intro p e s m below meth c ls B F P hrt hlk hT hl
  have hx := B.1
  have hb := B.2.1
  have hl : lv_has ls 4 [(0, .ref (ad 0)), (1, .int a), (2, .ref (ad 31))] := hl
  refine lv_aload_n hx hb dL_addTrain_0 rfl (lv_at hl 2 rfl) ?_
  refine lv_iconst (v := 0) hx hb dL_addTrain_1 (by decide) ?_
  refine lv_aload_n hx hb dL_addTrain_2 rfl (lv_at hl 0 rfl) ?_
  refine lv_iload_n hx hb dL_addTrain_3 rfl (lv_at hl 1 rfl) ?_
  refine g_callVx B F P (As := [.int a]) (ct_X5_addTrain (D := D) (ad := ad) (cy := cy) (ba := ba) l a σ hst hC) ok5 (by decide) rfl q367 q368 q369 q1 q370 nk_X5_addTrain rfl ⟨Nat.le_of_ble_eq_true rfl, Nat.le_of_ble_eq_true rfl⟩ hl.1 rfl (Nat.le_of_ble_eq_true rfl) dL_addTrain_4 ⟨Nat.le_of_ble_eq_true rfl, Nat.le_of_ble_eq_true rfl⟩ (fun c0 ce q9 H locs P h1 h2 h3 => ?_) (fun c0 H locs P => ?_)
  · rw [if_neg c0] at hE
    rcases kc_addTrain a σ with hk | hk | hk
    · exact absurd hk c0
    · rw [hk] at h3
      simp only [hk] at hE
      refine vx_catch (name := exN 1) B.2.2.2.1 [] ⟨0, 9, 12, 13⟩ [⟨0, 9, 15, 15⟩] (hT.trans rfl) (fun z hz => absurd hz List.not_mem_nil) (by decide) (by decide) (B.2.2.2.2 _ q365) (va_Nw.use rfl (F.2.2.2.1.1 _ k376)) h1 h2 h3 ?_
      refine lv_astore_n (lv' := [(3, .ref q9), (0, .ref (ad 0)), (1, .int a), (2, .ref (ad 31))]) hx hb dL_addTrain_12 rfl hl (by decide) rfl (fun ls hl => ?_)
      refine lv_iconst (v := 1) hx hb dL_addTrain_13 (by decide) ?_
      exact g_retiw B P (by rw [← hE]; try rfl) (by rw [← hE]) hrt hlk (Nat.le_of_ble_eq_true rfl) (Nat.le_of_ble_eq_true rfl) dL_addTrain_14
    · rw [hk] at h3
      simp only [hk] at hE
      refine vx_catch (name := exN 2) B.2.2.2.1 [⟨0, 9, 12, 13⟩] ⟨0, 9, 15, 15⟩ [] (hT.trans rfl) (fun z hz => by
        simp only [List.mem_cons, List.not_mem_nil, or_false] at hz
        rcases hz with rfl
        · exact Or.inr ⟨by decide, exN 1, B.2.2.2.2 _ q365, F.2.2.2.1.2.2 (exN 2, exN 1) (by decide +kernel)⟩) (by decide) (by decide) (B.2.2.2.2 _ q366) (va_Nw.use rfl (F.2.2.2.1.1 _ k448)) h1 h2 h3 ?_
      refine lv_astore_n (lv' := [(3, .ref q9), (0, .ref (ad 0)), (1, .int a), (2, .ref (ad 31))]) hx hb dL_addTrain_15 rfl hl (by decide) rfl (fun ls hl => ?_)
      refine lv_iconst (v := 2) hx hb dL_addTrain_16 (by decide) ?_
      exact g_retiw B P (by rw [← hE]; try rfl) (by rw [← hE]) hrt hlk (Nat.le_of_ble_eq_true rfl) (Nat.le_of_ble_eq_true rfl) dL_addTrain_17
  rw [if_pos c0] at hE
  refine lv_i2l hx hb dL_addTrain_7 rfl ?_
  refine g_lst B F P (by decide) rfl rfl (by unfold vp_in; decide) dL_addTrain_8 (fun H locs P => ?_)
  refine lv_goto (tgt := 18) hx hb dL_addTrain_9 (by decide) ?_
  refine lv_iconst (v := 0) hx hb dL_addTrain_18 (by decide) ?_
  exact g_retiw B P (by rw [← hE]) (by rw [← hE]) hrt hlk (Nat.le_of_ble_eq_true rfl) (Nat.le_of_ble_eq_true rfl) dL_addTrain_19
theorem kc_setPressure (t : Int32) (v : Int32) (σ : Sg) : (f_X5_setPressure t v σ).1 = 0 ∨ (f_X5_setPressure t v σ).1 = 3 ∨ (f_X5_setPressure t v σ).1 = 1 := by
  unfold f_X5_setPressure
  repeat' split
  all_goals try dsimp only
  all_goals (first | omega | with_reducible exact (ck_rng _ _ _ _).elim (fun h => Or.inl h) (fun h => by rw [h]; decide) | with_reducible exact (ck_train _ _).elim (fun h => Or.inl h) (fun h => by rw [h]; decide) | with_reducible exact (ck_tank _ _).elim (fun h => Or.inl h) (fun h => by rw [h]; decide) | with_reducible exact (ck_ready _ _).elim (fun h => Or.inl h) (fun h => by rw [h]; decide) | with_reducible exact (ck_slots _ _ _).elim (fun h => Or.inl h) (fun h => by rw [h]; decide) | with_reducible exact (ck_allowed _ _).elim (fun h => Or.inl h) (fun h => by rw [h]; decide))
def f_L_setPressure (t : Int32) (v : Int32) (σ : Sg) : Int32 × Sg := if (f_X5_setPressure t v σ).1 = 0 then (0, sL (f_X5_setPressure t v σ).2.2 31 (Int32.toNatClampNeg 0) (f_X5_setPressure t v σ).2.1.toInt64) else ((if (f_X5_setPressure t v σ).1 = 3 then 1 else 2), (f_X5_setPressure t v σ).2.2)
theorem nk_X5_setPressure : nmOk yX5_setPressure RX5 2 := ⟨rfl, by decide +kernel, by decide +kernel, by decide +kernel⟩
set_option maxHeartbeats 4000000 in
set_option maxRecDepth 100000 in
theorem cw_L_setPressure {D : va_G} {ad : Nat → Nat} {cy : Nat → ClassId} {ba : Nat} (l : Launch) (t : Int32) (v : Int32) (σ : Sg) (hst : l.stackTraces = false) (hC : GC 99000 σ) : Cw D ad cy ba l 2 4 yL_setPressure cL_setPressure 5 (some .int) [(0, 10, 13, 21), (0, 10, 17, 13)] [.ref (ad 0), .int t, .int v, .ref (ad 31)] σ (some (.int (f_L_setPressure t v σ).1)) (f_L_setPressure t v σ).2 := by
  generalize hE : f_L_setPressure t v σ = Z
  dsimp only [f_L_setPressure] at hE
  refine Cw.of (by decide +kernel) (Nat.le_of_ble_eq_true rfl) ?_
  intro p e s m below meth c ls B F P hrt hlk hT hl
  have hx := B.1
  have hb := B.2.1
  have hl : lv_has ls 5 [(0, .ref (ad 0)), (1, .int t), (2, .int v), (3, .ref (ad 31))] := hl
  refine lv_aload_n hx hb dL_setPressure_0 rfl (lv_at hl 3 rfl) ?_
  refine lv_iconst (v := 0) hx hb dL_setPressure_1 (by decide) ?_
  refine lv_aload_n hx hb dL_setPressure_2 rfl (lv_at hl 0 rfl) ?_
  refine lv_iload_n hx hb dL_setPressure_3 rfl (lv_at hl 1 rfl) ?_
  refine lv_iload_n hx hb dL_setPressure_4 rfl (lv_at hl 2 rfl) ?_
  refine g_callVx B F P (As := [.int t, .int v]) (ct_X5_setPressure (D := D) (ad := ad) (cy := cy) (ba := ba) l t v σ hst hC) ok5 (by decide) rfl q489 q490 q491 q1 q492 nk_X5_setPressure rfl ⟨Nat.le_of_ble_eq_true rfl, Nat.le_of_ble_eq_true rfl⟩ hl.1 rfl (Nat.le_of_ble_eq_true rfl) dL_setPressure_5 ⟨Nat.le_of_ble_eq_true rfl, Nat.le_of_ble_eq_true rfl⟩ (fun c0 ce q9 H locs P h1 h2 h3 => ?_) (fun c0 H locs P => ?_)
  · rw [if_neg c0] at hE
    rcases kc_setPressure t v σ with hk | hk | hk
    · exact absurd hk c0
    · rw [hk] at h3
      simp only [hk] at hE
      refine vx_catch (name := exN 3) B.2.2.2.1 [] ⟨0, 10, 13, 21⟩ [⟨0, 10, 17, 13⟩] (hT.trans rfl) (fun z hz => absurd hz List.not_mem_nil) (by decide) (by decide) (B.2.2.2.2 _ q465) (va_Nw.use rfl (F.2.2.2.1.1 _ k499)) h1 h2 h3 ?_
      refine lv_astore (lv' := [(4, .ref q9), (0, .ref (ad 0)), (1, .int t), (2, .int v), (3, .ref (ad 31))]) hx hb dL_setPressure_13 hl (by decide) rfl (fun ls hl => ?_)
      refine lv_iconst (v := 1) hx hb dL_setPressure_15 (by decide) ?_
      exact g_retiw B P (by rw [← hE]; try rfl) (by rw [← hE]) hrt hlk (Nat.le_of_ble_eq_true rfl) (Nat.le_of_ble_eq_true rfl) dL_setPressure_16
    · rw [hk] at h3
      simp only [hk] at hE
      refine vx_catch (name := exN 1) B.2.2.2.1 [⟨0, 10, 13, 21⟩] ⟨0, 10, 17, 13⟩ [] (hT.trans rfl) (fun z hz => by
        simp only [List.mem_cons, List.not_mem_nil, or_false] at hz
        rcases hz with rfl
        · exact Or.inr ⟨by decide, exN 3, B.2.2.2.2 _ q465, F.2.2.2.1.2.2 (exN 1, exN 3) (by decide +kernel)⟩) (by decide) (by decide) (B.2.2.2.2 _ q365) (va_Nw.use rfl (F.2.2.2.1.1 _ k376)) h1 h2 h3 ?_
      refine lv_astore (lv' := [(4, .ref q9), (0, .ref (ad 0)), (1, .int t), (2, .int v), (3, .ref (ad 31))]) hx hb dL_setPressure_17 hl (by decide) rfl (fun ls hl => ?_)
      refine lv_iconst (v := 2) hx hb dL_setPressure_19 (by decide) ?_
      exact g_retiw B P (by rw [← hE]; try rfl) (by rw [← hE]) hrt hlk (Nat.le_of_ble_eq_true rfl) (Nat.le_of_ble_eq_true rfl) dL_setPressure_20
  rw [if_pos c0] at hE
  refine lv_i2l hx hb dL_setPressure_8 rfl ?_
  refine g_lst B F P (by decide) rfl rfl (by unfold vp_in; decide) dL_setPressure_9 (fun H locs P => ?_)
  refine lv_goto (tgt := 21) hx hb dL_setPressure_10 (by decide) ?_
  refine lv_iconst (v := 0) hx hb dL_setPressure_21 (by decide) ?_
  exact g_retiw B P (by rw [← hE]) (by rw [← hE]) hrt hlk (Nat.le_of_ble_eq_true rfl) (Nat.le_of_ble_eq_true rfl) dL_setPressure_22
theorem kc_setSalinity (v : Int32) (σ : Sg) : (f_X5_setSalinity v σ).1 = 0 ∨ (f_X5_setSalinity v σ).1 = 1 := by
  unfold f_X5_setSalinity
  repeat' split
  all_goals try dsimp only
  all_goals (first | omega | with_reducible exact (ck_rng _ _ _ _).elim (fun h => Or.inl h) (fun h => by rw [h]; decide) | with_reducible exact (ck_train _ _).elim (fun h => Or.inl h) (fun h => by rw [h]; decide) | with_reducible exact (ck_tank _ _).elim (fun h => Or.inl h) (fun h => by rw [h]; decide) | with_reducible exact (ck_ready _ _).elim (fun h => Or.inl h) (fun h => by rw [h]; decide) | with_reducible exact (ck_slots _ _ _).elim (fun h => Or.inl h) (fun h => by rw [h]; decide) | with_reducible exact (ck_allowed _ _).elim (fun h => Or.inl h) (fun h => by rw [h]; decide))
def f_L_setSalinity (v : Int32) (σ : Sg) : Int32 × Sg := if (f_X5_setSalinity v σ).1 = 0 then (0, sL (f_X5_setSalinity v σ).2.2 31 (Int32.toNatClampNeg 0) (f_X5_setSalinity v σ).2.1.toInt64) else (1, (f_X5_setSalinity v σ).2.2)
theorem nk_X5_setSalinity : nmOk yX5_setSalinity RX5 1 := ⟨rfl, by decide +kernel, by decide +kernel, by decide +kernel⟩
set_option maxHeartbeats 4000000 in
set_option maxRecDepth 100000 in
theorem cw_L_setSalinity {D : va_G} {ad : Nat → Nat} {cy : Nat → ClassId} {ba : Nat} (l : Launch) (v : Int32) (σ : Sg) (hst : l.stackTraces = false) : Cw D ad cy ba l 2 4 yL_setSalinity cL_setSalinity 4 (some .int) [(0, 9, 12, 13)] [.ref (ad 0), .int v, .ref (ad 31)] σ (some (.int (f_L_setSalinity v σ).1)) (f_L_setSalinity v σ).2 := by
  generalize hE : f_L_setSalinity v σ = Z
  dsimp only [f_L_setSalinity] at hE
  refine Cw.of (by decide +kernel) (Nat.le_of_ble_eq_true rfl) ?_
  intro p e s m below meth c ls B F P hrt hlk hT hl
  have hx := B.1
  have hb := B.2.1
  have hl : lv_has ls 4 [(0, .ref (ad 0)), (1, .int v), (2, .ref (ad 31))] := hl
  refine lv_aload_n hx hb dL_setSalinity_0 rfl (lv_at hl 2 rfl) ?_
  refine lv_iconst (v := 0) hx hb dL_setSalinity_1 (by decide) ?_
  refine lv_aload_n hx hb dL_setSalinity_2 rfl (lv_at hl 0 rfl) ?_
  refine lv_iload_n hx hb dL_setSalinity_3 rfl (lv_at hl 1 rfl) ?_
  refine g_callVx B F P (As := [.int v]) (ct_X5_setSalinity (D := D) (ad := ad) (cy := cy) (ba := ba) l v σ hst) ok5 (by decide) rfl q513 q514 q515 q1 q516 nk_X5_setSalinity rfl ⟨Nat.le_of_ble_eq_true rfl, Nat.le_of_ble_eq_true rfl⟩ hl.1 rfl (Nat.le_of_ble_eq_true rfl) dL_setSalinity_4 ⟨Nat.le_of_ble_eq_true rfl, Nat.le_of_ble_eq_true rfl⟩ (fun c0 ce q9 H locs P h1 h2 h3 => ?_) (fun c0 H locs P => ?_)
  · rw [if_neg c0] at hE
    rcases kc_setSalinity v σ with hk | hk
    · exact absurd hk c0
    · rw [hk] at h3
      refine vx_catch (name := exN 1) B.2.2.2.1 [] ⟨0, 9, 12, 13⟩ [] (hT.trans rfl) (fun z hz => absurd hz List.not_mem_nil) (by decide) (by decide) (B.2.2.2.2 _ q365) (va_Nw.use rfl (F.2.2.2.1.1 _ k376)) h1 h2 h3 ?_
      refine lv_astore_n (lv' := [(3, .ref q9), (0, .ref (ad 0)), (1, .int v), (2, .ref (ad 31))]) hx hb dL_setSalinity_12 rfl hl (by decide) rfl (fun ls hl => ?_)
      refine lv_iconst (v := 1) hx hb dL_setSalinity_13 (by decide) ?_
      exact g_retiw B P (by rw [← hE]; try rfl) (by rw [← hE]) hrt hlk (Nat.le_of_ble_eq_true rfl) (Nat.le_of_ble_eq_true rfl) dL_setSalinity_14
  rw [if_pos c0] at hE
  refine lv_i2l hx hb dL_setSalinity_7 rfl ?_
  refine g_lst B F P (by decide) rfl rfl (by unfold vp_in; decide) dL_setSalinity_8 (fun H locs P => ?_)
  refine lv_goto (tgt := 15) hx hb dL_setSalinity_9 (by decide) ?_
  refine lv_iconst (v := 0) hx hb dL_setSalinity_15 (by decide) ?_
  exact g_retiw B P (by rw [← hE]) (by rw [← hE]) hrt hlk (Nat.le_of_ble_eq_true rfl) (Nat.le_of_ble_eq_true rfl) dL_setSalinity_16
theorem kc_setRecovery (v : Int32) (σ : Sg) : (f_X5_setRecovery v σ).1 = 0 ∨ (f_X5_setRecovery v σ).1 = 1 := by
  unfold f_X5_setRecovery
  repeat' split
  all_goals try dsimp only
  all_goals (first | omega | with_reducible exact (ck_rng _ _ _ _).elim (fun h => Or.inl h) (fun h => by rw [h]; decide) | with_reducible exact (ck_train _ _).elim (fun h => Or.inl h) (fun h => by rw [h]; decide) | with_reducible exact (ck_tank _ _).elim (fun h => Or.inl h) (fun h => by rw [h]; decide) | with_reducible exact (ck_ready _ _).elim (fun h => Or.inl h) (fun h => by rw [h]; decide) | with_reducible exact (ck_slots _ _ _).elim (fun h => Or.inl h) (fun h => by rw [h]; decide) | with_reducible exact (ck_allowed _ _).elim (fun h => Or.inl h) (fun h => by rw [h]; decide))
def f_L_setRecovery (v : Int32) (σ : Sg) : Int32 × Sg := if (f_X5_setRecovery v σ).1 = 0 then (0, sL (f_X5_setRecovery v σ).2.2 31 (Int32.toNatClampNeg 0) (f_X5_setRecovery v σ).2.1.toInt64) else (1, (f_X5_setRecovery v σ).2.2)
theorem nk_X5_setRecovery : nmOk yX5_setRecovery RX5 1 := ⟨rfl, by decide +kernel, by decide +kernel, by decide +kernel⟩
set_option maxHeartbeats 4000000 in
set_option maxRecDepth 100000 in
theorem cw_L_setRecovery {D : va_G} {ad : Nat → Nat} {cy : Nat → ClassId} {ba : Nat} (l : Launch) (v : Int32) (σ : Sg) (hst : l.stackTraces = false) : Cw D ad cy ba l 2 4 yL_setRecovery cL_setRecovery 4 (some .int) [(0, 9, 12, 13)] [.ref (ad 0), .int v, .ref (ad 31)] σ (some (.int (f_L_setRecovery v σ).1)) (f_L_setRecovery v σ).2 := by
  generalize hE : f_L_setRecovery v σ = Z
  dsimp only [f_L_setRecovery] at hE
  refine Cw.of (by decide +kernel) (Nat.le_of_ble_eq_true rfl) ?_
  intro p e s m below meth c ls B F P hrt hlk hT hl
  have hx := B.1
  have hb := B.2.1
  have hl : lv_has ls 4 [(0, .ref (ad 0)), (1, .int v), (2, .ref (ad 31))] := hl
  refine lv_aload_n hx hb dL_setRecovery_0 rfl (lv_at hl 2 rfl) ?_
  refine lv_iconst (v := 0) hx hb dL_setRecovery_1 (by decide) ?_
  refine lv_aload_n hx hb dL_setRecovery_2 rfl (lv_at hl 0 rfl) ?_
  refine lv_iload_n hx hb dL_setRecovery_3 rfl (lv_at hl 1 rfl) ?_
  refine g_callVx B F P (As := [.int v]) (ct_X5_setRecovery (D := D) (ad := ad) (cy := cy) (ba := ba) l v σ hst) ok5 (by decide) rfl q520 q521 q522 q1 q523 nk_X5_setRecovery rfl ⟨Nat.le_of_ble_eq_true rfl, Nat.le_of_ble_eq_true rfl⟩ hl.1 rfl (Nat.le_of_ble_eq_true rfl) dL_setRecovery_4 ⟨Nat.le_of_ble_eq_true rfl, Nat.le_of_ble_eq_true rfl⟩ (fun c0 ce q9 H locs P h1 h2 h3 => ?_) (fun c0 H locs P => ?_)
  · rw [if_neg c0] at hE
    rcases kc_setRecovery v σ with hk | hk
    · exact absurd hk c0
    · rw [hk] at h3
      refine vx_catch (name := exN 1) B.2.2.2.1 [] ⟨0, 9, 12, 13⟩ [] (hT.trans rfl) (fun z hz => absurd hz List.not_mem_nil) (by decide) (by decide) (B.2.2.2.2 _ q365) (va_Nw.use rfl (F.2.2.2.1.1 _ k376)) h1 h2 h3 ?_
      refine lv_astore_n (lv' := [(3, .ref q9), (0, .ref (ad 0)), (1, .int v), (2, .ref (ad 31))]) hx hb dL_setRecovery_12 rfl hl (by decide) rfl (fun ls hl => ?_)
      refine lv_iconst (v := 1) hx hb dL_setRecovery_13 (by decide) ?_
      exact g_retiw B P (by rw [← hE]; try rfl) (by rw [← hE]) hrt hlk (Nat.le_of_ble_eq_true rfl) (Nat.le_of_ble_eq_true rfl) dL_setRecovery_14
  rw [if_pos c0] at hE
  refine lv_i2l hx hb dL_setRecovery_7 rfl ?_
  refine g_lst B F P (by decide) rfl rfl (by unfold vp_in; decide) dL_setRecovery_8 (fun H locs P => ?_)
  refine lv_goto (tgt := 15) hx hb dL_setRecovery_9 (by decide) ?_
  refine lv_iconst (v := 0) hx hb dL_setRecovery_15 (by decide) ?_
  exact g_retiw B P (by rw [← hE]) (by rw [← hE]) hrt hlk (Nat.le_of_ble_eq_true rfl) (Nat.le_of_ble_eq_true rfl) dL_setRecovery_16
theorem kc_clean (t : Int32) (σ : Sg) : (f_X5_clean t σ).1 = 0 ∨ (f_X5_clean t σ).1 = 3 ∨ (f_X5_clean t σ).1 = 2 ∨ (f_X5_clean t σ).1 = 4 := by
  unfold f_X5_clean
  repeat' split
  all_goals try dsimp only
  all_goals (first | omega | with_reducible exact (ck_rng _ _ _ _).elim (fun h => Or.inl h) (fun h => by rw [h]; decide) | with_reducible exact (ck_train _ _).elim (fun h => Or.inl h) (fun h => by rw [h]; decide) | with_reducible exact (ck_tank _ _).elim (fun h => Or.inl h) (fun h => by rw [h]; decide) | with_reducible exact (ck_ready _ _).elim (fun h => Or.inl h) (fun h => by rw [h]; decide) | with_reducible exact (ck_slots _ _ _).elim (fun h => Or.inl h) (fun h => by rw [h]; decide) | with_reducible exact (ck_allowed _ _).elim (fun h => Or.inl h) (fun h => by rw [h]; decide))
def f_L_clean (t : Int32) (σ : Sg) : Int32 × Sg := if (f_X5_clean t σ).1 = 0 then (0, sL (f_X5_clean t σ).2.2 31 (Int32.toNatClampNeg 0) (f_X5_clean t σ).2.1.toInt64) else ((if (f_X5_clean t σ).1 = 3 then 1 else (if (f_X5_clean t σ).1 = 2 then 2 else 3)), (f_X5_clean t σ).2.2)
theorem nk_X5_clean : nmOk yX5_clean RX5 1 := ⟨rfl, by decide +kernel, by decide +kernel, by decide +kernel⟩
set_option maxHeartbeats 4000000 in
set_option maxRecDepth 100000 in
theorem cw_L_clean {D : va_G} {ad : Nat → Nat} {cy : Nat → ClassId} {ba : Nat} (l : Launch) (t : Int32) (σ : Sg) (hst : l.stackTraces = false) (hC : GC 99000 σ) : Cw D ad cy ba l 2 4 yL_clean cL_clean 4 (some .int) [(0, 9, 12, 21), (0, 9, 15, 15), (0, 9, 18, 32)] [.ref (ad 0), .int t, .ref (ad 31)] σ (some (.int (f_L_clean t σ).1)) (f_L_clean t σ).2 := by
  generalize hE : f_L_clean t σ = Z
  dsimp only [f_L_clean] at hE
  refine Cw.of (by decide +kernel) (Nat.le_of_ble_eq_true rfl) ?_
  intro p e s m below meth c ls B F P hrt hlk hT hl
  have hx := B.1
  have hb := B.2.1
  have hl : lv_has ls 4 [(0, .ref (ad 0)), (1, .int t), (2, .ref (ad 31))] := hl
  refine lv_aload_n hx hb dL_clean_0 rfl (lv_at hl 2 rfl) ?_
  refine lv_iconst (v := 0) hx hb dL_clean_1 (by decide) ?_
  refine lv_aload_n hx hb dL_clean_2 rfl (lv_at hl 0 rfl) ?_
  refine lv_iload_n hx hb dL_clean_3 rfl (lv_at hl 1 rfl) ?_
  refine g_callVx B F P (As := [.int t]) (ct_X5_clean (D := D) (ad := ad) (cy := cy) (ba := ba) l t σ hst hC) ok5 (by decide) rfl q528 q529 q530 q1 q531 nk_X5_clean rfl ⟨Nat.le_of_ble_eq_true rfl, Nat.le_of_ble_eq_true rfl⟩ hl.1 rfl (Nat.le_of_ble_eq_true rfl) dL_clean_4 ⟨Nat.le_of_ble_eq_true rfl, Nat.le_of_ble_eq_true rfl⟩ (fun c0 ce q9 H locs P h1 h2 h3 => ?_) (fun c0 H locs P => ?_)
  · rw [if_neg c0] at hE
    rcases kc_clean t σ with hk | hk | hk | hk
    · exact absurd hk c0
    · rw [hk] at h3
      simp only [hk] at hE
      refine vx_catch (name := exN 3) B.2.2.2.1 [] ⟨0, 9, 12, 21⟩ [⟨0, 9, 15, 15⟩, ⟨0, 9, 18, 32⟩] (hT.trans rfl) (fun z hz => absurd hz List.not_mem_nil) (by decide) (by decide) (B.2.2.2.2 _ q465) (va_Nw.use rfl (F.2.2.2.1.1 _ k499)) h1 h2 h3 ?_
      refine lv_astore_n (lv' := [(3, .ref q9), (0, .ref (ad 0)), (1, .int t), (2, .ref (ad 31))]) hx hb dL_clean_12 rfl hl (by decide) rfl (fun ls hl => ?_)
      refine lv_iconst (v := 1) hx hb dL_clean_13 (by decide) ?_
      exact g_retiw B P (by rw [← hE]; try rfl) (by rw [← hE]) hrt hlk (Nat.le_of_ble_eq_true rfl) (Nat.le_of_ble_eq_true rfl) dL_clean_14
    · rw [hk] at h3
      simp only [hk] at hE
      refine vx_catch (name := exN 2) B.2.2.2.1 [⟨0, 9, 12, 21⟩] ⟨0, 9, 15, 15⟩ [⟨0, 9, 18, 32⟩] (hT.trans rfl) (fun z hz => by
        simp only [List.mem_cons, List.not_mem_nil, or_false] at hz
        rcases hz with rfl
        · exact Or.inr ⟨by decide, exN 3, B.2.2.2.2 _ q465, F.2.2.2.1.2.2 (exN 2, exN 3) (by decide +kernel)⟩) (by decide) (by decide) (B.2.2.2.2 _ q366) (va_Nw.use rfl (F.2.2.2.1.1 _ k448)) h1 h2 h3 ?_
      refine lv_astore_n (lv' := [(3, .ref q9), (0, .ref (ad 0)), (1, .int t), (2, .ref (ad 31))]) hx hb dL_clean_15 rfl hl (by decide) rfl (fun ls hl => ?_)
      refine lv_iconst (v := 2) hx hb dL_clean_16 (by decide) ?_
      exact g_retiw B P (by rw [← hE]; try rfl) (by rw [← hE]) hrt hlk (Nat.le_of_ble_eq_true rfl) (Nat.le_of_ble_eq_true rfl) dL_clean_17
    · rw [hk] at h3
      simp only [hk] at hE
      refine vx_catch (name := exN 4) B.2.2.2.1 [⟨0, 9, 12, 21⟩, ⟨0, 9, 15, 15⟩] ⟨0, 9, 18, 32⟩ [] (hT.trans rfl) (fun z hz => by
        simp only [List.mem_cons, List.not_mem_nil, or_false] at hz
        rcases hz with rfl | rfl
        · exact Or.inr ⟨by decide, exN 3, B.2.2.2.2 _ q465, F.2.2.2.1.2.2 (exN 4, exN 3) (by decide +kernel)⟩
        · exact Or.inr ⟨by decide, exN 2, B.2.2.2.2 _ q366, F.2.2.2.1.2.2 (exN 4, exN 2) (by decide +kernel)⟩) (by decide) (by decide) (B.2.2.2.2 _ q527) (va_Nw.use rfl (F.2.2.2.1.1 _ k539)) h1 h2 h3 ?_
      refine lv_astore_n (lv' := [(3, .ref q9), (0, .ref (ad 0)), (1, .int t), (2, .ref (ad 31))]) hx hb dL_clean_18 rfl hl (by decide) rfl (fun ls hl => ?_)
      refine lv_iconst (v := 3) hx hb dL_clean_19 (by decide) ?_
      exact g_retiw B P (by rw [← hE]; try rfl) (by rw [← hE]) hrt hlk (Nat.le_of_ble_eq_true rfl) (Nat.le_of_ble_eq_true rfl) dL_clean_20
  rw [if_pos c0] at hE
  refine lv_i2l hx hb dL_clean_7 rfl ?_
  refine g_lst B F P (by decide) rfl rfl (by unfold vp_in; decide) dL_clean_8 (fun H locs P => ?_)
  refine lv_goto (tgt := 21) hx hb dL_clean_9 (by decide) ?_
  refine lv_iconst (v := 0) hx hb dL_clean_21 (by decide) ?_
  exact g_retiw B P (by rw [← hE]) (by rw [← hE]) hrt hlk (Nat.le_of_ble_eq_true rfl) (Nat.le_of_ble_eq_true rfl) dL_clean_22
theorem kc_fouling (t : Int32) (σ : Sg) : (f_X5_fouling t σ).1 = 0 ∨ (f_X5_fouling t σ).1 = 3 := by
  unfold f_X5_fouling
  repeat' split
  all_goals try dsimp only
  all_goals (first | omega | with_reducible exact (ck_rng _ _ _ _).elim (fun h => Or.inl h) (fun h => by rw [h]; decide) | with_reducible exact (ck_train _ _).elim (fun h => Or.inl h) (fun h => by rw [h]; decide) | with_reducible exact (ck_tank _ _).elim (fun h => Or.inl h) (fun h => by rw [h]; decide) | with_reducible exact (ck_ready _ _).elim (fun h => Or.inl h) (fun h => by rw [h]; decide) | with_reducible exact (ck_slots _ _ _).elim (fun h => Or.inl h) (fun h => by rw [h]; decide) | with_reducible exact (ck_allowed _ _).elim (fun h => Or.inl h) (fun h => by rw [h]; decide))
def f_L_fouling (t : Int32) (σ : Sg) : Int32 × Sg := if (f_X5_fouling t σ).1 = 0 then (0, sL (f_X5_fouling t σ).2.2 31 (Int32.toNatClampNeg 0) (f_X5_fouling t σ).2.1.toInt64) else (1, (f_X5_fouling t σ).2.2)
theorem nk_X5_fouling : nmOk yX5_fouling RX5 1 := ⟨rfl, by decide +kernel, by decide +kernel, by decide +kernel⟩
set_option maxHeartbeats 4000000 in
set_option maxRecDepth 100000 in
theorem cw_L_fouling {D : va_G} {ad : Nat → Nat} {cy : Nat → ClassId} {ba : Nat} (l : Launch) (t : Int32) (σ : Sg) (hst : l.stackTraces = false) (hC : GC 99000 σ) : Cw D ad cy ba l 2 4 yL_fouling cL_fouling 4 (some .int) [(0, 9, 12, 21)] [.ref (ad 0), .int t, .ref (ad 31)] σ (some (.int (f_L_fouling t σ).1)) (f_L_fouling t σ).2 := by
  generalize hE : f_L_fouling t σ = Z
  dsimp only [f_L_fouling] at hE
  refine Cw.of (by decide +kernel) (Nat.le_of_ble_eq_true rfl) ?_
  intro p e s m below meth c ls B F P hrt hlk hT hl
  have hx := B.1
  have hb := B.2.1
  have hl : lv_has ls 4 [(0, .ref (ad 0)), (1, .int t), (2, .ref (ad 31))] := hl
  refine lv_aload_n hx hb dL_fouling_0 rfl (lv_at hl 2 rfl) ?_
  refine lv_iconst (v := 0) hx hb dL_fouling_1 (by decide) ?_
  refine lv_aload_n hx hb dL_fouling_2 rfl (lv_at hl 0 rfl) ?_
  refine lv_iload_n hx hb dL_fouling_3 rfl (lv_at hl 1 rfl) ?_
  refine g_callVx B F P (As := [.int t]) (ct_X5_fouling (D := D) (ad := ad) (cy := cy) (ba := ba) l t σ hst hC) ok5 (by decide) rfl q556 q557 q558 q1 q559 nk_X5_fouling rfl ⟨Nat.le_of_ble_eq_true rfl, Nat.le_of_ble_eq_true rfl⟩ hl.1 rfl (Nat.le_of_ble_eq_true rfl) dL_fouling_4 ⟨Nat.le_of_ble_eq_true rfl, Nat.le_of_ble_eq_true rfl⟩ (fun c0 ce q9 H locs P h1 h2 h3 => ?_) (fun c0 H locs P => ?_)
  · rw [if_neg c0] at hE
    rcases kc_fouling t σ with hk | hk
    · exact absurd hk c0
    · rw [hk] at h3
      refine vx_catch (name := exN 3) B.2.2.2.1 [] ⟨0, 9, 12, 21⟩ [] (hT.trans rfl) (fun z hz => absurd hz List.not_mem_nil) (by decide) (by decide) (B.2.2.2.2 _ q465) (va_Nw.use rfl (F.2.2.2.1.1 _ k499)) h1 h2 h3 ?_
      refine lv_astore_n (lv' := [(3, .ref q9), (0, .ref (ad 0)), (1, .int t), (2, .ref (ad 31))]) hx hb dL_fouling_12 rfl hl (by decide) rfl (fun ls hl => ?_)
      refine lv_iconst (v := 1) hx hb dL_fouling_13 (by decide) ?_
      exact g_retiw B P (by rw [← hE]; try rfl) (by rw [← hE]) hrt hlk (Nat.le_of_ble_eq_true rfl) (Nat.le_of_ble_eq_true rfl) dL_fouling_14
  rw [if_pos c0] at hE
  refine lv_i2l hx hb dL_fouling_7 rfl ?_
  refine g_lst B F P (by decide) rfl rfl (by unfold vp_in; decide) dL_fouling_8 (fun H locs P => ?_)
  refine lv_goto (tgt := 15) hx hb dL_fouling_9 (by decide) ?_
  refine lv_iconst (v := 0) hx hb dL_fouling_15 (by decide) ?_
  exact g_retiw B P (by rw [← hE]) (by rw [← hE]) hrt hlk (Nat.le_of_ble_eq_true rfl) (Nat.le_of_ble_eq_true rfl) dL_fouling_16
theorem kc_wear (t : Int32) (σ : Sg) : (f_X5_wear t σ).1 = 0 ∨ (f_X5_wear t σ).1 = 3 := by
  unfold f_X5_wear
  repeat' split
  all_goals try dsimp only
  all_goals (first | omega | with_reducible exact (ck_rng _ _ _ _).elim (fun h => Or.inl h) (fun h => by rw [h]; decide) | with_reducible exact (ck_train _ _).elim (fun h => Or.inl h) (fun h => by rw [h]; decide) | with_reducible exact (ck_tank _ _).elim (fun h => Or.inl h) (fun h => by rw [h]; decide) | with_reducible exact (ck_ready _ _).elim (fun h => Or.inl h) (fun h => by rw [h]; decide) | with_reducible exact (ck_slots _ _ _).elim (fun h => Or.inl h) (fun h => by rw [h]; decide) | with_reducible exact (ck_allowed _ _).elim (fun h => Or.inl h) (fun h => by rw [h]; decide))
def f_L_wear (t : Int32) (σ : Sg) : Int32 × Sg := if (f_X5_wear t σ).1 = 0 then (0, sL (f_X5_wear t σ).2.2 31 (Int32.toNatClampNeg 0) (f_X5_wear t σ).2.1.toInt64) else (1, (f_X5_wear t σ).2.2)
theorem nk_X5_wear : nmOk yX5_wear RX5 1 := ⟨rfl, by decide +kernel, by decide +kernel, by decide +kernel⟩
set_option maxHeartbeats 4000000 in
set_option maxRecDepth 100000 in
theorem cw_L_wear {D : va_G} {ad : Nat → Nat} {cy : Nat → ClassId} {ba : Nat} (l : Launch) (t : Int32) (σ : Sg) (hst : l.stackTraces = false) (hC : GC 99000 σ) : Cw D ad cy ba l 2 4 yL_wear cL_wear 4 (some .int) [(0, 9, 12, 21)] [.ref (ad 0), .int t, .ref (ad 31)] σ (some (.int (f_L_wear t σ).1)) (f_L_wear t σ).2 := by
  generalize hE : f_L_wear t σ = Z
  dsimp only [f_L_wear] at hE
  refine Cw.of (by decide +kernel) (Nat.le_of_ble_eq_true rfl) ?_
  intro p e s m below meth c ls B F P hrt hlk hT hl
  have hx := B.1
  have hb := B.2.1
  have hl : lv_has ls 4 [(0, .ref (ad 0)), (1, .int t), (2, .ref (ad 31))] := hl
  refine lv_aload_n hx hb dL_wear_0 rfl (lv_at hl 2 rfl) ?_
  refine lv_iconst (v := 0) hx hb dL_wear_1 (by decide) ?_
  refine lv_aload_n hx hb dL_wear_2 rfl (lv_at hl 0 rfl) ?_
  refine lv_iload_n hx hb dL_wear_3 rfl (lv_at hl 1 rfl) ?_
  refine g_callVx B F P (As := [.int t]) (ct_X5_wear (D := D) (ad := ad) (cy := cy) (ba := ba) l t σ hst hC) ok5 (by decide) rfl q563 q564 q565 q1 q566 nk_X5_wear rfl ⟨Nat.le_of_ble_eq_true rfl, Nat.le_of_ble_eq_true rfl⟩ hl.1 rfl (Nat.le_of_ble_eq_true rfl) dL_wear_4 ⟨Nat.le_of_ble_eq_true rfl, Nat.le_of_ble_eq_true rfl⟩ (fun c0 ce q9 H locs P h1 h2 h3 => ?_) (fun c0 H locs P => ?_)
  · rw [if_neg c0] at hE
    rcases kc_wear t σ with hk | hk
    · exact absurd hk c0
    · rw [hk] at h3
      refine vx_catch (name := exN 3) B.2.2.2.1 [] ⟨0, 9, 12, 21⟩ [] (hT.trans rfl) (fun z hz => absurd hz List.not_mem_nil) (by decide) (by decide) (B.2.2.2.2 _ q465) (va_Nw.use rfl (F.2.2.2.1.1 _ k499)) h1 h2 h3 ?_
      refine lv_astore_n (lv' := [(3, .ref q9), (0, .ref (ad 0)), (1, .int t), (2, .ref (ad 31))]) hx hb dL_wear_12 rfl hl (by decide) rfl (fun ls hl => ?_)
      refine lv_iconst (v := 1) hx hb dL_wear_13 (by decide) ?_
      exact g_retiw B P (by rw [← hE]; try rfl) (by rw [← hE]) hrt hlk (Nat.le_of_ble_eq_true rfl) (Nat.le_of_ble_eq_true rfl) dL_wear_14
  rw [if_pos c0] at hE
  refine lv_i2l hx hb dL_wear_7 rfl ?_
  refine g_lst B F P (by decide) rfl rfl (by unfold vp_in; decide) dL_wear_8 (fun H locs P => ?_)
  refine lv_goto (tgt := 15) hx hb dL_wear_9 (by decide) ?_
  refine lv_iconst (v := 0) hx hb dL_wear_15 (by decide) ?_
  exact g_retiw B P (by rw [← hE]) (by rw [← hE]) hrt hlk (Nat.le_of_ble_eq_true rfl) (Nat.le_of_ble_eq_true rfl) dL_wear_16
theorem kc_cleaningLeft (t : Int32) (σ : Sg) : (f_X5_cleaningLeft t σ).1 = 0 ∨ (f_X5_cleaningLeft t σ).1 = 3 := by
  unfold f_X5_cleaningLeft
  repeat' split
  all_goals try dsimp only
  all_goals (first | omega | with_reducible exact (ck_rng _ _ _ _).elim (fun h => Or.inl h) (fun h => by rw [h]; decide) | with_reducible exact (ck_train _ _).elim (fun h => Or.inl h) (fun h => by rw [h]; decide) | with_reducible exact (ck_tank _ _).elim (fun h => Or.inl h) (fun h => by rw [h]; decide) | with_reducible exact (ck_ready _ _).elim (fun h => Or.inl h) (fun h => by rw [h]; decide) | with_reducible exact (ck_slots _ _ _).elim (fun h => Or.inl h) (fun h => by rw [h]; decide) | with_reducible exact (ck_allowed _ _).elim (fun h => Or.inl h) (fun h => by rw [h]; decide))
def f_L_cleaningLeft (t : Int32) (σ : Sg) : Int32 × Sg := if (f_X5_cleaningLeft t σ).1 = 0 then (0, sL (f_X5_cleaningLeft t σ).2.2 31 (Int32.toNatClampNeg 0) (f_X5_cleaningLeft t σ).2.1.toInt64) else (1, (f_X5_cleaningLeft t σ).2.2)
theorem nk_X5_cleaningLeft : nmOk yX5_cleaningLeft RX5 1 := ⟨rfl, by decide +kernel, by decide +kernel, by decide +kernel⟩
set_option maxHeartbeats 4000000 in
set_option maxRecDepth 100000 in
theorem cw_L_cleaningLeft {D : va_G} {ad : Nat → Nat} {cy : Nat → ClassId} {ba : Nat} (l : Launch) (t : Int32) (σ : Sg) (hst : l.stackTraces = false) (hC : GC 99000 σ) : Cw D ad cy ba l 2 4 yL_cleaningLeft cL_cleaningLeft 4 (some .int) [(0, 9, 12, 21)] [.ref (ad 0), .int t, .ref (ad 31)] σ (some (.int (f_L_cleaningLeft t σ).1)) (f_L_cleaningLeft t σ).2 := by
  generalize hE : f_L_cleaningLeft t σ = Z
  dsimp only [f_L_cleaningLeft] at hE
  refine Cw.of (by decide +kernel) (Nat.le_of_ble_eq_true rfl) ?_
  intro p e s m below meth c ls B F P hrt hlk hT hl
  have hx := B.1
  have hb := B.2.1
  have hl : lv_has ls 4 [(0, .ref (ad 0)), (1, .int t), (2, .ref (ad 31))] := hl
  refine lv_aload_n hx hb dL_cleaningLeft_0 rfl (lv_at hl 2 rfl) ?_
  refine lv_iconst (v := 0) hx hb dL_cleaningLeft_1 (by decide) ?_
  refine lv_aload_n hx hb dL_cleaningLeft_2 rfl (lv_at hl 0 rfl) ?_
  refine lv_iload_n hx hb dL_cleaningLeft_3 rfl (lv_at hl 1 rfl) ?_
  refine g_callVx B F P (As := [.int t]) (ct_X5_cleaningLeft (D := D) (ad := ad) (cy := cy) (ba := ba) l t σ hst hC) ok5 (by decide) rfl q570 q571 q572 q1 q573 nk_X5_cleaningLeft rfl ⟨Nat.le_of_ble_eq_true rfl, Nat.le_of_ble_eq_true rfl⟩ hl.1 rfl (Nat.le_of_ble_eq_true rfl) dL_cleaningLeft_4 ⟨Nat.le_of_ble_eq_true rfl, Nat.le_of_ble_eq_true rfl⟩ (fun c0 ce q9 H locs P h1 h2 h3 => ?_) (fun c0 H locs P => ?_)
  · rw [if_neg c0] at hE
    rcases kc_cleaningLeft t σ with hk | hk
    · exact absurd hk c0
    · rw [hk] at h3
      refine vx_catch (name := exN 3) B.2.2.2.1 [] ⟨0, 9, 12, 21⟩ [] (hT.trans rfl) (fun z hz => absurd hz List.not_mem_nil) (by decide) (by decide) (B.2.2.2.2 _ q465) (va_Nw.use rfl (F.2.2.2.1.1 _ k499)) h1 h2 h3 ?_
      refine lv_astore_n (lv' := [(3, .ref q9), (0, .ref (ad 0)), (1, .int t), (2, .ref (ad 31))]) hx hb dL_cleaningLeft_12 rfl hl (by decide) rfl (fun ls hl => ?_)
      refine lv_iconst (v := 1) hx hb dL_cleaningLeft_13 (by decide) ?_
      exact g_retiw B P (by rw [← hE]; try rfl) (by rw [← hE]) hrt hlk (Nat.le_of_ble_eq_true rfl) (Nat.le_of_ble_eq_true rfl) dL_cleaningLeft_14
  rw [if_pos c0] at hE
  refine lv_i2l hx hb dL_cleaningLeft_7 rfl ?_
  refine g_lst B F P (by decide) rfl rfl (by unfold vp_in; decide) dL_cleaningLeft_8 (fun H locs P => ?_)
  refine lv_goto (tgt := 15) hx hb dL_cleaningLeft_9 (by decide) ?_
  refine lv_iconst (v := 0) hx hb dL_cleaningLeft_15 (by decide) ?_
  exact g_retiw B P (by rw [← hE]) (by rw [← hE]) hrt hlk (Nat.le_of_ble_eq_true rfl) (Nat.le_of_ble_eq_true rfl) dL_cleaningLeft_16
theorem kc_productOf (t : Int32) (σ : Sg) : (f_X5_productOf t σ).1 = 0 ∨ (f_X5_productOf t σ).1 = 3 ∨ (f_X5_productOf t σ).1 = 2 := by
  unfold f_X5_productOf
  repeat' split
  all_goals try dsimp only
  all_goals (first | omega | with_reducible exact (ck_rng _ _ _ _).elim (fun h => Or.inl h) (fun h => by rw [h]; decide) | with_reducible exact (ck_train _ _).elim (fun h => Or.inl h) (fun h => by rw [h]; decide) | with_reducible exact (ck_tank _ _).elim (fun h => Or.inl h) (fun h => by rw [h]; decide) | with_reducible exact (ck_ready _ _).elim (fun h => Or.inl h) (fun h => by rw [h]; decide) | with_reducible exact (ck_slots _ _ _).elim (fun h => Or.inl h) (fun h => by rw [h]; decide) | with_reducible exact (ck_allowed _ _).elim (fun h => Or.inl h) (fun h => by rw [h]; decide))
def f_L_productOf (t : Int32) (σ : Sg) : Int32 × Sg := if (f_X5_productOf t σ).1 = 0 then (0, sL (f_X5_productOf t σ).2.2 31 (Int32.toNatClampNeg 0) (f_X5_productOf t σ).2.1.toInt64) else ((if (f_X5_productOf t σ).1 = 3 then 1 else 2), (f_X5_productOf t σ).2.2)
theorem nk_X5_productOf : nmOk yX5_productOf RX5 1 := ⟨rfl, by decide +kernel, by decide +kernel, by decide +kernel⟩
set_option maxHeartbeats 4000000 in
set_option maxRecDepth 100000 in
theorem cw_L_productOf {D : va_G} {ad : Nat → Nat} {cy : Nat → ClassId} {ba : Nat} (l : Launch) (t : Int32) (σ : Sg) (hst : l.stackTraces = false) (hC : GC 99000 σ) : Cw D ad cy ba l 2 4 yL_productOf cL_productOf 4 (some .int) [(0, 9, 12, 21), (0, 9, 15, 15)] [.ref (ad 0), .int t, .ref (ad 31)] σ (some (.int (f_L_productOf t σ).1)) (f_L_productOf t σ).2 := by
  generalize hE : f_L_productOf t σ = Z
  dsimp only [f_L_productOf] at hE
  refine Cw.of (by decide +kernel) (Nat.le_of_ble_eq_true rfl) ?_
  intro p e s m below meth c ls B F P hrt hlk hT hl
  have hx := B.1
  have hb := B.2.1
  have hl : lv_has ls 4 [(0, .ref (ad 0)), (1, .int t), (2, .ref (ad 31))] := hl
  refine lv_aload_n hx hb dL_productOf_0 rfl (lv_at hl 2 rfl) ?_
  refine lv_iconst (v := 0) hx hb dL_productOf_1 (by decide) ?_
  refine lv_aload_n hx hb dL_productOf_2 rfl (lv_at hl 0 rfl) ?_
  refine lv_iload_n hx hb dL_productOf_3 rfl (lv_at hl 1 rfl) ?_
  refine g_callVx B F P (As := [.int t]) (ct_X5_productOf (D := D) (ad := ad) (cy := cy) (ba := ba) l t σ hst hC) ok5 (by decide) rfl q577 q578 q579 q1 q580 nk_X5_productOf rfl ⟨Nat.le_of_ble_eq_true rfl, Nat.le_of_ble_eq_true rfl⟩ hl.1 rfl (Nat.le_of_ble_eq_true rfl) dL_productOf_4 ⟨Nat.le_of_ble_eq_true rfl, Nat.le_of_ble_eq_true rfl⟩ (fun c0 ce q9 H locs P h1 h2 h3 => ?_) (fun c0 H locs P => ?_)
  · rw [if_neg c0] at hE
    rcases kc_productOf t σ with hk | hk | hk
    · exact absurd hk c0
    · rw [hk] at h3
      simp only [hk] at hE
      refine vx_catch (name := exN 3) B.2.2.2.1 [] ⟨0, 9, 12, 21⟩ [⟨0, 9, 15, 15⟩] (hT.trans rfl) (fun z hz => absurd hz List.not_mem_nil) (by decide) (by decide) (B.2.2.2.2 _ q465) (va_Nw.use rfl (F.2.2.2.1.1 _ k499)) h1 h2 h3 ?_
      refine lv_astore_n (lv' := [(3, .ref q9), (0, .ref (ad 0)), (1, .int t), (2, .ref (ad 31))]) hx hb dL_productOf_12 rfl hl (by decide) rfl (fun ls hl => ?_)
      refine lv_iconst (v := 1) hx hb dL_productOf_13 (by decide) ?_
      exact g_retiw B P (by rw [← hE]; try rfl) (by rw [← hE]) hrt hlk (Nat.le_of_ble_eq_true rfl) (Nat.le_of_ble_eq_true rfl) dL_productOf_14
    · rw [hk] at h3
      simp only [hk] at hE
      refine vx_catch (name := exN 2) B.2.2.2.1 [⟨0, 9, 12, 21⟩] ⟨0, 9, 15, 15⟩ [] (hT.trans rfl) (fun z hz => by
        simp only [List.mem_cons, List.not_mem_nil, or_false] at hz
        rcases hz with rfl
        · exact Or.inr ⟨by decide, exN 3, B.2.2.2.2 _ q465, F.2.2.2.1.2.2 (exN 2, exN 3) (by decide +kernel)⟩) (by decide) (by decide) (B.2.2.2.2 _ q366) (va_Nw.use rfl (F.2.2.2.1.1 _ k448)) h1 h2 h3 ?_
      refine lv_astore_n (lv' := [(3, .ref q9), (0, .ref (ad 0)), (1, .int t), (2, .ref (ad 31))]) hx hb dL_productOf_15 rfl hl (by decide) rfl (fun ls hl => ?_)
      refine lv_iconst (v := 2) hx hb dL_productOf_16 (by decide) ?_
      exact g_retiw B P (by rw [← hE]; try rfl) (by rw [← hE]) hrt hlk (Nat.le_of_ble_eq_true rfl) (Nat.le_of_ble_eq_true rfl) dL_productOf_17
  rw [if_pos c0] at hE
  refine lv_i2l hx hb dL_productOf_7 rfl ?_
  refine g_lst B F P (by decide) rfl rfl (by unfold vp_in; decide) dL_productOf_8 (fun H locs P => ?_)
  refine lv_goto (tgt := 18) hx hb dL_productOf_9 (by decide) ?_
  refine lv_iconst (v := 0) hx hb dL_productOf_18 (by decide) ?_
  exact g_retiw B P (by rw [← hE]) (by rw [← hE]) hrt hlk (Nat.le_of_ble_eq_true rfl) (Nat.le_of_ble_eq_true rfl) dL_productOf_19
theorem kc_energyOf (t : Int32) (σ : Sg) : (f_X5_energyOf t σ).1 = 0 ∨ (f_X5_energyOf t σ).1 = 3 ∨ (f_X5_energyOf t σ).1 = 2 := by
  unfold f_X5_energyOf
  repeat' split
  all_goals try dsimp only
  all_goals (first | omega | with_reducible exact (ck_rng _ _ _ _).elim (fun h => Or.inl h) (fun h => by rw [h]; decide) | with_reducible exact (ck_train _ _).elim (fun h => Or.inl h) (fun h => by rw [h]; decide) | with_reducible exact (ck_tank _ _).elim (fun h => Or.inl h) (fun h => by rw [h]; decide) | with_reducible exact (ck_ready _ _).elim (fun h => Or.inl h) (fun h => by rw [h]; decide) | with_reducible exact (ck_slots _ _ _).elim (fun h => Or.inl h) (fun h => by rw [h]; decide) | with_reducible exact (ck_allowed _ _).elim (fun h => Or.inl h) (fun h => by rw [h]; decide))
def f_L_energyOf (t : Int32) (σ : Sg) : Int32 × Sg := if (f_X5_energyOf t σ).1 = 0 then (0, sL (f_X5_energyOf t σ).2.2 31 (Int32.toNatClampNeg 0) (f_X5_energyOf t σ).2.1.toInt64) else ((if (f_X5_energyOf t σ).1 = 3 then 1 else 2), (f_X5_energyOf t σ).2.2)
theorem nk_X5_energyOf : nmOk yX5_energyOf RX5 1 := ⟨rfl, by decide +kernel, by decide +kernel, by decide +kernel⟩
set_option maxHeartbeats 4000000 in
set_option maxRecDepth 100000 in
theorem cw_L_energyOf {D : va_G} {ad : Nat → Nat} {cy : Nat → ClassId} {ba : Nat} (l : Launch) (t : Int32) (σ : Sg) (hst : l.stackTraces = false) (hC : GC 99000 σ) : Cw D ad cy ba l 2 4 yL_energyOf cL_energyOf 4 (some .int) [(0, 9, 12, 21), (0, 9, 15, 15)] [.ref (ad 0), .int t, .ref (ad 31)] σ (some (.int (f_L_energyOf t σ).1)) (f_L_energyOf t σ).2 := by
  generalize hE : f_L_energyOf t σ = Z
  dsimp only [f_L_energyOf] at hE
  refine Cw.of (by decide +kernel) (Nat.le_of_ble_eq_true rfl) ?_
  intro p e s m below meth c ls B F P hrt hlk hT hl
  have hx := B.1
  have hb := B.2.1
  have hl : lv_has ls 4 [(0, .ref (ad 0)), (1, .int t), (2, .ref (ad 31))] := hl
  refine lv_aload_n hx hb dL_energyOf_0 rfl (lv_at hl 2 rfl) ?_
  refine lv_iconst (v := 0) hx hb dL_energyOf_1 (by decide) ?_
  refine lv_aload_n hx hb dL_energyOf_2 rfl (lv_at hl 0 rfl) ?_
  refine lv_iload_n hx hb dL_energyOf_3 rfl (lv_at hl 1 rfl) ?_
  refine g_callVx B F P (As := [.int t]) (ct_X5_energyOf (D := D) (ad := ad) (cy := cy) (ba := ba) l t σ hst hC) ok5 (by decide) rfl q585 q586 q587 q1 q588 nk_X5_energyOf rfl ⟨Nat.le_of_ble_eq_true rfl, Nat.le_of_ble_eq_true rfl⟩ hl.1 rfl (Nat.le_of_ble_eq_true rfl) dL_energyOf_4 ⟨Nat.le_of_ble_eq_true rfl, Nat.le_of_ble_eq_true rfl⟩ (fun c0 ce q9 H locs P h1 h2 h3 => ?_) (fun c0 H locs P => ?_)
  · rw [if_neg c0] at hE
    rcases kc_energyOf t σ with hk | hk | hk
    · exact absurd hk c0
    · rw [hk] at h3
      simp only [hk] at hE
      refine vx_catch (name := exN 3) B.2.2.2.1 [] ⟨0, 9, 12, 21⟩ [⟨0, 9, 15, 15⟩] (hT.trans rfl) (fun z hz => absurd hz List.not_mem_nil) (by decide) (by decide) (B.2.2.2.2 _ q465) (va_Nw.use rfl (F.2.2.2.1.1 _ k499)) h1 h2 h3 ?_
      refine lv_astore_n (lv' := [(3, .ref q9), (0, .ref (ad 0)), (1, .int t), (2, .ref (ad 31))]) hx hb dL_energyOf_12 rfl hl (by decide) rfl (fun ls hl => ?_)
      refine lv_iconst (v := 1) hx hb dL_energyOf_13 (by decide) ?_
      exact g_retiw B P (by rw [← hE]; try rfl) (by rw [← hE]) hrt hlk (Nat.le_of_ble_eq_true rfl) (Nat.le_of_ble_eq_true rfl) dL_energyOf_14
    · rw [hk] at h3
      simp only [hk] at hE
      refine vx_catch (name := exN 2) B.2.2.2.1 [⟨0, 9, 12, 21⟩] ⟨0, 9, 15, 15⟩ [] (hT.trans rfl) (fun z hz => by
        simp only [List.mem_cons, List.not_mem_nil, or_false] at hz
        rcases hz with rfl
        · exact Or.inr ⟨by decide, exN 3, B.2.2.2.2 _ q465, F.2.2.2.1.2.2 (exN 2, exN 3) (by decide +kernel)⟩) (by decide) (by decide) (B.2.2.2.2 _ q366) (va_Nw.use rfl (F.2.2.2.1.1 _ k448)) h1 h2 h3 ?_
      refine lv_astore_n (lv' := [(3, .ref q9), (0, .ref (ad 0)), (1, .int t), (2, .ref (ad 31))]) hx hb dL_energyOf_15 rfl hl (by decide) rfl (fun ls hl => ?_)
      refine lv_iconst (v := 2) hx hb dL_energyOf_16 (by decide) ?_
      exact g_retiw B P (by rw [← hE]; try rfl) (by rw [← hE]) hrt hlk (Nat.le_of_ble_eq_true rfl) (Nat.le_of_ble_eq_true rfl) dL_energyOf_17
  rw [if_pos c0] at hE
  refine lv_i2l hx hb dL_energyOf_7 rfl ?_
  refine g_lst B F P (by decide) rfl rfl (by unfold vp_in; decide) dL_energyOf_8 (fun H locs P => ?_)
  refine lv_goto (tgt := 18) hx hb dL_energyOf_9 (by decide) ?_
  refine lv_iconst (v := 0) hx hb dL_energyOf_18 (by decide) ?_
  exact g_retiw B P (by rw [← hE]) (by rw [← hE]) hrt hlk (Nat.le_of_ble_eq_true rfl) (Nat.le_of_ble_eq_true rfl) dL_energyOf_19
theorem kc_addTank (a : Int32) (σ : Sg) : (f_X5_addTank a σ).1 = 0 ∨ (f_X5_addTank a σ).1 = 1 ∨ (f_X5_addTank a σ).1 = 2 := by
  unfold f_X5_addTank
  repeat' split
  all_goals try dsimp only
  all_goals (first | omega | with_reducible exact (ck_rng _ _ _ _).elim (fun h => Or.inl h) (fun h => by rw [h]; decide) | with_reducible exact (ck_train _ _).elim (fun h => Or.inl h) (fun h => by rw [h]; decide) | with_reducible exact (ck_tank _ _).elim (fun h => Or.inl h) (fun h => by rw [h]; decide) | with_reducible exact (ck_ready _ _).elim (fun h => Or.inl h) (fun h => by rw [h]; decide) | with_reducible exact (ck_slots _ _ _).elim (fun h => Or.inl h) (fun h => by rw [h]; decide) | with_reducible exact (ck_allowed _ _).elim (fun h => Or.inl h) (fun h => by rw [h]; decide))
def f_L_addTank (a : Int32) (σ : Sg) : Int32 × Sg := if (f_X5_addTank a σ).1 = 0 then (0, sL (f_X5_addTank a σ).2.2 31 (Int32.toNatClampNeg 0) (f_X5_addTank a σ).2.1.toInt64) else ((if (f_X5_addTank a σ).1 = 1 then 1 else 2), (f_X5_addTank a σ).2.2)
theorem nk_X5_addTank : nmOk yX5_addTank RX5 1 := ⟨rfl, by decide +kernel, by decide +kernel, by decide +kernel⟩
set_option maxHeartbeats 4000000 in
set_option maxRecDepth 100000 in
theorem cw_L_addTank {D : va_G} {ad : Nat → Nat} {cy : Nat → ClassId} {ba : Nat} (l : Launch) (a : Int32) (σ : Sg) (hst : l.stackTraces = false) (hC : GC 99000 σ) : Cw D ad cy ba l 2 4 yL_addTank cL_addTank 4 (some .int) [(0, 9, 12, 13), (0, 9, 15, 15)] [.ref (ad 0), .int a, .ref (ad 31)] σ (some (.int (f_L_addTank a σ).1)) (f_L_addTank a σ).2 := by
  generalize hE : f_L_addTank a σ = Z
  dsimp only [f_L_addTank] at hE
  refine Cw.of (by decide +kernel) (Nat.le_of_ble_eq_true rfl) ?_
  intro p e s m below meth c ls B F P hrt hlk hT hl
  have hx := B.1
  have hb := B.2.1
  have hl : lv_has ls 4 [(0, .ref (ad 0)), (1, .int a), (2, .ref (ad 31))] := hl
  refine lv_aload_n hx hb dL_addTank_0 rfl (lv_at hl 2 rfl) ?_
  refine lv_iconst (v := 0) hx hb dL_addTank_1 (by decide) ?_
  refine lv_aload_n hx hb dL_addTank_2 rfl (lv_at hl 0 rfl) ?_
  refine lv_iload_n hx hb dL_addTank_3 rfl (lv_at hl 1 rfl) ?_
  refine g_callVx B F P (As := [.int a]) (ct_X5_addTank (D := D) (ad := ad) (cy := cy) (ba := ba) l a σ hst hC) ok5 (by decide) rfl q594 q595 q596 q1 q597 nk_X5_addTank rfl ⟨Nat.le_of_ble_eq_true rfl, Nat.le_of_ble_eq_true rfl⟩ hl.1 rfl (Nat.le_of_ble_eq_true rfl) dL_addTank_4 ⟨Nat.le_of_ble_eq_true rfl, Nat.le_of_ble_eq_true rfl⟩ (fun c0 ce q9 H locs P h1 h2 h3 => ?_) (fun c0 H locs P => ?_)
  · rw [if_neg c0] at hE
    rcases kc_addTank a σ with hk | hk | hk
    · exact absurd hk c0
    · rw [hk] at h3
      simp only [hk] at hE
      refine vx_catch (name := exN 1) B.2.2.2.1 [] ⟨0, 9, 12, 13⟩ [⟨0, 9, 15, 15⟩] (hT.trans rfl) (fun z hz => absurd hz List.not_mem_nil) (by decide) (by decide) (B.2.2.2.2 _ q365) (va_Nw.use rfl (F.2.2.2.1.1 _ k376)) h1 h2 h3 ?_
      refine lv_astore_n (lv' := [(3, .ref q9), (0, .ref (ad 0)), (1, .int a), (2, .ref (ad 31))]) hx hb dL_addTank_12 rfl hl (by decide) rfl (fun ls hl => ?_)
      refine lv_iconst (v := 1) hx hb dL_addTank_13 (by decide) ?_
      exact g_retiw B P (by rw [← hE]; try rfl) (by rw [← hE]) hrt hlk (Nat.le_of_ble_eq_true rfl) (Nat.le_of_ble_eq_true rfl) dL_addTank_14
    · rw [hk] at h3
      simp only [hk] at hE
      refine vx_catch (name := exN 2) B.2.2.2.1 [⟨0, 9, 12, 13⟩] ⟨0, 9, 15, 15⟩ [] (hT.trans rfl) (fun z hz => by
        simp only [List.mem_cons, List.not_mem_nil, or_false] at hz
        rcases hz with rfl
        · exact Or.inr ⟨by decide, exN 1, B.2.2.2.2 _ q365, F.2.2.2.1.2.2 (exN 2, exN 1) (by decide +kernel)⟩) (by decide) (by decide) (B.2.2.2.2 _ q366) (va_Nw.use rfl (F.2.2.2.1.1 _ k448)) h1 h2 h3 ?_
      refine lv_astore_n (lv' := [(3, .ref q9), (0, .ref (ad 0)), (1, .int a), (2, .ref (ad 31))]) hx hb dL_addTank_15 rfl hl (by decide) rfl (fun ls hl => ?_)
      refine lv_iconst (v := 2) hx hb dL_addTank_16 (by decide) ?_
      exact g_retiw B P (by rw [← hE]; try rfl) (by rw [← hE]) hrt hlk (Nat.le_of_ble_eq_true rfl) (Nat.le_of_ble_eq_true rfl) dL_addTank_17
  rw [if_pos c0] at hE
  refine lv_i2l hx hb dL_addTank_7 rfl ?_
  refine g_lst B F P (by decide) rfl rfl (by unfold vp_in; decide) dL_addTank_8 (fun H locs P => ?_)
  refine lv_goto (tgt := 18) hx hb dL_addTank_9 (by decide) ?_
  refine lv_iconst (v := 0) hx hb dL_addTank_18 (by decide) ?_
  exact g_retiw B P (by rw [← hE]) (by rw [← hE]) hrt hlk (Nat.le_of_ble_eq_true rfl) (Nat.le_of_ble_eq_true rfl) dL_addTank_19
theorem kc_setDemand (t : Int32) (fi : Int32) (la : Int32) (v : Int32) (σ : Sg) : (f_X5_setDemand t fi la v σ).1 = 0 ∨ (f_X5_setDemand t fi la v σ).1 = 3 ∨ (f_X5_setDemand t fi la v σ).1 = 1 := by
  unfold f_X5_setDemand
  repeat' split
  all_goals try dsimp only
  all_goals (first | omega | with_reducible exact (ck_rng _ _ _ _).elim (fun h => Or.inl h) (fun h => by rw [h]; decide) | with_reducible exact (ck_train _ _).elim (fun h => Or.inl h) (fun h => by rw [h]; decide) | with_reducible exact (ck_tank _ _).elim (fun h => Or.inl h) (fun h => by rw [h]; decide) | with_reducible exact (ck_ready _ _).elim (fun h => Or.inl h) (fun h => by rw [h]; decide) | with_reducible exact (ck_slots _ _ _).elim (fun h => Or.inl h) (fun h => by rw [h]; decide) | with_reducible exact (ck_allowed _ _).elim (fun h => Or.inl h) (fun h => by rw [h]; decide))
def f_L_setDemand (t : Int32) (fi : Int32) (la : Int32) (v : Int32) (σ : Sg) : Int32 × Sg := if (f_X5_setDemand t fi la v σ).1 = 0 then (0, sL (f_X5_setDemand t fi la v σ).2.2 31 (Int32.toNatClampNeg 0) (f_X5_setDemand t fi la v σ).2.1.toInt64) else ((if (f_X5_setDemand t fi la v σ).1 = 3 then 1 else 2), (f_X5_setDemand t fi la v σ).2.2)
theorem nk_X5_setDemand : nmOk yX5_setDemand RX5 4 := ⟨rfl, by decide +kernel, by decide +kernel, by decide +kernel⟩
set_option maxHeartbeats 4000000 in
set_option maxRecDepth 100000 in
theorem cw_L_setDemand {D : va_G} {ad : Nat → Nat} {cy : Nat → ClassId} {ba : Nat} (l : Launch) (t : Int32) (fi : Int32) (la : Int32) (v : Int32) (σ : Sg) (hst : l.stackTraces = false) (hC : GC 99000 σ) : Cw D ad cy ba l 3 4 yL_setDemand cL_setDemand 7 (some .int) [(0, 14, 17, 21), (0, 14, 21, 13)] [.ref (ad 0), .int t, .int fi, .int la, .int v, .ref (ad 31)] σ (some (.int (f_L_setDemand t fi la v σ).1)) (f_L_setDemand t fi la v σ).2 := by
  generalize hE : f_L_setDemand t fi la v σ = Z
  dsimp only [f_L_setDemand] at hE
  refine Cw.of (by decide +kernel) (Nat.le_of_ble_eq_true rfl) ?_
  intro p e s m below meth c ls B F P hrt hlk hT hl
  have hx := B.1
  have hb := B.2.1
  have hl : lv_has ls 7 [(0, .ref (ad 0)), (1, .int t), (2, .int fi), (3, .int la), (4, .int v), (5, .ref (ad 31))] := hl
  refine lv_aload hx hb dL_setDemand_0 (lv_at hl 5 rfl) ?_
  refine lv_iconst (v := 0) hx hb dL_setDemand_2 (by decide) ?_
  refine lv_aload_n hx hb dL_setDemand_3 rfl (lv_at hl 0 rfl) ?_
  refine lv_iload_n hx hb dL_setDemand_4 rfl (lv_at hl 1 rfl) ?_
  refine lv_iload_n hx hb dL_setDemand_5 rfl (lv_at hl 2 rfl) ?_
  refine lv_iload_n hx hb dL_setDemand_6 rfl (lv_at hl 3 rfl) ?_
  refine lv_iload hx hb dL_setDemand_7 (lv_at hl 4 rfl) ?_
  refine g_callVx B F P (As := [.int t, .int fi, .int la, .int v]) (ct_X5_setDemand (D := D) (ad := ad) (cy := cy) (ba := ba) l t fi la v σ hst hC) ok5 (by decide) rfl q602 q603 q604 q1 q605 nk_X5_setDemand rfl ⟨Nat.le_of_ble_eq_true rfl, Nat.le_of_ble_eq_true rfl⟩ hl.1 rfl (Nat.le_of_ble_eq_true rfl) dL_setDemand_9 ⟨Nat.le_of_ble_eq_true rfl, Nat.le_of_ble_eq_true rfl⟩ (fun c0 ce q9 H locs P h1 h2 h3 => ?_) (fun c0 H locs P => ?_)
  · rw [if_neg c0] at hE
    rcases kc_setDemand t fi la v σ with hk | hk | hk
    · exact absurd hk c0
    · rw [hk] at h3
      simp only [hk] at hE
      refine vx_catch (name := exN 3) B.2.2.2.1 [] ⟨0, 14, 17, 21⟩ [⟨0, 14, 21, 13⟩] (hT.trans rfl) (fun z hz => absurd hz List.not_mem_nil) (by decide) (by decide) (B.2.2.2.2 _ q465) (va_Nw.use rfl (F.2.2.2.1.1 _ k499)) h1 h2 h3 ?_
      refine lv_astore (lv' := [(6, .ref q9), (0, .ref (ad 0)), (1, .int t), (2, .int fi), (3, .int la), (4, .int v), (5, .ref (ad 31))]) hx hb dL_setDemand_17 hl (by decide) rfl (fun ls hl => ?_)
      refine lv_iconst (v := 1) hx hb dL_setDemand_19 (by decide) ?_
      exact g_retiw B P (by rw [← hE]; try rfl) (by rw [← hE]) hrt hlk (Nat.le_of_ble_eq_true rfl) (Nat.le_of_ble_eq_true rfl) dL_setDemand_20
    · rw [hk] at h3
      simp only [hk] at hE
      refine vx_catch (name := exN 1) B.2.2.2.1 [⟨0, 14, 17, 21⟩] ⟨0, 14, 21, 13⟩ [] (hT.trans rfl) (fun z hz => by
        simp only [List.mem_cons, List.not_mem_nil, or_false] at hz
        rcases hz with rfl
        · exact Or.inr ⟨by decide, exN 3, B.2.2.2.2 _ q465, F.2.2.2.1.2.2 (exN 1, exN 3) (by decide +kernel)⟩) (by decide) (by decide) (B.2.2.2.2 _ q365) (va_Nw.use rfl (F.2.2.2.1.1 _ k376)) h1 h2 h3 ?_
      refine lv_astore (lv' := [(6, .ref q9), (0, .ref (ad 0)), (1, .int t), (2, .int fi), (3, .int la), (4, .int v), (5, .ref (ad 31))]) hx hb dL_setDemand_21 hl (by decide) rfl (fun ls hl => ?_)
      refine lv_iconst (v := 2) hx hb dL_setDemand_23 (by decide) ?_
      exact g_retiw B P (by rw [← hE]; try rfl) (by rw [← hE]) hrt hlk (Nat.le_of_ble_eq_true rfl) (Nat.le_of_ble_eq_true rfl) dL_setDemand_24
  rw [if_pos c0] at hE
  refine lv_i2l hx hb dL_setDemand_12 rfl ?_
  refine g_lst B F P (by decide) rfl rfl (by unfold vp_in; decide) dL_setDemand_13 (fun H locs P => ?_)
  refine lv_goto (tgt := 25) hx hb dL_setDemand_14 (by decide) ?_
  refine lv_iconst (v := 0) hx hb dL_setDemand_25 (by decide) ?_
  exact g_retiw B P (by rw [← hE]) (by rw [← hE]) hrt hlk (Nat.le_of_ble_eq_true rfl) (Nat.le_of_ble_eq_true rfl) dL_setDemand_26
theorem kc_setPrice (fi : Int32) (la : Int32) (v : Int32) (σ : Sg) : (f_X5_setPrice fi la v σ).1 = 0 ∨ (f_X5_setPrice fi la v σ).1 = 1 := by
  unfold f_X5_setPrice
  repeat' split
  all_goals try dsimp only
  all_goals (first | omega | with_reducible exact (ck_rng _ _ _ _).elim (fun h => Or.inl h) (fun h => by rw [h]; decide) | with_reducible exact (ck_train _ _).elim (fun h => Or.inl h) (fun h => by rw [h]; decide) | with_reducible exact (ck_tank _ _).elim (fun h => Or.inl h) (fun h => by rw [h]; decide) | with_reducible exact (ck_ready _ _).elim (fun h => Or.inl h) (fun h => by rw [h]; decide) | with_reducible exact (ck_slots _ _ _).elim (fun h => Or.inl h) (fun h => by rw [h]; decide) | with_reducible exact (ck_allowed _ _).elim (fun h => Or.inl h) (fun h => by rw [h]; decide))
def f_L_setPrice (fi : Int32) (la : Int32) (v : Int32) (σ : Sg) : Int32 × Sg := if (f_X5_setPrice fi la v σ).1 = 0 then (0, sL (f_X5_setPrice fi la v σ).2.2 31 (Int32.toNatClampNeg 0) (f_X5_setPrice fi la v σ).2.1.toInt64) else (1, (f_X5_setPrice fi la v σ).2.2)
theorem nk_X5_setPrice : nmOk yX5_setPrice RX5 3 := ⟨rfl, by decide +kernel, by decide +kernel, by decide +kernel⟩
set_option maxHeartbeats 4000000 in
set_option maxRecDepth 100000 in
theorem cw_L_setPrice {D : va_G} {ad : Nat → Nat} {cy : Nat → ClassId} {ba : Nat} (l : Launch) (fi : Int32) (la : Int32) (v : Int32) (σ : Sg) (hst : l.stackTraces = false) : Cw D ad cy ba l 3 4 yL_setPrice cL_setPrice 6 (some .int) [(0, 12, 15, 13)] [.ref (ad 0), .int fi, .int la, .int v, .ref (ad 31)] σ (some (.int (f_L_setPrice fi la v σ).1)) (f_L_setPrice fi la v σ).2 := by
  generalize hE : f_L_setPrice fi la v σ = Z
  dsimp only [f_L_setPrice] at hE
  refine Cw.of (by decide +kernel) (Nat.le_of_ble_eq_true rfl) ?_
  intro p e s m below meth c ls B F P hrt hlk hT hl
  have hx := B.1
  have hb := B.2.1
  have hl : lv_has ls 6 [(0, .ref (ad 0)), (1, .int fi), (2, .int la), (3, .int v), (4, .ref (ad 31))] := hl
  refine lv_aload hx hb dL_setPrice_0 (lv_at hl 4 rfl) ?_
  refine lv_iconst (v := 0) hx hb dL_setPrice_2 (by decide) ?_
  refine lv_aload_n hx hb dL_setPrice_3 rfl (lv_at hl 0 rfl) ?_
  refine lv_iload_n hx hb dL_setPrice_4 rfl (lv_at hl 1 rfl) ?_
  refine lv_iload_n hx hb dL_setPrice_5 rfl (lv_at hl 2 rfl) ?_
  refine lv_iload_n hx hb dL_setPrice_6 rfl (lv_at hl 3 rfl) ?_
  refine g_callVx B F P (As := [.int fi, .int la, .int v]) (ct_X5_setPrice (D := D) (ad := ad) (cy := cy) (ba := ba) l fi la v σ hst) ok5 (by decide) rfl q620 q621 q622 q1 q623 nk_X5_setPrice rfl ⟨Nat.le_of_ble_eq_true rfl, Nat.le_of_ble_eq_true rfl⟩ hl.1 rfl (Nat.le_of_ble_eq_true rfl) dL_setPrice_7 ⟨Nat.le_of_ble_eq_true rfl, Nat.le_of_ble_eq_true rfl⟩ (fun c0 ce q9 H locs P h1 h2 h3 => ?_) (fun c0 H locs P => ?_)
  · rw [if_neg c0] at hE
    rcases kc_setPrice fi la v σ with hk | hk
    · exact absurd hk c0
    · rw [hk] at h3
      refine vx_catch (name := exN 1) B.2.2.2.1 [] ⟨0, 12, 15, 13⟩ [] (hT.trans rfl) (fun z hz => absurd hz List.not_mem_nil) (by decide) (by decide) (B.2.2.2.2 _ q365) (va_Nw.use rfl (F.2.2.2.1.1 _ k376)) h1 h2 h3 ?_
      refine lv_astore (lv' := [(5, .ref q9), (0, .ref (ad 0)), (1, .int fi), (2, .int la), (3, .int v), (4, .ref (ad 31))]) hx hb dL_setPrice_15 hl (by decide) rfl (fun ls hl => ?_)
      refine lv_iconst (v := 1) hx hb dL_setPrice_17 (by decide) ?_
      exact g_retiw B P (by rw [← hE]; try rfl) (by rw [← hE]) hrt hlk (Nat.le_of_ble_eq_true rfl) (Nat.le_of_ble_eq_true rfl) dL_setPrice_18
  rw [if_pos c0] at hE
  refine lv_i2l hx hb dL_setPrice_10 rfl ?_
  refine g_lst B F P (by decide) rfl rfl (by unfold vp_in; decide) dL_setPrice_11 (fun H locs P => ?_)
  refine lv_goto (tgt := 19) hx hb dL_setPrice_12 (by decide) ?_
  refine lv_iconst (v := 0) hx hb dL_setPrice_19 (by decide) ?_
  exact g_retiw B P (by rw [← hE]) (by rw [← hE]) hrt hlk (Nat.le_of_ble_eq_true rfl) (Nat.le_of_ble_eq_true rfl) dL_setPrice_20
theorem kc_demand (t : Int32) (sl : Int32) (σ : Sg) : (f_X5_demand t sl σ).1 = 0 ∨ (f_X5_demand t sl σ).1 = 3 ∨ (f_X5_demand t sl σ).1 = 1 := by
  unfold f_X5_demand
  repeat' split
  all_goals try dsimp only
  all_goals (first | omega | with_reducible exact (ck_rng _ _ _ _).elim (fun h => Or.inl h) (fun h => by rw [h]; decide) | with_reducible exact (ck_train _ _).elim (fun h => Or.inl h) (fun h => by rw [h]; decide) | with_reducible exact (ck_tank _ _).elim (fun h => Or.inl h) (fun h => by rw [h]; decide) | with_reducible exact (ck_ready _ _).elim (fun h => Or.inl h) (fun h => by rw [h]; decide) | with_reducible exact (ck_slots _ _ _).elim (fun h => Or.inl h) (fun h => by rw [h]; decide) | with_reducible exact (ck_allowed _ _).elim (fun h => Or.inl h) (fun h => by rw [h]; decide))
def f_L_demand (t : Int32) (sl : Int32) (σ : Sg) : Int32 × Sg := if (f_X5_demand t sl σ).1 = 0 then (0, sL (f_X5_demand t sl σ).2.2 31 (Int32.toNatClampNeg 0) (f_X5_demand t sl σ).2.1.toInt64) else ((if (f_X5_demand t sl σ).1 = 3 then 1 else 2), (f_X5_demand t sl σ).2.2)
theorem nk_X5_demand : nmOk yX5_demand RX5 2 := ⟨rfl, by decide +kernel, by decide +kernel, by decide +kernel⟩
set_option maxHeartbeats 4000000 in
set_option maxRecDepth 100000 in
theorem cw_L_demand {D : va_G} {ad : Nat → Nat} {cy : Nat → ClassId} {ba : Nat} (l : Launch) (t : Int32) (sl : Int32) (σ : Sg) (hst : l.stackTraces = false) (hC : GC 99000 σ) : Cw D ad cy ba l 2 4 yL_demand cL_demand 5 (some .int) [(0, 10, 13, 21), (0, 10, 17, 13)] [.ref (ad 0), .int t, .int sl, .ref (ad 31)] σ (some (.int (f_L_demand t sl σ).1)) (f_L_demand t sl σ).2 := by
  generalize hE : f_L_demand t sl σ = Z
  dsimp only [f_L_demand] at hE
  refine Cw.of (by decide +kernel) (Nat.le_of_ble_eq_true rfl) ?_
  intro p e s m below meth c ls B F P hrt hlk hT hl
  have hx := B.1
  have hb := B.2.1
  have hl : lv_has ls 5 [(0, .ref (ad 0)), (1, .int t), (2, .int sl), (3, .ref (ad 31))] := hl
  refine lv_aload_n hx hb dL_demand_0 rfl (lv_at hl 3 rfl) ?_
  refine lv_iconst (v := 0) hx hb dL_demand_1 (by decide) ?_
  refine lv_aload_n hx hb dL_demand_2 rfl (lv_at hl 0 rfl) ?_
  refine lv_iload_n hx hb dL_demand_3 rfl (lv_at hl 1 rfl) ?_
  refine lv_iload_n hx hb dL_demand_4 rfl (lv_at hl 2 rfl) ?_
  refine g_callVx B F P (As := [.int t, .int sl]) (ct_X5_demand (D := D) (ad := ad) (cy := cy) (ba := ba) l t sl σ hst hC) ok5 (by decide) rfl q627 q628 q629 q1 q630 nk_X5_demand rfl ⟨Nat.le_of_ble_eq_true rfl, Nat.le_of_ble_eq_true rfl⟩ hl.1 rfl (Nat.le_of_ble_eq_true rfl) dL_demand_5 ⟨Nat.le_of_ble_eq_true rfl, Nat.le_of_ble_eq_true rfl⟩ (fun c0 ce q9 H locs P h1 h2 h3 => ?_) (fun c0 H locs P => ?_)
  · rw [if_neg c0] at hE
    rcases kc_demand t sl σ with hk | hk | hk
    · exact absurd hk c0
    · rw [hk] at h3
      simp only [hk] at hE
      refine vx_catch (name := exN 3) B.2.2.2.1 [] ⟨0, 10, 13, 21⟩ [⟨0, 10, 17, 13⟩] (hT.trans rfl) (fun z hz => absurd hz List.not_mem_nil) (by decide) (by decide) (B.2.2.2.2 _ q465) (va_Nw.use rfl (F.2.2.2.1.1 _ k499)) h1 h2 h3 ?_
      refine lv_astore (lv' := [(4, .ref q9), (0, .ref (ad 0)), (1, .int t), (2, .int sl), (3, .ref (ad 31))]) hx hb dL_demand_13 hl (by decide) rfl (fun ls hl => ?_)
      refine lv_iconst (v := 1) hx hb dL_demand_15 (by decide) ?_
      exact g_retiw B P (by rw [← hE]; try rfl) (by rw [← hE]) hrt hlk (Nat.le_of_ble_eq_true rfl) (Nat.le_of_ble_eq_true rfl) dL_demand_16
    · rw [hk] at h3
      simp only [hk] at hE
      refine vx_catch (name := exN 1) B.2.2.2.1 [⟨0, 10, 13, 21⟩] ⟨0, 10, 17, 13⟩ [] (hT.trans rfl) (fun z hz => by
        simp only [List.mem_cons, List.not_mem_nil, or_false] at hz
        rcases hz with rfl
        · exact Or.inr ⟨by decide, exN 3, B.2.2.2.2 _ q465, F.2.2.2.1.2.2 (exN 1, exN 3) (by decide +kernel)⟩) (by decide) (by decide) (B.2.2.2.2 _ q365) (va_Nw.use rfl (F.2.2.2.1.1 _ k376)) h1 h2 h3 ?_
      refine lv_astore (lv' := [(4, .ref q9), (0, .ref (ad 0)), (1, .int t), (2, .int sl), (3, .ref (ad 31))]) hx hb dL_demand_17 hl (by decide) rfl (fun ls hl => ?_)
      refine lv_iconst (v := 2) hx hb dL_demand_19 (by decide) ?_
      exact g_retiw B P (by rw [← hE]; try rfl) (by rw [← hE]) hrt hlk (Nat.le_of_ble_eq_true rfl) (Nat.le_of_ble_eq_true rfl) dL_demand_20
  rw [if_pos c0] at hE
  refine lv_i2l hx hb dL_demand_8 rfl ?_
  refine g_lst B F P (by decide) rfl rfl (by unfold vp_in; decide) dL_demand_9 (fun H locs P => ?_)
  refine lv_goto (tgt := 21) hx hb dL_demand_10 (by decide) ?_
  refine lv_iconst (v := 0) hx hb dL_demand_21 (by decide) ?_
  exact g_retiw B P (by rw [← hE]) (by rw [← hE]) hrt hlk (Nat.le_of_ble_eq_true rfl) (Nat.le_of_ble_eq_true rfl) dL_demand_22
theorem kc_level (t : Int32) (σ : Sg) : (f_X5_level t σ).1 = 0 ∨ (f_X5_level t σ).1 = 3 := by
  unfold f_X5_level
  repeat' split
  all_goals try dsimp only
  all_goals (first | omega | with_reducible exact (ck_rng _ _ _ _).elim (fun h => Or.inl h) (fun h => by rw [h]; decide) | with_reducible exact (ck_train _ _).elim (fun h => Or.inl h) (fun h => by rw [h]; decide) | with_reducible exact (ck_tank _ _).elim (fun h => Or.inl h) (fun h => by rw [h]; decide) | with_reducible exact (ck_ready _ _).elim (fun h => Or.inl h) (fun h => by rw [h]; decide) | with_reducible exact (ck_slots _ _ _).elim (fun h => Or.inl h) (fun h => by rw [h]; decide) | with_reducible exact (ck_allowed _ _).elim (fun h => Or.inl h) (fun h => by rw [h]; decide))
def f_L_level (t : Int32) (σ : Sg) : Int32 × Sg := if (f_X5_level t σ).1 = 0 then (0, sL (f_X5_level t σ).2.2 31 (Int32.toNatClampNeg 0) (f_X5_level t σ).2.1.toInt64) else (1, (f_X5_level t σ).2.2)
theorem nk_X5_level : nmOk yX5_level RX5 1 := ⟨rfl, by decide +kernel, by decide +kernel, by decide +kernel⟩
set_option maxHeartbeats 4000000 in
set_option maxRecDepth 100000 in
theorem cw_L_level {D : va_G} {ad : Nat → Nat} {cy : Nat → ClassId} {ba : Nat} (l : Launch) (t : Int32) (σ : Sg) (hst : l.stackTraces = false) (hC : GC 99000 σ) : Cw D ad cy ba l 2 4 yL_level cL_level 4 (some .int) [(0, 9, 12, 21)] [.ref (ad 0), .int t, .ref (ad 31)] σ (some (.int (f_L_level t σ).1)) (f_L_level t σ).2 := by
  generalize hE : f_L_level t σ = Z
  dsimp only [f_L_level] at hE
  refine Cw.of (by decide +kernel) (Nat.le_of_ble_eq_true rfl) ?_
  intro p e s m below meth c ls B F P hrt hlk hT hl
  have hx := B.1
  have hb := B.2.1
  have hl : lv_has ls 4 [(0, .ref (ad 0)), (1, .int t), (2, .ref (ad 31))] := hl
  refine lv_aload_n hx hb dL_level_0 rfl (lv_at hl 2 rfl) ?_
  refine lv_iconst (v := 0) hx hb dL_level_1 (by decide) ?_
  refine lv_aload_n hx hb dL_level_2 rfl (lv_at hl 0 rfl) ?_
  refine lv_iload_n hx hb dL_level_3 rfl (lv_at hl 1 rfl) ?_
  refine g_callVx B F P (As := [.int t]) (ct_X5_level (D := D) (ad := ad) (cy := cy) (ba := ba) l t σ hst hC) ok5 (by decide) rfl q634 q635 q636 q1 q637 nk_X5_level rfl ⟨Nat.le_of_ble_eq_true rfl, Nat.le_of_ble_eq_true rfl⟩ hl.1 rfl (Nat.le_of_ble_eq_true rfl) dL_level_4 ⟨Nat.le_of_ble_eq_true rfl, Nat.le_of_ble_eq_true rfl⟩ (fun c0 ce q9 H locs P h1 h2 h3 => ?_) (fun c0 H locs P => ?_)
  · rw [if_neg c0] at hE
    rcases kc_level t σ with hk | hk
    · exact absurd hk c0
    · rw [hk] at h3
      refine vx_catch (name := exN 3) B.2.2.2.1 [] ⟨0, 9, 12, 21⟩ [] (hT.trans rfl) (fun z hz => absurd hz List.not_mem_nil) (by decide) (by decide) (B.2.2.2.2 _ q465) (va_Nw.use rfl (F.2.2.2.1.1 _ k499)) h1 h2 h3 ?_
      refine lv_astore_n (lv' := [(3, .ref q9), (0, .ref (ad 0)), (1, .int t), (2, .ref (ad 31))]) hx hb dL_level_12 rfl hl (by decide) rfl (fun ls hl => ?_)
      refine lv_iconst (v := 1) hx hb dL_level_13 (by decide) ?_
      exact g_retiw B P (by rw [← hE]; try rfl) (by rw [← hE]) hrt hlk (Nat.le_of_ble_eq_true rfl) (Nat.le_of_ble_eq_true rfl) dL_level_14
  rw [if_pos c0] at hE
  refine lv_i2l hx hb dL_level_7 rfl ?_
  refine g_lst B F P (by decide) rfl rfl (by unfold vp_in; decide) dL_level_8 (fun H locs P => ?_)
  refine lv_goto (tgt := 15) hx hb dL_level_9 (by decide) ?_
  refine lv_iconst (v := 0) hx hb dL_level_15 (by decide) ?_
  exact g_retiw B P (by rw [← hE]) (by rw [← hE]) hrt hlk (Nat.le_of_ble_eq_true rfl) (Nat.le_of_ble_eq_true rfl) dL_level_16
theorem kc_shortOf (t : Int32) (σ : Sg) : (f_X5_shortOf t σ).1 = 0 ∨ (f_X5_shortOf t σ).1 = 3 := by
  unfold f_X5_shortOf
  repeat' split
  all_goals try dsimp only
  all_goals (first | omega | with_reducible exact (ck_rng _ _ _ _).elim (fun h => Or.inl h) (fun h => by rw [h]; decide) | with_reducible exact (ck_train _ _).elim (fun h => Or.inl h) (fun h => by rw [h]; decide) | with_reducible exact (ck_tank _ _).elim (fun h => Or.inl h) (fun h => by rw [h]; decide) | with_reducible exact (ck_ready _ _).elim (fun h => Or.inl h) (fun h => by rw [h]; decide) | with_reducible exact (ck_slots _ _ _).elim (fun h => Or.inl h) (fun h => by rw [h]; decide) | with_reducible exact (ck_allowed _ _).elim (fun h => Or.inl h) (fun h => by rw [h]; decide))
def f_L_shortOf (t : Int32) (σ : Sg) : Int32 × Sg := if (f_X5_shortOf t σ).1 = 0 then (0, sL (f_X5_shortOf t σ).2.2 31 (Int32.toNatClampNeg 0) (f_X5_shortOf t σ).2.1.toInt64) else (1, (f_X5_shortOf t σ).2.2)
theorem nk_X5_shortOf : nmOk yX5_shortOf RX5 1 := ⟨rfl, by decide +kernel, by decide +kernel, by decide +kernel⟩
set_option maxHeartbeats 4000000 in
set_option maxRecDepth 100000 in
theorem cw_L_shortOf {D : va_G} {ad : Nat → Nat} {cy : Nat → ClassId} {ba : Nat} (l : Launch) (t : Int32) (σ : Sg) (hst : l.stackTraces = false) (hC : GC 99000 σ) : Cw D ad cy ba l 2 4 yL_shortOf cL_shortOf 4 (some .int) [(0, 9, 12, 21)] [.ref (ad 0), .int t, .ref (ad 31)] σ (some (.int (f_L_shortOf t σ).1)) (f_L_shortOf t σ).2 := by
  generalize hE : f_L_shortOf t σ = Z
  dsimp only [f_L_shortOf] at hE
  refine Cw.of (by decide +kernel) (Nat.le_of_ble_eq_true rfl) ?_
  intro p e s m below meth c ls B F P hrt hlk hT hl
  have hx := B.1
  have hb := B.2.1
  have hl : lv_has ls 4 [(0, .ref (ad 0)), (1, .int t), (2, .ref (ad 31))] := hl
  refine lv_aload_n hx hb dL_shortOf_0 rfl (lv_at hl 2 rfl) ?_
  refine lv_iconst (v := 0) hx hb dL_shortOf_1 (by decide) ?_
  refine lv_aload_n hx hb dL_shortOf_2 rfl (lv_at hl 0 rfl) ?_
  refine lv_iload_n hx hb dL_shortOf_3 rfl (lv_at hl 1 rfl) ?_
  refine g_callVx B F P (As := [.int t]) (ct_X5_shortOf (D := D) (ad := ad) (cy := cy) (ba := ba) l t σ hst hC) ok5 (by decide) rfl q641 q642 q643 q1 q644 nk_X5_shortOf rfl ⟨Nat.le_of_ble_eq_true rfl, Nat.le_of_ble_eq_true rfl⟩ hl.1 rfl (Nat.le_of_ble_eq_true rfl) dL_shortOf_4 ⟨Nat.le_of_ble_eq_true rfl, Nat.le_of_ble_eq_true rfl⟩ (fun c0 ce q9 H locs P h1 h2 h3 => ?_) (fun c0 H locs P => ?_)
  · rw [if_neg c0] at hE
    rcases kc_shortOf t σ with hk | hk
    · exact absurd hk c0
    · rw [hk] at h3
      refine vx_catch (name := exN 3) B.2.2.2.1 [] ⟨0, 9, 12, 21⟩ [] (hT.trans rfl) (fun z hz => absurd hz List.not_mem_nil) (by decide) (by decide) (B.2.2.2.2 _ q465) (va_Nw.use rfl (F.2.2.2.1.1 _ k499)) h1 h2 h3 ?_
      refine lv_astore_n (lv' := [(3, .ref q9), (0, .ref (ad 0)), (1, .int t), (2, .ref (ad 31))]) hx hb dL_shortOf_12 rfl hl (by decide) rfl (fun ls hl => ?_)
      refine lv_iconst (v := 1) hx hb dL_shortOf_13 (by decide) ?_
      exact g_retiw B P (by rw [← hE]; try rfl) (by rw [← hE]) hrt hlk (Nat.le_of_ble_eq_true rfl) (Nat.le_of_ble_eq_true rfl) dL_shortOf_14
  rw [if_pos c0] at hE
  refine lv_i2l hx hb dL_shortOf_7 rfl ?_
  refine g_lst B F P (by decide) rfl rfl (by unfold vp_in; decide) dL_shortOf_8 (fun H locs P => ?_)
  refine lv_goto (tgt := 15) hx hb dL_shortOf_9 (by decide) ?_
  refine lv_iconst (v := 0) hx hb dL_shortOf_15 (by decide) ?_
  exact g_retiw B P (by rw [← hE]) (by rw [← hE]) hrt hlk (Nat.le_of_ble_eq_true rfl) (Nat.le_of_ble_eq_true rfl) dL_shortOf_16
theorem kl_run (nh : Int32) : ∀ (n : Nat) (x y : Int32) (σ : Sg), (f_X5_run_l11 nh n x y σ).1 = 0 ∨ (f_X5_run_l11 nh n x y σ).1 = 1
  | 0, _, _, _ => Or.inl rfl
  | n + 1, x, y, σ => by
    unfold f_X5_run_l11
    repeat' split
    all_goals try dsimp only
    all_goals (first | omega | with_reducible exact (ck_rng _ _ _ _).elim (fun h => Or.inl h) (fun h => by rw [h]; decide) | with_reducible exact (ck_train _ _).elim (fun h => Or.inl h) (fun h => by rw [h]; decide) | with_reducible exact (ck_tank _ _).elim (fun h => Or.inl h) (fun h => by rw [h]; decide) | with_reducible exact (ck_ready _ _).elim (fun h => Or.inl h) (fun h => by rw [h]; decide) | with_reducible exact (ck_slots _ _ _).elim (fun h => Or.inl h) (fun h => by rw [h]; decide) | with_reducible exact (ck_allowed _ _).elim (fun h => Or.inl h) (fun h => by rw [h]; decide) | with_reducible exact kl_run nh n _ _ _)
theorem kc_run (nh : Int32) (σ : Sg) : (f_X5_run nh σ).1 = 0 ∨ (f_X5_run nh σ).1 = 1 := by
  unfold f_X5_run
  split
  · with_reducible exact kl_run nh _ _ _ _
  all_goals try dsimp only
  all_goals (first | omega | with_reducible exact (ck_rng _ _ _ _).elim (fun h => Or.inl h) (fun h => by rw [h]; decide) | with_reducible exact (ck_train _ _).elim (fun h => Or.inl h) (fun h => by rw [h]; decide) | with_reducible exact (ck_tank _ _).elim (fun h => Or.inl h) (fun h => by rw [h]; decide) | with_reducible exact (ck_ready _ _).elim (fun h => Or.inl h) (fun h => by rw [h]; decide) | with_reducible exact (ck_slots _ _ _).elim (fun h => Or.inl h) (fun h => by rw [h]; decide) | with_reducible exact (ck_allowed _ _).elim (fun h => Or.inl h) (fun h => by rw [h]; decide))
def f_L_run (nh : Int32) (σ : Sg) : Int32 × Sg := if (f_X5_run nh σ).1 = 0 then (0, sL (f_X5_run nh σ).2.2 31 (Int32.toNatClampNeg 0) (f_X5_run nh σ).2.1.toInt64) else (1, (f_X5_run nh σ).2.2)
theorem nk_X5_run : nmOk yX5_run RX5 1 := ⟨rfl, by decide +kernel, by decide +kernel, by decide +kernel⟩
set_option maxHeartbeats 4000000 in
set_option maxRecDepth 100000 in
theorem cw_L_run {D : va_G} {ad : Nat → Nat} {cy : Nat → ClassId} {ba : Nat} (l : Launch) (nh : Int32) (σ : Sg) (hst : l.stackTraces = false) (hC : GC 99000 σ) : Cw D ad cy ba l 14 4 yL_run cL_run 4 (some .int) [(0, 9, 12, 13)] [.ref (ad 0), .int nh, .ref (ad 31)] σ (some (.int (f_L_run nh σ).1)) (f_L_run nh σ).2 := by
  generalize hE : f_L_run nh σ = Z
  dsimp only [f_L_run] at hE
  refine Cw.of (by decide +kernel) (Nat.le_of_ble_eq_true rfl) ?_
  intro p e s m below meth c ls B F P hrt hlk hT hl
  have hx := B.1
  have hb := B.2.1
  have hl : lv_has ls 4 [(0, .ref (ad 0)), (1, .int nh), (2, .ref (ad 31))] := hl
  refine lv_aload_n hx hb dL_run_0 rfl (lv_at hl 2 rfl) ?_
  refine lv_iconst (v := 0) hx hb dL_run_1 (by decide) ?_
  refine lv_aload_n hx hb dL_run_2 rfl (lv_at hl 0 rfl) ?_
  refine lv_iload_n hx hb dL_run_3 rfl (lv_at hl 1 rfl) ?_
  refine g_callVx B F P (As := [.int nh]) (ct_X5_run (D := D) (ad := ad) (cy := cy) (ba := ba) l nh σ hst hC) ok5 (by decide) rfl q648 q649 q650 q1 q651 nk_X5_run rfl ⟨Nat.le_of_ble_eq_true rfl, Nat.le_of_ble_eq_true rfl⟩ hl.1 rfl (Nat.le_of_ble_eq_true rfl) dL_run_4 ⟨Nat.le_of_ble_eq_true rfl, Nat.le_of_ble_eq_true rfl⟩ (fun c0 ce q9 H locs P h1 h2 h3 => ?_) (fun c0 H locs P => ?_)
  · rw [if_neg c0] at hE
    rcases kc_run nh σ with hk | hk
    · exact absurd hk c0
    · rw [hk] at h3
      refine vx_catch (name := exN 1) B.2.2.2.1 [] ⟨0, 9, 12, 13⟩ [] (hT.trans rfl) (fun z hz => absurd hz List.not_mem_nil) (by decide) (by decide) (B.2.2.2.2 _ q365) (va_Nw.use rfl (F.2.2.2.1.1 _ k376)) h1 h2 h3 ?_
      refine lv_astore_n (lv' := [(3, .ref q9), (0, .ref (ad 0)), (1, .int nh), (2, .ref (ad 31))]) hx hb dL_run_12 rfl hl (by decide) rfl (fun ls hl => ?_)
      refine lv_iconst (v := 1) hx hb dL_run_13 (by decide) ?_
      exact g_retiw B P (by rw [← hE]; try rfl) (by rw [← hE]) hrt hlk (Nat.le_of_ble_eq_true rfl) (Nat.le_of_ble_eq_true rfl) dL_run_14
  rw [if_pos c0] at hE
  refine lv_i2l hx hb dL_run_7 rfl ?_
  refine g_lst B F P (by decide) rfl rfl (by unfold vp_in; decide) dL_run_8 (fun H locs P => ?_)
  refine lv_goto (tgt := 15) hx hb dL_run_9 (by decide) ?_
  refine lv_iconst (v := 0) hx hb dL_run_15 (by decide) ?_
  exact g_retiw B P (by rw [← hE]) (by rw [← hE]) hrt hlk (Nat.le_of_ble_eq_true rfl) (Nat.le_of_ble_eq_true rfl) dL_run_16
theorem kc_setHorizon (v : Int32) (σ : Sg) : (f_X5_setHorizon v σ).1 = 0 ∨ (f_X5_setHorizon v σ).1 = 1 := by
  unfold f_X5_setHorizon
  repeat' split
  all_goals try dsimp only
  all_goals (first | omega | with_reducible exact (ck_rng _ _ _ _).elim (fun h => Or.inl h) (fun h => by rw [h]; decide) | with_reducible exact (ck_train _ _).elim (fun h => Or.inl h) (fun h => by rw [h]; decide) | with_reducible exact (ck_tank _ _).elim (fun h => Or.inl h) (fun h => by rw [h]; decide) | with_reducible exact (ck_ready _ _).elim (fun h => Or.inl h) (fun h => by rw [h]; decide) | with_reducible exact (ck_slots _ _ _).elim (fun h => Or.inl h) (fun h => by rw [h]; decide) | with_reducible exact (ck_allowed _ _).elim (fun h => Or.inl h) (fun h => by rw [h]; decide))
def f_L_setHorizon (v : Int32) (σ : Sg) : Int32 × Sg := if (f_X5_setHorizon v σ).1 = 0 then (0, sL (f_X5_setHorizon v σ).2.2 31 (Int32.toNatClampNeg 0) (f_X5_setHorizon v σ).2.1.toInt64) else (1, (f_X5_setHorizon v σ).2.2)
theorem nk_X5_setHorizon : nmOk yX5_setHorizon RX5 1 := ⟨rfl, by decide +kernel, by decide +kernel, by decide +kernel⟩
set_option maxHeartbeats 4000000 in
set_option maxRecDepth 100000 in
theorem cw_L_setHorizon {D : va_G} {ad : Nat → Nat} {cy : Nat → ClassId} {ba : Nat} (l : Launch) (v : Int32) (σ : Sg) (hst : l.stackTraces = false) : Cw D ad cy ba l 2 4 yL_setHorizon cL_setHorizon 4 (some .int) [(0, 9, 12, 13)] [.ref (ad 0), .int v, .ref (ad 31)] σ (some (.int (f_L_setHorizon v σ).1)) (f_L_setHorizon v σ).2 := by
  generalize hE : f_L_setHorizon v σ = Z
  dsimp only [f_L_setHorizon] at hE
  refine Cw.of (by decide +kernel) (Nat.le_of_ble_eq_true rfl) ?_
  intro p e s m below meth c ls B F P hrt hlk hT hl
  have hx := B.1
  have hb := B.2.1
  have hl : lv_has ls 4 [(0, .ref (ad 0)), (1, .int v), (2, .ref (ad 31))] := hl
  refine lv_aload_n hx hb dL_setHorizon_0 rfl (lv_at hl 2 rfl) ?_
  refine lv_iconst (v := 0) hx hb dL_setHorizon_1 (by decide) ?_
  refine lv_aload_n hx hb dL_setHorizon_2 rfl (lv_at hl 0 rfl) ?_
  refine lv_iload_n hx hb dL_setHorizon_3 rfl (lv_at hl 1 rfl) ?_
  refine g_callVx B F P (As := [.int v]) (ct_X5_setHorizon (D := D) (ad := ad) (cy := cy) (ba := ba) l v σ hst) ok5 (by decide) rfl q695 q696 q697 q1 q698 nk_X5_setHorizon rfl ⟨Nat.le_of_ble_eq_true rfl, Nat.le_of_ble_eq_true rfl⟩ hl.1 rfl (Nat.le_of_ble_eq_true rfl) dL_setHorizon_4 ⟨Nat.le_of_ble_eq_true rfl, Nat.le_of_ble_eq_true rfl⟩ (fun c0 ce q9 H locs P h1 h2 h3 => ?_) (fun c0 H locs P => ?_)
  · rw [if_neg c0] at hE
    rcases kc_setHorizon v σ with hk | hk
    · exact absurd hk c0
    · rw [hk] at h3
      refine vx_catch (name := exN 1) B.2.2.2.1 [] ⟨0, 9, 12, 13⟩ [] (hT.trans rfl) (fun z hz => absurd hz List.not_mem_nil) (by decide) (by decide) (B.2.2.2.2 _ q365) (va_Nw.use rfl (F.2.2.2.1.1 _ k376)) h1 h2 h3 ?_
      refine lv_astore_n (lv' := [(3, .ref q9), (0, .ref (ad 0)), (1, .int v), (2, .ref (ad 31))]) hx hb dL_setHorizon_12 rfl hl (by decide) rfl (fun ls hl => ?_)
      refine lv_iconst (v := 1) hx hb dL_setHorizon_13 (by decide) ?_
      exact g_retiw B P (by rw [← hE]; try rfl) (by rw [← hE]) hrt hlk (Nat.le_of_ble_eq_true rfl) (Nat.le_of_ble_eq_true rfl) dL_setHorizon_14
  rw [if_pos c0] at hE
  refine lv_i2l hx hb dL_setHorizon_7 rfl ?_
  refine g_lst B F P (by decide) rfl rfl (by unfold vp_in; decide) dL_setHorizon_8 (fun H locs P => ?_)
  refine lv_goto (tgt := 15) hx hb dL_setHorizon_9 (by decide) ?_
  refine lv_iconst (v := 0) hx hb dL_setHorizon_15 (by decide) ?_
  exact g_retiw B P (by rw [← hE]) (by rw [← hE]) hrt hlk (Nat.le_of_ble_eq_true rfl) (Nat.le_of_ble_eq_true rfl) dL_setHorizon_16
theorem kc_order (h : Int32) (on : Int32) (σ : Sg) : (f_X5_order h on σ).1 = 0 ∨ (f_X5_order h on σ).1 = 1 ∨ (f_X5_order h on σ).1 = 2 := by
  unfold f_X5_order
  repeat' split
  all_goals try dsimp only
  all_goals (first | omega | with_reducible exact (ck_rng _ _ _ _).elim (fun h => Or.inl h) (fun h => by rw [h]; decide) | with_reducible exact (ck_train _ _).elim (fun h => Or.inl h) (fun h => by rw [h]; decide) | with_reducible exact (ck_tank _ _).elim (fun h => Or.inl h) (fun h => by rw [h]; decide) | with_reducible exact (ck_ready _ _).elim (fun h => Or.inl h) (fun h => by rw [h]; decide) | with_reducible exact (ck_slots _ _ _).elim (fun h => Or.inl h) (fun h => by rw [h]; decide) | with_reducible exact (ck_allowed _ _).elim (fun h => Or.inl h) (fun h => by rw [h]; decide))
def f_L_order (h : Int32) (on : Int32) (σ : Sg) : Int32 × Sg := if (f_X5_order h on σ).1 = 0 then (0, sL (f_X5_order h on σ).2.2 31 (Int32.toNatClampNeg 0) (f_X5_order h on σ).2.1.toInt64) else ((if (f_X5_order h on σ).1 = 1 then 1 else 2), (f_X5_order h on σ).2.2)
theorem nk_X5_order : nmOk yX5_order RX5 2 := ⟨rfl, by decide +kernel, by decide +kernel, by decide +kernel⟩
set_option maxHeartbeats 4000000 in
set_option maxRecDepth 100000 in
theorem cw_L_order {D : va_G} {ad : Nat → Nat} {cy : Nat → ClassId} {ba : Nat} (l : Launch) (h : Int32) (on : Int32) (σ : Sg) (hst : l.stackTraces = false) (hC : GC 99000 σ) : Cw D ad cy ba l 3 4 yL_order cL_order 5 (some .int) [(0, 10, 13, 13), (0, 10, 17, 15)] [.ref (ad 0), .int h, .int on, .ref (ad 31)] σ (some (.int (f_L_order h on σ).1)) (f_L_order h on σ).2 := by
  generalize hE : f_L_order h on σ = Z
  dsimp only [f_L_order] at hE
  refine Cw.of (by decide +kernel) (Nat.le_of_ble_eq_true rfl) ?_
  intro p e s m below meth c ls B F P hrt hlk hT hl
  have hx := B.1
  have hb := B.2.1
  have hl : lv_has ls 5 [(0, .ref (ad 0)), (1, .int h), (2, .int on), (3, .ref (ad 31))] := hl
  refine lv_aload_n hx hb dL_order_0 rfl (lv_at hl 3 rfl) ?_
  refine lv_iconst (v := 0) hx hb dL_order_1 (by decide) ?_
  refine lv_aload_n hx hb dL_order_2 rfl (lv_at hl 0 rfl) ?_
  refine lv_iload_n hx hb dL_order_3 rfl (lv_at hl 1 rfl) ?_
  refine lv_iload_n hx hb dL_order_4 rfl (lv_at hl 2 rfl) ?_
  refine g_callVx B F P (As := [.int h, .int on]) (ct_X5_order (D := D) (ad := ad) (cy := cy) (ba := ba) l h on σ hst hC) ok5 (by decide) rfl q702 q703 q704 q1 q705 nk_X5_order rfl ⟨Nat.le_of_ble_eq_true rfl, Nat.le_of_ble_eq_true rfl⟩ hl.1 rfl (Nat.le_of_ble_eq_true rfl) dL_order_5 ⟨Nat.le_of_ble_eq_true rfl, Nat.le_of_ble_eq_true rfl⟩ (fun c0 ce q9 H locs P h1 h2 h3 => ?_) (fun c0 H locs P => ?_)
  · rw [if_neg c0] at hE
    rcases kc_order h on σ with hk | hk | hk
    · exact absurd hk c0
    · rw [hk] at h3
      simp only [hk] at hE
      refine vx_catch (name := exN 1) B.2.2.2.1 [] ⟨0, 10, 13, 13⟩ [⟨0, 10, 17, 15⟩] (hT.trans rfl) (fun z hz => absurd hz List.not_mem_nil) (by decide) (by decide) (B.2.2.2.2 _ q365) (va_Nw.use rfl (F.2.2.2.1.1 _ k376)) h1 h2 h3 ?_
      refine lv_astore (lv' := [(4, .ref q9), (0, .ref (ad 0)), (1, .int h), (2, .int on), (3, .ref (ad 31))]) hx hb dL_order_13 hl (by decide) rfl (fun ls hl => ?_)
      refine lv_iconst (v := 1) hx hb dL_order_15 (by decide) ?_
      exact g_retiw B P (by rw [← hE]; try rfl) (by rw [← hE]) hrt hlk (Nat.le_of_ble_eq_true rfl) (Nat.le_of_ble_eq_true rfl) dL_order_16
    · rw [hk] at h3
      simp only [hk] at hE
      refine vx_catch (name := exN 2) B.2.2.2.1 [⟨0, 10, 13, 13⟩] ⟨0, 10, 17, 15⟩ [] (hT.trans rfl) (fun z hz => by
        simp only [List.mem_cons, List.not_mem_nil, or_false] at hz
        rcases hz with rfl
        · exact Or.inr ⟨by decide, exN 1, B.2.2.2.2 _ q365, F.2.2.2.1.2.2 (exN 2, exN 1) (by decide +kernel)⟩) (by decide) (by decide) (B.2.2.2.2 _ q366) (va_Nw.use rfl (F.2.2.2.1.1 _ k448)) h1 h2 h3 ?_
      refine lv_astore (lv' := [(4, .ref q9), (0, .ref (ad 0)), (1, .int h), (2, .int on), (3, .ref (ad 31))]) hx hb dL_order_17 hl (by decide) rfl (fun ls hl => ?_)
      refine lv_iconst (v := 2) hx hb dL_order_19 (by decide) ?_
      exact g_retiw B P (by rw [← hE]; try rfl) (by rw [← hE]) hrt hlk (Nat.le_of_ble_eq_true rfl) (Nat.le_of_ble_eq_true rfl) dL_order_20
  rw [if_pos c0] at hE
  refine lv_i2l hx hb dL_order_8 rfl ?_
  refine g_lst B F P (by decide) rfl rfl (by unfold vp_in; decide) dL_order_9 (fun H locs P => ?_)
  refine lv_goto (tgt := 21) hx hb dL_order_10 (by decide) ?_
  refine lv_iconst (v := 0) hx hb dL_order_21 (by decide) ?_
  exact g_retiw B P (by rw [← hE]) (by rw [← hE]) hrt hlk (Nat.le_of_ble_eq_true rfl) (Nat.le_of_ble_eq_true rfl) dL_order_22
theorem kc_takeBack (h : Int32) (σ : Sg) : (f_X5_takeBack h σ).1 = 0 ∨ (f_X5_takeBack h σ).1 = 5 := by
  unfold f_X5_takeBack
  repeat' split
  all_goals try dsimp only
  all_goals (first | omega | with_reducible exact (ck_rng _ _ _ _).elim (fun h => Or.inl h) (fun h => by rw [h]; decide) | with_reducible exact (ck_train _ _).elim (fun h => Or.inl h) (fun h => by rw [h]; decide) | with_reducible exact (ck_tank _ _).elim (fun h => Or.inl h) (fun h => by rw [h]; decide) | with_reducible exact (ck_ready _ _).elim (fun h => Or.inl h) (fun h => by rw [h]; decide) | with_reducible exact (ck_slots _ _ _).elim (fun h => Or.inl h) (fun h => by rw [h]; decide) | with_reducible exact (ck_allowed _ _).elim (fun h => Or.inl h) (fun h => by rw [h]; decide))
def f_L_takeBack (h : Int32) (σ : Sg) : Int32 × Sg := if (f_X5_takeBack h σ).1 = 0 then (0, sL (f_X5_takeBack h σ).2.2 31 (Int32.toNatClampNeg 0) (if (f_X5_takeBack h σ).2.1 = 0 then 0 else 1)) else (1, (f_X5_takeBack h σ).2.2)
theorem nk_X5_takeBack : nmOk yX5_takeBack RX5 1 := ⟨rfl, by decide +kernel, by decide +kernel, by decide +kernel⟩
set_option maxHeartbeats 4000000 in
set_option maxRecDepth 100000 in
theorem cw_L_takeBack {D : va_G} {ad : Nat → Nat} {cy : Nat → ClassId} {ba : Nat} (l : Launch) (h : Int32) (σ : Sg) (hst : l.stackTraces = false) (hC : GC 99000 σ) : Cw D ad cy ba l 3 4 yL_takeBack cL_takeBack 4 (some .int) [(0, 16, 19, 83)] [.ref (ad 0), .int h, .ref (ad 31)] σ (some (.int (f_L_takeBack h σ).1)) (f_L_takeBack h σ).2 := by
  generalize hE : f_L_takeBack h σ = Z
  dsimp only [f_L_takeBack] at hE
  refine Cw.of (by decide +kernel) (Nat.le_of_ble_eq_true rfl) ?_
  intro p e s m below meth c ls B F P hrt hlk hT hl
  have hx := B.1
  have hb := B.2.1
  have hl : lv_has ls 4 [(0, .ref (ad 0)), (1, .int h), (2, .ref (ad 31))] := hl
  refine lv_aload_n hx hb dL_takeBack_0 rfl (lv_at hl 2 rfl) ?_
  refine lv_iconst (v := 0) hx hb dL_takeBack_1 (by decide) ?_
  refine lv_aload_n hx hb dL_takeBack_2 rfl (lv_at hl 0 rfl) ?_
  refine lv_iload_n hx hb dL_takeBack_3 rfl (lv_at hl 1 rfl) ?_
  refine g_callVx B F P (As := [.int h]) (ct_X5_takeBack (D := D) (ad := ad) (cy := cy) (ba := ba) l h σ hst hC) ok5 (by decide) rfl q716 q717 q718 q1 q719 nk_X5_takeBack rfl ⟨Nat.le_of_ble_eq_true rfl, Nat.le_of_ble_eq_true rfl⟩ hl.1 rfl (Nat.le_of_ble_eq_true rfl) dL_takeBack_4 ⟨Nat.le_of_ble_eq_true rfl, Nat.le_of_ble_eq_true rfl⟩ (fun c0 ce q9 H locs P h1 h2 h3 => ?_) (fun c0 H locs P => ?_)
  · rw [if_neg c0] at hE
    rcases kc_takeBack h σ with hk | hk
    · exact absurd hk c0
    · rw [hk] at h3
      refine vx_catch (name := exN 5) B.2.2.2.1 [] ⟨0, 16, 19, 83⟩ [] (hT.trans rfl) (fun z hz => absurd hz List.not_mem_nil) (by decide) (by decide) (B.2.2.2.2 _ q715) (va_Nw.use rfl (F.2.2.2.1.1 _ k722)) h1 h2 h3 ?_
      refine lv_astore_n (lv' := [(3, .ref q9), (0, .ref (ad 0)), (1, .int h), (2, .ref (ad 31))]) hx hb dL_takeBack_19 rfl hl (by decide) rfl (fun ls hl => ?_)
      refine lv_iconst (v := 1) hx hb dL_takeBack_20 (by decide) ?_
      exact g_retiw B P (by rw [← hE]; try rfl) (by rw [← hE]) hrt hlk (Nat.le_of_ble_eq_true rfl) (Nat.le_of_ble_eq_true rfl) dL_takeBack_21
  rw [if_pos c0] at hE
  refine lv_if_eq (tgt := 14) hx hb dL_takeBack_7 (by decide) (fun cb => ?_) (fun cb => ?_)
  · rw [if_pos cb] at hE
    refine lv_lconst (v := 0) hx hb dL_takeBack_14 (by decide) ?_
    refine g_lst B F P (by decide) rfl rfl (by unfold vp_in; decide) dL_takeBack_15 (fun H locs P => ?_)
    refine lv_goto (tgt := 22) hx hb dL_takeBack_16 (by decide) ?_
    refine lv_iconst (v := 0) hx hb dL_takeBack_22 (by decide) ?_
    exact g_retiw B P (by rw [← hE]) (by rw [← hE]) hrt hlk (Nat.le_of_ble_eq_true rfl) (Nat.le_of_ble_eq_true rfl) dL_takeBack_23
  · rw [if_neg cb] at hE
    refine lv_lconst (v := 1) hx hb dL_takeBack_10 (by decide) ?_
    refine lv_goto (tgt := 15) hx hb dL_takeBack_11 (by decide) ?_
    refine g_lst B F P (by decide) rfl rfl (by unfold vp_in; decide) dL_takeBack_15 (fun H locs P => ?_)
    refine lv_goto (tgt := 22) hx hb dL_takeBack_16 (by decide) ?_
    refine lv_iconst (v := 0) hx hb dL_takeBack_22 (by decide) ?_
    exact g_retiw B P (by rw [← hE]) (by rw [← hE]) hrt hlk (Nat.le_of_ble_eq_true rfl) (Nat.le_of_ble_eq_true rfl) dL_takeBack_23
theorem kc_bestCost (nh : Int32) (σ : Sg) : (f_X5_bestCost nh σ).1 = 0 ∨ (f_X5_bestCost nh σ).1 = 1 ∨ (f_X5_bestCost nh σ).1 = 5 := by
  unfold f_X5_bestCost
  repeat' split
  all_goals try dsimp only
  all_goals (first | omega | with_reducible exact (ck_rng _ _ _ _).elim (fun h => Or.inl h) (fun h => by rw [h]; decide) | with_reducible exact (ck_train _ _).elim (fun h => Or.inl h) (fun h => by rw [h]; decide) | with_reducible exact (ck_tank _ _).elim (fun h => Or.inl h) (fun h => by rw [h]; decide) | with_reducible exact (ck_ready _ _).elim (fun h => Or.inl h) (fun h => by rw [h]; decide) | with_reducible exact (ck_slots _ _ _).elim (fun h => Or.inl h) (fun h => by rw [h]; decide) | with_reducible exact (ck_allowed _ _).elim (fun h => Or.inl h) (fun h => by rw [h]; decide))
def f_L_bestCost (nh : Int32) (σ : Sg) : Int32 × Sg := if (f_X5_bestCost nh σ).1 = 0 then (0, sL (f_X5_bestCost nh σ).2.2 31 (Int32.toNatClampNeg 0) (f_X5_bestCost nh σ).2.1.toInt64) else ((if (f_X5_bestCost nh σ).1 = 1 then 1 else 2), (f_X5_bestCost nh σ).2.2)
theorem nk_X5_bestCost : nmOk yX5_bestCost RX5 1 := ⟨rfl, by decide +kernel, by decide +kernel, by decide +kernel⟩
set_option maxHeartbeats 4000000 in
set_option maxRecDepth 100000 in
theorem cw_L_bestCost {D : va_G} {ad : Nat → Nat} {cy : Nat → ClassId} {ba : Nat} (l : Launch) (nh : Int32) (σ : Sg) (hst : l.stackTraces = false) (hC : GC 99000 σ) : Cw D ad cy ba l 14 4 yL_bestCost cL_bestCost 4 (some .int) [(0, 9, 12, 13), (0, 9, 15, 83)] [.ref (ad 0), .int nh, .ref (ad 31)] σ (some (.int (f_L_bestCost nh σ).1)) (f_L_bestCost nh σ).2 := by
  generalize hE : f_L_bestCost nh σ = Z
  dsimp only [f_L_bestCost] at hE
  refine Cw.of (by decide +kernel) (Nat.le_of_ble_eq_true rfl) ?_
  intro p e s m below meth c ls B F P hrt hlk hT hl
  have hx := B.1
  have hb := B.2.1
  have hl : lv_has ls 4 [(0, .ref (ad 0)), (1, .int nh), (2, .ref (ad 31))] := hl
  refine lv_aload_n hx hb dL_bestCost_0 rfl (lv_at hl 2 rfl) ?_
  refine lv_iconst (v := 0) hx hb dL_bestCost_1 (by decide) ?_
  refine lv_aload_n hx hb dL_bestCost_2 rfl (lv_at hl 0 rfl) ?_
  refine lv_iload_n hx hb dL_bestCost_3 rfl (lv_at hl 1 rfl) ?_
  refine g_callVx B F P (As := [.int nh]) (ct_X5_bestCost (D := D) (ad := ad) (cy := cy) (ba := ba) l nh σ hst hC) ok5 (by decide) rfl q739 q740 q741 q1 q742 nk_X5_bestCost rfl ⟨Nat.le_of_ble_eq_true rfl, Nat.le_of_ble_eq_true rfl⟩ hl.1 rfl (Nat.le_of_ble_eq_true rfl) dL_bestCost_4 ⟨Nat.le_of_ble_eq_true rfl, Nat.le_of_ble_eq_true rfl⟩ (fun c0 ce q9 H locs P h1 h2 h3 => ?_) (fun c0 H locs P => ?_)
  · rw [if_neg c0] at hE
    rcases kc_bestCost nh σ with hk | hk | hk
    · exact absurd hk c0
    · rw [hk] at h3
      simp only [hk] at hE
      refine vx_catch (name := exN 1) B.2.2.2.1 [] ⟨0, 9, 12, 13⟩ [⟨0, 9, 15, 83⟩] (hT.trans rfl) (fun z hz => absurd hz List.not_mem_nil) (by decide) (by decide) (B.2.2.2.2 _ q365) (va_Nw.use rfl (F.2.2.2.1.1 _ k376)) h1 h2 h3 ?_
      refine lv_astore_n (lv' := [(3, .ref q9), (0, .ref (ad 0)), (1, .int nh), (2, .ref (ad 31))]) hx hb dL_bestCost_12 rfl hl (by decide) rfl (fun ls hl => ?_)
      refine lv_iconst (v := 1) hx hb dL_bestCost_13 (by decide) ?_
      exact g_retiw B P (by rw [← hE]; try rfl) (by rw [← hE]) hrt hlk (Nat.le_of_ble_eq_true rfl) (Nat.le_of_ble_eq_true rfl) dL_bestCost_14
    · rw [hk] at h3
      simp only [hk] at hE
      refine vx_catch (name := exN 5) B.2.2.2.1 [⟨0, 9, 12, 13⟩] ⟨0, 9, 15, 83⟩ [] (hT.trans rfl) (fun z hz => by
        simp only [List.mem_cons, List.not_mem_nil, or_false] at hz
        rcases hz with rfl
        · exact Or.inr ⟨by decide, exN 1, B.2.2.2.2 _ q365, F.2.2.2.1.2.2 (exN 5, exN 1) (by decide +kernel)⟩) (by decide) (by decide) (B.2.2.2.2 _ q715) (va_Nw.use rfl (F.2.2.2.1.1 _ k722)) h1 h2 h3 ?_
      refine lv_astore_n (lv' := [(3, .ref q9), (0, .ref (ad 0)), (1, .int nh), (2, .ref (ad 31))]) hx hb dL_bestCost_15 rfl hl (by decide) rfl (fun ls hl => ?_)
      refine lv_iconst (v := 2) hx hb dL_bestCost_16 (by decide) ?_
      exact g_retiw B P (by rw [← hE]; try rfl) (by rw [← hE]) hrt hlk (Nat.le_of_ble_eq_true rfl) (Nat.le_of_ble_eq_true rfl) dL_bestCost_17
  rw [if_pos c0] at hE
  refine lv_i2l hx hb dL_bestCost_7 rfl ?_
  refine g_lst B F P (by decide) rfl rfl (by unfold vp_in; decide) dL_bestCost_8 (fun H locs P => ?_)
  refine lv_goto (tgt := 18) hx hb dL_bestCost_9 (by decide) ?_
  refine lv_iconst (v := 0) hx hb dL_bestCost_18 (by decide) ?_
  exact g_retiw B P (by rw [← hE]) (by rw [← hE]) hrt hlk (Nat.le_of_ble_eq_true rfl) (Nat.le_of_ble_eq_true rfl) dL_bestCost_19
theorem kl_bestCostByTrying (nh : Int32) : ∀ (n : Nat) (x y : Int32) (σ : Sg), (f_X5_bestCostByTrying_l28 nh n x y σ).1 = 0 ∨ (f_X5_bestCostByTrying_l28 nh n x y σ).1 = 1 ∨ (f_X5_bestCostByTrying_l28 nh n x y σ).1 = 5
  | 0, _, _, _ => Or.inl rfl
  | n + 1, x, y, σ => by
    unfold f_X5_bestCostByTrying_l28
    repeat' split
    all_goals try dsimp only
    all_goals (first | omega | with_reducible exact (ck_rng _ _ _ _).elim (fun h => Or.inl h) (fun h => by rw [h]; decide) | with_reducible exact (ck_train _ _).elim (fun h => Or.inl h) (fun h => by rw [h]; decide) | with_reducible exact (ck_tank _ _).elim (fun h => Or.inl h) (fun h => by rw [h]; decide) | with_reducible exact (ck_ready _ _).elim (fun h => Or.inl h) (fun h => by rw [h]; decide) | with_reducible exact (ck_slots _ _ _).elim (fun h => Or.inl h) (fun h => by rw [h]; decide) | with_reducible exact (ck_allowed _ _).elim (fun h => Or.inl h) (fun h => by rw [h]; decide) | with_reducible exact kl_bestCostByTrying nh n _ _ _)
theorem kc_bestCostByTrying (nh : Int32) (σ : Sg) : (f_X5_bestCostByTrying nh σ).1 = 0 ∨ (f_X5_bestCostByTrying nh σ).1 = 1 ∨ (f_X5_bestCostByTrying nh σ).1 = 5 := by
  unfold f_X5_bestCostByTrying
  split
  · with_reducible exact kl_bestCostByTrying nh _ _ _ _
  all_goals try dsimp only
  all_goals (first | omega | with_reducible exact (ck_rng _ _ _ _).elim (fun h => Or.inl h) (fun h => by rw [h]; decide) | with_reducible exact (ck_train _ _).elim (fun h => Or.inl h) (fun h => by rw [h]; decide) | with_reducible exact (ck_tank _ _).elim (fun h => Or.inl h) (fun h => by rw [h]; decide) | with_reducible exact (ck_ready _ _).elim (fun h => Or.inl h) (fun h => by rw [h]; decide) | with_reducible exact (ck_slots _ _ _).elim (fun h => Or.inl h) (fun h => by rw [h]; decide) | with_reducible exact (ck_allowed _ _).elim (fun h => Or.inl h) (fun h => by rw [h]; decide))
def f_L_bestCostByTrying (nh : Int32) (σ : Sg) : Int32 × Sg := if (f_X5_bestCostByTrying nh σ).1 = 0 then (0, sL (f_X5_bestCostByTrying nh σ).2.2 31 (Int32.toNatClampNeg 0) (f_X5_bestCostByTrying nh σ).2.1.toInt64) else ((if (f_X5_bestCostByTrying nh σ).1 = 1 then 1 else 2), (f_X5_bestCostByTrying nh σ).2.2)
theorem nk_X5_bestCostByTrying : nmOk yX5_bestCostByTrying RX5 1 := ⟨rfl, by decide +kernel, by decide +kernel, by decide +kernel⟩
set_option maxHeartbeats 4000000 in
set_option maxRecDepth 100000 in
theorem cw_L_bestCostByTrying {D : va_G} {ad : Nat → Nat} {cy : Nat → ClassId} {ba : Nat} (l : Launch) (nh : Int32) (σ : Sg) (hst : l.stackTraces = false) (hC : GC 99000 σ) : Cw D ad cy ba l 6 4 yL_bestCostByTrying cL_bestCostByTrying 4 (some .int) [(0, 9, 12, 13), (0, 9, 15, 83)] [.ref (ad 0), .int nh, .ref (ad 31)] σ (some (.int (f_L_bestCostByTrying nh σ).1)) (f_L_bestCostByTrying nh σ).2 := by
  generalize hE : f_L_bestCostByTrying nh σ = Z
  dsimp only [f_L_bestCostByTrying] at hE
  refine Cw.of (by decide +kernel) (Nat.le_of_ble_eq_true rfl) ?_
  intro p e s m below meth c ls B F P hrt hlk hT hl
  have hx := B.1
  have hb := B.2.1
  have hl : lv_has ls 4 [(0, .ref (ad 0)), (1, .int nh), (2, .ref (ad 31))] := hl
  refine lv_aload_n hx hb dL_bestCostByTrying_0 rfl (lv_at hl 2 rfl) ?_
  refine lv_iconst (v := 0) hx hb dL_bestCostByTrying_1 (by decide) ?_
  refine lv_aload_n hx hb dL_bestCostByTrying_2 rfl (lv_at hl 0 rfl) ?_
  refine lv_iload_n hx hb dL_bestCostByTrying_3 rfl (lv_at hl 1 rfl) ?_
  refine g_callVx B F P (As := [.int nh]) (ct_X5_bestCostByTrying (D := D) (ad := ad) (cy := cy) (ba := ba) l nh σ hst hC) ok5 (by decide) rfl q750 q751 q752 q1 q753 nk_X5_bestCostByTrying rfl ⟨Nat.le_of_ble_eq_true rfl, Nat.le_of_ble_eq_true rfl⟩ hl.1 rfl (Nat.le_of_ble_eq_true rfl) dL_bestCostByTrying_4 ⟨Nat.le_of_ble_eq_true rfl, Nat.le_of_ble_eq_true rfl⟩ (fun c0 ce q9 H locs P h1 h2 h3 => ?_) (fun c0 H locs P => ?_)
  · rw [if_neg c0] at hE
    rcases kc_bestCostByTrying nh σ with hk | hk | hk
    · exact absurd hk c0
    · rw [hk] at h3
      simp only [hk] at hE
      refine vx_catch (name := exN 1) B.2.2.2.1 [] ⟨0, 9, 12, 13⟩ [⟨0, 9, 15, 83⟩] (hT.trans rfl) (fun z hz => absurd hz List.not_mem_nil) (by decide) (by decide) (B.2.2.2.2 _ q365) (va_Nw.use rfl (F.2.2.2.1.1 _ k376)) h1 h2 h3 ?_
      refine lv_astore_n (lv' := [(3, .ref q9), (0, .ref (ad 0)), (1, .int nh), (2, .ref (ad 31))]) hx hb dL_bestCostByTrying_12 rfl hl (by decide) rfl (fun ls hl => ?_)
      refine lv_iconst (v := 1) hx hb dL_bestCostByTrying_13 (by decide) ?_
      exact g_retiw B P (by rw [← hE]; try rfl) (by rw [← hE]) hrt hlk (Nat.le_of_ble_eq_true rfl) (Nat.le_of_ble_eq_true rfl) dL_bestCostByTrying_14
    · rw [hk] at h3
      simp only [hk] at hE
      refine vx_catch (name := exN 5) B.2.2.2.1 [⟨0, 9, 12, 13⟩] ⟨0, 9, 15, 83⟩ [] (hT.trans rfl) (fun z hz => by
        simp only [List.mem_cons, List.not_mem_nil, or_false] at hz
        rcases hz with rfl
        · exact Or.inr ⟨by decide, exN 1, B.2.2.2.2 _ q365, F.2.2.2.1.2.2 (exN 5, exN 1) (by decide +kernel)⟩) (by decide) (by decide) (B.2.2.2.2 _ q715) (va_Nw.use rfl (F.2.2.2.1.1 _ k722)) h1 h2 h3 ?_
      refine lv_astore_n (lv' := [(3, .ref q9), (0, .ref (ad 0)), (1, .int nh), (2, .ref (ad 31))]) hx hb dL_bestCostByTrying_15 rfl hl (by decide) rfl (fun ls hl => ?_)
      refine lv_iconst (v := 2) hx hb dL_bestCostByTrying_16 (by decide) ?_
      exact g_retiw B P (by rw [← hE]; try rfl) (by rw [← hE]) hrt hlk (Nat.le_of_ble_eq_true rfl) (Nat.le_of_ble_eq_true rfl) dL_bestCostByTrying_17
  rw [if_pos c0] at hE
  refine lv_i2l hx hb dL_bestCostByTrying_7 rfl ?_
  refine g_lst B F P (by decide) rfl rfl (by unfold vp_in; decide) dL_bestCostByTrying_8 (fun H locs P => ?_)
  refine lv_goto (tgt := 18) hx hb dL_bestCostByTrying_9 (by decide) ?_
  refine lv_iconst (v := 0) hx hb dL_bestCostByTrying_18 (by decide) ?_
  exact g_retiw B P (by rw [← hE]) (by rw [← hE]) hrt hlk (Nat.le_of_ble_eq_true rfl) (Nat.le_of_ble_eq_true rfl) dL_bestCostByTrying_19
theorem kc_isOnInBest (nh : Int32) (i : Int32) (σ : Sg) : (f_X5_isOnInBest nh i σ).1 = 0 ∨ (f_X5_isOnInBest nh i σ).1 = 1 ∨ (f_X5_isOnInBest nh i σ).1 = 3 ∨ (f_X5_isOnInBest nh i σ).1 = 5 := by
  unfold f_X5_isOnInBest
  repeat' split
  all_goals try dsimp only
  all_goals (first | omega | with_reducible exact (ck_rng _ _ _ _).elim (fun h => Or.inl h) (fun h => by rw [h]; decide) | with_reducible exact (ck_train _ _).elim (fun h => Or.inl h) (fun h => by rw [h]; decide) | with_reducible exact (ck_tank _ _).elim (fun h => Or.inl h) (fun h => by rw [h]; decide) | with_reducible exact (ck_ready _ _).elim (fun h => Or.inl h) (fun h => by rw [h]; decide) | with_reducible exact (ck_slots _ _ _).elim (fun h => Or.inl h) (fun h => by rw [h]; decide) | with_reducible exact (ck_allowed _ _).elim (fun h => Or.inl h) (fun h => by rw [h]; decide))
def f_L_isOnInBest (nh : Int32) (i : Int32) (σ : Sg) : Int32 × Sg := if (f_X5_isOnInBest nh i σ).1 = 0 then (0, sL (f_X5_isOnInBest nh i σ).2.2 31 (Int32.toNatClampNeg 0) (if (f_X5_isOnInBest nh i σ).2.1 = 0 then 0 else 1)) else ((if (f_X5_isOnInBest nh i σ).1 = 1 then 1 else (if (f_X5_isOnInBest nh i σ).1 = 3 then 2 else 3)), (f_X5_isOnInBest nh i σ).2.2)
theorem nk_X5_isOnInBest : nmOk yX5_isOnInBest RX5 2 := ⟨rfl, by decide +kernel, by decide +kernel, by decide +kernel⟩
set_option maxHeartbeats 4000000 in
set_option maxRecDepth 100000 in
theorem cw_L_isOnInBest {D : va_G} {ad : Nat → Nat} {cy : Nat → ClassId} {ba : Nat} (l : Launch) (nh : Int32) (i : Int32) (σ : Sg) (hst : l.stackTraces = false) (hC : GC 99000 σ) : Cw D ad cy ba l 14 4 yL_isOnInBest cL_isOnInBest 5 (some .int) [(0, 17, 20, 13), (0, 17, 24, 21), (0, 17, 28, 83)] [.ref (ad 0), .int nh, .int i, .ref (ad 31)] σ (some (.int (f_L_isOnInBest nh i σ).1)) (f_L_isOnInBest nh i σ).2 := by
  generalize hE : f_L_isOnInBest nh i σ = Z
  dsimp only [f_L_isOnInBest] at hE
  refine Cw.of (by decide +kernel) (Nat.le_of_ble_eq_true rfl) ?_
  intro p e s m below meth c ls B F P hrt hlk hT hl
  have hx := B.1
  have hb := B.2.1
  have hl : lv_has ls 5 [(0, .ref (ad 0)), (1, .int nh), (2, .int i), (3, .ref (ad 31))] := hl
  refine lv_aload_n hx hb dL_isOnInBest_0 rfl (lv_at hl 3 rfl) ?_
  refine lv_iconst (v := 0) hx hb dL_isOnInBest_1 (by decide) ?_
  refine lv_aload_n hx hb dL_isOnInBest_2 rfl (lv_at hl 0 rfl) ?_
  refine lv_iload_n hx hb dL_isOnInBest_3 rfl (lv_at hl 1 rfl) ?_
  refine lv_iload_n hx hb dL_isOnInBest_4 rfl (lv_at hl 2 rfl) ?_
  refine g_callVx B F P (As := [.int nh, .int i]) (ct_X5_isOnInBest (D := D) (ad := ad) (cy := cy) (ba := ba) l nh i σ hst hC) ok5 (by decide) rfl q764 q765 q766 q1 q767 nk_X5_isOnInBest rfl ⟨Nat.le_of_ble_eq_true rfl, Nat.le_of_ble_eq_true rfl⟩ hl.1 rfl (Nat.le_of_ble_eq_true rfl) dL_isOnInBest_5 ⟨Nat.le_of_ble_eq_true rfl, Nat.le_of_ble_eq_true rfl⟩ (fun c0 ce q9 H locs P h1 h2 h3 => ?_) (fun c0 H locs P => ?_)
  · rw [if_neg c0] at hE
    rcases kc_isOnInBest nh i σ with hk | hk | hk | hk
    · exact absurd hk c0
    · rw [hk] at h3
      simp only [hk] at hE
      refine vx_catch (name := exN 1) B.2.2.2.1 [] ⟨0, 17, 20, 13⟩ [⟨0, 17, 24, 21⟩, ⟨0, 17, 28, 83⟩] (hT.trans rfl) (fun z hz => absurd hz List.not_mem_nil) (by decide) (by decide) (B.2.2.2.2 _ q365) (va_Nw.use rfl (F.2.2.2.1.1 _ k376)) h1 h2 h3 ?_
      refine lv_astore (lv' := [(4, .ref q9), (0, .ref (ad 0)), (1, .int nh), (2, .int i), (3, .ref (ad 31))]) hx hb dL_isOnInBest_20 hl (by decide) rfl (fun ls hl => ?_)
      refine lv_iconst (v := 1) hx hb dL_isOnInBest_22 (by decide) ?_
      exact g_retiw B P (by rw [← hE]; try rfl) (by rw [← hE]) hrt hlk (Nat.le_of_ble_eq_true rfl) (Nat.le_of_ble_eq_true rfl) dL_isOnInBest_23
    · rw [hk] at h3
      simp only [hk] at hE
      refine vx_catch (name := exN 3) B.2.2.2.1 [⟨0, 17, 20, 13⟩] ⟨0, 17, 24, 21⟩ [⟨0, 17, 28, 83⟩] (hT.trans rfl) (fun z hz => by
        simp only [List.mem_cons, List.not_mem_nil, or_false] at hz
        rcases hz with rfl
        · exact Or.inr ⟨by decide, exN 1, B.2.2.2.2 _ q365, F.2.2.2.1.2.2 (exN 3, exN 1) (by decide +kernel)⟩) (by decide) (by decide) (B.2.2.2.2 _ q465) (va_Nw.use rfl (F.2.2.2.1.1 _ k499)) h1 h2 h3 ?_
      refine lv_astore (lv' := [(4, .ref q9), (0, .ref (ad 0)), (1, .int nh), (2, .int i), (3, .ref (ad 31))]) hx hb dL_isOnInBest_24 hl (by decide) rfl (fun ls hl => ?_)
      refine lv_iconst (v := 2) hx hb dL_isOnInBest_26 (by decide) ?_
      exact g_retiw B P (by rw [← hE]; try rfl) (by rw [← hE]) hrt hlk (Nat.le_of_ble_eq_true rfl) (Nat.le_of_ble_eq_true rfl) dL_isOnInBest_27
    · rw [hk] at h3
      simp only [hk] at hE
      refine vx_catch (name := exN 5) B.2.2.2.1 [⟨0, 17, 20, 13⟩, ⟨0, 17, 24, 21⟩] ⟨0, 17, 28, 83⟩ [] (hT.trans rfl) (fun z hz => by
        simp only [List.mem_cons, List.not_mem_nil, or_false] at hz
        rcases hz with rfl | rfl
        · exact Or.inr ⟨by decide, exN 1, B.2.2.2.2 _ q365, F.2.2.2.1.2.2 (exN 5, exN 1) (by decide +kernel)⟩
        · exact Or.inr ⟨by decide, exN 3, B.2.2.2.2 _ q465, F.2.2.2.1.2.2 (exN 5, exN 3) (by decide +kernel)⟩) (by decide) (by decide) (B.2.2.2.2 _ q715) (va_Nw.use rfl (F.2.2.2.1.1 _ k722)) h1 h2 h3 ?_
      refine lv_astore (lv' := [(4, .ref q9), (0, .ref (ad 0)), (1, .int nh), (2, .int i), (3, .ref (ad 31))]) hx hb dL_isOnInBest_28 hl (by decide) rfl (fun ls hl => ?_)
      refine lv_iconst (v := 3) hx hb dL_isOnInBest_30 (by decide) ?_
      exact g_retiw B P (by rw [← hE]; try rfl) (by rw [← hE]) hrt hlk (Nat.le_of_ble_eq_true rfl) (Nat.le_of_ble_eq_true rfl) dL_isOnInBest_31
  rw [if_pos c0] at hE
  refine lv_if_eq (tgt := 15) hx hb dL_isOnInBest_8 (by decide) (fun cb => ?_) (fun cb => ?_)
  · rw [if_pos cb] at hE
    refine lv_lconst (v := 0) hx hb dL_isOnInBest_15 (by decide) ?_
    refine g_lst B F P (by decide) rfl rfl (by unfold vp_in; decide) dL_isOnInBest_16 (fun H locs P => ?_)
    refine lv_goto (tgt := 32) hx hb dL_isOnInBest_17 (by decide) ?_
    refine lv_iconst (v := 0) hx hb dL_isOnInBest_32 (by decide) ?_
    exact g_retiw B P (by rw [← hE]) (by rw [← hE]) hrt hlk (Nat.le_of_ble_eq_true rfl) (Nat.le_of_ble_eq_true rfl) dL_isOnInBest_33
  · rw [if_neg cb] at hE
    refine lv_lconst (v := 1) hx hb dL_isOnInBest_11 (by decide) ?_
    refine lv_goto (tgt := 16) hx hb dL_isOnInBest_12 (by decide) ?_
    refine g_lst B F P (by decide) rfl rfl (by unfold vp_in; decide) dL_isOnInBest_16 (fun H locs P => ?_)
    refine lv_goto (tgt := 32) hx hb dL_isOnInBest_17 (by decide) ?_
    refine lv_iconst (v := 0) hx hb dL_isOnInBest_32 (by decide) ?_
    exact g_retiw B P (by rw [← hE]) (by rw [← hE]) hrt hlk (Nat.le_of_ble_eq_true rfl) (Nat.le_of_ble_eq_true rfl) dL_isOnInBest_33
theorem kl_allowedSchedules (nh : Int32) : ∀ (n : Nat) (x y : Int32) (σ : Sg), (f_X5_allowedSchedules_l27 nh n x y σ).1 = 0 ∨ (f_X5_allowedSchedules_l27 nh n x y σ).1 = 1
  | 0, _, _, _ => Or.inl rfl
  | n + 1, x, y, σ => by
    unfold f_X5_allowedSchedules_l27
    repeat' split
    all_goals try dsimp only
    all_goals (first | omega | with_reducible exact (ck_rng _ _ _ _).elim (fun h => Or.inl h) (fun h => by rw [h]; decide) | with_reducible exact (ck_train _ _).elim (fun h => Or.inl h) (fun h => by rw [h]; decide) | with_reducible exact (ck_tank _ _).elim (fun h => Or.inl h) (fun h => by rw [h]; decide) | with_reducible exact (ck_ready _ _).elim (fun h => Or.inl h) (fun h => by rw [h]; decide) | with_reducible exact (ck_slots _ _ _).elim (fun h => Or.inl h) (fun h => by rw [h]; decide) | with_reducible exact (ck_allowed _ _).elim (fun h => Or.inl h) (fun h => by rw [h]; decide) | with_reducible exact kl_allowedSchedules nh n _ _ _)
theorem kc_allowedSchedules (nh : Int32) (σ : Sg) : (f_X5_allowedSchedules nh σ).1 = 0 ∨ (f_X5_allowedSchedules nh σ).1 = 1 := by
  unfold f_X5_allowedSchedules
  split
  · with_reducible exact kl_allowedSchedules nh _ _ _ _
  all_goals try dsimp only
  all_goals (first | omega | with_reducible exact (ck_rng _ _ _ _).elim (fun h => Or.inl h) (fun h => by rw [h]; decide) | with_reducible exact (ck_train _ _).elim (fun h => Or.inl h) (fun h => by rw [h]; decide) | with_reducible exact (ck_tank _ _).elim (fun h => Or.inl h) (fun h => by rw [h]; decide) | with_reducible exact (ck_ready _ _).elim (fun h => Or.inl h) (fun h => by rw [h]; decide) | with_reducible exact (ck_slots _ _ _).elim (fun h => Or.inl h) (fun h => by rw [h]; decide) | with_reducible exact (ck_allowed _ _).elim (fun h => Or.inl h) (fun h => by rw [h]; decide))
def f_L_allowedSchedules (nh : Int32) (σ : Sg) : Int32 × Sg := if (f_X5_allowedSchedules nh σ).1 = 0 then (0, sL (f_X5_allowedSchedules nh σ).2.2 31 (Int32.toNatClampNeg 0) (f_X5_allowedSchedules nh σ).2.1.toInt64) else (1, (f_X5_allowedSchedules nh σ).2.2)
theorem nk_X5_allowedSchedules : nmOk yX5_allowedSchedules RX5 1 := ⟨rfl, by decide +kernel, by decide +kernel, by decide +kernel⟩
set_option maxHeartbeats 4000000 in
set_option maxRecDepth 100000 in
theorem cw_L_allowedSchedules {D : va_G} {ad : Nat → Nat} {cy : Nat → ClassId} {ba : Nat} (l : Launch) (nh : Int32) (σ : Sg) (hst : l.stackTraces = false) (hC : GC 99000 σ) : Cw D ad cy ba l 6 4 yL_allowedSchedules cL_allowedSchedules 4 (some .int) [(0, 9, 12, 13)] [.ref (ad 0), .int nh, .ref (ad 31)] σ (some (.int (f_L_allowedSchedules nh σ).1)) (f_L_allowedSchedules nh σ).2 := by
  generalize hE : f_L_allowedSchedules nh σ = Z
  dsimp only [f_L_allowedSchedules] at hE
  refine Cw.of (by decide +kernel) (Nat.le_of_ble_eq_true rfl) ?_
  intro p e s m below meth c ls B F P hrt hlk hT hl
  have hx := B.1
  have hb := B.2.1
  have hl : lv_has ls 4 [(0, .ref (ad 0)), (1, .int nh), (2, .ref (ad 31))] := hl
  refine lv_aload_n hx hb dL_allowedSchedules_0 rfl (lv_at hl 2 rfl) ?_
  refine lv_iconst (v := 0) hx hb dL_allowedSchedules_1 (by decide) ?_
  refine lv_aload_n hx hb dL_allowedSchedules_2 rfl (lv_at hl 0 rfl) ?_
  refine lv_iload_n hx hb dL_allowedSchedules_3 rfl (lv_at hl 1 rfl) ?_
  refine g_callVx B F P (As := [.int nh]) (ct_X5_allowedSchedules (D := D) (ad := ad) (cy := cy) (ba := ba) l nh σ hst hC) ok5 (by decide) rfl q772 q773 q774 q1 q775 nk_X5_allowedSchedules rfl ⟨Nat.le_of_ble_eq_true rfl, Nat.le_of_ble_eq_true rfl⟩ hl.1 rfl (Nat.le_of_ble_eq_true rfl) dL_allowedSchedules_4 ⟨Nat.le_of_ble_eq_true rfl, Nat.le_of_ble_eq_true rfl⟩ (fun c0 ce q9 H locs P h1 h2 h3 => ?_) (fun c0 H locs P => ?_)
  · rw [if_neg c0] at hE
    rcases kc_allowedSchedules nh σ with hk | hk
    · exact absurd hk c0
    · rw [hk] at h3
      refine vx_catch (name := exN 1) B.2.2.2.1 [] ⟨0, 9, 12, 13⟩ [] (hT.trans rfl) (fun z hz => absurd hz List.not_mem_nil) (by decide) (by decide) (B.2.2.2.2 _ q365) (va_Nw.use rfl (F.2.2.2.1.1 _ k376)) h1 h2 h3 ?_
      refine lv_astore_n (lv' := [(3, .ref q9), (0, .ref (ad 0)), (1, .int nh), (2, .ref (ad 31))]) hx hb dL_allowedSchedules_12 rfl hl (by decide) rfl (fun ls hl => ?_)
      refine lv_iconst (v := 1) hx hb dL_allowedSchedules_13 (by decide) ?_
      exact g_retiw B P (by rw [← hE]; try rfl) (by rw [← hE]) hrt hlk (Nat.le_of_ble_eq_true rfl) (Nat.le_of_ble_eq_true rfl) dL_allowedSchedules_14
  rw [if_pos c0] at hE
  refine lv_i2l hx hb dL_allowedSchedules_7 rfl ?_
  refine g_lst B F P (by decide) rfl rfl (by unfold vp_in; decide) dL_allowedSchedules_8 (fun H locs P => ?_)
  refine lv_goto (tgt := 15) hx hb dL_allowedSchedules_9 (by decide) ?_
  refine lv_iconst (v := 0) hx hb dL_allowedSchedules_15 (by decide) ?_
  exact g_retiw B P (by rw [← hE]) (by rw [← hE]) hrt hlk (Nat.le_of_ble_eq_true rfl) (Nat.le_of_ble_eq_true rfl) dL_allowedSchedules_16
theorem kc_servedShare  (σ : Sg) : (f_X5_servedShare σ).1 = 0 ∨ (f_X5_servedShare σ).1 = 6 := by
  unfold f_X5_servedShare
  repeat' split
  all_goals try dsimp only
  all_goals (first | omega | with_reducible exact (ck_rng _ _ _ _).elim (fun h => Or.inl h) (fun h => by rw [h]; decide) | with_reducible exact (ck_train _ _).elim (fun h => Or.inl h) (fun h => by rw [h]; decide) | with_reducible exact (ck_tank _ _).elim (fun h => Or.inl h) (fun h => by rw [h]; decide) | with_reducible exact (ck_ready _ _).elim (fun h => Or.inl h) (fun h => by rw [h]; decide) | with_reducible exact (ck_slots _ _ _).elim (fun h => Or.inl h) (fun h => by rw [h]; decide) | with_reducible exact (ck_allowed _ _).elim (fun h => Or.inl h) (fun h => by rw [h]; decide))
def f_L_servedShare  (σ : Sg) : Int32 × Sg := if (f_X5_servedShare σ).1 = 0 then (0, sD σ 32 (Int32.toNatClampNeg 0) (FP.f2d (f_X5_servedShare σ).2)) else (1, σ)
theorem nk_X5_servedShare : nmOk yX5_servedShare RX5 0 := ⟨rfl, by decide +kernel, by decide +kernel, by decide +kernel⟩
set_option maxHeartbeats 4000000 in
set_option maxRecDepth 100000 in
theorem cw_L_servedShare {D : va_G} {ad : Nat → Nat} {cy : Nat → ClassId} {ba : Nat} (l : Launch)  (σ : Sg) (hst : l.stackTraces = false) : Cw D ad cy ba l 1 4 yL_servedShare cL_servedShare 3 (some .int) [(0, 8, 11, 102)] [.ref (ad 0), .ref (ad 32)] σ (some (.int (f_L_servedShare  σ).1)) (f_L_servedShare  σ).2 := by
  generalize hE : f_L_servedShare  σ = Z
  dsimp only [f_L_servedShare] at hE
  refine Cw.of (by decide +kernel) (Nat.le_of_ble_eq_true rfl) ?_
  intro p e s m below meth c ls B F P hrt hlk hT hl
  have hx := B.1
  have hb := B.2.1
  have hl : lv_has ls 3 [(0, .ref (ad 0)), (1, .ref (ad 32))] := hl
  refine lv_aload_n hx hb dL_servedShare_0 rfl (lv_at hl 1 rfl) ?_
  refine lv_iconst (v := 0) hx hb dL_servedShare_1 (by decide) ?_
  refine lv_aload_n hx hb dL_servedShare_2 rfl (lv_at hl 0 rfl) ?_
  refine g_callVx B F P (As := []) (ct_X5_servedShare (D := D) (ad := ad) (cy := cy) (ba := ba) l  σ hst) ok5 (by decide) rfl q793 q794 q795 q1 q796 nk_X5_servedShare rfl ⟨Nat.le_of_ble_eq_true rfl, Nat.le_of_ble_eq_true rfl⟩ hl.1 rfl (Nat.le_of_ble_eq_true rfl) dL_servedShare_3 ⟨Nat.le_of_ble_eq_true rfl, Nat.le_of_ble_eq_true rfl⟩ (fun c0 ce q9 H locs P h1 h2 h3 => ?_) (fun c0 H locs P => ?_)
  · rw [if_neg c0] at hE
    rcases kc_servedShare  σ with hk | hk
    · exact absurd hk c0
    · rw [hk] at h3
      refine vx_catch (name := exN 6) B.2.2.2.1 [] ⟨0, 8, 11, 102⟩ [] (hT.trans rfl) (fun z hz => absurd hz List.not_mem_nil) (by decide) (by decide) (B.2.2.2.2 _ q779) (va_Nw.use rfl (F.2.2.2.1.1 _ k791)) h1 h2 h3 ?_
      refine lv_astore_n (lv' := [(2, .ref q9), (0, .ref (ad 0)), (1, .ref (ad 32))]) hx hb dL_servedShare_11 rfl hl (by decide) rfl (fun ls hl => ?_)
      refine lv_iconst (v := 1) hx hb dL_servedShare_12 (by decide) ?_
      exact g_retiw B P (by rw [← hE]; try rfl) (by rw [← hE]) hrt hlk (Nat.le_of_ble_eq_true rfl) (Nat.le_of_ble_eq_true rfl) dL_servedShare_13
  rw [if_pos c0] at hE
  refine lv_f2d hx hb dL_servedShare_6 (n64_f2d (ss_nan c0)) ?_
  refine g_dst B F P (by decide) rfl rfl (by unfold vp_in; decide) dL_servedShare_7 (fun H locs P => ?_)
  refine lv_goto (tgt := 14) hx hb dL_servedShare_8 (by decide) ?_
  refine lv_iconst (v := 0) hx hb dL_servedShare_14 (by decide) ?_
  exact g_retiw B P (by rw [← hE]) (by rw [← hE]) hrt hlk (Nat.le_of_ble_eq_true rfl) (Nat.le_of_ble_eq_true rfl) dL_servedShare_15
theorem kc_meanCost  (σ : Sg) : (f_X5_meanCost σ).1 = 0 ∨ (f_X5_meanCost σ).1 = 6 := by
  unfold f_X5_meanCost
  repeat' split
  all_goals try dsimp only
  all_goals (first | omega | with_reducible exact (ck_rng _ _ _ _).elim (fun h => Or.inl h) (fun h => by rw [h]; decide) | with_reducible exact (ck_train _ _).elim (fun h => Or.inl h) (fun h => by rw [h]; decide) | with_reducible exact (ck_tank _ _).elim (fun h => Or.inl h) (fun h => by rw [h]; decide) | with_reducible exact (ck_ready _ _).elim (fun h => Or.inl h) (fun h => by rw [h]; decide) | with_reducible exact (ck_slots _ _ _).elim (fun h => Or.inl h) (fun h => by rw [h]; decide) | with_reducible exact (ck_allowed _ _).elim (fun h => Or.inl h) (fun h => by rw [h]; decide))
def f_L_meanCost  (σ : Sg) : Int32 × Sg := if (f_X5_meanCost σ).1 = 0 then (0, sD σ 32 (Int32.toNatClampNeg 0) (f_X5_meanCost σ).2) else (1, σ)
theorem nk_X5_meanCost : nmOk yX5_meanCost RX5 0 := ⟨rfl, by decide +kernel, by decide +kernel, by decide +kernel⟩
set_option maxHeartbeats 4000000 in
set_option maxRecDepth 100000 in
theorem cw_L_meanCost {D : va_G} {ad : Nat → Nat} {cy : Nat → ClassId} {ba : Nat} (l : Launch)  (σ : Sg) (hst : l.stackTraces = false) : Cw D ad cy ba l 1 4 yL_meanCost cL_meanCost 3 (some .int) [(0, 7, 10, 102)] [.ref (ad 0), .ref (ad 32)] σ (some (.int (f_L_meanCost  σ).1)) (f_L_meanCost  σ).2 := by
  generalize hE : f_L_meanCost  σ = Z
  dsimp only [f_L_meanCost] at hE
  refine Cw.of (by decide +kernel) (Nat.le_of_ble_eq_true rfl) ?_
  intro p e s m below meth c ls B F P hrt hlk hT hl
  have hx := B.1
  have hb := B.2.1
  have hl : lv_has ls 3 [(0, .ref (ad 0)), (1, .ref (ad 32))] := hl
  refine lv_aload_n hx hb dL_meanCost_0 rfl (lv_at hl 1 rfl) ?_
  refine lv_iconst (v := 0) hx hb dL_meanCost_1 (by decide) ?_
  refine lv_aload_n hx hb dL_meanCost_2 rfl (lv_at hl 0 rfl) ?_
  refine g_callVx B F P (As := []) (ct_X5_meanCost (D := D) (ad := ad) (cy := cy) (ba := ba) l  σ hst) ok5 (by decide) rfl q803 q804 q805 q1 q806 nk_X5_meanCost rfl ⟨Nat.le_of_ble_eq_true rfl, Nat.le_of_ble_eq_true rfl⟩ hl.1 rfl (Nat.le_of_ble_eq_true rfl) dL_meanCost_3 ⟨Nat.le_of_ble_eq_true rfl, Nat.le_of_ble_eq_true rfl⟩ (fun c0 ce q9 H locs P h1 h2 h3 => ?_) (fun c0 H locs P => ?_)
  · rw [if_neg c0] at hE
    rcases kc_meanCost  σ with hk | hk
    · exact absurd hk c0
    · rw [hk] at h3
      refine vx_catch (name := exN 6) B.2.2.2.1 [] ⟨0, 7, 10, 102⟩ [] (hT.trans rfl) (fun z hz => absurd hz List.not_mem_nil) (by decide) (by decide) (B.2.2.2.2 _ q779) (va_Nw.use rfl (F.2.2.2.1.1 _ k791)) h1 h2 h3 ?_
      refine lv_astore_n (lv' := [(2, .ref q9), (0, .ref (ad 0)), (1, .ref (ad 32))]) hx hb dL_meanCost_10 rfl hl (by decide) rfl (fun ls hl => ?_)
      refine lv_iconst (v := 1) hx hb dL_meanCost_11 (by decide) ?_
      exact g_retiw B P (by rw [← hE]; try rfl) (by rw [← hE]) hrt hlk (Nat.le_of_ble_eq_true rfl) (Nat.le_of_ble_eq_true rfl) dL_meanCost_12
  rw [if_pos c0] at hE
  refine g_dst B F P (by decide) rfl rfl (by unfold vp_in; decide) dL_meanCost_6 (fun H locs P => ?_)
  refine lv_goto (tgt := 13) hx hb dL_meanCost_7 (by decide) ?_
  refine lv_iconst (v := 0) hx hb dL_meanCost_13 (by decide) ?_
  exact g_retiw B P (by rw [← hE]) (by rw [← hE]) hrt hlk (Nat.le_of_ble_eq_true rfl) (Nat.le_of_ble_eq_true rfl) dL_meanCost_14
