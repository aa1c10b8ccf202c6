/-! ROWS over the world: an instruction each -/
def sC (σ : Sg) (i0 i1 n : Nat) : Sg := sA σ i1 (va_cpy (σ.1 i0) (σ.1 i1) 0 0 n)
theorem rI_sC (σ : Sg) (i0 i1 n i' j' : Nat) : rI (sC σ i0 i1 n) i' j' = if i' = i1 then (if j' < n then rI σ i0 j' else rI σ i1 j') else rI σ i' j' := by
  unfold sC
  rw [rI_sA]
  by_cases h : i' = i1
  · rw [if_pos h, if_pos h]
    unfold va_cpy rI
    by_cases h2 : j' < n
    · rw [if_pos h2, if_pos (by omega), show 0 + (j' - 0) = j' by omega]
    · rw [if_neg h2, if_neg (by omega)]
  · rw [if_neg h, if_neg h]
theorem rL_sC (σ : Sg) (i0 i1 n i' j' : Nat) : rL (sC σ i0 i1 n) i' j' = rL σ i' j' := rfl
theorem rD_sC (σ : Sg) (i0 i1 n i' j' : Nat) : rD (sC σ i0 i1 n) i' j' = rD σ i' j' := rfl
section GROWS
variable {p : Program} {l : Launch} {e : Env} {R : Room} {s : State} {m : MethodId} {args : Array Value} {below : List Frame} {meth : Method} {c : Code} {H : Heap} {locs : List Loc} {cells slots : Nat} {Q : State → Prop}
variable {cc : ByteArray} {nL pc : Nat} {own : String} {ls : Array Slot} {rest : List Value} {D : va_G} {ad : Nat → Nat} {cy : Nat → ClassId} {ba : Nat} {σ : Sg}
theorem cls_lt {ci : Nat} {C : String} {T : u_T} {N : Nat} (o : clsOk ci C T N) : ci < 7 := (List.getElem?_eq_some_iff.mp o.1).1
theorem g_geti (B : CallFix p m c cc nL s args AW own) (F : Fx D ad cy ba s) (P : Wo D ad cy ba s σ H locs) {i ci k index N : Nat} {C : String} {T : u_T} (o : clsOk ci C T N) (hi : i < 81) (hk : kd i = ci) (hs : sk ci k = 0) (hN : nf ci = N) (hkN : k < N) (q : Cond.fieldLink own index (T k).1 (T k).2.1 (T k).2.2.1 ∈ AW) (d : decode cc pc = .ok (.getfield index, 3))
    (kk : W p l e R s m args below meth c H locs cells slots Q (F0 m (pc + 3) ls (.int (rI σ i k) :: rest))) : W p l e R s m args below meth c H locs cells slots Q (F0 m pc ls (.ref (ad i) :: rest)) := by
  obtain ⟨hx, hb, -, hown, hts⟩ := B
  exact va_get (D := D) (v := .int (rI σ i k)) hx hb hts o.2.1 hown F.1 P.1 i ((WD_get hi).trans (by rw [enc_obj hk (cls_lt o)])) o.1 k hkN (hts _ q) (fun _ h => h) (by rw [encO_get (by rw [hk, hN]; exact hkN), hk]; unfold encS; rw [if_pos hs]) d kk
theorem g_getl (B : CallFix p m c cc nL s args AW own) (F : Fx D ad cy ba s) (P : Wo D ad cy ba s σ H locs) {i ci k index N : Nat} {C : String} {T : u_T} (o : clsOk ci C T N) (hi : i < 81) (hk : kd i = ci) (hs : sk ci k = 1) (hN : nf ci = N) (hkN : k < N) (q : Cond.fieldLink own index (T k).1 (T k).2.1 (T k).2.2.1 ∈ AW) (d : decode cc pc = .ok (.getfield index, 3))
    (kk : W p l e R s m args below meth c H locs cells slots Q (F0 m (pc + 3) ls (.long (rL σ i k) :: rest))) : W p l e R s m args below meth c H locs cells slots Q (F0 m pc ls (.ref (ad i) :: rest)) := by
  obtain ⟨hx, hb, -, hown, hts⟩ := B
  exact va_get (D := D) (v := .long (rL σ i k)) hx hb hts o.2.1 hown F.1 P.1 i ((WD_get hi).trans (by rw [enc_obj hk (cls_lt o)])) o.1 k hkN (hts _ q) (fun _ h => h) (by rw [encO_get (by rw [hk, hN]; exact hkN), hk, hs]; rfl) d kk
theorem g_getr (B : CallFix p m c cc nL s args AW own) (F : Fx D ad cy ba s) (P : Wo D ad cy ba s σ H locs) {i ci k index N t : Nat} {C : String} {T : u_T} (o : clsOk ci C T N) (hi : i < 81) (hk : kd i = ci) (hs : sk ci k = 2) (hN : nf ci = N) (hkN : k < N) (ht : tg i k = t) (q : Cond.fieldLink own index (T k).1 (T k).2.1 (T k).2.2.1 ∈ AW) (d : decode cc pc = .ok (.getfield index, 3))
    (kk : W p l e R s m args below meth c H locs cells slots Q (F0 m (pc + 3) ls (.ref (ad t) :: rest))) : W p l e R s m args below meth c H locs cells slots Q (F0 m pc ls (.ref (ad i) :: rest)) := by
  obtain ⟨hx, hb, -, hown, hts⟩ := B
  subst ht
  exact va_get (D := D) (v := .ref (ad (tg i k))) hx hb hts o.2.1 hown F.1 P.1 i ((WD_get hi).trans (by rw [enc_obj hk (cls_lt o)])) o.1 k hkN (hts _ q) (fun _ h => h) (by rw [encO_get (by rw [hk, hN]; exact hkN), hk, hs]; rfl) d kk
theorem encO_len {i ci N : Nat} (hk : kd i = ci) (hN : nf ci = N) : (encO ad σ i).length = N := by
  subst hk; subst hN
  unfold encO
  rw [List.length_map, List.length_range]
theorem g_puti (B : CallFix p m c cc nL s args AW own) (F : Fx D ad cy ba s) (P : Wo D ad cy ba s σ H locs) {i ci k index N : Nat} {C : String} {T : u_T} {v : Int32} (o : clsOk ci C T N) (hi : i < 81) (hk : kd i = ci) (hs : sk ci k = 0) (hN : nf ci = N) (hkN : k < N) (hfin : (T k).2.2.2 = false) (hd : parseFieldDescriptor (T k).2.2.1 = some .int) (q : Cond.fieldLink own index (T k).1 (T k).2.1 (T k).2.2.1 ∈ AW) (d : decode cc pc = .ok (.putfield index, 3))
    (kk : ∀ (H : Heap) (locs : List Loc), Wo D ad cy ba s (sI σ i k v) H locs → W p l e R s m args below meth c H locs cells slots Q (F0 m (pc + 3) ls rest)) : W p l e R s m args below meth c H locs cells slots Q (F0 m pc ls (.int v :: .ref (ad i) :: rest)) := by
  obtain ⟨hx, hb, -, hown, hts⟩ := B
  obtain ⟨ty, hty, hnm⟩ := o.2.2
  refine va_put (D := D) (v := .int v) (ty := .int) hx hb hts o.2.1 ty hty hnm hown F.1 P.1 F.D P.2 i ((WD_get hi).trans (by rw [enc_obj hk (cls_lt o)])) o.1 k hkN (hts _ q) (fun _ h => h) hfin hd rfl rfl (by rw [encO_len hk hN]; exact hkN) d (fun H1 locs1 hP hD hS => ?_)
  rw [WD_sI hk (cls_lt o) hs] at hP
  exact kk H1 locs1 ⟨hP, hS⟩
theorem g_putl (B : CallFix p m c cc nL s args AW own) (F : Fx D ad cy ba s) (P : Wo D ad cy ba s σ H locs) {i ci k index N : Nat} {C : String} {T : u_T} {v : Int64} (o : clsOk ci C T N) (hi : i < 81) (hk : kd i = ci) (hs : sk ci k = 1) (hN : nf ci = N) (hkN : k < N) (hfin : (T k).2.2.2 = false) (hd : parseFieldDescriptor (T k).2.2.1 = some .long) (q : Cond.fieldLink own index (T k).1 (T k).2.1 (T k).2.2.1 ∈ AW) (d : decode cc pc = .ok (.putfield index, 3))
    (kk : ∀ (H : Heap) (locs : List Loc), Wo D ad cy ba s (sL σ i k v) H locs → W p l e R s m args below meth c H locs cells slots Q (F0 m (pc + 3) ls rest)) : W p l e R s m args below meth c H locs cells slots Q (F0 m pc ls (.long v :: .ref (ad i) :: rest)) := by
  obtain ⟨hx, hb, -, hown, hts⟩ := B
  obtain ⟨ty, hty, hnm⟩ := o.2.2
  refine va_put (D := D) (v := .long v) (ty := .long) hx hb hts o.2.1 ty hty hnm hown F.1 P.1 F.D P.2 i ((WD_get hi).trans (by rw [enc_obj hk (cls_lt o)])) o.1 k hkN (hts _ q) (fun _ h => h) hfin hd rfl rfl (by rw [encO_len hk hN]; exact hkN) d (fun H1 locs1 hP hD hS => ?_)
  rw [WD_sL hk (cls_lt o) hs] at hP
  exact kk H1 locs1 ⟨hP, hS⟩
theorem g_ild (B : CallFix p m c cc nL s args AW own) (F : Fx D ad cy ba s) (P : Wo D ad cy ba s σ H locs) {i n : Nat} {x : Int32} (hi : i < 81) (hk : kd i = 7) (hn : ln i = n) (hin : vp_in x n) (d : decode cc pc = .ok (.iaload, 1))
    (kk : W p l e R s m args below meth c H locs cells slots Q (F0 m (pc + 1) ls (.int (rI σ i x.toNatClampNeg) :: rest))) : W p l e R s m args below meth c H locs cells slots Q (F0 m pc ls (.int x :: .ref (ad i) :: rest)) := by
  obtain ⟨hx, hb, -, hown, hts⟩ := B
  exact va_iald (f := σ.1 i) hx hb F.1 P.1 i 0 ((WD_get hi).trans (by rw [enc_ia hk (Or.inl rfl) hn])) rfl hin d kk
theorem g_zld (B : CallFix p m c cc nL s args AW own) (F : Fx D ad cy ba s) (P : Wo D ad cy ba s σ H locs) {i n : Nat} {x : Int32} (hi : i < 81) (hk : kd i = 8) (hn : ln i = n) (hin : vp_in x n) (d : decode cc pc = .ok (.baload, 1))
    (kk : W p l e R s m args below meth c H locs cells slots Q (F0 m (pc + 1) ls (.int (rI σ i x.toNatClampNeg) :: rest))) : W p l e R s m args below meth c H locs cells slots Q (F0 m pc ls (.int x :: .ref (ad i) :: rest)) := by
  obtain ⟨hx, hb, -, hown, hts⟩ := B
  exact va_zald (f := σ.1 i) hx hb F.1 P.1 i 1 ((WD_get hi).trans (by rw [enc_ia hk (Or.inr rfl) hn])) rfl hin d kk
theorem g_lld (B : CallFix p m c cc nL s args AW own) (F : Fx D ad cy ba s) (P : Wo D ad cy ba s σ H locs) {i n : Nat} {x : Int32} (hi : i < 81) (hk : kd i = 9) (hn : ln i = n) (hin : vp_in x n) (d : decode cc pc = .ok (.laload, 1))
    (kk : W p l e R s m args below meth c H locs cells slots Q (F0 m (pc + 1) ls (.long (rL σ i x.toNatClampNeg) :: rest))) : W p l e R s m args below meth c H locs cells slots Q (F0 m pc ls (.int x :: .ref (ad i) :: rest)) := by
  obtain ⟨hx, hb, -, hown, hts⟩ := B
  exact va_lald (f := σ.2.1 i) hx hb F.1 P.1 i 2 ((WD_get hi).trans (by rw [enc_la hk hn])) rfl hin d kk
theorem g_dld (B : CallFix p m c cc nL s args AW own) (F : Fx D ad cy ba s) (P : Wo D ad cy ba s σ H locs) {i n : Nat} {x : Int32} (hi : i < 81) (hk : kd i = 10) (hn : ln i = n) (hin : vp_in x n) (d : decode cc pc = .ok (.daload, 1))
    (kk : W p l e R s m args below meth c H locs cells slots Q (F0 m (pc + 1) ls (.double (rD σ i x.toNatClampNeg) :: rest))) : W p l e R s m args below meth c H locs cells slots Q (F0 m pc ls (.int x :: .ref (ad i) :: rest)) := by
  obtain ⟨hx, hb, -, hown, hts⟩ := B
  exact va_dald (f := σ.2.2 i) hx hb F.1 P.1 i 3 ((WD_get hi).trans (by rw [enc_da hk hn])) rfl hin d kk
theorem g_ist (B : CallFix p m c cc nL s args AW own) (F : Fx D ad cy ba s) (P : Wo D ad cy ba s σ H locs) {i n : Nat} {x v : Int32} (hi : i < 81) (hk : kd i = 7) (hn : ln i = n) (hin : vp_in x n) (d : decode cc pc = .ok (.iastore, 1))
    (kk : ∀ (H : Heap) (locs : List Loc), Wo D ad cy ba s (sI σ i x.toNatClampNeg v) H locs → W p l e R s m args below meth c H locs cells slots Q (F0 m (pc + 1) ls rest)) : W p l e R s m args below meth c H locs cells slots Q (F0 m pc ls (.int v :: .int x :: .ref (ad i) :: rest)) := by
  obtain ⟨hx, hb, -, hown, hts⟩ := B
  refine va_iast hx hb F.1 P.1 F.D P.2 i 0 ((WD_get hi).trans (by rw [enc_ia hk (Or.inl rfl) hn])) rfl hin d (fun H1 locs1 hP hD hS => ?_)
  rw [WD_sIa hk (Or.inl rfl) hn] at hP
  exact kk H1 locs1 ⟨hP, hS⟩
theorem g_zst (B : CallFix p m c cc nL s args AW own) (F : Fx D ad cy ba s) (P : Wo D ad cy ba s σ H locs) {i n : Nat} {x v : Int32} (hi : i < 81) (hk : kd i = 8) (hn : ln i = n) (hin : vp_in x n) (hv : vp_nar .boolean v = v) (d : decode cc pc = .ok (.bastore, 1))
    (kk : ∀ (H : Heap) (locs : List Loc), Wo D ad cy ba s (sI σ i x.toNatClampNeg v) H locs → W p l e R s m args below meth c H locs cells slots Q (F0 m (pc + 1) ls rest)) : W p l e R s m args below meth c H locs cells slots Q (F0 m pc ls (.int v :: .int x :: .ref (ad i) :: rest)) := by
  obtain ⟨hx, hb, -, hown, hts⟩ := B
  refine va_zast hx hb F.1 P.1 F.D P.2 i 1 ((WD_get hi).trans (by rw [enc_ia hk (Or.inr rfl) hn])) rfl hin d (fun H1 locs1 hP hD hS => ?_)
  rw [hv, WD_sIa hk (Or.inr rfl) hn] at hP
  exact kk H1 locs1 ⟨hP, hS⟩
theorem g_lst (B : CallFix p m c cc nL s args AW own) (F : Fx D ad cy ba s) (P : Wo D ad cy ba s σ H locs) {i n : Nat} {x : Int32} {v : Int64} (hi : i < 81) (hk : kd i = 9) (hn : ln i = n) (hin : vp_in x n) (d : decode cc pc = .ok (.lastore, 1))
    (kk : ∀ (H : Heap) (locs : List Loc), Wo D ad cy ba s (sL σ i x.toNatClampNeg v) H locs → W p l e R s m args below meth c H locs cells slots Q (F0 m (pc + 1) ls rest)) : W p l e R s m args below meth c H locs cells slots Q (F0 m pc ls (.long v :: .int x :: .ref (ad i) :: rest)) := by
  obtain ⟨hx, hb, -, hown, hts⟩ := B
  refine va_last hx hb F.1 P.1 F.D P.2 i 2 ((WD_get hi).trans (by rw [enc_la hk hn])) rfl hin d (fun H1 locs1 hP hD hS => ?_)
  rw [WD_sLa hk hn] at hP
  exact kk H1 locs1 ⟨hP, hS⟩
theorem g_dst (B : CallFix p m c cc nL s args AW own) (F : Fx D ad cy ba s) (P : Wo D ad cy ba s σ H locs) {i n : Nat} {x : Int32} {v : UInt64} (hi : i < 81) (hk : kd i = 10) (hn : ln i = n) (hin : vp_in x n) (d : decode cc pc = .ok (.dastore, 1))
    (kk : ∀ (H : Heap) (locs : List Loc), Wo D ad cy ba s (sD σ i x.toNatClampNeg v) H locs → W p l e R s m args below meth c H locs cells slots Q (F0 m (pc + 1) ls rest)) : W p l e R s m args below meth c H locs cells slots Q (F0 m pc ls (.double v :: .int x :: .ref (ad i) :: rest)) := by
  obtain ⟨hx, hb, -, hown, hts⟩ := B
  refine va_dast hx hb F.1 P.1 F.D P.2 i 3 ((WD_get hi).trans (by rw [enc_da hk hn])) rfl hin d (fun H1 locs1 hP hD hS => ?_)
  rw [WD_sDa hk hn] at hP
  exact kk H1 locs1 ⟨hP, hS⟩
theorem g_rld (B : CallFix p m c cc nL s args AW own) (F : Fx D ad cy ba s) (P : Wo D ad cy ba s σ H locs) {i ci n t : Nat} {x : Int32} (hi : i < 81) (hk : kd i = ci) (hc : ci = 11 ∨ ci = 12) (hn : ln i = n) (hin : vp_in x n) (ht : ta i x.toNatClampNeg = t) (d : decode cc pc = .ok (.aaload, 1))
    (kk : W p l e R s m args below meth c H locs cells slots Q (F0 m (pc + 1) ls (.ref (ad t) :: rest))) : W p l e R s m args below meth c H locs cells slots Q (F0 m pc ls (.int x :: .ref (ad i) :: rest)) := by
  obtain ⟨hx, hb, -, hown, hts⟩ := B
  subst ht
  have hlt : x.toNatClampNeg < n := Nat.not_le.mp fun q => hin (Or.inr q)
  have he : (WD ad cy σ)[i]? = some (ad i, .inl (cy ci, n, .inr (.inr (.inr (.inr (fun j => if j < n then some (ad (ta i j)) else none)))))) := (WD_get hi).trans (by rw [enc_ra hk (by omega) hn])
  have hv : va_rf (if x.toNatClampNeg < n then some (ad (ta i x.toNatClampNeg)) else none) = .ref (ad (ta i x.toNatClampNeg)) := by rw [if_pos hlt]; rfl
  rw [← hv] at kk
  rcases hc with rfl | rfl
  · exact va_aldq hx hb F.1 P.1 i 4 he rfl hin d kk
  · exact W.aald (v := va_rf (if x.toNatClampNeg < n then some (ad (ta i x.toNatClampNeg)) else none)) (ty := .array .int) hx hb (P.1 i _ he) ((F.1.2 5 _ rfl).1 n (fun j => va_rf (if j < n then some (ad (ta i j)) else none))) rfl (fun q => by cases q) (by show ¬ (x < 0 ∨ (arrV _ _ _).slots.size ≤ _); rw [arrV_size]; exact hin) (by show (arrV _ _ _).slots[_]? = _; rw [arrV_read _ _ hlt]) rfl rfl d kk
theorem g_alen (B : CallFix p m c cc nL s args AW own) (F : Fx D ad cy ba s) (P : Wo D ad cy ba s σ H locs) {i n : Nat} {v : Int32} (hi : i < 81) (hk : kd i = 7) (hn : ln i = n) (hv : Int32.ofNat n = v) (d : decode cc pc = .ok (.arraylength, 1))
    (kk : W p l e R s m args below meth c H locs cells slots Q (F0 m (pc + 1) ls (.int v :: rest))) : W p l e R s m args below meth c H locs cells slots Q (F0 m pc ls (.ref (ad i) :: rest)) := by
  obtain ⟨hx, hb, -, hown, hts⟩ := B
  exact va_alen hx hb F.1 P.1 i 0 ((WD_get hi).trans (by rw [enc_ia hk (Or.inl rfl) hn])) rfl hv d kk
theorem g_copy (B : CallFix p m c cc nL s args AW own) (F : Fx D ad cy ba s) (P : Wo D ad cy ba s σ H locs) (hl : ls.size = nL) {i0 i1 n0 n1 n index : Nat} {x : Int32} (h0 : i0 < 81) (h1 : i1 < 81) (k0 : kd i0 = 7) (k1 : kd i1 = 7) (l0 : ln i0 = n0) (l1 : ln i1 = n1) (hx0 : ¬ x < 0) (hxn : x.toNatClampNeg = n) (b0 : n ≤ n0) (b1 : n ≤ n1)
    (q1 : Cond.methodLink own index arraycopyName ∈ AW) (q2 : Cond.native arraycopyName ∈ AW) (q3 : Cond.static arraycopyName ∈ AW) (q4 : Cond.initialized "java/lang/System" ∈ AW) (hframes : 1 ≤ R.frames) (hlocals : (rest.map fun v => v.category).sum + (nativeFrameWords "java/lang/System" "arraycopy" 5 + 11) ≤ R.locals) (d : decode cc pc = .ok (.invokestatic index, 3))
    (kk : ∀ (H : Heap) (locs : List Loc), Wo D ad cy ba s (sC σ i0 i1 n) H locs → W p l e R s m args below meth c H locs cells slots Q (F0 m (pc + 3) ls rest)) : W p l e R s m args below meth c H locs cells slots Q (F0 m pc ls (.int x :: .int 0 :: .ref (ad i1) :: .int 0 :: .ref (ad i0) :: rest)) := by
  obtain ⟨hx, hb, hml, hown, hts⟩ := B
  subst hxn
  refine va_copyi hx hb (hml.trans hl.symm) hown (hts _ q1) (hts _ q2) (hts _ q3) (hts _ q4) F.1 P.1 F.D P.2 i0 i1 0 0 ((WD_get h0).trans (by rw [enc_ia k0 (Or.inl rfl) l0])) ((WD_get h1).trans (by rw [enc_ia k1 (Or.inl rfl) l1])) rfl rfl rfl (by decide) (by decide) hx0 (by show 0 + _ ≤ _; omega) (by show 0 + _ ≤ _; omega) (fun _ _ => rfl) hframes hlocals d (fun H1 locs1 hP hD hS => ?_)
  rw [WD_sA k1 (Or.inl rfl) l1] at hP
  exact kk H1 locs1 ⟨hP, hS⟩
theorem g_min (B : CallFix p m c cc nL s args AW own) (hl : ls.size = nL) {index : Nat} {x y : Int32} (q1 : Cond.methodLink own index Lib.Math.min.name ∈ AW) (q2 : Cond.static Lib.Math.min.name ∈ AW) (q3 : Cond.initialized "java/lang/Math" ∈ AW) (q4 : Cond.code Lib.Math.min.name Lib.Math.min.code 2 (some .int) ∈ AW) (hframes : 1 ≤ R.frames) (hlocals : (rest.map fun v => v.category).sum + 13 ≤ R.locals) (hc : cells ≤ R.cells) (hs : slots ≤ R.slots) (d : decode cc pc = .ok (.invokestatic index, 3))
    (kk : W p l e R s m args below meth c H locs cells slots Q (F0 m (pc + 3) ls (.int (if y < x then y else x) :: rest))) : W p l e R s m args below meth c H locs cells slots Q (F0 m pc ls (.int y :: .int x :: rest)) := by
  obtain ⟨hx, hb, hml, hown, hts⟩ := B
  exact va_mmin hx hb (hml.trans hl.symm) hown (hts _ q1) (hts _ q2) (hts _ q3) (hts _ q4) hframes hlocals hc hs d kk
theorem g_max (B : CallFix p m c cc nL s args AW own) (hl : ls.size = nL) {index : Nat} {x y : Int32} (q1 : Cond.methodLink own index Lib.Math.max.name ∈ AW) (q2 : Cond.static Lib.Math.max.name ∈ AW) (q3 : Cond.initialized "java/lang/Math" ∈ AW) (q4 : Cond.code Lib.Math.max.name Lib.Math.max.code 2 (some .int) ∈ AW) (hframes : 1 ≤ R.frames) (hlocals : (rest.map fun v => v.category).sum + 13 ≤ R.locals) (hc : cells ≤ R.cells) (hs : slots ≤ R.slots) (d : decode cc pc = .ok (.invokestatic index, 3))
    (kk : W p l e R s m args below meth c H locs cells slots Q (F0 m (pc + 3) ls (.int (if x < y then y else x) :: rest))) : W p l e R s m args below meth c H locs cells slots Q (F0 m pc ls (.int y :: .int x :: rest)) := by
  obtain ⟨hx, hb, hml, hown, hts⟩ := B
  exact va_mmax hx hb (hml.trans hl.symm) hown (hts _ q1) (hts _ q2) (hts _ q3) (hts _ q4) hframes hlocals hc hs d kk
theorem g_ldc (B : CallFix p m c cc nL s args AW own) {index : Nat} {v : Int32} (q : Cond.constant own index v ∈ AW) (d : decode cc pc = .ok (.ldc index, 2)) (kk : W p l e R s m args below meth c H locs cells slots Q (F0 m (pc + 2) ls (.int v :: rest))) : W p l e R s m args below meth c H locs cells slots Q (F0 m pc ls rest) := by
  obtain ⟨hx, hb, -, hown, hts⟩ := B
  exact lv_ldc hx hb hown (hts _ q) d kk
theorem g_ldc2 (B : CallFix p m c cc nL s args AW own) {index : Nat} {v : Int64} (q : Cond.constantLong own index v ∈ AW) (d : decode cc pc = .ok (.ldc2_w index, 3)) (kk : W p l e R s m args below meth c H locs cells slots Q (F0 m (pc + 3) ls (.long v :: rest))) : W p l e R s m args below meth c H locs cells slots Q (F0 m pc ls rest) := by
  obtain ⟨hx, hb, -, hown, hts⟩ := B
  exact lv_ldc2 hx hb hown (hts _ q) d kk
theorem g_recv (F : Fx D ad cy ba s) (P : Wo D ad cy ba s σ H locs) {i ci N : Nat} {C : String} {T : u_T} (o : clsOk ci C T N) (hi : i < 81) (hk : kd i = ci) : ∃ cell : Cell, H[ad i]? = some cell ∧ cell.vm.isStatics = false ∧ s.vm.findClass C = some cell.cls :=
  va_recv F.1 P.1 o.1 ((WD_get hi).trans (by rw [enc_obj hk (cls_lt o)]))
/-- behind a call: the world that the contract tells -/
theorem g_call {σ' : Sg} {v : Option Value} {a : Array Value} {mc ms : Nat} {st0 : List Value} (P : Wo D ad cy ba s σ H locs) (hr : va_Run p l e R s m args below meth c H locs cells slots mc ms (F0 m pc ls st0) rest (Qe D ad cy ba v σ' a) (fun q => ba ≤ q))
    (kk : ∀ (H : Heap) (locs : List Loc), Wo D ad cy ba s σ' H locs → W p l e R s m args below meth c H locs (cells + mc) (slots + ms) Q (F0 m (pc + 3) ls (v.toList ++ rest))) : W p l e R s m args below meth c H locs cells slots Q (F0 m pc ls st0) := by
  intro T hT X
  obtain ⟨v', st₀, t, T', L, h0, X', hL, e1, e2, ⟨⟨hv, hp⟩, hz, hk⟩, st⟩ := hr T hT X
  cases hv
  rw [h0] at hz hk
  obtain ⟨t2, a1, b1⟩ := kk T'.heap (locs ++ L) ⟨by rw [e1]; exact hp, Nat.le_trans P.2.1 (by rw [e1]; exact hz), fun q h1 h2 => by rw [e1, hk q (Nat.lt_of_lt_of_le h1 P.2.1) h2]; exact P.2.2.1 q h1 h2, fun q hq => by
      rcases List.mem_append.mp hq with h | h
      · exact P.2.2.2 q h
      · exact hL q h⟩ T' rfl X'
  exact ⟨t2, st t2 a1, b1⟩
/-- .. that may throw -/
theorem g_callx {σ' : Sg} {k : Nat} {v : Option Value} {a : Array Value} {mc ms : Nat} {st0 : List Value} (P : Wo D ad cy ba s σ H locs) (hr : vx_Run p l e R s m args below meth c H locs cells slots mc ms (F0 m pc ls st0) rest (Qx D ad cy ba k v σ' a) (Xx D ad cy ba k σ') (fun q => ba ≤ q))
    (kx : k ≠ 0 → ∀ (ce : Cell) (q9 : Addr) (H : Heap) (locs : List Loc), Wo D ad cy ba s σ' H locs → H[q9]? = some ce → ce.vm = .none → s.vm.findClass (exN k) = some ce.cls → vx_W p l e R s m args below meth c H locs (cells + mc) (slots + ms) Q (F0 m pc ls rest) q9)
    (kk : k = 0 → ∀ (H : Heap) (locs : List Loc), Wo D ad cy ba s σ' H locs → W p l e R s m args below meth c H locs (cells + mc) (slots + ms) Q (F0 m (pc + 3) ls (v.toList ++ rest))) : W p l e R s m args below meth c H locs cells slots Q (F0 m pc ls st0) := by
  intro T hT X
  have kp : ∀ {T' t st₀ : State} {L : List Loc}, st₀.heap = H → T'.heap = t.heap → (∀ q ∈ L, ba ≤ q.base) → va_P D cls7 (WD ad cy σ') t.heap → va_F (fun q => ba ≤ q) st₀ t → Wo D ad cy ba s σ' T'.heap (locs ++ L) := by
    intro T' t st₀ L h0 e1 hL hp ⟨hz, hk⟩
    rw [h0] at hz hk
    exact ⟨by rw [e1]; exact hp, Nat.le_trans P.2.1 (by rw [e1]; exact hz), fun q h1 h2 => by rw [e1, hk q (Nat.lt_of_lt_of_le h1 P.2.1) h2]; exact P.2.2.1 q h1 h2, fun q hq => by
      rcases List.mem_append.mp hq with h | h
      · exact P.2.2.2 q h
      · exact hL q h⟩
  rcases hr T hT X with ⟨v', st₀, t, T', L, h0, X', hL, e1, e2, ⟨⟨h9, hv, hp⟩, hF⟩, st⟩ | ⟨q, st₀, t, T', L, E, ce, h0, X', hL, e1, e2, ⟨⟨h9, hE, hp⟩, hF⟩, hce, hcv, hcl, st⟩
  · cases hv
    obtain ⟨t2, a1, b1⟩ := kk h9 T'.heap (locs ++ L) (kp h0 e1 hL hp hF) T' rfl X'
    exact ⟨t2, st t2 a1, b1⟩
  · subst hE
    obtain ⟨t2, a1, b1⟩ := kx h9 ce q T'.heap (locs ++ L) (kp h0 e1 hL hp hF) (by rw [e1]; exact hce) hcv hcl T' rfl X'
    exact ⟨t2, st.trans a1, b1⟩
theorem good_in {ws : List Cond} (h : ∀ w ∈ ws, w ∈ AW) : GoodIn AW ws := fun w hw => ⟨h w hw, good_of_word (AW_good (h w hw))⟩
theorem good_V {index : Nat} {C : String} {y : MethodName} {bytes : ByteArray} {n : Nat} {ret : Option FieldType} (q1 : Cond.methodLink own index y ∈ AW) (q2 : Cond.instanceMethod y ∈ AW) (q3 : Cond.selects C y y ∈ AW) (q4 : Cond.initialized C ∈ AW) (q5 : Cond.code y bytes n ret ∈ AW) : GoodIn AW (wsV own index C y (ws_ y bytes n ret)) := good_in (fun w hw => by
  unfold wsV ws_ at hw
  simp only [List.cons_append, List.nil_append, List.mem_cons] at hw
  rcases hw with rfl | rfl | rfl | rfl | rfl | h
  · exact q1
  · exact q2
  · exact q3
  · exact q4
  · exact q5
  · exact h)
theorem good_S {index : Nat} {y : MethodName} {bytes : ByteArray} {n : Nat} {ret : Option FieldType} (q1 : Cond.methodLink own index y ∈ AW) (q2 : Cond.static y ∈ AW) (q4 : Cond.initialized y.cls ∈ AW) (q5 : Cond.code y bytes n ret ∈ AW) : GoodIn AW (va_wsS own index y (ws_ y bytes n ret)) := good_in (fun w hw => by
  unfold va_wsS ws_ at hw
  simp only [List.cons_append, List.nil_append, List.mem_cons] at hw
  rcases hw with rfl | rfl | rfl | rfl | h
  · exact q1
  · exact q2
  · exact q4
  · exact q5
  · exact h)
/-- what a method's name must be for a call of n arguments -/
def nmOk (y : MethodName) (C : String) (n : Nat) : Prop := y.cls = C ∧ y.cls ≠ "java/lang/invoke/MethodHandle" ∧ y.cls ≠ "java/lang/invoke/VarHandle" ∧ (parseMethodDescriptor y.desc).map (fun d => d.parameters.length) = some n
theorem g_callV (B : CallFix p m c cc nL s args AW own) (F : Fx D ad cy ba s) (P : Wo D ad cy ba s σ H locs) {d maxL index i ci N n : Nat} {C : String} {T : u_T} {y : MethodName} {bytes : ByteArray} {ret : Option FieldType} {As : List Value} {v : Option Value} {σ' : Sg} {st0 : List Value}
    (hM : Ct D ad cy ba l d y bytes maxL ret (.ref (ad i) :: As) σ v σ') (o : clsOk ci C T N) (hi : i < 81) (hk : kd i = ci) (q1 : Cond.methodLink own index y ∈ AW) (q2 : Cond.instanceMethod y ∈ AW) (q3 : Cond.selects C y y ∈ AW) (q4 : Cond.initialized C ∈ AW) (q5 : Cond.code y bytes maxL ret ∈ AW) (hy : nmOk y C n) (hn : As.length = n)
    (hR : 10 + d + 1 ≤ R.frames ∧ 8 + (maxL + 11) + (200 + 40 * d) ≤ R.locals) (hl : ls.size = nL) (hst : st0 = As.reverse ++ .ref (ad i) :: rest) (hw : (rest.map fun v => v.category).sum ≤ 8) (dg : decode cc pc = .ok (.invokevirtual index, 3)) (hf : cells ≤ R.cells ∧ slots ≤ R.slots)
    (kk : ∀ (H : Heap) (locs : List Loc), Wo D ad cy ba s σ' H locs → W p l e R s m args below meth c H locs cells slots Q (F0 m (pc + 3) ls (v.toList ++ rest))) : W p l e R s m args below meth c H locs cells slots Q (F0 m pc ls st0) :=
  g_call P (va_runV (b := ad i) (As := As) (rest := rest) B hM (cwV (mc := 0) (ms := 0) n B.2.2.2.2 (good_V q1 q2 q3 q4 q5) rfl rfl rfl hy hR) ⟨PcW_blind, g_recv F P o hi hk, PcW_at F P⟩ rfl hn hl hst (lv_room hw) dg hf) kk
theorem g_callS (B : CallFix p m c cc nL s args AW own) (F : Fx D ad cy ba s) (P : Wo D ad cy ba s σ H locs) {d maxL index n : Nat} {y : MethodName} {bytes : ByteArray} {ret : Option FieldType} {As : List Value} {v : Option Value} {σ' : Sg} {st0 : List Value}
    (hM : Ct D ad cy ba l d y bytes maxL ret As σ v σ') (q1 : Cond.methodLink own index y ∈ AW) (q2 : Cond.static y ∈ AW) (q4 : Cond.initialized y.cls ∈ AW) (q5 : Cond.code y bytes maxL ret ∈ AW) (hy : nmOk y y.cls n) (hn : As.length = n)
    (hR : 10 + d + 1 ≤ R.frames ∧ 8 + (maxL + 11) + (200 + 40 * d) ≤ R.locals) (hl : ls.size = nL) (hst : st0 = As.reverse ++ rest) (hw : (rest.map fun v => v.category).sum ≤ 8) (dg : decode cc pc = .ok (.invokestatic index, 3)) (hf : cells ≤ R.cells ∧ slots ≤ R.slots)
    (kk : ∀ (H : Heap) (locs : List Loc), Wo D ad cy ba s σ' H locs → W p l e R s m args below meth c H locs cells slots Q (F0 m (pc + 3) ls (v.toList ++ rest))) : W p l e R s m args below meth c H locs cells slots Q (F0 m pc ls st0) :=
  g_call P (va_runS (As := As) (rest := rest) B hM (va_cwS (mc := 0) (ms := 0) n B.2.2.2.2 (good_S q1 q2 q4 q5) rfl rfl rfl hy.2 hR) ⟨PcW_blind, PcW_at F P⟩ rfl hn hl hst (lv_room hw) dg hf) kk
theorem g_callVx (B : CallFix p m c cc nL s args AW own) (F : Fx D ad cy ba s) (P : Wo D ad cy ba s σ H locs) {d nx maxL index i ci N n k : Nat} {C : String} {T : u_T} {y : MethodName} {bytes : ByteArray} {ret : Option FieldType} {As : List Value} {v : Option Value} {σ' : Sg} {st0 : List Value}
    (hM : Cx D ad cy ba l d nx y bytes maxL ret (.ref (ad i) :: As) σ k v σ') (o : clsOk ci C T N) (hi : i < 81) (hk : kd i = ci) (q1 : Cond.methodLink own index y ∈ AW) (q2 : Cond.instanceMethod y ∈ AW) (q3 : Cond.selects C y y ∈ AW) (q4 : Cond.initialized C ∈ AW) (q5 : Cond.code y bytes maxL ret ∈ AW) (hy : nmOk y C n) (hn : As.length = n)
    (hR : 10 + d + 1 ≤ R.frames ∧ 8 + (maxL + 11) + (200 + 40 * d) ≤ R.locals) (hl : ls.size = nL) (hst : st0 = As.reverse ++ .ref (ad i) :: rest) (hw : (rest.map fun v => v.category).sum ≤ 8) (dg : decode cc pc = .ok (.invokevirtual index, 3)) (hf : cells + nx ≤ R.cells ∧ slots + 6 * nx ≤ R.slots)
    (kx : k ≠ 0 → ∀ (ce : Cell) (q9 : Addr) (H : Heap) (locs : List Loc), Wo D ad cy ba s σ' H locs → H[q9]? = some ce → ce.vm = .none → s.vm.findClass (exN k) = some ce.cls → vx_W p l e R s m args below meth c H locs (cells + nx) (slots + 6 * nx) Q (F0 m pc ls rest) q9)
    (kk : k = 0 → ∀ (H : Heap) (locs : List Loc), Wo D ad cy ba s σ' H locs → W p l e R s m args below meth c H locs (cells + nx) (slots + 6 * nx) Q (F0 m (pc + 3) ls (v.toList ++ rest))) : W p l e R s m args below meth c H locs cells slots Q (F0 m pc ls st0) :=
  g_callx P (vx_runV (b := ad i) (As := As) (rest := rest) B hM (cwV (mc := nx) (ms := 6 * nx) n B.2.2.2.2 (good_V q1 q2 q3 q4 q5) rfl rfl rfl hy hR) ⟨PcW_blind, g_recv F P o hi hk, PcW_at F P⟩ rfl hn hl hst (lv_room hw) dg hf) kx kk
theorem g_callSx (B : CallFix p m c cc nL s args AW own) (F : Fx D ad cy ba s) (P : Wo D ad cy ba s σ H locs) {d nx maxL index n k : Nat} {y : MethodName} {bytes : ByteArray} {ret : Option FieldType} {As : List Value} {v : Option Value} {σ' : Sg} {st0 : List Value}
    (hM : Cx D ad cy ba l d nx y bytes maxL ret As σ k v σ') (q1 : Cond.methodLink own index y ∈ AW) (q2 : Cond.static y ∈ AW) (q4 : Cond.initialized y.cls ∈ AW) (q5 : Cond.code y bytes maxL ret ∈ AW) (hy : nmOk y y.cls n) (hn : As.length = n)
    (hR : 10 + d + 1 ≤ R.frames ∧ 8 + (maxL + 11) + (200 + 40 * d) ≤ R.locals) (hl : ls.size = nL) (hst : st0 = As.reverse ++ rest) (hw : (rest.map fun v => v.category).sum ≤ 8) (dg : decode cc pc = .ok (.invokestatic index, 3)) (hf : cells + nx ≤ R.cells ∧ slots + 6 * nx ≤ R.slots)
    (kx : k ≠ 0 → ∀ (ce : Cell) (q9 : Addr) (H : Heap) (locs : List Loc), Wo D ad cy ba s σ' H locs → H[q9]? = some ce → ce.vm = .none → s.vm.findClass (exN k) = some ce.cls → vx_W p l e R s m args below meth c H locs (cells + nx) (slots + 6 * nx) Q (F0 m pc ls rest) q9)
    (kk : k = 0 → ∀ (H : Heap) (locs : List Loc), Wo D ad cy ba s σ' H locs → W p l e R s m args below meth c H locs (cells + nx) (slots + 6 * nx) Q (F0 m (pc + 3) ls (v.toList ++ rest))) : W p l e R s m args below meth c H locs cells slots Q (F0 m pc ls st0) :=
  g_callx P (vx_runS (As := As) (rest := rest) B hM (va_cwS (mc := nx) (ms := 6 * nx) n B.2.2.2.2 (good_S q1 q2 q4 q5) rfl rfl rfl hy.2 hR) ⟨PcW_blind, PcW_at F P⟩ rfl hn hl hst (lv_room hw) dg hf) kx kk
theorem g_callSN (B : CallFix p m c cc nL s args AW own) (F : Fx D ad cy ba s) (P : Wo D ad cy ba s σ H locs) {d maxL index n : Nat} {y : MethodName} {host : String} {bytes : ByteArray} {ret : Option FieldType} {As : List Value} {v : Option Value} {σ' : Sg} {st0 : List Value}
    (hM : Ct D ad cy ba l d y bytes maxL ret As σ v σ') (q1 : Cond.methodLinkNest own index y host ∈ KW) (q2 : Cond.static y ∈ AW) (q4 : Cond.initialized y.cls ∈ AW) (q5 : Cond.code y bytes maxL ret ∈ AW) (hy : nmOk y y.cls n) (hn : As.length = n)
    (hR : 10 + d + 1 ≤ R.frames ∧ 8 + (maxL + 11) + (200 + 40 * d) ≤ R.locals) (hl : ls.size = nL) (hst : st0 = As.reverse ++ rest) (hw : (rest.map fun v => v.category).sum ≤ 8) (dg : decode cc pc = .ok (.invokestatic index, 3)) (hf : cells ≤ R.cells ∧ slots ≤ R.slots)
    (kk : ∀ (H : Heap) (locs : List Loc), Wo D ad cy ba s σ' H locs → W p l e R s m args below meth c H locs cells slots Q (F0 m (pc + 3) ls (v.toList ++ rest))) : W p l e R s m args below meth c H locs cells slots Q (F0 m pc ls st0) :=
  g_call P (va_runSN (As := As) (rest := rest) (ws := ws_ y bytes maxL ret) (rm := rmK d 0 0) B hM ⟨va_cnB (mc := 0) (ms := 0) n B.2.2.2.2 (good_in (fun w hw => by rcases List.mem_cons.mp hw with rfl | h <;> assumption)) rfl rfl rfl (F.2.2.2.1.1 _ q1) (B.2.2.2.2 _ q4) hy.2 hR, B.2.2.2.2 _ q2, trivial⟩ ⟨PcW_blind, PcW_at F P⟩ rfl hn hl hst (lv_room hw) dg hf) kk
end GROWS
