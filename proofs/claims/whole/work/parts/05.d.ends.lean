section GENDS
variable {p : Program} {l : Launch} {e : Env} {R : Room} {s : State} {m : MethodId} {args : Array Value} {below : List Frame} {meth : Method} {c : Code} {H : Heap} {locs : List Loc} {cells slots : Nat} {Q : State → Prop}
variable {cc : ByteArray} {nL pc : Nat} {own : String} {ls : Array Slot} {rest : List Value} {D : va_G} {ad : Nat → Nat} {cy : Nat → ClassId} {ba : Nat} {σ σ' : Sg} {v : Option Value} {k nx : Nat}
theorem g_reti (B : CallFix p m c cc nL s args AW own) (P : Wo D ad cy ba s σ H locs) {r : Int32} (hv : some (Value.int r) = v) (hσ : σ = σ') (hr : meth.sig.returnType = some .int) (hlk : meth.locks = false) (d : decode cc pc = .ok (.ireturn, 1)) : W p l e R s m args below meth c H locs cells slots (MQ below (Qe D ad cy ba v σ') args s cells slots (fun q => ba ≤ q)) (F0 m pc ls [.int r]) := by
  obtain ⟨hx, hb, -, -, -⟩ := B
  subst hv; subst hσ
  exact W.iret hx hb hr (fun t ht hW => ⟨⟨rfl, by rw [ht]; exact P.1⟩, P.2.F ht⟩) P.2.2.2 d hlk
theorem g_retix (B : CallFix p m c cc nL s args AW own) (P : Wo D ad cy ba s σ H locs) {r : Int32} (hk : k = 0) (hv : some (Value.int r) = v) (hσ : σ = σ') (hr : meth.sig.returnType = some .int) (hlk : meth.locks = false) (hc : cells ≤ nx) (hs : slots ≤ 6 * nx) (d : decode cc pc = .ok (.ireturn, 1)) : W p l e R s m args below meth c H locs cells slots (vx_MQ below (Qx D ad cy ba k v σ') (Xx D ad cy ba k σ') args s nx (6 * nx) (fun q => ba ≤ q)) (F0 m pc ls [.int r]) := by
  obtain ⟨hx, hb, -, -, -⟩ := B
  subst hv; subst hσ
  exact vx_ret (W.widen hc hs (W.iret hx hb hr (fun t ht hW => ⟨⟨hk, rfl, by rw [ht]; exact P.1⟩, P.2.F ht⟩) P.2.2.2 d hlk))
theorem g_retiw (B : CallFix p m c cc nL s args AW own) (P : Wo D ad cy ba s σ H locs) {r : Int32} (hv : some (Value.int r) = v) (hσ : σ = σ') (hr : meth.sig.returnType = some .int) (hlk : meth.locks = false) (hc : cells ≤ nx) (hs : slots ≤ 6 * nx) (d : decode cc pc = .ok (.ireturn, 1)) : W p l e R s m args below meth c H locs cells slots (MQ below (Qe D ad cy ba v σ') args s nx (6 * nx) (fun q => ba ≤ q)) (F0 m pc ls [.int r]) :=
  W.widen hc hs (g_reti B P hv hσ hr hlk d)
theorem g_retl (B : CallFix p m c cc nL s args AW own) (P : Wo D ad cy ba s σ H locs) {r : Int64} (hv : some (Value.long r) = v) (hσ : σ = σ') (hr : meth.sig.returnType = some .long) (hlk : meth.locks = false) (d : decode cc pc = .ok (.lreturn, 1)) : W p l e R s m args below meth c H locs cells slots (MQ below (Qe D ad cy ba v σ') args s cells slots (fun q => ba ≤ q)) (F0 m pc ls [.long r]) := by
  obtain ⟨hx, hb, -, -, -⟩ := B
  subst hv; subst hσ
  exact W.lret hx hb hr (fun t ht hW => ⟨⟨rfl, by rw [ht]; exact P.1⟩, P.2.F ht⟩) P.2.2.2 d hlk
theorem g_retlx (B : CallFix p m c cc nL s args AW own) (P : Wo D ad cy ba s σ H locs) {r : Int64} (hk : k = 0) (hv : some (Value.long r) = v) (hσ : σ = σ') (hr : meth.sig.returnType = some .long) (hlk : meth.locks = false) (hc : cells ≤ nx) (hs : slots ≤ 6 * nx) (d : decode cc pc = .ok (.lreturn, 1)) : W p l e R s m args below meth c H locs cells slots (vx_MQ below (Qx D ad cy ba k v σ') (Xx D ad cy ba k σ') args s nx (6 * nx) (fun q => ba ≤ q)) (F0 m pc ls [.long r]) := by
  obtain ⟨hx, hb, -, -, -⟩ := B
  subst hv; subst hσ
  exact vx_ret (W.widen hc hs (W.lret hx hb hr (fun t ht hW => ⟨⟨hk, rfl, by rw [ht]; exact P.1⟩, P.2.F ht⟩) P.2.2.2 d hlk))
theorem g_retlw (B : CallFix p m c cc nL s args AW own) (P : Wo D ad cy ba s σ H locs) {r : Int64} (hv : some (Value.long r) = v) (hσ : σ = σ') (hr : meth.sig.returnType = some .long) (hlk : meth.locks = false) (hc : cells ≤ nx) (hs : slots ≤ 6 * nx) (d : decode cc pc = .ok (.lreturn, 1)) : W p l e R s m args below meth c H locs cells slots (MQ below (Qe D ad cy ba v σ') args s nx (6 * nx) (fun q => ba ≤ q)) (F0 m pc ls [.long r]) :=
  W.widen hc hs (g_retl B P hv hσ hr hlk d)
theorem g_retf (B : CallFix p m c cc nL s args AW own) (P : Wo D ad cy ba s σ H locs) {r : UInt32} (hv : some (Value.float r) = v) (hσ : σ = σ') (hr : meth.sig.returnType = some .float) (hlk : meth.locks = false) (d : decode cc pc = .ok (.freturn, 1)) : W p l e R s m args below meth c H locs cells slots (MQ below (Qe D ad cy ba v σ') args s cells slots (fun q => ba ≤ q)) (F0 m pc ls [.float r]) := by
  obtain ⟨hx, hb, -, -, -⟩ := B
  subst hv; subst hσ
  exact W.fret hx hb hr (fun t ht hW => ⟨⟨rfl, by rw [ht]; exact P.1⟩, P.2.F ht⟩) P.2.2.2 d hlk
theorem g_retfx (B : CallFix p m c cc nL s args AW own) (P : Wo D ad cy ba s σ H locs) {r : UInt32} (hk : k = 0) (hv : some (Value.float r) = v) (hσ : σ = σ') (hr : meth.sig.returnType = some .float) (hlk : meth.locks = false) (hc : cells ≤ nx) (hs : slots ≤ 6 * nx) (d : decode cc pc = .ok (.freturn, 1)) : W p l e R s m args below meth c H locs cells slots (vx_MQ below (Qx D ad cy ba k v σ') (Xx D ad cy ba k σ') args s nx (6 * nx) (fun q => ba ≤ q)) (F0 m pc ls [.float r]) := by
  obtain ⟨hx, hb, -, -, -⟩ := B
  subst hv; subst hσ
  exact vx_ret (W.widen hc hs (W.fret hx hb hr (fun t ht hW => ⟨⟨hk, rfl, by rw [ht]; exact P.1⟩, P.2.F ht⟩) P.2.2.2 d hlk))
theorem g_retfw (B : CallFix p m c cc nL s args AW own) (P : Wo D ad cy ba s σ H locs) {r : UInt32} (hv : some (Value.float r) = v) (hσ : σ = σ') (hr : meth.sig.returnType = some .float) (hlk : meth.locks = false) (hc : cells ≤ nx) (hs : slots ≤ 6 * nx) (d : decode cc pc = .ok (.freturn, 1)) : W p l e R s m args below meth c H locs cells slots (MQ below (Qe D ad cy ba v σ') args s nx (6 * nx) (fun q => ba ≤ q)) (F0 m pc ls [.float r]) :=
  W.widen hc hs (g_retf B P hv hσ hr hlk d)
theorem g_retd (B : CallFix p m c cc nL s args AW own) (P : Wo D ad cy ba s σ H locs) {r : UInt64} (hv : some (Value.double r) = v) (hσ : σ = σ') (hr : meth.sig.returnType = some .double) (hlk : meth.locks = false) (d : decode cc pc = .ok (.dreturn, 1)) : W p l e R s m args below meth c H locs cells slots (MQ below (Qe D ad cy ba v σ') args s cells slots (fun q => ba ≤ q)) (F0 m pc ls [.double r]) := by
  obtain ⟨hx, hb, -, -, -⟩ := B
  subst hv; subst hσ
  exact W.dret hx hb hr (fun t ht hW => ⟨⟨rfl, by rw [ht]; exact P.1⟩, P.2.F ht⟩) P.2.2.2 d hlk
theorem g_retdx (B : CallFix p m c cc nL s args AW own) (P : Wo D ad cy ba s σ H locs) {r : UInt64} (hk : k = 0) (hv : some (Value.double r) = v) (hσ : σ = σ') (hr : meth.sig.returnType = some .double) (hlk : meth.locks = false) (hc : cells ≤ nx) (hs : slots ≤ 6 * nx) (d : decode cc pc = .ok (.dreturn, 1)) : W p l e R s m args below meth c H locs cells slots (vx_MQ below (Qx D ad cy ba k v σ') (Xx D ad cy ba k σ') args s nx (6 * nx) (fun q => ba ≤ q)) (F0 m pc ls [.double r]) := by
  obtain ⟨hx, hb, -, -, -⟩ := B
  subst hv; subst hσ
  exact vx_ret (W.widen hc hs (W.dret hx hb hr (fun t ht hW => ⟨⟨hk, rfl, by rw [ht]; exact P.1⟩, P.2.F ht⟩) P.2.2.2 d hlk))
theorem g_retdw (B : CallFix p m c cc nL s args AW own) (P : Wo D ad cy ba s σ H locs) {r : UInt64} (hv : some (Value.double r) = v) (hσ : σ = σ') (hr : meth.sig.returnType = some .double) (hlk : meth.locks = false) (hc : cells ≤ nx) (hs : slots ≤ 6 * nx) (d : decode cc pc = .ok (.dreturn, 1)) : W p l e R s m args below meth c H locs cells slots (MQ below (Qe D ad cy ba v σ') args s nx (6 * nx) (fun q => ba ≤ q)) (F0 m pc ls [.double r]) :=
  W.widen hc hs (g_retd B P hv hσ hr hlk d)
theorem g_retz (B : CallFix p m c cc nL s args AW own) (P : Wo D ad cy ba s σ H locs) {r : Int32} (hv : some (Value.int r) = v) (hσ : σ = σ') (hr : meth.sig.returnType = some .boolean) (hn : narrow .boolean (.int r) = .int r) (hlk : meth.locks = false) (d : decode cc pc = .ok (.ireturn, 1)) : W p l e R s m args below meth c H locs cells slots (MQ below (Qe D ad cy ba v σ') args s cells slots (fun q => ba ≤ q)) (F0 m pc ls [.int r]) := by
  obtain ⟨hx, hb, -, -, -⟩ := B
  subst hv; subst hσ
  exact W.zret hx hb hr hn (fun t ht hW => ⟨⟨rfl, by rw [ht]; exact P.1⟩, P.2.F ht⟩) P.2.2.2 d hlk
theorem g_retzx (B : CallFix p m c cc nL s args AW own) (P : Wo D ad cy ba s σ H locs) {r : Int32} (hk : k = 0) (hv : some (Value.int r) = v) (hσ : σ = σ') (hr : meth.sig.returnType = some .boolean) (hn : narrow .boolean (.int r) = .int r) (hlk : meth.locks = false) (hc : cells ≤ nx) (hs : slots ≤ 6 * nx) (d : decode cc pc = .ok (.ireturn, 1)) : W p l e R s m args below meth c H locs cells slots (vx_MQ below (Qx D ad cy ba k v σ') (Xx D ad cy ba k σ') args s nx (6 * nx) (fun q => ba ≤ q)) (F0 m pc ls [.int r]) := by
  obtain ⟨hx, hb, -, -, -⟩ := B
  subst hv; subst hσ
  exact vx_ret (W.widen hc hs (W.zret hx hb hr hn (fun t ht hW => ⟨⟨hk, rfl, by rw [ht]; exact P.1⟩, P.2.F ht⟩) P.2.2.2 d hlk))
theorem g_retv (B : CallFix p m c cc nL s args AW own) (P : Wo D ad cy ba s σ H locs) (hv : none = v) (hσ : σ = σ') (hr : meth.sig.returnType = none) (hlk : meth.locks = false) (d : decode cc pc = .ok (.return_, 1)) : W p l e R s m args below meth c H locs cells slots (MQ below (Qe D ad cy ba v σ') args s cells slots (fun q => ba ≤ q)) (F0 m pc ls []) := by
  obtain ⟨hx, hb, -, -, -⟩ := B
  subst hv; subst hσ
  exact W.vret hx hb hr (fun t ht hW => ⟨⟨rfl, by rw [ht]; exact P.1⟩, P.2.F ht⟩) P.2.2.2 d hlk
theorem g_retvx (B : CallFix p m c cc nL s args AW own) (P : Wo D ad cy ba s σ H locs) (hk : k = 0) (hv : none = v) (hσ : σ = σ') (hr : meth.sig.returnType = none) (hlk : meth.locks = false) (hc : cells ≤ nx) (hs : slots ≤ 6 * nx) (d : decode cc pc = .ok (.return_, 1)) : W p l e R s m args below meth c H locs cells slots (vx_MQ below (Qx D ad cy ba k v σ') (Xx D ad cy ba k σ') args s nx (6 * nx) (fun q => ba ≤ q)) (F0 m pc ls []) := by
  obtain ⟨hx, hb, -, -, -⟩ := B
  subst hv; subst hσ
  exact vx_ret (W.widen hc hs (W.vret hx hb hr (fun t ht hW => ⟨⟨hk, rfl, by rw [ht]; exact P.1⟩, P.2.F ht⟩) P.2.2.2 d hlk))
/-- thrown by a callee, not caught here -/
theorem g_out (P : Wo D ad cy ba s σ H locs) {k' : Nat} {ce : Cell} {q9 : Addr} (hk0 : k' ≠ 0) (hk : k = k') (hσ : σ = σ') (ht : ∀ x ∈ c.exceptionTable.toList, False) (hlk : meth.locks = false) (hc : cells ≤ nx) (hs : slots ≤ 6 * nx) (h1 : H[q9]? = some ce) (h2 : ce.vm = .none) (h3 : s.vm.findClass (exN k') = some ce.cls) : vx_W p l e R s m args below meth c H locs cells slots (vx_MQ below (Qx D ad cy ba k v σ') (Xx D ad cy ba k σ') args s nx (6 * nx) (fun q => ba ≤ q)) (F0 m pc ls rest) q9 := by
  subst hk; subst hσ
  exact vx_out (fun x hx => (ht x hx).elim) hlk h1 h2 h3 (fun t ht hW => ⟨⟨hk0, rfl, by rw [ht]; exact P.1⟩, P.2.F ht⟩) P.2.2.2 hc hs
theorem at1_eq : vx_atS RX5 176 (exN 1) ["java/lang/RuntimeException", "java/lang/Exception"] = [36, 423, 432, 440, 443, 445, 424, 425, 55, 56, 426, 431, 441, 461, 413, 462, 415, 463, 417, 427, 429, 419, 457, 458, 460, 419, 448, 449, 450, 451, 405, 451, 452, 453, 454, 407, 454, 455, 456, 457, 409, 447, 402, 403, 410, 411, 412, 414, 416, 418, 422, 421, 420].filterMap (fun i => lw_tbl[i]?) := by decide +kernel
theorem at1_ok : (vx_atS RX5 176 (exN 1) ["java/lang/RuntimeException", "java/lang/Exception"]).all (fun w => goodWord w || kwd w) = true := by decide +kernel
theorem at1_in {s : State} {args : Array Value} (hts : ∀ w ∈ AW, w.before args s = true) (h : XF s) : ∀ w ∈ vx_atS RX5 176 (exN 1) ["java/lang/RuntimeException", "java/lang/Exception"], w.before args s = true := fun w hw => by
  have h1 := List.all_eq_true.mp at1_ok w hw
  rw [at1_eq] at hw
  obtain ⟨i, -, hi⟩ := List.mem_filterMap.mp hw
  have hm : w ∈ lw_tbl := List.mem_of_getElem? hi
  rcases Bool.or_eq_true _ _ |>.mp h1 with g | g
  · exact hts w (List.mem_filter.mpr ⟨hm, g⟩)
  · refine va_Nw.use ?_ (h.1 w (List.mem_filter.mpr ⟨hm, g⟩))
    cases w <;> first | rfl | exact absurd (show false = true from g) Bool.false_ne_true
/-- throw new java/lang/IllegalArgumentException("..") -/
theorem g_throw1 (B : CallFix p m c cc nL s args AW RX5) (F : Fx D ad cy ba s) (P : Wo D ad cy ba s σ H locs) (hx : l.stackTraces = false) {is : Nat} {text : String} (hq : (is, text) ∈ SRL) (hk : k = 1) (hσ : σ = σ') (hl : ls.size = nL) (hlk : meth.locks = false) (ht : ∀ x ∈ c.exceptionTable.toList, False)
    (d0 : decode cc pc = .ok (.new 172, 3)) (d3 : decode cc (pc + 3) = .ok (.dup, 1)) (d4 : decode cc (pc + 4) = .ok (.ldc is, 2)) (d6 : decode cc (pc + 6) = .ok (.invokespecial 176, 3)) (d9 : decode cc (pc + 9) = .ok (.athrow, 1))
    (hRf : 5 < R.frames) (hRl : (rest.map fun v => v.category).sum + 82 ≤ R.locals) (hRc : cells + 1 ≤ R.cells) (hRs : slots + 6 ≤ R.slots) (hc : cells + 1 ≤ nx) (hs : slots + 6 ≤ 6 * nx) : W p l e R s m args below meth c H locs cells slots (vx_MQ below (Qx D ad cy ba k v σ') (Xx D ad cy ba k σ') args s nx (6 * nx) (fun q => ba ≤ q)) (F0 m pc ls rest) := by
  obtain ⟨hexec, hb, hml, hown, hts⟩ := B
  subst hk; subst hσ
  obtain ⟨sa, hsa⟩ := F.2.2.2.1.2.1 _ hq
  refine vx_throwS (cls := exN 1) (names := ["java/lang/RuntimeException", "java/lang/Exception"]) hexec hb hx hown (by decide +kernel) (by decide +kernel) (hts _ q374) (hts _ q12) hsa (at1_in hts F.2.2.2.1) (by decide +kernel) F.2.2.2.2.1 F.2.2.2.2.2 P.2 (hl.trans hml.symm) d0 d3 d4 d6 d9 (fun x hx => (ht x hx).elim) hRf hRl hRc hRs hlk (fun t hvm h1 h2 => ⟨⟨by decide, rfl, P.1.kept (fun k q hk => h2 q.1 ((P.1 k q hk).lt))⟩, ?_⟩) P.2.2.2 hc hs
  exact ⟨Nat.le_trans P.2.1 h1, fun q hq hA => (h2 q (Nat.lt_of_lt_of_le hq P.2.1)).trans (P.2.2.1 q hq hA)⟩
theorem at2_eq : vx_atS RX5 64 (exN 2) ["java/lang/RuntimeException", "java/lang/Exception"] = [36, 423, 432, 440, 443, 445, 424, 425, 55, 56, 426, 431, 441, 461, 413, 462, 415, 463, 417, 427, 429, 419, 457, 458, 460, 419, 484, 485, 486, 451, 405, 451, 452, 453, 454, 407, 454, 455, 456, 457, 409, 483, 474, 475, 476, 436, 477, 478, 479, 480, 422, 421, 481].filterMap (fun i => lw_tbl[i]?) := by decide +kernel
theorem at2_ok : (vx_atS RX5 64 (exN 2) ["java/lang/RuntimeException", "java/lang/Exception"]).all (fun w => goodWord w || kwd w) = true := by decide +kernel
theorem at2_in {s : State} {args : Array Value} (hts : ∀ w ∈ AW, w.before args s = true) (h : XF s) : ∀ w ∈ vx_atS RX5 64 (exN 2) ["java/lang/RuntimeException", "java/lang/Exception"], w.before args s = true := fun w hw => by
  have h1 := List.all_eq_true.mp at2_ok w hw
  rw [at2_eq] at hw
  obtain ⟨i, -, hi⟩ := List.mem_filterMap.mp hw
  have hm : w ∈ lw_tbl := List.mem_of_getElem? hi
  rcases Bool.or_eq_true _ _ |>.mp h1 with g | g
  · exact hts w (List.mem_filter.mpr ⟨hm, g⟩)
  · refine va_Nw.use ?_ (h.1 w (List.mem_filter.mpr ⟨hm, g⟩))
    cases w <;> first | rfl | exact absurd (show false = true from g) Bool.false_ne_true
/-- throw new java/lang/IllegalStateException("..") -/
theorem g_throw2 (B : CallFix p m c cc nL s args AW RX5) (F : Fx D ad cy ba s) (P : Wo D ad cy ba s σ H locs) (hx : l.stackTraces = false) {is : Nat} {text : String} (hq : (is, text) ∈ SRL) (hk : k = 2) (hσ : σ = σ') (hl : ls.size = nL) (hlk : meth.locks = false) (ht : ∀ x ∈ c.exceptionTable.toList, False)
    (d0 : decode cc pc = .ok (.new 60, 3)) (d3 : decode cc (pc + 3) = .ok (.dup, 1)) (d4 : decode cc (pc + 4) = .ok (.ldc is, 2)) (d6 : decode cc (pc + 6) = .ok (.invokespecial 64, 3)) (d9 : decode cc (pc + 9) = .ok (.athrow, 1))
    (hRf : 5 < R.frames) (hRl : (rest.map fun v => v.category).sum + 82 ≤ R.locals) (hRc : cells + 1 ≤ R.cells) (hRs : slots + 6 ≤ R.slots) (hc : cells + 1 ≤ nx) (hs : slots + 6 ≤ 6 * nx) : W p l e R s m args below meth c H locs cells slots (vx_MQ below (Qx D ad cy ba k v σ') (Xx D ad cy ba k σ') args s nx (6 * nx) (fun q => ba ≤ q)) (F0 m pc ls rest) := by
  obtain ⟨hexec, hb, hml, hown, hts⟩ := B
  subst hk; subst hσ
  obtain ⟨sa, hsa⟩ := F.2.2.2.1.2.1 _ hq
  refine vx_throwS (cls := exN 2) (names := ["java/lang/RuntimeException", "java/lang/Exception"]) hexec hb hx hown (by decide +kernel) (by decide +kernel) (hts _ q446) (hts _ q13) hsa (at2_in hts F.2.2.2.1) (by decide +kernel) F.2.2.2.2.1 F.2.2.2.2.2 P.2 (hl.trans hml.symm) d0 d3 d4 d6 d9 (fun x hx => (ht x hx).elim) hRf hRl hRc hRs hlk (fun t hvm h1 h2 => ⟨⟨by decide, rfl, P.1.kept (fun k q hk => h2 q.1 ((P.1 k q hk).lt))⟩, ?_⟩) P.2.2.2 hc hs
  exact ⟨Nat.le_trans P.2.1 h1, fun q hq hA => (h2 q (Nat.lt_of_lt_of_le hq P.2.1)).trans (P.2.2.1 q hq hA)⟩
theorem at3_eq : vx_atS RX5 211 (exN 3) ["java/lang/RuntimeException", "java/lang/Exception"] = [36, 423, 432, 440, 443, 445, 424, 425, 55, 56, 426, 431, 441, 461, 413, 462, 415, 463, 417, 427, 429, 419, 457, 458, 460, 419, 497, 498, 499, 451, 405, 451, 452, 453, 454, 407, 454, 455, 456, 457, 409, 534, 525, 526, 527, 437, 528, 529, 530, 531, 422, 421, 532].filterMap (fun i => lw_tbl[i]?) := by decide +kernel
theorem at3_ok : (vx_atS RX5 211 (exN 3) ["java/lang/RuntimeException", "java/lang/Exception"]).all (fun w => goodWord w || kwd w) = true := by decide +kernel
theorem at3_in {s : State} {args : Array Value} (hts : ∀ w ∈ AW, w.before args s = true) (h : XF s) : ∀ w ∈ vx_atS RX5 211 (exN 3) ["java/lang/RuntimeException", "java/lang/Exception"], w.before args s = true := fun w hw => by
  have h1 := List.all_eq_true.mp at3_ok w hw
  rw [at3_eq] at hw
  obtain ⟨i, -, hi⟩ := List.mem_filterMap.mp hw
  have hm : w ∈ lw_tbl := List.mem_of_getElem? hi
  rcases Bool.or_eq_true _ _ |>.mp h1 with g | g
  · exact hts w (List.mem_filter.mpr ⟨hm, g⟩)
  · refine va_Nw.use ?_ (h.1 w (List.mem_filter.mpr ⟨hm, g⟩))
    cases w <;> first | rfl | exact absurd (show false = true from g) Bool.false_ne_true
/-- throw new java/lang/IndexOutOfBoundsException("..") -/
theorem g_throw3 (B : CallFix p m c cc nL s args AW RX5) (F : Fx D ad cy ba s) (P : Wo D ad cy ba s σ H locs) (hx : l.stackTraces = false) {is : Nat} {text : String} (hq : (is, text) ∈ SRL) (hk : k = 3) (hσ : σ = σ') (hl : ls.size = nL) (hlk : meth.locks = false) (ht : ∀ x ∈ c.exceptionTable.toList, False)
    (d0 : decode cc pc = .ok (.new 207, 3)) (d3 : decode cc (pc + 3) = .ok (.dup, 1)) (d4 : decode cc (pc + 4) = .ok (.ldc is, 2)) (d6 : decode cc (pc + 6) = .ok (.invokespecial 211, 3)) (d9 : decode cc (pc + 9) = .ok (.athrow, 1))
    (hRf : 5 < R.frames) (hRl : (rest.map fun v => v.category).sum + 82 ≤ R.locals) (hRc : cells + 1 ≤ R.cells) (hRs : slots + 6 ≤ R.slots) (hc : cells + 1 ≤ nx) (hs : slots + 6 ≤ 6 * nx) : W p l e R s m args below meth c H locs cells slots (vx_MQ below (Qx D ad cy ba k v σ') (Xx D ad cy ba k σ') args s nx (6 * nx) (fun q => ba ≤ q)) (F0 m pc ls rest) := by
  obtain ⟨hexec, hb, hml, hown, hts⟩ := B
  subst hk; subst hσ
  obtain ⟨sa, hsa⟩ := F.2.2.2.1.2.1 _ hq
  refine vx_throwS (cls := exN 3) (names := ["java/lang/RuntimeException", "java/lang/Exception"]) hexec hb hx hown (by decide +kernel) (by decide +kernel) (hts _ q497) (hts _ q14) hsa (at3_in hts F.2.2.2.1) (by decide +kernel) F.2.2.2.2.1 F.2.2.2.2.2 P.2 (hl.trans hml.symm) d0 d3 d4 d6 d9 (fun x hx => (ht x hx).elim) hRf hRl hRc hRs hlk (fun t hvm h1 h2 => ⟨⟨by decide, rfl, P.1.kept (fun k q hk => h2 q.1 ((P.1 k q hk).lt))⟩, ?_⟩) P.2.2.2 hc hs
  exact ⟨Nat.le_trans P.2.1 h1, fun q hq hA => (h2 q (Nat.lt_of_lt_of_le hq P.2.1)).trans (P.2.2.1 q hq hA)⟩
theorem at4_eq : vx_atS RX5 97 (exN 4) ["java/lang/RuntimeException", "java/lang/Exception"] = [36, 423, 432, 440, 443, 445, 424, 425, 55, 56, 426, 431, 441, 461, 413, 462, 415, 463, 417, 427, 429, 419, 457, 458, 460, 419, 575, 576, 577, 451, 405, 451, 452, 453, 454, 407, 454, 455, 456, 457, 409, 574, 565, 566, 567, 438, 568, 569, 570, 571, 422, 421, 572].filterMap (fun i => lw_tbl[i]?) := by decide +kernel
theorem at4_ok : (vx_atS RX5 97 (exN 4) ["java/lang/RuntimeException", "java/lang/Exception"]).all (fun w => goodWord w || kwd w) = true := by decide +kernel
theorem at4_in {s : State} {args : Array Value} (hts : ∀ w ∈ AW, w.before args s = true) (h : XF s) : ∀ w ∈ vx_atS RX5 97 (exN 4) ["java/lang/RuntimeException", "java/lang/Exception"], w.before args s = true := fun w hw => by
  have h1 := List.all_eq_true.mp at4_ok w hw
  rw [at4_eq] at hw
  obtain ⟨i, -, hi⟩ := List.mem_filterMap.mp hw
  have hm : w ∈ lw_tbl := List.mem_of_getElem? hi
  rcases Bool.or_eq_true _ _ |>.mp h1 with g | g
  · exact hts w (List.mem_filter.mpr ⟨hm, g⟩)
  · refine va_Nw.use ?_ (h.1 w (List.mem_filter.mpr ⟨hm, g⟩))
    cases w <;> first | rfl | exact absurd (show false = true from g) Bool.false_ne_true
/-- throw new java/lang/UnsupportedOperationException("..") -/
theorem g_throw4 (B : CallFix p m c cc nL s args AW RX5) (F : Fx D ad cy ba s) (P : Wo D ad cy ba s σ H locs) (hx : l.stackTraces = false) {is : Nat} {text : String} (hq : (is, text) ∈ SRL) (hk : k = 4) (hσ : σ = σ') (hl : ls.size = nL) (hlk : meth.locks = false) (ht : ∀ x ∈ c.exceptionTable.toList, False)
    (d0 : decode cc pc = .ok (.new 93, 3)) (d3 : decode cc (pc + 3) = .ok (.dup, 1)) (d4 : decode cc (pc + 4) = .ok (.ldc is, 2)) (d6 : decode cc (pc + 6) = .ok (.invokespecial 97, 3)) (d9 : decode cc (pc + 9) = .ok (.athrow, 1))
    (hRf : 5 < R.frames) (hRl : (rest.map fun v => v.category).sum + 82 ≤ R.locals) (hRc : cells + 1 ≤ R.cells) (hRs : slots + 6 ≤ R.slots) (hc : cells + 1 ≤ nx) (hs : slots + 6 ≤ 6 * nx) : W p l e R s m args below meth c H locs cells slots (vx_MQ below (Qx D ad cy ba k v σ') (Xx D ad cy ba k σ') args s nx (6 * nx) (fun q => ba ≤ q)) (F0 m pc ls rest) := by
  obtain ⟨hexec, hb, hml, hown, hts⟩ := B
  subst hk; subst hσ
  obtain ⟨sa, hsa⟩ := F.2.2.2.1.2.1 _ hq
  refine vx_throwS (cls := exN 4) (names := ["java/lang/RuntimeException", "java/lang/Exception"]) hexec hb hx hown (by decide +kernel) (by decide +kernel) (hts _ q537) (hts _ q17) hsa (at4_in hts F.2.2.2.1) (by decide +kernel) F.2.2.2.2.1 F.2.2.2.2.2 P.2 (hl.trans hml.symm) d0 d3 d4 d6 d9 (fun x hx => (ht x hx).elim) hRf hRl hRc hRs hlk (fun t hvm h1 h2 => ⟨⟨by decide, rfl, P.1.kept (fun k q hk => h2 q.1 ((P.1 k q hk).lt))⟩, ?_⟩) P.2.2.2 hc hs
  exact ⟨Nat.le_trans P.2.1 h1, fun q hq hA => (h2 q (Nat.lt_of_lt_of_le hq P.2.1)).trans (P.2.2.1 q hq hA)⟩
theorem at6_eq : vx_atS RX5 240 (exN 6) ["java/lang/RuntimeException", "java/lang/Exception"] = [36, 423, 432, 440, 443, 445, 424, 425, 55, 56, 426, 431, 441, 461, 413, 462, 415, 463, 417, 427, 429, 419, 457, 458, 460, 419, 808, 809, 810, 451, 405, 451, 452, 453, 454, 407, 454, 455, 456, 457, 409, 826, 807, 818, 819, 434, 813, 814, 816, 812, 422, 421, 811].filterMap (fun i => lw_tbl[i]?) := by decide +kernel
theorem at6_ok : (vx_atS RX5 240 (exN 6) ["java/lang/RuntimeException", "java/lang/Exception"]).all (fun w => goodWord w || kwd w) = true := by decide +kernel
theorem at6_in {s : State} {args : Array Value} (hts : ∀ w ∈ AW, w.before args s = true) (h : XF s) : ∀ w ∈ vx_atS RX5 240 (exN 6) ["java/lang/RuntimeException", "java/lang/Exception"], w.before args s = true := fun w hw => by
  have h1 := List.all_eq_true.mp at6_ok w hw
  rw [at6_eq] at hw
  obtain ⟨i, -, hi⟩ := List.mem_filterMap.mp hw
  have hm : w ∈ lw_tbl := List.mem_of_getElem? hi
  rcases Bool.or_eq_true _ _ |>.mp h1 with g | g
  · exact hts w (List.mem_filter.mpr ⟨hm, g⟩)
  · refine va_Nw.use ?_ (h.1 w (List.mem_filter.mpr ⟨hm, g⟩))
    cases w <;> first | rfl | exact absurd (show false = true from g) Bool.false_ne_true
/-- throw new java/lang/ArithmeticException("..") -/
theorem g_throw6 (B : CallFix p m c cc nL s args AW RX5) (F : Fx D ad cy ba s) (P : Wo D ad cy ba s σ H locs) (hx : l.stackTraces = false) {is : Nat} {text : String} (hq : (is, text) ∈ SRL) (hk : k = 6) (hσ : σ = σ') (hl : ls.size = nL) (hlk : meth.locks = false) (ht : ∀ x ∈ c.exceptionTable.toList, False)
    (d0 : decode cc pc = .ok (.new 236, 3)) (d3 : decode cc (pc + 3) = .ok (.dup, 1)) (d4 : decode cc (pc + 4) = .ok (.ldc is, 2)) (d6 : decode cc (pc + 6) = .ok (.invokespecial 240, 3)) (d9 : decode cc (pc + 9) = .ok (.athrow, 1))
    (hRf : 5 < R.frames) (hRl : (rest.map fun v => v.category).sum + 82 ≤ R.locals) (hRc : cells + 1 ≤ R.cells) (hRs : slots + 6 ≤ R.slots) (hc : cells + 1 ≤ nx) (hs : slots + 6 ≤ 6 * nx) : W p l e R s m args below meth c H locs cells slots (vx_MQ below (Qx D ad cy ba k v σ') (Xx D ad cy ba k σ') args s nx (6 * nx) (fun q => ba ≤ q)) (F0 m pc ls rest) := by
  obtain ⟨hexec, hb, hml, hown, hts⟩ := B
  subst hk; subst hσ
  obtain ⟨sa, hsa⟩ := F.2.2.2.1.2.1 _ hq
  refine vx_throwS (cls := exN 6) (names := ["java/lang/RuntimeException", "java/lang/Exception"]) hexec hb hx hown (by decide +kernel) (by decide +kernel) (hts _ q797) (hts _ q21) hsa (at6_in hts F.2.2.2.1) (by decide +kernel) F.2.2.2.2.1 F.2.2.2.2.2 P.2 (hl.trans hml.symm) d0 d3 d4 d6 d9 (fun x hx => (ht x hx).elim) hRf hRl hRc hRs hlk (fun t hvm h1 h2 => ⟨⟨by decide, rfl, P.1.kept (fun k q hk => h2 q.1 ((P.1 k q hk).lt))⟩, ?_⟩) P.2.2.2 hc hs
  exact ⟨Nat.le_trans P.2.1 h1, fun q hq hA => (h2 q (Nat.lt_of_lt_of_le hq P.2.1)).trans (P.2.2.1 q hq hA)⟩
end GENDS
