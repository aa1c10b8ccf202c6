theorem lc_eq {x y : Int64} (h : x = y) : lg_cmp x y = 0 := by subst h; unfold lg_cmp; simp
theorem dc_self {x : UInt64} (h : vf_n64 x) : Op.cmpValue (FP.dcmp x x) .l = 0 := by
  have h1 : FP.Core.dIsNaN x = false := by
    cases e : FP.Core.dIsNaN x
    · rfl
    · have h2 := (FP.Core.isNaN_bits x).mp e
      unfold vf_n64 at h
      rw [UInt64.le_iff_toNat_le, UInt64.toNat_and, show (0x7fffffffffffffff : UInt64).toNat = 2 ^ 63 - 1 from rfl, Nat.and_two_pow_sub_one_eq_mod] at h
      have h3 : (0x7ff0000000000000 : UInt64).toNat = 9218868437227405312 := rfl
      omega
  rw [show FP.dcmp x x = some .eq from FP.Core.dcmp_refl h1]
  rfl
theorem room_w {a b k : Nat} (h : a + 4 ≤ k) : a ≤ k := by omega
theorem nk_L_addTrain : nmOk yL_addTrain RL 3 := ⟨rfl, by decide +kernel, by decide +kernel, by decide +kernel⟩
theorem nk_X6_addTrain : nmOk yX6_addTrain RX6 1 := ⟨rfl, by decide +kernel, by decide +kernel, by decide +kernel⟩
theorem nk_X6_thrown : nmOk yX6_thrown RX6 0 := ⟨rfl, by decide +kernel, by decide +kernel, by decide +kernel⟩
set_option maxHeartbeats 4000000 in
set_option maxRecDepth 100000 in
theorem lc_addTrain {D : va_G} {ad : Nat → Nat} {cy : Nat → ClassId} {ba : Nat} {p : Program} {l : Launch} {e : Env} {s : State} {m : MethodId} {args : Array Value} {below : List Frame} {meth : Method} {c : Code} {H : Heap} {locs : List Loc} {cells slots : Nat} {Q : State → Prop} {ls : Array Slot} {b L : Nat} {xs : Nat → Int32} {σ : Sg} {i : Int32} (B : CallFix p m c cL_law 9 s args AW RL) (F : Fx D ad cy ba s) (hst : l.stackTraces = false) (X : va_X b L xs s s.heap) (hbl : b < s.heap.size) (hbA : ¬ ba ≤ b) (P : Wo D ad cy ba s σ H locs) (hl : lv_has ls 9 [(5, .int i), (4, .ref (ad 32)), (3, .ref (ad 31)), (2, .ref (ad 19)), (1, .ref (ad 0)), (0, .ref b)]) (hC : GC 99000 σ) (hi : ∀ k, k ≤ 4 → vp_in (i + nI k) L) (hrc : cells + 4 ≤ room_1.cells) (hrs : slots + 24 ≤ room_1.slots) (ok : (GM 99000 (f_L_addTrain (xs (i + 1).toNatClampNeg) σ).2 ∧ rI (f_X6_addTrain (xs (i + 1).toNatClampNeg) (f_L_addTrain (xs (i + 1).toNatClampNeg) σ).2).2 19 32 = (f_L_addTrain (xs (i + 1).toNatClampNeg) σ).1 ∧ ((f_L_addTrain (xs (i + 1).toNatClampNeg) σ).1 = 0 → rL (f_X6_addTrain (xs (i + 1).toNatClampNeg) (f_L_addTrain (xs (i + 1).toNatClampNeg) σ).2).2 31 (Int32.toNatClampNeg 0) = (f_X6_addTrain (xs (i + 1).toNatClampNeg) (f_L_addTrain (xs (i + 1).toNatClampNeg) σ).2).1.toInt64)))
    (kk : ∀ (H : Heap) (locs : List Loc) (ls : Array Slot), Wo D ad cy ba s (f_X6_addTrain (xs (i + 1).toNatClampNeg) (f_L_addTrain (xs (i + 1).toNatClampNeg) σ).2).2 H locs → lv_has ls 9 [(5, .int i), (4, .ref (ad 32)), (3, .ref (ad 31)), (2, .ref (ad 19)), (1, .ref (ad 0)), (0, .ref b)] → W p l e room_1 s m args below meth c H locs (cells + 4) (slots + 24) Q (F0 m 1981 ls [])) : W p l e room_1 s m args below meth c H locs cells slots Q (F0 m 204 ls []) := by
  have hx := B.1
  have hb := B.2.1
  refine lv_aload_n hx hb dL_law_204 rfl (lv_at hl 4 rfl) ?_
  refine lv_aload_n hx hb dL_law_205 rfl (lv_at hl 5 rfl) ?_
  refine lv_iload hx hb dL_law_206 (lv_at hl 0 rfl) ?_
  refine lv_iconst (v := 1) hx hb dL_law_208 (by decide) ?_
  refine lv_iadd hx hb dL_law_209 ?_
  refine va_sld hx hb X hbl hbA P.2 (hi 1 (by decide)) dL_law_210 ?_
  refine lv_aload_n hx hb dL_law_211 rfl (lv_at hl 2 rfl) ?_
  refine g_callSw B F P (As := [.ref (ad 0), .int (xs (i + 1).toNatClampNeg), .ref (ad 31)]) (cw_L_addTrain (D := D) (ad := ad) (cy := cy) (ba := ba) l (xs (i + 1).toNatClampNeg) σ hst hC) q362 q363 q0 q364 nk_L_addTrain rfl ⟨Nat.le_of_ble_eq_true rfl, Nat.le_of_ble_eq_true rfl⟩ hl.1 rfl (Nat.le_of_ble_eq_true rfl) dL_law_212 ⟨hrc, hrs⟩ (fun H locs P => ?_)
  refine lv_istore (lv' := [(6, .int ((f_L_addTrain (xs (i + 1).toNatClampNeg) σ).1)), (5, .int i), (4, .ref (ad 32)), (3, .ref (ad 31)), (2, .ref (ad 19)), (1, .ref (ad 0)), (0, .ref b)]) hx hb dL_law_215 hl (by decide) rfl (fun ls hl => ?_)
  refine lv_aload_n hx hb dL_law_217 rfl (lv_at hl 4 rfl) ?_
  refine lv_aload_n hx hb dL_law_218 rfl (lv_at hl 6 rfl) ?_
  refine lv_iload hx hb dL_law_219 (lv_at hl 1 rfl) ?_
  refine lv_iconst (v := 1) hx hb dL_law_221 (by decide) ?_
  refine lv_iadd hx hb dL_law_222 ?_
  refine va_sld hx hb X hbl hbA P.2 (hi 1 (by decide)) dL_law_223 ?_
  refine g_callV B F P (As := [.int (xs (i + 1).toNatClampNeg)]) (ct_X6_addTrain (D := D) (ad := ad) (cy := cy) (ba := ba) l (xs (i + 1).toNatClampNeg) ((f_L_addTrain (xs (i + 1).toNatClampNeg) σ).2) ok.1) ok6 (by decide) rfl q922 q923 q924 q8 q925 nk_X6_addTrain rfl ⟨Nat.le_of_ble_eq_true rfl, Nat.le_of_ble_eq_true rfl⟩ hl.1 rfl (Nat.le_of_ble_eq_true rfl) dL_law_224 ⟨by omega, by omega⟩ (fun H locs P => ?_)
  refine lv_istore (lv' := [(7, .int ((f_X6_addTrain (xs (i + 1).toNatClampNeg) ((f_L_addTrain (xs (i + 1).toNatClampNeg) σ).2)).1)), (6, .int ((f_L_addTrain (xs (i + 1).toNatClampNeg) σ).1)), (5, .int i), (4, .ref (ad 32)), (3, .ref (ad 31)), (2, .ref (ad 19)), (1, .ref (ad 0)), (0, .ref b)]) hx hb dL_law_227 hl (by decide) rfl (fun ls hl => ?_)
  refine lv_aload_n hx hb dL_law_229 rfl (lv_at hl 5 rfl) ?_
  refine g_callV B F P (As := []) (ct_X6_thrown (D := D) (ad := ad) (cy := cy) (ba := ba) l  ((f_X6_addTrain (xs (i + 1).toNatClampNeg) ((f_L_addTrain (xs (i + 1).toNatClampNeg) σ).2)).2) ) ok6 (by decide) rfl q918 q919 q920 q8 q921 nk_X6_thrown rfl ⟨Nat.le_of_ble_eq_true rfl, Nat.le_of_ble_eq_true rfl⟩ hl.1 rfl (Nat.le_of_ble_eq_true rfl) dL_law_230 ⟨by omega, by omega⟩ (fun H locs P => ?_)
  refine lv_iload hx hb dL_law_233 (lv_at hl 1 rfl) ?_
  refine lv_icmp_eq (tgt := 240) hx hb dL_law_235 (by decide) (fun _ => ?_) (fun h9 => absurd ok.2.1 h9)
  refine lv_iload hx hb dL_law_240 (lv_at hl 1 rfl) ?_
  refine lv_if_ne (tgt := 257) hx hb dL_law_242 (by decide) (fun c_k => ?_) (fun c_k => ?_)
  · skip
    refine lv_goto (tgt := 1981) hx hb dL_law_257 (by decide) ?_
    exact kk _ _ _ P (lv_sub hl [2, 3, 4, 5, 6, 7] rfl)
  · skip
    refine lv_aload_n hx hb dL_law_245 rfl (lv_at hl 4 rfl) ?_
    refine lv_iconst (v := 0) hx hb dL_law_246 (by decide) ?_
    refine g_lld B F P (by decide) rfl rfl (by unfold vp_in; decide) dL_law_247 ?_
    refine lv_iload hx hb dL_law_248 (lv_at hl 0 rfl) ?_
    refine lv_i2l hx hb dL_law_250 rfl ?_
    refine W.lcmp hx hb dL_law_251 ?_
    refine lv_if_eq (tgt := 257) hx hb dL_law_252 (by decide) (fun _ => ?_) (fun h9 => absurd (lc_eq (ok.2.2 c_k)) h9)
    refine lv_goto (tgt := 1981) hx hb dL_law_257 (by decide) ?_
    exact kk _ _ _ P (lv_sub hl [2, 3, 4, 5, 6, 7] rfl)
theorem nk_L_setPressure : nmOk yL_setPressure RL 4 := ⟨rfl, by decide +kernel, by decide +kernel, by decide +kernel⟩
theorem nk_X6_setPressure : nmOk yX6_setPressure RX6 2 := ⟨rfl, by decide +kernel, by decide +kernel, by decide +kernel⟩
set_option maxHeartbeats 4000000 in
set_option maxRecDepth 100000 in
theorem lc_setPressure {D : va_G} {ad : Nat → Nat} {cy : Nat → ClassId} {ba : Nat} {p : Program} {l : Launch} {e : Env} {s : State} {m : MethodId} {args : Array Value} {below : List Frame} {meth : Method} {c : Code} {H : Heap} {locs : List Loc} {cells slots : Nat} {Q : State → Prop} {ls : Array Slot} {b L : Nat} {xs : Nat → Int32} {σ : Sg} {i : Int32} (B : CallFix p m c cL_law 9 s args AW RL) (F : Fx D ad cy ba s) (hst : l.stackTraces = false) (X : va_X b L xs s s.heap) (hbl : b < s.heap.size) (hbA : ¬ ba ≤ b) (P : Wo D ad cy ba s σ H locs) (hl : lv_has ls 9 [(5, .int i), (4, .ref (ad 32)), (3, .ref (ad 31)), (2, .ref (ad 19)), (1, .ref (ad 0)), (0, .ref b)]) (hC : GC 99000 σ) (hi : ∀ k, k ≤ 4 → vp_in (i + nI k) L) (hrc : cells + 4 ≤ room_1.cells) (hrs : slots + 24 ≤ room_1.slots) (ok : (GM 99000 (f_L_setPressure (xs (i + 1).toNatClampNeg) (xs (i + 2).toNatClampNeg) σ).2 ∧ rI (f_X6_setPressure (xs (i + 1).toNatClampNeg) (xs (i + 2).toNatClampNeg) (f_L_setPressure (xs (i + 1).toNatClampNeg) (xs (i + 2).toNatClampNeg) σ).2).2 19 32 = (f_L_setPressure (xs (i + 1).toNatClampNeg) (xs (i + 2).toNatClampNeg) σ).1 ∧ ((f_L_setPressure (xs (i + 1).toNatClampNeg) (xs (i + 2).toNatClampNeg) σ).1 = 0 → rL (f_X6_setPressure (xs (i + 1).toNatClampNeg) (xs (i + 2).toNatClampNeg) (f_L_setPressure (xs (i + 1).toNatClampNeg) (xs (i + 2).toNatClampNeg) σ).2).2 31 (Int32.toNatClampNeg 0) = (f_X6_setPressure (xs (i + 1).toNatClampNeg) (xs (i + 2).toNatClampNeg) (f_L_setPressure (xs (i + 1).toNatClampNeg) (xs (i + 2).toNatClampNeg) σ).2).1.toInt64)))
    (kk : ∀ (H : Heap) (locs : List Loc) (ls : Array Slot), Wo D ad cy ba s (f_X6_setPressure (xs (i + 1).toNatClampNeg) (xs (i + 2).toNatClampNeg) (f_L_setPressure (xs (i + 1).toNatClampNeg) (xs (i + 2).toNatClampNeg) σ).2).2 H locs → lv_has ls 9 [(5, .int i), (4, .ref (ad 32)), (3, .ref (ad 31)), (2, .ref (ad 19)), (1, .ref (ad 0)), (0, .ref b)] → W p l e room_1 s m args below meth c H locs (cells + 4) (slots + 24) Q (F0 m 1981 ls [])) : W p l e room_1 s m args below meth c H locs cells slots Q (F0 m 260 ls []) := by
  have hx := B.1
  have hb := B.2.1
  refine lv_aload_n hx hb dL_law_260 rfl (lv_at hl 4 rfl) ?_
  refine lv_aload_n hx hb dL_law_261 rfl (lv_at hl 5 rfl) ?_
  refine lv_iload hx hb dL_law_262 (lv_at hl 0 rfl) ?_
  refine lv_iconst (v := 1) hx hb dL_law_264 (by decide) ?_
  refine lv_iadd hx hb dL_law_265 ?_
  refine va_sld hx hb X hbl hbA P.2 (hi 1 (by decide)) dL_law_266 ?_
  refine lv_aload_n hx hb dL_law_267 rfl (lv_at hl 5 rfl) ?_
  refine lv_iload hx hb dL_law_268 (lv_at hl 0 rfl) ?_
  refine lv_iconst (v := 2) hx hb dL_law_270 (by decide) ?_
  refine lv_iadd hx hb dL_law_271 ?_
  refine va_sld hx hb X hbl hbA P.2 (hi 2 (by decide)) dL_law_272 ?_
  refine lv_aload_n hx hb dL_law_273 rfl (lv_at hl 2 rfl) ?_
  refine g_callSw B F P (As := [.ref (ad 0), .int (xs (i + 1).toNatClampNeg), .int (xs (i + 2).toNatClampNeg), .ref (ad 31)]) (cw_L_setPressure (D := D) (ad := ad) (cy := cy) (ba := ba) l (xs (i + 1).toNatClampNeg) (xs (i + 2).toNatClampNeg) σ hst hC) q462 q463 q0 q464 nk_L_setPressure rfl ⟨Nat.le_of_ble_eq_true rfl, Nat.le_of_ble_eq_true rfl⟩ hl.1 rfl (Nat.le_of_ble_eq_true rfl) dL_law_274 ⟨hrc, hrs⟩ (fun H locs P => ?_)
  refine lv_istore (lv' := [(6, .int ((f_L_setPressure (xs (i + 1).toNatClampNeg) (xs (i + 2).toNatClampNeg) σ).1)), (5, .int i), (4, .ref (ad 32)), (3, .ref (ad 31)), (2, .ref (ad 19)), (1, .ref (ad 0)), (0, .ref b)]) hx hb dL_law_277 hl (by decide) rfl (fun ls hl => ?_)
  refine lv_aload_n hx hb dL_law_279 rfl (lv_at hl 4 rfl) ?_
  refine lv_aload_n hx hb dL_law_280 rfl (lv_at hl 6 rfl) ?_
  refine lv_iload hx hb dL_law_281 (lv_at hl 1 rfl) ?_
  refine lv_iconst (v := 1) hx hb dL_law_283 (by decide) ?_
  refine lv_iadd hx hb dL_law_284 ?_
  refine va_sld hx hb X hbl hbA P.2 (hi 1 (by decide)) dL_law_285 ?_
  refine lv_aload_n hx hb dL_law_286 rfl (lv_at hl 6 rfl) ?_
  refine lv_iload hx hb dL_law_287 (lv_at hl 1 rfl) ?_
  refine lv_iconst (v := 2) hx hb dL_law_289 (by decide) ?_
  refine lv_iadd hx hb dL_law_290 ?_
  refine va_sld hx hb X hbl hbA P.2 (hi 2 (by decide)) dL_law_291 ?_
  refine g_callV B F P (As := [.int (xs (i + 1).toNatClampNeg), .int (xs (i + 2).toNatClampNeg)]) (ct_X6_setPressure (D := D) (ad := ad) (cy := cy) (ba := ba) l (xs (i + 1).toNatClampNeg) (xs (i + 2).toNatClampNeg) ((f_L_setPressure (xs (i + 1).toNatClampNeg) (xs (i + 2).toNatClampNeg) σ).2) ok.1) ok6 (by decide) rfl q930 q931 q932 q8 q933 nk_X6_setPressure rfl ⟨Nat.le_of_ble_eq_true rfl, Nat.le_of_ble_eq_true rfl⟩ hl.1 rfl (Nat.le_of_ble_eq_true rfl) dL_law_292 ⟨by omega, by omega⟩ (fun H locs P => ?_)
  refine lv_istore (lv' := [(7, .int ((f_X6_setPressure (xs (i + 1).toNatClampNeg) (xs (i + 2).toNatClampNeg) ((f_L_setPressure (xs (i + 1).toNatClampNeg) (xs (i + 2).toNatClampNeg) σ).2)).1)), (6, .int ((f_L_setPressure (xs (i + 1).toNatClampNeg) (xs (i + 2).toNatClampNeg) σ).1)), (5, .int i), (4, .ref (ad 32)), (3, .ref (ad 31)), (2, .ref (ad 19)), (1, .ref (ad 0)), (0, .ref b)]) hx hb dL_law_295 hl (by decide) rfl (fun ls hl => ?_)
  refine lv_aload_n hx hb dL_law_297 rfl (lv_at hl 5 rfl) ?_
  refine g_callV B F P (As := []) (ct_X6_thrown (D := D) (ad := ad) (cy := cy) (ba := ba) l  ((f_X6_setPressure (xs (i + 1).toNatClampNeg) (xs (i + 2).toNatClampNeg) ((f_L_setPressure (xs (i + 1).toNatClampNeg) (xs (i + 2).toNatClampNeg) σ).2)).2) ) ok6 (by decide) rfl q918 q919 q920 q8 q921 nk_X6_thrown rfl ⟨Nat.le_of_ble_eq_true rfl, Nat.le_of_ble_eq_true rfl⟩ hl.1 rfl (Nat.le_of_ble_eq_true rfl) dL_law_298 ⟨by omega, by omega⟩ (fun H locs P => ?_)
  refine lv_iload hx hb dL_law_301 (lv_at hl 1 rfl) ?_
  refine lv_icmp_eq (tgt := 308) hx hb dL_law_303 (by decide) (fun _ => ?_) (fun h9 => absurd ok.2.1 h9)
  refine lv_iload hx hb dL_law_308 (lv_at hl 1 rfl) ?_
  refine lv_if_ne (tgt := 325) hx hb dL_law_310 (by decide) (fun c_k => ?_) (fun c_k => ?_)
  · skip
    refine lv_goto (tgt := 1981) hx hb dL_law_325 (by decide) ?_
    exact kk _ _ _ P (lv_sub hl [2, 3, 4, 5, 6, 7] rfl)
  · skip
    refine lv_aload_n hx hb dL_law_313 rfl (lv_at hl 4 rfl) ?_
    refine lv_iconst (v := 0) hx hb dL_law_314 (by decide) ?_
    refine g_lld B F P (by decide) rfl rfl (by unfold vp_in; decide) dL_law_315 ?_
    refine lv_iload hx hb dL_law_316 (lv_at hl 0 rfl) ?_
    refine lv_i2l hx hb dL_law_318 rfl ?_
    refine W.lcmp hx hb dL_law_319 ?_
    refine lv_if_eq (tgt := 325) hx hb dL_law_320 (by decide) (fun _ => ?_) (fun h9 => absurd (lc_eq (ok.2.2 c_k)) h9)
    refine lv_goto (tgt := 1981) hx hb dL_law_325 (by decide) ?_
    exact kk _ _ _ P (lv_sub hl [2, 3, 4, 5, 6, 7] rfl)
theorem nk_L_setSalinity : nmOk yL_setSalinity RL 3 := ⟨rfl, by decide +kernel, by decide +kernel, by decide +kernel⟩
theorem nk_X6_setSalinity : nmOk yX6_setSalinity RX6 1 := ⟨rfl, by decide +kernel, by decide +kernel, by decide +kernel⟩
set_option maxHeartbeats 4000000 in
set_option maxRecDepth 100000 in
theorem lc_setSalinity {D : va_G} {ad : Nat → Nat} {cy : Nat → ClassId} {ba : Nat} {p : Program} {l : Launch} {e : Env} {s : State} {m : MethodId} {args : Array Value} {below : List Frame} {meth : Method} {c : Code} {H : Heap} {locs : List Loc} {cells slots : Nat} {Q : State → Prop} {ls : Array Slot} {b L : Nat} {xs : Nat → Int32} {σ : Sg} {i : Int32} (B : CallFix p m c cL_law 9 s args AW RL) (F : Fx D ad cy ba s) (hst : l.stackTraces = false) (X : va_X b L xs s s.heap) (hbl : b < s.heap.size) (hbA : ¬ ba ≤ b) (P : Wo D ad cy ba s σ H locs) (hl : lv_has ls 9 [(5, .int i), (4, .ref (ad 32)), (3, .ref (ad 31)), (2, .ref (ad 19)), (1, .ref (ad 0)), (0, .ref b)]) (hC : GC 99000 σ) (hi : ∀ k, k ≤ 4 → vp_in (i + nI k) L) (hrc : cells + 4 ≤ room_1.cells) (hrs : slots + 24 ≤ room_1.slots) (ok : (GM 99000 (f_L_setSalinity (xs (i + 1).toNatClampNeg) σ).2 ∧ rI (f_X6_setSalinity (xs (i + 1).toNatClampNeg) (f_L_setSalinity (xs (i + 1).toNatClampNeg) σ).2).2 19 32 = (f_L_setSalinity (xs (i + 1).toNatClampNeg) σ).1 ∧ ((f_L_setSalinity (xs (i + 1).toNatClampNeg) σ).1 = 0 → rL (f_X6_setSalinity (xs (i + 1).toNatClampNeg) (f_L_setSalinity (xs (i + 1).toNatClampNeg) σ).2).2 31 (Int32.toNatClampNeg 0) = (f_X6_setSalinity (xs (i + 1).toNatClampNeg) (f_L_setSalinity (xs (i + 1).toNatClampNeg) σ).2).1.toInt64)))
    (kk : ∀ (H : Heap) (locs : List Loc) (ls : Array Slot), Wo D ad cy ba s (f_X6_setSalinity (xs (i + 1).toNatClampNeg) (f_L_setSalinity (xs (i + 1).toNatClampNeg) σ).2).2 H locs → lv_has ls 9 [(5, .int i), (4, .ref (ad 32)), (3, .ref (ad 31)), (2, .ref (ad 19)), (1, .ref (ad 0)), (0, .ref b)] → W p l e room_1 s m args below meth c H locs (cells + 4) (slots + 24) Q (F0 m 1981 ls [])) : W p l e room_1 s m args below meth c H locs cells slots Q (F0 m 328 ls []) := by
  have hx := B.1
  have hb := B.2.1
  refine lv_aload_n hx hb dL_law_328 rfl (lv_at hl 4 rfl) ?_
  refine lv_aload_n hx hb dL_law_329 rfl (lv_at hl 5 rfl) ?_
  refine lv_iload hx hb dL_law_330 (lv_at hl 0 rfl) ?_
  refine lv_iconst (v := 1) hx hb dL_law_332 (by decide) ?_
  refine lv_iadd hx hb dL_law_333 ?_
  refine va_sld hx hb X hbl hbA P.2 (hi 1 (by decide)) dL_law_334 ?_
  refine lv_aload_n hx hb dL_law_335 rfl (lv_at hl 2 rfl) ?_
  refine g_callSw B F P (As := [.ref (ad 0), .int (xs (i + 1).toNatClampNeg), .ref (ad 31)]) (cw_L_setSalinity (D := D) (ad := ad) (cy := cy) (ba := ba) l (xs (i + 1).toNatClampNeg) σ hst) q510 q511 q0 q512 nk_L_setSalinity rfl ⟨Nat.le_of_ble_eq_true rfl, Nat.le_of_ble_eq_true rfl⟩ hl.1 rfl (Nat.le_of_ble_eq_true rfl) dL_law_336 ⟨hrc, hrs⟩ (fun H locs P => ?_)
  refine lv_istore (lv' := [(6, .int ((f_L_setSalinity (xs (i + 1).toNatClampNeg) σ).1)), (5, .int i), (4, .ref (ad 32)), (3, .ref (ad 31)), (2, .ref (ad 19)), (1, .ref (ad 0)), (0, .ref b)]) hx hb dL_law_339 hl (by decide) rfl (fun ls hl => ?_)
  refine lv_aload_n hx hb dL_law_341 rfl (lv_at hl 4 rfl) ?_
  refine lv_aload_n hx hb dL_law_342 rfl (lv_at hl 6 rfl) ?_
  refine lv_iload hx hb dL_law_343 (lv_at hl 1 rfl) ?_
  refine lv_iconst (v := 1) hx hb dL_law_345 (by decide) ?_
  refine lv_iadd hx hb dL_law_346 ?_
  refine va_sld hx hb X hbl hbA P.2 (hi 1 (by decide)) dL_law_347 ?_
  refine g_callV B F P (As := [.int (xs (i + 1).toNatClampNeg)]) (ct_X6_setSalinity (D := D) (ad := ad) (cy := cy) (ba := ba) l (xs (i + 1).toNatClampNeg) ((f_L_setSalinity (xs (i + 1).toNatClampNeg) σ).2) ) ok6 (by decide) rfl q940 q941 q942 q8 q943 nk_X6_setSalinity rfl ⟨Nat.le_of_ble_eq_true rfl, Nat.le_of_ble_eq_true rfl⟩ hl.1 rfl (Nat.le_of_ble_eq_true rfl) dL_law_348 ⟨by omega, by omega⟩ (fun H locs P => ?_)
  refine lv_istore (lv' := [(7, .int ((f_X6_setSalinity (xs (i + 1).toNatClampNeg) ((f_L_setSalinity (xs (i + 1).toNatClampNeg) σ).2)).1)), (6, .int ((f_L_setSalinity (xs (i + 1).toNatClampNeg) σ).1)), (5, .int i), (4, .ref (ad 32)), (3, .ref (ad 31)), (2, .ref (ad 19)), (1, .ref (ad 0)), (0, .ref b)]) hx hb dL_law_351 hl (by decide) rfl (fun ls hl => ?_)
  refine lv_aload_n hx hb dL_law_353 rfl (lv_at hl 5 rfl) ?_
  refine g_callV B F P (As := []) (ct_X6_thrown (D := D) (ad := ad) (cy := cy) (ba := ba) l  ((f_X6_setSalinity (xs (i + 1).toNatClampNeg) ((f_L_setSalinity (xs (i + 1).toNatClampNeg) σ).2)).2) ) ok6 (by decide) rfl q918 q919 q920 q8 q921 nk_X6_thrown rfl ⟨Nat.le_of_ble_eq_true rfl, Nat.le_of_ble_eq_true rfl⟩ hl.1 rfl (Nat.le_of_ble_eq_true rfl) dL_law_354 ⟨by omega, by omega⟩ (fun H locs P => ?_)
  refine lv_iload hx hb dL_law_357 (lv_at hl 1 rfl) ?_
  refine lv_icmp_eq (tgt := 364) hx hb dL_law_359 (by decide) (fun _ => ?_) (fun h9 => absurd ok.2.1 h9)
  refine lv_iload hx hb dL_law_364 (lv_at hl 1 rfl) ?_
  refine lv_if_ne (tgt := 381) hx hb dL_law_366 (by decide) (fun c_k => ?_) (fun c_k => ?_)
  · skip
    refine lv_goto (tgt := 1981) hx hb dL_law_381 (by decide) ?_
    exact kk _ _ _ P (lv_sub hl [2, 3, 4, 5, 6, 7] rfl)
  · skip
    refine lv_aload_n hx hb dL_law_369 rfl (lv_at hl 4 rfl) ?_
    refine lv_iconst (v := 0) hx hb dL_law_370 (by decide) ?_
    refine g_lld B F P (by decide) rfl rfl (by unfold vp_in; decide) dL_law_371 ?_
    refine lv_iload hx hb dL_law_372 (lv_at hl 0 rfl) ?_
    refine lv_i2l hx hb dL_law_374 rfl ?_
    refine W.lcmp hx hb dL_law_375 ?_
    refine lv_if_eq (tgt := 381) hx hb dL_law_376 (by decide) (fun _ => ?_) (fun h9 => absurd (lc_eq (ok.2.2 c_k)) h9)
    refine lv_goto (tgt := 1981) hx hb dL_law_381 (by decide) ?_
    exact kk _ _ _ P (lv_sub hl [2, 3, 4, 5, 6, 7] rfl)
theorem nk_L_setRecovery : nmOk yL_setRecovery RL 3 := ⟨rfl, by decide +kernel, by decide +kernel, by decide +kernel⟩
theorem nk_X6_setRecovery : nmOk yX6_setRecovery RX6 1 := ⟨rfl, by decide +kernel, by decide +kernel, by decide +kernel⟩
set_option maxHeartbeats 4000000 in
set_option maxRecDepth 100000 in
theorem lc_setRecovery {D : va_G} {ad : Nat → Nat} {cy : Nat → ClassId} {ba : Nat} {p : Program} {l : Launch} {e : Env} {s : State} {m : MethodId} {args : Array Value} {below : List Frame} {meth : Method} {c : Code} {H : Heap} {locs : List Loc} {cells slots : Nat} {Q : State → Prop} {ls : Array Slot} {b L : Nat} {xs : Nat → Int32} {σ : Sg} {i : Int32} (B : CallFix p m c cL_law 9 s args AW RL) (F : Fx D ad cy ba s) (hst : l.stackTraces = false) (X : va_X b L xs s s.heap) (hbl : b < s.heap.size) (hbA : ¬ ba ≤ b) (P : Wo D ad cy ba s σ H locs) (hl : lv_has ls 9 [(5, .int i), (4, .ref (ad 32)), (3, .ref (ad 31)), (2, .ref (ad 19)), (1, .ref (ad 0)), (0, .ref b)]) (hC : GC 99000 σ) (hi : ∀ k, k ≤ 4 → vp_in (i + nI k) L) (hrc : cells + 4 ≤ room_1.cells) (hrs : slots + 24 ≤ room_1.slots) (ok : (GM 99000 (f_L_setRecovery (xs (i + 1).toNatClampNeg) σ).2 ∧ rI (f_X6_setRecovery (xs (i + 1).toNatClampNeg) (f_L_setRecovery (xs (i + 1).toNatClampNeg) σ).2).2 19 32 = (f_L_setRecovery (xs (i + 1).toNatClampNeg) σ).1 ∧ ((f_L_setRecovery (xs (i + 1).toNatClampNeg) σ).1 = 0 → rL (f_X6_setRecovery (xs (i + 1).toNatClampNeg) (f_L_setRecovery (xs (i + 1).toNatClampNeg) σ).2).2 31 (Int32.toNatClampNeg 0) = (f_X6_setRecovery (xs (i + 1).toNatClampNeg) (f_L_setRecovery (xs (i + 1).toNatClampNeg) σ).2).1.toInt64)))
    (kk : ∀ (H : Heap) (locs : List Loc) (ls : Array Slot), Wo D ad cy ba s (f_X6_setRecovery (xs (i + 1).toNatClampNeg) (f_L_setRecovery (xs (i + 1).toNatClampNeg) σ).2).2 H locs → lv_has ls 9 [(5, .int i), (4, .ref (ad 32)), (3, .ref (ad 31)), (2, .ref (ad 19)), (1, .ref (ad 0)), (0, .ref b)] → W p l e room_1 s m args below meth c H locs (cells + 4) (slots + 24) Q (F0 m 1981 ls [])) : W p l e room_1 s m args below meth c H locs cells slots Q (F0 m 384 ls []) := by
  have hx := B.1
  have hb := B.2.1
  refine lv_aload_n hx hb dL_law_384 rfl (lv_at hl 4 rfl) ?_
  refine lv_aload_n hx hb dL_law_385 rfl (lv_at hl 5 rfl) ?_
  refine lv_iload hx hb dL_law_386 (lv_at hl 0 rfl) ?_
  refine lv_iconst (v := 1) hx hb dL_law_388 (by decide) ?_
  refine lv_iadd hx hb dL_law_389 ?_
  refine va_sld hx hb X hbl hbA P.2 (hi 1 (by decide)) dL_law_390 ?_
  refine lv_aload_n hx hb dL_law_391 rfl (lv_at hl 2 rfl) ?_
  refine g_callSw B F P (As := [.ref (ad 0), .int (xs (i + 1).toNatClampNeg), .ref (ad 31)]) (cw_L_setRecovery (D := D) (ad := ad) (cy := cy) (ba := ba) l (xs (i + 1).toNatClampNeg) σ hst) q517 q518 q0 q519 nk_L_setRecovery rfl ⟨Nat.le_of_ble_eq_true rfl, Nat.le_of_ble_eq_true rfl⟩ hl.1 rfl (Nat.le_of_ble_eq_true rfl) dL_law_392 ⟨hrc, hrs⟩ (fun H locs P => ?_)
  refine lv_istore (lv' := [(6, .int ((f_L_setRecovery (xs (i + 1).toNatClampNeg) σ).1)), (5, .int i), (4, .ref (ad 32)), (3, .ref (ad 31)), (2, .ref (ad 19)), (1, .ref (ad 0)), (0, .ref b)]) hx hb dL_law_395 hl (by decide) rfl (fun ls hl => ?_)
  refine lv_aload_n hx hb dL_law_397 rfl (lv_at hl 4 rfl) ?_
  refine lv_aload_n hx hb dL_law_398 rfl (lv_at hl 6 rfl) ?_
  refine lv_iload hx hb dL_law_399 (lv_at hl 1 rfl) ?_
  refine lv_iconst (v := 1) hx hb dL_law_401 (by decide) ?_
  refine lv_iadd hx hb dL_law_402 ?_
  refine va_sld hx hb X hbl hbA P.2 (hi 1 (by decide)) dL_law_403 ?_
  refine g_callV B F P (As := [.int (xs (i + 1).toNatClampNeg)]) (ct_X6_setRecovery (D := D) (ad := ad) (cy := cy) (ba := ba) l (xs (i + 1).toNatClampNeg) ((f_L_setRecovery (xs (i + 1).toNatClampNeg) σ).2) ) ok6 (by decide) rfl q945 q946 q947 q8 q948 nk_X6_setRecovery rfl ⟨Nat.le_of_ble_eq_true rfl, Nat.le_of_ble_eq_true rfl⟩ hl.1 rfl (Nat.le_of_ble_eq_true rfl) dL_law_404 ⟨by omega, by omega⟩ (fun H locs P => ?_)
  refine lv_istore (lv' := [(7, .int ((f_X6_setRecovery (xs (i + 1).toNatClampNeg) ((f_L_setRecovery (xs (i + 1).toNatClampNeg) σ).2)).1)), (6, .int ((f_L_setRecovery (xs (i + 1).toNatClampNeg) σ).1)), (5, .int i), (4, .ref (ad 32)), (3, .ref (ad 31)), (2, .ref (ad 19)), (1, .ref (ad 0)), (0, .ref b)]) hx hb dL_law_407 hl (by decide) rfl (fun ls hl => ?_)
  refine lv_aload_n hx hb dL_law_409 rfl (lv_at hl 5 rfl) ?_
  refine g_callV B F P (As := []) (ct_X6_thrown (D := D) (ad := ad) (cy := cy) (ba := ba) l  ((f_X6_setRecovery (xs (i + 1).toNatClampNeg) ((f_L_setRecovery (xs (i + 1).toNatClampNeg) σ).2)).2) ) ok6 (by decide) rfl q918 q919 q920 q8 q921 nk_X6_thrown rfl ⟨Nat.le_of_ble_eq_true rfl, Nat.le_of_ble_eq_true rfl⟩ hl.1 rfl (Nat.le_of_ble_eq_true rfl) dL_law_410 ⟨by omega, by omega⟩ (fun H locs P => ?_)
  refine lv_iload hx hb dL_law_413 (lv_at hl 1 rfl) ?_
  refine lv_icmp_eq (tgt := 420) hx hb dL_law_415 (by decide) (fun _ => ?_) (fun h9 => absurd ok.2.1 h9)
  refine lv_iload hx hb dL_law_420 (lv_at hl 1 rfl) ?_
  refine lv_if_ne (tgt := 437) hx hb dL_law_422 (by decide) (fun c_k => ?_) (fun c_k => ?_)
  · skip
    refine lv_goto (tgt := 1981) hx hb dL_law_437 (by decide) ?_
    exact kk _ _ _ P (lv_sub hl [2, 3, 4, 5, 6, 7] rfl)
  · skip
    refine lv_aload_n hx hb dL_law_425 rfl (lv_at hl 4 rfl) ?_
    refine lv_iconst (v := 0) hx hb dL_law_426 (by decide) ?_
    refine g_lld B F P (by decide) rfl rfl (by unfold vp_in; decide) dL_law_427 ?_
    refine lv_iload hx hb dL_law_428 (lv_at hl 0 rfl) ?_
    refine lv_i2l hx hb dL_law_430 rfl ?_
    refine W.lcmp hx hb dL_law_431 ?_
    refine lv_if_eq (tgt := 437) hx hb dL_law_432 (by decide) (fun _ => ?_) (fun h9 => absurd (lc_eq (ok.2.2 c_k)) h9)
    refine lv_goto (tgt := 1981) hx hb dL_law_437 (by decide) ?_
    exact kk _ _ _ P (lv_sub hl [2, 3, 4, 5, 6, 7] rfl)
theorem nk_L_clean : nmOk yL_clean RL 3 := ⟨rfl, by decide +kernel, by decide +kernel, by decide +kernel⟩
theorem nk_X6_clean : nmOk yX6_clean RX6 1 := ⟨rfl, by decide +kernel, by decide +kernel, by decide +kernel⟩
set_option maxHeartbeats 4000000 in
set_option maxRecDepth 100000 in
theorem lc_clean {D : va_G} {ad : Nat → Nat} {cy : Nat → ClassId} {ba : Nat} {p : Program} {l : Launch} {e : Env} {s : State} {m : MethodId} {args : Array Value} {below : List Frame} {meth : Method} {c : Code} {H : Heap} {locs : List Loc} {cells slots : Nat} {Q : State → Prop} {ls : Array Slot} {b L : Nat} {xs : Nat → Int32} {σ : Sg} {i : Int32} (B : CallFix p m c cL_law 9 s args AW RL) (F : Fx D ad cy ba s) (hst : l.stackTraces = false) (X : va_X b L xs s s.heap) (hbl : b < s.heap.size) (hbA : ¬ ba ≤ b) (P : Wo D ad cy ba s σ H locs) (hl : lv_has ls 9 [(5, .int i), (4, .ref (ad 32)), (3, .ref (ad 31)), (2, .ref (ad 19)), (1, .ref (ad 0)), (0, .ref b)]) (hC : GC 99000 σ) (hi : ∀ k, k ≤ 4 → vp_in (i + nI k) L) (hrc : cells + 4 ≤ room_1.cells) (hrs : slots + 24 ≤ room_1.slots) (ok : (GM 99000 (f_L_clean (xs (i + 1).toNatClampNeg) σ).2 ∧ rI (f_X6_clean (xs (i + 1).toNatClampNeg) (f_L_clean (xs (i + 1).toNatClampNeg) σ).2).2 19 32 = (f_L_clean (xs (i + 1).toNatClampNeg) σ).1 ∧ ((f_L_clean (xs (i + 1).toNatClampNeg) σ).1 = 0 → rL (f_X6_clean (xs (i + 1).toNatClampNeg) (f_L_clean (xs (i + 1).toNatClampNeg) σ).2).2 31 (Int32.toNatClampNeg 0) = (f_X6_clean (xs (i + 1).toNatClampNeg) (f_L_clean (xs (i + 1).toNatClampNeg) σ).2).1.toInt64)))
    (kk : ∀ (H : Heap) (locs : List Loc) (ls : Array Slot), Wo D ad cy ba s (f_X6_clean (xs (i + 1).toNatClampNeg) (f_L_clean (xs (i + 1).toNatClampNeg) σ).2).2 H locs → lv_has ls 9 [(5, .int i), (4, .ref (ad 32)), (3, .ref (ad 31)), (2, .ref (ad 19)), (1, .ref (ad 0)), (0, .ref b)] → W p l e room_1 s m args below meth c H locs (cells + 4) (slots + 24) Q (F0 m 1981 ls [])) : W p l e room_1 s m args below meth c H locs cells slots Q (F0 m 440 ls []) := by
  have hx := B.1
  have hb := B.2.1
  refine lv_aload_n hx hb dL_law_440 rfl (lv_at hl 4 rfl) ?_
  refine lv_aload_n hx hb dL_law_441 rfl (lv_at hl 5 rfl) ?_
  refine lv_iload hx hb dL_law_442 (lv_at hl 0 rfl) ?_
  refine lv_iconst (v := 1) hx hb dL_law_444 (by decide) ?_
  refine lv_iadd hx hb dL_law_445 ?_
  refine va_sld hx hb X hbl hbA P.2 (hi 1 (by decide)) dL_law_446 ?_
  refine lv_aload_n hx hb dL_law_447 rfl (lv_at hl 2 rfl) ?_
  refine g_callSw B F P (As := [.ref (ad 0), .int (xs (i + 1).toNatClampNeg), .ref (ad 31)]) (cw_L_clean (D := D) (ad := ad) (cy := cy) (ba := ba) l (xs (i + 1).toNatClampNeg) σ hst hC) q524 q525 q0 q526 nk_L_clean rfl ⟨Nat.le_of_ble_eq_true rfl, Nat.le_of_ble_eq_true rfl⟩ hl.1 rfl (Nat.le_of_ble_eq_true rfl) dL_law_448 ⟨hrc, hrs⟩ (fun H locs P => ?_)
  refine lv_istore (lv' := [(6, .int ((f_L_clean (xs (i + 1).toNatClampNeg) σ).1)), (5, .int i), (4, .ref (ad 32)), (3, .ref (ad 31)), (2, .ref (ad 19)), (1, .ref (ad 0)), (0, .ref b)]) hx hb dL_law_451 hl (by decide) rfl (fun ls hl => ?_)
  refine lv_aload_n hx hb dL_law_453 rfl (lv_at hl 4 rfl) ?_
  refine lv_aload_n hx hb dL_law_454 rfl (lv_at hl 6 rfl) ?_
  refine lv_iload hx hb dL_law_455 (lv_at hl 1 rfl) ?_
  refine lv_iconst (v := 1) hx hb dL_law_457 (by decide) ?_
  refine lv_iadd hx hb dL_law_458 ?_
  refine va_sld hx hb X hbl hbA P.2 (hi 1 (by decide)) dL_law_459 ?_
  refine g_callV B F P (As := [.int (xs (i + 1).toNatClampNeg)]) (ct_X6_clean (D := D) (ad := ad) (cy := cy) (ba := ba) l (xs (i + 1).toNatClampNeg) ((f_L_clean (xs (i + 1).toNatClampNeg) σ).2) ok.1) ok6 (by decide) rfl q950 q951 q952 q8 q953 nk_X6_clean rfl ⟨Nat.le_of_ble_eq_true rfl, Nat.le_of_ble_eq_true rfl⟩ hl.1 rfl (Nat.le_of_ble_eq_true rfl) dL_law_460 ⟨by omega, by omega⟩ (fun H locs P => ?_)
  refine lv_istore (lv' := [(7, .int ((f_X6_clean (xs (i + 1).toNatClampNeg) ((f_L_clean (xs (i + 1).toNatClampNeg) σ).2)).1)), (6, .int ((f_L_clean (xs (i + 1).toNatClampNeg) σ).1)), (5, .int i), (4, .ref (ad 32)), (3, .ref (ad 31)), (2, .ref (ad 19)), (1, .ref (ad 0)), (0, .ref b)]) hx hb dL_law_463 hl (by decide) rfl (fun ls hl => ?_)
  refine lv_aload_n hx hb dL_law_465 rfl (lv_at hl 5 rfl) ?_
  refine g_callV B F P (As := []) (ct_X6_thrown (D := D) (ad := ad) (cy := cy) (ba := ba) l  ((f_X6_clean (xs (i + 1).toNatClampNeg) ((f_L_clean (xs (i + 1).toNatClampNeg) σ).2)).2) ) ok6 (by decide) rfl q918 q919 q920 q8 q921 nk_X6_thrown rfl ⟨Nat.le_of_ble_eq_true rfl, Nat.le_of_ble_eq_true rfl⟩ hl.1 rfl (Nat.le_of_ble_eq_true rfl) dL_law_466 ⟨by omega, by omega⟩ (fun H locs P => ?_)
  refine lv_iload hx hb dL_law_469 (lv_at hl 1 rfl) ?_
  refine lv_icmp_eq (tgt := 476) hx hb dL_law_471 (by decide) (fun _ => ?_) (fun h9 => absurd ok.2.1 h9)
  refine lv_iload hx hb dL_law_476 (lv_at hl 1 rfl) ?_
  refine lv_if_ne (tgt := 493) hx hb dL_law_478 (by decide) (fun c_k => ?_) (fun c_k => ?_)
  · skip
    refine lv_goto (tgt := 1981) hx hb dL_law_493 (by decide) ?_
    exact kk _ _ _ P (lv_sub hl [2, 3, 4, 5, 6, 7] rfl)
  · skip
    refine lv_aload_n hx hb dL_law_481 rfl (lv_at hl 4 rfl) ?_
    refine lv_iconst (v := 0) hx hb dL_law_482 (by decide) ?_
    refine g_lld B F P (by decide) rfl rfl (by unfold vp_in; decide) dL_law_483 ?_
    refine lv_iload hx hb dL_law_484 (lv_at hl 0 rfl) ?_
    refine lv_i2l hx hb dL_law_486 rfl ?_
    refine W.lcmp hx hb dL_law_487 ?_
    refine lv_if_eq (tgt := 493) hx hb dL_law_488 (by decide) (fun _ => ?_) (fun h9 => absurd (lc_eq (ok.2.2 c_k)) h9)
    refine lv_goto (tgt := 1981) hx hb dL_law_493 (by decide) ?_
    exact kk _ _ _ P (lv_sub hl [2, 3, 4, 5, 6, 7] rfl)
theorem nk_L_fouling : nmOk yL_fouling RL 3 := ⟨rfl, by decide +kernel, by decide +kernel, by decide +kernel⟩
theorem nk_X6_fouling : nmOk yX6_fouling RX6 1 := ⟨rfl, by decide +kernel, by decide +kernel, by decide +kernel⟩
set_option maxHeartbeats 4000000 in
set_option maxRecDepth 100000 in
theorem lc_fouling {D : va_G} {ad : Nat → Nat} {cy : Nat → ClassId} {ba : Nat} {p : Program} {l : Launch} {e : Env} {s : State} {m : MethodId} {args : Array Value} {below : List Frame} {meth : Method} {c : Code} {H : Heap} {locs : List Loc} {cells slots : Nat} {Q : State → Prop} {ls : Array Slot} {b L : Nat} {xs : Nat → Int32} {σ : Sg} {i : Int32} (B : CallFix p m c cL_law 9 s args AW RL) (F : Fx D ad cy ba s) (hst : l.stackTraces = false) (X : va_X b L xs s s.heap) (hbl : b < s.heap.size) (hbA : ¬ ba ≤ b) (P : Wo D ad cy ba s σ H locs) (hl : lv_has ls 9 [(5, .int i), (4, .ref (ad 32)), (3, .ref (ad 31)), (2, .ref (ad 19)), (1, .ref (ad 0)), (0, .ref b)]) (hC : GC 99000 σ) (hi : ∀ k, k ≤ 4 → vp_in (i + nI k) L) (hrc : cells + 4 ≤ room_1.cells) (hrs : slots + 24 ≤ room_1.slots) (ok : (GM 99000 (f_L_fouling (xs (i + 1).toNatClampNeg) σ).2 ∧ rI (f_X6_fouling (xs (i + 1).toNatClampNeg) (f_L_fouling (xs (i + 1).toNatClampNeg) σ).2).2 19 32 = (f_L_fouling (xs (i + 1).toNatClampNeg) σ).1 ∧ ((f_L_fouling (xs (i + 1).toNatClampNeg) σ).1 = 0 → rL (f_X6_fouling (xs (i + 1).toNatClampNeg) (f_L_fouling (xs (i + 1).toNatClampNeg) σ).2).2 31 (Int32.toNatClampNeg 0) = (f_X6_fouling (xs (i + 1).toNatClampNeg) (f_L_fouling (xs (i + 1).toNatClampNeg) σ).2).1.toInt64)))
    (kk : ∀ (H : Heap) (locs : List Loc) (ls : Array Slot), Wo D ad cy ba s (f_X6_fouling (xs (i + 1).toNatClampNeg) (f_L_fouling (xs (i + 1).toNatClampNeg) σ).2).2 H locs → lv_has ls 9 [(5, .int i), (4, .ref (ad 32)), (3, .ref (ad 31)), (2, .ref (ad 19)), (1, .ref (ad 0)), (0, .ref b)] → W p l e room_1 s m args below meth c H locs (cells + 4) (slots + 24) Q (F0 m 1981 ls [])) : W p l e room_1 s m args below meth c H locs cells slots Q (F0 m 496 ls []) := by
  have hx := B.1
  have hb := B.2.1
  refine lv_aload_n hx hb dL_law_496 rfl (lv_at hl 4 rfl) ?_
  refine lv_aload_n hx hb dL_law_497 rfl (lv_at hl 5 rfl) ?_
  refine lv_iload hx hb dL_law_498 (lv_at hl 0 rfl) ?_
  refine lv_iconst (v := 1) hx hb dL_law_500 (by decide) ?_
  refine lv_iadd hx hb dL_law_501 ?_
  refine va_sld hx hb X hbl hbA P.2 (hi 1 (by decide)) dL_law_502 ?_
  refine lv_aload_n hx hb dL_law_503 rfl (lv_at hl 2 rfl) ?_
  refine g_callSw B F P (As := [.ref (ad 0), .int (xs (i + 1).toNatClampNeg), .ref (ad 31)]) (cw_L_fouling (D := D) (ad := ad) (cy := cy) (ba := ba) l (xs (i + 1).toNatClampNeg) σ hst hC) q553 q554 q0 q555 nk_L_fouling rfl ⟨Nat.le_of_ble_eq_true rfl, Nat.le_of_ble_eq_true rfl⟩ hl.1 rfl (Nat.le_of_ble_eq_true rfl) dL_law_504 ⟨hrc, hrs⟩ (fun H locs P => ?_)
  refine lv_istore (lv' := [(6, .int ((f_L_fouling (xs (i + 1).toNatClampNeg) σ).1)), (5, .int i), (4, .ref (ad 32)), (3, .ref (ad 31)), (2, .ref (ad 19)), (1, .ref (ad 0)), (0, .ref b)]) hx hb dL_law_507 hl (by decide) rfl (fun ls hl => ?_)
  refine lv_aload_n hx hb dL_law_509 rfl (lv_at hl 4 rfl) ?_
  refine lv_aload_n hx hb dL_law_510 rfl (lv_at hl 6 rfl) ?_
  refine lv_iload hx hb dL_law_511 (lv_at hl 1 rfl) ?_
  refine lv_iconst (v := 1) hx hb dL_law_513 (by decide) ?_
  refine lv_iadd hx hb dL_law_514 ?_
  refine va_sld hx hb X hbl hbA P.2 (hi 1 (by decide)) dL_law_515 ?_
  refine g_callV B F P (As := [.int (xs (i + 1).toNatClampNeg)]) (ct_X6_fouling (D := D) (ad := ad) (cy := cy) (ba := ba) l (xs (i + 1).toNatClampNeg) ((f_L_fouling (xs (i + 1).toNatClampNeg) σ).2) ok.1) ok6 (by decide) rfl q958 q959 q960 q8 q961 nk_X6_fouling rfl ⟨Nat.le_of_ble_eq_true rfl, Nat.le_of_ble_eq_true rfl⟩ hl.1 rfl (Nat.le_of_ble_eq_true rfl) dL_law_516 ⟨by omega, by omega⟩ (fun H locs P => ?_)
  refine lv_istore (lv' := [(7, .int ((f_X6_fouling (xs (i + 1).toNatClampNeg) ((f_L_fouling (xs (i + 1).toNatClampNeg) σ).2)).1)), (6, .int ((f_L_fouling (xs (i + 1).toNatClampNeg) σ).1)), (5, .int i), (4, .ref (ad 32)), (3, .ref (ad 31)), (2, .ref (ad 19)), (1, .ref (ad 0)), (0, .ref b)]) hx hb dL_law_519 hl (by decide) rfl (fun ls hl => ?_)
  refine lv_aload_n hx hb dL_law_521 rfl (lv_at hl 5 rfl) ?_
  refine g_callV B F P (As := []) (ct_X6_thrown (D := D) (ad := ad) (cy := cy) (ba := ba) l  ((f_X6_fouling (xs (i + 1).toNatClampNeg) ((f_L_fouling (xs (i + 1).toNatClampNeg) σ).2)).2) ) ok6 (by decide) rfl q918 q919 q920 q8 q921 nk_X6_thrown rfl ⟨Nat.le_of_ble_eq_true rfl, Nat.le_of_ble_eq_true rfl⟩ hl.1 rfl (Nat.le_of_ble_eq_true rfl) dL_law_522 ⟨by omega, by omega⟩ (fun H locs P => ?_)
  refine lv_iload hx hb dL_law_525 (lv_at hl 1 rfl) ?_
  refine lv_icmp_eq (tgt := 532) hx hb dL_law_527 (by decide) (fun _ => ?_) (fun h9 => absurd ok.2.1 h9)
  refine lv_iload hx hb dL_law_532 (lv_at hl 1 rfl) ?_
  refine lv_if_ne (tgt := 549) hx hb dL_law_534 (by decide) (fun c_k => ?_) (fun c_k => ?_)
  · skip
    refine lv_goto (tgt := 1981) hx hb dL_law_549 (by decide) ?_
    exact kk _ _ _ P (lv_sub hl [2, 3, 4, 5, 6, 7] rfl)
  · skip
    refine lv_aload_n hx hb dL_law_537 rfl (lv_at hl 4 rfl) ?_
    refine lv_iconst (v := 0) hx hb dL_law_538 (by decide) ?_
    refine g_lld B F P (by decide) rfl rfl (by unfold vp_in; decide) dL_law_539 ?_
    refine lv_iload hx hb dL_law_540 (lv_at hl 0 rfl) ?_
    refine lv_i2l hx hb dL_law_542 rfl ?_
    refine W.lcmp hx hb dL_law_543 ?_
    refine lv_if_eq (tgt := 549) hx hb dL_law_544 (by decide) (fun _ => ?_) (fun h9 => absurd (lc_eq (ok.2.2 c_k)) h9)
    refine lv_goto (tgt := 1981) hx hb dL_law_549 (by decide) ?_
    exact kk _ _ _ P (lv_sub hl [2, 3, 4, 5, 6, 7] rfl)
theorem nk_L_wear : nmOk yL_wear RL 3 := ⟨rfl, by decide +kernel, by decide +kernel, by decide +kernel⟩
theorem nk_X6_wear : nmOk yX6_wear RX6 1 := ⟨rfl, by decide +kernel, by decide +kernel, by decide +kernel⟩
set_option maxHeartbeats 4000000 in
set_option maxRecDepth 100000 in
theorem lc_wear {D : va_G} {ad : Nat → Nat} {cy : Nat → ClassId} {ba : Nat} {p : Program} {l : Launch} {e : Env} {s : State} {m : MethodId} {args : Array Value} {below : List Frame} {meth : Method} {c : Code} {H : Heap} {locs : List Loc} {cells slots : Nat} {Q : State → Prop} {ls : Array Slot} {b L : Nat} {xs : Nat → Int32} {σ : Sg} {i : Int32} (B : CallFix p m c cL_law 9 s args AW RL) (F : Fx D ad cy ba s) (hst : l.stackTraces = false) (X : va_X b L xs s s.heap) (hbl : b < s.heap.size) (hbA : ¬ ba ≤ b) (P : Wo D ad cy ba s σ H locs) (hl : lv_has ls 9 [(5, .int i), (4, .ref (ad 32)), (3, .ref (ad 31)), (2, .ref (ad 19)), (1, .ref (ad 0)), (0, .ref b)]) (hC : GC 99000 σ) (hi : ∀ k, k ≤ 4 → vp_in (i + nI k) L) (hrc : cells + 4 ≤ room_1.cells) (hrs : slots + 24 ≤ room_1.slots) (ok : (GM 99000 (f_L_wear (xs (i + 1).toNatClampNeg) σ).2 ∧ rI (f_X6_wear (xs (i + 1).toNatClampNeg) (f_L_wear (xs (i + 1).toNatClampNeg) σ).2).2 19 32 = (f_L_wear (xs (i + 1).toNatClampNeg) σ).1 ∧ ((f_L_wear (xs (i + 1).toNatClampNeg) σ).1 = 0 → rL (f_X6_wear (xs (i + 1).toNatClampNeg) (f_L_wear (xs (i + 1).toNatClampNeg) σ).2).2 31 (Int32.toNatClampNeg 0) = (f_X6_wear (xs (i + 1).toNatClampNeg) (f_L_wear (xs (i + 1).toNatClampNeg) σ).2).1.toInt64)))
    (kk : ∀ (H : Heap) (locs : List Loc) (ls : Array Slot), Wo D ad cy ba s (f_X6_wear (xs (i + 1).toNatClampNeg) (f_L_wear (xs (i + 1).toNatClampNeg) σ).2).2 H locs → lv_has ls 9 [(5, .int i), (4, .ref (ad 32)), (3, .ref (ad 31)), (2, .ref (ad 19)), (1, .ref (ad 0)), (0, .ref b)] → W p l e room_1 s m args below meth c H locs (cells + 4) (slots + 24) Q (F0 m 1981 ls [])) : W p l e room_1 s m args below meth c H locs cells slots Q (F0 m 552 ls []) := by
  have hx := B.1
  have hb := B.2.1
  refine lv_aload_n hx hb dL_law_552 rfl (lv_at hl 4 rfl) ?_
  refine lv_aload_n hx hb dL_law_553 rfl (lv_at hl 5 rfl) ?_
  refine lv_iload hx hb dL_law_554 (lv_at hl 0 rfl) ?_
  refine lv_iconst (v := 1) hx hb dL_law_556 (by decide) ?_
  refine lv_iadd hx hb dL_law_557 ?_
  refine va_sld hx hb X hbl hbA P.2 (hi 1 (by decide)) dL_law_558 ?_
  refine lv_aload_n hx hb dL_law_559 rfl (lv_at hl 2 rfl) ?_
  refine g_callSw B F P (As := [.ref (ad 0), .int (xs (i + 1).toNatClampNeg), .ref (ad 31)]) (cw_L_wear (D := D) (ad := ad) (cy := cy) (ba := ba) l (xs (i + 1).toNatClampNeg) σ hst hC) q560 q561 q0 q562 nk_L_wear rfl ⟨Nat.le_of_ble_eq_true rfl, Nat.le_of_ble_eq_true rfl⟩ hl.1 rfl (Nat.le_of_ble_eq_true rfl) dL_law_560 ⟨hrc, hrs⟩ (fun H locs P => ?_)
  refine lv_istore (lv' := [(6, .int ((f_L_wear (xs (i + 1).toNatClampNeg) σ).1)), (5, .int i), (4, .ref (ad 32)), (3, .ref (ad 31)), (2, .ref (ad 19)), (1, .ref (ad 0)), (0, .ref b)]) hx hb dL_law_563 hl (by decide) rfl (fun ls hl => ?_)
  refine lv_aload_n hx hb dL_law_565 rfl (lv_at hl 4 rfl) ?_
  refine lv_aload_n hx hb dL_law_566 rfl (lv_at hl 6 rfl) ?_
  refine lv_iload hx hb dL_law_567 (lv_at hl 1 rfl) ?_
  refine lv_iconst (v := 1) hx hb dL_law_569 (by decide) ?_
  refine lv_iadd hx hb dL_law_570 ?_
  refine va_sld hx hb X hbl hbA P.2 (hi 1 (by decide)) dL_law_571 ?_
  refine g_callV B F P (As := [.int (xs (i + 1).toNatClampNeg)]) (ct_X6_wear (D := D) (ad := ad) (cy := cy) (ba := ba) l (xs (i + 1).toNatClampNeg) ((f_L_wear (xs (i + 1).toNatClampNeg) σ).2) ok.1) ok6 (by decide) rfl q962 q963 q964 q8 q965 nk_X6_wear rfl ⟨Nat.le_of_ble_eq_true rfl, Nat.le_of_ble_eq_true rfl⟩ hl.1 rfl (Nat.le_of_ble_eq_true rfl) dL_law_572 ⟨by omega, by omega⟩ (fun H locs P => ?_)
  refine lv_istore (lv' := [(7, .int ((f_X6_wear (xs (i + 1).toNatClampNeg) ((f_L_wear (xs (i + 1).toNatClampNeg) σ).2)).1)), (6, .int ((f_L_wear (xs (i + 1).toNatClampNeg) σ).1)), (5, .int i), (4, .ref (ad 32)), (3, .ref (ad 31)), (2, .ref (ad 19)), (1, .ref (ad 0)), (0, .ref b)]) hx hb dL_law_575 hl (by decide) rfl (fun ls hl => ?_)
  refine lv_aload_n hx hb dL_law_577 rfl (lv_at hl 5 rfl) ?_
  refine g_callV B F P (As := []) (ct_X6_thrown (D := D) (ad := ad) (cy := cy) (ba := ba) l  ((f_X6_wear (xs (i + 1).toNatClampNeg) ((f_L_wear (xs (i + 1).toNatClampNeg) σ).2)).2) ) ok6 (by decide) rfl q918 q919 q920 q8 q921 nk_X6_thrown rfl ⟨Nat.le_of_ble_eq_true rfl, Nat.le_of_ble_eq_true rfl⟩ hl.1 rfl (Nat.le_of_ble_eq_true rfl) dL_law_578 ⟨by omega, by omega⟩ (fun H locs P => ?_)
  refine lv_iload hx hb dL_law_581 (lv_at hl 1 rfl) ?_
  refine lv_icmp_eq (tgt := 588) hx hb dL_law_583 (by decide) (fun _ => ?_) (fun h9 => absurd ok.2.1 h9)
  refine lv_iload hx hb dL_law_588 (lv_at hl 1 rfl) ?_
  refine lv_if_ne (tgt := 605) hx hb dL_law_590 (by decide) (fun c_k => ?_) (fun c_k => ?_)
  · skip
    refine lv_goto (tgt := 1981) hx hb dL_law_605 (by decide) ?_
    exact kk _ _ _ P (lv_sub hl [2, 3, 4, 5, 6, 7] rfl)
  · skip
    refine lv_aload_n hx hb dL_law_593 rfl (lv_at hl 4 rfl) ?_
    refine lv_iconst (v := 0) hx hb dL_law_594 (by decide) ?_
    refine g_lld B F P (by decide) rfl rfl (by unfold vp_in; decide) dL_law_595 ?_
    refine lv_iload hx hb dL_law_596 (lv_at hl 0 rfl) ?_
    refine lv_i2l hx hb dL_law_598 rfl ?_
    refine W.lcmp hx hb dL_law_599 ?_
    refine lv_if_eq (tgt := 605) hx hb dL_law_600 (by decide) (fun _ => ?_) (fun h9 => absurd (lc_eq (ok.2.2 c_k)) h9)
    refine lv_goto (tgt := 1981) hx hb dL_law_605 (by decide) ?_
    exact kk _ _ _ P (lv_sub hl [2, 3, 4, 5, 6, 7] rfl)
theorem nk_L_cleaningLeft : nmOk yL_cleaningLeft RL 3 := ⟨rfl, by decide +kernel, by decide +kernel, by decide +kernel⟩
theorem nk_X6_cleaningLeft : nmOk yX6_cleaningLeft RX6 1 := ⟨rfl, by decide +kernel, by decide +kernel, by decide +kernel⟩
set_option maxHeartbeats 4000000 in
set_option maxRecDepth 100000 in
theorem lc_cleaningLeft {D : va_G} {ad : Nat → Nat} {cy : Nat → ClassId} {ba : Nat} {p : Program} {l : Launch} {e : Env} {s : State} {m : MethodId} {args : Array Value} {below : List Frame} {meth : Method} {c : Code} {H : Heap} {locs : List Loc} {cells slots : Nat} {Q : State → Prop} {ls : Array Slot} {b L : Nat} {xs : Nat → Int32} {σ : Sg} {i : Int32} (B : CallFix p m c cL_law 9 s args AW RL) (F : Fx D ad cy ba s) (hst : l.stackTraces = false) (X : va_X b L xs s s.heap) (hbl : b < s.heap.size) (hbA : ¬ ba ≤ b) (P : Wo D ad cy ba s σ H locs) (hl : lv_has ls 9 [(5, .int i), (4, .ref (ad 32)), (3, .ref (ad 31)), (2, .ref (ad 19)), (1, .ref (ad 0)), (0, .ref b)]) (hC : GC 99000 σ) (hi : ∀ k, k ≤ 4 → vp_in (i + nI k) L) (hrc : cells + 4 ≤ room_1.cells) (hrs : slots + 24 ≤ room_1.slots) (ok : (GM 99000 (f_L_cleaningLeft (xs (i + 1).toNatClampNeg) σ).2 ∧ rI (f_X6_cleaningLeft (xs (i + 1).toNatClampNeg) (f_L_cleaningLeft (xs (i + 1).toNatClampNeg) σ).2).2 19 32 = (f_L_cleaningLeft (xs (i + 1).toNatClampNeg) σ).1 ∧ ((f_L_cleaningLeft (xs (i + 1).toNatClampNeg) σ).1 = 0 → rL (f_X6_cleaningLeft (xs (i + 1).toNatClampNeg) (f_L_cleaningLeft (xs (i + 1).toNatClampNeg) σ).2).2 31 (Int32.toNatClampNeg 0) = (f_X6_cleaningLeft (xs (i + 1).toNatClampNeg) (f_L_cleaningLeft (xs (i + 1).toNatClampNeg) σ).2).1.toInt64)))
    (kk : ∀ (H : Heap) (locs : List Loc) (ls : Array Slot), Wo D ad cy ba s (f_X6_cleaningLeft (xs (i + 1).toNatClampNeg) (f_L_cleaningLeft (xs (i + 1).toNatClampNeg) σ).2).2 H locs → lv_has ls 9 [(5, .int i), (4, .ref (ad 32)), (3, .ref (ad 31)), (2, .ref (ad 19)), (1, .ref (ad 0)), (0, .ref b)] → W p l e room_1 s m args below meth c H locs (cells + 4) (slots + 24) Q (F0 m 1981 ls [])) : W p l e room_1 s m args below meth c H locs cells slots Q (F0 m 608 ls []) := by
  have hx := B.1
  have hb := B.2.1
  refine lv_aload_n hx hb dL_law_608 rfl (lv_at hl 4 rfl) ?_
  refine lv_aload_n hx hb dL_law_609 rfl (lv_at hl 5 rfl) ?_
  refine lv_iload hx hb dL_law_610 (lv_at hl 0 rfl) ?_
  refine lv_iconst (v := 1) hx hb dL_law_612 (by decide) ?_
  refine lv_iadd hx hb dL_law_613 ?_
  refine va_sld hx hb X hbl hbA P.2 (hi 1 (by decide)) dL_law_614 ?_
  refine lv_aload_n hx hb dL_law_615 rfl (lv_at hl 2 rfl) ?_
  refine g_callSw B F P (As := [.ref (ad 0), .int (xs (i + 1).toNatClampNeg), .ref (ad 31)]) (cw_L_cleaningLeft (D := D) (ad := ad) (cy := cy) (ba := ba) l (xs (i + 1).toNatClampNeg) σ hst hC) q567 q568 q0 q569 nk_L_cleaningLeft rfl ⟨Nat.le_of_ble_eq_true rfl, Nat.le_of_ble_eq_true rfl⟩ hl.1 rfl (Nat.le_of_ble_eq_true rfl) dL_law_616 ⟨hrc, hrs⟩ (fun H locs P => ?_)
  refine lv_istore (lv' := [(6, .int ((f_L_cleaningLeft (xs (i + 1).toNatClampNeg) σ).1)), (5, .int i), (4, .ref (ad 32)), (3, .ref (ad 31)), (2, .ref (ad 19)), (1, .ref (ad 0)), (0, .ref b)]) hx hb dL_law_619 hl (by decide) rfl (fun ls hl => ?_)
  refine lv_aload_n hx hb dL_law_621 rfl (lv_at hl 4 rfl) ?_
  refine lv_aload_n hx hb dL_law_622 rfl (lv_at hl 6 rfl) ?_
  refine lv_iload hx hb dL_law_623 (lv_at hl 1 rfl) ?_
  refine lv_iconst (v := 1) hx hb dL_law_625 (by decide) ?_
  refine lv_iadd hx hb dL_law_626 ?_
  refine va_sld hx hb X hbl hbA P.2 (hi 1 (by decide)) dL_law_627 ?_
  refine g_callV B F P (As := [.int (xs (i + 1).toNatClampNeg)]) (ct_X6_cleaningLeft (D := D) (ad := ad) (cy := cy) (ba := ba) l (xs (i + 1).toNatClampNeg) ((f_L_cleaningLeft (xs (i + 1).toNatClampNeg) σ).2) ok.1) ok6 (by decide) rfl q966 q967 q968 q8 q969 nk_X6_cleaningLeft rfl ⟨Nat.le_of_ble_eq_true rfl, Nat.le_of_ble_eq_true rfl⟩ hl.1 rfl (Nat.le_of_ble_eq_true rfl) dL_law_628 ⟨by omega, by omega⟩ (fun H locs P => ?_)
  refine lv_istore (lv' := [(7, .int ((f_X6_cleaningLeft (xs (i + 1).toNatClampNeg) ((f_L_cleaningLeft (xs (i + 1).toNatClampNeg) σ).2)).1)), (6, .int ((f_L_cleaningLeft (xs (i + 1).toNatClampNeg) σ).1)), (5, .int i), (4, .ref (ad 32)), (3, .ref (ad 31)), (2, .ref (ad 19)), (1, .ref (ad 0)), (0, .ref b)]) hx hb dL_law_631 hl (by decide) rfl (fun ls hl => ?_)
  refine lv_aload_n hx hb dL_law_633 rfl (lv_at hl 5 rfl) ?_
  refine g_callV B F P (As := []) (ct_X6_thrown (D := D) (ad := ad) (cy := cy) (ba := ba) l  ((f_X6_cleaningLeft (xs (i + 1).toNatClampNeg) ((f_L_cleaningLeft (xs (i + 1).toNatClampNeg) σ).2)).2) ) ok6 (by decide) rfl q918 q919 q920 q8 q921 nk_X6_thrown rfl ⟨Nat.le_of_ble_eq_true rfl, Nat.le_of_ble_eq_true rfl⟩ hl.1 rfl (Nat.le_of_ble_eq_true rfl) dL_law_634 ⟨by omega, by omega⟩ (fun H locs P => ?_)
  refine lv_iload hx hb dL_law_637 (lv_at hl 1 rfl) ?_
  refine lv_icmp_eq (tgt := 644) hx hb dL_law_639 (by decide) (fun _ => ?_) (fun h9 => absurd ok.2.1 h9)
  refine lv_iload hx hb dL_law_644 (lv_at hl 1 rfl) ?_
  refine lv_if_ne (tgt := 661) hx hb dL_law_646 (by decide) (fun c_k => ?_) (fun c_k => ?_)
  · skip
    refine lv_goto (tgt := 1981) hx hb dL_law_661 (by decide) ?_
    exact kk _ _ _ P (lv_sub hl [2, 3, 4, 5, 6, 7] rfl)
  · skip
    refine lv_aload_n hx hb dL_law_649 rfl (lv_at hl 4 rfl) ?_
    refine lv_iconst (v := 0) hx hb dL_law_650 (by decide) ?_
    refine g_lld B F P (by decide) rfl rfl (by unfold vp_in; decide) dL_law_651 ?_
    refine lv_iload hx hb dL_law_652 (lv_at hl 0 rfl) ?_
    refine lv_i2l hx hb dL_law_654 rfl ?_
    refine W.lcmp hx hb dL_law_655 ?_
    refine lv_if_eq (tgt := 661) hx hb dL_law_656 (by decide) (fun _ => ?_) (fun h9 => absurd (lc_eq (ok.2.2 c_k)) h9)
    refine lv_goto (tgt := 1981) hx hb dL_law_661 (by decide) ?_
    exact kk _ _ _ P (lv_sub hl [2, 3, 4, 5, 6, 7] rfl)
theorem nk_L_productOf : nmOk yL_productOf RL 3 := ⟨rfl, by decide +kernel, by decide +kernel, by decide +kernel⟩
theorem nk_X6_productOf : nmOk yX6_productOf RX6 1 := ⟨rfl, by decide +kernel, by decide +kernel, by decide +kernel⟩
set_option maxHeartbeats 4000000 in
set_option maxRecDepth 100000 in
theorem lc_productOf {D : va_G} {ad : Nat → Nat} {cy : Nat → ClassId} {ba : Nat} {p : Program} {l : Launch} {e : Env} {s : State} {m : MethodId} {args : Array Value} {below : List Frame} {meth : Method} {c : Code} {H : Heap} {locs : List Loc} {cells slots : Nat} {Q : State → Prop} {ls : Array Slot} {b L : Nat} {xs : Nat → Int32} {σ : Sg} {i : Int32} (B : CallFix p m c cL_law 9 s args AW RL) (F : Fx D ad cy ba s) (hst : l.stackTraces = false) (X : va_X b L xs s s.heap) (hbl : b < s.heap.size) (hbA : ¬ ba ≤ b) (P : Wo D ad cy ba s σ H locs) (hl : lv_has ls 9 [(5, .int i), (4, .ref (ad 32)), (3, .ref (ad 31)), (2, .ref (ad 19)), (1, .ref (ad 0)), (0, .ref b)]) (hC : GC 99000 σ) (hi : ∀ k, k ≤ 4 → vp_in (i + nI k) L) (hrc : cells + 4 ≤ room_1.cells) (hrs : slots + 24 ≤ room_1.slots) (ok : (GM 99000 (f_L_productOf (xs (i + 1).toNatClampNeg) σ).2 ∧ rI (f_X6_productOf (xs (i + 1).toNatClampNeg) (f_L_productOf (xs (i + 1).toNatClampNeg) σ).2).2 19 32 = (f_L_productOf (xs (i + 1).toNatClampNeg) σ).1 ∧ ((f_L_productOf (xs (i + 1).toNatClampNeg) σ).1 = 0 → rL (f_X6_productOf (xs (i + 1).toNatClampNeg) (f_L_productOf (xs (i + 1).toNatClampNeg) σ).2).2 31 (Int32.toNatClampNeg 0) = (f_X6_productOf (xs (i + 1).toNatClampNeg) (f_L_productOf (xs (i + 1).toNatClampNeg) σ).2).1.toInt64)))
    (kk : ∀ (H : Heap) (locs : List Loc) (ls : Array Slot), Wo D ad cy ba s (f_X6_productOf (xs (i + 1).toNatClampNeg) (f_L_productOf (xs (i + 1).toNatClampNeg) σ).2).2 H locs → lv_has ls 9 [(5, .int i), (4, .ref (ad 32)), (3, .ref (ad 31)), (2, .ref (ad 19)), (1, .ref (ad 0)), (0, .ref b)] → W p l e room_1 s m args below meth c H locs (cells + 4) (slots + 24) Q (F0 m 1981 ls [])) : W p l e room_1 s m args below meth c H locs cells slots Q (F0 m 664 ls []) := by
  have hx := B.1
  have hb := B.2.1
  refine lv_aload_n hx hb dL_law_664 rfl (lv_at hl 4 rfl) ?_
  refine lv_aload_n hx hb dL_law_665 rfl (lv_at hl 5 rfl) ?_
  refine lv_iload hx hb dL_law_666 (lv_at hl 0 rfl) ?_
  refine lv_iconst (v := 1) hx hb dL_law_668 (by decide) ?_
  refine lv_iadd hx hb dL_law_669 ?_
  refine va_sld hx hb X hbl hbA P.2 (hi 1 (by decide)) dL_law_670 ?_
  refine lv_aload_n hx hb dL_law_671 rfl (lv_at hl 2 rfl) ?_
  refine g_callSw B F P (As := [.ref (ad 0), .int (xs (i + 1).toNatClampNeg), .ref (ad 31)]) (cw_L_productOf (D := D) (ad := ad) (cy := cy) (ba := ba) l (xs (i + 1).toNatClampNeg) σ hst hC) q574 q575 q0 q576 nk_L_productOf rfl ⟨Nat.le_of_ble_eq_true rfl, Nat.le_of_ble_eq_true rfl⟩ hl.1 rfl (Nat.le_of_ble_eq_true rfl) dL_law_672 ⟨hrc, hrs⟩ (fun H locs P => ?_)
  refine lv_istore (lv' := [(6, .int ((f_L_productOf (xs (i + 1).toNatClampNeg) σ).1)), (5, .int i), (4, .ref (ad 32)), (3, .ref (ad 31)), (2, .ref (ad 19)), (1, .ref (ad 0)), (0, .ref b)]) hx hb dL_law_675 hl (by decide) rfl (fun ls hl => ?_)
  refine lv_aload_n hx hb dL_law_677 rfl (lv_at hl 4 rfl) ?_
  refine lv_aload_n hx hb dL_law_678 rfl (lv_at hl 6 rfl) ?_
  refine lv_iload hx hb dL_law_679 (lv_at hl 1 rfl) ?_
  refine lv_iconst (v := 1) hx hb dL_law_681 (by decide) ?_
  refine lv_iadd hx hb dL_law_682 ?_
  refine va_sld hx hb X hbl hbA P.2 (hi 1 (by decide)) dL_law_683 ?_
  refine g_callV B F P (As := [.int (xs (i + 1).toNatClampNeg)]) (ct_X6_productOf (D := D) (ad := ad) (cy := cy) (ba := ba) l (xs (i + 1).toNatClampNeg) ((f_L_productOf (xs (i + 1).toNatClampNeg) σ).2) ok.1) ok6 (by decide) rfl q970 q971 q972 q8 q973 nk_X6_productOf rfl ⟨Nat.le_of_ble_eq_true rfl, Nat.le_of_ble_eq_true rfl⟩ hl.1 rfl (Nat.le_of_ble_eq_true rfl) dL_law_684 ⟨by omega, by omega⟩ (fun H locs P => ?_)
  refine lv_istore (lv' := [(7, .int ((f_X6_productOf (xs (i + 1).toNatClampNeg) ((f_L_productOf (xs (i + 1).toNatClampNeg) σ).2)).1)), (6, .int ((f_L_productOf (xs (i + 1).toNatClampNeg) σ).1)), (5, .int i), (4, .ref (ad 32)), (3, .ref (ad 31)), (2, .ref (ad 19)), (1, .ref (ad 0)), (0, .ref b)]) hx hb dL_law_687 hl (by decide) rfl (fun ls hl => ?_)
  refine lv_aload_n hx hb dL_law_689 rfl (lv_at hl 5 rfl) ?_
  refine g_callV B F P (As := []) (ct_X6_thrown (D := D) (ad := ad) (cy := cy) (ba := ba) l  ((f_X6_productOf (xs (i + 1).toNatClampNeg) ((f_L_productOf (xs (i + 1).toNatClampNeg) σ).2)).2) ) ok6 (by decide) rfl q918 q919 q920 q8 q921 nk_X6_thrown rfl ⟨Nat.le_of_ble_eq_true rfl, Nat.le_of_ble_eq_true rfl⟩ hl.1 rfl (Nat.le_of_ble_eq_true rfl) dL_law_690 ⟨by omega, by omega⟩ (fun H locs P => ?_)
  refine lv_iload hx hb dL_law_693 (lv_at hl 1 rfl) ?_
  refine lv_icmp_eq (tgt := 700) hx hb dL_law_695 (by decide) (fun _ => ?_) (fun h9 => absurd ok.2.1 h9)
  refine lv_iload hx hb dL_law_700 (lv_at hl 1 rfl) ?_
  refine lv_if_ne (tgt := 717) hx hb dL_law_702 (by decide) (fun c_k => ?_) (fun c_k => ?_)
  · skip
    refine lv_goto (tgt := 1981) hx hb dL_law_717 (by decide) ?_
    exact kk _ _ _ P (lv_sub hl [2, 3, 4, 5, 6, 7] rfl)
  · skip
    refine lv_aload_n hx hb dL_law_705 rfl (lv_at hl 4 rfl) ?_
    refine lv_iconst (v := 0) hx hb dL_law_706 (by decide) ?_
    refine g_lld B F P (by decide) rfl rfl (by unfold vp_in; decide) dL_law_707 ?_
    refine lv_iload hx hb dL_law_708 (lv_at hl 0 rfl) ?_
    refine lv_i2l hx hb dL_law_710 rfl ?_
    refine W.lcmp hx hb dL_law_711 ?_
    refine lv_if_eq (tgt := 717) hx hb dL_law_712 (by decide) (fun _ => ?_) (fun h9 => absurd (lc_eq (ok.2.2 c_k)) h9)
    refine lv_goto (tgt := 1981) hx hb dL_law_717 (by decide) ?_
    exact kk _ _ _ P (lv_sub hl [2, 3, 4, 5, 6, 7] rfl)
theorem nk_L_energyOf : nmOk yL_energyOf RL 3 := ⟨rfl, by decide +kernel, by decide +kernel, by decide +kernel⟩
theorem nk_X6_energyOf : nmOk yX6_energyOf RX6 1 := ⟨rfl, by decide +kernel, by decide +kernel, by decide +kernel⟩
set_option maxHeartbeats 4000000 in
set_option maxRecDepth 100000 in
theorem lc_energyOf {D : va_G} {ad : Nat → Nat} {cy : Nat → ClassId} {ba : Nat} {p : Program} {l : Launch} {e : Env} {s : State} {m : MethodId} {args : Array Value} {below : List Frame} {meth : Method} {c : Code} {H : Heap} {locs : List Loc} {cells slots : Nat} {Q : State → Prop} {ls : Array Slot} {b L : Nat} {xs : Nat → Int32} {σ : Sg} {i : Int32} (B : CallFix p m c cL_law 9 s args AW RL) (F : Fx D ad cy ba s) (hst : l.stackTraces = false) (X : va_X b L xs s s.heap) (hbl : b < s.heap.size) (hbA : ¬ ba ≤ b) (P : Wo D ad cy ba s σ H locs) (hl : lv_has ls 9 [(5, .int i), (4, .ref (ad 32)), (3, .ref (ad 31)), (2, .ref (ad 19)), (1, .ref (ad 0)), (0, .ref b)]) (hC : GC 99000 σ) (hi : ∀ k, k ≤ 4 → vp_in (i + nI k) L) (hrc : cells + 4 ≤ room_1.cells) (hrs : slots + 24 ≤ room_1.slots) (ok : (GM 99000 (f_L_energyOf (xs (i + 1).toNatClampNeg) σ).2 ∧ rI (f_X6_energyOf (xs (i + 1).toNatClampNeg) (f_L_energyOf (xs (i + 1).toNatClampNeg) σ).2).2 19 32 = (f_L_energyOf (xs (i + 1).toNatClampNeg) σ).1 ∧ ((f_L_energyOf (xs (i + 1).toNatClampNeg) σ).1 = 0 → rL (f_X6_energyOf (xs (i + 1).toNatClampNeg) (f_L_energyOf (xs (i + 1).toNatClampNeg) σ).2).2 31 (Int32.toNatClampNeg 0) = (f_X6_energyOf (xs (i + 1).toNatClampNeg) (f_L_energyOf (xs (i + 1).toNatClampNeg) σ).2).1.toInt64)))
    (kk : ∀ (H : Heap) (locs : List Loc) (ls : Array Slot), Wo D ad cy ba s (f_X6_energyOf (xs (i + 1).toNatClampNeg) (f_L_energyOf (xs (i + 1).toNatClampNeg) σ).2).2 H locs → lv_has ls 9 [(5, .int i), (4, .ref (ad 32)), (3, .ref (ad 31)), (2, .ref (ad 19)), (1, .ref (ad 0)), (0, .ref b)] → W p l e room_1 s m args below meth c H locs (cells + 4) (slots + 24) Q (F0 m 1981 ls [])) : W p l e room_1 s m args below meth c H locs cells slots Q (F0 m 720 ls []) := by
  have hx := B.1
  have hb := B.2.1
  refine lv_aload_n hx hb dL_law_720 rfl (lv_at hl 4 rfl) ?_
  refine lv_aload_n hx hb dL_law_721 rfl (lv_at hl 5 rfl) ?_
  refine lv_iload hx hb dL_law_722 (lv_at hl 0 rfl) ?_
  refine lv_iconst (v := 1) hx hb dL_law_724 (by decide) ?_
  refine lv_iadd hx hb dL_law_725 ?_
  refine va_sld hx hb X hbl hbA P.2 (hi 1 (by decide)) dL_law_726 ?_
  refine lv_aload_n hx hb dL_law_727 rfl (lv_at hl 2 rfl) ?_
  refine g_callSw B F P (As := [.ref (ad 0), .int (xs (i + 1).toNatClampNeg), .ref (ad 31)]) (cw_L_energyOf (D := D) (ad := ad) (cy := cy) (ba := ba) l (xs (i + 1).toNatClampNeg) σ hst hC) q582 q583 q0 q584 nk_L_energyOf rfl ⟨Nat.le_of_ble_eq_true rfl, Nat.le_of_ble_eq_true rfl⟩ hl.1 rfl (Nat.le_of_ble_eq_true rfl) dL_law_728 ⟨hrc, hrs⟩ (fun H locs P => ?_)
  refine lv_istore (lv' := [(6, .int ((f_L_energyOf (xs (i + 1).toNatClampNeg) σ).1)), (5, .int i), (4, .ref (ad 32)), (3, .ref (ad 31)), (2, .ref (ad 19)), (1, .ref (ad 0)), (0, .ref b)]) hx hb dL_law_731 hl (by decide) rfl (fun ls hl => ?_)
  refine lv_aload_n hx hb dL_law_733 rfl (lv_at hl 4 rfl) ?_
  refine lv_aload_n hx hb dL_law_734 rfl (lv_at hl 6 rfl) ?_
  refine lv_iload hx hb dL_law_735 (lv_at hl 1 rfl) ?_
  refine lv_iconst (v := 1) hx hb dL_law_737 (by decide) ?_
  refine lv_iadd hx hb dL_law_738 ?_
  refine va_sld hx hb X hbl hbA P.2 (hi 1 (by decide)) dL_law_739 ?_
  refine g_callV B F P (As := [.int (xs (i + 1).toNatClampNeg)]) (ct_X6_energyOf (D := D) (ad := ad) (cy := cy) (ba := ba) l (xs (i + 1).toNatClampNeg) ((f_L_energyOf (xs (i + 1).toNatClampNeg) σ).2) ok.1) ok6 (by decide) rfl q981 q982 q983 q8 q984 nk_X6_energyOf rfl ⟨Nat.le_of_ble_eq_true rfl, Nat.le_of_ble_eq_true rfl⟩ hl.1 rfl (Nat.le_of_ble_eq_true rfl) dL_law_740 ⟨by omega, by omega⟩ (fun H locs P => ?_)
  refine lv_istore (lv' := [(7, .int ((f_X6_energyOf (xs (i + 1).toNatClampNeg) ((f_L_energyOf (xs (i + 1).toNatClampNeg) σ).2)).1)), (6, .int ((f_L_energyOf (xs (i + 1).toNatClampNeg) σ).1)), (5, .int i), (4, .ref (ad 32)), (3, .ref (ad 31)), (2, .ref (ad 19)), (1, .ref (ad 0)), (0, .ref b)]) hx hb dL_law_743 hl (by decide) rfl (fun ls hl => ?_)
  refine lv_aload_n hx hb dL_law_745 rfl (lv_at hl 5 rfl) ?_
  refine g_callV B F P (As := []) (ct_X6_thrown (D := D) (ad := ad) (cy := cy) (ba := ba) l  ((f_X6_energyOf (xs (i + 1).toNatClampNeg) ((f_L_energyOf (xs (i + 1).toNatClampNeg) σ).2)).2) ) ok6 (by decide) rfl q918 q919 q920 q8 q921 nk_X6_thrown rfl ⟨Nat.le_of_ble_eq_true rfl, Nat.le_of_ble_eq_true rfl⟩ hl.1 rfl (Nat.le_of_ble_eq_true rfl) dL_law_746 ⟨by omega, by omega⟩ (fun H locs P => ?_)
  refine lv_iload hx hb dL_law_749 (lv_at hl 1 rfl) ?_
  refine lv_icmp_eq (tgt := 756) hx hb dL_law_751 (by decide) (fun _ => ?_) (fun h9 => absurd ok.2.1 h9)
  refine lv_iload hx hb dL_law_756 (lv_at hl 1 rfl) ?_
  refine lv_if_ne (tgt := 773) hx hb dL_law_758 (by decide) (fun c_k => ?_) (fun c_k => ?_)
  · skip
    refine lv_goto (tgt := 1981) hx hb dL_law_773 (by decide) ?_
    exact kk _ _ _ P (lv_sub hl [2, 3, 4, 5, 6, 7] rfl)
  · skip
    refine lv_aload_n hx hb dL_law_761 rfl (lv_at hl 4 rfl) ?_
    refine lv_iconst (v := 0) hx hb dL_law_762 (by decide) ?_
    refine g_lld B F P (by decide) rfl rfl (by unfold vp_in; decide) dL_law_763 ?_
    refine lv_iload hx hb dL_law_764 (lv_at hl 0 rfl) ?_
    refine lv_i2l hx hb dL_law_766 rfl ?_
    refine W.lcmp hx hb dL_law_767 ?_
    refine lv_if_eq (tgt := 773) hx hb dL_law_768 (by decide) (fun _ => ?_) (fun h9 => absurd (lc_eq (ok.2.2 c_k)) h9)
    refine lv_goto (tgt := 1981) hx hb dL_law_773 (by decide) ?_
    exact kk _ _ _ P (lv_sub hl [2, 3, 4, 5, 6, 7] rfl)
theorem nk_X5_readyTrains : nmOk yX5_readyTrains RX5 0 := ⟨rfl, by decide +kernel, by decide +kernel, by decide +kernel⟩
theorem nk_X6_readyTrains : nmOk yX6_readyTrains RX6 0 := ⟨rfl, by decide +kernel, by decide +kernel, by decide +kernel⟩
set_option maxHeartbeats 4000000 in
set_option maxRecDepth 100000 in
theorem lc_readyTrains {D : va_G} {ad : Nat → Nat} {cy : Nat → ClassId} {ba : Nat} {p : Program} {l : Launch} {e : Env} {s : State} {m : MethodId} {args : Array Value} {below : List Frame} {meth : Method} {c : Code} {H : Heap} {locs : List Loc} {cells slots : Nat} {Q : State → Prop} {ls : Array Slot} {b L : Nat} {xs : Nat → Int32} {σ : Sg} {i : Int32} (B : CallFix p m c cL_law 9 s args AW RL) (F : Fx D ad cy ba s) (hst : l.stackTraces = false) (X : va_X b L xs s s.heap) (hbl : b < s.heap.size) (hbA : ¬ ba ≤ b) (P : Wo D ad cy ba s σ H locs) (hl : lv_has ls 9 [(5, .int i), (4, .ref (ad 32)), (3, .ref (ad 31)), (2, .ref (ad 19)), (1, .ref (ad 0)), (0, .ref b)]) (hC : GC 99000 σ) (hi : ∀ k, k ≤ 4 → vp_in (i + nI k) L) (hrc : cells + 4 ≤ room_1.cells) (hrs : slots + 24 ≤ room_1.slots) (ok : (GM 99000 σ ∧ (f_X5_readyTrains σ) = (f_X6_readyTrains σ).1))
    (kk : ∀ (H : Heap) (locs : List Loc) (ls : Array Slot), Wo D ad cy ba s (f_X6_readyTrains σ).2 H locs → lv_has ls 9 [(5, .int i), (4, .ref (ad 32)), (3, .ref (ad 31)), (2, .ref (ad 19)), (1, .ref (ad 0)), (0, .ref b)] → W p l e room_1 s m args below meth c H locs (cells + 4) (slots + 24) Q (F0 m 1981 ls [])) : W p l e room_1 s m args below meth c H locs cells slots Q (F0 m 776 ls []) := by
  have hx := B.1
  have hb := B.2.1
  refine lv_aload_n hx hb dL_law_776 rfl (lv_at hl 4 rfl) ?_
  refine g_callV B F P (As := []) (ct_X5_readyTrains (D := D) (ad := ad) (cy := cy) (ba := ba) l  σ hC) ok5 (by decide) rfl q260 q261 q262 q1 q263 nk_X5_readyTrains rfl ⟨Nat.le_of_ble_eq_true rfl, Nat.le_of_ble_eq_true rfl⟩ hl.1 rfl (Nat.le_of_ble_eq_true rfl) dL_law_777 ⟨by omega, by omega⟩ (fun H locs P => ?_)
  refine lv_aload_n hx hb dL_law_780 rfl (lv_at hl 3 rfl) ?_
  refine g_callV B F P (As := []) (ct_X6_readyTrains (D := D) (ad := ad) (cy := cy) (ba := ba) l  σ ok.1) ok6 (by decide) rfl q993 q994 q995 q8 q996 nk_X6_readyTrains rfl ⟨Nat.le_of_ble_eq_true rfl, Nat.le_of_ble_eq_true rfl⟩ hl.1 rfl (Nat.le_of_ble_eq_true rfl) dL_law_781 ⟨by omega, by omega⟩ (fun H locs P => ?_)
  refine lv_icmp_eq (tgt := 1981) hx hb dL_law_784 (by decide) (fun _ => ?_) (fun h9 => absurd ok.2 h9)
  refine W.widen (k := cells + 4) (n := slots + 24) (by omega) (by omega) ?_
  exact kk _ _ _ P (lv_sub hl [0, 1, 2, 3, 4, 5] rfl)
theorem nk_L_addTank : nmOk yL_addTank RL 3 := ⟨rfl, by decide +kernel, by decide +kernel, by decide +kernel⟩
theorem nk_X6_addTank : nmOk yX6_addTank RX6 1 := ⟨rfl, by decide +kernel, by decide +kernel, by decide +kernel⟩
set_option maxHeartbeats 4000000 in
set_option maxRecDepth 100000 in
theorem lc_addTank {D : va_G} {ad : Nat → Nat} {cy : Nat → ClassId} {ba : Nat} {p : Program} {l : Launch} {e : Env} {s : State} {m : MethodId} {args : Array Value} {below : List Frame} {meth : Method} {c : Code} {H : Heap} {locs : List Loc} {cells slots : Nat} {Q : State → Prop} {ls : Array Slot} {b L : Nat} {xs : Nat → Int32} {σ : Sg} {i : Int32} (B : CallFix p m c cL_law 9 s args AW RL) (F : Fx D ad cy ba s) (hst : l.stackTraces = false) (X : va_X b L xs s s.heap) (hbl : b < s.heap.size) (hbA : ¬ ba ≤ b) (P : Wo D ad cy ba s σ H locs) (hl : lv_has ls 9 [(5, .int i), (4, .ref (ad 32)), (3, .ref (ad 31)), (2, .ref (ad 19)), (1, .ref (ad 0)), (0, .ref b)]) (hC : GC 99000 σ) (hi : ∀ k, k ≤ 4 → vp_in (i + nI k) L) (hrc : cells + 4 ≤ room_1.cells) (hrs : slots + 24 ≤ room_1.slots) (ok : (GM 99000 (f_L_addTank (xs (i + 1).toNatClampNeg) σ).2 ∧ rI (f_X6_addTank (xs (i + 1).toNatClampNeg) (f_L_addTank (xs (i + 1).toNatClampNeg) σ).2).2 19 32 = (f_L_addTank (xs (i + 1).toNatClampNeg) σ).1 ∧ ((f_L_addTank (xs (i + 1).toNatClampNeg) σ).1 = 0 → rL (f_X6_addTank (xs (i + 1).toNatClampNeg) (f_L_addTank (xs (i + 1).toNatClampNeg) σ).2).2 31 (Int32.toNatClampNeg 0) = (f_X6_addTank (xs (i + 1).toNatClampNeg) (f_L_addTank (xs (i + 1).toNatClampNeg) σ).2).1.toInt64)))
    (kk : ∀ (H : Heap) (locs : List Loc) (ls : Array Slot), Wo D ad cy ba s (f_X6_addTank (xs (i + 1).toNatClampNeg) (f_L_addTank (xs (i + 1).toNatClampNeg) σ).2).2 H locs → lv_has ls 9 [(5, .int i), (4, .ref (ad 32)), (3, .ref (ad 31)), (2, .ref (ad 19)), (1, .ref (ad 0)), (0, .ref b)] → W p l e room_1 s m args below meth c H locs (cells + 4) (slots + 24) Q (F0 m 1981 ls [])) : W p l e room_1 s m args below meth c H locs cells slots Q (F0 m 789 ls []) := by
  have hx := B.1
  have hb := B.2.1
  refine lv_aload_n hx hb dL_law_789 rfl (lv_at hl 4 rfl) ?_
  refine lv_aload_n hx hb dL_law_790 rfl (lv_at hl 5 rfl) ?_
  refine lv_iload hx hb dL_law_791 (lv_at hl 0 rfl) ?_
  refine lv_iconst (v := 1) hx hb dL_law_793 (by decide) ?_
  refine lv_iadd hx hb dL_law_794 ?_
  refine va_sld hx hb X hbl hbA P.2 (hi 1 (by decide)) dL_law_795 ?_
  refine lv_aload_n hx hb dL_law_796 rfl (lv_at hl 2 rfl) ?_
  refine g_callSw B F P (As := [.ref (ad 0), .int (xs (i + 1).toNatClampNeg), .ref (ad 31)]) (cw_L_addTank (D := D) (ad := ad) (cy := cy) (ba := ba) l (xs (i + 1).toNatClampNeg) σ hst hC) q591 q592 q0 q593 nk_L_addTank rfl ⟨Nat.le_of_ble_eq_true rfl, Nat.le_of_ble_eq_true rfl⟩ hl.1 rfl (Nat.le_of_ble_eq_true rfl) dL_law_797 ⟨hrc, hrs⟩ (fun H locs P => ?_)
  refine lv_istore (lv' := [(6, .int ((f_L_addTank (xs (i + 1).toNatClampNeg) σ).1)), (5, .int i), (4, .ref (ad 32)), (3, .ref (ad 31)), (2, .ref (ad 19)), (1, .ref (ad 0)), (0, .ref b)]) hx hb dL_law_800 hl (by decide) rfl (fun ls hl => ?_)
  refine lv_aload_n hx hb dL_law_802 rfl (lv_at hl 4 rfl) ?_
  refine lv_aload_n hx hb dL_law_803 rfl (lv_at hl 6 rfl) ?_
  refine lv_iload hx hb dL_law_804 (lv_at hl 1 rfl) ?_
  refine lv_iconst (v := 1) hx hb dL_law_806 (by decide) ?_
  refine lv_iadd hx hb dL_law_807 ?_
  refine va_sld hx hb X hbl hbA P.2 (hi 1 (by decide)) dL_law_808 ?_
  refine g_callV B F P (As := [.int (xs (i + 1).toNatClampNeg)]) (ct_X6_addTank (D := D) (ad := ad) (cy := cy) (ba := ba) l (xs (i + 1).toNatClampNeg) ((f_L_addTank (xs (i + 1).toNatClampNeg) σ).2) ok.1) ok6 (by decide) rfl q997 q998 q999 q8 q1000 nk_X6_addTank rfl ⟨Nat.le_of_ble_eq_true rfl, Nat.le_of_ble_eq_true rfl⟩ hl.1 rfl (Nat.le_of_ble_eq_true rfl) dL_law_809 ⟨by omega, by omega⟩ (fun H locs P => ?_)
  refine lv_istore (lv' := [(7, .int ((f_X6_addTank (xs (i + 1).toNatClampNeg) ((f_L_addTank (xs (i + 1).toNatClampNeg) σ).2)).1)), (6, .int ((f_L_addTank (xs (i + 1).toNatClampNeg) σ).1)), (5, .int i), (4, .ref (ad 32)), (3, .ref (ad 31)), (2, .ref (ad 19)), (1, .ref (ad 0)), (0, .ref b)]) hx hb dL_law_812 hl (by decide) rfl (fun ls hl => ?_)
  refine lv_aload_n hx hb dL_law_814 rfl (lv_at hl 5 rfl) ?_
  refine g_callV B F P (As := []) (ct_X6_thrown (D := D) (ad := ad) (cy := cy) (ba := ba) l  ((f_X6_addTank (xs (i + 1).toNatClampNeg) ((f_L_addTank (xs (i + 1).toNatClampNeg) σ).2)).2) ) ok6 (by decide) rfl q918 q919 q920 q8 q921 nk_X6_thrown rfl ⟨Nat.le_of_ble_eq_true rfl, Nat.le_of_ble_eq_true rfl⟩ hl.1 rfl (Nat.le_of_ble_eq_true rfl) dL_law_815 ⟨by omega, by omega⟩ (fun H locs P => ?_)
  refine lv_iload hx hb dL_law_818 (lv_at hl 1 rfl) ?_
  refine lv_icmp_eq (tgt := 825) hx hb dL_law_820 (by decide) (fun _ => ?_) (fun h9 => absurd ok.2.1 h9)
  refine lv_iload hx hb dL_law_825 (lv_at hl 1 rfl) ?_
  refine lv_if_ne (tgt := 842) hx hb dL_law_827 (by decide) (fun c_k => ?_) (fun c_k => ?_)
  · skip
    refine lv_goto (tgt := 1981) hx hb dL_law_842 (by decide) ?_
    exact kk _ _ _ P (lv_sub hl [2, 3, 4, 5, 6, 7] rfl)
  · skip
    refine lv_aload_n hx hb dL_law_830 rfl (lv_at hl 4 rfl) ?_
    refine lv_iconst (v := 0) hx hb dL_law_831 (by decide) ?_
    refine g_lld B F P (by decide) rfl rfl (by unfold vp_in; decide) dL_law_832 ?_
    refine lv_iload hx hb dL_law_833 (lv_at hl 0 rfl) ?_
    refine lv_i2l hx hb dL_law_835 rfl ?_
    refine W.lcmp hx hb dL_law_836 ?_
    refine lv_if_eq (tgt := 842) hx hb dL_law_837 (by decide) (fun _ => ?_) (fun h9 => absurd (lc_eq (ok.2.2 c_k)) h9)
    refine lv_goto (tgt := 1981) hx hb dL_law_842 (by decide) ?_
    exact kk _ _ _ P (lv_sub hl [2, 3, 4, 5, 6, 7] rfl)
theorem nk_L_setDemand : nmOk yL_setDemand RL 6 := ⟨rfl, by decide +kernel, by decide +kernel, by decide +kernel⟩
theorem nk_X6_setDemand : nmOk yX6_setDemand RX6 4 := ⟨rfl, by decide +kernel, by decide +kernel, by decide +kernel⟩
set_option maxHeartbeats 4000000 in
set_option maxRecDepth 100000 in
theorem lc_setDemand {D : va_G} {ad : Nat → Nat} {cy : Nat → ClassId} {ba : Nat} {p : Program} {l : Launch} {e : Env} {s : State} {m : MethodId} {args : Array Value} {below : List Frame} {meth : Method} {c : Code} {H : Heap} {locs : List Loc} {cells slots : Nat} {Q : State → Prop} {ls : Array Slot} {b L : Nat} {xs : Nat → Int32} {σ : Sg} {i : Int32} (B : CallFix p m c cL_law 9 s args AW RL) (F : Fx D ad cy ba s) (hst : l.stackTraces = false) (X : va_X b L xs s s.heap) (hbl : b < s.heap.size) (hbA : ¬ ba ≤ b) (P : Wo D ad cy ba s σ H locs) (hl : lv_has ls 9 [(5, .int i), (4, .ref (ad 32)), (3, .ref (ad 31)), (2, .ref (ad 19)), (1, .ref (ad 0)), (0, .ref b)]) (hC : GC 99000 σ) (hi : ∀ k, k ≤ 4 → vp_in (i + nI k) L) (hrc : cells + 4 ≤ room_1.cells) (hrs : slots + 24 ≤ room_1.slots) (ok : (GM 99000 (f_L_setDemand (xs (i + 1).toNatClampNeg) (xs (i + 2).toNatClampNeg) (xs (i + 3).toNatClampNeg) (xs (i + 4).toNatClampNeg) σ).2 ∧ rI (f_X6_setDemand (xs (i + 1).toNatClampNeg) (xs (i + 2).toNatClampNeg) (xs (i + 3).toNatClampNeg) (xs (i + 4).toNatClampNeg) (f_L_setDemand (xs (i + 1).toNatClampNeg) (xs (i + 2).toNatClampNeg) (xs (i + 3).toNatClampNeg) (xs (i + 4).toNatClampNeg) σ).2).2 19 32 = (f_L_setDemand (xs (i + 1).toNatClampNeg) (xs (i + 2).toNatClampNeg) (xs (i + 3).toNatClampNeg) (xs (i + 4).toNatClampNeg) σ).1 ∧ ((f_L_setDemand (xs (i + 1).toNatClampNeg) (xs (i + 2).toNatClampNeg) (xs (i + 3).toNatClampNeg) (xs (i + 4).toNatClampNeg) σ).1 = 0 → rL (f_X6_setDemand (xs (i + 1).toNatClampNeg) (xs (i + 2).toNatClampNeg) (xs (i + 3).toNatClampNeg) (xs (i + 4).toNatClampNeg) (f_L_setDemand (xs (i + 1).toNatClampNeg) (xs (i + 2).toNatClampNeg) (xs (i + 3).toNatClampNeg) (xs (i + 4).toNatClampNeg) σ).2).2 31 (Int32.toNatClampNeg 0) = (f_X6_setDemand (xs (i + 1).toNatClampNeg) (xs (i + 2).toNatClampNeg) (xs (i + 3).toNatClampNeg) (xs (i + 4).toNatClampNeg) (f_L_setDemand (xs (i + 1).toNatClampNeg) (xs (i + 2).toNatClampNeg) (xs (i + 3).toNatClampNeg) (xs (i + 4).toNatClampNeg) σ).2).1.toInt64)))
    (kk : ∀ (H : Heap) (locs : List Loc) (ls : Array Slot), Wo D ad cy ba s (f_X6_setDemand (xs (i + 1).toNatClampNeg) (xs (i + 2).toNatClampNeg) (xs (i + 3).toNatClampNeg) (xs (i + 4).toNatClampNeg) (f_L_setDemand (xs (i + 1).toNatClampNeg) (xs (i + 2).toNatClampNeg) (xs (i + 3).toNatClampNeg) (xs (i + 4).toNatClampNeg) σ).2).2 H locs → lv_has ls 9 [(5, .int i), (4, .ref (ad 32)), (3, .ref (ad 31)), (2, .ref (ad 19)), (1, .ref (ad 0)), (0, .ref b)] → W p l e room_1 s m args below meth c H locs (cells + 4) (slots + 24) Q (F0 m 1981 ls [])) : W p l e room_1 s m args below meth c H locs cells slots Q (F0 m 845 ls []) := by
  have hx := B.1
  have hb := B.2.1
  refine lv_aload_n hx hb dL_law_845 rfl (lv_at hl 4 rfl) ?_
  refine lv_aload_n hx hb dL_law_846 rfl (lv_at hl 5 rfl) ?_
  refine lv_iload hx hb dL_law_847 (lv_at hl 0 rfl) ?_
  refine lv_iconst (v := 1) hx hb dL_law_849 (by decide) ?_
  refine lv_iadd hx hb dL_law_850 ?_
  refine va_sld hx hb X hbl hbA P.2 (hi 1 (by decide)) dL_law_851 ?_
  refine lv_aload_n hx hb dL_law_852 rfl (lv_at hl 5 rfl) ?_
  refine lv_iload hx hb dL_law_853 (lv_at hl 0 rfl) ?_
  refine lv_iconst (v := 2) hx hb dL_law_855 (by decide) ?_
  refine lv_iadd hx hb dL_law_856 ?_
  refine va_sld hx hb X hbl hbA P.2 (hi 2 (by decide)) dL_law_857 ?_
  refine lv_aload_n hx hb dL_law_858 rfl (lv_at hl 5 rfl) ?_
  refine lv_iload hx hb dL_law_859 (lv_at hl 0 rfl) ?_
  refine lv_iconst (v := 3) hx hb dL_law_861 (by decide) ?_
  refine lv_iadd hx hb dL_law_862 ?_
  refine va_sld hx hb X hbl hbA P.2 (hi 3 (by decide)) dL_law_863 ?_
  refine lv_aload_n hx hb dL_law_864 rfl (lv_at hl 5 rfl) ?_
  refine lv_iload hx hb dL_law_865 (lv_at hl 0 rfl) ?_
  refine lv_iconst (v := 4) hx hb dL_law_867 (by decide) ?_
  refine lv_iadd hx hb dL_law_868 ?_
  refine va_sld hx hb X hbl hbA P.2 (hi 4 (by decide)) dL_law_869 ?_
  refine lv_aload_n hx hb dL_law_870 rfl (lv_at hl 2 rfl) ?_
  refine g_callSw B F P (As := [.ref (ad 0), .int (xs (i + 1).toNatClampNeg), .int (xs (i + 2).toNatClampNeg), .int (xs (i + 3).toNatClampNeg), .int (xs (i + 4).toNatClampNeg), .ref (ad 31)]) (cw_L_setDemand (D := D) (ad := ad) (cy := cy) (ba := ba) l (xs (i + 1).toNatClampNeg) (xs (i + 2).toNatClampNeg) (xs (i + 3).toNatClampNeg) (xs (i + 4).toNatClampNeg) σ hst hC) q599 q600 q0 q601 nk_L_setDemand rfl ⟨Nat.le_of_ble_eq_true rfl, Nat.le_of_ble_eq_true rfl⟩ hl.1 rfl (Nat.le_of_ble_eq_true rfl) dL_law_871 ⟨hrc, hrs⟩ (fun H locs P => ?_)
  refine lv_istore (lv' := [(6, .int ((f_L_setDemand (xs (i + 1).toNatClampNeg) (xs (i + 2).toNatClampNeg) (xs (i + 3).toNatClampNeg) (xs (i + 4).toNatClampNeg) σ).1)), (5, .int i), (4, .ref (ad 32)), (3, .ref (ad 31)), (2, .ref (ad 19)), (1, .ref (ad 0)), (0, .ref b)]) hx hb dL_law_874 hl (by decide) rfl (fun ls hl => ?_)
  refine lv_aload_n hx hb dL_law_876 rfl (lv_at hl 4 rfl) ?_
  refine lv_aload_n hx hb dL_law_877 rfl (lv_at hl 6 rfl) ?_
  refine lv_iload hx hb dL_law_878 (lv_at hl 1 rfl) ?_
  refine lv_iconst (v := 1) hx hb dL_law_880 (by decide) ?_
  refine lv_iadd hx hb dL_law_881 ?_
  refine va_sld hx hb X hbl hbA P.2 (hi 1 (by decide)) dL_law_882 ?_
  refine lv_aload_n hx hb dL_law_883 rfl (lv_at hl 6 rfl) ?_
  refine lv_iload hx hb dL_law_884 (lv_at hl 1 rfl) ?_
  refine lv_iconst (v := 2) hx hb dL_law_886 (by decide) ?_
  refine lv_iadd hx hb dL_law_887 ?_
  refine va_sld hx hb X hbl hbA P.2 (hi 2 (by decide)) dL_law_888 ?_
  refine lv_aload_n hx hb dL_law_889 rfl (lv_at hl 6 rfl) ?_
  refine lv_iload hx hb dL_law_890 (lv_at hl 1 rfl) ?_
  refine lv_iconst (v := 3) hx hb dL_law_892 (by decide) ?_
  refine lv_iadd hx hb dL_law_893 ?_
  refine va_sld hx hb X hbl hbA P.2 (hi 3 (by decide)) dL_law_894 ?_
  refine lv_aload_n hx hb dL_law_895 rfl (lv_at hl 6 rfl) ?_
  refine lv_iload hx hb dL_law_896 (lv_at hl 1 rfl) ?_
  refine lv_iconst (v := 4) hx hb dL_law_898 (by decide) ?_
  refine lv_iadd hx hb dL_law_899 ?_
  refine va_sld hx hb X hbl hbA P.2 (hi 4 (by decide)) dL_law_900 ?_
  refine g_callV B F P (As := [.int (xs (i + 1).toNatClampNeg), .int (xs (i + 2).toNatClampNeg), .int (xs (i + 3).toNatClampNeg), .int (xs (i + 4).toNatClampNeg)]) (ct_X6_setDemand (D := D) (ad := ad) (cy := cy) (ba := ba) l (xs (i + 1).toNatClampNeg) (xs (i + 2).toNatClampNeg) (xs (i + 3).toNatClampNeg) (xs (i + 4).toNatClampNeg) ((f_L_setDemand (xs (i + 1).toNatClampNeg) (xs (i + 2).toNatClampNeg) (xs (i + 3).toNatClampNeg) (xs (i + 4).toNatClampNeg) σ).2) ok.1) ok6 (by decide) rfl q1002 q1003 q1004 q8 q1005 nk_X6_setDemand rfl ⟨Nat.le_of_ble_eq_true rfl, Nat.le_of_ble_eq_true rfl⟩ hl.1 rfl (Nat.le_of_ble_eq_true rfl) dL_law_901 ⟨by omega, by omega⟩ (fun H locs P => ?_)
  refine lv_istore (lv' := [(7, .int ((f_X6_setDemand (xs (i + 1).toNatClampNeg) (xs (i + 2).toNatClampNeg) (xs (i + 3).toNatClampNeg) (xs (i + 4).toNatClampNeg) ((f_L_setDemand (xs (i + 1).toNatClampNeg) (xs (i + 2).toNatClampNeg) (xs (i + 3).toNatClampNeg) (xs (i + 4).toNatClampNeg) σ).2)).1)), (6, .int ((f_L_setDemand (xs (i + 1).toNatClampNeg) (xs (i + 2).toNatClampNeg) (xs (i + 3).toNatClampNeg) (xs (i + 4).toNatClampNeg) σ).1)), (5, .int i), (4, .ref (ad 32)), (3, .ref (ad 31)), (2, .ref (ad 19)), (1, .ref (ad 0)), (0, .ref b)]) hx hb dL_law_904 hl (by decide) rfl (fun ls hl => ?_)
  refine lv_aload_n hx hb dL_law_906 rfl (lv_at hl 5 rfl) ?_
  refine g_callV B F P (As := []) (ct_X6_thrown (D := D) (ad := ad) (cy := cy) (ba := ba) l  ((f_X6_setDemand (xs (i + 1).toNatClampNeg) (xs (i + 2).toNatClampNeg) (xs (i + 3).toNatClampNeg) (xs (i + 4).toNatClampNeg) ((f_L_setDemand (xs (i + 1).toNatClampNeg) (xs (i + 2).toNatClampNeg) (xs (i + 3).toNatClampNeg) (xs (i + 4).toNatClampNeg) σ).2)).2) ) ok6 (by decide) rfl q918 q919 q920 q8 q921 nk_X6_thrown rfl ⟨Nat.le_of_ble_eq_true rfl, Nat.le_of_ble_eq_true rfl⟩ hl.1 rfl (Nat.le_of_ble_eq_true rfl) dL_law_907 ⟨by omega, by omega⟩ (fun H locs P => ?_)
  refine lv_iload hx hb dL_law_910 (lv_at hl 1 rfl) ?_
  refine lv_icmp_eq (tgt := 917) hx hb dL_law_912 (by decide) (fun _ => ?_) (fun h9 => absurd ok.2.1 h9)
  refine lv_iload hx hb dL_law_917 (lv_at hl 1 rfl) ?_
  refine lv_if_ne (tgt := 934) hx hb dL_law_919 (by decide) (fun c_k => ?_) (fun c_k => ?_)
  · skip
    refine lv_goto (tgt := 1981) hx hb dL_law_934 (by decide) ?_
    exact kk _ _ _ P (lv_sub hl [2, 3, 4, 5, 6, 7] rfl)
  · skip
    refine lv_aload_n hx hb dL_law_922 rfl (lv_at hl 4 rfl) ?_
    refine lv_iconst (v := 0) hx hb dL_law_923 (by decide) ?_
    refine g_lld B F P (by decide) rfl rfl (by unfold vp_in; decide) dL_law_924 ?_
    refine lv_iload hx hb dL_law_925 (lv_at hl 0 rfl) ?_
    refine lv_i2l hx hb dL_law_927 rfl ?_
    refine W.lcmp hx hb dL_law_928 ?_
    refine lv_if_eq (tgt := 934) hx hb dL_law_929 (by decide) (fun _ => ?_) (fun h9 => absurd (lc_eq (ok.2.2 c_k)) h9)
    refine lv_goto (tgt := 1981) hx hb dL_law_934 (by decide) ?_
    exact kk _ _ _ P (lv_sub hl [2, 3, 4, 5, 6, 7] rfl)
theorem nk_L_setPrice : nmOk yL_setPrice RL 5 := ⟨rfl, by decide +kernel, by decide +kernel, by decide +kernel⟩
theorem nk_X6_setPrice : nmOk yX6_setPrice RX6 3 := ⟨rfl, by decide +kernel, by decide +kernel, by decide +kernel⟩
set_option maxHeartbeats 4000000 in
set_option maxRecDepth 100000 in
theorem lc_setPrice {D : va_G} {ad : Nat → Nat} {cy : Nat → ClassId} {ba : Nat} {p : Program} {l : Launch} {e : Env} {s : State} {m : MethodId} {args : Array Value} {below : List Frame} {meth : Method} {c : Code} {H : Heap} {locs : List Loc} {cells slots : Nat} {Q : State → Prop} {ls : Array Slot} {b L : Nat} {xs : Nat → Int32} {σ : Sg} {i : Int32} (B : CallFix p m c cL_law 9 s args AW RL) (F : Fx D ad cy ba s) (hst : l.stackTraces = false) (X : va_X b L xs s s.heap) (hbl : b < s.heap.size) (hbA : ¬ ba ≤ b) (P : Wo D ad cy ba s σ H locs) (hl : lv_has ls 9 [(5, .int i), (4, .ref (ad 32)), (3, .ref (ad 31)), (2, .ref (ad 19)), (1, .ref (ad 0)), (0, .ref b)]) (hC : GC 99000 σ) (hi : ∀ k, k ≤ 4 → vp_in (i + nI k) L) (hrc : cells + 4 ≤ room_1.cells) (hrs : slots + 24 ≤ room_1.slots) (ok : (GM 99000 (f_L_setPrice (xs (i + 1).toNatClampNeg) (xs (i + 2).toNatClampNeg) (xs (i + 3).toNatClampNeg) σ).2 ∧ rI (f_X6_setPrice (xs (i + 1).toNatClampNeg) (xs (i + 2).toNatClampNeg) (xs (i + 3).toNatClampNeg) (f_L_setPrice (xs (i + 1).toNatClampNeg) (xs (i + 2).toNatClampNeg) (xs (i + 3).toNatClampNeg) σ).2).2 19 32 = (f_L_setPrice (xs (i + 1).toNatClampNeg) (xs (i + 2).toNatClampNeg) (xs (i + 3).toNatClampNeg) σ).1 ∧ ((f_L_setPrice (xs (i + 1).toNatClampNeg) (xs (i + 2).toNatClampNeg) (xs (i + 3).toNatClampNeg) σ).1 = 0 → rL (f_X6_setPrice (xs (i + 1).toNatClampNeg) (xs (i + 2).toNatClampNeg) (xs (i + 3).toNatClampNeg) (f_L_setPrice (xs (i + 1).toNatClampNeg) (xs (i + 2).toNatClampNeg) (xs (i + 3).toNatClampNeg) σ).2).2 31 (Int32.toNatClampNeg 0) = (f_X6_setPrice (xs (i + 1).toNatClampNeg) (xs (i + 2).toNatClampNeg) (xs (i + 3).toNatClampNeg) (f_L_setPrice (xs (i + 1).toNatClampNeg) (xs (i + 2).toNatClampNeg) (xs (i + 3).toNatClampNeg) σ).2).1.toInt64)))
    (kk : ∀ (H : Heap) (locs : List Loc) (ls : Array Slot), Wo D ad cy ba s (f_X6_setPrice (xs (i + 1).toNatClampNeg) (xs (i + 2).toNatClampNeg) (xs (i + 3).toNatClampNeg) (f_L_setPrice (xs (i + 1).toNatClampNeg) (xs (i + 2).toNatClampNeg) (xs (i + 3).toNatClampNeg) σ).2).2 H locs → lv_has ls 9 [(5, .int i), (4, .ref (ad 32)), (3, .ref (ad 31)), (2, .ref (ad 19)), (1, .ref (ad 0)), (0, .ref b)] → W p l e room_1 s m args below meth c H locs (cells + 4) (slots + 24) Q (F0 m 1981 ls [])) : W p l e room_1 s m args below meth c H locs cells slots Q (F0 m 937 ls []) := by
  have hx := B.1
  have hb := B.2.1
  refine lv_aload_n hx hb dL_law_937 rfl (lv_at hl 4 rfl) ?_
  refine lv_aload_n hx hb dL_law_938 rfl (lv_at hl 5 rfl) ?_
  refine lv_iload hx hb dL_law_939 (lv_at hl 0 rfl) ?_
  refine lv_iconst (v := 1) hx hb dL_law_941 (by decide) ?_
  refine lv_iadd hx hb dL_law_942 ?_
  refine va_sld hx hb X hbl hbA P.2 (hi 1 (by decide)) dL_law_943 ?_
  refine lv_aload_n hx hb dL_law_944 rfl (lv_at hl 5 rfl) ?_
  refine lv_iload hx hb dL_law_945 (lv_at hl 0 rfl) ?_
  refine lv_iconst (v := 2) hx hb dL_law_947 (by decide) ?_
  refine lv_iadd hx hb dL_law_948 ?_
  refine va_sld hx hb X hbl hbA P.2 (hi 2 (by decide)) dL_law_949 ?_
  refine lv_aload_n hx hb dL_law_950 rfl (lv_at hl 5 rfl) ?_
  refine lv_iload hx hb dL_law_951 (lv_at hl 0 rfl) ?_
  refine lv_iconst (v := 3) hx hb dL_law_953 (by decide) ?_
  refine lv_iadd hx hb dL_law_954 ?_
  refine va_sld hx hb X hbl hbA P.2 (hi 3 (by decide)) dL_law_955 ?_
  refine lv_aload_n hx hb dL_law_956 rfl (lv_at hl 2 rfl) ?_
  refine g_callSw B F P (As := [.ref (ad 0), .int (xs (i + 1).toNatClampNeg), .int (xs (i + 2).toNatClampNeg), .int (xs (i + 3).toNatClampNeg), .ref (ad 31)]) (cw_L_setPrice (D := D) (ad := ad) (cy := cy) (ba := ba) l (xs (i + 1).toNatClampNeg) (xs (i + 2).toNatClampNeg) (xs (i + 3).toNatClampNeg) σ hst) q617 q618 q0 q619 nk_L_setPrice rfl ⟨Nat.le_of_ble_eq_true rfl, Nat.le_of_ble_eq_true rfl⟩ hl.1 rfl (Nat.le_of_ble_eq_true rfl) dL_law_957 ⟨hrc, hrs⟩ (fun H locs P => ?_)
  refine lv_istore (lv' := [(6, .int ((f_L_setPrice (xs (i + 1).toNatClampNeg) (xs (i + 2).toNatClampNeg) (xs (i + 3).toNatClampNeg) σ).1)), (5, .int i), (4, .ref (ad 32)), (3, .ref (ad 31)), (2, .ref (ad 19)), (1, .ref (ad 0)), (0, .ref b)]) hx hb dL_law_960 hl (by decide) rfl (fun ls hl => ?_)
  refine lv_aload_n hx hb dL_law_962 rfl (lv_at hl 4 rfl) ?_
  refine lv_aload_n hx hb dL_law_963 rfl (lv_at hl 6 rfl) ?_
  refine lv_iload hx hb dL_law_964 (lv_at hl 1 rfl) ?_
  refine lv_iconst (v := 1) hx hb dL_law_966 (by decide) ?_
  refine lv_iadd hx hb dL_law_967 ?_
  refine va_sld hx hb X hbl hbA P.2 (hi 1 (by decide)) dL_law_968 ?_
  refine lv_aload_n hx hb dL_law_969 rfl (lv_at hl 6 rfl) ?_
  refine lv_iload hx hb dL_law_970 (lv_at hl 1 rfl) ?_
  refine lv_iconst (v := 2) hx hb dL_law_972 (by decide) ?_
  refine lv_iadd hx hb dL_law_973 ?_
  refine va_sld hx hb X hbl hbA P.2 (hi 2 (by decide)) dL_law_974 ?_
  refine lv_aload_n hx hb dL_law_975 rfl (lv_at hl 6 rfl) ?_
  refine lv_iload hx hb dL_law_976 (lv_at hl 1 rfl) ?_
  refine lv_iconst (v := 3) hx hb dL_law_978 (by decide) ?_
  refine lv_iadd hx hb dL_law_979 ?_
  refine va_sld hx hb X hbl hbA P.2 (hi 3 (by decide)) dL_law_980 ?_
  refine g_callV B F P (As := [.int (xs (i + 1).toNatClampNeg), .int (xs (i + 2).toNatClampNeg), .int (xs (i + 3).toNatClampNeg)]) (ct_X6_setPrice (D := D) (ad := ad) (cy := cy) (ba := ba) l (xs (i + 1).toNatClampNeg) (xs (i + 2).toNatClampNeg) (xs (i + 3).toNatClampNeg) ((f_L_setPrice (xs (i + 1).toNatClampNeg) (xs (i + 2).toNatClampNeg) (xs (i + 3).toNatClampNeg) σ).2) ) ok6 (by decide) rfl q1012 q1013 q1014 q8 q1015 nk_X6_setPrice rfl ⟨Nat.le_of_ble_eq_true rfl, Nat.le_of_ble_eq_true rfl⟩ hl.1 rfl (Nat.le_of_ble_eq_true rfl) dL_law_981 ⟨by omega, by omega⟩ (fun H locs P => ?_)
  refine lv_istore (lv' := [(7, .int ((f_X6_setPrice (xs (i + 1).toNatClampNeg) (xs (i + 2).toNatClampNeg) (xs (i + 3).toNatClampNeg) ((f_L_setPrice (xs (i + 1).toNatClampNeg) (xs (i + 2).toNatClampNeg) (xs (i + 3).toNatClampNeg) σ).2)).1)), (6, .int ((f_L_setPrice (xs (i + 1).toNatClampNeg) (xs (i + 2).toNatClampNeg) (xs (i + 3).toNatClampNeg) σ).1)), (5, .int i), (4, .ref (ad 32)), (3, .ref (ad 31)), (2, .ref (ad 19)), (1, .ref (ad 0)), (0, .ref b)]) hx hb dL_law_984 hl (by decide) rfl (fun ls hl => ?_)
  refine lv_aload_n hx hb dL_law_986 rfl (lv_at hl 5 rfl) ?_
  refine g_callV B F P (As := []) (ct_X6_thrown (D := D) (ad := ad) (cy := cy) (ba := ba) l  ((f_X6_setPrice (xs (i + 1).toNatClampNeg) (xs (i + 2).toNatClampNeg) (xs (i + 3).toNatClampNeg) ((f_L_setPrice (xs (i + 1).toNatClampNeg) (xs (i + 2).toNatClampNeg) (xs (i + 3).toNatClampNeg) σ).2)).2) ) ok6 (by decide) rfl q918 q919 q920 q8 q921 nk_X6_thrown rfl ⟨Nat.le_of_ble_eq_true rfl, Nat.le_of_ble_eq_true rfl⟩ hl.1 rfl (Nat.le_of_ble_eq_true rfl) dL_law_987 ⟨by omega, by omega⟩ (fun H locs P => ?_)
  refine lv_iload hx hb dL_law_990 (lv_at hl 1 rfl) ?_
  refine lv_icmp_eq (tgt := 997) hx hb dL_law_992 (by decide) (fun _ => ?_) (fun h9 => absurd ok.2.1 h9)
  refine lv_iload hx hb dL_law_997 (lv_at hl 1 rfl) ?_
  refine lv_if_ne (tgt := 1014) hx hb dL_law_999 (by decide) (fun c_k => ?_) (fun c_k => ?_)
  · skip
    refine lv_goto (tgt := 1981) hx hb dL_law_1014 (by decide) ?_
    exact kk _ _ _ P (lv_sub hl [2, 3, 4, 5, 6, 7] rfl)
  · skip
    refine lv_aload_n hx hb dL_law_1002 rfl (lv_at hl 4 rfl) ?_
    refine lv_iconst (v := 0) hx hb dL_law_1003 (by decide) ?_
    refine g_lld B F P (by decide) rfl rfl (by unfold vp_in; decide) dL_law_1004 ?_
    refine lv_iload hx hb dL_law_1005 (lv_at hl 0 rfl) ?_
    refine lv_i2l hx hb dL_law_1007 rfl ?_
    refine W.lcmp hx hb dL_law_1008 ?_
    refine lv_if_eq (tgt := 1014) hx hb dL_law_1009 (by decide) (fun _ => ?_) (fun h9 => absurd (lc_eq (ok.2.2 c_k)) h9)
    refine lv_goto (tgt := 1981) hx hb dL_law_1014 (by decide) ?_
    exact kk _ _ _ P (lv_sub hl [2, 3, 4, 5, 6, 7] rfl)
theorem nk_L_demand : nmOk yL_demand RL 4 := ⟨rfl, by decide +kernel, by decide +kernel, by decide +kernel⟩
theorem nk_X6_demand : nmOk yX6_demand RX6 2 := ⟨rfl, by decide +kernel, by decide +kernel, by decide +kernel⟩
set_option maxHeartbeats 4000000 in
set_option maxRecDepth 100000 in
theorem lc_demand {D : va_G} {ad : Nat → Nat} {cy : Nat → ClassId} {ba : Nat} {p : Program} {l : Launch} {e : Env} {s : State} {m : MethodId} {args : Array Value} {below : List Frame} {meth : Method} {c : Code} {H : Heap} {locs : List Loc} {cells slots : Nat} {Q : State → Prop} {ls : Array Slot} {b L : Nat} {xs : Nat → Int32} {σ : Sg} {i : Int32} (B : CallFix p m c cL_law 9 s args AW RL) (F : Fx D ad cy ba s) (hst : l.stackTraces = false) (X : va_X b L xs s s.heap) (hbl : b < s.heap.size) (hbA : ¬ ba ≤ b) (P : Wo D ad cy ba s σ H locs) (hl : lv_has ls 9 [(5, .int i), (4, .ref (ad 32)), (3, .ref (ad 31)), (2, .ref (ad 19)), (1, .ref (ad 0)), (0, .ref b)]) (hC : GC 99000 σ) (hi : ∀ k, k ≤ 4 → vp_in (i + nI k) L) (hrc : cells + 4 ≤ room_1.cells) (hrs : slots + 24 ≤ room_1.slots) (ok : (GM 99000 (f_L_demand (xs (i + 1).toNatClampNeg) (xs (i + 2).toNatClampNeg) σ).2 ∧ rI (f_X6_demand (xs (i + 1).toNatClampNeg) (xs (i + 2).toNatClampNeg) (f_L_demand (xs (i + 1).toNatClampNeg) (xs (i + 2).toNatClampNeg) σ).2).2 19 32 = (f_L_demand (xs (i + 1).toNatClampNeg) (xs (i + 2).toNatClampNeg) σ).1 ∧ ((f_L_demand (xs (i + 1).toNatClampNeg) (xs (i + 2).toNatClampNeg) σ).1 = 0 → rL (f_X6_demand (xs (i + 1).toNatClampNeg) (xs (i + 2).toNatClampNeg) (f_L_demand (xs (i + 1).toNatClampNeg) (xs (i + 2).toNatClampNeg) σ).2).2 31 (Int32.toNatClampNeg 0) = (f_X6_demand (xs (i + 1).toNatClampNeg) (xs (i + 2).toNatClampNeg) (f_L_demand (xs (i + 1).toNatClampNeg) (xs (i + 2).toNatClampNeg) σ).2).1.toInt64)))
    (kk : ∀ (H : Heap) (locs : List Loc) (ls : Array Slot), Wo D ad cy ba s (f_X6_demand (xs (i + 1).toNatClampNeg) (xs (i + 2).toNatClampNeg) (f_L_demand (xs (i + 1).toNatClampNeg) (xs (i + 2).toNatClampNeg) σ).2).2 H locs → lv_has ls 9 [(5, .int i), (4, .ref (ad 32)), (3, .ref (ad 31)), (2, .ref (ad 19)), (1, .ref (ad 0)), (0, .ref b)] → W p l e room_1 s m args below meth c H locs (cells + 4) (slots + 24) Q (F0 m 1981 ls [])) : W p l e room_1 s m args below meth c H locs cells slots Q (F0 m 1017 ls []) := by
  have hx := B.1
  have hb := B.2.1
  refine lv_aload_n hx hb dL_law_1017 rfl (lv_at hl 4 rfl) ?_
  refine lv_aload_n hx hb dL_law_1018 rfl (lv_at hl 5 rfl) ?_
  refine lv_iload hx hb dL_law_1019 (lv_at hl 0 rfl) ?_
  refine lv_iconst (v := 1) hx hb dL_law_1021 (by decide) ?_
  refine lv_iadd hx hb dL_law_1022 ?_
  refine va_sld hx hb X hbl hbA P.2 (hi 1 (by decide)) dL_law_1023 ?_
  refine lv_aload_n hx hb dL_law_1024 rfl (lv_at hl 5 rfl) ?_
  refine lv_iload hx hb dL_law_1025 (lv_at hl 0 rfl) ?_
  refine lv_iconst (v := 2) hx hb dL_law_1027 (by decide) ?_
  refine lv_iadd hx hb dL_law_1028 ?_
  refine va_sld hx hb X hbl hbA P.2 (hi 2 (by decide)) dL_law_1029 ?_
  refine lv_aload_n hx hb dL_law_1030 rfl (lv_at hl 2 rfl) ?_
  refine g_callSw B F P (As := [.ref (ad 0), .int (xs (i + 1).toNatClampNeg), .int (xs (i + 2).toNatClampNeg), .ref (ad 31)]) (cw_L_demand (D := D) (ad := ad) (cy := cy) (ba := ba) l (xs (i + 1).toNatClampNeg) (xs (i + 2).toNatClampNeg) σ hst hC) q624 q625 q0 q626 nk_L_demand rfl ⟨Nat.le_of_ble_eq_true rfl, Nat.le_of_ble_eq_true rfl⟩ hl.1 rfl (Nat.le_of_ble_eq_true rfl) dL_law_1031 ⟨hrc, hrs⟩ (fun H locs P => ?_)
  refine lv_istore (lv' := [(6, .int ((f_L_demand (xs (i + 1).toNatClampNeg) (xs (i + 2).toNatClampNeg) σ).1)), (5, .int i), (4, .ref (ad 32)), (3, .ref (ad 31)), (2, .ref (ad 19)), (1, .ref (ad 0)), (0, .ref b)]) hx hb dL_law_1034 hl (by decide) rfl (fun ls hl => ?_)
  refine lv_aload_n hx hb dL_law_1036 rfl (lv_at hl 4 rfl) ?_
  refine lv_aload_n hx hb dL_law_1037 rfl (lv_at hl 6 rfl) ?_
  refine lv_iload hx hb dL_law_1038 (lv_at hl 1 rfl) ?_
  refine lv_iconst (v := 1) hx hb dL_law_1040 (by decide) ?_
  refine lv_iadd hx hb dL_law_1041 ?_
  refine va_sld hx hb X hbl hbA P.2 (hi 1 (by decide)) dL_law_1042 ?_
  refine lv_aload_n hx hb dL_law_1043 rfl (lv_at hl 6 rfl) ?_
  refine lv_iload hx hb dL_law_1044 (lv_at hl 1 rfl) ?_
  refine lv_iconst (v := 2) hx hb dL_law_1046 (by decide) ?_
  refine lv_iadd hx hb dL_law_1047 ?_
  refine va_sld hx hb X hbl hbA P.2 (hi 2 (by decide)) dL_law_1048 ?_
  refine g_callV B F P (As := [.int (xs (i + 1).toNatClampNeg), .int (xs (i + 2).toNatClampNeg)]) (ct_X6_demand (D := D) (ad := ad) (cy := cy) (ba := ba) l (xs (i + 1).toNatClampNeg) (xs (i + 2).toNatClampNeg) ((f_L_demand (xs (i + 1).toNatClampNeg) (xs (i + 2).toNatClampNeg) σ).2) ok.1) ok6 (by decide) rfl q1017 q1018 q1019 q8 q1020 nk_X6_demand rfl ⟨Nat.le_of_ble_eq_true rfl, Nat.le_of_ble_eq_true rfl⟩ hl.1 rfl (Nat.le_of_ble_eq_true rfl) dL_law_1049 ⟨by omega, by omega⟩ (fun H locs P => ?_)
  refine lv_istore (lv' := [(7, .int ((f_X6_demand (xs (i + 1).toNatClampNeg) (xs (i + 2).toNatClampNeg) ((f_L_demand (xs (i + 1).toNatClampNeg) (xs (i + 2).toNatClampNeg) σ).2)).1)), (6, .int ((f_L_demand (xs (i + 1).toNatClampNeg) (xs (i + 2).toNatClampNeg) σ).1)), (5, .int i), (4, .ref (ad 32)), (3, .ref (ad 31)), (2, .ref (ad 19)), (1, .ref (ad 0)), (0, .ref b)]) hx hb dL_law_1052 hl (by decide) rfl (fun ls hl => ?_)
  refine lv_aload_n hx hb dL_law_1054 rfl (lv_at hl 5 rfl) ?_
  refine g_callV B F P (As := []) (ct_X6_thrown (D := D) (ad := ad) (cy := cy) (ba := ba) l  ((f_X6_demand (xs (i + 1).toNatClampNeg) (xs (i + 2).toNatClampNeg) ((f_L_demand (xs (i + 1).toNatClampNeg) (xs (i + 2).toNatClampNeg) σ).2)).2) ) ok6 (by decide) rfl q918 q919 q920 q8 q921 nk_X6_thrown rfl ⟨Nat.le_of_ble_eq_true rfl, Nat.le_of_ble_eq_true rfl⟩ hl.1 rfl (Nat.le_of_ble_eq_true rfl) dL_law_1055 ⟨by omega, by omega⟩ (fun H locs P => ?_)
  refine lv_iload hx hb dL_law_1058 (lv_at hl 1 rfl) ?_
  refine lv_icmp_eq (tgt := 1065) hx hb dL_law_1060 (by decide) (fun _ => ?_) (fun h9 => absurd ok.2.1 h9)
  refine lv_iload hx hb dL_law_1065 (lv_at hl 1 rfl) ?_
  refine lv_if_ne (tgt := 1082) hx hb dL_law_1067 (by decide) (fun c_k => ?_) (fun c_k => ?_)
  · skip
    refine lv_goto (tgt := 1981) hx hb dL_law_1082 (by decide) ?_
    exact kk _ _ _ P (lv_sub hl [2, 3, 4, 5, 6, 7] rfl)
  · skip
    refine lv_aload_n hx hb dL_law_1070 rfl (lv_at hl 4 rfl) ?_
    refine lv_iconst (v := 0) hx hb dL_law_1071 (by decide) ?_
    refine g_lld B F P (by decide) rfl rfl (by unfold vp_in; decide) dL_law_1072 ?_
    refine lv_iload hx hb dL_law_1073 (lv_at hl 0 rfl) ?_
    refine lv_i2l hx hb dL_law_1075 rfl ?_
    refine W.lcmp hx hb dL_law_1076 ?_
    refine lv_if_eq (tgt := 1082) hx hb dL_law_1077 (by decide) (fun _ => ?_) (fun h9 => absurd (lc_eq (ok.2.2 c_k)) h9)
    refine lv_goto (tgt := 1981) hx hb dL_law_1082 (by decide) ?_
    exact kk _ _ _ P (lv_sub hl [2, 3, 4, 5, 6, 7] rfl)
theorem nk_L_level : nmOk yL_level RL 3 := ⟨rfl, by decide +kernel, by decide +kernel, by decide +kernel⟩
theorem nk_X6_level : nmOk yX6_level RX6 1 := ⟨rfl, by decide +kernel, by decide +kernel, by decide +kernel⟩
set_option maxHeartbeats 4000000 in
set_option maxRecDepth 100000 in
theorem lc_level {D : va_G} {ad : Nat → Nat} {cy : Nat → ClassId} {ba : Nat} {p : Program} {l : Launch} {e : Env} {s : State} {m : MethodId} {args : Array Value} {below : List Frame} {meth : Method} {c : Code} {H : Heap} {locs : List Loc} {cells slots : Nat} {Q : State → Prop} {ls : Array Slot} {b L : Nat} {xs : Nat → Int32} {σ : Sg} {i : Int32} (B : CallFix p m c cL_law 9 s args AW RL) (F : Fx D ad cy ba s) (hst : l.stackTraces = false) (X : va_X b L xs s s.heap) (hbl : b < s.heap.size) (hbA : ¬ ba ≤ b) (P : Wo D ad cy ba s σ H locs) (hl : lv_has ls 9 [(5, .int i), (4, .ref (ad 32)), (3, .ref (ad 31)), (2, .ref (ad 19)), (1, .ref (ad 0)), (0, .ref b)]) (hC : GC 99000 σ) (hi : ∀ k, k ≤ 4 → vp_in (i + nI k) L) (hrc : cells + 4 ≤ room_1.cells) (hrs : slots + 24 ≤ room_1.slots) (ok : (GM 99000 (f_L_level (xs (i + 1).toNatClampNeg) σ).2 ∧ rI (f_X6_level (xs (i + 1).toNatClampNeg) (f_L_level (xs (i + 1).toNatClampNeg) σ).2).2 19 32 = (f_L_level (xs (i + 1).toNatClampNeg) σ).1 ∧ ((f_L_level (xs (i + 1).toNatClampNeg) σ).1 = 0 → rL (f_X6_level (xs (i + 1).toNatClampNeg) (f_L_level (xs (i + 1).toNatClampNeg) σ).2).2 31 (Int32.toNatClampNeg 0) = (f_X6_level (xs (i + 1).toNatClampNeg) (f_L_level (xs (i + 1).toNatClampNeg) σ).2).1.toInt64)))
    (kk : ∀ (H : Heap) (locs : List Loc) (ls : Array Slot), Wo D ad cy ba s (f_X6_level (xs (i + 1).toNatClampNeg) (f_L_level (xs (i + 1).toNatClampNeg) σ).2).2 H locs → lv_has ls 9 [(5, .int i), (4, .ref (ad 32)), (3, .ref (ad 31)), (2, .ref (ad 19)), (1, .ref (ad 0)), (0, .ref b)] → W p l e room_1 s m args below meth c H locs (cells + 4) (slots + 24) Q (F0 m 1981 ls [])) : W p l e room_1 s m args below meth c H locs cells slots Q (F0 m 1085 ls []) := by
  have hx := B.1
  have hb := B.2.1
  refine lv_aload_n hx hb dL_law_1085 rfl (lv_at hl 4 rfl) ?_
  refine lv_aload_n hx hb dL_law_1086 rfl (lv_at hl 5 rfl) ?_
  refine lv_iload hx hb dL_law_1087 (lv_at hl 0 rfl) ?_
  refine lv_iconst (v := 1) hx hb dL_law_1089 (by decide) ?_
  refine lv_iadd hx hb dL_law_1090 ?_
  refine va_sld hx hb X hbl hbA P.2 (hi 1 (by decide)) dL_law_1091 ?_
  refine lv_aload_n hx hb dL_law_1092 rfl (lv_at hl 2 rfl) ?_
  refine g_callSw B F P (As := [.ref (ad 0), .int (xs (i + 1).toNatClampNeg), .ref (ad 31)]) (cw_L_level (D := D) (ad := ad) (cy := cy) (ba := ba) l (xs (i + 1).toNatClampNeg) σ hst hC) q631 q632 q0 q633 nk_L_level rfl ⟨Nat.le_of_ble_eq_true rfl, Nat.le_of_ble_eq_true rfl⟩ hl.1 rfl (Nat.le_of_ble_eq_true rfl) dL_law_1093 ⟨hrc, hrs⟩ (fun H locs P => ?_)
  refine lv_istore (lv' := [(6, .int ((f_L_level (xs (i + 1).toNatClampNeg) σ).1)), (5, .int i), (4, .ref (ad 32)), (3, .ref (ad 31)), (2, .ref (ad 19)), (1, .ref (ad 0)), (0, .ref b)]) hx hb dL_law_1096 hl (by decide) rfl (fun ls hl => ?_)
  refine lv_aload_n hx hb dL_law_1098 rfl (lv_at hl 4 rfl) ?_
  refine lv_aload_n hx hb dL_law_1099 rfl (lv_at hl 6 rfl) ?_
  refine lv_iload hx hb dL_law_1100 (lv_at hl 1 rfl) ?_
  refine lv_iconst (v := 1) hx hb dL_law_1102 (by decide) ?_
  refine lv_iadd hx hb dL_law_1103 ?_
  refine va_sld hx hb X hbl hbA P.2 (hi 1 (by decide)) dL_law_1104 ?_
  refine g_callV B F P (As := [.int (xs (i + 1).toNatClampNeg)]) (ct_X6_level (D := D) (ad := ad) (cy := cy) (ba := ba) l (xs (i + 1).toNatClampNeg) ((f_L_level (xs (i + 1).toNatClampNeg) σ).2) ok.1) ok6 (by decide) rfl q1021 q1022 q1023 q8 q1024 nk_X6_level rfl ⟨Nat.le_of_ble_eq_true rfl, Nat.le_of_ble_eq_true rfl⟩ hl.1 rfl (Nat.le_of_ble_eq_true rfl) dL_law_1105 ⟨by omega, by omega⟩ (fun H locs P => ?_)
  refine lv_istore (lv' := [(7, .int ((f_X6_level (xs (i + 1).toNatClampNeg) ((f_L_level (xs (i + 1).toNatClampNeg) σ).2)).1)), (6, .int ((f_L_level (xs (i + 1).toNatClampNeg) σ).1)), (5, .int i), (4, .ref (ad 32)), (3, .ref (ad 31)), (2, .ref (ad 19)), (1, .ref (ad 0)), (0, .ref b)]) hx hb dL_law_1108 hl (by decide) rfl (fun ls hl => ?_)
  refine lv_aload_n hx hb dL_law_1110 rfl (lv_at hl 5 rfl) ?_
  refine g_callV B F P (As := []) (ct_X6_thrown (D := D) (ad := ad) (cy := cy) (ba := ba) l  ((f_X6_level (xs (i + 1).toNatClampNeg) ((f_L_level (xs (i + 1).toNatClampNeg) σ).2)).2) ) ok6 (by decide) rfl q918 q919 q920 q8 q921 nk_X6_thrown rfl ⟨Nat.le_of_ble_eq_true rfl, Nat.le_of_ble_eq_true rfl⟩ hl.1 rfl (Nat.le_of_ble_eq_true rfl) dL_law_1111 ⟨by omega, by omega⟩ (fun H locs P => ?_)
  refine lv_iload hx hb dL_law_1114 (lv_at hl 1 rfl) ?_
  refine lv_icmp_eq (tgt := 1121) hx hb dL_law_1116 (by decide) (fun _ => ?_) (fun h9 => absurd ok.2.1 h9)
  refine lv_iload hx hb dL_law_1121 (lv_at hl 1 rfl) ?_
  refine lv_if_ne (tgt := 1138) hx hb dL_law_1123 (by decide) (fun c_k => ?_) (fun c_k => ?_)
  · skip
    refine lv_goto (tgt := 1981) hx hb dL_law_1138 (by decide) ?_
    exact kk _ _ _ P (lv_sub hl [2, 3, 4, 5, 6, 7] rfl)
  · skip
    refine lv_aload_n hx hb dL_law_1126 rfl (lv_at hl 4 rfl) ?_
    refine lv_iconst (v := 0) hx hb dL_law_1127 (by decide) ?_
    refine g_lld B F P (by decide) rfl rfl (by unfold vp_in; decide) dL_law_1128 ?_
    refine lv_iload hx hb dL_law_1129 (lv_at hl 0 rfl) ?_
    refine lv_i2l hx hb dL_law_1131 rfl ?_
    refine W.lcmp hx hb dL_law_1132 ?_
    refine lv_if_eq (tgt := 1138) hx hb dL_law_1133 (by decide) (fun _ => ?_) (fun h9 => absurd (lc_eq (ok.2.2 c_k)) h9)
    refine lv_goto (tgt := 1981) hx hb dL_law_1138 (by decide) ?_
    exact kk _ _ _ P (lv_sub hl [2, 3, 4, 5, 6, 7] rfl)
theorem nk_L_shortOf : nmOk yL_shortOf RL 3 := ⟨rfl, by decide +kernel, by decide +kernel, by decide +kernel⟩
theorem nk_X6_shortOf : nmOk yX6_shortOf RX6 1 := ⟨rfl, by decide +kernel, by decide +kernel, by decide +kernel⟩
set_option maxHeartbeats 4000000 in
set_option maxRecDepth 100000 in
theorem lc_shortOf {D : va_G} {ad : Nat → Nat} {cy : Nat → ClassId} {ba : Nat} {p : Program} {l : Launch} {e : Env} {s : State} {m : MethodId} {args : Array Value} {below : List Frame} {meth : Method} {c : Code} {H : Heap} {locs : List Loc} {cells slots : Nat} {Q : State → Prop} {ls : Array Slot} {b L : Nat} {xs : Nat → Int32} {σ : Sg} {i : Int32} (B : CallFix p m c cL_law 9 s args AW RL) (F : Fx D ad cy ba s) (hst : l.stackTraces = false) (X : va_X b L xs s s.heap) (hbl : b < s.heap.size) (hbA : ¬ ba ≤ b) (P : Wo D ad cy ba s σ H locs) (hl : lv_has ls 9 [(5, .int i), (4, .ref (ad 32)), (3, .ref (ad 31)), (2, .ref (ad 19)), (1, .ref (ad 0)), (0, .ref b)]) (hC : GC 99000 σ) (hi : ∀ k, k ≤ 4 → vp_in (i + nI k) L) (hrc : cells + 4 ≤ room_1.cells) (hrs : slots + 24 ≤ room_1.slots) (ok : (GM 99000 (f_L_shortOf (xs (i + 1).toNatClampNeg) σ).2 ∧ rI (f_X6_shortOf (xs (i + 1).toNatClampNeg) (f_L_shortOf (xs (i + 1).toNatClampNeg) σ).2).2 19 32 = (f_L_shortOf (xs (i + 1).toNatClampNeg) σ).1 ∧ ((f_L_shortOf (xs (i + 1).toNatClampNeg) σ).1 = 0 → rL (f_X6_shortOf (xs (i + 1).toNatClampNeg) (f_L_shortOf (xs (i + 1).toNatClampNeg) σ).2).2 31 (Int32.toNatClampNeg 0) = (f_X6_shortOf (xs (i + 1).toNatClampNeg) (f_L_shortOf (xs (i + 1).toNatClampNeg) σ).2).1.toInt64)))
    (kk : ∀ (H : Heap) (locs : List Loc) (ls : Array Slot), Wo D ad cy ba s (f_X6_shortOf (xs (i + 1).toNatClampNeg) (f_L_shortOf (xs (i + 1).toNatClampNeg) σ).2).2 H locs → lv_has ls 9 [(5, .int i), (4, .ref (ad 32)), (3, .ref (ad 31)), (2, .ref (ad 19)), (1, .ref (ad 0)), (0, .ref b)] → W p l e room_1 s m args below meth c H locs (cells + 4) (slots + 24) Q (F0 m 1981 ls [])) : W p l e room_1 s m args below meth c H locs cells slots Q (F0 m 1141 ls []) := by
  have hx := B.1
  have hb := B.2.1
  refine lv_aload_n hx hb dL_law_1141 rfl (lv_at hl 4 rfl) ?_
  refine lv_aload_n hx hb dL_law_1142 rfl (lv_at hl 5 rfl) ?_
  refine lv_iload hx hb dL_law_1143 (lv_at hl 0 rfl) ?_
  refine lv_iconst (v := 1) hx hb dL_law_1145 (by decide) ?_
  refine lv_iadd hx hb dL_law_1146 ?_
  refine va_sld hx hb X hbl hbA P.2 (hi 1 (by decide)) dL_law_1147 ?_
  refine lv_aload_n hx hb dL_law_1148 rfl (lv_at hl 2 rfl) ?_
  refine g_callSw B F P (As := [.ref (ad 0), .int (xs (i + 1).toNatClampNeg), .ref (ad 31)]) (cw_L_shortOf (D := D) (ad := ad) (cy := cy) (ba := ba) l (xs (i + 1).toNatClampNeg) σ hst hC) q638 q639 q0 q640 nk_L_shortOf rfl ⟨Nat.le_of_ble_eq_true rfl, Nat.le_of_ble_eq_true rfl⟩ hl.1 rfl (Nat.le_of_ble_eq_true rfl) dL_law_1149 ⟨hrc, hrs⟩ (fun H locs P => ?_)
  refine lv_istore (lv' := [(6, .int ((f_L_shortOf (xs (i + 1).toNatClampNeg) σ).1)), (5, .int i), (4, .ref (ad 32)), (3, .ref (ad 31)), (2, .ref (ad 19)), (1, .ref (ad 0)), (0, .ref b)]) hx hb dL_law_1152 hl (by decide) rfl (fun ls hl => ?_)
  refine lv_aload_n hx hb dL_law_1154 rfl (lv_at hl 4 rfl) ?_
  refine lv_aload_n hx hb dL_law_1155 rfl (lv_at hl 6 rfl) ?_
  refine lv_iload hx hb dL_law_1156 (lv_at hl 1 rfl) ?_
  refine lv_iconst (v := 1) hx hb dL_law_1158 (by decide) ?_
  refine lv_iadd hx hb dL_law_1159 ?_
  refine va_sld hx hb X hbl hbA P.2 (hi 1 (by decide)) dL_law_1160 ?_
  refine g_callV B F P (As := [.int (xs (i + 1).toNatClampNeg)]) (ct_X6_shortOf (D := D) (ad := ad) (cy := cy) (ba := ba) l (xs (i + 1).toNatClampNeg) ((f_L_shortOf (xs (i + 1).toNatClampNeg) σ).2) ok.1) ok6 (by decide) rfl q1025 q1026 q1027 q8 q1028 nk_X6_shortOf rfl ⟨Nat.le_of_ble_eq_true rfl, Nat.le_of_ble_eq_true rfl⟩ hl.1 rfl (Nat.le_of_ble_eq_true rfl) dL_law_1161 ⟨by omega, by omega⟩ (fun H locs P => ?_)
  refine lv_istore (lv' := [(7, .int ((f_X6_shortOf (xs (i + 1).toNatClampNeg) ((f_L_shortOf (xs (i + 1).toNatClampNeg) σ).2)).1)), (6, .int ((f_L_shortOf (xs (i + 1).toNatClampNeg) σ).1)), (5, .int i), (4, .ref (ad 32)), (3, .ref (ad 31)), (2, .ref (ad 19)), (1, .ref (ad 0)), (0, .ref b)]) hx hb dL_law_1164 hl (by decide) rfl (fun ls hl => ?_)
  refine lv_aload_n hx hb dL_law_1166 rfl (lv_at hl 5 rfl) ?_
  refine g_callV B F P (As := []) (ct_X6_thrown (D := D) (ad := ad) (cy := cy) (ba := ba) l  ((f_X6_shortOf (xs (i + 1).toNatClampNeg) ((f_L_shortOf (xs (i + 1).toNatClampNeg) σ).2)).2) ) ok6 (by decide) rfl q918 q919 q920 q8 q921 nk_X6_thrown rfl ⟨Nat.le_of_ble_eq_true rfl, Nat.le_of_ble_eq_true rfl⟩ hl.1 rfl (Nat.le_of_ble_eq_true rfl) dL_law_1167 ⟨by omega, by omega⟩ (fun H locs P => ?_)
  refine lv_iload hx hb dL_law_1170 (lv_at hl 1 rfl) ?_
  refine lv_icmp_eq (tgt := 1177) hx hb dL_law_1172 (by decide) (fun _ => ?_) (fun h9 => absurd ok.2.1 h9)
  refine lv_iload hx hb dL_law_1177 (lv_at hl 1 rfl) ?_
  refine lv_if_ne (tgt := 1194) hx hb dL_law_1179 (by decide) (fun c_k => ?_) (fun c_k => ?_)
  · skip
    refine lv_goto (tgt := 1981) hx hb dL_law_1194 (by decide) ?_
    exact kk _ _ _ P (lv_sub hl [2, 3, 4, 5, 6, 7] rfl)
  · skip
    refine lv_aload_n hx hb dL_law_1182 rfl (lv_at hl 4 rfl) ?_
    refine lv_iconst (v := 0) hx hb dL_law_1183 (by decide) ?_
    refine g_lld B F P (by decide) rfl rfl (by unfold vp_in; decide) dL_law_1184 ?_
    refine lv_iload hx hb dL_law_1185 (lv_at hl 0 rfl) ?_
    refine lv_i2l hx hb dL_law_1187 rfl ?_
    refine W.lcmp hx hb dL_law_1188 ?_
    refine lv_if_eq (tgt := 1194) hx hb dL_law_1189 (by decide) (fun _ => ?_) (fun h9 => absurd (lc_eq (ok.2.2 c_k)) h9)
    refine lv_goto (tgt := 1981) hx hb dL_law_1194 (by decide) ?_
    exact kk _ _ _ P (lv_sub hl [2, 3, 4, 5, 6, 7] rfl)
theorem nk_X5_pass : nmOk yX5_pass RX5 1 := ⟨rfl, by decide +kernel, by decide +kernel, by decide +kernel⟩
theorem nk_X6_pass : nmOk yX6_pass RX6 1 := ⟨rfl, by decide +kernel, by decide +kernel, by decide +kernel⟩
set_option maxHeartbeats 4000000 in
set_option maxRecDepth 100000 in
theorem lc_pass {D : va_G} {ad : Nat → Nat} {cy : Nat → ClassId} {ba : Nat} {p : Program} {l : Launch} {e : Env} {s : State} {m : MethodId} {args : Array Value} {below : List Frame} {meth : Method} {c : Code} {H : Heap} {locs : List Loc} {cells slots : Nat} {Q : State → Prop} {ls : Array Slot} {b L : Nat} {xs : Nat → Int32} {σ : Sg} {i : Int32} (B : CallFix p m c cL_law 9 s args AW RL) (F : Fx D ad cy ba s) (hst : l.stackTraces = false) (X : va_X b L xs s s.heap) (hbl : b < s.heap.size) (hbA : ¬ ba ≤ b) (P : Wo D ad cy ba s σ H locs) (hl : lv_has ls 9 [(5, .int i), (4, .ref (ad 32)), (3, .ref (ad 31)), (2, .ref (ad 19)), (1, .ref (ad 0)), (0, .ref b)]) (hC : GC 99000 σ) (hi : ∀ k, k ≤ 4 → vp_in (i + nI k) L) (hrc : cells + 4 ≤ room_1.cells) (hrs : slots + 24 ≤ room_1.slots) (ok0 : (xs (i + 1).toNatClampNeg) = 0 → (GM 99000 (f_X5_pass 0 σ).2 ∧ (f_X5_pass 0 σ).1 = (f_X6_pass 0 (f_X5_pass 0 σ).2).1)) (ok1 : ¬ (xs (i + 1).toNatClampNeg) = 0 → (GM 99000 (f_X5_pass 1 σ).2 ∧ (f_X5_pass 1 σ).1 = (f_X6_pass 1 (f_X5_pass 1 σ).2).1))
    (kk : ∀ (σ' : Sg), ((xs (i + 1).toNatClampNeg) = 0 ∧ σ' = (f_X6_pass 0 (f_X5_pass 0 σ).2).2) ∨ (¬ (xs (i + 1).toNatClampNeg) = 0 ∧ σ' = (f_X6_pass 1 (f_X5_pass 1 σ).2).2) → ∀ (H : Heap) (locs : List Loc) (ls : Array Slot), Wo D ad cy ba s σ' H locs → lv_has ls 9 [(5, .int i), (4, .ref (ad 32)), (3, .ref (ad 31)), (2, .ref (ad 19)), (1, .ref (ad 0)), (0, .ref b)] → W p l e room_1 s m args below meth c H locs (cells + 4) (slots + 24) Q (F0 m 1981 ls [])) : W p l e room_1 s m args below meth c H locs cells slots Q (F0 m 1197 ls []) := by
  have hx := B.1
  have hb := B.2.1
  refine lv_aload_n hx hb dL_law_1197 rfl (lv_at hl 4 rfl) ?_
  refine lv_aload_n hx hb dL_law_1198 rfl (lv_at hl 5 rfl) ?_
  refine lv_iload hx hb dL_law_1199 (lv_at hl 0 rfl) ?_
  refine lv_iconst (v := 1) hx hb dL_law_1201 (by decide) ?_
  refine lv_iadd hx hb dL_law_1202 ?_
  refine va_sld hx hb X hbl hbA P.2 (hi 1 (by decide)) dL_law_1203 ?_
  refine lv_if_eq (tgt := 1211) hx hb dL_law_1204 (by decide) (fun c1204 => ?_) (fun c1204 => ?_)
  · have ok := ok0 c1204
    refine lv_iconst (v := 0) hx hb dL_law_1211 (by decide) ?_
    refine g_callV B F P (As := [.int 0]) (ct_X5_pass (D := D) (ad := ad) (cy := cy) (ba := ba) l 0 σ (hC.w (by decide))) ok5 (by decide) rfl q264 q265 q266 q1 q267 nk_X5_pass rfl ⟨Nat.le_of_ble_eq_true rfl, Nat.le_of_ble_eq_true rfl⟩ hl.1 rfl (Nat.le_of_ble_eq_true rfl) dL_law_1212 ⟨by omega, by omega⟩ (fun H locs P => ?_)
    refine lv_aload_n hx hb dL_law_1215 rfl (lv_at hl 3 rfl) ?_
    refine lv_aload_n hx hb dL_law_1216 rfl (lv_at hl 5 rfl) ?_
    refine lv_iload hx hb dL_law_1217 (lv_at hl 0 rfl) ?_
    refine lv_iconst (v := 1) hx hb dL_law_1219 (by decide) ?_
    refine lv_iadd hx hb dL_law_1220 ?_
    refine va_sld hx hb X hbl hbA P.2 (hi 1 (by decide)) dL_law_1221 ?_
    refine lv_if_eq (tgt := 1229) hx hb dL_law_1222 (by decide) (fun _ => ?_) (fun h9 => absurd c1204 h9)
    refine lv_iconst (v := 0) hx hb dL_law_1229 (by decide) ?_
    refine g_callV B F P (As := [.int 0]) (ct_X6_pass (D := D) (ad := ad) (cy := cy) (ba := ba) l 0 ((f_X5_pass 0 σ).2) ok.1) ok6 (by decide) rfl q1029 q1030 q1031 q8 q1032 nk_X6_pass rfl ⟨Nat.le_of_ble_eq_true rfl, Nat.le_of_ble_eq_true rfl⟩ hl.1 rfl (Nat.le_of_ble_eq_true rfl) dL_law_1230 ⟨by omega, by omega⟩ (fun H locs P => ?_)
    refine lv_icmp_eq (tgt := 1981) hx hb dL_law_1233 (by decide) (fun _ => ?_) (fun h9 => absurd ok.2 h9)
    refine W.widen (k := cells + 4) (n := slots + 24) (by omega) (by omega) ?_
    exact kk _ (Or.inl ⟨c1204, rfl⟩) _ _ _ P (lv_sub hl [0, 1, 2, 3, 4, 5] rfl)
  · have ok := ok1 c1204
    refine lv_iconst (v := 1) hx hb dL_law_1207 (by decide) ?_
    refine lv_goto (tgt := 1212) hx hb dL_law_1208 (by decide) ?_
    refine g_callV B F P (As := [.int 1]) (ct_X5_pass (D := D) (ad := ad) (cy := cy) (ba := ba) l 1 σ (hC.w (by decide))) ok5 (by decide) rfl q264 q265 q266 q1 q267 nk_X5_pass rfl ⟨Nat.le_of_ble_eq_true rfl, Nat.le_of_ble_eq_true rfl⟩ hl.1 rfl (Nat.le_of_ble_eq_true rfl) dL_law_1212 ⟨by omega, by omega⟩ (fun H locs P => ?_)
    refine lv_aload_n hx hb dL_law_1215 rfl (lv_at hl 3 rfl) ?_
    refine lv_aload_n hx hb dL_law_1216 rfl (lv_at hl 5 rfl) ?_
    refine lv_iload hx hb dL_law_1217 (lv_at hl 0 rfl) ?_
    refine lv_iconst (v := 1) hx hb dL_law_1219 (by decide) ?_
    refine lv_iadd hx hb dL_law_1220 ?_
    refine va_sld hx hb X hbl hbA P.2 (hi 1 (by decide)) dL_law_1221 ?_
    refine lv_if_eq (tgt := 1229) hx hb dL_law_1222 (by decide) (fun h9 => absurd h9 c1204) (fun _ => ?_)
    refine lv_iconst (v := 1) hx hb dL_law_1225 (by decide) ?_
    refine lv_goto (tgt := 1230) hx hb dL_law_1226 (by decide) ?_
    refine g_callV B F P (As := [.int 1]) (ct_X6_pass (D := D) (ad := ad) (cy := cy) (ba := ba) l 1 ((f_X5_pass 1 σ).2) ok.1) ok6 (by decide) rfl q1029 q1030 q1031 q8 q1032 nk_X6_pass rfl ⟨Nat.le_of_ble_eq_true rfl, Nat.le_of_ble_eq_true rfl⟩ hl.1 rfl (Nat.le_of_ble_eq_true rfl) dL_law_1230 ⟨by omega, by omega⟩ (fun H locs P => ?_)
    refine lv_icmp_eq (tgt := 1981) hx hb dL_law_1233 (by decide) (fun _ => ?_) (fun h9 => absurd ok.2 h9)
    refine W.widen (k := cells + 4) (n := slots + 24) (by omega) (by omega) ?_
    exact kk _ (Or.inr ⟨c1204, rfl⟩) _ _ _ P (lv_sub hl [0, 1, 2, 3, 4, 5] rfl)
theorem nk_L_run : nmOk yL_run RL 3 := ⟨rfl, by decide +kernel, by decide +kernel, by decide +kernel⟩
theorem nk_X6_run : nmOk yX6_run RX6 1 := ⟨rfl, by decide +kernel, by decide +kernel, by decide +kernel⟩
set_option maxHeartbeats 4000000 in
set_option maxRecDepth 100000 in
theorem lc_run {D : va_G} {ad : Nat → Nat} {cy : Nat → ClassId} {ba : Nat} {p : Program} {l : Launch} {e : Env} {s : State} {m : MethodId} {args : Array Value} {below : List Frame} {meth : Method} {c : Code} {H : Heap} {locs : List Loc} {cells slots : Nat} {Q : State → Prop} {ls : Array Slot} {b L : Nat} {xs : Nat → Int32} {σ : Sg} {i : Int32} (B : CallFix p m c cL_law 9 s args AW RL) (F : Fx D ad cy ba s) (hst : l.stackTraces = false) (X : va_X b L xs s s.heap) (hbl : b < s.heap.size) (hbA : ¬ ba ≤ b) (P : Wo D ad cy ba s σ H locs) (hl : lv_has ls 9 [(5, .int i), (4, .ref (ad 32)), (3, .ref (ad 31)), (2, .ref (ad 19)), (1, .ref (ad 0)), (0, .ref b)]) (hC : GC 99000 σ) (hi : ∀ k, k ≤ 4 → vp_in (i + nI k) L) (hrc : cells + 4 ≤ room_1.cells) (hrs : slots + 24 ≤ room_1.slots) (ok : (GM 99000 (f_L_run (xs (i + 1).toNatClampNeg) σ).2 ∧ rI (f_X6_run (xs (i + 1).toNatClampNeg) (f_L_run (xs (i + 1).toNatClampNeg) σ).2).2 19 32 = (f_L_run (xs (i + 1).toNatClampNeg) σ).1 ∧ ((f_L_run (xs (i + 1).toNatClampNeg) σ).1 = 0 → rL (f_X6_run (xs (i + 1).toNatClampNeg) (f_L_run (xs (i + 1).toNatClampNeg) σ).2).2 31 (Int32.toNatClampNeg 0) = (f_X6_run (xs (i + 1).toNatClampNeg) (f_L_run (xs (i + 1).toNatClampNeg) σ).2).1.toInt64)))
    (kk : ∀ (H : Heap) (locs : List Loc) (ls : Array Slot), Wo D ad cy ba s (f_X6_run (xs (i + 1).toNatClampNeg) (f_L_run (xs (i + 1).toNatClampNeg) σ).2).2 H locs → lv_has ls 9 [(5, .int i), (4, .ref (ad 32)), (3, .ref (ad 31)), (2, .ref (ad 19)), (1, .ref (ad 0)), (0, .ref b)] → W p l e room_1 s m args below meth c H locs (cells + 4) (slots + 24) Q (F0 m 1981 ls [])) : W p l e room_1 s m args below meth c H locs cells slots Q (F0 m 1238 ls []) := by
  have hx := B.1
  have hb := B.2.1
  refine lv_aload_n hx hb dL_law_1238 rfl (lv_at hl 4 rfl) ?_
  refine lv_aload_n hx hb dL_law_1239 rfl (lv_at hl 5 rfl) ?_
  refine lv_iload hx hb dL_law_1240 (lv_at hl 0 rfl) ?_
  refine lv_iconst (v := 1) hx hb dL_law_1242 (by decide) ?_
  refine lv_iadd hx hb dL_law_1243 ?_
  refine va_sld hx hb X hbl hbA P.2 (hi 1 (by decide)) dL_law_1244 ?_
  refine lv_aload_n hx hb dL_law_1245 rfl (lv_at hl 2 rfl) ?_
  refine g_callSw B F P (As := [.ref (ad 0), .int (xs (i + 1).toNatClampNeg), .ref (ad 31)]) (cw_L_run (D := D) (ad := ad) (cy := cy) (ba := ba) l (xs (i + 1).toNatClampNeg) σ hst hC) q645 q646 q0 q647 nk_L_run rfl ⟨Nat.le_of_ble_eq_true rfl, Nat.le_of_ble_eq_true rfl⟩ hl.1 rfl (Nat.le_of_ble_eq_true rfl) dL_law_1246 ⟨hrc, hrs⟩ (fun H locs P => ?_)
  refine lv_istore (lv' := [(6, .int ((f_L_run (xs (i + 1).toNatClampNeg) σ).1)), (5, .int i), (4, .ref (ad 32)), (3, .ref (ad 31)), (2, .ref (ad 19)), (1, .ref (ad 0)), (0, .ref b)]) hx hb dL_law_1249 hl (by decide) rfl (fun ls hl => ?_)
  refine lv_aload_n hx hb dL_law_1251 rfl (lv_at hl 4 rfl) ?_
  refine lv_aload_n hx hb dL_law_1252 rfl (lv_at hl 6 rfl) ?_
  refine lv_iload hx hb dL_law_1253 (lv_at hl 1 rfl) ?_
  refine lv_iconst (v := 1) hx hb dL_law_1255 (by decide) ?_
  refine lv_iadd hx hb dL_law_1256 ?_
  refine va_sld hx hb X hbl hbA P.2 (hi 1 (by decide)) dL_law_1257 ?_
  refine g_callV B F P (As := [.int (xs (i + 1).toNatClampNeg)]) (ct_X6_run (D := D) (ad := ad) (cy := cy) (ba := ba) l (xs (i + 1).toNatClampNeg) ((f_L_run (xs (i + 1).toNatClampNeg) σ).2) ok.1) ok6 (by decide) rfl q1058 q1059 q1060 q8 q1061 nk_X6_run rfl ⟨Nat.le_of_ble_eq_true rfl, Nat.le_of_ble_eq_true rfl⟩ hl.1 rfl (Nat.le_of_ble_eq_true rfl) dL_law_1258 ⟨by omega, by omega⟩ (fun H locs P => ?_)
  refine lv_istore (lv' := [(7, .int ((f_X6_run (xs (i + 1).toNatClampNeg) ((f_L_run (xs (i + 1).toNatClampNeg) σ).2)).1)), (6, .int ((f_L_run (xs (i + 1).toNatClampNeg) σ).1)), (5, .int i), (4, .ref (ad 32)), (3, .ref (ad 31)), (2, .ref (ad 19)), (1, .ref (ad 0)), (0, .ref b)]) hx hb dL_law_1261 hl (by decide) rfl (fun ls hl => ?_)
  refine lv_aload_n hx hb dL_law_1263 rfl (lv_at hl 5 rfl) ?_
  refine g_callV B F P (As := []) (ct_X6_thrown (D := D) (ad := ad) (cy := cy) (ba := ba) l  ((f_X6_run (xs (i + 1).toNatClampNeg) ((f_L_run (xs (i + 1).toNatClampNeg) σ).2)).2) ) ok6 (by decide) rfl q918 q919 q920 q8 q921 nk_X6_thrown rfl ⟨Nat.le_of_ble_eq_true rfl, Nat.le_of_ble_eq_true rfl⟩ hl.1 rfl (Nat.le_of_ble_eq_true rfl) dL_law_1264 ⟨by omega, by omega⟩ (fun H locs P => ?_)
  refine lv_iload hx hb dL_law_1267 (lv_at hl 1 rfl) ?_
  refine lv_icmp_eq (tgt := 1274) hx hb dL_law_1269 (by decide) (fun _ => ?_) (fun h9 => absurd ok.2.1 h9)
  refine lv_iload hx hb dL_law_1274 (lv_at hl 1 rfl) ?_
  refine lv_if_ne (tgt := 1291) hx hb dL_law_1276 (by decide) (fun c_k => ?_) (fun c_k => ?_)
  · skip
    refine lv_goto (tgt := 1981) hx hb dL_law_1291 (by decide) ?_
    exact kk _ _ _ P (lv_sub hl [2, 3, 4, 5, 6, 7] rfl)
  · skip
    refine lv_aload_n hx hb dL_law_1279 rfl (lv_at hl 4 rfl) ?_
    refine lv_iconst (v := 0) hx hb dL_law_1280 (by decide) ?_
    refine g_lld B F P (by decide) rfl rfl (by unfold vp_in; decide) dL_law_1281 ?_
    refine lv_iload hx hb dL_law_1282 (lv_at hl 0 rfl) ?_
    refine lv_i2l hx hb dL_law_1284 rfl ?_
    refine W.lcmp hx hb dL_law_1285 ?_
    refine lv_if_eq (tgt := 1291) hx hb dL_law_1286 (by decide) (fun _ => ?_) (fun h9 => absurd (lc_eq (ok.2.2 c_k)) h9)
    refine lv_goto (tgt := 1981) hx hb dL_law_1291 (by decide) ?_
    exact kk _ _ _ P (lv_sub hl [2, 3, 4, 5, 6, 7] rfl)
theorem nk_L_setHorizon : nmOk yL_setHorizon RL 3 := ⟨rfl, by decide +kernel, by decide +kernel, by decide +kernel⟩
theorem nk_X6_setHorizon : nmOk yX6_setHorizon RX6 1 := ⟨rfl, by decide +kernel, by decide +kernel, by decide +kernel⟩
set_option maxHeartbeats 4000000 in
set_option maxRecDepth 100000 in
theorem lc_setHorizon {D : va_G} {ad : Nat → Nat} {cy : Nat → ClassId} {ba : Nat} {p : Program} {l : Launch} {e : Env} {s : State} {m : MethodId} {args : Array Value} {below : List Frame} {meth : Method} {c : Code} {H : Heap} {locs : List Loc} {cells slots : Nat} {Q : State → Prop} {ls : Array Slot} {b L : Nat} {xs : Nat → Int32} {σ : Sg} {i : Int32} (B : CallFix p m c cL_law 9 s args AW RL) (F : Fx D ad cy ba s) (hst : l.stackTraces = false) (X : va_X b L xs s s.heap) (hbl : b < s.heap.size) (hbA : ¬ ba ≤ b) (P : Wo D ad cy ba s σ H locs) (hl : lv_has ls 9 [(5, .int i), (4, .ref (ad 32)), (3, .ref (ad 31)), (2, .ref (ad 19)), (1, .ref (ad 0)), (0, .ref b)]) (hC : GC 99000 σ) (hi : ∀ k, k ≤ 4 → vp_in (i + nI k) L) (hrc : cells + 4 ≤ room_1.cells) (hrs : slots + 24 ≤ room_1.slots) (ok : (GM 99000 (f_L_setHorizon (xs (i + 1).toNatClampNeg) σ).2 ∧ rI (f_X6_setHorizon (xs (i + 1).toNatClampNeg) (f_L_setHorizon (xs (i + 1).toNatClampNeg) σ).2).2 19 32 = (f_L_setHorizon (xs (i + 1).toNatClampNeg) σ).1 ∧ ((f_L_setHorizon (xs (i + 1).toNatClampNeg) σ).1 = 0 → rL (f_X6_setHorizon (xs (i + 1).toNatClampNeg) (f_L_setHorizon (xs (i + 1).toNatClampNeg) σ).2).2 31 (Int32.toNatClampNeg 0) = (f_X6_setHorizon (xs (i + 1).toNatClampNeg) (f_L_setHorizon (xs (i + 1).toNatClampNeg) σ).2).1.toInt64)))
    (kk : ∀ (H : Heap) (locs : List Loc) (ls : Array Slot), Wo D ad cy ba s (f_X6_setHorizon (xs (i + 1).toNatClampNeg) (f_L_setHorizon (xs (i + 1).toNatClampNeg) σ).2).2 H locs → lv_has ls 9 [(5, .int i), (4, .ref (ad 32)), (3, .ref (ad 31)), (2, .ref (ad 19)), (1, .ref (ad 0)), (0, .ref b)] → W p l e room_1 s m args below meth c H locs (cells + 4) (slots + 24) Q (F0 m 1981 ls [])) : W p l e room_1 s m args below meth c H locs cells slots Q (F0 m 1294 ls []) := by
  have hx := B.1
  have hb := B.2.1
  refine lv_aload_n hx hb dL_law_1294 rfl (lv_at hl 4 rfl) ?_
  refine lv_aload_n hx hb dL_law_1295 rfl (lv_at hl 5 rfl) ?_
  refine lv_iload hx hb dL_law_1296 (lv_at hl 0 rfl) ?_
  refine lv_iconst (v := 1) hx hb dL_law_1298 (by decide) ?_
  refine lv_iadd hx hb dL_law_1299 ?_
  refine va_sld hx hb X hbl hbA P.2 (hi 1 (by decide)) dL_law_1300 ?_
  refine lv_aload_n hx hb dL_law_1301 rfl (lv_at hl 2 rfl) ?_
  refine g_callSw B F P (As := [.ref (ad 0), .int (xs (i + 1).toNatClampNeg), .ref (ad 31)]) (cw_L_setHorizon (D := D) (ad := ad) (cy := cy) (ba := ba) l (xs (i + 1).toNatClampNeg) σ hst) q692 q693 q0 q694 nk_L_setHorizon rfl ⟨Nat.le_of_ble_eq_true rfl, Nat.le_of_ble_eq_true rfl⟩ hl.1 rfl (Nat.le_of_ble_eq_true rfl) dL_law_1302 ⟨hrc, hrs⟩ (fun H locs P => ?_)
  refine lv_istore (lv' := [(6, .int ((f_L_setHorizon (xs (i + 1).toNatClampNeg) σ).1)), (5, .int i), (4, .ref (ad 32)), (3, .ref (ad 31)), (2, .ref (ad 19)), (1, .ref (ad 0)), (0, .ref b)]) hx hb dL_law_1305 hl (by decide) rfl (fun ls hl => ?_)
  refine lv_aload_n hx hb dL_law_1307 rfl (lv_at hl 4 rfl) ?_
  refine lv_aload_n hx hb dL_law_1308 rfl (lv_at hl 6 rfl) ?_
  refine lv_iload hx hb dL_law_1309 (lv_at hl 1 rfl) ?_
  refine lv_iconst (v := 1) hx hb dL_law_1311 (by decide) ?_
  refine lv_iadd hx hb dL_law_1312 ?_
  refine va_sld hx hb X hbl hbA P.2 (hi 1 (by decide)) dL_law_1313 ?_
  refine g_callV B F P (As := [.int (xs (i + 1).toNatClampNeg)]) (ct_X6_setHorizon (D := D) (ad := ad) (cy := cy) (ba := ba) l (xs (i + 1).toNatClampNeg) ((f_L_setHorizon (xs (i + 1).toNatClampNeg) σ).2) ) ok6 (by decide) rfl q1075 q1076 q1077 q8 q1078 nk_X6_setHorizon rfl ⟨Nat.le_of_ble_eq_true rfl, Nat.le_of_ble_eq_true rfl⟩ hl.1 rfl (Nat.le_of_ble_eq_true rfl) dL_law_1314 ⟨by omega, by omega⟩ (fun H locs P => ?_)
  refine lv_istore (lv' := [(7, .int ((f_X6_setHorizon (xs (i + 1).toNatClampNeg) ((f_L_setHorizon (xs (i + 1).toNatClampNeg) σ).2)).1)), (6, .int ((f_L_setHorizon (xs (i + 1).toNatClampNeg) σ).1)), (5, .int i), (4, .ref (ad 32)), (3, .ref (ad 31)), (2, .ref (ad 19)), (1, .ref (ad 0)), (0, .ref b)]) hx hb dL_law_1317 hl (by decide) rfl (fun ls hl => ?_)
  refine lv_aload_n hx hb dL_law_1319 rfl (lv_at hl 5 rfl) ?_
  refine g_callV B F P (As := []) (ct_X6_thrown (D := D) (ad := ad) (cy := cy) (ba := ba) l  ((f_X6_setHorizon (xs (i + 1).toNatClampNeg) ((f_L_setHorizon (xs (i + 1).toNatClampNeg) σ).2)).2) ) ok6 (by decide) rfl q918 q919 q920 q8 q921 nk_X6_thrown rfl ⟨Nat.le_of_ble_eq_true rfl, Nat.le_of_ble_eq_true rfl⟩ hl.1 rfl (Nat.le_of_ble_eq_true rfl) dL_law_1320 ⟨by omega, by omega⟩ (fun H locs P => ?_)
  refine lv_iload hx hb dL_law_1323 (lv_at hl 1 rfl) ?_
  refine lv_icmp_eq (tgt := 1330) hx hb dL_law_1325 (by decide) (fun _ => ?_) (fun h9 => absurd ok.2.1 h9)
  refine lv_iload hx hb dL_law_1330 (lv_at hl 1 rfl) ?_
  refine lv_if_ne (tgt := 1347) hx hb dL_law_1332 (by decide) (fun c_k => ?_) (fun c_k => ?_)
  · skip
    refine lv_goto (tgt := 1981) hx hb dL_law_1347 (by decide) ?_
    exact kk _ _ _ P (lv_sub hl [2, 3, 4, 5, 6, 7] rfl)
  · skip
    refine lv_aload_n hx hb dL_law_1335 rfl (lv_at hl 4 rfl) ?_
    refine lv_iconst (v := 0) hx hb dL_law_1336 (by decide) ?_
    refine g_lld B F P (by decide) rfl rfl (by unfold vp_in; decide) dL_law_1337 ?_
    refine lv_iload hx hb dL_law_1338 (lv_at hl 0 rfl) ?_
    refine lv_i2l hx hb dL_law_1340 rfl ?_
    refine W.lcmp hx hb dL_law_1341 ?_
    refine lv_if_eq (tgt := 1347) hx hb dL_law_1342 (by decide) (fun _ => ?_) (fun h9 => absurd (lc_eq (ok.2.2 c_k)) h9)
    refine lv_goto (tgt := 1981) hx hb dL_law_1347 (by decide) ?_
    exact kk _ _ _ P (lv_sub hl [2, 3, 4, 5, 6, 7] rfl)
theorem nk_L_order : nmOk yL_order RL 4 := ⟨rfl, by decide +kernel, by decide +kernel, by decide +kernel⟩
theorem nk_X6_order : nmOk yX6_order RX6 2 := ⟨rfl, by decide +kernel, by decide +kernel, by decide +kernel⟩
set_option maxHeartbeats 4000000 in
set_option maxRecDepth 100000 in
theorem lc_order {D : va_G} {ad : Nat → Nat} {cy : Nat → ClassId} {ba : Nat} {p : Program} {l : Launch} {e : Env} {s : State} {m : MethodId} {args : Array Value} {below : List Frame} {meth : Method} {c : Code} {H : Heap} {locs : List Loc} {cells slots : Nat} {Q : State → Prop} {ls : Array Slot} {b L : Nat} {xs : Nat → Int32} {σ : Sg} {i : Int32} (B : CallFix p m c cL_law 9 s args AW RL) (F : Fx D ad cy ba s) (hst : l.stackTraces = false) (X : va_X b L xs s s.heap) (hbl : b < s.heap.size) (hbA : ¬ ba ≤ b) (P : Wo D ad cy ba s σ H locs) (hl : lv_has ls 9 [(5, .int i), (4, .ref (ad 32)), (3, .ref (ad 31)), (2, .ref (ad 19)), (1, .ref (ad 0)), (0, .ref b)]) (hC : GC 99000 σ) (hi : ∀ k, k ≤ 4 → vp_in (i + nI k) L) (hrc : cells + 4 ≤ room_1.cells) (hrs : slots + 24 ≤ room_1.slots) (ok0 : (xs (i + 2).toNatClampNeg) = 0 → (GM 99000 (f_L_order (xs (i + 1).toNatClampNeg) 0 σ).2 ∧ rI (f_X6_order (xs (i + 1).toNatClampNeg) 0 (f_L_order (xs (i + 1).toNatClampNeg) 0 σ).2).2 19 32 = (f_L_order (xs (i + 1).toNatClampNeg) 0 σ).1 ∧ ((f_L_order (xs (i + 1).toNatClampNeg) 0 σ).1 = 0 → rL (f_X6_order (xs (i + 1).toNatClampNeg) 0 (f_L_order (xs (i + 1).toNatClampNeg) 0 σ).2).2 31 (Int32.toNatClampNeg 0) = (f_X6_order (xs (i + 1).toNatClampNeg) 0 (f_L_order (xs (i + 1).toNatClampNeg) 0 σ).2).1.toInt64))) (ok1 : ¬ (xs (i + 2).toNatClampNeg) = 0 → (GM 99000 (f_L_order (xs (i + 1).toNatClampNeg) 1 σ).2 ∧ rI (f_X6_order (xs (i + 1).toNatClampNeg) 1 (f_L_order (xs (i + 1).toNatClampNeg) 1 σ).2).2 19 32 = (f_L_order (xs (i + 1).toNatClampNeg) 1 σ).1 ∧ ((f_L_order (xs (i + 1).toNatClampNeg) 1 σ).1 = 0 → rL (f_X6_order (xs (i + 1).toNatClampNeg) 1 (f_L_order (xs (i + 1).toNatClampNeg) 1 σ).2).2 31 (Int32.toNatClampNeg 0) = (f_X6_order (xs (i + 1).toNatClampNeg) 1 (f_L_order (xs (i + 1).toNatClampNeg) 1 σ).2).1.toInt64)))
    (kk : ∀ (σ' : Sg), ((xs (i + 2).toNatClampNeg) = 0 ∧ σ' = (f_X6_order (xs (i + 1).toNatClampNeg) 0 (f_L_order (xs (i + 1).toNatClampNeg) 0 σ).2).2) ∨ (¬ (xs (i + 2).toNatClampNeg) = 0 ∧ σ' = (f_X6_order (xs (i + 1).toNatClampNeg) 1 (f_L_order (xs (i + 1).toNatClampNeg) 1 σ).2).2) → ∀ (H : Heap) (locs : List Loc) (ls : Array Slot), Wo D ad cy ba s σ' H locs → lv_has ls 9 [(5, .int i), (4, .ref (ad 32)), (3, .ref (ad 31)), (2, .ref (ad 19)), (1, .ref (ad 0)), (0, .ref b)] → W p l e room_1 s m args below meth c H locs (cells + 4) (slots + 24) Q (F0 m 1981 ls [])) : W p l e room_1 s m args below meth c H locs cells slots Q (F0 m 1350 ls []) := by
  have hx := B.1
  have hb := B.2.1
  refine lv_aload_n hx hb dL_law_1350 rfl (lv_at hl 4 rfl) ?_
  refine lv_aload_n hx hb dL_law_1351 rfl (lv_at hl 5 rfl) ?_
  refine lv_iload hx hb dL_law_1352 (lv_at hl 0 rfl) ?_
  refine lv_iconst (v := 1) hx hb dL_law_1354 (by decide) ?_
  refine lv_iadd hx hb dL_law_1355 ?_
  refine va_sld hx hb X hbl hbA P.2 (hi 1 (by decide)) dL_law_1356 ?_
  refine lv_aload_n hx hb dL_law_1357 rfl (lv_at hl 5 rfl) ?_
  refine lv_iload hx hb dL_law_1358 (lv_at hl 0 rfl) ?_
  refine lv_iconst (v := 2) hx hb dL_law_1360 (by decide) ?_
  refine lv_iadd hx hb dL_law_1361 ?_
  refine va_sld hx hb X hbl hbA P.2 (hi 2 (by decide)) dL_law_1362 ?_
  refine lv_if_eq (tgt := 1370) hx hb dL_law_1363 (by decide) (fun c1363 => ?_) (fun c1363 => ?_)
  · have ok := ok0 c1363
    refine lv_iconst (v := 0) hx hb dL_law_1370 (by decide) ?_
    refine lv_aload_n hx hb dL_law_1371 rfl (lv_at hl 2 rfl) ?_
    refine g_callSw B F P (As := [.ref (ad 0), .int (xs (i + 1).toNatClampNeg), .int 0, .ref (ad 31)]) (cw_L_order (D := D) (ad := ad) (cy := cy) (ba := ba) l (xs (i + 1).toNatClampNeg) 0 σ hst hC) q699 q700 q0 q701 nk_L_order rfl ⟨Nat.le_of_ble_eq_true rfl, Nat.le_of_ble_eq_true rfl⟩ hl.1 rfl (Nat.le_of_ble_eq_true rfl) dL_law_1372 ⟨hrc, hrs⟩ (fun H locs P => ?_)
    refine lv_istore (lv' := [(6, .int ((f_L_order (xs (i + 1).toNatClampNeg) 0 σ).1)), (5, .int i), (4, .ref (ad 32)), (3, .ref (ad 31)), (2, .ref (ad 19)), (1, .ref (ad 0)), (0, .ref b)]) hx hb dL_law_1375 hl (by decide) rfl (fun ls hl => ?_)
    refine lv_aload_n hx hb dL_law_1377 rfl (lv_at hl 4 rfl) ?_
    refine lv_aload_n hx hb dL_law_1378 rfl (lv_at hl 6 rfl) ?_
    refine lv_iload hx hb dL_law_1379 (lv_at hl 1 rfl) ?_
    refine lv_iconst (v := 1) hx hb dL_law_1381 (by decide) ?_
    refine lv_iadd hx hb dL_law_1382 ?_
    refine va_sld hx hb X hbl hbA P.2 (hi 1 (by decide)) dL_law_1383 ?_
    refine lv_aload_n hx hb dL_law_1384 rfl (lv_at hl 6 rfl) ?_
    refine lv_iload hx hb dL_law_1385 (lv_at hl 1 rfl) ?_
    refine lv_iconst (v := 2) hx hb dL_law_1387 (by decide) ?_
    refine lv_iadd hx hb dL_law_1388 ?_
    refine va_sld hx hb X hbl hbA P.2 (hi 2 (by decide)) dL_law_1389 ?_
    refine lv_if_eq (tgt := 1397) hx hb dL_law_1390 (by decide) (fun _ => ?_) (fun h9 => absurd c1363 h9)
    refine lv_iconst (v := 0) hx hb dL_law_1397 (by decide) ?_
    refine g_callV B F P (As := [.int (xs (i + 1).toNatClampNeg), .int 0]) (ct_X6_order (D := D) (ad := ad) (cy := cy) (ba := ba) l (xs (i + 1).toNatClampNeg) 0 ((f_L_order (xs (i + 1).toNatClampNeg) 0 σ).2) ok.1 (by decide)) ok6 (by decide) rfl q1080 q1081 q1082 q8 q1083 nk_X6_order rfl ⟨Nat.le_of_ble_eq_true rfl, Nat.le_of_ble_eq_true rfl⟩ hl.1 rfl (Nat.le_of_ble_eq_true rfl) dL_law_1398 ⟨by omega, by omega⟩ (fun H locs P => ?_)
    refine lv_istore (lv' := [(7, .int ((f_X6_order (xs (i + 1).toNatClampNeg) 0 ((f_L_order (xs (i + 1).toNatClampNeg) 0 σ).2)).1)), (6, .int ((f_L_order (xs (i + 1).toNatClampNeg) 0 σ).1)), (5, .int i), (4, .ref (ad 32)), (3, .ref (ad 31)), (2, .ref (ad 19)), (1, .ref (ad 0)), (0, .ref b)]) hx hb dL_law_1401 hl (by decide) rfl (fun ls hl => ?_)
    refine lv_aload_n hx hb dL_law_1403 rfl (lv_at hl 5 rfl) ?_
    refine g_callV B F P (As := []) (ct_X6_thrown (D := D) (ad := ad) (cy := cy) (ba := ba) l  ((f_X6_order (xs (i + 1).toNatClampNeg) 0 ((f_L_order (xs (i + 1).toNatClampNeg) 0 σ).2)).2) ) ok6 (by decide) rfl q918 q919 q920 q8 q921 nk_X6_thrown rfl ⟨Nat.le_of_ble_eq_true rfl, Nat.le_of_ble_eq_true rfl⟩ hl.1 rfl (Nat.le_of_ble_eq_true rfl) dL_law_1404 ⟨by omega, by omega⟩ (fun H locs P => ?_)
    refine lv_iload hx hb dL_law_1407 (lv_at hl 1 rfl) ?_
    refine lv_icmp_eq (tgt := 1414) hx hb dL_law_1409 (by decide) (fun _ => ?_) (fun h9 => absurd ok.2.1 h9)
    refine lv_iload hx hb dL_law_1414 (lv_at hl 1 rfl) ?_
    refine lv_if_ne (tgt := 1431) hx hb dL_law_1416 (by decide) (fun c_k => ?_) (fun c_k => ?_)
    · skip
      refine lv_goto (tgt := 1981) hx hb dL_law_1431 (by decide) ?_
      exact kk _ (Or.inl ⟨c1363, rfl⟩) _ _ _ P (lv_sub hl [2, 3, 4, 5, 6, 7] rfl)
    · skip
      refine lv_aload_n hx hb dL_law_1419 rfl (lv_at hl 4 rfl) ?_
      refine lv_iconst (v := 0) hx hb dL_law_1420 (by decide) ?_
      refine g_lld B F P (by decide) rfl rfl (by unfold vp_in; decide) dL_law_1421 ?_
      refine lv_iload hx hb dL_law_1422 (lv_at hl 0 rfl) ?_
      refine lv_i2l hx hb dL_law_1424 rfl ?_
      refine W.lcmp hx hb dL_law_1425 ?_
      refine lv_if_eq (tgt := 1431) hx hb dL_law_1426 (by decide) (fun _ => ?_) (fun h9 => absurd (lc_eq (ok.2.2 c_k)) h9)
      refine lv_goto (tgt := 1981) hx hb dL_law_1431 (by decide) ?_
      exact kk _ (Or.inl ⟨c1363, rfl⟩) _ _ _ P (lv_sub hl [2, 3, 4, 5, 6, 7] rfl)
  · have ok := ok1 c1363
    refine lv_iconst (v := 1) hx hb dL_law_1366 (by decide) ?_
    refine lv_goto (tgt := 1371) hx hb dL_law_1367 (by decide) ?_
    refine lv_aload_n hx hb dL_law_1371 rfl (lv_at hl 2 rfl) ?_
    refine g_callSw B F P (As := [.ref (ad 0), .int (xs (i + 1).toNatClampNeg), .int 1, .ref (ad 31)]) (cw_L_order (D := D) (ad := ad) (cy := cy) (ba := ba) l (xs (i + 1).toNatClampNeg) 1 σ hst hC) q699 q700 q0 q701 nk_L_order rfl ⟨Nat.le_of_ble_eq_true rfl, Nat.le_of_ble_eq_true rfl⟩ hl.1 rfl (Nat.le_of_ble_eq_true rfl) dL_law_1372 ⟨hrc, hrs⟩ (fun H locs P => ?_)
    refine lv_istore (lv' := [(6, .int ((f_L_order (xs (i + 1).toNatClampNeg) 1 σ).1)), (5, .int i), (4, .ref (ad 32)), (3, .ref (ad 31)), (2, .ref (ad 19)), (1, .ref (ad 0)), (0, .ref b)]) hx hb dL_law_1375 hl (by decide) rfl (fun ls hl => ?_)
    refine lv_aload_n hx hb dL_law_1377 rfl (lv_at hl 4 rfl) ?_
    refine lv_aload_n hx hb dL_law_1378 rfl (lv_at hl 6 rfl) ?_
    refine lv_iload hx hb dL_law_1379 (lv_at hl 1 rfl) ?_
    refine lv_iconst (v := 1) hx hb dL_law_1381 (by decide) ?_
    refine lv_iadd hx hb dL_law_1382 ?_
    refine va_sld hx hb X hbl hbA P.2 (hi 1 (by decide)) dL_law_1383 ?_
    refine lv_aload_n hx hb dL_law_1384 rfl (lv_at hl 6 rfl) ?_
    refine lv_iload hx hb dL_law_1385 (lv_at hl 1 rfl) ?_
    refine lv_iconst (v := 2) hx hb dL_law_1387 (by decide) ?_
    refine lv_iadd hx hb dL_law_1388 ?_
    refine va_sld hx hb X hbl hbA P.2 (hi 2 (by decide)) dL_law_1389 ?_
    refine lv_if_eq (tgt := 1397) hx hb dL_law_1390 (by decide) (fun h9 => absurd h9 c1363) (fun _ => ?_)
    refine lv_iconst (v := 1) hx hb dL_law_1393 (by decide) ?_
    refine lv_goto (tgt := 1398) hx hb dL_law_1394 (by decide) ?_
    refine g_callV B F P (As := [.int (xs (i + 1).toNatClampNeg), .int 1]) (ct_X6_order (D := D) (ad := ad) (cy := cy) (ba := ba) l (xs (i + 1).toNatClampNeg) 1 ((f_L_order (xs (i + 1).toNatClampNeg) 1 σ).2) ok.1 (by decide)) ok6 (by decide) rfl q1080 q1081 q1082 q8 q1083 nk_X6_order rfl ⟨Nat.le_of_ble_eq_true rfl, Nat.le_of_ble_eq_true rfl⟩ hl.1 rfl (Nat.le_of_ble_eq_true rfl) dL_law_1398 ⟨by omega, by omega⟩ (fun H locs P => ?_)
    refine lv_istore (lv' := [(7, .int ((f_X6_order (xs (i + 1).toNatClampNeg) 1 ((f_L_order (xs (i + 1).toNatClampNeg) 1 σ).2)).1)), (6, .int ((f_L_order (xs (i + 1).toNatClampNeg) 1 σ).1)), (5, .int i), (4, .ref (ad 32)), (3, .ref (ad 31)), (2, .ref (ad 19)), (1, .ref (ad 0)), (0, .ref b)]) hx hb dL_law_1401 hl (by decide) rfl (fun ls hl => ?_)
    refine lv_aload_n hx hb dL_law_1403 rfl (lv_at hl 5 rfl) ?_
    refine g_callV B F P (As := []) (ct_X6_thrown (D := D) (ad := ad) (cy := cy) (ba := ba) l  ((f_X6_order (xs (i + 1).toNatClampNeg) 1 ((f_L_order (xs (i + 1).toNatClampNeg) 1 σ).2)).2) ) ok6 (by decide) rfl q918 q919 q920 q8 q921 nk_X6_thrown rfl ⟨Nat.le_of_ble_eq_true rfl, Nat.le_of_ble_eq_true rfl⟩ hl.1 rfl (Nat.le_of_ble_eq_true rfl) dL_law_1404 ⟨by omega, by omega⟩ (fun H locs P => ?_)
    refine lv_iload hx hb dL_law_1407 (lv_at hl 1 rfl) ?_
    refine lv_icmp_eq (tgt := 1414) hx hb dL_law_1409 (by decide) (fun _ => ?_) (fun h9 => absurd ok.2.1 h9)
    refine lv_iload hx hb dL_law_1414 (lv_at hl 1 rfl) ?_
    refine lv_if_ne (tgt := 1431) hx hb dL_law_1416 (by decide) (fun c_k => ?_) (fun c_k => ?_)
    · skip
      refine lv_goto (tgt := 1981) hx hb dL_law_1431 (by decide) ?_
      exact kk _ (Or.inr ⟨c1363, rfl⟩) _ _ _ P (lv_sub hl [2, 3, 4, 5, 6, 7] rfl)
    · skip
      refine lv_aload_n hx hb dL_law_1419 rfl (lv_at hl 4 rfl) ?_
      refine lv_iconst (v := 0) hx hb dL_law_1420 (by decide) ?_
      refine g_lld B F P (by decide) rfl rfl (by unfold vp_in; decide) dL_law_1421 ?_
      refine lv_iload hx hb dL_law_1422 (lv_at hl 0 rfl) ?_
      refine lv_i2l hx hb dL_law_1424 rfl ?_
      refine W.lcmp hx hb dL_law_1425 ?_
      refine lv_if_eq (tgt := 1431) hx hb dL_law_1426 (by decide) (fun _ => ?_) (fun h9 => absurd (lc_eq (ok.2.2 c_k)) h9)
      refine lv_goto (tgt := 1981) hx hb dL_law_1431 (by decide) ?_
      exact kk _ (Or.inr ⟨c1363, rfl⟩) _ _ _ P (lv_sub hl [2, 3, 4, 5, 6, 7] rfl)
theorem nk_L_takeBack : nmOk yL_takeBack RL 3 := ⟨rfl, by decide +kernel, by decide +kernel, by decide +kernel⟩
theorem nk_X6_takeBack : nmOk yX6_takeBack RX6 1 := ⟨rfl, by decide +kernel, by decide +kernel, by decide +kernel⟩
set_option maxHeartbeats 4000000 in
set_option maxRecDepth 100000 in
theorem lc_takeBack {D : va_G} {ad : Nat → Nat} {cy : Nat → ClassId} {ba : Nat} {p : Program} {l : Launch} {e : Env} {s : State} {m : MethodId} {args : Array Value} {below : List Frame} {meth : Method} {c : Code} {H : Heap} {locs : List Loc} {cells slots : Nat} {Q : State → Prop} {ls : Array Slot} {b L : Nat} {xs : Nat → Int32} {σ : Sg} {i : Int32} (B : CallFix p m c cL_law 9 s args AW RL) (F : Fx D ad cy ba s) (hst : l.stackTraces = false) (X : va_X b L xs s s.heap) (hbl : b < s.heap.size) (hbA : ¬ ba ≤ b) (P : Wo D ad cy ba s σ H locs) (hl : lv_has ls 9 [(5, .int i), (4, .ref (ad 32)), (3, .ref (ad 31)), (2, .ref (ad 19)), (1, .ref (ad 0)), (0, .ref b)]) (hC : GC 99000 σ) (hi : ∀ k, k ≤ 4 → vp_in (i + nI k) L) (hrc : cells + 4 ≤ room_1.cells) (hrs : slots + 24 ≤ room_1.slots) (ok : (GM 99000 (f_L_takeBack (xs (i + 1).toNatClampNeg) σ).2 ∧ rI (f_X6_takeBack (xs (i + 1).toNatClampNeg) (f_L_takeBack (xs (i + 1).toNatClampNeg) σ).2).2 19 32 = (f_L_takeBack (xs (i + 1).toNatClampNeg) σ).1 ∧ ((f_L_takeBack (xs (i + 1).toNatClampNeg) σ).1 = 0 → rL (f_X6_takeBack (xs (i + 1).toNatClampNeg) (f_L_takeBack (xs (i + 1).toNatClampNeg) σ).2).2 31 (Int32.toNatClampNeg 0) = (if (f_X6_takeBack (xs (i + 1).toNatClampNeg) (f_L_takeBack (xs (i + 1).toNatClampNeg) σ).2).1 = 0 then 0 else 1))))
    (kk : ∀ (H : Heap) (locs : List Loc) (ls : Array Slot), Wo D ad cy ba s (f_X6_takeBack (xs (i + 1).toNatClampNeg) (f_L_takeBack (xs (i + 1).toNatClampNeg) σ).2).2 H locs → lv_has ls 9 [(5, .int i), (4, .ref (ad 32)), (3, .ref (ad 31)), (2, .ref (ad 19)), (1, .ref (ad 0)), (0, .ref b)] → W p l e room_1 s m args below meth c H locs (cells + 4) (slots + 24) Q (F0 m 1981 ls [])) : W p l e room_1 s m args below meth c H locs cells slots Q (F0 m 1434 ls []) := by
  have hx := B.1
  have hb := B.2.1
  refine lv_aload_n hx hb dL_law_1434 rfl (lv_at hl 4 rfl) ?_
  refine lv_aload_n hx hb dL_law_1435 rfl (lv_at hl 5 rfl) ?_
  refine lv_iload hx hb dL_law_1436 (lv_at hl 0 rfl) ?_
  refine lv_iconst (v := 1) hx hb dL_law_1438 (by decide) ?_
  refine lv_iadd hx hb dL_law_1439 ?_
  refine va_sld hx hb X hbl hbA P.2 (hi 1 (by decide)) dL_law_1440 ?_
  refine lv_aload_n hx hb dL_law_1441 rfl (lv_at hl 2 rfl) ?_
  refine g_callSw B F P (As := [.ref (ad 0), .int (xs (i + 1).toNatClampNeg), .ref (ad 31)]) (cw_L_takeBack (D := D) (ad := ad) (cy := cy) (ba := ba) l (xs (i + 1).toNatClampNeg) σ hst hC) q712 q713 q0 q714 nk_L_takeBack rfl ⟨Nat.le_of_ble_eq_true rfl, Nat.le_of_ble_eq_true rfl⟩ hl.1 rfl (Nat.le_of_ble_eq_true rfl) dL_law_1442 ⟨hrc, hrs⟩ (fun H locs P => ?_)
  refine lv_istore (lv' := [(6, .int ((f_L_takeBack (xs (i + 1).toNatClampNeg) σ).1)), (5, .int i), (4, .ref (ad 32)), (3, .ref (ad 31)), (2, .ref (ad 19)), (1, .ref (ad 0)), (0, .ref b)]) hx hb dL_law_1445 hl (by decide) rfl (fun ls hl => ?_)
  refine lv_aload_n hx hb dL_law_1447 rfl (lv_at hl 4 rfl) ?_
  refine lv_aload_n hx hb dL_law_1448 rfl (lv_at hl 6 rfl) ?_
  refine lv_iload hx hb dL_law_1449 (lv_at hl 1 rfl) ?_
  refine lv_iconst (v := 1) hx hb dL_law_1451 (by decide) ?_
  refine lv_iadd hx hb dL_law_1452 ?_
  refine va_sld hx hb X hbl hbA P.2 (hi 1 (by decide)) dL_law_1453 ?_
  refine g_callV B F P (As := [.int (xs (i + 1).toNatClampNeg)]) (ct_X6_takeBack (D := D) (ad := ad) (cy := cy) (ba := ba) l (xs (i + 1).toNatClampNeg) ((f_L_takeBack (xs (i + 1).toNatClampNeg) σ).2) ok.1) ok6 (by decide) rfl q1084 q1085 q1086 q8 q1087 nk_X6_takeBack rfl ⟨Nat.le_of_ble_eq_true rfl, Nat.le_of_ble_eq_true rfl⟩ hl.1 rfl (Nat.le_of_ble_eq_true rfl) dL_law_1454 ⟨by omega, by omega⟩ (fun H locs P => ?_)
  refine lv_istore (lv' := [(7, .int ((f_X6_takeBack (xs (i + 1).toNatClampNeg) ((f_L_takeBack (xs (i + 1).toNatClampNeg) σ).2)).1)), (6, .int ((f_L_takeBack (xs (i + 1).toNatClampNeg) σ).1)), (5, .int i), (4, .ref (ad 32)), (3, .ref (ad 31)), (2, .ref (ad 19)), (1, .ref (ad 0)), (0, .ref b)]) hx hb dL_law_1457 hl (by decide) rfl (fun ls hl => ?_)
  refine lv_aload_n hx hb dL_law_1459 rfl (lv_at hl 5 rfl) ?_
  refine g_callV B F P (As := []) (ct_X6_thrown (D := D) (ad := ad) (cy := cy) (ba := ba) l  ((f_X6_takeBack (xs (i + 1).toNatClampNeg) ((f_L_takeBack (xs (i + 1).toNatClampNeg) σ).2)).2) ) ok6 (by decide) rfl q918 q919 q920 q8 q921 nk_X6_thrown rfl ⟨Nat.le_of_ble_eq_true rfl, Nat.le_of_ble_eq_true rfl⟩ hl.1 rfl (Nat.le_of_ble_eq_true rfl) dL_law_1460 ⟨by omega, by omega⟩ (fun H locs P => ?_)
  refine lv_iload hx hb dL_law_1463 (lv_at hl 1 rfl) ?_
  refine lv_icmp_eq (tgt := 1470) hx hb dL_law_1465 (by decide) (fun _ => ?_) (fun h9 => absurd ok.2.1 h9)
  refine lv_iload hx hb dL_law_1470 (lv_at hl 1 rfl) ?_
  refine lv_if_ne (tgt := 1494) hx hb dL_law_1472 (by decide) (fun c_k => ?_) (fun c_k => ?_)
  · skip
    refine lv_goto (tgt := 1981) hx hb dL_law_1494 (by decide) ?_
    exact kk _ _ _ P (lv_sub hl [2, 3, 4, 5, 6, 7] rfl)
  · skip
    refine lv_aload_n hx hb dL_law_1475 rfl (lv_at hl 4 rfl) ?_
    refine lv_iconst (v := 0) hx hb dL_law_1476 (by decide) ?_
    refine g_lld B F P (by decide) rfl rfl (by unfold vp_in; decide) dL_law_1477 ?_
    refine lv_iload hx hb dL_law_1478 (lv_at hl 0 rfl) ?_
    refine lv_if_eq (tgt := 1487) hx hb dL_law_1480 (by decide) (fun c1480 => ?_) (fun c1480 => ?_)
    · skip
      refine lv_lconst (v := 0) hx hb dL_law_1487 (by decide) ?_
      refine W.lcmp hx hb dL_law_1488 ?_
      refine lv_if_eq (tgt := 1494) hx hb dL_law_1489 (by decide) (fun _ => ?_) (fun h9 => absurd (lc_eq ((ok.2.2 c_k).trans (if_pos c1480))) h9)
      refine lv_goto (tgt := 1981) hx hb dL_law_1494 (by decide) ?_
      exact kk _ _ _ P (lv_sub hl [2, 3, 4, 5, 6, 7] rfl)
    · skip
      refine lv_lconst (v := 1) hx hb dL_law_1483 (by decide) ?_
      refine lv_goto (tgt := 1488) hx hb dL_law_1484 (by decide) ?_
      refine W.lcmp hx hb dL_law_1488 ?_
      refine lv_if_eq (tgt := 1494) hx hb dL_law_1489 (by decide) (fun _ => ?_) (fun h9 => absurd (lc_eq ((ok.2.2 c_k).trans (if_neg c1480))) h9)
      refine lv_goto (tgt := 1981) hx hb dL_law_1494 (by decide) ?_
      exact kk _ _ _ P (lv_sub hl [2, 3, 4, 5, 6, 7] rfl)
theorem nk_X5_halfHour : nmOk yX5_halfHour RX5 0 := ⟨rfl, by decide +kernel, by decide +kernel, by decide +kernel⟩
theorem nk_X6_halfHour : nmOk yX6_halfHour RX6 0 := ⟨rfl, by decide +kernel, by decide +kernel, by decide +kernel⟩
set_option maxHeartbeats 4000000 in
set_option maxRecDepth 100000 in
theorem lc_halfHour {D : va_G} {ad : Nat → Nat} {cy : Nat → ClassId} {ba : Nat} {p : Program} {l : Launch} {e : Env} {s : State} {m : MethodId} {args : Array Value} {below : List Frame} {meth : Method} {c : Code} {H : Heap} {locs : List Loc} {cells slots : Nat} {Q : State → Prop} {ls : Array Slot} {b L : Nat} {xs : Nat → Int32} {σ : Sg} {i : Int32} (B : CallFix p m c cL_law 9 s args AW RL) (F : Fx D ad cy ba s) (hst : l.stackTraces = false) (X : va_X b L xs s s.heap) (hbl : b < s.heap.size) (hbA : ¬ ba ≤ b) (P : Wo D ad cy ba s σ H locs) (hl : lv_has ls 9 [(5, .int i), (4, .ref (ad 32)), (3, .ref (ad 31)), (2, .ref (ad 19)), (1, .ref (ad 0)), (0, .ref b)]) (hC : GC 99000 σ) (hi : ∀ k, k ≤ 4 → vp_in (i + nI k) L) (hrc : cells + 4 ≤ room_1.cells) (hrs : slots + 24 ≤ room_1.slots) (ok : (GM 99000 σ ∧ (f_X5_halfHour σ) = (f_X6_halfHour σ).1))
    (kk : ∀ (H : Heap) (locs : List Loc) (ls : Array Slot), Wo D ad cy ba s (f_X6_halfHour σ).2 H locs → lv_has ls 9 [(5, .int i), (4, .ref (ad 32)), (3, .ref (ad 31)), (2, .ref (ad 19)), (1, .ref (ad 0)), (0, .ref b)] → W p l e room_1 s m args below meth c H locs (cells + 4) (slots + 24) Q (F0 m 1981 ls [])) : W p l e room_1 s m args below meth c H locs cells slots Q (F0 m 1497 ls []) := by
  have hx := B.1
  have hb := B.2.1
  refine lv_aload_n hx hb dL_law_1497 rfl (lv_at hl 4 rfl) ?_
  refine g_callV B F P (As := []) (ct_X5_halfHour (D := D) (ad := ad) (cy := cy) (ba := ba) l  σ ) ok5 (by decide) rfl q329 q330 q331 q1 q332 nk_X5_halfHour rfl ⟨Nat.le_of_ble_eq_true rfl, Nat.le_of_ble_eq_true rfl⟩ hl.1 rfl (Nat.le_of_ble_eq_true rfl) dL_law_1498 ⟨by omega, by omega⟩ (fun H locs P => ?_)
  refine lv_aload_n hx hb dL_law_1501 rfl (lv_at hl 3 rfl) ?_
  refine g_callV B F P (As := []) (ct_X6_halfHour (D := D) (ad := ad) (cy := cy) (ba := ba) l  σ ) ok6 (by decide) rfl q1088 q1089 q1090 q8 q1091 nk_X6_halfHour rfl ⟨Nat.le_of_ble_eq_true rfl, Nat.le_of_ble_eq_true rfl⟩ hl.1 rfl (Nat.le_of_ble_eq_true rfl) dL_law_1502 ⟨by omega, by omega⟩ (fun H locs P => ?_)
  refine lv_icmp_eq (tgt := 1981) hx hb dL_law_1505 (by decide) (fun _ => ?_) (fun h9 => absurd ok.2 h9)
  refine W.widen (k := cells + 4) (n := slots + 24) (by omega) (by omega) ?_
  exact kk _ _ _ P (lv_sub hl [0, 1, 2, 3, 4, 5] rfl)
theorem nk_L_bestCost : nmOk yL_bestCost RL 3 := ⟨rfl, by decide +kernel, by decide +kernel, by decide +kernel⟩
set_option maxHeartbeats 4000000 in
set_option maxRecDepth 100000 in
theorem lc_bestCost {D : va_G} {ad : Nat → Nat} {cy : Nat → ClassId} {ba : Nat} {p : Program} {l : Launch} {e : Env} {s : State} {m : MethodId} {args : Array Value} {below : List Frame} {meth : Method} {c : Code} {H : Heap} {locs : List Loc} {cells slots : Nat} {Q : State → Prop} {ls : Array Slot} {b L : Nat} {xs : Nat → Int32} {σ : Sg} {i : Int32} (B : CallFix p m c cL_law 9 s args AW RL) (F : Fx D ad cy ba s) (hst : l.stackTraces = false) (X : va_X b L xs s s.heap) (hbl : b < s.heap.size) (hbA : ¬ ba ≤ b) (P : Wo D ad cy ba s σ H locs) (hl : lv_has ls 9 [(5, .int i), (4, .ref (ad 32)), (3, .ref (ad 31)), (2, .ref (ad 19)), (1, .ref (ad 0)), (0, .ref b)]) (hC : GC 99000 σ) (hi : ∀ k, k ≤ 4 → vp_in (i + nI k) L) (hrc : cells + 4 ≤ room_1.cells) (hrs : slots + 24 ≤ room_1.slots) (ok : (GM 99000 (f_L_bestCost (xs (i + 1).toNatClampNeg) σ).2 ∧ rI (f_X6_bestCost (xs (i + 1).toNatClampNeg) (f_L_bestCost (xs (i + 1).toNatClampNeg) σ).2).2 19 32 = (f_L_bestCost (xs (i + 1).toNatClampNeg) σ).1 ∧ ((f_L_bestCost (xs (i + 1).toNatClampNeg) σ).1 = 0 → rL (f_X6_bestCost (xs (i + 1).toNatClampNeg) (f_L_bestCost (xs (i + 1).toNatClampNeg) σ).2).2 31 (Int32.toNatClampNeg 0) = (f_X6_bestCost (xs (i + 1).toNatClampNeg) (f_L_bestCost (xs (i + 1).toNatClampNeg) σ).2).1.toInt64)))
    (kk : ∀ (H : Heap) (locs : List Loc) (ls : Array Slot), Wo D ad cy ba s (f_X6_bestCost (xs (i + 1).toNatClampNeg) (f_L_bestCost (xs (i + 1).toNatClampNeg) σ).2).2 H locs → lv_has ls 9 [(5, .int i), (4, .ref (ad 32)), (3, .ref (ad 31)), (2, .ref (ad 19)), (1, .ref (ad 0)), (0, .ref b)] → W p l e room_1 s m args below meth c H locs (cells + 4) (slots + 24) Q (F0 m 1981 ls [])) : W p l e room_1 s m args below meth c H locs cells slots Q (F0 m 1510 ls []) := by
  have hx := B.1
  have hb := B.2.1
  refine lv_aload_n hx hb dL_law_1510 rfl (lv_at hl 4 rfl) ?_
  refine lv_aload_n hx hb dL_law_1511 rfl (lv_at hl 5 rfl) ?_
  refine lv_iload hx hb dL_law_1512 (lv_at hl 0 rfl) ?_
  refine lv_iconst (v := 1) hx hb dL_law_1514 (by decide) ?_
  refine lv_iadd hx hb dL_law_1515 ?_
  refine va_sld hx hb X hbl hbA P.2 (hi 1 (by decide)) dL_law_1516 ?_
  refine lv_aload_n hx hb dL_law_1517 rfl (lv_at hl 2 rfl) ?_
  refine g_callSw B F P (As := [.ref (ad 0), .int (xs (i + 1).toNatClampNeg), .ref (ad 31)]) (cw_L_bestCost (D := D) (ad := ad) (cy := cy) (ba := ba) l (xs (i + 1).toNatClampNeg) σ hst hC) q736 q737 q0 q738 nk_L_bestCost rfl ⟨Nat.le_of_ble_eq_true rfl, Nat.le_of_ble_eq_true rfl⟩ hl.1 rfl (Nat.le_of_ble_eq_true rfl) dL_law_1518 ⟨hrc, hrs⟩ (fun H locs P => ?_)
  refine lv_istore (lv' := [(6, .int ((f_L_bestCost (xs (i + 1).toNatClampNeg) σ).1)), (5, .int i), (4, .ref (ad 32)), (3, .ref (ad 31)), (2, .ref (ad 19)), (1, .ref (ad 0)), (0, .ref b)]) hx hb dL_law_1521 hl (by decide) rfl (fun ls hl => ?_)
  refine lv_aload_n hx hb dL_law_1523 rfl (lv_at hl 4 rfl) ?_
  refine lv_aload_n hx hb dL_law_1524 rfl (lv_at hl 6 rfl) ?_
  refine lv_iload hx hb dL_law_1525 (lv_at hl 1 rfl) ?_
  refine lv_iconst (v := 1) hx hb dL_law_1527 (by decide) ?_
  refine lv_iadd hx hb dL_law_1528 ?_
  refine va_sld hx hb X hbl hbA P.2 (hi 1 (by decide)) dL_law_1529 ?_
  refine g_callV B F P (As := [.int (xs (i + 1).toNatClampNeg)]) (ct_X6_bestCost (D := D) (ad := ad) (cy := cy) (ba := ba) l (xs (i + 1).toNatClampNeg) ((f_L_bestCost (xs (i + 1).toNatClampNeg) σ).2) ok.1) ok6 (by decide) rfl q1092 q1093 q1094 q8 q1095 nk_X6_bestCost rfl ⟨Nat.le_of_ble_eq_true rfl, Nat.le_of_ble_eq_true rfl⟩ hl.1 rfl (Nat.le_of_ble_eq_true rfl) dL_law_1530 ⟨by omega, by omega⟩ (fun H locs P => ?_)
  refine lv_istore (lv' := [(7, .int ((f_X6_bestCost (xs (i + 1).toNatClampNeg) ((f_L_bestCost (xs (i + 1).toNatClampNeg) σ).2)).1)), (6, .int ((f_L_bestCost (xs (i + 1).toNatClampNeg) σ).1)), (5, .int i), (4, .ref (ad 32)), (3, .ref (ad 31)), (2, .ref (ad 19)), (1, .ref (ad 0)), (0, .ref b)]) hx hb dL_law_1533 hl (by decide) rfl (fun ls hl => ?_)
  refine lv_aload_n hx hb dL_law_1535 rfl (lv_at hl 5 rfl) ?_
  refine g_callV B F P (As := []) (ct_X6_thrown (D := D) (ad := ad) (cy := cy) (ba := ba) l  ((f_X6_bestCost (xs (i + 1).toNatClampNeg) ((f_L_bestCost (xs (i + 1).toNatClampNeg) σ).2)).2) ) ok6 (by decide) rfl q918 q919 q920 q8 q921 nk_X6_thrown rfl ⟨Nat.le_of_ble_eq_true rfl, Nat.le_of_ble_eq_true rfl⟩ hl.1 rfl (Nat.le_of_ble_eq_true rfl) dL_law_1536 ⟨by omega, by omega⟩ (fun H locs P => ?_)
  refine lv_iload hx hb dL_law_1539 (lv_at hl 1 rfl) ?_
  refine lv_icmp_eq (tgt := 1546) hx hb dL_law_1541 (by decide) (fun _ => ?_) (fun h9 => absurd ok.2.1 h9)
  refine lv_iload hx hb dL_law_1546 (lv_at hl 1 rfl) ?_
  refine lv_if_ne (tgt := 1563) hx hb dL_law_1548 (by decide) (fun c_k => ?_) (fun c_k => ?_)
  · skip
    refine lv_goto (tgt := 1981) hx hb dL_law_1563 (by decide) ?_
    exact kk _ _ _ P (lv_sub hl [2, 3, 4, 5, 6, 7] rfl)
  · skip
    refine lv_aload_n hx hb dL_law_1551 rfl (lv_at hl 4 rfl) ?_
    refine lv_iconst (v := 0) hx hb dL_law_1552 (by decide) ?_
    refine g_lld B F P (by decide) rfl rfl (by unfold vp_in; decide) dL_law_1553 ?_
    refine lv_iload hx hb dL_law_1554 (lv_at hl 0 rfl) ?_
    refine lv_i2l hx hb dL_law_1556 rfl ?_
    refine W.lcmp hx hb dL_law_1557 ?_
    refine lv_if_eq (tgt := 1563) hx hb dL_law_1558 (by decide) (fun _ => ?_) (fun h9 => absurd (lc_eq (ok.2.2 c_k)) h9)
    refine lv_goto (tgt := 1981) hx hb dL_law_1563 (by decide) ?_
    exact kk _ _ _ P (lv_sub hl [2, 3, 4, 5, 6, 7] rfl)
theorem nk_L_bestCostByTrying : nmOk yL_bestCostByTrying RL 3 := ⟨rfl, by decide +kernel, by decide +kernel, by decide +kernel⟩
theorem nk_X6_bestCostByTrying : nmOk yX6_bestCostByTrying RX6 1 := ⟨rfl, by decide +kernel, by decide +kernel, by decide +kernel⟩
set_option maxHeartbeats 4000000 in
set_option maxRecDepth 100000 in
theorem lc_bestCostByTrying {D : va_G} {ad : Nat → Nat} {cy : Nat → ClassId} {ba : Nat} {p : Program} {l : Launch} {e : Env} {s : State} {m : MethodId} {args : Array Value} {below : List Frame} {meth : Method} {c : Code} {H : Heap} {locs : List Loc} {cells slots : Nat} {Q : State → Prop} {ls : Array Slot} {b L : Nat} {xs : Nat → Int32} {σ : Sg} {i : Int32} (B : CallFix p m c cL_law 9 s args AW RL) (F : Fx D ad cy ba s) (hst : l.stackTraces = false) (X : va_X b L xs s s.heap) (hbl : b < s.heap.size) (hbA : ¬ ba ≤ b) (P : Wo D ad cy ba s σ H locs) (hl : lv_has ls 9 [(5, .int i), (4, .ref (ad 32)), (3, .ref (ad 31)), (2, .ref (ad 19)), (1, .ref (ad 0)), (0, .ref b)]) (hC : GC 99000 σ) (hi : ∀ k, k ≤ 4 → vp_in (i + nI k) L) (hrc : cells + 4 ≤ room_1.cells) (hrs : slots + 24 ≤ room_1.slots) (ok : (GM 99000 (f_L_bestCostByTrying (xs (i + 1).toNatClampNeg) σ).2 ∧ rI (f_X6_bestCostByTrying (xs (i + 1).toNatClampNeg) (f_L_bestCostByTrying (xs (i + 1).toNatClampNeg) σ).2).2 19 32 = (f_L_bestCostByTrying (xs (i + 1).toNatClampNeg) σ).1 ∧ ((f_L_bestCostByTrying (xs (i + 1).toNatClampNeg) σ).1 = 0 → rL (f_X6_bestCostByTrying (xs (i + 1).toNatClampNeg) (f_L_bestCostByTrying (xs (i + 1).toNatClampNeg) σ).2).2 31 (Int32.toNatClampNeg 0) = (f_X6_bestCostByTrying (xs (i + 1).toNatClampNeg) (f_L_bestCostByTrying (xs (i + 1).toNatClampNeg) σ).2).1.toInt64)))
    (kk : ∀ (H : Heap) (locs : List Loc) (ls : Array Slot), Wo D ad cy ba s (f_X6_bestCostByTrying (xs (i + 1).toNatClampNeg) (f_L_bestCostByTrying (xs (i + 1).toNatClampNeg) σ).2).2 H locs → lv_has ls 9 [(5, .int i), (4, .ref (ad 32)), (3, .ref (ad 31)), (2, .ref (ad 19)), (1, .ref (ad 0)), (0, .ref b)] → W p l e room_1 s m args below meth c H locs (cells + 4) (slots + 24) Q (F0 m 1981 ls [])) : W p l e room_1 s m args below meth c H locs cells slots Q (F0 m 1566 ls []) := by
  have hx := B.1
  have hb := B.2.1
  refine lv_aload_n hx hb dL_law_1566 rfl (lv_at hl 4 rfl) ?_
  refine lv_aload_n hx hb dL_law_1567 rfl (lv_at hl 5 rfl) ?_
  refine lv_iload hx hb dL_law_1568 (lv_at hl 0 rfl) ?_
  refine lv_iconst (v := 1) hx hb dL_law_1570 (by decide) ?_
  refine lv_iadd hx hb dL_law_1571 ?_
  refine va_sld hx hb X hbl hbA P.2 (hi 1 (by decide)) dL_law_1572 ?_
  refine lv_aload_n hx hb dL_law_1573 rfl (lv_at hl 2 rfl) ?_
  refine g_callSw B F P (As := [.ref (ad 0), .int (xs (i + 1).toNatClampNeg), .ref (ad 31)]) (cw_L_bestCostByTrying (D := D) (ad := ad) (cy := cy) (ba := ba) l (xs (i + 1).toNatClampNeg) σ hst hC) q747 q748 q0 q749 nk_L_bestCostByTrying rfl ⟨Nat.le_of_ble_eq_true rfl, Nat.le_of_ble_eq_true rfl⟩ hl.1 rfl (Nat.le_of_ble_eq_true rfl) dL_law_1574 ⟨hrc, hrs⟩ (fun H locs P => ?_)
  refine lv_istore (lv' := [(6, .int ((f_L_bestCostByTrying (xs (i + 1).toNatClampNeg) σ).1)), (5, .int i), (4, .ref (ad 32)), (3, .ref (ad 31)), (2, .ref (ad 19)), (1, .ref (ad 0)), (0, .ref b)]) hx hb dL_law_1577 hl (by decide) rfl (fun ls hl => ?_)
  refine lv_aload_n hx hb dL_law_1579 rfl (lv_at hl 4 rfl) ?_
  refine lv_aload_n hx hb dL_law_1580 rfl (lv_at hl 6 rfl) ?_
  refine lv_iload hx hb dL_law_1581 (lv_at hl 1 rfl) ?_
  refine lv_iconst (v := 1) hx hb dL_law_1583 (by decide) ?_
  refine lv_iadd hx hb dL_law_1584 ?_
  refine va_sld hx hb X hbl hbA P.2 (hi 1 (by decide)) dL_law_1585 ?_
  refine g_callV B F P (As := [.int (xs (i + 1).toNatClampNeg)]) (ct_X6_bestCostByTrying (D := D) (ad := ad) (cy := cy) (ba := ba) l (xs (i + 1).toNatClampNeg) ((f_L_bestCostByTrying (xs (i + 1).toNatClampNeg) σ).2) ok.1) ok6 (by decide) rfl q1096 q1097 q1098 q8 q1099 nk_X6_bestCostByTrying rfl ⟨Nat.le_of_ble_eq_true rfl, Nat.le_of_ble_eq_true rfl⟩ hl.1 rfl (Nat.le_of_ble_eq_true rfl) dL_law_1586 ⟨by omega, by omega⟩ (fun H locs P => ?_)
  refine lv_istore (lv' := [(7, .int ((f_X6_bestCostByTrying (xs (i + 1).toNatClampNeg) ((f_L_bestCostByTrying (xs (i + 1).toNatClampNeg) σ).2)).1)), (6, .int ((f_L_bestCostByTrying (xs (i + 1).toNatClampNeg) σ).1)), (5, .int i), (4, .ref (ad 32)), (3, .ref (ad 31)), (2, .ref (ad 19)), (1, .ref (ad 0)), (0, .ref b)]) hx hb dL_law_1589 hl (by decide) rfl (fun ls hl => ?_)
  refine lv_aload_n hx hb dL_law_1591 rfl (lv_at hl 5 rfl) ?_
  refine g_callV B F P (As := []) (ct_X6_thrown (D := D) (ad := ad) (cy := cy) (ba := ba) l  ((f_X6_bestCostByTrying (xs (i + 1).toNatClampNeg) ((f_L_bestCostByTrying (xs (i + 1).toNatClampNeg) σ).2)).2) ) ok6 (by decide) rfl q918 q919 q920 q8 q921 nk_X6_thrown rfl ⟨Nat.le_of_ble_eq_true rfl, Nat.le_of_ble_eq_true rfl⟩ hl.1 rfl (Nat.le_of_ble_eq_true rfl) dL_law_1592 ⟨by omega, by omega⟩ (fun H locs P => ?_)
  refine lv_iload hx hb dL_law_1595 (lv_at hl 1 rfl) ?_
  refine lv_icmp_eq (tgt := 1602) hx hb dL_law_1597 (by decide) (fun _ => ?_) (fun h9 => absurd ok.2.1 h9)
  refine lv_iload hx hb dL_law_1602 (lv_at hl 1 rfl) ?_
  refine lv_if_ne (tgt := 1619) hx hb dL_law_1604 (by decide) (fun c_k => ?_) (fun c_k => ?_)
  · skip
    refine lv_goto (tgt := 1981) hx hb dL_law_1619 (by decide) ?_
    exact kk _ _ _ P (lv_sub hl [2, 3, 4, 5, 6, 7] rfl)
  · skip
    refine lv_aload_n hx hb dL_law_1607 rfl (lv_at hl 4 rfl) ?_
    refine lv_iconst (v := 0) hx hb dL_law_1608 (by decide) ?_
    refine g_lld B F P (by decide) rfl rfl (by unfold vp_in; decide) dL_law_1609 ?_
    refine lv_iload hx hb dL_law_1610 (lv_at hl 0 rfl) ?_
    refine lv_i2l hx hb dL_law_1612 rfl ?_
    refine W.lcmp hx hb dL_law_1613 ?_
    refine lv_if_eq (tgt := 1619) hx hb dL_law_1614 (by decide) (fun _ => ?_) (fun h9 => absurd (lc_eq (ok.2.2 c_k)) h9)
    refine lv_goto (tgt := 1981) hx hb dL_law_1619 (by decide) ?_
    exact kk _ _ _ P (lv_sub hl [2, 3, 4, 5, 6, 7] rfl)
theorem nk_L_isOnInBest : nmOk yL_isOnInBest RL 4 := ⟨rfl, by decide +kernel, by decide +kernel, by decide +kernel⟩
theorem nk_X6_isOnInBest : nmOk yX6_isOnInBest RX6 2 := ⟨rfl, by decide +kernel, by decide +kernel, by decide +kernel⟩
set_option maxHeartbeats 4000000 in
set_option maxRecDepth 100000 in
theorem lc_isOnInBest {D : va_G} {ad : Nat → Nat} {cy : Nat → ClassId} {ba : Nat} {p : Program} {l : Launch} {e : Env} {s : State} {m : MethodId} {args : Array Value} {below : List Frame} {meth : Method} {c : Code} {H : Heap} {locs : List Loc} {cells slots : Nat} {Q : State → Prop} {ls : Array Slot} {b L : Nat} {xs : Nat → Int32} {σ : Sg} {i : Int32} (B : CallFix p m c cL_law 9 s args AW RL) (F : Fx D ad cy ba s) (hst : l.stackTraces = false) (X : va_X b L xs s s.heap) (hbl : b < s.heap.size) (hbA : ¬ ba ≤ b) (P : Wo D ad cy ba s σ H locs) (hl : lv_has ls 9 [(5, .int i), (4, .ref (ad 32)), (3, .ref (ad 31)), (2, .ref (ad 19)), (1, .ref (ad 0)), (0, .ref b)]) (hC : GC 99000 σ) (hi : ∀ k, k ≤ 4 → vp_in (i + nI k) L) (hrc : cells + 4 ≤ room_1.cells) (hrs : slots + 24 ≤ room_1.slots) (ok : (GM 99000 (f_L_isOnInBest (xs (i + 1).toNatClampNeg) (xs (i + 2).toNatClampNeg) σ).2 ∧ rI (f_X6_isOnInBest (xs (i + 1).toNatClampNeg) (xs (i + 2).toNatClampNeg) (f_L_isOnInBest (xs (i + 1).toNatClampNeg) (xs (i + 2).toNatClampNeg) σ).2).2 19 32 = (f_L_isOnInBest (xs (i + 1).toNatClampNeg) (xs (i + 2).toNatClampNeg) σ).1 ∧ ((f_L_isOnInBest (xs (i + 1).toNatClampNeg) (xs (i + 2).toNatClampNeg) σ).1 = 0 → rL (f_X6_isOnInBest (xs (i + 1).toNatClampNeg) (xs (i + 2).toNatClampNeg) (f_L_isOnInBest (xs (i + 1).toNatClampNeg) (xs (i + 2).toNatClampNeg) σ).2).2 31 (Int32.toNatClampNeg 0) = (if (f_X6_isOnInBest (xs (i + 1).toNatClampNeg) (xs (i + 2).toNatClampNeg) (f_L_isOnInBest (xs (i + 1).toNatClampNeg) (xs (i + 2).toNatClampNeg) σ).2).1 = 0 then 0 else 1))))
    (kk : ∀ (H : Heap) (locs : List Loc) (ls : Array Slot), Wo D ad cy ba s (f_X6_isOnInBest (xs (i + 1).toNatClampNeg) (xs (i + 2).toNatClampNeg) (f_L_isOnInBest (xs (i + 1).toNatClampNeg) (xs (i + 2).toNatClampNeg) σ).2).2 H locs → lv_has ls 9 [(5, .int i), (4, .ref (ad 32)), (3, .ref (ad 31)), (2, .ref (ad 19)), (1, .ref (ad 0)), (0, .ref b)] → W p l e room_1 s m args below meth c H locs (cells + 4) (slots + 24) Q (F0 m 1981 ls [])) : W p l e room_1 s m args below meth c H locs cells slots Q (F0 m 1622 ls []) := by
  have hx := B.1
  have hb := B.2.1
  refine lv_aload_n hx hb dL_law_1622 rfl (lv_at hl 4 rfl) ?_
  refine lv_aload_n hx hb dL_law_1623 rfl (lv_at hl 5 rfl) ?_
  refine lv_iload hx hb dL_law_1624 (lv_at hl 0 rfl) ?_
  refine lv_iconst (v := 1) hx hb dL_law_1626 (by decide) ?_
  refine lv_iadd hx hb dL_law_1627 ?_
  refine va_sld hx hb X hbl hbA P.2 (hi 1 (by decide)) dL_law_1628 ?_
  refine lv_aload_n hx hb dL_law_1629 rfl (lv_at hl 5 rfl) ?_
  refine lv_iload hx hb dL_law_1630 (lv_at hl 0 rfl) ?_
  refine lv_iconst (v := 2) hx hb dL_law_1632 (by decide) ?_
  refine lv_iadd hx hb dL_law_1633 ?_
  refine va_sld hx hb X hbl hbA P.2 (hi 2 (by decide)) dL_law_1634 ?_
  refine lv_aload_n hx hb dL_law_1635 rfl (lv_at hl 2 rfl) ?_
  refine g_callSw B F P (As := [.ref (ad 0), .int (xs (i + 1).toNatClampNeg), .int (xs (i + 2).toNatClampNeg), .ref (ad 31)]) (cw_L_isOnInBest (D := D) (ad := ad) (cy := cy) (ba := ba) l (xs (i + 1).toNatClampNeg) (xs (i + 2).toNatClampNeg) σ hst hC) q761 q762 q0 q763 nk_L_isOnInBest rfl ⟨Nat.le_of_ble_eq_true rfl, Nat.le_of_ble_eq_true rfl⟩ hl.1 rfl (Nat.le_of_ble_eq_true rfl) dL_law_1636 ⟨hrc, hrs⟩ (fun H locs P => ?_)
  refine lv_istore (lv' := [(6, .int ((f_L_isOnInBest (xs (i + 1).toNatClampNeg) (xs (i + 2).toNatClampNeg) σ).1)), (5, .int i), (4, .ref (ad 32)), (3, .ref (ad 31)), (2, .ref (ad 19)), (1, .ref (ad 0)), (0, .ref b)]) hx hb dL_law_1639 hl (by decide) rfl (fun ls hl => ?_)
  refine lv_aload_n hx hb dL_law_1641 rfl (lv_at hl 4 rfl) ?_
  refine lv_aload_n hx hb dL_law_1642 rfl (lv_at hl 6 rfl) ?_
  refine lv_iload hx hb dL_law_1643 (lv_at hl 1 rfl) ?_
  refine lv_iconst (v := 1) hx hb dL_law_1645 (by decide) ?_
  refine lv_iadd hx hb dL_law_1646 ?_
  refine va_sld hx hb X hbl hbA P.2 (hi 1 (by decide)) dL_law_1647 ?_
  refine lv_aload_n hx hb dL_law_1648 rfl (lv_at hl 6 rfl) ?_
  refine lv_iload hx hb dL_law_1649 (lv_at hl 1 rfl) ?_
  refine lv_iconst (v := 2) hx hb dL_law_1651 (by decide) ?_
  refine lv_iadd hx hb dL_law_1652 ?_
  refine va_sld hx hb X hbl hbA P.2 (hi 2 (by decide)) dL_law_1653 ?_
  refine g_callV B F P (As := [.int (xs (i + 1).toNatClampNeg), .int (xs (i + 2).toNatClampNeg)]) (ct_X6_isOnInBest (D := D) (ad := ad) (cy := cy) (ba := ba) l (xs (i + 1).toNatClampNeg) (xs (i + 2).toNatClampNeg) ((f_L_isOnInBest (xs (i + 1).toNatClampNeg) (xs (i + 2).toNatClampNeg) σ).2) ok.1) ok6 (by decide) rfl q1101 q1102 q1103 q8 q1104 nk_X6_isOnInBest rfl ⟨Nat.le_of_ble_eq_true rfl, Nat.le_of_ble_eq_true rfl⟩ hl.1 rfl (Nat.le_of_ble_eq_true rfl) dL_law_1654 ⟨by omega, by omega⟩ (fun H locs P => ?_)
  refine lv_istore (lv' := [(7, .int ((f_X6_isOnInBest (xs (i + 1).toNatClampNeg) (xs (i + 2).toNatClampNeg) ((f_L_isOnInBest (xs (i + 1).toNatClampNeg) (xs (i + 2).toNatClampNeg) σ).2)).1)), (6, .int ((f_L_isOnInBest (xs (i + 1).toNatClampNeg) (xs (i + 2).toNatClampNeg) σ).1)), (5, .int i), (4, .ref (ad 32)), (3, .ref (ad 31)), (2, .ref (ad 19)), (1, .ref (ad 0)), (0, .ref b)]) hx hb dL_law_1657 hl (by decide) rfl (fun ls hl => ?_)
  refine lv_aload_n hx hb dL_law_1659 rfl (lv_at hl 5 rfl) ?_
  refine g_callV B F P (As := []) (ct_X6_thrown (D := D) (ad := ad) (cy := cy) (ba := ba) l  ((f_X6_isOnInBest (xs (i + 1).toNatClampNeg) (xs (i + 2).toNatClampNeg) ((f_L_isOnInBest (xs (i + 1).toNatClampNeg) (xs (i + 2).toNatClampNeg) σ).2)).2) ) ok6 (by decide) rfl q918 q919 q920 q8 q921 nk_X6_thrown rfl ⟨Nat.le_of_ble_eq_true rfl, Nat.le_of_ble_eq_true rfl⟩ hl.1 rfl (Nat.le_of_ble_eq_true rfl) dL_law_1660 ⟨by omega, by omega⟩ (fun H locs P => ?_)
  refine lv_iload hx hb dL_law_1663 (lv_at hl 1 rfl) ?_
  refine lv_icmp_eq (tgt := 1670) hx hb dL_law_1665 (by decide) (fun _ => ?_) (fun h9 => absurd ok.2.1 h9)
  refine lv_iload hx hb dL_law_1670 (lv_at hl 1 rfl) ?_
  refine lv_if_ne (tgt := 1694) hx hb dL_law_1672 (by decide) (fun c_k => ?_) (fun c_k => ?_)
  · skip
    refine lv_goto (tgt := 1981) hx hb dL_law_1694 (by decide) ?_
    exact kk _ _ _ P (lv_sub hl [2, 3, 4, 5, 6, 7] rfl)
  · skip
    refine lv_aload_n hx hb dL_law_1675 rfl (lv_at hl 4 rfl) ?_
    refine lv_iconst (v := 0) hx hb dL_law_1676 (by decide) ?_
    refine g_lld B F P (by decide) rfl rfl (by unfold vp_in; decide) dL_law_1677 ?_
    refine lv_iload hx hb dL_law_1678 (lv_at hl 0 rfl) ?_
    refine lv_if_eq (tgt := 1687) hx hb dL_law_1680 (by decide) (fun c1680 => ?_) (fun c1680 => ?_)
    · skip
      refine lv_lconst (v := 0) hx hb dL_law_1687 (by decide) ?_
      refine W.lcmp hx hb dL_law_1688 ?_
      refine lv_if_eq (tgt := 1694) hx hb dL_law_1689 (by decide) (fun _ => ?_) (fun h9 => absurd (lc_eq ((ok.2.2 c_k).trans (if_pos c1680))) h9)
      refine lv_goto (tgt := 1981) hx hb dL_law_1694 (by decide) ?_
      exact kk _ _ _ P (lv_sub hl [2, 3, 4, 5, 6, 7] rfl)
    · skip
      refine lv_lconst (v := 1) hx hb dL_law_1683 (by decide) ?_
      refine lv_goto (tgt := 1688) hx hb dL_law_1684 (by decide) ?_
      refine W.lcmp hx hb dL_law_1688 ?_
      refine lv_if_eq (tgt := 1694) hx hb dL_law_1689 (by decide) (fun _ => ?_) (fun h9 => absurd (lc_eq ((ok.2.2 c_k).trans (if_neg c1680))) h9)
      refine lv_goto (tgt := 1981) hx hb dL_law_1694 (by decide) ?_
      exact kk _ _ _ P (lv_sub hl [2, 3, 4, 5, 6, 7] rfl)
theorem nk_L_allowedSchedules : nmOk yL_allowedSchedules RL 3 := ⟨rfl, by decide +kernel, by decide +kernel, by decide +kernel⟩
theorem nk_X6_allowedSchedules : nmOk yX6_allowedSchedules RX6 1 := ⟨rfl, by decide +kernel, by decide +kernel, by decide +kernel⟩
set_option maxHeartbeats 4000000 in
set_option maxRecDepth 100000 in
theorem lc_allowedSchedules {D : va_G} {ad : Nat → Nat} {cy : Nat → ClassId} {ba : Nat} {p : Program} {l : Launch} {e : Env} {s : State} {m : MethodId} {args : Array Value} {below : List Frame} {meth : Method} {c : Code} {H : Heap} {locs : List Loc} {cells slots : Nat} {Q : State → Prop} {ls : Array Slot} {b L : Nat} {xs : Nat → Int32} {σ : Sg} {i : Int32} (B : CallFix p m c cL_law 9 s args AW RL) (F : Fx D ad cy ba s) (hst : l.stackTraces = false) (X : va_X b L xs s s.heap) (hbl : b < s.heap.size) (hbA : ¬ ba ≤ b) (P : Wo D ad cy ba s σ H locs) (hl : lv_has ls 9 [(5, .int i), (4, .ref (ad 32)), (3, .ref (ad 31)), (2, .ref (ad 19)), (1, .ref (ad 0)), (0, .ref b)]) (hC : GC 99000 σ) (hi : ∀ k, k ≤ 4 → vp_in (i + nI k) L) (hrc : cells + 4 ≤ room_1.cells) (hrs : slots + 24 ≤ room_1.slots) (ok : (GM 99000 (f_L_allowedSchedules (xs (i + 1).toNatClampNeg) σ).2 ∧ rI (f_X6_allowedSchedules (xs (i + 1).toNatClampNeg) (f_L_allowedSchedules (xs (i + 1).toNatClampNeg) σ).2).2 19 32 = (f_L_allowedSchedules (xs (i + 1).toNatClampNeg) σ).1 ∧ ((f_L_allowedSchedules (xs (i + 1).toNatClampNeg) σ).1 = 0 → rL (f_X6_allowedSchedules (xs (i + 1).toNatClampNeg) (f_L_allowedSchedules (xs (i + 1).toNatClampNeg) σ).2).2 31 (Int32.toNatClampNeg 0) = (f_X6_allowedSchedules (xs (i + 1).toNatClampNeg) (f_L_allowedSchedules (xs (i + 1).toNatClampNeg) σ).2).1.toInt64)))
    (kk : ∀ (H : Heap) (locs : List Loc) (ls : Array Slot), Wo D ad cy ba s (f_X6_allowedSchedules (xs (i + 1).toNatClampNeg) (f_L_allowedSchedules (xs (i + 1).toNatClampNeg) σ).2).2 H locs → lv_has ls 9 [(5, .int i), (4, .ref (ad 32)), (3, .ref (ad 31)), (2, .ref (ad 19)), (1, .ref (ad 0)), (0, .ref b)] → W p l e room_1 s m args below meth c H locs (cells + 4) (slots + 24) Q (F0 m 1981 ls [])) : W p l e room_1 s m args below meth c H locs cells slots Q (F0 m 1697 ls []) := by
  have hx := B.1
  have hb := B.2.1
  refine lv_aload_n hx hb dL_law_1697 rfl (lv_at hl 4 rfl) ?_
  refine lv_aload_n hx hb dL_law_1698 rfl (lv_at hl 5 rfl) ?_
  refine lv_iload hx hb dL_law_1699 (lv_at hl 0 rfl) ?_
  refine lv_iconst (v := 1) hx hb dL_law_1701 (by decide) ?_
  refine lv_iadd hx hb dL_law_1702 ?_
  refine va_sld hx hb X hbl hbA P.2 (hi 1 (by decide)) dL_law_1703 ?_
  refine lv_aload_n hx hb dL_law_1704 rfl (lv_at hl 2 rfl) ?_
  refine g_callSw B F P (As := [.ref (ad 0), .int (xs (i + 1).toNatClampNeg), .ref (ad 31)]) (cw_L_allowedSchedules (D := D) (ad := ad) (cy := cy) (ba := ba) l (xs (i + 1).toNatClampNeg) σ hst hC) q769 q770 q0 q771 nk_L_allowedSchedules rfl ⟨Nat.le_of_ble_eq_true rfl, Nat.le_of_ble_eq_true rfl⟩ hl.1 rfl (Nat.le_of_ble_eq_true rfl) dL_law_1705 ⟨hrc, hrs⟩ (fun H locs P => ?_)
  refine lv_istore (lv' := [(6, .int ((f_L_allowedSchedules (xs (i + 1).toNatClampNeg) σ).1)), (5, .int i), (4, .ref (ad 32)), (3, .ref (ad 31)), (2, .ref (ad 19)), (1, .ref (ad 0)), (0, .ref b)]) hx hb dL_law_1708 hl (by decide) rfl (fun ls hl => ?_)
  refine lv_aload_n hx hb dL_law_1710 rfl (lv_at hl 4 rfl) ?_
  refine lv_aload_n hx hb dL_law_1711 rfl (lv_at hl 6 rfl) ?_
  refine lv_iload hx hb dL_law_1712 (lv_at hl 1 rfl) ?_
  refine lv_iconst (v := 1) hx hb dL_law_1714 (by decide) ?_
  refine lv_iadd hx hb dL_law_1715 ?_
  refine va_sld hx hb X hbl hbA P.2 (hi 1 (by decide)) dL_law_1716 ?_
  refine g_callV B F P (As := [.int (xs (i + 1).toNatClampNeg)]) (ct_X6_allowedSchedules (D := D) (ad := ad) (cy := cy) (ba := ba) l (xs (i + 1).toNatClampNeg) ((f_L_allowedSchedules (xs (i + 1).toNatClampNeg) σ).2) ok.1) ok6 (by decide) rfl q1105 q1106 q1107 q8 q1108 nk_X6_allowedSchedules rfl ⟨Nat.le_of_ble_eq_true rfl, Nat.le_of_ble_eq_true rfl⟩ hl.1 rfl (Nat.le_of_ble_eq_true rfl) dL_law_1717 ⟨by omega, by omega⟩ (fun H locs P => ?_)
  refine lv_istore (lv' := [(7, .int ((f_X6_allowedSchedules (xs (i + 1).toNatClampNeg) ((f_L_allowedSchedules (xs (i + 1).toNatClampNeg) σ).2)).1)), (6, .int ((f_L_allowedSchedules (xs (i + 1).toNatClampNeg) σ).1)), (5, .int i), (4, .ref (ad 32)), (3, .ref (ad 31)), (2, .ref (ad 19)), (1, .ref (ad 0)), (0, .ref b)]) hx hb dL_law_1720 hl (by decide) rfl (fun ls hl => ?_)
  refine lv_aload_n hx hb dL_law_1722 rfl (lv_at hl 5 rfl) ?_
  refine g_callV B F P (As := []) (ct_X6_thrown (D := D) (ad := ad) (cy := cy) (ba := ba) l  ((f_X6_allowedSchedules (xs (i + 1).toNatClampNeg) ((f_L_allowedSchedules (xs (i + 1).toNatClampNeg) σ).2)).2) ) ok6 (by decide) rfl q918 q919 q920 q8 q921 nk_X6_thrown rfl ⟨Nat.le_of_ble_eq_true rfl, Nat.le_of_ble_eq_true rfl⟩ hl.1 rfl (Nat.le_of_ble_eq_true rfl) dL_law_1723 ⟨by omega, by omega⟩ (fun H locs P => ?_)
  refine lv_iload hx hb dL_law_1726 (lv_at hl 1 rfl) ?_
  refine lv_icmp_eq (tgt := 1733) hx hb dL_law_1728 (by decide) (fun _ => ?_) (fun h9 => absurd ok.2.1 h9)
  refine lv_iload hx hb dL_law_1733 (lv_at hl 1 rfl) ?_
  refine lv_if_ne (tgt := 1750) hx hb dL_law_1735 (by decide) (fun c_k => ?_) (fun c_k => ?_)
  · skip
    refine lv_goto (tgt := 1981) hx hb dL_law_1750 (by decide) ?_
    exact kk _ _ _ P (lv_sub hl [2, 3, 4, 5, 6, 7] rfl)
  · skip
    refine lv_aload_n hx hb dL_law_1738 rfl (lv_at hl 4 rfl) ?_
    refine lv_iconst (v := 0) hx hb dL_law_1739 (by decide) ?_
    refine g_lld B F P (by decide) rfl rfl (by unfold vp_in; decide) dL_law_1740 ?_
    refine lv_iload hx hb dL_law_1741 (lv_at hl 0 rfl) ?_
    refine lv_i2l hx hb dL_law_1743 rfl ?_
    refine W.lcmp hx hb dL_law_1744 ?_
    refine lv_if_eq (tgt := 1750) hx hb dL_law_1745 (by decide) (fun _ => ?_) (fun h9 => absurd (lc_eq (ok.2.2 c_k)) h9)
    refine lv_goto (tgt := 1981) hx hb dL_law_1750 (by decide) ?_
    exact kk _ _ _ P (lv_sub hl [2, 3, 4, 5, 6, 7] rfl)
theorem nk_X5_feed : nmOk yX5_feed RX5 0 := ⟨rfl, by decide +kernel, by decide +kernel, by decide +kernel⟩
theorem nk_X6_feed : nmOk yX6_feed RX6 0 := ⟨rfl, by decide +kernel, by decide +kernel, by decide +kernel⟩
set_option maxHeartbeats 4000000 in
set_option maxRecDepth 100000 in
theorem lc_feed {D : va_G} {ad : Nat → Nat} {cy : Nat → ClassId} {ba : Nat} {p : Program} {l : Launch} {e : Env} {s : State} {m : MethodId} {args : Array Value} {below : List Frame} {meth : Method} {c : Code} {H : Heap} {locs : List Loc} {cells slots : Nat} {Q : State → Prop} {ls : Array Slot} {b L : Nat} {xs : Nat → Int32} {σ : Sg} {i : Int32} (B : CallFix p m c cL_law 9 s args AW RL) (F : Fx D ad cy ba s) (hst : l.stackTraces = false) (X : va_X b L xs s s.heap) (hbl : b < s.heap.size) (hbA : ¬ ba ≤ b) (P : Wo D ad cy ba s σ H locs) (hl : lv_has ls 9 [(5, .int i), (4, .ref (ad 32)), (3, .ref (ad 31)), (2, .ref (ad 19)), (1, .ref (ad 0)), (0, .ref b)]) (hC : GC 99000 σ) (hi : ∀ k, k ≤ 4 → vp_in (i + nI k) L) (hrc : cells + 4 ≤ room_1.cells) (hrs : slots + 24 ≤ room_1.slots) (ok : (GM 99000 σ ∧ (f_X5_feed σ) = (f_X6_feed σ).1))
    (kk : ∀ (H : Heap) (locs : List Loc) (ls : Array Slot), Wo D ad cy ba s (f_X6_feed σ).2 H locs → lv_has ls 9 [(5, .int i), (4, .ref (ad 32)), (3, .ref (ad 31)), (2, .ref (ad 19)), (1, .ref (ad 0)), (0, .ref b)] → W p l e room_1 s m args below meth c H locs (cells + 4) (slots + 24) Q (F0 m 1981 ls [])) : W p l e room_1 s m args below meth c H locs cells slots Q (F0 m 1753 ls []) := by
  have hx := B.1
  have hb := B.2.1
  refine lv_aload_n hx hb dL_law_1753 rfl (lv_at hl 4 rfl) ?_
  refine g_callV B F P (As := []) (ct_X5_feed (D := D) (ad := ad) (cy := cy) (ba := ba) l  σ ) ok5 (by decide) rfl q333 q334 q335 q1 q336 nk_X5_feed rfl ⟨Nat.le_of_ble_eq_true rfl, Nat.le_of_ble_eq_true rfl⟩ hl.1 rfl (Nat.le_of_ble_eq_true rfl) dL_law_1754 ⟨by omega, by omega⟩ (fun H locs P => ?_)
  refine lv_aload_n hx hb dL_law_1757 rfl (lv_at hl 3 rfl) ?_
  refine g_callV B F P (As := []) (ct_X6_feed (D := D) (ad := ad) (cy := cy) (ba := ba) l  σ ) ok6 (by decide) rfl q1109 q1110 q1111 q8 q1112 nk_X6_feed rfl ⟨Nat.le_of_ble_eq_true rfl, Nat.le_of_ble_eq_true rfl⟩ hl.1 rfl (Nat.le_of_ble_eq_true rfl) dL_law_1758 ⟨by omega, by omega⟩ (fun H locs P => ?_)
  refine W.lcmp hx hb dL_law_1761 ?_
  refine lv_if_eq (tgt := 1981) hx hb dL_law_1762 (by decide) (fun _ => ?_) (fun h9 => absurd (lc_eq ok.2) h9)
  refine W.widen (k := cells + 4) (n := slots + 24) (by omega) (by omega) ?_
  exact kk _ _ _ P (lv_sub hl [0, 1, 2, 3, 4, 5] rfl)
theorem nk_X5_product : nmOk yX5_product RX5 0 := ⟨rfl, by decide +kernel, by decide +kernel, by decide +kernel⟩
theorem nk_X6_product : nmOk yX6_product RX6 0 := ⟨rfl, by decide +kernel, by decide +kernel, by decide +kernel⟩
set_option maxHeartbeats 4000000 in
set_option maxRecDepth 100000 in
theorem lc_product {D : va_G} {ad : Nat → Nat} {cy : Nat → ClassId} {ba : Nat} {p : Program} {l : Launch} {e : Env} {s : State} {m : MethodId} {args : Array Value} {below : List Frame} {meth : Method} {c : Code} {H : Heap} {locs : List Loc} {cells slots : Nat} {Q : State → Prop} {ls : Array Slot} {b L : Nat} {xs : Nat → Int32} {σ : Sg} {i : Int32} (B : CallFix p m c cL_law 9 s args AW RL) (F : Fx D ad cy ba s) (hst : l.stackTraces = false) (X : va_X b L xs s s.heap) (hbl : b < s.heap.size) (hbA : ¬ ba ≤ b) (P : Wo D ad cy ba s σ H locs) (hl : lv_has ls 9 [(5, .int i), (4, .ref (ad 32)), (3, .ref (ad 31)), (2, .ref (ad 19)), (1, .ref (ad 0)), (0, .ref b)]) (hC : GC 99000 σ) (hi : ∀ k, k ≤ 4 → vp_in (i + nI k) L) (hrc : cells + 4 ≤ room_1.cells) (hrs : slots + 24 ≤ room_1.slots) (ok : (GM 99000 σ ∧ (f_X5_product σ) = (f_X6_product σ).1))
    (kk : ∀ (H : Heap) (locs : List Loc) (ls : Array Slot), Wo D ad cy ba s (f_X6_product σ).2 H locs → lv_has ls 9 [(5, .int i), (4, .ref (ad 32)), (3, .ref (ad 31)), (2, .ref (ad 19)), (1, .ref (ad 0)), (0, .ref b)] → W p l e room_1 s m args below meth c H locs (cells + 4) (slots + 24) Q (F0 m 1981 ls [])) : W p l e room_1 s m args below meth c H locs cells slots Q (F0 m 1767 ls []) := by
  have hx := B.1
  have hb := B.2.1
  refine lv_aload_n hx hb dL_law_1767 rfl (lv_at hl 4 rfl) ?_
  refine g_callV B F P (As := []) (ct_X5_product (D := D) (ad := ad) (cy := cy) (ba := ba) l  σ ) ok5 (by decide) rfl q337 q338 q339 q1 q340 nk_X5_product rfl ⟨Nat.le_of_ble_eq_true rfl, Nat.le_of_ble_eq_true rfl⟩ hl.1 rfl (Nat.le_of_ble_eq_true rfl) dL_law_1768 ⟨by omega, by omega⟩ (fun H locs P => ?_)
  refine lv_aload_n hx hb dL_law_1771 rfl (lv_at hl 3 rfl) ?_
  refine g_callV B F P (As := []) (ct_X6_product (D := D) (ad := ad) (cy := cy) (ba := ba) l  σ ) ok6 (by decide) rfl q1113 q1114 q1115 q8 q1116 nk_X6_product rfl ⟨Nat.le_of_ble_eq_true rfl, Nat.le_of_ble_eq_true rfl⟩ hl.1 rfl (Nat.le_of_ble_eq_true rfl) dL_law_1772 ⟨by omega, by omega⟩ (fun H locs P => ?_)
  refine W.lcmp hx hb dL_law_1775 ?_
  refine lv_if_eq (tgt := 1981) hx hb dL_law_1776 (by decide) (fun _ => ?_) (fun h9 => absurd (lc_eq ok.2) h9)
  refine W.widen (k := cells + 4) (n := slots + 24) (by omega) (by omega) ?_
  exact kk _ _ _ P (lv_sub hl [0, 1, 2, 3, 4, 5] rfl)
theorem nk_X5_brine : nmOk yX5_brine RX5 0 := ⟨rfl, by decide +kernel, by decide +kernel, by decide +kernel⟩
theorem nk_X6_brine : nmOk yX6_brine RX6 0 := ⟨rfl, by decide +kernel, by decide +kernel, by decide +kernel⟩
set_option maxHeartbeats 4000000 in
set_option maxRecDepth 100000 in
theorem lc_brine {D : va_G} {ad : Nat → Nat} {cy : Nat → ClassId} {ba : Nat} {p : Program} {l : Launch} {e : Env} {s : State} {m : MethodId} {args : Array Value} {below : List Frame} {meth : Method} {c : Code} {H : Heap} {locs : List Loc} {cells slots : Nat} {Q : State → Prop} {ls : Array Slot} {b L : Nat} {xs : Nat → Int32} {σ : Sg} {i : Int32} (B : CallFix p m c cL_law 9 s args AW RL) (F : Fx D ad cy ba s) (hst : l.stackTraces = false) (X : va_X b L xs s s.heap) (hbl : b < s.heap.size) (hbA : ¬ ba ≤ b) (P : Wo D ad cy ba s σ H locs) (hl : lv_has ls 9 [(5, .int i), (4, .ref (ad 32)), (3, .ref (ad 31)), (2, .ref (ad 19)), (1, .ref (ad 0)), (0, .ref b)]) (hC : GC 99000 σ) (hi : ∀ k, k ≤ 4 → vp_in (i + nI k) L) (hrc : cells + 4 ≤ room_1.cells) (hrs : slots + 24 ≤ room_1.slots) (ok : (GM 99000 σ ∧ (f_X5_brine σ) = (f_X6_brine σ).1))
    (kk : ∀ (H : Heap) (locs : List Loc) (ls : Array Slot), Wo D ad cy ba s (f_X6_brine σ).2 H locs → lv_has ls 9 [(5, .int i), (4, .ref (ad 32)), (3, .ref (ad 31)), (2, .ref (ad 19)), (1, .ref (ad 0)), (0, .ref b)] → W p l e room_1 s m args below meth c H locs (cells + 4) (slots + 24) Q (F0 m 1981 ls [])) : W p l e room_1 s m args below meth c H locs cells slots Q (F0 m 1781 ls []) := by
  have hx := B.1
  have hb := B.2.1
  refine lv_aload_n hx hb dL_law_1781 rfl (lv_at hl 4 rfl) ?_
  refine g_callV B F P (As := []) (ct_X5_brine (D := D) (ad := ad) (cy := cy) (ba := ba) l  σ ) ok5 (by decide) rfl q341 q342 q343 q1 q344 nk_X5_brine rfl ⟨Nat.le_of_ble_eq_true rfl, Nat.le_of_ble_eq_true rfl⟩ hl.1 rfl (Nat.le_of_ble_eq_true rfl) dL_law_1782 ⟨by omega, by omega⟩ (fun H locs P => ?_)
  refine lv_aload_n hx hb dL_law_1785 rfl (lv_at hl 3 rfl) ?_
  refine g_callV B F P (As := []) (ct_X6_brine (D := D) (ad := ad) (cy := cy) (ba := ba) l  σ ) ok6 (by decide) rfl q1117 q1118 q1119 q8 q1120 nk_X6_brine rfl ⟨Nat.le_of_ble_eq_true rfl, Nat.le_of_ble_eq_true rfl⟩ hl.1 rfl (Nat.le_of_ble_eq_true rfl) dL_law_1786 ⟨by omega, by omega⟩ (fun H locs P => ?_)
  refine W.lcmp hx hb dL_law_1789 ?_
  refine lv_if_eq (tgt := 1981) hx hb dL_law_1790 (by decide) (fun _ => ?_) (fun h9 => absurd (lc_eq ok.2) h9)
  refine W.widen (k := cells + 4) (n := slots + 24) (by omega) (by omega) ?_
  exact kk _ _ _ P (lv_sub hl [0, 1, 2, 3, 4, 5] rfl)
theorem nk_X5_spilled : nmOk yX5_spilled RX5 0 := ⟨rfl, by decide +kernel, by decide +kernel, by decide +kernel⟩
set_option maxHeartbeats 4000000 in
set_option maxRecDepth 100000 in
theorem lc_spilled {D : va_G} {ad : Nat → Nat} {cy : Nat → ClassId} {ba : Nat} {p : Program} {l : Launch} {e : Env} {s : State} {m : MethodId} {args : Array Value} {below : List Frame} {meth : Method} {c : Code} {H : Heap} {locs : List Loc} {cells slots : Nat} {Q : State → Prop} {ls : Array Slot} {b L : Nat} {xs : Nat → Int32} {σ : Sg} {i : Int32} (B : CallFix p m c cL_law 9 s args AW RL) (F : Fx D ad cy ba s) (hst : l.stackTraces = false) (X : va_X b L xs s s.heap) (hbl : b < s.heap.size) (hbA : ¬ ba ≤ b) (P : Wo D ad cy ba s σ H locs) (hl : lv_has ls 9 [(5, .int i), (4, .ref (ad 32)), (3, .ref (ad 31)), (2, .ref (ad 19)), (1, .ref (ad 0)), (0, .ref b)]) (hC : GC 99000 σ) (hi : ∀ k, k ≤ 4 → vp_in (i + nI k) L) (hrc : cells + 4 ≤ room_1.cells) (hrs : slots + 24 ≤ room_1.slots) (ok : (GM 99000 σ ∧ (f_X5_spilled σ) = (f_X6_spilled σ).1))
    (kk : ∀ (H : Heap) (locs : List Loc) (ls : Array Slot), Wo D ad cy ba s (f_X6_spilled σ).2 H locs → lv_has ls 9 [(5, .int i), (4, .ref (ad 32)), (3, .ref (ad 31)), (2, .ref (ad 19)), (1, .ref (ad 0)), (0, .ref b)] → W p l e room_1 s m args below meth c H locs (cells + 4) (slots + 24) Q (F0 m 1981 ls [])) : W p l e room_1 s m args below meth c H locs cells slots Q (F0 m 1795 ls []) := by
  have hx := B.1
  have hb := B.2.1
  refine lv_aload_n hx hb dL_law_1795 rfl (lv_at hl 4 rfl) ?_
  refine g_callV B F P (As := []) (ct_X5_spilled (D := D) (ad := ad) (cy := cy) (ba := ba) l  σ ) ok5 (by decide) rfl q345 q346 q347 q1 q348 nk_X5_spilled rfl ⟨Nat.le_of_ble_eq_true rfl, Nat.le_of_ble_eq_true rfl⟩ hl.1 rfl (Nat.le_of_ble_eq_true rfl) dL_law_1796 ⟨by omega, by omega⟩ (fun H locs P => ?_)
  refine lv_aload_n hx hb dL_law_1799 rfl (lv_at hl 3 rfl) ?_
  refine g_callV B F P (As := []) (ct_X6_spilled (D := D) (ad := ad) (cy := cy) (ba := ba) l  σ ) ok6 (by decide) rfl q1121 q1122 q1123 q8 q1124 nk_X6_spilled rfl ⟨Nat.le_of_ble_eq_true rfl, Nat.le_of_ble_eq_true rfl⟩ hl.1 rfl (Nat.le_of_ble_eq_true rfl) dL_law_1800 ⟨by omega, by omega⟩ (fun H locs P => ?_)
  refine W.lcmp hx hb dL_law_1803 ?_
  refine lv_if_eq (tgt := 1981) hx hb dL_law_1804 (by decide) (fun _ => ?_) (fun h9 => absurd (lc_eq ok.2) h9)
  refine W.widen (k := cells + 4) (n := slots + 24) (by omega) (by omega) ?_
  exact kk _ _ _ P (lv_sub hl [0, 1, 2, 3, 4, 5] rfl)
theorem nk_X6_spilledByBalance : nmOk yX6_spilledByBalance RX6 0 := ⟨rfl, by decide +kernel, by decide +kernel, by decide +kernel⟩
set_option maxHeartbeats 4000000 in
set_option maxRecDepth 100000 in
theorem lc_spilledByBalance {D : va_G} {ad : Nat → Nat} {cy : Nat → ClassId} {ba : Nat} {p : Program} {l : Launch} {e : Env} {s : State} {m : MethodId} {args : Array Value} {below : List Frame} {meth : Method} {c : Code} {H : Heap} {locs : List Loc} {cells slots : Nat} {Q : State → Prop} {ls : Array Slot} {b L : Nat} {xs : Nat → Int32} {σ : Sg} {i : Int32} (B : CallFix p m c cL_law 9 s args AW RL) (F : Fx D ad cy ba s) (hst : l.stackTraces = false) (X : va_X b L xs s s.heap) (hbl : b < s.heap.size) (hbA : ¬ ba ≤ b) (P : Wo D ad cy ba s σ H locs) (hl : lv_has ls 9 [(5, .int i), (4, .ref (ad 32)), (3, .ref (ad 31)), (2, .ref (ad 19)), (1, .ref (ad 0)), (0, .ref b)]) (hC : GC 99000 σ) (hi : ∀ k, k ≤ 4 → vp_in (i + nI k) L) (hrc : cells + 4 ≤ room_1.cells) (hrs : slots + 24 ≤ room_1.slots) (ok : (GM 99000 σ ∧ (f_X5_spilledByBalance σ) = (f_X6_spilledByBalance σ).1))
    (kk : ∀ (H : Heap) (locs : List Loc) (ls : Array Slot), Wo D ad cy ba s (f_X6_spilledByBalance σ).2 H locs → lv_has ls 9 [(5, .int i), (4, .ref (ad 32)), (3, .ref (ad 31)), (2, .ref (ad 19)), (1, .ref (ad 0)), (0, .ref b)] → W p l e room_1 s m args below meth c H locs (cells + 4) (slots + 24) Q (F0 m 1981 ls [])) : W p l e room_1 s m args below meth c H locs cells slots Q (F0 m 1809 ls []) := by
  have hx := B.1
  have hb := B.2.1
  refine lv_aload_n hx hb dL_law_1809 rfl (lv_at hl 4 rfl) ?_
  refine g_callV B F P (As := []) (ct_X5_spilledByBalance (D := D) (ad := ad) (cy := cy) (ba := ba) l  σ hC) ok5 (by decide) rfl q349 q350 q351 q1 q352 nk_X5_spilledByBalance rfl ⟨Nat.le_of_ble_eq_true rfl, Nat.le_of_ble_eq_true rfl⟩ hl.1 rfl (Nat.le_of_ble_eq_true rfl) dL_law_1810 ⟨by omega, by omega⟩ (fun H locs P => ?_)
  refine lv_aload_n hx hb dL_law_1813 rfl (lv_at hl 3 rfl) ?_
  refine g_callV B F P (As := []) (ct_X6_spilledByBalance (D := D) (ad := ad) (cy := cy) (ba := ba) l  σ ) ok6 (by decide) rfl q1125 q1126 q1127 q8 q1128 nk_X6_spilledByBalance rfl ⟨Nat.le_of_ble_eq_true rfl, Nat.le_of_ble_eq_true rfl⟩ hl.1 rfl (Nat.le_of_ble_eq_true rfl) dL_law_1814 ⟨by omega, by omega⟩ (fun H locs P => ?_)
  refine W.lcmp hx hb dL_law_1817 ?_
  refine lv_if_eq (tgt := 1981) hx hb dL_law_1818 (by decide) (fun _ => ?_) (fun h9 => absurd (lc_eq ok.2) h9)
  refine W.widen (k := cells + 4) (n := slots + 24) (by omega) (by omega) ?_
  exact kk _ _ _ P (lv_sub hl [0, 1, 2, 3, 4, 5] rfl)
theorem nk_X5_cost : nmOk yX5_cost RX5 0 := ⟨rfl, by decide +kernel, by decide +kernel, by decide +kernel⟩
theorem nk_X6_cost : nmOk yX6_cost RX6 0 := ⟨rfl, by decide +kernel, by decide +kernel, by decide +kernel⟩
set_option maxHeartbeats 4000000 in
set_option maxRecDepth 100000 in
theorem lc_cost {D : va_G} {ad : Nat → Nat} {cy : Nat → ClassId} {ba : Nat} {p : Program} {l : Launch} {e : Env} {s : State} {m : MethodId} {args : Array Value} {below : List Frame} {meth : Method} {c : Code} {H : Heap} {locs : List Loc} {cells slots : Nat} {Q : State → Prop} {ls : Array Slot} {b L : Nat} {xs : Nat → Int32} {σ : Sg} {i : Int32} (B : CallFix p m c cL_law 9 s args AW RL) (F : Fx D ad cy ba s) (hst : l.stackTraces = false) (X : va_X b L xs s s.heap) (hbl : b < s.heap.size) (hbA : ¬ ba ≤ b) (P : Wo D ad cy ba s σ H locs) (hl : lv_has ls 9 [(5, .int i), (4, .ref (ad 32)), (3, .ref (ad 31)), (2, .ref (ad 19)), (1, .ref (ad 0)), (0, .ref b)]) (hC : GC 99000 σ) (hi : ∀ k, k ≤ 4 → vp_in (i + nI k) L) (hrc : cells + 4 ≤ room_1.cells) (hrs : slots + 24 ≤ room_1.slots) (ok : (GM 99000 σ ∧ (f_X5_cost σ) = (f_X6_cost σ).1))
    (kk : ∀ (H : Heap) (locs : List Loc) (ls : Array Slot), Wo D ad cy ba s (f_X6_cost σ).2 H locs → lv_has ls 9 [(5, .int i), (4, .ref (ad 32)), (3, .ref (ad 31)), (2, .ref (ad 19)), (1, .ref (ad 0)), (0, .ref b)] → W p l e room_1 s m args below meth c H locs (cells + 4) (slots + 24) Q (F0 m 1981 ls [])) : W p l e room_1 s m args below meth c H locs cells slots Q (F0 m 1823 ls []) := by
  have hx := B.1
  have hb := B.2.1
  refine lv_aload_n hx hb dL_law_1823 rfl (lv_at hl 4 rfl) ?_
  refine g_callV B F P (As := []) (ct_X5_cost (D := D) (ad := ad) (cy := cy) (ba := ba) l  σ ) ok5 (by decide) rfl q353 q354 q355 q1 q356 nk_X5_cost rfl ⟨Nat.le_of_ble_eq_true rfl, Nat.le_of_ble_eq_true rfl⟩ hl.1 rfl (Nat.le_of_ble_eq_true rfl) dL_law_1824 ⟨by omega, by omega⟩ (fun H locs P => ?_)
  refine lv_aload_n hx hb dL_law_1827 rfl (lv_at hl 3 rfl) ?_
  refine g_callV B F P (As := []) (ct_X6_cost (D := D) (ad := ad) (cy := cy) (ba := ba) l  σ ) ok6 (by decide) rfl q1130 q1131 q1132 q8 q1133 nk_X6_cost rfl ⟨Nat.le_of_ble_eq_true rfl, Nat.le_of_ble_eq_true rfl⟩ hl.1 rfl (Nat.le_of_ble_eq_true rfl) dL_law_1828 ⟨by omega, by omega⟩ (fun H locs P => ?_)
  refine W.lcmp hx hb dL_law_1831 ?_
  refine lv_if_eq (tgt := 1981) hx hb dL_law_1832 (by decide) (fun _ => ?_) (fun h9 => absurd (lc_eq ok.2) h9)
  refine W.widen (k := cells + 4) (n := slots + 24) (by omega) (by omega) ?_
  exact kk _ _ _ P (lv_sub hl [0, 1, 2, 3, 4, 5] rfl)
theorem nk_X5_isBalanced : nmOk yX5_isBalanced RX5 0 := ⟨rfl, by decide +kernel, by decide +kernel, by decide +kernel⟩
theorem nk_X6_isBalanced : nmOk yX6_isBalanced RX6 0 := ⟨rfl, by decide +kernel, by decide +kernel, by decide +kernel⟩
set_option maxHeartbeats 4000000 in
set_option maxRecDepth 100000 in
theorem lc_isBalanced {D : va_G} {ad : Nat → Nat} {cy : Nat → ClassId} {ba : Nat} {p : Program} {l : Launch} {e : Env} {s : State} {m : MethodId} {args : Array Value} {below : List Frame} {meth : Method} {c : Code} {H : Heap} {locs : List Loc} {cells slots : Nat} {Q : State → Prop} {ls : Array Slot} {b L : Nat} {xs : Nat → Int32} {σ : Sg} {i : Int32} (B : CallFix p m c cL_law 9 s args AW RL) (F : Fx D ad cy ba s) (hst : l.stackTraces = false) (X : va_X b L xs s s.heap) (hbl : b < s.heap.size) (hbA : ¬ ba ≤ b) (P : Wo D ad cy ba s σ H locs) (hl : lv_has ls 9 [(5, .int i), (4, .ref (ad 32)), (3, .ref (ad 31)), (2, .ref (ad 19)), (1, .ref (ad 0)), (0, .ref b)]) (hC : GC 99000 σ) (hi : ∀ k, k ≤ 4 → vp_in (i + nI k) L) (hrc : cells + 4 ≤ room_1.cells) (hrs : slots + 24 ≤ room_1.slots) (ok : (GM 99000 σ ∧ (f_X5_isBalanced σ) = (f_X6_isBalanced σ).1))
    (kk : ∀ (H : Heap) (locs : List Loc) (ls : Array Slot), Wo D ad cy ba s (f_X6_isBalanced σ).2 H locs → lv_has ls 9 [(5, .int i), (4, .ref (ad 32)), (3, .ref (ad 31)), (2, .ref (ad 19)), (1, .ref (ad 0)), (0, .ref b)] → W p l e room_1 s m args below meth c H locs (cells + 4) (slots + 24) Q (F0 m 1981 ls [])) : W p l e room_1 s m args below meth c H locs cells slots Q (F0 m 1837 ls []) := by
  have hx := B.1
  have hb := B.2.1
  refine lv_aload_n hx hb dL_law_1837 rfl (lv_at hl 4 rfl) ?_
  refine g_callV B F P (As := []) (ct_X5_isBalanced (D := D) (ad := ad) (cy := cy) (ba := ba) l  σ hC) ok5 (by decide) rfl q357 q358 q359 q1 q360 nk_X5_isBalanced rfl ⟨Nat.le_of_ble_eq_true rfl, Nat.le_of_ble_eq_true rfl⟩ hl.1 rfl (Nat.le_of_ble_eq_true rfl) dL_law_1838 ⟨by omega, by omega⟩ (fun H locs P => ?_)
  refine lv_aload_n hx hb dL_law_1841 rfl (lv_at hl 3 rfl) ?_
  refine g_callV B F P (As := []) (ct_X6_isBalanced (D := D) (ad := ad) (cy := cy) (ba := ba) l  σ ) ok6 (by decide) rfl q1134 q1135 q1136 q8 q1137 nk_X6_isBalanced rfl ⟨Nat.le_of_ble_eq_true rfl, Nat.le_of_ble_eq_true rfl⟩ hl.1 rfl (Nat.le_of_ble_eq_true rfl) dL_law_1842 ⟨by omega, by omega⟩ (fun H locs P => ?_)
  refine lv_icmp_eq (tgt := 1981) hx hb dL_law_1845 (by decide) (fun _ => ?_) (fun h9 => absurd ok.2 h9)
  refine W.widen (k := cells + 4) (n := slots + 24) (by omega) (by omega) ?_
  exact kk _ _ _ P (lv_sub hl [0, 1, 2, 3, 4, 5] rfl)
theorem nk_L_servedShare : nmOk yL_servedShare RL 2 := ⟨rfl, by decide +kernel, by decide +kernel, by decide +kernel⟩
theorem nk_X6_servedShare : nmOk yX6_servedShare RX6 0 := ⟨rfl, by decide +kernel, by decide +kernel, by decide +kernel⟩
set_option maxHeartbeats 4000000 in
set_option maxRecDepth 100000 in
theorem lc_servedShare {D : va_G} {ad : Nat → Nat} {cy : Nat → ClassId} {ba : Nat} {p : Program} {l : Launch} {e : Env} {s : State} {m : MethodId} {args : Array Value} {below : List Frame} {meth : Method} {c : Code} {H : Heap} {locs : List Loc} {cells slots : Nat} {Q : State → Prop} {ls : Array Slot} {b L : Nat} {xs : Nat → Int32} {σ : Sg} {i : Int32} (B : CallFix p m c cL_law 9 s args AW RL) (F : Fx D ad cy ba s) (hst : l.stackTraces = false) (X : va_X b L xs s s.heap) (hbl : b < s.heap.size) (hbA : ¬ ba ≤ b) (P : Wo D ad cy ba s σ H locs) (hl : lv_has ls 9 [(5, .int i), (4, .ref (ad 32)), (3, .ref (ad 31)), (2, .ref (ad 19)), (1, .ref (ad 0)), (0, .ref b)]) (hC : GC 99000 σ) (hi : ∀ k, k ≤ 4 → vp_in (i + nI k) L) (hrc : cells + 4 ≤ room_1.cells) (hrs : slots + 24 ≤ room_1.slots) (ok : (GM 99000 (f_L_servedShare σ).2 ∧ rI (f_X6_servedShare (f_L_servedShare σ).2).2 19 32 = (f_L_servedShare σ).1 ∧ True ∧ ((f_L_servedShare σ).1 = 0 → (vf_n64 (FP.f2d (f_X6_servedShare (f_L_servedShare σ).2).1) ∧ Op.cmpValue (FP.dcmp (rD (f_X6_servedShare (f_L_servedShare σ).2).2 32 (Int32.toNatClampNeg 0)) (FP.f2d (f_X6_servedShare (f_L_servedShare σ).2).1)) .l = 0))))
    (kk : ∀ (H : Heap) (locs : List Loc) (ls : Array Slot), Wo D ad cy ba s (f_X6_servedShare (f_L_servedShare σ).2).2 H locs → lv_has ls 9 [(5, .int i), (4, .ref (ad 32)), (3, .ref (ad 31)), (2, .ref (ad 19)), (1, .ref (ad 0)), (0, .ref b)] → W p l e room_1 s m args below meth c H locs (cells + 4) (slots + 24) Q (F0 m 1981 ls [])) : W p l e room_1 s m args below meth c H locs cells slots Q (F0 m 1850 ls []) := by
  have hx := B.1
  have hb := B.2.1
  refine lv_aload_n hx hb dL_law_1850 rfl (lv_at hl 4 rfl) ?_
  refine lv_aload hx hb dL_law_1851 (lv_at hl 1 rfl) ?_
  refine g_callSw B F P (As := [.ref (ad 0), .ref (ad 32)]) (cw_L_servedShare (D := D) (ad := ad) (cy := cy) (ba := ba) l  σ hst) q776 q777 q0 q778 nk_L_servedShare rfl ⟨Nat.le_of_ble_eq_true rfl, Nat.le_of_ble_eq_true rfl⟩ hl.1 rfl (Nat.le_of_ble_eq_true rfl) dL_law_1853 ⟨hrc, hrs⟩ (fun H locs P => ?_)
  refine lv_istore (lv' := [(6, .int ((f_L_servedShare σ).1)), (5, .int i), (4, .ref (ad 32)), (3, .ref (ad 31)), (2, .ref (ad 19)), (1, .ref (ad 0)), (0, .ref b)]) hx hb dL_law_1856 hl (by decide) rfl (fun ls hl => ?_)
  refine lv_aload_n hx hb dL_law_1858 rfl (lv_at hl 4 rfl) ?_
  refine g_callV B F P (As := []) (ct_X6_servedShare (D := D) (ad := ad) (cy := cy) (ba := ba) l  ((f_L_servedShare σ).2) ) ok6 (by decide) rfl q1138 q1139 q1140 q8 q1141 nk_X6_servedShare rfl ⟨Nat.le_of_ble_eq_true rfl, Nat.le_of_ble_eq_true rfl⟩ hl.1 rfl (Nat.le_of_ble_eq_true rfl) dL_law_1859 ⟨by omega, by omega⟩ (fun H locs P => ?_)
  refine lv_fstore (lv' := [(7, .float ((f_X6_servedShare ((f_L_servedShare σ).2)).1)), (6, .int ((f_L_servedShare σ).1)), (5, .int i), (4, .ref (ad 32)), (3, .ref (ad 31)), (2, .ref (ad 19)), (1, .ref (ad 0)), (0, .ref b)]) hx hb dL_law_1862 hl (by decide) rfl (fun ls hl => ?_)
  refine lv_aload_n hx hb dL_law_1864 rfl (lv_at hl 5 rfl) ?_
  refine g_callV B F P (As := []) (ct_X6_thrown (D := D) (ad := ad) (cy := cy) (ba := ba) l  ((f_X6_servedShare ((f_L_servedShare σ).2)).2) ) ok6 (by decide) rfl q918 q919 q920 q8 q921 nk_X6_thrown rfl ⟨Nat.le_of_ble_eq_true rfl, Nat.le_of_ble_eq_true rfl⟩ hl.1 rfl (Nat.le_of_ble_eq_true rfl) dL_law_1865 ⟨by omega, by omega⟩ (fun H locs P => ?_)
  refine lv_iload hx hb dL_law_1868 (lv_at hl 1 rfl) ?_
  refine lv_icmp_eq (tgt := 1875) hx hb dL_law_1870 (by decide) (fun _ => ?_) (fun h9 => absurd ok.2.1 h9)
  refine lv_iload hx hb dL_law_1875 (lv_at hl 1 rfl) ?_
  refine lv_if_ne (tgt := 1913) hx hb dL_law_1877 (by decide) (fun c_k => ?_) (fun c_k => ?_)
  · skip
    refine lv_goto (tgt := 1981) hx hb dL_law_1913 (by decide) ?_
    exact kk _ _ _ P (lv_sub hl [2, 3, 4, 5, 6, 7] rfl)
  · skip
    refine lv_aload hx hb dL_law_1880 (lv_at hl 3 rfl) ?_
    refine lv_iconst (v := 0) hx hb dL_law_1882 (by decide) ?_
    refine g_dld B F P (by decide) rfl rfl (by unfold vp_in; decide) dL_law_1883 ?_
    refine lv_fload hx hb dL_law_1884 (lv_at hl 0 rfl) ?_
    refine lv_f2d hx hb dL_law_1886 (ok.2.2.2 c_k).1 ?_
    refine lv_dcmp hx hb dL_law_1887 ?_
    refine lv_if_eq (tgt := 1913) hx hb dL_law_1888 (by decide) (fun _ => ?_) (fun h9 => absurd (ok.2.2.2 c_k).2 h9)
    refine lv_goto (tgt := 1981) hx hb dL_law_1913 (by decide) ?_
    exact kk _ _ _ P (lv_sub hl [2, 3, 4, 5, 6, 7] rfl)
theorem nk_L_meanCost : nmOk yL_meanCost RL 2 := ⟨rfl, by decide +kernel, by decide +kernel, by decide +kernel⟩
theorem nk_X6_meanCost : nmOk yX6_meanCost RX6 0 := ⟨rfl, by decide +kernel, by decide +kernel, by decide +kernel⟩
set_option maxHeartbeats 4000000 in
set_option maxRecDepth 100000 in
theorem lc_meanCost {D : va_G} {ad : Nat → Nat} {cy : Nat → ClassId} {ba : Nat} {p : Program} {l : Launch} {e : Env} {s : State} {m : MethodId} {args : Array Value} {below : List Frame} {meth : Method} {c : Code} {H : Heap} {locs : List Loc} {cells slots : Nat} {Q : State → Prop} {ls : Array Slot} {b L : Nat} {xs : Nat → Int32} {σ : Sg} {i : Int32} (B : CallFix p m c cL_law 9 s args AW RL) (F : Fx D ad cy ba s) (hst : l.stackTraces = false) (X : va_X b L xs s s.heap) (hbl : b < s.heap.size) (hbA : ¬ ba ≤ b) (P : Wo D ad cy ba s σ H locs) (hl : lv_has ls 9 [(5, .int i), (4, .ref (ad 32)), (3, .ref (ad 31)), (2, .ref (ad 19)), (1, .ref (ad 0)), (0, .ref b)]) (hC : GC 99000 σ) (hi : ∀ k, k ≤ 4 → vp_in (i + nI k) L) (hrc : cells + 4 ≤ room_1.cells) (hrs : slots + 24 ≤ room_1.slots) (ok : (GM 99000 (f_L_meanCost σ).2 ∧ rI (f_X6_meanCost (f_L_meanCost σ).2).2 19 32 = (f_L_meanCost σ).1 ∧ True ∧ ((f_L_meanCost σ).1 = 0 → (True ∧ Op.cmpValue (FP.dcmp (rD (f_X6_meanCost (f_L_meanCost σ).2).2 32 (Int32.toNatClampNeg 0)) (f_X6_meanCost (f_L_meanCost σ).2).1) .l = 0))))
    (kk : ∀ (H : Heap) (locs : List Loc) (ls : Array Slot), Wo D ad cy ba s (f_X6_meanCost (f_L_meanCost σ).2).2 H locs → lv_has ls 9 [(5, .int i), (4, .ref (ad 32)), (3, .ref (ad 31)), (2, .ref (ad 19)), (1, .ref (ad 0)), (0, .ref b)] → W p l e room_1 s m args below meth c H locs (cells + 4) (slots + 24) Q (F0 m 1981 ls [])) : W p l e room_1 s m args below meth c H locs cells slots Q (F0 m 1916 ls []) := by
  have hx := B.1
  have hb := B.2.1
  refine lv_aload_n hx hb dL_law_1916 rfl (lv_at hl 4 rfl) ?_
  refine lv_aload hx hb dL_law_1917 (lv_at hl 1 rfl) ?_
  refine g_callSw B F P (As := [.ref (ad 0), .ref (ad 32)]) (cw_L_meanCost (D := D) (ad := ad) (cy := cy) (ba := ba) l  σ hst) q800 q801 q0 q802 nk_L_meanCost rfl ⟨Nat.le_of_ble_eq_true rfl, Nat.le_of_ble_eq_true rfl⟩ hl.1 rfl (Nat.le_of_ble_eq_true rfl) dL_law_1919 ⟨hrc, hrs⟩ (fun H locs P => ?_)
  refine lv_istore (lv' := [(6, .int ((f_L_meanCost σ).1)), (5, .int i), (4, .ref (ad 32)), (3, .ref (ad 31)), (2, .ref (ad 19)), (1, .ref (ad 0)), (0, .ref b)]) hx hb dL_law_1922 hl (by decide) rfl (fun ls hl => ?_)
  refine lv_aload_n hx hb dL_law_1924 rfl (lv_at hl 4 rfl) ?_
  refine g_callV B F P (As := []) (ct_X6_meanCost (D := D) (ad := ad) (cy := cy) (ba := ba) l  ((f_L_meanCost σ).2) ) ok6 (by decide) rfl q1142 q1143 q1144 q8 q1145 nk_X6_meanCost rfl ⟨Nat.le_of_ble_eq_true rfl, Nat.le_of_ble_eq_true rfl⟩ hl.1 rfl (Nat.le_of_ble_eq_true rfl) dL_law_1925 ⟨by omega, by omega⟩ (fun H locs P => ?_)
  refine lv_dstore (lv' := [(7, .double ((f_X6_meanCost ((f_L_meanCost σ).2)).1)), (6, .int ((f_L_meanCost σ).1)), (5, .int i), (4, .ref (ad 32)), (3, .ref (ad 31)), (2, .ref (ad 19)), (1, .ref (ad 0)), (0, .ref b)]) hx hb dL_law_1928 hl (by decide) rfl (fun ls hl => ?_)
  refine lv_aload_n hx hb dL_law_1930 rfl (lv_at hl 5 rfl) ?_
  refine g_callV B F P (As := []) (ct_X6_thrown (D := D) (ad := ad) (cy := cy) (ba := ba) l  ((f_X6_meanCost ((f_L_meanCost σ).2)).2) ) ok6 (by decide) rfl q918 q919 q920 q8 q921 nk_X6_thrown rfl ⟨Nat.le_of_ble_eq_true rfl, Nat.le_of_ble_eq_true rfl⟩ hl.1 rfl (Nat.le_of_ble_eq_true rfl) dL_law_1931 ⟨by omega, by omega⟩ (fun H locs P => ?_)
  refine lv_iload hx hb dL_law_1934 (lv_at hl 1 rfl) ?_
  refine lv_icmp_eq (tgt := 1941) hx hb dL_law_1936 (by decide) (fun _ => ?_) (fun h9 => absurd ok.2.1 h9)
  refine lv_iload hx hb dL_law_1941 (lv_at hl 1 rfl) ?_
  refine lv_if_ne (tgt := 1978) hx hb dL_law_1943 (by decide) (fun c_k => ?_) (fun c_k => ?_)
  · skip
    refine lv_goto (tgt := 1981) hx hb dL_law_1978 (by decide) ?_
    exact kk _ _ _ P (lv_sub hl [2, 3, 4, 5, 6, 7] rfl)
  · skip
    refine lv_aload hx hb dL_law_1946 (lv_at hl 3 rfl) ?_
    refine lv_iconst (v := 0) hx hb dL_law_1948 (by decide) ?_
    refine g_dld B F P (by decide) rfl rfl (by unfold vp_in; decide) dL_law_1949 ?_
    refine lv_dload hx hb dL_law_1950 (lv_at hl 0 rfl) ?_
    refine lv_dcmp hx hb dL_law_1952 ?_
    refine lv_if_eq (tgt := 1978) hx hb dL_law_1953 (by decide) (fun _ => ?_) (fun h9 => absurd (ok.2.2.2 c_k).2 h9)
    refine lv_goto (tgt := 1981) hx hb dL_law_1978 (by decide) ?_
    exact kk _ _ _ P (lv_sub hl [2, 3, 4, 5, 6, 7] rfl)
