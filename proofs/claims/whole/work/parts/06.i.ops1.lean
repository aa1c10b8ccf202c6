def f_X5_addTrain (a : Int32) (σ : Sg) : Nat × Int32 × Sg := if (f_X5_checkRange a 1 20 σ) = 0 then (if (rI σ 1 5) < 4 then (0, (rI σ 1 5), (sI (sI (sI σ 2 (rI σ 1 5).toNatClampNeg a) 3 (rI σ 1 5).toNatClampNeg 50) 1 5 ((rI σ 1 5) + 1))) else (2, 0, σ)) else ((f_X5_checkRange a 1 20 σ), 0, σ)
set_option maxHeartbeats 4000000 in
set_option maxRecDepth 100000 in
theorem ct_X5_addTrain {D : va_G} {ad : Nat → Nat} {cy : Nat → ClassId} {ba : Nat} (l : Launch) (a : Int32) (σ : Sg) (hst : l.stackTraces = false) (hC : GC 99000 σ) : Cx D ad cy ba l 1 4 yX5_addTrain cX5_addTrain 3 (some .int) [.ref (ad 0), .int a] σ (f_X5_addTrain a σ).1 (some (.int (f_X5_addTrain a σ).2.1)) (f_X5_addTrain a σ).2.2 := by
  generalize hE : f_X5_addTrain a σ = Z
  dsimp only [f_X5_addTrain] at hE
  refine Cx.of (by decide +kernel) (Nat.le_of_ble_eq_true rfl) ?_
  intro p e s m below meth c ls B F P hrt hlk hT hl
  have hx := B.1
  have hb := B.2.1
  have hl : lv_has ls 3 [(0, .ref (ad 0)), (1, .int a)] := hl
  refine lv_iload_n hx hb dX5_addTrain_0 rfl (lv_at hl 1 rfl) ?_
  refine lv_iconst (v := 1) hx hb dX5_addTrain_1 (by decide) ?_
  refine lv_bipush (v := 20) hx hb dX5_addTrain_2 (by decide) ?_
  refine g_callSx B F P (As := [.int a, .int 1, .int 20]) (ct_X5_checkRange (D := D) (ad := ad) (cy := cy) (ba := ba) l a 1 20 σ hst) q371 q372 q1 q373 nk_X5_checkRange rfl ⟨(Nat.le_of_ble_eq_true rfl), (Nat.le_of_ble_eq_true rfl)⟩ hl.1 rfl (Nat.le_of_ble_eq_true rfl) dX5_addTrain_4 ⟨Nat.le_of_ble_eq_true rfl, Nat.le_of_ble_eq_true rfl⟩ (fun c4 ce q9 H locs P h1 h2 h3 => ?_) (fun c4 H locs P => ?_)
  · rw [if_neg c4] at hE
    exact g_out P c4 (by rw [← hE]) (by rw [← hE]) hT hlk (Nat.le_of_ble_eq_true rfl) (Nat.le_of_ble_eq_true rfl) h1 h2 h3
  rw [if_pos c4] at hE
  refine lv_aload_n hx hb dX5_addTrain_7 rfl (lv_at hl 0 rfl) ?_
  refine g_getr (k := 0) (t := 1) B F P ok5 (by decide) rfl rfl rfl (by decide) rfl q238 dX5_addTrain_8 ?_
  refine g_geti (k := 5) B F P ok3 (by decide) rfl rfl rfl (by decide) q54 dX5_addTrain_11 ?_
  refine lv_iconst (v := 4) hx hb dX5_addTrain_14 (by decide) ?_
  refine lv_icmp_lt (tgt := 28) hx hb dX5_addTrain_15 (by decide) (fun c15 => ?_) (fun c15 => ?_)
  · rw [if_pos c15] at hE
    refine lv_aload_n hx hb dX5_addTrain_28 rfl (lv_at hl 0 rfl) ?_
    refine g_getr (k := 0) (t := 1) B F P ok5 (by decide) rfl rfl rfl (by decide) rfl q238 dX5_addTrain_29 ?_
    refine g_geti (k := 5) B F P ok3 (by decide) rfl rfl rfl (by decide) q54 dX5_addTrain_32 ?_
    refine lv_istore_n (lv' := [(2, .int (rI σ 1 5)), (0, .ref (ad 0)), (1, .int a)]) hx hb dX5_addTrain_35 rfl hl (by decide) rfl (fun ls hl => ?_)
    refine lv_aload_n hx hb dX5_addTrain_36 rfl (lv_at hl 1 rfl) ?_
    refine g_getr (k := 0) (t := 1) B F P ok5 (by decide) rfl rfl rfl (by decide) rfl q238 dX5_addTrain_37 ?_
    refine g_getr (k := 0) (t := 2) B F P ok3 (by decide) rfl rfl rfl (by decide) rfl q42 dX5_addTrain_40 ?_
    refine lv_iload_n hx hb dX5_addTrain_43 rfl (lv_at hl 0 rfl) ?_
    refine lv_iload_n hx hb dX5_addTrain_44 rfl (lv_at hl 2 rfl) ?_
    refine g_ist B F P (by decide) rfl rfl (trs_in hC c15) dX5_addTrain_45 (fun H locs P => ?_)
    refine lv_aload_n hx hb dX5_addTrain_46 rfl (lv_at hl 1 rfl) ?_
    refine g_getr (k := 0) (t := 1) B F P ok5 (by decide) rfl rfl rfl (by decide) rfl q238 dX5_addTrain_47 ?_
    refine g_getr (k := 1) (t := 3) B F P ok3 (by decide) rfl rfl rfl (by decide) rfl q44 dX5_addTrain_50 ?_
    refine lv_iload_n hx hb dX5_addTrain_53 rfl (lv_at hl 0 rfl) ?_
    refine lv_bipush (v := 50) hx hb dX5_addTrain_54 (by decide) ?_
    refine g_ist B F P (by decide) rfl rfl (trs_in hC c15) dX5_addTrain_56 (fun H locs P => ?_)
    refine lv_aload_n hx hb dX5_addTrain_57 rfl (lv_at hl 1 rfl) ?_
    refine g_getr (k := 0) (t := 1) B F P ok5 (by decide) rfl rfl rfl (by decide) rfl q238 dX5_addTrain_58 ?_
    refine lv_iload_n hx hb dX5_addTrain_61 rfl (lv_at hl 0 rfl) ?_
    refine lv_iconst (v := 1) hx hb dX5_addTrain_62 (by decide) ?_
    refine lv_iadd hx hb dX5_addTrain_63 ?_
    refine g_puti (k := 5) B F P ok3 (by decide) rfl rfl rfl (by decide) rfl (tyX3_ok 5 (by decide)) q54 dX5_addTrain_64 (fun H locs P => ?_)
    refine lv_iload_n hx hb dX5_addTrain_67 rfl (lv_at hl 0 rfl) ?_
    exact g_retix B P (by rw [← hE]) (by rw [← hE]) (by rw [← hE]) hrt hlk (Nat.le_of_ble_eq_true rfl) (Nat.le_of_ble_eq_true rfl) dX5_addTrain_68
  · rw [if_neg c15] at hE
    exact g_throw2 B F P hst (is := 62) (text := "there are 4 trains") (by decide) (by rw [← hE]) (by rw [← hE]) hl.1 hlk hT dX5_addTrain_18 dX5_addTrain_21 dX5_addTrain_22 dX5_addTrain_24 dX5_addTrain_27 (Nat.le_of_ble_eq_true rfl) (Nat.le_of_ble_eq_true rfl) (Nat.le_of_ble_eq_true rfl) (Nat.le_of_ble_eq_true rfl) (Nat.le_of_ble_eq_true rfl) (Nat.le_of_ble_eq_true rfl)
theorem nk_X5_checkTrain : nmOk yX5_checkTrain RX5 1 := ⟨rfl, by decide +kernel, by decide +kernel, by decide +kernel⟩
def f_X5_setPressure (t : Int32) (v : Int32) (σ : Sg) : Nat × Int32 × Sg := if (f_X5_checkTrain t σ) = 0 then (if (f_X5_checkRange v 30 70 σ) = 0 then (0, (rI σ 3 t.toNatClampNeg), (sI σ 3 t.toNatClampNeg v)) else ((f_X5_checkRange v 30 70 σ), 0, σ)) else ((f_X5_checkTrain t σ), 0, σ)
set_option maxHeartbeats 4000000 in
set_option maxRecDepth 100000 in
theorem ct_X5_setPressure {D : va_G} {ad : Nat → Nat} {cy : Nat → ClassId} {ba : Nat} (l : Launch) (t : Int32) (v : Int32) (σ : Sg) (hst : l.stackTraces = false) (hC : GC 99000 σ) : Cx D ad cy ba l 1 4 yX5_setPressure cX5_setPressure 4 (some .int) [.ref (ad 0), .int t, .int v] σ (f_X5_setPressure t v σ).1 (some (.int (f_X5_setPressure t v σ).2.1)) (f_X5_setPressure t v σ).2.2 := by
  generalize hE : f_X5_setPressure t v σ = Z
  dsimp only [f_X5_setPressure] at hE
  refine Cx.of (by decide +kernel) (Nat.le_of_ble_eq_true rfl) ?_
  intro p e s m below meth c ls B F P hrt hlk hT hl
  have hx := B.1
  have hb := B.2.1
  have hl : lv_has ls 4 [(0, .ref (ad 0)), (1, .int t), (2, .int v)] := hl
  refine lv_aload_n hx hb dX5_setPressure_0 rfl (lv_at hl 0 rfl) ?_
  refine lv_iload_n hx hb dX5_setPressure_1 rfl (lv_at hl 1 rfl) ?_
  refine g_callVx B F P (As := [.int t]) (ct_X5_checkTrain (D := D) (ad := ad) (cy := cy) (ba := ba) l t σ hst) ok5 (by decide) rfl q493 q495 qs7 q1 q496 nk_X5_checkTrain rfl ⟨(Nat.le_of_ble_eq_true rfl), (Nat.le_of_ble_eq_true rfl)⟩ hl.1 rfl (Nat.le_of_ble_eq_true rfl) dX5_setPressure_2 ⟨Nat.le_of_ble_eq_true rfl, Nat.le_of_ble_eq_true rfl⟩ (fun c2 ce q9 H locs P h1 h2 h3 => ?_) (fun c2 H locs P => ?_)
  · rw [if_neg c2] at hE
    exact g_out P c2 (by rw [← hE]) (by rw [← hE]) hT hlk (Nat.le_of_ble_eq_true rfl) (Nat.le_of_ble_eq_true rfl) h1 h2 h3
  rw [if_pos c2] at hE
  refine lv_iload_n hx hb dX5_setPressure_5 rfl (lv_at hl 2 rfl) ?_
  refine lv_bipush (v := 30) hx hb dX5_setPressure_6 (by decide) ?_
  refine lv_bipush (v := 70) hx hb dX5_setPressure_8 (by decide) ?_
  refine g_callSx B F P (As := [.int v, .int 30, .int 70]) (ct_X5_checkRange (D := D) (ad := ad) (cy := cy) (ba := ba) l v 30 70 σ hst) q371 q372 q1 q373 nk_X5_checkRange rfl ⟨(Nat.le_of_ble_eq_true rfl), (Nat.le_of_ble_eq_true rfl)⟩ hl.1 rfl (Nat.le_of_ble_eq_true rfl) dX5_setPressure_10 ⟨Nat.le_of_ble_eq_true rfl, Nat.le_of_ble_eq_true rfl⟩ (fun c10 ce q9 H locs P h1 h2 h3 => ?_) (fun c10 H locs P => ?_)
  · rw [if_neg c10] at hE
    exact g_out P c10 (by rw [← hE]) (by rw [← hE]) hT hlk (Nat.le_of_ble_eq_true rfl) (Nat.le_of_ble_eq_true rfl) h1 h2 h3
  rw [if_pos c10] at hE
  refine lv_aload_n hx hb dX5_setPressure_13 rfl (lv_at hl 0 rfl) ?_
  refine g_getr (k := 0) (t := 1) B F P ok5 (by decide) rfl rfl rfl (by decide) rfl q238 dX5_setPressure_14 ?_
  refine g_getr (k := 1) (t := 3) B F P ok3 (by decide) rfl rfl rfl (by decide) rfl q44 dX5_setPressure_17 ?_
  refine lv_iload_n hx hb dX5_setPressure_20 rfl (lv_at hl 1 rfl) ?_
  refine g_ild B F P (by decide) rfl rfl (trn_in hC c2) dX5_setPressure_21 ?_
  refine lv_istore_n (lv' := [(3, .int (rI σ 3 t.toNatClampNeg)), (0, .ref (ad 0)), (1, .int t), (2, .int v)]) hx hb dX5_setPressure_22 rfl hl (by decide) rfl (fun ls hl => ?_)
  refine lv_aload_n hx hb dX5_setPressure_23 rfl (lv_at hl 1 rfl) ?_
  refine g_getr (k := 0) (t := 1) B F P ok5 (by decide) rfl rfl rfl (by decide) rfl q238 dX5_setPressure_24 ?_
  refine g_getr (k := 1) (t := 3) B F P ok3 (by decide) rfl rfl rfl (by decide) rfl q44 dX5_setPressure_27 ?_
  refine lv_iload_n hx hb dX5_setPressure_30 rfl (lv_at hl 2 rfl) ?_
  refine lv_iload_n hx hb dX5_setPressure_31 rfl (lv_at hl 3 rfl) ?_
  refine g_ist B F P (by decide) rfl rfl (trn_in hC c2) dX5_setPressure_32 (fun H locs P => ?_)
  refine lv_iload_n hx hb dX5_setPressure_33 rfl (lv_at hl 0 rfl) ?_
  exact g_retix B P (by rw [← hE]) (by rw [← hE]) (by rw [← hE]) hrt hlk (Nat.le_of_ble_eq_true rfl) (Nat.le_of_ble_eq_true rfl) dX5_setPressure_34
def f_X5_setSalinity (v : Int32) (σ : Sg) : Nat × Int32 × Sg := if (f_X5_checkRange v 20 35 σ) = 0 then (0, (rI σ 1 7), (sI σ 1 7 v)) else ((f_X5_checkRange v 20 35 σ), 0, σ)
set_option maxHeartbeats 4000000 in
set_option maxRecDepth 100000 in
theorem ct_X5_setSalinity {D : va_G} {ad : Nat → Nat} {cy : Nat → ClassId} {ba : Nat} (l : Launch) (v : Int32) (σ : Sg) (hst : l.stackTraces = false) : Cx D ad cy ba l 1 4 yX5_setSalinity cX5_setSalinity 3 (some .int) [.ref (ad 0), .int v] σ (f_X5_setSalinity v σ).1 (some (.int (f_X5_setSalinity v σ).2.1)) (f_X5_setSalinity v σ).2.2 := by
  generalize hE : f_X5_setSalinity v σ = Z
  dsimp only [f_X5_setSalinity] at hE
  refine Cx.of (by decide +kernel) (Nat.le_of_ble_eq_true rfl) ?_
  intro p e s m below meth c ls B F P hrt hlk hT hl
  have hx := B.1
  have hb := B.2.1
  have hl : lv_has ls 3 [(0, .ref (ad 0)), (1, .int v)] := hl
  refine lv_iload_n hx hb dX5_setSalinity_0 rfl (lv_at hl 1 rfl) ?_
  refine lv_bipush (v := 20) hx hb dX5_setSalinity_1 (by decide) ?_
  refine lv_bipush (v := 35) hx hb dX5_setSalinity_3 (by decide) ?_
  refine g_callSx B F P (As := [.int v, .int 20, .int 35]) (ct_X5_checkRange (D := D) (ad := ad) (cy := cy) (ba := ba) l v 20 35 σ hst) q371 q372 q1 q373 nk_X5_checkRange rfl ⟨(Nat.le_of_ble_eq_true rfl), (Nat.le_of_ble_eq_true rfl)⟩ hl.1 rfl (Nat.le_of_ble_eq_true rfl) dX5_setSalinity_5 ⟨Nat.le_of_ble_eq_true rfl, Nat.le_of_ble_eq_true rfl⟩ (fun c5 ce q9 H locs P h1 h2 h3 => ?_) (fun c5 H locs P => ?_)
  · rw [if_neg c5] at hE
    exact g_out P c5 (by rw [← hE]) (by rw [← hE]) hT hlk (Nat.le_of_ble_eq_true rfl) (Nat.le_of_ble_eq_true rfl) h1 h2 h3
  rw [if_pos c5] at hE
  refine lv_aload_n hx hb dX5_setSalinity_8 rfl (lv_at hl 0 rfl) ?_
  refine g_getr (k := 0) (t := 1) B F P ok5 (by decide) rfl rfl rfl (by decide) rfl q238 dX5_setSalinity_9 ?_
  refine g_geti (k := 7) B F P ok3 (by decide) rfl rfl rfl (by decide) q59 dX5_setSalinity_12 ?_
  refine lv_istore_n (lv' := [(2, .int (rI σ 1 7)), (0, .ref (ad 0)), (1, .int v)]) hx hb dX5_setSalinity_15 rfl hl (by decide) rfl (fun ls hl => ?_)
  refine lv_aload_n hx hb dX5_setSalinity_16 rfl (lv_at hl 1 rfl) ?_
  refine g_getr (k := 0) (t := 1) B F P ok5 (by decide) rfl rfl rfl (by decide) rfl q238 dX5_setSalinity_17 ?_
  refine lv_iload_n hx hb dX5_setSalinity_20 rfl (lv_at hl 2 rfl) ?_
  refine g_puti (k := 7) B F P ok3 (by decide) rfl rfl rfl (by decide) rfl (tyX3_ok 7 (by decide)) q59 dX5_setSalinity_21 (fun H locs P => ?_)
  refine lv_iload_n hx hb dX5_setSalinity_24 rfl (lv_at hl 0 rfl) ?_
  exact g_retix B P (by rw [← hE]) (by rw [← hE]) (by rw [← hE]) hrt hlk (Nat.le_of_ble_eq_true rfl) (Nat.le_of_ble_eq_true rfl) dX5_setSalinity_25
def f_X5_setRecovery (v : Int32) (σ : Sg) : Nat × Int32 × Sg := if (f_X5_checkRange v 30 60 σ) = 0 then (0, (rI σ 1 8), (sI σ 1 8 v)) else ((f_X5_checkRange v 30 60 σ), 0, σ)
set_option maxHeartbeats 4000000 in
set_option maxRecDepth 100000 in
theorem ct_X5_setRecovery {D : va_G} {ad : Nat → Nat} {cy : Nat → ClassId} {ba : Nat} (l : Launch) (v : Int32) (σ : Sg) (hst : l.stackTraces = false) : Cx D ad cy ba l 1 4 yX5_setRecovery cX5_setRecovery 3 (some .int) [.ref (ad 0), .int v] σ (f_X5_setRecovery v σ).1 (some (.int (f_X5_setRecovery v σ).2.1)) (f_X5_setRecovery v σ).2.2 := by
  generalize hE : f_X5_setRecovery v σ = Z
  dsimp only [f_X5_setRecovery] at hE
  refine Cx.of (by decide +kernel) (Nat.le_of_ble_eq_true rfl) ?_
  intro p e s m below meth c ls B F P hrt hlk hT hl
  have hx := B.1
  have hb := B.2.1
  have hl : lv_has ls 3 [(0, .ref (ad 0)), (1, .int v)] := hl
  refine lv_iload_n hx hb dX5_setRecovery_0 rfl (lv_at hl 1 rfl) ?_
  refine lv_bipush (v := 30) hx hb dX5_setRecovery_1 (by decide) ?_
  refine lv_bipush (v := 60) hx hb dX5_setRecovery_3 (by decide) ?_
  refine g_callSx B F P (As := [.int v, .int 30, .int 60]) (ct_X5_checkRange (D := D) (ad := ad) (cy := cy) (ba := ba) l v 30 60 σ hst) q371 q372 q1 q373 nk_X5_checkRange rfl ⟨(Nat.le_of_ble_eq_true rfl), (Nat.le_of_ble_eq_true rfl)⟩ hl.1 rfl (Nat.le_of_ble_eq_true rfl) dX5_setRecovery_5 ⟨Nat.le_of_ble_eq_true rfl, Nat.le_of_ble_eq_true rfl⟩ (fun c5 ce q9 H locs P h1 h2 h3 => ?_) (fun c5 H locs P => ?_)
  · rw [if_neg c5] at hE
    exact g_out P c5 (by rw [← hE]) (by rw [← hE]) hT hlk (Nat.le_of_ble_eq_true rfl) (Nat.le_of_ble_eq_true rfl) h1 h2 h3
  rw [if_pos c5] at hE
  refine lv_aload_n hx hb dX5_setRecovery_8 rfl (lv_at hl 0 rfl) ?_
  refine g_getr (k := 0) (t := 1) B F P ok5 (by decide) rfl rfl rfl (by decide) rfl q238 dX5_setRecovery_9 ?_
  refine g_geti (k := 8) B F P ok3 (by decide) rfl rfl rfl (by decide) q61 dX5_setRecovery_12 ?_
  refine lv_istore_n (lv' := [(2, .int (rI σ 1 8)), (0, .ref (ad 0)), (1, .int v)]) hx hb dX5_setRecovery_15 rfl hl (by decide) rfl (fun ls hl => ?_)
  refine lv_aload_n hx hb dX5_setRecovery_16 rfl (lv_at hl 1 rfl) ?_
  refine g_getr (k := 0) (t := 1) B F P ok5 (by decide) rfl rfl rfl (by decide) rfl q238 dX5_setRecovery_17 ?_
  refine lv_iload_n hx hb dX5_setRecovery_20 rfl (lv_at hl 2 rfl) ?_
  refine g_puti (k := 8) B F P ok3 (by decide) rfl rfl rfl (by decide) rfl (tyX3_ok 8 (by decide)) q61 dX5_setRecovery_21 (fun H locs P => ?_)
  refine lv_iload_n hx hb dX5_setRecovery_24 rfl (lv_at hl 0 rfl) ?_
  exact g_retix B P (by rw [← hE]) (by rw [← hE]) (by rw [← hE]) hrt hlk (Nat.le_of_ble_eq_true rfl) (Nat.le_of_ble_eq_true rfl) dX5_setRecovery_25
theorem nk_X5_checkReady : nmOk yX5_checkReady RX5 1 := ⟨rfl, by decide +kernel, by decide +kernel, by decide +kernel⟩
def f_X5_clean (t : Int32) (σ : Sg) : Nat × Int32 × Sg := if (f_X5_checkTrain t σ) = 0 then (if (f_X5_checkReady t σ) = 0 then (if (rI σ 1 6) = 0 then (4, 0, σ) else (if (rI σ 2 t.toNatClampNeg) ≤ (rI σ (sid 0 + 4) (Int32.toNatClampNeg 0)) then (0, (rI (sI (sL (sI σ (sid 0 + 4) (Int32.toNatClampNeg 0) ((rI σ (sid 0 + 4) (Int32.toNatClampNeg 0)) - (rI σ 2 t.toNatClampNeg))) 17 8 ((rL (sI σ (sid 0 + 4) (Int32.toNatClampNeg 0) ((rI σ (sid 0 + 4) (Int32.toNatClampNeg 0)) - (rI σ 2 t.toNatClampNeg))) 17 8) + (rI σ 2 t.toNatClampNeg).toInt64)) (sid 0 + 3) t.toNatClampNeg (2 + ((rI (sL (sI σ (sid 0 + 4) (Int32.toNatClampNeg 0) ((rI σ (sid 0 + 4) (Int32.toNatClampNeg 0)) - (rI σ 2 t.toNatClampNeg))) 17 8 ((rL (sI σ (sid 0 + 4) (Int32.toNatClampNeg 0) ((rI σ (sid 0 + 4) (Int32.toNatClampNeg 0)) - (rI σ 2 t.toNatClampNeg))) 17 8) + (rI σ 2 t.toNatClampNeg).toInt64)) (sid 0 + 1) t.toNatClampNeg) / 20))) (sid 0 + 3) t.toNatClampNeg), (sI (sL (sI σ (sid 0 + 4) (Int32.toNatClampNeg 0) ((rI σ (sid 0 + 4) (Int32.toNatClampNeg 0)) - (rI σ 2 t.toNatClampNeg))) 17 8 ((rL (sI σ (sid 0 + 4) (Int32.toNatClampNeg 0) ((rI σ (sid 0 + 4) (Int32.toNatClampNeg 0)) - (rI σ 2 t.toNatClampNeg))) 17 8) + (rI σ 2 t.toNatClampNeg).toInt64)) (sid 0 + 3) t.toNatClampNeg (2 + ((rI (sL (sI σ (sid 0 + 4) (Int32.toNatClampNeg 0) ((rI σ (sid 0 + 4) (Int32.toNatClampNeg 0)) - (rI σ 2 t.toNatClampNeg))) 17 8 ((rL (sI σ (sid 0 + 4) (Int32.toNatClampNeg 0) ((rI σ (sid 0 + 4) (Int32.toNatClampNeg 0)) - (rI σ 2 t.toNatClampNeg))) 17 8) + (rI σ 2 t.toNatClampNeg).toInt64)) (sid 0 + 1) t.toNatClampNeg) / 20)))) else (4, 0, σ))) else ((f_X5_checkReady t σ), 0, σ)) else ((f_X5_checkTrain t σ), 0, σ)
set_option maxHeartbeats 4000000 in
set_option maxRecDepth 100000 in
theorem ct_X5_clean {D : va_G} {ad : Nat → Nat} {cy : Nat → ClassId} {ba : Nat} (l : Launch) (t : Int32) (σ : Sg) (hst : l.stackTraces = false) (hC : GC 99000 σ) : Cx D ad cy ba l 1 4 yX5_clean cX5_clean 3 (some .int) [.ref (ad 0), .int t] σ (f_X5_clean t σ).1 (some (.int (f_X5_clean t σ).2.1)) (f_X5_clean t σ).2.2 := by
  generalize hE : f_X5_clean t σ = Z
  dsimp only [f_X5_clean] at hE
  refine Cx.of (by decide +kernel) (Nat.le_of_ble_eq_true rfl) ?_
  intro p e s m below meth c ls B F P hrt hlk hT hl
  have hx := B.1
  have hb := B.2.1
  have hl : lv_has ls 3 [(0, .ref (ad 0)), (1, .int t)] := hl
  refine lv_aload_n hx hb dX5_clean_0 rfl (lv_at hl 0 rfl) ?_
  refine lv_iload_n hx hb dX5_clean_1 rfl (lv_at hl 1 rfl) ?_
  refine g_callVx B F P (As := [.int t]) (ct_X5_checkTrain (D := D) (ad := ad) (cy := cy) (ba := ba) l t σ hst) ok5 (by decide) rfl q493 q495 qs7 q1 q496 nk_X5_checkTrain rfl ⟨(Nat.le_of_ble_eq_true rfl), (Nat.le_of_ble_eq_true rfl)⟩ hl.1 rfl (Nat.le_of_ble_eq_true rfl) dX5_clean_2 ⟨Nat.le_of_ble_eq_true rfl, Nat.le_of_ble_eq_true rfl⟩ (fun c2 ce q9 H locs P h1 h2 h3 => ?_) (fun c2 H locs P => ?_)
  · rw [if_neg c2] at hE
    exact g_out P c2 (by rw [← hE]) (by rw [← hE]) hT hlk (Nat.le_of_ble_eq_true rfl) (Nat.le_of_ble_eq_true rfl) h1 h2 h3
  rw [if_pos c2] at hE
  refine lv_aload_n hx hb dX5_clean_5 rfl (lv_at hl 0 rfl) ?_
  refine lv_iload_n hx hb dX5_clean_6 rfl (lv_at hl 1 rfl) ?_
  refine g_callVx B F P (As := [.int t]) (ct_X5_checkReady (D := D) (ad := ad) (cy := cy) (ba := ba) l t σ hst (trn_in hC c2)) ok5 (by decide) rfl q532 q534 qs8 q1 q535 nk_X5_checkReady rfl ⟨(Nat.le_of_ble_eq_true rfl), (Nat.le_of_ble_eq_true rfl)⟩ hl.1 rfl (Nat.le_of_ble_eq_true rfl) dX5_clean_7 ⟨Nat.le_of_ble_eq_true rfl, Nat.le_of_ble_eq_true rfl⟩ (fun c7 ce q9 H locs P h1 h2 h3 => ?_) (fun c7 H locs P => ?_)
  · rw [if_neg c7] at hE
    exact g_out P c7 (by rw [← hE]) (by rw [← hE]) hT hlk (Nat.le_of_ble_eq_true rfl) (Nat.le_of_ble_eq_true rfl) h1 h2 h3
  rw [if_pos c7] at hE
  refine lv_aload_n hx hb dX5_clean_10 rfl (lv_at hl 0 rfl) ?_
  refine g_getr (k := 0) (t := 1) B F P ok5 (by decide) rfl rfl rfl (by decide) rfl q238 dX5_clean_11 ?_
  refine g_getr (k := 0) (t := 2) B F P ok3 (by decide) rfl rfl rfl (by decide) rfl q42 dX5_clean_14 ?_
  refine lv_iload_n hx hb dX5_clean_17 rfl (lv_at hl 1 rfl) ?_
  refine g_ild B F P (by decide) rfl rfl (trn_in hC c2) dX5_clean_18 ?_
  refine lv_istore_n (lv' := [(2, .int (rI σ 2 t.toNatClampNeg)), (0, .ref (ad 0)), (1, .int t)]) hx hb dX5_clean_19 rfl hl (by decide) rfl (fun ls hl => ?_)
  refine lv_aload_n hx hb dX5_clean_20 rfl (lv_at hl 1 rfl) ?_
  refine g_getr (k := 0) (t := 1) B F P ok5 (by decide) rfl rfl rfl (by decide) rfl q238 dX5_clean_21 ?_
  refine g_geti (k := 6) B F P ok3 (by decide) rfl rfl rfl (by decide) q57 dX5_clean_24 ?_
  refine lv_if_eq (tgt := 43) hx hb dX5_clean_27 (by decide) (fun c27 => ?_) (fun c27 => ?_)
  · rw [if_pos c27] at hE
    exact g_throw4 B F P hst (is := 95) (text := "too little water in the tank 0") (by decide) (by rw [← hE]) (by rw [← hE]) hl.1 hlk hT dX5_clean_43 dX5_clean_46 dX5_clean_47 dX5_clean_49 dX5_clean_52 (Nat.le_of_ble_eq_true rfl) (Nat.le_of_ble_eq_true rfl) (Nat.le_of_ble_eq_true rfl) (Nat.le_of_ble_eq_true rfl) (Nat.le_of_ble_eq_true rfl) (Nat.le_of_ble_eq_true rfl)
  · rw [if_neg c27] at hE
    refine lv_aload_n hx hb dX5_clean_30 rfl (lv_at hl 1 rfl) ?_
    refine g_getr (k := 1) (t := (sid 0)) B F P ok5 (by decide) rfl rfl rfl (by decide) rfl q239 dX5_clean_31 ?_
    refine g_getr (k := 3) (t := (sid 0 + 4)) B F P ok4 (sid_lt0 (by decide)) (kd_s0 0) rfl rfl (by decide) (tg_s 0 3) q95 dX5_clean_34 ?_
    refine lv_iconst (v := 0) hx hb dX5_clean_37 (by decide) ?_
    refine g_ild B F P (sid_lt (by decide) (by decide)) (kd_sc 0 4 (by decide) (by decide)) (ln_sc 0 4 (by decide)) (by unfold vp_in; decide) dX5_clean_38 ?_
    refine lv_iload_n hx hb dX5_clean_39 rfl (lv_at hl 0 rfl) ?_
    refine lv_icmp_ge (tgt := 53) hx hb dX5_clean_40 (by decide) (fun c40 => ?_) (fun c40 => ?_)
    · rw [if_pos c40] at hE
      refine lv_aload_n hx hb dX5_clean_53 rfl (lv_at hl 1 rfl) ?_
      refine g_getr (k := 1) (t := (sid 0)) B F P ok5 (by decide) rfl rfl rfl (by decide) rfl q239 dX5_clean_54 ?_
      refine g_getr (k := 3) (t := (sid 0 + 4)) B F P ok4 (sid_lt0 (by decide)) (kd_s0 0) rfl rfl (by decide) (tg_s 0 3) q95 dX5_clean_57 ?_
      refine lv_iconst (v := 0) hx hb dX5_clean_60 (by decide) ?_
      refine lv_dup2_11 hx hb dX5_clean_61 rfl rfl ?_
      refine g_ild B F P (sid_lt (by decide) (by decide)) (kd_sc 0 4 (by decide) (by decide)) (ln_sc 0 4 (by decide)) (by unfold vp_in; decide) dX5_clean_62 ?_
      refine lv_iload_n hx hb dX5_clean_63 rfl (lv_at hl 0 rfl) ?_
      refine lv_isub hx hb dX5_clean_64 ?_
      refine g_ist B F P (sid_lt (by decide) (by decide)) (kd_sc 0 4 (by decide) (by decide)) (ln_sc 0 4 (by decide)) (by unfold vp_in; decide) dX5_clean_65 (fun H locs P => ?_)
      refine lv_aload_n hx hb dX5_clean_66 rfl (lv_at hl 1 rfl) ?_
      refine g_getr (k := 4) (t := 17) B F P ok5 (by decide) rfl rfl rfl (by decide) rfl q242 dX5_clean_67 ?_
      refine lv_dup hx hb dX5_clean_70 rfl ?_
      refine g_getl (k := 8) B F P ok0 (by decide) rfl rfl rfl (by decide) q218 dX5_clean_71 ?_
      refine lv_iload_n hx hb dX5_clean_74 rfl (lv_at hl 0 rfl) ?_
      refine lv_i2l hx hb dX5_clean_75 rfl ?_
      refine lv_ladd hx hb dX5_clean_76 ?_
      refine g_putl (k := 8) B F P ok0 (by decide) rfl rfl rfl (by decide) rfl (tyX0_ok 8 (by decide)) q218 dX5_clean_77 (fun H locs P => ?_)
      refine lv_aload_n hx hb dX5_clean_80 rfl (lv_at hl 1 rfl) ?_
      refine g_getr (k := 1) (t := (sid 0)) B F P ok5 (by decide) rfl rfl rfl (by decide) rfl q239 dX5_clean_81 ?_
      refine g_getr (k := 2) (t := (sid 0 + 3)) B F P ok4 (sid_lt0 (by decide)) (kd_s0 0) rfl rfl (by decide) (tg_s 0 2) q93 dX5_clean_84 ?_
      refine lv_iload_n hx hb dX5_clean_87 rfl (lv_at hl 2 rfl) ?_
      refine lv_iconst (v := 2) hx hb dX5_clean_88 (by decide) ?_
      refine lv_aload_n hx hb dX5_clean_89 rfl (lv_at hl 1 rfl) ?_
      refine g_getr (k := 1) (t := (sid 0)) B F P ok5 (by decide) rfl rfl rfl (by decide) rfl q239 dX5_clean_90 ?_
      refine g_getr (k := 0) (t := (sid 0 + 1)) B F P ok4 (sid_lt0 (by decide)) (kd_s0 0) rfl rfl (by decide) (tg_s 0 0) q89 dX5_clean_93 ?_
      refine lv_iload_n hx hb dX5_clean_96 rfl (lv_at hl 2 rfl) ?_
      refine g_ild B F P (sid_lt (by decide) (by decide)) (kd_sc 0 1 (by decide) (by decide)) (ln_sc 0 1 (by decide)) (trn_in hC c2) dX5_clean_97 ?_
      refine lv_bipush (v := 20) hx hb dX5_clean_98 (by decide) ?_
      refine lv_idiv hx hb dX5_clean_100 (by decide) ?_
      refine lv_iadd hx hb dX5_clean_101 ?_
      refine g_ist B F P (sid_lt (by decide) (by decide)) (kd_sc 0 3 (by decide) (by decide)) (ln_sc 0 3 (by decide)) (trn_in hC c2) dX5_clean_102 (fun H locs P => ?_)
      refine lv_aload_n hx hb dX5_clean_103 rfl (lv_at hl 1 rfl) ?_
      refine g_getr (k := 1) (t := (sid 0)) B F P ok5 (by decide) rfl rfl rfl (by decide) rfl q239 dX5_clean_104 ?_
      refine g_getr (k := 2) (t := (sid 0 + 3)) B F P ok4 (sid_lt0 (by decide)) (kd_s0 0) rfl rfl (by decide) (tg_s 0 2) q93 dX5_clean_107 ?_
      refine lv_iload_n hx hb dX5_clean_110 rfl (lv_at hl 2 rfl) ?_
      refine g_ild B F P (sid_lt (by decide) (by decide)) (kd_sc 0 3 (by decide) (by decide)) (ln_sc 0 3 (by decide)) (trn_in hC c2) dX5_clean_111 ?_
      exact g_retix B P (by rw [← hE]) (by rw [← hE]) (by rw [← hE]) hrt hlk (Nat.le_of_ble_eq_true rfl) (Nat.le_of_ble_eq_true rfl) dX5_clean_112
    · rw [if_neg c40] at hE
      exact g_throw4 B F P hst (is := 95) (text := "too little water in the tank 0") (by decide) (by rw [← hE]) (by rw [← hE]) hl.1 hlk hT dX5_clean_43 dX5_clean_46 dX5_clean_47 dX5_clean_49 dX5_clean_52 (Nat.le_of_ble_eq_true rfl) (Nat.le_of_ble_eq_true rfl) (Nat.le_of_ble_eq_true rfl) (Nat.le_of_ble_eq_true rfl) (Nat.le_of_ble_eq_true rfl) (Nat.le_of_ble_eq_true rfl)
def f_X5_fouling (t : Int32) (σ : Sg) : Nat × Int32 × Sg := if (f_X5_checkTrain t σ) = 0 then (0, (rI σ (sid 0 + 1) t.toNatClampNeg), σ) else ((f_X5_checkTrain t σ), 0, σ)
set_option maxHeartbeats 4000000 in
set_option maxRecDepth 100000 in
theorem ct_X5_fouling {D : va_G} {ad : Nat → Nat} {cy : Nat → ClassId} {ba : Nat} (l : Launch) (t : Int32) (σ : Sg) (hst : l.stackTraces = false) (hC : GC 99000 σ) : Cx D ad cy ba l 1 4 yX5_fouling cX5_fouling 2 (some .int) [.ref (ad 0), .int t] σ (f_X5_fouling t σ).1 (some (.int (f_X5_fouling t σ).2.1)) (f_X5_fouling t σ).2.2 := by
  generalize hE : f_X5_fouling t σ = Z
  dsimp only [f_X5_fouling] at hE
  refine Cx.of (by decide +kernel) (Nat.le_of_ble_eq_true rfl) ?_
  intro p e s m below meth c ls B F P hrt hlk hT hl
  have hx := B.1
  have hb := B.2.1
  have hl : lv_has ls 2 [(0, .ref (ad 0)), (1, .int t)] := hl
  refine lv_aload_n hx hb dX5_fouling_0 rfl (lv_at hl 0 rfl) ?_
  refine lv_iload_n hx hb dX5_fouling_1 rfl (lv_at hl 1 rfl) ?_
  refine g_callVx B F P (As := [.int t]) (ct_X5_checkTrain (D := D) (ad := ad) (cy := cy) (ba := ba) l t σ hst) ok5 (by decide) rfl q493 q495 qs7 q1 q496 nk_X5_checkTrain rfl ⟨(Nat.le_of_ble_eq_true rfl), (Nat.le_of_ble_eq_true rfl)⟩ hl.1 rfl (Nat.le_of_ble_eq_true rfl) dX5_fouling_2 ⟨Nat.le_of_ble_eq_true rfl, Nat.le_of_ble_eq_true rfl⟩ (fun c2 ce q9 H locs P h1 h2 h3 => ?_) (fun c2 H locs P => ?_)
  · rw [if_neg c2] at hE
    exact g_out P c2 (by rw [← hE]) (by rw [← hE]) hT hlk (Nat.le_of_ble_eq_true rfl) (Nat.le_of_ble_eq_true rfl) h1 h2 h3
  rw [if_pos c2] at hE
  refine lv_aload_n hx hb dX5_fouling_5 rfl (lv_at hl 0 rfl) ?_
  refine g_getr (k := 1) (t := (sid 0)) B F P ok5 (by decide) rfl rfl rfl (by decide) rfl q239 dX5_fouling_6 ?_
  refine g_getr (k := 0) (t := (sid 0 + 1)) B F P ok4 (sid_lt0 (by decide)) (kd_s0 0) rfl rfl (by decide) (tg_s 0 0) q89 dX5_fouling_9 ?_
  refine lv_iload_n hx hb dX5_fouling_12 rfl (lv_at hl 1 rfl) ?_
  refine g_ild B F P (sid_lt (by decide) (by decide)) (kd_sc 0 1 (by decide) (by decide)) (ln_sc 0 1 (by decide)) (trn_in hC c2) dX5_fouling_13 ?_
  exact g_retix B P (by rw [← hE]) (by rw [← hE]) (by rw [← hE]) hrt hlk (Nat.le_of_ble_eq_true rfl) (Nat.le_of_ble_eq_true rfl) dX5_fouling_14
def f_X5_wear (t : Int32) (σ : Sg) : Nat × Int32 × Sg := if (f_X5_checkTrain t σ) = 0 then (0, (rI σ (sid 0 + 2) t.toNatClampNeg), σ) else ((f_X5_checkTrain t σ), 0, σ)
set_option maxHeartbeats 4000000 in
set_option maxRecDepth 100000 in
theorem ct_X5_wear {D : va_G} {ad : Nat → Nat} {cy : Nat → ClassId} {ba : Nat} (l : Launch) (t : Int32) (σ : Sg) (hst : l.stackTraces = false) (hC : GC 99000 σ) : Cx D ad cy ba l 1 4 yX5_wear cX5_wear 2 (some .int) [.ref (ad 0), .int t] σ (f_X5_wear t σ).1 (some (.int (f_X5_wear t σ).2.1)) (f_X5_wear t σ).2.2 := by
  generalize hE : f_X5_wear t σ = Z
  dsimp only [f_X5_wear] at hE
  refine Cx.of (by decide +kernel) (Nat.le_of_ble_eq_true rfl) ?_
  intro p e s m below meth c ls B F P hrt hlk hT hl
  have hx := B.1
  have hb := B.2.1
  have hl : lv_has ls 2 [(0, .ref (ad 0)), (1, .int t)] := hl
  refine lv_aload_n hx hb dX5_wear_0 rfl (lv_at hl 0 rfl) ?_
  refine lv_iload_n hx hb dX5_wear_1 rfl (lv_at hl 1 rfl) ?_
  refine g_callVx B F P (As := [.int t]) (ct_X5_checkTrain (D := D) (ad := ad) (cy := cy) (ba := ba) l t σ hst) ok5 (by decide) rfl q493 q495 qs7 q1 q496 nk_X5_checkTrain rfl ⟨(Nat.le_of_ble_eq_true rfl), (Nat.le_of_ble_eq_true rfl)⟩ hl.1 rfl (Nat.le_of_ble_eq_true rfl) dX5_wear_2 ⟨Nat.le_of_ble_eq_true rfl, Nat.le_of_ble_eq_true rfl⟩ (fun c2 ce q9 H locs P h1 h2 h3 => ?_) (fun c2 H locs P => ?_)
  · rw [if_neg c2] at hE
    exact g_out P c2 (by rw [← hE]) (by rw [← hE]) hT hlk (Nat.le_of_ble_eq_true rfl) (Nat.le_of_ble_eq_true rfl) h1 h2 h3
  rw [if_pos c2] at hE
  refine lv_aload_n hx hb dX5_wear_5 rfl (lv_at hl 0 rfl) ?_
  refine g_getr (k := 1) (t := (sid 0)) B F P ok5 (by decide) rfl rfl rfl (by decide) rfl q239 dX5_wear_6 ?_
  refine g_getr (k := 1) (t := (sid 0 + 2)) B F P ok4 (sid_lt0 (by decide)) (kd_s0 0) rfl rfl (by decide) (tg_s 0 1) q91 dX5_wear_9 ?_
  refine lv_iload_n hx hb dX5_wear_12 rfl (lv_at hl 1 rfl) ?_
  refine g_ild B F P (sid_lt (by decide) (by decide)) (kd_sc 0 2 (by decide) (by decide)) (ln_sc 0 2 (by decide)) (trn_in hC c2) dX5_wear_13 ?_
  exact g_retix B P (by rw [← hE]) (by rw [← hE]) (by rw [← hE]) hrt hlk (Nat.le_of_ble_eq_true rfl) (Nat.le_of_ble_eq_true rfl) dX5_wear_14
def f_X5_cleaningLeft (t : Int32) (σ : Sg) : Nat × Int32 × Sg := if (f_X5_checkTrain t σ) = 0 then (0, (rI σ (sid 0 + 3) t.toNatClampNeg), σ) else ((f_X5_checkTrain t σ), 0, σ)
set_option maxHeartbeats 4000000 in
set_option maxRecDepth 100000 in
theorem ct_X5_cleaningLeft {D : va_G} {ad : Nat → Nat} {cy : Nat → ClassId} {ba : Nat} (l : Launch) (t : Int32) (σ : Sg) (hst : l.stackTraces = false) (hC : GC 99000 σ) : Cx D ad cy ba l 1 4 yX5_cleaningLeft cX5_cleaningLeft 2 (some .int) [.ref (ad 0), .int t] σ (f_X5_cleaningLeft t σ).1 (some (.int (f_X5_cleaningLeft t σ).2.1)) (f_X5_cleaningLeft t σ).2.2 := by
  generalize hE : f_X5_cleaningLeft t σ = Z
  dsimp only [f_X5_cleaningLeft] at hE
  refine Cx.of (by decide +kernel) (Nat.le_of_ble_eq_true rfl) ?_
  intro p e s m below meth c ls B F P hrt hlk hT hl
  have hx := B.1
  have hb := B.2.1
  have hl : lv_has ls 2 [(0, .ref (ad 0)), (1, .int t)] := hl
  refine lv_aload_n hx hb dX5_cleaningLeft_0 rfl (lv_at hl 0 rfl) ?_
  refine lv_iload_n hx hb dX5_cleaningLeft_1 rfl (lv_at hl 1 rfl) ?_
  refine g_callVx B F P (As := [.int t]) (ct_X5_checkTrain (D := D) (ad := ad) (cy := cy) (ba := ba) l t σ hst) ok5 (by decide) rfl q493 q495 qs7 q1 q496 nk_X5_checkTrain rfl ⟨(Nat.le_of_ble_eq_true rfl), (Nat.le_of_ble_eq_true rfl)⟩ hl.1 rfl (Nat.le_of_ble_eq_true rfl) dX5_cleaningLeft_2 ⟨Nat.le_of_ble_eq_true rfl, Nat.le_of_ble_eq_true rfl⟩ (fun c2 ce q9 H locs P h1 h2 h3 => ?_) (fun c2 H locs P => ?_)
  · rw [if_neg c2] at hE
    exact g_out P c2 (by rw [← hE]) (by rw [← hE]) hT hlk (Nat.le_of_ble_eq_true rfl) (Nat.le_of_ble_eq_true rfl) h1 h2 h3
  rw [if_pos c2] at hE
  refine lv_aload_n hx hb dX5_cleaningLeft_5 rfl (lv_at hl 0 rfl) ?_
  refine g_getr (k := 1) (t := (sid 0)) B F P ok5 (by decide) rfl rfl rfl (by decide) rfl q239 dX5_cleaningLeft_6 ?_
  refine g_getr (k := 2) (t := (sid 0 + 3)) B F P ok4 (sid_lt0 (by decide)) (kd_s0 0) rfl rfl (by decide) (tg_s 0 2) q93 dX5_cleaningLeft_9 ?_
  refine lv_iload_n hx hb dX5_cleaningLeft_12 rfl (lv_at hl 1 rfl) ?_
  refine g_ild B F P (sid_lt (by decide) (by decide)) (kd_sc 0 3 (by decide) (by decide)) (ln_sc 0 3 (by decide)) (trn_in hC c2) dX5_cleaningLeft_13 ?_
  exact g_retix B P (by rw [← hE]) (by rw [← hE]) (by rw [← hE]) hrt hlk (Nat.le_of_ble_eq_true rfl) (Nat.le_of_ble_eq_true rfl) dX5_cleaningLeft_14
def f_X5_productOf (t : Int32) (σ : Sg) : Nat × Int32 × Sg := if (f_X5_checkTrain t σ) = 0 then (if (f_X5_checkReady t σ) = 0 then (0, (f_X3_productAt t (rI σ (sid 0 + 1) t.toNatClampNeg) σ), σ) else ((f_X5_checkReady t σ), 0, σ)) else ((f_X5_checkTrain t σ), 0, σ)
set_option maxHeartbeats 4000000 in
set_option maxRecDepth 100000 in
theorem ct_X5_productOf {D : va_G} {ad : Nat → Nat} {cy : Nat → ClassId} {ba : Nat} (l : Launch) (t : Int32) (σ : Sg) (hst : l.stackTraces = false) (hC : GC 99000 σ) : Cx D ad cy ba l 1 4 yX5_productOf cX5_productOf 2 (some .int) [.ref (ad 0), .int t] σ (f_X5_productOf t σ).1 (some (.int (f_X5_productOf t σ).2.1)) (f_X5_productOf t σ).2.2 := by
  generalize hE : f_X5_productOf t σ = Z
  dsimp only [f_X5_productOf] at hE
  refine Cx.of (by decide +kernel) (Nat.le_of_ble_eq_true rfl) ?_
  intro p e s m below meth c ls B F P hrt hlk hT hl
  have hx := B.1
  have hb := B.2.1
  have hl : lv_has ls 2 [(0, .ref (ad 0)), (1, .int t)] := hl
  refine lv_aload_n hx hb dX5_productOf_0 rfl (lv_at hl 0 rfl) ?_
  refine lv_iload_n hx hb dX5_productOf_1 rfl (lv_at hl 1 rfl) ?_
  refine g_callVx B F P (As := [.int t]) (ct_X5_checkTrain (D := D) (ad := ad) (cy := cy) (ba := ba) l t σ hst) ok5 (by decide) rfl q493 q495 qs7 q1 q496 nk_X5_checkTrain rfl ⟨(Nat.le_of_ble_eq_true rfl), (Nat.le_of_ble_eq_true rfl)⟩ hl.1 rfl (Nat.le_of_ble_eq_true rfl) dX5_productOf_2 ⟨Nat.le_of_ble_eq_true rfl, Nat.le_of_ble_eq_true rfl⟩ (fun c2 ce q9 H locs P h1 h2 h3 => ?_) (fun c2 H locs P => ?_)
  · rw [if_neg c2] at hE
    exact g_out P c2 (by rw [← hE]) (by rw [← hE]) hT hlk (Nat.le_of_ble_eq_true rfl) (Nat.le_of_ble_eq_true rfl) h1 h2 h3
  rw [if_pos c2] at hE
  refine lv_aload_n hx hb dX5_productOf_5 rfl (lv_at hl 0 rfl) ?_
  refine lv_iload_n hx hb dX5_productOf_6 rfl (lv_at hl 1 rfl) ?_
  refine g_callVx B F P (As := [.int t]) (ct_X5_checkReady (D := D) (ad := ad) (cy := cy) (ba := ba) l t σ hst (trn_in hC c2)) ok5 (by decide) rfl q532 q534 qs8 q1 q535 nk_X5_checkReady rfl ⟨(Nat.le_of_ble_eq_true rfl), (Nat.le_of_ble_eq_true rfl)⟩ hl.1 rfl (Nat.le_of_ble_eq_true rfl) dX5_productOf_7 ⟨Nat.le_of_ble_eq_true rfl, Nat.le_of_ble_eq_true rfl⟩ (fun c7 ce q9 H locs P h1 h2 h3 => ?_) (fun c7 H locs P => ?_)
  · rw [if_neg c7] at hE
    exact g_out P c7 (by rw [← hE]) (by rw [← hE]) hT hlk (Nat.le_of_ble_eq_true rfl) (Nat.le_of_ble_eq_true rfl) h1 h2 h3
  rw [if_pos c7] at hE
  refine lv_aload_n hx hb dX5_productOf_10 rfl (lv_at hl 0 rfl) ?_
  refine g_getr (k := 0) (t := 1) B F P ok5 (by decide) rfl rfl rfl (by decide) rfl q238 dX5_productOf_11 ?_
  refine lv_iload_n hx hb dX5_productOf_14 rfl (lv_at hl 1 rfl) ?_
  refine lv_aload_n hx hb dX5_productOf_15 rfl (lv_at hl 0 rfl) ?_
  refine g_getr (k := 1) (t := (sid 0)) B F P ok5 (by decide) rfl rfl rfl (by decide) rfl q239 dX5_productOf_16 ?_
  refine g_getr (k := 0) (t := (sid 0 + 1)) B F P ok4 (sid_lt0 (by decide)) (kd_s0 0) rfl rfl (by decide) (tg_s 0 0) q89 dX5_productOf_19 ?_
  refine lv_iload_n hx hb dX5_productOf_22 rfl (lv_at hl 1 rfl) ?_
  refine g_ild B F P (sid_lt (by decide) (by decide)) (kd_sc 0 1 (by decide) (by decide)) (ln_sc 0 1 (by decide)) (trn_in hC c2) dX5_productOf_23 ?_
  refine g_callV B F P (As := [.int t, .int (rI σ (sid 0 + 1) t.toNatClampNeg)]) (ct_X3_productAt (D := D) (ad := ad) (cy := cy) (ba := ba) l t (rI σ (sid 0 + 1) t.toNatClampNeg) σ (trn_in hC c2)) ok3 (by decide) rfl q581 q294 q295 q2 q296 nk_X3_productAt rfl ⟨(Nat.le_of_ble_eq_true rfl), (Nat.le_of_ble_eq_true rfl)⟩ hl.1 rfl (Nat.le_of_ble_eq_true rfl) dX5_productOf_24 ⟨Nat.le_of_ble_eq_true rfl, Nat.le_of_ble_eq_true rfl⟩ (fun H locs P => ?_)
  exact g_retix B P (by rw [← hE]) (by rw [← hE]) (by rw [← hE]) hrt hlk (Nat.le_of_ble_eq_true rfl) (Nat.le_of_ble_eq_true rfl) dX5_productOf_27
def f_X5_energyOf (t : Int32) (σ : Sg) : Nat × Int32 × Sg := if (f_X5_checkTrain t σ) = 0 then (if (f_X5_checkReady t σ) = 0 then (0, (f_X3_energyFor t (f_X3_feedFor (f_X3_productAt t (rI σ (sid 0 + 1) t.toNatClampNeg) σ) σ) σ), σ) else ((f_X5_checkReady t σ), 0, σ)) else ((f_X5_checkTrain t σ), 0, σ)
set_option maxHeartbeats 4000000 in
set_option maxRecDepth 100000 in
theorem ct_X5_energyOf {D : va_G} {ad : Nat → Nat} {cy : Nat → ClassId} {ba : Nat} (l : Launch) (t : Int32) (σ : Sg) (hst : l.stackTraces = false) (hC : GC 99000 σ) : Cx D ad cy ba l 1 4 yX5_energyOf cX5_energyOf 3 (some .int) [.ref (ad 0), .int t] σ (f_X5_energyOf t σ).1 (some (.int (f_X5_energyOf t σ).2.1)) (f_X5_energyOf t σ).2.2 := by
  generalize hE : f_X5_energyOf t σ = Z
  dsimp only [f_X5_energyOf] at hE
  refine Cx.of (by decide +kernel) (Nat.le_of_ble_eq_true rfl) ?_
  intro p e s m below meth c ls B F P hrt hlk hT hl
  have hx := B.1
  have hb := B.2.1
  have hl : lv_has ls 3 [(0, .ref (ad 0)), (1, .int t)] := hl
  refine lv_aload_n hx hb dX5_energyOf_0 rfl (lv_at hl 0 rfl) ?_
  refine lv_iload_n hx hb dX5_energyOf_1 rfl (lv_at hl 1 rfl) ?_
  refine g_callVx B F P (As := [.int t]) (ct_X5_checkTrain (D := D) (ad := ad) (cy := cy) (ba := ba) l t σ hst) ok5 (by decide) rfl q493 q495 qs7 q1 q496 nk_X5_checkTrain rfl ⟨(Nat.le_of_ble_eq_true rfl), (Nat.le_of_ble_eq_true rfl)⟩ hl.1 rfl (Nat.le_of_ble_eq_true rfl) dX5_energyOf_2 ⟨Nat.le_of_ble_eq_true rfl, Nat.le_of_ble_eq_true rfl⟩ (fun c2 ce q9 H locs P h1 h2 h3 => ?_) (fun c2 H locs P => ?_)
  · rw [if_neg c2] at hE
    exact g_out P c2 (by rw [← hE]) (by rw [← hE]) hT hlk (Nat.le_of_ble_eq_true rfl) (Nat.le_of_ble_eq_true rfl) h1 h2 h3
  rw [if_pos c2] at hE
  refine lv_aload_n hx hb dX5_energyOf_5 rfl (lv_at hl 0 rfl) ?_
  refine lv_iload_n hx hb dX5_energyOf_6 rfl (lv_at hl 1 rfl) ?_
  refine g_callVx B F P (As := [.int t]) (ct_X5_checkReady (D := D) (ad := ad) (cy := cy) (ba := ba) l t σ hst (trn_in hC c2)) ok5 (by decide) rfl q532 q534 qs8 q1 q535 nk_X5_checkReady rfl ⟨(Nat.le_of_ble_eq_true rfl), (Nat.le_of_ble_eq_true rfl)⟩ hl.1 rfl (Nat.le_of_ble_eq_true rfl) dX5_energyOf_7 ⟨Nat.le_of_ble_eq_true rfl, Nat.le_of_ble_eq_true rfl⟩ (fun c7 ce q9 H locs P h1 h2 h3 => ?_) (fun c7 H locs P => ?_)
  · rw [if_neg c7] at hE
    exact g_out P c7 (by rw [← hE]) (by rw [← hE]) hT hlk (Nat.le_of_ble_eq_true rfl) (Nat.le_of_ble_eq_true rfl) h1 h2 h3
  rw [if_pos c7] at hE
  refine lv_aload_n hx hb dX5_energyOf_10 rfl (lv_at hl 0 rfl) ?_
  refine g_getr (k := 0) (t := 1) B F P ok5 (by decide) rfl rfl rfl (by decide) rfl q238 dX5_energyOf_11 ?_
  refine lv_iload_n hx hb dX5_energyOf_14 rfl (lv_at hl 1 rfl) ?_
  refine lv_aload_n hx hb dX5_energyOf_15 rfl (lv_at hl 0 rfl) ?_
  refine g_getr (k := 1) (t := (sid 0)) B F P ok5 (by decide) rfl rfl rfl (by decide) rfl q239 dX5_energyOf_16 ?_
  refine g_getr (k := 0) (t := (sid 0 + 1)) B F P ok4 (sid_lt0 (by decide)) (kd_s0 0) rfl rfl (by decide) (tg_s 0 0) q89 dX5_energyOf_19 ?_
  refine lv_iload_n hx hb dX5_energyOf_22 rfl (lv_at hl 1 rfl) ?_
  refine g_ild B F P (sid_lt (by decide) (by decide)) (kd_sc 0 1 (by decide) (by decide)) (ln_sc 0 1 (by decide)) (trn_in hC c2) dX5_energyOf_23 ?_
  refine g_callV B F P (As := [.int t, .int (rI σ (sid 0 + 1) t.toNatClampNeg)]) (ct_X3_productAt (D := D) (ad := ad) (cy := cy) (ba := ba) l t (rI σ (sid 0 + 1) t.toNatClampNeg) σ (trn_in hC c2)) ok3 (by decide) rfl q581 q294 q295 q2 q296 nk_X3_productAt rfl ⟨(Nat.le_of_ble_eq_true rfl), (Nat.le_of_ble_eq_true rfl)⟩ hl.1 rfl (Nat.le_of_ble_eq_true rfl) dX5_energyOf_24 ⟨Nat.le_of_ble_eq_true rfl, Nat.le_of_ble_eq_true rfl⟩ (fun H locs P => ?_)
  refine lv_istore_n (lv' := [(2, .int (f_X3_productAt t (rI σ (sid 0 + 1) t.toNatClampNeg) σ)), (0, .ref (ad 0)), (1, .int t)]) hx hb dX5_energyOf_27 rfl hl (by decide) rfl (fun ls hl => ?_)
  refine lv_aload_n hx hb dX5_energyOf_28 rfl (lv_at hl 1 rfl) ?_
  refine g_getr (k := 0) (t := 1) B F P ok5 (by decide) rfl rfl rfl (by decide) rfl q238 dX5_energyOf_29 ?_
  refine lv_iload_n hx hb dX5_energyOf_32 rfl (lv_at hl 2 rfl) ?_
  refine lv_aload_n hx hb dX5_energyOf_33 rfl (lv_at hl 1 rfl) ?_
  refine g_getr (k := 0) (t := 1) B F P ok5 (by decide) rfl rfl rfl (by decide) rfl q238 dX5_energyOf_34 ?_
  refine lv_iload_n hx hb dX5_energyOf_37 rfl (lv_at hl 0 rfl) ?_
  refine g_callV B F P (As := [.int (f_X3_productAt t (rI σ (sid 0 + 1) t.toNatClampNeg) σ)]) (ct_X3_feedFor (D := D) (ad := ad) (cy := cy) (ba := ba) l (f_X3_productAt t (rI σ (sid 0 + 1) t.toNatClampNeg) σ) σ ) ok3 (by decide) rfl q589 q298 q299 q2 q300 nk_X3_feedFor rfl ⟨(Nat.le_of_ble_eq_true rfl), (Nat.le_of_ble_eq_true rfl)⟩ hl.1 rfl (Nat.le_of_ble_eq_true rfl) dX5_energyOf_38 ⟨Nat.le_of_ble_eq_true rfl, Nat.le_of_ble_eq_true rfl⟩ (fun H locs P => ?_)
  refine g_callV B F P (As := [.int t, .int (f_X3_feedFor (f_X3_productAt t (rI σ (sid 0 + 1) t.toNatClampNeg) σ) σ)]) (ct_X3_energyFor (D := D) (ad := ad) (cy := cy) (ba := ba) l t (f_X3_feedFor (f_X3_productAt t (rI σ (sid 0 + 1) t.toNatClampNeg) σ) σ) σ (trn_in hC c2)) ok3 (by decide) rfl q590 q306 q307 q2 q308 nk_X3_energyFor rfl ⟨(Nat.le_of_ble_eq_true rfl), (Nat.le_of_ble_eq_true rfl)⟩ hl.1 rfl (Nat.le_of_ble_eq_true rfl) dX5_energyOf_41 ⟨Nat.le_of_ble_eq_true rfl, Nat.le_of_ble_eq_true rfl⟩ (fun H locs P => ?_)
  exact g_retix B P (by rw [← hE]) (by rw [← hE]) (by rw [← hE]) hrt hlk (Nat.le_of_ble_eq_true rfl) (Nat.le_of_ble_eq_true rfl) dX5_energyOf_44
def f_X5_readyTrains_l4  : Nat → Int32 → Int32 → Sg → Int32
  | 0, _, _, σ => 0
  | n4 + 1, x2_4, x1_4, σ => if (rI σ 1 5) ≤ x2_4 then x1_4 else (if (rI σ (sid 0 + 3) x2_4.toNatClampNeg) = 0 then (f_X5_readyTrains_l4  n4 (x2_4 + 1) (x1_4 + 1) σ) else (f_X5_readyTrains_l4  n4 (x2_4 + 1) x1_4 σ))
def f_X5_readyTrains  (σ : Sg) : Int32 := f_X5_readyTrains_l4  5 0 0 σ
set_option maxHeartbeats 4000000 in
set_option maxRecDepth 100000 in
theorem ct_X5_readyTrains {D : va_G} {ad : Nat → Nat} {cy : Nat → ClassId} {ba : Nat} (l : Launch)  (σ : Sg) (hC : GC 99000 σ) : Ct D ad cy ba l 0 yX5_readyTrains cX5_readyTrains 3 (some .int) [.ref (ad 0)] σ (some (.int (f_X5_readyTrains  σ))) σ := by
  generalize hE : f_X5_readyTrains  σ = Z
  dsimp only [f_X5_readyTrains] at hE
  refine Ct.of (by decide +kernel) (Nat.le_of_ble_eq_true rfl) ?_
  intro p e s m below meth c ls B F P hrt hlk hl
  have hx := B.1
  have hb := B.2.1
  have hl : lv_has ls 3 [(0, .ref (ad 0))] := hl
  refine lv_iconst (v := 0) hx hb dX5_readyTrains_0 (by decide) ?_
  refine lv_istore_n (lv' := [(1, .int 0), (0, .ref (ad 0))]) hx hb dX5_readyTrains_1 rfl hl (by decide) rfl (fun ls hl => ?_)
  refine lv_iconst (v := 0) hx hb dX5_readyTrains_2 (by decide) ?_
  refine lv_istore_n (lv' := [(2, .int 0), (1, .int 0), (0, .ref (ad 0))]) hx hb dX5_readyTrains_3 rfl hl (by decide) rfl (fun ls hl => ?_)
  have L4 : ∀ (n4 : Nat) (x2_4 : Int32) (x1_4 : Int32) , LI 4 n4 x2_4 → f_X5_readyTrains_l4  n4 x2_4 x1_4 σ = Z → ∀ (H : Heap) (locs : List Loc), Wo D ad cy ba s σ H locs → ∀ (ls : Array Slot), lv_has ls 3 [(2, .int x2_4), (1, .int x1_4), (0, .ref (ad 0))] → W p l e (rmK 0 0 0) s m ([.ref (ad 0)] : List Value).toArray below meth c H locs 0 0 (MQ below (Qe D ad cy ba (some (.int Z)) σ) ([.ref (ad 0)] : List Value).toArray s 0 0 (fun q => ba ≤ q)) (F0 m 4 ls []) := by
    clear hE P hl
    intro n4
    induction n4 with
    | zero => intro x2_4 x1_4 hI4 hE; exact absurd hI4 LI.zero
    | succ n4 ih4 =>
      intro x2_4 x1_4 hI4 hE H locs P ls hl
      dsimp only [f_X5_readyTrains_l4] at hE
      refine lv_iload_n hx hb dX5_readyTrains_4 rfl (lv_at hl 0 rfl) ?_
      refine lv_aload_n hx hb dX5_readyTrains_5 rfl (lv_at hl 2 rfl) ?_
      refine g_getr (k := 0) (t := 1) B F P ok5 (by decide) rfl rfl rfl (by decide) rfl q238 dX5_readyTrains_6 ?_
      refine g_geti (k := 5) B F P ok3 (by decide) rfl rfl rfl (by decide) q54 dX5_readyTrains_9 ?_
      refine lv_icmp_ge (tgt := 36) hx hb dX5_readyTrains_12 (by decide) (fun c12 => ?_) (fun c12 => ?_)
      · rw [if_pos c12] at hE
        refine lv_iload_n hx hb dX5_readyTrains_36 rfl (lv_at hl 1 rfl) ?_
        exact g_reti B P (by rw [← hE]) rfl hrt hlk dX5_readyTrains_37
      · rw [if_neg c12] at hE
        refine lv_aload_n hx hb dX5_readyTrains_15 rfl (lv_at hl 2 rfl) ?_
        refine g_getr (k := 1) (t := (sid 0)) B F P ok5 (by decide) rfl rfl rfl (by decide) rfl q239 dX5_readyTrains_16 ?_
        refine g_getr (k := 2) (t := (sid 0 + 3)) B F P ok4 (sid_lt0 (by decide)) (kd_s0 0) rfl rfl (by decide) (tg_s 0 2) q93 dX5_readyTrains_19 ?_
        refine lv_iload_n hx hb dX5_readyTrains_22 rfl (lv_at hl 0 rfl) ?_
        refine g_ild B F P (sid_lt (by decide) (by decide)) (kd_sc 0 3 (by decide) (by decide)) (ln_sc 0 3 (by decide)) (hI4.into c12 hC.1.1.1) dX5_readyTrains_23 ?_
        refine lv_if_ne (tgt := 30) hx hb dX5_readyTrains_24 (by decide) (fun c24 => ?_) (fun c24 => ?_)
        · rw [if_neg c24] at hE
          refine lv_iinc (v := (x2_4 + 1)) (lv' := [(2, .int (x2_4 + 1)), (1, .int x1_4), (0, .ref (ad 0))]) hx hb dX5_readyTrains_30 hl (k := 0) rfl (by first | rfl | decide) (by decide) rfl (fun ls hl => ?_)
          refine lv_goto (tgt := 4) hx hb dX5_readyTrains_33 (by decide) ?_
          exact ih4 (x2_4 + 1) x1_4  (hI4.next c12 hC.1.1.1) hE _ _ P _ (lv_sub hl [0, 1, 2] rfl)
        · rw [if_pos c24] at hE
          refine lv_iinc (v := (x1_4 + 1)) (lv' := [(1, .int (x1_4 + 1)), (2, .int x2_4), (0, .ref (ad 0))]) hx hb dX5_readyTrains_27 hl (k := 1) rfl (by first | rfl | decide) (by decide) rfl (fun ls hl => ?_)
          refine lv_iinc (v := (x2_4 + 1)) (lv' := [(2, .int (x2_4 + 1)), (1, .int (x1_4 + 1)), (0, .ref (ad 0))]) hx hb dX5_readyTrains_30 hl (k := 1) rfl (by first | rfl | decide) (by decide) rfl (fun ls hl => ?_)
          refine lv_goto (tgt := 4) hx hb dX5_readyTrains_33 (by decide) ?_
          exact ih4 (x2_4 + 1) (x1_4 + 1)  (hI4.next c12 hC.1.1.1) hE _ _ P _ (lv_sub hl [0, 1, 2] rfl)
  exact L4 5 0 0  LI.start hE _ _ P _ (lv_sub hl [0, 1, 2] rfl)
def f_X5_addTank (a : Int32) (σ : Sg) : Nat × Int32 × Sg := if (f_X5_checkRange a 1 2000 σ) = 0 then (if (rI σ 1 6) < 3 then (0, (rI σ 1 6), (sI (sI σ 4 (rI σ 1 6).toNatClampNeg a) 1 6 ((rI σ 1 6) + 1))) else (2, 0, σ)) else ((f_X5_checkRange a 1 2000 σ), 0, σ)
set_option maxHeartbeats 4000000 in
set_option maxRecDepth 100000 in
theorem ct_X5_addTank {D : va_G} {ad : Nat → Nat} {cy : Nat → ClassId} {ba : Nat} (l : Launch) (a : Int32) (σ : Sg) (hst : l.stackTraces = false) (hC : GC 99000 σ) : Cx D ad cy ba l 1 4 yX5_addTank cX5_addTank 3 (some .int) [.ref (ad 0), .int a] σ (f_X5_addTank a σ).1 (some (.int (f_X5_addTank a σ).2.1)) (f_X5_addTank a σ).2.2 := by
  generalize hE : f_X5_addTank a σ = Z
  dsimp only [f_X5_addTank] at hE
  refine Cx.of (by decide +kernel) (Nat.le_of_ble_eq_true rfl) ?_
  intro p e s m below meth c ls B F P hrt hlk hT hl
  have hx := B.1
  have hb := B.2.1
  have hl : lv_has ls 3 [(0, .ref (ad 0)), (1, .int a)] := hl
  refine lv_iload_n hx hb dX5_addTank_0 rfl (lv_at hl 1 rfl) ?_
  refine lv_iconst (v := 1) hx hb dX5_addTank_1 (by decide) ?_
  refine lv_sipush (v := 2000) hx hb dX5_addTank_2 (by decide) ?_
  refine g_callSx B F P (As := [.int a, .int 1, .int 2000]) (ct_X5_checkRange (D := D) (ad := ad) (cy := cy) (ba := ba) l a 1 2000 σ hst) q371 q372 q1 q373 nk_X5_checkRange rfl ⟨(Nat.le_of_ble_eq_true rfl), (Nat.le_of_ble_eq_true rfl)⟩ hl.1 rfl (Nat.le_of_ble_eq_true rfl) dX5_addTank_5 ⟨Nat.le_of_ble_eq_true rfl, Nat.le_of_ble_eq_true rfl⟩ (fun c5 ce q9 H locs P h1 h2 h3 => ?_) (fun c5 H locs P => ?_)
  · rw [if_neg c5] at hE
    exact g_out P c5 (by rw [← hE]) (by rw [← hE]) hT hlk (Nat.le_of_ble_eq_true rfl) (Nat.le_of_ble_eq_true rfl) h1 h2 h3
  rw [if_pos c5] at hE
  refine lv_aload_n hx hb dX5_addTank_8 rfl (lv_at hl 0 rfl) ?_
  refine g_getr (k := 0) (t := 1) B F P ok5 (by decide) rfl rfl rfl (by decide) rfl q238 dX5_addTank_9 ?_
  refine g_geti (k := 6) B F P ok3 (by decide) rfl rfl rfl (by decide) q57 dX5_addTank_12 ?_
  refine lv_iconst (v := 3) hx hb dX5_addTank_15 (by decide) ?_
  refine lv_icmp_lt (tgt := 29) hx hb dX5_addTank_16 (by decide) (fun c16 => ?_) (fun c16 => ?_)
  · rw [if_pos c16] at hE
    refine lv_aload_n hx hb dX5_addTank_29 rfl (lv_at hl 0 rfl) ?_
    refine g_getr (k := 0) (t := 1) B F P ok5 (by decide) rfl rfl rfl (by decide) rfl q238 dX5_addTank_30 ?_
    refine g_geti (k := 6) B F P ok3 (by decide) rfl rfl rfl (by decide) q57 dX5_addTank_33 ?_
    refine lv_istore_n (lv' := [(2, .int (rI σ 1 6)), (0, .ref (ad 0)), (1, .int a)]) hx hb dX5_addTank_36 rfl hl (by decide) rfl (fun ls hl => ?_)
    refine lv_aload_n hx hb dX5_addTank_37 rfl (lv_at hl 1 rfl) ?_
    refine g_getr (k := 0) (t := 1) B F P ok5 (by decide) rfl rfl rfl (by decide) rfl q238 dX5_addTank_38 ?_
    refine g_getr (k := 2) (t := 4) B F P ok3 (by decide) rfl rfl rfl (by decide) rfl q47 dX5_addTank_41 ?_
    refine lv_iload_n hx hb dX5_addTank_44 rfl (lv_at hl 0 rfl) ?_
    refine lv_iload_n hx hb dX5_addTank_45 rfl (lv_at hl 2 rfl) ?_
    refine g_ist B F P (by decide) rfl rfl (tks_in hC c16) dX5_addTank_46 (fun H locs P => ?_)
    refine lv_aload_n hx hb dX5_addTank_47 rfl (lv_at hl 1 rfl) ?_
    refine g_getr (k := 0) (t := 1) B F P ok5 (by decide) rfl rfl rfl (by decide) rfl q238 dX5_addTank_48 ?_
    refine lv_iload_n hx hb dX5_addTank_51 rfl (lv_at hl 0 rfl) ?_
    refine lv_iconst (v := 1) hx hb dX5_addTank_52 (by decide) ?_
    refine lv_iadd hx hb dX5_addTank_53 ?_
    refine g_puti (k := 6) B F P ok3 (by decide) rfl rfl rfl (by decide) rfl (tyX3_ok 6 (by decide)) q57 dX5_addTank_54 (fun H locs P => ?_)
    refine lv_iload_n hx hb dX5_addTank_57 rfl (lv_at hl 0 rfl) ?_
    exact g_retix B P (by rw [← hE]) (by rw [← hE]) (by rw [← hE]) hrt hlk (Nat.le_of_ble_eq_true rfl) (Nat.le_of_ble_eq_true rfl) dX5_addTank_58
  · rw [if_neg c16] at hE
    exact g_throw2 B F P hst (is := 122) (text := "there are 3 tanks") (by decide) (by rw [← hE]) (by rw [← hE]) hl.1 hlk hT dX5_addTank_19 dX5_addTank_22 dX5_addTank_23 dX5_addTank_25 dX5_addTank_28 (Nat.le_of_ble_eq_true rfl) (Nat.le_of_ble_eq_true rfl) (Nat.le_of_ble_eq_true rfl) (Nat.le_of_ble_eq_true rfl) (Nat.le_of_ble_eq_true rfl) (Nat.le_of_ble_eq_true rfl)
def f_X5_fillSlots_l6 (a : Nat) (fi : Int32) (la : Int32) (v : Int32) : Nat → Int32 → Int32 → Sg → Int32 × Sg
  | 0, _, _, σ6 => (0, σ6)
  | n6 + 1, x5_6, x4_6, σ6 => if 48 ≤ x5_6 then (x4_6, σ6) else (if x5_6 < fi then (f_X5_fillSlots_l6 a fi la v n6 (x5_6 + 1) (x4_6 + (rI σ6 a x5_6.toNatClampNeg)) σ6) else (if la < x5_6 then (f_X5_fillSlots_l6 a fi la v n6 (x5_6 + 1) (x4_6 + (rI σ6 a x5_6.toNatClampNeg)) σ6) else (f_X5_fillSlots_l6 a fi la v n6 (x5_6 + 1) (x4_6 + (rI (sI σ6 a x5_6.toNatClampNeg v) a x5_6.toNatClampNeg)) (sI σ6 a x5_6.toNatClampNeg v))))
def f_X5_fillSlots (a : Nat) (fi : Int32) (la : Int32) (v : Int32) (σ : Sg) : Int32 × Sg := f_X5_fillSlots_l6 a fi la v 49 0 0 σ
set_option maxHeartbeats 4000000 in
set_option maxRecDepth 100000 in
theorem ct_X5_fillSlots {D : va_G} {ad : Nat → Nat} {cy : Nat → ClassId} {ba : Nat} (l : Launch) (a : Nat) (fi : Int32) (la : Int32) (v : Int32) (σ : Sg) (ha1 : a < 81) (ha2 : kd a = 7) (ha3 : ln a = 48) : Ct D ad cy ba l 0 yX5_fillSlots cX5_fillSlots 6 (some .int) [.ref (ad a), .int fi, .int la, .int v] σ (some (.int (f_X5_fillSlots a fi la v σ).1)) (f_X5_fillSlots a fi la v σ).2 := by
  generalize hE : f_X5_fillSlots a fi la v σ = Z
  dsimp only [f_X5_fillSlots] at hE
  refine Ct.of (by decide +kernel) (Nat.le_of_ble_eq_true rfl) ?_
  intro p e s m below meth c ls B F P hrt hlk hl
  have hx := B.1
  have hb := B.2.1
  have hl : lv_has ls 6 [(0, .ref (ad a)), (1, .int fi), (2, .int la), (3, .int v)] := hl
  refine lv_iconst (v := 0) hx hb dX5_fillSlots_0 (by decide) ?_
  refine lv_istore (lv' := [(4, .int 0), (0, .ref (ad a)), (1, .int fi), (2, .int la), (3, .int v)]) hx hb dX5_fillSlots_1 hl (by decide) rfl (fun ls hl => ?_)
  refine lv_iconst (v := 0) hx hb dX5_fillSlots_3 (by decide) ?_
  refine lv_istore (lv' := [(5, .int 0), (4, .int 0), (0, .ref (ad a)), (1, .int fi), (2, .int la), (3, .int v)]) hx hb dX5_fillSlots_4 hl (by decide) rfl (fun ls hl => ?_)
  have L6 : ∀ (n6 : Nat) (x5_6 : Int32) (x4_6 : Int32) (σ6 : Sg), LI 48 n6 x5_6 → f_X5_fillSlots_l6 a fi la v n6 x5_6 x4_6 σ6 = Z → ∀ (H : Heap) (locs : List Loc), Wo D ad cy ba s σ6 H locs → ∀ (ls : Array Slot), lv_has ls 6 [(5, .int x5_6), (4, .int x4_6), (0, .ref (ad a)), (1, .int fi), (2, .int la), (3, .int v)] → W p l e (rmK 0 0 0) s m ([.ref (ad a), .int fi, .int la, .int v] : List Value).toArray below meth c H locs 0 0 (MQ below (Qe D ad cy ba (some (.int Z.1)) Z.2) ([.ref (ad a), .int fi, .int la, .int v] : List Value).toArray s 0 0 (fun q => ba ≤ q)) (F0 m 6 ls []) := by
    clear hE P hl
    intro n6
    induction n6 with
    | zero => intro x5_6 x4_6 σ6 hI6 hE; exact absurd hI6 LI.zero
    | succ n6 ih6 =>
      intro x5_6 x4_6 σ6 hI6 hE H locs P ls hl
      dsimp only [f_X5_fillSlots_l6] at hE
      refine lv_iload hx hb dX5_fillSlots_6 (lv_at hl 0 rfl) ?_
      refine lv_aload_n hx hb dX5_fillSlots_8 rfl (lv_at hl 2 rfl) ?_
      refine g_alen (v := 48) B F P ha1 ha2 ha3 rfl dX5_fillSlots_9 ?_
      refine lv_icmp_ge (tgt := 45) hx hb dX5_fillSlots_10 (by decide) (fun c10 => ?_) (fun c10 => ?_)
      · rw [if_pos c10] at hE
        refine lv_iload hx hb dX5_fillSlots_45 (lv_at hl 1 rfl) ?_
        exact g_reti B P (by rw [← hE]) (by rw [← hE]) hrt hlk dX5_fillSlots_47
      · rw [if_neg c10] at hE
        refine lv_iload hx hb dX5_fillSlots_13 (lv_at hl 0 rfl) ?_
        refine lv_iload_n hx hb dX5_fillSlots_15 rfl (lv_at hl 3 rfl) ?_
        refine lv_icmp_lt (tgt := 30) hx hb dX5_fillSlots_16 (by decide) (fun c16 => ?_) (fun c16 => ?_)
        · rw [if_pos c16] at hE
          refine lv_iload hx hb dX5_fillSlots_30 (lv_at hl 1 rfl) ?_
          refine lv_aload_n hx hb dX5_fillSlots_32 rfl (lv_at hl 2 rfl) ?_
          refine lv_iload hx hb dX5_fillSlots_33 (lv_at hl 0 rfl) ?_
          refine g_ild B F P ha1 ha2 ha3 (hI6.into c10 (by decide)) dX5_fillSlots_35 ?_
          refine lv_iadd hx hb dX5_fillSlots_36 ?_
          refine lv_istore (lv' := [(4, .int (x4_6 + (rI σ6 a x5_6.toNatClampNeg))), (5, .int x5_6), (0, .ref (ad a)), (1, .int fi), (2, .int la), (3, .int v)]) hx hb dX5_fillSlots_37 hl (by decide) rfl (fun ls hl => ?_)
          refine lv_iinc (v := (x5_6 + 1)) (lv' := [(5, .int (x5_6 + 1)), (4, .int (x4_6 + (rI σ6 a x5_6.toNatClampNeg))), (0, .ref (ad a)), (1, .int fi), (2, .int la), (3, .int v)]) hx hb dX5_fillSlots_39 hl (k := 1) rfl (by first | rfl | decide) (by decide) rfl (fun ls hl => ?_)
          refine lv_goto (tgt := 6) hx hb dX5_fillSlots_42 (by decide) ?_
          exact ih6 (x5_6 + 1) (x4_6 + (rI σ6 a x5_6.toNatClampNeg)) σ6 (hI6.next c10 (by decide)) hE _ _ P _ (lv_sub hl [0, 1, 2, 3, 4, 5] rfl)
        · rw [if_neg c16] at hE
          refine lv_iload hx hb dX5_fillSlots_19 (lv_at hl 0 rfl) ?_
          refine lv_iload_n hx hb dX5_fillSlots_21 rfl (lv_at hl 4 rfl) ?_
          refine lv_icmp_gt (tgt := 30) hx hb dX5_fillSlots_22 (by decide) (fun c22 => ?_) (fun c22 => ?_)
          · rw [if_pos c22] at hE
            refine lv_iload hx hb dX5_fillSlots_30 (lv_at hl 1 rfl) ?_
            refine lv_aload_n hx hb dX5_fillSlots_32 rfl (lv_at hl 2 rfl) ?_
            refine lv_iload hx hb dX5_fillSlots_33 (lv_at hl 0 rfl) ?_
            refine g_ild B F P ha1 ha2 ha3 (hI6.into c10 (by decide)) dX5_fillSlots_35 ?_
            refine lv_iadd hx hb dX5_fillSlots_36 ?_
            refine lv_istore (lv' := [(4, .int (x4_6 + (rI σ6 a x5_6.toNatClampNeg))), (5, .int x5_6), (0, .ref (ad a)), (1, .int fi), (2, .int la), (3, .int v)]) hx hb dX5_fillSlots_37 hl (by decide) rfl (fun ls hl => ?_)
            refine lv_iinc (v := (x5_6 + 1)) (lv' := [(5, .int (x5_6 + 1)), (4, .int (x4_6 + (rI σ6 a x5_6.toNatClampNeg))), (0, .ref (ad a)), (1, .int fi), (2, .int la), (3, .int v)]) hx hb dX5_fillSlots_39 hl (k := 1) rfl (by first | rfl | decide) (by decide) rfl (fun ls hl => ?_)
            refine lv_goto (tgt := 6) hx hb dX5_fillSlots_42 (by decide) ?_
            exact ih6 (x5_6 + 1) (x4_6 + (rI σ6 a x5_6.toNatClampNeg)) σ6 (hI6.next c10 (by decide)) hE _ _ P _ (lv_sub hl [0, 1, 2, 3, 4, 5] rfl)
          · rw [if_neg c22] at hE
            refine lv_aload_n hx hb dX5_fillSlots_25 rfl (lv_at hl 2 rfl) ?_
            refine lv_iload hx hb dX5_fillSlots_26 (lv_at hl 0 rfl) ?_
            refine lv_iload_n hx hb dX5_fillSlots_28 rfl (lv_at hl 5 rfl) ?_
            refine g_ist B F P ha1 ha2 ha3 (hI6.into c10 (by decide)) dX5_fillSlots_29 (fun H locs P => ?_)
            refine lv_iload hx hb dX5_fillSlots_30 (lv_at hl 1 rfl) ?_
            refine lv_aload_n hx hb dX5_fillSlots_32 rfl (lv_at hl 2 rfl) ?_
            refine lv_iload hx hb dX5_fillSlots_33 (lv_at hl 0 rfl) ?_
            refine g_ild B F P ha1 ha2 ha3 (hI6.into c10 (by decide)) dX5_fillSlots_35 ?_
            refine lv_iadd hx hb dX5_fillSlots_36 ?_
            refine lv_istore (lv' := [(4, .int (x4_6 + (rI (sI σ6 a x5_6.toNatClampNeg v) a x5_6.toNatClampNeg))), (5, .int x5_6), (0, .ref (ad a)), (1, .int fi), (2, .int la), (3, .int v)]) hx hb dX5_fillSlots_37 hl (by decide) rfl (fun ls hl => ?_)
            refine lv_iinc (v := (x5_6 + 1)) (lv' := [(5, .int (x5_6 + 1)), (4, .int (x4_6 + (rI (sI σ6 a x5_6.toNatClampNeg v) a x5_6.toNatClampNeg))), (0, .ref (ad a)), (1, .int fi), (2, .int la), (3, .int v)]) hx hb dX5_fillSlots_39 hl (k := 1) rfl (by first | rfl | decide) (by decide) rfl (fun ls hl => ?_)
            refine lv_goto (tgt := 6) hx hb dX5_fillSlots_42 (by decide) ?_
            exact ih6 (x5_6 + 1) (x4_6 + (rI (sI σ6 a x5_6.toNatClampNeg v) a x5_6.toNatClampNeg)) (sI σ6 a x5_6.toNatClampNeg v) (hI6.next c10 (by decide)) hE _ _ P _ (lv_sub hl [0, 1, 2, 3, 4, 5] rfl)
  exact L6 49 0 0 σ LI.start hE _ _ P _ (lv_sub hl [0, 1, 2, 3, 4, 5] rfl)
theorem nk_X5_checkTank : nmOk yX5_checkTank RX5 1 := ⟨rfl, by decide +kernel, by decide +kernel, by decide +kernel⟩
theorem nk_X5_checkSlots : nmOk yX5_checkSlots RX5 2 := ⟨rfl, by decide +kernel, by decide +kernel, by decide +kernel⟩
theorem nk_X5_fillSlots : nmOk yX5_fillSlots RX5 4 := ⟨rfl, by decide +kernel, by decide +kernel, by decide +kernel⟩
def f_X5_setDemand (t : Int32) (fi : Int32) (la : Int32) (v : Int32) (σ : Sg) : Nat × Int32 × Sg := if (f_X5_checkTank t σ) = 0 then (if (f_X5_checkSlots fi la σ) = 0 then (if (f_X5_checkRange v 0 200 σ) = 0 then (0, (f_X5_fillSlots (6 + t.toNatClampNeg) fi la v σ).1, (f_X5_fillSlots (6 + t.toNatClampNeg) fi la v σ).2) else ((f_X5_checkRange v 0 200 σ), 0, σ)) else ((f_X5_checkSlots fi la σ), 0, σ)) else ((f_X5_checkTank t σ), 0, σ)
set_option maxHeartbeats 4000000 in
set_option maxRecDepth 100000 in
theorem ct_X5_setDemand {D : va_G} {ad : Nat → Nat} {cy : Nat → ClassId} {ba : Nat} (l : Launch) (t : Int32) (fi : Int32) (la : Int32) (v : Int32) (σ : Sg) (hst : l.stackTraces = false) (hC : GC 99000 σ) : Cx D ad cy ba l 2 4 yX5_setDemand cX5_setDemand 5 (some .int) [.ref (ad 0), .int t, .int fi, .int la, .int v] σ (f_X5_setDemand t fi la v σ).1 (some (.int (f_X5_setDemand t fi la v σ).2.1)) (f_X5_setDemand t fi la v σ).2.2 := by
  generalize hE : f_X5_setDemand t fi la v σ = Z
  dsimp only [f_X5_setDemand] at hE
  refine Cx.of (by decide +kernel) (Nat.le_of_ble_eq_true rfl) ?_
  intro p e s m below meth c ls B F P hrt hlk hT hl
  have hx := B.1
  have hb := B.2.1
  have hl : lv_has ls 5 [(0, .ref (ad 0)), (1, .int t), (2, .int fi), (3, .int la), (4, .int v)] := hl
  refine lv_aload_n hx hb dX5_setDemand_0 rfl (lv_at hl 0 rfl) ?_
  refine lv_iload_n hx hb dX5_setDemand_1 rfl (lv_at hl 1 rfl) ?_
  refine g_callVx B F P (As := [.int t]) (ct_X5_checkTank (D := D) (ad := ad) (cy := cy) (ba := ba) l t σ hst) ok5 (by decide) rfl q606 q608 qs9 q1 q609 nk_X5_checkTank rfl ⟨(Nat.le_of_ble_eq_true rfl), (Nat.le_of_ble_eq_true rfl)⟩ hl.1 rfl (Nat.le_of_ble_eq_true rfl) dX5_setDemand_2 ⟨Nat.le_of_ble_eq_true rfl, Nat.le_of_ble_eq_true rfl⟩ (fun c2 ce q9 H locs P h1 h2 h3 => ?_) (fun c2 H locs P => ?_)
  · rw [if_neg c2] at hE
    exact g_out P c2 (by rw [← hE]) (by rw [← hE]) hT hlk (Nat.le_of_ble_eq_true rfl) (Nat.le_of_ble_eq_true rfl) h1 h2 h3
  rw [if_pos c2] at hE
  refine lv_iload_n hx hb dX5_setDemand_5 rfl (lv_at hl 2 rfl) ?_
  refine lv_iload_n hx hb dX5_setDemand_6 rfl (lv_at hl 3 rfl) ?_
  refine g_callSx B F P (As := [.int fi, .int la]) (ct_X5_checkSlots (D := D) (ad := ad) (cy := cy) (ba := ba) l fi la σ hst) q611 q612 q1 q613 nk_X5_checkSlots rfl ⟨(Nat.le_of_ble_eq_true rfl), (Nat.le_of_ble_eq_true rfl)⟩ hl.1 rfl (Nat.le_of_ble_eq_true rfl) dX5_setDemand_7 ⟨Nat.le_of_ble_eq_true rfl, Nat.le_of_ble_eq_true rfl⟩ (fun c7 ce q9 H locs P h1 h2 h3 => ?_) (fun c7 H locs P => ?_)
  · rw [if_neg c7] at hE
    exact g_out P c7 (by rw [← hE]) (by rw [← hE]) hT hlk (Nat.le_of_ble_eq_true rfl) (Nat.le_of_ble_eq_true rfl) h1 h2 h3
  rw [if_pos c7] at hE
  refine lv_iload hx hb dX5_setDemand_10 (lv_at hl 4 rfl) ?_
  refine lv_iconst (v := 0) hx hb dX5_setDemand_12 (by decide) ?_
  refine lv_sipush (v := 200) hx hb dX5_setDemand_13 (by decide) ?_
  refine g_callSx B F P (As := [.int v, .int 0, .int 200]) (ct_X5_checkRange (D := D) (ad := ad) (cy := cy) (ba := ba) l v 0 200 σ hst) q371 q372 q1 q373 nk_X5_checkRange rfl ⟨(Nat.le_of_ble_eq_true rfl), (Nat.le_of_ble_eq_true rfl)⟩ hl.1 rfl (Nat.le_of_ble_eq_true rfl) dX5_setDemand_16 ⟨Nat.le_of_ble_eq_true rfl, Nat.le_of_ble_eq_true rfl⟩ (fun c16 ce q9 H locs P h1 h2 h3 => ?_) (fun c16 H locs P => ?_)
  · rw [if_neg c16] at hE
    exact g_out P c16 (by rw [← hE]) (by rw [← hE]) hT hlk (Nat.le_of_ble_eq_true rfl) (Nat.le_of_ble_eq_true rfl) h1 h2 h3
  rw [if_pos c16] at hE
  refine lv_aload_n hx hb dX5_setDemand_19 rfl (lv_at hl 0 rfl) ?_
  refine g_getr (k := 0) (t := 1) B F P ok5 (by decide) rfl rfl rfl (by decide) rfl q238 dX5_setDemand_20 ?_
  refine g_getr (k := 3) (t := 5) B F P ok3 (by decide) rfl rfl rfl (by decide) rfl q50 dX5_setDemand_23 ?_
  refine lv_iload_n hx hb dX5_setDemand_26 rfl (lv_at hl 1 rfl) ?_
  refine g_rld (t := (6 + t.toNatClampNeg)) B F P (by decide) rfl (by decide) rfl (tnk_in hC c2) rfl dX5_setDemand_27 ?_
  refine lv_iload_n hx hb dX5_setDemand_28 rfl (lv_at hl 2 rfl) ?_
  refine lv_iload_n hx hb dX5_setDemand_29 rfl (lv_at hl 3 rfl) ?_
  refine lv_iload hx hb dX5_setDemand_30 (lv_at hl 4 rfl) ?_
  refine g_callS B F P (As := [.ref (ad (6 + t.toNatClampNeg)), .int fi, .int la, .int v]) (ct_X5_fillSlots (D := D) (ad := ad) (cy := cy) (ba := ba) l (6 + t.toNatClampNeg) fi la v σ (dem_lt (tnk_in hC c2)) (dem_kd (tnk_in hC c2)) (dem_ln (tnk_in hC c2))) q614 q615 q1 q616 nk_X5_fillSlots rfl ⟨(Nat.le_of_ble_eq_true rfl), (Nat.le_of_ble_eq_true rfl)⟩ hl.1 rfl (Nat.le_of_ble_eq_true rfl) dX5_setDemand_32 ⟨Nat.le_of_ble_eq_true rfl, Nat.le_of_ble_eq_true rfl⟩ (fun H locs P => ?_)
  exact g_retix B P (by rw [← hE]) (by rw [← hE]) (by rw [← hE]) hrt hlk (Nat.le_of_ble_eq_true rfl) (Nat.le_of_ble_eq_true rfl) dX5_setDemand_35
def f_X5_setPrice (fi : Int32) (la : Int32) (v : Int32) (σ : Sg) : Nat × Int32 × Sg := if (f_X5_checkSlots fi la σ) = 0 then (if (f_X5_checkRange v 0 99 σ) = 0 then (0, (f_X5_fillSlots 9 fi la v σ).1, (f_X5_fillSlots 9 fi la v σ).2) else ((f_X5_checkRange v 0 99 σ), 0, σ)) else ((f_X5_checkSlots fi la σ), 0, σ)
set_option maxHeartbeats 4000000 in
set_option maxRecDepth 100000 in
theorem ct_X5_setPrice {D : va_G} {ad : Nat → Nat} {cy : Nat → ClassId} {ba : Nat} (l : Launch) (fi : Int32) (la : Int32) (v : Int32) (σ : Sg) (hst : l.stackTraces = false) : Cx D ad cy ba l 2 4 yX5_setPrice cX5_setPrice 4 (some .int) [.ref (ad 0), .int fi, .int la, .int v] σ (f_X5_setPrice fi la v σ).1 (some (.int (f_X5_setPrice fi la v σ).2.1)) (f_X5_setPrice fi la v σ).2.2 := by
  generalize hE : f_X5_setPrice fi la v σ = Z
  dsimp only [f_X5_setPrice] at hE
  refine Cx.of (by decide +kernel) (Nat.le_of_ble_eq_true rfl) ?_
  intro p e s m below meth c ls B F P hrt hlk hT hl
  have hx := B.1
  have hb := B.2.1
  have hl : lv_has ls 4 [(0, .ref (ad 0)), (1, .int fi), (2, .int la), (3, .int v)] := hl
  refine lv_iload_n hx hb dX5_setPrice_0 rfl (lv_at hl 1 rfl) ?_
  refine lv_iload_n hx hb dX5_setPrice_1 rfl (lv_at hl 2 rfl) ?_
  refine g_callSx B F P (As := [.int fi, .int la]) (ct_X5_checkSlots (D := D) (ad := ad) (cy := cy) (ba := ba) l fi la σ hst) q611 q612 q1 q613 nk_X5_checkSlots rfl ⟨(Nat.le_of_ble_eq_true rfl), (Nat.le_of_ble_eq_true rfl)⟩ hl.1 rfl (Nat.le_of_ble_eq_true rfl) dX5_setPrice_2 ⟨Nat.le_of_ble_eq_true rfl, Nat.le_of_ble_eq_true rfl⟩ (fun c2 ce q9 H locs P h1 h2 h3 => ?_) (fun c2 H locs P => ?_)
  · rw [if_neg c2] at hE
    exact g_out P c2 (by rw [← hE]) (by rw [← hE]) hT hlk (Nat.le_of_ble_eq_true rfl) (Nat.le_of_ble_eq_true rfl) h1 h2 h3
  rw [if_pos c2] at hE
  refine lv_iload_n hx hb dX5_setPrice_5 rfl (lv_at hl 3 rfl) ?_
  refine lv_iconst (v := 0) hx hb dX5_setPrice_6 (by decide) ?_
  refine lv_bipush (v := 99) hx hb dX5_setPrice_7 (by decide) ?_
  refine g_callSx B F P (As := [.int v, .int 0, .int 99]) (ct_X5_checkRange (D := D) (ad := ad) (cy := cy) (ba := ba) l v 0 99 σ hst) q371 q372 q1 q373 nk_X5_checkRange rfl ⟨(Nat.le_of_ble_eq_true rfl), (Nat.le_of_ble_eq_true rfl)⟩ hl.1 rfl (Nat.le_of_ble_eq_true rfl) dX5_setPrice_9 ⟨Nat.le_of_ble_eq_true rfl, Nat.le_of_ble_eq_true rfl⟩ (fun c9 ce q9 H locs P h1 h2 h3 => ?_) (fun c9 H locs P => ?_)
  · rw [if_neg c9] at hE
    exact g_out P c9 (by rw [← hE]) (by rw [← hE]) hT hlk (Nat.le_of_ble_eq_true rfl) (Nat.le_of_ble_eq_true rfl) h1 h2 h3
  rw [if_pos c9] at hE
  refine lv_aload_n hx hb dX5_setPrice_12 rfl (lv_at hl 0 rfl) ?_
  refine g_getr (k := 0) (t := 1) B F P ok5 (by decide) rfl rfl rfl (by decide) rfl q238 dX5_setPrice_13 ?_
  refine g_getr (k := 4) (t := 9) B F P ok3 (by decide) rfl rfl rfl (by decide) rfl q53 dX5_setPrice_16 ?_
  refine lv_iload_n hx hb dX5_setPrice_19 rfl (lv_at hl 1 rfl) ?_
  refine lv_iload_n hx hb dX5_setPrice_20 rfl (lv_at hl 2 rfl) ?_
  refine lv_iload_n hx hb dX5_setPrice_21 rfl (lv_at hl 3 rfl) ?_
  refine g_callS B F P (As := [.ref (ad 9), .int fi, .int la, .int v]) (ct_X5_fillSlots (D := D) (ad := ad) (cy := cy) (ba := ba) l 9 fi la v σ (by decide) rfl rfl) q614 q615 q1 q616 nk_X5_fillSlots rfl ⟨(Nat.le_of_ble_eq_true rfl), (Nat.le_of_ble_eq_true rfl)⟩ hl.1 rfl (Nat.le_of_ble_eq_true rfl) dX5_setPrice_22 ⟨Nat.le_of_ble_eq_true rfl, Nat.le_of_ble_eq_true rfl⟩ (fun H locs P => ?_)
  exact g_retix B P (by rw [← hE]) (by rw [← hE]) (by rw [← hE]) hrt hlk (Nat.le_of_ble_eq_true rfl) (Nat.le_of_ble_eq_true rfl) dX5_setPrice_25
def f_X5_demand (t : Int32) (sl : Int32) (σ : Sg) : Nat × Int32 × Sg := if (f_X5_checkTank t σ) = 0 then (if (f_X5_checkRange sl 0 47 σ) = 0 then (0, (rI σ (6 + t.toNatClampNeg) sl.toNatClampNeg), σ) else ((f_X5_checkRange sl 0 47 σ), 0, σ)) else ((f_X5_checkTank t σ), 0, σ)
set_option maxHeartbeats 4000000 in
set_option maxRecDepth 100000 in
theorem ct_X5_demand {D : va_G} {ad : Nat → Nat} {cy : Nat → ClassId} {ba : Nat} (l : Launch) (t : Int32) (sl : Int32) (σ : Sg) (hst : l.stackTraces = false) (hC : GC 99000 σ) : Cx D ad cy ba l 1 4 yX5_demand cX5_demand 3 (some .int) [.ref (ad 0), .int t, .int sl] σ (f_X5_demand t sl σ).1 (some (.int (f_X5_demand t sl σ).2.1)) (f_X5_demand t sl σ).2.2 := by
  generalize hE : f_X5_demand t sl σ = Z
  dsimp only [f_X5_demand] at hE
  refine Cx.of (by decide +kernel) (Nat.le_of_ble_eq_true rfl) ?_
  intro p e s m below meth c ls B F P hrt hlk hT hl
  have hx := B.1
  have hb := B.2.1
  have hl : lv_has ls 3 [(0, .ref (ad 0)), (1, .int t), (2, .int sl)] := hl
  refine lv_aload_n hx hb dX5_demand_0 rfl (lv_at hl 0 rfl) ?_
  refine lv_iload_n hx hb dX5_demand_1 rfl (lv_at hl 1 rfl) ?_
  refine g_callVx B F P (As := [.int t]) (ct_X5_checkTank (D := D) (ad := ad) (cy := cy) (ba := ba) l t σ hst) ok5 (by decide) rfl q606 q608 qs9 q1 q609 nk_X5_checkTank rfl ⟨(Nat.le_of_ble_eq_true rfl), (Nat.le_of_ble_eq_true rfl)⟩ hl.1 rfl (Nat.le_of_ble_eq_true rfl) dX5_demand_2 ⟨Nat.le_of_ble_eq_true rfl, Nat.le_of_ble_eq_true rfl⟩ (fun c2 ce q9 H locs P h1 h2 h3 => ?_) (fun c2 H locs P => ?_)
  · rw [if_neg c2] at hE
    exact g_out P c2 (by rw [← hE]) (by rw [← hE]) hT hlk (Nat.le_of_ble_eq_true rfl) (Nat.le_of_ble_eq_true rfl) h1 h2 h3
  rw [if_pos c2] at hE
  refine lv_iload_n hx hb dX5_demand_5 rfl (lv_at hl 2 rfl) ?_
  refine lv_iconst (v := 0) hx hb dX5_demand_6 (by decide) ?_
  refine lv_bipush (v := 47) hx hb dX5_demand_7 (by decide) ?_
  refine g_callSx B F P (As := [.int sl, .int 0, .int 47]) (ct_X5_checkRange (D := D) (ad := ad) (cy := cy) (ba := ba) l sl 0 47 σ hst) q371 q372 q1 q373 nk_X5_checkRange rfl ⟨(Nat.le_of_ble_eq_true rfl), (Nat.le_of_ble_eq_true rfl)⟩ hl.1 rfl (Nat.le_of_ble_eq_true rfl) dX5_demand_9 ⟨Nat.le_of_ble_eq_true rfl, Nat.le_of_ble_eq_true rfl⟩ (fun c9 ce q9 H locs P h1 h2 h3 => ?_) (fun c9 H locs P => ?_)
  · rw [if_neg c9] at hE
    exact g_out P c9 (by rw [← hE]) (by rw [← hE]) hT hlk (Nat.le_of_ble_eq_true rfl) (Nat.le_of_ble_eq_true rfl) h1 h2 h3
  rw [if_pos c9] at hE
  refine lv_aload_n hx hb dX5_demand_12 rfl (lv_at hl 0 rfl) ?_
  refine g_getr (k := 0) (t := 1) B F P ok5 (by decide) rfl rfl rfl (by decide) rfl q238 dX5_demand_13 ?_
  refine g_getr (k := 3) (t := 5) B F P ok3 (by decide) rfl rfl rfl (by decide) rfl q50 dX5_demand_16 ?_
  refine lv_iload_n hx hb dX5_demand_19 rfl (lv_at hl 1 rfl) ?_
  refine g_rld (t := (6 + t.toNatClampNeg)) B F P (by decide) rfl (by decide) rfl (tnk_in hC c2) rfl dX5_demand_20 ?_
  refine lv_iload_n hx hb dX5_demand_21 rfl (lv_at hl 2 rfl) ?_
  refine g_ild B F P (dem_lt (tnk_in hC c2)) (dem_kd (tnk_in hC c2)) (dem_ln (tnk_in hC c2)) (rng_in c9) dX5_demand_22 ?_
  exact g_retix B P (by rw [← hE]) (by rw [← hE]) (by rw [← hE]) hrt hlk (Nat.le_of_ble_eq_true rfl) (Nat.le_of_ble_eq_true rfl) dX5_demand_23
def f_X5_level (t : Int32) (σ : Sg) : Nat × Int32 × Sg := if (f_X5_checkTank t σ) = 0 then (0, (rI σ (sid 0 + 4) t.toNatClampNeg), σ) else ((f_X5_checkTank t σ), 0, σ)
set_option maxHeartbeats 4000000 in
set_option maxRecDepth 100000 in
theorem ct_X5_level {D : va_G} {ad : Nat → Nat} {cy : Nat → ClassId} {ba : Nat} (l : Launch) (t : Int32) (σ : Sg) (hst : l.stackTraces = false) (hC : GC 99000 σ) : Cx D ad cy ba l 1 4 yX5_level cX5_level 2 (some .int) [.ref (ad 0), .int t] σ (f_X5_level t σ).1 (some (.int (f_X5_level t σ).2.1)) (f_X5_level t σ).2.2 := by
  generalize hE : f_X5_level t σ = Z
  dsimp only [f_X5_level] at hE
  refine Cx.of (by decide +kernel) (Nat.le_of_ble_eq_true rfl) ?_
  intro p e s m below meth c ls B F P hrt hlk hT hl
  have hx := B.1
  have hb := B.2.1
  have hl : lv_has ls 2 [(0, .ref (ad 0)), (1, .int t)] := hl
  refine lv_aload_n hx hb dX5_level_0 rfl (lv_at hl 0 rfl) ?_
  refine lv_iload_n hx hb dX5_level_1 rfl (lv_at hl 1 rfl) ?_
  refine g_callVx B F P (As := [.int t]) (ct_X5_checkTank (D := D) (ad := ad) (cy := cy) (ba := ba) l t σ hst) ok5 (by decide) rfl q606 q608 qs9 q1 q609 nk_X5_checkTank rfl ⟨(Nat.le_of_ble_eq_true rfl), (Nat.le_of_ble_eq_true rfl)⟩ hl.1 rfl (Nat.le_of_ble_eq_true rfl) dX5_level_2 ⟨Nat.le_of_ble_eq_true rfl, Nat.le_of_ble_eq_true rfl⟩ (fun c2 ce q9 H locs P h1 h2 h3 => ?_) (fun c2 H locs P => ?_)
  · rw [if_neg c2] at hE
    exact g_out P c2 (by rw [← hE]) (by rw [← hE]) hT hlk (Nat.le_of_ble_eq_true rfl) (Nat.le_of_ble_eq_true rfl) h1 h2 h3
  rw [if_pos c2] at hE
  refine lv_aload_n hx hb dX5_level_5 rfl (lv_at hl 0 rfl) ?_
  refine g_getr (k := 1) (t := (sid 0)) B F P ok5 (by decide) rfl rfl rfl (by decide) rfl q239 dX5_level_6 ?_
  refine g_getr (k := 3) (t := (sid 0 + 4)) B F P ok4 (sid_lt0 (by decide)) (kd_s0 0) rfl rfl (by decide) (tg_s 0 3) q95 dX5_level_9 ?_
  refine lv_iload_n hx hb dX5_level_12 rfl (lv_at hl 1 rfl) ?_
  refine g_ild B F P (sid_lt (by decide) (by decide)) (kd_sc 0 4 (by decide) (by decide)) (ln_sc 0 4 (by decide)) (tnk_in hC c2) dX5_level_13 ?_
  exact g_retix B P (by rw [← hE]) (by rw [← hE]) (by rw [← hE]) hrt hlk (Nat.le_of_ble_eq_true rfl) (Nat.le_of_ble_eq_true rfl) dX5_level_14
def f_X5_shortOf (t : Int32) (σ : Sg) : Nat × Int32 × Sg := if (f_X5_checkTank t σ) = 0 then (0, (rI σ 18 t.toNatClampNeg), σ) else ((f_X5_checkTank t σ), 0, σ)
set_option maxHeartbeats 4000000 in
set_option maxRecDepth 100000 in
theorem ct_X5_shortOf {D : va_G} {ad : Nat → Nat} {cy : Nat → ClassId} {ba : Nat} (l : Launch) (t : Int32) (σ : Sg) (hst : l.stackTraces = false) (hC : GC 99000 σ) : Cx D ad cy ba l 1 4 yX5_shortOf cX5_shortOf 2 (some .int) [.ref (ad 0), .int t] σ (f_X5_shortOf t σ).1 (some (.int (f_X5_shortOf t σ).2.1)) (f_X5_shortOf t σ).2.2 := by
  generalize hE : f_X5_shortOf t σ = Z
  dsimp only [f_X5_shortOf] at hE
  refine Cx.of (by decide +kernel) (Nat.le_of_ble_eq_true rfl) ?_
  intro p e s m below meth c ls B F P hrt hlk hT hl
  have hx := B.1
  have hb := B.2.1
  have hl : lv_has ls 2 [(0, .ref (ad 0)), (1, .int t)] := hl
  refine lv_aload_n hx hb dX5_shortOf_0 rfl (lv_at hl 0 rfl) ?_
  refine lv_iload_n hx hb dX5_shortOf_1 rfl (lv_at hl 1 rfl) ?_
  refine g_callVx B F P (As := [.int t]) (ct_X5_checkTank (D := D) (ad := ad) (cy := cy) (ba := ba) l t σ hst) ok5 (by decide) rfl q606 q608 qs9 q1 q609 nk_X5_checkTank rfl ⟨(Nat.le_of_ble_eq_true rfl), (Nat.le_of_ble_eq_true rfl)⟩ hl.1 rfl (Nat.le_of_ble_eq_true rfl) dX5_shortOf_2 ⟨Nat.le_of_ble_eq_true rfl, Nat.le_of_ble_eq_true rfl⟩ (fun c2 ce q9 H locs P h1 h2 h3 => ?_) (fun c2 H locs P => ?_)
  · rw [if_neg c2] at hE
    exact g_out P c2 (by rw [← hE]) (by rw [← hE]) hT hlk (Nat.le_of_ble_eq_true rfl) (Nat.le_of_ble_eq_true rfl) h1 h2 h3
  rw [if_pos c2] at hE
  refine lv_aload_n hx hb dX5_shortOf_5 rfl (lv_at hl 0 rfl) ?_
  refine g_getr (k := 4) (t := 17) B F P ok5 (by decide) rfl rfl rfl (by decide) rfl q242 dX5_shortOf_6 ?_
  refine g_getr (k := 0) (t := 18) B F P ok0 (by decide) rfl rfl rfl (by decide) rfl q203 dX5_shortOf_9 ?_
  refine lv_iload_n hx hb dX5_shortOf_12 rfl (lv_at hl 1 rfl) ?_
  refine g_ild B F P (by decide) rfl rfl (tnk_in hC c2) dX5_shortOf_13 ?_
  exact g_retix B P (by rw [← hE]) (by rw [← hE]) (by rw [← hE]) hrt hlk (Nat.le_of_ble_eq_true rfl) (Nat.le_of_ble_eq_true rfl) dX5_shortOf_14
def f_X5_setHorizon (v : Int32) (σ : Sg) : Nat × Int32 × Sg := if (f_X5_checkRange v 1 6 σ) = 0 then (0, (rI σ 0 5), (sI σ 0 5 v)) else ((f_X5_checkRange v 1 6 σ), 0, σ)
set_option maxHeartbeats 4000000 in
set_option maxRecDepth 100000 in
theorem ct_X5_setHorizon {D : va_G} {ad : Nat → Nat} {cy : Nat → ClassId} {ba : Nat} (l : Launch) (v : Int32) (σ : Sg) (hst : l.stackTraces = false) : Cx D ad cy ba l 1 4 yX5_setHorizon cX5_setHorizon 3 (some .int) [.ref (ad 0), .int v] σ (f_X5_setHorizon v σ).1 (some (.int (f_X5_setHorizon v σ).2.1)) (f_X5_setHorizon v σ).2.2 := by
  generalize hE : f_X5_setHorizon v σ = Z
  dsimp only [f_X5_setHorizon] at hE
  refine Cx.of (by decide +kernel) (Nat.le_of_ble_eq_true rfl) ?_
  intro p e s m below meth c ls B F P hrt hlk hT hl
  have hx := B.1
  have hb := B.2.1
  have hl : lv_has ls 3 [(0, .ref (ad 0)), (1, .int v)] := hl
  refine lv_iload_n hx hb dX5_setHorizon_0 rfl (lv_at hl 1 rfl) ?_
  refine lv_iconst (v := 1) hx hb dX5_setHorizon_1 (by decide) ?_
  refine lv_bipush (v := 6) hx hb dX5_setHorizon_2 (by decide) ?_
  refine g_callSx B F P (As := [.int v, .int 1, .int 6]) (ct_X5_checkRange (D := D) (ad := ad) (cy := cy) (ba := ba) l v 1 6 σ hst) q371 q372 q1 q373 nk_X5_checkRange rfl ⟨(Nat.le_of_ble_eq_true rfl), (Nat.le_of_ble_eq_true rfl)⟩ hl.1 rfl (Nat.le_of_ble_eq_true rfl) dX5_setHorizon_4 ⟨Nat.le_of_ble_eq_true rfl, Nat.le_of_ble_eq_true rfl⟩ (fun c4 ce q9 H locs P h1 h2 h3 => ?_) (fun c4 H locs P => ?_)
  · rw [if_neg c4] at hE
    exact g_out P c4 (by rw [← hE]) (by rw [← hE]) hT hlk (Nat.le_of_ble_eq_true rfl) (Nat.le_of_ble_eq_true rfl) h1 h2 h3
  rw [if_pos c4] at hE
  refine lv_aload_n hx hb dX5_setHorizon_7 rfl (lv_at hl 0 rfl) ?_
  refine g_geti (k := 5) B F P ok5 (by decide) rfl rfl rfl (by decide) q243 dX5_setHorizon_8 ?_
  refine lv_istore_n (lv' := [(2, .int (rI σ 0 5)), (0, .ref (ad 0)), (1, .int v)]) hx hb dX5_setHorizon_11 rfl hl (by decide) rfl (fun ls hl => ?_)
  refine lv_aload_n hx hb dX5_setHorizon_12 rfl (lv_at hl 1 rfl) ?_
  refine lv_iload_n hx hb dX5_setHorizon_13 rfl (lv_at hl 2 rfl) ?_
  refine g_puti (k := 5) B F P ok5 (by decide) rfl rfl rfl (by decide) rfl (tyX5_ok 5 (by decide)) q243 dX5_setHorizon_14 (fun H locs P => ?_)
  refine lv_iload_n hx hb dX5_setHorizon_17 rfl (lv_at hl 0 rfl) ?_
  exact g_retix B P (by rw [← hE]) (by rw [← hE]) (by rw [← hE]) hrt hlk (Nat.le_of_ble_eq_true rfl) (Nat.le_of_ble_eq_true rfl) dX5_setHorizon_18
def f_X5_halfHour  (σ : Sg) : Int32 := (rI σ 0 6)
set_option maxHeartbeats 4000000 in
set_option maxRecDepth 100000 in
theorem ct_X5_halfHour {D : va_G} {ad : Nat → Nat} {cy : Nat → ClassId} {ba : Nat} (l : Launch)  (σ : Sg)  : Ct D ad cy ba l 0 yX5_halfHour cX5_halfHour 1 (some .int) [.ref (ad 0)] σ (some (.int (f_X5_halfHour  σ))) σ := by
  generalize hE : f_X5_halfHour  σ = Z
  dsimp only [f_X5_halfHour] at hE
  refine Ct.of (by decide +kernel) (Nat.le_of_ble_eq_true rfl) ?_
  intro p e s m below meth c ls B F P hrt hlk hl
  have hx := B.1
  have hb := B.2.1
  have hl : lv_has ls 1 [(0, .ref (ad 0))] := hl
  refine lv_aload_n hx hb dX5_halfHour_0 rfl (lv_at hl 0 rfl) ?_
  refine g_geti (k := 6) B F P ok5 (by decide) rfl rfl rfl (by decide) q244 dX5_halfHour_1 ?_
  exact g_reti B P (by rw [← hE]) rfl hrt hlk dX5_halfHour_4
def f_X5_feed  (σ : Sg) : Int64 := (rL σ 17 1)
set_option maxHeartbeats 4000000 in
set_option maxRecDepth 100000 in
theorem ct_X5_feed {D : va_G} {ad : Nat → Nat} {cy : Nat → ClassId} {ba : Nat} (l : Launch)  (σ : Sg)  : Ct D ad cy ba l 0 yX5_feed cX5_feed 1 (some .long) [.ref (ad 0)] σ (some (.long (f_X5_feed  σ))) σ := by
  generalize hE : f_X5_feed  σ = Z
  dsimp only [f_X5_feed] at hE
  refine Ct.of (by decide +kernel) (Nat.le_of_ble_eq_true rfl) ?_
  intro p e s m below meth c ls B F P hrt hlk hl
  have hx := B.1
  have hb := B.2.1
  have hl : lv_has ls 1 [(0, .ref (ad 0))] := hl
  refine lv_aload_n hx hb dX5_feed_0 rfl (lv_at hl 0 rfl) ?_
  refine g_getr (k := 4) (t := 17) B F P ok5 (by decide) rfl rfl rfl (by decide) rfl q242 dX5_feed_1 ?_
  refine g_getl (k := 1) B F P ok0 (by decide) rfl rfl rfl (by decide) q205 dX5_feed_4 ?_
  exact g_retl B P (by rw [← hE]) rfl hrt hlk dX5_feed_7
def f_X5_product  (σ : Sg) : Int64 := (rL σ 17 2)
set_option maxHeartbeats 4000000 in
set_option maxRecDepth 100000 in
theorem ct_X5_product {D : va_G} {ad : Nat → Nat} {cy : Nat → ClassId} {ba : Nat} (l : Launch)  (σ : Sg)  : Ct D ad cy ba l 0 yX5_product cX5_product 1 (some .long) [.ref (ad 0)] σ (some (.long (f_X5_product  σ))) σ := by
  generalize hE : f_X5_product  σ = Z
  dsimp only [f_X5_product] at hE
  refine Ct.of (by decide +kernel) (Nat.le_of_ble_eq_true rfl) ?_
  intro p e s m below meth c ls B F P hrt hlk hl
  have hx := B.1
  have hb := B.2.1
  have hl : lv_has ls 1 [(0, .ref (ad 0))] := hl
  refine lv_aload_n hx hb dX5_product_0 rfl (lv_at hl 0 rfl) ?_
  refine g_getr (k := 4) (t := 17) B F P ok5 (by decide) rfl rfl rfl (by decide) rfl q242 dX5_product_1 ?_
  refine g_getl (k := 2) B F P ok0 (by decide) rfl rfl rfl (by decide) q207 dX5_product_4 ?_
  exact g_retl B P (by rw [← hE]) rfl hrt hlk dX5_product_7
def f_X5_brine  (σ : Sg) : Int64 := (rL σ 17 3)
set_option maxHeartbeats 4000000 in
set_option maxRecDepth 100000 in
theorem ct_X5_brine {D : va_G} {ad : Nat → Nat} {cy : Nat → ClassId} {ba : Nat} (l : Launch)  (σ : Sg)  : Ct D ad cy ba l 0 yX5_brine cX5_brine 1 (some .long) [.ref (ad 0)] σ (some (.long (f_X5_brine  σ))) σ := by
  generalize hE : f_X5_brine  σ = Z
  dsimp only [f_X5_brine] at hE
  refine Ct.of (by decide +kernel) (Nat.le_of_ble_eq_true rfl) ?_
  intro p e s m below meth c ls B F P hrt hlk hl
  have hx := B.1
  have hb := B.2.1
  have hl : lv_has ls 1 [(0, .ref (ad 0))] := hl
  refine lv_aload_n hx hb dX5_brine_0 rfl (lv_at hl 0 rfl) ?_
  refine g_getr (k := 4) (t := 17) B F P ok5 (by decide) rfl rfl rfl (by decide) rfl q242 dX5_brine_1 ?_
  refine g_getl (k := 3) B F P ok0 (by decide) rfl rfl rfl (by decide) q209 dX5_brine_4 ?_
  exact g_retl B P (by rw [← hE]) rfl hrt hlk dX5_brine_7
def f_X5_spilled  (σ : Sg) : Int64 := (rL σ 17 4)
set_option maxHeartbeats 4000000 in
set_option maxRecDepth 100000 in
theorem ct_X5_spilled {D : va_G} {ad : Nat → Nat} {cy : Nat → ClassId} {ba : Nat} (l : Launch)  (σ : Sg)  : Ct D ad cy ba l 0 yX5_spilled cX5_spilled 1 (some .long) [.ref (ad 0)] σ (some (.long (f_X5_spilled  σ))) σ := by
  generalize hE : f_X5_spilled  σ = Z
  dsimp only [f_X5_spilled] at hE
  refine Ct.of (by decide +kernel) (Nat.le_of_ble_eq_true rfl) ?_
  intro p e s m below meth c ls B F P hrt hlk hl
  have hx := B.1
  have hb := B.2.1
  have hl : lv_has ls 1 [(0, .ref (ad 0))] := hl
  refine lv_aload_n hx hb dX5_spilled_0 rfl (lv_at hl 0 rfl) ?_
  refine g_getr (k := 4) (t := 17) B F P ok5 (by decide) rfl rfl rfl (by decide) rfl q242 dX5_spilled_1 ?_
  refine g_getl (k := 4) B F P ok0 (by decide) rfl rfl rfl (by decide) q211 dX5_spilled_4 ?_
  exact g_retl B P (by rw [← hE]) rfl hrt hlk dX5_spilled_7
def f_X5_cost  (σ : Sg) : Int64 := (rL σ 17 5)
set_option maxHeartbeats 4000000 in
set_option maxRecDepth 100000 in
theorem ct_X5_cost {D : va_G} {ad : Nat → Nat} {cy : Nat → ClassId} {ba : Nat} (l : Launch)  (σ : Sg)  : Ct D ad cy ba l 0 yX5_cost cX5_cost 1 (some .long) [.ref (ad 0)] σ (some (.long (f_X5_cost  σ))) σ := by
  generalize hE : f_X5_cost  σ = Z
  dsimp only [f_X5_cost] at hE
  refine Ct.of (by decide +kernel) (Nat.le_of_ble_eq_true rfl) ?_
  intro p e s m below meth c ls B F P hrt hlk hl
  have hx := B.1
  have hb := B.2.1
  have hl : lv_has ls 1 [(0, .ref (ad 0))] := hl
  refine lv_aload_n hx hb dX5_cost_0 rfl (lv_at hl 0 rfl) ?_
  refine g_getr (k := 4) (t := 17) B F P ok5 (by decide) rfl rfl rfl (by decide) rfl q242 dX5_cost_1 ?_
  refine g_getl (k := 5) B F P ok0 (by decide) rfl rfl rfl (by decide) q213 dX5_cost_4 ?_
  exact g_retl B P (by rw [← hE]) rfl hrt hlk dX5_cost_7
def f_X5_spilledByBalance_l4  : Nat → Int32 → Int64 → Sg → Int64
  | 0, _, _, σ => 0
  | n4 + 1, x3_4, x1_4, σ => if (rI σ 1 6) ≤ x3_4 then ((((rL σ 17 2) - (rL σ 17 6)) - (rL σ 17 8)) - x1_4) else (f_X5_spilledByBalance_l4  n4 (x3_4 + 1) (x1_4 + (rI σ (sid 0 + 4) x3_4.toNatClampNeg).toInt64) σ)
def f_X5_spilledByBalance  (σ : Sg) : Int64 := f_X5_spilledByBalance_l4  4 0 0 σ
set_option maxHeartbeats 4000000 in
set_option maxRecDepth 100000 in
theorem ct_X5_spilledByBalance {D : va_G} {ad : Nat → Nat} {cy : Nat → ClassId} {ba : Nat} (l : Launch)  (σ : Sg) (hC : GC 99000 σ) : Ct D ad cy ba l 0 yX5_spilledByBalance cX5_spilledByBalance 4 (some .long) [.ref (ad 0)] σ (some (.long (f_X5_spilledByBalance  σ))) σ := by
  generalize hE : f_X5_spilledByBalance  σ = Z
  dsimp only [f_X5_spilledByBalance] at hE
  refine Ct.of (by decide +kernel) (Nat.le_of_ble_eq_true rfl) ?_
  intro p e s m below meth c ls B F P hrt hlk hl
  have hx := B.1
  have hb := B.2.1
  have hl : lv_has ls 4 [(0, .ref (ad 0))] := hl
  refine lv_lconst (v := 0) hx hb dX5_spilledByBalance_0 (by decide) ?_
  refine lv_lstore_n (lv' := [(1, .long 0), (0, .ref (ad 0))]) hx hb dX5_spilledByBalance_1 rfl hl (by decide) rfl (fun ls hl => ?_)
  refine lv_iconst (v := 0) hx hb dX5_spilledByBalance_2 (by decide) ?_
  refine lv_istore_n (lv' := [(3, .int 0), (1, .long 0), (0, .ref (ad 0))]) hx hb dX5_spilledByBalance_3 rfl hl (by decide) rfl (fun ls hl => ?_)
  have L4 : ∀ (n4 : Nat) (x3_4 : Int32) (x1_4 : Int64) , LI 3 n4 x3_4 → f_X5_spilledByBalance_l4  n4 x3_4 x1_4 σ = Z → ∀ (H : Heap) (locs : List Loc), Wo D ad cy ba s σ H locs → ∀ (ls : Array Slot), lv_has ls 4 [(3, .int x3_4), (1, .long x1_4), (0, .ref (ad 0))] → W p l e (rmK 0 0 0) s m ([.ref (ad 0)] : List Value).toArray below meth c H locs 0 0 (MQ below (Qe D ad cy ba (some (.long Z)) σ) ([.ref (ad 0)] : List Value).toArray s 0 0 (fun q => ba ≤ q)) (F0 m 4 ls []) := by
    clear hE P hl
    intro n4
    induction n4 with
    | zero => intro x3_4 x1_4 hI4 hE; exact absurd hI4 LI.zero
    | succ n4 ih4 =>
      intro x3_4 x1_4 hI4 hE H locs P ls hl
      dsimp only [f_X5_spilledByBalance_l4] at hE
      refine lv_iload_n hx hb dX5_spilledByBalance_4 rfl (lv_at hl 0 rfl) ?_
      refine lv_aload_n hx hb dX5_spilledByBalance_5 rfl (lv_at hl 2 rfl) ?_
      refine g_getr (k := 0) (t := 1) B F P ok5 (by decide) rfl rfl rfl (by decide) rfl q238 dX5_spilledByBalance_6 ?_
      refine g_geti (k := 6) B F P ok3 (by decide) rfl rfl rfl (by decide) q57 dX5_spilledByBalance_9 ?_
      refine lv_icmp_ge (tgt := 34) hx hb dX5_spilledByBalance_12 (by decide) (fun c12 => ?_) (fun c12 => ?_)
      · rw [if_pos c12] at hE
        refine lv_aload_n hx hb dX5_spilledByBalance_34 rfl (lv_at hl 2 rfl) ?_
        refine g_getr (k := 4) (t := 17) B F P ok5 (by decide) rfl rfl rfl (by decide) rfl q242 dX5_spilledByBalance_35 ?_
        refine g_getl (k := 2) B F P ok0 (by decide) rfl rfl rfl (by decide) q207 dX5_spilledByBalance_38 ?_
        refine lv_aload_n hx hb dX5_spilledByBalance_41 rfl (lv_at hl 2 rfl) ?_
        refine g_getr (k := 4) (t := 17) B F P ok5 (by decide) rfl rfl rfl (by decide) rfl q242 dX5_spilledByBalance_42 ?_
        refine g_getl (k := 6) B F P ok0 (by decide) rfl rfl rfl (by decide) q215 dX5_spilledByBalance_45 ?_
        refine lv_lsub hx hb dX5_spilledByBalance_48 ?_
        refine lv_aload_n hx hb dX5_spilledByBalance_49 rfl (lv_at hl 2 rfl) ?_
        refine g_getr (k := 4) (t := 17) B F P ok5 (by decide) rfl rfl rfl (by decide) rfl q242 dX5_spilledByBalance_50 ?_
        refine g_getl (k := 8) B F P ok0 (by decide) rfl rfl rfl (by decide) q218 dX5_spilledByBalance_53 ?_
        refine lv_lsub hx hb dX5_spilledByBalance_56 ?_
        refine lv_lload_n hx hb dX5_spilledByBalance_57 rfl (lv_at hl 1 rfl) ?_
        refine lv_lsub hx hb dX5_spilledByBalance_58 ?_
        exact g_retl B P (by rw [← hE]) rfl hrt hlk dX5_spilledByBalance_59
      · rw [if_neg c12] at hE
        refine lv_lload_n hx hb dX5_spilledByBalance_15 rfl (lv_at hl 1 rfl) ?_
        refine lv_aload_n hx hb dX5_spilledByBalance_16 rfl (lv_at hl 2 rfl) ?_
        refine g_getr (k := 1) (t := (sid 0)) B F P ok5 (by decide) rfl rfl rfl (by decide) rfl q239 dX5_spilledByBalance_17 ?_
        refine g_getr (k := 3) (t := (sid 0 + 4)) B F P ok4 (sid_lt0 (by decide)) (kd_s0 0) rfl rfl (by decide) (tg_s 0 3) q95 dX5_spilledByBalance_20 ?_
        refine lv_iload_n hx hb dX5_spilledByBalance_23 rfl (lv_at hl 0 rfl) ?_
        refine g_ild B F P (sid_lt (by decide) (by decide)) (kd_sc 0 4 (by decide) (by decide)) (ln_sc 0 4 (by decide)) (hI4.into c12 hC.1.1.2) dX5_spilledByBalance_24 ?_
        refine lv_i2l hx hb dX5_spilledByBalance_25 rfl ?_
        refine lv_ladd hx hb dX5_spilledByBalance_26 ?_
        refine lv_lstore_n (lv' := [(1, .long (x1_4 + (rI σ (sid 0 + 4) x3_4.toNatClampNeg).toInt64)), (3, .int x3_4), (0, .ref (ad 0))]) hx hb dX5_spilledByBalance_27 rfl hl (by decide) rfl (fun ls hl => ?_)
        refine lv_iinc (v := (x3_4 + 1)) (lv' := [(3, .int (x3_4 + 1)), (1, .long (x1_4 + (rI σ (sid 0 + 4) x3_4.toNatClampNeg).toInt64)), (0, .ref (ad 0))]) hx hb dX5_spilledByBalance_28 hl (k := 1) rfl (by first | rfl | decide) (by decide) rfl (fun ls hl => ?_)
        refine lv_goto (tgt := 4) hx hb dX5_spilledByBalance_31 (by decide) ?_
        exact ih4 (x3_4 + 1) (x1_4 + (rI σ (sid 0 + 4) x3_4.toNatClampNeg).toInt64)  (hI4.next c12 hC.1.1.2) hE _ _ P _ (lv_sub hl [0, 1, 2] rfl)
  exact L4 4 0 0  LI.start hE _ _ P _ (lv_sub hl [0, 1, 2] rfl)
theorem nk_X5_spilledByBalance : nmOk yX5_spilledByBalance RX5 0 := ⟨rfl, by decide +kernel, by decide +kernel, by decide +kernel⟩
def f_X5_isBalanced  (σ : Sg) : Int32 := if (lg_cmp (rL σ 17 1) ((rL σ 17 2) + (rL σ 17 3))) = 0 then (if (lg_cmp (rL σ 17 4) (f_X5_spilledByBalance σ)) = 0 then 1 else 0) else 0
set_option maxHeartbeats 4000000 in
set_option maxRecDepth 100000 in
theorem ct_X5_isBalanced {D : va_G} {ad : Nat → Nat} {cy : Nat → ClassId} {ba : Nat} (l : Launch)  (σ : Sg) (hC : GC 99000 σ) : Ct D ad cy ba l 1 yX5_isBalanced cX5_isBalanced 1 (some .boolean) [.ref (ad 0)] σ (some (.int (f_X5_isBalanced  σ))) σ := by
  generalize hE : f_X5_isBalanced  σ = Z
  dsimp only [f_X5_isBalanced] at hE
  refine Ct.of (by decide +kernel) (Nat.le_of_ble_eq_true rfl) ?_
  intro p e s m below meth c ls B F P hrt hlk hl
  have hx := B.1
  have hb := B.2.1
  have hl : lv_has ls 1 [(0, .ref (ad 0))] := hl
  refine lv_aload_n hx hb dX5_isBalanced_0 rfl (lv_at hl 0 rfl) ?_
  refine g_getr (k := 4) (t := 17) B F P ok5 (by decide) rfl rfl rfl (by decide) rfl q242 dX5_isBalanced_1 ?_
  refine g_getl (k := 1) B F P ok0 (by decide) rfl rfl rfl (by decide) q205 dX5_isBalanced_4 ?_
  refine lv_aload_n hx hb dX5_isBalanced_7 rfl (lv_at hl 0 rfl) ?_
  refine g_getr (k := 4) (t := 17) B F P ok5 (by decide) rfl rfl rfl (by decide) rfl q242 dX5_isBalanced_8 ?_
  refine g_getl (k := 2) B F P ok0 (by decide) rfl rfl rfl (by decide) q207 dX5_isBalanced_11 ?_
  refine lv_aload_n hx hb dX5_isBalanced_14 rfl (lv_at hl 0 rfl) ?_
  refine g_getr (k := 4) (t := 17) B F P ok5 (by decide) rfl rfl rfl (by decide) rfl q242 dX5_isBalanced_15 ?_
  refine g_getl (k := 3) B F P ok0 (by decide) rfl rfl rfl (by decide) q209 dX5_isBalanced_18 ?_
  refine lv_ladd hx hb dX5_isBalanced_21 ?_
  refine W.lcmp hx hb dX5_isBalanced_22 ?_
  refine lv_if_ne (tgt := 45) hx hb dX5_isBalanced_23 (by decide) (fun c23 => ?_) (fun c23 => ?_)
  · rw [if_neg c23] at hE
    refine lv_iconst (v := 0) hx hb dX5_isBalanced_45 (by decide) ?_
    exact g_retz B P (by rw [← hE]) rfl hrt rfl hlk dX5_isBalanced_46
  · rw [if_pos c23] at hE
    refine lv_aload_n hx hb dX5_isBalanced_26 rfl (lv_at hl 0 rfl) ?_
    refine g_getr (k := 4) (t := 17) B F P ok5 (by decide) rfl rfl rfl (by decide) rfl q242 dX5_isBalanced_27 ?_
    refine g_getl (k := 4) B F P ok0 (by decide) rfl rfl rfl (by decide) q211 dX5_isBalanced_30 ?_
    refine lv_aload_n hx hb dX5_isBalanced_33 rfl (lv_at hl 0 rfl) ?_
    refine g_callV B F P (As := []) (ct_X5_spilledByBalance (D := D) (ad := ad) (cy := cy) (ba := ba) l  σ hC) ok5 (by decide) rfl q361 q350 q351 q1 q352 nk_X5_spilledByBalance rfl ⟨(Nat.le_of_ble_eq_true rfl), (Nat.le_of_ble_eq_true rfl)⟩ hl.1 rfl (Nat.le_of_ble_eq_true rfl) dX5_isBalanced_34 ⟨Nat.le_of_ble_eq_true rfl, Nat.le_of_ble_eq_true rfl⟩ (fun H locs P => ?_)
    refine W.lcmp hx hb dX5_isBalanced_37 ?_
    refine lv_if_ne (tgt := 45) hx hb dX5_isBalanced_38 (by decide) (fun c38 => ?_) (fun c38 => ?_)
    · rw [if_neg c38] at hE
      refine lv_iconst (v := 0) hx hb dX5_isBalanced_45 (by decide) ?_
      exact g_retz B P (by rw [← hE]) rfl hrt rfl hlk dX5_isBalanced_46
    · rw [if_pos c38] at hE
      refine lv_iconst (v := 1) hx hb dX5_isBalanced_41 (by decide) ?_
      refine lv_goto (tgt := 46) hx hb dX5_isBalanced_42 (by decide) ?_
      exact g_retz B P (by rw [← hE]) rfl hrt rfl hlk dX5_isBalanced_46
theorem n32_of {r : UInt32} (h : r.toNat % 2 ^ 31 ≤ 2139095040) : vf_n32 r := by
  unfold vf_n32
  rw [UInt32.le_iff_toNat_le, UInt32.toNat_and]
  rw [show (0x7fffffff : UInt32).toNat = 2 ^ 31 - 1 from rfl, Nat.and_two_pow_sub_one_eq_mod]
  exact h
theorem n64_of {r : UInt64} (h : r.toNat % 2 ^ 63 ≤ 9218868437227405312) : vf_n64 r := by
  unfold vf_n64
  rw [UInt64.le_iff_toNat_le, UInt64.toNat_and]
  rw [show (0x7fffffffffffffff : UInt64).toNat = 2 ^ 63 - 1 from rfl, Nat.and_two_pow_sub_one_eq_mod]
  exact h
theorem l_ne0 {y : Int64} (h : ¬ lg_cmp y 0 = 0) : y.toInt ≠ 0 := fun e => h (by
  have : y = 0 := Int64.toInt_inj.mp e
  rw [this]; rfl)
theorem i_ne0 {y : Int32} (h : ¬ y = 0) : y.toInt ≠ 0 := fun e => h (Int32.toInt_inj.mp e)
theorem nan_f {x y : Int64} (h : y.toInt ≠ 0) : vf_n32 (FP.fdiv (FP.l2f x) (FP.l2f y)) := n32_of (by
  show (FP.Core.fdiv (FP.Core.l2f x) (FP.Core.l2f y)).toNat % 2 ^ 31 ≤ _
  have h1 := FP.Core.fdiv_mag (FP.Core.l2f_mag x) (FP.Core.l2f_big h).1 (FP.Core.l2f_big h).2 (by decide) (by decide)
  omega)
theorem nan_d {x : Int64} {y : Int32} (h : y.toInt ≠ 0) : vf_n64 (FP.ddiv (FP.l2d x) (FP.i2d y)) := n64_of (by
  show (FP.Core.ddiv (FP.Core.l2d x) (FP.Core.i2d y)).toNat % 2 ^ 63 ≤ _
  have h1 := FP.Core.ddiv_mag (FP.Core.l2d_mag x) (FP.Core.i2d_big h).1 (FP.Core.i2d_big h).2 (by decide) (by decide)
  omega)
def f_X5_servedShare  (σ : Sg) : Nat × UInt32 := if (lg_cmp (rL σ 17 7) 0) = 0 then (6, 0) else (0, (FP.fdiv (FP.l2f (rL σ 17 6)) (FP.l2f (rL σ 17 7))))
set_option maxHeartbeats 4000000 in
set_option maxRecDepth 100000 in
theorem ct_X5_servedShare {D : va_G} {ad : Nat → Nat} {cy : Nat → ClassId} {ba : Nat} (l : Launch)  (σ : Sg) (hst : l.stackTraces = false) : Cx D ad cy ba l 0 4 yX5_servedShare cX5_servedShare 1 (some .float) [.ref (ad 0)] σ (f_X5_servedShare  σ).1 (some (.float (f_X5_servedShare  σ).2)) σ := by
  generalize hE : f_X5_servedShare  σ = Z
  dsimp only [f_X5_servedShare] at hE
  refine Cx.of (by decide +kernel) (Nat.le_of_ble_eq_true rfl) ?_
  intro p e s m below meth c ls B F P hrt hlk hT hl
  have hx := B.1
  have hb := B.2.1
  have hl : lv_has ls 1 [(0, .ref (ad 0))] := hl
  refine lv_aload_n hx hb dX5_servedShare_0 rfl (lv_at hl 0 rfl) ?_
  refine g_getr (k := 4) (t := 17) B F P ok5 (by decide) rfl rfl rfl (by decide) rfl q242 dX5_servedShare_1 ?_
  refine g_getl (k := 7) B F P ok0 (by decide) rfl rfl rfl (by decide) q217 dX5_servedShare_4 ?_
  refine lv_lconst (v := 0) hx hb dX5_servedShare_7 (by decide) ?_
  refine W.lcmp hx hb dX5_servedShare_8 ?_
  refine lv_if_ne (tgt := 22) hx hb dX5_servedShare_9 (by decide) (fun c9 => ?_) (fun c9 => ?_)
  · rw [if_neg c9] at hE
    refine lv_aload_n hx hb dX5_servedShare_22 rfl (lv_at hl 0 rfl) ?_
    refine g_getr (k := 4) (t := 17) B F P ok5 (by decide) rfl rfl rfl (by decide) rfl q242 dX5_servedShare_23 ?_
    refine g_getl (k := 6) B F P ok0 (by decide) rfl rfl rfl (by decide) q215 dX5_servedShare_26 ?_
    refine lv_l2f hx hb dX5_servedShare_29 ?_
    refine lv_aload_n hx hb dX5_servedShare_30 rfl (lv_at hl 0 rfl) ?_
    refine g_getr (k := 4) (t := 17) B F P ok5 (by decide) rfl rfl rfl (by decide) rfl q242 dX5_servedShare_31 ?_
    refine g_getl (k := 7) B F P ok0 (by decide) rfl rfl rfl (by decide) q217 dX5_servedShare_34 ?_
    refine lv_l2f hx hb dX5_servedShare_37 ?_
    refine lv_fdiv hx hb dX5_servedShare_38 (nan_f (l_ne0 c9)) ?_
    exact g_retfx B P (by rw [← hE]) (by rw [← hE]) rfl hrt hlk (Nat.le_of_ble_eq_true rfl) (Nat.le_of_ble_eq_true rfl) dX5_servedShare_39
  · rw [if_pos c9] at hE
    exact g_throw6 B F P hst (is := 238) (text := "nothing was demanded") (by decide) (by rw [← hE]) rfl hl.1 hlk hT dX5_servedShare_12 dX5_servedShare_15 dX5_servedShare_16 dX5_servedShare_18 dX5_servedShare_21 (Nat.le_of_ble_eq_true rfl) (Nat.le_of_ble_eq_true rfl) (Nat.le_of_ble_eq_true rfl) (Nat.le_of_ble_eq_true rfl) (Nat.le_of_ble_eq_true rfl) (Nat.le_of_ble_eq_true rfl)
def f_X5_meanCost  (σ : Sg) : Nat × UInt64 := if (rI σ 0 6) = 0 then (6, 0) else (0, (FP.ddiv (FP.l2d (rL σ 17 5)) (FP.i2d (rI σ 0 6))))
set_option maxHeartbeats 4000000 in
set_option maxRecDepth 100000 in
theorem ct_X5_meanCost {D : va_G} {ad : Nat → Nat} {cy : Nat → ClassId} {ba : Nat} (l : Launch)  (σ : Sg) (hst : l.stackTraces = false) : Cx D ad cy ba l 0 4 yX5_meanCost cX5_meanCost 1 (some .double) [.ref (ad 0)] σ (f_X5_meanCost  σ).1 (some (.double (f_X5_meanCost  σ).2)) σ := by
  generalize hE : f_X5_meanCost  σ = Z
  dsimp only [f_X5_meanCost] at hE
  refine Cx.of (by decide +kernel) (Nat.le_of_ble_eq_true rfl) ?_
  intro p e s m below meth c ls B F P hrt hlk hT hl
  have hx := B.1
  have hb := B.2.1
  have hl : lv_has ls 1 [(0, .ref (ad 0))] := hl
  refine lv_aload_n hx hb dX5_meanCost_0 rfl (lv_at hl 0 rfl) ?_
  refine g_geti (k := 6) B F P ok5 (by decide) rfl rfl rfl (by decide) q244 dX5_meanCost_1 ?_
  refine lv_if_ne (tgt := 17) hx hb dX5_meanCost_4 (by decide) (fun c4 => ?_) (fun c4 => ?_)
  · rw [if_neg c4] at hE
    refine lv_aload_n hx hb dX5_meanCost_17 rfl (lv_at hl 0 rfl) ?_
    refine g_getr (k := 4) (t := 17) B F P ok5 (by decide) rfl rfl rfl (by decide) rfl q242 dX5_meanCost_18 ?_
    refine g_getl (k := 5) B F P ok0 (by decide) rfl rfl rfl (by decide) q213 dX5_meanCost_21 ?_
    refine lv_l2d hx hb dX5_meanCost_24 ?_
    refine lv_aload_n hx hb dX5_meanCost_25 rfl (lv_at hl 0 rfl) ?_
    refine g_geti (k := 6) B F P ok5 (by decide) rfl rfl rfl (by decide) q244 dX5_meanCost_26 ?_
    refine lv_i2d hx hb dX5_meanCost_29 ?_
    refine lv_ddiv hx hb dX5_meanCost_30 (nan_d (i_ne0 c4)) ?_
    exact g_retdx B P (by rw [← hE]) (by rw [← hE]) rfl hrt hlk (Nat.le_of_ble_eq_true rfl) (Nat.le_of_ble_eq_true rfl) dX5_meanCost_31
  · rw [if_pos c4] at hE
    exact g_throw6 B F P hst (is := 241) (text := "no half hour has passed") (by decide) (by rw [← hE]) rfl hl.1 hlk hT dX5_meanCost_7 dX5_meanCost_10 dX5_meanCost_11 dX5_meanCost_13 dX5_meanCost_16 (Nat.le_of_ble_eq_true rfl) (Nat.le_of_ble_eq_true rfl) (Nat.le_of_ble_eq_true rfl) (Nat.le_of_ble_eq_true rfl) (Nat.le_of_ble_eq_true rfl) (Nat.le_of_ble_eq_true rfl)
