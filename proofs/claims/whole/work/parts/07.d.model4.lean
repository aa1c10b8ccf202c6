theorem mts_in {σ : Sg} {b : Int} (hM : GM b σ) (h : ¬ rI σ 19 4 = 4) : vp_in (rI σ 19 4) 4 := vp_in_iff.mpr ⟨hM.2.2.2.2.1, by
  have h1 := hM.1.1
  have h2 : (rI σ 19 4).toInt ≠ 4 := fun e => h (Int32.toInt_inj.mp e)
  omega⟩
theorem mks_in {σ : Sg} {b : Int} (hM : GM b σ) (h : ¬ rI σ 19 8 = 3) : vp_in (rI σ 19 8) 3 := vp_in_iff.mpr ⟨hM.2.2.2.2.2, by
  have h1 := hM.1.2.1
  have h2 : (rI σ 19 8).toInt ≠ 3 := fun e => h (Int32.toInt_inj.mp e)
  omega⟩
theorem in_rng {x : Int32} {b c : Int64} {σ : Sg} (h : ¬ f_X6_in x.toInt64 b c σ = 0) : b.toInt ≤ x.toInt ∧ x.toInt ≤ c.toInt := by
  rw [in_iff, i_l] at h
  exact h
theorem in_48 {x : Int32} {σ : Sg} (h : ¬ f_X6_in x.toInt64 0 47 σ = 0) : vp_in x 48 := by
  have h1 := in_rng h
  rw [show (0 : Int64).toInt = 0 from rfl, show (47 : Int64).toInt = 47 from rfl] at h1
  exact vp_in_iff.mpr ⟨h1.1, by omega⟩
def f_X6_thrown  (σ : Sg) : Int32 := (rI σ 19 32)
set_option maxHeartbeats 4000000 in
set_option maxRecDepth 100000 in
theorem ct_X6_thrown {D : va_G} {ad : Nat → Nat} {cy : Nat → ClassId} {ba : Nat} (l : Launch)  (σ : Sg)  : Ct D ad cy ba l 0 yX6_thrown cX6_thrown 1 (some .int) [.ref (ad 19)] σ (some (.int (f_X6_thrown  σ))) σ := by
  generalize hE : f_X6_thrown  σ = Z
  dsimp only [f_X6_thrown] at hE
  refine Ct.of (by decide +kernel) (Nat.le_of_ble_eq_true rfl) ?_
  intro p e s m below meth c ls B F P hrt hlk hl
  have hx := B.1
  have hb := B.2.1
  have hl : lv_has ls 1 [(0, .ref (ad 19))] := hl
  refine lv_aload_n hx hb dX6_thrown_0 rfl (lv_at hl 0 rfl) ?_
  refine g_geti (k := 32) B F P ok6 (by decide) rfl rfl rfl (by decide) q846 dX6_thrown_1 ?_
  exact g_reti B P (by rw [← hE]) rfl hrt hlk dX6_thrown_4
def f_X6_addTrain (a : Int32) (σ : Sg) : Int32 × Sg := if (f_X6_in a.toInt64 1 20 σ) = 0 then ((-1), (sI σ 19 32 1)) else (if (rI σ 19 4) = 4 then ((-1), (sI σ 19 32 2)) else ((((rI σ 19 4) + 1) - 1), (sI (sI (sI (sI σ 19 32 0) 22 (rI σ 19 4).toNatClampNeg a) 23 (rI σ 19 4).toNatClampNeg 50) 19 4 ((rI σ 19 4) + 1))))
set_option maxHeartbeats 4000000 in
set_option maxRecDepth 100000 in
theorem ct_X6_addTrain {D : va_G} {ad : Nat → Nat} {cy : Nat → ClassId} {ba : Nat} (l : Launch) (a : Int32) (σ : Sg) (hM : GM 99000 σ) : Ct D ad cy ba l 1 yX6_addTrain cX6_addTrain 2 (some .int) [.ref (ad 19), .int a] σ (some (.int (f_X6_addTrain a σ).1)) (f_X6_addTrain a σ).2 := by
  generalize hE : f_X6_addTrain a σ = Z
  dsimp only [f_X6_addTrain] at hE
  refine Ct.of (by decide +kernel) (Nat.le_of_ble_eq_true rfl) ?_
  intro p e s m below meth c ls B F P hrt hlk hl
  have hx := B.1
  have hb := B.2.1
  have hl : lv_has ls 2 [(0, .ref (ad 19)), (1, .int a)] := hl
  refine lv_aload_n hx hb dX6_addTrain_0 rfl (lv_at hl 0 rfl) ?_
  refine lv_iload_n hx hb dX6_addTrain_1 rfl (lv_at hl 1 rfl) ?_
  refine lv_i2l hx hb dX6_addTrain_2 rfl ?_
  refine lv_lconst (v := 1) hx hb dX6_addTrain_3 (by decide) ?_
  refine g_ldc2 B q926 dX6_addTrain_4 ?_
  refine g_callS B F P (As := [.long a.toInt64, .long 1, .long 20]) (ct_X6_in (D := D) (ad := ad) (cy := cy) (ba := ba) l a.toInt64 1 20 σ ) q927 q928 q8 q929 nk_X6_in rfl ⟨(Nat.le_of_ble_eq_true rfl), (Nat.le_of_ble_eq_true rfl)⟩ hl.1 rfl (Nat.le_of_ble_eq_true rfl) dX6_addTrain_7 ⟨Nat.le_of_ble_eq_true rfl, Nat.le_of_ble_eq_true rfl⟩ (fun H locs P => ?_)
  refine lv_if_ne (tgt := 17) hx hb dX6_addTrain_10 (by decide) (fun c10 => ?_) (fun c10 => ?_)
  · rw [if_neg c10] at hE
    refine lv_aload_n hx hb dX6_addTrain_17 rfl (lv_at hl 0 rfl) ?_
    refine g_geti (k := 4) B F P ok6 (by decide) rfl rfl rfl (by decide) q818 dX6_addTrain_18 ?_
    refine lv_iconst (v := 4) hx hb dX6_addTrain_21 (by decide) ?_
    refine lv_icmp_ne (tgt := 29) hx hb dX6_addTrain_22 (by decide) (fun c22 => ?_) (fun c22 => ?_)
    · rw [if_neg c22] at hE
      refine lv_iconst (v := 0) hx hb dX6_addTrain_29 (by decide) ?_
      refine g_puti (k := 32) B F P ok6 (by decide) rfl rfl rfl (by decide) rfl (tyX6_ok 32 (by decide)) q846 dX6_addTrain_30 (fun H locs P => ?_)
      refine lv_aload_n hx hb dX6_addTrain_33 rfl (lv_at hl 0 rfl) ?_
      refine g_getiv (k := 32) (v := 0) B F P ok6 (by decide) rfl rfl rfl (by decide) q846 dX6_addTrain_34 rfl ?_
      refine lv_if_le (tgt := 42) hx hb dX6_addTrain_37 (by decide) (fun _ => ?_) (fun h9 => absurd h9 (by decide))
      refine lv_aload_n hx hb dX6_addTrain_42 rfl (lv_at hl 0 rfl) ?_
      refine g_getr (k := 2) (t := 22) B F P ok6 (by decide) rfl rfl rfl (by decide) rfl q816 dX6_addTrain_43 ?_
      refine lv_aload_n hx hb dX6_addTrain_46 rfl (lv_at hl 0 rfl) ?_
      refine g_getiv (k := 4) (v := (rI σ 19 4)) B F P ok6 (by decide) rfl rfl rfl (by decide) q818 dX6_addTrain_47 rfl ?_
      refine lv_iload_n hx hb dX6_addTrain_50 rfl (lv_at hl 1 rfl) ?_
      refine g_ist B F P (by decide) rfl rfl (mts_in hM c22) dX6_addTrain_51 (fun H locs P => ?_)
      refine lv_aload_n hx hb dX6_addTrain_52 rfl (lv_at hl 0 rfl) ?_
      refine g_getr (k := 3) (t := 23) B F P ok6 (by decide) rfl rfl rfl (by decide) rfl q817 dX6_addTrain_53 ?_
      refine lv_aload_n hx hb dX6_addTrain_56 rfl (lv_at hl 0 rfl) ?_
      refine g_getiv (k := 4) (v := (rI σ 19 4)) B F P ok6 (by decide) rfl rfl rfl (by decide) q818 dX6_addTrain_57 rfl ?_
      refine lv_bipush (v := 50) hx hb dX6_addTrain_60 (by decide) ?_
      refine g_ist B F P (by decide) rfl rfl (mts_in hM c22) dX6_addTrain_62 (fun H locs P => ?_)
      refine lv_aload_n hx hb dX6_addTrain_63 rfl (lv_at hl 0 rfl) ?_
      refine lv_dup hx hb dX6_addTrain_64 rfl ?_
      refine g_getiv (k := 4) (v := (rI σ 19 4)) B F P ok6 (by decide) rfl rfl rfl (by decide) q818 dX6_addTrain_65 rfl ?_
      refine lv_iconst (v := 1) hx hb dX6_addTrain_68 (by decide) ?_
      refine lv_iadd hx hb dX6_addTrain_69 ?_
      refine g_puti (k := 4) B F P ok6 (by decide) rfl rfl rfl (by decide) rfl (tyX6_ok 4 (by decide)) q818 dX6_addTrain_70 (fun H locs P => ?_)
      refine lv_aload_n hx hb dX6_addTrain_73 rfl (lv_at hl 0 rfl) ?_
      refine g_getiv (k := 4) (v := ((rI σ 19 4) + 1)) B F P ok6 (by decide) rfl rfl rfl (by decide) q818 dX6_addTrain_74 rfl ?_
      refine lv_iconst (v := 1) hx hb dX6_addTrain_77 (by decide) ?_
      refine lv_isub hx hb dX6_addTrain_78 ?_
      exact g_reti B P (by rw [← hE]) (by rw [← hE]) hrt hlk dX6_addTrain_79
    · rw [if_pos c22] at hE
      refine lv_iconst (v := 2) hx hb dX6_addTrain_25 (by decide) ?_
      refine lv_goto (tgt := 30) hx hb dX6_addTrain_26 (by decide) ?_
      refine g_puti (k := 32) B F P ok6 (by decide) rfl rfl rfl (by decide) rfl (tyX6_ok 32 (by decide)) q846 dX6_addTrain_30 (fun H locs P => ?_)
      refine lv_aload_n hx hb dX6_addTrain_33 rfl (lv_at hl 0 rfl) ?_
      refine g_getiv (k := 32) (v := 2) B F P ok6 (by decide) rfl rfl rfl (by decide) q846 dX6_addTrain_34 rfl ?_
      refine lv_if_le (tgt := 42) hx hb dX6_addTrain_37 (by decide) (fun h9 => absurd h9 (by decide)) (fun _ => ?_)
      refine lv_iconst (v := (-1)) hx hb dX6_addTrain_40 (by decide) ?_
      exact g_reti B P (by rw [← hE]) (by rw [← hE]) hrt hlk dX6_addTrain_41
  · rw [if_pos c10] at hE
    refine lv_iconst (v := 1) hx hb dX6_addTrain_13 (by decide) ?_
    refine lv_goto (tgt := 30) hx hb dX6_addTrain_14 (by decide) ?_
    refine g_puti (k := 32) B F P ok6 (by decide) rfl rfl rfl (by decide) rfl (tyX6_ok 32 (by decide)) q846 dX6_addTrain_30 (fun H locs P => ?_)
    refine lv_aload_n hx hb dX6_addTrain_33 rfl (lv_at hl 0 rfl) ?_
    refine g_getiv (k := 32) (v := 1) B F P ok6 (by decide) rfl rfl rfl (by decide) q846 dX6_addTrain_34 rfl ?_
    refine lv_if_le (tgt := 42) hx hb dX6_addTrain_37 (by decide) (fun h9 => absurd h9 (by decide)) (fun _ => ?_)
    refine lv_iconst (v := (-1)) hx hb dX6_addTrain_40 (by decide) ?_
    exact g_reti B P (by rw [← hE]) (by rw [← hE]) hrt hlk dX6_addTrain_41
theorem nk_X6_isTrain : nmOk yX6_isTrain RX6 1 := ⟨rfl, by decide +kernel, by decide +kernel, by decide +kernel⟩
def f_X6_setPressure (t : Int32) (v : Int32) (σ : Sg) : Int32 × Sg := if (f_X6_isTrain t σ) = 0 then ((-1), (sI σ 19 32 1)) else (if (f_X6_in v.toInt64 30 70 σ) = 0 then ((-1), (sI σ 19 32 2)) else ((rI (sI σ 19 32 0) 23 t.toNatClampNeg), (sI (sI σ 19 32 0) 23 t.toNatClampNeg v)))
set_option maxHeartbeats 4000000 in
set_option maxRecDepth 100000 in
theorem ct_X6_setPressure {D : va_G} {ad : Nat → Nat} {cy : Nat → ClassId} {ba : Nat} (l : Launch) (t : Int32) (v : Int32) (σ : Sg) (hM : GM 99000 σ) : Ct D ad cy ba l 2 yX6_setPressure cX6_setPressure 4 (some .int) [.ref (ad 19), .int t, .int v] σ (some (.int (f_X6_setPressure t v σ).1)) (f_X6_setPressure t v σ).2 := by
  generalize hE : f_X6_setPressure t v σ = Z
  dsimp only [f_X6_setPressure] at hE
  refine Ct.of (by decide +kernel) (Nat.le_of_ble_eq_true rfl) ?_
  intro p e s m below meth c ls B F P hrt hlk hl
  have hx := B.1
  have hb := B.2.1
  have hl : lv_has ls 4 [(0, .ref (ad 19)), (1, .int t), (2, .int v)] := hl
  refine lv_aload_n hx hb dX6_setPressure_0 rfl (lv_at hl 0 rfl) ?_
  refine lv_aload_n hx hb dX6_setPressure_1 rfl (lv_at hl 0 rfl) ?_
  refine lv_iload_n hx hb dX6_setPressure_2 rfl (lv_at hl 1 rfl) ?_
  refine g_callV B F P (As := [.int t]) (ct_X6_isTrain (D := D) (ad := ad) (cy := cy) (ba := ba) l t σ ) ok6 (by decide) rfl q934 q936 qs12 q8 q937 nk_X6_isTrain rfl ⟨(Nat.le_of_ble_eq_true rfl), (Nat.le_of_ble_eq_true rfl)⟩ hl.1 rfl (Nat.le_of_ble_eq_true rfl) dX6_setPressure_3 ⟨Nat.le_of_ble_eq_true rfl, Nat.le_of_ble_eq_true rfl⟩ (fun H locs P => ?_)
  refine lv_if_ne (tgt := 13) hx hb dX6_setPressure_6 (by decide) (fun c6 => ?_) (fun c6 => ?_)
  · rw [if_neg c6] at hE
    refine lv_iload_n hx hb dX6_setPressure_13 rfl (lv_at hl 2 rfl) ?_
    refine lv_i2l hx hb dX6_setPressure_14 rfl ?_
    refine g_ldc2 B q938 dX6_setPressure_15 ?_
    refine g_ldc2 B q939 dX6_setPressure_18 ?_
    refine g_callS B F P (As := [.long v.toInt64, .long 30, .long 70]) (ct_X6_in (D := D) (ad := ad) (cy := cy) (ba := ba) l v.toInt64 30 70 σ ) q927 q928 q8 q929 nk_X6_in rfl ⟨(Nat.le_of_ble_eq_true rfl), (Nat.le_of_ble_eq_true rfl)⟩ hl.1 rfl (Nat.le_of_ble_eq_true rfl) dX6_setPressure_21 ⟨Nat.le_of_ble_eq_true rfl, Nat.le_of_ble_eq_true rfl⟩ (fun H locs P => ?_)
    refine lv_if_ne (tgt := 31) hx hb dX6_setPressure_24 (by decide) (fun c24 => ?_) (fun c24 => ?_)
    · rw [if_neg c24] at hE
      refine lv_iconst (v := 0) hx hb dX6_setPressure_31 (by decide) ?_
      refine g_puti (k := 32) B F P ok6 (by decide) rfl rfl rfl (by decide) rfl (tyX6_ok 32 (by decide)) q846 dX6_setPressure_32 (fun H locs P => ?_)
      refine lv_aload_n hx hb dX6_setPressure_35 rfl (lv_at hl 0 rfl) ?_
      refine g_getiv (k := 32) (v := 0) B F P ok6 (by decide) rfl rfl rfl (by decide) q846 dX6_setPressure_36 rfl ?_
      refine lv_if_le (tgt := 44) hx hb dX6_setPressure_39 (by decide) (fun _ => ?_) (fun h9 => absurd h9 (by decide))
      refine lv_aload_n hx hb dX6_setPressure_44 rfl (lv_at hl 0 rfl) ?_
      refine g_getr (k := 3) (t := 23) B F P ok6 (by decide) rfl rfl rfl (by decide) rfl q817 dX6_setPressure_45 ?_
      refine lv_iload_n hx hb dX6_setPressure_48 rfl (lv_at hl 1 rfl) ?_
      refine g_ild B F P (by decide) rfl rfl (mtr_in hM.1 hM.2.2.2.2.1 c6) dX6_setPressure_49 ?_
      refine lv_istore_n (lv' := [(3, .int (rI (sI σ 19 32 0) 23 t.toNatClampNeg)), (0, .ref (ad 19)), (1, .int t), (2, .int v)]) hx hb dX6_setPressure_50 rfl hl (by decide) rfl (fun ls hl => ?_)
      refine lv_aload_n hx hb dX6_setPressure_51 rfl (lv_at hl 1 rfl) ?_
      refine g_getr (k := 3) (t := 23) B F P ok6 (by decide) rfl rfl rfl (by decide) rfl q817 dX6_setPressure_52 ?_
      refine lv_iload_n hx hb dX6_setPressure_55 rfl (lv_at hl 2 rfl) ?_
      refine lv_iload_n hx hb dX6_setPressure_56 rfl (lv_at hl 3 rfl) ?_
      refine g_ist B F P (by decide) rfl rfl (mtr_in hM.1 hM.2.2.2.2.1 c6) dX6_setPressure_57 (fun H locs P => ?_)
      refine lv_iload_n hx hb dX6_setPressure_58 rfl (lv_at hl 0 rfl) ?_
      exact g_reti B P (by rw [← hE]) (by rw [← hE]) hrt hlk dX6_setPressure_59
    · rw [if_pos c24] at hE
      refine lv_iconst (v := 2) hx hb dX6_setPressure_27 (by decide) ?_
      refine lv_goto (tgt := 32) hx hb dX6_setPressure_28 (by decide) ?_
      refine g_puti (k := 32) B F P ok6 (by decide) rfl rfl rfl (by decide) rfl (tyX6_ok 32 (by decide)) q846 dX6_setPressure_32 (fun H locs P => ?_)
      refine lv_aload_n hx hb dX6_setPressure_35 rfl (lv_at hl 0 rfl) ?_
      refine g_getiv (k := 32) (v := 2) B F P ok6 (by decide) rfl rfl rfl (by decide) q846 dX6_setPressure_36 rfl ?_
      refine lv_if_le (tgt := 44) hx hb dX6_setPressure_39 (by decide) (fun h9 => absurd h9 (by decide)) (fun _ => ?_)
      refine lv_iconst (v := (-1)) hx hb dX6_setPressure_42 (by decide) ?_
      exact g_reti B P (by rw [← hE]) (by rw [← hE]) hrt hlk dX6_setPressure_43
  · rw [if_pos c6] at hE
    refine lv_iconst (v := 1) hx hb dX6_setPressure_9 (by decide) ?_
    refine lv_goto (tgt := 32) hx hb dX6_setPressure_10 (by decide) ?_
    refine g_puti (k := 32) B F P ok6 (by decide) rfl rfl rfl (by decide) rfl (tyX6_ok 32 (by decide)) q846 dX6_setPressure_32 (fun H locs P => ?_)
    refine lv_aload_n hx hb dX6_setPressure_35 rfl (lv_at hl 0 rfl) ?_
    refine g_getiv (k := 32) (v := 1) B F P ok6 (by decide) rfl rfl rfl (by decide) q846 dX6_setPressure_36 rfl ?_
    refine lv_if_le (tgt := 44) hx hb dX6_setPressure_39 (by decide) (fun h9 => absurd h9 (by decide)) (fun _ => ?_)
    refine lv_iconst (v := (-1)) hx hb dX6_setPressure_42 (by decide) ?_
    exact g_reti B P (by rw [← hE]) (by rw [← hE]) hrt hlk dX6_setPressure_43
def f_X6_setSalinity (v : Int32) (σ : Sg) : Int32 × Sg := if (f_X6_in v.toInt64 20 35 σ) = 0 then ((-1), (sI (sI σ 19 32 1) 19 10 (rI σ 19 10))) else ((rI σ 19 10), (sI (sI σ 19 32 0) 19 10 v))
set_option maxHeartbeats 4000000 in
set_option maxRecDepth 100000 in
theorem ct_X6_setSalinity {D : va_G} {ad : Nat → Nat} {cy : Nat → ClassId} {ba : Nat} (l : Launch) (v : Int32) (σ : Sg)  : Ct D ad cy ba l 1 yX6_setSalinity cX6_setSalinity 3 (some .int) [.ref (ad 19), .int v] σ (some (.int (f_X6_setSalinity v σ).1)) (f_X6_setSalinity v σ).2 := by
  generalize hE : f_X6_setSalinity v σ = Z
  dsimp only [f_X6_setSalinity] at hE
  refine Ct.of (by decide +kernel) (Nat.le_of_ble_eq_true rfl) ?_
  intro p e s m below meth c ls B F P hrt hlk hl
  have hx := B.1
  have hb := B.2.1
  have hl : lv_has ls 3 [(0, .ref (ad 19)), (1, .int v)] := hl
  refine lv_aload_n hx hb dX6_setSalinity_0 rfl (lv_at hl 0 rfl) ?_
  refine lv_iload_n hx hb dX6_setSalinity_1 rfl (lv_at hl 1 rfl) ?_
  refine lv_i2l hx hb dX6_setSalinity_2 rfl ?_
  refine g_ldc2 B q926 dX6_setSalinity_3 ?_
  refine g_ldc2 B q944 dX6_setSalinity_6 ?_
  refine g_callS B F P (As := [.long v.toInt64, .long 20, .long 35]) (ct_X6_in (D := D) (ad := ad) (cy := cy) (ba := ba) l v.toInt64 20 35 σ ) q927 q928 q8 q929 nk_X6_in rfl ⟨(Nat.le_of_ble_eq_true rfl), (Nat.le_of_ble_eq_true rfl)⟩ hl.1 rfl (Nat.le_of_ble_eq_true rfl) dX6_setSalinity_9 ⟨Nat.le_of_ble_eq_true rfl, Nat.le_of_ble_eq_true rfl⟩ (fun H locs P => ?_)
  refine lv_if_eq (tgt := 19) hx hb dX6_setSalinity_12 (by decide) (fun c12 => ?_) (fun c12 => ?_)
  · rw [if_pos c12] at hE
    refine lv_iconst (v := 1) hx hb dX6_setSalinity_19 (by decide) ?_
    refine g_puti (k := 32) B F P ok6 (by decide) rfl rfl rfl (by decide) rfl (tyX6_ok 32 (by decide)) q846 dX6_setSalinity_20 (fun H locs P => ?_)
    refine lv_aload_n hx hb dX6_setSalinity_23 rfl (lv_at hl 0 rfl) ?_
    refine g_getiv (k := 10) (v := (rI σ 19 10)) B F P ok6 (by decide) rfl rfl rfl (by decide) q824 dX6_setSalinity_24 rfl ?_
    refine lv_istore_n (lv' := [(2, .int (rI σ 19 10)), (0, .ref (ad 19)), (1, .int v)]) hx hb dX6_setSalinity_27 rfl hl (by decide) rfl (fun ls hl => ?_)
    refine lv_aload_n hx hb dX6_setSalinity_28 rfl (lv_at hl 1 rfl) ?_
    refine lv_aload_n hx hb dX6_setSalinity_29 rfl (lv_at hl 1 rfl) ?_
    refine g_getiv (k := 32) (v := 1) B F P ok6 (by decide) rfl rfl rfl (by decide) q846 dX6_setSalinity_30 rfl ?_
    refine lv_if_ne (tgt := 40) hx hb dX6_setSalinity_33 (by decide) (fun _ => ?_) (fun h9 => absurd h9 (by decide))
    refine lv_iload_n hx hb dX6_setSalinity_40 rfl (lv_at hl 0 rfl) ?_
    refine g_puti (k := 10) B F P ok6 (by decide) rfl rfl rfl (by decide) rfl (tyX6_ok 10 (by decide)) q824 dX6_setSalinity_41 (fun H locs P => ?_)
    refine lv_aload_n hx hb dX6_setSalinity_44 rfl (lv_at hl 1 rfl) ?_
    refine g_getiv (k := 32) (v := 1) B F P ok6 (by decide) rfl rfl rfl (by decide) q846 dX6_setSalinity_45 rfl ?_
    refine lv_if_ne (tgt := 55) hx hb dX6_setSalinity_48 (by decide) (fun _ => ?_) (fun h9 => absurd h9 (by decide))
    refine lv_iconst (v := (-1)) hx hb dX6_setSalinity_55 (by decide) ?_
    exact g_reti B P (by rw [← hE]) (by rw [← hE]) hrt hlk dX6_setSalinity_56
  · rw [if_neg c12] at hE
    refine lv_iconst (v := 0) hx hb dX6_setSalinity_15 (by decide) ?_
    refine lv_goto (tgt := 20) hx hb dX6_setSalinity_16 (by decide) ?_
    refine g_puti (k := 32) B F P ok6 (by decide) rfl rfl rfl (by decide) rfl (tyX6_ok 32 (by decide)) q846 dX6_setSalinity_20 (fun H locs P => ?_)
    refine lv_aload_n hx hb dX6_setSalinity_23 rfl (lv_at hl 0 rfl) ?_
    refine g_getiv (k := 10) (v := (rI σ 19 10)) B F P ok6 (by decide) rfl rfl rfl (by decide) q824 dX6_setSalinity_24 rfl ?_
    refine lv_istore_n (lv' := [(2, .int (rI σ 19 10)), (0, .ref (ad 19)), (1, .int v)]) hx hb dX6_setSalinity_27 rfl hl (by decide) rfl (fun ls hl => ?_)
    refine lv_aload_n hx hb dX6_setSalinity_28 rfl (lv_at hl 1 rfl) ?_
    refine lv_aload_n hx hb dX6_setSalinity_29 rfl (lv_at hl 1 rfl) ?_
    refine g_getiv (k := 32) (v := 0) B F P ok6 (by decide) rfl rfl rfl (by decide) q846 dX6_setSalinity_30 rfl ?_
    refine lv_if_ne (tgt := 40) hx hb dX6_setSalinity_33 (by decide) (fun h9 => absurd h9 (by decide)) (fun _ => ?_)
    refine lv_iload_n hx hb dX6_setSalinity_36 rfl (lv_at hl 2 rfl) ?_
    refine lv_goto (tgt := 41) hx hb dX6_setSalinity_37 (by decide) ?_
    refine g_puti (k := 10) B F P ok6 (by decide) rfl rfl rfl (by decide) rfl (tyX6_ok 10 (by decide)) q824 dX6_setSalinity_41 (fun H locs P => ?_)
    refine lv_aload_n hx hb dX6_setSalinity_44 rfl (lv_at hl 1 rfl) ?_
    refine g_getiv (k := 32) (v := 0) B F P ok6 (by decide) rfl rfl rfl (by decide) q846 dX6_setSalinity_45 rfl ?_
    refine lv_if_ne (tgt := 55) hx hb dX6_setSalinity_48 (by decide) (fun h9 => absurd h9 (by decide)) (fun _ => ?_)
    refine lv_iload_n hx hb dX6_setSalinity_51 rfl (lv_at hl 0 rfl) ?_
    refine lv_goto (tgt := 56) hx hb dX6_setSalinity_52 (by decide) ?_
    exact g_reti B P (by rw [← hE]) (by rw [← hE]) hrt hlk dX6_setSalinity_56
def f_X6_setRecovery (v : Int32) (σ : Sg) : Int32 × Sg := if (f_X6_in v.toInt64 30 60 σ) = 0 then ((-1), (sI (sI σ 19 32 1) 19 11 (rI σ 19 11))) else ((rI σ 19 11), (sI (sI σ 19 32 0) 19 11 v))
set_option maxHeartbeats 4000000 in
set_option maxRecDepth 100000 in
theorem ct_X6_setRecovery {D : va_G} {ad : Nat → Nat} {cy : Nat → ClassId} {ba : Nat} (l : Launch) (v : Int32) (σ : Sg)  : Ct D ad cy ba l 1 yX6_setRecovery cX6_setRecovery 3 (some .int) [.ref (ad 19), .int v] σ (some (.int (f_X6_setRecovery v σ).1)) (f_X6_setRecovery v σ).2 := by
  generalize hE : f_X6_setRecovery v σ = Z
  dsimp only [f_X6_setRecovery] at hE
  refine Ct.of (by decide +kernel) (Nat.le_of_ble_eq_true rfl) ?_
  intro p e s m below meth c ls B F P hrt hlk hl
  have hx := B.1
  have hb := B.2.1
  have hl : lv_has ls 3 [(0, .ref (ad 19)), (1, .int v)] := hl
  refine lv_aload_n hx hb dX6_setRecovery_0 rfl (lv_at hl 0 rfl) ?_
  refine lv_iload_n hx hb dX6_setRecovery_1 rfl (lv_at hl 1 rfl) ?_
  refine lv_i2l hx hb dX6_setRecovery_2 rfl ?_
  refine g_ldc2 B q938 dX6_setRecovery_3 ?_
  refine g_ldc2 B q949 dX6_setRecovery_6 ?_
  refine g_callS B F P (As := [.long v.toInt64, .long 30, .long 60]) (ct_X6_in (D := D) (ad := ad) (cy := cy) (ba := ba) l v.toInt64 30 60 σ ) q927 q928 q8 q929 nk_X6_in rfl ⟨(Nat.le_of_ble_eq_true rfl), (Nat.le_of_ble_eq_true rfl)⟩ hl.1 rfl (Nat.le_of_ble_eq_true rfl) dX6_setRecovery_9 ⟨Nat.le_of_ble_eq_true rfl, Nat.le_of_ble_eq_true rfl⟩ (fun H locs P => ?_)
  refine lv_if_eq (tgt := 19) hx hb dX6_setRecovery_12 (by decide) (fun c12 => ?_) (fun c12 => ?_)
  · rw [if_pos c12] at hE
    refine lv_iconst (v := 1) hx hb dX6_setRecovery_19 (by decide) ?_
    refine g_puti (k := 32) B F P ok6 (by decide) rfl rfl rfl (by decide) rfl (tyX6_ok 32 (by decide)) q846 dX6_setRecovery_20 (fun H locs P => ?_)
    refine lv_aload_n hx hb dX6_setRecovery_23 rfl (lv_at hl 0 rfl) ?_
    refine g_getiv (k := 11) (v := (rI σ 19 11)) B F P ok6 (by decide) rfl rfl rfl (by decide) q825 dX6_setRecovery_24 rfl ?_
    refine lv_istore_n (lv' := [(2, .int (rI σ 19 11)), (0, .ref (ad 19)), (1, .int v)]) hx hb dX6_setRecovery_27 rfl hl (by decide) rfl (fun ls hl => ?_)
    refine lv_aload_n hx hb dX6_setRecovery_28 rfl (lv_at hl 1 rfl) ?_
    refine lv_aload_n hx hb dX6_setRecovery_29 rfl (lv_at hl 1 rfl) ?_
    refine g_getiv (k := 32) (v := 1) B F P ok6 (by decide) rfl rfl rfl (by decide) q846 dX6_setRecovery_30 rfl ?_
    refine lv_if_ne (tgt := 40) hx hb dX6_setRecovery_33 (by decide) (fun _ => ?_) (fun h9 => absurd h9 (by decide))
    refine lv_iload_n hx hb dX6_setRecovery_40 rfl (lv_at hl 0 rfl) ?_
    refine g_puti (k := 11) B F P ok6 (by decide) rfl rfl rfl (by decide) rfl (tyX6_ok 11 (by decide)) q825 dX6_setRecovery_41 (fun H locs P => ?_)
    refine lv_aload_n hx hb dX6_setRecovery_44 rfl (lv_at hl 1 rfl) ?_
    refine g_getiv (k := 32) (v := 1) B F P ok6 (by decide) rfl rfl rfl (by decide) q846 dX6_setRecovery_45 rfl ?_
    refine lv_if_ne (tgt := 55) hx hb dX6_setRecovery_48 (by decide) (fun _ => ?_) (fun h9 => absurd h9 (by decide))
    refine lv_iconst (v := (-1)) hx hb dX6_setRecovery_55 (by decide) ?_
    exact g_reti B P (by rw [← hE]) (by rw [← hE]) hrt hlk dX6_setRecovery_56
  · rw [if_neg c12] at hE
    refine lv_iconst (v := 0) hx hb dX6_setRecovery_15 (by decide) ?_
    refine lv_goto (tgt := 20) hx hb dX6_setRecovery_16 (by decide) ?_
    refine g_puti (k := 32) B F P ok6 (by decide) rfl rfl rfl (by decide) rfl (tyX6_ok 32 (by decide)) q846 dX6_setRecovery_20 (fun H locs P => ?_)
    refine lv_aload_n hx hb dX6_setRecovery_23 rfl (lv_at hl 0 rfl) ?_
    refine g_getiv (k := 11) (v := (rI σ 19 11)) B F P ok6 (by decide) rfl rfl rfl (by decide) q825 dX6_setRecovery_24 rfl ?_
    refine lv_istore_n (lv' := [(2, .int (rI σ 19 11)), (0, .ref (ad 19)), (1, .int v)]) hx hb dX6_setRecovery_27 rfl hl (by decide) rfl (fun ls hl => ?_)
    refine lv_aload_n hx hb dX6_setRecovery_28 rfl (lv_at hl 1 rfl) ?_
    refine lv_aload_n hx hb dX6_setRecovery_29 rfl (lv_at hl 1 rfl) ?_
    refine g_getiv (k := 32) (v := 0) B F P ok6 (by decide) rfl rfl rfl (by decide) q846 dX6_setRecovery_30 rfl ?_
    refine lv_if_ne (tgt := 40) hx hb dX6_setRecovery_33 (by decide) (fun h9 => absurd h9 (by decide)) (fun _ => ?_)
    refine lv_iload_n hx hb dX6_setRecovery_36 rfl (lv_at hl 2 rfl) ?_
    refine lv_goto (tgt := 41) hx hb dX6_setRecovery_37 (by decide) ?_
    refine g_puti (k := 11) B F P ok6 (by decide) rfl rfl rfl (by decide) rfl (tyX6_ok 11 (by decide)) q825 dX6_setRecovery_41 (fun H locs P => ?_)
    refine lv_aload_n hx hb dX6_setRecovery_44 rfl (lv_at hl 1 rfl) ?_
    refine g_getiv (k := 32) (v := 0) B F P ok6 (by decide) rfl rfl rfl (by decide) q846 dX6_setRecovery_45 rfl ?_
    refine lv_if_ne (tgt := 55) hx hb dX6_setRecovery_48 (by decide) (fun h9 => absurd h9 (by decide)) (fun _ => ?_)
    refine lv_iload_n hx hb dX6_setRecovery_51 rfl (lv_at hl 0 rfl) ?_
    refine lv_goto (tgt := 56) hx hb dX6_setRecovery_52 (by decide) ?_
    exact g_reti B P (by rw [← hE]) (by rw [← hE]) hrt hlk dX6_setRecovery_56
def f_X6_clean (t : Int32) (σ : Sg) : Int32 × Sg := if (f_X6_isTrain t σ) = 0 then ((-1), (sI σ 19 32 1)) else (if (f_X6_of t 2 σ) ≤ 0 then (if (rI σ 19 8) = 0 then ((-1), (sI σ 19 32 3)) else (if (rI σ 22 t.toNatClampNeg) ≤ (rI σ 20 (Int32.toNatClampNeg 12)) then ((f_X6_of t 2 (sI (sI (sI σ 19 32 0) 20 (Int32.toNatClampNeg 12) ((rI (sI σ 19 32 0) 20 (Int32.toNatClampNeg 12)) - (rI (sI σ 19 32 0) 22 t.toNatClampNeg))) 20 ((3 * t) + 2).toNatClampNeg (2 + ((f_X6_of t 0 (sI (sI σ 19 32 0) 20 (Int32.toNatClampNeg 12) ((rI (sI σ 19 32 0) 20 (Int32.toNatClampNeg 12)) - (rI (sI σ 19 32 0) 22 t.toNatClampNeg)))) / 20)))), (sI (sI (sI σ 19 32 0) 20 (Int32.toNatClampNeg 12) ((rI (sI σ 19 32 0) 20 (Int32.toNatClampNeg 12)) - (rI (sI σ 19 32 0) 22 t.toNatClampNeg))) 20 ((3 * t) + 2).toNatClampNeg (2 + ((f_X6_of t 0 (sI (sI σ 19 32 0) 20 (Int32.toNatClampNeg 12) ((rI (sI σ 19 32 0) 20 (Int32.toNatClampNeg 12)) - (rI (sI σ 19 32 0) 22 t.toNatClampNeg)))) / 20)))) else ((-1), (sI σ 19 32 3)))) else ((-1), (sI σ 19 32 2)))
set_option maxHeartbeats 4000000 in
set_option maxRecDepth 100000 in
theorem ct_X6_clean {D : va_G} {ad : Nat → Nat} {cy : Nat → ClassId} {ba : Nat} (l : Launch) (t : Int32) (σ : Sg) (hM : GM 99000 σ) : Ct D ad cy ba l 2 yX6_clean cX6_clean 2 (some .int) [.ref (ad 19), .int t] σ (some (.int (f_X6_clean t σ).1)) (f_X6_clean t σ).2 := by
  generalize hE : f_X6_clean t σ = Z
  dsimp only [f_X6_clean] at hE
  refine Ct.of (by decide +kernel) (Nat.le_of_ble_eq_true rfl) ?_
  intro p e s m below meth c ls B F P hrt hlk hl
  have hx := B.1
  have hb := B.2.1
  have hl : lv_has ls 2 [(0, .ref (ad 19)), (1, .int t)] := hl
  refine lv_aload_n hx hb dX6_clean_0 rfl (lv_at hl 0 rfl) ?_
  refine lv_aload_n hx hb dX6_clean_1 rfl (lv_at hl 0 rfl) ?_
  refine lv_iload_n hx hb dX6_clean_2 rfl (lv_at hl 1 rfl) ?_
  refine g_callV B F P (As := [.int t]) (ct_X6_isTrain (D := D) (ad := ad) (cy := cy) (ba := ba) l t σ ) ok6 (by decide) rfl q934 q936 qs12 q8 q937 nk_X6_isTrain rfl ⟨(Nat.le_of_ble_eq_true rfl), (Nat.le_of_ble_eq_true rfl)⟩ hl.1 rfl (Nat.le_of_ble_eq_true rfl) dX6_clean_3 ⟨Nat.le_of_ble_eq_true rfl, Nat.le_of_ble_eq_true rfl⟩ (fun H locs P => ?_)
  refine lv_if_ne (tgt := 13) hx hb dX6_clean_6 (by decide) (fun c6 => ?_) (fun c6 => ?_)
  · rw [if_neg c6] at hE
    refine lv_aload_n hx hb dX6_clean_13 rfl (lv_at hl 0 rfl) ?_
    refine lv_iload_n hx hb dX6_clean_14 rfl (lv_at hl 1 rfl) ?_
    refine lv_iconst (v := 2) hx hb dX6_clean_15 (by decide) ?_
    refine g_callV B F P (As := [.int t, .int 2]) (ct_X6_of (D := D) (ad := ad) (cy := cy) (ba := ba) l t 2 σ (now_in (mtr_in hM.1 hM.2.2.2.2.1 c6) (by decide))) ok6 (by decide) rfl q954 q956 qs13 q8 q957 nk_X6_of rfl ⟨(Nat.le_of_ble_eq_true rfl), (Nat.le_of_ble_eq_true rfl)⟩ hl.1 rfl (Nat.le_of_ble_eq_true rfl) dX6_clean_16 ⟨Nat.le_of_ble_eq_true rfl, Nat.le_of_ble_eq_true rfl⟩ (fun H locs P => ?_)
    refine lv_if_le (tgt := 26) hx hb dX6_clean_19 (by decide) (fun c19 => ?_) (fun c19 => ?_)
    · rw [if_pos c19] at hE
      refine lv_aload_n hx hb dX6_clean_26 rfl (lv_at hl 0 rfl) ?_
      refine g_geti (k := 8) B F P ok6 (by decide) rfl rfl rfl (by decide) q822 dX6_clean_27 ?_
      refine lv_if_eq (tgt := 49) hx hb dX6_clean_30 (by decide) (fun c30 => ?_) (fun c30 => ?_)
      · rw [if_pos c30] at hE
        refine lv_iconst (v := 3) hx hb dX6_clean_49 (by decide) ?_
        refine lv_goto (tgt := 54) hx hb dX6_clean_50 (by decide) ?_
        refine g_puti (k := 32) B F P ok6 (by decide) rfl rfl rfl (by decide) rfl (tyX6_ok 32 (by decide)) q846 dX6_clean_54 (fun H locs P => ?_)
        refine lv_aload_n hx hb dX6_clean_57 rfl (lv_at hl 0 rfl) ?_
        refine g_getiv (k := 32) (v := 3) B F P ok6 (by decide) rfl rfl rfl (by decide) q846 dX6_clean_58 rfl ?_
        refine lv_if_le (tgt := 66) hx hb dX6_clean_61 (by decide) (fun h9 => absurd h9 (by decide)) (fun _ => ?_)
        refine lv_iconst (v := (-1)) hx hb dX6_clean_64 (by decide) ?_
        exact g_reti B P (by rw [← hE]) (by rw [← hE]) hrt hlk dX6_clean_65
      · rw [if_neg c30] at hE
        refine lv_aload_n hx hb dX6_clean_33 rfl (lv_at hl 0 rfl) ?_
        refine g_getr (k := 0) (t := 20) B F P ok6 (by decide) rfl rfl rfl (by decide) rfl q814 dX6_clean_34 ?_
        refine lv_bipush (v := 12) hx hb dX6_clean_37 (by decide) ?_
        refine g_ild B F P (by decide) rfl rfl (by unfold vp_in; decide) dX6_clean_39 ?_
        refine lv_aload_n hx hb dX6_clean_40 rfl (lv_at hl 0 rfl) ?_
        refine g_getr (k := 2) (t := 22) B F P ok6 (by decide) rfl rfl rfl (by decide) rfl q816 dX6_clean_41 ?_
        refine lv_iload_n hx hb dX6_clean_44 rfl (lv_at hl 1 rfl) ?_
        refine g_ild B F P (by decide) rfl rfl (mtr_in hM.1 hM.2.2.2.2.1 c6) dX6_clean_45 ?_
        refine lv_icmp_ge (tgt := 53) hx hb dX6_clean_46 (by decide) (fun c46 => ?_) (fun c46 => ?_)
        · rw [if_pos c46] at hE
          refine lv_iconst (v := 0) hx hb dX6_clean_53 (by decide) ?_
          refine g_puti (k := 32) B F P ok6 (by decide) rfl rfl rfl (by decide) rfl (tyX6_ok 32 (by decide)) q846 dX6_clean_54 (fun H locs P => ?_)
          refine lv_aload_n hx hb dX6_clean_57 rfl (lv_at hl 0 rfl) ?_
          refine g_getiv (k := 32) (v := 0) B F P ok6 (by decide) rfl rfl rfl (by decide) q846 dX6_clean_58 rfl ?_
          refine lv_if_le (tgt := 66) hx hb dX6_clean_61 (by decide) (fun _ => ?_) (fun h9 => absurd h9 (by decide))
          refine lv_aload_n hx hb dX6_clean_66 rfl (lv_at hl 0 rfl) ?_
          refine g_getr (k := 0) (t := 20) B F P ok6 (by decide) rfl rfl rfl (by decide) rfl q814 dX6_clean_67 ?_
          refine lv_bipush (v := 12) hx hb dX6_clean_70 (by decide) ?_
          refine lv_dup2_11 hx hb dX6_clean_72 rfl rfl ?_
          refine g_ild B F P (by decide) rfl rfl (by unfold vp_in; decide) dX6_clean_73 ?_
          refine lv_aload_n hx hb dX6_clean_74 rfl (lv_at hl 0 rfl) ?_
          refine g_getr (k := 2) (t := 22) B F P ok6 (by decide) rfl rfl rfl (by decide) rfl q816 dX6_clean_75 ?_
          refine lv_iload_n hx hb dX6_clean_78 rfl (lv_at hl 1 rfl) ?_
          refine g_ild B F P (by decide) rfl rfl (mtr_in hM.1 hM.2.2.2.2.1 c6) dX6_clean_79 ?_
          refine lv_isub hx hb dX6_clean_80 ?_
          refine g_ist B F P (by decide) rfl rfl (by unfold vp_in; decide) dX6_clean_81 (fun H locs P => ?_)
          refine lv_aload_n hx hb dX6_clean_82 rfl (lv_at hl 0 rfl) ?_
          refine g_getr (k := 0) (t := 20) B F P ok6 (by decide) rfl rfl rfl (by decide) rfl q814 dX6_clean_83 ?_
          refine lv_iconst (v := 3) hx hb dX6_clean_86 (by decide) ?_
          refine lv_iload_n hx hb dX6_clean_87 rfl (lv_at hl 1 rfl) ?_
          refine lv_imul hx hb dX6_clean_88 ?_
          refine lv_iconst (v := 2) hx hb dX6_clean_89 (by decide) ?_
          refine lv_iadd hx hb dX6_clean_90 ?_
          refine lv_iconst (v := 2) hx hb dX6_clean_91 (by decide) ?_
          refine lv_aload_n hx hb dX6_clean_92 rfl (lv_at hl 0 rfl) ?_
          refine lv_iload_n hx hb dX6_clean_93 rfl (lv_at hl 1 rfl) ?_
          refine lv_iconst (v := 0) hx hb dX6_clean_94 (by decide) ?_
          refine g_callV B F P (As := [.int t, .int 0]) (ct_X6_of (D := D) (ad := ad) (cy := cy) (ba := ba) l t 0 (sI (sI σ 19 32 0) 20 (Int32.toNatClampNeg 12) ((rI (sI σ 19 32 0) 20 (Int32.toNatClampNeg 12)) - (rI (sI σ 19 32 0) 22 t.toNatClampNeg))) (now_in (mtr_in hM.1 hM.2.2.2.2.1 c6) (by decide))) ok6 (by decide) rfl q954 q956 qs13 q8 q957 nk_X6_of rfl ⟨(Nat.le_of_ble_eq_true rfl), (Nat.le_of_ble_eq_true rfl)⟩ hl.1 rfl (Nat.le_of_ble_eq_true rfl) dX6_clean_95 ⟨Nat.le_of_ble_eq_true rfl, Nat.le_of_ble_eq_true rfl⟩ (fun H locs P => ?_)
          refine lv_bipush (v := 20) hx hb dX6_clean_98 (by decide) ?_
          refine lv_idiv hx hb dX6_clean_100 (by decide) ?_
          refine lv_iadd hx hb dX6_clean_101 ?_
          refine g_ist B F P (by decide) rfl rfl (now_in (mtr_in hM.1 hM.2.2.2.2.1 c6) (by decide)) dX6_clean_102 (fun H locs P => ?_)
          refine lv_aload_n hx hb dX6_clean_103 rfl (lv_at hl 0 rfl) ?_
          refine lv_iload_n hx hb dX6_clean_104 rfl (lv_at hl 1 rfl) ?_
          refine lv_iconst (v := 2) hx hb dX6_clean_105 (by decide) ?_
          refine g_callV B F P (As := [.int t, .int 2]) (ct_X6_of (D := D) (ad := ad) (cy := cy) (ba := ba) l t 2 (sI (sI (sI σ 19 32 0) 20 (Int32.toNatClampNeg 12) ((rI (sI σ 19 32 0) 20 (Int32.toNatClampNeg 12)) - (rI (sI σ 19 32 0) 22 t.toNatClampNeg))) 20 ((3 * t) + 2).toNatClampNeg (2 + ((f_X6_of t 0 (sI (sI σ 19 32 0) 20 (Int32.toNatClampNeg 12) ((rI (sI σ 19 32 0) 20 (Int32.toNatClampNeg 12)) - (rI (sI σ 19 32 0) 22 t.toNatClampNeg)))) / 20))) (now_in (mtr_in hM.1 hM.2.2.2.2.1 c6) (by decide))) ok6 (by decide) rfl q954 q956 qs13 q8 q957 nk_X6_of rfl ⟨(Nat.le_of_ble_eq_true rfl), (Nat.le_of_ble_eq_true rfl)⟩ hl.1 rfl (Nat.le_of_ble_eq_true rfl) dX6_clean_106 ⟨Nat.le_of_ble_eq_true rfl, Nat.le_of_ble_eq_true rfl⟩ (fun H locs P => ?_)
          exact g_reti B P (by rw [← hE]) (by rw [← hE]) hrt hlk dX6_clean_109
        · rw [if_neg c46] at hE
          refine lv_iconst (v := 3) hx hb dX6_clean_49 (by decide) ?_
          refine lv_goto (tgt := 54) hx hb dX6_clean_50 (by decide) ?_
          refine g_puti (k := 32) B F P ok6 (by decide) rfl rfl rfl (by decide) rfl (tyX6_ok 32 (by decide)) q846 dX6_clean_54 (fun H locs P => ?_)
          refine lv_aload_n hx hb dX6_clean_57 rfl (lv_at hl 0 rfl) ?_
          refine g_getiv (k := 32) (v := 3) B F P ok6 (by decide) rfl rfl rfl (by decide) q846 dX6_clean_58 rfl ?_
          refine lv_if_le (tgt := 66) hx hb dX6_clean_61 (by decide) (fun h9 => absurd h9 (by decide)) (fun _ => ?_)
          refine lv_iconst (v := (-1)) hx hb dX6_clean_64 (by decide) ?_
          exact g_reti B P (by rw [← hE]) (by rw [← hE]) hrt hlk dX6_clean_65
    · rw [if_neg c19] at hE
      refine lv_iconst (v := 2) hx hb dX6_clean_22 (by decide) ?_
      refine lv_goto (tgt := 54) hx hb dX6_clean_23 (by decide) ?_
      refine g_puti (k := 32) B F P ok6 (by decide) rfl rfl rfl (by decide) rfl (tyX6_ok 32 (by decide)) q846 dX6_clean_54 (fun H locs P => ?_)
      refine lv_aload_n hx hb dX6_clean_57 rfl (lv_at hl 0 rfl) ?_
      refine g_getiv (k := 32) (v := 2) B F P ok6 (by decide) rfl rfl rfl (by decide) q846 dX6_clean_58 rfl ?_
      refine lv_if_le (tgt := 66) hx hb dX6_clean_61 (by decide) (fun h9 => absurd h9 (by decide)) (fun _ => ?_)
      refine lv_iconst (v := (-1)) hx hb dX6_clean_64 (by decide) ?_
      exact g_reti B P (by rw [← hE]) (by rw [← hE]) hrt hlk dX6_clean_65
  · rw [if_pos c6] at hE
    refine lv_iconst (v := 1) hx hb dX6_clean_9 (by decide) ?_
    refine lv_goto (tgt := 54) hx hb dX6_clean_10 (by decide) ?_
    refine g_puti (k := 32) B F P ok6 (by decide) rfl rfl rfl (by decide) rfl (tyX6_ok 32 (by decide)) q846 dX6_clean_54 (fun H locs P => ?_)
    refine lv_aload_n hx hb dX6_clean_57 rfl (lv_at hl 0 rfl) ?_
    refine g_getiv (k := 32) (v := 1) B F P ok6 (by decide) rfl rfl rfl (by decide) q846 dX6_clean_58 rfl ?_
    refine lv_if_le (tgt := 66) hx hb dX6_clean_61 (by decide) (fun h9 => absurd h9 (by decide)) (fun _ => ?_)
    refine lv_iconst (v := (-1)) hx hb dX6_clean_64 (by decide) ?_
    exact g_reti B P (by rw [← hE]) (by rw [← hE]) hrt hlk dX6_clean_65
def f_X6_fouling (t : Int32) (σ : Sg) : Int32 × Sg := if (f_X6_isTrain t σ) = 0 then ((-1), (sI σ 19 32 1)) else ((f_X6_of t 0 (sI σ 19 32 0)), (sI σ 19 32 0))
set_option maxHeartbeats 4000000 in
set_option maxRecDepth 100000 in
theorem ct_X6_fouling {D : va_G} {ad : Nat → Nat} {cy : Nat → ClassId} {ba : Nat} (l : Launch) (t : Int32) (σ : Sg) (hM : GM 99000 σ) : Ct D ad cy ba l 2 yX6_fouling cX6_fouling 2 (some .int) [.ref (ad 19), .int t] σ (some (.int (f_X6_fouling t σ).1)) (f_X6_fouling t σ).2 := by
  generalize hE : f_X6_fouling t σ = Z
  dsimp only [f_X6_fouling] at hE
  refine Ct.of (by decide +kernel) (Nat.le_of_ble_eq_true rfl) ?_
  intro p e s m below meth c ls B F P hrt hlk hl
  have hx := B.1
  have hb := B.2.1
  have hl : lv_has ls 2 [(0, .ref (ad 19)), (1, .int t)] := hl
  refine lv_aload_n hx hb dX6_fouling_0 rfl (lv_at hl 0 rfl) ?_
  refine lv_aload_n hx hb dX6_fouling_1 rfl (lv_at hl 0 rfl) ?_
  refine lv_iload_n hx hb dX6_fouling_2 rfl (lv_at hl 1 rfl) ?_
  refine g_callV B F P (As := [.int t]) (ct_X6_isTrain (D := D) (ad := ad) (cy := cy) (ba := ba) l t σ ) ok6 (by decide) rfl q934 q936 qs12 q8 q937 nk_X6_isTrain rfl ⟨(Nat.le_of_ble_eq_true rfl), (Nat.le_of_ble_eq_true rfl)⟩ hl.1 rfl (Nat.le_of_ble_eq_true rfl) dX6_fouling_3 ⟨Nat.le_of_ble_eq_true rfl, Nat.le_of_ble_eq_true rfl⟩ (fun H locs P => ?_)
  refine lv_if_eq (tgt := 13) hx hb dX6_fouling_6 (by decide) (fun c6 => ?_) (fun c6 => ?_)
  · rw [if_pos c6] at hE
    refine lv_iconst (v := 1) hx hb dX6_fouling_13 (by decide) ?_
    refine g_puti (k := 32) B F P ok6 (by decide) rfl rfl rfl (by decide) rfl (tyX6_ok 32 (by decide)) q846 dX6_fouling_14 (fun H locs P => ?_)
    refine lv_aload_n hx hb dX6_fouling_17 rfl (lv_at hl 0 rfl) ?_
    refine g_getiv (k := 32) (v := 1) B F P ok6 (by decide) rfl rfl rfl (by decide) q846 dX6_fouling_18 rfl ?_
    refine lv_if_ne (tgt := 33) hx hb dX6_fouling_21 (by decide) (fun _ => ?_) (fun h9 => absurd h9 (by decide))
    refine lv_iconst (v := (-1)) hx hb dX6_fouling_33 (by decide) ?_
    exact g_reti B P (by rw [← hE]) (by rw [← hE]) hrt hlk dX6_fouling_34
  · rw [if_neg c6] at hE
    refine lv_iconst (v := 0) hx hb dX6_fouling_9 (by decide) ?_
    refine lv_goto (tgt := 14) hx hb dX6_fouling_10 (by decide) ?_
    refine g_puti (k := 32) B F P ok6 (by decide) rfl rfl rfl (by decide) rfl (tyX6_ok 32 (by decide)) q846 dX6_fouling_14 (fun H locs P => ?_)
    refine lv_aload_n hx hb dX6_fouling_17 rfl (lv_at hl 0 rfl) ?_
    refine g_getiv (k := 32) (v := 0) B F P ok6 (by decide) rfl rfl rfl (by decide) q846 dX6_fouling_18 rfl ?_
    refine lv_if_ne (tgt := 33) hx hb dX6_fouling_21 (by decide) (fun h9 => absurd h9 (by decide)) (fun _ => ?_)
    refine lv_aload_n hx hb dX6_fouling_24 rfl (lv_at hl 0 rfl) ?_
    refine lv_iload_n hx hb dX6_fouling_25 rfl (lv_at hl 1 rfl) ?_
    refine lv_iconst (v := 0) hx hb dX6_fouling_26 (by decide) ?_
    refine g_callV B F P (As := [.int t, .int 0]) (ct_X6_of (D := D) (ad := ad) (cy := cy) (ba := ba) l t 0 (sI σ 19 32 0) (now_in (mtr_in hM.1 hM.2.2.2.2.1 c6) (by decide))) ok6 (by decide) rfl q954 q956 qs13 q8 q957 nk_X6_of rfl ⟨(Nat.le_of_ble_eq_true rfl), (Nat.le_of_ble_eq_true rfl)⟩ hl.1 rfl (Nat.le_of_ble_eq_true rfl) dX6_fouling_27 ⟨Nat.le_of_ble_eq_true rfl, Nat.le_of_ble_eq_true rfl⟩ (fun H locs P => ?_)
    refine lv_goto (tgt := 34) hx hb dX6_fouling_30 (by decide) ?_
    exact g_reti B P (by rw [← hE]) (by rw [← hE]) hrt hlk dX6_fouling_34
def f_X6_wear (t : Int32) (σ : Sg) : Int32 × Sg := if (f_X6_isTrain t σ) = 0 then ((-1), (sI σ 19 32 1)) else ((f_X6_of t 1 (sI σ 19 32 0)), (sI σ 19 32 0))
set_option maxHeartbeats 4000000 in
set_option maxRecDepth 100000 in
theorem ct_X6_wear {D : va_G} {ad : Nat → Nat} {cy : Nat → ClassId} {ba : Nat} (l : Launch) (t : Int32) (σ : Sg) (hM : GM 99000 σ) : Ct D ad cy ba l 2 yX6_wear cX6_wear 2 (some .int) [.ref (ad 19), .int t] σ (some (.int (f_X6_wear t σ).1)) (f_X6_wear t σ).2 := by
  generalize hE : f_X6_wear t σ = Z
  dsimp only [f_X6_wear] at hE
  refine Ct.of (by decide +kernel) (Nat.le_of_ble_eq_true rfl) ?_
  intro p e s m below meth c ls B F P hrt hlk hl
  have hx := B.1
  have hb := B.2.1
  have hl : lv_has ls 2 [(0, .ref (ad 19)), (1, .int t)] := hl
  refine lv_aload_n hx hb dX6_wear_0 rfl (lv_at hl 0 rfl) ?_
  refine lv_aload_n hx hb dX6_wear_1 rfl (lv_at hl 0 rfl) ?_
  refine lv_iload_n hx hb dX6_wear_2 rfl (lv_at hl 1 rfl) ?_
  refine g_callV B F P (As := [.int t]) (ct_X6_isTrain (D := D) (ad := ad) (cy := cy) (ba := ba) l t σ ) ok6 (by decide) rfl q934 q936 qs12 q8 q937 nk_X6_isTrain rfl ⟨(Nat.le_of_ble_eq_true rfl), (Nat.le_of_ble_eq_true rfl)⟩ hl.1 rfl (Nat.le_of_ble_eq_true rfl) dX6_wear_3 ⟨Nat.le_of_ble_eq_true rfl, Nat.le_of_ble_eq_true rfl⟩ (fun H locs P => ?_)
  refine lv_if_eq (tgt := 13) hx hb dX6_wear_6 (by decide) (fun c6 => ?_) (fun c6 => ?_)
  · rw [if_pos c6] at hE
    refine lv_iconst (v := 1) hx hb dX6_wear_13 (by decide) ?_
    refine g_puti (k := 32) B F P ok6 (by decide) rfl rfl rfl (by decide) rfl (tyX6_ok 32 (by decide)) q846 dX6_wear_14 (fun H locs P => ?_)
    refine lv_aload_n hx hb dX6_wear_17 rfl (lv_at hl 0 rfl) ?_
    refine g_getiv (k := 32) (v := 1) B F P ok6 (by decide) rfl rfl rfl (by decide) q846 dX6_wear_18 rfl ?_
    refine lv_if_ne (tgt := 33) hx hb dX6_wear_21 (by decide) (fun _ => ?_) (fun h9 => absurd h9 (by decide))
    refine lv_iconst (v := (-1)) hx hb dX6_wear_33 (by decide) ?_
    exact g_reti B P (by rw [← hE]) (by rw [← hE]) hrt hlk dX6_wear_34
  · rw [if_neg c6] at hE
    refine lv_iconst (v := 0) hx hb dX6_wear_9 (by decide) ?_
    refine lv_goto (tgt := 14) hx hb dX6_wear_10 (by decide) ?_
    refine g_puti (k := 32) B F P ok6 (by decide) rfl rfl rfl (by decide) rfl (tyX6_ok 32 (by decide)) q846 dX6_wear_14 (fun H locs P => ?_)
    refine lv_aload_n hx hb dX6_wear_17 rfl (lv_at hl 0 rfl) ?_
    refine g_getiv (k := 32) (v := 0) B F P ok6 (by decide) rfl rfl rfl (by decide) q846 dX6_wear_18 rfl ?_
    refine lv_if_ne (tgt := 33) hx hb dX6_wear_21 (by decide) (fun h9 => absurd h9 (by decide)) (fun _ => ?_)
    refine lv_aload_n hx hb dX6_wear_24 rfl (lv_at hl 0 rfl) ?_
    refine lv_iload_n hx hb dX6_wear_25 rfl (lv_at hl 1 rfl) ?_
    refine lv_iconst (v := 1) hx hb dX6_wear_26 (by decide) ?_
    refine g_callV B F P (As := [.int t, .int 1]) (ct_X6_of (D := D) (ad := ad) (cy := cy) (ba := ba) l t 1 (sI σ 19 32 0) (now_in (mtr_in hM.1 hM.2.2.2.2.1 c6) (by decide))) ok6 (by decide) rfl q954 q956 qs13 q8 q957 nk_X6_of rfl ⟨(Nat.le_of_ble_eq_true rfl), (Nat.le_of_ble_eq_true rfl)⟩ hl.1 rfl (Nat.le_of_ble_eq_true rfl) dX6_wear_27 ⟨Nat.le_of_ble_eq_true rfl, Nat.le_of_ble_eq_true rfl⟩ (fun H locs P => ?_)
    refine lv_goto (tgt := 34) hx hb dX6_wear_30 (by decide) ?_
    exact g_reti B P (by rw [← hE]) (by rw [← hE]) hrt hlk dX6_wear_34
def f_X6_cleaningLeft (t : Int32) (σ : Sg) : Int32 × Sg := if (f_X6_isTrain t σ) = 0 then ((-1), (sI σ 19 32 1)) else ((f_X6_of t 2 (sI σ 19 32 0)), (sI σ 19 32 0))
set_option maxHeartbeats 4000000 in
set_option maxRecDepth 100000 in
theorem ct_X6_cleaningLeft {D : va_G} {ad : Nat → Nat} {cy : Nat → ClassId} {ba : Nat} (l : Launch) (t : Int32) (σ : Sg) (hM : GM 99000 σ) : Ct D ad cy ba l 2 yX6_cleaningLeft cX6_cleaningLeft 2 (some .int) [.ref (ad 19), .int t] σ (some (.int (f_X6_cleaningLeft t σ).1)) (f_X6_cleaningLeft t σ).2 := by
  generalize hE : f_X6_cleaningLeft t σ = Z
  dsimp only [f_X6_cleaningLeft] at hE
  refine Ct.of (by decide +kernel) (Nat.le_of_ble_eq_true rfl) ?_
  intro p e s m below meth c ls B F P hrt hlk hl
  have hx := B.1
  have hb := B.2.1
  have hl : lv_has ls 2 [(0, .ref (ad 19)), (1, .int t)] := hl
  refine lv_aload_n hx hb dX6_cleaningLeft_0 rfl (lv_at hl 0 rfl) ?_
  refine lv_aload_n hx hb dX6_cleaningLeft_1 rfl (lv_at hl 0 rfl) ?_
  refine lv_iload_n hx hb dX6_cleaningLeft_2 rfl (lv_at hl 1 rfl) ?_
  refine g_callV B F P (As := [.int t]) (ct_X6_isTrain (D := D) (ad := ad) (cy := cy) (ba := ba) l t σ ) ok6 (by decide) rfl q934 q936 qs12 q8 q937 nk_X6_isTrain rfl ⟨(Nat.le_of_ble_eq_true rfl), (Nat.le_of_ble_eq_true rfl)⟩ hl.1 rfl (Nat.le_of_ble_eq_true rfl) dX6_cleaningLeft_3 ⟨Nat.le_of_ble_eq_true rfl, Nat.le_of_ble_eq_true rfl⟩ (fun H locs P => ?_)
  refine lv_if_eq (tgt := 13) hx hb dX6_cleaningLeft_6 (by decide) (fun c6 => ?_) (fun c6 => ?_)
  · rw [if_pos c6] at hE
    refine lv_iconst (v := 1) hx hb dX6_cleaningLeft_13 (by decide) ?_
    refine g_puti (k := 32) B F P ok6 (by decide) rfl rfl rfl (by decide) rfl (tyX6_ok 32 (by decide)) q846 dX6_cleaningLeft_14 (fun H locs P => ?_)
    refine lv_aload_n hx hb dX6_cleaningLeft_17 rfl (lv_at hl 0 rfl) ?_
    refine g_getiv (k := 32) (v := 1) B F P ok6 (by decide) rfl rfl rfl (by decide) q846 dX6_cleaningLeft_18 rfl ?_
    refine lv_if_ne (tgt := 33) hx hb dX6_cleaningLeft_21 (by decide) (fun _ => ?_) (fun h9 => absurd h9 (by decide))
    refine lv_iconst (v := (-1)) hx hb dX6_cleaningLeft_33 (by decide) ?_
    exact g_reti B P (by rw [← hE]) (by rw [← hE]) hrt hlk dX6_cleaningLeft_34
  · rw [if_neg c6] at hE
    refine lv_iconst (v := 0) hx hb dX6_cleaningLeft_9 (by decide) ?_
    refine lv_goto (tgt := 14) hx hb dX6_cleaningLeft_10 (by decide) ?_
    refine g_puti (k := 32) B F P ok6 (by decide) rfl rfl rfl (by decide) rfl (tyX6_ok 32 (by decide)) q846 dX6_cleaningLeft_14 (fun H locs P => ?_)
    refine lv_aload_n hx hb dX6_cleaningLeft_17 rfl (lv_at hl 0 rfl) ?_
    refine g_getiv (k := 32) (v := 0) B F P ok6 (by decide) rfl rfl rfl (by decide) q846 dX6_cleaningLeft_18 rfl ?_
    refine lv_if_ne (tgt := 33) hx hb dX6_cleaningLeft_21 (by decide) (fun h9 => absurd h9 (by decide)) (fun _ => ?_)
    refine lv_aload_n hx hb dX6_cleaningLeft_24 rfl (lv_at hl 0 rfl) ?_
    refine lv_iload_n hx hb dX6_cleaningLeft_25 rfl (lv_at hl 1 rfl) ?_
    refine lv_iconst (v := 2) hx hb dX6_cleaningLeft_26 (by decide) ?_
    refine g_callV B F P (As := [.int t, .int 2]) (ct_X6_of (D := D) (ad := ad) (cy := cy) (ba := ba) l t 2 (sI σ 19 32 0) (now_in (mtr_in hM.1 hM.2.2.2.2.1 c6) (by decide))) ok6 (by decide) rfl q954 q956 qs13 q8 q957 nk_X6_of rfl ⟨(Nat.le_of_ble_eq_true rfl), (Nat.le_of_ble_eq_true rfl)⟩ hl.1 rfl (Nat.le_of_ble_eq_true rfl) dX6_cleaningLeft_27 ⟨Nat.le_of_ble_eq_true rfl, Nat.le_of_ble_eq_true rfl⟩ (fun H locs P => ?_)
    refine lv_goto (tgt := 34) hx hb dX6_cleaningLeft_30 (by decide) ?_
    exact g_reti B P (by rw [← hE]) (by rw [← hE]) hrt hlk dX6_cleaningLeft_34
def f_X6_productOf (t : Int32) (σ : Sg) : Int32 × Sg := if (f_X6_isTrain t σ) = 0 then ((-1), (sI σ 19 32 1)) else (if (f_X6_of t 2 σ) ≤ 0 then ((f_X6_gives t (sI σ 19 32 0)), (sI σ 19 32 0)) else ((-1), (sI σ 19 32 2)))
set_option maxHeartbeats 4000000 in
set_option maxRecDepth 100000 in
theorem ct_X6_productOf {D : va_G} {ad : Nat → Nat} {cy : Nat → ClassId} {ba : Nat} (l : Launch) (t : Int32) (σ : Sg) (hM : GM 99000 σ) : Ct D ad cy ba l 2 yX6_productOf cX6_productOf 2 (some .int) [.ref (ad 19), .int t] σ (some (.int (f_X6_productOf t σ).1)) (f_X6_productOf t σ).2 := by
  generalize hE : f_X6_productOf t σ = Z
  dsimp only [f_X6_productOf] at hE
  refine Ct.of (by decide +kernel) (Nat.le_of_ble_eq_true rfl) ?_
  intro p e s m below meth c ls B F P hrt hlk hl
  have hx := B.1
  have hb := B.2.1
  have hl : lv_has ls 2 [(0, .ref (ad 19)), (1, .int t)] := hl
  refine lv_aload_n hx hb dX6_productOf_0 rfl (lv_at hl 0 rfl) ?_
  refine lv_aload_n hx hb dX6_productOf_1 rfl (lv_at hl 0 rfl) ?_
  refine lv_iload_n hx hb dX6_productOf_2 rfl (lv_at hl 1 rfl) ?_
  refine g_callV B F P (As := [.int t]) (ct_X6_isTrain (D := D) (ad := ad) (cy := cy) (ba := ba) l t σ ) ok6 (by decide) rfl q934 q936 qs12 q8 q937 nk_X6_isTrain rfl ⟨(Nat.le_of_ble_eq_true rfl), (Nat.le_of_ble_eq_true rfl)⟩ hl.1 rfl (Nat.le_of_ble_eq_true rfl) dX6_productOf_3 ⟨Nat.le_of_ble_eq_true rfl, Nat.le_of_ble_eq_true rfl⟩ (fun H locs P => ?_)
  refine lv_if_ne (tgt := 13) hx hb dX6_productOf_6 (by decide) (fun c6 => ?_) (fun c6 => ?_)
  · rw [if_neg c6] at hE
    refine lv_aload_n hx hb dX6_productOf_13 rfl (lv_at hl 0 rfl) ?_
    refine lv_iload_n hx hb dX6_productOf_14 rfl (lv_at hl 1 rfl) ?_
    refine lv_iconst (v := 2) hx hb dX6_productOf_15 (by decide) ?_
    refine g_callV B F P (As := [.int t, .int 2]) (ct_X6_of (D := D) (ad := ad) (cy := cy) (ba := ba) l t 2 σ (now_in (mtr_in hM.1 hM.2.2.2.2.1 c6) (by decide))) ok6 (by decide) rfl q954 q956 qs13 q8 q957 nk_X6_of rfl ⟨(Nat.le_of_ble_eq_true rfl), (Nat.le_of_ble_eq_true rfl)⟩ hl.1 rfl (Nat.le_of_ble_eq_true rfl) dX6_productOf_16 ⟨Nat.le_of_ble_eq_true rfl, Nat.le_of_ble_eq_true rfl⟩ (fun H locs P => ?_)
    refine lv_if_le (tgt := 26) hx hb dX6_productOf_19 (by decide) (fun c19 => ?_) (fun c19 => ?_)
    · rw [if_pos c19] at hE
      refine lv_iconst (v := 0) hx hb dX6_productOf_26 (by decide) ?_
      refine g_puti (k := 32) B F P ok6 (by decide) rfl rfl rfl (by decide) rfl (tyX6_ok 32 (by decide)) q846 dX6_productOf_27 (fun H locs P => ?_)
      refine lv_aload_n hx hb dX6_productOf_30 rfl (lv_at hl 0 rfl) ?_
      refine g_getiv (k := 32) (v := 0) B F P ok6 (by decide) rfl rfl rfl (by decide) q846 dX6_productOf_31 rfl ?_
      refine lv_if_ne (tgt := 45) hx hb dX6_productOf_34 (by decide) (fun h9 => absurd h9 (by decide)) (fun _ => ?_)
      refine lv_aload_n hx hb dX6_productOf_37 rfl (lv_at hl 0 rfl) ?_
      refine lv_iload_n hx hb dX6_productOf_38 rfl (lv_at hl 1 rfl) ?_
      refine g_callV B F P (As := [.int t]) (ct_X6_gives (D := D) (ad := ad) (cy := cy) (ba := ba) l t (sI σ 19 32 0) (mtr_in hM.1 hM.2.2.2.2.1 c6)) ok6 (by decide) rfl q974 q976 qs14 q8 q977 nk_X6_gives rfl ⟨(Nat.le_of_ble_eq_true rfl), (Nat.le_of_ble_eq_true rfl)⟩ hl.1 rfl (Nat.le_of_ble_eq_true rfl) dX6_productOf_39 ⟨Nat.le_of_ble_eq_true rfl, Nat.le_of_ble_eq_true rfl⟩ (fun H locs P => ?_)
      refine lv_goto (tgt := 46) hx hb dX6_productOf_42 (by decide) ?_
      exact g_reti B P (by rw [← hE]) (by rw [← hE]) hrt hlk dX6_productOf_46
    · rw [if_neg c19] at hE
      refine lv_iconst (v := 2) hx hb dX6_productOf_22 (by decide) ?_
      refine lv_goto (tgt := 27) hx hb dX6_productOf_23 (by decide) ?_
      refine g_puti (k := 32) B F P ok6 (by decide) rfl rfl rfl (by decide) rfl (tyX6_ok 32 (by decide)) q846 dX6_productOf_27 (fun H locs P => ?_)
      refine lv_aload_n hx hb dX6_productOf_30 rfl (lv_at hl 0 rfl) ?_
      refine g_getiv (k := 32) (v := 2) B F P ok6 (by decide) rfl rfl rfl (by decide) q846 dX6_productOf_31 rfl ?_
      refine lv_if_ne (tgt := 45) hx hb dX6_productOf_34 (by decide) (fun _ => ?_) (fun h9 => absurd h9 (by decide))
      refine lv_iconst (v := (-1)) hx hb dX6_productOf_45 (by decide) ?_
      exact g_reti B P (by rw [← hE]) (by rw [← hE]) hrt hlk dX6_productOf_46
  · rw [if_pos c6] at hE
    refine lv_iconst (v := 1) hx hb dX6_productOf_9 (by decide) ?_
    refine lv_goto (tgt := 27) hx hb dX6_productOf_10 (by decide) ?_
    refine g_puti (k := 32) B F P ok6 (by decide) rfl rfl rfl (by decide) rfl (tyX6_ok 32 (by decide)) q846 dX6_productOf_27 (fun H locs P => ?_)
    refine lv_aload_n hx hb dX6_productOf_30 rfl (lv_at hl 0 rfl) ?_
    refine g_getiv (k := 32) (v := 1) B F P ok6 (by decide) rfl rfl rfl (by decide) q846 dX6_productOf_31 rfl ?_
    refine lv_if_ne (tgt := 45) hx hb dX6_productOf_34 (by decide) (fun _ => ?_) (fun h9 => absurd h9 (by decide))
    refine lv_iconst (v := (-1)) hx hb dX6_productOf_45 (by decide) ?_
    exact g_reti B P (by rw [← hE]) (by rw [← hE]) hrt hlk dX6_productOf_46
def f_X6_energyOf (t : Int32) (σ : Sg) : Int32 × Sg := if (f_X6_isTrain t σ) = 0 then ((-1), (sI σ 19 32 1)) else (if (f_X6_of t 2 σ) ≤ 0 then ((f_X6_needs t (sI σ 19 32 0)), (sI σ 19 32 0)) else ((-1), (sI σ 19 32 2)))
set_option maxHeartbeats 4000000 in
set_option maxRecDepth 100000 in
theorem ct_X6_energyOf {D : va_G} {ad : Nat → Nat} {cy : Nat → ClassId} {ba : Nat} (l : Launch) (t : Int32) (σ : Sg) (hM : GM 99000 σ) : Ct D ad cy ba l 4 yX6_energyOf cX6_energyOf 2 (some .int) [.ref (ad 19), .int t] σ (some (.int (f_X6_energyOf t σ).1)) (f_X6_energyOf t σ).2 := by
  generalize hE : f_X6_energyOf t σ = Z
  dsimp only [f_X6_energyOf] at hE
  refine Ct.of (by decide +kernel) (Nat.le_of_ble_eq_true rfl) ?_
  intro p e s m below meth c ls B F P hrt hlk hl
  have hx := B.1
  have hb := B.2.1
  have hl : lv_has ls 2 [(0, .ref (ad 19)), (1, .int t)] := hl
  refine lv_aload_n hx hb dX6_energyOf_0 rfl (lv_at hl 0 rfl) ?_
  refine lv_aload_n hx hb dX6_energyOf_1 rfl (lv_at hl 0 rfl) ?_
  refine lv_iload_n hx hb dX6_energyOf_2 rfl (lv_at hl 1 rfl) ?_
  refine g_callV B F P (As := [.int t]) (ct_X6_isTrain (D := D) (ad := ad) (cy := cy) (ba := ba) l t σ ) ok6 (by decide) rfl q934 q936 qs12 q8 q937 nk_X6_isTrain rfl ⟨(Nat.le_of_ble_eq_true rfl), (Nat.le_of_ble_eq_true rfl)⟩ hl.1 rfl (Nat.le_of_ble_eq_true rfl) dX6_energyOf_3 ⟨Nat.le_of_ble_eq_true rfl, Nat.le_of_ble_eq_true rfl⟩ (fun H locs P => ?_)
  refine lv_if_ne (tgt := 13) hx hb dX6_energyOf_6 (by decide) (fun c6 => ?_) (fun c6 => ?_)
  · rw [if_neg c6] at hE
    refine lv_aload_n hx hb dX6_energyOf_13 rfl (lv_at hl 0 rfl) ?_
    refine lv_iload_n hx hb dX6_energyOf_14 rfl (lv_at hl 1 rfl) ?_
    refine lv_iconst (v := 2) hx hb dX6_energyOf_15 (by decide) ?_
    refine g_callV B F P (As := [.int t, .int 2]) (ct_X6_of (D := D) (ad := ad) (cy := cy) (ba := ba) l t 2 σ (now_in (mtr_in hM.1 hM.2.2.2.2.1 c6) (by decide))) ok6 (by decide) rfl q954 q956 qs13 q8 q957 nk_X6_of rfl ⟨(Nat.le_of_ble_eq_true rfl), (Nat.le_of_ble_eq_true rfl)⟩ hl.1 rfl (Nat.le_of_ble_eq_true rfl) dX6_energyOf_16 ⟨Nat.le_of_ble_eq_true rfl, Nat.le_of_ble_eq_true rfl⟩ (fun H locs P => ?_)
    refine lv_if_le (tgt := 26) hx hb dX6_energyOf_19 (by decide) (fun c19 => ?_) (fun c19 => ?_)
    · rw [if_pos c19] at hE
      refine lv_iconst (v := 0) hx hb dX6_energyOf_26 (by decide) ?_
      refine g_puti (k := 32) B F P ok6 (by decide) rfl rfl rfl (by decide) rfl (tyX6_ok 32 (by decide)) q846 dX6_energyOf_27 (fun H locs P => ?_)
      refine lv_aload_n hx hb dX6_energyOf_30 rfl (lv_at hl 0 rfl) ?_
      refine g_getiv (k := 32) (v := 0) B F P ok6 (by decide) rfl rfl rfl (by decide) q846 dX6_energyOf_31 rfl ?_
      refine lv_if_ne (tgt := 45) hx hb dX6_energyOf_34 (by decide) (fun h9 => absurd h9 (by decide)) (fun _ => ?_)
      refine lv_aload_n hx hb dX6_energyOf_37 rfl (lv_at hl 0 rfl) ?_
      refine lv_iload_n hx hb dX6_energyOf_38 rfl (lv_at hl 1 rfl) ?_
      refine g_callV B F P (As := [.int t]) (ct_X6_needs (D := D) (ad := ad) (cy := cy) (ba := ba) l t (sI σ 19 32 0) (mtr_in hM.1 hM.2.2.2.2.1 c6) (hM.1.of rfl rfl rfl)) ok6 (by decide) rfl q985 q987 qs15 q8 q988 nk_X6_needs rfl ⟨(Nat.le_of_ble_eq_true rfl), (Nat.le_of_ble_eq_true rfl)⟩ hl.1 rfl (Nat.le_of_ble_eq_true rfl) dX6_energyOf_39 ⟨Nat.le_of_ble_eq_true rfl, Nat.le_of_ble_eq_true rfl⟩ (fun H locs P => ?_)
      refine lv_goto (tgt := 46) hx hb dX6_energyOf_42 (by decide) ?_
      exact g_reti B P (by rw [← hE]) (by rw [← hE]) hrt hlk dX6_energyOf_46
    · rw [if_neg c19] at hE
      refine lv_iconst (v := 2) hx hb dX6_energyOf_22 (by decide) ?_
      refine lv_goto (tgt := 27) hx hb dX6_energyOf_23 (by decide) ?_
      refine g_puti (k := 32) B F P ok6 (by decide) rfl rfl rfl (by decide) rfl (tyX6_ok 32 (by decide)) q846 dX6_energyOf_27 (fun H locs P => ?_)
      refine lv_aload_n hx hb dX6_energyOf_30 rfl (lv_at hl 0 rfl) ?_
      refine g_getiv (k := 32) (v := 2) B F P ok6 (by decide) rfl rfl rfl (by decide) q846 dX6_energyOf_31 rfl ?_
      refine lv_if_ne (tgt := 45) hx hb dX6_energyOf_34 (by decide) (fun _ => ?_) (fun h9 => absurd h9 (by decide))
      refine lv_iconst (v := (-1)) hx hb dX6_energyOf_45 (by decide) ?_
      exact g_reti B P (by rw [← hE]) (by rw [← hE]) hrt hlk dX6_energyOf_46
  · rw [if_pos c6] at hE
    refine lv_iconst (v := 1) hx hb dX6_energyOf_9 (by decide) ?_
    refine lv_goto (tgt := 27) hx hb dX6_energyOf_10 (by decide) ?_
    refine g_puti (k := 32) B F P ok6 (by decide) rfl rfl rfl (by decide) rfl (tyX6_ok 32 (by decide)) q846 dX6_energyOf_27 (fun H locs P => ?_)
    refine lv_aload_n hx hb dX6_energyOf_30 rfl (lv_at hl 0 rfl) ?_
    refine g_getiv (k := 32) (v := 1) B F P ok6 (by decide) rfl rfl rfl (by decide) q846 dX6_energyOf_31 rfl ?_
    refine lv_if_ne (tgt := 45) hx hb dX6_energyOf_34 (by decide) (fun _ => ?_) (fun h9 => absurd h9 (by decide))
    refine lv_iconst (v := (-1)) hx hb dX6_energyOf_45 (by decide) ?_
    exact g_reti B P (by rw [← hE]) (by rw [← hE]) hrt hlk dX6_energyOf_46
def f_X6_readyTrains_l9  : Nat → Int32 → Int32 → Sg → Int32 × Sg
  | 0, _, _, σ9 => (0, σ9)
  | n9 + 1, x2_9, x1_9, σ9 => if (rI σ9 19 4) ≤ x2_9 then (x1_9, σ9) else (if (f_X6_of x2_9 2 σ9) = 0 then (f_X6_readyTrains_l9  n9 (x2_9 + 1) (x1_9 + 1) σ9) else (f_X6_readyTrains_l9  n9 (x2_9 + 1) (x1_9 + 0) σ9))
def f_X6_readyTrains  (σ : Sg) : Int32 × Sg := f_X6_readyTrains_l9  5 0 0 (sI σ 19 32 0)
set_option maxHeartbeats 4000000 in
set_option maxRecDepth 100000 in
theorem ct_X6_readyTrains {D : va_G} {ad : Nat → Nat} {cy : Nat → ClassId} {ba : Nat} (l : Launch)  (σ : Sg) (hM : GM 99000 σ) : Ct D ad cy ba l 1 yX6_readyTrains cX6_readyTrains 3 (some .int) [.ref (ad 19)] σ (some (.int (f_X6_readyTrains  σ).1)) (f_X6_readyTrains  σ).2 := by
  generalize hE : f_X6_readyTrains  σ = Z
  dsimp only [f_X6_readyTrains] at hE
  refine Ct.of (by decide +kernel) (Nat.le_of_ble_eq_true rfl) ?_
  intro p e s m below meth c ls B F P hrt hlk hl
  have hx := B.1
  have hb := B.2.1
  have hl : lv_has ls 3 [(0, .ref (ad 19))] := hl
  refine lv_aload_n hx hb dX6_readyTrains_0 rfl (lv_at hl 0 rfl) ?_
  refine lv_iconst (v := 0) hx hb dX6_readyTrains_1 (by decide) ?_
  refine g_puti (k := 32) B F P ok6 (by decide) rfl rfl rfl (by decide) rfl (tyX6_ok 32 (by decide)) q846 dX6_readyTrains_2 (fun H locs P => ?_)
  refine lv_iconst (v := 0) hx hb dX6_readyTrains_5 (by decide) ?_
  refine lv_istore_n (lv' := [(1, .int 0), (0, .ref (ad 19))]) hx hb dX6_readyTrains_6 rfl hl (by decide) rfl (fun ls hl => ?_)
  refine lv_iconst (v := 0) hx hb dX6_readyTrains_7 (by decide) ?_
  refine lv_istore_n (lv' := [(2, .int 0), (1, .int 0), (0, .ref (ad 19))]) hx hb dX6_readyTrains_8 rfl hl (by decide) rfl (fun ls hl => ?_)
  have L9 : ∀ (n9 : Nat) (x2_9 : Int32) (x1_9 : Int32) (σ9 : Sg), LI 4 n9 x2_9 → GM 99000 σ9 → f_X6_readyTrains_l9  n9 x2_9 x1_9 σ9 = Z → ∀ (H : Heap) (locs : List Loc), Wo D ad cy ba s σ9 H locs → ∀ (ls : Array Slot), lv_has ls 3 [(2, .int x2_9), (1, .int x1_9), (0, .ref (ad 19))] → W p l e (rmK 1 0 0) s m ([.ref (ad 19)] : List Value).toArray below meth c H locs 0 0 (MQ below (Qe D ad cy ba (some (.int Z.1)) Z.2) ([.ref (ad 19)] : List Value).toArray s 0 0 (fun q => ba ≤ q)) (F0 m 9 ls []) := by
    clear hE P hl
    intro n9
    induction n9 with
    | zero => intro x2_9 x1_9 σ9 hI9 hM9 hE; exact absurd hI9 LI.zero
    | succ n9 ih9 =>
      intro x2_9 x1_9 σ9 hI9 hM9 hE H locs P ls hl
      dsimp only [f_X6_readyTrains_l9] at hE
      refine lv_iload_n hx hb dX6_readyTrains_9 rfl (lv_at hl 0 rfl) ?_
      refine lv_aload_n hx hb dX6_readyTrains_10 rfl (lv_at hl 2 rfl) ?_
      refine g_geti (k := 4) B F P ok6 (by decide) rfl rfl rfl (by decide) q818 dX6_readyTrains_11 ?_
      refine lv_icmp_ge (tgt := 40) hx hb dX6_readyTrains_14 (by decide) (fun c14 => ?_) (fun c14 => ?_)
      · rw [if_pos c14] at hE
        refine lv_iload_n hx hb dX6_readyTrains_40 rfl (lv_at hl 1 rfl) ?_
        exact g_reti B P (by rw [← hE]) (by rw [← hE]) hrt hlk dX6_readyTrains_41
      · rw [if_neg c14] at hE
        refine lv_iload_n hx hb dX6_readyTrains_17 rfl (lv_at hl 1 rfl) ?_
        refine lv_aload_n hx hb dX6_readyTrains_18 rfl (lv_at hl 2 rfl) ?_
        refine lv_iload_n hx hb dX6_readyTrains_19 rfl (lv_at hl 0 rfl) ?_
        refine lv_iconst (v := 2) hx hb dX6_readyTrains_20 (by decide) ?_
        refine g_callV B F P (As := [.int x2_9, .int 2]) (ct_X6_of (D := D) (ad := ad) (cy := cy) (ba := ba) l x2_9 2 σ9 (now_in (hI9.into c14 hM9.1.1) (by decide))) ok6 (by decide) rfl q954 q956 qs13 q8 q957 nk_X6_of rfl ⟨(Nat.le_of_ble_eq_true rfl), (Nat.le_of_ble_eq_true rfl)⟩ hl.1 rfl (Nat.le_of_ble_eq_true rfl) dX6_readyTrains_21 ⟨Nat.le_of_ble_eq_true rfl, Nat.le_of_ble_eq_true rfl⟩ (fun H locs P => ?_)
        refine lv_if_ne (tgt := 31) hx hb dX6_readyTrains_24 (by decide) (fun c24 => ?_) (fun c24 => ?_)
        · rw [if_neg c24] at hE
          refine lv_iconst (v := 0) hx hb dX6_readyTrains_31 (by decide) ?_
          refine lv_iadd hx hb dX6_readyTrains_32 ?_
          refine lv_istore_n (lv' := [(1, .int (x1_9 + 0)), (2, .int x2_9), (0, .ref (ad 19))]) hx hb dX6_readyTrains_33 rfl hl (by decide) rfl (fun ls hl => ?_)
          refine lv_iinc (v := (x2_9 + 1)) (lv' := [(2, .int (x2_9 + 1)), (1, .int (x1_9 + 0)), (0, .ref (ad 19))]) hx hb dX6_readyTrains_34 hl (k := 1) rfl (by first | rfl | decide) (by decide) rfl (fun ls hl => ?_)
          refine lv_goto (tgt := 9) hx hb dX6_readyTrains_37 (by decide) ?_
          exact ih9 (x2_9 + 1) (x1_9 + 0) σ9 (hI9.next c14 hM9.1.1) hM9 hE _ _ P _ (lv_sub hl [0, 1, 2] rfl)
        · rw [if_pos c24] at hE
          refine lv_iconst (v := 1) hx hb dX6_readyTrains_27 (by decide) ?_
          refine lv_goto (tgt := 32) hx hb dX6_readyTrains_28 (by decide) ?_
          refine lv_iadd hx hb dX6_readyTrains_32 ?_
          refine lv_istore_n (lv' := [(1, .int (x1_9 + 1)), (2, .int x2_9), (0, .ref (ad 19))]) hx hb dX6_readyTrains_33 rfl hl (by decide) rfl (fun ls hl => ?_)
          refine lv_iinc (v := (x2_9 + 1)) (lv' := [(2, .int (x2_9 + 1)), (1, .int (x1_9 + 1)), (0, .ref (ad 19))]) hx hb dX6_readyTrains_34 hl (k := 1) rfl (by first | rfl | decide) (by decide) rfl (fun ls hl => ?_)
          refine lv_goto (tgt := 9) hx hb dX6_readyTrains_37 (by decide) ?_
          exact ih9 (x2_9 + 1) (x1_9 + 1) σ9 (hI9.next c14 hM9.1.1) hM9 hE _ _ P _ (lv_sub hl [0, 1, 2] rfl)
  exact L9 5 0 0 (sI σ 19 32 0) LI.start (hM.of (by intro j hj; rcases hj with rfl | rfl | rfl | rfl | rfl | rfl <;> rfl) (fun _ => rfl)) hE _ _ P _ (lv_sub hl [0, 1, 2] rfl)
def f_X6_addTank (a : Int32) (σ : Sg) : Int32 × Sg := if (f_X6_in a.toInt64 1 2000 σ) = 0 then ((-1), (sI σ 19 32 1)) else (if (rI σ 19 8) = 3 then ((-1), (sI σ 19 32 2)) else ((((rI σ 19 8) + 1) - 1), (sI (sI (sI σ 19 32 0) 24 (rI σ 19 8).toNatClampNeg a) 19 8 ((rI σ 19 8) + 1))))
set_option maxHeartbeats 4000000 in
set_option maxRecDepth 100000 in
theorem ct_X6_addTank {D : va_G} {ad : Nat → Nat} {cy : Nat → ClassId} {ba : Nat} (l : Launch) (a : Int32) (σ : Sg) (hM : GM 99000 σ) : Ct D ad cy ba l 1 yX6_addTank cX6_addTank 2 (some .int) [.ref (ad 19), .int a] σ (some (.int (f_X6_addTank a σ).1)) (f_X6_addTank a σ).2 := by
  generalize hE : f_X6_addTank a σ = Z
  dsimp only [f_X6_addTank] at hE
  refine Ct.of (by decide +kernel) (Nat.le_of_ble_eq_true rfl) ?_
  intro p e s m below meth c ls B F P hrt hlk hl
  have hx := B.1
  have hb := B.2.1
  have hl : lv_has ls 2 [(0, .ref (ad 19)), (1, .int a)] := hl
  refine lv_aload_n hx hb dX6_addTank_0 rfl (lv_at hl 0 rfl) ?_
  refine lv_iload_n hx hb dX6_addTank_1 rfl (lv_at hl 1 rfl) ?_
  refine lv_i2l hx hb dX6_addTank_2 rfl ?_
  refine lv_lconst (v := 1) hx hb dX6_addTank_3 (by decide) ?_
  refine g_ldc2 B q1001 dX6_addTank_4 ?_
  refine g_callS B F P (As := [.long a.toInt64, .long 1, .long 2000]) (ct_X6_in (D := D) (ad := ad) (cy := cy) (ba := ba) l a.toInt64 1 2000 σ ) q927 q928 q8 q929 nk_X6_in rfl ⟨(Nat.le_of_ble_eq_true rfl), (Nat.le_of_ble_eq_true rfl)⟩ hl.1 rfl (Nat.le_of_ble_eq_true rfl) dX6_addTank_7 ⟨Nat.le_of_ble_eq_true rfl, Nat.le_of_ble_eq_true rfl⟩ (fun H locs P => ?_)
  refine lv_if_ne (tgt := 17) hx hb dX6_addTank_10 (by decide) (fun c10 => ?_) (fun c10 => ?_)
  · rw [if_neg c10] at hE
    refine lv_aload_n hx hb dX6_addTank_17 rfl (lv_at hl 0 rfl) ?_
    refine g_geti (k := 8) B F P ok6 (by decide) rfl rfl rfl (by decide) q822 dX6_addTank_18 ?_
    refine lv_iconst (v := 3) hx hb dX6_addTank_21 (by decide) ?_
    refine lv_icmp_ne (tgt := 29) hx hb dX6_addTank_22 (by decide) (fun c22 => ?_) (fun c22 => ?_)
    · rw [if_neg c22] at hE
      refine lv_iconst (v := 0) hx hb dX6_addTank_29 (by decide) ?_
      refine g_puti (k := 32) B F P ok6 (by decide) rfl rfl rfl (by decide) rfl (tyX6_ok 32 (by decide)) q846 dX6_addTank_30 (fun H locs P => ?_)
      refine lv_aload_n hx hb dX6_addTank_33 rfl (lv_at hl 0 rfl) ?_
      refine g_getiv (k := 32) (v := 0) B F P ok6 (by decide) rfl rfl rfl (by decide) q846 dX6_addTank_34 rfl ?_
      refine lv_if_le (tgt := 42) hx hb dX6_addTank_37 (by decide) (fun _ => ?_) (fun h9 => absurd h9 (by decide))
      refine lv_aload_n hx hb dX6_addTank_42 rfl (lv_at hl 0 rfl) ?_
      refine g_getr (k := 5) (t := 24) B F P ok6 (by decide) rfl rfl rfl (by decide) rfl q819 dX6_addTank_43 ?_
      refine lv_aload_n hx hb dX6_addTank_46 rfl (lv_at hl 0 rfl) ?_
      refine g_getiv (k := 8) (v := (rI σ 19 8)) B F P ok6 (by decide) rfl rfl rfl (by decide) q822 dX6_addTank_47 rfl ?_
      refine lv_iload_n hx hb dX6_addTank_50 rfl (lv_at hl 1 rfl) ?_
      refine g_ist B F P (by decide) rfl rfl (mks_in hM c22) dX6_addTank_51 (fun H locs P => ?_)
      refine lv_aload_n hx hb dX6_addTank_52 rfl (lv_at hl 0 rfl) ?_
      refine lv_dup hx hb dX6_addTank_53 rfl ?_
      refine g_getiv (k := 8) (v := (rI σ 19 8)) B F P ok6 (by decide) rfl rfl rfl (by decide) q822 dX6_addTank_54 rfl ?_
      refine lv_iconst (v := 1) hx hb dX6_addTank_57 (by decide) ?_
      refine lv_iadd hx hb dX6_addTank_58 ?_
      refine g_puti (k := 8) B F P ok6 (by decide) rfl rfl rfl (by decide) rfl (tyX6_ok 8 (by decide)) q822 dX6_addTank_59 (fun H locs P => ?_)
      refine lv_aload_n hx hb dX6_addTank_62 rfl (lv_at hl 0 rfl) ?_
      refine g_getiv (k := 8) (v := ((rI σ 19 8) + 1)) B F P ok6 (by decide) rfl rfl rfl (by decide) q822 dX6_addTank_63 rfl ?_
      refine lv_iconst (v := 1) hx hb dX6_addTank_66 (by decide) ?_
      refine lv_isub hx hb dX6_addTank_67 ?_
      exact g_reti B P (by rw [← hE]) (by rw [← hE]) hrt hlk dX6_addTank_68
    · rw [if_pos c22] at hE
      refine lv_iconst (v := 2) hx hb dX6_addTank_25 (by decide) ?_
      refine lv_goto (tgt := 30) hx hb dX6_addTank_26 (by decide) ?_
      refine g_puti (k := 32) B F P ok6 (by decide) rfl rfl rfl (by decide) rfl (tyX6_ok 32 (by decide)) q846 dX6_addTank_30 (fun H locs P => ?_)
      refine lv_aload_n hx hb dX6_addTank_33 rfl (lv_at hl 0 rfl) ?_
      refine g_getiv (k := 32) (v := 2) B F P ok6 (by decide) rfl rfl rfl (by decide) q846 dX6_addTank_34 rfl ?_
      refine lv_if_le (tgt := 42) hx hb dX6_addTank_37 (by decide) (fun h9 => absurd h9 (by decide)) (fun _ => ?_)
      refine lv_iconst (v := (-1)) hx hb dX6_addTank_40 (by decide) ?_
      exact g_reti B P (by rw [← hE]) (by rw [← hE]) hrt hlk dX6_addTank_41
  · rw [if_pos c10] at hE
    refine lv_iconst (v := 1) hx hb dX6_addTank_13 (by decide) ?_
    refine lv_goto (tgt := 30) hx hb dX6_addTank_14 (by decide) ?_
    refine g_puti (k := 32) B F P ok6 (by decide) rfl rfl rfl (by decide) rfl (tyX6_ok 32 (by decide)) q846 dX6_addTank_30 (fun H locs P => ?_)
    refine lv_aload_n hx hb dX6_addTank_33 rfl (lv_at hl 0 rfl) ?_
    refine g_getiv (k := 32) (v := 1) B F P ok6 (by decide) rfl rfl rfl (by decide) q846 dX6_addTank_34 rfl ?_
    refine lv_if_le (tgt := 42) hx hb dX6_addTank_37 (by decide) (fun h9 => absurd h9 (by decide)) (fun _ => ?_)
    refine lv_iconst (v := (-1)) hx hb dX6_addTank_40 (by decide) ?_
    exact g_reti B P (by rw [← hE]) (by rw [← hE]) hrt hlk dX6_addTank_41
theorem nk_X6_isTank : nmOk yX6_isTank RX6 1 := ⟨rfl, by decide +kernel, by decide +kernel, by decide +kernel⟩
def f_X6_setDemand_l86 (t : Int32) (fi : Int32) (la : Int32) (v : Int32) : Nat → Int32 → Int32 → Int32 → Sg → Int32 × Sg
  | 0, _, _, _, σ86 => (0, σ86)
  | n86 + 1, x7_86, x6_86, x5_86, σ86 => if 48 ≤ x7_86 then (x6_86, σ86) else (if (f_X6_in x7_86.toInt64 fi.toInt64 la.toInt64 σ86) = 0 then (f_X6_setDemand_l86 t fi la v n86 (x7_86 + 1) (x6_86 + (rI (sI σ86 25 ((48 * t) + x7_86).toNatClampNeg (rI σ86 25 ((48 * t) + x7_86).toNatClampNeg)) 25 ((48 * t) + x7_86).toNatClampNeg)) x5_86 (sI σ86 25 ((48 * t) + x7_86).toNatClampNeg (rI σ86 25 ((48 * t) + x7_86).toNatClampNeg))) else (f_X6_setDemand_l86 t fi la v n86 (x7_86 + 1) (x6_86 + (rI (sI σ86 25 ((48 * t) + x7_86).toNatClampNeg v) 25 ((48 * t) + x7_86).toNatClampNeg)) x5_86 (sI σ86 25 ((48 * t) + x7_86).toNatClampNeg v)))
def f_X6_setDemand (t : Int32) (fi : Int32) (la : Int32) (v : Int32) (σ : Sg) : Int32 × Sg := if (f_X6_in fi.toInt64 0 47 σ) = 0 then (if (f_X6_isTank t σ) = 0 then ((-1), (sI σ 19 32 1)) else ((-1), (sI σ 19 32 2))) else (if (f_X6_in la.toInt64 fi.toInt64 47 σ) = 0 then (if (f_X6_isTank t σ) = 0 then ((-1), (sI σ 19 32 1)) else ((-1), (sI σ 19 32 2))) else (if (f_X6_in v.toInt64 0 200 σ) = 0 then (if (f_X6_isTank t σ) = 0 then ((-1), (sI σ 19 32 1)) else ((-1), (sI σ 19 32 2))) else (if (f_X6_isTank t σ) = 0 then ((-1), (sI σ 19 32 1)) else (f_X6_setDemand_l86 t fi la v 49 0 0 1 (sI σ 19 32 0)))))
set_option maxHeartbeats 4000000 in
set_option maxRecDepth 100000 in
theorem ct_X6_setDemand {D : va_G} {ad : Nat → Nat} {cy : Nat → ClassId} {ba : Nat} (l : Launch) (t : Int32) (fi : Int32) (la : Int32) (v : Int32) (σ : Sg) (hM : GM 99000 σ) : Ct D ad cy ba l 2 yX6_setDemand cX6_setDemand 8 (some .int) [.ref (ad 19), .int t, .int fi, .int la, .int v] σ (some (.int (f_X6_setDemand t fi la v σ).1)) (f_X6_setDemand t fi la v σ).2 := by
  generalize hE : f_X6_setDemand t fi la v σ = Z
  dsimp only [f_X6_setDemand] at hE
  refine Ct.of (by decide +kernel) (Nat.le_of_ble_eq_true rfl) ?_
  intro p e s m below meth c ls B F P hrt hlk hl
  have hx := B.1
  have hb := B.2.1
  have hl : lv_has ls 8 [(0, .ref (ad 19)), (1, .int t), (2, .int fi), (3, .int la), (4, .int v)] := hl
  refine lv_iload_n hx hb dX6_setDemand_0 rfl (lv_at hl 2 rfl) ?_
  refine lv_i2l hx hb dX6_setDemand_1 rfl ?_
  refine lv_lconst (v := 0) hx hb dX6_setDemand_2 (by decide) ?_
  refine g_ldc2 B q1006 dX6_setDemand_3 ?_
  refine g_callS B F P (As := [.long fi.toInt64, .long 0, .long 47]) (ct_X6_in (D := D) (ad := ad) (cy := cy) (ba := ba) l fi.toInt64 0 47 σ ) q927 q928 q8 q929 nk_X6_in rfl ⟨(Nat.le_of_ble_eq_true rfl), (Nat.le_of_ble_eq_true rfl)⟩ hl.1 rfl (Nat.le_of_ble_eq_true rfl) dX6_setDemand_6 ⟨Nat.le_of_ble_eq_true rfl, Nat.le_of_ble_eq_true rfl⟩ (fun H locs P => ?_)
  refine lv_if_eq (tgt := 42) hx hb dX6_setDemand_9 (by decide) (fun c9 => ?_) (fun c9 => ?_)
  · rw [if_pos c9] at hE
    refine lv_iconst (v := 0) hx hb dX6_setDemand_42 (by decide) ?_
    refine lv_istore (lv' := [(5, .int 0), (0, .ref (ad 19)), (1, .int t), (2, .int fi), (3, .int la), (4, .int v)]) hx hb dX6_setDemand_43 hl (by decide) rfl (fun ls hl => ?_)
    refine lv_aload_n hx hb dX6_setDemand_45 rfl (lv_at hl 1 rfl) ?_
    refine lv_aload_n hx hb dX6_setDemand_46 rfl (lv_at hl 1 rfl) ?_
    refine lv_iload_n hx hb dX6_setDemand_47 rfl (lv_at hl 2 rfl) ?_
    refine g_callV B F P (As := [.int t]) (ct_X6_isTank (D := D) (ad := ad) (cy := cy) (ba := ba) l t σ ) ok6 (by decide) rfl q1008 q1010 qs17 q8 q1011 nk_X6_isTank rfl ⟨(Nat.le_of_ble_eq_true rfl), (Nat.le_of_ble_eq_true rfl)⟩ hl.1 rfl (Nat.le_of_ble_eq_true rfl) dX6_setDemand_48 ⟨Nat.le_of_ble_eq_true rfl, Nat.le_of_ble_eq_true rfl⟩ (fun H locs P => ?_)
    refine lv_if_ne (tgt := 58) hx hb dX6_setDemand_51 (by decide) (fun c51 => ?_) (fun c51 => ?_)
    · rw [if_neg c51] at hE
      refine lv_iload hx hb dX6_setDemand_58 (lv_at hl 0 rfl) ?_
      refine lv_if_ne (tgt := 67) hx hb dX6_setDemand_60 (by decide) (fun h9 => absurd h9 (by decide)) (fun _ => ?_)
      refine lv_iconst (v := 2) hx hb dX6_setDemand_63 (by decide) ?_
      refine lv_goto (tgt := 68) hx hb dX6_setDemand_64 (by decide) ?_
      refine g_puti (k := 32) B F P ok6 (by decide) rfl rfl rfl (by decide) rfl (tyX6_ok 32 (by decide)) q846 dX6_setDemand_68 (fun H locs P => ?_)
      refine lv_aload_n hx hb dX6_setDemand_71 rfl (lv_at hl 1 rfl) ?_
      refine g_getiv (k := 32) (v := 2) B F P ok6 (by decide) rfl rfl rfl (by decide) q846 dX6_setDemand_72 rfl ?_
      refine lv_if_le (tgt := 80) hx hb dX6_setDemand_75 (by decide) (fun h9 => absurd h9 (by decide)) (fun _ => ?_)
      refine lv_iconst (v := (-1)) hx hb dX6_setDemand_78 (by decide) ?_
      exact g_reti B P (by rw [← hE]) (by rw [← hE]) hrt hlk dX6_setDemand_79
    · rw [if_pos c51] at hE
      refine lv_iconst (v := 1) hx hb dX6_setDemand_54 (by decide) ?_
      refine lv_goto (tgt := 68) hx hb dX6_setDemand_55 (by decide) ?_
      refine g_puti (k := 32) B F P ok6 (by decide) rfl rfl rfl (by decide) rfl (tyX6_ok 32 (by decide)) q846 dX6_setDemand_68 (fun H locs P => ?_)
      refine lv_aload_n hx hb dX6_setDemand_71 rfl (lv_at hl 1 rfl) ?_
      refine g_getiv (k := 32) (v := 1) B F P ok6 (by decide) rfl rfl rfl (by decide) q846 dX6_setDemand_72 rfl ?_
      refine lv_if_le (tgt := 80) hx hb dX6_setDemand_75 (by decide) (fun h9 => absurd h9 (by decide)) (fun _ => ?_)
      refine lv_iconst (v := (-1)) hx hb dX6_setDemand_78 (by decide) ?_
      exact g_reti B P (by rw [← hE]) (by rw [← hE]) hrt hlk dX6_setDemand_79
  · rw [if_neg c9] at hE
    refine lv_iload_n hx hb dX6_setDemand_12 rfl (lv_at hl 3 rfl) ?_
    refine lv_i2l hx hb dX6_setDemand_13 rfl ?_
    refine lv_iload_n hx hb dX6_setDemand_14 rfl (lv_at hl 2 rfl) ?_
    refine lv_i2l hx hb dX6_setDemand_15 rfl ?_
    refine g_ldc2 B q1006 dX6_setDemand_16 ?_
    refine g_callS B F P (As := [.long la.toInt64, .long fi.toInt64, .long 47]) (ct_X6_in (D := D) (ad := ad) (cy := cy) (ba := ba) l la.toInt64 fi.toInt64 47 σ ) q927 q928 q8 q929 nk_X6_in rfl ⟨(Nat.le_of_ble_eq_true rfl), (Nat.le_of_ble_eq_true rfl)⟩ hl.1 rfl (Nat.le_of_ble_eq_true rfl) dX6_setDemand_19 ⟨Nat.le_of_ble_eq_true rfl, Nat.le_of_ble_eq_true rfl⟩ (fun H locs P => ?_)
    refine lv_if_eq (tgt := 42) hx hb dX6_setDemand_22 (by decide) (fun c22 => ?_) (fun c22 => ?_)
    · rw [if_pos c22] at hE
      refine lv_iconst (v := 0) hx hb dX6_setDemand_42 (by decide) ?_
      refine lv_istore (lv' := [(5, .int 0), (0, .ref (ad 19)), (1, .int t), (2, .int fi), (3, .int la), (4, .int v)]) hx hb dX6_setDemand_43 hl (by decide) rfl (fun ls hl => ?_)
      refine lv_aload_n hx hb dX6_setDemand_45 rfl (lv_at hl 1 rfl) ?_
      refine lv_aload_n hx hb dX6_setDemand_46 rfl (lv_at hl 1 rfl) ?_
      refine lv_iload_n hx hb dX6_setDemand_47 rfl (lv_at hl 2 rfl) ?_
      refine g_callV B F P (As := [.int t]) (ct_X6_isTank (D := D) (ad := ad) (cy := cy) (ba := ba) l t σ ) ok6 (by decide) rfl q1008 q1010 qs17 q8 q1011 nk_X6_isTank rfl ⟨(Nat.le_of_ble_eq_true rfl), (Nat.le_of_ble_eq_true rfl)⟩ hl.1 rfl (Nat.le_of_ble_eq_true rfl) dX6_setDemand_48 ⟨Nat.le_of_ble_eq_true rfl, Nat.le_of_ble_eq_true rfl⟩ (fun H locs P => ?_)
      refine lv_if_ne (tgt := 58) hx hb dX6_setDemand_51 (by decide) (fun c51 => ?_) (fun c51 => ?_)
      · rw [if_neg c51] at hE
        refine lv_iload hx hb dX6_setDemand_58 (lv_at hl 0 rfl) ?_
        refine lv_if_ne (tgt := 67) hx hb dX6_setDemand_60 (by decide) (fun h9 => absurd h9 (by decide)) (fun _ => ?_)
        refine lv_iconst (v := 2) hx hb dX6_setDemand_63 (by decide) ?_
        refine lv_goto (tgt := 68) hx hb dX6_setDemand_64 (by decide) ?_
        refine g_puti (k := 32) B F P ok6 (by decide) rfl rfl rfl (by decide) rfl (tyX6_ok 32 (by decide)) q846 dX6_setDemand_68 (fun H locs P => ?_)
        refine lv_aload_n hx hb dX6_setDemand_71 rfl (lv_at hl 1 rfl) ?_
        refine g_getiv (k := 32) (v := 2) B F P ok6 (by decide) rfl rfl rfl (by decide) q846 dX6_setDemand_72 rfl ?_
        refine lv_if_le (tgt := 80) hx hb dX6_setDemand_75 (by decide) (fun h9 => absurd h9 (by decide)) (fun _ => ?_)
        refine lv_iconst (v := (-1)) hx hb dX6_setDemand_78 (by decide) ?_
        exact g_reti B P (by rw [← hE]) (by rw [← hE]) hrt hlk dX6_setDemand_79
      · rw [if_pos c51] at hE
        refine lv_iconst (v := 1) hx hb dX6_setDemand_54 (by decide) ?_
        refine lv_goto (tgt := 68) hx hb dX6_setDemand_55 (by decide) ?_
        refine g_puti (k := 32) B F P ok6 (by decide) rfl rfl rfl (by decide) rfl (tyX6_ok 32 (by decide)) q846 dX6_setDemand_68 (fun H locs P => ?_)
        refine lv_aload_n hx hb dX6_setDemand_71 rfl (lv_at hl 1 rfl) ?_
        refine g_getiv (k := 32) (v := 1) B F P ok6 (by decide) rfl rfl rfl (by decide) q846 dX6_setDemand_72 rfl ?_
        refine lv_if_le (tgt := 80) hx hb dX6_setDemand_75 (by decide) (fun h9 => absurd h9 (by decide)) (fun _ => ?_)
        refine lv_iconst (v := (-1)) hx hb dX6_setDemand_78 (by decide) ?_
        exact g_reti B P (by rw [← hE]) (by rw [← hE]) hrt hlk dX6_setDemand_79
    · rw [if_neg c22] at hE
      refine lv_iload hx hb dX6_setDemand_25 (lv_at hl 4 rfl) ?_
      refine lv_i2l hx hb dX6_setDemand_27 rfl ?_
      refine lv_lconst (v := 0) hx hb dX6_setDemand_28 (by decide) ?_
      refine g_ldc2 B q1007 dX6_setDemand_29 ?_
      refine g_callS B F P (As := [.long v.toInt64, .long 0, .long 200]) (ct_X6_in (D := D) (ad := ad) (cy := cy) (ba := ba) l v.toInt64 0 200 σ ) q927 q928 q8 q929 nk_X6_in rfl ⟨(Nat.le_of_ble_eq_true rfl), (Nat.le_of_ble_eq_true rfl)⟩ hl.1 rfl (Nat.le_of_ble_eq_true rfl) dX6_setDemand_32 ⟨Nat.le_of_ble_eq_true rfl, Nat.le_of_ble_eq_true rfl⟩ (fun H locs P => ?_)
      refine lv_if_eq (tgt := 42) hx hb dX6_setDemand_35 (by decide) (fun c35 => ?_) (fun c35 => ?_)
      · rw [if_pos c35] at hE
        refine lv_iconst (v := 0) hx hb dX6_setDemand_42 (by decide) ?_
        refine lv_istore (lv' := [(5, .int 0), (0, .ref (ad 19)), (1, .int t), (2, .int fi), (3, .int la), (4, .int v)]) hx hb dX6_setDemand_43 hl (by decide) rfl (fun ls hl => ?_)
        refine lv_aload_n hx hb dX6_setDemand_45 rfl (lv_at hl 1 rfl) ?_
        refine lv_aload_n hx hb dX6_setDemand_46 rfl (lv_at hl 1 rfl) ?_
        refine lv_iload_n hx hb dX6_setDemand_47 rfl (lv_at hl 2 rfl) ?_
        refine g_callV B F P (As := [.int t]) (ct_X6_isTank (D := D) (ad := ad) (cy := cy) (ba := ba) l t σ ) ok6 (by decide) rfl q1008 q1010 qs17 q8 q1011 nk_X6_isTank rfl ⟨(Nat.le_of_ble_eq_true rfl), (Nat.le_of_ble_eq_true rfl)⟩ hl.1 rfl (Nat.le_of_ble_eq_true rfl) dX6_setDemand_48 ⟨Nat.le_of_ble_eq_true rfl, Nat.le_of_ble_eq_true rfl⟩ (fun H locs P => ?_)
        refine lv_if_ne (tgt := 58) hx hb dX6_setDemand_51 (by decide) (fun c51 => ?_) (fun c51 => ?_)
        · rw [if_neg c51] at hE
          refine lv_iload hx hb dX6_setDemand_58 (lv_at hl 0 rfl) ?_
          refine lv_if_ne (tgt := 67) hx hb dX6_setDemand_60 (by decide) (fun h9 => absurd h9 (by decide)) (fun _ => ?_)
          refine lv_iconst (v := 2) hx hb dX6_setDemand_63 (by decide) ?_
          refine lv_goto (tgt := 68) hx hb dX6_setDemand_64 (by decide) ?_
          refine g_puti (k := 32) B F P ok6 (by decide) rfl rfl rfl (by decide) rfl (tyX6_ok 32 (by decide)) q846 dX6_setDemand_68 (fun H locs P => ?_)
          refine lv_aload_n hx hb dX6_setDemand_71 rfl (lv_at hl 1 rfl) ?_
          refine g_getiv (k := 32) (v := 2) B F P ok6 (by decide) rfl rfl rfl (by decide) q846 dX6_setDemand_72 rfl ?_
          refine lv_if_le (tgt := 80) hx hb dX6_setDemand_75 (by decide) (fun h9 => absurd h9 (by decide)) (fun _ => ?_)
          refine lv_iconst (v := (-1)) hx hb dX6_setDemand_78 (by decide) ?_
          exact g_reti B P (by rw [← hE]) (by rw [← hE]) hrt hlk dX6_setDemand_79
        · rw [if_pos c51] at hE
          refine lv_iconst (v := 1) hx hb dX6_setDemand_54 (by decide) ?_
          refine lv_goto (tgt := 68) hx hb dX6_setDemand_55 (by decide) ?_
          refine g_puti (k := 32) B F P ok6 (by decide) rfl rfl rfl (by decide) rfl (tyX6_ok 32 (by decide)) q846 dX6_setDemand_68 (fun H locs P => ?_)
          refine lv_aload_n hx hb dX6_setDemand_71 rfl (lv_at hl 1 rfl) ?_
          refine g_getiv (k := 32) (v := 1) B F P ok6 (by decide) rfl rfl rfl (by decide) q846 dX6_setDemand_72 rfl ?_
          refine lv_if_le (tgt := 80) hx hb dX6_setDemand_75 (by decide) (fun h9 => absurd h9 (by decide)) (fun _ => ?_)
          refine lv_iconst (v := (-1)) hx hb dX6_setDemand_78 (by decide) ?_
          exact g_reti B P (by rw [← hE]) (by rw [← hE]) hrt hlk dX6_setDemand_79
      · rw [if_neg c35] at hE
        refine lv_iconst (v := 1) hx hb dX6_setDemand_38 (by decide) ?_
        refine lv_goto (tgt := 43) hx hb dX6_setDemand_39 (by decide) ?_
        refine lv_istore (lv' := [(5, .int 1), (0, .ref (ad 19)), (1, .int t), (2, .int fi), (3, .int la), (4, .int v)]) hx hb dX6_setDemand_43 hl (by decide) rfl (fun ls hl => ?_)
        refine lv_aload_n hx hb dX6_setDemand_45 rfl (lv_at hl 1 rfl) ?_
        refine lv_aload_n hx hb dX6_setDemand_46 rfl (lv_at hl 1 rfl) ?_
        refine lv_iload_n hx hb dX6_setDemand_47 rfl (lv_at hl 2 rfl) ?_
        refine g_callV B F P (As := [.int t]) (ct_X6_isTank (D := D) (ad := ad) (cy := cy) (ba := ba) l t σ ) ok6 (by decide) rfl q1008 q1010 qs17 q8 q1011 nk_X6_isTank rfl ⟨(Nat.le_of_ble_eq_true rfl), (Nat.le_of_ble_eq_true rfl)⟩ hl.1 rfl (Nat.le_of_ble_eq_true rfl) dX6_setDemand_48 ⟨Nat.le_of_ble_eq_true rfl, Nat.le_of_ble_eq_true rfl⟩ (fun H locs P => ?_)
        refine lv_if_ne (tgt := 58) hx hb dX6_setDemand_51 (by decide) (fun c51 => ?_) (fun c51 => ?_)
        · rw [if_neg c51] at hE
          refine lv_iload hx hb dX6_setDemand_58 (lv_at hl 0 rfl) ?_
          refine lv_if_ne (tgt := 67) hx hb dX6_setDemand_60 (by decide) (fun _ => ?_) (fun h9 => absurd h9 (by decide))
          refine lv_iconst (v := 0) hx hb dX6_setDemand_67 (by decide) ?_
          refine g_puti (k := 32) B F P ok6 (by decide) rfl rfl rfl (by decide) rfl (tyX6_ok 32 (by decide)) q846 dX6_setDemand_68 (fun H locs P => ?_)
          refine lv_aload_n hx hb dX6_setDemand_71 rfl (lv_at hl 1 rfl) ?_
          refine g_getiv (k := 32) (v := 0) B F P ok6 (by decide) rfl rfl rfl (by decide) q846 dX6_setDemand_72 rfl ?_
          refine lv_if_le (tgt := 80) hx hb dX6_setDemand_75 (by decide) (fun _ => ?_) (fun h9 => absurd h9 (by decide))
          refine lv_iconst (v := 0) hx hb dX6_setDemand_80 (by decide) ?_
          refine lv_istore (lv' := [(6, .int 0), (5, .int 1), (0, .ref (ad 19)), (1, .int t), (2, .int fi), (3, .int la), (4, .int v)]) hx hb dX6_setDemand_81 hl (by decide) rfl (fun ls hl => ?_)
          refine lv_iconst (v := 0) hx hb dX6_setDemand_83 (by decide) ?_
          refine lv_istore (lv' := [(7, .int 0), (6, .int 0), (5, .int 1), (0, .ref (ad 19)), (1, .int t), (2, .int fi), (3, .int la), (4, .int v)]) hx hb dX6_setDemand_84 hl (by decide) rfl (fun ls hl => ?_)
          have L86 : ∀ (n86 : Nat) (x7_86 : Int32) (x6_86 : Int32) (x5_86 : Int32) (σ86 : Sg), LI 48 n86 x7_86 → f_X6_setDemand_l86 t fi la v n86 x7_86 x6_86 x5_86 σ86 = Z → ∀ (H : Heap) (locs : List Loc), Wo D ad cy ba s σ86 H locs → ∀ (ls : Array Slot), lv_has ls 8 [(7, .int x7_86), (6, .int x6_86), (5, .int x5_86), (0, .ref (ad 19)), (1, .int t), (2, .int fi), (3, .int la), (4, .int v)] → W p l e (rmK 2 0 0) s m ([.ref (ad 19), .int t, .int fi, .int la, .int v] : List Value).toArray below meth c H locs 0 0 (MQ below (Qe D ad cy ba (some (.int Z.1)) Z.2) ([.ref (ad 19), .int t, .int fi, .int la, .int v] : List Value).toArray s 0 0 (fun q => ba ≤ q)) (F0 m 86 ls []) := by
            clear hE P hl
            intro n86
            induction n86 with
            | zero => intro x7_86 x6_86 x5_86 σ86 hI86 hE; exact absurd hI86 LI.zero
            | succ n86 ih86 =>
              intro x7_86 x6_86 x5_86 σ86 hI86 hE H locs P ls hl
              dsimp only [f_X6_setDemand_l86] at hE
              refine lv_iload hx hb dX6_setDemand_86 (lv_at hl 0 rfl) ?_
              refine lv_bipush (v := 48) hx hb dX6_setDemand_88 (by decide) ?_
              refine lv_icmp_ge (tgt := 158) hx hb dX6_setDemand_90 (by decide) (fun c90 => ?_) (fun c90 => ?_)
              · rw [if_pos c90] at hE
                refine lv_iload hx hb dX6_setDemand_158 (lv_at hl 1 rfl) ?_
                exact g_reti B P (by rw [← hE]) (by rw [← hE]) hrt hlk dX6_setDemand_160
              · rw [if_neg c90] at hE
                refine lv_aload_n hx hb dX6_setDemand_93 rfl (lv_at hl 3 rfl) ?_
                refine g_getr (k := 6) (t := 25) B F P ok6 (by decide) rfl rfl rfl (by decide) rfl q820 dX6_setDemand_94 ?_
                refine lv_bipush (v := 48) hx hb dX6_setDemand_97 (by decide) ?_
                refine lv_iload_n hx hb dX6_setDemand_99 rfl (lv_at hl 4 rfl) ?_
                refine lv_imul hx hb dX6_setDemand_100 ?_
                refine lv_iload hx hb dX6_setDemand_101 (lv_at hl 0 rfl) ?_
                refine lv_iadd hx hb dX6_setDemand_103 ?_
                refine lv_iload hx hb dX6_setDemand_104 (lv_at hl 0 rfl) ?_
                refine lv_i2l hx hb dX6_setDemand_106 rfl ?_
                refine lv_iload_n hx hb dX6_setDemand_107 rfl (lv_at hl 5 rfl) ?_
                refine lv_i2l hx hb dX6_setDemand_108 rfl ?_
                refine lv_iload_n hx hb dX6_setDemand_109 rfl (lv_at hl 6 rfl) ?_
                refine lv_i2l hx hb dX6_setDemand_110 rfl ?_
                refine g_callS B F P (As := [.long x7_86.toInt64, .long fi.toInt64, .long la.toInt64]) (ct_X6_in (D := D) (ad := ad) (cy := cy) (ba := ba) l x7_86.toInt64 fi.toInt64 la.toInt64 σ86 ) q927 q928 q8 q929 nk_X6_in rfl ⟨(Nat.le_of_ble_eq_true rfl), (Nat.le_of_ble_eq_true rfl)⟩ hl.1 rfl (Nat.le_of_ble_eq_true rfl) dX6_setDemand_111 ⟨Nat.le_of_ble_eq_true rfl, Nat.le_of_ble_eq_true rfl⟩ (fun H locs P => ?_)
                refine lv_if_eq (tgt := 122) hx hb dX6_setDemand_114 (by decide) (fun c114 => ?_) (fun c114 => ?_)
                · rw [if_pos c114] at hE
                  refine lv_aload_n hx hb dX6_setDemand_122 rfl (lv_at hl 3 rfl) ?_
                  refine g_getr (k := 6) (t := 25) B F P ok6 (by decide) rfl rfl rfl (by decide) rfl q820 dX6_setDemand_123 ?_
                  refine lv_bipush (v := 48) hx hb dX6_setDemand_126 (by decide) ?_
                  refine lv_iload_n hx hb dX6_setDemand_128 rfl (lv_at hl 4 rfl) ?_
                  refine lv_imul hx hb dX6_setDemand_129 ?_
                  refine lv_iload hx hb dX6_setDemand_130 (lv_at hl 0 rfl) ?_
                  refine lv_iadd hx hb dX6_setDemand_132 ?_
                  refine g_ild B F P (by decide) rfl rfl (dm_in (mtk_in hM.1 hM.2.2.2.2.2 c51) (hI86.into c90 (by decide))) dX6_setDemand_133 ?_
                  refine g_ist B F P (by decide) rfl rfl (dm_in (mtk_in hM.1 hM.2.2.2.2.2 c51) (hI86.into c90 (by decide))) dX6_setDemand_134 (fun H locs P => ?_)
                  refine lv_iload hx hb dX6_setDemand_135 (lv_at hl 1 rfl) ?_
                  refine lv_aload_n hx hb dX6_setDemand_137 rfl (lv_at hl 3 rfl) ?_
                  refine g_getr (k := 6) (t := 25) B F P ok6 (by decide) rfl rfl rfl (by decide) rfl q820 dX6_setDemand_138 ?_
                  refine lv_bipush (v := 48) hx hb dX6_setDemand_141 (by decide) ?_
                  refine lv_iload_n hx hb dX6_setDemand_143 rfl (lv_at hl 4 rfl) ?_
                  refine lv_imul hx hb dX6_setDemand_144 ?_
                  refine lv_iload hx hb dX6_setDemand_145 (lv_at hl 0 rfl) ?_
                  refine lv_iadd hx hb dX6_setDemand_147 ?_
                  refine g_ild B F P (by decide) rfl rfl (dm_in (mtk_in hM.1 hM.2.2.2.2.2 c51) (hI86.into c90 (by decide))) dX6_setDemand_148 ?_
                  refine lv_iadd hx hb dX6_setDemand_149 ?_
                  refine lv_istore (lv' := [(6, .int (x6_86 + (rI (sI σ86 25 ((48 * t) + x7_86).toNatClampNeg (rI σ86 25 ((48 * t) + x7_86).toNatClampNeg)) 25 ((48 * t) + x7_86).toNatClampNeg))), (7, .int x7_86), (5, .int x5_86), (0, .ref (ad 19)), (1, .int t), (2, .int fi), (3, .int la), (4, .int v)]) hx hb dX6_setDemand_150 hl (by decide) rfl (fun ls hl => ?_)
                  refine lv_iinc (v := (x7_86 + 1)) (lv' := [(7, .int (x7_86 + 1)), (6, .int (x6_86 + (rI (sI σ86 25 ((48 * t) + x7_86).toNatClampNeg (rI σ86 25 ((48 * t) + x7_86).toNatClampNeg)) 25 ((48 * t) + x7_86).toNatClampNeg))), (5, .int x5_86), (0, .ref (ad 19)), (1, .int t), (2, .int fi), (3, .int la), (4, .int v)]) hx hb dX6_setDemand_152 hl (k := 1) rfl (by first | rfl | decide) (by decide) rfl (fun ls hl => ?_)
                  refine lv_goto (tgt := 86) hx hb dX6_setDemand_155 (by decide) ?_
                  exact ih86 (x7_86 + 1) (x6_86 + (rI (sI σ86 25 ((48 * t) + x7_86).toNatClampNeg (rI σ86 25 ((48 * t) + x7_86).toNatClampNeg)) 25 ((48 * t) + x7_86).toNatClampNeg)) x5_86 (sI σ86 25 ((48 * t) + x7_86).toNatClampNeg (rI σ86 25 ((48 * t) + x7_86).toNatClampNeg)) (hI86.next c90 (by decide)) hE _ _ P _ (lv_sub hl [0, 1, 2, 3, 4, 5, 6, 7] rfl)
                · rw [if_neg c114] at hE
                  refine lv_iload hx hb dX6_setDemand_117 (lv_at hl 7 rfl) ?_
                  refine lv_goto (tgt := 134) hx hb dX6_setDemand_119 (by decide) ?_
                  refine g_ist B F P (by decide) rfl rfl (dm_in (mtk_in hM.1 hM.2.2.2.2.2 c51) (hI86.into c90 (by decide))) dX6_setDemand_134 (fun H locs P => ?_)
                  refine lv_iload hx hb dX6_setDemand_135 (lv_at hl 1 rfl) ?_
                  refine lv_aload_n hx hb dX6_setDemand_137 rfl (lv_at hl 3 rfl) ?_
                  refine g_getr (k := 6) (t := 25) B F P ok6 (by decide) rfl rfl rfl (by decide) rfl q820 dX6_setDemand_138 ?_
                  refine lv_bipush (v := 48) hx hb dX6_setDemand_141 (by decide) ?_
                  refine lv_iload_n hx hb dX6_setDemand_143 rfl (lv_at hl 4 rfl) ?_
                  refine lv_imul hx hb dX6_setDemand_144 ?_
                  refine lv_iload hx hb dX6_setDemand_145 (lv_at hl 0 rfl) ?_
                  refine lv_iadd hx hb dX6_setDemand_147 ?_
                  refine g_ild B F P (by decide) rfl rfl (dm_in (mtk_in hM.1 hM.2.2.2.2.2 c51) (hI86.into c90 (by decide))) dX6_setDemand_148 ?_
                  refine lv_iadd hx hb dX6_setDemand_149 ?_
                  refine lv_istore (lv' := [(6, .int (x6_86 + (rI (sI σ86 25 ((48 * t) + x7_86).toNatClampNeg v) 25 ((48 * t) + x7_86).toNatClampNeg))), (7, .int x7_86), (5, .int x5_86), (0, .ref (ad 19)), (1, .int t), (2, .int fi), (3, .int la), (4, .int v)]) hx hb dX6_setDemand_150 hl (by decide) rfl (fun ls hl => ?_)
                  refine lv_iinc (v := (x7_86 + 1)) (lv' := [(7, .int (x7_86 + 1)), (6, .int (x6_86 + (rI (sI σ86 25 ((48 * t) + x7_86).toNatClampNeg v) 25 ((48 * t) + x7_86).toNatClampNeg))), (5, .int x5_86), (0, .ref (ad 19)), (1, .int t), (2, .int fi), (3, .int la), (4, .int v)]) hx hb dX6_setDemand_152 hl (k := 1) rfl (by first | rfl | decide) (by decide) rfl (fun ls hl => ?_)
                  refine lv_goto (tgt := 86) hx hb dX6_setDemand_155 (by decide) ?_
                  exact ih86 (x7_86 + 1) (x6_86 + (rI (sI σ86 25 ((48 * t) + x7_86).toNatClampNeg v) 25 ((48 * t) + x7_86).toNatClampNeg)) x5_86 (sI σ86 25 ((48 * t) + x7_86).toNatClampNeg v) (hI86.next c90 (by decide)) hE _ _ P _ (lv_sub hl [0, 1, 2, 3, 4, 5, 6, 7] rfl)
          exact L86 49 0 0 1 (sI σ 19 32 0) LI.start hE _ _ P _ (lv_sub hl [0, 1, 2, 3, 4, 5, 6, 7] rfl)
        · rw [if_pos c51] at hE
          refine lv_iconst (v := 1) hx hb dX6_setDemand_54 (by decide) ?_
          refine lv_goto (tgt := 68) hx hb dX6_setDemand_55 (by decide) ?_
          refine g_puti (k := 32) B F P ok6 (by decide) rfl rfl rfl (by decide) rfl (tyX6_ok 32 (by decide)) q846 dX6_setDemand_68 (fun H locs P => ?_)
          refine lv_aload_n hx hb dX6_setDemand_71 rfl (lv_at hl 1 rfl) ?_
          refine g_getiv (k := 32) (v := 1) B F P ok6 (by decide) rfl rfl rfl (by decide) q846 dX6_setDemand_72 rfl ?_
          refine lv_if_le (tgt := 80) hx hb dX6_setDemand_75 (by decide) (fun h9 => absurd h9 (by decide)) (fun _ => ?_)
          refine lv_iconst (v := (-1)) hx hb dX6_setDemand_78 (by decide) ?_
          exact g_reti B P (by rw [← hE]) (by rw [← hE]) hrt hlk dX6_setDemand_79
def f_X6_setPrice_l61 (fi : Int32) (la : Int32) (v : Int32) : Nat → Int32 → Int32 → Sg → Int32 × Sg
  | 0, _, _, σ61 => (0, σ61)
  | n61 + 1, x5_61, x4_61, σ61 => if 48 ≤ x5_61 then (x4_61, σ61) else (if (f_X6_in x5_61.toInt64 fi.toInt64 la.toInt64 σ61) = 0 then (f_X6_setPrice_l61 fi la v n61 (x5_61 + 1) (x4_61 + (rI (sI σ61 27 x5_61.toNatClampNeg (rI σ61 27 x5_61.toNatClampNeg)) 27 x5_61.toNatClampNeg)) (sI σ61 27 x5_61.toNatClampNeg (rI σ61 27 x5_61.toNatClampNeg))) else (f_X6_setPrice_l61 fi la v n61 (x5_61 + 1) (x4_61 + (rI (sI σ61 27 x5_61.toNatClampNeg v) 27 x5_61.toNatClampNeg)) (sI σ61 27 x5_61.toNatClampNeg v)))
def f_X6_setPrice (fi : Int32) (la : Int32) (v : Int32) (σ : Sg) : Int32 × Sg := if (f_X6_in fi.toInt64 0 47 σ) = 0 then ((-1), (sI σ 19 32 1)) else (if (f_X6_in la.toInt64 fi.toInt64 47 σ) = 0 then ((-1), (sI σ 19 32 1)) else (if (f_X6_in v.toInt64 0 99 σ) = 0 then ((-1), (sI σ 19 32 1)) else (f_X6_setPrice_l61 fi la v 49 0 0 (sI σ 19 32 0))))
set_option maxHeartbeats 4000000 in
set_option maxRecDepth 100000 in
theorem ct_X6_setPrice {D : va_G} {ad : Nat → Nat} {cy : Nat → ClassId} {ba : Nat} (l : Launch) (fi : Int32) (la : Int32) (v : Int32) (σ : Sg)  : Ct D ad cy ba l 1 yX6_setPrice cX6_setPrice 6 (some .int) [.ref (ad 19), .int fi, .int la, .int v] σ (some (.int (f_X6_setPrice fi la v σ).1)) (f_X6_setPrice fi la v σ).2 := by
  generalize hE : f_X6_setPrice fi la v σ = Z
  dsimp only [f_X6_setPrice] at hE
  refine Ct.of (by decide +kernel) (Nat.le_of_ble_eq_true rfl) ?_
  intro p e s m below meth c ls B F P hrt hlk hl
  have hx := B.1
  have hb := B.2.1
  have hl : lv_has ls 6 [(0, .ref (ad 19)), (1, .int fi), (2, .int la), (3, .int v)] := hl
  refine lv_aload_n hx hb dX6_setPrice_0 rfl (lv_at hl 0 rfl) ?_
  refine lv_iload_n hx hb dX6_setPrice_1 rfl (lv_at hl 1 rfl) ?_
  refine lv_i2l hx hb dX6_setPrice_2 rfl ?_
  refine lv_lconst (v := 0) hx hb dX6_setPrice_3 (by decide) ?_
  refine g_ldc2 B q1006 dX6_setPrice_4 ?_
  refine g_callS B F P (As := [.long fi.toInt64, .long 0, .long 47]) (ct_X6_in (D := D) (ad := ad) (cy := cy) (ba := ba) l fi.toInt64 0 47 σ ) q927 q928 q8 q929 nk_X6_in rfl ⟨(Nat.le_of_ble_eq_true rfl), (Nat.le_of_ble_eq_true rfl)⟩ hl.1 rfl (Nat.le_of_ble_eq_true rfl) dX6_setPrice_7 ⟨Nat.le_of_ble_eq_true rfl, Nat.le_of_ble_eq_true rfl⟩ (fun H locs P => ?_)
  refine lv_if_eq (tgt := 42) hx hb dX6_setPrice_10 (by decide) (fun c10 => ?_) (fun c10 => ?_)
  · rw [if_pos c10] at hE
    refine lv_iconst (v := 1) hx hb dX6_setPrice_42 (by decide) ?_
    refine g_puti (k := 32) B F P ok6 (by decide) rfl rfl rfl (by decide) rfl (tyX6_ok 32 (by decide)) q846 dX6_setPrice_43 (fun H locs P => ?_)
    refine lv_aload_n hx hb dX6_setPrice_46 rfl (lv_at hl 0 rfl) ?_
    refine g_getiv (k := 32) (v := 1) B F P ok6 (by decide) rfl rfl rfl (by decide) q846 dX6_setPrice_47 rfl ?_
    refine lv_if_le (tgt := 55) hx hb dX6_setPrice_50 (by decide) (fun h9 => absurd h9 (by decide)) (fun _ => ?_)
    refine lv_iconst (v := (-1)) hx hb dX6_setPrice_53 (by decide) ?_
    exact g_reti B P (by rw [← hE]) (by rw [← hE]) hrt hlk dX6_setPrice_54
  · rw [if_neg c10] at hE
    refine lv_iload_n hx hb dX6_setPrice_13 rfl (lv_at hl 2 rfl) ?_
    refine lv_i2l hx hb dX6_setPrice_14 rfl ?_
    refine lv_iload_n hx hb dX6_setPrice_15 rfl (lv_at hl 1 rfl) ?_
    refine lv_i2l hx hb dX6_setPrice_16 rfl ?_
    refine g_ldc2 B q1006 dX6_setPrice_17 ?_
    refine g_callS B F P (As := [.long la.toInt64, .long fi.toInt64, .long 47]) (ct_X6_in (D := D) (ad := ad) (cy := cy) (ba := ba) l la.toInt64 fi.toInt64 47 σ ) q927 q928 q8 q929 nk_X6_in rfl ⟨(Nat.le_of_ble_eq_true rfl), (Nat.le_of_ble_eq_true rfl)⟩ hl.1 rfl (Nat.le_of_ble_eq_true rfl) dX6_setPrice_20 ⟨Nat.le_of_ble_eq_true rfl, Nat.le_of_ble_eq_true rfl⟩ (fun H locs P => ?_)
    refine lv_if_eq (tgt := 42) hx hb dX6_setPrice_23 (by decide) (fun c23 => ?_) (fun c23 => ?_)
    · rw [if_pos c23] at hE
      refine lv_iconst (v := 1) hx hb dX6_setPrice_42 (by decide) ?_
      refine g_puti (k := 32) B F P ok6 (by decide) rfl rfl rfl (by decide) rfl (tyX6_ok 32 (by decide)) q846 dX6_setPrice_43 (fun H locs P => ?_)
      refine lv_aload_n hx hb dX6_setPrice_46 rfl (lv_at hl 0 rfl) ?_
      refine g_getiv (k := 32) (v := 1) B F P ok6 (by decide) rfl rfl rfl (by decide) q846 dX6_setPrice_47 rfl ?_
      refine lv_if_le (tgt := 55) hx hb dX6_setPrice_50 (by decide) (fun h9 => absurd h9 (by decide)) (fun _ => ?_)
      refine lv_iconst (v := (-1)) hx hb dX6_setPrice_53 (by decide) ?_
      exact g_reti B P (by rw [← hE]) (by rw [← hE]) hrt hlk dX6_setPrice_54
    · rw [if_neg c23] at hE
      refine lv_iload_n hx hb dX6_setPrice_26 rfl (lv_at hl 3 rfl) ?_
      refine lv_i2l hx hb dX6_setPrice_27 rfl ?_
      refine lv_lconst (v := 0) hx hb dX6_setPrice_28 (by decide) ?_
      refine g_ldc2 B q1016 dX6_setPrice_29 ?_
      refine g_callS B F P (As := [.long v.toInt64, .long 0, .long 99]) (ct_X6_in (D := D) (ad := ad) (cy := cy) (ba := ba) l v.toInt64 0 99 σ ) q927 q928 q8 q929 nk_X6_in rfl ⟨(Nat.le_of_ble_eq_true rfl), (Nat.le_of_ble_eq_true rfl)⟩ hl.1 rfl (Nat.le_of_ble_eq_true rfl) dX6_setPrice_32 ⟨Nat.le_of_ble_eq_true rfl, Nat.le_of_ble_eq_true rfl⟩ (fun H locs P => ?_)
      refine lv_if_eq (tgt := 42) hx hb dX6_setPrice_35 (by decide) (fun c35 => ?_) (fun c35 => ?_)
      · rw [if_pos c35] at hE
        refine lv_iconst (v := 1) hx hb dX6_setPrice_42 (by decide) ?_
        refine g_puti (k := 32) B F P ok6 (by decide) rfl rfl rfl (by decide) rfl (tyX6_ok 32 (by decide)) q846 dX6_setPrice_43 (fun H locs P => ?_)
        refine lv_aload_n hx hb dX6_setPrice_46 rfl (lv_at hl 0 rfl) ?_
        refine g_getiv (k := 32) (v := 1) B F P ok6 (by decide) rfl rfl rfl (by decide) q846 dX6_setPrice_47 rfl ?_
        refine lv_if_le (tgt := 55) hx hb dX6_setPrice_50 (by decide) (fun h9 => absurd h9 (by decide)) (fun _ => ?_)
        refine lv_iconst (v := (-1)) hx hb dX6_setPrice_53 (by decide) ?_
        exact g_reti B P (by rw [← hE]) (by rw [← hE]) hrt hlk dX6_setPrice_54
      · rw [if_neg c35] at hE
        refine lv_iconst (v := 0) hx hb dX6_setPrice_38 (by decide) ?_
        refine lv_goto (tgt := 43) hx hb dX6_setPrice_39 (by decide) ?_
        refine g_puti (k := 32) B F P ok6 (by decide) rfl rfl rfl (by decide) rfl (tyX6_ok 32 (by decide)) q846 dX6_setPrice_43 (fun H locs P => ?_)
        refine lv_aload_n hx hb dX6_setPrice_46 rfl (lv_at hl 0 rfl) ?_
        refine g_getiv (k := 32) (v := 0) B F P ok6 (by decide) rfl rfl rfl (by decide) q846 dX6_setPrice_47 rfl ?_
        refine lv_if_le (tgt := 55) hx hb dX6_setPrice_50 (by decide) (fun _ => ?_) (fun h9 => absurd h9 (by decide))
        refine lv_iconst (v := 0) hx hb dX6_setPrice_55 (by decide) ?_
        refine lv_istore (lv' := [(4, .int 0), (0, .ref (ad 19)), (1, .int fi), (2, .int la), (3, .int v)]) hx hb dX6_setPrice_56 hl (by decide) rfl (fun ls hl => ?_)
        refine lv_iconst (v := 0) hx hb dX6_setPrice_58 (by decide) ?_
        refine lv_istore (lv' := [(5, .int 0), (4, .int 0), (0, .ref (ad 19)), (1, .int fi), (2, .int la), (3, .int v)]) hx hb dX6_setPrice_59 hl (by decide) rfl (fun ls hl => ?_)
        have L61 : ∀ (n61 : Nat) (x5_61 : Int32) (x4_61 : Int32) (σ61 : Sg), LI 48 n61 x5_61 → f_X6_setPrice_l61 fi la v n61 x5_61 x4_61 σ61 = Z → ∀ (H : Heap) (locs : List Loc), Wo D ad cy ba s σ61 H locs → ∀ (ls : Array Slot), lv_has ls 6 [(5, .int x5_61), (4, .int x4_61), (0, .ref (ad 19)), (1, .int fi), (2, .int la), (3, .int v)] → W p l e (rmK 1 0 0) s m ([.ref (ad 19), .int fi, .int la, .int v] : List Value).toArray below meth c H locs 0 0 (MQ below (Qe D ad cy ba (some (.int Z.1)) Z.2) ([.ref (ad 19), .int fi, .int la, .int v] : List Value).toArray s 0 0 (fun q => ba ≤ q)) (F0 m 61 ls []) := by
          clear hE P hl
          intro n61
          induction n61 with
          | zero => intro x5_61 x4_61 σ61 hI61 hE; exact absurd hI61 LI.zero
          | succ n61 ih61 =>
            intro x5_61 x4_61 σ61 hI61 hE H locs P ls hl
            dsimp only [f_X6_setPrice_l61] at hE
            refine lv_iload hx hb dX6_setPrice_61 (lv_at hl 0 rfl) ?_
            refine lv_bipush (v := 48) hx hb dX6_setPrice_63 (by decide) ?_
            refine lv_icmp_ge (tgt := 117) hx hb dX6_setPrice_65 (by decide) (fun c65 => ?_) (fun c65 => ?_)
            · rw [if_pos c65] at hE
              refine lv_iload hx hb dX6_setPrice_117 (lv_at hl 1 rfl) ?_
              exact g_reti B P (by rw [← hE]) (by rw [← hE]) hrt hlk dX6_setPrice_119
            · rw [if_neg c65] at hE
              refine lv_aload_n hx hb dX6_setPrice_68 rfl (lv_at hl 2 rfl) ?_
              refine g_getr (k := 9) (t := 27) B F P ok6 (by decide) rfl rfl rfl (by decide) rfl q823 dX6_setPrice_69 ?_
              refine lv_iload hx hb dX6_setPrice_72 (lv_at hl 0 rfl) ?_
              refine lv_iload hx hb dX6_setPrice_74 (lv_at hl 0 rfl) ?_
              refine lv_i2l hx hb dX6_setPrice_76 rfl ?_
              refine lv_iload_n hx hb dX6_setPrice_77 rfl (lv_at hl 3 rfl) ?_
              refine lv_i2l hx hb dX6_setPrice_78 rfl ?_
              refine lv_iload_n hx hb dX6_setPrice_79 rfl (lv_at hl 4 rfl) ?_
              refine lv_i2l hx hb dX6_setPrice_80 rfl ?_
              refine g_callS B F P (As := [.long x5_61.toInt64, .long fi.toInt64, .long la.toInt64]) (ct_X6_in (D := D) (ad := ad) (cy := cy) (ba := ba) l x5_61.toInt64 fi.toInt64 la.toInt64 σ61 ) q927 q928 q8 q929 nk_X6_in rfl ⟨(Nat.le_of_ble_eq_true rfl), (Nat.le_of_ble_eq_true rfl)⟩ hl.1 rfl (Nat.le_of_ble_eq_true rfl) dX6_setPrice_81 ⟨Nat.le_of_ble_eq_true rfl, Nat.le_of_ble_eq_true rfl⟩ (fun H locs P => ?_)
              refine lv_if_eq (tgt := 91) hx hb dX6_setPrice_84 (by decide) (fun c84 => ?_) (fun c84 => ?_)
              · rw [if_pos c84] at hE
                refine lv_aload_n hx hb dX6_setPrice_91 rfl (lv_at hl 2 rfl) ?_
                refine g_getr (k := 9) (t := 27) B F P ok6 (by decide) rfl rfl rfl (by decide) rfl q823 dX6_setPrice_92 ?_
                refine lv_iload hx hb dX6_setPrice_95 (lv_at hl 0 rfl) ?_
                refine g_ild B F P (by decide) rfl rfl (hI61.into c65 (by decide)) dX6_setPrice_97 ?_
                refine g_ist B F P (by decide) rfl rfl (hI61.into c65 (by decide)) dX6_setPrice_98 (fun H locs P => ?_)
                refine lv_iload hx hb dX6_setPrice_99 (lv_at hl 1 rfl) ?_
                refine lv_aload_n hx hb dX6_setPrice_101 rfl (lv_at hl 2 rfl) ?_
                refine g_getr (k := 9) (t := 27) B F P ok6 (by decide) rfl rfl rfl (by decide) rfl q823 dX6_setPrice_102 ?_
                refine lv_iload hx hb dX6_setPrice_105 (lv_at hl 0 rfl) ?_
                refine g_ild B F P (by decide) rfl rfl (hI61.into c65 (by decide)) dX6_setPrice_107 ?_
                refine lv_iadd hx hb dX6_setPrice_108 ?_
                refine lv_istore (lv' := [(4, .int (x4_61 + (rI (sI σ61 27 x5_61.toNatClampNeg (rI σ61 27 x5_61.toNatClampNeg)) 27 x5_61.toNatClampNeg))), (5, .int x5_61), (0, .ref (ad 19)), (1, .int fi), (2, .int la), (3, .int v)]) hx hb dX6_setPrice_109 hl (by decide) rfl (fun ls hl => ?_)
                refine lv_iinc (v := (x5_61 + 1)) (lv' := [(5, .int (x5_61 + 1)), (4, .int (x4_61 + (rI (sI σ61 27 x5_61.toNatClampNeg (rI σ61 27 x5_61.toNatClampNeg)) 27 x5_61.toNatClampNeg))), (0, .ref (ad 19)), (1, .int fi), (2, .int la), (3, .int v)]) hx hb dX6_setPrice_111 hl (k := 1) rfl (by first | rfl | decide) (by decide) rfl (fun ls hl => ?_)
                refine lv_goto (tgt := 61) hx hb dX6_setPrice_114 (by decide) ?_
                exact ih61 (x5_61 + 1) (x4_61 + (rI (sI σ61 27 x5_61.toNatClampNeg (rI σ61 27 x5_61.toNatClampNeg)) 27 x5_61.toNatClampNeg)) (sI σ61 27 x5_61.toNatClampNeg (rI σ61 27 x5_61.toNatClampNeg)) (hI61.next c65 (by decide)) hE _ _ P _ (lv_sub hl [0, 1, 2, 3, 4, 5] rfl)
              · rw [if_neg c84] at hE
                refine lv_iload_n hx hb dX6_setPrice_87 rfl (lv_at hl 5 rfl) ?_
                refine lv_goto (tgt := 98) hx hb dX6_setPrice_88 (by decide) ?_
                refine g_ist B F P (by decide) rfl rfl (hI61.into c65 (by decide)) dX6_setPrice_98 (fun H locs P => ?_)
                refine lv_iload hx hb dX6_setPrice_99 (lv_at hl 1 rfl) ?_
                refine lv_aload_n hx hb dX6_setPrice_101 rfl (lv_at hl 2 rfl) ?_
                refine g_getr (k := 9) (t := 27) B F P ok6 (by decide) rfl rfl rfl (by decide) rfl q823 dX6_setPrice_102 ?_
                refine lv_iload hx hb dX6_setPrice_105 (lv_at hl 0 rfl) ?_
                refine g_ild B F P (by decide) rfl rfl (hI61.into c65 (by decide)) dX6_setPrice_107 ?_
                refine lv_iadd hx hb dX6_setPrice_108 ?_
                refine lv_istore (lv' := [(4, .int (x4_61 + (rI (sI σ61 27 x5_61.toNatClampNeg v) 27 x5_61.toNatClampNeg))), (5, .int x5_61), (0, .ref (ad 19)), (1, .int fi), (2, .int la), (3, .int v)]) hx hb dX6_setPrice_109 hl (by decide) rfl (fun ls hl => ?_)
                refine lv_iinc (v := (x5_61 + 1)) (lv' := [(5, .int (x5_61 + 1)), (4, .int (x4_61 + (rI (sI σ61 27 x5_61.toNatClampNeg v) 27 x5_61.toNatClampNeg))), (0, .ref (ad 19)), (1, .int fi), (2, .int la), (3, .int v)]) hx hb dX6_setPrice_111 hl (k := 1) rfl (by first | rfl | decide) (by decide) rfl (fun ls hl => ?_)
                refine lv_goto (tgt := 61) hx hb dX6_setPrice_114 (by decide) ?_
                exact ih61 (x5_61 + 1) (x4_61 + (rI (sI σ61 27 x5_61.toNatClampNeg v) 27 x5_61.toNatClampNeg)) (sI σ61 27 x5_61.toNatClampNeg v) (hI61.next c65 (by decide)) hE _ _ P _ (lv_sub hl [0, 1, 2, 3, 4, 5] rfl)
        exact L61 49 0 0 (sI σ 19 32 0) LI.start hE _ _ P _ (lv_sub hl [0, 1, 2, 3, 4, 5] rfl)
def f_X6_demand (t : Int32) (sl : Int32) (σ : Sg) : Int32 × Sg := if (f_X6_isTank t σ) = 0 then ((-1), (sI σ 19 32 1)) else (if (f_X6_in sl.toInt64 0 47 σ) = 0 then ((-1), (sI σ 19 32 2)) else ((rI (sI σ 19 32 0) 25 ((48 * t) + sl).toNatClampNeg), (sI σ 19 32 0)))
set_option maxHeartbeats 4000000 in
set_option maxRecDepth 100000 in
theorem ct_X6_demand {D : va_G} {ad : Nat → Nat} {cy : Nat → ClassId} {ba : Nat} (l : Launch) (t : Int32) (sl : Int32) (σ : Sg) (hM : GM 99000 σ) : Ct D ad cy ba l 2 yX6_demand cX6_demand 3 (some .int) [.ref (ad 19), .int t, .int sl] σ (some (.int (f_X6_demand t sl σ).1)) (f_X6_demand t sl σ).2 := by
  generalize hE : f_X6_demand t sl σ = Z
  dsimp only [f_X6_demand] at hE
  refine Ct.of (by decide +kernel) (Nat.le_of_ble_eq_true rfl) ?_
  intro p e s m below meth c ls B F P hrt hlk hl
  have hx := B.1
  have hb := B.2.1
  have hl : lv_has ls 3 [(0, .ref (ad 19)), (1, .int t), (2, .int sl)] := hl
  refine lv_aload_n hx hb dX6_demand_0 rfl (lv_at hl 0 rfl) ?_
  refine lv_aload_n hx hb dX6_demand_1 rfl (lv_at hl 0 rfl) ?_
  refine lv_iload_n hx hb dX6_demand_2 rfl (lv_at hl 1 rfl) ?_
  refine g_callV B F P (As := [.int t]) (ct_X6_isTank (D := D) (ad := ad) (cy := cy) (ba := ba) l t σ ) ok6 (by decide) rfl q1008 q1010 qs17 q8 q1011 nk_X6_isTank rfl ⟨(Nat.le_of_ble_eq_true rfl), (Nat.le_of_ble_eq_true rfl)⟩ hl.1 rfl (Nat.le_of_ble_eq_true rfl) dX6_demand_3 ⟨Nat.le_of_ble_eq_true rfl, Nat.le_of_ble_eq_true rfl⟩ (fun H locs P => ?_)
  refine lv_if_ne (tgt := 13) hx hb dX6_demand_6 (by decide) (fun c6 => ?_) (fun c6 => ?_)
  · rw [if_neg c6] at hE
    refine lv_iload_n hx hb dX6_demand_13 rfl (lv_at hl 2 rfl) ?_
    refine lv_i2l hx hb dX6_demand_14 rfl ?_
    refine lv_lconst (v := 0) hx hb dX6_demand_15 (by decide) ?_
    refine g_ldc2 B q1006 dX6_demand_16 ?_
    refine g_callS B F P (As := [.long sl.toInt64, .long 0, .long 47]) (ct_X6_in (D := D) (ad := ad) (cy := cy) (ba := ba) l sl.toInt64 0 47 σ ) q927 q928 q8 q929 nk_X6_in rfl ⟨(Nat.le_of_ble_eq_true rfl), (Nat.le_of_ble_eq_true rfl)⟩ hl.1 rfl (Nat.le_of_ble_eq_true rfl) dX6_demand_19 ⟨Nat.le_of_ble_eq_true rfl, Nat.le_of_ble_eq_true rfl⟩ (fun H locs P => ?_)
    refine lv_if_ne (tgt := 29) hx hb dX6_demand_22 (by decide) (fun c22 => ?_) (fun c22 => ?_)
    · rw [if_neg c22] at hE
      refine lv_iconst (v := 0) hx hb dX6_demand_29 (by decide) ?_
      refine g_puti (k := 32) B F P ok6 (by decide) rfl rfl rfl (by decide) rfl (tyX6_ok 32 (by decide)) q846 dX6_demand_30 (fun H locs P => ?_)
      refine lv_aload_n hx hb dX6_demand_33 rfl (lv_at hl 0 rfl) ?_
      refine g_getiv (k := 32) (v := 0) B F P ok6 (by decide) rfl rfl rfl (by decide) q846 dX6_demand_34 rfl ?_
      refine lv_if_ne (tgt := 54) hx hb dX6_demand_37 (by decide) (fun h9 => absurd h9 (by decide)) (fun _ => ?_)
      refine lv_aload_n hx hb dX6_demand_40 rfl (lv_at hl 0 rfl) ?_
      refine g_getr (k := 6) (t := 25) B F P ok6 (by decide) rfl rfl rfl (by decide) rfl q820 dX6_demand_41 ?_
      refine lv_bipush (v := 48) hx hb dX6_demand_44 (by decide) ?_
      refine lv_iload_n hx hb dX6_demand_46 rfl (lv_at hl 1 rfl) ?_
      refine lv_imul hx hb dX6_demand_47 ?_
      refine lv_iload_n hx hb dX6_demand_48 rfl (lv_at hl 2 rfl) ?_
      refine lv_iadd hx hb dX6_demand_49 ?_
      refine g_ild B F P (by decide) rfl rfl (dm_in (mtk_in hM.1 hM.2.2.2.2.2 c6) (in_48 c22)) dX6_demand_50 ?_
      refine lv_goto (tgt := 55) hx hb dX6_demand_51 (by decide) ?_
      exact g_reti B P (by rw [← hE]) (by rw [← hE]) hrt hlk dX6_demand_55
    · rw [if_pos c22] at hE
      refine lv_iconst (v := 2) hx hb dX6_demand_25 (by decide) ?_
      refine lv_goto (tgt := 30) hx hb dX6_demand_26 (by decide) ?_
      refine g_puti (k := 32) B F P ok6 (by decide) rfl rfl rfl (by decide) rfl (tyX6_ok 32 (by decide)) q846 dX6_demand_30 (fun H locs P => ?_)
      refine lv_aload_n hx hb dX6_demand_33 rfl (lv_at hl 0 rfl) ?_
      refine g_getiv (k := 32) (v := 2) B F P ok6 (by decide) rfl rfl rfl (by decide) q846 dX6_demand_34 rfl ?_
      refine lv_if_ne (tgt := 54) hx hb dX6_demand_37 (by decide) (fun _ => ?_) (fun h9 => absurd h9 (by decide))
      refine lv_iconst (v := (-1)) hx hb dX6_demand_54 (by decide) ?_
      exact g_reti B P (by rw [← hE]) (by rw [← hE]) hrt hlk dX6_demand_55
  · rw [if_pos c6] at hE
    refine lv_iconst (v := 1) hx hb dX6_demand_9 (by decide) ?_
    refine lv_goto (tgt := 30) hx hb dX6_demand_10 (by decide) ?_
    refine g_puti (k := 32) B F P ok6 (by decide) rfl rfl rfl (by decide) rfl (tyX6_ok 32 (by decide)) q846 dX6_demand_30 (fun H locs P => ?_)
    refine lv_aload_n hx hb dX6_demand_33 rfl (lv_at hl 0 rfl) ?_
    refine g_getiv (k := 32) (v := 1) B F P ok6 (by decide) rfl rfl rfl (by decide) q846 dX6_demand_34 rfl ?_
    refine lv_if_ne (tgt := 54) hx hb dX6_demand_37 (by decide) (fun _ => ?_) (fun h9 => absurd h9 (by decide))
    refine lv_iconst (v := (-1)) hx hb dX6_demand_54 (by decide) ?_
    exact g_reti B P (by rw [← hE]) (by rw [← hE]) hrt hlk dX6_demand_55
def f_X6_level (t : Int32) (σ : Sg) : Int32 × Sg := if (f_X6_isTank t σ) = 0 then ((-1), (sI σ 19 32 1)) else ((rI (sI σ 19 32 0) 20 (12 + t).toNatClampNeg), (sI σ 19 32 0))
set_option maxHeartbeats 4000000 in
set_option maxRecDepth 100000 in
theorem ct_X6_level {D : va_G} {ad : Nat → Nat} {cy : Nat → ClassId} {ba : Nat} (l : Launch) (t : Int32) (σ : Sg) (hM : GM 99000 σ) : Ct D ad cy ba l 2 yX6_level cX6_level 2 (some .int) [.ref (ad 19), .int t] σ (some (.int (f_X6_level t σ).1)) (f_X6_level t σ).2 := by
  generalize hE : f_X6_level t σ = Z
  dsimp only [f_X6_level] at hE
  refine Ct.of (by decide +kernel) (Nat.le_of_ble_eq_true rfl) ?_
  intro p e s m below meth c ls B F P hrt hlk hl
  have hx := B.1
  have hb := B.2.1
  have hl : lv_has ls 2 [(0, .ref (ad 19)), (1, .int t)] := hl
  refine lv_aload_n hx hb dX6_level_0 rfl (lv_at hl 0 rfl) ?_
  refine lv_aload_n hx hb dX6_level_1 rfl (lv_at hl 0 rfl) ?_
  refine lv_iload_n hx hb dX6_level_2 rfl (lv_at hl 1 rfl) ?_
  refine g_callV B F P (As := [.int t]) (ct_X6_isTank (D := D) (ad := ad) (cy := cy) (ba := ba) l t σ ) ok6 (by decide) rfl q1008 q1010 qs17 q8 q1011 nk_X6_isTank rfl ⟨(Nat.le_of_ble_eq_true rfl), (Nat.le_of_ble_eq_true rfl)⟩ hl.1 rfl (Nat.le_of_ble_eq_true rfl) dX6_level_3 ⟨Nat.le_of_ble_eq_true rfl, Nat.le_of_ble_eq_true rfl⟩ (fun H locs P => ?_)
  refine lv_if_eq (tgt := 13) hx hb dX6_level_6 (by decide) (fun c6 => ?_) (fun c6 => ?_)
  · rw [if_pos c6] at hE
    refine lv_iconst (v := 1) hx hb dX6_level_13 (by decide) ?_
    refine g_puti (k := 32) B F P ok6 (by decide) rfl rfl rfl (by decide) rfl (tyX6_ok 32 (by decide)) q846 dX6_level_14 (fun H locs P => ?_)
    refine lv_aload_n hx hb dX6_level_17 rfl (lv_at hl 0 rfl) ?_
    refine g_getiv (k := 32) (v := 1) B F P ok6 (by decide) rfl rfl rfl (by decide) q846 dX6_level_18 rfl ?_
    refine lv_if_ne (tgt := 36) hx hb dX6_level_21 (by decide) (fun _ => ?_) (fun h9 => absurd h9 (by decide))
    refine lv_iconst (v := (-1)) hx hb dX6_level_36 (by decide) ?_
    exact g_reti B P (by rw [← hE]) (by rw [← hE]) hrt hlk dX6_level_37
  · rw [if_neg c6] at hE
    refine lv_iconst (v := 0) hx hb dX6_level_9 (by decide) ?_
    refine lv_goto (tgt := 14) hx hb dX6_level_10 (by decide) ?_
    refine g_puti (k := 32) B F P ok6 (by decide) rfl rfl rfl (by decide) rfl (tyX6_ok 32 (by decide)) q846 dX6_level_14 (fun H locs P => ?_)
    refine lv_aload_n hx hb dX6_level_17 rfl (lv_at hl 0 rfl) ?_
    refine g_getiv (k := 32) (v := 0) B F P ok6 (by decide) rfl rfl rfl (by decide) q846 dX6_level_18 rfl ?_
    refine lv_if_ne (tgt := 36) hx hb dX6_level_21 (by decide) (fun h9 => absurd h9 (by decide)) (fun _ => ?_)
    refine lv_aload_n hx hb dX6_level_24 rfl (lv_at hl 0 rfl) ?_
    refine g_getr (k := 0) (t := 20) B F P ok6 (by decide) rfl rfl rfl (by decide) rfl q814 dX6_level_25 ?_
    refine lv_bipush (v := 12) hx hb dX6_level_28 (by decide) ?_
    refine lv_iload_n hx hb dX6_level_30 rfl (lv_at hl 1 rfl) ?_
    refine lv_iadd hx hb dX6_level_31 ?_
    refine g_ild B F P (by decide) rfl rfl (lev_in (mtk_in hM.1 hM.2.2.2.2.2 c6)) dX6_level_32 ?_
    refine lv_goto (tgt := 37) hx hb dX6_level_33 (by decide) ?_
    exact g_reti B P (by rw [← hE]) (by rw [← hE]) hrt hlk dX6_level_37
def f_X6_shortOf (t : Int32) (σ : Sg) : Int32 × Sg := if (f_X6_isTank t σ) = 0 then ((-1), (sI σ 19 32 1)) else ((rI (sI σ 19 32 0) 26 t.toNatClampNeg), (sI σ 19 32 0))
set_option maxHeartbeats 4000000 in
set_option maxRecDepth 100000 in
theorem ct_X6_shortOf {D : va_G} {ad : Nat → Nat} {cy : Nat → ClassId} {ba : Nat} (l : Launch) (t : Int32) (σ : Sg) (hM : GM 99000 σ) : Ct D ad cy ba l 2 yX6_shortOf cX6_shortOf 2 (some .int) [.ref (ad 19), .int t] σ (some (.int (f_X6_shortOf t σ).1)) (f_X6_shortOf t σ).2 := by
  generalize hE : f_X6_shortOf t σ = Z
  dsimp only [f_X6_shortOf] at hE
  refine Ct.of (by decide +kernel) (Nat.le_of_ble_eq_true rfl) ?_
  intro p e s m below meth c ls B F P hrt hlk hl
  have hx := B.1
  have hb := B.2.1
  have hl : lv_has ls 2 [(0, .ref (ad 19)), (1, .int t)] := hl
  refine lv_aload_n hx hb dX6_shortOf_0 rfl (lv_at hl 0 rfl) ?_
  refine lv_aload_n hx hb dX6_shortOf_1 rfl (lv_at hl 0 rfl) ?_
  refine lv_iload_n hx hb dX6_shortOf_2 rfl (lv_at hl 1 rfl) ?_
  refine g_callV B F P (As := [.int t]) (ct_X6_isTank (D := D) (ad := ad) (cy := cy) (ba := ba) l t σ ) ok6 (by decide) rfl q1008 q1010 qs17 q8 q1011 nk_X6_isTank rfl ⟨(Nat.le_of_ble_eq_true rfl), (Nat.le_of_ble_eq_true rfl)⟩ hl.1 rfl (Nat.le_of_ble_eq_true rfl) dX6_shortOf_3 ⟨Nat.le_of_ble_eq_true rfl, Nat.le_of_ble_eq_true rfl⟩ (fun H locs P => ?_)
  refine lv_if_eq (tgt := 13) hx hb dX6_shortOf_6 (by decide) (fun c6 => ?_) (fun c6 => ?_)
  · rw [if_pos c6] at hE
    refine lv_iconst (v := 1) hx hb dX6_shortOf_13 (by decide) ?_
    refine g_puti (k := 32) B F P ok6 (by decide) rfl rfl rfl (by decide) rfl (tyX6_ok 32 (by decide)) q846 dX6_shortOf_14 (fun H locs P => ?_)
    refine lv_aload_n hx hb dX6_shortOf_17 rfl (lv_at hl 0 rfl) ?_
    refine g_getiv (k := 32) (v := 1) B F P ok6 (by decide) rfl rfl rfl (by decide) q846 dX6_shortOf_18 rfl ?_
    refine lv_if_ne (tgt := 33) hx hb dX6_shortOf_21 (by decide) (fun _ => ?_) (fun h9 => absurd h9 (by decide))
    refine lv_iconst (v := (-1)) hx hb dX6_shortOf_33 (by decide) ?_
    exact g_reti B P (by rw [← hE]) (by rw [← hE]) hrt hlk dX6_shortOf_34
  · rw [if_neg c6] at hE
    refine lv_iconst (v := 0) hx hb dX6_shortOf_9 (by decide) ?_
    refine lv_goto (tgt := 14) hx hb dX6_shortOf_10 (by decide) ?_
    refine g_puti (k := 32) B F P ok6 (by decide) rfl rfl rfl (by decide) rfl (tyX6_ok 32 (by decide)) q846 dX6_shortOf_14 (fun H locs P => ?_)
    refine lv_aload_n hx hb dX6_shortOf_17 rfl (lv_at hl 0 rfl) ?_
    refine g_getiv (k := 32) (v := 0) B F P ok6 (by decide) rfl rfl rfl (by decide) q846 dX6_shortOf_18 rfl ?_
    refine lv_if_ne (tgt := 33) hx hb dX6_shortOf_21 (by decide) (fun h9 => absurd h9 (by decide)) (fun _ => ?_)
    refine lv_aload_n hx hb dX6_shortOf_24 rfl (lv_at hl 0 rfl) ?_
    refine g_getr (k := 7) (t := 26) B F P ok6 (by decide) rfl rfl rfl (by decide) rfl q821 dX6_shortOf_25 ?_
    refine lv_iload_n hx hb dX6_shortOf_28 rfl (lv_at hl 1 rfl) ?_
    refine g_ild B F P (by decide) rfl rfl (mtk_in hM.1 hM.2.2.2.2.2 c6) dX6_shortOf_29 ?_
    refine lv_goto (tgt := 34) hx hb dX6_shortOf_30 (by decide) ?_
    exact g_reti B P (by rw [← hE]) (by rw [← hE]) hrt hlk dX6_shortOf_34
theorem nk_X6_passes : nmOk yX6_passes RX6 1 := ⟨rfl, by decide +kernel, by decide +kernel, by decide +kernel⟩
def f_X6_pass (on : Int32) (σ : Sg) : Int32 × Sg := ((rI (f_X6_passes on (sI σ 19 32 0)) 19 17), (f_X6_passes on (sI σ 19 32 0)))
set_option maxHeartbeats 4000000 in
set_option maxRecDepth 100000 in
theorem ct_X6_pass {D : va_G} {ad : Nat → Nat} {cy : Nat → ClassId} {ba : Nat} (l : Launch) (on : Int32) (σ : Sg) (hM : GM 99000 σ) : Ct D ad cy ba l 7 yX6_pass cX6_pass 2 (some .int) [.ref (ad 19), .int on] σ (some (.int (f_X6_pass on σ).1)) (f_X6_pass on σ).2 := by
  generalize hE : f_X6_pass on σ = Z
  dsimp only [f_X6_pass] at hE
  refine Ct.of (by decide +kernel) (Nat.le_of_ble_eq_true rfl) ?_
  intro p e s m below meth c ls B F P hrt hlk hl
  have hx := B.1
  have hb := B.2.1
  have hl : lv_has ls 2 [(0, .ref (ad 19)), (1, .int on)] := hl
  refine lv_aload_n hx hb dX6_pass_0 rfl (lv_at hl 0 rfl) ?_
  refine lv_iconst (v := 0) hx hb dX6_pass_1 (by decide) ?_
  refine g_puti (k := 32) B F P ok6 (by decide) rfl rfl rfl (by decide) rfl (tyX6_ok 32 (by decide)) q846 dX6_pass_2 (fun H locs P => ?_)
  refine lv_aload_n hx hb dX6_pass_5 rfl (lv_at hl 0 rfl) ?_
  refine lv_iload_n hx hb dX6_pass_6 rfl (lv_at hl 1 rfl) ?_
  refine g_callV B F P (As := [.int on]) (ct_X6_passes (D := D) (ad := ad) (cy := cy) (ba := ba) l on (sI σ 19 32 0) ((hM.of (by intro j hj; rcases hj with rfl | rfl | rfl | rfl | rfl | rfl <;> rfl) (fun _ => rfl)).w (by decide))) ok6 (by decide) rfl q1033 q1035 qs18 q8 q1036 nk_X6_passes rfl ⟨(Nat.le_of_ble_eq_true rfl), (Nat.le_of_ble_eq_true rfl)⟩ hl.1 rfl (Nat.le_of_ble_eq_true rfl) dX6_pass_7 ⟨Nat.le_of_ble_eq_true rfl, Nat.le_of_ble_eq_true rfl⟩ (fun H locs P => ?_)
  refine lv_aload_n hx hb dX6_pass_10 rfl (lv_at hl 0 rfl) ?_
  refine g_geti (k := 17) B F P ok6 (by decide) rfl rfl rfl (by decide) q831 dX6_pass_11 ?_
  exact g_reti B P (by rw [← hE]) (by rw [← hE]) hrt hlk dX6_pass_14
def f_X6_setHorizon (v : Int32) (σ : Sg) : Int32 × Sg := if (f_X6_in v.toInt64 1 6 σ) = 0 then ((-1), (sI (sI σ 19 32 1) 19 13 (rI σ 19 13))) else ((rI σ 19 13), (sI (sI σ 19 32 0) 19 13 v))
set_option maxHeartbeats 4000000 in
set_option maxRecDepth 100000 in
theorem ct_X6_setHorizon {D : va_G} {ad : Nat → Nat} {cy : Nat → ClassId} {ba : Nat} (l : Launch) (v : Int32) (σ : Sg)  : Ct D ad cy ba l 1 yX6_setHorizon cX6_setHorizon 3 (some .int) [.ref (ad 19), .int v] σ (some (.int (f_X6_setHorizon v σ).1)) (f_X6_setHorizon v σ).2 := by
  generalize hE : f_X6_setHorizon v σ = Z
  dsimp only [f_X6_setHorizon] at hE
  refine Ct.of (by decide +kernel) (Nat.le_of_ble_eq_true rfl) ?_
  intro p e s m below meth c ls B F P hrt hlk hl
  have hx := B.1
  have hb := B.2.1
  have hl : lv_has ls 3 [(0, .ref (ad 19)), (1, .int v)] := hl
  refine lv_aload_n hx hb dX6_setHorizon_0 rfl (lv_at hl 0 rfl) ?_
  refine lv_iload_n hx hb dX6_setHorizon_1 rfl (lv_at hl 1 rfl) ?_
  refine lv_i2l hx hb dX6_setHorizon_2 rfl ?_
  refine lv_lconst (v := 1) hx hb dX6_setHorizon_3 (by decide) ?_
  refine g_ldc2 B q1079 dX6_setHorizon_4 ?_
  refine g_callS B F P (As := [.long v.toInt64, .long 1, .long 6]) (ct_X6_in (D := D) (ad := ad) (cy := cy) (ba := ba) l v.toInt64 1 6 σ ) q927 q928 q8 q929 nk_X6_in rfl ⟨(Nat.le_of_ble_eq_true rfl), (Nat.le_of_ble_eq_true rfl)⟩ hl.1 rfl (Nat.le_of_ble_eq_true rfl) dX6_setHorizon_7 ⟨Nat.le_of_ble_eq_true rfl, Nat.le_of_ble_eq_true rfl⟩ (fun H locs P => ?_)
  refine lv_if_eq (tgt := 17) hx hb dX6_setHorizon_10 (by decide) (fun c10 => ?_) (fun c10 => ?_)
  · rw [if_pos c10] at hE
    refine lv_iconst (v := 1) hx hb dX6_setHorizon_17 (by decide) ?_
    refine g_puti (k := 32) B F P ok6 (by decide) rfl rfl rfl (by decide) rfl (tyX6_ok 32 (by decide)) q846 dX6_setHorizon_18 (fun H locs P => ?_)
    refine lv_aload_n hx hb dX6_setHorizon_21 rfl (lv_at hl 0 rfl) ?_
    refine g_getiv (k := 13) (v := (rI σ 19 13)) B F P ok6 (by decide) rfl rfl rfl (by decide) q827 dX6_setHorizon_22 rfl ?_
    refine lv_istore_n (lv' := [(2, .int (rI σ 19 13)), (0, .ref (ad 19)), (1, .int v)]) hx hb dX6_setHorizon_25 rfl hl (by decide) rfl (fun ls hl => ?_)
    refine lv_aload_n hx hb dX6_setHorizon_26 rfl (lv_at hl 1 rfl) ?_
    refine lv_aload_n hx hb dX6_setHorizon_27 rfl (lv_at hl 1 rfl) ?_
    refine g_getiv (k := 32) (v := 1) B F P ok6 (by decide) rfl rfl rfl (by decide) q846 dX6_setHorizon_28 rfl ?_
    refine lv_if_ne (tgt := 38) hx hb dX6_setHorizon_31 (by decide) (fun _ => ?_) (fun h9 => absurd h9 (by decide))
    refine lv_iload_n hx hb dX6_setHorizon_38 rfl (lv_at hl 0 rfl) ?_
    refine g_puti (k := 13) B F P ok6 (by decide) rfl rfl rfl (by decide) rfl (tyX6_ok 13 (by decide)) q827 dX6_setHorizon_39 (fun H locs P => ?_)
    refine lv_aload_n hx hb dX6_setHorizon_42 rfl (lv_at hl 1 rfl) ?_
    refine g_getiv (k := 32) (v := 1) B F P ok6 (by decide) rfl rfl rfl (by decide) q846 dX6_setHorizon_43 rfl ?_
    refine lv_if_ne (tgt := 53) hx hb dX6_setHorizon_46 (by decide) (fun _ => ?_) (fun h9 => absurd h9 (by decide))
    refine lv_iconst (v := (-1)) hx hb dX6_setHorizon_53 (by decide) ?_
    exact g_reti B P (by rw [← hE]) (by rw [← hE]) hrt hlk dX6_setHorizon_54
  · rw [if_neg c10] at hE
    refine lv_iconst (v := 0) hx hb dX6_setHorizon_13 (by decide) ?_
    refine lv_goto (tgt := 18) hx hb dX6_setHorizon_14 (by decide) ?_
    refine g_puti (k := 32) B F P ok6 (by decide) rfl rfl rfl (by decide) rfl (tyX6_ok 32 (by decide)) q846 dX6_setHorizon_18 (fun H locs P => ?_)
    refine lv_aload_n hx hb dX6_setHorizon_21 rfl (lv_at hl 0 rfl) ?_
    refine g_getiv (k := 13) (v := (rI σ 19 13)) B F P ok6 (by decide) rfl rfl rfl (by decide) q827 dX6_setHorizon_22 rfl ?_
    refine lv_istore_n (lv' := [(2, .int (rI σ 19 13)), (0, .ref (ad 19)), (1, .int v)]) hx hb dX6_setHorizon_25 rfl hl (by decide) rfl (fun ls hl => ?_)
    refine lv_aload_n hx hb dX6_setHorizon_26 rfl (lv_at hl 1 rfl) ?_
    refine lv_aload_n hx hb dX6_setHorizon_27 rfl (lv_at hl 1 rfl) ?_
    refine g_getiv (k := 32) (v := 0) B F P ok6 (by decide) rfl rfl rfl (by decide) q846 dX6_setHorizon_28 rfl ?_
    refine lv_if_ne (tgt := 38) hx hb dX6_setHorizon_31 (by decide) (fun h9 => absurd h9 (by decide)) (fun _ => ?_)
    refine lv_iload_n hx hb dX6_setHorizon_34 rfl (lv_at hl 2 rfl) ?_
    refine lv_goto (tgt := 39) hx hb dX6_setHorizon_35 (by decide) ?_
    refine g_puti (k := 13) B F P ok6 (by decide) rfl rfl rfl (by decide) rfl (tyX6_ok 13 (by decide)) q827 dX6_setHorizon_39 (fun H locs P => ?_)
    refine lv_aload_n hx hb dX6_setHorizon_42 rfl (lv_at hl 1 rfl) ?_
    refine g_getiv (k := 32) (v := 0) B F P ok6 (by decide) rfl rfl rfl (by decide) q846 dX6_setHorizon_43 rfl ?_
    refine lv_if_ne (tgt := 53) hx hb dX6_setHorizon_46 (by decide) (fun h9 => absurd h9 (by decide)) (fun _ => ?_)
    refine lv_iload_n hx hb dX6_setHorizon_49 rfl (lv_at hl 0 rfl) ?_
    refine lv_goto (tgt := 54) hx hb dX6_setHorizon_50 (by decide) ?_
    exact g_reti B P (by rw [← hE]) (by rw [← hE]) hrt hlk dX6_setHorizon_54
def f_X6_halfHour  (σ : Sg) : Int32 × Sg := ((rI σ 19 12), (sI σ 19 32 0))
set_option maxHeartbeats 4000000 in
set_option maxRecDepth 100000 in
theorem ct_X6_halfHour {D : va_G} {ad : Nat → Nat} {cy : Nat → ClassId} {ba : Nat} (l : Launch)  (σ : Sg)  : Ct D ad cy ba l 0 yX6_halfHour cX6_halfHour 1 (some .int) [.ref (ad 19)] σ (some (.int (f_X6_halfHour  σ).1)) (f_X6_halfHour  σ).2 := by
  generalize hE : f_X6_halfHour  σ = Z
  dsimp only [f_X6_halfHour] at hE
  refine Ct.of (by decide +kernel) (Nat.le_of_ble_eq_true rfl) ?_
  intro p e s m below meth c ls B F P hrt hlk hl
  have hx := B.1
  have hb := B.2.1
  have hl : lv_has ls 1 [(0, .ref (ad 19))] := hl
  refine lv_aload_n hx hb dX6_halfHour_0 rfl (lv_at hl 0 rfl) ?_
  refine lv_iconst (v := 0) hx hb dX6_halfHour_1 (by decide) ?_
  refine g_puti (k := 32) B F P ok6 (by decide) rfl rfl rfl (by decide) rfl (tyX6_ok 32 (by decide)) q846 dX6_halfHour_2 (fun H locs P => ?_)
  refine lv_aload_n hx hb dX6_halfHour_5 rfl (lv_at hl 0 rfl) ?_
  refine g_getiv (k := 12) (v := (rI σ 19 12)) B F P ok6 (by decide) rfl rfl rfl (by decide) q826 dX6_halfHour_6 rfl ?_
  exact g_reti B P (by rw [← hE]) (by rw [← hE]) hrt hlk dX6_halfHour_9
def f_X6_order (h : Int32) (on : Int32) (σ : Sg) : Int32 × Sg := if (rI σ 19 12) ≤ h then (if (f_X6_orderAt h σ) = (-1) then (if (rI σ 19 16) = 6 then ((-1), (sI σ 19 32 2)) else (((rI σ 19 16) + 1), (sI (sI (sI (sI σ 19 32 0) 28 (rI σ 19 16).toNatClampNeg h) 19 16 ((rI σ 19 16) + 1)) 29 (rI σ 19 16).toNatClampNeg on))) else ((rI σ 19 16), (sI (sI σ 19 32 0) 29 (f_X6_orderAt h σ).toNatClampNeg on))) else ((-1), (sI σ 19 32 1))
set_option maxHeartbeats 4000000 in
set_option maxRecDepth 100000 in
theorem ct_X6_order {D : va_G} {ad : Nat → Nat} {cy : Nat → ClassId} {ba : Nat} (l : Launch) (h : Int32) (on : Int32) (σ : Sg) (hM : GM 99000 σ) (hon : on = 0 ∨ on = 1) : Ct D ad cy ba l 1 yX6_order cX6_order 4 (some .int) [.ref (ad 19), .int h, .int on] σ (some (.int (f_X6_order h on σ).1)) (f_X6_order h on σ).2 := by
  generalize hE : f_X6_order h on σ = Z
  dsimp only [f_X6_order] at hE
  refine Ct.of (by decide +kernel) (Nat.le_of_ble_eq_true rfl) ?_
  intro p e s m below meth c ls B F P hrt hlk hl
  have hx := B.1
  have hb := B.2.1
  have hl : lv_has ls 4 [(0, .ref (ad 19)), (1, .int h), (2, .int on)] := hl
  refine lv_aload_n hx hb dX6_order_0 rfl (lv_at hl 0 rfl) ?_
  refine lv_iload_n hx hb dX6_order_1 rfl (lv_at hl 1 rfl) ?_
  refine g_callV B F P (As := [.int h]) (ct_X6_orderAt (D := D) (ad := ad) (cy := cy) (ba := ba) l h σ hM.2.1) ok6 (by decide) rfl q1050 q1052 qs22 q8 q1053 nk_X6_orderAt rfl ⟨(Nat.le_of_ble_eq_true rfl), (Nat.le_of_ble_eq_true rfl)⟩ hl.1 rfl (Nat.le_of_ble_eq_true rfl) dX6_order_2 ⟨Nat.le_of_ble_eq_true rfl, Nat.le_of_ble_eq_true rfl⟩ (fun H locs P => ?_)
  refine lv_istore_n (lv' := [(3, .int (f_X6_orderAt h σ)), (0, .ref (ad 19)), (1, .int h), (2, .int on)]) hx hb dX6_order_5 rfl hl (by decide) rfl (fun ls hl => ?_)
  refine lv_aload_n hx hb dX6_order_6 rfl (lv_at hl 1 rfl) ?_
  refine lv_iload_n hx hb dX6_order_7 rfl (lv_at hl 2 rfl) ?_
  refine lv_aload_n hx hb dX6_order_8 rfl (lv_at hl 1 rfl) ?_
  refine g_geti (k := 12) B F P ok6 (by decide) rfl rfl rfl (by decide) q826 dX6_order_9 ?_
  refine lv_icmp_ge (tgt := 19) hx hb dX6_order_12 (by decide) (fun c12 => ?_) (fun c12 => ?_)
  · rw [if_pos c12] at hE
    refine lv_iload_n hx hb dX6_order_19 rfl (lv_at hl 0 rfl) ?_
    refine lv_iconst (v := (-1)) hx hb dX6_order_20 (by decide) ?_
    refine lv_icmp_ne (tgt := 37) hx hb dX6_order_21 (by decide) (fun c21 => ?_) (fun c21 => ?_)
    · rw [if_neg c21] at hE
      refine lv_iconst (v := 0) hx hb dX6_order_37 (by decide) ?_
      refine g_puti (k := 32) B F P ok6 (by decide) rfl rfl rfl (by decide) rfl (tyX6_ok 32 (by decide)) q846 dX6_order_38 (fun H locs P => ?_)
      refine lv_aload_n hx hb dX6_order_41 rfl (lv_at hl 1 rfl) ?_
      refine g_getiv (k := 32) (v := 0) B F P ok6 (by decide) rfl rfl rfl (by decide) q846 dX6_order_42 rfl ?_
      refine lv_if_le (tgt := 50) hx hb dX6_order_45 (by decide) (fun _ => ?_) (fun h9 => absurd h9 (by decide))
      refine lv_iload_n hx hb dX6_order_50 rfl (lv_at hl 0 rfl) ?_
      refine lv_iconst (v := (-1)) hx hb dX6_order_51 (by decide) ?_
      refine lv_icmp_ne (tgt := 77) hx hb dX6_order_52 (by decide) (fun _ => ?_) (fun h9 => absurd h9 c21)
      refine lv_aload_n hx hb dX6_order_77 rfl (lv_at hl 1 rfl) ?_
      refine g_getr (k := 15) (t := 29) B F P ok6 (by decide) rfl rfl rfl (by decide) rfl q829 dX6_order_78 ?_
      refine lv_iload_n hx hb dX6_order_81 rfl (lv_at hl 0 rfl) ?_
      refine lv_iload_n hx hb dX6_order_82 rfl (lv_at hl 3 rfl) ?_
      refine g_zst B F P (by decide) rfl rfl (oat_in hM.2.1 c21) (b01 hon) dX6_order_83 (fun H locs P => ?_)
      refine lv_aload_n hx hb dX6_order_84 rfl (lv_at hl 1 rfl) ?_
      refine g_getiv (k := 16) (v := (rI σ 19 16)) B F P ok6 (by decide) rfl rfl rfl (by decide) q830 dX6_order_85 rfl ?_
      exact g_reti B P (by rw [← hE]) (by rw [← hE]) hrt hlk dX6_order_88
    · rw [if_pos c21] at hE
      refine lv_aload_n hx hb dX6_order_24 rfl (lv_at hl 1 rfl) ?_
      refine g_geti (k := 16) B F P ok6 (by decide) rfl rfl rfl (by decide) q830 dX6_order_25 ?_
      refine lv_bipush (v := 6) hx hb dX6_order_28 (by decide) ?_
      refine lv_icmp_ne (tgt := 37) hx hb dX6_order_30 (by decide) (fun c30 => ?_) (fun c30 => ?_)
      · rw [if_neg c30] at hE
        refine lv_iconst (v := 0) hx hb dX6_order_37 (by decide) ?_
        refine g_puti (k := 32) B F P ok6 (by decide) rfl rfl rfl (by decide) rfl (tyX6_ok 32 (by decide)) q846 dX6_order_38 (fun H locs P => ?_)
        refine lv_aload_n hx hb dX6_order_41 rfl (lv_at hl 1 rfl) ?_
        refine g_getiv (k := 32) (v := 0) B F P ok6 (by decide) rfl rfl rfl (by decide) q846 dX6_order_42 rfl ?_
        refine lv_if_le (tgt := 50) hx hb dX6_order_45 (by decide) (fun _ => ?_) (fun h9 => absurd h9 (by decide))
        refine lv_iload_n hx hb dX6_order_50 rfl (lv_at hl 0 rfl) ?_
        refine lv_iconst (v := (-1)) hx hb dX6_order_51 (by decide) ?_
        refine lv_icmp_ne (tgt := 77) hx hb dX6_order_52 (by decide) (fun h9 => absurd c21 h9) (fun _ => ?_)
        refine lv_aload_n hx hb dX6_order_55 rfl (lv_at hl 1 rfl) ?_
        refine g_getiv (k := 16) (v := (rI σ 19 16)) B F P ok6 (by decide) rfl rfl rfl (by decide) q830 dX6_order_56 rfl ?_
        refine lv_istore_n (lv' := [(3, .int (rI σ 19 16)), (0, .ref (ad 19)), (1, .int h), (2, .int on)]) hx hb dX6_order_59 rfl hl (by decide) rfl (fun ls hl => ?_)
        refine lv_aload_n hx hb dX6_order_60 rfl (lv_at hl 1 rfl) ?_
        refine g_getr (k := 14) (t := 28) B F P ok6 (by decide) rfl rfl rfl (by decide) rfl q828 dX6_order_61 ?_
        refine lv_iload_n hx hb dX6_order_64 rfl (lv_at hl 0 rfl) ?_
        refine lv_iload_n hx hb dX6_order_65 rfl (lv_at hl 2 rfl) ?_
        refine g_ist B F P (by decide) rfl rfl (ocn_in hM.2.1 c30) dX6_order_66 (fun H locs P => ?_)
        refine lv_aload_n hx hb dX6_order_67 rfl (lv_at hl 1 rfl) ?_
        refine lv_dup hx hb dX6_order_68 rfl ?_
        refine g_getiv (k := 16) (v := (rI σ 19 16)) B F P ok6 (by decide) rfl rfl rfl (by decide) q830 dX6_order_69 rfl ?_
        refine lv_iconst (v := 1) hx hb dX6_order_72 (by decide) ?_
        refine lv_iadd hx hb dX6_order_73 ?_
        refine g_puti (k := 16) B F P ok6 (by decide) rfl rfl rfl (by decide) rfl (tyX6_ok 16 (by decide)) q830 dX6_order_74 (fun H locs P => ?_)
        refine lv_aload_n hx hb dX6_order_77 rfl (lv_at hl 1 rfl) ?_
        refine g_getr (k := 15) (t := 29) B F P ok6 (by decide) rfl rfl rfl (by decide) rfl q829 dX6_order_78 ?_
        refine lv_iload_n hx hb dX6_order_81 rfl (lv_at hl 0 rfl) ?_
        refine lv_iload_n hx hb dX6_order_82 rfl (lv_at hl 3 rfl) ?_
        refine g_zst B F P (by decide) rfl rfl (ocn_in hM.2.1 c30) (b01 hon) dX6_order_83 (fun H locs P => ?_)
        refine lv_aload_n hx hb dX6_order_84 rfl (lv_at hl 1 rfl) ?_
        refine g_getiv (k := 16) (v := ((rI σ 19 16) + 1)) B F P ok6 (by decide) rfl rfl rfl (by decide) q830 dX6_order_85 rfl ?_
        exact g_reti B P (by rw [← hE]) (by rw [← hE]) hrt hlk dX6_order_88
      · rw [if_pos c30] at hE
        refine lv_iconst (v := 2) hx hb dX6_order_33 (by decide) ?_
        refine lv_goto (tgt := 38) hx hb dX6_order_34 (by decide) ?_
        refine g_puti (k := 32) B F P ok6 (by decide) rfl rfl rfl (by decide) rfl (tyX6_ok 32 (by decide)) q846 dX6_order_38 (fun H locs P => ?_)
        refine lv_aload_n hx hb dX6_order_41 rfl (lv_at hl 1 rfl) ?_
        refine g_getiv (k := 32) (v := 2) B F P ok6 (by decide) rfl rfl rfl (by decide) q846 dX6_order_42 rfl ?_
        refine lv_if_le (tgt := 50) hx hb dX6_order_45 (by decide) (fun h9 => absurd h9 (by decide)) (fun _ => ?_)
        refine lv_iconst (v := (-1)) hx hb dX6_order_48 (by decide) ?_
        exact g_reti B P (by rw [← hE]) (by rw [← hE]) hrt hlk dX6_order_49
  · rw [if_neg c12] at hE
    refine lv_iconst (v := 1) hx hb dX6_order_15 (by decide) ?_
    refine lv_goto (tgt := 38) hx hb dX6_order_16 (by decide) ?_
    refine g_puti (k := 32) B F P ok6 (by decide) rfl rfl rfl (by decide) rfl (tyX6_ok 32 (by decide)) q846 dX6_order_38 (fun H locs P => ?_)
    refine lv_aload_n hx hb dX6_order_41 rfl (lv_at hl 1 rfl) ?_
    refine g_getiv (k := 32) (v := 1) B F P ok6 (by decide) rfl rfl rfl (by decide) q846 dX6_order_42 rfl ?_
    refine lv_if_le (tgt := 50) hx hb dX6_order_45 (by decide) (fun h9 => absurd h9 (by decide)) (fun _ => ?_)
    refine lv_iconst (v := (-1)) hx hb dX6_order_48 (by decide) ?_
    exact g_reti B P (by rw [← hE]) (by rw [← hE]) hrt hlk dX6_order_49
def f_X6_takeBack (h : Int32) (σ : Sg) : Int32 × Sg := if (f_X6_orderAt h σ) = (-1) then (0, (sI σ 19 32 1)) else (if (rI (sI σ 19 32 0) 29 (f_X6_orderAt h σ).toNatClampNeg) = 0 then (0, (f_X6_forgets (f_X6_orderAt h σ) (sI σ 19 32 0))) else (1, (f_X6_forgets (f_X6_orderAt h σ) (sI σ 19 32 0))))
set_option maxHeartbeats 4000000 in
set_option maxRecDepth 100000 in
theorem ct_X6_takeBack {D : va_G} {ad : Nat → Nat} {cy : Nat → ClassId} {ba : Nat} (l : Launch) (h : Int32) (σ : Sg) (hM : GM 99000 σ) : Ct D ad cy ba l 1 yX6_takeBack cX6_takeBack 4 (some .boolean) [.ref (ad 19), .int h] σ (some (.int (f_X6_takeBack h σ).1)) (f_X6_takeBack h σ).2 := by
  generalize hE : f_X6_takeBack h σ = Z
  dsimp only [f_X6_takeBack] at hE
  refine Ct.of (by decide +kernel) (Nat.le_of_ble_eq_true rfl) ?_
  intro p e s m below meth c ls B F P hrt hlk hl
  have hx := B.1
  have hb := B.2.1
  have hl : lv_has ls 4 [(0, .ref (ad 19)), (1, .int h)] := hl
  refine lv_aload_n hx hb dX6_takeBack_0 rfl (lv_at hl 0 rfl) ?_
  refine lv_iload_n hx hb dX6_takeBack_1 rfl (lv_at hl 1 rfl) ?_
  refine g_callV B F P (As := [.int h]) (ct_X6_orderAt (D := D) (ad := ad) (cy := cy) (ba := ba) l h σ hM.2.1) ok6 (by decide) rfl q1050 q1052 qs22 q8 q1053 nk_X6_orderAt rfl ⟨(Nat.le_of_ble_eq_true rfl), (Nat.le_of_ble_eq_true rfl)⟩ hl.1 rfl (Nat.le_of_ble_eq_true rfl) dX6_takeBack_2 ⟨Nat.le_of_ble_eq_true rfl, Nat.le_of_ble_eq_true rfl⟩ (fun H locs P => ?_)
  refine lv_istore_n (lv' := [(2, .int (f_X6_orderAt h σ)), (0, .ref (ad 19)), (1, .int h)]) hx hb dX6_takeBack_5 rfl hl (by decide) rfl (fun ls hl => ?_)
  refine lv_aload_n hx hb dX6_takeBack_6 rfl (lv_at hl 1 rfl) ?_
  refine lv_iload_n hx hb dX6_takeBack_7 rfl (lv_at hl 0 rfl) ?_
  refine lv_iconst (v := (-1)) hx hb dX6_takeBack_8 (by decide) ?_
  refine lv_icmp_ne (tgt := 16) hx hb dX6_takeBack_9 (by decide) (fun c9 => ?_) (fun c9 => ?_)
  · rw [if_neg c9] at hE
    refine lv_iconst (v := 0) hx hb dX6_takeBack_16 (by decide) ?_
    refine g_puti (k := 32) B F P ok6 (by decide) rfl rfl rfl (by decide) rfl (tyX6_ok 32 (by decide)) q846 dX6_takeBack_17 (fun H locs P => ?_)
    refine lv_aload_n hx hb dX6_takeBack_20 rfl (lv_at hl 1 rfl) ?_
    refine g_getiv (k := 32) (v := 0) B F P ok6 (by decide) rfl rfl rfl (by decide) q846 dX6_takeBack_21 rfl ?_
    refine lv_if_ne (tgt := 40) hx hb dX6_takeBack_24 (by decide) (fun h9 => absurd h9 (by decide)) (fun _ => ?_)
    refine lv_aload_n hx hb dX6_takeBack_27 rfl (lv_at hl 1 rfl) ?_
    refine g_getr (k := 15) (t := 29) B F P ok6 (by decide) rfl rfl rfl (by decide) rfl q829 dX6_takeBack_28 ?_
    refine lv_iload_n hx hb dX6_takeBack_31 rfl (lv_at hl 0 rfl) ?_
    refine g_zld B F P (by decide) rfl rfl (oat_in hM.2.1 c9) dX6_takeBack_32 ?_
    refine lv_if_eq (tgt := 40) hx hb dX6_takeBack_33 (by decide) (fun c33 => ?_) (fun c33 => ?_)
    · rw [if_pos c33] at hE
      refine lv_iconst (v := 0) hx hb dX6_takeBack_40 (by decide) ?_
      refine lv_istore_n (lv' := [(3, .int 0), (2, .int (f_X6_orderAt h σ)), (0, .ref (ad 19)), (1, .int h)]) hx hb dX6_takeBack_41 rfl hl (by decide) rfl (fun ls hl => ?_)
      refine lv_aload_n hx hb dX6_takeBack_42 rfl (lv_at hl 2 rfl) ?_
      refine g_getiv (k := 32) (v := 0) B F P ok6 (by decide) rfl rfl rfl (by decide) q846 dX6_takeBack_43 rfl ?_
      refine lv_if_ne (tgt := 54) hx hb dX6_takeBack_46 (by decide) (fun h9 => absurd h9 (by decide)) (fun _ => ?_)
      refine lv_aload_n hx hb dX6_takeBack_49 rfl (lv_at hl 2 rfl) ?_
      refine lv_iload_n hx hb dX6_takeBack_50 rfl (lv_at hl 1 rfl) ?_
      refine g_callV B F P (As := [.int (f_X6_orderAt h σ)]) (ct_X6_forgets (D := D) (ad := ad) (cy := cy) (ba := ba) l (f_X6_orderAt h σ) (sI σ 19 32 0) (hM.2.1.of rfl (fun _ => rfl)) (oat_in hM.2.1 c9) (ofg_in hM.2.1 c9)) ok6 (by decide) rfl q1054 q1056 qs23 q8 q1057 nk_X6_forgets rfl ⟨(Nat.le_of_ble_eq_true rfl), (Nat.le_of_ble_eq_true rfl)⟩ hl.1 rfl (Nat.le_of_ble_eq_true rfl) dX6_takeBack_51 ⟨Nat.le_of_ble_eq_true rfl, Nat.le_of_ble_eq_true rfl⟩ (fun H locs P => ?_)
      refine lv_iload_n hx hb dX6_takeBack_54 rfl (lv_at hl 0 rfl) ?_
      exact g_retz B P (by rw [← hE]) (by rw [← hE]) hrt rfl hlk dX6_takeBack_55
    · rw [if_neg c33] at hE
      refine lv_iconst (v := 1) hx hb dX6_takeBack_36 (by decide) ?_
      refine lv_goto (tgt := 41) hx hb dX6_takeBack_37 (by decide) ?_
      refine lv_istore_n (lv' := [(3, .int 1), (2, .int (f_X6_orderAt h σ)), (0, .ref (ad 19)), (1, .int h)]) hx hb dX6_takeBack_41 rfl hl (by decide) rfl (fun ls hl => ?_)
      refine lv_aload_n hx hb dX6_takeBack_42 rfl (lv_at hl 2 rfl) ?_
      refine g_getiv (k := 32) (v := 0) B F P ok6 (by decide) rfl rfl rfl (by decide) q846 dX6_takeBack_43 rfl ?_
      refine lv_if_ne (tgt := 54) hx hb dX6_takeBack_46 (by decide) (fun h9 => absurd h9 (by decide)) (fun _ => ?_)
      refine lv_aload_n hx hb dX6_takeBack_49 rfl (lv_at hl 2 rfl) ?_
      refine lv_iload_n hx hb dX6_takeBack_50 rfl (lv_at hl 1 rfl) ?_
      refine g_callV B F P (As := [.int (f_X6_orderAt h σ)]) (ct_X6_forgets (D := D) (ad := ad) (cy := cy) (ba := ba) l (f_X6_orderAt h σ) (sI σ 19 32 0) (hM.2.1.of rfl (fun _ => rfl)) (oat_in hM.2.1 c9) (ofg_in hM.2.1 c9)) ok6 (by decide) rfl q1054 q1056 qs23 q8 q1057 nk_X6_forgets rfl ⟨(Nat.le_of_ble_eq_true rfl), (Nat.le_of_ble_eq_true rfl)⟩ hl.1 rfl (Nat.le_of_ble_eq_true rfl) dX6_takeBack_51 ⟨Nat.le_of_ble_eq_true rfl, Nat.le_of_ble_eq_true rfl⟩ (fun H locs P => ?_)
      refine lv_iload_n hx hb dX6_takeBack_54 rfl (lv_at hl 0 rfl) ?_
      exact g_retz B P (by rw [← hE]) (by rw [← hE]) hrt rfl hlk dX6_takeBack_55
  · rw [if_pos c9] at hE
    refine lv_iconst (v := 1) hx hb dX6_takeBack_12 (by decide) ?_
    refine lv_goto (tgt := 17) hx hb dX6_takeBack_13 (by decide) ?_
    refine g_puti (k := 32) B F P ok6 (by decide) rfl rfl rfl (by decide) rfl (tyX6_ok 32 (by decide)) q846 dX6_takeBack_17 (fun H locs P => ?_)
    refine lv_aload_n hx hb dX6_takeBack_20 rfl (lv_at hl 1 rfl) ?_
    refine g_getiv (k := 32) (v := 1) B F P ok6 (by decide) rfl rfl rfl (by decide) q846 dX6_takeBack_21 rfl ?_
    refine lv_if_ne (tgt := 40) hx hb dX6_takeBack_24 (by decide) (fun _ => ?_) (fun h9 => absurd h9 (by decide))
    refine lv_iconst (v := 0) hx hb dX6_takeBack_40 (by decide) ?_
    refine lv_istore_n (lv' := [(3, .int 0), (2, .int (f_X6_orderAt h σ)), (0, .ref (ad 19)), (1, .int h)]) hx hb dX6_takeBack_41 rfl hl (by decide) rfl (fun ls hl => ?_)
    refine lv_aload_n hx hb dX6_takeBack_42 rfl (lv_at hl 2 rfl) ?_
    refine g_getiv (k := 32) (v := 1) B F P ok6 (by decide) rfl rfl rfl (by decide) q846 dX6_takeBack_43 rfl ?_
    refine lv_if_ne (tgt := 54) hx hb dX6_takeBack_46 (by decide) (fun _ => ?_) (fun h9 => absurd h9 (by decide))
    refine lv_iload_n hx hb dX6_takeBack_54 rfl (lv_at hl 0 rfl) ?_
    exact g_retz B P (by rw [← hE]) (by rw [← hE]) hrt rfl hlk dX6_takeBack_55
theorem in_16 {x : Int32} {σ : Sg} (h : ¬ f_X6_in x.toInt64 1 6 σ = 0) : 1 ≤ x.toInt ∧ x.toInt ≤ 6 := in_rng h
theorem in_12 {x : Int32} {σ : Sg} (h : ¬ f_X6_in x.toInt64 1 12 σ = 0) : x.toInt ≤ 12 := (in_rng h).2
theorem nk_X6_looks : nmOk yX6_looks RX6 1 := ⟨rfl, by decide +kernel, by decide +kernel, by decide +kernel⟩
def f_X6_bestCost (nh : Int32) (σ : Sg) : Int32 × Sg := if (f_X6_in nh.toInt64 1 6 σ) = 0 then ((-1), (sI σ 19 32 1)) else (if (rI (f_X6_looks nh (sI σ 19 32 0)) 19 31) = 0 then ((-1), (sI (f_X6_looks nh (sI σ 19 32 0)) 19 32 2)) else ((rI (f_X6_looks nh (sI σ 19 32 0)) 19 30), (sI (f_X6_looks nh (sI σ 19 32 0)) 19 32 0)))
set_option maxHeartbeats 4000000 in
set_option maxRecDepth 100000 in
theorem ct_X6_bestCost {D : va_G} {ad : Nat → Nat} {cy : Nat → ClassId} {ba : Nat} (l : Launch) (nh : Int32) (σ : Sg) (hM : GM 99000 σ) : Ct D ad cy ba l 8 yX6_bestCost cX6_bestCost 2 (some .int) [.ref (ad 19), .int nh] σ (some (.int (f_X6_bestCost nh σ).1)) (f_X6_bestCost nh σ).2 := by
  generalize hE : f_X6_bestCost nh σ = Z
  dsimp only [f_X6_bestCost] at hE
  refine Ct.of (by decide +kernel) (Nat.le_of_ble_eq_true rfl) ?_
  intro p e s m below meth c ls B F P hrt hlk hl
  have hx := B.1
  have hb := B.2.1
  have hl : lv_has ls 2 [(0, .ref (ad 19)), (1, .int nh)] := hl
  refine lv_aload_n hx hb dX6_bestCost_0 rfl (lv_at hl 0 rfl) ?_
  refine lv_iload_n hx hb dX6_bestCost_1 rfl (lv_at hl 1 rfl) ?_
  refine lv_i2l hx hb dX6_bestCost_2 rfl ?_
  refine lv_lconst (v := 1) hx hb dX6_bestCost_3 (by decide) ?_
  refine g_ldc2 B q1079 dX6_bestCost_4 ?_
  refine g_callS B F P (As := [.long nh.toInt64, .long 1, .long 6]) (ct_X6_in (D := D) (ad := ad) (cy := cy) (ba := ba) l nh.toInt64 1 6 σ ) q927 q928 q8 q929 nk_X6_in rfl ⟨(Nat.le_of_ble_eq_true rfl), (Nat.le_of_ble_eq_true rfl)⟩ hl.1 rfl (Nat.le_of_ble_eq_true rfl) dX6_bestCost_7 ⟨Nat.le_of_ble_eq_true rfl, Nat.le_of_ble_eq_true rfl⟩ (fun H locs P => ?_)
  refine lv_if_eq (tgt := 17) hx hb dX6_bestCost_10 (by decide) (fun c10 => ?_) (fun c10 => ?_)
  · rw [if_pos c10] at hE
    refine lv_iconst (v := 1) hx hb dX6_bestCost_17 (by decide) ?_
    refine g_puti (k := 32) B F P ok6 (by decide) rfl rfl rfl (by decide) rfl (tyX6_ok 32 (by decide)) q846 dX6_bestCost_18 (fun H locs P => ?_)
    refine lv_aload_n hx hb dX6_bestCost_21 rfl (lv_at hl 0 rfl) ?_
    refine g_getiv (k := 32) (v := 1) B F P ok6 (by decide) rfl rfl rfl (by decide) q846 dX6_bestCost_22 rfl ?_
    refine lv_if_le (tgt := 30) hx hb dX6_bestCost_25 (by decide) (fun h9 => absurd h9 (by decide)) (fun _ => ?_)
    refine lv_iconst (v := (-1)) hx hb dX6_bestCost_28 (by decide) ?_
    exact g_reti B P (by rw [← hE]) (by rw [← hE]) hrt hlk dX6_bestCost_29
  · rw [if_neg c10] at hE
    refine lv_iconst (v := 0) hx hb dX6_bestCost_13 (by decide) ?_
    refine lv_goto (tgt := 18) hx hb dX6_bestCost_14 (by decide) ?_
    refine g_puti (k := 32) B F P ok6 (by decide) rfl rfl rfl (by decide) rfl (tyX6_ok 32 (by decide)) q846 dX6_bestCost_18 (fun H locs P => ?_)
    refine lv_aload_n hx hb dX6_bestCost_21 rfl (lv_at hl 0 rfl) ?_
    refine g_getiv (k := 32) (v := 0) B F P ok6 (by decide) rfl rfl rfl (by decide) q846 dX6_bestCost_22 rfl ?_
    refine lv_if_le (tgt := 30) hx hb dX6_bestCost_25 (by decide) (fun _ => ?_) (fun h9 => absurd h9 (by decide))
    refine lv_aload_n hx hb dX6_bestCost_30 rfl (lv_at hl 0 rfl) ?_
    refine lv_iload_n hx hb dX6_bestCost_31 rfl (lv_at hl 1 rfl) ?_
    refine g_callV B F P (As := [.int nh]) (ct_X6_looks (D := D) (ad := ad) (cy := cy) (ba := ba) l nh (sI σ 19 32 0) ((hM.of (by intro j hj; rcases hj with rfl | rfl | rfl | rfl | rfl | rfl <;> rfl) (fun _ => rfl)).w (by decide)) (in_16 c10)) ok6 (by decide) rfl q1063 q1065 qs24 q8 q1066 nk_X6_looks rfl ⟨(Nat.le_of_ble_eq_true rfl), (Nat.le_of_ble_eq_true rfl)⟩ hl.1 rfl (Nat.le_of_ble_eq_true rfl) dX6_bestCost_32 ⟨Nat.le_of_ble_eq_true rfl, Nat.le_of_ble_eq_true rfl⟩ (fun H locs P => ?_)
    refine lv_aload_n hx hb dX6_bestCost_35 rfl (lv_at hl 0 rfl) ?_
    refine lv_aload_n hx hb dX6_bestCost_36 rfl (lv_at hl 0 rfl) ?_
    refine g_geti (k := 31) B F P ok6 (by decide) rfl rfl rfl (by decide) q845 dX6_bestCost_37 ?_
    refine lv_if_ne (tgt := 47) hx hb dX6_bestCost_40 (by decide) (fun c40 => ?_) (fun c40 => ?_)
    · rw [if_neg c40] at hE
      refine lv_iconst (v := 0) hx hb dX6_bestCost_47 (by decide) ?_
      refine g_puti (k := 32) B F P ok6 (by decide) rfl rfl rfl (by decide) rfl (tyX6_ok 32 (by decide)) q846 dX6_bestCost_48 (fun H locs P => ?_)
      refine lv_aload_n hx hb dX6_bestCost_51 rfl (lv_at hl 0 rfl) ?_
      refine g_getiv (k := 32) (v := 0) B F P ok6 (by decide) rfl rfl rfl (by decide) q846 dX6_bestCost_52 rfl ?_
      refine lv_if_ne (tgt := 65) hx hb dX6_bestCost_55 (by decide) (fun h9 => absurd h9 (by decide)) (fun _ => ?_)
      refine lv_aload_n hx hb dX6_bestCost_58 rfl (lv_at hl 0 rfl) ?_
      refine g_getiv (k := 30) (v := (rI (f_X6_looks nh (sI σ 19 32 0)) 19 30)) B F P ok6 (by decide) rfl rfl rfl (by decide) q844 dX6_bestCost_59 rfl ?_
      refine lv_goto (tgt := 66) hx hb dX6_bestCost_62 (by decide) ?_
      exact g_reti B P (by rw [← hE]) (by rw [← hE]) hrt hlk dX6_bestCost_66
    · rw [if_pos c40] at hE
      refine lv_iconst (v := 2) hx hb dX6_bestCost_43 (by decide) ?_
      refine lv_goto (tgt := 48) hx hb dX6_bestCost_44 (by decide) ?_
      refine g_puti (k := 32) B F P ok6 (by decide) rfl rfl rfl (by decide) rfl (tyX6_ok 32 (by decide)) q846 dX6_bestCost_48 (fun H locs P => ?_)
      refine lv_aload_n hx hb dX6_bestCost_51 rfl (lv_at hl 0 rfl) ?_
      refine g_getiv (k := 32) (v := 2) B F P ok6 (by decide) rfl rfl rfl (by decide) q846 dX6_bestCost_52 rfl ?_
      refine lv_if_ne (tgt := 65) hx hb dX6_bestCost_55 (by decide) (fun _ => ?_) (fun h9 => absurd h9 (by decide))
      refine lv_iconst (v := (-1)) hx hb dX6_bestCost_65 (by decide) ?_
      exact g_reti B P (by rw [← hE]) (by rw [← hE]) hrt hlk dX6_bestCost_66
theorem nk_X6_bestCost : nmOk yX6_bestCost RX6 1 := ⟨rfl, by decide +kernel, by decide +kernel, by decide +kernel⟩
def f_X6_bestCostByTrying (nh : Int32) (σ : Sg) : Int32 × Sg := ((f_X6_bestCost nh σ).1, (f_X6_bestCost nh σ).2)
set_option maxHeartbeats 4000000 in
set_option maxRecDepth 100000 in
theorem ct_X6_bestCostByTrying {D : va_G} {ad : Nat → Nat} {cy : Nat → ClassId} {ba : Nat} (l : Launch) (nh : Int32) (σ : Sg) (hM : GM 99000 σ) : Ct D ad cy ba l 9 yX6_bestCostByTrying cX6_bestCostByTrying 2 (some .int) [.ref (ad 19), .int nh] σ (some (.int (f_X6_bestCostByTrying nh σ).1)) (f_X6_bestCostByTrying nh σ).2 := by
  generalize hE : f_X6_bestCostByTrying nh σ = Z
  dsimp only [f_X6_bestCostByTrying] at hE
  refine Ct.of (by decide +kernel) (Nat.le_of_ble_eq_true rfl) ?_
  intro p e s m below meth c ls B F P hrt hlk hl
  have hx := B.1
  have hb := B.2.1
  have hl : lv_has ls 2 [(0, .ref (ad 19)), (1, .int nh)] := hl
  refine lv_aload_n hx hb dX6_bestCostByTrying_0 rfl (lv_at hl 0 rfl) ?_
  refine lv_iload_n hx hb dX6_bestCostByTrying_1 rfl (lv_at hl 1 rfl) ?_
  refine g_callV B F P (As := [.int nh]) (ct_X6_bestCost (D := D) (ad := ad) (cy := cy) (ba := ba) l nh σ hM) ok6 (by decide) rfl q1100 q1093 q1094 q8 q1095 nk_X6_bestCost rfl ⟨(Nat.le_of_ble_eq_true rfl), (Nat.le_of_ble_eq_true rfl)⟩ hl.1 rfl (Nat.le_of_ble_eq_true rfl) dX6_bestCostByTrying_2 ⟨Nat.le_of_ble_eq_true rfl, Nat.le_of_ble_eq_true rfl⟩ (fun H locs P => ?_)
  exact g_reti B P (by rw [← hE]) (by rw [← hE]) hrt hlk dX6_bestCostByTrying_5
def f_X6_isOnInBest (nh : Int32) (i : Int32) (σ : Sg) : Int32 × Sg := if (f_X6_in nh.toInt64 1 6 σ) = 0 then (0, (sI σ 19 32 1)) else (if (f_X6_in i.toInt64 0 ((nh - 1).toInt64) σ) = 0 then (0, (sI σ 19 32 2)) else (if (rI (f_X6_looks nh (sI σ 19 32 0)) 19 31) = 0 then (0, (sI (f_X6_looks nh (sI σ 19 32 0)) 19 32 3)) else (if (((rI (f_X6_looks nh (sI σ 19 32 0)) 19 29) >>> (((nh - 1) - i) &&& 31)) &&& 1) = 1 then (1, (sI (f_X6_looks nh (sI σ 19 32 0)) 19 32 0)) else (0, (sI (f_X6_looks nh (sI σ 19 32 0)) 19 32 0)))))
set_option maxHeartbeats 4000000 in
set_option maxRecDepth 100000 in
theorem ct_X6_isOnInBest {D : va_G} {ad : Nat → Nat} {cy : Nat → ClassId} {ba : Nat} (l : Launch) (nh : Int32) (i : Int32) (σ : Sg) (hM : GM 99000 σ) : Ct D ad cy ba l 8 yX6_isOnInBest cX6_isOnInBest 3 (some .boolean) [.ref (ad 19), .int nh, .int i] σ (some (.int (f_X6_isOnInBest nh i σ).1)) (f_X6_isOnInBest nh i σ).2 := by
  generalize hE : f_X6_isOnInBest nh i σ = Z
  dsimp only [f_X6_isOnInBest] at hE
  refine Ct.of (by decide +kernel) (Nat.le_of_ble_eq_true rfl) ?_
  intro p e s m below meth c ls B F P hrt hlk hl
  have hx := B.1
  have hb := B.2.1
  have hl : lv_has ls 3 [(0, .ref (ad 19)), (1, .int nh), (2, .int i)] := hl
  refine lv_aload_n hx hb dX6_isOnInBest_0 rfl (lv_at hl 0 rfl) ?_
  refine lv_iload_n hx hb dX6_isOnInBest_1 rfl (lv_at hl 1 rfl) ?_
  refine lv_i2l hx hb dX6_isOnInBest_2 rfl ?_
  refine lv_lconst (v := 1) hx hb dX6_isOnInBest_3 (by decide) ?_
  refine g_ldc2 B q1079 dX6_isOnInBest_4 ?_
  refine g_callS B F P (As := [.long nh.toInt64, .long 1, .long 6]) (ct_X6_in (D := D) (ad := ad) (cy := cy) (ba := ba) l nh.toInt64 1 6 σ ) q927 q928 q8 q929 nk_X6_in rfl ⟨(Nat.le_of_ble_eq_true rfl), (Nat.le_of_ble_eq_true rfl)⟩ hl.1 rfl (Nat.le_of_ble_eq_true rfl) dX6_isOnInBest_7 ⟨Nat.le_of_ble_eq_true rfl, Nat.le_of_ble_eq_true rfl⟩ (fun H locs P => ?_)
  refine lv_if_ne (tgt := 17) hx hb dX6_isOnInBest_10 (by decide) (fun c10 => ?_) (fun c10 => ?_)
  · rw [if_neg c10] at hE
    refine lv_iload_n hx hb dX6_isOnInBest_17 rfl (lv_at hl 2 rfl) ?_
    refine lv_i2l hx hb dX6_isOnInBest_18 rfl ?_
    refine lv_lconst (v := 0) hx hb dX6_isOnInBest_19 (by decide) ?_
    refine lv_iload_n hx hb dX6_isOnInBest_20 rfl (lv_at hl 1 rfl) ?_
    refine lv_iconst (v := 1) hx hb dX6_isOnInBest_21 (by decide) ?_
    refine lv_isub hx hb dX6_isOnInBest_22 ?_
    refine lv_i2l hx hb dX6_isOnInBest_23 rfl ?_
    refine g_callS B F P (As := [.long i.toInt64, .long 0, .long ((nh - 1).toInt64)]) (ct_X6_in (D := D) (ad := ad) (cy := cy) (ba := ba) l i.toInt64 0 ((nh - 1).toInt64) σ ) q927 q928 q8 q929 nk_X6_in rfl ⟨(Nat.le_of_ble_eq_true rfl), (Nat.le_of_ble_eq_true rfl)⟩ hl.1 rfl (Nat.le_of_ble_eq_true rfl) dX6_isOnInBest_24 ⟨Nat.le_of_ble_eq_true rfl, Nat.le_of_ble_eq_true rfl⟩ (fun H locs P => ?_)
    refine lv_if_ne (tgt := 34) hx hb dX6_isOnInBest_27 (by decide) (fun c27 => ?_) (fun c27 => ?_)
    · rw [if_neg c27] at hE
      refine lv_iconst (v := 0) hx hb dX6_isOnInBest_34 (by decide) ?_
      refine g_puti (k := 32) B F P ok6 (by decide) rfl rfl rfl (by decide) rfl (tyX6_ok 32 (by decide)) q846 dX6_isOnInBest_35 (fun H locs P => ?_)
      refine lv_aload_n hx hb dX6_isOnInBest_38 rfl (lv_at hl 0 rfl) ?_
      refine g_getiv (k := 32) (v := 0) B F P ok6 (by decide) rfl rfl rfl (by decide) q846 dX6_isOnInBest_39 rfl ?_
      refine lv_if_le (tgt := 47) hx hb dX6_isOnInBest_42 (by decide) (fun _ => ?_) (fun h9 => absurd h9 (by decide))
      refine lv_aload_n hx hb dX6_isOnInBest_47 rfl (lv_at hl 0 rfl) ?_
      refine lv_iload_n hx hb dX6_isOnInBest_48 rfl (lv_at hl 1 rfl) ?_
      refine g_callV B F P (As := [.int nh]) (ct_X6_looks (D := D) (ad := ad) (cy := cy) (ba := ba) l nh (sI σ 19 32 0) ((hM.of (by intro j hj; rcases hj with rfl | rfl | rfl | rfl | rfl | rfl <;> rfl) (fun _ => rfl)).w (by decide)) (in_16 c10)) ok6 (by decide) rfl q1063 q1065 qs24 q8 q1066 nk_X6_looks rfl ⟨(Nat.le_of_ble_eq_true rfl), (Nat.le_of_ble_eq_true rfl)⟩ hl.1 rfl (Nat.le_of_ble_eq_true rfl) dX6_isOnInBest_49 ⟨Nat.le_of_ble_eq_true rfl, Nat.le_of_ble_eq_true rfl⟩ (fun H locs P => ?_)
      refine lv_aload_n hx hb dX6_isOnInBest_52 rfl (lv_at hl 0 rfl) ?_
      refine lv_aload_n hx hb dX6_isOnInBest_53 rfl (lv_at hl 0 rfl) ?_
      refine g_geti (k := 31) B F P ok6 (by decide) rfl rfl rfl (by decide) q845 dX6_isOnInBest_54 ?_
      refine lv_if_ne (tgt := 64) hx hb dX6_isOnInBest_57 (by decide) (fun c57 => ?_) (fun c57 => ?_)
      · rw [if_neg c57] at hE
        refine lv_iconst (v := 0) hx hb dX6_isOnInBest_64 (by decide) ?_
        refine g_puti (k := 32) B F P ok6 (by decide) rfl rfl rfl (by decide) rfl (tyX6_ok 32 (by decide)) q846 dX6_isOnInBest_65 (fun H locs P => ?_)
        refine lv_aload_n hx hb dX6_isOnInBest_68 rfl (lv_at hl 0 rfl) ?_
        refine g_getiv (k := 32) (v := 0) B F P ok6 (by decide) rfl rfl rfl (by decide) q846 dX6_isOnInBest_69 rfl ?_
        refine lv_if_ne (tgt := 95) hx hb dX6_isOnInBest_72 (by decide) (fun h9 => absurd h9 (by decide)) (fun _ => ?_)
        refine lv_aload_n hx hb dX6_isOnInBest_75 rfl (lv_at hl 0 rfl) ?_
        refine g_getiv (k := 29) (v := (rI (f_X6_looks nh (sI σ 19 32 0)) 19 29)) B F P ok6 (by decide) rfl rfl rfl (by decide) q843 dX6_isOnInBest_76 rfl ?_
        refine lv_iload_n hx hb dX6_isOnInBest_79 rfl (lv_at hl 1 rfl) ?_
        refine lv_iconst (v := 1) hx hb dX6_isOnInBest_80 (by decide) ?_
        refine lv_isub hx hb dX6_isOnInBest_81 ?_
        refine lv_iload_n hx hb dX6_isOnInBest_82 rfl (lv_at hl 2 rfl) ?_
        refine lv_isub hx hb dX6_isOnInBest_83 ?_
        refine lv_ishr hx hb dX6_isOnInBest_84 ?_
        refine lv_iconst (v := 1) hx hb dX6_isOnInBest_85 (by decide) ?_
        refine lv_iand hx hb dX6_isOnInBest_86 ?_
        refine lv_iconst (v := 1) hx hb dX6_isOnInBest_87 (by decide) ?_
        refine lv_icmp_ne (tgt := 95) hx hb dX6_isOnInBest_88 (by decide) (fun c88 => ?_) (fun c88 => ?_)
        · rw [if_neg c88] at hE
          refine lv_iconst (v := 0) hx hb dX6_isOnInBest_95 (by decide) ?_
          exact g_retz B P (by rw [← hE]) (by rw [← hE]) hrt rfl hlk dX6_isOnInBest_96
        · rw [if_pos c88] at hE
          refine lv_iconst (v := 1) hx hb dX6_isOnInBest_91 (by decide) ?_
          refine lv_goto (tgt := 96) hx hb dX6_isOnInBest_92 (by decide) ?_
          exact g_retz B P (by rw [← hE]) (by rw [← hE]) hrt rfl hlk dX6_isOnInBest_96
      · rw [if_pos c57] at hE
        refine lv_iconst (v := 3) hx hb dX6_isOnInBest_60 (by decide) ?_
        refine lv_goto (tgt := 65) hx hb dX6_isOnInBest_61 (by decide) ?_
        refine g_puti (k := 32) B F P ok6 (by decide) rfl rfl rfl (by decide) rfl (tyX6_ok 32 (by decide)) q846 dX6_isOnInBest_65 (fun H locs P => ?_)
        refine lv_aload_n hx hb dX6_isOnInBest_68 rfl (lv_at hl 0 rfl) ?_
        refine g_getiv (k := 32) (v := 3) B F P ok6 (by decide) rfl rfl rfl (by decide) q846 dX6_isOnInBest_69 rfl ?_
        refine lv_if_ne (tgt := 95) hx hb dX6_isOnInBest_72 (by decide) (fun _ => ?_) (fun h9 => absurd h9 (by decide))
        refine lv_iconst (v := 0) hx hb dX6_isOnInBest_95 (by decide) ?_
        exact g_retz B P (by rw [← hE]) (by rw [← hE]) hrt rfl hlk dX6_isOnInBest_96
    · rw [if_pos c27] at hE
      refine lv_iconst (v := 2) hx hb dX6_isOnInBest_30 (by decide) ?_
      refine lv_goto (tgt := 35) hx hb dX6_isOnInBest_31 (by decide) ?_
      refine g_puti (k := 32) B F P ok6 (by decide) rfl rfl rfl (by decide) rfl (tyX6_ok 32 (by decide)) q846 dX6_isOnInBest_35 (fun H locs P => ?_)
      refine lv_aload_n hx hb dX6_isOnInBest_38 rfl (lv_at hl 0 rfl) ?_
      refine g_getiv (k := 32) (v := 2) B F P ok6 (by decide) rfl rfl rfl (by decide) q846 dX6_isOnInBest_39 rfl ?_
      refine lv_if_le (tgt := 47) hx hb dX6_isOnInBest_42 (by decide) (fun h9 => absurd h9 (by decide)) (fun _ => ?_)
      refine lv_iconst (v := 0) hx hb dX6_isOnInBest_45 (by decide) ?_
      exact g_retz B P (by rw [← hE]) (by rw [← hE]) hrt rfl hlk dX6_isOnInBest_46
  · rw [if_pos c10] at hE
    refine lv_iconst (v := 1) hx hb dX6_isOnInBest_13 (by decide) ?_
    refine lv_goto (tgt := 35) hx hb dX6_isOnInBest_14 (by decide) ?_
    refine g_puti (k := 32) B F P ok6 (by decide) rfl rfl rfl (by decide) rfl (tyX6_ok 32 (by decide)) q846 dX6_isOnInBest_35 (fun H locs P => ?_)
    refine lv_aload_n hx hb dX6_isOnInBest_38 rfl (lv_at hl 0 rfl) ?_
    refine g_getiv (k := 32) (v := 1) B F P ok6 (by decide) rfl rfl rfl (by decide) q846 dX6_isOnInBest_39 rfl ?_
    refine lv_if_le (tgt := 47) hx hb dX6_isOnInBest_42 (by decide) (fun h9 => absurd h9 (by decide)) (fun _ => ?_)
    refine lv_iconst (v := 0) hx hb dX6_isOnInBest_45 (by decide) ?_
    exact g_retz B P (by rw [← hE]) (by rw [← hE]) hrt rfl hlk dX6_isOnInBest_46
def f_X6_allowedSchedules (nh : Int32) (σ : Sg) : Int32 × Sg := if (f_X6_in nh.toInt64 1 6 σ) = 0 then ((-1), (sI σ 19 32 1)) else ((rI (f_X6_looks nh (sI σ 19 32 0)) 19 31), (f_X6_looks nh (sI σ 19 32 0)))
set_option maxHeartbeats 4000000 in
set_option maxRecDepth 100000 in
theorem ct_X6_allowedSchedules {D : va_G} {ad : Nat → Nat} {cy : Nat → ClassId} {ba : Nat} (l : Launch) (nh : Int32) (σ : Sg) (hM : GM 99000 σ) : Ct D ad cy ba l 8 yX6_allowedSchedules cX6_allowedSchedules 2 (some .int) [.ref (ad 19), .int nh] σ (some (.int (f_X6_allowedSchedules nh σ).1)) (f_X6_allowedSchedules nh σ).2 := by
  generalize hE : f_X6_allowedSchedules nh σ = Z
  dsimp only [f_X6_allowedSchedules] at hE
  refine Ct.of (by decide +kernel) (Nat.le_of_ble_eq_true rfl) ?_
  intro p e s m below meth c ls B F P hrt hlk hl
  have hx := B.1
  have hb := B.2.1
  have hl : lv_has ls 2 [(0, .ref (ad 19)), (1, .int nh)] := hl
  refine lv_aload_n hx hb dX6_allowedSchedules_0 rfl (lv_at hl 0 rfl) ?_
  refine lv_iload_n hx hb dX6_allowedSchedules_1 rfl (lv_at hl 1 rfl) ?_
  refine lv_i2l hx hb dX6_allowedSchedules_2 rfl ?_
  refine lv_lconst (v := 1) hx hb dX6_allowedSchedules_3 (by decide) ?_
  refine g_ldc2 B q1079 dX6_allowedSchedules_4 ?_
  refine g_callS B F P (As := [.long nh.toInt64, .long 1, .long 6]) (ct_X6_in (D := D) (ad := ad) (cy := cy) (ba := ba) l nh.toInt64 1 6 σ ) q927 q928 q8 q929 nk_X6_in rfl ⟨(Nat.le_of_ble_eq_true rfl), (Nat.le_of_ble_eq_true rfl)⟩ hl.1 rfl (Nat.le_of_ble_eq_true rfl) dX6_allowedSchedules_7 ⟨Nat.le_of_ble_eq_true rfl, Nat.le_of_ble_eq_true rfl⟩ (fun H locs P => ?_)
  refine lv_if_eq (tgt := 17) hx hb dX6_allowedSchedules_10 (by decide) (fun c10 => ?_) (fun c10 => ?_)
  · rw [if_pos c10] at hE
    refine lv_iconst (v := 1) hx hb dX6_allowedSchedules_17 (by decide) ?_
    refine g_puti (k := 32) B F P ok6 (by decide) rfl rfl rfl (by decide) rfl (tyX6_ok 32 (by decide)) q846 dX6_allowedSchedules_18 (fun H locs P => ?_)
    refine lv_aload_n hx hb dX6_allowedSchedules_21 rfl (lv_at hl 0 rfl) ?_
    refine g_getiv (k := 32) (v := 1) B F P ok6 (by decide) rfl rfl rfl (by decide) q846 dX6_allowedSchedules_22 rfl ?_
    refine lv_if_le (tgt := 30) hx hb dX6_allowedSchedules_25 (by decide) (fun h9 => absurd h9 (by decide)) (fun _ => ?_)
    refine lv_iconst (v := (-1)) hx hb dX6_allowedSchedules_28 (by decide) ?_
    exact g_reti B P (by rw [← hE]) (by rw [← hE]) hrt hlk dX6_allowedSchedules_29
  · rw [if_neg c10] at hE
    refine lv_iconst (v := 0) hx hb dX6_allowedSchedules_13 (by decide) ?_
    refine lv_goto (tgt := 18) hx hb dX6_allowedSchedules_14 (by decide) ?_
    refine g_puti (k := 32) B F P ok6 (by decide) rfl rfl rfl (by decide) rfl (tyX6_ok 32 (by decide)) q846 dX6_allowedSchedules_18 (fun H locs P => ?_)
    refine lv_aload_n hx hb dX6_allowedSchedules_21 rfl (lv_at hl 0 rfl) ?_
    refine g_getiv (k := 32) (v := 0) B F P ok6 (by decide) rfl rfl rfl (by decide) q846 dX6_allowedSchedules_22 rfl ?_
    refine lv_if_le (tgt := 30) hx hb dX6_allowedSchedules_25 (by decide) (fun _ => ?_) (fun h9 => absurd h9 (by decide))
    refine lv_aload_n hx hb dX6_allowedSchedules_30 rfl (lv_at hl 0 rfl) ?_
    refine lv_iload_n hx hb dX6_allowedSchedules_31 rfl (lv_at hl 1 rfl) ?_
    refine g_callV B F P (As := [.int nh]) (ct_X6_looks (D := D) (ad := ad) (cy := cy) (ba := ba) l nh (sI σ 19 32 0) ((hM.of (by intro j hj; rcases hj with rfl | rfl | rfl | rfl | rfl | rfl <;> rfl) (fun _ => rfl)).w (by decide)) (in_16 c10)) ok6 (by decide) rfl q1063 q1065 qs24 q8 q1066 nk_X6_looks rfl ⟨(Nat.le_of_ble_eq_true rfl), (Nat.le_of_ble_eq_true rfl)⟩ hl.1 rfl (Nat.le_of_ble_eq_true rfl) dX6_allowedSchedules_32 ⟨Nat.le_of_ble_eq_true rfl, Nat.le_of_ble_eq_true rfl⟩ (fun H locs P => ?_)
    refine lv_aload_n hx hb dX6_allowedSchedules_35 rfl (lv_at hl 0 rfl) ?_
    refine g_geti (k := 31) B F P ok6 (by decide) rfl rfl rfl (by decide) q845 dX6_allowedSchedules_36 ?_
    exact g_reti B P (by rw [← hE]) (by rw [← hE]) hrt hlk dX6_allowedSchedules_39
def f_X6_feed  (σ : Sg) : Int64 × Sg := ((rL σ 19 23), (sI σ 19 32 0))
set_option maxHeartbeats 4000000 in
set_option maxRecDepth 100000 in
theorem ct_X6_feed {D : va_G} {ad : Nat → Nat} {cy : Nat → ClassId} {ba : Nat} (l : Launch)  (σ : Sg)  : Ct D ad cy ba l 0 yX6_feed cX6_feed 1 (some .long) [.ref (ad 19)] σ (some (.long (f_X6_feed  σ).1)) (f_X6_feed  σ).2 := by
  generalize hE : f_X6_feed  σ = Z
  dsimp only [f_X6_feed] at hE
  refine Ct.of (by decide +kernel) (Nat.le_of_ble_eq_true rfl) ?_
  intro p e s m below meth c ls B F P hrt hlk hl
  have hx := B.1
  have hb := B.2.1
  have hl : lv_has ls 1 [(0, .ref (ad 19))] := hl
  refine lv_aload_n hx hb dX6_feed_0 rfl (lv_at hl 0 rfl) ?_
  refine lv_iconst (v := 0) hx hb dX6_feed_1 (by decide) ?_
  refine g_puti (k := 32) B F P ok6 (by decide) rfl rfl rfl (by decide) rfl (tyX6_ok 32 (by decide)) q846 dX6_feed_2 (fun H locs P => ?_)
  refine lv_aload_n hx hb dX6_feed_5 rfl (lv_at hl 0 rfl) ?_
  refine g_getlv (k := 23) (v := (rL σ 19 23)) B F P ok6 (by decide) rfl rfl rfl (by decide) q837 dX6_feed_6 rfl ?_
  exact g_retl B P (by rw [← hE]) (by rw [← hE]) hrt hlk dX6_feed_9
def f_X6_product  (σ : Sg) : Int64 × Sg := ((rL σ 19 24), (sI σ 19 32 0))
set_option maxHeartbeats 4000000 in
set_option maxRecDepth 100000 in
theorem ct_X6_product {D : va_G} {ad : Nat → Nat} {cy : Nat → ClassId} {ba : Nat} (l : Launch)  (σ : Sg)  : Ct D ad cy ba l 0 yX6_product cX6_product 1 (some .long) [.ref (ad 19)] σ (some (.long (f_X6_product  σ).1)) (f_X6_product  σ).2 := by
  generalize hE : f_X6_product  σ = Z
  dsimp only [f_X6_product] at hE
  refine Ct.of (by decide +kernel) (Nat.le_of_ble_eq_true rfl) ?_
  intro p e s m below meth c ls B F P hrt hlk hl
  have hx := B.1
  have hb := B.2.1
  have hl : lv_has ls 1 [(0, .ref (ad 19))] := hl
  refine lv_aload_n hx hb dX6_product_0 rfl (lv_at hl 0 rfl) ?_
  refine lv_iconst (v := 0) hx hb dX6_product_1 (by decide) ?_
  refine g_puti (k := 32) B F P ok6 (by decide) rfl rfl rfl (by decide) rfl (tyX6_ok 32 (by decide)) q846 dX6_product_2 (fun H locs P => ?_)
  refine lv_aload_n hx hb dX6_product_5 rfl (lv_at hl 0 rfl) ?_
  refine g_getlv (k := 24) (v := (rL σ 19 24)) B F P ok6 (by decide) rfl rfl rfl (by decide) q838 dX6_product_6 rfl ?_
  exact g_retl B P (by rw [← hE]) (by rw [← hE]) hrt hlk dX6_product_9
def f_X6_brine  (σ : Sg) : Int64 × Sg := (((rL σ 19 23) - (rL σ 19 24)), (sI σ 19 32 0))
set_option maxHeartbeats 4000000 in
set_option maxRecDepth 100000 in
theorem ct_X6_brine {D : va_G} {ad : Nat → Nat} {cy : Nat → ClassId} {ba : Nat} (l : Launch)  (σ : Sg)  : Ct D ad cy ba l 0 yX6_brine cX6_brine 1 (some .long) [.ref (ad 19)] σ (some (.long (f_X6_brine  σ).1)) (f_X6_brine  σ).2 := by
  generalize hE : f_X6_brine  σ = Z
  dsimp only [f_X6_brine] at hE
  refine Ct.of (by decide +kernel) (Nat.le_of_ble_eq_true rfl) ?_
  intro p e s m below meth c ls B F P hrt hlk hl
  have hx := B.1
  have hb := B.2.1
  have hl : lv_has ls 1 [(0, .ref (ad 19))] := hl
  refine lv_aload_n hx hb dX6_brine_0 rfl (lv_at hl 0 rfl) ?_
  refine lv_iconst (v := 0) hx hb dX6_brine_1 (by decide) ?_
  refine g_puti (k := 32) B F P ok6 (by decide) rfl rfl rfl (by decide) rfl (tyX6_ok 32 (by decide)) q846 dX6_brine_2 (fun H locs P => ?_)
  refine lv_aload_n hx hb dX6_brine_5 rfl (lv_at hl 0 rfl) ?_
  refine g_getlv (k := 23) (v := (rL σ 19 23)) B F P ok6 (by decide) rfl rfl rfl (by decide) q837 dX6_brine_6 rfl ?_
  refine lv_aload_n hx hb dX6_brine_9 rfl (lv_at hl 0 rfl) ?_
  refine g_getlv (k := 24) (v := (rL σ 19 24)) B F P ok6 (by decide) rfl rfl rfl (by decide) q838 dX6_brine_10 rfl ?_
  refine lv_lsub hx hb dX6_brine_13 ?_
  exact g_retl B P (by rw [← hE]) (by rw [← hE]) hrt hlk dX6_brine_14
def f_X6_spilled  (σ : Sg) : Int64 × Sg := ((rL σ 19 25), (sI σ 19 32 0))
set_option maxHeartbeats 4000000 in
set_option maxRecDepth 100000 in
theorem ct_X6_spilled {D : va_G} {ad : Nat → Nat} {cy : Nat → ClassId} {ba : Nat} (l : Launch)  (σ : Sg)  : Ct D ad cy ba l 0 yX6_spilled cX6_spilled 1 (some .long) [.ref (ad 19)] σ (some (.long (f_X6_spilled  σ).1)) (f_X6_spilled  σ).2 := by
  generalize hE : f_X6_spilled  σ = Z
  dsimp only [f_X6_spilled] at hE
  refine Ct.of (by decide +kernel) (Nat.le_of_ble_eq_true rfl) ?_
  intro p e s m below meth c ls B F P hrt hlk hl
  have hx := B.1
  have hb := B.2.1
  have hl : lv_has ls 1 [(0, .ref (ad 19))] := hl
  refine lv_aload_n hx hb dX6_spilled_0 rfl (lv_at hl 0 rfl) ?_
  refine lv_iconst (v := 0) hx hb dX6_spilled_1 (by decide) ?_
  refine g_puti (k := 32) B F P ok6 (by decide) rfl rfl rfl (by decide) rfl (tyX6_ok 32 (by decide)) q846 dX6_spilled_2 (fun H locs P => ?_)
  refine lv_aload_n hx hb dX6_spilled_5 rfl (lv_at hl 0 rfl) ?_
  refine g_getlv (k := 25) (v := (rL σ 19 25)) B F P ok6 (by decide) rfl rfl rfl (by decide) q839 dX6_spilled_6 rfl ?_
  exact g_retl B P (by rw [← hE]) (by rw [← hE]) hrt hlk dX6_spilled_9
def f_X6_cost  (σ : Sg) : Int64 × Sg := ((rL σ 19 28), (sI σ 19 32 0))
set_option maxHeartbeats 4000000 in
set_option maxRecDepth 100000 in
theorem ct_X6_cost {D : va_G} {ad : Nat → Nat} {cy : Nat → ClassId} {ba : Nat} (l : Launch)  (σ : Sg)  : Ct D ad cy ba l 0 yX6_cost cX6_cost 1 (some .long) [.ref (ad 19)] σ (some (.long (f_X6_cost  σ).1)) (f_X6_cost  σ).2 := by
  generalize hE : f_X6_cost  σ = Z
  dsimp only [f_X6_cost] at hE
  refine Ct.of (by decide +kernel) (Nat.le_of_ble_eq_true rfl) ?_
  intro p e s m below meth c ls B F P hrt hlk hl
  have hx := B.1
  have hb := B.2.1
  have hl : lv_has ls 1 [(0, .ref (ad 19))] := hl
  refine lv_aload_n hx hb dX6_cost_0 rfl (lv_at hl 0 rfl) ?_
  refine lv_iconst (v := 0) hx hb dX6_cost_1 (by decide) ?_
  refine g_puti (k := 32) B F P ok6 (by decide) rfl rfl rfl (by decide) rfl (tyX6_ok 32 (by decide)) q846 dX6_cost_2 (fun H locs P => ?_)
  refine lv_aload_n hx hb dX6_cost_5 rfl (lv_at hl 0 rfl) ?_
  refine g_getlv (k := 28) (v := (rL σ 19 28)) B F P ok6 (by decide) rfl rfl rfl (by decide) q842 dX6_cost_6 rfl ?_
  exact g_retl B P (by rw [← hE]) (by rw [← hE]) hrt hlk dX6_cost_9
theorem nk_X6_spilled : nmOk yX6_spilled RX6 0 := ⟨rfl, by decide +kernel, by decide +kernel, by decide +kernel⟩
def f_X6_spilledByBalance  (σ : Sg) : Int64 × Sg := ((f_X6_spilled σ).1, (f_X6_spilled σ).2)
set_option maxHeartbeats 4000000 in
set_option maxRecDepth 100000 in
theorem ct_X6_spilledByBalance {D : va_G} {ad : Nat → Nat} {cy : Nat → ClassId} {ba : Nat} (l : Launch)  (σ : Sg)  : Ct D ad cy ba l 1 yX6_spilledByBalance cX6_spilledByBalance 1 (some .long) [.ref (ad 19)] σ (some (.long (f_X6_spilledByBalance  σ).1)) (f_X6_spilledByBalance  σ).2 := by
  generalize hE : f_X6_spilledByBalance  σ = Z
  dsimp only [f_X6_spilledByBalance] at hE
  refine Ct.of (by decide +kernel) (Nat.le_of_ble_eq_true rfl) ?_
  intro p e s m below meth c ls B F P hrt hlk hl
  have hx := B.1
  have hb := B.2.1
  have hl : lv_has ls 1 [(0, .ref (ad 19))] := hl
  refine lv_aload_n hx hb dX6_spilledByBalance_0 rfl (lv_at hl 0 rfl) ?_
  refine g_callV B F P (As := []) (ct_X6_spilled (D := D) (ad := ad) (cy := cy) (ba := ba) l  σ ) ok6 (by decide) rfl q1129 q1122 q1123 q8 q1124 nk_X6_spilled rfl ⟨(Nat.le_of_ble_eq_true rfl), (Nat.le_of_ble_eq_true rfl)⟩ hl.1 rfl (Nat.le_of_ble_eq_true rfl) dX6_spilledByBalance_1 ⟨Nat.le_of_ble_eq_true rfl, Nat.le_of_ble_eq_true rfl⟩ (fun H locs P => ?_)
  exact g_retl B P (by rw [← hE]) (by rw [← hE]) hrt hlk dX6_spilledByBalance_4
def f_X6_isBalanced  (σ : Sg) : Int32 × Sg := (1, (sI σ 19 32 0))
set_option maxHeartbeats 4000000 in
set_option maxRecDepth 100000 in
theorem ct_X6_isBalanced {D : va_G} {ad : Nat → Nat} {cy : Nat → ClassId} {ba : Nat} (l : Launch)  (σ : Sg)  : Ct D ad cy ba l 0 yX6_isBalanced cX6_isBalanced 1 (some .boolean) [.ref (ad 19)] σ (some (.int (f_X6_isBalanced  σ).1)) (f_X6_isBalanced  σ).2 := by
  generalize hE : f_X6_isBalanced  σ = Z
  dsimp only [f_X6_isBalanced] at hE
  refine Ct.of (by decide +kernel) (Nat.le_of_ble_eq_true rfl) ?_
  intro p e s m below meth c ls B F P hrt hlk hl
  have hx := B.1
  have hb := B.2.1
  have hl : lv_has ls 1 [(0, .ref (ad 19))] := hl
  refine lv_aload_n hx hb dX6_isBalanced_0 rfl (lv_at hl 0 rfl) ?_
  refine lv_iconst (v := 0) hx hb dX6_isBalanced_1 (by decide) ?_
  refine g_puti (k := 32) B F P ok6 (by decide) rfl rfl rfl (by decide) rfl (tyX6_ok 32 (by decide)) q846 dX6_isBalanced_2 (fun H locs P => ?_)
  refine lv_iconst (v := 1) hx hb dX6_isBalanced_5 (by decide) ?_
  exact g_retz B P (by rw [← hE]) (by rw [← hE]) hrt rfl hlk dX6_isBalanced_6
def f_X6_servedShare  (σ : Sg) : UInt32 × Sg := if (lg_cmp (rL σ 19 27) 0) = 0 then (FP.fconst0, (sI σ 19 32 1)) else ((FP.fdiv (FP.l2f (rL σ 19 26)) (FP.l2f (rL σ 19 27))), (sI σ 19 32 0))
set_option maxHeartbeats 4000000 in
set_option maxRecDepth 100000 in
theorem ct_X6_servedShare {D : va_G} {ad : Nat → Nat} {cy : Nat → ClassId} {ba : Nat} (l : Launch)  (σ : Sg)  : Ct D ad cy ba l 0 yX6_servedShare cX6_servedShare 1 (some .float) [.ref (ad 19)] σ (some (.float (f_X6_servedShare  σ).1)) (f_X6_servedShare  σ).2 := by
  generalize hE : f_X6_servedShare  σ = Z
  dsimp only [f_X6_servedShare] at hE
  refine Ct.of (by decide +kernel) (Nat.le_of_ble_eq_true rfl) ?_
  intro p e s m below meth c ls B F P hrt hlk hl
  have hx := B.1
  have hb := B.2.1
  have hl : lv_has ls 1 [(0, .ref (ad 19))] := hl
  refine lv_aload_n hx hb dX6_servedShare_0 rfl (lv_at hl 0 rfl) ?_
  refine lv_aload_n hx hb dX6_servedShare_1 rfl (lv_at hl 0 rfl) ?_
  refine g_getl (k := 27) B F P ok6 (by decide) rfl rfl rfl (by decide) q841 dX6_servedShare_2 ?_
  refine lv_lconst (v := 0) hx hb dX6_servedShare_5 (by decide) ?_
  refine W.lcmp hx hb dX6_servedShare_6 ?_
  refine lv_if_ne (tgt := 14) hx hb dX6_servedShare_7 (by decide) (fun c7 => ?_) (fun c7 => ?_)
  · rw [if_neg c7] at hE
    refine lv_iconst (v := 0) hx hb dX6_servedShare_14 (by decide) ?_
    refine g_puti (k := 32) B F P ok6 (by decide) rfl rfl rfl (by decide) rfl (tyX6_ok 32 (by decide)) q846 dX6_servedShare_15 (fun H locs P => ?_)
    refine lv_aload_n hx hb dX6_servedShare_18 rfl (lv_at hl 0 rfl) ?_
    refine g_getiv (k := 32) (v := 0) B F P ok6 (by decide) rfl rfl rfl (by decide) q846 dX6_servedShare_19 rfl ?_
    refine lv_if_ne (tgt := 39) hx hb dX6_servedShare_22 (by decide) (fun h9 => absurd h9 (by decide)) (fun _ => ?_)
    refine lv_aload_n hx hb dX6_servedShare_25 rfl (lv_at hl 0 rfl) ?_
    refine g_getlv (k := 26) (v := (rL σ 19 26)) B F P ok6 (by decide) rfl rfl rfl (by decide) q840 dX6_servedShare_26 rfl ?_
    refine lv_l2f hx hb dX6_servedShare_29 ?_
    refine lv_aload_n hx hb dX6_servedShare_30 rfl (lv_at hl 0 rfl) ?_
    refine g_getlv (k := 27) (v := (rL σ 19 27)) B F P ok6 (by decide) rfl rfl rfl (by decide) q841 dX6_servedShare_31 rfl ?_
    refine lv_l2f hx hb dX6_servedShare_34 ?_
    refine lv_fdiv hx hb dX6_servedShare_35 (nan_f (l_ne0 c7)) ?_
    refine lv_goto (tgt := 40) hx hb dX6_servedShare_36 (by decide) ?_
    exact g_retf B P (by rw [← hE]) (by rw [← hE]) hrt hlk dX6_servedShare_40
  · rw [if_pos c7] at hE
    refine lv_iconst (v := 1) hx hb dX6_servedShare_10 (by decide) ?_
    refine lv_goto (tgt := 15) hx hb dX6_servedShare_11 (by decide) ?_
    refine g_puti (k := 32) B F P ok6 (by decide) rfl rfl rfl (by decide) rfl (tyX6_ok 32 (by decide)) q846 dX6_servedShare_15 (fun H locs P => ?_)
    refine lv_aload_n hx hb dX6_servedShare_18 rfl (lv_at hl 0 rfl) ?_
    refine g_getiv (k := 32) (v := 1) B F P ok6 (by decide) rfl rfl rfl (by decide) q846 dX6_servedShare_19 rfl ?_
    refine lv_if_ne (tgt := 39) hx hb dX6_servedShare_22 (by decide) (fun _ => ?_) (fun h9 => absurd h9 (by decide))
    refine lv_fconst0 hx hb dX6_servedShare_39 ?_
    exact g_retf B P (by rw [← hE]) (by rw [← hE]) hrt hlk dX6_servedShare_40
def f_X6_meanCost  (σ : Sg) : UInt64 × Sg := if (rI σ 19 12) = 0 then (FP.dconst0, (sI σ 19 32 1)) else ((FP.ddiv (FP.l2d (rL σ 19 28)) (FP.i2d (rI σ 19 12))), (sI σ 19 32 0))
set_option maxHeartbeats 4000000 in
set_option maxRecDepth 100000 in
theorem ct_X6_meanCost {D : va_G} {ad : Nat → Nat} {cy : Nat → ClassId} {ba : Nat} (l : Launch)  (σ : Sg)  : Ct D ad cy ba l 0 yX6_meanCost cX6_meanCost 1 (some .double) [.ref (ad 19)] σ (some (.double (f_X6_meanCost  σ).1)) (f_X6_meanCost  σ).2 := by
  generalize hE : f_X6_meanCost  σ = Z
  dsimp only [f_X6_meanCost] at hE
  refine Ct.of (by decide +kernel) (Nat.le_of_ble_eq_true rfl) ?_
  intro p e s m below meth c ls B F P hrt hlk hl
  have hx := B.1
  have hb := B.2.1
  have hl : lv_has ls 1 [(0, .ref (ad 19))] := hl
  refine lv_aload_n hx hb dX6_meanCost_0 rfl (lv_at hl 0 rfl) ?_
  refine lv_aload_n hx hb dX6_meanCost_1 rfl (lv_at hl 0 rfl) ?_
  refine g_geti (k := 12) B F P ok6 (by decide) rfl rfl rfl (by decide) q826 dX6_meanCost_2 ?_
  refine lv_if_ne (tgt := 12) hx hb dX6_meanCost_5 (by decide) (fun c5 => ?_) (fun c5 => ?_)
  · rw [if_neg c5] at hE
    refine lv_iconst (v := 0) hx hb dX6_meanCost_12 (by decide) ?_
    refine g_puti (k := 32) B F P ok6 (by decide) rfl rfl rfl (by decide) rfl (tyX6_ok 32 (by decide)) q846 dX6_meanCost_13 (fun H locs P => ?_)
    refine lv_aload_n hx hb dX6_meanCost_16 rfl (lv_at hl 0 rfl) ?_
    refine g_getiv (k := 32) (v := 0) B F P ok6 (by decide) rfl rfl rfl (by decide) q846 dX6_meanCost_17 rfl ?_
    refine lv_if_ne (tgt := 37) hx hb dX6_meanCost_20 (by decide) (fun h9 => absurd h9 (by decide)) (fun _ => ?_)
    refine lv_aload_n hx hb dX6_meanCost_23 rfl (lv_at hl 0 rfl) ?_
    refine g_getlv (k := 28) (v := (rL σ 19 28)) B F P ok6 (by decide) rfl rfl rfl (by decide) q842 dX6_meanCost_24 rfl ?_
    refine lv_l2d hx hb dX6_meanCost_27 ?_
    refine lv_aload_n hx hb dX6_meanCost_28 rfl (lv_at hl 0 rfl) ?_
    refine g_getiv (k := 12) (v := (rI σ 19 12)) B F P ok6 (by decide) rfl rfl rfl (by decide) q826 dX6_meanCost_29 rfl ?_
    refine lv_i2d hx hb dX6_meanCost_32 ?_
    refine lv_ddiv hx hb dX6_meanCost_33 (nan_d (i_ne0 c5)) ?_
    refine lv_goto (tgt := 38) hx hb dX6_meanCost_34 (by decide) ?_
    exact g_retd B P (by rw [← hE]) (by rw [← hE]) hrt hlk dX6_meanCost_38
  · rw [if_pos c5] at hE
    refine lv_iconst (v := 1) hx hb dX6_meanCost_8 (by decide) ?_
    refine lv_goto (tgt := 13) hx hb dX6_meanCost_9 (by decide) ?_
    refine g_puti (k := 32) B F P ok6 (by decide) rfl rfl rfl (by decide) rfl (tyX6_ok 32 (by decide)) q846 dX6_meanCost_13 (fun H locs P => ?_)
    refine lv_aload_n hx hb dX6_meanCost_16 rfl (lv_at hl 0 rfl) ?_
    refine g_getiv (k := 32) (v := 1) B F P ok6 (by decide) rfl rfl rfl (by decide) q846 dX6_meanCost_17 rfl ?_
    refine lv_if_ne (tgt := 37) hx hb dX6_meanCost_20 (by decide) (fun _ => ?_) (fun h9 => absurd h9 (by decide))
    refine lv_dconst0 hx hb dX6_meanCost_37 ?_
    exact g_retd B P (by rw [← hE]) (by rw [← hE]) hrt hlk dX6_meanCost_38
def f_X6_run_l34 (nh : Int32) : Nat → Int32 → Int32 → Sg → Int32 × Sg
  | 0, _, _, σ34 => (0, σ34)
  | n34 + 1, x3_34, x2_34, σ34 => if nh ≤ x3_34 then (x2_34, σ34) else (if (f_X6_orderAt (rI σ34 19 12) σ34) = (-1) then (if (rI (f_X6_looks (rI σ34 19 13) σ34) 19 31) = 0 then (f_X6_run_l34 nh n34 (x3_34 + 1) (x2_34 + 1) (f_X6_passes 1 (f_X6_looks (rI σ34 19 13) σ34))) else (if (((rI (f_X6_looks (rI σ34 19 13) σ34) 19 29) >>> (((rI (f_X6_looks (rI σ34 19 13) σ34) 19 13) - 1) &&& 31)) &&& 1) = 1 then (f_X6_run_l34 nh n34 (x3_34 + 1) (x2_34 + 1) (f_X6_passes 1 (f_X6_looks (rI σ34 19 13) σ34))) else (f_X6_run_l34 nh n34 (x3_34 + 1) (x2_34 + 0) (f_X6_passes 0 (f_X6_looks (rI σ34 19 13) σ34))))) else (if (rI σ34 29 (f_X6_orderAt (rI σ34 19 12) σ34).toNatClampNeg) = 0 then (f_X6_run_l34 nh n34 (x3_34 + 1) (x2_34 + 0) (f_X6_passes (rI σ34 29 (f_X6_orderAt (rI σ34 19 12) σ34).toNatClampNeg) σ34)) else (f_X6_run_l34 nh n34 (x3_34 + 1) (x2_34 + 1) (f_X6_passes (rI σ34 29 (f_X6_orderAt (rI σ34 19 12) σ34).toNatClampNeg) σ34))))
def f_X6_run (nh : Int32) (σ : Sg) : Int32 × Sg := if (f_X6_in nh.toInt64 1 12 σ) = 0 then ((-1), (sI σ 19 32 1)) else (f_X6_run_l34 nh 13 0 0 (sI σ 19 32 0))
set_option maxHeartbeats 4000000 in
set_option maxRecDepth 100000 in
theorem ct_X6_run {D : va_G} {ad : Nat → Nat} {cy : Nat → ClassId} {ba : Nat} (l : Launch) (nh : Int32) (σ : Sg) (hM : GM 99000 σ) : Ct D ad cy ba l 8 yX6_run cX6_run 6 (some .int) [.ref (ad 19), .int nh] σ (some (.int (f_X6_run nh σ).1)) (f_X6_run nh σ).2 := by
  generalize hE : f_X6_run nh σ = Z
  dsimp only [f_X6_run] at hE
  refine Ct.of (by decide +kernel) (Nat.le_of_ble_eq_true rfl) ?_
  intro p e s m below meth c ls B F P hrt hlk hl
  have hx := B.1
  have hb := B.2.1
  have hl : lv_has ls 6 [(0, .ref (ad 19)), (1, .int nh)] := hl
  refine lv_aload_n hx hb dX6_run_0 rfl (lv_at hl 0 rfl) ?_
  refine lv_iload_n hx hb dX6_run_1 rfl (lv_at hl 1 rfl) ?_
  refine lv_i2l hx hb dX6_run_2 rfl ?_
  refine lv_lconst (v := 1) hx hb dX6_run_3 (by decide) ?_
  refine g_ldc2 B q1062 dX6_run_4 ?_
  refine g_callS B F P (As := [.long nh.toInt64, .long 1, .long 12]) (ct_X6_in (D := D) (ad := ad) (cy := cy) (ba := ba) l nh.toInt64 1 12 σ ) q927 q928 q8 q929 nk_X6_in rfl ⟨(Nat.le_of_ble_eq_true rfl), (Nat.le_of_ble_eq_true rfl)⟩ hl.1 rfl (Nat.le_of_ble_eq_true rfl) dX6_run_7 ⟨Nat.le_of_ble_eq_true rfl, Nat.le_of_ble_eq_true rfl⟩ (fun H locs P => ?_)
  refine lv_if_eq (tgt := 17) hx hb dX6_run_10 (by decide) (fun c10 => ?_) (fun c10 => ?_)
  · rw [if_pos c10] at hE
    refine lv_iconst (v := 1) hx hb dX6_run_17 (by decide) ?_
    refine g_puti (k := 32) B F P ok6 (by decide) rfl rfl rfl (by decide) rfl (tyX6_ok 32 (by decide)) q846 dX6_run_18 (fun H locs P => ?_)
    refine lv_aload_n hx hb dX6_run_21 rfl (lv_at hl 0 rfl) ?_
    refine g_getiv (k := 32) (v := 1) B F P ok6 (by decide) rfl rfl rfl (by decide) q846 dX6_run_22 rfl ?_
    refine lv_if_le (tgt := 30) hx hb dX6_run_25 (by decide) (fun h9 => absurd h9 (by decide)) (fun _ => ?_)
    refine lv_iconst (v := (-1)) hx hb dX6_run_28 (by decide) ?_
    exact g_reti B P (by rw [← hE]) (by rw [← hE]) hrt hlk dX6_run_29
  · rw [if_neg c10] at hE
    refine lv_iconst (v := 0) hx hb dX6_run_13 (by decide) ?_
    refine lv_goto (tgt := 18) hx hb dX6_run_14 (by decide) ?_
    refine g_puti (k := 32) B F P ok6 (by decide) rfl rfl rfl (by decide) rfl (tyX6_ok 32 (by decide)) q846 dX6_run_18 (fun H locs P => ?_)
    refine lv_aload_n hx hb dX6_run_21 rfl (lv_at hl 0 rfl) ?_
    refine g_getiv (k := 32) (v := 0) B F P ok6 (by decide) rfl rfl rfl (by decide) q846 dX6_run_22 rfl ?_
    refine lv_if_le (tgt := 30) hx hb dX6_run_25 (by decide) (fun _ => ?_) (fun h9 => absurd h9 (by decide))
    refine lv_iconst (v := 0) hx hb dX6_run_30 (by decide) ?_
    refine lv_istore_n (lv' := [(2, .int 0), (0, .ref (ad 19)), (1, .int nh)]) hx hb dX6_run_31 rfl hl (by decide) rfl (fun ls hl => ?_)
    refine lv_iconst (v := 0) hx hb dX6_run_32 (by decide) ?_
    refine lv_istore_n (lv' := [(3, .int 0), (2, .int 0), (0, .ref (ad 19)), (1, .int nh)]) hx hb dX6_run_33 rfl hl (by decide) rfl (fun ls hl => ?_)
    have L34 : ∀ (n34 : Nat) (x3_34 : Int32) (x2_34 : Int32) (σ34 : Sg), LI 12 n34 x3_34 → GM (99000 + x3_34.toInt) σ34 → f_X6_run_l34 nh n34 x3_34 x2_34 σ34 = Z → ∀ (H : Heap) (locs : List Loc), Wo D ad cy ba s σ34 H locs → ∀ (ls : Array Slot), lv_has ls 6 [(3, .int x3_34), (2, .int x2_34), (0, .ref (ad 19)), (1, .int nh)] → W p l e (rmK 8 0 0) s m ([.ref (ad 19), .int nh] : List Value).toArray below meth c H locs 0 0 (MQ below (Qe D ad cy ba (some (.int Z.1)) Z.2) ([.ref (ad 19), .int nh] : List Value).toArray s 0 0 (fun q => ba ≤ q)) (F0 m 34 ls []) := by
      clear hE P hl
      intro n34
      induction n34 with
      | zero => intro x3_34 x2_34 σ34 hI34 hM34 hE; exact absurd hI34 LI.zero
      | succ n34 ih34 =>
        intro x3_34 x2_34 σ34 hI34 hM34 hE H locs P ls hl
        dsimp only [f_X6_run_l34] at hE
        refine lv_iload_n hx hb dX6_run_34 rfl (lv_at hl 0 rfl) ?_
        refine lv_iload_n hx hb dX6_run_35 rfl (lv_at hl 3 rfl) ?_
        refine lv_icmp_ge (tgt := 134) hx hb dX6_run_36 (by decide) (fun c36 => ?_) (fun c36 => ?_)
        · rw [if_pos c36] at hE
          refine lv_iload_n hx hb dX6_run_134 rfl (lv_at hl 1 rfl) ?_
          exact g_reti B P (by rw [← hE]) (by rw [← hE]) hrt hlk dX6_run_135
        · rw [if_neg c36] at hE
          refine lv_aload_n hx hb dX6_run_39 rfl (lv_at hl 2 rfl) ?_
          refine lv_aload_n hx hb dX6_run_40 rfl (lv_at hl 2 rfl) ?_
          refine g_geti (k := 12) B F P ok6 (by decide) rfl rfl rfl (by decide) q826 dX6_run_41 ?_
          refine g_callV B F P (As := [.int (rI σ34 19 12)]) (ct_X6_orderAt (D := D) (ad := ad) (cy := cy) (ba := ba) l (rI σ34 19 12) σ34 hM34.2.1) ok6 (by decide) rfl q1050 q1052 qs22 q8 q1053 nk_X6_orderAt rfl ⟨(Nat.le_of_ble_eq_true rfl), (Nat.le_of_ble_eq_true rfl)⟩ hl.1 rfl (Nat.le_of_ble_eq_true rfl) dX6_run_44 ⟨Nat.le_of_ble_eq_true rfl, Nat.le_of_ble_eq_true rfl⟩ (fun H locs P => ?_)
          refine lv_istore (lv' := [(4, .int (f_X6_orderAt (rI σ34 19 12) σ34)), (3, .int x3_34), (2, .int x2_34), (0, .ref (ad 19)), (1, .int nh)]) hx hb dX6_run_47 hl (by decide) rfl (fun ls hl => ?_)
          refine lv_iconst (v := 1) hx hb dX6_run_49 (by decide) ?_
          refine lv_istore (lv' := [(5, .int 1), (4, .int (f_X6_orderAt (rI σ34 19 12) σ34)), (3, .int x3_34), (2, .int x2_34), (0, .ref (ad 19)), (1, .int nh)]) hx hb dX6_run_50 hl (by decide) rfl (fun ls hl => ?_)
          refine lv_iload hx hb dX6_run_52 (lv_at hl 1 rfl) ?_
          refine lv_iconst (v := (-1)) hx hb dX6_run_54 (by decide) ?_
          refine lv_icmp_eq (tgt := 70) hx hb dX6_run_55 (by decide) (fun c55 => ?_) (fun c55 => ?_)
          · rw [if_pos c55] at hE
            refine lv_aload_n hx hb dX6_run_70 rfl (lv_at hl 4 rfl) ?_
            refine lv_aload_n hx hb dX6_run_71 rfl (lv_at hl 4 rfl) ?_
            refine g_geti (k := 13) B F P ok6 (by decide) rfl rfl rfl (by decide) q827 dX6_run_72 ?_
            refine g_callV B F P (As := [.int (rI σ34 19 13)]) (ct_X6_looks (D := D) (ad := ad) (cy := cy) (ba := ba) l (rI σ34 19 13) σ34 (hM34.w (by have h8 := hI34.2.2; omega)) hM34.2.2.2.1) ok6 (by decide) rfl q1063 q1065 qs24 q8 q1066 nk_X6_looks rfl ⟨(Nat.le_of_ble_eq_true rfl), (Nat.le_of_ble_eq_true rfl)⟩ hl.1 rfl (Nat.le_of_ble_eq_true rfl) dX6_run_75 ⟨Nat.le_of_ble_eq_true rfl, Nat.le_of_ble_eq_true rfl⟩ (fun H locs P => ?_)
            refine lv_aload_n hx hb dX6_run_78 rfl (lv_at hl 4 rfl) ?_
            refine g_geti (k := 31) B F P ok6 (by decide) rfl rfl rfl (by decide) q845 dX6_run_79 ?_
            refine lv_if_eq (tgt := 102) hx hb dX6_run_82 (by decide) (fun c82 => ?_) (fun c82 => ?_)
            · rw [if_pos c82] at hE
              refine lv_iconst (v := 1) hx hb dX6_run_102 (by decide) ?_
              refine lv_goto (tgt := 107) hx hb dX6_run_103 (by decide) ?_
              refine lv_istore (lv' := [(5, .int 1), (4, .int (f_X6_orderAt (rI σ34 19 12) σ34)), (3, .int x3_34), (2, .int x2_34), (0, .ref (ad 19)), (1, .int nh)]) hx hb dX6_run_107 hl (by decide) rfl (fun ls hl => ?_)
              refine lv_iload_n hx hb dX6_run_109 rfl (lv_at hl 3 rfl) ?_
              refine lv_iload hx hb dX6_run_110 (lv_at hl 0 rfl) ?_
              refine lv_if_eq (tgt := 119) hx hb dX6_run_112 (by decide) (fun h9 => absurd h9 (by decide)) (fun _ => ?_)
              refine lv_iconst (v := 1) hx hb dX6_run_115 (by decide) ?_
              refine lv_goto (tgt := 120) hx hb dX6_run_116 (by decide) ?_
              refine lv_iadd hx hb dX6_run_120 ?_
              refine lv_istore_n (lv' := [(2, .int (x2_34 + 1)), (5, .int 1), (4, .int (f_X6_orderAt (rI σ34 19 12) σ34)), (3, .int x3_34), (0, .ref (ad 19)), (1, .int nh)]) hx hb dX6_run_121 rfl hl (by decide) rfl (fun ls hl => ?_)
              refine lv_aload_n hx hb dX6_run_122 rfl (lv_at hl 4 rfl) ?_
              refine lv_iload hx hb dX6_run_123 (lv_at hl 1 rfl) ?_
              refine g_callV B F P (As := [.int 1]) (ct_X6_passes (D := D) (ad := ad) (cy := cy) (ba := ba) l 1 (f_X6_looks (rI σ34 19 13) σ34) ((hM34.ml (ml_X6_looks _ _)).w (by have h8 := hI34.2.2; omega))) ok6 (by decide) rfl q1033 q1035 qs18 q8 q1036 nk_X6_passes rfl ⟨(Nat.le_of_ble_eq_true rfl), (Nat.le_of_ble_eq_true rfl)⟩ hl.1 rfl (Nat.le_of_ble_eq_true rfl) dX6_run_125 ⟨Nat.le_of_ble_eq_true rfl, Nat.le_of_ble_eq_true rfl⟩ (fun H locs P => ?_)
              refine lv_iinc (v := (x3_34 + 1)) (lv' := [(3, .int (x3_34 + 1)), (2, .int (x2_34 + 1)), (5, .int 1), (4, .int (f_X6_orderAt (rI σ34 19 12) σ34)), (0, .ref (ad 19)), (1, .int nh)]) hx hb dX6_run_128 hl (k := 3) rfl (by first | rfl | decide) (by decide) rfl (fun ls hl => ?_)
              refine lv_goto (tgt := 34) hx hb dX6_run_131 (by decide) ?_
              exact ih34 (x3_34 + 1) (x2_34 + 1) (f_X6_passes 1 (f_X6_looks (rI σ34 19 13) σ34)) (hI34.next c36 (in_12 c10)) ((gm_X6_passes _ (hM34.ml (ml_X6_looks _ _)) (by have h8 := hI34.2.2; omega)).w (by have h8 := hI34.2.2; have h9 := i_succ hI34.1 (by omega); omega)) hE _ _ P _ (lv_sub hl [0, 1, 4, 5] rfl)
            · rw [if_neg c82] at hE
              refine lv_aload_n hx hb dX6_run_85 rfl (lv_at hl 4 rfl) ?_
              refine g_geti (k := 29) B F P ok6 (by decide) rfl rfl rfl (by decide) q843 dX6_run_86 ?_
              refine lv_aload_n hx hb dX6_run_89 rfl (lv_at hl 4 rfl) ?_
              refine g_geti (k := 13) B F P ok6 (by decide) rfl rfl rfl (by decide) q827 dX6_run_90 ?_
              refine lv_iconst (v := 1) hx hb dX6_run_93 (by decide) ?_
              refine lv_isub hx hb dX6_run_94 ?_
              refine lv_ishr hx hb dX6_run_95 ?_
              refine lv_iconst (v := 1) hx hb dX6_run_96 (by decide) ?_
              refine lv_iand hx hb dX6_run_97 ?_
              refine lv_iconst (v := 1) hx hb dX6_run_98 (by decide) ?_
              refine lv_icmp_ne (tgt := 106) hx hb dX6_run_99 (by decide) (fun c99 => ?_) (fun c99 => ?_)
              · rw [if_neg c99] at hE
                refine lv_iconst (v := 0) hx hb dX6_run_106 (by decide) ?_
                refine lv_istore (lv' := [(5, .int 0), (4, .int (f_X6_orderAt (rI σ34 19 12) σ34)), (3, .int x3_34), (2, .int x2_34), (0, .ref (ad 19)), (1, .int nh)]) hx hb dX6_run_107 hl (by decide) rfl (fun ls hl => ?_)
                refine lv_iload_n hx hb dX6_run_109 rfl (lv_at hl 3 rfl) ?_
                refine lv_iload hx hb dX6_run_110 (lv_at hl 0 rfl) ?_
                refine lv_if_eq (tgt := 119) hx hb dX6_run_112 (by decide) (fun _ => ?_) (fun h9 => absurd h9 (by decide))
                refine lv_iconst (v := 0) hx hb dX6_run_119 (by decide) ?_
                refine lv_iadd hx hb dX6_run_120 ?_
                refine lv_istore_n (lv' := [(2, .int (x2_34 + 0)), (5, .int 0), (4, .int (f_X6_orderAt (rI σ34 19 12) σ34)), (3, .int x3_34), (0, .ref (ad 19)), (1, .int nh)]) hx hb dX6_run_121 rfl hl (by decide) rfl (fun ls hl => ?_)
                refine lv_aload_n hx hb dX6_run_122 rfl (lv_at hl 4 rfl) ?_
                refine lv_iload hx hb dX6_run_123 (lv_at hl 1 rfl) ?_
                refine g_callV B F P (As := [.int 0]) (ct_X6_passes (D := D) (ad := ad) (cy := cy) (ba := ba) l 0 (f_X6_looks (rI σ34 19 13) σ34) ((hM34.ml (ml_X6_looks _ _)).w (by have h8 := hI34.2.2; omega))) ok6 (by decide) rfl q1033 q1035 qs18 q8 q1036 nk_X6_passes rfl ⟨(Nat.le_of_ble_eq_true rfl), (Nat.le_of_ble_eq_true rfl)⟩ hl.1 rfl (Nat.le_of_ble_eq_true rfl) dX6_run_125 ⟨Nat.le_of_ble_eq_true rfl, Nat.le_of_ble_eq_true rfl⟩ (fun H locs P => ?_)
                refine lv_iinc (v := (x3_34 + 1)) (lv' := [(3, .int (x3_34 + 1)), (2, .int (x2_34 + 0)), (5, .int 0), (4, .int (f_X6_orderAt (rI σ34 19 12) σ34)), (0, .ref (ad 19)), (1, .int nh)]) hx hb dX6_run_128 hl (k := 3) rfl (by first | rfl | decide) (by decide) rfl (fun ls hl => ?_)
                refine lv_goto (tgt := 34) hx hb dX6_run_131 (by decide) ?_
                exact ih34 (x3_34 + 1) (x2_34 + 0) (f_X6_passes 0 (f_X6_looks (rI σ34 19 13) σ34)) (hI34.next c36 (in_12 c10)) ((gm_X6_passes _ (hM34.ml (ml_X6_looks _ _)) (by have h8 := hI34.2.2; omega)).w (by have h8 := hI34.2.2; have h9 := i_succ hI34.1 (by omega); omega)) hE _ _ P _ (lv_sub hl [0, 1, 4, 5] rfl)
              · rw [if_pos c99] at hE
                refine lv_iconst (v := 1) hx hb dX6_run_102 (by decide) ?_
                refine lv_goto (tgt := 107) hx hb dX6_run_103 (by decide) ?_
                refine lv_istore (lv' := [(5, .int 1), (4, .int (f_X6_orderAt (rI σ34 19 12) σ34)), (3, .int x3_34), (2, .int x2_34), (0, .ref (ad 19)), (1, .int nh)]) hx hb dX6_run_107 hl (by decide) rfl (fun ls hl => ?_)
                refine lv_iload_n hx hb dX6_run_109 rfl (lv_at hl 3 rfl) ?_
                refine lv_iload hx hb dX6_run_110 (lv_at hl 0 rfl) ?_
                refine lv_if_eq (tgt := 119) hx hb dX6_run_112 (by decide) (fun h9 => absurd h9 (by decide)) (fun _ => ?_)
                refine lv_iconst (v := 1) hx hb dX6_run_115 (by decide) ?_
                refine lv_goto (tgt := 120) hx hb dX6_run_116 (by decide) ?_
                refine lv_iadd hx hb dX6_run_120 ?_
                refine lv_istore_n (lv' := [(2, .int (x2_34 + 1)), (5, .int 1), (4, .int (f_X6_orderAt (rI σ34 19 12) σ34)), (3, .int x3_34), (0, .ref (ad 19)), (1, .int nh)]) hx hb dX6_run_121 rfl hl (by decide) rfl (fun ls hl => ?_)
                refine lv_aload_n hx hb dX6_run_122 rfl (lv_at hl 4 rfl) ?_
                refine lv_iload hx hb dX6_run_123 (lv_at hl 1 rfl) ?_
                refine g_callV B F P (As := [.int 1]) (ct_X6_passes (D := D) (ad := ad) (cy := cy) (ba := ba) l 1 (f_X6_looks (rI σ34 19 13) σ34) ((hM34.ml (ml_X6_looks _ _)).w (by have h8 := hI34.2.2; omega))) ok6 (by decide) rfl q1033 q1035 qs18 q8 q1036 nk_X6_passes rfl ⟨(Nat.le_of_ble_eq_true rfl), (Nat.le_of_ble_eq_true rfl)⟩ hl.1 rfl (Nat.le_of_ble_eq_true rfl) dX6_run_125 ⟨Nat.le_of_ble_eq_true rfl, Nat.le_of_ble_eq_true rfl⟩ (fun H locs P => ?_)
                refine lv_iinc (v := (x3_34 + 1)) (lv' := [(3, .int (x3_34 + 1)), (2, .int (x2_34 + 1)), (5, .int 1), (4, .int (f_X6_orderAt (rI σ34 19 12) σ34)), (0, .ref (ad 19)), (1, .int nh)]) hx hb dX6_run_128 hl (k := 3) rfl (by first | rfl | decide) (by decide) rfl (fun ls hl => ?_)
                refine lv_goto (tgt := 34) hx hb dX6_run_131 (by decide) ?_
                exact ih34 (x3_34 + 1) (x2_34 + 1) (f_X6_passes 1 (f_X6_looks (rI σ34 19 13) σ34)) (hI34.next c36 (in_12 c10)) ((gm_X6_passes _ (hM34.ml (ml_X6_looks _ _)) (by have h8 := hI34.2.2; omega)).w (by have h8 := hI34.2.2; have h9 := i_succ hI34.1 (by omega); omega)) hE _ _ P _ (lv_sub hl [0, 1, 4, 5] rfl)
          · rw [if_neg c55] at hE
            refine lv_aload_n hx hb dX6_run_58 rfl (lv_at hl 4 rfl) ?_
            refine g_getr (k := 15) (t := 29) B F P ok6 (by decide) rfl rfl rfl (by decide) rfl q829 dX6_run_59 ?_
            refine lv_iload hx hb dX6_run_62 (lv_at hl 1 rfl) ?_
            refine g_zld B F P (by decide) rfl rfl (oat_in hM34.2.1 c55) dX6_run_64 ?_
            refine lv_istore (lv' := [(5, .int (rI σ34 29 (f_X6_orderAt (rI σ34 19 12) σ34).toNatClampNeg)), (4, .int (f_X6_orderAt (rI σ34 19 12) σ34)), (3, .int x3_34), (2, .int x2_34), (0, .ref (ad 19)), (1, .int nh)]) hx hb dX6_run_65 hl (by decide) rfl (fun ls hl => ?_)
            refine lv_goto (tgt := 109) hx hb dX6_run_67 (by decide) ?_
            refine lv_iload_n hx hb dX6_run_109 rfl (lv_at hl 3 rfl) ?_
            refine lv_iload hx hb dX6_run_110 (lv_at hl 0 rfl) ?_
            refine lv_if_eq (tgt := 119) hx hb dX6_run_112 (by decide) (fun c112 => ?_) (fun c112 => ?_)
            · rw [if_pos c112] at hE
              refine lv_iconst (v := 0) hx hb dX6_run_119 (by decide) ?_
              refine lv_iadd hx hb dX6_run_120 ?_
              refine lv_istore_n (lv' := [(2, .int (x2_34 + 0)), (5, .int (rI σ34 29 (f_X6_orderAt (rI σ34 19 12) σ34).toNatClampNeg)), (4, .int (f_X6_orderAt (rI σ34 19 12) σ34)), (3, .int x3_34), (0, .ref (ad 19)), (1, .int nh)]) hx hb dX6_run_121 rfl hl (by decide) rfl (fun ls hl => ?_)
              refine lv_aload_n hx hb dX6_run_122 rfl (lv_at hl 4 rfl) ?_
              refine lv_iload hx hb dX6_run_123 (lv_at hl 1 rfl) ?_
              refine g_callV B F P (As := [.int (rI σ34 29 (f_X6_orderAt (rI σ34 19 12) σ34).toNatClampNeg)]) (ct_X6_passes (D := D) (ad := ad) (cy := cy) (ba := ba) l (rI σ34 29 (f_X6_orderAt (rI σ34 19 12) σ34).toNatClampNeg) σ34 (hM34.w (by have h8 := hI34.2.2; omega))) ok6 (by decide) rfl q1033 q1035 qs18 q8 q1036 nk_X6_passes rfl ⟨(Nat.le_of_ble_eq_true rfl), (Nat.le_of_ble_eq_true rfl)⟩ hl.1 rfl (Nat.le_of_ble_eq_true rfl) dX6_run_125 ⟨Nat.le_of_ble_eq_true rfl, Nat.le_of_ble_eq_true rfl⟩ (fun H locs P => ?_)
              refine lv_iinc (v := (x3_34 + 1)) (lv' := [(3, .int (x3_34 + 1)), (2, .int (x2_34 + 0)), (5, .int (rI σ34 29 (f_X6_orderAt (rI σ34 19 12) σ34).toNatClampNeg)), (4, .int (f_X6_orderAt (rI σ34 19 12) σ34)), (0, .ref (ad 19)), (1, .int nh)]) hx hb dX6_run_128 hl (k := 3) rfl (by first | rfl | decide) (by decide) rfl (fun ls hl => ?_)
              refine lv_goto (tgt := 34) hx hb dX6_run_131 (by decide) ?_
              exact ih34 (x3_34 + 1) (x2_34 + 0) (f_X6_passes (rI σ34 29 (f_X6_orderAt (rI σ34 19 12) σ34).toNatClampNeg) σ34) (hI34.next c36 (in_12 c10)) ((gm_X6_passes _ hM34 (by have h8 := hI34.2.2; omega)).w (by have h8 := hI34.2.2; have h9 := i_succ hI34.1 (by omega); omega)) hE _ _ P _ (lv_sub hl [0, 1, 4, 5] rfl)
            · rw [if_neg c112] at hE
              refine lv_iconst (v := 1) hx hb dX6_run_115 (by decide) ?_
              refine lv_goto (tgt := 120) hx hb dX6_run_116 (by decide) ?_
              refine lv_iadd hx hb dX6_run_120 ?_
              refine lv_istore_n (lv' := [(2, .int (x2_34 + 1)), (5, .int (rI σ34 29 (f_X6_orderAt (rI σ34 19 12) σ34).toNatClampNeg)), (4, .int (f_X6_orderAt (rI σ34 19 12) σ34)), (3, .int x3_34), (0, .ref (ad 19)), (1, .int nh)]) hx hb dX6_run_121 rfl hl (by decide) rfl (fun ls hl => ?_)
              refine lv_aload_n hx hb dX6_run_122 rfl (lv_at hl 4 rfl) ?_
              refine lv_iload hx hb dX6_run_123 (lv_at hl 1 rfl) ?_
              refine g_callV B F P (As := [.int (rI σ34 29 (f_X6_orderAt (rI σ34 19 12) σ34).toNatClampNeg)]) (ct_X6_passes (D := D) (ad := ad) (cy := cy) (ba := ba) l (rI σ34 29 (f_X6_orderAt (rI σ34 19 12) σ34).toNatClampNeg) σ34 (hM34.w (by have h8 := hI34.2.2; omega))) ok6 (by decide) rfl q1033 q1035 qs18 q8 q1036 nk_X6_passes rfl ⟨(Nat.le_of_ble_eq_true rfl), (Nat.le_of_ble_eq_true rfl)⟩ hl.1 rfl (Nat.le_of_ble_eq_true rfl) dX6_run_125 ⟨Nat.le_of_ble_eq_true rfl, Nat.le_of_ble_eq_true rfl⟩ (fun H locs P => ?_)
              refine lv_iinc (v := (x3_34 + 1)) (lv' := [(3, .int (x3_34 + 1)), (2, .int (x2_34 + 1)), (5, .int (rI σ34 29 (f_X6_orderAt (rI σ34 19 12) σ34).toNatClampNeg)), (4, .int (f_X6_orderAt (rI σ34 19 12) σ34)), (0, .ref (ad 19)), (1, .int nh)]) hx hb dX6_run_128 hl (k := 3) rfl (by first | rfl | decide) (by decide) rfl (fun ls hl => ?_)
              refine lv_goto (tgt := 34) hx hb dX6_run_131 (by decide) ?_
              exact ih34 (x3_34 + 1) (x2_34 + 1) (f_X6_passes (rI σ34 29 (f_X6_orderAt (rI σ34 19 12) σ34).toNatClampNeg) σ34) (hI34.next c36 (in_12 c10)) ((gm_X6_passes _ hM34 (by have h8 := hI34.2.2; omega)).w (by have h8 := hI34.2.2; have h9 := i_succ hI34.1 (by omega); omega)) hE _ _ P _ (lv_sub hl [0, 1, 4, 5] rfl)
    exact L34 13 0 0 (sI σ 19 32 0) LI.start ((hM.of (by intro j hj; rcases hj with rfl | rfl | rfl | rfl | rfl | rfl <;> rfl) (fun _ => rfl)).w (by decide)) hE _ _ P _ (lv_sub hl [0, 1, 2, 3] rfl)
