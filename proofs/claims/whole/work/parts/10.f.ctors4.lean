set_option maxHeartbeats 8000000 in
set_option maxRecDepth 100000 in
theorem cn_X6_init {D : va_G} {cy : Nat → ClassId} {ba : Nat} (l : Launch) {Z : va_W} {k h0 : Nat} (hZ : Z[k]? = some (h0, .inr (6, zX6))) : Cn D cy ba l 0 11 251 yX6_init cX6_init 1 [.ref h0] Z (fun r => Z.set k (h0, eX6 r) ++ wX6 cy r) := by
  refine Cn.of (by decide +kernel) (Nat.le_of_ble_eq_true rfl) ?_
  intro p e s m below meth c ls B G P hrt hlk hin hl
  have hx := B.1
  have hb := B.2.1
  have hk := z_len hZ
  have P := P.to (z_self hZ)
  have hl : lv_has ls 1 [(0, .ref h0)] := hl
  refine lv_aload_n hx hb dX6_init_0 rfl (lv_at hl 0 rfl) ?_
  refine W.objInit hx hb B.2.2.2.1 (B.2.2.2.2 _ q813) (B.2.2.2.2 _ q28) (B.2.2.2.2 _ q29) rfl (by rw [B.2.2.1]; exact hl.1) rfl dX6_init_1 (Nat.le_of_ble_eq_true rfl) (Nat.le_of_ble_eq_true rfl) ?_
  refine W.eq (g2 := F0 m 4 ls []) rfl ?_
  refine lv_aload_n hx hb dX6_init_4 rfl (lv_at hl 0 rfl) ?_
  refine lv_bipush (v := 15) hx hb dX6_init_5 (by decide) ?_
  refine n_newa B G P .int 0 q81 rfl rfl (N' := 15) (a0 := (15, .inl (fun _ => 0))) (fun _ => rfl) (by decide) (by decide) (Nat.le_of_ble_eq_true rfl) (Nat.le_of_ble_eq_true rfl) (Nat.le_of_ble_eq_true rfl) dX6_init_7 (fun q_1 H P => ?_)
  have P := P.to (List.append_assoc _ _ _)
  have P : Gw D ba s (Z.set k (h0, .inr (6, [.null, .null, .null, .null, .int 0, .null, .null, .null, .int 0, .null, .int 0, .int 0, .int 0, .int 0, .null, .null, .int 0, .int 0, .int 0, .int 0, .int 0, .int 0, .null, .long 0, .long 0, .long 0, .long 0, .long 0, .long 0, .int 0, .int 0, .int 0, .int 0, .int 0])) ++ [(q_1, .inl (cy 7, 15, .inl (fun _ => 0)))]) H _ := P
  refine n_putF B G P (j := 0) (ty := .array .int) ok6 (z_at hk) (by decide) rfl hin rfl (by decide +kernel) rfl rfl (Nat.le_of_ble_eq_true rfl) q814 dX6_init_9 (fun H locs P => ?_)
  have P := P.to (z_set hk)
  have P : Gw D ba s (Z.set k (h0, .inr (6, [.ref q_1, .null, .null, .null, .int 0, .null, .null, .null, .int 0, .null, .int 0, .int 0, .int 0, .int 0, .null, .null, .int 0, .int 0, .int 0, .int 0, .int 0, .int 0, .null, .long 0, .long 0, .long 0, .long 0, .long 0, .long 0, .int 0, .int 0, .int 0, .int 0, .int 0])) ++ [(q_1, .inl (cy 7, 15, .inl (fun _ => 0)))]) H _ := P
  refine lv_aload_n hx hb dX6_init_12 rfl (lv_at hl 0 rfl) ?_
  refine lv_bipush (v := 15) hx hb dX6_init_13 (by decide) ?_
  refine n_newa B G P .int 0 q81 rfl rfl (N' := 15) (a0 := (15, .inl (fun _ => 0))) (fun _ => rfl) (by decide) (by decide) (Nat.le_of_ble_eq_true rfl) (Nat.le_of_ble_eq_true rfl) (Nat.le_of_ble_eq_true rfl) dX6_init_15 (fun q_2 H P => ?_)
  have P := P.to (List.append_assoc _ _ _)
  have P : Gw D ba s (Z.set k (h0, .inr (6, [.ref q_1, .null, .null, .null, .int 0, .null, .null, .null, .int 0, .null, .int 0, .int 0, .int 0, .int 0, .null, .null, .int 0, .int 0, .int 0, .int 0, .int 0, .int 0, .null, .long 0, .long 0, .long 0, .long 0, .long 0, .long 0, .int 0, .int 0, .int 0, .int 0, .int 0])) ++ [(q_1, .inl (cy 7, 15, .inl (fun _ => 0))), (q_2, .inl (cy 7, 15, .inl (fun _ => 0)))]) H _ := P
  refine n_putF B G P (j := 1) (ty := .array .int) ok6 (z_at hk) (by decide) rfl hin rfl (by decide +kernel) rfl rfl (Nat.le_of_ble_eq_true rfl) q815 dX6_init_17 (fun H locs P => ?_)
  have P := P.to (z_set hk)
  have P : Gw D ba s (Z.set k (h0, .inr (6, [.ref q_1, .ref q_2, .null, .null, .int 0, .null, .null, .null, .int 0, .null, .int 0, .int 0, .int 0, .int 0, .null, .null, .int 0, .int 0, .int 0, .int 0, .int 0, .int 0, .null, .long 0, .long 0, .long 0, .long 0, .long 0, .long 0, .int 0, .int 0, .int 0, .int 0, .int 0])) ++ [(q_1, .inl (cy 7, 15, .inl (fun _ => 0))), (q_2, .inl (cy 7, 15, .inl (fun _ => 0)))]) H _ := P
  refine lv_aload_n hx hb dX6_init_20 rfl (lv_at hl 0 rfl) ?_
  refine lv_iconst (v := 4) hx hb dX6_init_21 (by decide) ?_
  refine n_newa B G P .int 0 q81 rfl rfl (N' := 4) (a0 := (4, .inl (fun _ => 0))) (fun _ => rfl) (by decide) (by decide) (Nat.le_of_ble_eq_true rfl) (Nat.le_of_ble_eq_true rfl) (Nat.le_of_ble_eq_true rfl) dX6_init_22 (fun q_3 H P => ?_)
  have P := P.to (List.append_assoc _ _ _)
  have P : Gw D ba s (Z.set k (h0, .inr (6, [.ref q_1, .ref q_2, .null, .null, .int 0, .null, .null, .null, .int 0, .null, .int 0, .int 0, .int 0, .int 0, .null, .null, .int 0, .int 0, .int 0, .int 0, .int 0, .int 0, .null, .long 0, .long 0, .long 0, .long 0, .long 0, .long 0, .int 0, .int 0, .int 0, .int 0, .int 0])) ++ [(q_1, .inl (cy 7, 15, .inl (fun _ => 0))), (q_2, .inl (cy 7, 15, .inl (fun _ => 0))), (q_3, .inl (cy 7, 4, .inl (fun _ => 0)))]) H _ := P
  refine n_putF B G P (j := 2) (ty := .array .int) ok6 (z_at hk) (by decide) rfl hin rfl (by decide +kernel) rfl rfl (Nat.le_of_ble_eq_true rfl) q816 dX6_init_24 (fun H locs P => ?_)
  have P := P.to (z_set hk)
  have P : Gw D ba s (Z.set k (h0, .inr (6, [.ref q_1, .ref q_2, .ref q_3, .null, .int 0, .null, .null, .null, .int 0, .null, .int 0, .int 0, .int 0, .int 0, .null, .null, .int 0, .int 0, .int 0, .int 0, .int 0, .int 0, .null, .long 0, .long 0, .long 0, .long 0, .long 0, .long 0, .int 0, .int 0, .int 0, .int 0, .int 0])) ++ [(q_1, .inl (cy 7, 15, .inl (fun _ => 0))), (q_2, .inl (cy 7, 15, .inl (fun _ => 0))), (q_3, .inl (cy 7, 4, .inl (fun _ => 0)))]) H _ := P
  refine lv_aload_n hx hb dX6_init_27 rfl (lv_at hl 0 rfl) ?_
  refine lv_iconst (v := 4) hx hb dX6_init_28 (by decide) ?_
  refine n_newa B G P .int 0 q81 rfl rfl (N' := 4) (a0 := (4, .inl (fun _ => 0))) (fun _ => rfl) (by decide) (by decide) (Nat.le_of_ble_eq_true rfl) (Nat.le_of_ble_eq_true rfl) (Nat.le_of_ble_eq_true rfl) dX6_init_29 (fun q_4 H P => ?_)
  have P := P.to (List.append_assoc _ _ _)
  have P : Gw D ba s (Z.set k (h0, .inr (6, [.ref q_1, .ref q_2, .ref q_3, .null, .int 0, .null, .null, .null, .int 0, .null, .int 0, .int 0, .int 0, .int 0, .null, .null, .int 0, .int 0, .int 0, .int 0, .int 0, .int 0, .null, .long 0, .long 0, .long 0, .long 0, .long 0, .long 0, .int 0, .int 0, .int 0, .int 0, .int 0])) ++ [(q_1, .inl (cy 7, 15, .inl (fun _ => 0))), (q_2, .inl (cy 7, 15, .inl (fun _ => 0))), (q_3, .inl (cy 7, 4, .inl (fun _ => 0))), (q_4, .inl (cy 7, 4, .inl (fun _ => 0)))]) H _ := P
  refine n_putF B G P (j := 3) (ty := .array .int) ok6 (z_at hk) (by decide) rfl hin rfl (by decide +kernel) rfl rfl (Nat.le_of_ble_eq_true rfl) q817 dX6_init_31 (fun H locs P => ?_)
  have P := P.to (z_set hk)
  have P : Gw D ba s (Z.set k (h0, .inr (6, [.ref q_1, .ref q_2, .ref q_3, .ref q_4, .int 0, .null, .null, .null, .int 0, .null, .int 0, .int 0, .int 0, .int 0, .null, .null, .int 0, .int 0, .int 0, .int 0, .int 0, .int 0, .null, .long 0, .long 0, .long 0, .long 0, .long 0, .long 0, .int 0, .int 0, .int 0, .int 0, .int 0])) ++ [(q_1, .inl (cy 7, 15, .inl (fun _ => 0))), (q_2, .inl (cy 7, 15, .inl (fun _ => 0))), (q_3, .inl (cy 7, 4, .inl (fun _ => 0))), (q_4, .inl (cy 7, 4, .inl (fun _ => 0)))]) H _ := P
  refine lv_aload_n hx hb dX6_init_34 rfl (lv_at hl 0 rfl) ?_
  refine lv_iconst (v := 3) hx hb dX6_init_35 (by decide) ?_
  refine n_newa B G P .int 0 q81 rfl rfl (N' := 3) (a0 := (3, .inl (fun _ => 0))) (fun _ => rfl) (by decide) (by decide) (Nat.le_of_ble_eq_true rfl) (Nat.le_of_ble_eq_true rfl) (Nat.le_of_ble_eq_true rfl) dX6_init_36 (fun q_5 H P => ?_)
  have P := P.to (List.append_assoc _ _ _)
  have P : Gw D ba s (Z.set k (h0, .inr (6, [.ref q_1, .ref q_2, .ref q_3, .ref q_4, .int 0, .null, .null, .null, .int 0, .null, .int 0, .int 0, .int 0, .int 0, .null, .null, .int 0, .int 0, .int 0, .int 0, .int 0, .int 0, .null, .long 0, .long 0, .long 0, .long 0, .long 0, .long 0, .int 0, .int 0, .int 0, .int 0, .int 0])) ++ [(q_1, .inl (cy 7, 15, .inl (fun _ => 0))), (q_2, .inl (cy 7, 15, .inl (fun _ => 0))), (q_3, .inl (cy 7, 4, .inl (fun _ => 0))), (q_4, .inl (cy 7, 4, .inl (fun _ => 0))), (q_5, .inl (cy 7, 3, .inl (fun _ => 0)))]) H _ := P
  refine n_putF B G P (j := 5) (ty := .array .int) ok6 (z_at hk) (by decide) rfl hin rfl (by decide +kernel) rfl rfl (Nat.le_of_ble_eq_true rfl) q819 dX6_init_38 (fun H locs P => ?_)
  have P := P.to (z_set hk)
  have P : Gw D ba s (Z.set k (h0, .inr (6, [.ref q_1, .ref q_2, .ref q_3, .ref q_4, .int 0, .ref q_5, .null, .null, .int 0, .null, .int 0, .int 0, .int 0, .int 0, .null, .null, .int 0, .int 0, .int 0, .int 0, .int 0, .int 0, .null, .long 0, .long 0, .long 0, .long 0, .long 0, .long 0, .int 0, .int 0, .int 0, .int 0, .int 0])) ++ [(q_1, .inl (cy 7, 15, .inl (fun _ => 0))), (q_2, .inl (cy 7, 15, .inl (fun _ => 0))), (q_3, .inl (cy 7, 4, .inl (fun _ => 0))), (q_4, .inl (cy 7, 4, .inl (fun _ => 0))), (q_5, .inl (cy 7, 3, .inl (fun _ => 0)))]) H _ := P
  refine lv_aload_n hx hb dX6_init_41 rfl (lv_at hl 0 rfl) ?_
  refine lv_sipush (v := 144) hx hb dX6_init_42 (by decide) ?_
  refine n_newa B G P .int 0 q81 rfl rfl (N' := 144) (a0 := (144, .inl (fun _ => 0))) (fun _ => rfl) (by decide) (by decide) (Nat.le_of_ble_eq_true rfl) (Nat.le_of_ble_eq_true rfl) (Nat.le_of_ble_eq_true rfl) dX6_init_45 (fun q_6 H P => ?_)
  have P := P.to (List.append_assoc _ _ _)
  have P : Gw D ba s (Z.set k (h0, .inr (6, [.ref q_1, .ref q_2, .ref q_3, .ref q_4, .int 0, .ref q_5, .null, .null, .int 0, .null, .int 0, .int 0, .int 0, .int 0, .null, .null, .int 0, .int 0, .int 0, .int 0, .int 0, .int 0, .null, .long 0, .long 0, .long 0, .long 0, .long 0, .long 0, .int 0, .int 0, .int 0, .int 0, .int 0])) ++ [(q_1, .inl (cy 7, 15, .inl (fun _ => 0))), (q_2, .inl (cy 7, 15, .inl (fun _ => 0))), (q_3, .inl (cy 7, 4, .inl (fun _ => 0))), (q_4, .inl (cy 7, 4, .inl (fun _ => 0))), (q_5, .inl (cy 7, 3, .inl (fun _ => 0))), (q_6, .inl (cy 7, 144, .inl (fun _ => 0)))]) H _ := P
  refine n_putF B G P (j := 6) (ty := .array .int) ok6 (z_at hk) (by decide) rfl hin rfl (by decide +kernel) rfl rfl (Nat.le_of_ble_eq_true rfl) q820 dX6_init_47 (fun H locs P => ?_)
  have P := P.to (z_set hk)
  have P : Gw D ba s (Z.set k (h0, .inr (6, [.ref q_1, .ref q_2, .ref q_3, .ref q_4, .int 0, .ref q_5, .ref q_6, .null, .int 0, .null, .int 0, .int 0, .int 0, .int 0, .null, .null, .int 0, .int 0, .int 0, .int 0, .int 0, .int 0, .null, .long 0, .long 0, .long 0, .long 0, .long 0, .long 0, .int 0, .int 0, .int 0, .int 0, .int 0])) ++ [(q_1, .inl (cy 7, 15, .inl (fun _ => 0))), (q_2, .inl (cy 7, 15, .inl (fun _ => 0))), (q_3, .inl (cy 7, 4, .inl (fun _ => 0))), (q_4, .inl (cy 7, 4, .inl (fun _ => 0))), (q_5, .inl (cy 7, 3, .inl (fun _ => 0))), (q_6, .inl (cy 7, 144, .inl (fun _ => 0)))]) H _ := P
  refine lv_aload_n hx hb dX6_init_50 rfl (lv_at hl 0 rfl) ?_
  refine lv_iconst (v := 3) hx hb dX6_init_51 (by decide) ?_
  refine n_newa B G P .int 0 q81 rfl rfl (N' := 3) (a0 := (3, .inl (fun _ => 0))) (fun _ => rfl) (by decide) (by decide) (Nat.le_of_ble_eq_true rfl) (Nat.le_of_ble_eq_true rfl) (Nat.le_of_ble_eq_true rfl) dX6_init_52 (fun q_7 H P => ?_)
  have P := P.to (List.append_assoc _ _ _)
  have P : Gw D ba s (Z.set k (h0, .inr (6, [.ref q_1, .ref q_2, .ref q_3, .ref q_4, .int 0, .ref q_5, .ref q_6, .null, .int 0, .null, .int 0, .int 0, .int 0, .int 0, .null, .null, .int 0, .int 0, .int 0, .int 0, .int 0, .int 0, .null, .long 0, .long 0, .long 0, .long 0, .long 0, .long 0, .int 0, .int 0, .int 0, .int 0, .int 0])) ++ [(q_1, .inl (cy 7, 15, .inl (fun _ => 0))), (q_2, .inl (cy 7, 15, .inl (fun _ => 0))), (q_3, .inl (cy 7, 4, .inl (fun _ => 0))), (q_4, .inl (cy 7, 4, .inl (fun _ => 0))), (q_5, .inl (cy 7, 3, .inl (fun _ => 0))), (q_6, .inl (cy 7, 144, .inl (fun _ => 0))), (q_7, .inl (cy 7, 3, .inl (fun _ => 0)))]) H _ := P
  refine n_putF B G P (j := 7) (ty := .array .int) ok6 (z_at hk) (by decide) rfl hin rfl (by decide +kernel) rfl rfl (Nat.le_of_ble_eq_true rfl) q821 dX6_init_54 (fun H locs P => ?_)
  have P := P.to (z_set hk)
  have P : Gw D ba s (Z.set k (h0, .inr (6, [.ref q_1, .ref q_2, .ref q_3, .ref q_4, .int 0, .ref q_5, .ref q_6, .ref q_7, .int 0, .null, .int 0, .int 0, .int 0, .int 0, .null, .null, .int 0, .int 0, .int 0, .int 0, .int 0, .int 0, .null, .long 0, .long 0, .long 0, .long 0, .long 0, .long 0, .int 0, .int 0, .int 0, .int 0, .int 0])) ++ [(q_1, .inl (cy 7, 15, .inl (fun _ => 0))), (q_2, .inl (cy 7, 15, .inl (fun _ => 0))), (q_3, .inl (cy 7, 4, .inl (fun _ => 0))), (q_4, .inl (cy 7, 4, .inl (fun _ => 0))), (q_5, .inl (cy 7, 3, .inl (fun _ => 0))), (q_6, .inl (cy 7, 144, .inl (fun _ => 0))), (q_7, .inl (cy 7, 3, .inl (fun _ => 0)))]) H _ := P
  refine lv_aload_n hx hb dX6_init_57 rfl (lv_at hl 0 rfl) ?_
  refine lv_bipush (v := 48) hx hb dX6_init_58 (by decide) ?_
  refine n_newa B G P .int 0 q81 rfl rfl (N' := 48) (a0 := (48, .inl (fun _ => 0))) (fun _ => rfl) (by decide) (by decide) (Nat.le_of_ble_eq_true rfl) (Nat.le_of_ble_eq_true rfl) (Nat.le_of_ble_eq_true rfl) dX6_init_60 (fun q_8 H P => ?_)
  have P := P.to (List.append_assoc _ _ _)
  have P : Gw D ba s (Z.set k (h0, .inr (6, [.ref q_1, .ref q_2, .ref q_3, .ref q_4, .int 0, .ref q_5, .ref q_6, .ref q_7, .int 0, .null, .int 0, .int 0, .int 0, .int 0, .null, .null, .int 0, .int 0, .int 0, .int 0, .int 0, .int 0, .null, .long 0, .long 0, .long 0, .long 0, .long 0, .long 0, .int 0, .int 0, .int 0, .int 0, .int 0])) ++ [(q_1, .inl (cy 7, 15, .inl (fun _ => 0))), (q_2, .inl (cy 7, 15, .inl (fun _ => 0))), (q_3, .inl (cy 7, 4, .inl (fun _ => 0))), (q_4, .inl (cy 7, 4, .inl (fun _ => 0))), (q_5, .inl (cy 7, 3, .inl (fun _ => 0))), (q_6, .inl (cy 7, 144, .inl (fun _ => 0))), (q_7, .inl (cy 7, 3, .inl (fun _ => 0))), (q_8, .inl (cy 7, 48, .inl (fun _ => 0)))]) H _ := P
  refine lv_dup hx hb dX6_init_62 rfl ?_
  refine lv_iconst (v := 0) hx hb dX6_init_63 (by decide) ?_
  refine lv_iconst (v := 1) hx hb dX6_init_64 (by decide) ?_
  refine n_ist9 B G P (k := Z.length + 7) (j := 0) (f := pw 0) (z_in rfl) (by unfold vp_in; decide) (by decide) dX6_init_65 (fun H locs P => ?_)
  have P := P.to z_put
  have P : Gw D ba s (Z.set k (h0, .inr (6, [.ref q_1, .ref q_2, .ref q_3, .ref q_4, .int 0, .ref q_5, .ref q_6, .ref q_7, .int 0, .null, .int 0, .int 0, .int 0, .int 0, .null, .null, .int 0, .int 0, .int 0, .int 0, .int 0, .int 0, .null, .long 0, .long 0, .long 0, .long 0, .long 0, .long 0, .int 0, .int 0, .int 0, .int 0, .int 0])) ++ [(q_1, .inl (cy 7, 15, .inl (fun _ => 0))), (q_2, .inl (cy 7, 15, .inl (fun _ => 0))), (q_3, .inl (cy 7, 4, .inl (fun _ => 0))), (q_4, .inl (cy 7, 4, .inl (fun _ => 0))), (q_5, .inl (cy 7, 3, .inl (fun _ => 0))), (q_6, .inl (cy 7, 144, .inl (fun _ => 0))), (q_7, .inl (cy 7, 3, .inl (fun _ => 0))), (q_8, .inl (cy 7, 48, .inl (pw 1)))]) H _ := P
  refine lv_dup hx hb dX6_init_66 rfl ?_
  refine lv_iconst (v := 1) hx hb dX6_init_67 (by decide) ?_
  refine lv_iconst (v := 1) hx hb dX6_init_68 (by decide) ?_
  refine n_ist9 B G P (k := Z.length + 7) (j := 1) (f := pw 1) (z_in rfl) (by unfold vp_in; decide) (by decide) dX6_init_69 (fun H locs P => ?_)
  have P := P.to z_put
  have P : Gw D ba s (Z.set k (h0, .inr (6, [.ref q_1, .ref q_2, .ref q_3, .ref q_4, .int 0, .ref q_5, .ref q_6, .ref q_7, .int 0, .null, .int 0, .int 0, .int 0, .int 0, .null, .null, .int 0, .int 0, .int 0, .int 0, .int 0, .int 0, .null, .long 0, .long 0, .long 0, .long 0, .long 0, .long 0, .int 0, .int 0, .int 0, .int 0, .int 0])) ++ [(q_1, .inl (cy 7, 15, .inl (fun _ => 0))), (q_2, .inl (cy 7, 15, .inl (fun _ => 0))), (q_3, .inl (cy 7, 4, .inl (fun _ => 0))), (q_4, .inl (cy 7, 4, .inl (fun _ => 0))), (q_5, .inl (cy 7, 3, .inl (fun _ => 0))), (q_6, .inl (cy 7, 144, .inl (fun _ => 0))), (q_7, .inl (cy 7, 3, .inl (fun _ => 0))), (q_8, .inl (cy 7, 48, .inl (pw 2)))]) H _ := P
  refine lv_dup hx hb dX6_init_70 rfl ?_
  refine lv_iconst (v := 2) hx hb dX6_init_71 (by decide) ?_
  refine lv_iconst (v := 1) hx hb dX6_init_72 (by decide) ?_
  refine n_ist9 B G P (k := Z.length + 7) (j := 2) (f := pw 2) (z_in rfl) (by unfold vp_in; decide) (by decide) dX6_init_73 (fun H locs P => ?_)
  have P := P.to z_put
  have P : Gw D ba s (Z.set k (h0, .inr (6, [.ref q_1, .ref q_2, .ref q_3, .ref q_4, .int 0, .ref q_5, .ref q_6, .ref q_7, .int 0, .null, .int 0, .int 0, .int 0, .int 0, .null, .null, .int 0, .int 0, .int 0, .int 0, .int 0, .int 0, .null, .long 0, .long 0, .long 0, .long 0, .long 0, .long 0, .int 0, .int 0, .int 0, .int 0, .int 0])) ++ [(q_1, .inl (cy 7, 15, .inl (fun _ => 0))), (q_2, .inl (cy 7, 15, .inl (fun _ => 0))), (q_3, .inl (cy 7, 4, .inl (fun _ => 0))), (q_4, .inl (cy 7, 4, .inl (fun _ => 0))), (q_5, .inl (cy 7, 3, .inl (fun _ => 0))), (q_6, .inl (cy 7, 144, .inl (fun _ => 0))), (q_7, .inl (cy 7, 3, .inl (fun _ => 0))), (q_8, .inl (cy 7, 48, .inl (pw 3)))]) H _ := P
  refine lv_dup hx hb dX6_init_74 rfl ?_
  refine lv_iconst (v := 3) hx hb dX6_init_75 (by decide) ?_
  refine lv_iconst (v := 1) hx hb dX6_init_76 (by decide) ?_
  refine n_ist9 B G P (k := Z.length + 7) (j := 3) (f := pw 3) (z_in rfl) (by unfold vp_in; decide) (by decide) dX6_init_77 (fun H locs P => ?_)
  have P := P.to z_put
  have P : Gw D ba s (Z.set k (h0, .inr (6, [.ref q_1, .ref q_2, .ref q_3, .ref q_4, .int 0, .ref q_5, .ref q_6, .ref q_7, .int 0, .null, .int 0, .int 0, .int 0, .int 0, .null, .null, .int 0, .int 0, .int 0, .int 0, .int 0, .int 0, .null, .long 0, .long 0, .long 0, .long 0, .long 0, .long 0, .int 0, .int 0, .int 0, .int 0, .int 0])) ++ [(q_1, .inl (cy 7, 15, .inl (fun _ => 0))), (q_2, .inl (cy 7, 15, .inl (fun _ => 0))), (q_3, .inl (cy 7, 4, .inl (fun _ => 0))), (q_4, .inl (cy 7, 4, .inl (fun _ => 0))), (q_5, .inl (cy 7, 3, .inl (fun _ => 0))), (q_6, .inl (cy 7, 144, .inl (fun _ => 0))), (q_7, .inl (cy 7, 3, .inl (fun _ => 0))), (q_8, .inl (cy 7, 48, .inl (pw 4)))]) H _ := P
  refine lv_dup hx hb dX6_init_78 rfl ?_
  refine lv_iconst (v := 4) hx hb dX6_init_79 (by decide) ?_
  refine lv_iconst (v := 1) hx hb dX6_init_80 (by decide) ?_
  refine n_ist9 B G P (k := Z.length + 7) (j := 4) (f := pw 4) (z_in rfl) (by unfold vp_in; decide) (by decide) dX6_init_81 (fun H locs P => ?_)
  have P := P.to z_put
  have P : Gw D ba s (Z.set k (h0, .inr (6, [.ref q_1, .ref q_2, .ref q_3, .ref q_4, .int 0, .ref q_5, .ref q_6, .ref q_7, .int 0, .null, .int 0, .int 0, .int 0, .int 0, .null, .null, .int 0, .int 0, .int 0, .int 0, .int 0, .int 0, .null, .long 0, .long 0, .long 0, .long 0, .long 0, .long 0, .int 0, .int 0, .int 0, .int 0, .int 0])) ++ [(q_1, .inl (cy 7, 15, .inl (fun _ => 0))), (q_2, .inl (cy 7, 15, .inl (fun _ => 0))), (q_3, .inl (cy 7, 4, .inl (fun _ => 0))), (q_4, .inl (cy 7, 4, .inl (fun _ => 0))), (q_5, .inl (cy 7, 3, .inl (fun _ => 0))), (q_6, .inl (cy 7, 144, .inl (fun _ => 0))), (q_7, .inl (cy 7, 3, .inl (fun _ => 0))), (q_8, .inl (cy 7, 48, .inl (pw 5)))]) H _ := P
  refine lv_dup hx hb dX6_init_82 rfl ?_
  refine lv_iconst (v := 5) hx hb dX6_init_83 (by decide) ?_
  refine lv_iconst (v := 1) hx hb dX6_init_84 (by decide) ?_
  refine n_ist9 B G P (k := Z.length + 7) (j := 5) (f := pw 5) (z_in rfl) (by unfold vp_in; decide) (by decide) dX6_init_85 (fun H locs P => ?_)
  have P := P.to z_put
  have P : Gw D ba s (Z.set k (h0, .inr (6, [.ref q_1, .ref q_2, .ref q_3, .ref q_4, .int 0, .ref q_5, .ref q_6, .ref q_7, .int 0, .null, .int 0, .int 0, .int 0, .int 0, .null, .null, .int 0, .int 0, .int 0, .int 0, .int 0, .int 0, .null, .long 0, .long 0, .long 0, .long 0, .long 0, .long 0, .int 0, .int 0, .int 0, .int 0, .int 0])) ++ [(q_1, .inl (cy 7, 15, .inl (fun _ => 0))), (q_2, .inl (cy 7, 15, .inl (fun _ => 0))), (q_3, .inl (cy 7, 4, .inl (fun _ => 0))), (q_4, .inl (cy 7, 4, .inl (fun _ => 0))), (q_5, .inl (cy 7, 3, .inl (fun _ => 0))), (q_6, .inl (cy 7, 144, .inl (fun _ => 0))), (q_7, .inl (cy 7, 3, .inl (fun _ => 0))), (q_8, .inl (cy 7, 48, .inl (pw 6)))]) H _ := P
  refine lv_dup hx hb dX6_init_86 rfl ?_
  refine lv_bipush (v := 6) hx hb dX6_init_87 (by decide) ?_
  refine lv_iconst (v := 1) hx hb dX6_init_89 (by decide) ?_
  refine n_ist9 B G P (k := Z.length + 7) (j := 6) (f := pw 6) (z_in rfl) (by unfold vp_in; decide) (by decide) dX6_init_90 (fun H locs P => ?_)
  have P := P.to z_put
  have P : Gw D ba s (Z.set k (h0, .inr (6, [.ref q_1, .ref q_2, .ref q_3, .ref q_4, .int 0, .ref q_5, .ref q_6, .ref q_7, .int 0, .null, .int 0, .int 0, .int 0, .int 0, .null, .null, .int 0, .int 0, .int 0, .int 0, .int 0, .int 0, .null, .long 0, .long 0, .long 0, .long 0, .long 0, .long 0, .int 0, .int 0, .int 0, .int 0, .int 0])) ++ [(q_1, .inl (cy 7, 15, .inl (fun _ => 0))), (q_2, .inl (cy 7, 15, .inl (fun _ => 0))), (q_3, .inl (cy 7, 4, .inl (fun _ => 0))), (q_4, .inl (cy 7, 4, .inl (fun _ => 0))), (q_5, .inl (cy 7, 3, .inl (fun _ => 0))), (q_6, .inl (cy 7, 144, .inl (fun _ => 0))), (q_7, .inl (cy 7, 3, .inl (fun _ => 0))), (q_8, .inl (cy 7, 48, .inl (pw 7)))]) H _ := P
  refine lv_dup hx hb dX6_init_91 rfl ?_
  refine lv_bipush (v := 7) hx hb dX6_init_92 (by decide) ?_
  refine lv_iconst (v := 1) hx hb dX6_init_94 (by decide) ?_
  refine n_ist9 B G P (k := Z.length + 7) (j := 7) (f := pw 7) (z_in rfl) (by unfold vp_in; decide) (by decide) dX6_init_95 (fun H locs P => ?_)
  have P := P.to z_put
  have P : Gw D ba s (Z.set k (h0, .inr (6, [.ref q_1, .ref q_2, .ref q_3, .ref q_4, .int 0, .ref q_5, .ref q_6, .ref q_7, .int 0, .null, .int 0, .int 0, .int 0, .int 0, .null, .null, .int 0, .int 0, .int 0, .int 0, .int 0, .int 0, .null, .long 0, .long 0, .long 0, .long 0, .long 0, .long 0, .int 0, .int 0, .int 0, .int 0, .int 0])) ++ [(q_1, .inl (cy 7, 15, .inl (fun _ => 0))), (q_2, .inl (cy 7, 15, .inl (fun _ => 0))), (q_3, .inl (cy 7, 4, .inl (fun _ => 0))), (q_4, .inl (cy 7, 4, .inl (fun _ => 0))), (q_5, .inl (cy 7, 3, .inl (fun _ => 0))), (q_6, .inl (cy 7, 144, .inl (fun _ => 0))), (q_7, .inl (cy 7, 3, .inl (fun _ => 0))), (q_8, .inl (cy 7, 48, .inl (pw 8)))]) H _ := P
  refine lv_dup hx hb dX6_init_96 rfl ?_
  refine lv_bipush (v := 8) hx hb dX6_init_97 (by decide) ?_
  refine lv_iconst (v := 1) hx hb dX6_init_99 (by decide) ?_
  refine n_ist9 B G P (k := Z.length + 7) (j := 8) (f := pw 8) (z_in rfl) (by unfold vp_in; decide) (by decide) dX6_init_100 (fun H locs P => ?_)
  have P := P.to z_put
  have P : Gw D ba s (Z.set k (h0, .inr (6, [.ref q_1, .ref q_2, .ref q_3, .ref q_4, .int 0, .ref q_5, .ref q_6, .ref q_7, .int 0, .null, .int 0, .int 0, .int 0, .int 0, .null, .null, .int 0, .int 0, .int 0, .int 0, .int 0, .int 0, .null, .long 0, .long 0, .long 0, .long 0, .long 0, .long 0, .int 0, .int 0, .int 0, .int 0, .int 0])) ++ [(q_1, .inl (cy 7, 15, .inl (fun _ => 0))), (q_2, .inl (cy 7, 15, .inl (fun _ => 0))), (q_3, .inl (cy 7, 4, .inl (fun _ => 0))), (q_4, .inl (cy 7, 4, .inl (fun _ => 0))), (q_5, .inl (cy 7, 3, .inl (fun _ => 0))), (q_6, .inl (cy 7, 144, .inl (fun _ => 0))), (q_7, .inl (cy 7, 3, .inl (fun _ => 0))), (q_8, .inl (cy 7, 48, .inl (pw 9)))]) H _ := P
  refine lv_dup hx hb dX6_init_101 rfl ?_
  refine lv_bipush (v := 9) hx hb dX6_init_102 (by decide) ?_
  refine lv_iconst (v := 1) hx hb dX6_init_104 (by decide) ?_
  refine n_ist9 B G P (k := Z.length + 7) (j := 9) (f := pw 9) (z_in rfl) (by unfold vp_in; decide) (by decide) dX6_init_105 (fun H locs P => ?_)
  have P := P.to z_put
  have P : Gw D ba s (Z.set k (h0, .inr (6, [.ref q_1, .ref q_2, .ref q_3, .ref q_4, .int 0, .ref q_5, .ref q_6, .ref q_7, .int 0, .null, .int 0, .int 0, .int 0, .int 0, .null, .null, .int 0, .int 0, .int 0, .int 0, .int 0, .int 0, .null, .long 0, .long 0, .long 0, .long 0, .long 0, .long 0, .int 0, .int 0, .int 0, .int 0, .int 0])) ++ [(q_1, .inl (cy 7, 15, .inl (fun _ => 0))), (q_2, .inl (cy 7, 15, .inl (fun _ => 0))), (q_3, .inl (cy 7, 4, .inl (fun _ => 0))), (q_4, .inl (cy 7, 4, .inl (fun _ => 0))), (q_5, .inl (cy 7, 3, .inl (fun _ => 0))), (q_6, .inl (cy 7, 144, .inl (fun _ => 0))), (q_7, .inl (cy 7, 3, .inl (fun _ => 0))), (q_8, .inl (cy 7, 48, .inl (pw 10)))]) H _ := P
  refine lv_dup hx hb dX6_init_106 rfl ?_
  refine lv_bipush (v := 10) hx hb dX6_init_107 (by decide) ?_
  refine lv_iconst (v := 1) hx hb dX6_init_109 (by decide) ?_
  refine n_ist9 B G P (k := Z.length + 7) (j := 10) (f := pw 10) (z_in rfl) (by unfold vp_in; decide) (by decide) dX6_init_110 (fun H locs P => ?_)
  have P := P.to z_put
  have P : Gw D ba s (Z.set k (h0, .inr (6, [.ref q_1, .ref q_2, .ref q_3, .ref q_4, .int 0, .ref q_5, .ref q_6, .ref q_7, .int 0, .null, .int 0, .int 0, .int 0, .int 0, .null, .null, .int 0, .int 0, .int 0, .int 0, .int 0, .int 0, .null, .long 0, .long 0, .long 0, .long 0, .long 0, .long 0, .int 0, .int 0, .int 0, .int 0, .int 0])) ++ [(q_1, .inl (cy 7, 15, .inl (fun _ => 0))), (q_2, .inl (cy 7, 15, .inl (fun _ => 0))), (q_3, .inl (cy 7, 4, .inl (fun _ => 0))), (q_4, .inl (cy 7, 4, .inl (fun _ => 0))), (q_5, .inl (cy 7, 3, .inl (fun _ => 0))), (q_6, .inl (cy 7, 144, .inl (fun _ => 0))), (q_7, .inl (cy 7, 3, .inl (fun _ => 0))), (q_8, .inl (cy 7, 48, .inl (pw 11)))]) H _ := P
  refine lv_dup hx hb dX6_init_111 rfl ?_
  refine lv_bipush (v := 11) hx hb dX6_init_112 (by decide) ?_
  refine lv_iconst (v := 1) hx hb dX6_init_114 (by decide) ?_
  refine n_ist9 B G P (k := Z.length + 7) (j := 11) (f := pw 11) (z_in rfl) (by unfold vp_in; decide) (by decide) dX6_init_115 (fun H locs P => ?_)
  have P := P.to z_put
  have P : Gw D ba s (Z.set k (h0, .inr (6, [.ref q_1, .ref q_2, .ref q_3, .ref q_4, .int 0, .ref q_5, .ref q_6, .ref q_7, .int 0, .null, .int 0, .int 0, .int 0, .int 0, .null, .null, .int 0, .int 0, .int 0, .int 0, .int 0, .int 0, .null, .long 0, .long 0, .long 0, .long 0, .long 0, .long 0, .int 0, .int 0, .int 0, .int 0, .int 0])) ++ [(q_1, .inl (cy 7, 15, .inl (fun _ => 0))), (q_2, .inl (cy 7, 15, .inl (fun _ => 0))), (q_3, .inl (cy 7, 4, .inl (fun _ => 0))), (q_4, .inl (cy 7, 4, .inl (fun _ => 0))), (q_5, .inl (cy 7, 3, .inl (fun _ => 0))), (q_6, .inl (cy 7, 144, .inl (fun _ => 0))), (q_7, .inl (cy 7, 3, .inl (fun _ => 0))), (q_8, .inl (cy 7, 48, .inl (pw 12)))]) H _ := P
  refine lv_dup hx hb dX6_init_116 rfl ?_
  refine lv_bipush (v := 12) hx hb dX6_init_117 (by decide) ?_
  refine lv_iconst (v := 1) hx hb dX6_init_119 (by decide) ?_
  refine n_ist9 B G P (k := Z.length + 7) (j := 12) (f := pw 12) (z_in rfl) (by unfold vp_in; decide) (by decide) dX6_init_120 (fun H locs P => ?_)
  have P := P.to z_put
  have P : Gw D ba s (Z.set k (h0, .inr (6, [.ref q_1, .ref q_2, .ref q_3, .ref q_4, .int 0, .ref q_5, .ref q_6, .ref q_7, .int 0, .null, .int 0, .int 0, .int 0, .int 0, .null, .null, .int 0, .int 0, .int 0, .int 0, .int 0, .int 0, .null, .long 0, .long 0, .long 0, .long 0, .long 0, .long 0, .int 0, .int 0, .int 0, .int 0, .int 0])) ++ [(q_1, .inl (cy 7, 15, .inl (fun _ => 0))), (q_2, .inl (cy 7, 15, .inl (fun _ => 0))), (q_3, .inl (cy 7, 4, .inl (fun _ => 0))), (q_4, .inl (cy 7, 4, .inl (fun _ => 0))), (q_5, .inl (cy 7, 3, .inl (fun _ => 0))), (q_6, .inl (cy 7, 144, .inl (fun _ => 0))), (q_7, .inl (cy 7, 3, .inl (fun _ => 0))), (q_8, .inl (cy 7, 48, .inl (pw 13)))]) H _ := P
  refine lv_dup hx hb dX6_init_121 rfl ?_
  refine lv_bipush (v := 13) hx hb dX6_init_122 (by decide) ?_
  refine lv_iconst (v := 1) hx hb dX6_init_124 (by decide) ?_
  refine n_ist9 B G P (k := Z.length + 7) (j := 13) (f := pw 13) (z_in rfl) (by unfold vp_in; decide) (by decide) dX6_init_125 (fun H locs P => ?_)
  have P := P.to z_put
  have P : Gw D ba s (Z.set k (h0, .inr (6, [.ref q_1, .ref q_2, .ref q_3, .ref q_4, .int 0, .ref q_5, .ref q_6, .ref q_7, .int 0, .null, .int 0, .int 0, .int 0, .int 0, .null, .null, .int 0, .int 0, .int 0, .int 0, .int 0, .int 0, .null, .long 0, .long 0, .long 0, .long 0, .long 0, .long 0, .int 0, .int 0, .int 0, .int 0, .int 0])) ++ [(q_1, .inl (cy 7, 15, .inl (fun _ => 0))), (q_2, .inl (cy 7, 15, .inl (fun _ => 0))), (q_3, .inl (cy 7, 4, .inl (fun _ => 0))), (q_4, .inl (cy 7, 4, .inl (fun _ => 0))), (q_5, .inl (cy 7, 3, .inl (fun _ => 0))), (q_6, .inl (cy 7, 144, .inl (fun _ => 0))), (q_7, .inl (cy 7, 3, .inl (fun _ => 0))), (q_8, .inl (cy 7, 48, .inl (pw 14)))]) H _ := P
  refine lv_dup hx hb dX6_init_126 rfl ?_
  refine lv_bipush (v := 14) hx hb dX6_init_127 (by decide) ?_
  refine lv_iconst (v := 1) hx hb dX6_init_129 (by decide) ?_
  refine n_ist9 B G P (k := Z.length + 7) (j := 14) (f := pw 14) (z_in rfl) (by unfold vp_in; decide) (by decide) dX6_init_130 (fun H locs P => ?_)
  have P := P.to z_put
  have P : Gw D ba s (Z.set k (h0, .inr (6, [.ref q_1, .ref q_2, .ref q_3, .ref q_4, .int 0, .ref q_5, .ref q_6, .ref q_7, .int 0, .null, .int 0, .int 0, .int 0, .int 0, .null, .null, .int 0, .int 0, .int 0, .int 0, .int 0, .int 0, .null, .long 0, .long 0, .long 0, .long 0, .long 0, .long 0, .int 0, .int 0, .int 0, .int 0, .int 0])) ++ [(q_1, .inl (cy 7, 15, .inl (fun _ => 0))), (q_2, .inl (cy 7, 15, .inl (fun _ => 0))), (q_3, .inl (cy 7, 4, .inl (fun _ => 0))), (q_4, .inl (cy 7, 4, .inl (fun _ => 0))), (q_5, .inl (cy 7, 3, .inl (fun _ => 0))), (q_6, .inl (cy 7, 144, .inl (fun _ => 0))), (q_7, .inl (cy 7, 3, .inl (fun _ => 0))), (q_8, .inl (cy 7, 48, .inl (pw 15)))]) H _ := P
  refine lv_dup hx hb dX6_init_131 rfl ?_
  refine lv_bipush (v := 15) hx hb dX6_init_132 (by decide) ?_
  refine lv_iconst (v := 1) hx hb dX6_init_134 (by decide) ?_
  refine n_ist9 B G P (k := Z.length + 7) (j := 15) (f := pw 15) (z_in rfl) (by unfold vp_in; decide) (by decide) dX6_init_135 (fun H locs P => ?_)
  have P := P.to z_put
  have P : Gw D ba s (Z.set k (h0, .inr (6, [.ref q_1, .ref q_2, .ref q_3, .ref q_4, .int 0, .ref q_5, .ref q_6, .ref q_7, .int 0, .null, .int 0, .int 0, .int 0, .int 0, .null, .null, .int 0, .int 0, .int 0, .int 0, .int 0, .int 0, .null, .long 0, .long 0, .long 0, .long 0, .long 0, .long 0, .int 0, .int 0, .int 0, .int 0, .int 0])) ++ [(q_1, .inl (cy 7, 15, .inl (fun _ => 0))), (q_2, .inl (cy 7, 15, .inl (fun _ => 0))), (q_3, .inl (cy 7, 4, .inl (fun _ => 0))), (q_4, .inl (cy 7, 4, .inl (fun _ => 0))), (q_5, .inl (cy 7, 3, .inl (fun _ => 0))), (q_6, .inl (cy 7, 144, .inl (fun _ => 0))), (q_7, .inl (cy 7, 3, .inl (fun _ => 0))), (q_8, .inl (cy 7, 48, .inl (pw 16)))]) H _ := P
  refine lv_dup hx hb dX6_init_136 rfl ?_
  refine lv_bipush (v := 16) hx hb dX6_init_137 (by decide) ?_
  refine lv_iconst (v := 1) hx hb dX6_init_139 (by decide) ?_
  refine n_ist9 B G P (k := Z.length + 7) (j := 16) (f := pw 16) (z_in rfl) (by unfold vp_in; decide) (by decide) dX6_init_140 (fun H locs P => ?_)
  have P := P.to z_put
  have P : Gw D ba s (Z.set k (h0, .inr (6, [.ref q_1, .ref q_2, .ref q_3, .ref q_4, .int 0, .ref q_5, .ref q_6, .ref q_7, .int 0, .null, .int 0, .int 0, .int 0, .int 0, .null, .null, .int 0, .int 0, .int 0, .int 0, .int 0, .int 0, .null, .long 0, .long 0, .long 0, .long 0, .long 0, .long 0, .int 0, .int 0, .int 0, .int 0, .int 0])) ++ [(q_1, .inl (cy 7, 15, .inl (fun _ => 0))), (q_2, .inl (cy 7, 15, .inl (fun _ => 0))), (q_3, .inl (cy 7, 4, .inl (fun _ => 0))), (q_4, .inl (cy 7, 4, .inl (fun _ => 0))), (q_5, .inl (cy 7, 3, .inl (fun _ => 0))), (q_6, .inl (cy 7, 144, .inl (fun _ => 0))), (q_7, .inl (cy 7, 3, .inl (fun _ => 0))), (q_8, .inl (cy 7, 48, .inl (pw 17)))]) H _ := P
  refine lv_dup hx hb dX6_init_141 rfl ?_
  refine lv_bipush (v := 17) hx hb dX6_init_142 (by decide) ?_
  refine lv_iconst (v := 1) hx hb dX6_init_144 (by decide) ?_
  refine n_ist9 B G P (k := Z.length + 7) (j := 17) (f := pw 17) (z_in rfl) (by unfold vp_in; decide) (by decide) dX6_init_145 (fun H locs P => ?_)
  have P := P.to z_put
  have P : Gw D ba s (Z.set k (h0, .inr (6, [.ref q_1, .ref q_2, .ref q_3, .ref q_4, .int 0, .ref q_5, .ref q_6, .ref q_7, .int 0, .null, .int 0, .int 0, .int 0, .int 0, .null, .null, .int 0, .int 0, .int 0, .int 0, .int 0, .int 0, .null, .long 0, .long 0, .long 0, .long 0, .long 0, .long 0, .int 0, .int 0, .int 0, .int 0, .int 0])) ++ [(q_1, .inl (cy 7, 15, .inl (fun _ => 0))), (q_2, .inl (cy 7, 15, .inl (fun _ => 0))), (q_3, .inl (cy 7, 4, .inl (fun _ => 0))), (q_4, .inl (cy 7, 4, .inl (fun _ => 0))), (q_5, .inl (cy 7, 3, .inl (fun _ => 0))), (q_6, .inl (cy 7, 144, .inl (fun _ => 0))), (q_7, .inl (cy 7, 3, .inl (fun _ => 0))), (q_8, .inl (cy 7, 48, .inl (pw 18)))]) H _ := P
  refine lv_dup hx hb dX6_init_146 rfl ?_
  refine lv_bipush (v := 18) hx hb dX6_init_147 (by decide) ?_
  refine lv_iconst (v := 1) hx hb dX6_init_149 (by decide) ?_
  refine n_ist9 B G P (k := Z.length + 7) (j := 18) (f := pw 18) (z_in rfl) (by unfold vp_in; decide) (by decide) dX6_init_150 (fun H locs P => ?_)
  have P := P.to z_put
  have P : Gw D ba s (Z.set k (h0, .inr (6, [.ref q_1, .ref q_2, .ref q_3, .ref q_4, .int 0, .ref q_5, .ref q_6, .ref q_7, .int 0, .null, .int 0, .int 0, .int 0, .int 0, .null, .null, .int 0, .int 0, .int 0, .int 0, .int 0, .int 0, .null, .long 0, .long 0, .long 0, .long 0, .long 0, .long 0, .int 0, .int 0, .int 0, .int 0, .int 0])) ++ [(q_1, .inl (cy 7, 15, .inl (fun _ => 0))), (q_2, .inl (cy 7, 15, .inl (fun _ => 0))), (q_3, .inl (cy 7, 4, .inl (fun _ => 0))), (q_4, .inl (cy 7, 4, .inl (fun _ => 0))), (q_5, .inl (cy 7, 3, .inl (fun _ => 0))), (q_6, .inl (cy 7, 144, .inl (fun _ => 0))), (q_7, .inl (cy 7, 3, .inl (fun _ => 0))), (q_8, .inl (cy 7, 48, .inl (pw 19)))]) H _ := P
  refine lv_dup hx hb dX6_init_151 rfl ?_
  refine lv_bipush (v := 19) hx hb dX6_init_152 (by decide) ?_
  refine lv_iconst (v := 1) hx hb dX6_init_154 (by decide) ?_
  refine n_ist9 B G P (k := Z.length + 7) (j := 19) (f := pw 19) (z_in rfl) (by unfold vp_in; decide) (by decide) dX6_init_155 (fun H locs P => ?_)
  have P := P.to z_put
  have P : Gw D ba s (Z.set k (h0, .inr (6, [.ref q_1, .ref q_2, .ref q_3, .ref q_4, .int 0, .ref q_5, .ref q_6, .ref q_7, .int 0, .null, .int 0, .int 0, .int 0, .int 0, .null, .null, .int 0, .int 0, .int 0, .int 0, .int 0, .int 0, .null, .long 0, .long 0, .long 0, .long 0, .long 0, .long 0, .int 0, .int 0, .int 0, .int 0, .int 0])) ++ [(q_1, .inl (cy 7, 15, .inl (fun _ => 0))), (q_2, .inl (cy 7, 15, .inl (fun _ => 0))), (q_3, .inl (cy 7, 4, .inl (fun _ => 0))), (q_4, .inl (cy 7, 4, .inl (fun _ => 0))), (q_5, .inl (cy 7, 3, .inl (fun _ => 0))), (q_6, .inl (cy 7, 144, .inl (fun _ => 0))), (q_7, .inl (cy 7, 3, .inl (fun _ => 0))), (q_8, .inl (cy 7, 48, .inl (pw 20)))]) H _ := P
  refine lv_dup hx hb dX6_init_156 rfl ?_
  refine lv_bipush (v := 20) hx hb dX6_init_157 (by decide) ?_
  refine lv_iconst (v := 1) hx hb dX6_init_159 (by decide) ?_
  refine n_ist9 B G P (k := Z.length + 7) (j := 20) (f := pw 20) (z_in rfl) (by unfold vp_in; decide) (by decide) dX6_init_160 (fun H locs P => ?_)
  have P := P.to z_put
  have P : Gw D ba s (Z.set k (h0, .inr (6, [.ref q_1, .ref q_2, .ref q_3, .ref q_4, .int 0, .ref q_5, .ref q_6, .ref q_7, .int 0, .null, .int 0, .int 0, .int 0, .int 0, .null, .null, .int 0, .int 0, .int 0, .int 0, .int 0, .int 0, .null, .long 0, .long 0, .long 0, .long 0, .long 0, .long 0, .int 0, .int 0, .int 0, .int 0, .int 0])) ++ [(q_1, .inl (cy 7, 15, .inl (fun _ => 0))), (q_2, .inl (cy 7, 15, .inl (fun _ => 0))), (q_3, .inl (cy 7, 4, .inl (fun _ => 0))), (q_4, .inl (cy 7, 4, .inl (fun _ => 0))), (q_5, .inl (cy 7, 3, .inl (fun _ => 0))), (q_6, .inl (cy 7, 144, .inl (fun _ => 0))), (q_7, .inl (cy 7, 3, .inl (fun _ => 0))), (q_8, .inl (cy 7, 48, .inl (pw 21)))]) H _ := P
  refine lv_dup hx hb dX6_init_161 rfl ?_
  refine lv_bipush (v := 21) hx hb dX6_init_162 (by decide) ?_
  refine lv_iconst (v := 1) hx hb dX6_init_164 (by decide) ?_
  refine n_ist9 B G P (k := Z.length + 7) (j := 21) (f := pw 21) (z_in rfl) (by unfold vp_in; decide) (by decide) dX6_init_165 (fun H locs P => ?_)
  have P := P.to z_put
  have P : Gw D ba s (Z.set k (h0, .inr (6, [.ref q_1, .ref q_2, .ref q_3, .ref q_4, .int 0, .ref q_5, .ref q_6, .ref q_7, .int 0, .null, .int 0, .int 0, .int 0, .int 0, .null, .null, .int 0, .int 0, .int 0, .int 0, .int 0, .int 0, .null, .long 0, .long 0, .long 0, .long 0, .long 0, .long 0, .int 0, .int 0, .int 0, .int 0, .int 0])) ++ [(q_1, .inl (cy 7, 15, .inl (fun _ => 0))), (q_2, .inl (cy 7, 15, .inl (fun _ => 0))), (q_3, .inl (cy 7, 4, .inl (fun _ => 0))), (q_4, .inl (cy 7, 4, .inl (fun _ => 0))), (q_5, .inl (cy 7, 3, .inl (fun _ => 0))), (q_6, .inl (cy 7, 144, .inl (fun _ => 0))), (q_7, .inl (cy 7, 3, .inl (fun _ => 0))), (q_8, .inl (cy 7, 48, .inl (pw 22)))]) H _ := P
  refine lv_dup hx hb dX6_init_166 rfl ?_
  refine lv_bipush (v := 22) hx hb dX6_init_167 (by decide) ?_
  refine lv_iconst (v := 1) hx hb dX6_init_169 (by decide) ?_
  refine n_ist9 B G P (k := Z.length + 7) (j := 22) (f := pw 22) (z_in rfl) (by unfold vp_in; decide) (by decide) dX6_init_170 (fun H locs P => ?_)
  have P := P.to z_put
  have P : Gw D ba s (Z.set k (h0, .inr (6, [.ref q_1, .ref q_2, .ref q_3, .ref q_4, .int 0, .ref q_5, .ref q_6, .ref q_7, .int 0, .null, .int 0, .int 0, .int 0, .int 0, .null, .null, .int 0, .int 0, .int 0, .int 0, .int 0, .int 0, .null, .long 0, .long 0, .long 0, .long 0, .long 0, .long 0, .int 0, .int 0, .int 0, .int 0, .int 0])) ++ [(q_1, .inl (cy 7, 15, .inl (fun _ => 0))), (q_2, .inl (cy 7, 15, .inl (fun _ => 0))), (q_3, .inl (cy 7, 4, .inl (fun _ => 0))), (q_4, .inl (cy 7, 4, .inl (fun _ => 0))), (q_5, .inl (cy 7, 3, .inl (fun _ => 0))), (q_6, .inl (cy 7, 144, .inl (fun _ => 0))), (q_7, .inl (cy 7, 3, .inl (fun _ => 0))), (q_8, .inl (cy 7, 48, .inl (pw 23)))]) H _ := P
  refine lv_dup hx hb dX6_init_171 rfl ?_
  refine lv_bipush (v := 23) hx hb dX6_init_172 (by decide) ?_
  refine lv_iconst (v := 1) hx hb dX6_init_174 (by decide) ?_
  refine n_ist9 B G P (k := Z.length + 7) (j := 23) (f := pw 23) (z_in rfl) (by unfold vp_in; decide) (by decide) dX6_init_175 (fun H locs P => ?_)
  have P := P.to z_put
  have P : Gw D ba s (Z.set k (h0, .inr (6, [.ref q_1, .ref q_2, .ref q_3, .ref q_4, .int 0, .ref q_5, .ref q_6, .ref q_7, .int 0, .null, .int 0, .int 0, .int 0, .int 0, .null, .null, .int 0, .int 0, .int 0, .int 0, .int 0, .int 0, .null, .long 0, .long 0, .long 0, .long 0, .long 0, .long 0, .int 0, .int 0, .int 0, .int 0, .int 0])) ++ [(q_1, .inl (cy 7, 15, .inl (fun _ => 0))), (q_2, .inl (cy 7, 15, .inl (fun _ => 0))), (q_3, .inl (cy 7, 4, .inl (fun _ => 0))), (q_4, .inl (cy 7, 4, .inl (fun _ => 0))), (q_5, .inl (cy 7, 3, .inl (fun _ => 0))), (q_6, .inl (cy 7, 144, .inl (fun _ => 0))), (q_7, .inl (cy 7, 3, .inl (fun _ => 0))), (q_8, .inl (cy 7, 48, .inl (pw 24)))]) H _ := P
  refine lv_dup hx hb dX6_init_176 rfl ?_
  refine lv_bipush (v := 24) hx hb dX6_init_177 (by decide) ?_
  refine lv_iconst (v := 1) hx hb dX6_init_179 (by decide) ?_
  refine n_ist9 B G P (k := Z.length + 7) (j := 24) (f := pw 24) (z_in rfl) (by unfold vp_in; decide) (by decide) dX6_init_180 (fun H locs P => ?_)
  have P := P.to z_put
  have P : Gw D ba s (Z.set k (h0, .inr (6, [.ref q_1, .ref q_2, .ref q_3, .ref q_4, .int 0, .ref q_5, .ref q_6, .ref q_7, .int 0, .null, .int 0, .int 0, .int 0, .int 0, .null, .null, .int 0, .int 0, .int 0, .int 0, .int 0, .int 0, .null, .long 0, .long 0, .long 0, .long 0, .long 0, .long 0, .int 0, .int 0, .int 0, .int 0, .int 0])) ++ [(q_1, .inl (cy 7, 15, .inl (fun _ => 0))), (q_2, .inl (cy 7, 15, .inl (fun _ => 0))), (q_3, .inl (cy 7, 4, .inl (fun _ => 0))), (q_4, .inl (cy 7, 4, .inl (fun _ => 0))), (q_5, .inl (cy 7, 3, .inl (fun _ => 0))), (q_6, .inl (cy 7, 144, .inl (fun _ => 0))), (q_7, .inl (cy 7, 3, .inl (fun _ => 0))), (q_8, .inl (cy 7, 48, .inl (pw 25)))]) H _ := P
  refine lv_dup hx hb dX6_init_181 rfl ?_
  refine lv_bipush (v := 25) hx hb dX6_init_182 (by decide) ?_
  refine lv_iconst (v := 1) hx hb dX6_init_184 (by decide) ?_
  refine n_ist9 B G P (k := Z.length + 7) (j := 25) (f := pw 25) (z_in rfl) (by unfold vp_in; decide) (by decide) dX6_init_185 (fun H locs P => ?_)
  have P := P.to z_put
  have P : Gw D ba s (Z.set k (h0, .inr (6, [.ref q_1, .ref q_2, .ref q_3, .ref q_4, .int 0, .ref q_5, .ref q_6, .ref q_7, .int 0, .null, .int 0, .int 0, .int 0, .int 0, .null, .null, .int 0, .int 0, .int 0, .int 0, .int 0, .int 0, .null, .long 0, .long 0, .long 0, .long 0, .long 0, .long 0, .int 0, .int 0, .int 0, .int 0, .int 0])) ++ [(q_1, .inl (cy 7, 15, .inl (fun _ => 0))), (q_2, .inl (cy 7, 15, .inl (fun _ => 0))), (q_3, .inl (cy 7, 4, .inl (fun _ => 0))), (q_4, .inl (cy 7, 4, .inl (fun _ => 0))), (q_5, .inl (cy 7, 3, .inl (fun _ => 0))), (q_6, .inl (cy 7, 144, .inl (fun _ => 0))), (q_7, .inl (cy 7, 3, .inl (fun _ => 0))), (q_8, .inl (cy 7, 48, .inl (pw 26)))]) H _ := P
  refine lv_dup hx hb dX6_init_186 rfl ?_
  refine lv_bipush (v := 26) hx hb dX6_init_187 (by decide) ?_
  refine lv_iconst (v := 1) hx hb dX6_init_189 (by decide) ?_
  refine n_ist9 B G P (k := Z.length + 7) (j := 26) (f := pw 26) (z_in rfl) (by unfold vp_in; decide) (by decide) dX6_init_190 (fun H locs P => ?_)
  have P := P.to z_put
  have P : Gw D ba s (Z.set k (h0, .inr (6, [.ref q_1, .ref q_2, .ref q_3, .ref q_4, .int 0, .ref q_5, .ref q_6, .ref q_7, .int 0, .null, .int 0, .int 0, .int 0, .int 0, .null, .null, .int 0, .int 0, .int 0, .int 0, .int 0, .int 0, .null, .long 0, .long 0, .long 0, .long 0, .long 0, .long 0, .int 0, .int 0, .int 0, .int 0, .int 0])) ++ [(q_1, .inl (cy 7, 15, .inl (fun _ => 0))), (q_2, .inl (cy 7, 15, .inl (fun _ => 0))), (q_3, .inl (cy 7, 4, .inl (fun _ => 0))), (q_4, .inl (cy 7, 4, .inl (fun _ => 0))), (q_5, .inl (cy 7, 3, .inl (fun _ => 0))), (q_6, .inl (cy 7, 144, .inl (fun _ => 0))), (q_7, .inl (cy 7, 3, .inl (fun _ => 0))), (q_8, .inl (cy 7, 48, .inl (pw 27)))]) H _ := P
  refine lv_dup hx hb dX6_init_191 rfl ?_
  refine lv_bipush (v := 27) hx hb dX6_init_192 (by decide) ?_
  refine lv_iconst (v := 1) hx hb dX6_init_194 (by decide) ?_
  refine n_ist9 B G P (k := Z.length + 7) (j := 27) (f := pw 27) (z_in rfl) (by unfold vp_in; decide) (by decide) dX6_init_195 (fun H locs P => ?_)
  have P := P.to z_put
  have P : Gw D ba s (Z.set k (h0, .inr (6, [.ref q_1, .ref q_2, .ref q_3, .ref q_4, .int 0, .ref q_5, .ref q_6, .ref q_7, .int 0, .null, .int 0, .int 0, .int 0, .int 0, .null, .null, .int 0, .int 0, .int 0, .int 0, .int 0, .int 0, .null, .long 0, .long 0, .long 0, .long 0, .long 0, .long 0, .int 0, .int 0, .int 0, .int 0, .int 0])) ++ [(q_1, .inl (cy 7, 15, .inl (fun _ => 0))), (q_2, .inl (cy 7, 15, .inl (fun _ => 0))), (q_3, .inl (cy 7, 4, .inl (fun _ => 0))), (q_4, .inl (cy 7, 4, .inl (fun _ => 0))), (q_5, .inl (cy 7, 3, .inl (fun _ => 0))), (q_6, .inl (cy 7, 144, .inl (fun _ => 0))), (q_7, .inl (cy 7, 3, .inl (fun _ => 0))), (q_8, .inl (cy 7, 48, .inl (pw 28)))]) H _ := P
  refine lv_dup hx hb dX6_init_196 rfl ?_
  refine lv_bipush (v := 28) hx hb dX6_init_197 (by decide) ?_
  refine lv_iconst (v := 1) hx hb dX6_init_199 (by decide) ?_
  refine n_ist9 B G P (k := Z.length + 7) (j := 28) (f := pw 28) (z_in rfl) (by unfold vp_in; decide) (by decide) dX6_init_200 (fun H locs P => ?_)
  have P := P.to z_put
  have P : Gw D ba s (Z.set k (h0, .inr (6, [.ref q_1, .ref q_2, .ref q_3, .ref q_4, .int 0, .ref q_5, .ref q_6, .ref q_7, .int 0, .null, .int 0, .int 0, .int 0, .int 0, .null, .null, .int 0, .int 0, .int 0, .int 0, .int 0, .int 0, .null, .long 0, .long 0, .long 0, .long 0, .long 0, .long 0, .int 0, .int 0, .int 0, .int 0, .int 0])) ++ [(q_1, .inl (cy 7, 15, .inl (fun _ => 0))), (q_2, .inl (cy 7, 15, .inl (fun _ => 0))), (q_3, .inl (cy 7, 4, .inl (fun _ => 0))), (q_4, .inl (cy 7, 4, .inl (fun _ => 0))), (q_5, .inl (cy 7, 3, .inl (fun _ => 0))), (q_6, .inl (cy 7, 144, .inl (fun _ => 0))), (q_7, .inl (cy 7, 3, .inl (fun _ => 0))), (q_8, .inl (cy 7, 48, .inl (pw 29)))]) H _ := P
  refine lv_dup hx hb dX6_init_201 rfl ?_
  refine lv_bipush (v := 29) hx hb dX6_init_202 (by decide) ?_
  refine lv_iconst (v := 1) hx hb dX6_init_204 (by decide) ?_
  refine n_ist9 B G P (k := Z.length + 7) (j := 29) (f := pw 29) (z_in rfl) (by unfold vp_in; decide) (by decide) dX6_init_205 (fun H locs P => ?_)
  have P := P.to z_put
  have P : Gw D ba s (Z.set k (h0, .inr (6, [.ref q_1, .ref q_2, .ref q_3, .ref q_4, .int 0, .ref q_5, .ref q_6, .ref q_7, .int 0, .null, .int 0, .int 0, .int 0, .int 0, .null, .null, .int 0, .int 0, .int 0, .int 0, .int 0, .int 0, .null, .long 0, .long 0, .long 0, .long 0, .long 0, .long 0, .int 0, .int 0, .int 0, .int 0, .int 0])) ++ [(q_1, .inl (cy 7, 15, .inl (fun _ => 0))), (q_2, .inl (cy 7, 15, .inl (fun _ => 0))), (q_3, .inl (cy 7, 4, .inl (fun _ => 0))), (q_4, .inl (cy 7, 4, .inl (fun _ => 0))), (q_5, .inl (cy 7, 3, .inl (fun _ => 0))), (q_6, .inl (cy 7, 144, .inl (fun _ => 0))), (q_7, .inl (cy 7, 3, .inl (fun _ => 0))), (q_8, .inl (cy 7, 48, .inl (pw 30)))]) H _ := P
  refine lv_dup hx hb dX6_init_206 rfl ?_
  refine lv_bipush (v := 30) hx hb dX6_init_207 (by decide) ?_
  refine lv_iconst (v := 1) hx hb dX6_init_209 (by decide) ?_
  refine n_ist9 B G P (k := Z.length + 7) (j := 30) (f := pw 30) (z_in rfl) (by unfold vp_in; decide) (by decide) dX6_init_210 (fun H locs P => ?_)
  have P := P.to z_put
  have P : Gw D ba s (Z.set k (h0, .inr (6, [.ref q_1, .ref q_2, .ref q_3, .ref q_4, .int 0, .ref q_5, .ref q_6, .ref q_7, .int 0, .null, .int 0, .int 0, .int 0, .int 0, .null, .null, .int 0, .int 0, .int 0, .int 0, .int 0, .int 0, .null, .long 0, .long 0, .long 0, .long 0, .long 0, .long 0, .int 0, .int 0, .int 0, .int 0, .int 0])) ++ [(q_1, .inl (cy 7, 15, .inl (fun _ => 0))), (q_2, .inl (cy 7, 15, .inl (fun _ => 0))), (q_3, .inl (cy 7, 4, .inl (fun _ => 0))), (q_4, .inl (cy 7, 4, .inl (fun _ => 0))), (q_5, .inl (cy 7, 3, .inl (fun _ => 0))), (q_6, .inl (cy 7, 144, .inl (fun _ => 0))), (q_7, .inl (cy 7, 3, .inl (fun _ => 0))), (q_8, .inl (cy 7, 48, .inl (pw 31)))]) H _ := P
  refine lv_dup hx hb dX6_init_211 rfl ?_
  refine lv_bipush (v := 31) hx hb dX6_init_212 (by decide) ?_
  refine lv_iconst (v := 1) hx hb dX6_init_214 (by decide) ?_
  refine n_ist9 B G P (k := Z.length + 7) (j := 31) (f := pw 31) (z_in rfl) (by unfold vp_in; decide) (by decide) dX6_init_215 (fun H locs P => ?_)
  have P := P.to z_put
  have P : Gw D ba s (Z.set k (h0, .inr (6, [.ref q_1, .ref q_2, .ref q_3, .ref q_4, .int 0, .ref q_5, .ref q_6, .ref q_7, .int 0, .null, .int 0, .int 0, .int 0, .int 0, .null, .null, .int 0, .int 0, .int 0, .int 0, .int 0, .int 0, .null, .long 0, .long 0, .long 0, .long 0, .long 0, .long 0, .int 0, .int 0, .int 0, .int 0, .int 0])) ++ [(q_1, .inl (cy 7, 15, .inl (fun _ => 0))), (q_2, .inl (cy 7, 15, .inl (fun _ => 0))), (q_3, .inl (cy 7, 4, .inl (fun _ => 0))), (q_4, .inl (cy 7, 4, .inl (fun _ => 0))), (q_5, .inl (cy 7, 3, .inl (fun _ => 0))), (q_6, .inl (cy 7, 144, .inl (fun _ => 0))), (q_7, .inl (cy 7, 3, .inl (fun _ => 0))), (q_8, .inl (cy 7, 48, .inl (pw 32)))]) H _ := P
  refine lv_dup hx hb dX6_init_216 rfl ?_
  refine lv_bipush (v := 32) hx hb dX6_init_217 (by decide) ?_
  refine lv_iconst (v := 1) hx hb dX6_init_219 (by decide) ?_
  refine n_ist9 B G P (k := Z.length + 7) (j := 32) (f := pw 32) (z_in rfl) (by unfold vp_in; decide) (by decide) dX6_init_220 (fun H locs P => ?_)
  have P := P.to z_put
  have P : Gw D ba s (Z.set k (h0, .inr (6, [.ref q_1, .ref q_2, .ref q_3, .ref q_4, .int 0, .ref q_5, .ref q_6, .ref q_7, .int 0, .null, .int 0, .int 0, .int 0, .int 0, .null, .null, .int 0, .int 0, .int 0, .int 0, .int 0, .int 0, .null, .long 0, .long 0, .long 0, .long 0, .long 0, .long 0, .int 0, .int 0, .int 0, .int 0, .int 0])) ++ [(q_1, .inl (cy 7, 15, .inl (fun _ => 0))), (q_2, .inl (cy 7, 15, .inl (fun _ => 0))), (q_3, .inl (cy 7, 4, .inl (fun _ => 0))), (q_4, .inl (cy 7, 4, .inl (fun _ => 0))), (q_5, .inl (cy 7, 3, .inl (fun _ => 0))), (q_6, .inl (cy 7, 144, .inl (fun _ => 0))), (q_7, .inl (cy 7, 3, .inl (fun _ => 0))), (q_8, .inl (cy 7, 48, .inl (pw 33)))]) H _ := P
  refine lv_dup hx hb dX6_init_221 rfl ?_
  refine lv_bipush (v := 33) hx hb dX6_init_222 (by decide) ?_
  refine lv_iconst (v := 1) hx hb dX6_init_224 (by decide) ?_
  refine n_ist9 B G P (k := Z.length + 7) (j := 33) (f := pw 33) (z_in rfl) (by unfold vp_in; decide) (by decide) dX6_init_225 (fun H locs P => ?_)
  have P := P.to z_put
  have P : Gw D ba s (Z.set k (h0, .inr (6, [.ref q_1, .ref q_2, .ref q_3, .ref q_4, .int 0, .ref q_5, .ref q_6, .ref q_7, .int 0, .null, .int 0, .int 0, .int 0, .int 0, .null, .null, .int 0, .int 0, .int 0, .int 0, .int 0, .int 0, .null, .long 0, .long 0, .long 0, .long 0, .long 0, .long 0, .int 0, .int 0, .int 0, .int 0, .int 0])) ++ [(q_1, .inl (cy 7, 15, .inl (fun _ => 0))), (q_2, .inl (cy 7, 15, .inl (fun _ => 0))), (q_3, .inl (cy 7, 4, .inl (fun _ => 0))), (q_4, .inl (cy 7, 4, .inl (fun _ => 0))), (q_5, .inl (cy 7, 3, .inl (fun _ => 0))), (q_6, .inl (cy 7, 144, .inl (fun _ => 0))), (q_7, .inl (cy 7, 3, .inl (fun _ => 0))), (q_8, .inl (cy 7, 48, .inl (pw 34)))]) H _ := P
  refine lv_dup hx hb dX6_init_226 rfl ?_
  refine lv_bipush (v := 34) hx hb dX6_init_227 (by decide) ?_
  refine lv_iconst (v := 1) hx hb dX6_init_229 (by decide) ?_
  refine n_ist9 B G P (k := Z.length + 7) (j := 34) (f := pw 34) (z_in rfl) (by unfold vp_in; decide) (by decide) dX6_init_230 (fun H locs P => ?_)
  have P := P.to z_put
  have P : Gw D ba s (Z.set k (h0, .inr (6, [.ref q_1, .ref q_2, .ref q_3, .ref q_4, .int 0, .ref q_5, .ref q_6, .ref q_7, .int 0, .null, .int 0, .int 0, .int 0, .int 0, .null, .null, .int 0, .int 0, .int 0, .int 0, .int 0, .int 0, .null, .long 0, .long 0, .long 0, .long 0, .long 0, .long 0, .int 0, .int 0, .int 0, .int 0, .int 0])) ++ [(q_1, .inl (cy 7, 15, .inl (fun _ => 0))), (q_2, .inl (cy 7, 15, .inl (fun _ => 0))), (q_3, .inl (cy 7, 4, .inl (fun _ => 0))), (q_4, .inl (cy 7, 4, .inl (fun _ => 0))), (q_5, .inl (cy 7, 3, .inl (fun _ => 0))), (q_6, .inl (cy 7, 144, .inl (fun _ => 0))), (q_7, .inl (cy 7, 3, .inl (fun _ => 0))), (q_8, .inl (cy 7, 48, .inl (pw 35)))]) H _ := P
  refine lv_dup hx hb dX6_init_231 rfl ?_
  refine lv_bipush (v := 35) hx hb dX6_init_232 (by decide) ?_
  refine lv_iconst (v := 1) hx hb dX6_init_234 (by decide) ?_
  refine n_ist9 B G P (k := Z.length + 7) (j := 35) (f := pw 35) (z_in rfl) (by unfold vp_in; decide) (by decide) dX6_init_235 (fun H locs P => ?_)
  have P := P.to z_put
  have P : Gw D ba s (Z.set k (h0, .inr (6, [.ref q_1, .ref q_2, .ref q_3, .ref q_4, .int 0, .ref q_5, .ref q_6, .ref q_7, .int 0, .null, .int 0, .int 0, .int 0, .int 0, .null, .null, .int 0, .int 0, .int 0, .int 0, .int 0, .int 0, .null, .long 0, .long 0, .long 0, .long 0, .long 0, .long 0, .int 0, .int 0, .int 0, .int 0, .int 0])) ++ [(q_1, .inl (cy 7, 15, .inl (fun _ => 0))), (q_2, .inl (cy 7, 15, .inl (fun _ => 0))), (q_3, .inl (cy 7, 4, .inl (fun _ => 0))), (q_4, .inl (cy 7, 4, .inl (fun _ => 0))), (q_5, .inl (cy 7, 3, .inl (fun _ => 0))), (q_6, .inl (cy 7, 144, .inl (fun _ => 0))), (q_7, .inl (cy 7, 3, .inl (fun _ => 0))), (q_8, .inl (cy 7, 48, .inl (pw 36)))]) H _ := P
  refine lv_dup hx hb dX6_init_236 rfl ?_
  refine lv_bipush (v := 36) hx hb dX6_init_237 (by decide) ?_
  refine lv_iconst (v := 1) hx hb dX6_init_239 (by decide) ?_
  refine n_ist9 B G P (k := Z.length + 7) (j := 36) (f := pw 36) (z_in rfl) (by unfold vp_in; decide) (by decide) dX6_init_240 (fun H locs P => ?_)
  have P := P.to z_put
  have P : Gw D ba s (Z.set k (h0, .inr (6, [.ref q_1, .ref q_2, .ref q_3, .ref q_4, .int 0, .ref q_5, .ref q_6, .ref q_7, .int 0, .null, .int 0, .int 0, .int 0, .int 0, .null, .null, .int 0, .int 0, .int 0, .int 0, .int 0, .int 0, .null, .long 0, .long 0, .long 0, .long 0, .long 0, .long 0, .int 0, .int 0, .int 0, .int 0, .int 0])) ++ [(q_1, .inl (cy 7, 15, .inl (fun _ => 0))), (q_2, .inl (cy 7, 15, .inl (fun _ => 0))), (q_3, .inl (cy 7, 4, .inl (fun _ => 0))), (q_4, .inl (cy 7, 4, .inl (fun _ => 0))), (q_5, .inl (cy 7, 3, .inl (fun _ => 0))), (q_6, .inl (cy 7, 144, .inl (fun _ => 0))), (q_7, .inl (cy 7, 3, .inl (fun _ => 0))), (q_8, .inl (cy 7, 48, .inl (pw 37)))]) H _ := P
  refine lv_dup hx hb dX6_init_241 rfl ?_
  refine lv_bipush (v := 37) hx hb dX6_init_242 (by decide) ?_
  refine lv_iconst (v := 1) hx hb dX6_init_244 (by decide) ?_
  refine n_ist9 B G P (k := Z.length + 7) (j := 37) (f := pw 37) (z_in rfl) (by unfold vp_in; decide) (by decide) dX6_init_245 (fun H locs P => ?_)
  have P := P.to z_put
  have P : Gw D ba s (Z.set k (h0, .inr (6, [.ref q_1, .ref q_2, .ref q_3, .ref q_4, .int 0, .ref q_5, .ref q_6, .ref q_7, .int 0, .null, .int 0, .int 0, .int 0, .int 0, .null, .null, .int 0, .int 0, .int 0, .int 0, .int 0, .int 0, .null, .long 0, .long 0, .long 0, .long 0, .long 0, .long 0, .int 0, .int 0, .int 0, .int 0, .int 0])) ++ [(q_1, .inl (cy 7, 15, .inl (fun _ => 0))), (q_2, .inl (cy 7, 15, .inl (fun _ => 0))), (q_3, .inl (cy 7, 4, .inl (fun _ => 0))), (q_4, .inl (cy 7, 4, .inl (fun _ => 0))), (q_5, .inl (cy 7, 3, .inl (fun _ => 0))), (q_6, .inl (cy 7, 144, .inl (fun _ => 0))), (q_7, .inl (cy 7, 3, .inl (fun _ => 0))), (q_8, .inl (cy 7, 48, .inl (pw 38)))]) H _ := P
  refine lv_dup hx hb dX6_init_246 rfl ?_
  refine lv_bipush (v := 38) hx hb dX6_init_247 (by decide) ?_
  refine lv_iconst (v := 1) hx hb dX6_init_249 (by decide) ?_
  refine n_ist9 B G P (k := Z.length + 7) (j := 38) (f := pw 38) (z_in rfl) (by unfold vp_in; decide) (by decide) dX6_init_250 (fun H locs P => ?_)
  have P := P.to z_put
  have P : Gw D ba s (Z.set k (h0, .inr (6, [.ref q_1, .ref q_2, .ref q_3, .ref q_4, .int 0, .ref q_5, .ref q_6, .ref q_7, .int 0, .null, .int 0, .int 0, .int 0, .int 0, .null, .null, .int 0, .int 0, .int 0, .int 0, .int 0, .int 0, .null, .long 0, .long 0, .long 0, .long 0, .long 0, .long 0, .int 0, .int 0, .int 0, .int 0, .int 0])) ++ [(q_1, .inl (cy 7, 15, .inl (fun _ => 0))), (q_2, .inl (cy 7, 15, .inl (fun _ => 0))), (q_3, .inl (cy 7, 4, .inl (fun _ => 0))), (q_4, .inl (cy 7, 4, .inl (fun _ => 0))), (q_5, .inl (cy 7, 3, .inl (fun _ => 0))), (q_6, .inl (cy 7, 144, .inl (fun _ => 0))), (q_7, .inl (cy 7, 3, .inl (fun _ => 0))), (q_8, .inl (cy 7, 48, .inl (pw 39)))]) H _ := P
  refine lv_dup hx hb dX6_init_251 rfl ?_
  refine lv_bipush (v := 39) hx hb dX6_init_252 (by decide) ?_
  refine lv_iconst (v := 1) hx hb dX6_init_254 (by decide) ?_
  refine n_ist9 B G P (k := Z.length + 7) (j := 39) (f := pw 39) (z_in rfl) (by unfold vp_in; decide) (by decide) dX6_init_255 (fun H locs P => ?_)
  have P := P.to z_put
  have P : Gw D ba s (Z.set k (h0, .inr (6, [.ref q_1, .ref q_2, .ref q_3, .ref q_4, .int 0, .ref q_5, .ref q_6, .ref q_7, .int 0, .null, .int 0, .int 0, .int 0, .int 0, .null, .null, .int 0, .int 0, .int 0, .int 0, .int 0, .int 0, .null, .long 0, .long 0, .long 0, .long 0, .long 0, .long 0, .int 0, .int 0, .int 0, .int 0, .int 0])) ++ [(q_1, .inl (cy 7, 15, .inl (fun _ => 0))), (q_2, .inl (cy 7, 15, .inl (fun _ => 0))), (q_3, .inl (cy 7, 4, .inl (fun _ => 0))), (q_4, .inl (cy 7, 4, .inl (fun _ => 0))), (q_5, .inl (cy 7, 3, .inl (fun _ => 0))), (q_6, .inl (cy 7, 144, .inl (fun _ => 0))), (q_7, .inl (cy 7, 3, .inl (fun _ => 0))), (q_8, .inl (cy 7, 48, .inl (pw 40)))]) H _ := P
  refine lv_dup hx hb dX6_init_256 rfl ?_
  refine lv_bipush (v := 40) hx hb dX6_init_257 (by decide) ?_
  refine lv_iconst (v := 1) hx hb dX6_init_259 (by decide) ?_
  refine n_ist9 B G P (k := Z.length + 7) (j := 40) (f := pw 40) (z_in rfl) (by unfold vp_in; decide) (by decide) dX6_init_260 (fun H locs P => ?_)
  have P := P.to z_put
  have P : Gw D ba s (Z.set k (h0, .inr (6, [.ref q_1, .ref q_2, .ref q_3, .ref q_4, .int 0, .ref q_5, .ref q_6, .ref q_7, .int 0, .null, .int 0, .int 0, .int 0, .int 0, .null, .null, .int 0, .int 0, .int 0, .int 0, .int 0, .int 0, .null, .long 0, .long 0, .long 0, .long 0, .long 0, .long 0, .int 0, .int 0, .int 0, .int 0, .int 0])) ++ [(q_1, .inl (cy 7, 15, .inl (fun _ => 0))), (q_2, .inl (cy 7, 15, .inl (fun _ => 0))), (q_3, .inl (cy 7, 4, .inl (fun _ => 0))), (q_4, .inl (cy 7, 4, .inl (fun _ => 0))), (q_5, .inl (cy 7, 3, .inl (fun _ => 0))), (q_6, .inl (cy 7, 144, .inl (fun _ => 0))), (q_7, .inl (cy 7, 3, .inl (fun _ => 0))), (q_8, .inl (cy 7, 48, .inl (pw 41)))]) H _ := P
  refine lv_dup hx hb dX6_init_261 rfl ?_
  refine lv_bipush (v := 41) hx hb dX6_init_262 (by decide) ?_
  refine lv_iconst (v := 1) hx hb dX6_init_264 (by decide) ?_
  refine n_ist9 B G P (k := Z.length + 7) (j := 41) (f := pw 41) (z_in rfl) (by unfold vp_in; decide) (by decide) dX6_init_265 (fun H locs P => ?_)
  have P := P.to z_put
  have P : Gw D ba s (Z.set k (h0, .inr (6, [.ref q_1, .ref q_2, .ref q_3, .ref q_4, .int 0, .ref q_5, .ref q_6, .ref q_7, .int 0, .null, .int 0, .int 0, .int 0, .int 0, .null, .null, .int 0, .int 0, .int 0, .int 0, .int 0, .int 0, .null, .long 0, .long 0, .long 0, .long 0, .long 0, .long 0, .int 0, .int 0, .int 0, .int 0, .int 0])) ++ [(q_1, .inl (cy 7, 15, .inl (fun _ => 0))), (q_2, .inl (cy 7, 15, .inl (fun _ => 0))), (q_3, .inl (cy 7, 4, .inl (fun _ => 0))), (q_4, .inl (cy 7, 4, .inl (fun _ => 0))), (q_5, .inl (cy 7, 3, .inl (fun _ => 0))), (q_6, .inl (cy 7, 144, .inl (fun _ => 0))), (q_7, .inl (cy 7, 3, .inl (fun _ => 0))), (q_8, .inl (cy 7, 48, .inl (pw 42)))]) H _ := P
  refine lv_dup hx hb dX6_init_266 rfl ?_
  refine lv_bipush (v := 42) hx hb dX6_init_267 (by decide) ?_
  refine lv_iconst (v := 1) hx hb dX6_init_269 (by decide) ?_
  refine n_ist9 B G P (k := Z.length + 7) (j := 42) (f := pw 42) (z_in rfl) (by unfold vp_in; decide) (by decide) dX6_init_270 (fun H locs P => ?_)
  have P := P.to z_put
  have P : Gw D ba s (Z.set k (h0, .inr (6, [.ref q_1, .ref q_2, .ref q_3, .ref q_4, .int 0, .ref q_5, .ref q_6, .ref q_7, .int 0, .null, .int 0, .int 0, .int 0, .int 0, .null, .null, .int 0, .int 0, .int 0, .int 0, .int 0, .int 0, .null, .long 0, .long 0, .long 0, .long 0, .long 0, .long 0, .int 0, .int 0, .int 0, .int 0, .int 0])) ++ [(q_1, .inl (cy 7, 15, .inl (fun _ => 0))), (q_2, .inl (cy 7, 15, .inl (fun _ => 0))), (q_3, .inl (cy 7, 4, .inl (fun _ => 0))), (q_4, .inl (cy 7, 4, .inl (fun _ => 0))), (q_5, .inl (cy 7, 3, .inl (fun _ => 0))), (q_6, .inl (cy 7, 144, .inl (fun _ => 0))), (q_7, .inl (cy 7, 3, .inl (fun _ => 0))), (q_8, .inl (cy 7, 48, .inl (pw 43)))]) H _ := P
  refine lv_dup hx hb dX6_init_271 rfl ?_
  refine lv_bipush (v := 43) hx hb dX6_init_272 (by decide) ?_
  refine lv_iconst (v := 1) hx hb dX6_init_274 (by decide) ?_
  refine n_ist9 B G P (k := Z.length + 7) (j := 43) (f := pw 43) (z_in rfl) (by unfold vp_in; decide) (by decide) dX6_init_275 (fun H locs P => ?_)
  have P := P.to z_put
  have P : Gw D ba s (Z.set k (h0, .inr (6, [.ref q_1, .ref q_2, .ref q_3, .ref q_4, .int 0, .ref q_5, .ref q_6, .ref q_7, .int 0, .null, .int 0, .int 0, .int 0, .int 0, .null, .null, .int 0, .int 0, .int 0, .int 0, .int 0, .int 0, .null, .long 0, .long 0, .long 0, .long 0, .long 0, .long 0, .int 0, .int 0, .int 0, .int 0, .int 0])) ++ [(q_1, .inl (cy 7, 15, .inl (fun _ => 0))), (q_2, .inl (cy 7, 15, .inl (fun _ => 0))), (q_3, .inl (cy 7, 4, .inl (fun _ => 0))), (q_4, .inl (cy 7, 4, .inl (fun _ => 0))), (q_5, .inl (cy 7, 3, .inl (fun _ => 0))), (q_6, .inl (cy 7, 144, .inl (fun _ => 0))), (q_7, .inl (cy 7, 3, .inl (fun _ => 0))), (q_8, .inl (cy 7, 48, .inl (pw 44)))]) H _ := P
  refine lv_dup hx hb dX6_init_276 rfl ?_
  refine lv_bipush (v := 44) hx hb dX6_init_277 (by decide) ?_
  refine lv_iconst (v := 1) hx hb dX6_init_279 (by decide) ?_
  refine n_ist9 B G P (k := Z.length + 7) (j := 44) (f := pw 44) (z_in rfl) (by unfold vp_in; decide) (by decide) dX6_init_280 (fun H locs P => ?_)
  have P := P.to z_put
  have P : Gw D ba s (Z.set k (h0, .inr (6, [.ref q_1, .ref q_2, .ref q_3, .ref q_4, .int 0, .ref q_5, .ref q_6, .ref q_7, .int 0, .null, .int 0, .int 0, .int 0, .int 0, .null, .null, .int 0, .int 0, .int 0, .int 0, .int 0, .int 0, .null, .long 0, .long 0, .long 0, .long 0, .long 0, .long 0, .int 0, .int 0, .int 0, .int 0, .int 0])) ++ [(q_1, .inl (cy 7, 15, .inl (fun _ => 0))), (q_2, .inl (cy 7, 15, .inl (fun _ => 0))), (q_3, .inl (cy 7, 4, .inl (fun _ => 0))), (q_4, .inl (cy 7, 4, .inl (fun _ => 0))), (q_5, .inl (cy 7, 3, .inl (fun _ => 0))), (q_6, .inl (cy 7, 144, .inl (fun _ => 0))), (q_7, .inl (cy 7, 3, .inl (fun _ => 0))), (q_8, .inl (cy 7, 48, .inl (pw 45)))]) H _ := P
  refine lv_dup hx hb dX6_init_281 rfl ?_
  refine lv_bipush (v := 45) hx hb dX6_init_282 (by decide) ?_
  refine lv_iconst (v := 1) hx hb dX6_init_284 (by decide) ?_
  refine n_ist9 B G P (k := Z.length + 7) (j := 45) (f := pw 45) (z_in rfl) (by unfold vp_in; decide) (by decide) dX6_init_285 (fun H locs P => ?_)
  have P := P.to z_put
  have P : Gw D ba s (Z.set k (h0, .inr (6, [.ref q_1, .ref q_2, .ref q_3, .ref q_4, .int 0, .ref q_5, .ref q_6, .ref q_7, .int 0, .null, .int 0, .int 0, .int 0, .int 0, .null, .null, .int 0, .int 0, .int 0, .int 0, .int 0, .int 0, .null, .long 0, .long 0, .long 0, .long 0, .long 0, .long 0, .int 0, .int 0, .int 0, .int 0, .int 0])) ++ [(q_1, .inl (cy 7, 15, .inl (fun _ => 0))), (q_2, .inl (cy 7, 15, .inl (fun _ => 0))), (q_3, .inl (cy 7, 4, .inl (fun _ => 0))), (q_4, .inl (cy 7, 4, .inl (fun _ => 0))), (q_5, .inl (cy 7, 3, .inl (fun _ => 0))), (q_6, .inl (cy 7, 144, .inl (fun _ => 0))), (q_7, .inl (cy 7, 3, .inl (fun _ => 0))), (q_8, .inl (cy 7, 48, .inl (pw 46)))]) H _ := P
  refine lv_dup hx hb dX6_init_286 rfl ?_
  refine lv_bipush (v := 46) hx hb dX6_init_287 (by decide) ?_
  refine lv_iconst (v := 1) hx hb dX6_init_289 (by decide) ?_
  refine n_ist9 B G P (k := Z.length + 7) (j := 46) (f := pw 46) (z_in rfl) (by unfold vp_in; decide) (by decide) dX6_init_290 (fun H locs P => ?_)
  have P := P.to z_put
  have P : Gw D ba s (Z.set k (h0, .inr (6, [.ref q_1, .ref q_2, .ref q_3, .ref q_4, .int 0, .ref q_5, .ref q_6, .ref q_7, .int 0, .null, .int 0, .int 0, .int 0, .int 0, .null, .null, .int 0, .int 0, .int 0, .int 0, .int 0, .int 0, .null, .long 0, .long 0, .long 0, .long 0, .long 0, .long 0, .int 0, .int 0, .int 0, .int 0, .int 0])) ++ [(q_1, .inl (cy 7, 15, .inl (fun _ => 0))), (q_2, .inl (cy 7, 15, .inl (fun _ => 0))), (q_3, .inl (cy 7, 4, .inl (fun _ => 0))), (q_4, .inl (cy 7, 4, .inl (fun _ => 0))), (q_5, .inl (cy 7, 3, .inl (fun _ => 0))), (q_6, .inl (cy 7, 144, .inl (fun _ => 0))), (q_7, .inl (cy 7, 3, .inl (fun _ => 0))), (q_8, .inl (cy 7, 48, .inl (pw 47)))]) H _ := P
  refine lv_dup hx hb dX6_init_291 rfl ?_
  refine lv_bipush (v := 47) hx hb dX6_init_292 (by decide) ?_
  refine lv_iconst (v := 1) hx hb dX6_init_294 (by decide) ?_
  refine n_ist9 B G P (k := Z.length + 7) (j := 47) (f := pw 47) (z_in rfl) (by unfold vp_in; decide) (by decide) dX6_init_295 (fun H locs P => ?_)
  have P := P.to z_put
  have P : Gw D ba s (Z.set k (h0, .inr (6, [.ref q_1, .ref q_2, .ref q_3, .ref q_4, .int 0, .ref q_5, .ref q_6, .ref q_7, .int 0, .null, .int 0, .int 0, .int 0, .int 0, .null, .null, .int 0, .int 0, .int 0, .int 0, .int 0, .int 0, .null, .long 0, .long 0, .long 0, .long 0, .long 0, .long 0, .int 0, .int 0, .int 0, .int 0, .int 0])) ++ [(q_1, .inl (cy 7, 15, .inl (fun _ => 0))), (q_2, .inl (cy 7, 15, .inl (fun _ => 0))), (q_3, .inl (cy 7, 4, .inl (fun _ => 0))), (q_4, .inl (cy 7, 4, .inl (fun _ => 0))), (q_5, .inl (cy 7, 3, .inl (fun _ => 0))), (q_6, .inl (cy 7, 144, .inl (fun _ => 0))), (q_7, .inl (cy 7, 3, .inl (fun _ => 0))), (q_8, .inl (cy 7, 48, .inl (pw 48)))]) H _ := P
  refine n_putF B G P (j := 9) (ty := .array .int) ok6 (z_at hk) (by decide) rfl hin rfl (by decide +kernel) rfl rfl (Nat.le_of_ble_eq_true rfl) q823 dX6_init_296 (fun H locs P => ?_)
  have P := P.to (z_set hk)
  have P : Gw D ba s (Z.set k (h0, .inr (6, [.ref q_1, .ref q_2, .ref q_3, .ref q_4, .int 0, .ref q_5, .ref q_6, .ref q_7, .int 0, .ref q_8, .int 0, .int 0, .int 0, .int 0, .null, .null, .int 0, .int 0, .int 0, .int 0, .int 0, .int 0, .null, .long 0, .long 0, .long 0, .long 0, .long 0, .long 0, .int 0, .int 0, .int 0, .int 0, .int 0])) ++ [(q_1, .inl (cy 7, 15, .inl (fun _ => 0))), (q_2, .inl (cy 7, 15, .inl (fun _ => 0))), (q_3, .inl (cy 7, 4, .inl (fun _ => 0))), (q_4, .inl (cy 7, 4, .inl (fun _ => 0))), (q_5, .inl (cy 7, 3, .inl (fun _ => 0))), (q_6, .inl (cy 7, 144, .inl (fun _ => 0))), (q_7, .inl (cy 7, 3, .inl (fun _ => 0))), (q_8, .inl (cy 7, 48, .inl (pw 48)))]) H _ := P
  refine lv_aload_n hx hb dX6_init_299 rfl (lv_at hl 0 rfl) ?_
  refine lv_bipush (v := 25) hx hb dX6_init_300 (by decide) ?_
  refine n_put B G P (j := 10) (ty := .int) ok6 (z_at hk) (by decide) rfl (by decide +kernel) rfl rfl (Nat.le_of_ble_eq_true rfl) q824 dX6_init_302 (fun H locs P => ?_)
  have P := P.to (z_set hk)
  have P : Gw D ba s (Z.set k (h0, .inr (6, [.ref q_1, .ref q_2, .ref q_3, .ref q_4, .int 0, .ref q_5, .ref q_6, .ref q_7, .int 0, .ref q_8, .int 25, .int 0, .int 0, .int 0, .null, .null, .int 0, .int 0, .int 0, .int 0, .int 0, .int 0, .null, .long 0, .long 0, .long 0, .long 0, .long 0, .long 0, .int 0, .int 0, .int 0, .int 0, .int 0])) ++ [(q_1, .inl (cy 7, 15, .inl (fun _ => 0))), (q_2, .inl (cy 7, 15, .inl (fun _ => 0))), (q_3, .inl (cy 7, 4, .inl (fun _ => 0))), (q_4, .inl (cy 7, 4, .inl (fun _ => 0))), (q_5, .inl (cy 7, 3, .inl (fun _ => 0))), (q_6, .inl (cy 7, 144, .inl (fun _ => 0))), (q_7, .inl (cy 7, 3, .inl (fun _ => 0))), (q_8, .inl (cy 7, 48, .inl (pw 48)))]) H _ := P
  refine lv_aload_n hx hb dX6_init_305 rfl (lv_at hl 0 rfl) ?_
  refine lv_bipush (v := 40) hx hb dX6_init_306 (by decide) ?_
  refine n_put B G P (j := 11) (ty := .int) ok6 (z_at hk) (by decide) rfl (by decide +kernel) rfl rfl (Nat.le_of_ble_eq_true rfl) q825 dX6_init_308 (fun H locs P => ?_)
  have P := P.to (z_set hk)
  have P : Gw D ba s (Z.set k (h0, .inr (6, [.ref q_1, .ref q_2, .ref q_3, .ref q_4, .int 0, .ref q_5, .ref q_6, .ref q_7, .int 0, .ref q_8, .int 25, .int 40, .int 0, .int 0, .null, .null, .int 0, .int 0, .int 0, .int 0, .int 0, .int 0, .null, .long 0, .long 0, .long 0, .long 0, .long 0, .long 0, .int 0, .int 0, .int 0, .int 0, .int 0])) ++ [(q_1, .inl (cy 7, 15, .inl (fun _ => 0))), (q_2, .inl (cy 7, 15, .inl (fun _ => 0))), (q_3, .inl (cy 7, 4, .inl (fun _ => 0))), (q_4, .inl (cy 7, 4, .inl (fun _ => 0))), (q_5, .inl (cy 7, 3, .inl (fun _ => 0))), (q_6, .inl (cy 7, 144, .inl (fun _ => 0))), (q_7, .inl (cy 7, 3, .inl (fun _ => 0))), (q_8, .inl (cy 7, 48, .inl (pw 48)))]) H _ := P
  refine lv_aload_n hx hb dX6_init_311 rfl (lv_at hl 0 rfl) ?_
  refine lv_iconst (v := 4) hx hb dX6_init_312 (by decide) ?_
  refine n_put B G P (j := 13) (ty := .int) ok6 (z_at hk) (by decide) rfl (by decide +kernel) rfl rfl (Nat.le_of_ble_eq_true rfl) q827 dX6_init_313 (fun H locs P => ?_)
  have P := P.to (z_set hk)
  have P : Gw D ba s (Z.set k (h0, .inr (6, [.ref q_1, .ref q_2, .ref q_3, .ref q_4, .int 0, .ref q_5, .ref q_6, .ref q_7, .int 0, .ref q_8, .int 25, .int 40, .int 0, .int 4, .null, .null, .int 0, .int 0, .int 0, .int 0, .int 0, .int 0, .null, .long 0, .long 0, .long 0, .long 0, .long 0, .long 0, .int 0, .int 0, .int 0, .int 0, .int 0])) ++ [(q_1, .inl (cy 7, 15, .inl (fun _ => 0))), (q_2, .inl (cy 7, 15, .inl (fun _ => 0))), (q_3, .inl (cy 7, 4, .inl (fun _ => 0))), (q_4, .inl (cy 7, 4, .inl (fun _ => 0))), (q_5, .inl (cy 7, 3, .inl (fun _ => 0))), (q_6, .inl (cy 7, 144, .inl (fun _ => 0))), (q_7, .inl (cy 7, 3, .inl (fun _ => 0))), (q_8, .inl (cy 7, 48, .inl (pw 48)))]) H _ := P
  refine lv_aload_n hx hb dX6_init_316 rfl (lv_at hl 0 rfl) ?_
  refine lv_bipush (v := 6) hx hb dX6_init_317 (by decide) ?_
  refine n_newa B G P .int 0 q81 rfl rfl (N' := 6) (a0 := (6, .inl (fun _ => 0))) (fun _ => rfl) (by decide) (by decide) (Nat.le_of_ble_eq_true rfl) (Nat.le_of_ble_eq_true rfl) (Nat.le_of_ble_eq_true rfl) dX6_init_319 (fun q_9 H P => ?_)
  have P := P.to (List.append_assoc _ _ _)
  have P : Gw D ba s (Z.set k (h0, .inr (6, [.ref q_1, .ref q_2, .ref q_3, .ref q_4, .int 0, .ref q_5, .ref q_6, .ref q_7, .int 0, .ref q_8, .int 25, .int 40, .int 0, .int 4, .null, .null, .int 0, .int 0, .int 0, .int 0, .int 0, .int 0, .null, .long 0, .long 0, .long 0, .long 0, .long 0, .long 0, .int 0, .int 0, .int 0, .int 0, .int 0])) ++ [(q_1, .inl (cy 7, 15, .inl (fun _ => 0))), (q_2, .inl (cy 7, 15, .inl (fun _ => 0))), (q_3, .inl (cy 7, 4, .inl (fun _ => 0))), (q_4, .inl (cy 7, 4, .inl (fun _ => 0))), (q_5, .inl (cy 7, 3, .inl (fun _ => 0))), (q_6, .inl (cy 7, 144, .inl (fun _ => 0))), (q_7, .inl (cy 7, 3, .inl (fun _ => 0))), (q_8, .inl (cy 7, 48, .inl (pw 48))), (q_9, .inl (cy 7, 6, .inl (fun _ => 0)))]) H _ := P
  refine n_putF B G P (j := 14) (ty := .array .int) ok6 (z_at hk) (by decide) rfl hin rfl (by decide +kernel) rfl rfl (Nat.le_of_ble_eq_true rfl) q828 dX6_init_321 (fun H locs P => ?_)
  have P := P.to (z_set hk)
  have P : Gw D ba s (Z.set k (h0, .inr (6, [.ref q_1, .ref q_2, .ref q_3, .ref q_4, .int 0, .ref q_5, .ref q_6, .ref q_7, .int 0, .ref q_8, .int 25, .int 40, .int 0, .int 4, .ref q_9, .null, .int 0, .int 0, .int 0, .int 0, .int 0, .int 0, .null, .long 0, .long 0, .long 0, .long 0, .long 0, .long 0, .int 0, .int 0, .int 0, .int 0, .int 0])) ++ [(q_1, .inl (cy 7, 15, .inl (fun _ => 0))), (q_2, .inl (cy 7, 15, .inl (fun _ => 0))), (q_3, .inl (cy 7, 4, .inl (fun _ => 0))), (q_4, .inl (cy 7, 4, .inl (fun _ => 0))), (q_5, .inl (cy 7, 3, .inl (fun _ => 0))), (q_6, .inl (cy 7, 144, .inl (fun _ => 0))), (q_7, .inl (cy 7, 3, .inl (fun _ => 0))), (q_8, .inl (cy 7, 48, .inl (pw 48))), (q_9, .inl (cy 7, 6, .inl (fun _ => 0)))]) H _ := P
  refine lv_aload_n hx hb dX6_init_324 rfl (lv_at hl 0 rfl) ?_
  refine lv_bipush (v := 6) hx hb dX6_init_325 (by decide) ?_
  refine n_newa B G P .boolean 1 q917 rfl rfl (N' := 6) (a0 := (6, .inl (fun _ => 0))) (fun _ => rfl) (by decide) (by decide) (Nat.le_of_ble_eq_true rfl) (Nat.le_of_ble_eq_true rfl) (Nat.le_of_ble_eq_true rfl) dX6_init_327 (fun q_10 H P => ?_)
  have P := P.to (List.append_assoc _ _ _)
  have P : Gw D ba s (Z.set k (h0, .inr (6, [.ref q_1, .ref q_2, .ref q_3, .ref q_4, .int 0, .ref q_5, .ref q_6, .ref q_7, .int 0, .ref q_8, .int 25, .int 40, .int 0, .int 4, .ref q_9, .null, .int 0, .int 0, .int 0, .int 0, .int 0, .int 0, .null, .long 0, .long 0, .long 0, .long 0, .long 0, .long 0, .int 0, .int 0, .int 0, .int 0, .int 0])) ++ [(q_1, .inl (cy 7, 15, .inl (fun _ => 0))), (q_2, .inl (cy 7, 15, .inl (fun _ => 0))), (q_3, .inl (cy 7, 4, .inl (fun _ => 0))), (q_4, .inl (cy 7, 4, .inl (fun _ => 0))), (q_5, .inl (cy 7, 3, .inl (fun _ => 0))), (q_6, .inl (cy 7, 144, .inl (fun _ => 0))), (q_7, .inl (cy 7, 3, .inl (fun _ => 0))), (q_8, .inl (cy 7, 48, .inl (pw 48))), (q_9, .inl (cy 7, 6, .inl (fun _ => 0))), (q_10, .inl (cy 8, 6, .inl (fun _ => 0)))]) H _ := P
  refine n_putF B G P (j := 15) (ty := .array .boolean) ok6 (z_at hk) (by decide) rfl hin rfl (by decide +kernel) rfl rfl (Nat.le_of_ble_eq_true rfl) q829 dX6_init_329 (fun H locs P => ?_)
  have P := P.to (z_set hk)
  have P : Gw D ba s (Z.set k (h0, .inr (6, [.ref q_1, .ref q_2, .ref q_3, .ref q_4, .int 0, .ref q_5, .ref q_6, .ref q_7, .int 0, .ref q_8, .int 25, .int 40, .int 0, .int 4, .ref q_9, .ref q_10, .int 0, .int 0, .int 0, .int 0, .int 0, .int 0, .null, .long 0, .long 0, .long 0, .long 0, .long 0, .long 0, .int 0, .int 0, .int 0, .int 0, .int 0])) ++ [(q_1, .inl (cy 7, 15, .inl (fun _ => 0))), (q_2, .inl (cy 7, 15, .inl (fun _ => 0))), (q_3, .inl (cy 7, 4, .inl (fun _ => 0))), (q_4, .inl (cy 7, 4, .inl (fun _ => 0))), (q_5, .inl (cy 7, 3, .inl (fun _ => 0))), (q_6, .inl (cy 7, 144, .inl (fun _ => 0))), (q_7, .inl (cy 7, 3, .inl (fun _ => 0))), (q_8, .inl (cy 7, 48, .inl (pw 48))), (q_9, .inl (cy 7, 6, .inl (fun _ => 0))), (q_10, .inl (cy 8, 6, .inl (fun _ => 0)))]) H _ := P
  refine lv_aload_n hx hb dX6_init_332 rfl (lv_at hl 0 rfl) ?_
  refine lv_iconst (v := 3) hx hb dX6_init_333 (by decide) ?_
  refine n_newa B G P .int 0 q81 rfl rfl (N' := 3) (a0 := (3, .inl (fun _ => 0))) (fun _ => rfl) (by decide) (by decide) (Nat.le_of_ble_eq_true rfl) (Nat.le_of_ble_eq_true rfl) (Nat.le_of_ble_eq_true rfl) dX6_init_334 (fun q_11 H P => ?_)
  have P := P.to (List.append_assoc _ _ _)
  have P : Gw D ba s (Z.set k (h0, .inr (6, [.ref q_1, .ref q_2, .ref q_3, .ref q_4, .int 0, .ref q_5, .ref q_6, .ref q_7, .int 0, .ref q_8, .int 25, .int 40, .int 0, .int 4, .ref q_9, .ref q_10, .int 0, .int 0, .int 0, .int 0, .int 0, .int 0, .null, .long 0, .long 0, .long 0, .long 0, .long 0, .long 0, .int 0, .int 0, .int 0, .int 0, .int 0])) ++ [(q_1, .inl (cy 7, 15, .inl (fun _ => 0))), (q_2, .inl (cy 7, 15, .inl (fun _ => 0))), (q_3, .inl (cy 7, 4, .inl (fun _ => 0))), (q_4, .inl (cy 7, 4, .inl (fun _ => 0))), (q_5, .inl (cy 7, 3, .inl (fun _ => 0))), (q_6, .inl (cy 7, 144, .inl (fun _ => 0))), (q_7, .inl (cy 7, 3, .inl (fun _ => 0))), (q_8, .inl (cy 7, 48, .inl (pw 48))), (q_9, .inl (cy 7, 6, .inl (fun _ => 0))), (q_10, .inl (cy 8, 6, .inl (fun _ => 0))), (q_11, .inl (cy 7, 3, .inl (fun _ => 0)))]) H _ := P
  refine n_putF B G P (j := 22) (ty := .array .int) ok6 (z_at hk) (by decide) rfl hin rfl (by decide +kernel) rfl rfl (Nat.le_of_ble_eq_true rfl) q836 dX6_init_336 (fun H locs P => ?_)
  have P := P.to (z_set hk)
  have P : Gw D ba s (Z.set k (h0, .inr (6, [.ref q_1, .ref q_2, .ref q_3, .ref q_4, .int 0, .ref q_5, .ref q_6, .ref q_7, .int 0, .ref q_8, .int 25, .int 40, .int 0, .int 4, .ref q_9, .ref q_10, .int 0, .int 0, .int 0, .int 0, .int 0, .int 0, .ref q_11, .long 0, .long 0, .long 0, .long 0, .long 0, .long 0, .int 0, .int 0, .int 0, .int 0, .int 0])) ++ [(q_1, .inl (cy 7, 15, .inl (fun _ => 0))), (q_2, .inl (cy 7, 15, .inl (fun _ => 0))), (q_3, .inl (cy 7, 4, .inl (fun _ => 0))), (q_4, .inl (cy 7, 4, .inl (fun _ => 0))), (q_5, .inl (cy 7, 3, .inl (fun _ => 0))), (q_6, .inl (cy 7, 144, .inl (fun _ => 0))), (q_7, .inl (cy 7, 3, .inl (fun _ => 0))), (q_8, .inl (cy 7, 48, .inl (pw 48))), (q_9, .inl (cy 7, 6, .inl (fun _ => 0))), (q_10, .inl (cy 8, 6, .inl (fun _ => 0))), (q_11, .inl (cy 7, 3, .inl (fun _ => 0)))]) H _ := P
  exact n_retv B P (fun i => ([q_1, q_2, q_3, q_4, q_5, q_6, q_7, q_8, q_9, q_10, q_11] : List Nat).getD i 0) rfl hrt hlk (Nat.le_of_ble_eq_true rfl) (Nat.le_of_ble_eq_true rfl) dX6_init_339
