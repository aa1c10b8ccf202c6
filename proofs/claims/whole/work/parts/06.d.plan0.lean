def f_J9_floorMod_7cf53 (x : Int32) (y : Int32) (σ : Sg) : Int32 := if 0 ≤ (x ^^^ y) then (x - x / y * y) else (if (x - x / y * y) = 0 then (x - x / y * y) else ((x - x / y * y) + y))
set_option maxHeartbeats 4000000 in
set_option maxRecDepth 100000 in
theorem ct_J9_floorMod_7cf53 {D : va_G} {ad : Nat → Nat} {cy : Nat → ClassId} {ba : Nat} (l : Launch) (x : Int32) (y : Int32) (σ : Sg) (hy : ¬ y = 0) : Ct D ad cy ba l 0 yJ9_floorMod_7cf53 cJ9_floorMod_7cf53 3 (some .int) [.int x, .int y] σ (some (.int (f_J9_floorMod_7cf53 x y σ))) σ := by
  generalize hE : f_J9_floorMod_7cf53 x y σ = Z
  dsimp only [f_J9_floorMod_7cf53] at hE
  refine Ct.ofF (by decide +kernel) (Nat.le_of_ble_eq_true rfl) ?_
  intro p e s m below meth c ls B F P hrt hlk hl
  have hx := B.1
  have hb := B.2.1
  have hl : lv_has ls 3 [(0, .int x), (1, .int y)] := hl
  refine lv_iload_n hx hb dJ9_floorMod_7cf53_0 rfl (lv_at hl 0 rfl) ?_
  refine lv_iload_n hx hb dJ9_floorMod_7cf53_1 rfl (lv_at hl 1 rfl) ?_
  refine lv_irem hx hb dJ9_floorMod_7cf53_2 hy ?_
  refine lv_istore_n (lv' := [(2, .int (x - x / y * y)), (0, .int x), (1, .int y)]) hx hb dJ9_floorMod_7cf53_3 rfl hl (by decide) rfl (fun ls hl => ?_)
  refine lv_iload_n hx hb dJ9_floorMod_7cf53_4 rfl (lv_at hl 1 rfl) ?_
  refine lv_iload_n hx hb dJ9_floorMod_7cf53_5 rfl (lv_at hl 2 rfl) ?_
  refine lv_ixor hx hb dJ9_floorMod_7cf53_6 ?_
  refine lv_if_ge (tgt := 18) hx hb dJ9_floorMod_7cf53_7 (by decide) (fun c7 => ?_) (fun c7 => ?_)
  · rw [if_pos c7] at hE
    refine lv_iload_n hx hb dJ9_floorMod_7cf53_18 rfl (lv_at hl 0 rfl) ?_
    exact g_reti B P (by rw [← hE]) rfl hrt hlk dJ9_floorMod_7cf53_19
  · rw [if_neg c7] at hE
    refine lv_iload_n hx hb dJ9_floorMod_7cf53_10 rfl (lv_at hl 0 rfl) ?_
    refine lv_if_eq (tgt := 18) hx hb dJ9_floorMod_7cf53_11 (by decide) (fun c11 => ?_) (fun c11 => ?_)
    · rw [if_pos c11] at hE
      refine lv_iload_n hx hb dJ9_floorMod_7cf53_18 rfl (lv_at hl 0 rfl) ?_
      exact g_reti B P (by rw [← hE]) rfl hrt hlk dJ9_floorMod_7cf53_19
    · rw [if_neg c11] at hE
      refine lv_iload_n hx hb dJ9_floorMod_7cf53_14 rfl (lv_at hl 0 rfl) ?_
      refine lv_iload_n hx hb dJ9_floorMod_7cf53_15 rfl (lv_at hl 2 rfl) ?_
      refine lv_iadd hx hb dJ9_floorMod_7cf53_16 ?_
      exact g_reti B P (by rw [← hE]) rfl hrt hlk dJ9_floorMod_7cf53_17
theorem nk_J9_floorMod_7cf53 : nmOk yJ9_floorMod_7cf53 RJ9 2 := ⟨rfl, by decide +kernel, by decide +kernel, by decide +kernel⟩
def f_X5_slotOf (h : Int32) (σ : Sg) : Int32 := (f_J9_floorMod_7cf53 h 48 σ)
set_option maxHeartbeats 4000000 in
set_option maxRecDepth 100000 in
theorem ct_X5_slotOf {D : va_G} {ad : Nat → Nat} {cy : Nat → ClassId} {ba : Nat} (l : Launch) (h : Int32) (σ : Sg)  : Ct D ad cy ba l 1 yX5_slotOf cX5_slotOf 1 (some .int) [.int h] σ (some (.int (f_X5_slotOf h σ))) σ := by
  generalize hE : f_X5_slotOf h σ = Z
  dsimp only [f_X5_slotOf] at hE
  refine Ct.of (by decide +kernel) (Nat.le_of_ble_eq_true rfl) ?_
  intro p e s m below meth c ls B F P hrt hlk hl
  have hx := B.1
  have hb := B.2.1
  have hl : lv_has ls 1 [(0, .int h)] := hl
  refine lv_iload_n hx hb dX5_slotOf_0 rfl (lv_at hl 0 rfl) ?_
  refine lv_bipush (v := 48) hx hb dX5_slotOf_1 (by decide) ?_
  refine g_callS B F P (As := [.int h, .int 48]) (ct_J9_floorMod_7cf53 (D := D) (ad := ad) (cy := cy) (ba := ba) l h 48 σ (by decide)) q275 q276 q18 q277 nk_J9_floorMod_7cf53 rfl ⟨(Nat.le_of_ble_eq_true rfl), (Nat.le_of_ble_eq_true rfl)⟩ hl.1 rfl (Nat.le_of_ble_eq_true rfl) dX5_slotOf_3 ⟨Nat.le_of_ble_eq_true rfl, Nat.le_of_ble_eq_true rfl⟩ (fun H locs P => ?_)
  exact g_reti B P (by rw [← hE]) rfl hrt hlk dX5_slotOf_6
