/-! loops: a counter below its bound -/
def LI (B n : Nat) (i : Int32) : Prop := 0 ≤ i.toInt ∧ i.toInt + n = B + 1 ∧ i.toInt ≤ B
theorem LI.zero {B : Nat} {i : Int32} : ¬ LI B 0 i := fun h => by obtain ⟨h1, h2, h3⟩ := h; omega
theorem LI.start {B : Nat} : LI B (B + 1) 0 := ⟨by decide, by rw [show (0 : Int32).toInt = 0 from rfl]; omega, by rw [show (0 : Int32).toInt = 0 from rfl]; omega⟩
theorem i_succ {i : Int32} (h0 : 0 ≤ i.toInt) (h1 : i.toInt < 1000000) : (i + 1).toInt = i.toInt + 1 := by
  rw [Int32.toInt_add, show (1 : Int32).toInt = 1 from rfl, Int.bmod_def]
  omega
theorem LI.lt {B n : Nat} {i N : Int32} (_ : LI B n i) (hc : ¬ N ≤ i) : i.toInt < N.toInt := by
  rw [Int32.le_iff_toInt_le] at hc
  omega
theorem LI.into {B n M : Nat} {i N : Int32} (h : LI B n i) (hc : ¬ N ≤ i) (hN : N.toInt ≤ M) : vp_in i M := vp_in_iff.mpr ⟨h.1, by have := h.lt hc; omega⟩
theorem LI.next {B n : Nat} {i N : Int32} (h : LI B (n + 1) i) (hc : ¬ N ≤ i) (hN : N.toInt ≤ B) (hB : B < 100000 := by decide) : LI B n (i + 1) := by
  have h1 := h.lt hc
  obtain ⟨h2, h3, h4⟩ := h
  have h5 := i_succ h2 (by omega)
  exact ⟨by omega, by omega, by omega⟩
theorem i_nle {x y : Int32} (h : x < y) : ¬ y ≤ x := by
  rw [Int32.lt_iff_toInt_lt] at h
  rw [Int32.le_iff_toInt_le]
  omega
theorem LI.next' {B n : Nat} {i N : Int32} (h : LI B (n + 1) i) (hc : ¬ N < i) (hN : N.toInt + 1 ≤ B) (hB : B < 100000 := by decide) : LI B n (i + 1) := by
  rw [Int32.lt_iff_toInt_lt] at hc
  obtain ⟨h2, h3, h4⟩ := h
  have h5 := i_succ h2 (by omega)
  exact ⟨by omega, by omega, by omega⟩
/-- the class's counters keep within the lengths of its arrays -/
def GS (σ : Sg) : Prop := (rI σ 1 5).toInt ≤ 4 ∧ (rI σ 1 6).toInt ≤ 3
theorem GS.of {σ σ' : Sg} (h : GS σ) (e : ∀ j, rI σ' 1 j = rI σ 1 j) : GS σ' := ⟨by rw [e]; exact h.1, by rw [e]; exact h.2⟩
theorem dem_lt {x : Int32} (h : vp_in x 3) : 6 + x.toNatClampNeg < 81 := by have := Nat.not_le.mp fun q => h (Or.inr q); omega
theorem dem_c {x : Int32} (h : vp_in x 3) : x.toNatClampNeg = 0 ∨ x.toNatClampNeg = 1 ∨ x.toNatClampNeg = 2 := by have := Nat.not_le.mp fun q => h (Or.inr q); omega
theorem dem_kd {x : Int32} (h : vp_in x 3) : kd (6 + x.toNatClampNeg) = 7 := by rcases dem_c h with e | e | e <;> rw [e] <;> rfl
theorem dem_ln {x : Int32} (h : vp_in x 3) : ln (6 + x.toNatClampNeg) = 48 := by rcases dem_c h with e | e | e <;> rw [e] <;> rfl
def f_X3_productAt (t : Int32) (fo : Int32) (σ : Sg) : Int32 := if (rI σ 1 7) ≤ (rI σ 3 t.toNatClampNeg) then ((((rI σ 2 t.toNatClampNeg) * ((rI σ 3 t.toNatClampNeg) - (rI σ 1 7))) * (100 - fo)) / 500) else 0
set_option maxHeartbeats 4000000 in
set_option maxRecDepth 100000 in
theorem ct_X3_productAt {D : va_G} {ad : Nat → Nat} {cy : Nat → ClassId} {ba : Nat} (l : Launch) (t : Int32) (fo : Int32) (σ : Sg) (ht : vp_in t 4) : Ct D ad cy ba l 0 yX3_productAt cX3_productAt 3 (some .int) [.ref (ad 1), .int t, .int fo] σ (some (.int (f_X3_productAt t fo σ))) σ := by
  generalize hE : f_X3_productAt t fo σ = Z
  dsimp only [f_X3_productAt] at hE
  refine Ct.of (by decide +kernel) (Nat.le_of_ble_eq_true rfl) ?_
  intro p e s m below meth c ls B F P hrt hlk hl
  have hx := B.1
  have hb := B.2.1
  have hl : lv_has ls 3 [(0, .ref (ad 1)), (1, .int t), (2, .int fo)] := hl
  refine lv_aload_n hx hb dX3_productAt_0 rfl (lv_at hl 0 rfl) ?_
  refine g_getr (k := 1) (t := 3) B F P ok3 (by decide) rfl rfl rfl (by decide) rfl q43 dX3_productAt_1 ?_
  refine lv_iload_n hx hb dX3_productAt_4 rfl (lv_at hl 1 rfl) ?_
  refine g_ild B F P (by decide) rfl rfl ht dX3_productAt_5 ?_
  refine lv_aload_n hx hb dX3_productAt_6 rfl (lv_at hl 0 rfl) ?_
  refine g_geti (k := 7) B F P ok3 (by decide) rfl rfl rfl (by decide) q58 dX3_productAt_7 ?_
  refine lv_icmp_ge (tgt := 15) hx hb dX3_productAt_10 (by decide) (fun c10 => ?_) (fun c10 => ?_)
  · rw [if_pos c10] at hE
    refine lv_aload_n hx hb dX3_productAt_15 rfl (lv_at hl 0 rfl) ?_
    refine g_getr (k := 0) (t := 2) B F P ok3 (by decide) rfl rfl rfl (by decide) rfl q41 dX3_productAt_16 ?_
    refine lv_iload_n hx hb dX3_productAt_19 rfl (lv_at hl 1 rfl) ?_
    refine g_ild B F P (by decide) rfl rfl ht dX3_productAt_20 ?_
    refine lv_aload_n hx hb dX3_productAt_21 rfl (lv_at hl 0 rfl) ?_
    refine g_getr (k := 1) (t := 3) B F P ok3 (by decide) rfl rfl rfl (by decide) rfl q43 dX3_productAt_22 ?_
    refine lv_iload_n hx hb dX3_productAt_25 rfl (lv_at hl 1 rfl) ?_
    refine g_ild B F P (by decide) rfl rfl ht dX3_productAt_26 ?_
    refine lv_aload_n hx hb dX3_productAt_27 rfl (lv_at hl 0 rfl) ?_
    refine g_geti (k := 7) B F P ok3 (by decide) rfl rfl rfl (by decide) q58 dX3_productAt_28 ?_
    refine lv_isub hx hb dX3_productAt_31 ?_
    refine lv_imul hx hb dX3_productAt_32 ?_
    refine lv_bipush (v := 100) hx hb dX3_productAt_33 (by decide) ?_
    refine lv_iload_n hx hb dX3_productAt_35 rfl (lv_at hl 2 rfl) ?_
    refine lv_isub hx hb dX3_productAt_36 ?_
    refine lv_imul hx hb dX3_productAt_37 ?_
    refine lv_sipush (v := 500) hx hb dX3_productAt_38 (by decide) ?_
    refine lv_idiv hx hb dX3_productAt_41 (by decide) ?_
    exact g_reti B P (by rw [← hE]) rfl hrt hlk dX3_productAt_42
  · rw [if_neg c10] at hE
    refine lv_iconst (v := 0) hx hb dX3_productAt_13 (by decide) ?_
    exact g_reti B P (by rw [← hE]) rfl hrt hlk dX3_productAt_14
def f_X3_feedFor (pr : Int32) (σ : Sg) : Int32 := if 0 < (rI σ 1 8) then ((((pr * 100) + (rI σ 1 8)) - 1) / (rI σ 1 8)) else 0
set_option maxHeartbeats 4000000 in
set_option maxRecDepth 100000 in
theorem ct_X3_feedFor {D : va_G} {ad : Nat → Nat} {cy : Nat → ClassId} {ba : Nat} (l : Launch) (pr : Int32) (σ : Sg)  : Ct D ad cy ba l 0 yX3_feedFor cX3_feedFor 2 (some .int) [.ref (ad 1), .int pr] σ (some (.int (f_X3_feedFor pr σ))) σ := by
  generalize hE : f_X3_feedFor pr σ = Z
  dsimp only [f_X3_feedFor] at hE
  refine Ct.of (by decide +kernel) (Nat.le_of_ble_eq_true rfl) ?_
  intro p e s m below meth c ls B F P hrt hlk hl
  have hx := B.1
  have hb := B.2.1
  have hl : lv_has ls 2 [(0, .ref (ad 1)), (1, .int pr)] := hl
  refine lv_aload_n hx hb dX3_feedFor_0 rfl (lv_at hl 0 rfl) ?_
  refine g_geti (k := 8) B F P ok3 (by decide) rfl rfl rfl (by decide) q60 dX3_feedFor_1 ?_
  refine lv_if_gt (tgt := 9) hx hb dX3_feedFor_4 (by decide) (fun c4 => ?_) (fun c4 => ?_)
  · rw [if_pos c4] at hE
    refine lv_iload_n hx hb dX3_feedFor_9 rfl (lv_at hl 1 rfl) ?_
    refine lv_bipush (v := 100) hx hb dX3_feedFor_10 (by decide) ?_
    refine lv_imul hx hb dX3_feedFor_12 ?_
    refine lv_aload_n hx hb dX3_feedFor_13 rfl (lv_at hl 0 rfl) ?_
    refine g_geti (k := 8) B F P ok3 (by decide) rfl rfl rfl (by decide) q60 dX3_feedFor_14 ?_
    refine lv_iadd hx hb dX3_feedFor_17 ?_
    refine lv_iconst (v := 1) hx hb dX3_feedFor_18 (by decide) ?_
    refine lv_isub hx hb dX3_feedFor_19 ?_
    refine lv_aload_n hx hb dX3_feedFor_20 rfl (lv_at hl 0 rfl) ?_
    refine g_geti (k := 8) B F P ok3 (by decide) rfl rfl rfl (by decide) q60 dX3_feedFor_21 ?_
    refine lv_idiv hx hb dX3_feedFor_24 (fun h => by rw [h] at c4; exact absurd c4 (by decide)) ?_
    exact g_reti B P (by rw [← hE]) rfl hrt hlk dX3_feedFor_25
  · rw [if_neg c4] at hE
    refine lv_iconst (v := 0) hx hb dX3_feedFor_7 (by decide) ?_
    exact g_reti B P (by rw [← hE]) rfl hrt hlk dX3_feedFor_8
def f_X3_energyFor (t : Int32) (fe : Int32) (σ : Sg) : Int32 := (((fe * (rI σ 3 t.toNatClampNeg)) + 19) / 20)
set_option maxHeartbeats 4000000 in
set_option maxRecDepth 100000 in
theorem ct_X3_energyFor {D : va_G} {ad : Nat → Nat} {cy : Nat → ClassId} {ba : Nat} (l : Launch) (t : Int32) (fe : Int32) (σ : Sg) (ht : vp_in t 4) : Ct D ad cy ba l 0 yX3_energyFor cX3_energyFor 3 (some .int) [.ref (ad 1), .int t, .int fe] σ (some (.int (f_X3_energyFor t fe σ))) σ := by
  generalize hE : f_X3_energyFor t fe σ = Z
  dsimp only [f_X3_energyFor] at hE
  refine Ct.of (by decide +kernel) (Nat.le_of_ble_eq_true rfl) ?_
  intro p e s m below meth c ls B F P hrt hlk hl
  have hx := B.1
  have hb := B.2.1
  have hl : lv_has ls 3 [(0, .ref (ad 1)), (1, .int t), (2, .int fe)] := hl
  refine lv_iload_n hx hb dX3_energyFor_0 rfl (lv_at hl 2 rfl) ?_
  refine lv_aload_n hx hb dX3_energyFor_1 rfl (lv_at hl 0 rfl) ?_
  refine g_getr (k := 1) (t := 3) B F P ok3 (by decide) rfl rfl rfl (by decide) rfl q43 dX3_energyFor_2 ?_
  refine lv_iload_n hx hb dX3_energyFor_5 rfl (lv_at hl 1 rfl) ?_
  refine g_ild B F P (by decide) rfl rfl ht dX3_energyFor_6 ?_
  refine lv_imul hx hb dX3_energyFor_7 ?_
  refine lv_bipush (v := 19) hx hb dX3_energyFor_8 (by decide) ?_
  refine lv_iadd hx hb dX3_energyFor_10 ?_
  refine lv_bipush (v := 20) hx hb dX3_energyFor_11 (by decide) ?_
  refine lv_idiv hx hb dX3_energyFor_13 (by decide) ?_
  exact g_reti B P (by rw [← hE]) rfl hrt hlk dX3_energyFor_14
def f_X3_foulingStep (t : Int32) (σ : Sg) : Int32 := if 45 < (rI σ 3 t.toNatClampNeg) then (if 55 < (rI σ 3 t.toNatClampNeg) then 3 else 2) else 1
set_option maxHeartbeats 4000000 in
set_option maxRecDepth 100000 in
theorem ct_X3_foulingStep {D : va_G} {ad : Nat → Nat} {cy : Nat → ClassId} {ba : Nat} (l : Launch) (t : Int32) (σ : Sg) (ht : vp_in t 4) : Ct D ad cy ba l 0 yX3_foulingStep cX3_foulingStep 2 (some .int) [.ref (ad 1), .int t] σ (some (.int (f_X3_foulingStep t σ))) σ := by
  generalize hE : f_X3_foulingStep t σ = Z
  dsimp only [f_X3_foulingStep] at hE
  refine Ct.of (by decide +kernel) (Nat.le_of_ble_eq_true rfl) ?_
  intro p e s m below meth c ls B F P hrt hlk hl
  have hx := B.1
  have hb := B.2.1
  have hl : lv_has ls 2 [(0, .ref (ad 1)), (1, .int t)] := hl
  refine lv_aload_n hx hb dX3_foulingStep_0 rfl (lv_at hl 0 rfl) ?_
  refine g_getr (k := 1) (t := 3) B F P ok3 (by decide) rfl rfl rfl (by decide) rfl q43 dX3_foulingStep_1 ?_
  refine lv_iload_n hx hb dX3_foulingStep_4 rfl (lv_at hl 1 rfl) ?_
  refine g_ild B F P (by decide) rfl rfl ht dX3_foulingStep_5 ?_
  refine lv_bipush (v := 45) hx hb dX3_foulingStep_6 (by decide) ?_
  refine lv_icmp_gt (tgt := 13) hx hb dX3_foulingStep_8 (by decide) (fun c8 => ?_) (fun c8 => ?_)
  · rw [if_pos c8] at hE
    refine lv_aload_n hx hb dX3_foulingStep_13 rfl (lv_at hl 0 rfl) ?_
    refine g_getr (k := 1) (t := 3) B F P ok3 (by decide) rfl rfl rfl (by decide) rfl q43 dX3_foulingStep_14 ?_
    refine lv_iload_n hx hb dX3_foulingStep_17 rfl (lv_at hl 1 rfl) ?_
    refine g_ild B F P (by decide) rfl rfl ht dX3_foulingStep_18 ?_
    refine lv_bipush (v := 55) hx hb dX3_foulingStep_19 (by decide) ?_
    refine lv_icmp_gt (tgt := 28) hx hb dX3_foulingStep_21 (by decide) (fun c21 => ?_) (fun c21 => ?_)
    · rw [if_pos c21] at hE
      refine lv_iconst (v := 3) hx hb dX3_foulingStep_28 (by decide) ?_
      exact g_reti B P (by rw [← hE]) rfl hrt hlk dX3_foulingStep_29
    · rw [if_neg c21] at hE
      refine lv_iconst (v := 2) hx hb dX3_foulingStep_24 (by decide) ?_
      refine lv_goto (tgt := 29) hx hb dX3_foulingStep_25 (by decide) ?_
      exact g_reti B P (by rw [← hE]) rfl hrt hlk dX3_foulingStep_29
  · rw [if_neg c8] at hE
    refine lv_iconst (v := 1) hx hb dX3_foulingStep_11 (by decide) ?_
    exact g_reti B P (by rw [← hE]) rfl hrt hlk dX3_foulingStep_12
