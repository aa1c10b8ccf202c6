theorem gp_X2_begin_l23 (pr nh : Int32) (hpr : 0 ≤ pr.toInt ∧ pr.toInt < 100000) : ∀ (n : Nat) (x : Int32) (σ : Sg), LI 6 n x → GP σ → GP (f_X2_begin_l23 pr nh n x σ)
  | 0, _, _, hI, _ => absurd hI LI.zero
  | n + 1, x, σ, hI, hP => by
    unfold f_X2_begin_l23
    split
    · exact hP
    · rename_i c
      exact gp_X2_begin_l23 pr nh hpr n _ _ (hI.next c hP.2.1) (hP.ss (i := x.toNatClampNeg) (slotOf_in (x := pr + x) (by rw [i_add hpr.1 (by omega) hI.1 (by have := hI.2.2; omega)]; have := hI.1; omega) (sI σ 15 x.toNatClampNeg (f_X1_told (pr + x) σ))) (fun j => by simp only [rI_sI]; simp) (by simp only [rI_sI]; simp) (fun j => by simp only [rI_sI]; simp))
theorem gp_X2_begin (pr nh : Int32) (σ : Sg) (hP : GP σ) (hpr : 0 ≤ pr.toInt ∧ pr.toInt < 100000) : GP (f_X2_begin pr nh σ) :=
  gp_X2_begin_l23 pr nh hpr 7 0 _ LI.start ((hP.fr (fr_X4_copy 1 0 _)).bl (by rw [rI_sI, if_pos ⟨rfl, rfl⟩]; exact min6) (fun j => by simp only [rI_sI]; simp) (fun j => by simp only [rI_sI]; simp))
theorem nk_X2_begin : nmOk yX2_begin RX2 3 := ⟨rfl, by decide +kernel, by decide +kernel, by decide +kernel⟩
def f_X2_findBest (pr : Int32) (nh : Int32) (σ : Sg) : Sg := (f_X2_search 7 0 0 0 (sI (sI (f_X2_begin pr nh σ) 13 6 0) 13 7 1000000000))
set_option maxHeartbeats 4000000 in
set_option maxRecDepth 100000 in
theorem ct_X2_findBest {D : va_G} {ad : Nat → Nat} {cy : Nat → ClassId} {ba : Nat} (l : Launch) (pr : Int32) (nh : Int32) (σ : Sg) (hP : GP σ) (hO : GO σ) (hpr : 0 ≤ pr.toInt ∧ pr.toInt < 100000) : Ct D ad cy ba l 12 yX2_findBest cX2_findBest 4 none [.ref (ad 13), .ref (ad (sid 0)), .int pr, .int nh] σ none (f_X2_findBest pr nh σ) := by
  generalize hE : f_X2_findBest pr nh σ = Z
  dsimp only [f_X2_findBest] at hE
  refine Ct.of (by decide +kernel) (Nat.le_of_ble_eq_true rfl) ?_
  intro p e s m below meth c ls B F P hrt hlk hl
  have hx := B.1
  have hb := B.2.1
  have hl : lv_has ls 4 [(0, .ref (ad 13)), (1, .ref (ad (sid 0))), (2, .int pr), (3, .int nh)] := hl
  refine lv_aload_n hx hb dX2_findBest_0 rfl (lv_at hl 0 rfl) ?_
  refine lv_aload_n hx hb dX2_findBest_1 rfl (lv_at hl 1 rfl) ?_
  refine lv_iload_n hx hb dX2_findBest_2 rfl (lv_at hl 2 rfl) ?_
  refine lv_iload_n hx hb dX2_findBest_3 rfl (lv_at hl 3 rfl) ?_
  refine g_callV B F P (As := [.ref (ad (sid 0)), .int pr, .int nh]) (ct_X2_begin (D := D) (ad := ad) (cy := cy) (ba := ba) l pr nh σ hP hO hpr) ok2 (by decide) rfl q660 q661 q662 q6 q663 nk_X2_begin rfl ⟨(Nat.le_of_ble_eq_true rfl), (Nat.le_of_ble_eq_true rfl)⟩ hl.1 rfl (Nat.le_of_ble_eq_true rfl) dX2_findBest_4 ⟨Nat.le_of_ble_eq_true rfl, Nat.le_of_ble_eq_true rfl⟩ (fun H locs P => ?_)
  refine lv_aload_n hx hb dX2_findBest_7 rfl (lv_at hl 0 rfl) ?_
  refine lv_iconst (v := 0) hx hb dX2_findBest_8 (by decide) ?_
  refine g_puti (k := 6) B F P ok2 (by decide) rfl rfl rfl (by decide) rfl (tyX2_ok 6 (by decide)) q175 dX2_findBest_9 (fun H locs P => ?_)
  refine lv_aload_n hx hb dX2_findBest_12 rfl (lv_at hl 0 rfl) ?_
  refine g_ldc B q674 dX2_findBest_13 ?_
  refine g_puti (k := 7) B F P ok2 (by decide) rfl rfl rfl (by decide) rfl (tyX2_ok 7 (by decide)) q177 dX2_findBest_15 (fun H locs P => ?_)
  refine lv_aload_n hx hb dX2_findBest_18 rfl (lv_at hl 0 rfl) ?_
  refine lv_iconst (v := 0) hx hb dX2_findBest_19 (by decide) ?_
  refine lv_iconst (v := 0) hx hb dX2_findBest_20 (by decide) ?_
  refine lv_iconst (v := 0) hx hb dX2_findBest_21 (by decide) ?_
  refine g_callS B F P (As := [.ref (ad 13), .int 0, .int 0, .int 0]) (ct_X2_search (D := D) (ad := ad) (cy := cy) (ba := ba) l 7 0 0 0 (sI (sI (f_X2_begin pr nh σ) 13 6 0) 13 7 1000000000) (((gp_X2_begin _ _ _ hP hpr).pf (Pf.sI Pf.refl (by decide))).pf (Pf.sI Pf.refl (by decide))) LI.start) q675 q676 q6 q677 nk_X2_search rfl ⟨(Nat.le_of_ble_eq_true rfl), (Nat.le_of_ble_eq_true rfl)⟩ hl.1 rfl (Nat.le_of_ble_eq_true rfl) dX2_findBest_22 ⟨Nat.le_of_ble_eq_true rfl, Nat.le_of_ble_eq_true rfl⟩ (fun H locs P => ?_)
  exact g_retv B P rfl (by rw [← hE]) hrt hlk dX2_findBest_25
