theorem nk_X5_passPresent : nmOk yX5_passPresent RX5 1 := ⟨rfl, by decide +kernel, by decide +kernel, by decide +kernel⟩
def f_X5_pass (on : Int32) (σ : Sg) : Int32 × Sg := ((rI (f_X5_passPresent on σ) (sid 0) 5), (f_X5_passPresent on σ))
set_option maxHeartbeats 4000000 in
set_option maxRecDepth 100000 in
theorem ct_X5_pass {D : va_G} {ad : Nat → Nat} {cy : Nat → ClassId} {ba : Nat} (l : Launch) (on : Int32) (σ : Sg) (hC : GC 100000 σ) : Ct D ad cy ba l 4 yX5_pass cX5_pass 2 (some .int) [.ref (ad 0), .int on] σ (some (.int (f_X5_pass on σ).1)) (f_X5_pass on σ).2 := by
  generalize hE : f_X5_pass on σ = Z
  dsimp only [f_X5_pass] at hE
  refine Ct.of (by decide +kernel) (Nat.le_of_ble_eq_true rfl) ?_
  intro p e s m below meth c ls B F P hrt hlk hl
  have hx := B.1
  have hb := B.2.1
  have hl : lv_has ls 2 [(0, .ref (ad 0)), (1, .int on)] := hl
  refine lv_aload_n hx hb dX5_pass_0 rfl (lv_at hl 0 rfl) ?_
  refine lv_iload_n hx hb dX5_pass_1 rfl (lv_at hl 1 rfl) ?_
  refine g_callV B F P (As := [.int on]) (ct_X5_passPresent (D := D) (ad := ad) (cy := cy) (ba := ba) l on σ hC) ok5 (by decide) rfl q268 q270 qs0 q1 q271 nk_X5_passPresent rfl ⟨(Nat.le_of_ble_eq_true rfl), (Nat.le_of_ble_eq_true rfl)⟩ hl.1 rfl (Nat.le_of_ble_eq_true rfl) dX5_pass_2 ⟨Nat.le_of_ble_eq_true rfl, Nat.le_of_ble_eq_true rfl⟩ (fun H locs P => ?_)
  refine lv_aload_n hx hb dX5_pass_5 rfl (lv_at hl 0 rfl) ?_
  refine g_getr (k := 1) (t := (sid 0)) B F P ok5 (by decide) rfl rfl rfl (by decide) rfl q239 dX5_pass_6 ?_
  refine g_geti (k := 5) B F P ok4 (sid_lt0 (by decide)) (kd_s0 0) rfl rfl (by decide) q100 dX5_pass_9 ?_
  exact g_reti B P (by rw [← hE]) (by rw [← hE]) hrt hlk dX5_pass_12
theorem nk_X2_findBest : nmOk yX2_findBest RX2 3 := ⟨rfl, by decide +kernel, by decide +kernel, by decide +kernel⟩
theorem nk_X5_checkAllowed : nmOk yX5_checkAllowed RX5 1 := ⟨rfl, by decide +kernel, by decide +kernel, by decide +kernel⟩
def f_X5_bestCost (nh : Int32) (σ : Sg) : Nat × Int32 × Sg := if (f_X5_checkRange nh 1 6 σ) = 0 then (if (f_X5_checkAllowed (rI (f_X2_findBest (rI σ 0 6) nh σ) 13 7) (f_X2_findBest (rI σ 0 6) nh σ)) = 0 then (0, (rI (f_X2_findBest (rI σ 0 6) nh σ) 13 7), (f_X2_findBest (rI σ 0 6) nh σ)) else ((f_X5_checkAllowed (rI (f_X2_findBest (rI σ 0 6) nh σ) 13 7) (f_X2_findBest (rI σ 0 6) nh σ)), 0, (f_X2_findBest (rI σ 0 6) nh σ))) else ((f_X5_checkRange nh 1 6 σ), 0, σ)
set_option maxHeartbeats 4000000 in
set_option maxRecDepth 100000 in
theorem ct_X5_bestCost {D : va_G} {ad : Nat → Nat} {cy : Nat → ClassId} {ba : Nat} (l : Launch) (nh : Int32) (σ : Sg) (hst : l.stackTraces = false) (hC : GC 99000 σ) : Cx D ad cy ba l 13 4 yX5_bestCost cX5_bestCost 2 (some .int) [.ref (ad 0), .int nh] σ (f_X5_bestCost nh σ).1 (some (.int (f_X5_bestCost nh σ).2.1)) (f_X5_bestCost nh σ).2.2 := by
  generalize hE : f_X5_bestCost nh σ = Z
  dsimp only [f_X5_bestCost] at hE
  refine Cx.of (by decide +kernel) (Nat.le_of_ble_eq_true rfl) ?_
  intro p e s m below meth c ls B F P hrt hlk hT hl
  have hx := B.1
  have hb := B.2.1
  have hl : lv_has ls 2 [(0, .ref (ad 0)), (1, .int nh)] := hl
  refine lv_iload_n hx hb dX5_bestCost_0 rfl (lv_at hl 1 rfl) ?_
  refine lv_iconst (v := 1) hx hb dX5_bestCost_1 (by decide) ?_
  refine lv_bipush (v := 6) hx hb dX5_bestCost_2 (by decide) ?_
  refine g_callSx B F P (As := [.int nh, .int 1, .int 6]) (ct_X5_checkRange (D := D) (ad := ad) (cy := cy) (ba := ba) l nh 1 6 σ hst) q371 q372 q1 q373 nk_X5_checkRange rfl ⟨(Nat.le_of_ble_eq_true rfl), (Nat.le_of_ble_eq_true rfl)⟩ hl.1 rfl (Nat.le_of_ble_eq_true rfl) dX5_bestCost_4 ⟨Nat.le_of_ble_eq_true rfl, Nat.le_of_ble_eq_true rfl⟩ (fun c4 ce q9 H locs P h1 h2 h3 => ?_) (fun c4 H locs P => ?_)
  · rw [if_neg c4] at hE
    exact g_out P c4 (by rw [← hE]) (by rw [← hE]) hT hlk (Nat.le_of_ble_eq_true rfl) (Nat.le_of_ble_eq_true rfl) h1 h2 h3
  rw [if_pos c4] at hE
  refine lv_aload_n hx hb dX5_bestCost_7 rfl (lv_at hl 0 rfl) ?_
  refine g_getr (k := 3) (t := 13) B F P ok5 (by decide) rfl rfl rfl (by decide) rfl q241 dX5_bestCost_8 ?_
  refine lv_aload_n hx hb dX5_bestCost_11 rfl (lv_at hl 0 rfl) ?_
  refine g_getr (k := 1) (t := (sid 0)) B F P ok5 (by decide) rfl rfl rfl (by decide) rfl q239 dX5_bestCost_12 ?_
  refine lv_aload_n hx hb dX5_bestCost_15 rfl (lv_at hl 0 rfl) ?_
  refine g_geti (k := 6) B F P ok5 (by decide) rfl rfl rfl (by decide) q244 dX5_bestCost_16 ?_
  refine lv_iload_n hx hb dX5_bestCost_19 rfl (lv_at hl 1 rfl) ?_
  refine g_callV B F P (As := [.ref (ad (sid 0)), .int (rI σ 0 6), .int nh]) (ct_X2_findBest (D := D) (ad := ad) (cy := cy) (ba := ba) l (rI σ 0 6) nh σ hC.1 hC.2.1 (hC.pr (by decide))) ok2 (by decide) rfl q656 q657 q658 q6 q659 nk_X2_findBest rfl ⟨(Nat.le_of_ble_eq_true rfl), (Nat.le_of_ble_eq_true rfl)⟩ hl.1 rfl (Nat.le_of_ble_eq_true rfl) dX5_bestCost_20 ⟨Nat.le_of_ble_eq_true rfl, Nat.le_of_ble_eq_true rfl⟩ (fun H locs P => ?_)
  refine lv_aload_n hx hb dX5_bestCost_23 rfl (lv_at hl 0 rfl) ?_
  refine g_getr (k := 3) (t := 13) B F P ok5 (by decide) rfl rfl rfl (by decide) rfl q241 dX5_bestCost_24 ?_
  refine g_geti (k := 7) B F P ok2 (by decide) rfl rfl rfl (by decide) q178 dX5_bestCost_27 ?_
  refine g_callSx B F P (As := [.int (rI (f_X2_findBest (rI σ 0 6) nh σ) 13 7)]) (ct_X5_checkAllowed (D := D) (ad := ad) (cy := cy) (ba := ba) l (rI (f_X2_findBest (rI σ 0 6) nh σ) 13 7) (f_X2_findBest (rI σ 0 6) nh σ) hst) q743 q744 q1 q745 nk_X5_checkAllowed rfl ⟨(Nat.le_of_ble_eq_true rfl), (Nat.le_of_ble_eq_true rfl)⟩ hl.1 rfl (Nat.le_of_ble_eq_true rfl) dX5_bestCost_30 ⟨Nat.le_of_ble_eq_true rfl, Nat.le_of_ble_eq_true rfl⟩ (fun c30 ce q9 H locs P h1 h2 h3 => ?_) (fun c30 H locs P => ?_)
  · rw [if_neg c30] at hE
    exact g_out P c30 (by rw [← hE]) (by rw [← hE]) hT hlk (Nat.le_of_ble_eq_true rfl) (Nat.le_of_ble_eq_true rfl) h1 h2 h3
  rw [if_pos c30] at hE
  refine lv_aload_n hx hb dX5_bestCost_33 rfl (lv_at hl 0 rfl) ?_
  refine g_getr (k := 3) (t := 13) B F P ok5 (by decide) rfl rfl rfl (by decide) rfl q241 dX5_bestCost_34 ?_
  refine g_geti (k := 7) B F P ok2 (by decide) rfl rfl rfl (by decide) q178 dX5_bestCost_37 ?_
  exact g_retix B P (by rw [← hE]) (by rw [← hE]) (by rw [← hE]) hrt hlk (Nat.le_of_ble_eq_true rfl) (Nat.le_of_ble_eq_true rfl) dX5_bestCost_40
def f_X5_isOnInBest (nh : Int32) (i : Int32) (σ : Sg) : Nat × Int32 × Sg := if (f_X5_checkRange nh 1 6 σ) = 0 then (if i < 0 then (3, 0, σ) else (if i < nh then (if (f_X5_checkAllowed (rI (f_X2_findBest (rI σ 0 6) nh σ) 13 7) (f_X2_findBest (rI σ 0 6) nh σ)) = 0 then (if (f_X2_toldBy (rI (f_X2_findBest (rI σ 0 6) nh σ) 13 6) i (f_X2_findBest (rI σ 0 6) nh σ)) = 1 then (0, 1, (f_X2_findBest (rI σ 0 6) nh σ)) else (0, 0, (f_X2_findBest (rI σ 0 6) nh σ))) else ((f_X5_checkAllowed (rI (f_X2_findBest (rI σ 0 6) nh σ) 13 7) (f_X2_findBest (rI σ 0 6) nh σ)), 0, (f_X2_findBest (rI σ 0 6) nh σ))) else (3, 0, σ))) else ((f_X5_checkRange nh 1 6 σ), 0, σ)
set_option maxHeartbeats 4000000 in
set_option maxRecDepth 100000 in
theorem ct_X5_isOnInBest {D : va_G} {ad : Nat → Nat} {cy : Nat → ClassId} {ba : Nat} (l : Launch) (nh : Int32) (i : Int32) (σ : Sg) (hst : l.stackTraces = false) (hC : GC 99000 σ) : Cx D ad cy ba l 13 4 yX5_isOnInBest cX5_isOnInBest 3 (some .boolean) [.ref (ad 0), .int nh, .int i] σ (f_X5_isOnInBest nh i σ).1 (some (.int (f_X5_isOnInBest nh i σ).2.1)) (f_X5_isOnInBest nh i σ).2.2 := by
  generalize hE : f_X5_isOnInBest nh i σ = Z
  dsimp only [f_X5_isOnInBest] at hE
  refine Cx.of (by decide +kernel) (Nat.le_of_ble_eq_true rfl) ?_
  intro p e s m below meth c ls B F P hrt hlk hT hl
  have hx := B.1
  have hb := B.2.1
  have hl : lv_has ls 3 [(0, .ref (ad 0)), (1, .int nh), (2, .int i)] := hl
  refine lv_iload_n hx hb dX5_isOnInBest_0 rfl (lv_at hl 1 rfl) ?_
  refine lv_iconst (v := 1) hx hb dX5_isOnInBest_1 (by decide) ?_
  refine lv_bipush (v := 6) hx hb dX5_isOnInBest_2 (by decide) ?_
  refine g_callSx B F P (As := [.int nh, .int 1, .int 6]) (ct_X5_checkRange (D := D) (ad := ad) (cy := cy) (ba := ba) l nh 1 6 σ hst) q371 q372 q1 q373 nk_X5_checkRange rfl ⟨(Nat.le_of_ble_eq_true rfl), (Nat.le_of_ble_eq_true rfl)⟩ hl.1 rfl (Nat.le_of_ble_eq_true rfl) dX5_isOnInBest_4 ⟨Nat.le_of_ble_eq_true rfl, Nat.le_of_ble_eq_true rfl⟩ (fun c4 ce q9 H locs P h1 h2 h3 => ?_) (fun c4 H locs P => ?_)
  · rw [if_neg c4] at hE
    exact g_out P c4 (by rw [← hE]) (by rw [← hE]) hT hlk (Nat.le_of_ble_eq_true rfl) (Nat.le_of_ble_eq_true rfl) h1 h2 h3
  rw [if_pos c4] at hE
  refine lv_iload_n hx hb dX5_isOnInBest_7 rfl (lv_at hl 2 rfl) ?_
  refine lv_if_lt (tgt := 16) hx hb dX5_isOnInBest_8 (by decide) (fun c8 => ?_) (fun c8 => ?_)
  · rw [if_pos c8] at hE
    exact g_throw3 B F P hst (is := 209) (text := "no such half hour in the schedule") (by decide) (by rw [← hE]) (by rw [← hE]) hl.1 hlk hT dX5_isOnInBest_16 dX5_isOnInBest_19 dX5_isOnInBest_20 dX5_isOnInBest_22 dX5_isOnInBest_25 (Nat.le_of_ble_eq_true rfl) (Nat.le_of_ble_eq_true rfl) (Nat.le_of_ble_eq_true rfl) (Nat.le_of_ble_eq_true rfl) (Nat.le_of_ble_eq_true rfl) (Nat.le_of_ble_eq_true rfl)
  · rw [if_neg c8] at hE
    refine lv_iload_n hx hb dX5_isOnInBest_11 rfl (lv_at hl 2 rfl) ?_
    refine lv_iload_n hx hb dX5_isOnInBest_12 rfl (lv_at hl 1 rfl) ?_
    refine lv_icmp_lt (tgt := 26) hx hb dX5_isOnInBest_13 (by decide) (fun c13 => ?_) (fun c13 => ?_)
    · rw [if_pos c13] at hE
      refine lv_aload_n hx hb dX5_isOnInBest_26 rfl (lv_at hl 0 rfl) ?_
      refine g_getr (k := 3) (t := 13) B F P ok5 (by decide) rfl rfl rfl (by decide) rfl q241 dX5_isOnInBest_27 ?_
      refine lv_aload_n hx hb dX5_isOnInBest_30 rfl (lv_at hl 0 rfl) ?_
      refine g_getr (k := 1) (t := (sid 0)) B F P ok5 (by decide) rfl rfl rfl (by decide) rfl q239 dX5_isOnInBest_31 ?_
      refine lv_aload_n hx hb dX5_isOnInBest_34 rfl (lv_at hl 0 rfl) ?_
      refine g_geti (k := 6) B F P ok5 (by decide) rfl rfl rfl (by decide) q244 dX5_isOnInBest_35 ?_
      refine lv_iload_n hx hb dX5_isOnInBest_38 rfl (lv_at hl 1 rfl) ?_
      refine g_callV B F P (As := [.ref (ad (sid 0)), .int (rI σ 0 6), .int nh]) (ct_X2_findBest (D := D) (ad := ad) (cy := cy) (ba := ba) l (rI σ 0 6) nh σ hC.1 hC.2.1 (hC.pr (by decide))) ok2 (by decide) rfl q656 q657 q658 q6 q659 nk_X2_findBest rfl ⟨(Nat.le_of_ble_eq_true rfl), (Nat.le_of_ble_eq_true rfl)⟩ hl.1 rfl (Nat.le_of_ble_eq_true rfl) dX5_isOnInBest_39 ⟨Nat.le_of_ble_eq_true rfl, Nat.le_of_ble_eq_true rfl⟩ (fun H locs P => ?_)
      refine lv_aload_n hx hb dX5_isOnInBest_42 rfl (lv_at hl 0 rfl) ?_
      refine g_getr (k := 3) (t := 13) B F P ok5 (by decide) rfl rfl rfl (by decide) rfl q241 dX5_isOnInBest_43 ?_
      refine g_geti (k := 7) B F P ok2 (by decide) rfl rfl rfl (by decide) q178 dX5_isOnInBest_46 ?_
      refine g_callSx B F P (As := [.int (rI (f_X2_findBest (rI σ 0 6) nh σ) 13 7)]) (ct_X5_checkAllowed (D := D) (ad := ad) (cy := cy) (ba := ba) l (rI (f_X2_findBest (rI σ 0 6) nh σ) 13 7) (f_X2_findBest (rI σ 0 6) nh σ) hst) q743 q744 q1 q745 nk_X5_checkAllowed rfl ⟨(Nat.le_of_ble_eq_true rfl), (Nat.le_of_ble_eq_true rfl)⟩ hl.1 rfl (Nat.le_of_ble_eq_true rfl) dX5_isOnInBest_49 ⟨Nat.le_of_ble_eq_true rfl, Nat.le_of_ble_eq_true rfl⟩ (fun c49 ce q9 H locs P h1 h2 h3 => ?_) (fun c49 H locs P => ?_)
      · rw [if_neg c49] at hE
        exact g_out P c49 (by rw [← hE]) (by rw [← hE]) hT hlk (Nat.le_of_ble_eq_true rfl) (Nat.le_of_ble_eq_true rfl) h1 h2 h3
      rw [if_pos c49] at hE
      refine lv_aload_n hx hb dX5_isOnInBest_52 rfl (lv_at hl 0 rfl) ?_
      refine g_getr (k := 3) (t := 13) B F P ok5 (by decide) rfl rfl rfl (by decide) rfl q241 dX5_isOnInBest_53 ?_
      refine lv_aload_n hx hb dX5_isOnInBest_56 rfl (lv_at hl 0 rfl) ?_
      refine g_getr (k := 3) (t := 13) B F P ok5 (by decide) rfl rfl rfl (by decide) rfl q241 dX5_isOnInBest_57 ?_
      refine g_geti (k := 6) B F P ok2 (by decide) rfl rfl rfl (by decide) q176 dX5_isOnInBest_60 ?_
      refine lv_iload_n hx hb dX5_isOnInBest_63 rfl (lv_at hl 2 rfl) ?_
      refine g_callV B F P (As := [.int (rI (f_X2_findBest (rI σ 0 6) nh σ) 13 6), .int i]) (ct_X2_toldBy (D := D) (ad := ad) (cy := cy) (ba := ba) l (rI (f_X2_findBest (rI σ 0 6) nh σ) 13 6) i (f_X2_findBest (rI σ 0 6) nh σ) ) ok2 (by decide) rfl q688 q689 q690 q6 q691 nk_X2_toldBy rfl ⟨(Nat.le_of_ble_eq_true rfl), (Nat.le_of_ble_eq_true rfl)⟩ hl.1 rfl (Nat.le_of_ble_eq_true rfl) dX5_isOnInBest_64 ⟨Nat.le_of_ble_eq_true rfl, Nat.le_of_ble_eq_true rfl⟩ (fun H locs P => ?_)
      refine lv_iconst (v := 1) hx hb dX5_isOnInBest_67 (by decide) ?_
      refine lv_icmp_ne (tgt := 75) hx hb dX5_isOnInBest_68 (by decide) (fun c68 => ?_) (fun c68 => ?_)
      · rw [if_neg c68] at hE
        refine lv_iconst (v := 0) hx hb dX5_isOnInBest_75 (by decide) ?_
        exact g_retzx B P (by rw [← hE]) (by rw [← hE]) (by rw [← hE]) hrt rfl hlk (Nat.le_of_ble_eq_true rfl) (Nat.le_of_ble_eq_true rfl) dX5_isOnInBest_76
      · rw [if_pos c68] at hE
        refine lv_iconst (v := 1) hx hb dX5_isOnInBest_71 (by decide) ?_
        refine lv_goto (tgt := 76) hx hb dX5_isOnInBest_72 (by decide) ?_
        exact g_retzx B P (by rw [← hE]) (by rw [← hE]) (by rw [← hE]) hrt rfl hlk (Nat.le_of_ble_eq_true rfl) (Nat.le_of_ble_eq_true rfl) dX5_isOnInBest_76
    · rw [if_neg c13] at hE
      exact g_throw3 B F P hst (is := 209) (text := "no such half hour in the schedule") (by decide) (by rw [← hE]) (by rw [← hE]) hl.1 hlk hT dX5_isOnInBest_16 dX5_isOnInBest_19 dX5_isOnInBest_20 dX5_isOnInBest_22 dX5_isOnInBest_25 (Nat.le_of_ble_eq_true rfl) (Nat.le_of_ble_eq_true rfl) (Nat.le_of_ble_eq_true rfl) (Nat.le_of_ble_eq_true rfl) (Nat.le_of_ble_eq_true rfl) (Nat.le_of_ble_eq_true rfl)
theorem pf_X2_costOf_l4 (sch : Int32) : ∀ (n : Nat) (x y : Int32) (σ : Sg), Pf σ (f_X2_costOf_l4 sch n x y σ).2
  | 0, _, _, _ => Pf.refl
  | n + 1, x, y, σ => by
    unfold f_X2_costOf_l4
    split
    · exact Pf.refl
    · split
      · exact Pf.refl
      · split
        · exact pf_X2_canPass _ _ _
        · exact Pf.trans (pf_X2_canPass _ _ _) (pf_X2_costOf_l4 sch n _ _ _)
theorem pf_X2_costOf (sch : Int32) (σ : Sg) : Pf σ (f_X2_costOf sch σ).2 := pf_X2_costOf_l4 sch _ _ _ _
theorem nk_X2_costOf : nmOk yX2_costOf RX2 1 := ⟨rfl, by decide +kernel, by decide +kernel, by decide +kernel⟩
def f_X5_bestCostByTrying_l28 (nh : Int32) : Nat → Int32 → Int32 → Sg → Nat × Int32 × Sg
  | 0, _, _, σ28 => (0, 0, σ28)
  | n28 + 1, x3_28, x2_28, σ28 => if (1 <<< (nh &&& 31)) ≤ x3_28 then (if (f_X5_checkAllowed x2_28 σ28) = 0 then (0, x2_28, σ28) else ((f_X5_checkAllowed x2_28 σ28), 0, σ28)) else (f_X5_bestCostByTrying_l28 nh n28 (x3_28 + 1) (if (f_X2_costOf x3_28 σ28).1 < x2_28 then (f_X2_costOf x3_28 σ28).1 else x2_28) ((f_X2_costOf x3_28 σ28).2))
def f_X5_bestCostByTrying (nh : Int32) (σ : Sg) : Nat × Int32 × Sg := if (f_X5_checkRange nh 1 6 σ) = 0 then (f_X5_bestCostByTrying_l28 nh 65 0 1000000000 (f_X2_begin (rI σ 0 6) nh σ)) else ((f_X5_checkRange nh 1 6 σ), 0, σ)
set_option maxHeartbeats 4000000 in
set_option maxRecDepth 100000 in
theorem ct_X5_bestCostByTrying {D : va_G} {ad : Nat → Nat} {cy : Nat → ClassId} {ba : Nat} (l : Launch) (nh : Int32) (σ : Sg) (hst : l.stackTraces = false) (hC : GC 99000 σ) : Cx D ad cy ba l 5 4 yX5_bestCostByTrying cX5_bestCostByTrying 4 (some .int) [.ref (ad 0), .int nh] σ (f_X5_bestCostByTrying nh σ).1 (some (.int (f_X5_bestCostByTrying nh σ).2.1)) (f_X5_bestCostByTrying nh σ).2.2 := by
  generalize hE : f_X5_bestCostByTrying nh σ = Z
  dsimp only [f_X5_bestCostByTrying] at hE
  refine Cx.of (by decide +kernel) (Nat.le_of_ble_eq_true rfl) ?_
  intro p e s m below meth c ls B F P hrt hlk hT hl
  have hx := B.1
  have hb := B.2.1
  have hl : lv_has ls 4 [(0, .ref (ad 0)), (1, .int nh)] := hl
  refine lv_iload_n hx hb dX5_bestCostByTrying_0 rfl (lv_at hl 1 rfl) ?_
  refine lv_iconst (v := 1) hx hb dX5_bestCostByTrying_1 (by decide) ?_
  refine lv_bipush (v := 6) hx hb dX5_bestCostByTrying_2 (by decide) ?_
  refine g_callSx B F P (As := [.int nh, .int 1, .int 6]) (ct_X5_checkRange (D := D) (ad := ad) (cy := cy) (ba := ba) l nh 1 6 σ hst) q371 q372 q1 q373 nk_X5_checkRange rfl ⟨(Nat.le_of_ble_eq_true rfl), (Nat.le_of_ble_eq_true rfl)⟩ hl.1 rfl (Nat.le_of_ble_eq_true rfl) dX5_bestCostByTrying_4 ⟨Nat.le_of_ble_eq_true rfl, Nat.le_of_ble_eq_true rfl⟩ (fun c4 ce q9 H locs P h1 h2 h3 => ?_) (fun c4 H locs P => ?_)
  · rw [if_neg c4] at hE
    exact g_out P c4 (by rw [← hE]) (by rw [← hE]) hT hlk (Nat.le_of_ble_eq_true rfl) (Nat.le_of_ble_eq_true rfl) h1 h2 h3
  rw [if_pos c4] at hE
  refine lv_aload_n hx hb dX5_bestCostByTrying_7 rfl (lv_at hl 0 rfl) ?_
  refine g_getr (k := 3) (t := 13) B F P ok5 (by decide) rfl rfl rfl (by decide) rfl q241 dX5_bestCostByTrying_8 ?_
  refine lv_aload_n hx hb dX5_bestCostByTrying_11 rfl (lv_at hl 0 rfl) ?_
  refine g_getr (k := 1) (t := (sid 0)) B F P ok5 (by decide) rfl rfl rfl (by decide) rfl q239 dX5_bestCostByTrying_12 ?_
  refine lv_aload_n hx hb dX5_bestCostByTrying_15 rfl (lv_at hl 0 rfl) ?_
  refine g_geti (k := 6) B F P ok5 (by decide) rfl rfl rfl (by decide) q244 dX5_bestCostByTrying_16 ?_
  refine lv_iload_n hx hb dX5_bestCostByTrying_19 rfl (lv_at hl 1 rfl) ?_
  refine g_callV B F P (As := [.ref (ad (sid 0)), .int (rI σ 0 6), .int nh]) (ct_X2_begin (D := D) (ad := ad) (cy := cy) (ba := ba) l (rI σ 0 6) nh σ hC.1 hC.2.1 (hC.pr (by decide))) ok2 (by decide) rfl q754 q661 q662 q6 q663 nk_X2_begin rfl ⟨(Nat.le_of_ble_eq_true rfl), (Nat.le_of_ble_eq_true rfl)⟩ hl.1 rfl (Nat.le_of_ble_eq_true rfl) dX5_bestCostByTrying_20 ⟨Nat.le_of_ble_eq_true rfl, Nat.le_of_ble_eq_true rfl⟩ (fun H locs P => ?_)
  refine g_ldc B q687 dX5_bestCostByTrying_23 ?_
  refine lv_istore_n (lv' := [(2, .int 1000000000), (0, .ref (ad 0)), (1, .int nh)]) hx hb dX5_bestCostByTrying_25 rfl hl (by decide) rfl (fun ls hl => ?_)
  refine lv_iconst (v := 0) hx hb dX5_bestCostByTrying_26 (by decide) ?_
  refine lv_istore_n (lv' := [(3, .int 0), (2, .int 1000000000), (0, .ref (ad 0)), (1, .int nh)]) hx hb dX5_bestCostByTrying_27 rfl hl (by decide) rfl (fun ls hl => ?_)
  have L28 : ∀ (n28 : Nat) (x3_28 : Int32) (x2_28 : Int32) (σ28 : Sg), LI 64 n28 x3_28 → GP σ28 → f_X5_bestCostByTrying_l28 nh n28 x3_28 x2_28 σ28 = Z → ∀ (H : Heap) (locs : List Loc), Wo D ad cy ba s σ28 H locs → ∀ (ls : Array Slot), lv_has ls 4 [(3, .int x3_28), (2, .int x2_28), (0, .ref (ad 0)), (1, .int nh)] → W p l e (rmK 5 4 (6 * 4)) s m ([.ref (ad 0), .int nh] : List Value).toArray below meth c H locs 1 6 (vx_MQ below (Qx D ad cy ba Z.1 (some (.int Z.2.1)) Z.2.2) (Xx D ad cy ba Z.1 Z.2.2) ([.ref (ad 0), .int nh] : List Value).toArray s 4 (6 * 4) (fun q => ba ≤ q)) (F0 m 28 ls []) := by
    clear hE P hl
    intro n28
    induction n28 with
    | zero => intro x3_28 x2_28 σ28 hI28 hP28 hE; exact absurd hI28 LI.zero
    | succ n28 ih28 =>
      intro x3_28 x2_28 σ28 hI28 hP28 hE H locs P ls hl
      dsimp only [f_X5_bestCostByTrying_l28] at hE
      refine lv_iload_n hx hb dX5_bestCostByTrying_28 rfl (lv_at hl 0 rfl) ?_
      refine lv_iconst (v := 1) hx hb dX5_bestCostByTrying_29 (by decide) ?_
      refine lv_iload_n hx hb dX5_bestCostByTrying_30 rfl (lv_at hl 3 rfl) ?_
      refine lv_ishl hx hb dX5_bestCostByTrying_31 ?_
      refine lv_icmp_ge (tgt := 54) hx hb dX5_bestCostByTrying_32 (by decide) (fun c32 => ?_) (fun c32 => ?_)
      · rw [if_pos c32] at hE
        refine lv_iload_n hx hb dX5_bestCostByTrying_54 rfl (lv_at hl 1 rfl) ?_
        refine g_callSx B F P (As := [.int x2_28]) (ct_X5_checkAllowed (D := D) (ad := ad) (cy := cy) (ba := ba) l x2_28 σ28 hst) q743 q744 q1 q745 nk_X5_checkAllowed rfl ⟨(Nat.le_of_ble_eq_true rfl), (Nat.le_of_ble_eq_true rfl)⟩ hl.1 rfl (Nat.le_of_ble_eq_true rfl) dX5_bestCostByTrying_55 ⟨Nat.le_of_ble_eq_true rfl, Nat.le_of_ble_eq_true rfl⟩ (fun c55 ce q9 H locs P h1 h2 h3 => ?_) (fun c55 H locs P => ?_)
        · rw [if_neg c55] at hE
          exact g_out P c55 (by rw [← hE]) (by rw [← hE]) hT hlk (Nat.le_of_ble_eq_true rfl) (Nat.le_of_ble_eq_true rfl) h1 h2 h3
        rw [if_pos c55] at hE
        refine lv_iload_n hx hb dX5_bestCostByTrying_58 rfl (lv_at hl 1 rfl) ?_
        exact g_retix B P (by rw [← hE]) (by rw [← hE]) (by rw [← hE]) hrt hlk (Nat.le_of_ble_eq_true rfl) (Nat.le_of_ble_eq_true rfl) dX5_bestCostByTrying_59
      · rw [if_neg c32] at hE
        refine lv_iload_n hx hb dX5_bestCostByTrying_35 rfl (lv_at hl 1 rfl) ?_
        refine lv_aload_n hx hb dX5_bestCostByTrying_36 rfl (lv_at hl 2 rfl) ?_
        refine g_getr (k := 3) (t := 13) B F P ok5 (by decide) rfl rfl rfl (by decide) rfl q241 dX5_bestCostByTrying_37 ?_
        refine lv_iload_n hx hb dX5_bestCostByTrying_40 rfl (lv_at hl 0 rfl) ?_
        refine g_callV B F P (As := [.int x3_28]) (ct_X2_costOf (D := D) (ad := ad) (cy := cy) (ba := ba) l x3_28 σ28 hP28) ok2 (by decide) rfl q755 q756 q757 q6 q758 nk_X2_costOf rfl ⟨(Nat.le_of_ble_eq_true rfl), (Nat.le_of_ble_eq_true rfl)⟩ hl.1 rfl (Nat.le_of_ble_eq_true rfl) dX5_bestCostByTrying_41 ⟨Nat.le_of_ble_eq_true rfl, Nat.le_of_ble_eq_true rfl⟩ (fun H locs P => ?_)
        refine g_min B hl.1 q760 q287 q18 q288 (Nat.le_of_ble_eq_true rfl) (Nat.le_of_ble_eq_true rfl) (Nat.le_of_ble_eq_true rfl) (Nat.le_of_ble_eq_true rfl) dX5_bestCostByTrying_44 ?_
        refine lv_istore_n (lv' := [(2, .int (if (f_X2_costOf x3_28 σ28).1 < x2_28 then (f_X2_costOf x3_28 σ28).1 else x2_28)), (3, .int x3_28), (0, .ref (ad 0)), (1, .int nh)]) hx hb dX5_bestCostByTrying_47 rfl hl (by decide) rfl (fun ls hl => ?_)
        refine lv_iinc (v := (x3_28 + 1)) (lv' := [(3, .int (x3_28 + 1)), (2, .int (if (f_X2_costOf x3_28 σ28).1 < x2_28 then (f_X2_costOf x3_28 σ28).1 else x2_28)), (0, .ref (ad 0)), (1, .int nh)]) hx hb dX5_bestCostByTrying_48 hl (k := 1) rfl (by first | rfl | decide) (by decide) rfl (fun ls hl => ?_)
        refine lv_goto (tgt := 28) hx hb dX5_bestCostByTrying_51 (by decide) ?_
        exact ih28 (x3_28 + 1) (if (f_X2_costOf x3_28 σ28).1 < x2_28 then (f_X2_costOf x3_28 σ28).1 else x2_28) ((f_X2_costOf x3_28 σ28).2) (hI28.next c32 (shl_le c4)) (hP28.pf (pf_X2_costOf _ _)) hE _ _ P _ (lv_sub hl [0, 1, 2, 3] rfl)
  exact L28 65 0 1000000000 (f_X2_begin (rI σ 0 6) nh σ) LI.start (gp_X2_begin _ _ _ hC.1 (hC.pr (by decide))) hE _ _ P _ (lv_sub hl [0, 1, 2, 3] rfl)
def f_X5_allowedSchedules_l27 (nh : Int32) : Nat → Int32 → Int32 → Sg → Nat × Int32 × Sg
  | 0, _, _, σ27 => (0, 0, σ27)
  | n27 + 1, x3_27, x2_27, σ27 => if (1 <<< (nh &&& 31)) ≤ x3_27 then (0, x2_27, σ27) else (if 1000000000 ≤ (f_X2_costOf x3_27 σ27).1 then (f_X5_allowedSchedules_l27 nh n27 (x3_27 + 1) x2_27 ((f_X2_costOf x3_27 σ27).2)) else (f_X5_allowedSchedules_l27 nh n27 (x3_27 + 1) (x2_27 + 1) ((f_X2_costOf x3_27 σ27).2)))
def f_X5_allowedSchedules (nh : Int32) (σ : Sg) : Nat × Int32 × Sg := if (f_X5_checkRange nh 1 6 σ) = 0 then (f_X5_allowedSchedules_l27 nh 65 0 0 (f_X2_begin (rI σ 0 6) nh σ)) else ((f_X5_checkRange nh 1 6 σ), 0, σ)
set_option maxHeartbeats 4000000 in
set_option maxRecDepth 100000 in
theorem ct_X5_allowedSchedules {D : va_G} {ad : Nat → Nat} {cy : Nat → ClassId} {ba : Nat} (l : Launch) (nh : Int32) (σ : Sg) (hst : l.stackTraces = false) (hC : GC 99000 σ) : Cx D ad cy ba l 5 4 yX5_allowedSchedules cX5_allowedSchedules 4 (some .int) [.ref (ad 0), .int nh] σ (f_X5_allowedSchedules nh σ).1 (some (.int (f_X5_allowedSchedules nh σ).2.1)) (f_X5_allowedSchedules nh σ).2.2 := by
  generalize hE : f_X5_allowedSchedules nh σ = Z
  dsimp only [f_X5_allowedSchedules] at hE
  refine Cx.of (by decide +kernel) (Nat.le_of_ble_eq_true rfl) ?_
  intro p e s m below meth c ls B F P hrt hlk hT hl
  have hx := B.1
  have hb := B.2.1
  have hl : lv_has ls 4 [(0, .ref (ad 0)), (1, .int nh)] := hl
  refine lv_iload_n hx hb dX5_allowedSchedules_0 rfl (lv_at hl 1 rfl) ?_
  refine lv_iconst (v := 1) hx hb dX5_allowedSchedules_1 (by decide) ?_
  refine lv_bipush (v := 6) hx hb dX5_allowedSchedules_2 (by decide) ?_
  refine g_callSx B F P (As := [.int nh, .int 1, .int 6]) (ct_X5_checkRange (D := D) (ad := ad) (cy := cy) (ba := ba) l nh 1 6 σ hst) q371 q372 q1 q373 nk_X5_checkRange rfl ⟨(Nat.le_of_ble_eq_true rfl), (Nat.le_of_ble_eq_true rfl)⟩ hl.1 rfl (Nat.le_of_ble_eq_true rfl) dX5_allowedSchedules_4 ⟨Nat.le_of_ble_eq_true rfl, Nat.le_of_ble_eq_true rfl⟩ (fun c4 ce q9 H locs P h1 h2 h3 => ?_) (fun c4 H locs P => ?_)
  · rw [if_neg c4] at hE
    exact g_out P c4 (by rw [← hE]) (by rw [← hE]) hT hlk (Nat.le_of_ble_eq_true rfl) (Nat.le_of_ble_eq_true rfl) h1 h2 h3
  rw [if_pos c4] at hE
  refine lv_aload_n hx hb dX5_allowedSchedules_7 rfl (lv_at hl 0 rfl) ?_
  refine g_getr (k := 3) (t := 13) B F P ok5 (by decide) rfl rfl rfl (by decide) rfl q241 dX5_allowedSchedules_8 ?_
  refine lv_aload_n hx hb dX5_allowedSchedules_11 rfl (lv_at hl 0 rfl) ?_
  refine g_getr (k := 1) (t := (sid 0)) B F P ok5 (by decide) rfl rfl rfl (by decide) rfl q239 dX5_allowedSchedules_12 ?_
  refine lv_aload_n hx hb dX5_allowedSchedules_15 rfl (lv_at hl 0 rfl) ?_
  refine g_geti (k := 6) B F P ok5 (by decide) rfl rfl rfl (by decide) q244 dX5_allowedSchedules_16 ?_
  refine lv_iload_n hx hb dX5_allowedSchedules_19 rfl (lv_at hl 1 rfl) ?_
  refine g_callV B F P (As := [.ref (ad (sid 0)), .int (rI σ 0 6), .int nh]) (ct_X2_begin (D := D) (ad := ad) (cy := cy) (ba := ba) l (rI σ 0 6) nh σ hC.1 hC.2.1 (hC.pr (by decide))) ok2 (by decide) rfl q754 q661 q662 q6 q663 nk_X2_begin rfl ⟨(Nat.le_of_ble_eq_true rfl), (Nat.le_of_ble_eq_true rfl)⟩ hl.1 rfl (Nat.le_of_ble_eq_true rfl) dX5_allowedSchedules_20 ⟨Nat.le_of_ble_eq_true rfl, Nat.le_of_ble_eq_true rfl⟩ (fun H locs P => ?_)
  refine lv_iconst (v := 0) hx hb dX5_allowedSchedules_23 (by decide) ?_
  refine lv_istore_n (lv' := [(2, .int 0), (0, .ref (ad 0)), (1, .int nh)]) hx hb dX5_allowedSchedules_24 rfl hl (by decide) rfl (fun ls hl => ?_)
  refine lv_iconst (v := 0) hx hb dX5_allowedSchedules_25 (by decide) ?_
  refine lv_istore_n (lv' := [(3, .int 0), (2, .int 0), (0, .ref (ad 0)), (1, .int nh)]) hx hb dX5_allowedSchedules_26 rfl hl (by decide) rfl (fun ls hl => ?_)
  have L27 : ∀ (n27 : Nat) (x3_27 : Int32) (x2_27 : Int32) (σ27 : Sg), LI 64 n27 x3_27 → GP σ27 → f_X5_allowedSchedules_l27 nh n27 x3_27 x2_27 σ27 = Z → ∀ (H : Heap) (locs : List Loc), Wo D ad cy ba s σ27 H locs → ∀ (ls : Array Slot), lv_has ls 4 [(3, .int x3_27), (2, .int x2_27), (0, .ref (ad 0)), (1, .int nh)] → W p l e (rmK 5 4 (6 * 4)) s m ([.ref (ad 0), .int nh] : List Value).toArray below meth c H locs 1 6 (vx_MQ below (Qx D ad cy ba Z.1 (some (.int Z.2.1)) Z.2.2) (Xx D ad cy ba Z.1 Z.2.2) ([.ref (ad 0), .int nh] : List Value).toArray s 4 (6 * 4) (fun q => ba ≤ q)) (F0 m 27 ls []) := by
    clear hE P hl
    intro n27
    induction n27 with
    | zero => intro x3_27 x2_27 σ27 hI27 hP27 hE; exact absurd hI27 LI.zero
    | succ n27 ih27 =>
      intro x3_27 x2_27 σ27 hI27 hP27 hE H locs P ls hl
      dsimp only [f_X5_allowedSchedules_l27] at hE
      refine lv_iload_n hx hb dX5_allowedSchedules_27 rfl (lv_at hl 0 rfl) ?_
      refine lv_iconst (v := 1) hx hb dX5_allowedSchedules_28 (by decide) ?_
      refine lv_iload_n hx hb dX5_allowedSchedules_29 rfl (lv_at hl 3 rfl) ?_
      refine lv_ishl hx hb dX5_allowedSchedules_30 ?_
      refine lv_icmp_ge (tgt := 56) hx hb dX5_allowedSchedules_31 (by decide) (fun c31 => ?_) (fun c31 => ?_)
      · rw [if_pos c31] at hE
        refine lv_iload_n hx hb dX5_allowedSchedules_56 rfl (lv_at hl 1 rfl) ?_
        exact g_retix B P (by rw [← hE]) (by rw [← hE]) (by rw [← hE]) hrt hlk (Nat.le_of_ble_eq_true rfl) (Nat.le_of_ble_eq_true rfl) dX5_allowedSchedules_57
      · rw [if_neg c31] at hE
        refine lv_aload_n hx hb dX5_allowedSchedules_34 rfl (lv_at hl 2 rfl) ?_
        refine g_getr (k := 3) (t := 13) B F P ok5 (by decide) rfl rfl rfl (by decide) rfl q241 dX5_allowedSchedules_35 ?_
        refine lv_iload_n hx hb dX5_allowedSchedules_38 rfl (lv_at hl 0 rfl) ?_
        refine g_callV B F P (As := [.int x3_27]) (ct_X2_costOf (D := D) (ad := ad) (cy := cy) (ba := ba) l x3_27 σ27 hP27) ok2 (by decide) rfl q755 q756 q757 q6 q758 nk_X2_costOf rfl ⟨(Nat.le_of_ble_eq_true rfl), (Nat.le_of_ble_eq_true rfl)⟩ hl.1 rfl (Nat.le_of_ble_eq_true rfl) dX5_allowedSchedules_39 ⟨Nat.le_of_ble_eq_true rfl, Nat.le_of_ble_eq_true rfl⟩ (fun H locs P => ?_)
        refine g_ldc B q687 dX5_allowedSchedules_42 ?_
        refine lv_icmp_ge (tgt := 50) hx hb dX5_allowedSchedules_44 (by decide) (fun c44 => ?_) (fun c44 => ?_)
        · rw [if_pos c44] at hE
          refine lv_iinc (v := (x3_27 + 1)) (lv' := [(3, .int (x3_27 + 1)), (2, .int x2_27), (0, .ref (ad 0)), (1, .int nh)]) hx hb dX5_allowedSchedules_50 hl (k := 0) rfl (by first | rfl | decide) (by decide) rfl (fun ls hl => ?_)
          refine lv_goto (tgt := 27) hx hb dX5_allowedSchedules_53 (by decide) ?_
          exact ih27 (x3_27 + 1) x2_27 ((f_X2_costOf x3_27 σ27).2) (hI27.next c31 (shl_le c4)) (hP27.pf (pf_X2_costOf _ _)) hE _ _ P _ (lv_sub hl [0, 1, 2, 3] rfl)
        · rw [if_neg c44] at hE
          refine lv_iinc (v := (x2_27 + 1)) (lv' := [(2, .int (x2_27 + 1)), (3, .int x3_27), (0, .ref (ad 0)), (1, .int nh)]) hx hb dX5_allowedSchedules_47 hl (k := 1) rfl (by first | rfl | decide) (by decide) rfl (fun ls hl => ?_)
          refine lv_iinc (v := (x3_27 + 1)) (lv' := [(3, .int (x3_27 + 1)), (2, .int (x2_27 + 1)), (0, .ref (ad 0)), (1, .int nh)]) hx hb dX5_allowedSchedules_50 hl (k := 1) rfl (by first | rfl | decide) (by decide) rfl (fun ls hl => ?_)
          refine lv_goto (tgt := 27) hx hb dX5_allowedSchedules_53 (by decide) ?_
          exact ih27 (x3_27 + 1) (x2_27 + 1) ((f_X2_costOf x3_27 σ27).2) (hI27.next c31 (shl_le c4)) (hP27.pf (pf_X2_costOf _ _)) hE _ _ P _ (lv_sub hl [0, 1, 2, 3] rfl)
  exact L27 65 0 0 (f_X2_begin (rI σ 0 6) nh σ) LI.start (gp_X2_begin _ _ _ hC.1 (hC.pr (by decide))) hE _ _ P _ (lv_sub hl [0, 1, 2, 3] rfl)
theorem nk_X1_put : nmOk yX1_put RX1 2 := ⟨rfl, by decide +kernel, by decide +kernel, by decide +kernel⟩
def f_X5_order (h : Int32) (on : Int32) (σ : Sg) : Nat × Int32 × Sg := if (rI σ 0 6) ≤ h then (if (f_X1_told h σ) = (-1) then (if (rI σ 10 2) < 6 then (if on = 0 then (0, (rI (f_X1_put h 0 σ) 10 2), (f_X1_put h 0 σ)) else (0, (rI (f_X1_put h 1 σ) 10 2), (f_X1_put h 1 σ))) else (2, 0, σ)) else (if on = 0 then (0, (rI (f_X1_put h 0 σ) 10 2), (f_X1_put h 0 σ)) else (0, (rI (f_X1_put h 1 σ) 10 2), (f_X1_put h 1 σ)))) else (1, 0, σ)
set_option maxHeartbeats 4000000 in
set_option maxRecDepth 100000 in
theorem ct_X5_order {D : va_G} {ad : Nat → Nat} {cy : Nat → ClassId} {ba : Nat} (l : Launch) (h : Int32) (on : Int32) (σ : Sg) (hst : l.stackTraces = false) (hC : GC 99000 σ) : Cx D ad cy ba l 2 4 yX5_order cX5_order 3 (some .int) [.ref (ad 0), .int h, .int on] σ (f_X5_order h on σ).1 (some (.int (f_X5_order h on σ).2.1)) (f_X5_order h on σ).2.2 := by
  generalize hE : f_X5_order h on σ = Z
  dsimp only [f_X5_order] at hE
  refine Cx.of (by decide +kernel) (Nat.le_of_ble_eq_true rfl) ?_
  intro p e s m below meth c ls B F P hrt hlk hT hl
  have hx := B.1
  have hb := B.2.1
  have hl : lv_has ls 3 [(0, .ref (ad 0)), (1, .int h), (2, .int on)] := hl
  refine lv_iload_n hx hb dX5_order_0 rfl (lv_at hl 1 rfl) ?_
  refine lv_aload_n hx hb dX5_order_1 rfl (lv_at hl 0 rfl) ?_
  refine g_geti (k := 6) B F P ok5 (by decide) rfl rfl rfl (by decide) q244 dX5_order_2 ?_
  refine lv_icmp_ge (tgt := 18) hx hb dX5_order_5 (by decide) (fun c5 => ?_) (fun c5 => ?_)
  · rw [if_pos c5] at hE
    refine lv_aload_n hx hb dX5_order_18 rfl (lv_at hl 0 rfl) ?_
    refine g_getr (k := 2) (t := 10) B F P ok5 (by decide) rfl rfl rfl (by decide) rfl q240 dX5_order_19 ?_
    refine lv_iload_n hx hb dX5_order_22 rfl (lv_at hl 1 rfl) ?_
    refine g_callV B F P (As := [.int h]) (ct_X1_told (D := D) (ad := ad) (cy := cy) (ba := ba) l h σ hC.2.1) ok1 (by decide) rfl q652 q653 q654 q5 q655 nk_X1_told rfl ⟨(Nat.le_of_ble_eq_true rfl), (Nat.le_of_ble_eq_true rfl)⟩ hl.1 rfl (Nat.le_of_ble_eq_true rfl) dX5_order_23 ⟨Nat.le_of_ble_eq_true rfl, Nat.le_of_ble_eq_true rfl⟩ (fun H locs P => ?_)
    refine lv_iconst (v := (-1)) hx hb dX5_order_26 (by decide) ?_
    refine lv_icmp_ne (tgt := 52) hx hb dX5_order_27 (by decide) (fun c27 => ?_) (fun c27 => ?_)
    · rw [if_neg c27] at hE
      refine lv_aload_n hx hb dX5_order_52 rfl (lv_at hl 0 rfl) ?_
      refine g_getr (k := 2) (t := 10) B F P ok5 (by decide) rfl rfl rfl (by decide) rfl q240 dX5_order_53 ?_
      refine lv_iload_n hx hb dX5_order_56 rfl (lv_at hl 1 rfl) ?_
      refine lv_iload_n hx hb dX5_order_57 rfl (lv_at hl 2 rfl) ?_
      refine lv_if_eq (tgt := 65) hx hb dX5_order_58 (by decide) (fun c58 => ?_) (fun c58 => ?_)
      · rw [if_pos c58] at hE
        refine lv_iconst (v := 0) hx hb dX5_order_65 (by decide) ?_
        refine g_callV B F P (As := [.int h, .int 0]) (ct_X1_put (D := D) (ad := ad) (cy := cy) (ba := ba) l h 0 σ hC.2.1) ok1 (by decide) rfl q708 q709 q710 q5 q711 nk_X1_put rfl ⟨(Nat.le_of_ble_eq_true rfl), (Nat.le_of_ble_eq_true rfl)⟩ hl.1 rfl (Nat.le_of_ble_eq_true rfl) dX5_order_66 ⟨Nat.le_of_ble_eq_true rfl, Nat.le_of_ble_eq_true rfl⟩ (fun H locs P => ?_)
        refine lv_aload_n hx hb dX5_order_69 rfl (lv_at hl 0 rfl) ?_
        refine g_getr (k := 2) (t := 10) B F P ok5 (by decide) rfl rfl rfl (by decide) rfl q240 dX5_order_70 ?_
        refine g_geti (k := 2) B F P ok1 (by decide) rfl rfl rfl (by decide) q152 dX5_order_73 ?_
        exact g_retix B P (by rw [← hE]) (by rw [← hE]) (by rw [← hE]) hrt hlk (Nat.le_of_ble_eq_true rfl) (Nat.le_of_ble_eq_true rfl) dX5_order_76
      · rw [if_neg c58] at hE
        refine lv_iconst (v := 1) hx hb dX5_order_61 (by decide) ?_
        refine lv_goto (tgt := 66) hx hb dX5_order_62 (by decide) ?_
        refine g_callV B F P (As := [.int h, .int 1]) (ct_X1_put (D := D) (ad := ad) (cy := cy) (ba := ba) l h 1 σ hC.2.1) ok1 (by decide) rfl q708 q709 q710 q5 q711 nk_X1_put rfl ⟨(Nat.le_of_ble_eq_true rfl), (Nat.le_of_ble_eq_true rfl)⟩ hl.1 rfl (Nat.le_of_ble_eq_true rfl) dX5_order_66 ⟨Nat.le_of_ble_eq_true rfl, Nat.le_of_ble_eq_true rfl⟩ (fun H locs P => ?_)
        refine lv_aload_n hx hb dX5_order_69 rfl (lv_at hl 0 rfl) ?_
        refine g_getr (k := 2) (t := 10) B F P ok5 (by decide) rfl rfl rfl (by decide) rfl q240 dX5_order_70 ?_
        refine g_geti (k := 2) B F P ok1 (by decide) rfl rfl rfl (by decide) q152 dX5_order_73 ?_
        exact g_retix B P (by rw [← hE]) (by rw [← hE]) (by rw [← hE]) hrt hlk (Nat.le_of_ble_eq_true rfl) (Nat.le_of_ble_eq_true rfl) dX5_order_76
    · rw [if_pos c27] at hE
      refine lv_aload_n hx hb dX5_order_30 rfl (lv_at hl 0 rfl) ?_
      refine g_getr (k := 2) (t := 10) B F P ok5 (by decide) rfl rfl rfl (by decide) rfl q240 dX5_order_31 ?_
      refine g_geti (k := 2) B F P ok1 (by decide) rfl rfl rfl (by decide) q152 dX5_order_34 ?_
      refine lv_bipush (v := 6) hx hb dX5_order_37 (by decide) ?_
      refine lv_icmp_lt (tgt := 52) hx hb dX5_order_39 (by decide) (fun c39 => ?_) (fun c39 => ?_)
      · rw [if_pos c39] at hE
        refine lv_aload_n hx hb dX5_order_52 rfl (lv_at hl 0 rfl) ?_
        refine g_getr (k := 2) (t := 10) B F P ok5 (by decide) rfl rfl rfl (by decide) rfl q240 dX5_order_53 ?_
        refine lv_iload_n hx hb dX5_order_56 rfl (lv_at hl 1 rfl) ?_
        refine lv_iload_n hx hb dX5_order_57 rfl (lv_at hl 2 rfl) ?_
        refine lv_if_eq (tgt := 65) hx hb dX5_order_58 (by decide) (fun c58 => ?_) (fun c58 => ?_)
        · rw [if_pos c58] at hE
          refine lv_iconst (v := 0) hx hb dX5_order_65 (by decide) ?_
          refine g_callV B F P (As := [.int h, .int 0]) (ct_X1_put (D := D) (ad := ad) (cy := cy) (ba := ba) l h 0 σ hC.2.1) ok1 (by decide) rfl q708 q709 q710 q5 q711 nk_X1_put rfl ⟨(Nat.le_of_ble_eq_true rfl), (Nat.le_of_ble_eq_true rfl)⟩ hl.1 rfl (Nat.le_of_ble_eq_true rfl) dX5_order_66 ⟨Nat.le_of_ble_eq_true rfl, Nat.le_of_ble_eq_true rfl⟩ (fun H locs P => ?_)
          refine lv_aload_n hx hb dX5_order_69 rfl (lv_at hl 0 rfl) ?_
          refine g_getr (k := 2) (t := 10) B F P ok5 (by decide) rfl rfl rfl (by decide) rfl q240 dX5_order_70 ?_
          refine g_geti (k := 2) B F P ok1 (by decide) rfl rfl rfl (by decide) q152 dX5_order_73 ?_
          exact g_retix B P (by rw [← hE]) (by rw [← hE]) (by rw [← hE]) hrt hlk (Nat.le_of_ble_eq_true rfl) (Nat.le_of_ble_eq_true rfl) dX5_order_76
        · rw [if_neg c58] at hE
          refine lv_iconst (v := 1) hx hb dX5_order_61 (by decide) ?_
          refine lv_goto (tgt := 66) hx hb dX5_order_62 (by decide) ?_
          refine g_callV B F P (As := [.int h, .int 1]) (ct_X1_put (D := D) (ad := ad) (cy := cy) (ba := ba) l h 1 σ hC.2.1) ok1 (by decide) rfl q708 q709 q710 q5 q711 nk_X1_put rfl ⟨(Nat.le_of_ble_eq_true rfl), (Nat.le_of_ble_eq_true rfl)⟩ hl.1 rfl (Nat.le_of_ble_eq_true rfl) dX5_order_66 ⟨Nat.le_of_ble_eq_true rfl, Nat.le_of_ble_eq_true rfl⟩ (fun H locs P => ?_)
          refine lv_aload_n hx hb dX5_order_69 rfl (lv_at hl 0 rfl) ?_
          refine g_getr (k := 2) (t := 10) B F P ok5 (by decide) rfl rfl rfl (by decide) rfl q240 dX5_order_70 ?_
          refine g_geti (k := 2) B F P ok1 (by decide) rfl rfl rfl (by decide) q152 dX5_order_73 ?_
          exact g_retix B P (by rw [← hE]) (by rw [← hE]) (by rw [← hE]) hrt hlk (Nat.le_of_ble_eq_true rfl) (Nat.le_of_ble_eq_true rfl) dX5_order_76
      · rw [if_neg c39] at hE
        exact g_throw2 B F P hst (is := 180) (text := "there are 6 orders") (by decide) (by rw [← hE]) (by rw [← hE]) hl.1 hlk hT dX5_order_42 dX5_order_45 dX5_order_46 dX5_order_48 dX5_order_51 (Nat.le_of_ble_eq_true rfl) (Nat.le_of_ble_eq_true rfl) (Nat.le_of_ble_eq_true rfl) (Nat.le_of_ble_eq_true rfl) (Nat.le_of_ble_eq_true rfl) (Nat.le_of_ble_eq_true rfl)
  · rw [if_neg c5] at hE
    exact g_throw1 B F P hst (is := 174) (text := "the half hour has passed") (by decide) (by rw [← hE]) (by rw [← hE]) hl.1 hlk hT dX5_order_8 dX5_order_11 dX5_order_12 dX5_order_14 dX5_order_17 (Nat.le_of_ble_eq_true rfl) (Nat.le_of_ble_eq_true rfl) (Nat.le_of_ble_eq_true rfl) (Nat.le_of_ble_eq_true rfl) (Nat.le_of_ble_eq_true rfl) (Nat.le_of_ble_eq_true rfl)
def f_X5_takeBack (h : Int32) (σ : Sg) : Nat × Int32 × Sg := if (f_X1_told h σ) = (-1) then (5, 0, σ) else (if (f_X1_told h σ) = 1 then (0, 1, (f_X1_forget h σ)) else (0, 0, (f_X1_forget h σ)))
set_option maxHeartbeats 4000000 in
set_option maxRecDepth 100000 in
theorem ct_X5_takeBack {D : va_G} {ad : Nat → Nat} {cy : Nat → ClassId} {ba : Nat} (l : Launch) (h : Int32) (σ : Sg) (hst : l.stackTraces = false) (hC : GC 99000 σ) : Cx D ad cy ba l 2 4 yX5_takeBack cX5_takeBack 3 (some .boolean) [.ref (ad 0), .int h] σ (f_X5_takeBack h σ).1 (some (.int (f_X5_takeBack h σ).2.1)) (f_X5_takeBack h σ).2.2 := by
  generalize hE : f_X5_takeBack h σ = Z
  dsimp only [f_X5_takeBack] at hE
  refine Cx.of (by decide +kernel) (Nat.le_of_ble_eq_true rfl) ?_
  intro p e s m below meth c ls B F P hrt hlk hT hl
  have hx := B.1
  have hb := B.2.1
  have hl : lv_has ls 3 [(0, .ref (ad 0)), (1, .int h)] := hl
  refine lv_aload_n hx hb dX5_takeBack_0 rfl (lv_at hl 0 rfl) ?_
  refine g_getr (k := 2) (t := 10) B F P ok5 (by decide) rfl rfl rfl (by decide) rfl q240 dX5_takeBack_1 ?_
  refine lv_iload_n hx hb dX5_takeBack_4 rfl (lv_at hl 1 rfl) ?_
  refine g_callV B F P (As := [.int h]) (ct_X1_told (D := D) (ad := ad) (cy := cy) (ba := ba) l h σ hC.2.1) ok1 (by decide) rfl q652 q653 q654 q5 q655 nk_X1_told rfl ⟨(Nat.le_of_ble_eq_true rfl), (Nat.le_of_ble_eq_true rfl)⟩ hl.1 rfl (Nat.le_of_ble_eq_true rfl) dX5_takeBack_5 ⟨Nat.le_of_ble_eq_true rfl, Nat.le_of_ble_eq_true rfl⟩ (fun H locs P => ?_)
  refine lv_istore_n (lv' := [(2, .int (f_X1_told h σ)), (0, .ref (ad 0)), (1, .int h)]) hx hb dX5_takeBack_8 rfl hl (by decide) rfl (fun ls hl => ?_)
  refine lv_iload_n hx hb dX5_takeBack_9 rfl (lv_at hl 0 rfl) ?_
  refine lv_iconst (v := (-1)) hx hb dX5_takeBack_10 (by decide) ?_
  refine lv_icmp_ne (tgt := 24) hx hb dX5_takeBack_11 (by decide) (fun c11 => ?_) (fun c11 => ?_)
  · rw [if_neg c11] at hE
    refine lv_aload_n hx hb dX5_takeBack_24 rfl (lv_at hl 1 rfl) ?_
    refine g_getr (k := 2) (t := 10) B F P ok5 (by decide) rfl rfl rfl (by decide) rfl q240 dX5_takeBack_25 ?_
    refine lv_iload_n hx hb dX5_takeBack_28 rfl (lv_at hl 2 rfl) ?_
    refine g_callV B F P (As := [.int h]) (ct_X1_forget (D := D) (ad := ad) (cy := cy) (ba := ba) l h σ hC.2.1) ok1 (by decide) rfl q321 q322 q323 q5 q324 nk_X1_forget rfl ⟨(Nat.le_of_ble_eq_true rfl), (Nat.le_of_ble_eq_true rfl)⟩ hl.1 rfl (Nat.le_of_ble_eq_true rfl) dX5_takeBack_29 ⟨Nat.le_of_ble_eq_true rfl, Nat.le_of_ble_eq_true rfl⟩ (fun H locs P => ?_)
    refine lv_iload_n hx hb dX5_takeBack_32 rfl (lv_at hl 0 rfl) ?_
    refine lv_iconst (v := 1) hx hb dX5_takeBack_33 (by decide) ?_
    refine lv_icmp_ne (tgt := 41) hx hb dX5_takeBack_34 (by decide) (fun c34 => ?_) (fun c34 => ?_)
    · rw [if_neg c34] at hE
      refine lv_iconst (v := 0) hx hb dX5_takeBack_41 (by decide) ?_
      exact g_retzx B P (by rw [← hE]) (by rw [← hE]) (by rw [← hE]) hrt rfl hlk (Nat.le_of_ble_eq_true rfl) (Nat.le_of_ble_eq_true rfl) dX5_takeBack_42
    · rw [if_pos c34] at hE
      refine lv_iconst (v := 1) hx hb dX5_takeBack_37 (by decide) ?_
      refine lv_goto (tgt := 42) hx hb dX5_takeBack_38 (by decide) ?_
      exact g_retzx B P (by rw [← hE]) (by rw [← hE]) (by rw [← hE]) hrt rfl hlk (Nat.le_of_ble_eq_true rfl) (Nat.le_of_ble_eq_true rfl) dX5_takeBack_42
  · rw [if_pos c11] at hE
    exact g_throw5 B F P hst (is := 187) (text := "the half hour has no order") (by decide) (by rw [← hE]) (by rw [← hE]) hl.1 hlk hT dX5_takeBack_14 dX5_takeBack_17 dX5_takeBack_18 dX5_takeBack_20 dX5_takeBack_23 (Nat.le_of_ble_eq_true rfl) (Nat.le_of_ble_eq_true rfl) (Nat.le_of_ble_eq_true rfl) (Nat.le_of_ble_eq_true rfl) (Nat.le_of_ble_eq_true rfl) (Nat.le_of_ble_eq_true rfl)
def f_X5_run_l11 (nh : Int32) : Nat → Int32 → Int32 → Sg → Nat × Int32 × Sg
  | 0, _, _, σ11 => (0, 0, σ11)
  | n11 + 1, x3_11, x2_11, σ11 => if nh ≤ x3_11 then (0, x2_11, σ11) else (if (f_X1_told (rI σ11 0 6) σ11) = (-1) then (if 1000000000 ≤ (rI (f_X2_findBest (rI σ11 0 6) (rI σ11 0 5) σ11) 13 7) then (f_X5_run_l11 nh n11 (x3_11 + 1) (x2_11 + 1) (f_X5_passPresent 1 (f_X2_findBest (rI σ11 0 6) (rI σ11 0 5) σ11))) else (if (f_X2_toldBy (rI (f_X2_findBest (rI σ11 0 6) (rI σ11 0 5) σ11) 13 6) 0 (f_X2_findBest (rI σ11 0 6) (rI σ11 0 5) σ11)) = 1 then (f_X5_run_l11 nh n11 (x3_11 + 1) (x2_11 + (f_X2_toldBy (rI (f_X2_findBest (rI σ11 0 6) (rI σ11 0 5) σ11) 13 6) 0 (f_X2_findBest (rI σ11 0 6) (rI σ11 0 5) σ11))) (f_X5_passPresent 1 (f_X2_findBest (rI σ11 0 6) (rI σ11 0 5) σ11))) else (f_X5_run_l11 nh n11 (x3_11 + 1) (x2_11 + (f_X2_toldBy (rI (f_X2_findBest (rI σ11 0 6) (rI σ11 0 5) σ11) 13 6) 0 (f_X2_findBest (rI σ11 0 6) (rI σ11 0 5) σ11))) (f_X5_passPresent 0 (f_X2_findBest (rI σ11 0 6) (rI σ11 0 5) σ11))))) else (if (f_X1_told (rI σ11 0 6) σ11) = 1 then (f_X5_run_l11 nh n11 (x3_11 + 1) (x2_11 + (f_X1_told (rI σ11 0 6) σ11)) (f_X5_passPresent 1 σ11)) else (f_X5_run_l11 nh n11 (x3_11 + 1) (x2_11 + (f_X1_told (rI σ11 0 6) σ11)) (f_X5_passPresent 0 σ11))))
def f_X5_run (nh : Int32) (σ : Sg) : Nat × Int32 × Sg := if (f_X5_checkRange nh 1 12 σ) = 0 then (f_X5_run_l11 nh 13 0 0 σ) else ((f_X5_checkRange nh 1 12 σ), 0, σ)
set_option maxHeartbeats 4000000 in
set_option maxRecDepth 100000 in
theorem ct_X5_run {D : va_G} {ad : Nat → Nat} {cy : Nat → ClassId} {ba : Nat} (l : Launch) (nh : Int32) (σ : Sg) (hst : l.stackTraces = false) (hC : GC 99000 σ) : Cx D ad cy ba l 13 4 yX5_run cX5_run 5 (some .int) [.ref (ad 0), .int nh] σ (f_X5_run nh σ).1 (some (.int (f_X5_run nh σ).2.1)) (f_X5_run nh σ).2.2 := by
  generalize hE : f_X5_run nh σ = Z
  dsimp only [f_X5_run] at hE
  refine Cx.of (by decide +kernel) (Nat.le_of_ble_eq_true rfl) ?_
  intro p e s m below meth c ls B F P hrt hlk hT hl
  have hx := B.1
  have hb := B.2.1
  have hl : lv_has ls 5 [(0, .ref (ad 0)), (1, .int nh)] := hl
  refine lv_iload_n hx hb dX5_run_0 rfl (lv_at hl 1 rfl) ?_
  refine lv_iconst (v := 1) hx hb dX5_run_1 (by decide) ?_
  refine lv_bipush (v := 12) hx hb dX5_run_2 (by decide) ?_
  refine g_callSx B F P (As := [.int nh, .int 1, .int 12]) (ct_X5_checkRange (D := D) (ad := ad) (cy := cy) (ba := ba) l nh 1 12 σ hst) q371 q372 q1 q373 nk_X5_checkRange rfl ⟨(Nat.le_of_ble_eq_true rfl), (Nat.le_of_ble_eq_true rfl)⟩ hl.1 rfl (Nat.le_of_ble_eq_true rfl) dX5_run_4 ⟨Nat.le_of_ble_eq_true rfl, Nat.le_of_ble_eq_true rfl⟩ (fun c4 ce q9 H locs P h1 h2 h3 => ?_) (fun c4 H locs P => ?_)
  · rw [if_neg c4] at hE
    exact g_out P c4 (by rw [← hE]) (by rw [← hE]) hT hlk (Nat.le_of_ble_eq_true rfl) (Nat.le_of_ble_eq_true rfl) h1 h2 h3
  rw [if_pos c4] at hE
  refine lv_iconst (v := 0) hx hb dX5_run_7 (by decide) ?_
  refine lv_istore_n (lv' := [(2, .int 0), (0, .ref (ad 0)), (1, .int nh)]) hx hb dX5_run_8 rfl hl (by decide) rfl (fun ls hl => ?_)
  refine lv_iconst (v := 0) hx hb dX5_run_9 (by decide) ?_
  refine lv_istore_n (lv' := [(3, .int 0), (2, .int 0), (0, .ref (ad 0)), (1, .int nh)]) hx hb dX5_run_10 rfl hl (by decide) rfl (fun ls hl => ?_)
  have L11 : ∀ (n11 : Nat) (x3_11 : Int32) (x2_11 : Int32) (σ11 : Sg), LI 12 n11 x3_11 → GC (99000 + x3_11.toInt) σ11 → f_X5_run_l11 nh n11 x3_11 x2_11 σ11 = Z → ∀ (H : Heap) (locs : List Loc), Wo D ad cy ba s σ11 H locs → ∀ (ls : Array Slot), lv_has ls 5 [(3, .int x3_11), (2, .int x2_11), (0, .ref (ad 0)), (1, .int nh)] → W p l e (rmK 13 4 (6 * 4)) s m ([.ref (ad 0), .int nh] : List Value).toArray below meth c H locs 1 6 (vx_MQ below (Qx D ad cy ba Z.1 (some (.int Z.2.1)) Z.2.2) (Xx D ad cy ba Z.1 Z.2.2) ([.ref (ad 0), .int nh] : List Value).toArray s 4 (6 * 4) (fun q => ba ≤ q)) (F0 m 11 ls []) := by
    clear hE P hl
    intro n11
    induction n11 with
    | zero => intro x3_11 x2_11 σ11 hI11 hC11 hE; exact absurd hI11 LI.zero
    | succ n11 ih11 =>
      intro x3_11 x2_11 σ11 hI11 hC11 hE H locs P ls hl
      dsimp only [f_X5_run_l11] at hE
      refine lv_iload_n hx hb dX5_run_11 rfl (lv_at hl 0 rfl) ?_
      refine lv_iload_n hx hb dX5_run_12 rfl (lv_at hl 3 rfl) ?_
      refine lv_icmp_ge (tgt := 113) hx hb dX5_run_13 (by decide) (fun c13 => ?_) (fun c13 => ?_)
      · rw [if_pos c13] at hE
        refine lv_iload_n hx hb dX5_run_113 rfl (lv_at hl 1 rfl) ?_
        exact g_retix B P (by rw [← hE]) (by rw [← hE]) (by rw [← hE]) hrt hlk (Nat.le_of_ble_eq_true rfl) (Nat.le_of_ble_eq_true rfl) dX5_run_114
      · rw [if_neg c13] at hE
        refine lv_aload_n hx hb dX5_run_16 rfl (lv_at hl 2 rfl) ?_
        refine g_getr (k := 2) (t := 10) B F P ok5 (by decide) rfl rfl rfl (by decide) rfl q240 dX5_run_17 ?_
        refine lv_aload_n hx hb dX5_run_20 rfl (lv_at hl 2 rfl) ?_
        refine g_geti (k := 6) B F P ok5 (by decide) rfl rfl rfl (by decide) q244 dX5_run_21 ?_
        refine g_callV B F P (As := [.int (rI σ11 0 6)]) (ct_X1_told (D := D) (ad := ad) (cy := cy) (ba := ba) l (rI σ11 0 6) σ11 hC11.2.1) ok1 (by decide) rfl q652 q653 q654 q5 q655 nk_X1_told rfl ⟨(Nat.le_of_ble_eq_true rfl), (Nat.le_of_ble_eq_true rfl)⟩ hl.1 rfl (Nat.le_of_ble_eq_true rfl) dX5_run_24 ⟨Nat.le_of_ble_eq_true rfl, Nat.le_of_ble_eq_true rfl⟩ (fun H locs P => ?_)
        refine lv_istore (lv' := [(4, .int (f_X1_told (rI σ11 0 6) σ11)), (3, .int x3_11), (2, .int x2_11), (0, .ref (ad 0)), (1, .int nh)]) hx hb dX5_run_27 hl (by decide) rfl (fun ls hl => ?_)
        refine lv_iload hx hb dX5_run_29 (lv_at hl 0 rfl) ?_
        refine lv_iconst (v := (-1)) hx hb dX5_run_31 (by decide) ?_
        refine lv_icmp_ne (tgt := 87) hx hb dX5_run_32 (by decide) (fun c32 => ?_) (fun c32 => ?_)
        · rw [if_neg c32] at hE
          refine lv_aload_n hx hb dX5_run_87 rfl (lv_at hl 3 rfl) ?_
          refine lv_iload hx hb dX5_run_88 (lv_at hl 0 rfl) ?_
          refine lv_iconst (v := 1) hx hb dX5_run_90 (by decide) ?_
          refine lv_icmp_ne (tgt := 98) hx hb dX5_run_91 (by decide) (fun c91 => ?_) (fun c91 => ?_)
          · rw [if_neg c91] at hE
            refine lv_iconst (v := 0) hx hb dX5_run_98 (by decide) ?_
            refine g_callV B F P (As := [.int 0]) (ct_X5_passPresent (D := D) (ad := ad) (cy := cy) (ba := ba) l 0 σ11 (hC11.w (by have h8 := hI11.2.2; omega))) ok5 (by decide) rfl q268 q270 qs0 q1 q271 nk_X5_passPresent rfl ⟨(Nat.le_of_ble_eq_true rfl), (Nat.le_of_ble_eq_true rfl)⟩ hl.1 rfl (Nat.le_of_ble_eq_true rfl) dX5_run_99 ⟨Nat.le_of_ble_eq_true rfl, Nat.le_of_ble_eq_true rfl⟩ (fun H locs P => ?_)
            refine lv_iload_n hx hb dX5_run_102 rfl (lv_at hl 2 rfl) ?_
            refine lv_iload hx hb dX5_run_103 (lv_at hl 0 rfl) ?_
            refine lv_iadd hx hb dX5_run_105 ?_
            refine lv_istore_n (lv' := [(2, .int (x2_11 + (f_X1_told (rI σ11 0 6) σ11))), (4, .int (f_X1_told (rI σ11 0 6) σ11)), (3, .int x3_11), (0, .ref (ad 0)), (1, .int nh)]) hx hb dX5_run_106 rfl hl (by decide) rfl (fun ls hl => ?_)
            refine lv_iinc (v := (x3_11 + 1)) (lv' := [(3, .int (x3_11 + 1)), (2, .int (x2_11 + (f_X1_told (rI σ11 0 6) σ11))), (4, .int (f_X1_told (rI σ11 0 6) σ11)), (0, .ref (ad 0)), (1, .int nh)]) hx hb dX5_run_107 hl (k := 2) rfl (by first | rfl | decide) (by decide) rfl (fun ls hl => ?_)
            refine lv_goto (tgt := 11) hx hb dX5_run_110 (by decide) ?_
            exact ih11 (x3_11 + 1) (x2_11 + (f_X1_told (rI σ11 0 6) σ11)) (f_X5_passPresent 0 σ11) (hI11.next c13 (rng_ok c4).2) ((gc_pp _ hC11 (by have h8 := hI11.2.2; omega)).w (by have h8 := hI11.2.2; have h9 := i_succ hI11.1 (by omega); omega)) hE _ _ P _ (lv_sub hl [0, 1, 3, 4] rfl)
          · rw [if_pos c91] at hE
            refine lv_iconst (v := 1) hx hb dX5_run_94 (by decide) ?_
            refine lv_goto (tgt := 99) hx hb dX5_run_95 (by decide) ?_
            refine g_callV B F P (As := [.int 1]) (ct_X5_passPresent (D := D) (ad := ad) (cy := cy) (ba := ba) l 1 σ11 (hC11.w (by have h8 := hI11.2.2; omega))) ok5 (by decide) rfl q268 q270 qs0 q1 q271 nk_X5_passPresent rfl ⟨(Nat.le_of_ble_eq_true rfl), (Nat.le_of_ble_eq_true rfl)⟩ hl.1 rfl (Nat.le_of_ble_eq_true rfl) dX5_run_99 ⟨Nat.le_of_ble_eq_true rfl, Nat.le_of_ble_eq_true rfl⟩ (fun H locs P => ?_)
            refine lv_iload_n hx hb dX5_run_102 rfl (lv_at hl 2 rfl) ?_
            refine lv_iload hx hb dX5_run_103 (lv_at hl 0 rfl) ?_
            refine lv_iadd hx hb dX5_run_105 ?_
            refine lv_istore_n (lv' := [(2, .int (x2_11 + (f_X1_told (rI σ11 0 6) σ11))), (4, .int (f_X1_told (rI σ11 0 6) σ11)), (3, .int x3_11), (0, .ref (ad 0)), (1, .int nh)]) hx hb dX5_run_106 rfl hl (by decide) rfl (fun ls hl => ?_)
            refine lv_iinc (v := (x3_11 + 1)) (lv' := [(3, .int (x3_11 + 1)), (2, .int (x2_11 + (f_X1_told (rI σ11 0 6) σ11))), (4, .int (f_X1_told (rI σ11 0 6) σ11)), (0, .ref (ad 0)), (1, .int nh)]) hx hb dX5_run_107 hl (k := 2) rfl (by first | rfl | decide) (by decide) rfl (fun ls hl => ?_)
            refine lv_goto (tgt := 11) hx hb dX5_run_110 (by decide) ?_
            exact ih11 (x3_11 + 1) (x2_11 + (f_X1_told (rI σ11 0 6) σ11)) (f_X5_passPresent 1 σ11) (hI11.next c13 (rng_ok c4).2) ((gc_pp _ hC11 (by have h8 := hI11.2.2; omega)).w (by have h8 := hI11.2.2; have h9 := i_succ hI11.1 (by omega); omega)) hE _ _ P _ (lv_sub hl [0, 1, 3, 4] rfl)
        · rw [if_pos c32] at hE
          refine lv_aload_n hx hb dX5_run_35 rfl (lv_at hl 3 rfl) ?_
          refine g_getr (k := 3) (t := 13) B F P ok5 (by decide) rfl rfl rfl (by decide) rfl q241 dX5_run_36 ?_
          refine lv_aload_n hx hb dX5_run_39 rfl (lv_at hl 3 rfl) ?_
          refine g_getr (k := 1) (t := (sid 0)) B F P ok5 (by decide) rfl rfl rfl (by decide) rfl q239 dX5_run_40 ?_
          refine lv_aload_n hx hb dX5_run_43 rfl (lv_at hl 3 rfl) ?_
          refine g_geti (k := 6) B F P ok5 (by decide) rfl rfl rfl (by decide) q244 dX5_run_44 ?_
          refine lv_aload_n hx hb dX5_run_47 rfl (lv_at hl 3 rfl) ?_
          refine g_geti (k := 5) B F P ok5 (by decide) rfl rfl rfl (by decide) q243 dX5_run_48 ?_
          refine g_callV B F P (As := [.ref (ad (sid 0)), .int (rI σ11 0 6), .int (rI σ11 0 5)]) (ct_X2_findBest (D := D) (ad := ad) (cy := cy) (ba := ba) l (rI σ11 0 6) (rI σ11 0 5) σ11 hC11.1 hC11.2.1 (hC11.pr (by have := hI11.2.2; omega))) ok2 (by decide) rfl q656 q657 q658 q6 q659 nk_X2_findBest rfl ⟨(Nat.le_of_ble_eq_true rfl), (Nat.le_of_ble_eq_true rfl)⟩ hl.1 rfl (Nat.le_of_ble_eq_true rfl) dX5_run_51 ⟨Nat.le_of_ble_eq_true rfl, Nat.le_of_ble_eq_true rfl⟩ (fun H locs P => ?_)
          refine lv_aload_n hx hb dX5_run_54 rfl (lv_at hl 3 rfl) ?_
          refine g_getr (k := 3) (t := 13) B F P ok5 (by decide) rfl rfl rfl (by decide) rfl q241 dX5_run_55 ?_
          refine g_geti (k := 7) B F P ok2 (by decide) rfl rfl rfl (by decide) q178 dX5_run_58 ?_
          refine g_ldc B q687 dX5_run_61 ?_
          refine lv_icmp_ge (tgt := 84) hx hb dX5_run_63 (by decide) (fun c63 => ?_) (fun c63 => ?_)
          · rw [if_pos c63] at hE
            refine lv_iconst (v := 1) hx hb dX5_run_84 (by decide) ?_
            refine lv_istore (lv' := [(4, .int 1), (3, .int x3_11), (2, .int x2_11), (0, .ref (ad 0)), (1, .int nh)]) hx hb dX5_run_85 hl (by decide) rfl (fun ls hl => ?_)
            refine lv_aload_n hx hb dX5_run_87 rfl (lv_at hl 3 rfl) ?_
            refine lv_iload hx hb dX5_run_88 (lv_at hl 0 rfl) ?_
            refine lv_iconst (v := 1) hx hb dX5_run_90 (by decide) ?_
            refine lv_icmp_ne (tgt := 98) hx hb dX5_run_91 (by decide) (fun h9 => absurd h9 (by decide)) (fun _ => ?_)
            refine lv_iconst (v := 1) hx hb dX5_run_94 (by decide) ?_
            refine lv_goto (tgt := 99) hx hb dX5_run_95 (by decide) ?_
            refine g_callV B F P (As := [.int 1]) (ct_X5_passPresent (D := D) (ad := ad) (cy := cy) (ba := ba) l 1 (f_X2_findBest (rI σ11 0 6) (rI σ11 0 5) σ11) ((gc_findBest _ _ hC11 (hC11.pr (by have h8 := hI11.2.2; omega))).w (by have h8 := hI11.2.2; omega))) ok5 (by decide) rfl q268 q270 qs0 q1 q271 nk_X5_passPresent rfl ⟨(Nat.le_of_ble_eq_true rfl), (Nat.le_of_ble_eq_true rfl)⟩ hl.1 rfl (Nat.le_of_ble_eq_true rfl) dX5_run_99 ⟨Nat.le_of_ble_eq_true rfl, Nat.le_of_ble_eq_true rfl⟩ (fun H locs P => ?_)
            refine lv_iload_n hx hb dX5_run_102 rfl (lv_at hl 2 rfl) ?_
            refine lv_iload hx hb dX5_run_103 (lv_at hl 0 rfl) ?_
            refine lv_iadd hx hb dX5_run_105 ?_
            refine lv_istore_n (lv' := [(2, .int (x2_11 + 1)), (4, .int 1), (3, .int x3_11), (0, .ref (ad 0)), (1, .int nh)]) hx hb dX5_run_106 rfl hl (by decide) rfl (fun ls hl => ?_)
            refine lv_iinc (v := (x3_11 + 1)) (lv' := [(3, .int (x3_11 + 1)), (2, .int (x2_11 + 1)), (4, .int 1), (0, .ref (ad 0)), (1, .int nh)]) hx hb dX5_run_107 hl (k := 2) rfl (by first | rfl | decide) (by decide) rfl (fun ls hl => ?_)
            refine lv_goto (tgt := 11) hx hb dX5_run_110 (by decide) ?_
            exact ih11 (x3_11 + 1) (x2_11 + 1) (f_X5_passPresent 1 (f_X2_findBest (rI σ11 0 6) (rI σ11 0 5) σ11)) (hI11.next c13 (rng_ok c4).2) ((gc_pp _ (gc_findBest _ _ hC11 (hC11.pr (by have h8 := hI11.2.2; omega))) (by have h8 := hI11.2.2; omega)).w (by have h8 := hI11.2.2; have h9 := i_succ hI11.1 (by omega); omega)) hE _ _ P _ (lv_sub hl [0, 1, 3, 4] rfl)
          · rw [if_neg c63] at hE
            refine lv_aload_n hx hb dX5_run_66 rfl (lv_at hl 3 rfl) ?_
            refine g_getr (k := 3) (t := 13) B F P ok5 (by decide) rfl rfl rfl (by decide) rfl q241 dX5_run_67 ?_
            refine lv_aload_n hx hb dX5_run_70 rfl (lv_at hl 3 rfl) ?_
            refine g_getr (k := 3) (t := 13) B F P ok5 (by decide) rfl rfl rfl (by decide) rfl q241 dX5_run_71 ?_
            refine g_geti (k := 6) B F P ok2 (by decide) rfl rfl rfl (by decide) q176 dX5_run_74 ?_
            refine lv_iconst (v := 0) hx hb dX5_run_77 (by decide) ?_
            refine g_callV B F P (As := [.int (rI (f_X2_findBest (rI σ11 0 6) (rI σ11 0 5) σ11) 13 6), .int 0]) (ct_X2_toldBy (D := D) (ad := ad) (cy := cy) (ba := ba) l (rI (f_X2_findBest (rI σ11 0 6) (rI σ11 0 5) σ11) 13 6) 0 (f_X2_findBest (rI σ11 0 6) (rI σ11 0 5) σ11) ) ok2 (by decide) rfl q688 q689 q690 q6 q691 nk_X2_toldBy rfl ⟨(Nat.le_of_ble_eq_true rfl), (Nat.le_of_ble_eq_true rfl)⟩ hl.1 rfl (Nat.le_of_ble_eq_true rfl) dX5_run_78 ⟨Nat.le_of_ble_eq_true rfl, Nat.le_of_ble_eq_true rfl⟩ (fun H locs P => ?_)
            refine lv_goto (tgt := 85) hx hb dX5_run_81 (by decide) ?_
            refine lv_istore (lv' := [(4, .int (f_X2_toldBy (rI (f_X2_findBest (rI σ11 0 6) (rI σ11 0 5) σ11) 13 6) 0 (f_X2_findBest (rI σ11 0 6) (rI σ11 0 5) σ11))), (3, .int x3_11), (2, .int x2_11), (0, .ref (ad 0)), (1, .int nh)]) hx hb dX5_run_85 hl (by decide) rfl (fun ls hl => ?_)
            refine lv_aload_n hx hb dX5_run_87 rfl (lv_at hl 3 rfl) ?_
            refine lv_iload hx hb dX5_run_88 (lv_at hl 0 rfl) ?_
            refine lv_iconst (v := 1) hx hb dX5_run_90 (by decide) ?_
            refine lv_icmp_ne (tgt := 98) hx hb dX5_run_91 (by decide) (fun c91 => ?_) (fun c91 => ?_)
            · rw [if_neg c91] at hE
              refine lv_iconst (v := 0) hx hb dX5_run_98 (by decide) ?_
              refine g_callV B F P (As := [.int 0]) (ct_X5_passPresent (D := D) (ad := ad) (cy := cy) (ba := ba) l 0 (f_X2_findBest (rI σ11 0 6) (rI σ11 0 5) σ11) ((gc_findBest _ _ hC11 (hC11.pr (by have h8 := hI11.2.2; omega))).w (by have h8 := hI11.2.2; omega))) ok5 (by decide) rfl q268 q270 qs0 q1 q271 nk_X5_passPresent rfl ⟨(Nat.le_of_ble_eq_true rfl), (Nat.le_of_ble_eq_true rfl)⟩ hl.1 rfl (Nat.le_of_ble_eq_true rfl) dX5_run_99 ⟨Nat.le_of_ble_eq_true rfl, Nat.le_of_ble_eq_true rfl⟩ (fun H locs P => ?_)
              refine lv_iload_n hx hb dX5_run_102 rfl (lv_at hl 2 rfl) ?_
              refine lv_iload hx hb dX5_run_103 (lv_at hl 0 rfl) ?_
              refine lv_iadd hx hb dX5_run_105 ?_
              refine lv_istore_n (lv' := [(2, .int (x2_11 + (f_X2_toldBy (rI (f_X2_findBest (rI σ11 0 6) (rI σ11 0 5) σ11) 13 6) 0 (f_X2_findBest (rI σ11 0 6) (rI σ11 0 5) σ11)))), (4, .int (f_X2_toldBy (rI (f_X2_findBest (rI σ11 0 6) (rI σ11 0 5) σ11) 13 6) 0 (f_X2_findBest (rI σ11 0 6) (rI σ11 0 5) σ11))), (3, .int x3_11), (0, .ref (ad 0)), (1, .int nh)]) hx hb dX5_run_106 rfl hl (by decide) rfl (fun ls hl => ?_)
              refine lv_iinc (v := (x3_11 + 1)) (lv' := [(3, .int (x3_11 + 1)), (2, .int (x2_11 + (f_X2_toldBy (rI (f_X2_findBest (rI σ11 0 6) (rI σ11 0 5) σ11) 13 6) 0 (f_X2_findBest (rI σ11 0 6) (rI σ11 0 5) σ11)))), (4, .int (f_X2_toldBy (rI (f_X2_findBest (rI σ11 0 6) (rI σ11 0 5) σ11) 13 6) 0 (f_X2_findBest (rI σ11 0 6) (rI σ11 0 5) σ11))), (0, .ref (ad 0)), (1, .int nh)]) hx hb dX5_run_107 hl (k := 2) rfl (by first | rfl | decide) (by decide) rfl (fun ls hl => ?_)
              refine lv_goto (tgt := 11) hx hb dX5_run_110 (by decide) ?_
              exact ih11 (x3_11 + 1) (x2_11 + (f_X2_toldBy (rI (f_X2_findBest (rI σ11 0 6) (rI σ11 0 5) σ11) 13 6) 0 (f_X2_findBest (rI σ11 0 6) (rI σ11 0 5) σ11))) (f_X5_passPresent 0 (f_X2_findBest (rI σ11 0 6) (rI σ11 0 5) σ11)) (hI11.next c13 (rng_ok c4).2) ((gc_pp _ (gc_findBest _ _ hC11 (hC11.pr (by have h8 := hI11.2.2; omega))) (by have h8 := hI11.2.2; omega)).w (by have h8 := hI11.2.2; have h9 := i_succ hI11.1 (by omega); omega)) hE _ _ P _ (lv_sub hl [0, 1, 3, 4] rfl)
            · rw [if_pos c91] at hE
              refine lv_iconst (v := 1) hx hb dX5_run_94 (by decide) ?_
              refine lv_goto (tgt := 99) hx hb dX5_run_95 (by decide) ?_
              refine g_callV B F P (As := [.int 1]) (ct_X5_passPresent (D := D) (ad := ad) (cy := cy) (ba := ba) l 1 (f_X2_findBest (rI σ11 0 6) (rI σ11 0 5) σ11) ((gc_findBest _ _ hC11 (hC11.pr (by have h8 := hI11.2.2; omega))).w (by have h8 := hI11.2.2; omega))) ok5 (by decide) rfl q268 q270 qs0 q1 q271 nk_X5_passPresent rfl ⟨(Nat.le_of_ble_eq_true rfl), (Nat.le_of_ble_eq_true rfl)⟩ hl.1 rfl (Nat.le_of_ble_eq_true rfl) dX5_run_99 ⟨Nat.le_of_ble_eq_true rfl, Nat.le_of_ble_eq_true rfl⟩ (fun H locs P => ?_)
              refine lv_iload_n hx hb dX5_run_102 rfl (lv_at hl 2 rfl) ?_
              refine lv_iload hx hb dX5_run_103 (lv_at hl 0 rfl) ?_
              refine lv_iadd hx hb dX5_run_105 ?_
              refine lv_istore_n (lv' := [(2, .int (x2_11 + (f_X2_toldBy (rI (f_X2_findBest (rI σ11 0 6) (rI σ11 0 5) σ11) 13 6) 0 (f_X2_findBest (rI σ11 0 6) (rI σ11 0 5) σ11)))), (4, .int (f_X2_toldBy (rI (f_X2_findBest (rI σ11 0 6) (rI σ11 0 5) σ11) 13 6) 0 (f_X2_findBest (rI σ11 0 6) (rI σ11 0 5) σ11))), (3, .int x3_11), (0, .ref (ad 0)), (1, .int nh)]) hx hb dX5_run_106 rfl hl (by decide) rfl (fun ls hl => ?_)
              refine lv_iinc (v := (x3_11 + 1)) (lv' := [(3, .int (x3_11 + 1)), (2, .int (x2_11 + (f_X2_toldBy (rI (f_X2_findBest (rI σ11 0 6) (rI σ11 0 5) σ11) 13 6) 0 (f_X2_findBest (rI σ11 0 6) (rI σ11 0 5) σ11)))), (4, .int (f_X2_toldBy (rI (f_X2_findBest (rI σ11 0 6) (rI σ11 0 5) σ11) 13 6) 0 (f_X2_findBest (rI σ11 0 6) (rI σ11 0 5) σ11))), (0, .ref (ad 0)), (1, .int nh)]) hx hb dX5_run_107 hl (k := 2) rfl (by first | rfl | decide) (by decide) rfl (fun ls hl => ?_)
              refine lv_goto (tgt := 11) hx hb dX5_run_110 (by decide) ?_
              exact ih11 (x3_11 + 1) (x2_11 + (f_X2_toldBy (rI (f_X2_findBest (rI σ11 0 6) (rI σ11 0 5) σ11) 13 6) 0 (f_X2_findBest (rI σ11 0 6) (rI σ11 0 5) σ11))) (f_X5_passPresent 1 (f_X2_findBest (rI σ11 0 6) (rI σ11 0 5) σ11)) (hI11.next c13 (rng_ok c4).2) ((gc_pp _ (gc_findBest _ _ hC11 (hC11.pr (by have h8 := hI11.2.2; omega))) (by have h8 := hI11.2.2; omega)).w (by have h8 := hI11.2.2; have h9 := i_succ hI11.1 (by omega); omega)) hE _ _ P _ (lv_sub hl [0, 1, 3, 4] rfl)
  exact L11 13 0 0 σ LI.start (hC.w (by decide)) hE _ _ P _ (lv_sub hl [0, 1, 2, 3] rfl)
