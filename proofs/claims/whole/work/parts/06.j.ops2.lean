theorem i_lt {a b : Int32} : a < b ↔ a.toInt < b.toInt := Int32.lt_iff_toInt_lt
theorem i_le {a b : Int32} : a ≤ b ↔ a.toInt ≤ b.toInt := Int32.le_iff_toInt_le
theorem GC.w {a b : Int} {σ : Sg} (h : GC a σ) (hab : a ≤ b) : GC b σ := ⟨h.1, h.2.1, ⟨h.2.2.1.1, by have := h.2.2.1.2; omega⟩, h.2.2.2⟩
theorem GC.pr {b : Int} {σ : Sg} (h : GC b σ) (hb : b ≤ 100000) : 0 ≤ (rI σ 0 6).toInt ∧ (rI σ 0 6).toInt < 100000 := ⟨h.2.2.1.1, by have := h.2.2.1.2; omega⟩
theorem GO.fr {r : Nat} {a b : Sg} (h : GO a) (f : Fr r a b) : GO b := h.of (f.lo (by decide))
/-- the meters alone have changed -/
def Fm (σ σ' : Sg) : Prop := ∀ k j, k ≠ 18 → rI σ' k j = rI σ k j
theorem fm_X0_add_l100 (r : Nat) : ∀ (n : Nat) (x : Int32) (σ : Sg), Fm σ (f_X0_add_l100 r n x σ)
  | 0, _, _ => fun _ _ _ => rfl
  | n + 1, x, σ => by
    unfold f_X0_add_l100
    split
    · exact fun _ _ _ => rfl
    · exact fun k j hk => (fm_X0_add_l100 r n _ _ k j hk).trans (by rw [rI_sI, if_neg (fun e => hk e.1)])
theorem fm_X0_add (r : Nat) (σ : Sg) : Fm σ (f_X0_add r σ) := fun k j hk => fm_X0_add_l100 r _ _ _ k j hk
theorem GO.fm {a b : Sg} (h : GO a) (f : Fm a b) : GO b := h.of (f 10 2 (by decide))
/-- the orders alone have changed -/
def Fo (σ σ' : Sg) : Prop := (∀ k j, k < 10 ∨ 12 < k → rI σ' k j = rI σ k j) ∧ σ'.2 = σ.2
theorem fo_X1_forget (h : Int32) (σ : Sg) : Fo σ (f_X1_forget h σ) := by
  unfold f_X1_forget
  split
  · exact ⟨fun _ _ _ => rfl, rfl⟩
  · refine ⟨fun k j hk => ?_, rfl⟩
    rw [rI_sI, if_neg (by omega), rI_sI, if_neg (by omega), rI_sI, if_neg (by omega)]
theorem go_X1_forget (h : Int32) {σ : Sg} (hO : GO σ) : GO (f_X1_forget h σ) := by
  unfold f_X1_forget
  split
  · exact hO
  · rename_i c
    have h1 := find_ge hO c
    have h2 := i_pred (i := rI σ 10 2) (by omega)
    have h3 := hO.2
    have e : GO (sI σ 10 2 (rI σ 10 2 - 1)) := by unfold GO; rw [rI_sI, if_pos ⟨rfl, rfl⟩]; omega
    exact e.of (by rw [rI_sI, if_neg (by omega), rI_sI, if_neg (by omega)])
theorem GP.fo {a b : Sg} (h : GP a) (f : Fo a b) : GP b := h.of (fun j => f.1 1 j (by omega)) (f.1 13 5 (by omega)) (fun j => f.1 16 j (by omega))
theorem GP.fm {a b : Sg} (h : GP a) (f : Fm a b) : GP b := h.of (fun j => f 1 j (by decide)) (f 13 5 (by decide)) (fun j => f 16 j (by decide))
theorem nk_X0_add : nmOk yX0_add RX0 1 := ⟨rfl, by decide +kernel, by decide +kernel, by decide +kernel⟩
theorem nk_X1_forget : nmOk yX1_forget RX1 1 := ⟨rfl, by decide +kernel, by decide +kernel, by decide +kernel⟩
def f_X5_passPresent (on : Int32) (σ : Sg) : Sg := (sI (f_X1_forget (rI (f_X0_add 0 (f_X4_letPass 0 (f_X5_slotOf (rI σ 0 6) σ) on σ)) 0 6) (f_X0_add 0 (f_X4_letPass 0 (f_X5_slotOf (rI σ 0 6) σ) on σ))) 0 6 ((rI (f_X1_forget (rI (f_X0_add 0 (f_X4_letPass 0 (f_X5_slotOf (rI σ 0 6) σ) on σ)) 0 6) (f_X0_add 0 (f_X4_letPass 0 (f_X5_slotOf (rI σ 0 6) σ) on σ))) 0 6) + 1))
set_option maxHeartbeats 4000000 in
set_option maxRecDepth 100000 in
theorem ct_X5_passPresent {D : va_G} {ad : Nat → Nat} {cy : Nat → ClassId} {ba : Nat} (l : Launch) (on : Int32) (σ : Sg) (hC : GC 100000 σ) : Ct D ad cy ba l 3 yX5_passPresent cX5_passPresent 2 none [.ref (ad 0), .int on] σ none (f_X5_passPresent on σ) := by
  generalize hE : f_X5_passPresent on σ = Z
  dsimp only [f_X5_passPresent] at hE
  refine Ct.of (by decide +kernel) (Nat.le_of_ble_eq_true rfl) ?_
  intro p e s m below meth c ls B F P hrt hlk hl
  have hx := B.1
  have hb := B.2.1
  have hl : lv_has ls 2 [(0, .ref (ad 0)), (1, .int on)] := hl
  refine lv_aload_n hx hb dX5_passPresent_0 rfl (lv_at hl 0 rfl) ?_
  refine g_getr (k := 1) (t := (sid 0)) B F P ok5 (by decide) rfl rfl rfl (by decide) rfl q239 dX5_passPresent_1 ?_
  refine lv_aload_n hx hb dX5_passPresent_4 rfl (lv_at hl 0 rfl) ?_
  refine g_getr (k := 0) (t := 1) B F P ok5 (by decide) rfl rfl rfl (by decide) rfl q238 dX5_passPresent_5 ?_
  refine lv_aload_n hx hb dX5_passPresent_8 rfl (lv_at hl 0 rfl) ?_
  refine g_geti (k := 6) B F P ok5 (by decide) rfl rfl rfl (by decide) q244 dX5_passPresent_9 ?_
  refine g_callS B F P (As := [.int (rI σ 0 6)]) (ct_X5_slotOf (D := D) (ad := ad) (cy := cy) (ba := ba) l (rI σ 0 6) σ ) q272 q273 q1 q274 nk_X5_slotOf rfl ⟨(Nat.le_of_ble_eq_true rfl), (Nat.le_of_ble_eq_true rfl)⟩ hl.1 rfl (Nat.le_of_ble_eq_true rfl) dX5_passPresent_12 ⟨Nat.le_of_ble_eq_true rfl, Nat.le_of_ble_eq_true rfl⟩ (fun H locs P => ?_)
  refine lv_iload_n hx hb dX5_passPresent_15 rfl (lv_at hl 1 rfl) ?_
  refine g_callV B F P (As := [.ref (ad 1), .int (f_X5_slotOf (rI σ 0 6) σ), .int on]) (ct_X4_letPass (D := D) (ad := ad) (cy := cy) (ba := ba) l 0 (f_X5_slotOf (rI σ 0 6) σ) on σ (by decide) (slotOf_in hC.2.2.1.1 σ) hC.1.1) ok4 (sid_lt0 (by decide)) (kd_s0 0) q278 q279 q280 q4 q281 nk_X4_letPass rfl ⟨(Nat.le_of_ble_eq_true rfl), (Nat.le_of_ble_eq_true rfl)⟩ hl.1 rfl (Nat.le_of_ble_eq_true rfl) dX5_passPresent_16 ⟨Nat.le_of_ble_eq_true rfl, Nat.le_of_ble_eq_true rfl⟩ (fun H locs P => ?_)
  refine lv_aload_n hx hb dX5_passPresent_19 rfl (lv_at hl 0 rfl) ?_
  refine g_getr (k := 4) (t := 17) B F P ok5 (by decide) rfl rfl rfl (by decide) rfl q242 dX5_passPresent_20 ?_
  refine lv_aload_n hx hb dX5_passPresent_23 rfl (lv_at hl 0 rfl) ?_
  refine g_getr (k := 1) (t := (sid 0)) B F P ok5 (by decide) rfl rfl rfl (by decide) rfl q239 dX5_passPresent_24 ?_
  refine g_callV B F P (As := [.ref (ad (sid 0))]) (ct_X0_add (D := D) (ad := ad) (cy := cy) (ba := ba) l 0 (f_X4_letPass 0 (f_X5_slotOf (rI σ 0 6) σ) on σ) (by decide)) ok0 (by decide) rfl q317 q318 q319 q7 q320 nk_X0_add rfl ⟨(Nat.le_of_ble_eq_true rfl), (Nat.le_of_ble_eq_true rfl)⟩ hl.1 rfl (Nat.le_of_ble_eq_true rfl) dX5_passPresent_27 ⟨Nat.le_of_ble_eq_true rfl, Nat.le_of_ble_eq_true rfl⟩ (fun H locs P => ?_)
  refine lv_aload_n hx hb dX5_passPresent_30 rfl (lv_at hl 0 rfl) ?_
  refine g_getr (k := 2) (t := 10) B F P ok5 (by decide) rfl rfl rfl (by decide) rfl q240 dX5_passPresent_31 ?_
  refine lv_aload_n hx hb dX5_passPresent_34 rfl (lv_at hl 0 rfl) ?_
  refine g_geti (k := 6) B F P ok5 (by decide) rfl rfl rfl (by decide) q244 dX5_passPresent_35 ?_
  refine g_callV B F P (As := [.int (rI (f_X0_add 0 (f_X4_letPass 0 (f_X5_slotOf (rI σ 0 6) σ) on σ)) 0 6)]) (ct_X1_forget (D := D) (ad := ad) (cy := cy) (ba := ba) l (rI (f_X0_add 0 (f_X4_letPass 0 (f_X5_slotOf (rI σ 0 6) σ) on σ)) 0 6) (f_X0_add 0 (f_X4_letPass 0 (f_X5_slotOf (rI σ 0 6) σ) on σ)) ((hC.2.1.fr (fr_X4_letPass _ _ _ _)).fm (fm_X0_add _ _))) ok1 (by decide) rfl q321 q322 q323 q5 q324 nk_X1_forget rfl ⟨(Nat.le_of_ble_eq_true rfl), (Nat.le_of_ble_eq_true rfl)⟩ hl.1 rfl (Nat.le_of_ble_eq_true rfl) dX5_passPresent_38 ⟨Nat.le_of_ble_eq_true rfl, Nat.le_of_ble_eq_true rfl⟩ (fun H locs P => ?_)
  refine lv_aload_n hx hb dX5_passPresent_41 rfl (lv_at hl 0 rfl) ?_
  refine lv_dup hx hb dX5_passPresent_42 rfl ?_
  refine g_geti (k := 6) B F P ok5 (by decide) rfl rfl rfl (by decide) q244 dX5_passPresent_43 ?_
  refine lv_iconst (v := 1) hx hb dX5_passPresent_46 (by decide) ?_
  refine lv_iadd hx hb dX5_passPresent_47 ?_
  refine g_puti (k := 6) B F P ok5 (by decide) rfl rfl rfl (by decide) rfl (tyX5_ok 6 (by decide)) q244 dX5_passPresent_48 (fun H locs P => ?_)
  exact g_retv B P rfl (by rw [← hE]) hrt hlk dX5_passPresent_51
theorem pp_lo (on : Int32) (σ : Sg) {k j : Nat} (h1 : k < 10 ∨ (12 < k ∧ k < 18) ∨ (18 < k ∧ k < 33)) (h2 : ¬ (k = 0 ∧ j = 6)) : rI (f_X5_passPresent on σ) k j = rI σ k j := by
  unfold f_X5_passPresent
  rw [rI_sI, if_neg h2, (fo_X1_forget _ _).1 k j (by omega), fm_X0_add _ _ k j (by omega), (fr_X4_letPass _ _ _ _).lo (by omega)]
theorem pp_pr (on : Int32) (σ : Sg) : rI (f_X5_passPresent on σ) 0 6 = rI σ 0 6 + 1 := by
  unfold f_X5_passPresent
  rw [rI_sI, if_pos ⟨rfl, rfl⟩, (fo_X1_forget _ _).1 0 6 (by omega), fm_X0_add _ _ 0 6 (by omega), (fr_X4_letPass _ _ _ _).lo (by omega)]
theorem gc_pp (on : Int32) {σ : Sg} {b : Int} (hC : GC b σ) (hb : b ≤ 100000) : GC (b + 1) (f_X5_passPresent on σ) := by
  refine ⟨hC.1.of (fun j => pp_lo on σ (by omega) (by omega)) (pp_lo on σ (by omega) (by omega)) (fun j => pp_lo on σ (by omega) (by omega)), ?_, ?_, ?_, ?_⟩
  · unfold f_X5_passPresent
    exact (go_X1_forget _ ((hC.2.1.fr (fr_X4_letPass _ _ _ _)).fm (fm_X0_add _ _))).of (by rw [rI_sI, if_neg (by omega)])
  · rw [pp_pr, i_succ hC.2.2.1.1 (by have := hC.2.2.1.2; omega)]
    have := hC.2.2.1.2
    have := hC.2.2.1.1
    omega
  · rw [pp_lo on σ (by omega) (by omega)]; exact hC.2.2.2.1
  · rw [pp_lo on σ (by omega) (by omega)]; exact hC.2.2.2.2
theorem GC.of {b : Int} {σ σ' : Sg} (h : GC b σ) (hP : GP σ') (e1 : rI σ' 10 2 = rI σ 10 2) (e2 : rI σ' 0 6 = rI σ 0 6) (e3 : ∀ j, rI σ' 1 j = rI σ 1 j) : GC b σ' := ⟨hP, h.2.1.of e1, by rw [e2]; exact h.2.2.1, by rw [e3]; exact h.2.2.2.1, by rw [e3]; exact h.2.2.2.2⟩
/-- the planner's cells alone have changed -/
def Fp (σ σ' : Sg) : Prop := (∀ k j, k < 39 → ¬ (k = 13 ∨ k = 15 ∨ k = 16) → rI σ' k j = rI σ k j) ∧ σ'.2 = σ.2
theorem fp_X2_begin_l23 (pr nh : Int32) : ∀ (n : Nat) (x : Int32) (σ : Sg), Fp σ (f_X2_begin_l23 pr nh n x σ)
  | 0, _, _ => ⟨fun _ _ _ _ => rfl, rfl⟩
  | n + 1, x, σ => by
    unfold f_X2_begin_l23
    split
    · exact ⟨fun _ _ _ _ => rfl, rfl⟩
    · have h := fp_X2_begin_l23 pr nh n (x + 1) (sI (sI σ 15 x.toNatClampNeg (f_X1_told (pr + x) σ)) 16 x.toNatClampNeg (f_X5_slotOf (pr + x) (sI σ 15 x.toNatClampNeg (f_X1_told (pr + x) σ))))
      exact ⟨fun k j h1 h2 => (h.1 k j h1 h2).trans (by rw [rI_sI, if_neg (by omega), rI_sI, if_neg (by omega)]), h.2⟩
theorem fp_X2_begin (pr nh : Int32) (σ : Sg) : Fp σ (f_X2_begin pr nh σ) := by
  unfold f_X2_begin
  have h := fp_X2_begin_l23 pr nh 7 0 (sI (f_X4_copy 1 0 σ) 13 5 (if 6 < nh then 6 else nh))
  exact ⟨fun k j h1 h2 => (h.1 k j h1 h2).trans (by rw [rI_sI, if_neg (by omega)]; exact (fr_X4_copy 1 0 σ).1 k j (Or.inl (by unfold sid; omega))), h.2.trans (fr_X4_copy 1 0 σ).2⟩
theorem fp_X2_findBest (pr nh : Int32) (σ : Sg) : Fp σ (f_X2_findBest pr nh σ) := by
  unfold f_X2_findBest
  have h := pf_X2_search 7 0 0 0 (sI (sI (f_X2_begin pr nh σ) 13 6 0) 13 7 1000000000)
  exact ⟨fun k j h1 h2 => (h.1 k j h1 (by omega)).trans (by rw [rI_sI, if_neg (by omega), rI_sI, if_neg (by omega)]; exact (fp_X2_begin pr nh σ).1 k j h1 h2), h.2.trans (fp_X2_begin pr nh σ).2⟩
theorem gp_X2_findBest (pr nh : Int32) (σ : Sg) (hP : GP σ) (hpr : 0 ≤ pr.toInt ∧ pr.toInt < 100000) : GP (f_X2_findBest pr nh σ) := ((((gp_X2_begin _ _ _ hP hpr).pf (Pf.sI Pf.refl (by decide))).pf (Pf.sI Pf.refl (by decide)))).pf (pf_X2_search _ _ _ _ _)
theorem gc_findBest (pr nh : Int32) {σ : Sg} {b : Int} (hC : GC b σ) (hpr : 0 ≤ pr.toInt ∧ pr.toInt < 100000) : GC b (f_X2_findBest pr nh σ) := hC.of (gp_X2_findBest pr nh σ hC.1 hpr) ((fp_X2_findBest pr nh σ).1 10 2 (by omega) (by omega)) ((fp_X2_findBest pr nh σ).1 0 6 (by omega) (by omega)) (fun j => (fp_X2_findBest pr nh σ).1 1 j (by omega) (by omega))
theorem shl_le {v : Int32} {σ : Sg} (h : f_X5_checkRange v 1 6 σ = 0) : ((1 : Int32) <<< (v &&& 31)).toInt ≤ 64 := by
  have h1 := rng_ok h
  rw [show (1 : Int32).toInt = 1 from rfl, show (6 : Int32).toInt = 6 from rfl] at h1
  obtain ⟨j, hj, rfl⟩ := nI_of0 (x := v) (by omega)
  rw [nI_toInt hj] at h1
  have h2 : j = 1 ∨ j = 2 ∨ j = 3 ∨ j = 4 ∨ j = 5 ∨ j = 6 := by omega
  rcases h2 with rfl | rfl | rfl | rfl | rfl | rfl <;> decide
