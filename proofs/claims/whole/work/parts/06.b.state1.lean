/-- nothing is changed but the six cells of the state r -/
def Fr (r : Nat) (σ σ' : Sg) : Prop := (∀ k j, k < sid r ∨ sid r + 6 ≤ k → rI σ' k j = rI σ k j) ∧ σ'.2 = σ.2
theorem Fr.refl {r : Nat} {σ : Sg} : Fr r σ σ := ⟨fun _ _ _ => rfl, rfl⟩
theorem Fr.trans {r : Nat} {a b c : Sg} (h1 : Fr r a b) (h2 : Fr r b c) : Fr r a c := ⟨fun k j h => (h2.1 k j h).trans (h1.1 k j h), h2.2.trans h1.2⟩
theorem Fr.sI {r i j : Nat} {x : Int32} {a b : Sg} (h : Fr r a b) (hi : sid r ≤ i ∧ i < sid r + 6) : Fr r a (sI b i j x) := ⟨fun k j' hk => by rw [rI_sI, if_neg (fun e => by omega)]; exact h.1 k j' hk, h.2⟩
theorem Fr.sC {r i0 i n : Nat} {a b : Sg} (h : Fr r a b) (hi : sid r ≤ i ∧ i < sid r + 6) : Fr r a (sC b i0 i n) := ⟨fun k j' hk => by rw [rI_sC, if_neg (fun e => by omega)]; exact h.1 k j' hk, h.2⟩
theorem Fr.lo {r : Nat} {a b : Sg} (h : Fr r a b) {k j : Nat} (hk : k < 33) : rI b k j = rI a k j := h.1 k j (Or.inl (by unfold sid; omega))
theorem GS.fr {r : Nat} {a b : Sg} (h : GS a) (f : Fr r a b) : GS b := h.of (fun _ => f.lo (by decide))
def f_X4_copy (r : Nat) (r2 : Nat) (σ : Sg) : Sg := (sC (sC (sC (sC σ (sid r2 + 1) (sid r + 1) 4) (sid r2 + 2) (sid r + 2) 4) (sid r2 + 3) (sid r + 3) 4) (sid r2 + 4) (sid r + 4) 3)
set_option maxHeartbeats 4000000 in
set_option maxRecDepth 100000 in
theorem ct_X4_copy {D : va_G} {ad : Nat → Nat} {cy : Nat → ClassId} {ba : Nat} (l : Launch) (r : Nat) (r2 : Nat) (σ : Sg) (hr : r < 8) (hr2 : r2 < 8) : Ct D ad cy ba l 0 yX4_copy cX4_copy 2 none [.ref (ad (sid r)), .ref (ad (sid r2))] σ none (f_X4_copy r r2 σ) := by
  generalize hE : f_X4_copy r r2 σ = Z
  dsimp only [f_X4_copy] at hE
  refine Ct.of (by decide +kernel) (Nat.le_of_ble_eq_true rfl) ?_
  intro p e s m below meth c ls B F P hrt hlk hl
  have hx := B.1
  have hb := B.2.1
  have hl : lv_has ls 2 [(0, .ref (ad (sid r))), (1, .ref (ad (sid r2)))] := hl
  refine lv_aload_n hx hb dX4_copy_0 rfl (lv_at hl 1 rfl) ?_
  refine g_getr (k := 0) (t := (sid r2 + 1)) B F P ok4 (sid_lt0 hr2) (kd_s0 r2) rfl rfl (by decide) (tg_s r2 0) q88 dX4_copy_1 ?_
  refine lv_iconst (v := 0) hx hb dX4_copy_4 (by decide) ?_
  refine lv_aload_n hx hb dX4_copy_5 rfl (lv_at hl 0 rfl) ?_
  refine g_getr (k := 0) (t := (sid r + 1)) B F P ok4 (sid_lt0 hr) (kd_s0 r) rfl rfl (by decide) (tg_s r 0) q88 dX4_copy_6 ?_
  refine lv_iconst (v := 0) hx hb dX4_copy_9 (by decide) ?_
  refine lv_iconst (v := 4) hx hb dX4_copy_10 (by decide) ?_
  refine g_copy (n := 4) B F P hl.1 (sid_lt hr2 (by decide)) (sid_lt hr (by decide)) (kd_sc r2 1 (by decide) (by decide)) (kd_sc r 1 (by decide) (by decide)) (ln_sc r2 1 (by decide)) (ln_sc r 1 (by decide)) (by decide) rfl (by decide) (by decide) q668 q670 q669 q19 (Nat.le_of_ble_eq_true rfl) (Nat.le_of_ble_eq_true rfl) dX4_copy_11 (fun H locs P => ?_)
  refine lv_aload_n hx hb dX4_copy_14 rfl (lv_at hl 1 rfl) ?_
  refine g_getr (k := 1) (t := (sid r2 + 2)) B F P ok4 (sid_lt0 hr2) (kd_s0 r2) rfl rfl (by decide) (tg_s r2 1) q90 dX4_copy_15 ?_
  refine lv_iconst (v := 0) hx hb dX4_copy_18 (by decide) ?_
  refine lv_aload_n hx hb dX4_copy_19 rfl (lv_at hl 0 rfl) ?_
  refine g_getr (k := 1) (t := (sid r + 2)) B F P ok4 (sid_lt0 hr) (kd_s0 r) rfl rfl (by decide) (tg_s r 1) q90 dX4_copy_20 ?_
  refine lv_iconst (v := 0) hx hb dX4_copy_23 (by decide) ?_
  refine lv_iconst (v := 4) hx hb dX4_copy_24 (by decide) ?_
  refine g_copy (n := 4) B F P hl.1 (sid_lt hr2 (by decide)) (sid_lt hr (by decide)) (kd_sc r2 2 (by decide) (by decide)) (kd_sc r 2 (by decide) (by decide)) (ln_sc r2 2 (by decide)) (ln_sc r 2 (by decide)) (by decide) rfl (by decide) (by decide) q668 q670 q669 q19 (Nat.le_of_ble_eq_true rfl) (Nat.le_of_ble_eq_true rfl) dX4_copy_25 (fun H locs P => ?_)
  refine lv_aload_n hx hb dX4_copy_28 rfl (lv_at hl 1 rfl) ?_
  refine g_getr (k := 2) (t := (sid r2 + 3)) B F P ok4 (sid_lt0 hr2) (kd_s0 r2) rfl rfl (by decide) (tg_s r2 2) q92 dX4_copy_29 ?_
  refine lv_iconst (v := 0) hx hb dX4_copy_32 (by decide) ?_
  refine lv_aload_n hx hb dX4_copy_33 rfl (lv_at hl 0 rfl) ?_
  refine g_getr (k := 2) (t := (sid r + 3)) B F P ok4 (sid_lt0 hr) (kd_s0 r) rfl rfl (by decide) (tg_s r 2) q92 dX4_copy_34 ?_
  refine lv_iconst (v := 0) hx hb dX4_copy_37 (by decide) ?_
  refine lv_iconst (v := 4) hx hb dX4_copy_38 (by decide) ?_
  refine g_copy (n := 4) B F P hl.1 (sid_lt hr2 (by decide)) (sid_lt hr (by decide)) (kd_sc r2 3 (by decide) (by decide)) (kd_sc r 3 (by decide) (by decide)) (ln_sc r2 3 (by decide)) (ln_sc r 3 (by decide)) (by decide) rfl (by decide) (by decide) q668 q670 q669 q19 (Nat.le_of_ble_eq_true rfl) (Nat.le_of_ble_eq_true rfl) dX4_copy_39 (fun H locs P => ?_)
  refine lv_aload_n hx hb dX4_copy_42 rfl (lv_at hl 1 rfl) ?_
  refine g_getr (k := 3) (t := (sid r2 + 4)) B F P ok4 (sid_lt0 hr2) (kd_s0 r2) rfl rfl (by decide) (tg_s r2 3) q94 dX4_copy_43 ?_
  refine lv_iconst (v := 0) hx hb dX4_copy_46 (by decide) ?_
  refine lv_aload_n hx hb dX4_copy_47 rfl (lv_at hl 0 rfl) ?_
  refine g_getr (k := 3) (t := (sid r + 4)) B F P ok4 (sid_lt0 hr) (kd_s0 r) rfl rfl (by decide) (tg_s r 3) q94 dX4_copy_48 ?_
  refine lv_iconst (v := 0) hx hb dX4_copy_51 (by decide) ?_
  refine lv_iconst (v := 3) hx hb dX4_copy_52 (by decide) ?_
  refine g_copy (n := 3) B F P hl.1 (sid_lt hr2 (by decide)) (sid_lt hr (by decide)) (kd_sc r2 4 (by decide) (by decide)) (kd_sc r 4 (by decide) (by decide)) (ln_sc r2 4 (by decide)) (ln_sc r 4 (by decide)) (by decide) rfl (by decide) (by decide) q668 q670 q669 q19 (Nat.le_of_ble_eq_true rfl) (Nat.le_of_ble_eq_true rfl) dX4_copy_53 (fun H locs P => ?_)
  exact g_retv B P rfl (by rw [← hE]) hrt hlk dX4_copy_56
def f_X4_goOnCleaning (r : Nat) (t : Int32) (σ : Sg) : Sg := if (rI (sI σ (sid r + 3) t.toNatClampNeg ((rI σ (sid r + 3) t.toNatClampNeg) - 1)) (sid r + 3) t.toNatClampNeg) = 0 then (sI (sI (sI σ (sid r + 3) t.toNatClampNeg ((rI σ (sid r + 3) t.toNatClampNeg) - 1)) (sid r + 1) t.toNatClampNeg (((rI (sI σ (sid r + 3) t.toNatClampNeg ((rI σ (sid r + 3) t.toNatClampNeg) - 1)) (sid r + 1) t.toNatClampNeg) / 4) + (rI (sI σ (sid r + 3) t.toNatClampNeg ((rI σ (sid r + 3) t.toNatClampNeg) - 1)) (sid r + 2) t.toNatClampNeg))) (sid r + 2) t.toNatClampNeg (if ((rI (sI (sI σ (sid r + 3) t.toNatClampNeg ((rI σ (sid r + 3) t.toNatClampNeg) - 1)) (sid r + 1) t.toNatClampNeg (((rI (sI σ (sid r + 3) t.toNatClampNeg ((rI σ (sid r + 3) t.toNatClampNeg) - 1)) (sid r + 1) t.toNatClampNeg) / 4) + (rI (sI σ (sid r + 3) t.toNatClampNeg ((rI σ (sid r + 3) t.toNatClampNeg) - 1)) (sid r + 2) t.toNatClampNeg))) (sid r + 2) t.toNatClampNeg) + 1) < 20 then ((rI (sI (sI σ (sid r + 3) t.toNatClampNeg ((rI σ (sid r + 3) t.toNatClampNeg) - 1)) (sid r + 1) t.toNatClampNeg (((rI (sI σ (sid r + 3) t.toNatClampNeg ((rI σ (sid r + 3) t.toNatClampNeg) - 1)) (sid r + 1) t.toNatClampNeg) / 4) + (rI (sI σ (sid r + 3) t.toNatClampNeg ((rI σ (sid r + 3) t.toNatClampNeg) - 1)) (sid r + 2) t.toNatClampNeg))) (sid r + 2) t.toNatClampNeg) + 1) else 20)) else (sI σ (sid r + 3) t.toNatClampNeg ((rI σ (sid r + 3) t.toNatClampNeg) - 1))
set_option maxHeartbeats 4000000 in
set_option maxRecDepth 100000 in
theorem ct_X4_goOnCleaning {D : va_G} {ad : Nat → Nat} {cy : Nat → ClassId} {ba : Nat} (l : Launch) (r : Nat) (t : Int32) (σ : Sg) (hr : r < 8) (ht : vp_in t 4) : Ct D ad cy ba l 0 yX4_goOnCleaning cX4_goOnCleaning 2 none [.ref (ad (sid r)), .int t] σ none (f_X4_goOnCleaning r t σ) := by
  generalize hE : f_X4_goOnCleaning r t σ = Z
  dsimp only [f_X4_goOnCleaning] at hE
  refine Ct.of (by decide +kernel) (Nat.le_of_ble_eq_true rfl) ?_
  intro p e s m below meth c ls B F P hrt hlk hl
  have hx := B.1
  have hb := B.2.1
  have hl : lv_has ls 2 [(0, .ref (ad (sid r))), (1, .int t)] := hl
  refine lv_aload_n hx hb dX4_goOnCleaning_0 rfl (lv_at hl 0 rfl) ?_
  refine g_getr (k := 2) (t := (sid r + 3)) B F P ok4 (sid_lt0 hr) (kd_s0 r) rfl rfl (by decide) (tg_s r 2) q92 dX4_goOnCleaning_1 ?_
  refine lv_iload_n hx hb dX4_goOnCleaning_4 rfl (lv_at hl 1 rfl) ?_
  refine lv_dup2_11 hx hb dX4_goOnCleaning_5 rfl rfl ?_
  refine g_ild B F P (sid_lt hr (by decide)) (kd_sc r 3 (by decide) (by decide)) (ln_sc r 3 (by decide)) ht dX4_goOnCleaning_6 ?_
  refine lv_iconst (v := 1) hx hb dX4_goOnCleaning_7 (by decide) ?_
  refine lv_isub hx hb dX4_goOnCleaning_8 ?_
  refine g_ist B F P (sid_lt hr (by decide)) (kd_sc r 3 (by decide) (by decide)) (ln_sc r 3 (by decide)) ht dX4_goOnCleaning_9 (fun H locs P => ?_)
  refine lv_aload_n hx hb dX4_goOnCleaning_10 rfl (lv_at hl 0 rfl) ?_
  refine g_getr (k := 2) (t := (sid r + 3)) B F P ok4 (sid_lt0 hr) (kd_s0 r) rfl rfl (by decide) (tg_s r 2) q92 dX4_goOnCleaning_11 ?_
  refine lv_iload_n hx hb dX4_goOnCleaning_14 rfl (lv_at hl 1 rfl) ?_
  refine g_ild B F P (sid_lt hr (by decide)) (kd_sc r 3 (by decide) (by decide)) (ln_sc r 3 (by decide)) ht dX4_goOnCleaning_15 ?_
  refine lv_if_ne (tgt := 59) hx hb dX4_goOnCleaning_16 (by decide) (fun c16 => ?_) (fun c16 => ?_)
  · rw [if_neg c16] at hE
    exact g_retv B P rfl (by rw [← hE]) hrt hlk dX4_goOnCleaning_59
  · rw [if_pos c16] at hE
    refine lv_aload_n hx hb dX4_goOnCleaning_19 rfl (lv_at hl 0 rfl) ?_
    refine g_getr (k := 0) (t := (sid r + 1)) B F P ok4 (sid_lt0 hr) (kd_s0 r) rfl rfl (by decide) (tg_s r 0) q88 dX4_goOnCleaning_20 ?_
    refine lv_iload_n hx hb dX4_goOnCleaning_23 rfl (lv_at hl 1 rfl) ?_
    refine lv_aload_n hx hb dX4_goOnCleaning_24 rfl (lv_at hl 0 rfl) ?_
    refine g_getr (k := 0) (t := (sid r + 1)) B F P ok4 (sid_lt0 hr) (kd_s0 r) rfl rfl (by decide) (tg_s r 0) q88 dX4_goOnCleaning_25 ?_
    refine lv_iload_n hx hb dX4_goOnCleaning_28 rfl (lv_at hl 1 rfl) ?_
    refine g_ild B F P (sid_lt hr (by decide)) (kd_sc r 1 (by decide) (by decide)) (ln_sc r 1 (by decide)) ht dX4_goOnCleaning_29 ?_
    refine lv_iconst (v := 4) hx hb dX4_goOnCleaning_30 (by decide) ?_
    refine lv_idiv hx hb dX4_goOnCleaning_31 (by decide) ?_
    refine lv_aload_n hx hb dX4_goOnCleaning_32 rfl (lv_at hl 0 rfl) ?_
    refine g_getr (k := 1) (t := (sid r + 2)) B F P ok4 (sid_lt0 hr) (kd_s0 r) rfl rfl (by decide) (tg_s r 1) q90 dX4_goOnCleaning_33 ?_
    refine lv_iload_n hx hb dX4_goOnCleaning_36 rfl (lv_at hl 1 rfl) ?_
    refine g_ild B F P (sid_lt hr (by decide)) (kd_sc r 2 (by decide) (by decide)) (ln_sc r 2 (by decide)) ht dX4_goOnCleaning_37 ?_
    refine lv_iadd hx hb dX4_goOnCleaning_38 ?_
    refine g_ist B F P (sid_lt hr (by decide)) (kd_sc r 1 (by decide) (by decide)) (ln_sc r 1 (by decide)) ht dX4_goOnCleaning_39 (fun H locs P => ?_)
    refine lv_aload_n hx hb dX4_goOnCleaning_40 rfl (lv_at hl 0 rfl) ?_
    refine g_getr (k := 1) (t := (sid r + 2)) B F P ok4 (sid_lt0 hr) (kd_s0 r) rfl rfl (by decide) (tg_s r 1) q90 dX4_goOnCleaning_41 ?_
    refine lv_iload_n hx hb dX4_goOnCleaning_44 rfl (lv_at hl 1 rfl) ?_
    refine lv_bipush (v := 20) hx hb dX4_goOnCleaning_45 (by decide) ?_
    refine lv_aload_n hx hb dX4_goOnCleaning_47 rfl (lv_at hl 0 rfl) ?_
    refine g_getr (k := 1) (t := (sid r + 2)) B F P ok4 (sid_lt0 hr) (kd_s0 r) rfl rfl (by decide) (tg_s r 1) q90 dX4_goOnCleaning_48 ?_
    refine lv_iload_n hx hb dX4_goOnCleaning_51 rfl (lv_at hl 1 rfl) ?_
    refine g_ild B F P (sid_lt hr (by decide)) (kd_sc r 2 (by decide) (by decide)) (ln_sc r 2 (by decide)) ht dX4_goOnCleaning_52 ?_
    refine lv_iconst (v := 1) hx hb dX4_goOnCleaning_53 (by decide) ?_
    refine lv_iadd hx hb dX4_goOnCleaning_54 ?_
    refine g_min B hl.1 q286 q287 q18 q288 (Nat.le_of_ble_eq_true rfl) (Nat.le_of_ble_eq_true rfl) (Nat.le_of_ble_eq_true rfl) (Nat.le_of_ble_eq_true rfl) dX4_goOnCleaning_55 ?_
    refine g_ist B F P (sid_lt hr (by decide)) (kd_sc r 2 (by decide) (by decide)) (ln_sc r 2 (by decide)) ht dX4_goOnCleaning_58 (fun H locs P => ?_)
    exact g_retv B P rfl (by rw [← hE]) hrt hlk dX4_goOnCleaning_59
theorem nk_X3_productAt : nmOk yX3_productAt RX3 2 := ⟨rfl, by decide +kernel, by decide +kernel, by decide +kernel⟩
theorem nk_X3_feedFor : nmOk yX3_feedFor RX3 1 := ⟨rfl, by decide +kernel, by decide +kernel, by decide +kernel⟩
theorem nk_X3_foulingStep : nmOk yX3_foulingStep RX3 1 := ⟨rfl, by decide +kernel, by decide +kernel, by decide +kernel⟩
theorem nk_X3_energyFor : nmOk yX3_energyFor RX3 2 := ⟨rfl, by decide +kernel, by decide +kernel, by decide +kernel⟩
def f_X4_runTrain (r : Nat) (t : Int32) (σ : Sg) : Int32 × Sg := ((f_X3_energyFor t (f_X3_feedFor (f_X3_productAt t (rI σ (sid r + 1) t.toNatClampNeg) σ) σ) (sI (sI (sI (sI σ (sid r) 5 ((rI σ (sid r) 5) + (f_X3_productAt t (rI σ (sid r + 1) t.toNatClampNeg) σ))) (sid r) 6 ((rI (sI σ (sid r) 5 ((rI σ (sid r) 5) + (f_X3_productAt t (rI σ (sid r + 1) t.toNatClampNeg) σ))) (sid r) 6) + (f_X3_feedFor (f_X3_productAt t (rI σ (sid r + 1) t.toNatClampNeg) σ) σ))) (sid r) 7 ((rI (sI (sI σ (sid r) 5 ((rI σ (sid r) 5) + (f_X3_productAt t (rI σ (sid r + 1) t.toNatClampNeg) σ))) (sid r) 6 ((rI (sI σ (sid r) 5 ((rI σ (sid r) 5) + (f_X3_productAt t (rI σ (sid r + 1) t.toNatClampNeg) σ))) (sid r) 6) + (f_X3_feedFor (f_X3_productAt t (rI σ (sid r + 1) t.toNatClampNeg) σ) σ))) (sid r) 7) + ((f_X3_feedFor (f_X3_productAt t (rI σ (sid r + 1) t.toNatClampNeg) σ) σ) - (f_X3_productAt t (rI σ (sid r + 1) t.toNatClampNeg) σ)))) (sid r + 1) t.toNatClampNeg (if ((rI (sI (sI (sI σ (sid r) 5 ((rI σ (sid r) 5) + (f_X3_productAt t (rI σ (sid r + 1) t.toNatClampNeg) σ))) (sid r) 6 ((rI (sI σ (sid r) 5 ((rI σ (sid r) 5) + (f_X3_productAt t (rI σ (sid r + 1) t.toNatClampNeg) σ))) (sid r) 6) + (f_X3_feedFor (f_X3_productAt t (rI σ (sid r + 1) t.toNatClampNeg) σ) σ))) (sid r) 7 ((rI (sI (sI σ (sid r) 5 ((rI σ (sid r) 5) + (f_X3_productAt t (rI σ (sid r + 1) t.toNatClampNeg) σ))) (sid r) 6 ((rI (sI σ (sid r) 5 ((rI σ (sid r) 5) + (f_X3_productAt t (rI σ (sid r + 1) t.toNatClampNeg) σ))) (sid r) 6) + (f_X3_feedFor (f_X3_productAt t (rI σ (sid r + 1) t.toNatClampNeg) σ) σ))) (sid r) 7) + ((f_X3_feedFor (f_X3_productAt t (rI σ (sid r + 1) t.toNatClampNeg) σ) σ) - (f_X3_productAt t (rI σ (sid r + 1) t.toNatClampNeg) σ)))) (sid r + 1) t.toNatClampNeg) + (f_X3_foulingStep t (sI (sI (sI σ (sid r) 5 ((rI σ (sid r) 5) + (f_X3_productAt t (rI σ (sid r + 1) t.toNatClampNeg) σ))) (sid r) 6 ((rI (sI σ (sid r) 5 ((rI σ (sid r) 5) + (f_X3_productAt t (rI σ (sid r + 1) t.toNatClampNeg) σ))) (sid r) 6) + (f_X3_feedFor (f_X3_productAt t (rI σ (sid r + 1) t.toNatClampNeg) σ) σ))) (sid r) 7 ((rI (sI (sI σ (sid r) 5 ((rI σ (sid r) 5) + (f_X3_productAt t (rI σ (sid r + 1) t.toNatClampNeg) σ))) (sid r) 6 ((rI (sI σ (sid r) 5 ((rI σ (sid r) 5) + (f_X3_productAt t (rI σ (sid r + 1) t.toNatClampNeg) σ))) (sid r) 6) + (f_X3_feedFor (f_X3_productAt t (rI σ (sid r + 1) t.toNatClampNeg) σ) σ))) (sid r) 7) + ((f_X3_feedFor (f_X3_productAt t (rI σ (sid r + 1) t.toNatClampNeg) σ) σ) - (f_X3_productAt t (rI σ (sid r + 1) t.toNatClampNeg) σ)))))) < 90 then ((rI (sI (sI (sI σ (sid r) 5 ((rI σ (sid r) 5) + (f_X3_productAt t (rI σ (sid r + 1) t.toNatClampNeg) σ))) (sid r) 6 ((rI (sI σ (sid r) 5 ((rI σ (sid r) 5) + (f_X3_productAt t (rI σ (sid r + 1) t.toNatClampNeg) σ))) (sid r) 6) + (f_X3_feedFor (f_X3_productAt t (rI σ (sid r + 1) t.toNatClampNeg) σ) σ))) (sid r) 7 ((rI (sI (sI σ (sid r) 5 ((rI σ (sid r) 5) + (f_X3_productAt t (rI σ (sid r + 1) t.toNatClampNeg) σ))) (sid r) 6 ((rI (sI σ (sid r) 5 ((rI σ (sid r) 5) + (f_X3_productAt t (rI σ (sid r + 1) t.toNatClampNeg) σ))) (sid r) 6) + (f_X3_feedFor (f_X3_productAt t (rI σ (sid r + 1) t.toNatClampNeg) σ) σ))) (sid r) 7) + ((f_X3_feedFor (f_X3_productAt t (rI σ (sid r + 1) t.toNatClampNeg) σ) σ) - (f_X3_productAt t (rI σ (sid r + 1) t.toNatClampNeg) σ)))) (sid r + 1) t.toNatClampNeg) + (f_X3_foulingStep t (sI (sI (sI σ (sid r) 5 ((rI σ (sid r) 5) + (f_X3_productAt t (rI σ (sid r + 1) t.toNatClampNeg) σ))) (sid r) 6 ((rI (sI σ (sid r) 5 ((rI σ (sid r) 5) + (f_X3_productAt t (rI σ (sid r + 1) t.toNatClampNeg) σ))) (sid r) 6) + (f_X3_feedFor (f_X3_productAt t (rI σ (sid r + 1) t.toNatClampNeg) σ) σ))) (sid r) 7 ((rI (sI (sI σ (sid r) 5 ((rI σ (sid r) 5) + (f_X3_productAt t (rI σ (sid r + 1) t.toNatClampNeg) σ))) (sid r) 6 ((rI (sI σ (sid r) 5 ((rI σ (sid r) 5) + (f_X3_productAt t (rI σ (sid r + 1) t.toNatClampNeg) σ))) (sid r) 6) + (f_X3_feedFor (f_X3_productAt t (rI σ (sid r + 1) t.toNatClampNeg) σ) σ))) (sid r) 7) + ((f_X3_feedFor (f_X3_productAt t (rI σ (sid r + 1) t.toNatClampNeg) σ) σ) - (f_X3_productAt t (rI σ (sid r + 1) t.toNatClampNeg) σ)))))) else 90))), (sI (sI (sI (sI σ (sid r) 5 ((rI σ (sid r) 5) + (f_X3_productAt t (rI σ (sid r + 1) t.toNatClampNeg) σ))) (sid r) 6 ((rI (sI σ (sid r) 5 ((rI σ (sid r) 5) + (f_X3_productAt t (rI σ (sid r + 1) t.toNatClampNeg) σ))) (sid r) 6) + (f_X3_feedFor (f_X3_productAt t (rI σ (sid r + 1) t.toNatClampNeg) σ) σ))) (sid r) 7 ((rI (sI (sI σ (sid r) 5 ((rI σ (sid r) 5) + (f_X3_productAt t (rI σ (sid r + 1) t.toNatClampNeg) σ))) (sid r) 6 ((rI (sI σ (sid r) 5 ((rI σ (sid r) 5) + (f_X3_productAt t (rI σ (sid r + 1) t.toNatClampNeg) σ))) (sid r) 6) + (f_X3_feedFor (f_X3_productAt t (rI σ (sid r + 1) t.toNatClampNeg) σ) σ))) (sid r) 7) + ((f_X3_feedFor (f_X3_productAt t (rI σ (sid r + 1) t.toNatClampNeg) σ) σ) - (f_X3_productAt t (rI σ (sid r + 1) t.toNatClampNeg) σ)))) (sid r + 1) t.toNatClampNeg (if ((rI (sI (sI (sI σ (sid r) 5 ((rI σ (sid r) 5) + (f_X3_productAt t (rI σ (sid r + 1) t.toNatClampNeg) σ))) (sid r) 6 ((rI (sI σ (sid r) 5 ((rI σ (sid r) 5) + (f_X3_productAt t (rI σ (sid r + 1) t.toNatClampNeg) σ))) (sid r) 6) + (f_X3_feedFor (f_X3_productAt t (rI σ (sid r + 1) t.toNatClampNeg) σ) σ))) (sid r) 7 ((rI (sI (sI σ (sid r) 5 ((rI σ (sid r) 5) + (f_X3_productAt t (rI σ (sid r + 1) t.toNatClampNeg) σ))) (sid r) 6 ((rI (sI σ (sid r) 5 ((rI σ (sid r) 5) + (f_X3_productAt t (rI σ (sid r + 1) t.toNatClampNeg) σ))) (sid r) 6) + (f_X3_feedFor (f_X3_productAt t (rI σ (sid r + 1) t.toNatClampNeg) σ) σ))) (sid r) 7) + ((f_X3_feedFor (f_X3_productAt t (rI σ (sid r + 1) t.toNatClampNeg) σ) σ) - (f_X3_productAt t (rI σ (sid r + 1) t.toNatClampNeg) σ)))) (sid r + 1) t.toNatClampNeg) + (f_X3_foulingStep t (sI (sI (sI σ (sid r) 5 ((rI σ (sid r) 5) + (f_X3_productAt t (rI σ (sid r + 1) t.toNatClampNeg) σ))) (sid r) 6 ((rI (sI σ (sid r) 5 ((rI σ (sid r) 5) + (f_X3_productAt t (rI σ (sid r + 1) t.toNatClampNeg) σ))) (sid r) 6) + (f_X3_feedFor (f_X3_productAt t (rI σ (sid r + 1) t.toNatClampNeg) σ) σ))) (sid r) 7 ((rI (sI (sI σ (sid r) 5 ((rI σ (sid r) 5) + (f_X3_productAt t (rI σ (sid r + 1) t.toNatClampNeg) σ))) (sid r) 6 ((rI (sI σ (sid r) 5 ((rI σ (sid r) 5) + (f_X3_productAt t (rI σ (sid r + 1) t.toNatClampNeg) σ))) (sid r) 6) + (f_X3_feedFor (f_X3_productAt t (rI σ (sid r + 1) t.toNatClampNeg) σ) σ))) (sid r) 7) + ((f_X3_feedFor (f_X3_productAt t (rI σ (sid r + 1) t.toNatClampNeg) σ) σ) - (f_X3_productAt t (rI σ (sid r + 1) t.toNatClampNeg) σ)))))) < 90 then ((rI (sI (sI (sI σ (sid r) 5 ((rI σ (sid r) 5) + (f_X3_productAt t (rI σ (sid r + 1) t.toNatClampNeg) σ))) (sid r) 6 ((rI (sI σ (sid r) 5 ((rI σ (sid r) 5) + (f_X3_productAt t (rI σ (sid r + 1) t.toNatClampNeg) σ))) (sid r) 6) + (f_X3_feedFor (f_X3_productAt t (rI σ (sid r + 1) t.toNatClampNeg) σ) σ))) (sid r) 7 ((rI (sI (sI σ (sid r) 5 ((rI σ (sid r) 5) + (f_X3_productAt t (rI σ (sid r + 1) t.toNatClampNeg) σ))) (sid r) 6 ((rI (sI σ (sid r) 5 ((rI σ (sid r) 5) + (f_X3_productAt t (rI σ (sid r + 1) t.toNatClampNeg) σ))) (sid r) 6) + (f_X3_feedFor (f_X3_productAt t (rI σ (sid r + 1) t.toNatClampNeg) σ) σ))) (sid r) 7) + ((f_X3_feedFor (f_X3_productAt t (rI σ (sid r + 1) t.toNatClampNeg) σ) σ) - (f_X3_productAt t (rI σ (sid r + 1) t.toNatClampNeg) σ)))) (sid r + 1) t.toNatClampNeg) + (f_X3_foulingStep t (sI (sI (sI σ (sid r) 5 ((rI σ (sid r) 5) + (f_X3_productAt t (rI σ (sid r + 1) t.toNatClampNeg) σ))) (sid r) 6 ((rI (sI σ (sid r) 5 ((rI σ (sid r) 5) + (f_X3_productAt t (rI σ (sid r + 1) t.toNatClampNeg) σ))) (sid r) 6) + (f_X3_feedFor (f_X3_productAt t (rI σ (sid r + 1) t.toNatClampNeg) σ) σ))) (sid r) 7 ((rI (sI (sI σ (sid r) 5 ((rI σ (sid r) 5) + (f_X3_productAt t (rI σ (sid r + 1) t.toNatClampNeg) σ))) (sid r) 6 ((rI (sI σ (sid r) 5 ((rI σ (sid r) 5) + (f_X3_productAt t (rI σ (sid r + 1) t.toNatClampNeg) σ))) (sid r) 6) + (f_X3_feedFor (f_X3_productAt t (rI σ (sid r + 1) t.toNatClampNeg) σ) σ))) (sid r) 7) + ((f_X3_feedFor (f_X3_productAt t (rI σ (sid r + 1) t.toNatClampNeg) σ) σ) - (f_X3_productAt t (rI σ (sid r + 1) t.toNatClampNeg) σ)))))) else 90)))
set_option maxHeartbeats 4000000 in
set_option maxRecDepth 100000 in
theorem ct_X4_runTrain {D : va_G} {ad : Nat → Nat} {cy : Nat → ClassId} {ba : Nat} (l : Launch) (r : Nat) (t : Int32) (σ : Sg) (hr : r < 8) (ht : vp_in t 4) : Ct D ad cy ba l 1 yX4_runTrain cX4_runTrain 5 (some .int) [.ref (ad (sid r)), .ref (ad 1), .int t] σ (some (.int (f_X4_runTrain r t σ).1)) (f_X4_runTrain r t σ).2 := by
  generalize hE : f_X4_runTrain r t σ = Z
  dsimp only [f_X4_runTrain] at hE
  refine Ct.of (by decide +kernel) (Nat.le_of_ble_eq_true rfl) ?_
  intro p e s m below meth c ls B F P hrt hlk hl
  have hx := B.1
  have hb := B.2.1
  have hl : lv_has ls 5 [(0, .ref (ad (sid r))), (1, .ref (ad 1)), (2, .int t)] := hl
  refine lv_aload_n hx hb dX4_runTrain_0 rfl (lv_at hl 1 rfl) ?_
  refine lv_iload_n hx hb dX4_runTrain_1 rfl (lv_at hl 2 rfl) ?_
  refine lv_aload_n hx hb dX4_runTrain_2 rfl (lv_at hl 0 rfl) ?_
  refine g_getr (k := 0) (t := (sid r + 1)) B F P ok4 (sid_lt0 hr) (kd_s0 r) rfl rfl (by decide) (tg_s r 0) q88 dX4_runTrain_3 ?_
  refine lv_iload_n hx hb dX4_runTrain_6 rfl (lv_at hl 2 rfl) ?_
  refine g_ild B F P (sid_lt hr (by decide)) (kd_sc r 1 (by decide) (by decide)) (ln_sc r 1 (by decide)) ht dX4_runTrain_7 ?_
  refine g_callV B F P (As := [.int t, .int (rI σ (sid r + 1) t.toNatClampNeg)]) (ct_X3_productAt (D := D) (ad := ad) (cy := cy) (ba := ba) l t (rI σ (sid r + 1) t.toNatClampNeg) σ ht) ok3 (by decide) rfl q293 q294 q295 q2 q296 nk_X3_productAt rfl ⟨(Nat.le_of_ble_eq_true rfl), (Nat.le_of_ble_eq_true rfl)⟩ hl.1 rfl (Nat.le_of_ble_eq_true rfl) dX4_runTrain_8 ⟨Nat.le_of_ble_eq_true rfl, Nat.le_of_ble_eq_true rfl⟩ (fun H locs P => ?_)
  refine lv_istore_n (lv' := [(3, .int (f_X3_productAt t (rI σ (sid r + 1) t.toNatClampNeg) σ)), (0, .ref (ad (sid r))), (1, .ref (ad 1)), (2, .int t)]) hx hb dX4_runTrain_11 rfl hl (by decide) rfl (fun ls hl => ?_)
  refine lv_aload_n hx hb dX4_runTrain_12 rfl (lv_at hl 2 rfl) ?_
  refine lv_iload_n hx hb dX4_runTrain_13 rfl (lv_at hl 0 rfl) ?_
  refine g_callV B F P (As := [.int (f_X3_productAt t (rI σ (sid r + 1) t.toNatClampNeg) σ)]) (ct_X3_feedFor (D := D) (ad := ad) (cy := cy) (ba := ba) l (f_X3_productAt t (rI σ (sid r + 1) t.toNatClampNeg) σ) σ ) ok3 (by decide) rfl q297 q298 q299 q2 q300 nk_X3_feedFor rfl ⟨(Nat.le_of_ble_eq_true rfl), (Nat.le_of_ble_eq_true rfl)⟩ hl.1 rfl (Nat.le_of_ble_eq_true rfl) dX4_runTrain_14 ⟨Nat.le_of_ble_eq_true rfl, Nat.le_of_ble_eq_true rfl⟩ (fun H locs P => ?_)
  refine lv_istore (lv' := [(4, .int (f_X3_feedFor (f_X3_productAt t (rI σ (sid r + 1) t.toNatClampNeg) σ) σ)), (3, .int (f_X3_productAt t (rI σ (sid r + 1) t.toNatClampNeg) σ)), (0, .ref (ad (sid r))), (1, .ref (ad 1)), (2, .int t)]) hx hb dX4_runTrain_17 hl (by decide) rfl (fun ls hl => ?_)
  refine lv_aload_n hx hb dX4_runTrain_19 rfl (lv_at hl 2 rfl) ?_
  refine lv_dup hx hb dX4_runTrain_20 rfl ?_
  refine g_geti (k := 5) B F P ok4 (sid_lt0 hr) (kd_s0 r) rfl rfl (by decide) q99 dX4_runTrain_21 ?_
  refine lv_iload_n hx hb dX4_runTrain_24 rfl (lv_at hl 1 rfl) ?_
  refine lv_iadd hx hb dX4_runTrain_25 ?_
  refine g_puti (k := 5) B F P ok4 (sid_lt0 hr) (kd_s0 r) rfl rfl (by decide) rfl (tyX4_ok 5 (by decide)) q99 dX4_runTrain_26 (fun H locs P => ?_)
  refine lv_aload_n hx hb dX4_runTrain_29 rfl (lv_at hl 2 rfl) ?_
  refine lv_dup hx hb dX4_runTrain_30 rfl ?_
  refine g_geti (k := 6) B F P ok4 (sid_lt0 hr) (kd_s0 r) rfl rfl (by decide) q102 dX4_runTrain_31 ?_
  refine lv_iload hx hb dX4_runTrain_34 (lv_at hl 0 rfl) ?_
  refine lv_iadd hx hb dX4_runTrain_36 ?_
  refine g_puti (k := 6) B F P ok4 (sid_lt0 hr) (kd_s0 r) rfl rfl (by decide) rfl (tyX4_ok 6 (by decide)) q102 dX4_runTrain_37 (fun H locs P => ?_)
  refine lv_aload_n hx hb dX4_runTrain_40 rfl (lv_at hl 2 rfl) ?_
  refine lv_dup hx hb dX4_runTrain_41 rfl ?_
  refine g_geti (k := 7) B F P ok4 (sid_lt0 hr) (kd_s0 r) rfl rfl (by decide) q104 dX4_runTrain_42 ?_
  refine lv_iload hx hb dX4_runTrain_45 (lv_at hl 0 rfl) ?_
  refine lv_iload_n hx hb dX4_runTrain_47 rfl (lv_at hl 1 rfl) ?_
  refine lv_isub hx hb dX4_runTrain_48 ?_
  refine lv_iadd hx hb dX4_runTrain_49 ?_
  refine g_puti (k := 7) B F P ok4 (sid_lt0 hr) (kd_s0 r) rfl rfl (by decide) rfl (tyX4_ok 7 (by decide)) q104 dX4_runTrain_50 (fun H locs P => ?_)
  refine lv_aload_n hx hb dX4_runTrain_53 rfl (lv_at hl 2 rfl) ?_
  refine g_getr (k := 0) (t := (sid r + 1)) B F P ok4 (sid_lt0 hr) (kd_s0 r) rfl rfl (by decide) (tg_s r 0) q88 dX4_runTrain_54 ?_
  refine lv_iload_n hx hb dX4_runTrain_57 rfl (lv_at hl 4 rfl) ?_
  refine lv_bipush (v := 90) hx hb dX4_runTrain_58 (by decide) ?_
  refine lv_aload_n hx hb dX4_runTrain_60 rfl (lv_at hl 2 rfl) ?_
  refine g_getr (k := 0) (t := (sid r + 1)) B F P ok4 (sid_lt0 hr) (kd_s0 r) rfl rfl (by decide) (tg_s r 0) q88 dX4_runTrain_61 ?_
  refine lv_iload_n hx hb dX4_runTrain_64 rfl (lv_at hl 4 rfl) ?_
  refine g_ild B F P (sid_lt hr (by decide)) (kd_sc r 1 (by decide) (by decide)) (ln_sc r 1 (by decide)) ht dX4_runTrain_65 ?_
  refine lv_aload_n hx hb dX4_runTrain_66 rfl (lv_at hl 3 rfl) ?_
  refine lv_iload_n hx hb dX4_runTrain_67 rfl (lv_at hl 4 rfl) ?_
  refine g_callV B F P (As := [.int t]) (ct_X3_foulingStep (D := D) (ad := ad) (cy := cy) (ba := ba) l t (sI (sI (sI σ (sid r) 5 ((rI σ (sid r) 5) + (f_X3_productAt t (rI σ (sid r + 1) t.toNatClampNeg) σ))) (sid r) 6 ((rI (sI σ (sid r) 5 ((rI σ (sid r) 5) + (f_X3_productAt t (rI σ (sid r + 1) t.toNatClampNeg) σ))) (sid r) 6) + (f_X3_feedFor (f_X3_productAt t (rI σ (sid r + 1) t.toNatClampNeg) σ) σ))) (sid r) 7 ((rI (sI (sI σ (sid r) 5 ((rI σ (sid r) 5) + (f_X3_productAt t (rI σ (sid r + 1) t.toNatClampNeg) σ))) (sid r) 6 ((rI (sI σ (sid r) 5 ((rI σ (sid r) 5) + (f_X3_productAt t (rI σ (sid r + 1) t.toNatClampNeg) σ))) (sid r) 6) + (f_X3_feedFor (f_X3_productAt t (rI σ (sid r + 1) t.toNatClampNeg) σ) σ))) (sid r) 7) + ((f_X3_feedFor (f_X3_productAt t (rI σ (sid r + 1) t.toNatClampNeg) σ) σ) - (f_X3_productAt t (rI σ (sid r + 1) t.toNatClampNeg) σ)))) ht) ok3 (by decide) rfl q301 q302 q303 q2 q304 nk_X3_foulingStep rfl ⟨(Nat.le_of_ble_eq_true rfl), (Nat.le_of_ble_eq_true rfl)⟩ hl.1 rfl (Nat.le_of_ble_eq_true rfl) dX4_runTrain_68 ⟨Nat.le_of_ble_eq_true rfl, Nat.le_of_ble_eq_true rfl⟩ (fun H locs P => ?_)
  refine lv_iadd hx hb dX4_runTrain_71 ?_
  refine g_min B hl.1 q286 q287 q18 q288 (Nat.le_of_ble_eq_true rfl) (Nat.le_of_ble_eq_true rfl) (Nat.le_of_ble_eq_true rfl) (Nat.le_of_ble_eq_true rfl) dX4_runTrain_72 ?_
  refine g_ist B F P (sid_lt hr (by decide)) (kd_sc r 1 (by decide) (by decide)) (ln_sc r 1 (by decide)) ht dX4_runTrain_75 (fun H locs P => ?_)
  refine lv_aload_n hx hb dX4_runTrain_76 rfl (lv_at hl 3 rfl) ?_
  refine lv_iload_n hx hb dX4_runTrain_77 rfl (lv_at hl 4 rfl) ?_
  refine lv_iload hx hb dX4_runTrain_78 (lv_at hl 0 rfl) ?_
  refine g_callV B F P (As := [.int t, .int (f_X3_feedFor (f_X3_productAt t (rI σ (sid r + 1) t.toNatClampNeg) σ) σ)]) (ct_X3_energyFor (D := D) (ad := ad) (cy := cy) (ba := ba) l t (f_X3_feedFor (f_X3_productAt t (rI σ (sid r + 1) t.toNatClampNeg) σ) σ) (sI (sI (sI (sI σ (sid r) 5 ((rI σ (sid r) 5) + (f_X3_productAt t (rI σ (sid r + 1) t.toNatClampNeg) σ))) (sid r) 6 ((rI (sI σ (sid r) 5 ((rI σ (sid r) 5) + (f_X3_productAt t (rI σ (sid r + 1) t.toNatClampNeg) σ))) (sid r) 6) + (f_X3_feedFor (f_X3_productAt t (rI σ (sid r + 1) t.toNatClampNeg) σ) σ))) (sid r) 7 ((rI (sI (sI σ (sid r) 5 ((rI σ (sid r) 5) + (f_X3_productAt t (rI σ (sid r + 1) t.toNatClampNeg) σ))) (sid r) 6 ((rI (sI σ (sid r) 5 ((rI σ (sid r) 5) + (f_X3_productAt t (rI σ (sid r + 1) t.toNatClampNeg) σ))) (sid r) 6) + (f_X3_feedFor (f_X3_productAt t (rI σ (sid r + 1) t.toNatClampNeg) σ) σ))) (sid r) 7) + ((f_X3_feedFor (f_X3_productAt t (rI σ (sid r + 1) t.toNatClampNeg) σ) σ) - (f_X3_productAt t (rI σ (sid r + 1) t.toNatClampNeg) σ)))) (sid r + 1) t.toNatClampNeg (if ((rI (sI (sI (sI σ (sid r) 5 ((rI σ (sid r) 5) + (f_X3_productAt t (rI σ (sid r + 1) t.toNatClampNeg) σ))) (sid r) 6 ((rI (sI σ (sid r) 5 ((rI σ (sid r) 5) + (f_X3_productAt t (rI σ (sid r + 1) t.toNatClampNeg) σ))) (sid r) 6) + (f_X3_feedFor (f_X3_productAt t (rI σ (sid r + 1) t.toNatClampNeg) σ) σ))) (sid r) 7 ((rI (sI (sI σ (sid r) 5 ((rI σ (sid r) 5) + (f_X3_productAt t (rI σ (sid r + 1) t.toNatClampNeg) σ))) (sid r) 6 ((rI (sI σ (sid r) 5 ((rI σ (sid r) 5) + (f_X3_productAt t (rI σ (sid r + 1) t.toNatClampNeg) σ))) (sid r) 6) + (f_X3_feedFor (f_X3_productAt t (rI σ (sid r + 1) t.toNatClampNeg) σ) σ))) (sid r) 7) + ((f_X3_feedFor (f_X3_productAt t (rI σ (sid r + 1) t.toNatClampNeg) σ) σ) - (f_X3_productAt t (rI σ (sid r + 1) t.toNatClampNeg) σ)))) (sid r + 1) t.toNatClampNeg) + (f_X3_foulingStep t (sI (sI (sI σ (sid r) 5 ((rI σ (sid r) 5) + (f_X3_productAt t (rI σ (sid r + 1) t.toNatClampNeg) σ))) (sid r) 6 ((rI (sI σ (sid r) 5 ((rI σ (sid r) 5) + (f_X3_productAt t (rI σ (sid r + 1) t.toNatClampNeg) σ))) (sid r) 6) + (f_X3_feedFor (f_X3_productAt t (rI σ (sid r + 1) t.toNatClampNeg) σ) σ))) (sid r) 7 ((rI (sI (sI σ (sid r) 5 ((rI σ (sid r) 5) + (f_X3_productAt t (rI σ (sid r + 1) t.toNatClampNeg) σ))) (sid r) 6 ((rI (sI σ (sid r) 5 ((rI σ (sid r) 5) + (f_X3_productAt t (rI σ (sid r + 1) t.toNatClampNeg) σ))) (sid r) 6) + (f_X3_feedFor (f_X3_productAt t (rI σ (sid r + 1) t.toNatClampNeg) σ) σ))) (sid r) 7) + ((f_X3_feedFor (f_X3_productAt t (rI σ (sid r + 1) t.toNatClampNeg) σ) σ) - (f_X3_productAt t (rI σ (sid r + 1) t.toNatClampNeg) σ)))))) < 90 then ((rI (sI (sI (sI σ (sid r) 5 ((rI σ (sid r) 5) + (f_X3_productAt t (rI σ (sid r + 1) t.toNatClampNeg) σ))) (sid r) 6 ((rI (sI σ (sid r) 5 ((rI σ (sid r) 5) + (f_X3_productAt t (rI σ (sid r + 1) t.toNatClampNeg) σ))) (sid r) 6) + (f_X3_feedFor (f_X3_productAt t (rI σ (sid r + 1) t.toNatClampNeg) σ) σ))) (sid r) 7 ((rI (sI (sI σ (sid r) 5 ((rI σ (sid r) 5) + (f_X3_productAt t (rI σ (sid r + 1) t.toNatClampNeg) σ))) (sid r) 6 ((rI (sI σ (sid r) 5 ((rI σ (sid r) 5) + (f_X3_productAt t (rI σ (sid r + 1) t.toNatClampNeg) σ))) (sid r) 6) + (f_X3_feedFor (f_X3_productAt t (rI σ (sid r + 1) t.toNatClampNeg) σ) σ))) (sid r) 7) + ((f_X3_feedFor (f_X3_productAt t (rI σ (sid r + 1) t.toNatClampNeg) σ) σ) - (f_X3_productAt t (rI σ (sid r + 1) t.toNatClampNeg) σ)))) (sid r + 1) t.toNatClampNeg) + (f_X3_foulingStep t (sI (sI (sI σ (sid r) 5 ((rI σ (sid r) 5) + (f_X3_productAt t (rI σ (sid r + 1) t.toNatClampNeg) σ))) (sid r) 6 ((rI (sI σ (sid r) 5 ((rI σ (sid r) 5) + (f_X3_productAt t (rI σ (sid r + 1) t.toNatClampNeg) σ))) (sid r) 6) + (f_X3_feedFor (f_X3_productAt t (rI σ (sid r + 1) t.toNatClampNeg) σ) σ))) (sid r) 7 ((rI (sI (sI σ (sid r) 5 ((rI σ (sid r) 5) + (f_X3_productAt t (rI σ (sid r + 1) t.toNatClampNeg) σ))) (sid r) 6 ((rI (sI σ (sid r) 5 ((rI σ (sid r) 5) + (f_X3_productAt t (rI σ (sid r + 1) t.toNatClampNeg) σ))) (sid r) 6) + (f_X3_feedFor (f_X3_productAt t (rI σ (sid r + 1) t.toNatClampNeg) σ) σ))) (sid r) 7) + ((f_X3_feedFor (f_X3_productAt t (rI σ (sid r + 1) t.toNatClampNeg) σ) σ) - (f_X3_productAt t (rI σ (sid r + 1) t.toNatClampNeg) σ)))))) else 90)) ht) ok3 (by decide) rfl q305 q306 q307 q2 q308 nk_X3_energyFor rfl ⟨(Nat.le_of_ble_eq_true rfl), (Nat.le_of_ble_eq_true rfl)⟩ hl.1 rfl (Nat.le_of_ble_eq_true rfl) dX4_runTrain_80 ⟨Nat.le_of_ble_eq_true rfl, Nat.le_of_ble_eq_true rfl⟩ (fun H locs P => ?_)
  exact g_reti B P (by rw [← hE]) (by rw [← hE]) hrt hlk dX4_runTrain_83
theorem fr_X4_copy (r r2 : Nat) (σ : Sg) : Fr r σ (f_X4_copy r r2 σ) := by
  unfold f_X4_copy
  (repeat first | exact Fr.refl | refine Fr.sI ?_ (by omega) | refine Fr.sC ?_ (by omega))

theorem fr_X4_goOnCleaning (r : Nat) (t : Int32) (σ : Sg) : Fr r σ (f_X4_goOnCleaning r t σ) := by
  unfold f_X4_goOnCleaning
  split <;> (repeat first | exact Fr.refl | refine Fr.sI ?_ (by omega) | refine Fr.sC ?_ (by omega))

theorem fr_X4_runTrain (r : Nat) (t : Int32) (σ : Sg) : Fr r σ (f_X4_runTrain r t σ).2 := by
  unfold f_X4_runTrain
  show Fr r σ _
  (repeat first | exact Fr.refl | refine Fr.sI ?_ (by omega) | refine Fr.sC ?_ (by omega))

def f_X4_pour_l7 (r : Nat) : Nat → Int32 → Int32 → Sg → Sg
  | 0, _, _, σ7 => σ7
  | n7 + 1, x3_7, x2_7, σ7 => if (rI σ7 1 6) ≤ x3_7 then (sI σ7 (sid r) 9 x2_7) else (f_X4_pour_l7 r n7 (x3_7 + 1) (x2_7 - (if ((rI σ7 4 x3_7.toNatClampNeg) - (rI σ7 (sid r + 4) x3_7.toNatClampNeg)) < x2_7 then ((rI σ7 4 x3_7.toNatClampNeg) - (rI σ7 (sid r + 4) x3_7.toNatClampNeg)) else x2_7)) (sI σ7 (sid r + 4) x3_7.toNatClampNeg ((rI σ7 (sid r + 4) x3_7.toNatClampNeg) + (if ((rI σ7 4 x3_7.toNatClampNeg) - (rI σ7 (sid r + 4) x3_7.toNatClampNeg)) < x2_7 then ((rI σ7 4 x3_7.toNatClampNeg) - (rI σ7 (sid r + 4) x3_7.toNatClampNeg)) else x2_7))))
def f_X4_pour (r : Nat) (σ : Sg) : Sg := f_X4_pour_l7 r 4 0 (rI σ (sid r) 5) σ
set_option maxHeartbeats 4000000 in
set_option maxRecDepth 100000 in
theorem ct_X4_pour {D : va_G} {ad : Nat → Nat} {cy : Nat → ClassId} {ba : Nat} (l : Launch) (r : Nat) (σ : Sg) (hr : r < 8) (hG : GS σ) : Ct D ad cy ba l 0 yX4_pour cX4_pour 5 none [.ref (ad (sid r)), .ref (ad 1)] σ none (f_X4_pour r σ) := by
  generalize hE : f_X4_pour r σ = Z
  dsimp only [f_X4_pour] at hE
  refine Ct.of (by decide +kernel) (Nat.le_of_ble_eq_true rfl) ?_
  intro p e s m below meth c ls B F P hrt hlk hl
  have hx := B.1
  have hb := B.2.1
  have hl : lv_has ls 5 [(0, .ref (ad (sid r))), (1, .ref (ad 1))] := hl
  refine lv_aload_n hx hb dX4_pour_0 rfl (lv_at hl 0 rfl) ?_
  refine g_geti (k := 5) B F P ok4 (sid_lt0 hr) (kd_s0 r) rfl rfl (by decide) q99 dX4_pour_1 ?_
  refine lv_istore_n (lv' := [(2, .int (rI σ (sid r) 5)), (0, .ref (ad (sid r))), (1, .ref (ad 1))]) hx hb dX4_pour_4 rfl hl (by decide) rfl (fun ls hl => ?_)
  refine lv_iconst (v := 0) hx hb dX4_pour_5 (by decide) ?_
  refine lv_istore_n (lv' := [(3, .int 0), (2, .int (rI σ (sid r) 5)), (0, .ref (ad (sid r))), (1, .ref (ad 1))]) hx hb dX4_pour_6 rfl hl (by decide) rfl (fun ls hl => ?_)
  have L7 : ∀ (n7 : Nat) (x3_7 : Int32) (x2_7 : Int32) (σ7 : Sg), LI 3 n7 x3_7 → GS σ7 → f_X4_pour_l7 r n7 x3_7 x2_7 σ7 = Z → ∀ (H : Heap) (locs : List Loc), Wo D ad cy ba s σ7 H locs → ∀ (ls : Array Slot), lv_has ls 5 [(3, .int x3_7), (2, .int x2_7), (0, .ref (ad (sid r))), (1, .ref (ad 1))] → W p l e (rmK 0 0 0) s m ([.ref (ad (sid r)), .ref (ad 1)] : List Value).toArray below meth c H locs 0 0 (MQ below (Qe D ad cy ba none Z) ([.ref (ad (sid r)), .ref (ad 1)] : List Value).toArray s 0 0 (fun q => ba ≤ q)) (F0 m 7 ls []) := by
    clear hE P hl
    intro n7
    induction n7 with
    | zero => intro x3_7 x2_7 σ7 hI7 hG7 hE; exact absurd hI7 LI.zero
    | succ n7 ih7 =>
      intro x3_7 x2_7 σ7 hI7 hG7 hE H locs P ls hl
      dsimp only [f_X4_pour_l7] at hE
      refine lv_iload_n hx hb dX4_pour_7 rfl (lv_at hl 0 rfl) ?_
      refine lv_aload_n hx hb dX4_pour_8 rfl (lv_at hl 3 rfl) ?_
      refine g_geti (k := 6) B F P ok3 (by decide) rfl rfl rfl (by decide) q56 dX4_pour_9 ?_
      refine lv_icmp_ge (tgt := 56) hx hb dX4_pour_12 (by decide) (fun c12 => ?_) (fun c12 => ?_)
      · rw [if_pos c12] at hE
        refine lv_aload_n hx hb dX4_pour_56 rfl (lv_at hl 2 rfl) ?_
        refine lv_iload_n hx hb dX4_pour_57 rfl (lv_at hl 1 rfl) ?_
        refine g_puti (k := 9) B F P ok4 (sid_lt0 hr) (kd_s0 r) rfl rfl (by decide) rfl (tyX4_ok 9 (by decide)) q109 dX4_pour_58 (fun H locs P => ?_)
        exact g_retv B P rfl (by rw [← hE]) hrt hlk dX4_pour_61
      · rw [if_neg c12] at hE
        refine lv_iload_n hx hb dX4_pour_15 rfl (lv_at hl 1 rfl) ?_
        refine lv_aload_n hx hb dX4_pour_16 rfl (lv_at hl 3 rfl) ?_
        refine g_getr (k := 2) (t := 4) B F P ok3 (by decide) rfl rfl rfl (by decide) rfl q46 dX4_pour_17 ?_
        refine lv_iload_n hx hb dX4_pour_20 rfl (lv_at hl 0 rfl) ?_
        refine g_ild B F P (by decide) rfl rfl (hI7.into c12 hG7.2) dX4_pour_21 ?_
        refine lv_aload_n hx hb dX4_pour_22 rfl (lv_at hl 2 rfl) ?_
        refine g_getr (k := 3) (t := (sid r + 4)) B F P ok4 (sid_lt0 hr) (kd_s0 r) rfl rfl (by decide) (tg_s r 3) q94 dX4_pour_23 ?_
        refine lv_iload_n hx hb dX4_pour_26 rfl (lv_at hl 0 rfl) ?_
        refine g_ild B F P (sid_lt hr (by decide)) (kd_sc r 4 (by decide) (by decide)) (ln_sc r 4 (by decide)) (hI7.into c12 hG7.2) dX4_pour_27 ?_
        refine lv_isub hx hb dX4_pour_28 ?_
        refine g_min B hl.1 q286 q287 q18 q288 (Nat.le_of_ble_eq_true rfl) (Nat.le_of_ble_eq_true rfl) (Nat.le_of_ble_eq_true rfl) (Nat.le_of_ble_eq_true rfl) dX4_pour_29 ?_
        refine lv_istore (lv' := [(4, .int (if ((rI σ7 4 x3_7.toNatClampNeg) - (rI σ7 (sid r + 4) x3_7.toNatClampNeg)) < x2_7 then ((rI σ7 4 x3_7.toNatClampNeg) - (rI σ7 (sid r + 4) x3_7.toNatClampNeg)) else x2_7)), (3, .int x3_7), (2, .int x2_7), (0, .ref (ad (sid r))), (1, .ref (ad 1))]) hx hb dX4_pour_32 hl (by decide) rfl (fun ls hl => ?_)
        refine lv_aload_n hx hb dX4_pour_34 rfl (lv_at hl 3 rfl) ?_
        refine g_getr (k := 3) (t := (sid r + 4)) B F P ok4 (sid_lt0 hr) (kd_s0 r) rfl rfl (by decide) (tg_s r 3) q94 dX4_pour_35 ?_
        refine lv_iload_n hx hb dX4_pour_38 rfl (lv_at hl 1 rfl) ?_
        refine lv_dup2_11 hx hb dX4_pour_39 rfl rfl ?_
        refine g_ild B F P (sid_lt hr (by decide)) (kd_sc r 4 (by decide) (by decide)) (ln_sc r 4 (by decide)) (hI7.into c12 hG7.2) dX4_pour_40 ?_
        refine lv_iload hx hb dX4_pour_41 (lv_at hl 0 rfl) ?_
        refine lv_iadd hx hb dX4_pour_43 ?_
        refine g_ist B F P (sid_lt hr (by decide)) (kd_sc r 4 (by decide) (by decide)) (ln_sc r 4 (by decide)) (hI7.into c12 hG7.2) dX4_pour_44 (fun H locs P => ?_)
        refine lv_iload_n hx hb dX4_pour_45 rfl (lv_at hl 2 rfl) ?_
        refine lv_iload hx hb dX4_pour_46 (lv_at hl 0 rfl) ?_
        refine lv_isub hx hb dX4_pour_48 ?_
        refine lv_istore_n (lv' := [(2, .int (x2_7 - (if ((rI σ7 4 x3_7.toNatClampNeg) - (rI σ7 (sid r + 4) x3_7.toNatClampNeg)) < x2_7 then ((rI σ7 4 x3_7.toNatClampNeg) - (rI σ7 (sid r + 4) x3_7.toNatClampNeg)) else x2_7))), (4, .int (if ((rI σ7 4 x3_7.toNatClampNeg) - (rI σ7 (sid r + 4) x3_7.toNatClampNeg)) < x2_7 then ((rI σ7 4 x3_7.toNatClampNeg) - (rI σ7 (sid r + 4) x3_7.toNatClampNeg)) else x2_7)), (3, .int x3_7), (0, .ref (ad (sid r))), (1, .ref (ad 1))]) hx hb dX4_pour_49 rfl hl (by decide) rfl (fun ls hl => ?_)
        refine lv_iinc (v := (x3_7 + 1)) (lv' := [(3, .int (x3_7 + 1)), (2, .int (x2_7 - (if ((rI σ7 4 x3_7.toNatClampNeg) - (rI σ7 (sid r + 4) x3_7.toNatClampNeg)) < x2_7 then ((rI σ7 4 x3_7.toNatClampNeg) - (rI σ7 (sid r + 4) x3_7.toNatClampNeg)) else x2_7))), (4, .int (if ((rI σ7 4 x3_7.toNatClampNeg) - (rI σ7 (sid r + 4) x3_7.toNatClampNeg)) < x2_7 then ((rI σ7 4 x3_7.toNatClampNeg) - (rI σ7 (sid r + 4) x3_7.toNatClampNeg)) else x2_7)), (0, .ref (ad (sid r))), (1, .ref (ad 1))]) hx hb dX4_pour_50 hl (k := 2) rfl (by first | rfl | decide) (by decide) rfl (fun ls hl => ?_)
        refine lv_goto (tgt := 7) hx hb dX4_pour_53 (by decide) ?_
        exact ih7 (x3_7 + 1) (x2_7 - (if ((rI σ7 4 x3_7.toNatClampNeg) - (rI σ7 (sid r + 4) x3_7.toNatClampNeg)) < x2_7 then ((rI σ7 4 x3_7.toNatClampNeg) - (rI σ7 (sid r + 4) x3_7.toNatClampNeg)) else x2_7)) (sI σ7 (sid r + 4) x3_7.toNatClampNeg ((rI σ7 (sid r + 4) x3_7.toNatClampNeg) + (if ((rI σ7 4 x3_7.toNatClampNeg) - (rI σ7 (sid r + 4) x3_7.toNatClampNeg)) < x2_7 then ((rI σ7 4 x3_7.toNatClampNeg) - (rI σ7 (sid r + 4) x3_7.toNatClampNeg)) else x2_7))) (hI7.next c12 hG7.2) (by first | exact hG7 | exact hG7.fr (r := r) (by repeat first | exact Fr.refl | refine Fr.sI ?_ (by omega) | refine Fr.sC ?_ (by omega) | exact fr_X4_goOnCleaning _ _ _ | exact fr_X4_runTrain _ _ _)) hE _ _ P _ (lv_sub hl [0, 1, 3, 4] rfl)
  exact L7 4 0 (rI σ (sid r) 5) σ LI.start (hG.fr (r := r) (by repeat first | exact Fr.refl | refine Fr.sI ?_ (by omega) | refine Fr.sC ?_ (by omega))) hE _ _ P _ (lv_sub hl [0, 1, 2, 3] rfl)
def f_X4_serve_l12 (r : Nat) (slot : Int32) : Nat → Int32 → Sg → Sg
  | 0, _, σ12 => σ12
  | n12 + 1, x3_12, σ12 => if (rI σ12 1 6) ≤ x3_12 then (sI σ12 (sid r) 12 ((rI σ12 (sid r) 11) - (rI σ12 (sid r) 10))) else (f_X4_serve_l12 r slot n12 (x3_12 + 1) (sI (sI (sI (sI σ12 (sid r + 4) x3_12.toNatClampNeg ((rI σ12 (sid r + 4) x3_12.toNatClampNeg) - (if (rI σ12 (sid r + 4) x3_12.toNatClampNeg) < (rI σ12 (6 + x3_12.toNatClampNeg) slot.toNatClampNeg) then (rI σ12 (sid r + 4) x3_12.toNatClampNeg) else (rI σ12 (6 + x3_12.toNatClampNeg) slot.toNatClampNeg)))) (sid r + 5) x3_12.toNatClampNeg ((rI σ12 (6 + x3_12.toNatClampNeg) slot.toNatClampNeg) - (if (rI σ12 (sid r + 4) x3_12.toNatClampNeg) < (rI σ12 (6 + x3_12.toNatClampNeg) slot.toNatClampNeg) then (rI σ12 (sid r + 4) x3_12.toNatClampNeg) else (rI σ12 (6 + x3_12.toNatClampNeg) slot.toNatClampNeg)))) (sid r) 10 ((rI (sI (sI σ12 (sid r + 4) x3_12.toNatClampNeg ((rI σ12 (sid r + 4) x3_12.toNatClampNeg) - (if (rI σ12 (sid r + 4) x3_12.toNatClampNeg) < (rI σ12 (6 + x3_12.toNatClampNeg) slot.toNatClampNeg) then (rI σ12 (sid r + 4) x3_12.toNatClampNeg) else (rI σ12 (6 + x3_12.toNatClampNeg) slot.toNatClampNeg)))) (sid r + 5) x3_12.toNatClampNeg ((rI σ12 (6 + x3_12.toNatClampNeg) slot.toNatClampNeg) - (if (rI σ12 (sid r + 4) x3_12.toNatClampNeg) < (rI σ12 (6 + x3_12.toNatClampNeg) slot.toNatClampNeg) then (rI σ12 (sid r + 4) x3_12.toNatClampNeg) else (rI σ12 (6 + x3_12.toNatClampNeg) slot.toNatClampNeg)))) (sid r) 10) + (if (rI σ12 (sid r + 4) x3_12.toNatClampNeg) < (rI σ12 (6 + x3_12.toNatClampNeg) slot.toNatClampNeg) then (rI σ12 (sid r + 4) x3_12.toNatClampNeg) else (rI σ12 (6 + x3_12.toNatClampNeg) slot.toNatClampNeg)))) (sid r) 11 ((rI (sI (sI (sI σ12 (sid r + 4) x3_12.toNatClampNeg ((rI σ12 (sid r + 4) x3_12.toNatClampNeg) - (if (rI σ12 (sid r + 4) x3_12.toNatClampNeg) < (rI σ12 (6 + x3_12.toNatClampNeg) slot.toNatClampNeg) then (rI σ12 (sid r + 4) x3_12.toNatClampNeg) else (rI σ12 (6 + x3_12.toNatClampNeg) slot.toNatClampNeg)))) (sid r + 5) x3_12.toNatClampNeg ((rI σ12 (6 + x3_12.toNatClampNeg) slot.toNatClampNeg) - (if (rI σ12 (sid r + 4) x3_12.toNatClampNeg) < (rI σ12 (6 + x3_12.toNatClampNeg) slot.toNatClampNeg) then (rI σ12 (sid r + 4) x3_12.toNatClampNeg) else (rI σ12 (6 + x3_12.toNatClampNeg) slot.toNatClampNeg)))) (sid r) 10 ((rI (sI (sI σ12 (sid r + 4) x3_12.toNatClampNeg ((rI σ12 (sid r + 4) x3_12.toNatClampNeg) - (if (rI σ12 (sid r + 4) x3_12.toNatClampNeg) < (rI σ12 (6 + x3_12.toNatClampNeg) slot.toNatClampNeg) then (rI σ12 (sid r + 4) x3_12.toNatClampNeg) else (rI σ12 (6 + x3_12.toNatClampNeg) slot.toNatClampNeg)))) (sid r + 5) x3_12.toNatClampNeg ((rI σ12 (6 + x3_12.toNatClampNeg) slot.toNatClampNeg) - (if (rI σ12 (sid r + 4) x3_12.toNatClampNeg) < (rI σ12 (6 + x3_12.toNatClampNeg) slot.toNatClampNeg) then (rI σ12 (sid r + 4) x3_12.toNatClampNeg) else (rI σ12 (6 + x3_12.toNatClampNeg) slot.toNatClampNeg)))) (sid r) 10) + (if (rI σ12 (sid r + 4) x3_12.toNatClampNeg) < (rI σ12 (6 + x3_12.toNatClampNeg) slot.toNatClampNeg) then (rI σ12 (sid r + 4) x3_12.toNatClampNeg) else (rI σ12 (6 + x3_12.toNatClampNeg) slot.toNatClampNeg)))) (sid r) 11) + (rI σ12 (6 + x3_12.toNatClampNeg) slot.toNatClampNeg))))
def f_X4_serve (r : Nat) (slot : Int32) (σ : Sg) : Sg := f_X4_serve_l12 r slot 4 0 (sI (sI σ (sid r) 10 0) (sid r) 11 0)
set_option maxHeartbeats 4000000 in
set_option maxRecDepth 100000 in
theorem ct_X4_serve {D : va_G} {ad : Nat → Nat} {cy : Nat → ClassId} {ba : Nat} (l : Launch) (r : Nat) (slot : Int32) (σ : Sg) (hr : r < 8) (hs : vp_in slot 48) (hG : GS σ) : Ct D ad cy ba l 0 yX4_serve cX4_serve 6 none [.ref (ad (sid r)), .ref (ad 1), .int slot] σ none (f_X4_serve r slot σ) := by
  generalize hE : f_X4_serve r slot σ = Z
  dsimp only [f_X4_serve] at hE
  refine Ct.of (by decide +kernel) (Nat.le_of_ble_eq_true rfl) ?_
  intro p e s m below meth c ls B F P hrt hlk hl
  have hx := B.1
  have hb := B.2.1
  have hl : lv_has ls 6 [(0, .ref (ad (sid r))), (1, .ref (ad 1)), (2, .int slot)] := hl
  refine lv_aload_n hx hb dX4_serve_0 rfl (lv_at hl 0 rfl) ?_
  refine lv_iconst (v := 0) hx hb dX4_serve_1 (by decide) ?_
  refine g_puti (k := 10) B F P ok4 (sid_lt0 hr) (kd_s0 r) rfl rfl (by decide) rfl (tyX4_ok 10 (by decide)) q111 dX4_serve_2 (fun H locs P => ?_)
  refine lv_aload_n hx hb dX4_serve_5 rfl (lv_at hl 0 rfl) ?_
  refine lv_iconst (v := 0) hx hb dX4_serve_6 (by decide) ?_
  refine g_puti (k := 11) B F P ok4 (sid_lt0 hr) (kd_s0 r) rfl rfl (by decide) rfl (tyX4_ok 11 (by decide)) q113 dX4_serve_7 (fun H locs P => ?_)
  refine lv_iconst (v := 0) hx hb dX4_serve_10 (by decide) ?_
  refine lv_istore_n (lv' := [(3, .int 0), (0, .ref (ad (sid r))), (1, .ref (ad 1)), (2, .int slot)]) hx hb dX4_serve_11 rfl hl (by decide) rfl (fun ls hl => ?_)
  have L12 : ∀ (n12 : Nat) (x3_12 : Int32) (σ12 : Sg), LI 3 n12 x3_12 → GS σ12 → f_X4_serve_l12 r slot n12 x3_12 σ12 = Z → ∀ (H : Heap) (locs : List Loc), Wo D ad cy ba s σ12 H locs → ∀ (ls : Array Slot), lv_has ls 6 [(3, .int x3_12), (0, .ref (ad (sid r))), (1, .ref (ad 1)), (2, .int slot)] → W p l e (rmK 0 0 0) s m ([.ref (ad (sid r)), .ref (ad 1), .int slot] : List Value).toArray below meth c H locs 0 0 (MQ below (Qe D ad cy ba none Z) ([.ref (ad (sid r)), .ref (ad 1), .int slot] : List Value).toArray s 0 0 (fun q => ba ≤ q)) (F0 m 12 ls []) := by
    clear hE P hl
    intro n12
    induction n12 with
    | zero => intro x3_12 σ12 hI12 hG12 hE; exact absurd hI12 LI.zero
    | succ n12 ih12 =>
      intro x3_12 σ12 hI12 hG12 hE H locs P ls hl
      dsimp only [f_X4_serve_l12] at hE
      refine lv_iload_n hx hb dX4_serve_12 rfl (lv_at hl 0 rfl) ?_
      refine lv_aload_n hx hb dX4_serve_13 rfl (lv_at hl 2 rfl) ?_
      refine g_geti (k := 6) B F P ok3 (by decide) rfl rfl rfl (by decide) q56 dX4_serve_14 ?_
      refine lv_icmp_ge (tgt := 93) hx hb dX4_serve_17 (by decide) (fun c17 => ?_) (fun c17 => ?_)
      · rw [if_pos c17] at hE
        refine lv_aload_n hx hb dX4_serve_93 rfl (lv_at hl 1 rfl) ?_
        refine lv_aload_n hx hb dX4_serve_94 rfl (lv_at hl 1 rfl) ?_
        refine g_geti (k := 11) B F P ok4 (sid_lt0 hr) (kd_s0 r) rfl rfl (by decide) q113 dX4_serve_95 ?_
        refine lv_aload_n hx hb dX4_serve_98 rfl (lv_at hl 1 rfl) ?_
        refine g_geti (k := 10) B F P ok4 (sid_lt0 hr) (kd_s0 r) rfl rfl (by decide) q111 dX4_serve_99 ?_
        refine lv_isub hx hb dX4_serve_102 ?_
        refine g_puti (k := 12) B F P ok4 (sid_lt0 hr) (kd_s0 r) rfl rfl (by decide) rfl (tyX4_ok 12 (by decide)) q114 dX4_serve_103 (fun H locs P => ?_)
        exact g_retv B P rfl (by rw [← hE]) hrt hlk dX4_serve_106
      · rw [if_neg c17] at hE
        refine lv_aload_n hx hb dX4_serve_20 rfl (lv_at hl 2 rfl) ?_
        refine g_getr (k := 3) (t := 5) B F P ok3 (by decide) rfl rfl rfl (by decide) rfl q49 dX4_serve_21 ?_
        refine lv_iload_n hx hb dX4_serve_24 rfl (lv_at hl 0 rfl) ?_
        refine g_rld (t := (6 + x3_12.toNatClampNeg)) B F P (by decide) rfl (by decide) rfl (hI12.into c17 hG12.2) rfl dX4_serve_25 ?_
        refine lv_iload_n hx hb dX4_serve_26 rfl (lv_at hl 3 rfl) ?_
        refine g_ild B F P (dem_lt (hI12.into c17 hG12.2)) (dem_kd (hI12.into c17 hG12.2)) (dem_ln (hI12.into c17 hG12.2)) hs dX4_serve_27 ?_
        refine lv_istore (lv' := [(4, .int (rI σ12 (6 + x3_12.toNatClampNeg) slot.toNatClampNeg)), (3, .int x3_12), (0, .ref (ad (sid r))), (1, .ref (ad 1)), (2, .int slot)]) hx hb dX4_serve_28 hl (by decide) rfl (fun ls hl => ?_)
        refine lv_iload hx hb dX4_serve_30 (lv_at hl 0 rfl) ?_
        refine lv_aload_n hx hb dX4_serve_32 rfl (lv_at hl 2 rfl) ?_
        refine g_getr (k := 3) (t := (sid r + 4)) B F P ok4 (sid_lt0 hr) (kd_s0 r) rfl rfl (by decide) (tg_s r 3) q94 dX4_serve_33 ?_
        refine lv_iload_n hx hb dX4_serve_36 rfl (lv_at hl 1 rfl) ?_
        refine g_ild B F P (sid_lt hr (by decide)) (kd_sc r 4 (by decide) (by decide)) (ln_sc r 4 (by decide)) (hI12.into c17 hG12.2) dX4_serve_37 ?_
        refine g_min B hl.1 q286 q287 q18 q288 (Nat.le_of_ble_eq_true rfl) (Nat.le_of_ble_eq_true rfl) (Nat.le_of_ble_eq_true rfl) (Nat.le_of_ble_eq_true rfl) dX4_serve_38 ?_
        refine lv_istore (lv' := [(5, .int (if (rI σ12 (sid r + 4) x3_12.toNatClampNeg) < (rI σ12 (6 + x3_12.toNatClampNeg) slot.toNatClampNeg) then (rI σ12 (sid r + 4) x3_12.toNatClampNeg) else (rI σ12 (6 + x3_12.toNatClampNeg) slot.toNatClampNeg))), (4, .int (rI σ12 (6 + x3_12.toNatClampNeg) slot.toNatClampNeg)), (3, .int x3_12), (0, .ref (ad (sid r))), (1, .ref (ad 1)), (2, .int slot)]) hx hb dX4_serve_41 hl (by decide) rfl (fun ls hl => ?_)
        refine lv_aload_n hx hb dX4_serve_43 rfl (lv_at hl 3 rfl) ?_
        refine g_getr (k := 3) (t := (sid r + 4)) B F P ok4 (sid_lt0 hr) (kd_s0 r) rfl rfl (by decide) (tg_s r 3) q94 dX4_serve_44 ?_
        refine lv_iload_n hx hb dX4_serve_47 rfl (lv_at hl 2 rfl) ?_
        refine lv_dup2_11 hx hb dX4_serve_48 rfl rfl ?_
        refine g_ild B F P (sid_lt hr (by decide)) (kd_sc r 4 (by decide) (by decide)) (ln_sc r 4 (by decide)) (hI12.into c17 hG12.2) dX4_serve_49 ?_
        refine lv_iload hx hb dX4_serve_50 (lv_at hl 0 rfl) ?_
        refine lv_isub hx hb dX4_serve_52 ?_
        refine g_ist B F P (sid_lt hr (by decide)) (kd_sc r 4 (by decide) (by decide)) (ln_sc r 4 (by decide)) (hI12.into c17 hG12.2) dX4_serve_53 (fun H locs P => ?_)
        refine lv_aload_n hx hb dX4_serve_54 rfl (lv_at hl 3 rfl) ?_
        refine g_getr (k := 4) (t := (sid r + 5)) B F P ok4 (sid_lt0 hr) (kd_s0 r) rfl rfl (by decide) (tg_s r 4) q96 dX4_serve_55 ?_
        refine lv_iload_n hx hb dX4_serve_58 rfl (lv_at hl 2 rfl) ?_
        refine lv_iload hx hb dX4_serve_59 (lv_at hl 1 rfl) ?_
        refine lv_iload hx hb dX4_serve_61 (lv_at hl 0 rfl) ?_
        refine lv_isub hx hb dX4_serve_63 ?_
        refine g_ist B F P (sid_lt hr (by decide)) (kd_sc r 5 (by decide) (by decide)) (ln_sc r 5 (by decide)) (hI12.into c17 hG12.2) dX4_serve_64 (fun H locs P => ?_)
        refine lv_aload_n hx hb dX4_serve_65 rfl (lv_at hl 3 rfl) ?_
        refine lv_dup hx hb dX4_serve_66 rfl ?_
        refine g_geti (k := 10) B F P ok4 (sid_lt0 hr) (kd_s0 r) rfl rfl (by decide) q111 dX4_serve_67 ?_
        refine lv_iload hx hb dX4_serve_70 (lv_at hl 0 rfl) ?_
        refine lv_iadd hx hb dX4_serve_72 ?_
        refine g_puti (k := 10) B F P ok4 (sid_lt0 hr) (kd_s0 r) rfl rfl (by decide) rfl (tyX4_ok 10 (by decide)) q111 dX4_serve_73 (fun H locs P => ?_)
        refine lv_aload_n hx hb dX4_serve_76 rfl (lv_at hl 3 rfl) ?_
        refine lv_dup hx hb dX4_serve_77 rfl ?_
        refine g_geti (k := 11) B F P ok4 (sid_lt0 hr) (kd_s0 r) rfl rfl (by decide) q113 dX4_serve_78 ?_
        refine lv_iload hx hb dX4_serve_81 (lv_at hl 1 rfl) ?_
        refine lv_iadd hx hb dX4_serve_83 ?_
        refine g_puti (k := 11) B F P ok4 (sid_lt0 hr) (kd_s0 r) rfl rfl (by decide) rfl (tyX4_ok 11 (by decide)) q113 dX4_serve_84 (fun H locs P => ?_)
        refine lv_iinc (v := (x3_12 + 1)) (lv' := [(3, .int (x3_12 + 1)), (5, .int (if (rI σ12 (sid r + 4) x3_12.toNatClampNeg) < (rI σ12 (6 + x3_12.toNatClampNeg) slot.toNatClampNeg) then (rI σ12 (sid r + 4) x3_12.toNatClampNeg) else (rI σ12 (6 + x3_12.toNatClampNeg) slot.toNatClampNeg))), (4, .int (rI σ12 (6 + x3_12.toNatClampNeg) slot.toNatClampNeg)), (0, .ref (ad (sid r))), (1, .ref (ad 1)), (2, .int slot)]) hx hb dX4_serve_87 hl (k := 2) rfl (by first | rfl | decide) (by decide) rfl (fun ls hl => ?_)
        refine lv_goto (tgt := 12) hx hb dX4_serve_90 (by decide) ?_
        exact ih12 (x3_12 + 1) (sI (sI (sI (sI σ12 (sid r + 4) x3_12.toNatClampNeg ((rI σ12 (sid r + 4) x3_12.toNatClampNeg) - (if (rI σ12 (sid r + 4) x3_12.toNatClampNeg) < (rI σ12 (6 + x3_12.toNatClampNeg) slot.toNatClampNeg) then (rI σ12 (sid r + 4) x3_12.toNatClampNeg) else (rI σ12 (6 + x3_12.toNatClampNeg) slot.toNatClampNeg)))) (sid r + 5) x3_12.toNatClampNeg ((rI σ12 (6 + x3_12.toNatClampNeg) slot.toNatClampNeg) - (if (rI σ12 (sid r + 4) x3_12.toNatClampNeg) < (rI σ12 (6 + x3_12.toNatClampNeg) slot.toNatClampNeg) then (rI σ12 (sid r + 4) x3_12.toNatClampNeg) else (rI σ12 (6 + x3_12.toNatClampNeg) slot.toNatClampNeg)))) (sid r) 10 ((rI (sI (sI σ12 (sid r + 4) x3_12.toNatClampNeg ((rI σ12 (sid r + 4) x3_12.toNatClampNeg) - (if (rI σ12 (sid r + 4) x3_12.toNatClampNeg) < (rI σ12 (6 + x3_12.toNatClampNeg) slot.toNatClampNeg) then (rI σ12 (sid r + 4) x3_12.toNatClampNeg) else (rI σ12 (6 + x3_12.toNatClampNeg) slot.toNatClampNeg)))) (sid r + 5) x3_12.toNatClampNeg ((rI σ12 (6 + x3_12.toNatClampNeg) slot.toNatClampNeg) - (if (rI σ12 (sid r + 4) x3_12.toNatClampNeg) < (rI σ12 (6 + x3_12.toNatClampNeg) slot.toNatClampNeg) then (rI σ12 (sid r + 4) x3_12.toNatClampNeg) else (rI σ12 (6 + x3_12.toNatClampNeg) slot.toNatClampNeg)))) (sid r) 10) + (if (rI σ12 (sid r + 4) x3_12.toNatClampNeg) < (rI σ12 (6 + x3_12.toNatClampNeg) slot.toNatClampNeg) then (rI σ12 (sid r + 4) x3_12.toNatClampNeg) else (rI σ12 (6 + x3_12.toNatClampNeg) slot.toNatClampNeg)))) (sid r) 11 ((rI (sI (sI (sI σ12 (sid r + 4) x3_12.toNatClampNeg ((rI σ12 (sid r + 4) x3_12.toNatClampNeg) - (if (rI σ12 (sid r + 4) x3_12.toNatClampNeg) < (rI σ12 (6 + x3_12.toNatClampNeg) slot.toNatClampNeg) then (rI σ12 (sid r + 4) x3_12.toNatClampNeg) else (rI σ12 (6 + x3_12.toNatClampNeg) slot.toNatClampNeg)))) (sid r + 5) x3_12.toNatClampNeg ((rI σ12 (6 + x3_12.toNatClampNeg) slot.toNatClampNeg) - (if (rI σ12 (sid r + 4) x3_12.toNatClampNeg) < (rI σ12 (6 + x3_12.toNatClampNeg) slot.toNatClampNeg) then (rI σ12 (sid r + 4) x3_12.toNatClampNeg) else (rI σ12 (6 + x3_12.toNatClampNeg) slot.toNatClampNeg)))) (sid r) 10 ((rI (sI (sI σ12 (sid r + 4) x3_12.toNatClampNeg ((rI σ12 (sid r + 4) x3_12.toNatClampNeg) - (if (rI σ12 (sid r + 4) x3_12.toNatClampNeg) < (rI σ12 (6 + x3_12.toNatClampNeg) slot.toNatClampNeg) then (rI σ12 (sid r + 4) x3_12.toNatClampNeg) else (rI σ12 (6 + x3_12.toNatClampNeg) slot.toNatClampNeg)))) (sid r + 5) x3_12.toNatClampNeg ((rI σ12 (6 + x3_12.toNatClampNeg) slot.toNatClampNeg) - (if (rI σ12 (sid r + 4) x3_12.toNatClampNeg) < (rI σ12 (6 + x3_12.toNatClampNeg) slot.toNatClampNeg) then (rI σ12 (sid r + 4) x3_12.toNatClampNeg) else (rI σ12 (6 + x3_12.toNatClampNeg) slot.toNatClampNeg)))) (sid r) 10) + (if (rI σ12 (sid r + 4) x3_12.toNatClampNeg) < (rI σ12 (6 + x3_12.toNatClampNeg) slot.toNatClampNeg) then (rI σ12 (sid r + 4) x3_12.toNatClampNeg) else (rI σ12 (6 + x3_12.toNatClampNeg) slot.toNatClampNeg)))) (sid r) 11) + (rI σ12 (6 + x3_12.toNatClampNeg) slot.toNatClampNeg))) (hI12.next c17 hG12.2) (by first | exact hG12 | exact hG12.fr (r := r) (by repeat first | exact Fr.refl | refine Fr.sI ?_ (by omega) | refine Fr.sC ?_ (by omega) | exact fr_X4_goOnCleaning _ _ _ | exact fr_X4_runTrain _ _ _)) hE _ _ P _ (lv_sub hl [0, 3, 4, 5] rfl)
  exact L12 4 0 (sI (sI σ (sid r) 10 0) (sid r) 11 0) LI.start (hG.fr (r := r) (by repeat first | exact Fr.refl | refine Fr.sI ?_ (by omega) | refine Fr.sC ?_ (by omega))) hE _ _ P _ (lv_sub hl [0, 1, 2, 3] rfl)
theorem fr_X4_pour_l7 (r : Nat) : ∀ (n : Nat) (x y : Int32) (σ : Sg), Fr r σ (f_X4_pour_l7 r n x y σ)
  | 0, _, _, _ => Fr.refl
  | n + 1, x, y, σ => by
    unfold f_X4_pour_l7
    split
    · (repeat first | exact Fr.refl | refine Fr.sI ?_ (by omega) | refine Fr.sC ?_ (by omega))
    · exact Fr.trans (by (repeat first | exact Fr.refl | refine Fr.sI ?_ (by omega) | refine Fr.sC ?_ (by omega))) (fr_X4_pour_l7 r n _ _ _)
theorem fr_X4_pour (r : Nat) (σ : Sg) : Fr r σ (f_X4_pour r σ) := fr_X4_pour_l7 r _ _ _ _
theorem fr_X4_serve_l12 (r : Nat) (slot : Int32) : ∀ (n : Nat) (x : Int32) (σ : Sg), Fr r σ (f_X4_serve_l12 r slot n x σ)
  | 0, _, _ => Fr.refl
  | n + 1, x, σ => by
    unfold f_X4_serve_l12
    split
    · (repeat first | exact Fr.refl | refine Fr.sI ?_ (by omega) | refine Fr.sC ?_ (by omega))
    · exact Fr.trans (by (repeat first | exact Fr.refl | refine Fr.sI ?_ (by omega) | refine Fr.sC ?_ (by omega))) (fr_X4_serve_l12 r slot n _ _)
theorem fr_X4_serve (r : Nat) (slot : Int32) (σ : Sg) : Fr r σ (f_X4_serve r slot σ) := Fr.trans (by (repeat first | exact Fr.refl | refine Fr.sI ?_ (by omega) | refine Fr.sC ?_ (by omega))) (fr_X4_serve_l12 r slot _ _ _)
theorem nk_X4_pour : nmOk yX4_pour RX4 1 := ⟨rfl, by decide +kernel, by decide +kernel, by decide +kernel⟩
theorem nk_X4_serve : nmOk yX4_serve RX4 2 := ⟨rfl, by decide +kernel, by decide +kernel, by decide +kernel⟩
theorem nk_X4_runTrain : nmOk yX4_runTrain RX4 2 := ⟨rfl, by decide +kernel, by decide +kernel, by decide +kernel⟩
theorem nk_X4_goOnCleaning : nmOk yX4_goOnCleaning RX4 1 := ⟨rfl, by decide +kernel, by decide +kernel, by decide +kernel⟩
def f_X4_letPass_l21 (r : Nat) (slot : Int32) (on : Int32) : Nat → Int32 → Int32 → Sg → Sg
  | 0, _, _, σ21 => σ21
  | n21 + 1, x5_21, x4_21, σ21 => if (rI σ21 1 5) ≤ x5_21 then (f_X4_serve r slot (f_X4_pour r (sI σ21 (sid r) 8 (x4_21 * (rI σ21 9 slot.toNatClampNeg))))) else (if (rI σ21 (sid r + 3) x5_21.toNatClampNeg) ≤ 0 then (if on = 0 then (f_X4_letPass_l21 r slot on n21 (x5_21 + 1) x4_21 σ21) else (f_X4_letPass_l21 r slot on n21 (x5_21 + 1) (x4_21 + (f_X4_runTrain r x5_21 σ21).1) ((f_X4_runTrain r x5_21 σ21).2))) else (f_X4_letPass_l21 r slot on n21 (x5_21 + 1) x4_21 (f_X4_goOnCleaning r x5_21 σ21)))
def f_X4_letPass (r : Nat) (slot : Int32) (on : Int32) (σ : Sg) : Sg := f_X4_letPass_l21 r slot on 5 0 0 (sI (sI (sI σ (sid r) 5 0) (sid r) 6 0) (sid r) 7 0)
set_option maxHeartbeats 4000000 in
set_option maxRecDepth 100000 in
theorem ct_X4_letPass {D : va_G} {ad : Nat → Nat} {cy : Nat → ClassId} {ba : Nat} (l : Launch) (r : Nat) (slot : Int32) (on : Int32) (σ : Sg) (hr : r < 8) (hs : vp_in slot 48) (hG : GS σ) : Ct D ad cy ba l 2 yX4_letPass cX4_letPass 6 none [.ref (ad (sid r)), .ref (ad 1), .int slot, .int on] σ none (f_X4_letPass r slot on σ) := by
  generalize hE : f_X4_letPass r slot on σ = Z
  dsimp only [f_X4_letPass] at hE
  refine Ct.of (by decide +kernel) (Nat.le_of_ble_eq_true rfl) ?_
  intro p e s m below meth c ls B F P hrt hlk hl
  have hx := B.1
  have hb := B.2.1
  have hl : lv_has ls 6 [(0, .ref (ad (sid r))), (1, .ref (ad 1)), (2, .int slot), (3, .int on)] := hl
  refine lv_aload_n hx hb dX4_letPass_0 rfl (lv_at hl 0 rfl) ?_
  refine lv_iconst (v := 0) hx hb dX4_letPass_1 (by decide) ?_
  refine g_puti (k := 5) B F P ok4 (sid_lt0 hr) (kd_s0 r) rfl rfl (by decide) rfl (tyX4_ok 5 (by decide)) q99 dX4_letPass_2 (fun H locs P => ?_)
  refine lv_aload_n hx hb dX4_letPass_5 rfl (lv_at hl 0 rfl) ?_
  refine lv_iconst (v := 0) hx hb dX4_letPass_6 (by decide) ?_
  refine g_puti (k := 6) B F P ok4 (sid_lt0 hr) (kd_s0 r) rfl rfl (by decide) rfl (tyX4_ok 6 (by decide)) q102 dX4_letPass_7 (fun H locs P => ?_)
  refine lv_aload_n hx hb dX4_letPass_10 rfl (lv_at hl 0 rfl) ?_
  refine lv_iconst (v := 0) hx hb dX4_letPass_11 (by decide) ?_
  refine g_puti (k := 7) B F P ok4 (sid_lt0 hr) (kd_s0 r) rfl rfl (by decide) rfl (tyX4_ok 7 (by decide)) q104 dX4_letPass_12 (fun H locs P => ?_)
  refine lv_iconst (v := 0) hx hb dX4_letPass_15 (by decide) ?_
  refine lv_istore (lv' := [(4, .int 0), (0, .ref (ad (sid r))), (1, .ref (ad 1)), (2, .int slot), (3, .int on)]) hx hb dX4_letPass_16 hl (by decide) rfl (fun ls hl => ?_)
  refine lv_iconst (v := 0) hx hb dX4_letPass_18 (by decide) ?_
  refine lv_istore (lv' := [(5, .int 0), (4, .int 0), (0, .ref (ad (sid r))), (1, .ref (ad 1)), (2, .int slot), (3, .int on)]) hx hb dX4_letPass_19 hl (by decide) rfl (fun ls hl => ?_)
  have L21 : ∀ (n21 : Nat) (x5_21 : Int32) (x4_21 : Int32) (σ21 : Sg), LI 4 n21 x5_21 → GS σ21 → f_X4_letPass_l21 r slot on n21 x5_21 x4_21 σ21 = Z → ∀ (H : Heap) (locs : List Loc), Wo D ad cy ba s σ21 H locs → ∀ (ls : Array Slot), lv_has ls 6 [(5, .int x5_21), (4, .int x4_21), (0, .ref (ad (sid r))), (1, .ref (ad 1)), (2, .int slot), (3, .int on)] → W p l e (rmK 2 0 0) s m ([.ref (ad (sid r)), .ref (ad 1), .int slot, .int on] : List Value).toArray below meth c H locs 0 0 (MQ below (Qe D ad cy ba none Z) ([.ref (ad (sid r)), .ref (ad 1), .int slot, .int on] : List Value).toArray s 0 0 (fun q => ba ≤ q)) (F0 m 21 ls []) := by
    clear hE P hl
    intro n21
    induction n21 with
    | zero => intro x5_21 x4_21 σ21 hI21 hG21 hE; exact absurd hI21 LI.zero
    | succ n21 ih21 =>
      intro x5_21 x4_21 σ21 hI21 hG21 hE H locs P ls hl
      dsimp only [f_X4_letPass_l21] at hE
      refine lv_iload hx hb dX4_letPass_21 (lv_at hl 0 rfl) ?_
      refine lv_aload_n hx hb dX4_letPass_23 rfl (lv_at hl 3 rfl) ?_
      refine g_geti (k := 5) B F P ok3 (by decide) rfl rfl rfl (by decide) q55 dX4_letPass_24 ?_
      refine lv_icmp_ge (tgt := 71) hx hb dX4_letPass_27 (by decide) (fun c27 => ?_) (fun c27 => ?_)
      · rw [if_pos c27] at hE
        refine lv_aload_n hx hb dX4_letPass_71 rfl (lv_at hl 2 rfl) ?_
        refine lv_iload hx hb dX4_letPass_72 (lv_at hl 1 rfl) ?_
        refine lv_aload_n hx hb dX4_letPass_74 rfl (lv_at hl 3 rfl) ?_
        refine g_getr (k := 4) (t := 9) B F P ok3 (by decide) rfl rfl rfl (by decide) rfl q52 dX4_letPass_75 ?_
        refine lv_iload_n hx hb dX4_letPass_78 rfl (lv_at hl 4 rfl) ?_
        refine g_ild B F P (by decide) rfl rfl hs dX4_letPass_79 ?_
        refine lv_imul hx hb dX4_letPass_80 ?_
        refine g_puti (k := 8) B F P ok4 (sid_lt0 hr) (kd_s0 r) rfl rfl (by decide) rfl (tyX4_ok 8 (by decide)) q106 dX4_letPass_81 (fun H locs P => ?_)
        refine lv_aload_n hx hb dX4_letPass_84 rfl (lv_at hl 2 rfl) ?_
        refine lv_aload_n hx hb dX4_letPass_85 rfl (lv_at hl 3 rfl) ?_
        refine g_callV B F P (As := [.ref (ad 1)]) (ct_X4_pour (D := D) (ad := ad) (cy := cy) (ba := ba) l r (sI σ21 (sid r) 8 (x4_21 * (rI σ21 9 slot.toNatClampNeg))) hr (hG21.fr (r := r) (by repeat first | exact Fr.refl | refine Fr.sI ?_ (by omega) | exact Fr.trans (by repeat first | exact Fr.refl | refine Fr.sI ?_ (by omega)) (fr_X4_pour _ _)))) ok4 (sid_lt0 hr) (kd_s0 r) q309 q311 qs3 q4 q312 nk_X4_pour rfl ⟨(Nat.le_of_ble_eq_true rfl), (Nat.le_of_ble_eq_true rfl)⟩ hl.1 rfl (Nat.le_of_ble_eq_true rfl) dX4_letPass_86 ⟨Nat.le_of_ble_eq_true rfl, Nat.le_of_ble_eq_true rfl⟩ (fun H locs P => ?_)
        refine lv_aload_n hx hb dX4_letPass_89 rfl (lv_at hl 2 rfl) ?_
        refine lv_aload_n hx hb dX4_letPass_90 rfl (lv_at hl 3 rfl) ?_
        refine lv_iload_n hx hb dX4_letPass_91 rfl (lv_at hl 4 rfl) ?_
        refine g_callV B F P (As := [.ref (ad 1), .int slot]) (ct_X4_serve (D := D) (ad := ad) (cy := cy) (ba := ba) l r slot (f_X4_pour r (sI σ21 (sid r) 8 (x4_21 * (rI σ21 9 slot.toNatClampNeg)))) hr hs (hG21.fr (r := r) (by repeat first | exact Fr.refl | refine Fr.sI ?_ (by omega) | exact Fr.trans (by repeat first | exact Fr.refl | refine Fr.sI ?_ (by omega)) (fr_X4_pour _ _)))) ok4 (sid_lt0 hr) (kd_s0 r) q313 q315 qs4 q4 q316 nk_X4_serve rfl ⟨(Nat.le_of_ble_eq_true rfl), (Nat.le_of_ble_eq_true rfl)⟩ hl.1 rfl (Nat.le_of_ble_eq_true rfl) dX4_letPass_92 ⟨Nat.le_of_ble_eq_true rfl, Nat.le_of_ble_eq_true rfl⟩ (fun H locs P => ?_)
        exact g_retv B P rfl (by rw [← hE]) hrt hlk dX4_letPass_95
      · rw [if_neg c27] at hE
        refine lv_aload_n hx hb dX4_letPass_30 rfl (lv_at hl 2 rfl) ?_
        refine g_getr (k := 2) (t := (sid r + 3)) B F P ok4 (sid_lt0 hr) (kd_s0 r) rfl rfl (by decide) (tg_s r 2) q92 dX4_letPass_31 ?_
        refine lv_iload hx hb dX4_letPass_34 (lv_at hl 0 rfl) ?_
        refine g_ild B F P (sid_lt hr (by decide)) (kd_sc r 3 (by decide) (by decide)) (ln_sc r 3 (by decide)) (hI21.into c27 hG21.1) dX4_letPass_36 ?_
        refine lv_if_le (tgt := 49) hx hb dX4_letPass_37 (by decide) (fun c37 => ?_) (fun c37 => ?_)
        · rw [if_pos c37] at hE
          refine lv_iload_n hx hb dX4_letPass_49 rfl (lv_at hl 5 rfl) ?_
          refine lv_if_eq (tgt := 65) hx hb dX4_letPass_50 (by decide) (fun c50 => ?_) (fun c50 => ?_)
          · rw [if_pos c50] at hE
            refine lv_iinc (v := (x5_21 + 1)) (lv' := [(5, .int (x5_21 + 1)), (4, .int x4_21), (0, .ref (ad (sid r))), (1, .ref (ad 1)), (2, .int slot), (3, .int on)]) hx hb dX4_letPass_65 hl (k := 0) rfl (by first | rfl | decide) (by decide) rfl (fun ls hl => ?_)
            refine lv_goto (tgt := 21) hx hb dX4_letPass_68 (by decide) ?_
            exact ih21 (x5_21 + 1) x4_21 σ21 (hI21.next c27 hG21.1) (by first | exact hG21 | exact hG21.fr (r := r) (by repeat first | exact Fr.refl | refine Fr.sI ?_ (by omega) | refine Fr.sC ?_ (by omega) | exact fr_X4_goOnCleaning _ _ _ | exact fr_X4_runTrain _ _ _)) hE _ _ P _ (lv_sub hl [0, 1, 2, 3, 4, 5] rfl)
          · rw [if_neg c50] at hE
            refine lv_iload hx hb dX4_letPass_53 (lv_at hl 1 rfl) ?_
            refine lv_aload_n hx hb dX4_letPass_55 rfl (lv_at hl 2 rfl) ?_
            refine lv_aload_n hx hb dX4_letPass_56 rfl (lv_at hl 3 rfl) ?_
            refine lv_iload hx hb dX4_letPass_57 (lv_at hl 0 rfl) ?_
            refine g_callV B F P (As := [.ref (ad 1), .int x5_21]) (ct_X4_runTrain (D := D) (ad := ad) (cy := cy) (ba := ba) l r x5_21 σ21 hr (hI21.into c27 hG21.1)) ok4 (sid_lt0 hr) (kd_s0 r) q289 q291 qs2 q4 q292 nk_X4_runTrain rfl ⟨(Nat.le_of_ble_eq_true rfl), (Nat.le_of_ble_eq_true rfl)⟩ hl.1 rfl (Nat.le_of_ble_eq_true rfl) dX4_letPass_59 ⟨Nat.le_of_ble_eq_true rfl, Nat.le_of_ble_eq_true rfl⟩ (fun H locs P => ?_)
            refine lv_iadd hx hb dX4_letPass_62 ?_
            refine lv_istore (lv' := [(4, .int (x4_21 + (f_X4_runTrain r x5_21 σ21).1)), (5, .int x5_21), (0, .ref (ad (sid r))), (1, .ref (ad 1)), (2, .int slot), (3, .int on)]) hx hb dX4_letPass_63 hl (by decide) rfl (fun ls hl => ?_)
            refine lv_iinc (v := (x5_21 + 1)) (lv' := [(5, .int (x5_21 + 1)), (4, .int (x4_21 + (f_X4_runTrain r x5_21 σ21).1)), (0, .ref (ad (sid r))), (1, .ref (ad 1)), (2, .int slot), (3, .int on)]) hx hb dX4_letPass_65 hl (k := 1) rfl (by first | rfl | decide) (by decide) rfl (fun ls hl => ?_)
            refine lv_goto (tgt := 21) hx hb dX4_letPass_68 (by decide) ?_
            exact ih21 (x5_21 + 1) (x4_21 + (f_X4_runTrain r x5_21 σ21).1) ((f_X4_runTrain r x5_21 σ21).2) (hI21.next c27 hG21.1) (by first | exact hG21 | exact hG21.fr (r := r) (by repeat first | exact Fr.refl | refine Fr.sI ?_ (by omega) | refine Fr.sC ?_ (by omega) | exact fr_X4_goOnCleaning _ _ _ | exact fr_X4_runTrain _ _ _)) hE _ _ P _ (lv_sub hl [0, 1, 2, 3, 4, 5] rfl)
        · rw [if_neg c37] at hE
          refine lv_aload_n hx hb dX4_letPass_40 rfl (lv_at hl 2 rfl) ?_
          refine lv_iload hx hb dX4_letPass_41 (lv_at hl 0 rfl) ?_
          refine g_callV B F P (As := [.int x5_21]) (ct_X4_goOnCleaning (D := D) (ad := ad) (cy := cy) (ba := ba) l r x5_21 σ21 hr (hI21.into c27 hG21.1)) ok4 (sid_lt0 hr) (kd_s0 r) q282 q284 qs1 q4 q285 nk_X4_goOnCleaning rfl ⟨(Nat.le_of_ble_eq_true rfl), (Nat.le_of_ble_eq_true rfl)⟩ hl.1 rfl (Nat.le_of_ble_eq_true rfl) dX4_letPass_43 ⟨Nat.le_of_ble_eq_true rfl, Nat.le_of_ble_eq_true rfl⟩ (fun H locs P => ?_)
          refine lv_goto (tgt := 65) hx hb dX4_letPass_46 (by decide) ?_
          refine lv_iinc (v := (x5_21 + 1)) (lv' := [(5, .int (x5_21 + 1)), (4, .int x4_21), (0, .ref (ad (sid r))), (1, .ref (ad 1)), (2, .int slot), (3, .int on)]) hx hb dX4_letPass_65 hl (k := 0) rfl (by first | rfl | decide) (by decide) rfl (fun ls hl => ?_)
          refine lv_goto (tgt := 21) hx hb dX4_letPass_68 (by decide) ?_
          exact ih21 (x5_21 + 1) x4_21 (f_X4_goOnCleaning r x5_21 σ21) (hI21.next c27 hG21.1) (by first | exact hG21 | exact hG21.fr (r := r) (by repeat first | exact Fr.refl | refine Fr.sI ?_ (by omega) | refine Fr.sC ?_ (by omega) | exact fr_X4_goOnCleaning _ _ _ | exact fr_X4_runTrain _ _ _)) hE _ _ P _ (lv_sub hl [0, 1, 2, 3, 4, 5] rfl)
  exact L21 5 0 0 (sI (sI (sI σ (sid r) 5 0) (sid r) 6 0) (sid r) 7 0) LI.start (hG.fr (r := r) (by repeat first | exact Fr.refl | refine Fr.sI ?_ (by omega) | refine Fr.sC ?_ (by omega))) hE _ _ P _ (lv_sub hl [0, 1, 2, 3, 4, 5] rfl)
theorem fr_X4_letPass_l21 (r : Nat) (slot on : Int32) : ∀ (n : Nat) (x y : Int32) (σ : Sg), Fr r σ (f_X4_letPass_l21 r slot on n x y σ)
  | 0, _, _, _ => Fr.refl
  | n + 1, x, y, σ => by
    unfold f_X4_letPass_l21
    split
    · exact Fr.trans (Fr.trans (by (repeat first | exact Fr.refl | refine Fr.sI ?_ (by omega) | refine Fr.sC ?_ (by omega))) (fr_X4_pour r _)) (fr_X4_serve r slot _)
    · split
      · split
        · exact fr_X4_letPass_l21 r slot on n _ _ _
        · exact Fr.trans (fr_X4_runTrain r _ _) (fr_X4_letPass_l21 r slot on n _ _ _)
      · exact Fr.trans (fr_X4_goOnCleaning r _ _) (fr_X4_letPass_l21 r slot on n _ _ _)
theorem fr_X4_letPass (r : Nat) (slot on : Int32) (σ : Sg) : Fr r σ (f_X4_letPass r slot on σ) := Fr.trans (by (repeat first | exact Fr.refl | refine Fr.sI ?_ (by omega) | refine Fr.sC ?_ (by omega))) (fr_X4_letPass_l21 r slot on _ _ _ _)
