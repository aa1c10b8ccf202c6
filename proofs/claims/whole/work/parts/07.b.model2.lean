def f_X6_orderAt_l2 (h : Int32) : Nat → Int32 → Sg → Int32
  | 0, _, σ => 0
  | n2 + 1, x2_2, σ => if (rI σ 19 16) ≤ x2_2 then (-1) else (if (rI σ 28 x2_2.toNatClampNeg) = h then x2_2 else (f_X6_orderAt_l2 h n2 (x2_2 + 1) σ))
def f_X6_orderAt (h : Int32) (σ : Sg) : Int32 := f_X6_orderAt_l2 h 7 0 σ
set_option maxHeartbeats 4000000 in
set_option maxRecDepth 100000 in
theorem ct_X6_orderAt {D : va_G} {ad : Nat → Nat} {cy : Nat → ClassId} {ba : Nat} (l : Launch) (h : Int32) (σ : Sg) (hR : GR σ) : Ct D ad cy ba l 0 yX6_orderAt cX6_orderAt 3 (some .int) [.ref (ad 19), .int h] σ (some (.int (f_X6_orderAt h σ))) σ := by
  generalize hE : f_X6_orderAt h σ = Z
  dsimp only [f_X6_orderAt] at hE
  refine Ct.of (by decide +kernel) (Nat.le_of_ble_eq_true rfl) ?_
  intro p e s m below meth c ls B F P hrt hlk hl
  have hx := B.1
  have hb := B.2.1
  have hl : lv_has ls 3 [(0, .ref (ad 19)), (1, .int h)] := hl
  refine lv_iconst (v := 0) hx hb dX6_orderAt_0 (by decide) ?_
  refine lv_istore_n (lv' := [(2, .int 0), (0, .ref (ad 19)), (1, .int h)]) hx hb dX6_orderAt_1 rfl hl (by decide) rfl (fun ls hl => ?_)
  have L2 : ∀ (n2 : Nat) (x2_2 : Int32) , LI 6 n2 x2_2 → f_X6_orderAt_l2 h n2 x2_2 σ = Z → ∀ (H : Heap) (locs : List Loc), Wo D ad cy ba s σ H locs → ∀ (ls : Array Slot), lv_has ls 3 [(2, .int x2_2), (0, .ref (ad 19)), (1, .int h)] → W p l e (rmK 0 0 0) s m ([.ref (ad 19), .int h] : List Value).toArray below meth c H locs 0 0 (MQ below (Qe D ad cy ba (some (.int Z)) σ) ([.ref (ad 19), .int h] : List Value).toArray s 0 0 (fun q => ba ≤ q)) (F0 m 2 ls []) := by
    clear hE P hl
    intro n2
    induction n2 with
    | zero => intro x2_2 hI2 hE; exact absurd hI2 LI.zero
    | succ n2 ih2 =>
      intro x2_2 hI2 hE H locs P ls hl
      dsimp only [f_X6_orderAt_l2] at hE
      refine lv_iload_n hx hb dX6_orderAt_2 rfl (lv_at hl 0 rfl) ?_
      refine lv_aload_n hx hb dX6_orderAt_3 rfl (lv_at hl 1 rfl) ?_
      refine g_geti (k := 16) B F P ok6 (by decide) rfl rfl rfl (by decide) q830 dX6_orderAt_4 ?_
      refine lv_icmp_ge (tgt := 28) hx hb dX6_orderAt_7 (by decide) (fun c7 => ?_) (fun c7 => ?_)
      · rw [if_pos c7] at hE
        refine lv_iconst (v := (-1)) hx hb dX6_orderAt_28 (by decide) ?_
        exact g_reti B P (by rw [← hE]) rfl hrt hlk dX6_orderAt_29
      · rw [if_neg c7] at hE
        refine lv_aload_n hx hb dX6_orderAt_10 rfl (lv_at hl 1 rfl) ?_
        refine g_getr (k := 14) (t := 28) B F P ok6 (by decide) rfl rfl rfl (by decide) rfl q828 dX6_orderAt_11 ?_
        refine lv_iload_n hx hb dX6_orderAt_14 rfl (lv_at hl 0 rfl) ?_
        refine g_ild B F P (by decide) rfl rfl (hI2.into c7 hR.1.2) dX6_orderAt_15 ?_
        refine lv_iload_n hx hb dX6_orderAt_16 rfl (lv_at hl 2 rfl) ?_
        refine lv_icmp_ne (tgt := 22) hx hb dX6_orderAt_17 (by decide) (fun c17 => ?_) (fun c17 => ?_)
        · rw [if_neg c17] at hE
          refine lv_iinc (v := (x2_2 + 1)) (lv' := [(2, .int (x2_2 + 1)), (0, .ref (ad 19)), (1, .int h)]) hx hb dX6_orderAt_22 hl (k := 0) rfl (by first | rfl | decide) (by decide) rfl (fun ls hl => ?_)
          refine lv_goto (tgt := 2) hx hb dX6_orderAt_25 (by decide) ?_
          exact ih2 (x2_2 + 1)  (hI2.next c7 hR.1.2) hE _ _ P _ (lv_sub hl [0, 1, 2] rfl)
        · rw [if_pos c17] at hE
          refine lv_iload_n hx hb dX6_orderAt_20 rfl (lv_at hl 0 rfl) ?_
          exact g_reti B P (by rw [← hE]) rfl hrt hlk dX6_orderAt_21
  exact L2 7 0  LI.start hE _ _ P _ (lv_sub hl [0, 1, 2] rfl)
theorem oat_rng (h : Int32) (σ : Sg) (hR : GR σ) : ∀ (n : Nat) (x : Int32), LI 6 n x → f_X6_orderAt_l2 h n x σ = -1 ∨ (0 ≤ (f_X6_orderAt_l2 h n x σ).toInt ∧ (f_X6_orderAt_l2 h n x σ).toInt < (rI σ 19 16).toInt)
  | 0, x, hI => absurd hI LI.zero
  | n + 1, x, hI => by
    unfold f_X6_orderAt_l2
    split
    · exact Or.inl rfl
    · rename_i c
      split
      · exact Or.inr ⟨hI.1, hI.lt c⟩
      · exact oat_rng h σ hR n _ (hI.next c hR.1.2)
theorem oat_ge {h : Int32} {σ : Sg} (hR : GR σ) (hc : ¬ f_X6_orderAt h σ = -1) : 0 ≤ (f_X6_orderAt h σ).toInt ∧ (f_X6_orderAt h σ).toInt < (rI σ 19 16).toInt := by
  rcases oat_rng h σ hR 7 0 LI.start with e | e
  · exact absurd e hc
  · exact e
theorem oat_in {h : Int32} {σ : Sg} (hR : GR σ) (hc : ¬ f_X6_orderAt h σ = -1) : vp_in (f_X6_orderAt h σ) 6 := vp_in_iff.mpr ⟨(oat_ge hR hc).1, by have := (oat_ge hR hc).2; have := hR.1.2; omega⟩
theorem ocn_in {σ : Sg} (hR : GR σ) (h : ¬ rI σ 19 16 = 6) : vp_in (rI σ 19 16) 6 := vp_in_iff.mpr ⟨hR.1.1, by
  have h1 := hR.1.2
  have h2 : (rI σ 19 16).toInt ≠ 6 := fun e => h (Int32.toInt_inj.mp e)
  omega⟩
theorem ofg_in {h : Int32} {σ : Sg} (hR : GR σ) (hc : ¬ f_X6_orderAt h σ = -1) : vp_in (rI σ 19 16 - 1) 6 := by
  have h1 := oat_ge hR hc
  have h2 := i_pred (i := rI σ 19 16) (by omega)
  exact vp_in_iff.mpr ⟨by omega, by have := hR.1.2; omega⟩
theorem b01 {x : Int32} (h : x = 0 ∨ x = 1) : vp_nar .boolean x = x := by rcases h with rfl | rfl <;> rfl
def f_X6_forgets (at_ : Int32) (σ : Sg) : Sg := (sI (sI (sI σ 19 16 ((rI σ 19 16) - 1)) 28 at_.toNatClampNeg (rI (sI σ 19 16 ((rI σ 19 16) - 1)) 28 ((rI σ 19 16) - 1).toNatClampNeg)) 29 at_.toNatClampNeg (rI (sI (sI σ 19 16 ((rI σ 19 16) - 1)) 28 at_.toNatClampNeg (rI (sI σ 19 16 ((rI σ 19 16) - 1)) 28 ((rI σ 19 16) - 1).toNatClampNeg)) 29 ((rI σ 19 16) - 1).toNatClampNeg))
set_option maxHeartbeats 4000000 in
set_option maxRecDepth 100000 in
theorem ct_X6_forgets {D : va_G} {ad : Nat → Nat} {cy : Nat → ClassId} {ba : Nat} (l : Launch) (at_ : Int32) (σ : Sg) (hR : GR σ) (ha : vp_in at_ 6) (hc : vp_in (rI σ 19 16 - 1) 6) : Ct D ad cy ba l 0 yX6_forgets cX6_forgets 2 none [.ref (ad 19), .int at_] σ none (f_X6_forgets at_ σ) := by
  generalize hE : f_X6_forgets at_ σ = Z
  dsimp only [f_X6_forgets] at hE
  refine Ct.of (by decide +kernel) (Nat.le_of_ble_eq_true rfl) ?_
  intro p e s m below meth c ls B F P hrt hlk hl
  have hx := B.1
  have hb := B.2.1
  have hl : lv_has ls 2 [(0, .ref (ad 19)), (1, .int at_)] := hl
  refine lv_aload_n hx hb dX6_forgets_0 rfl (lv_at hl 0 rfl) ?_
  refine lv_dup hx hb dX6_forgets_1 rfl ?_
  refine g_geti (k := 16) B F P ok6 (by decide) rfl rfl rfl (by decide) q830 dX6_forgets_2 ?_
  refine lv_iconst (v := 1) hx hb dX6_forgets_5 (by decide) ?_
  refine lv_isub hx hb dX6_forgets_6 ?_
  refine g_puti (k := 16) B F P ok6 (by decide) rfl rfl rfl (by decide) rfl (tyX6_ok 16 (by decide)) q830 dX6_forgets_7 (fun H locs P => ?_)
  refine lv_aload_n hx hb dX6_forgets_10 rfl (lv_at hl 0 rfl) ?_
  refine g_getr (k := 14) (t := 28) B F P ok6 (by decide) rfl rfl rfl (by decide) rfl q828 dX6_forgets_11 ?_
  refine lv_iload_n hx hb dX6_forgets_14 rfl (lv_at hl 1 rfl) ?_
  refine lv_aload_n hx hb dX6_forgets_15 rfl (lv_at hl 0 rfl) ?_
  refine g_getr (k := 14) (t := 28) B F P ok6 (by decide) rfl rfl rfl (by decide) rfl q828 dX6_forgets_16 ?_
  refine lv_aload_n hx hb dX6_forgets_19 rfl (lv_at hl 0 rfl) ?_
  refine g_getiv (k := 16) (v := ((rI σ 19 16) - 1)) B F P ok6 (by decide) rfl rfl rfl (by decide) q830 dX6_forgets_20 rfl ?_
  refine g_ild B F P (by decide) rfl rfl hc dX6_forgets_23 ?_
  refine g_ist B F P (by decide) rfl rfl ha dX6_forgets_24 (fun H locs P => ?_)
  refine lv_aload_n hx hb dX6_forgets_25 rfl (lv_at hl 0 rfl) ?_
  refine g_getr (k := 15) (t := 29) B F P ok6 (by decide) rfl rfl rfl (by decide) rfl q829 dX6_forgets_26 ?_
  refine lv_iload_n hx hb dX6_forgets_29 rfl (lv_at hl 1 rfl) ?_
  refine lv_aload_n hx hb dX6_forgets_30 rfl (lv_at hl 0 rfl) ?_
  refine g_getr (k := 15) (t := 29) B F P ok6 (by decide) rfl rfl rfl (by decide) rfl q829 dX6_forgets_31 ?_
  refine lv_aload_n hx hb dX6_forgets_34 rfl (lv_at hl 0 rfl) ?_
  refine g_getiv (k := 16) (v := ((rI σ 19 16) - 1)) B F P ok6 (by decide) rfl rfl rfl (by decide) q830 dX6_forgets_35 rfl ?_
  refine g_zld B F P (by decide) rfl rfl hc dX6_forgets_38 ?_
  refine g_zst B F P (by decide) rfl rfl ha (hR.nar (fun _ => rfl) _) dX6_forgets_39 (fun H locs P => ?_)
  exact g_retv B P rfl (by rw [← hE]) hrt hlk dX6_forgets_40
/-- what the reference needs of its state to run: b bounds the number of half hours -/
def GM (b : Int) (σ : Sg) : Prop := GT σ ∧ GR σ ∧ (0 ≤ (rI σ 19 12).toInt ∧ (rI σ 19 12).toInt < b) ∧ (1 ≤ (rI σ 19 13).toInt ∧ (rI σ 19 13).toInt ≤ 6) ∧ 0 ≤ (rI σ 19 4).toInt ∧ 0 ≤ (rI σ 19 8).toInt
theorem GM.w {a b : Int} {σ : Sg} (h : GM a σ) (hab : a ≤ b) : GM b σ := ⟨h.1, h.2.1, ⟨h.2.2.1.1, by have := h.2.2.1.2; omega⟩, h.2.2.2⟩
theorem GM.ml {b : Int} {σ σ' : Sg} (h : GM b σ) (f : Ml σ σ') : GM b σ' := by
  have e : ∀ j, j = 12 ∨ j = 13 ∨ j = 4 ∨ j = 8 → rI σ' 19 j = rI σ 19 j := fun j hj => f.1 19 j (by decide) (by decide) (by decide) (by omega)
  refine ⟨h.1.ml f, h.2.1.ml f, ?_, ?_, ?_, ?_⟩
  · rw [e 12 (by omega)]; exact h.2.2.1
  · rw [e 13 (by omega)]; exact h.2.2.2.1
  · rw [e 4 (by omega)]; exact h.2.2.2.2.1
  · rw [e 8 (by omega)]; exact h.2.2.2.2.2
theorem GM.of {b : Int} {σ σ' : Sg} (h : GM b σ) (e : ∀ j, j = 4 ∨ j = 8 ∨ j = 11 ∨ j = 12 ∨ j = 13 ∨ j = 16 → rI σ' 19 j = rI σ 19 j) (e2 : ∀ j, rI σ' 29 j = rI σ 29 j) : GM b σ' := by
  refine ⟨h.1.of (e 4 (by omega)) (e 8 (by omega)) (e 11 (by omega)), h.2.1.of (e 16 (by omega)) e2, ?_, ?_, ?_, ?_⟩
  · rw [e 12 (by omega)]; exact h.2.2.1
  · rw [e 13 (by omega)]; exact h.2.2.2.1
  · rw [e 4 (by omega)]; exact h.2.2.2.2.1
  · rw [e 8 (by omega)]; exact h.2.2.2.2.2
theorem e29_sI {σ : Sg} {i j : Nat} {x : Int32} (h : i ≠ 29) : ∀ k, rI (sI σ i j x) 29 k = rI σ 29 k := fun k => by rw [rI_sI, if_neg (fun e => h e.1.symm)]

theorem nk_X6_goes : nmOk yX6_goes RX6 2 := ⟨rfl, by decide +kernel, by decide +kernel, by decide +kernel⟩
theorem nk_X6_orderAt : nmOk yX6_orderAt RX6 1 := ⟨rfl, by decide +kernel, by decide +kernel, by decide +kernel⟩
theorem nk_X6_forgets : nmOk yX6_forgets RX6 1 := ⟨rfl, by decide +kernel, by decide +kernel, by decide +kernel⟩
def f_X6_passes_l94 (on : Int32) : Nat → Int32 → Int32 → Sg → Sg
  | 0, _, _, σ94 => σ94
  | n94 + 1, x3_94, x2_94, σ94 => if (rI σ94 19 8) ≤ x3_94 then (if (f_X6_orderAt (rI σ94 19 12) σ94) = (-1) then (sI σ94 19 12 ((rI σ94 19 12) + 1)) else (sI (f_X6_forgets (f_X6_orderAt (rI σ94 19 12) σ94) σ94) 19 12 ((rI (f_X6_forgets (f_X6_orderAt (rI σ94 19 12) σ94) σ94) 19 12) + 1))) else (f_X6_passes_l94 on n94 (x3_94 + 1) x2_94 (sL (sI σ94 26 x3_94.toNatClampNeg ((rI σ94 26 x3_94.toNatClampNeg) + (rI σ94 30 x3_94.toNatClampNeg))) 19 27 ((rL σ94 19 27) + (rI (sI σ94 26 x3_94.toNatClampNeg ((rI σ94 26 x3_94.toNatClampNeg) + (rI σ94 30 x3_94.toNatClampNeg))) 25 ((48 * x3_94) + x2_94).toNatClampNeg).toInt64)))
def f_X6_passes (on : Int32) (σ : Sg) : Sg := f_X6_passes_l94 on 4 0 ((rI σ 19 12) - (rI σ 19 12) / 48 * 48) (sL (sL (sL (sL (sL ((f_X6_goes ((rI σ 19 12) - (rI σ 19 12) / 48 * 48) on σ).2) 19 24 ((rL ((f_X6_goes ((rI σ 19 12) - (rI σ 19 12) / 48 * 48) on σ).2) 19 24) + (rI ((f_X6_goes ((rI σ 19 12) - (rI σ 19 12) / 48 * 48) on σ).2) 19 17).toInt64)) 19 23 ((rL ((f_X6_goes ((rI σ 19 12) - (rI σ 19 12) / 48 * 48) on σ).2) 19 23) + (rI ((f_X6_goes ((rI σ 19 12) - (rI σ 19 12) / 48 * 48) on σ).2) 19 18).toInt64)) 19 25 ((rL ((f_X6_goes ((rI σ 19 12) - (rI σ 19 12) / 48 * 48) on σ).2) 19 25) + (rI ((f_X6_goes ((rI σ 19 12) - (rI σ 19 12) / 48 * 48) on σ).2) 19 20).toInt64)) 19 26 ((rL ((f_X6_goes ((rI σ 19 12) - (rI σ 19 12) / 48 * 48) on σ).2) 19 26) + (rI ((f_X6_goes ((rI σ 19 12) - (rI σ 19 12) / 48 * 48) on σ).2) 19 21).toInt64)) 19 28 ((rL ((f_X6_goes ((rI σ 19 12) - (rI σ 19 12) / 48 * 48) on σ).2) 19 28) + ((rI ((f_X6_goes ((rI σ 19 12) - (rI σ 19 12) / 48 * 48) on σ).2) 19 19) * (rI (sL (sL (sL (sL ((f_X6_goes ((rI σ 19 12) - (rI σ 19 12) / 48 * 48) on σ).2) 19 24 ((rL ((f_X6_goes ((rI σ 19 12) - (rI σ 19 12) / 48 * 48) on σ).2) 19 24) + (rI ((f_X6_goes ((rI σ 19 12) - (rI σ 19 12) / 48 * 48) on σ).2) 19 17).toInt64)) 19 23 ((rL ((f_X6_goes ((rI σ 19 12) - (rI σ 19 12) / 48 * 48) on σ).2) 19 23) + (rI ((f_X6_goes ((rI σ 19 12) - (rI σ 19 12) / 48 * 48) on σ).2) 19 18).toInt64)) 19 25 ((rL ((f_X6_goes ((rI σ 19 12) - (rI σ 19 12) / 48 * 48) on σ).2) 19 25) + (rI ((f_X6_goes ((rI σ 19 12) - (rI σ 19 12) / 48 * 48) on σ).2) 19 20).toInt64)) 19 26 ((rL ((f_X6_goes ((rI σ 19 12) - (rI σ 19 12) / 48 * 48) on σ).2) 19 26) + (rI ((f_X6_goes ((rI σ 19 12) - (rI σ 19 12) / 48 * 48) on σ).2) 19 21).toInt64)) 27 ((rI σ 19 12) - (rI σ 19 12) / 48 * 48).toNatClampNeg)).toInt64))
set_option maxHeartbeats 4000000 in
set_option maxRecDepth 100000 in
theorem ct_X6_passes {D : va_G} {ad : Nat → Nat} {cy : Nat → ClassId} {ba : Nat} (l : Launch) (on : Int32) (σ : Sg) (hM : GM 100000 σ) : Ct D ad cy ba l 6 yX6_passes cX6_passes 4 none [.ref (ad 19), .int on] σ none (f_X6_passes on σ) := by
  generalize hE : f_X6_passes on σ = Z
  dsimp only [f_X6_passes] at hE
  refine Ct.of (by decide +kernel) (Nat.le_of_ble_eq_true rfl) ?_
  intro p e s m below meth c ls B F P hrt hlk hl
  have hx := B.1
  have hb := B.2.1
  have hl : lv_has ls 4 [(0, .ref (ad 19)), (1, .int on)] := hl
  refine lv_aload_n hx hb dX6_passes_0 rfl (lv_at hl 0 rfl) ?_
  refine g_geti (k := 12) B F P ok6 (by decide) rfl rfl rfl (by decide) q826 dX6_passes_1 ?_
  refine lv_bipush (v := 48) hx hb dX6_passes_4 (by decide) ?_
  refine lv_irem hx hb dX6_passes_6 (by decide) ?_
  refine lv_istore_n (lv' := [(2, .int ((rI σ 19 12) - (rI σ 19 12) / 48 * 48)), (0, .ref (ad 19)), (1, .int on)]) hx hb dX6_passes_7 rfl hl (by decide) rfl (fun ls hl => ?_)
  refine lv_aload_n hx hb dX6_passes_8 rfl (lv_at hl 1 rfl) ?_
  refine lv_iload_n hx hb dX6_passes_9 rfl (lv_at hl 0 rfl) ?_
  refine lv_iload_n hx hb dX6_passes_10 rfl (lv_at hl 2 rfl) ?_
  refine g_callV B F P (As := [.int ((rI σ 19 12) - (rI σ 19 12) / 48 * 48), .int on]) (ct_X6_goes (D := D) (ad := ad) (cy := cy) (ba := ba) l ((rI σ 19 12) - (rI σ 19 12) / 48 * 48) on σ (rem_in hM.2.2.1.1) hM.1) ok6 (by decide) rfl q1037 q1039 qs19 q8 q1040 nk_X6_goes rfl ⟨(Nat.le_of_ble_eq_true rfl), (Nat.le_of_ble_eq_true rfl)⟩ hl.1 rfl (Nat.le_of_ble_eq_true rfl) dX6_passes_11 ⟨Nat.le_of_ble_eq_true rfl, Nat.le_of_ble_eq_true rfl⟩ (fun H locs P => ?_)
  refine lv_pop hx hb dX6_passes_14 rfl ?_
  refine lv_aload_n hx hb dX6_passes_15 rfl (lv_at hl 1 rfl) ?_
  refine lv_dup hx hb dX6_passes_16 rfl ?_
  refine g_getl (k := 24) B F P ok6 (by decide) rfl rfl rfl (by decide) q838 dX6_passes_17 ?_
  refine lv_aload_n hx hb dX6_passes_20 rfl (lv_at hl 1 rfl) ?_
  refine g_geti (k := 17) B F P ok6 (by decide) rfl rfl rfl (by decide) q831 dX6_passes_21 ?_
  refine lv_i2l hx hb dX6_passes_24 rfl ?_
  refine lv_ladd hx hb dX6_passes_25 ?_
  refine g_putl (k := 24) B F P ok6 (by decide) rfl rfl rfl (by decide) rfl (tyX6_ok 24 (by decide)) q838 dX6_passes_26 (fun H locs P => ?_)
  refine lv_aload_n hx hb dX6_passes_29 rfl (lv_at hl 1 rfl) ?_
  refine lv_dup hx hb dX6_passes_30 rfl ?_
  refine g_getlv (k := 23) (v := (rL ((f_X6_goes ((rI σ 19 12) - (rI σ 19 12) / 48 * 48) on σ).2) 19 23)) B F P ok6 (by decide) rfl rfl rfl (by decide) q837 dX6_passes_31 rfl ?_
  refine lv_aload_n hx hb dX6_passes_34 rfl (lv_at hl 1 rfl) ?_
  refine g_getiv (k := 18) (v := (rI ((f_X6_goes ((rI σ 19 12) - (rI σ 19 12) / 48 * 48) on σ).2) 19 18)) B F P ok6 (by decide) rfl rfl rfl (by decide) q832 dX6_passes_35 rfl ?_
  refine lv_i2l hx hb dX6_passes_38 rfl ?_
  refine lv_ladd hx hb dX6_passes_39 ?_
  refine g_putl (k := 23) B F P ok6 (by decide) rfl rfl rfl (by decide) rfl (tyX6_ok 23 (by decide)) q837 dX6_passes_40 (fun H locs P => ?_)
  refine lv_aload_n hx hb dX6_passes_43 rfl (lv_at hl 1 rfl) ?_
  refine lv_dup hx hb dX6_passes_44 rfl ?_
  refine g_getlv (k := 25) (v := (rL ((f_X6_goes ((rI σ 19 12) - (rI σ 19 12) / 48 * 48) on σ).2) 19 25)) B F P ok6 (by decide) rfl rfl rfl (by decide) q839 dX6_passes_45 rfl ?_
  refine lv_aload_n hx hb dX6_passes_48 rfl (lv_at hl 1 rfl) ?_
  refine g_getiv (k := 20) (v := (rI ((f_X6_goes ((rI σ 19 12) - (rI σ 19 12) / 48 * 48) on σ).2) 19 20)) B F P ok6 (by decide) rfl rfl rfl (by decide) q834 dX6_passes_49 rfl ?_
  refine lv_i2l hx hb dX6_passes_52 rfl ?_
  refine lv_ladd hx hb dX6_passes_53 ?_
  refine g_putl (k := 25) B F P ok6 (by decide) rfl rfl rfl (by decide) rfl (tyX6_ok 25 (by decide)) q839 dX6_passes_54 (fun H locs P => ?_)
  refine lv_aload_n hx hb dX6_passes_57 rfl (lv_at hl 1 rfl) ?_
  refine lv_dup hx hb dX6_passes_58 rfl ?_
  refine g_getlv (k := 26) (v := (rL ((f_X6_goes ((rI σ 19 12) - (rI σ 19 12) / 48 * 48) on σ).2) 19 26)) B F P ok6 (by decide) rfl rfl rfl (by decide) q840 dX6_passes_59 rfl ?_
  refine lv_aload_n hx hb dX6_passes_62 rfl (lv_at hl 1 rfl) ?_
  refine g_getiv (k := 21) (v := (rI ((f_X6_goes ((rI σ 19 12) - (rI σ 19 12) / 48 * 48) on σ).2) 19 21)) B F P ok6 (by decide) rfl rfl rfl (by decide) q835 dX6_passes_63 rfl ?_
  refine lv_i2l hx hb dX6_passes_66 rfl ?_
  refine lv_ladd hx hb dX6_passes_67 ?_
  refine g_putl (k := 26) B F P ok6 (by decide) rfl rfl rfl (by decide) rfl (tyX6_ok 26 (by decide)) q840 dX6_passes_68 (fun H locs P => ?_)
  refine lv_aload_n hx hb dX6_passes_71 rfl (lv_at hl 1 rfl) ?_
  refine lv_dup hx hb dX6_passes_72 rfl ?_
  refine g_getlv (k := 28) (v := (rL ((f_X6_goes ((rI σ 19 12) - (rI σ 19 12) / 48 * 48) on σ).2) 19 28)) B F P ok6 (by decide) rfl rfl rfl (by decide) q842 dX6_passes_73 rfl ?_
  refine lv_aload_n hx hb dX6_passes_76 rfl (lv_at hl 1 rfl) ?_
  refine g_getiv (k := 19) (v := (rI ((f_X6_goes ((rI σ 19 12) - (rI σ 19 12) / 48 * 48) on σ).2) 19 19)) B F P ok6 (by decide) rfl rfl rfl (by decide) q833 dX6_passes_77 rfl ?_
  refine lv_aload_n hx hb dX6_passes_80 rfl (lv_at hl 1 rfl) ?_
  refine g_getr (k := 9) (t := 27) B F P ok6 (by decide) rfl rfl rfl (by decide) rfl q823 dX6_passes_81 ?_
  refine lv_iload_n hx hb dX6_passes_84 rfl (lv_at hl 0 rfl) ?_
  refine g_ild B F P (by decide) rfl rfl (rem_in hM.2.2.1.1) dX6_passes_85 ?_
  refine lv_imul hx hb dX6_passes_86 ?_
  refine lv_i2l hx hb dX6_passes_87 rfl ?_
  refine lv_ladd hx hb dX6_passes_88 ?_
  refine g_putl (k := 28) B F P ok6 (by decide) rfl rfl rfl (by decide) rfl (tyX6_ok 28 (by decide)) q842 dX6_passes_89 (fun H locs P => ?_)
  refine lv_iconst (v := 0) hx hb dX6_passes_92 (by decide) ?_
  refine lv_istore_n (lv' := [(3, .int 0), (2, .int ((rI σ 19 12) - (rI σ 19 12) / 48 * 48)), (0, .ref (ad 19)), (1, .int on)]) hx hb dX6_passes_93 rfl hl (by decide) rfl (fun ls hl => ?_)
  have L94 : ∀ (n94 : Nat) (x3_94 : Int32) (x2_94 : Int32) (σ94 : Sg), LI 3 n94 x3_94 → GM 100000 σ94 → vp_in x2_94 48 → f_X6_passes_l94 on n94 x3_94 x2_94 σ94 = Z → ∀ (H : Heap) (locs : List Loc), Wo D ad cy ba s σ94 H locs → ∀ (ls : Array Slot), lv_has ls 4 [(3, .int x3_94), (2, .int x2_94), (0, .ref (ad 19)), (1, .int on)] → W p l e (rmK 6 0 0) s m ([.ref (ad 19), .int on] : List Value).toArray below meth c H locs 0 0 (MQ below (Qe D ad cy ba none Z) ([.ref (ad 19), .int on] : List Value).toArray s 0 0 (fun q => ba ≤ q)) (F0 m 94 ls []) := by
    clear hE P hl
    intro n94
    induction n94 with
    | zero => intro x3_94 x2_94 σ94 hI94 hM94 hx94 hE; exact absurd hI94 LI.zero
    | succ n94 ih94 =>
      intro x3_94 x2_94 σ94 hI94 hM94 hx94 hE H locs P ls hl
      dsimp only [f_X6_passes_l94] at hE
      refine lv_iload_n hx hb dX6_passes_94 rfl (lv_at hl 0 rfl) ?_
      refine lv_aload_n hx hb dX6_passes_95 rfl (lv_at hl 2 rfl) ?_
      refine g_geti (k := 8) B F P ok6 (by decide) rfl rfl rfl (by decide) q822 dX6_passes_96 ?_
      refine lv_icmp_ge (tgt := 144) hx hb dX6_passes_99 (by decide) (fun c99 => ?_) (fun c99 => ?_)
      · rw [if_pos c99] at hE
        refine lv_aload_n hx hb dX6_passes_144 rfl (lv_at hl 2 rfl) ?_
        refine lv_aload_n hx hb dX6_passes_145 rfl (lv_at hl 2 rfl) ?_
        refine g_geti (k := 12) B F P ok6 (by decide) rfl rfl rfl (by decide) q826 dX6_passes_146 ?_
        refine g_callV B F P (As := [.int (rI σ94 19 12)]) (ct_X6_orderAt (D := D) (ad := ad) (cy := cy) (ba := ba) l (rI σ94 19 12) σ94 hM94.2.1) ok6 (by decide) rfl q1050 q1052 qs22 q8 q1053 nk_X6_orderAt rfl ⟨(Nat.le_of_ble_eq_true rfl), (Nat.le_of_ble_eq_true rfl)⟩ hl.1 rfl (Nat.le_of_ble_eq_true rfl) dX6_passes_149 ⟨Nat.le_of_ble_eq_true rfl, Nat.le_of_ble_eq_true rfl⟩ (fun H locs P => ?_)
        refine lv_iconst (v := (-1)) hx hb dX6_passes_152 (by decide) ?_
        refine lv_icmp_eq (tgt := 168) hx hb dX6_passes_153 (by decide) (fun c153 => ?_) (fun c153 => ?_)
        · rw [if_pos c153] at hE
          refine lv_aload_n hx hb dX6_passes_168 rfl (lv_at hl 2 rfl) ?_
          refine lv_dup hx hb dX6_passes_169 rfl ?_
          refine g_geti (k := 12) B F P ok6 (by decide) rfl rfl rfl (by decide) q826 dX6_passes_170 ?_
          refine lv_iconst (v := 1) hx hb dX6_passes_173 (by decide) ?_
          refine lv_iadd hx hb dX6_passes_174 ?_
          refine g_puti (k := 12) B F P ok6 (by decide) rfl rfl rfl (by decide) rfl (tyX6_ok 12 (by decide)) q826 dX6_passes_175 (fun H locs P => ?_)
          exact g_retv B P rfl (by rw [← hE]) hrt hlk dX6_passes_178
        · rw [if_neg c153] at hE
          refine lv_aload_n hx hb dX6_passes_156 rfl (lv_at hl 2 rfl) ?_
          refine lv_aload_n hx hb dX6_passes_157 rfl (lv_at hl 2 rfl) ?_
          refine lv_aload_n hx hb dX6_passes_158 rfl (lv_at hl 2 rfl) ?_
          refine g_geti (k := 12) B F P ok6 (by decide) rfl rfl rfl (by decide) q826 dX6_passes_159 ?_
          refine g_callV B F P (As := [.int (rI σ94 19 12)]) (ct_X6_orderAt (D := D) (ad := ad) (cy := cy) (ba := ba) l (rI σ94 19 12) σ94 hM94.2.1) ok6 (by decide) rfl q1050 q1052 qs22 q8 q1053 nk_X6_orderAt rfl ⟨(Nat.le_of_ble_eq_true rfl), (Nat.le_of_ble_eq_true rfl)⟩ hl.1 rfl (Nat.le_of_ble_eq_true rfl) dX6_passes_162 ⟨Nat.le_of_ble_eq_true rfl, Nat.le_of_ble_eq_true rfl⟩ (fun H locs P => ?_)
          refine g_callV B F P (As := [.int (f_X6_orderAt (rI σ94 19 12) σ94)]) (ct_X6_forgets (D := D) (ad := ad) (cy := cy) (ba := ba) l (f_X6_orderAt (rI σ94 19 12) σ94) σ94 hM94.2.1 (oat_in hM94.2.1 c153) (ofg_in hM94.2.1 c153)) ok6 (by decide) rfl q1054 q1056 qs23 q8 q1057 nk_X6_forgets rfl ⟨(Nat.le_of_ble_eq_true rfl), (Nat.le_of_ble_eq_true rfl)⟩ hl.1 rfl (Nat.le_of_ble_eq_true rfl) dX6_passes_165 ⟨Nat.le_of_ble_eq_true rfl, Nat.le_of_ble_eq_true rfl⟩ (fun H locs P => ?_)
          refine lv_aload_n hx hb dX6_passes_168 rfl (lv_at hl 2 rfl) ?_
          refine lv_dup hx hb dX6_passes_169 rfl ?_
          refine g_geti (k := 12) B F P ok6 (by decide) rfl rfl rfl (by decide) q826 dX6_passes_170 ?_
          refine lv_iconst (v := 1) hx hb dX6_passes_173 (by decide) ?_
          refine lv_iadd hx hb dX6_passes_174 ?_
          refine g_puti (k := 12) B F P ok6 (by decide) rfl rfl rfl (by decide) rfl (tyX6_ok 12 (by decide)) q826 dX6_passes_175 (fun H locs P => ?_)
          exact g_retv B P rfl (by rw [← hE]) hrt hlk dX6_passes_178
      · rw [if_neg c99] at hE
        refine lv_aload_n hx hb dX6_passes_102 rfl (lv_at hl 2 rfl) ?_
        refine g_getr (k := 7) (t := 26) B F P ok6 (by decide) rfl rfl rfl (by decide) rfl q821 dX6_passes_103 ?_
        refine lv_iload_n hx hb dX6_passes_106 rfl (lv_at hl 0 rfl) ?_
        refine lv_dup2_11 hx hb dX6_passes_107 rfl rfl ?_
        refine g_ild B F P (by decide) rfl rfl (hI94.into c99 hM94.1.2.1) dX6_passes_108 ?_
        refine lv_aload_n hx hb dX6_passes_109 rfl (lv_at hl 2 rfl) ?_
        refine g_getr (k := 22) (t := 30) B F P ok6 (by decide) rfl rfl rfl (by decide) rfl q836 dX6_passes_110 ?_
        refine lv_iload_n hx hb dX6_passes_113 rfl (lv_at hl 0 rfl) ?_
        refine g_ild B F P (by decide) rfl rfl (hI94.into c99 hM94.1.2.1) dX6_passes_114 ?_
        refine lv_iadd hx hb dX6_passes_115 ?_
        refine g_ist B F P (by decide) rfl rfl (hI94.into c99 hM94.1.2.1) dX6_passes_116 (fun H locs P => ?_)
        refine lv_aload_n hx hb dX6_passes_117 rfl (lv_at hl 2 rfl) ?_
        refine lv_dup hx hb dX6_passes_118 rfl ?_
        refine g_getlv (k := 27) (v := (rL σ94 19 27)) B F P ok6 (by decide) rfl rfl rfl (by decide) q841 dX6_passes_119 rfl ?_
        refine lv_aload_n hx hb dX6_passes_122 rfl (lv_at hl 2 rfl) ?_
        refine g_getr (k := 6) (t := 25) B F P ok6 (by decide) rfl rfl rfl (by decide) rfl q820 dX6_passes_123 ?_
        refine lv_bipush (v := 48) hx hb dX6_passes_126 (by decide) ?_
        refine lv_iload_n hx hb dX6_passes_128 rfl (lv_at hl 0 rfl) ?_
        refine lv_imul hx hb dX6_passes_129 ?_
        refine lv_iload_n hx hb dX6_passes_130 rfl (lv_at hl 1 rfl) ?_
        refine lv_iadd hx hb dX6_passes_131 ?_
        refine g_ild B F P (by decide) rfl rfl (dm_in (hI94.into c99 hM94.1.2.1) hx94) dX6_passes_132 ?_
        refine lv_i2l hx hb dX6_passes_133 rfl ?_
        refine lv_ladd hx hb dX6_passes_134 ?_
        refine g_putl (k := 27) B F P ok6 (by decide) rfl rfl rfl (by decide) rfl (tyX6_ok 27 (by decide)) q841 dX6_passes_135 (fun H locs P => ?_)
        refine lv_iinc (v := (x3_94 + 1)) (lv' := [(3, .int (x3_94 + 1)), (2, .int x2_94), (0, .ref (ad 19)), (1, .int on)]) hx hb dX6_passes_138 hl (k := 0) rfl (by first | rfl | decide) (by decide) rfl (fun ls hl => ?_)
        refine lv_goto (tgt := 94) hx hb dX6_passes_141 (by decide) ?_
        exact ih94 (x3_94 + 1) x2_94 (sL (sI σ94 26 x3_94.toNatClampNeg ((rI σ94 26 x3_94.toNatClampNeg) + (rI σ94 30 x3_94.toNatClampNeg))) 19 27 ((rL σ94 19 27) + (rI (sI σ94 26 x3_94.toNatClampNeg ((rI σ94 26 x3_94.toNatClampNeg) + (rI σ94 30 x3_94.toNatClampNeg))) 25 ((48 * x3_94) + x2_94).toNatClampNeg).toInt64)) (hI94.next c99 hM94.1.2.1) (hM94.of (by intro j hj; rcases hj with rfl | rfl | rfl | rfl | rfl | rfl <;> rfl) (fun _ => rfl)) hx94 hE _ _ P _ (lv_sub hl [0, 1, 2, 3] rfl)
  exact L94 4 0 ((rI σ 19 12) - (rI σ 19 12) / 48 * 48) (sL (sL (sL (sL (sL ((f_X6_goes ((rI σ 19 12) - (rI σ 19 12) / 48 * 48) on σ).2) 19 24 ((rL ((f_X6_goes ((rI σ 19 12) - (rI σ 19 12) / 48 * 48) on σ).2) 19 24) + (rI ((f_X6_goes ((rI σ 19 12) - (rI σ 19 12) / 48 * 48) on σ).2) 19 17).toInt64)) 19 23 ((rL ((f_X6_goes ((rI σ 19 12) - (rI σ 19 12) / 48 * 48) on σ).2) 19 23) + (rI ((f_X6_goes ((rI σ 19 12) - (rI σ 19 12) / 48 * 48) on σ).2) 19 18).toInt64)) 19 25 ((rL ((f_X6_goes ((rI σ 19 12) - (rI σ 19 12) / 48 * 48) on σ).2) 19 25) + (rI ((f_X6_goes ((rI σ 19 12) - (rI σ 19 12) / 48 * 48) on σ).2) 19 20).toInt64)) 19 26 ((rL ((f_X6_goes ((rI σ 19 12) - (rI σ 19 12) / 48 * 48) on σ).2) 19 26) + (rI ((f_X6_goes ((rI σ 19 12) - (rI σ 19 12) / 48 * 48) on σ).2) 19 21).toInt64)) 19 28 ((rL ((f_X6_goes ((rI σ 19 12) - (rI σ 19 12) / 48 * 48) on σ).2) 19 28) + ((rI ((f_X6_goes ((rI σ 19 12) - (rI σ 19 12) / 48 * 48) on σ).2) 19 19) * (rI (sL (sL (sL (sL ((f_X6_goes ((rI σ 19 12) - (rI σ 19 12) / 48 * 48) on σ).2) 19 24 ((rL ((f_X6_goes ((rI σ 19 12) - (rI σ 19 12) / 48 * 48) on σ).2) 19 24) + (rI ((f_X6_goes ((rI σ 19 12) - (rI σ 19 12) / 48 * 48) on σ).2) 19 17).toInt64)) 19 23 ((rL ((f_X6_goes ((rI σ 19 12) - (rI σ 19 12) / 48 * 48) on σ).2) 19 23) + (rI ((f_X6_goes ((rI σ 19 12) - (rI σ 19 12) / 48 * 48) on σ).2) 19 18).toInt64)) 19 25 ((rL ((f_X6_goes ((rI σ 19 12) - (rI σ 19 12) / 48 * 48) on σ).2) 19 25) + (rI ((f_X6_goes ((rI σ 19 12) - (rI σ 19 12) / 48 * 48) on σ).2) 19 20).toInt64)) 19 26 ((rL ((f_X6_goes ((rI σ 19 12) - (rI σ 19 12) / 48 * 48) on σ).2) 19 26) + (rI ((f_X6_goes ((rI σ 19 12) - (rI σ 19 12) / 48 * 48) on σ).2) 19 21).toInt64)) 27 ((rI σ 19 12) - (rI σ 19 12) / 48 * 48).toNatClampNeg)).toInt64)) LI.start ((hM.ml (ml_X6_goes _ _ _)).of (by intro j hj; rcases hj with rfl | rfl | rfl | rfl | rfl | rfl <;> rfl) (fun _ => rfl)) (rem_in hM.2.2.1.1) hE _ _ P _ (lv_sub hl [0, 1, 2, 3] rfl)
theorem gm_X6_forgets (at_ : Int32) {σ : Sg} {b : Int} (h : GM b σ) (h0 : 0 < (rI σ 19 16).toInt) (ha : True) : GM b (f_X6_forgets at_ σ) := by
  unfold f_X6_forgets
  have h1 := i_pred h0
  have h2 := h.2.1.1.2
  refine ⟨h.1.of rfl rfl rfl, ⟨?_, fun j => ?_⟩, h.2.2.1, h.2.2.2.1, h.2.2.2.2.1, h.2.2.2.2.2⟩
  · rw [show rI (sI (sI (sI σ 19 16 ((rI σ 19 16) - 1)) 28 at_.toNatClampNeg (rI (sI σ 19 16 ((rI σ 19 16) - 1)) 28 (rI σ 19 16 - 1).toNatClampNeg)) 29 at_.toNatClampNeg (rI (sI (sI σ 19 16 ((rI σ 19 16) - 1)) 28 at_.toNatClampNeg (rI (sI σ 19 16 ((rI σ 19 16) - 1)) 28 (rI σ 19 16 - 1).toNatClampNeg)) 29 (rI σ 19 16 - 1).toNatClampNeg)) 19 16 = rI σ 19 16 - 1 from rfl]
    omega
  · rw [rI_sI]
    split
    · exact h.2.1.nar (fun _ => rfl) _
    · exact h.2.1.nar (fun _ => rfl) _
theorem GM.pp {b : Int} {σ σ' : Sg} (h : GM b σ) (hb : b ≤ 100000) (e : ∀ j, j = 4 ∨ j = 8 ∨ j = 11 ∨ j = 13 ∨ j = 16 → rI σ' 19 j = rI σ 19 j) (e12 : rI σ' 19 12 = rI σ 19 12 + 1) (e2 : ∀ j, rI σ' 29 j = rI σ 29 j) : GM (b + 1) σ' := by
  have h9 := i_succ h.2.2.1.1 (by have := h.2.2.1.2; omega)
  refine ⟨h.1.of (e 4 (by omega)) (e 8 (by omega)) (e 11 (by omega)), h.2.1.of (e 16 (by omega)) e2, ?_, ?_, ?_, ?_⟩
  · rw [e12, h9]; have := h.2.2.1; omega
  · rw [e 13 (by omega)]; exact h.2.2.2.1
  · rw [e 4 (by omega)]; exact h.2.2.2.2.1
  · rw [e 8 (by omega)]; exact h.2.2.2.2.2
theorem gm_X6_passes_l94 (on : Int32) {b : Int} (hb : b ≤ 100000) : ∀ (n : Nat) (x y : Int32) (σ : Sg), GM b σ → GM (b + 1) (f_X6_passes_l94 on n x y σ)
  | 0, _, _, σ, h => h.w (by omega)
  | n + 1, x, y, σ, h => by
    unfold f_X6_passes_l94
    split
    · split
      · exact h.pp hb (by intro j hj; rcases hj with rfl | rfl | rfl | rfl | rfl <;> rfl) rfl (fun _ => rfl)
      · rename_i c
        have h1 := oat_ge h.2.1 c
        exact (gm_X6_forgets (f_X6_orderAt (rI σ 19 12) σ) h (by omega) trivial).pp hb (by intro j hj; rcases hj with rfl | rfl | rfl | rfl | rfl <;> rfl) rfl (fun _ => rfl)
    · exact gm_X6_passes_l94 on hb n _ _ _ (h.of (by intro j hj; rcases hj with rfl | rfl | rfl | rfl | rfl | rfl <;> rfl) (fun _ => rfl))
theorem gm_X6_passes (on : Int32) {σ : Sg} {b : Int} (h : GM b σ) (hb : b ≤ 100000) : GM (b + 1) (f_X6_passes on σ) := gm_X6_passes_l94 on hb _ _ _ _ ((h.ml (ml_X6_goes _ _ _)).of (by intro j hj; rcases hj with rfl | rfl | rfl | rfl | rfl | rfl <;> rfl) (fun _ => rfl))
def f_X6_laysBack_l2 (a : Nat) (b : Nat) : Nat → Int32 → Sg → Sg
  | 0, _, σ2 => σ2
  | n2 + 1, x3_2, σ2 => if 15 ≤ x3_2 then σ2 else (f_X6_laysBack_l2 a b n2 (x3_2 + 1) (sI σ2 b x3_2.toNatClampNeg (rI σ2 a x3_2.toNatClampNeg)))
def f_X6_laysBack (a : Nat) (b : Nat) (σ : Sg) : Sg := f_X6_laysBack_l2 a b 16 0 σ
set_option maxHeartbeats 4000000 in
set_option maxRecDepth 100000 in
theorem ct_X6_laysBack {D : va_G} {ad : Nat → Nat} {cy : Nat → ClassId} {ba : Nat} (l : Launch) (a : Nat) (b : Nat) (σ : Sg) (ha1 : a < 81) (ha2 : kd a = 7) (ha3 : ln a = 15) (hb1 : b < 81) (hb2 : kd b = 7) (hb3 : ln b = 15) : Ct D ad cy ba l 0 yX6_laysBack cX6_laysBack 4 none [.ref (ad 19), .ref (ad a), .ref (ad b)] σ none (f_X6_laysBack a b σ) := by
  generalize hE : f_X6_laysBack a b σ = Z
  dsimp only [f_X6_laysBack] at hE
  refine Ct.of (by decide +kernel) (Nat.le_of_ble_eq_true rfl) ?_
  intro p e s m below meth c ls B F P hrt hlk hl
  have hx := B.1
  have hb := B.2.1
  have hl : lv_has ls 4 [(0, .ref (ad 19)), (1, .ref (ad a)), (2, .ref (ad b))] := hl
  refine lv_iconst (v := 0) hx hb dX6_laysBack_0 (by decide) ?_
  refine lv_istore_n (lv' := [(3, .int 0), (0, .ref (ad 19)), (1, .ref (ad a)), (2, .ref (ad b))]) hx hb dX6_laysBack_1 rfl hl (by decide) rfl (fun ls hl => ?_)
  have L2 : ∀ (n2 : Nat) (x3_2 : Int32) (σ2 : Sg), LI 15 n2 x3_2 → f_X6_laysBack_l2 a b n2 x3_2 σ2 = Z → ∀ (H : Heap) (locs : List Loc), Wo D ad cy ba s σ2 H locs → ∀ (ls : Array Slot), lv_has ls 4 [(3, .int x3_2), (0, .ref (ad 19)), (1, .ref (ad a)), (2, .ref (ad b))] → W p l e (rmK 0 0 0) s m ([.ref (ad 19), .ref (ad a), .ref (ad b)] : List Value).toArray below meth c H locs 0 0 (MQ below (Qe D ad cy ba none Z) ([.ref (ad 19), .ref (ad a), .ref (ad b)] : List Value).toArray s 0 0 (fun q => ba ≤ q)) (F0 m 2 ls []) := by
    clear hE P hl
    intro n2
    induction n2 with
    | zero => intro x3_2 σ2 hI2 hE; exact absurd hI2 LI.zero
    | succ n2 ih2 =>
      intro x3_2 σ2 hI2 hE H locs P ls hl
      dsimp only [f_X6_laysBack_l2] at hE
      refine lv_iload_n hx hb dX6_laysBack_2 rfl (lv_at hl 0 rfl) ?_
      refine lv_aload_n hx hb dX6_laysBack_3 rfl (lv_at hl 2 rfl) ?_
      refine g_alen (v := 15) B F P ha1 ha2 ha3 rfl dX6_laysBack_4 ?_
      refine lv_icmp_ge (tgt := 20) hx hb dX6_laysBack_5 (by decide) (fun c5 => ?_) (fun c5 => ?_)
      · rw [if_pos c5] at hE
        exact g_retv B P rfl (by rw [← hE]) hrt hlk dX6_laysBack_20
      · rw [if_neg c5] at hE
        refine lv_aload_n hx hb dX6_laysBack_8 rfl (lv_at hl 3 rfl) ?_
        refine lv_iload_n hx hb dX6_laysBack_9 rfl (lv_at hl 0 rfl) ?_
        refine lv_aload_n hx hb dX6_laysBack_10 rfl (lv_at hl 2 rfl) ?_
        refine lv_iload_n hx hb dX6_laysBack_11 rfl (lv_at hl 0 rfl) ?_
        refine g_ild B F P ha1 ha2 ha3 (hI2.into c5 (by decide)) dX6_laysBack_12 ?_
        refine g_ist B F P hb1 hb2 hb3 (hI2.into c5 (by decide)) dX6_laysBack_13 (fun H locs P => ?_)
        refine lv_iinc (v := (x3_2 + 1)) (lv' := [(3, .int (x3_2 + 1)), (0, .ref (ad 19)), (1, .ref (ad a)), (2, .ref (ad b))]) hx hb dX6_laysBack_14 hl (k := 0) rfl (by first | rfl | decide) (by decide) rfl (fun ls hl => ?_)
        refine lv_goto (tgt := 2) hx hb dX6_laysBack_17 (by decide) ?_
        exact ih2 (x3_2 + 1) (sI σ2 b x3_2.toNatClampNeg (rI σ2 a x3_2.toNatClampNeg)) (hI2.next c5 (by decide)) hE _ _ P _ (lv_sub hl [0, 1, 2, 3] rfl)
  exact L2 16 0 σ LI.start hE _ _ P _ (lv_sub hl [0, 1, 2, 3] rfl)
def f_X6_isAllowed_l10 (sch : Int32) (many : Int32) : Nat → Int32 → Int32 → Sg → Int32 × Sg
  | 0, _, _, σ10 => (0, σ10)
  | n10 + 1, x4_10, x3_10, σ10 => if many ≤ x4_10 then (x3_10, σ10) else (if x3_10 = 0 then (x3_10, σ10) else (if ((sch >>> (((many - 1) - x4_10) &&& 31)) &&& 1) = 1 then (if (f_X6_orderAt ((rI σ10 19 12) + x4_10) σ10) = (-1) then (if (f_X6_goes (((rI σ10 19 12) + x4_10) - ((rI σ10 19 12) + x4_10) / 48 * 48) 1 σ10).1 = 0 then (f_X6_isAllowed_l10 sch many n10 (x4_10 + 1) 0 (sI ((f_X6_goes (((rI σ10 19 12) + x4_10) - ((rI σ10 19 12) + x4_10) / 48 * 48) 1 σ10).2) 19 33 ((rI ((f_X6_goes (((rI σ10 19 12) + x4_10) - ((rI σ10 19 12) + x4_10) / 48 * 48) 1 σ10).2) 19 33) + ((rI ((f_X6_goes (((rI σ10 19 12) + x4_10) - ((rI σ10 19 12) + x4_10) / 48 * 48) 1 σ10).2) 19 19) * (rI ((f_X6_goes (((rI σ10 19 12) + x4_10) - ((rI σ10 19 12) + x4_10) / 48 * 48) 1 σ10).2) 27 (((rI σ10 19 12) + x4_10) - ((rI σ10 19 12) + x4_10) / 48 * 48).toNatClampNeg))))) else (f_X6_isAllowed_l10 sch many n10 (x4_10 + 1) 1 (sI ((f_X6_goes (((rI σ10 19 12) + x4_10) - ((rI σ10 19 12) + x4_10) / 48 * 48) 1 σ10).2) 19 33 ((rI ((f_X6_goes (((rI σ10 19 12) + x4_10) - ((rI σ10 19 12) + x4_10) / 48 * 48) 1 σ10).2) 19 33) + ((rI ((f_X6_goes (((rI σ10 19 12) + x4_10) - ((rI σ10 19 12) + x4_10) / 48 * 48) 1 σ10).2) 19 19) * (rI ((f_X6_goes (((rI σ10 19 12) + x4_10) - ((rI σ10 19 12) + x4_10) / 48 * 48) 1 σ10).2) 27 (((rI σ10 19 12) + x4_10) - ((rI σ10 19 12) + x4_10) / 48 * 48).toNatClampNeg)))))) else (if (rI σ10 29 (f_X6_orderAt ((rI σ10 19 12) + x4_10) σ10).toNatClampNeg) = 1 then (if (f_X6_goes (((rI σ10 19 12) + x4_10) - ((rI σ10 19 12) + x4_10) / 48 * 48) 1 σ10).1 = 0 then (f_X6_isAllowed_l10 sch many n10 (x4_10 + 1) 0 (sI ((f_X6_goes (((rI σ10 19 12) + x4_10) - ((rI σ10 19 12) + x4_10) / 48 * 48) 1 σ10).2) 19 33 ((rI ((f_X6_goes (((rI σ10 19 12) + x4_10) - ((rI σ10 19 12) + x4_10) / 48 * 48) 1 σ10).2) 19 33) + ((rI ((f_X6_goes (((rI σ10 19 12) + x4_10) - ((rI σ10 19 12) + x4_10) / 48 * 48) 1 σ10).2) 19 19) * (rI ((f_X6_goes (((rI σ10 19 12) + x4_10) - ((rI σ10 19 12) + x4_10) / 48 * 48) 1 σ10).2) 27 (((rI σ10 19 12) + x4_10) - ((rI σ10 19 12) + x4_10) / 48 * 48).toNatClampNeg))))) else (f_X6_isAllowed_l10 sch many n10 (x4_10 + 1) 1 (sI ((f_X6_goes (((rI σ10 19 12) + x4_10) - ((rI σ10 19 12) + x4_10) / 48 * 48) 1 σ10).2) 19 33 ((rI ((f_X6_goes (((rI σ10 19 12) + x4_10) - ((rI σ10 19 12) + x4_10) / 48 * 48) 1 σ10).2) 19 33) + ((rI ((f_X6_goes (((rI σ10 19 12) + x4_10) - ((rI σ10 19 12) + x4_10) / 48 * 48) 1 σ10).2) 19 19) * (rI ((f_X6_goes (((rI σ10 19 12) + x4_10) - ((rI σ10 19 12) + x4_10) / 48 * 48) 1 σ10).2) 27 (((rI σ10 19 12) + x4_10) - ((rI σ10 19 12) + x4_10) / 48 * 48).toNatClampNeg)))))) else (f_X6_isAllowed_l10 sch many n10 (x4_10 + 1) 0 (sI σ10 19 33 ((rI σ10 19 33) + ((rI σ10 19 19) * (rI σ10 27 (((rI σ10 19 12) + x4_10) - ((rI σ10 19 12) + x4_10) / 48 * 48).toNatClampNeg))))))) else (if (f_X6_orderAt ((rI σ10 19 12) + x4_10) σ10) = (-1) then (if (f_X6_goes (((rI σ10 19 12) + x4_10) - ((rI σ10 19 12) + x4_10) / 48 * 48) 0 σ10).1 = 0 then (f_X6_isAllowed_l10 sch many n10 (x4_10 + 1) 0 (sI ((f_X6_goes (((rI σ10 19 12) + x4_10) - ((rI σ10 19 12) + x4_10) / 48 * 48) 0 σ10).2) 19 33 ((rI ((f_X6_goes (((rI σ10 19 12) + x4_10) - ((rI σ10 19 12) + x4_10) / 48 * 48) 0 σ10).2) 19 33) + ((rI ((f_X6_goes (((rI σ10 19 12) + x4_10) - ((rI σ10 19 12) + x4_10) / 48 * 48) 0 σ10).2) 19 19) * (rI ((f_X6_goes (((rI σ10 19 12) + x4_10) - ((rI σ10 19 12) + x4_10) / 48 * 48) 0 σ10).2) 27 (((rI σ10 19 12) + x4_10) - ((rI σ10 19 12) + x4_10) / 48 * 48).toNatClampNeg))))) else (f_X6_isAllowed_l10 sch many n10 (x4_10 + 1) 1 (sI ((f_X6_goes (((rI σ10 19 12) + x4_10) - ((rI σ10 19 12) + x4_10) / 48 * 48) 0 σ10).2) 19 33 ((rI ((f_X6_goes (((rI σ10 19 12) + x4_10) - ((rI σ10 19 12) + x4_10) / 48 * 48) 0 σ10).2) 19 33) + ((rI ((f_X6_goes (((rI σ10 19 12) + x4_10) - ((rI σ10 19 12) + x4_10) / 48 * 48) 0 σ10).2) 19 19) * (rI ((f_X6_goes (((rI σ10 19 12) + x4_10) - ((rI σ10 19 12) + x4_10) / 48 * 48) 0 σ10).2) 27 (((rI σ10 19 12) + x4_10) - ((rI σ10 19 12) + x4_10) / 48 * 48).toNatClampNeg)))))) else (if (rI σ10 29 (f_X6_orderAt ((rI σ10 19 12) + x4_10) σ10).toNatClampNeg) = 0 then (if (f_X6_goes (((rI σ10 19 12) + x4_10) - ((rI σ10 19 12) + x4_10) / 48 * 48) 0 σ10).1 = 0 then (f_X6_isAllowed_l10 sch many n10 (x4_10 + 1) 0 (sI ((f_X6_goes (((rI σ10 19 12) + x4_10) - ((rI σ10 19 12) + x4_10) / 48 * 48) 0 σ10).2) 19 33 ((rI ((f_X6_goes (((rI σ10 19 12) + x4_10) - ((rI σ10 19 12) + x4_10) / 48 * 48) 0 σ10).2) 19 33) + ((rI ((f_X6_goes (((rI σ10 19 12) + x4_10) - ((rI σ10 19 12) + x4_10) / 48 * 48) 0 σ10).2) 19 19) * (rI ((f_X6_goes (((rI σ10 19 12) + x4_10) - ((rI σ10 19 12) + x4_10) / 48 * 48) 0 σ10).2) 27 (((rI σ10 19 12) + x4_10) - ((rI σ10 19 12) + x4_10) / 48 * 48).toNatClampNeg))))) else (f_X6_isAllowed_l10 sch many n10 (x4_10 + 1) 1 (sI ((f_X6_goes (((rI σ10 19 12) + x4_10) - ((rI σ10 19 12) + x4_10) / 48 * 48) 0 σ10).2) 19 33 ((rI ((f_X6_goes (((rI σ10 19 12) + x4_10) - ((rI σ10 19 12) + x4_10) / 48 * 48) 0 σ10).2) 19 33) + ((rI ((f_X6_goes (((rI σ10 19 12) + x4_10) - ((rI σ10 19 12) + x4_10) / 48 * 48) 0 σ10).2) 19 19) * (rI ((f_X6_goes (((rI σ10 19 12) + x4_10) - ((rI σ10 19 12) + x4_10) / 48 * 48) 0 σ10).2) 27 (((rI σ10 19 12) + x4_10) - ((rI σ10 19 12) + x4_10) / 48 * 48).toNatClampNeg)))))) else (f_X6_isAllowed_l10 sch many n10 (x4_10 + 1) 0 (sI σ10 19 33 ((rI σ10 19 33) + ((rI σ10 19 19) * (rI σ10 27 (((rI σ10 19 12) + x4_10) - ((rI σ10 19 12) + x4_10) / 48 * 48).toNatClampNeg)))))))))
def f_X6_isAllowed (sch : Int32) (many : Int32) (σ : Sg) : Int32 × Sg := f_X6_isAllowed_l10 sch many 7 0 1 (sI σ 19 33 0)
set_option maxHeartbeats 4000000 in
set_option maxRecDepth 100000 in
theorem ct_X6_isAllowed {D : va_G} {ad : Nat → Nat} {cy : Nat → ClassId} {ba : Nat} (l : Launch) (sch : Int32) (many : Int32) (σ : Sg) (hM : GM 100000 σ) (hm : many.toInt ≤ 6) : Ct D ad cy ba l 6 yX6_isAllowed cX6_isAllowed 8 (some .boolean) [.ref (ad 19), .int sch, .int many] σ (some (.int (f_X6_isAllowed sch many σ).1)) (f_X6_isAllowed sch many σ).2 := by
  generalize hE : f_X6_isAllowed sch many σ = Z
  dsimp only [f_X6_isAllowed] at hE
  refine Ct.of (by decide +kernel) (Nat.le_of_ble_eq_true rfl) ?_
  intro p e s m below meth c ls B F P hrt hlk hl
  have hx := B.1
  have hb := B.2.1
  have hl : lv_has ls 8 [(0, .ref (ad 19)), (1, .int sch), (2, .int many)] := hl
  refine lv_aload_n hx hb dX6_isAllowed_0 rfl (lv_at hl 0 rfl) ?_
  refine lv_iconst (v := 0) hx hb dX6_isAllowed_1 (by decide) ?_
  refine g_puti (k := 33) B F P ok6 (by decide) rfl rfl rfl (by decide) rfl (tyX6_ok 33 (by decide)) q847 dX6_isAllowed_2 (fun H locs P => ?_)
  refine lv_iconst (v := 1) hx hb dX6_isAllowed_5 (by decide) ?_
  refine lv_istore_n (lv' := [(3, .int 1), (0, .ref (ad 19)), (1, .int sch), (2, .int many)]) hx hb dX6_isAllowed_6 rfl hl (by decide) rfl (fun ls hl => ?_)
  refine lv_iconst (v := 0) hx hb dX6_isAllowed_7 (by decide) ?_
  refine lv_istore (lv' := [(4, .int 0), (3, .int 1), (0, .ref (ad 19)), (1, .int sch), (2, .int many)]) hx hb dX6_isAllowed_8 hl (by decide) rfl (fun ls hl => ?_)
  have L10 : ∀ (n10 : Nat) (x4_10 : Int32) (x3_10 : Int32) (σ10 : Sg), LI 6 n10 x4_10 → GM 100000 σ10 → (x3_10 = 0 ∨ x3_10 = 1) → f_X6_isAllowed_l10 sch many n10 x4_10 x3_10 σ10 = Z → ∀ (H : Heap) (locs : List Loc), Wo D ad cy ba s σ10 H locs → ∀ (ls : Array Slot), lv_has ls 8 [(4, .int x4_10), (3, .int x3_10), (0, .ref (ad 19)), (1, .int sch), (2, .int many)] → W p l e (rmK 6 0 0) s m ([.ref (ad 19), .int sch, .int many] : List Value).toArray below meth c H locs 0 0 (MQ below (Qe D ad cy ba (some (.int Z.1)) Z.2) ([.ref (ad 19), .int sch, .int many] : List Value).toArray s 0 0 (fun q => ba ≤ q)) (F0 m 10 ls []) := by
    clear hE P hl
    intro n10
    induction n10 with
    | zero => intro x4_10 x3_10 σ10 hI10 hM10 h310 hE; exact absurd hI10 LI.zero
    | succ n10 ih10 =>
      intro x4_10 x3_10 σ10 hI10 hM10 h310 hE H locs P ls hl
      dsimp only [f_X6_isAllowed_l10] at hE
      refine lv_iload hx hb dX6_isAllowed_10 (lv_at hl 0 rfl) ?_
      refine lv_iload_n hx hb dX6_isAllowed_12 rfl (lv_at hl 4 rfl) ?_
      refine lv_icmp_ge (tgt := 138) hx hb dX6_isAllowed_13 (by decide) (fun c13 => ?_) (fun c13 => ?_)
      · rw [if_pos c13] at hE
        refine lv_iload_n hx hb dX6_isAllowed_138 rfl (lv_at hl 1 rfl) ?_
        exact g_retz B P (by rw [← hE]) (by rw [← hE]) hrt (narb01 h310) hlk dX6_isAllowed_139
      · rw [if_neg c13] at hE
        refine lv_iload_n hx hb dX6_isAllowed_16 rfl (lv_at hl 1 rfl) ?_
        refine lv_if_eq (tgt := 138) hx hb dX6_isAllowed_17 (by decide) (fun c17 => ?_) (fun c17 => ?_)
        · rw [if_pos c17] at hE
          refine lv_iload_n hx hb dX6_isAllowed_138 rfl (lv_at hl 1 rfl) ?_
          exact g_retz B P (by rw [← hE]) (by rw [← hE]) hrt (narb01 h310) hlk dX6_isAllowed_139
        · rw [if_neg c17] at hE
          refine lv_iload_n hx hb dX6_isAllowed_20 rfl (lv_at hl 3 rfl) ?_
          refine lv_iload_n hx hb dX6_isAllowed_21 rfl (lv_at hl 4 rfl) ?_
          refine lv_iconst (v := 1) hx hb dX6_isAllowed_22 (by decide) ?_
          refine lv_isub hx hb dX6_isAllowed_23 ?_
          refine lv_iload hx hb dX6_isAllowed_24 (lv_at hl 0 rfl) ?_
          refine lv_isub hx hb dX6_isAllowed_26 ?_
          refine lv_ishr hx hb dX6_isAllowed_27 ?_
          refine lv_iconst (v := 1) hx hb dX6_isAllowed_28 (by decide) ?_
          refine lv_iand hx hb dX6_isAllowed_29 ?_
          refine lv_iconst (v := 1) hx hb dX6_isAllowed_30 (by decide) ?_
          refine lv_icmp_ne (tgt := 38) hx hb dX6_isAllowed_31 (by decide) (fun c31 => ?_) (fun c31 => ?_)
          · rw [if_neg c31] at hE
            refine lv_iconst (v := 0) hx hb dX6_isAllowed_38 (by decide) ?_
            refine lv_istore (lv' := [(5, .int 0), (4, .int x4_10), (3, .int x3_10), (0, .ref (ad 19)), (1, .int sch), (2, .int many)]) hx hb dX6_isAllowed_39 hl (by decide) rfl (fun ls hl => ?_)
            refine lv_aload_n hx hb dX6_isAllowed_41 rfl (lv_at hl 3 rfl) ?_
            refine lv_aload_n hx hb dX6_isAllowed_42 rfl (lv_at hl 3 rfl) ?_
            refine g_geti (k := 12) B F P ok6 (by decide) rfl rfl rfl (by decide) q826 dX6_isAllowed_43 ?_
            refine lv_iload hx hb dX6_isAllowed_46 (lv_at hl 1 rfl) ?_
            refine lv_iadd hx hb dX6_isAllowed_48 ?_
            refine g_callV B F P (As := [.int ((rI σ10 19 12) + x4_10)]) (ct_X6_orderAt (D := D) (ad := ad) (cy := cy) (ba := ba) l ((rI σ10 19 12) + x4_10) σ10 hM10.2.1) ok6 (by decide) rfl q1050 q1052 qs22 q8 q1053 nk_X6_orderAt rfl ⟨(Nat.le_of_ble_eq_true rfl), (Nat.le_of_ble_eq_true rfl)⟩ hl.1 rfl (Nat.le_of_ble_eq_true rfl) dX6_isAllowed_49 ⟨Nat.le_of_ble_eq_true rfl, Nat.le_of_ble_eq_true rfl⟩ (fun H locs P => ?_)
            refine lv_istore (lv' := [(6, .int (f_X6_orderAt ((rI σ10 19 12) + x4_10) σ10)), (5, .int 0), (4, .int x4_10), (3, .int x3_10), (0, .ref (ad 19)), (1, .int sch), (2, .int many)]) hx hb dX6_isAllowed_52 hl (by decide) rfl (fun ls hl => ?_)
            refine lv_aload_n hx hb dX6_isAllowed_54 rfl (lv_at hl 4 rfl) ?_
            refine g_geti (k := 12) B F P ok6 (by decide) rfl rfl rfl (by decide) q826 dX6_isAllowed_55 ?_
            refine lv_iload hx hb dX6_isAllowed_58 (lv_at hl 2 rfl) ?_
            refine lv_iadd hx hb dX6_isAllowed_60 ?_
            refine lv_bipush (v := 48) hx hb dX6_isAllowed_61 (by decide) ?_
            refine lv_irem hx hb dX6_isAllowed_63 (by decide) ?_
            refine lv_istore (lv' := [(7, .int (((rI σ10 19 12) + x4_10) - ((rI σ10 19 12) + x4_10) / 48 * 48)), (6, .int (f_X6_orderAt ((rI σ10 19 12) + x4_10) σ10)), (5, .int 0), (4, .int x4_10), (3, .int x3_10), (0, .ref (ad 19)), (1, .int sch), (2, .int many)]) hx hb dX6_isAllowed_64 hl (by decide) rfl (fun ls hl => ?_)
            refine lv_iload hx hb dX6_isAllowed_66 (lv_at hl 1 rfl) ?_
            refine lv_iconst (v := (-1)) hx hb dX6_isAllowed_68 (by decide) ?_
            refine lv_icmp_eq (tgt := 84) hx hb dX6_isAllowed_69 (by decide) (fun c69 => ?_) (fun c69 => ?_)
            · rw [if_pos c69] at hE
              refine lv_iconst (v := 1) hx hb dX6_isAllowed_84 (by decide) ?_
              refine lv_goto (tgt := 89) hx hb dX6_isAllowed_85 (by decide) ?_
              refine lv_istore_n (lv' := [(3, .int 1), (7, .int (((rI σ10 19 12) + x4_10) - ((rI σ10 19 12) + x4_10) / 48 * 48)), (6, .int (f_X6_orderAt ((rI σ10 19 12) + x4_10) σ10)), (5, .int 0), (4, .int x4_10), (0, .ref (ad 19)), (1, .int sch), (2, .int many)]) hx hb dX6_isAllowed_89 rfl hl (by decide) rfl (fun ls hl => ?_)
              refine lv_iload_n hx hb dX6_isAllowed_90 rfl (lv_at hl 0 rfl) ?_
              refine lv_if_eq (tgt := 109) hx hb dX6_isAllowed_91 (by decide) (fun h9 => absurd h9 (by decide)) (fun _ => ?_)
              refine lv_aload_n hx hb dX6_isAllowed_94 rfl (lv_at hl 5 rfl) ?_
              refine lv_iload hx hb dX6_isAllowed_95 (lv_at hl 1 rfl) ?_
              refine lv_iload hx hb dX6_isAllowed_97 (lv_at hl 3 rfl) ?_
              refine g_callV B F P (As := [.int (((rI σ10 19 12) + x4_10) - ((rI σ10 19 12) + x4_10) / 48 * 48), .int 0]) (ct_X6_goes (D := D) (ad := ad) (cy := cy) (ba := ba) l (((rI σ10 19 12) + x4_10) - ((rI σ10 19 12) + x4_10) / 48 * 48) 0 σ10 (rem_in (by rw [i_add hM10.2.2.1.1 (by have := hM10.2.2.1.2; omega) hI10.1 (by have := hI10.2.2; omega)]; have := hM10.2.2.1.1; have := hI10.1; omega)) hM10.1) ok6 (by decide) rfl q1037 q1039 qs19 q8 q1040 nk_X6_goes rfl ⟨(Nat.le_of_ble_eq_true rfl), (Nat.le_of_ble_eq_true rfl)⟩ hl.1 rfl (Nat.le_of_ble_eq_true rfl) dX6_isAllowed_99 ⟨Nat.le_of_ble_eq_true rfl, Nat.le_of_ble_eq_true rfl⟩ (fun H locs P => ?_)
              refine lv_if_eq (tgt := 109) hx hb dX6_isAllowed_102 (by decide) (fun c102 => ?_) (fun c102 => ?_)
              · rw [if_pos c102] at hE
                refine lv_iconst (v := 0) hx hb dX6_isAllowed_109 (by decide) ?_
                refine lv_istore_n (lv' := [(3, .int 0), (7, .int (((rI σ10 19 12) + x4_10) - ((rI σ10 19 12) + x4_10) / 48 * 48)), (6, .int (f_X6_orderAt ((rI σ10 19 12) + x4_10) σ10)), (5, .int 0), (4, .int x4_10), (0, .ref (ad 19)), (1, .int sch), (2, .int many)]) hx hb dX6_isAllowed_110 rfl hl (by decide) rfl (fun ls hl => ?_)
                refine lv_aload_n hx hb dX6_isAllowed_111 rfl (lv_at hl 5 rfl) ?_
                refine lv_dup hx hb dX6_isAllowed_112 rfl ?_
                refine g_geti (k := 33) B F P ok6 (by decide) rfl rfl rfl (by decide) q847 dX6_isAllowed_113 ?_
                refine lv_aload_n hx hb dX6_isAllowed_116 rfl (lv_at hl 5 rfl) ?_
                refine g_geti (k := 19) B F P ok6 (by decide) rfl rfl rfl (by decide) q833 dX6_isAllowed_117 ?_
                refine lv_aload_n hx hb dX6_isAllowed_120 rfl (lv_at hl 5 rfl) ?_
                refine g_getr (k := 9) (t := 27) B F P ok6 (by decide) rfl rfl rfl (by decide) rfl q823 dX6_isAllowed_121 ?_
                refine lv_iload hx hb dX6_isAllowed_124 (lv_at hl 1 rfl) ?_
                refine g_ild B F P (by decide) rfl rfl (rem_in (by rw [i_add hM10.2.2.1.1 (by have := hM10.2.2.1.2; omega) hI10.1 (by have := hI10.2.2; omega)]; have := hM10.2.2.1.1; have := hI10.1; omega)) dX6_isAllowed_126 ?_
                refine lv_imul hx hb dX6_isAllowed_127 ?_
                refine lv_iadd hx hb dX6_isAllowed_128 ?_
                refine g_puti (k := 33) B F P ok6 (by decide) rfl rfl rfl (by decide) rfl (tyX6_ok 33 (by decide)) q847 dX6_isAllowed_129 (fun H locs P => ?_)
                refine lv_iinc (v := (x4_10 + 1)) (lv' := [(4, .int (x4_10 + 1)), (3, .int 0), (7, .int (((rI σ10 19 12) + x4_10) - ((rI σ10 19 12) + x4_10) / 48 * 48)), (6, .int (f_X6_orderAt ((rI σ10 19 12) + x4_10) σ10)), (5, .int 0), (0, .ref (ad 19)), (1, .int sch), (2, .int many)]) hx hb dX6_isAllowed_132 hl (k := 4) rfl (by first | rfl | decide) (by decide) rfl (fun ls hl => ?_)
                refine lv_goto (tgt := 10) hx hb dX6_isAllowed_135 (by decide) ?_
                exact ih10 (x4_10 + 1) 0 (sI ((f_X6_goes (((rI σ10 19 12) + x4_10) - ((rI σ10 19 12) + x4_10) / 48 * 48) 0 σ10).2) 19 33 ((rI ((f_X6_goes (((rI σ10 19 12) + x4_10) - ((rI σ10 19 12) + x4_10) / 48 * 48) 0 σ10).2) 19 33) + ((rI ((f_X6_goes (((rI σ10 19 12) + x4_10) - ((rI σ10 19 12) + x4_10) / 48 * 48) 0 σ10).2) 19 19) * (rI ((f_X6_goes (((rI σ10 19 12) + x4_10) - ((rI σ10 19 12) + x4_10) / 48 * 48) 0 σ10).2) 27 (((rI σ10 19 12) + x4_10) - ((rI σ10 19 12) + x4_10) / 48 * 48).toNatClampNeg)))) (hI10.next c13 hm) ((hM10.ml (ml_X6_goes _ _ _)).ml (by (repeat first | exact Ml.refl | refine Ml.sI ?_ (by omega)))) (Or.inl rfl) hE _ _ P _ (lv_sub hl [0, 1, 5, 6, 7] rfl)
              · rw [if_neg c102] at hE
                refine lv_iconst (v := 1) hx hb dX6_isAllowed_105 (by decide) ?_
                refine lv_goto (tgt := 110) hx hb dX6_isAllowed_106 (by decide) ?_
                refine lv_istore_n (lv' := [(3, .int 1), (7, .int (((rI σ10 19 12) + x4_10) - ((rI σ10 19 12) + x4_10) / 48 * 48)), (6, .int (f_X6_orderAt ((rI σ10 19 12) + x4_10) σ10)), (5, .int 0), (4, .int x4_10), (0, .ref (ad 19)), (1, .int sch), (2, .int many)]) hx hb dX6_isAllowed_110 rfl hl (by decide) rfl (fun ls hl => ?_)
                refine lv_aload_n hx hb dX6_isAllowed_111 rfl (lv_at hl 5 rfl) ?_
                refine lv_dup hx hb dX6_isAllowed_112 rfl ?_
                refine g_geti (k := 33) B F P ok6 (by decide) rfl rfl rfl (by decide) q847 dX6_isAllowed_113 ?_
                refine lv_aload_n hx hb dX6_isAllowed_116 rfl (lv_at hl 5 rfl) ?_
                refine g_geti (k := 19) B F P ok6 (by decide) rfl rfl rfl (by decide) q833 dX6_isAllowed_117 ?_
                refine lv_aload_n hx hb dX6_isAllowed_120 rfl (lv_at hl 5 rfl) ?_
                refine g_getr (k := 9) (t := 27) B F P ok6 (by decide) rfl rfl rfl (by decide) rfl q823 dX6_isAllowed_121 ?_
                refine lv_iload hx hb dX6_isAllowed_124 (lv_at hl 1 rfl) ?_
                refine g_ild B F P (by decide) rfl rfl (rem_in (by rw [i_add hM10.2.2.1.1 (by have := hM10.2.2.1.2; omega) hI10.1 (by have := hI10.2.2; omega)]; have := hM10.2.2.1.1; have := hI10.1; omega)) dX6_isAllowed_126 ?_
                refine lv_imul hx hb dX6_isAllowed_127 ?_
                refine lv_iadd hx hb dX6_isAllowed_128 ?_
                refine g_puti (k := 33) B F P ok6 (by decide) rfl rfl rfl (by decide) rfl (tyX6_ok 33 (by decide)) q847 dX6_isAllowed_129 (fun H locs P => ?_)
                refine lv_iinc (v := (x4_10 + 1)) (lv' := [(4, .int (x4_10 + 1)), (3, .int 1), (7, .int (((rI σ10 19 12) + x4_10) - ((rI σ10 19 12) + x4_10) / 48 * 48)), (6, .int (f_X6_orderAt ((rI σ10 19 12) + x4_10) σ10)), (5, .int 0), (0, .ref (ad 19)), (1, .int sch), (2, .int many)]) hx hb dX6_isAllowed_132 hl (k := 4) rfl (by first | rfl | decide) (by decide) rfl (fun ls hl => ?_)
                refine lv_goto (tgt := 10) hx hb dX6_isAllowed_135 (by decide) ?_
                exact ih10 (x4_10 + 1) 1 (sI ((f_X6_goes (((rI σ10 19 12) + x4_10) - ((rI σ10 19 12) + x4_10) / 48 * 48) 0 σ10).2) 19 33 ((rI ((f_X6_goes (((rI σ10 19 12) + x4_10) - ((rI σ10 19 12) + x4_10) / 48 * 48) 0 σ10).2) 19 33) + ((rI ((f_X6_goes (((rI σ10 19 12) + x4_10) - ((rI σ10 19 12) + x4_10) / 48 * 48) 0 σ10).2) 19 19) * (rI ((f_X6_goes (((rI σ10 19 12) + x4_10) - ((rI σ10 19 12) + x4_10) / 48 * 48) 0 σ10).2) 27 (((rI σ10 19 12) + x4_10) - ((rI σ10 19 12) + x4_10) / 48 * 48).toNatClampNeg)))) (hI10.next c13 hm) ((hM10.ml (ml_X6_goes _ _ _)).ml (by (repeat first | exact Ml.refl | refine Ml.sI ?_ (by omega)))) (Or.inr rfl) hE _ _ P _ (lv_sub hl [0, 1, 5, 6, 7] rfl)
            · rw [if_neg c69] at hE
              refine lv_aload_n hx hb dX6_isAllowed_72 rfl (lv_at hl 5 rfl) ?_
              refine g_getr (k := 15) (t := 29) B F P ok6 (by decide) rfl rfl rfl (by decide) rfl q829 dX6_isAllowed_73 ?_
              refine lv_iload hx hb dX6_isAllowed_76 (lv_at hl 1 rfl) ?_
              refine g_zld B F P (by decide) rfl rfl (oat_in hM10.2.1 c69) dX6_isAllowed_78 ?_
              refine lv_iload hx hb dX6_isAllowed_79 (lv_at hl 2 rfl) ?_
              refine lv_icmp_ne (tgt := 88) hx hb dX6_isAllowed_81 (by decide) (fun c81 => ?_) (fun c81 => ?_)
              · rw [if_neg c81] at hE
                refine lv_iconst (v := 0) hx hb dX6_isAllowed_88 (by decide) ?_
                refine lv_istore_n (lv' := [(3, .int 0), (7, .int (((rI σ10 19 12) + x4_10) - ((rI σ10 19 12) + x4_10) / 48 * 48)), (6, .int (f_X6_orderAt ((rI σ10 19 12) + x4_10) σ10)), (5, .int 0), (4, .int x4_10), (0, .ref (ad 19)), (1, .int sch), (2, .int many)]) hx hb dX6_isAllowed_89 rfl hl (by decide) rfl (fun ls hl => ?_)
                refine lv_iload_n hx hb dX6_isAllowed_90 rfl (lv_at hl 0 rfl) ?_
                refine lv_if_eq (tgt := 109) hx hb dX6_isAllowed_91 (by decide) (fun _ => ?_) (fun h9 => absurd h9 (by decide))
                refine lv_iconst (v := 0) hx hb dX6_isAllowed_109 (by decide) ?_
                refine lv_istore_n (lv' := [(3, .int 0), (7, .int (((rI σ10 19 12) + x4_10) - ((rI σ10 19 12) + x4_10) / 48 * 48)), (6, .int (f_X6_orderAt ((rI σ10 19 12) + x4_10) σ10)), (5, .int 0), (4, .int x4_10), (0, .ref (ad 19)), (1, .int sch), (2, .int many)]) hx hb dX6_isAllowed_110 rfl hl (by decide) rfl (fun ls hl => ?_)
                refine lv_aload_n hx hb dX6_isAllowed_111 rfl (lv_at hl 5 rfl) ?_
                refine lv_dup hx hb dX6_isAllowed_112 rfl ?_
                refine g_geti (k := 33) B F P ok6 (by decide) rfl rfl rfl (by decide) q847 dX6_isAllowed_113 ?_
                refine lv_aload_n hx hb dX6_isAllowed_116 rfl (lv_at hl 5 rfl) ?_
                refine g_geti (k := 19) B F P ok6 (by decide) rfl rfl rfl (by decide) q833 dX6_isAllowed_117 ?_
                refine lv_aload_n hx hb dX6_isAllowed_120 rfl (lv_at hl 5 rfl) ?_
                refine g_getr (k := 9) (t := 27) B F P ok6 (by decide) rfl rfl rfl (by decide) rfl q823 dX6_isAllowed_121 ?_
                refine lv_iload hx hb dX6_isAllowed_124 (lv_at hl 1 rfl) ?_
                refine g_ild B F P (by decide) rfl rfl (rem_in (by rw [i_add hM10.2.2.1.1 (by have := hM10.2.2.1.2; omega) hI10.1 (by have := hI10.2.2; omega)]; have := hM10.2.2.1.1; have := hI10.1; omega)) dX6_isAllowed_126 ?_
                refine lv_imul hx hb dX6_isAllowed_127 ?_
                refine lv_iadd hx hb dX6_isAllowed_128 ?_
                refine g_puti (k := 33) B F P ok6 (by decide) rfl rfl rfl (by decide) rfl (tyX6_ok 33 (by decide)) q847 dX6_isAllowed_129 (fun H locs P => ?_)
                refine lv_iinc (v := (x4_10 + 1)) (lv' := [(4, .int (x4_10 + 1)), (3, .int 0), (7, .int (((rI σ10 19 12) + x4_10) - ((rI σ10 19 12) + x4_10) / 48 * 48)), (6, .int (f_X6_orderAt ((rI σ10 19 12) + x4_10) σ10)), (5, .int 0), (0, .ref (ad 19)), (1, .int sch), (2, .int many)]) hx hb dX6_isAllowed_132 hl (k := 4) rfl (by first | rfl | decide) (by decide) rfl (fun ls hl => ?_)
                refine lv_goto (tgt := 10) hx hb dX6_isAllowed_135 (by decide) ?_
                exact ih10 (x4_10 + 1) 0 (sI σ10 19 33 ((rI σ10 19 33) + ((rI σ10 19 19) * (rI σ10 27 (((rI σ10 19 12) + x4_10) - ((rI σ10 19 12) + x4_10) / 48 * 48).toNatClampNeg)))) (hI10.next c13 hm) (hM10.ml (by (repeat first | exact Ml.refl | refine Ml.sI ?_ (by omega)))) (Or.inl rfl) hE _ _ P _ (lv_sub hl [0, 1, 5, 6, 7] rfl)
              · rw [if_pos c81] at hE
                refine lv_iconst (v := 1) hx hb dX6_isAllowed_84 (by decide) ?_
                refine lv_goto (tgt := 89) hx hb dX6_isAllowed_85 (by decide) ?_
                refine lv_istore_n (lv' := [(3, .int 1), (7, .int (((rI σ10 19 12) + x4_10) - ((rI σ10 19 12) + x4_10) / 48 * 48)), (6, .int (f_X6_orderAt ((rI σ10 19 12) + x4_10) σ10)), (5, .int 0), (4, .int x4_10), (0, .ref (ad 19)), (1, .int sch), (2, .int many)]) hx hb dX6_isAllowed_89 rfl hl (by decide) rfl (fun ls hl => ?_)
                refine lv_iload_n hx hb dX6_isAllowed_90 rfl (lv_at hl 0 rfl) ?_
                refine lv_if_eq (tgt := 109) hx hb dX6_isAllowed_91 (by decide) (fun h9 => absurd h9 (by decide)) (fun _ => ?_)
                refine lv_aload_n hx hb dX6_isAllowed_94 rfl (lv_at hl 5 rfl) ?_
                refine lv_iload hx hb dX6_isAllowed_95 (lv_at hl 1 rfl) ?_
                refine lv_iload hx hb dX6_isAllowed_97 (lv_at hl 3 rfl) ?_
                refine g_callV B F P (As := [.int (((rI σ10 19 12) + x4_10) - ((rI σ10 19 12) + x4_10) / 48 * 48), .int 0]) (ct_X6_goes (D := D) (ad := ad) (cy := cy) (ba := ba) l (((rI σ10 19 12) + x4_10) - ((rI σ10 19 12) + x4_10) / 48 * 48) 0 σ10 (rem_in (by rw [i_add hM10.2.2.1.1 (by have := hM10.2.2.1.2; omega) hI10.1 (by have := hI10.2.2; omega)]; have := hM10.2.2.1.1; have := hI10.1; omega)) hM10.1) ok6 (by decide) rfl q1037 q1039 qs19 q8 q1040 nk_X6_goes rfl ⟨(Nat.le_of_ble_eq_true rfl), (Nat.le_of_ble_eq_true rfl)⟩ hl.1 rfl (Nat.le_of_ble_eq_true rfl) dX6_isAllowed_99 ⟨Nat.le_of_ble_eq_true rfl, Nat.le_of_ble_eq_true rfl⟩ (fun H locs P => ?_)
                refine lv_if_eq (tgt := 109) hx hb dX6_isAllowed_102 (by decide) (fun c102 => ?_) (fun c102 => ?_)
                · rw [if_pos c102] at hE
                  refine lv_iconst (v := 0) hx hb dX6_isAllowed_109 (by decide) ?_
                  refine lv_istore_n (lv' := [(3, .int 0), (7, .int (((rI σ10 19 12) + x4_10) - ((rI σ10 19 12) + x4_10) / 48 * 48)), (6, .int (f_X6_orderAt ((rI σ10 19 12) + x4_10) σ10)), (5, .int 0), (4, .int x4_10), (0, .ref (ad 19)), (1, .int sch), (2, .int many)]) hx hb dX6_isAllowed_110 rfl hl (by decide) rfl (fun ls hl => ?_)
                  refine lv_aload_n hx hb dX6_isAllowed_111 rfl (lv_at hl 5 rfl) ?_
                  refine lv_dup hx hb dX6_isAllowed_112 rfl ?_
                  refine g_geti (k := 33) B F P ok6 (by decide) rfl rfl rfl (by decide) q847 dX6_isAllowed_113 ?_
                  refine lv_aload_n hx hb dX6_isAllowed_116 rfl (lv_at hl 5 rfl) ?_
                  refine g_geti (k := 19) B F P ok6 (by decide) rfl rfl rfl (by decide) q833 dX6_isAllowed_117 ?_
                  refine lv_aload_n hx hb dX6_isAllowed_120 rfl (lv_at hl 5 rfl) ?_
                  refine g_getr (k := 9) (t := 27) B F P ok6 (by decide) rfl rfl rfl (by decide) rfl q823 dX6_isAllowed_121 ?_
                  refine lv_iload hx hb dX6_isAllowed_124 (lv_at hl 1 rfl) ?_
                  refine g_ild B F P (by decide) rfl rfl (rem_in (by rw [i_add hM10.2.2.1.1 (by have := hM10.2.2.1.2; omega) hI10.1 (by have := hI10.2.2; omega)]; have := hM10.2.2.1.1; have := hI10.1; omega)) dX6_isAllowed_126 ?_
                  refine lv_imul hx hb dX6_isAllowed_127 ?_
                  refine lv_iadd hx hb dX6_isAllowed_128 ?_
                  refine g_puti (k := 33) B F P ok6 (by decide) rfl rfl rfl (by decide) rfl (tyX6_ok 33 (by decide)) q847 dX6_isAllowed_129 (fun H locs P => ?_)
                  refine lv_iinc (v := (x4_10 + 1)) (lv' := [(4, .int (x4_10 + 1)), (3, .int 0), (7, .int (((rI σ10 19 12) + x4_10) - ((rI σ10 19 12) + x4_10) / 48 * 48)), (6, .int (f_X6_orderAt ((rI σ10 19 12) + x4_10) σ10)), (5, .int 0), (0, .ref (ad 19)), (1, .int sch), (2, .int many)]) hx hb dX6_isAllowed_132 hl (k := 4) rfl (by first | rfl | decide) (by decide) rfl (fun ls hl => ?_)
                  refine lv_goto (tgt := 10) hx hb dX6_isAllowed_135 (by decide) ?_
                  exact ih10 (x4_10 + 1) 0 (sI ((f_X6_goes (((rI σ10 19 12) + x4_10) - ((rI σ10 19 12) + x4_10) / 48 * 48) 0 σ10).2) 19 33 ((rI ((f_X6_goes (((rI σ10 19 12) + x4_10) - ((rI σ10 19 12) + x4_10) / 48 * 48) 0 σ10).2) 19 33) + ((rI ((f_X6_goes (((rI σ10 19 12) + x4_10) - ((rI σ10 19 12) + x4_10) / 48 * 48) 0 σ10).2) 19 19) * (rI ((f_X6_goes (((rI σ10 19 12) + x4_10) - ((rI σ10 19 12) + x4_10) / 48 * 48) 0 σ10).2) 27 (((rI σ10 19 12) + x4_10) - ((rI σ10 19 12) + x4_10) / 48 * 48).toNatClampNeg)))) (hI10.next c13 hm) ((hM10.ml (ml_X6_goes _ _ _)).ml (by (repeat first | exact Ml.refl | refine Ml.sI ?_ (by omega)))) (Or.inl rfl) hE _ _ P _ (lv_sub hl [0, 1, 5, 6, 7] rfl)
                · rw [if_neg c102] at hE
                  refine lv_iconst (v := 1) hx hb dX6_isAllowed_105 (by decide) ?_
                  refine lv_goto (tgt := 110) hx hb dX6_isAllowed_106 (by decide) ?_
                  refine lv_istore_n (lv' := [(3, .int 1), (7, .int (((rI σ10 19 12) + x4_10) - ((rI σ10 19 12) + x4_10) / 48 * 48)), (6, .int (f_X6_orderAt ((rI σ10 19 12) + x4_10) σ10)), (5, .int 0), (4, .int x4_10), (0, .ref (ad 19)), (1, .int sch), (2, .int many)]) hx hb dX6_isAllowed_110 rfl hl (by decide) rfl (fun ls hl => ?_)
                  refine lv_aload_n hx hb dX6_isAllowed_111 rfl (lv_at hl 5 rfl) ?_
                  refine lv_dup hx hb dX6_isAllowed_112 rfl ?_
                  refine g_geti (k := 33) B F P ok6 (by decide) rfl rfl rfl (by decide) q847 dX6_isAllowed_113 ?_
                  refine lv_aload_n hx hb dX6_isAllowed_116 rfl (lv_at hl 5 rfl) ?_
                  refine g_geti (k := 19) B F P ok6 (by decide) rfl rfl rfl (by decide) q833 dX6_isAllowed_117 ?_
                  refine lv_aload_n hx hb dX6_isAllowed_120 rfl (lv_at hl 5 rfl) ?_
                  refine g_getr (k := 9) (t := 27) B F P ok6 (by decide) rfl rfl rfl (by decide) rfl q823 dX6_isAllowed_121 ?_
                  refine lv_iload hx hb dX6_isAllowed_124 (lv_at hl 1 rfl) ?_
                  refine g_ild B F P (by decide) rfl rfl (rem_in (by rw [i_add hM10.2.2.1.1 (by have := hM10.2.2.1.2; omega) hI10.1 (by have := hI10.2.2; omega)]; have := hM10.2.2.1.1; have := hI10.1; omega)) dX6_isAllowed_126 ?_
                  refine lv_imul hx hb dX6_isAllowed_127 ?_
                  refine lv_iadd hx hb dX6_isAllowed_128 ?_
                  refine g_puti (k := 33) B F P ok6 (by decide) rfl rfl rfl (by decide) rfl (tyX6_ok 33 (by decide)) q847 dX6_isAllowed_129 (fun H locs P => ?_)
                  refine lv_iinc (v := (x4_10 + 1)) (lv' := [(4, .int (x4_10 + 1)), (3, .int 1), (7, .int (((rI σ10 19 12) + x4_10) - ((rI σ10 19 12) + x4_10) / 48 * 48)), (6, .int (f_X6_orderAt ((rI σ10 19 12) + x4_10) σ10)), (5, .int 0), (0, .ref (ad 19)), (1, .int sch), (2, .int many)]) hx hb dX6_isAllowed_132 hl (k := 4) rfl (by first | rfl | decide) (by decide) rfl (fun ls hl => ?_)
                  refine lv_goto (tgt := 10) hx hb dX6_isAllowed_135 (by decide) ?_
                  exact ih10 (x4_10 + 1) 1 (sI ((f_X6_goes (((rI σ10 19 12) + x4_10) - ((rI σ10 19 12) + x4_10) / 48 * 48) 0 σ10).2) 19 33 ((rI ((f_X6_goes (((rI σ10 19 12) + x4_10) - ((rI σ10 19 12) + x4_10) / 48 * 48) 0 σ10).2) 19 33) + ((rI ((f_X6_goes (((rI σ10 19 12) + x4_10) - ((rI σ10 19 12) + x4_10) / 48 * 48) 0 σ10).2) 19 19) * (rI ((f_X6_goes (((rI σ10 19 12) + x4_10) - ((rI σ10 19 12) + x4_10) / 48 * 48) 0 σ10).2) 27 (((rI σ10 19 12) + x4_10) - ((rI σ10 19 12) + x4_10) / 48 * 48).toNatClampNeg)))) (hI10.next c13 hm) ((hM10.ml (ml_X6_goes _ _ _)).ml (by (repeat first | exact Ml.refl | refine Ml.sI ?_ (by omega)))) (Or.inr rfl) hE _ _ P _ (lv_sub hl [0, 1, 5, 6, 7] rfl)
          · rw [if_pos c31] at hE
            refine lv_iconst (v := 1) hx hb dX6_isAllowed_34 (by decide) ?_
            refine lv_goto (tgt := 39) hx hb dX6_isAllowed_35 (by decide) ?_
            refine lv_istore (lv' := [(5, .int 1), (4, .int x4_10), (3, .int x3_10), (0, .ref (ad 19)), (1, .int sch), (2, .int many)]) hx hb dX6_isAllowed_39 hl (by decide) rfl (fun ls hl => ?_)
            refine lv_aload_n hx hb dX6_isAllowed_41 rfl (lv_at hl 3 rfl) ?_
            refine lv_aload_n hx hb dX6_isAllowed_42 rfl (lv_at hl 3 rfl) ?_
            refine g_geti (k := 12) B F P ok6 (by decide) rfl rfl rfl (by decide) q826 dX6_isAllowed_43 ?_
            refine lv_iload hx hb dX6_isAllowed_46 (lv_at hl 1 rfl) ?_
            refine lv_iadd hx hb dX6_isAllowed_48 ?_
            refine g_callV B F P (As := [.int ((rI σ10 19 12) + x4_10)]) (ct_X6_orderAt (D := D) (ad := ad) (cy := cy) (ba := ba) l ((rI σ10 19 12) + x4_10) σ10 hM10.2.1) ok6 (by decide) rfl q1050 q1052 qs22 q8 q1053 nk_X6_orderAt rfl ⟨(Nat.le_of_ble_eq_true rfl), (Nat.le_of_ble_eq_true rfl)⟩ hl.1 rfl (Nat.le_of_ble_eq_true rfl) dX6_isAllowed_49 ⟨Nat.le_of_ble_eq_true rfl, Nat.le_of_ble_eq_true rfl⟩ (fun H locs P => ?_)
            refine lv_istore (lv' := [(6, .int (f_X6_orderAt ((rI σ10 19 12) + x4_10) σ10)), (5, .int 1), (4, .int x4_10), (3, .int x3_10), (0, .ref (ad 19)), (1, .int sch), (2, .int many)]) hx hb dX6_isAllowed_52 hl (by decide) rfl (fun ls hl => ?_)
            refine lv_aload_n hx hb dX6_isAllowed_54 rfl (lv_at hl 4 rfl) ?_
            refine g_geti (k := 12) B F P ok6 (by decide) rfl rfl rfl (by decide) q826 dX6_isAllowed_55 ?_
            refine lv_iload hx hb dX6_isAllowed_58 (lv_at hl 2 rfl) ?_
            refine lv_iadd hx hb dX6_isAllowed_60 ?_
            refine lv_bipush (v := 48) hx hb dX6_isAllowed_61 (by decide) ?_
            refine lv_irem hx hb dX6_isAllowed_63 (by decide) ?_
            refine lv_istore (lv' := [(7, .int (((rI σ10 19 12) + x4_10) - ((rI σ10 19 12) + x4_10) / 48 * 48)), (6, .int (f_X6_orderAt ((rI σ10 19 12) + x4_10) σ10)), (5, .int 1), (4, .int x4_10), (3, .int x3_10), (0, .ref (ad 19)), (1, .int sch), (2, .int many)]) hx hb dX6_isAllowed_64 hl (by decide) rfl (fun ls hl => ?_)
            refine lv_iload hx hb dX6_isAllowed_66 (lv_at hl 1 rfl) ?_
            refine lv_iconst (v := (-1)) hx hb dX6_isAllowed_68 (by decide) ?_
            refine lv_icmp_eq (tgt := 84) hx hb dX6_isAllowed_69 (by decide) (fun c69 => ?_) (fun c69 => ?_)
            · rw [if_pos c69] at hE
              refine lv_iconst (v := 1) hx hb dX6_isAllowed_84 (by decide) ?_
              refine lv_goto (tgt := 89) hx hb dX6_isAllowed_85 (by decide) ?_
              refine lv_istore_n (lv' := [(3, .int 1), (7, .int (((rI σ10 19 12) + x4_10) - ((rI σ10 19 12) + x4_10) / 48 * 48)), (6, .int (f_X6_orderAt ((rI σ10 19 12) + x4_10) σ10)), (5, .int 1), (4, .int x4_10), (0, .ref (ad 19)), (1, .int sch), (2, .int many)]) hx hb dX6_isAllowed_89 rfl hl (by decide) rfl (fun ls hl => ?_)
              refine lv_iload_n hx hb dX6_isAllowed_90 rfl (lv_at hl 0 rfl) ?_
              refine lv_if_eq (tgt := 109) hx hb dX6_isAllowed_91 (by decide) (fun h9 => absurd h9 (by decide)) (fun _ => ?_)
              refine lv_aload_n hx hb dX6_isAllowed_94 rfl (lv_at hl 5 rfl) ?_
              refine lv_iload hx hb dX6_isAllowed_95 (lv_at hl 1 rfl) ?_
              refine lv_iload hx hb dX6_isAllowed_97 (lv_at hl 3 rfl) ?_
              refine g_callV B F P (As := [.int (((rI σ10 19 12) + x4_10) - ((rI σ10 19 12) + x4_10) / 48 * 48), .int 1]) (ct_X6_goes (D := D) (ad := ad) (cy := cy) (ba := ba) l (((rI σ10 19 12) + x4_10) - ((rI σ10 19 12) + x4_10) / 48 * 48) 1 σ10 (rem_in (by rw [i_add hM10.2.2.1.1 (by have := hM10.2.2.1.2; omega) hI10.1 (by have := hI10.2.2; omega)]; have := hM10.2.2.1.1; have := hI10.1; omega)) hM10.1) ok6 (by decide) rfl q1037 q1039 qs19 q8 q1040 nk_X6_goes rfl ⟨(Nat.le_of_ble_eq_true rfl), (Nat.le_of_ble_eq_true rfl)⟩ hl.1 rfl (Nat.le_of_ble_eq_true rfl) dX6_isAllowed_99 ⟨Nat.le_of_ble_eq_true rfl, Nat.le_of_ble_eq_true rfl⟩ (fun H locs P => ?_)
              refine lv_if_eq (tgt := 109) hx hb dX6_isAllowed_102 (by decide) (fun c102 => ?_) (fun c102 => ?_)
              · rw [if_pos c102] at hE
                refine lv_iconst (v := 0) hx hb dX6_isAllowed_109 (by decide) ?_
                refine lv_istore_n (lv' := [(3, .int 0), (7, .int (((rI σ10 19 12) + x4_10) - ((rI σ10 19 12) + x4_10) / 48 * 48)), (6, .int (f_X6_orderAt ((rI σ10 19 12) + x4_10) σ10)), (5, .int 1), (4, .int x4_10), (0, .ref (ad 19)), (1, .int sch), (2, .int many)]) hx hb dX6_isAllowed_110 rfl hl (by decide) rfl (fun ls hl => ?_)
                refine lv_aload_n hx hb dX6_isAllowed_111 rfl (lv_at hl 5 rfl) ?_
                refine lv_dup hx hb dX6_isAllowed_112 rfl ?_
                refine g_geti (k := 33) B F P ok6 (by decide) rfl rfl rfl (by decide) q847 dX6_isAllowed_113 ?_
                refine lv_aload_n hx hb dX6_isAllowed_116 rfl (lv_at hl 5 rfl) ?_
                refine g_geti (k := 19) B F P ok6 (by decide) rfl rfl rfl (by decide) q833 dX6_isAllowed_117 ?_
                refine lv_aload_n hx hb dX6_isAllowed_120 rfl (lv_at hl 5 rfl) ?_
                refine g_getr (k := 9) (t := 27) B F P ok6 (by decide) rfl rfl rfl (by decide) rfl q823 dX6_isAllowed_121 ?_
                refine lv_iload hx hb dX6_isAllowed_124 (lv_at hl 1 rfl) ?_
                refine g_ild B F P (by decide) rfl rfl (rem_in (by rw [i_add hM10.2.2.1.1 (by have := hM10.2.2.1.2; omega) hI10.1 (by have := hI10.2.2; omega)]; have := hM10.2.2.1.1; have := hI10.1; omega)) dX6_isAllowed_126 ?_
                refine lv_imul hx hb dX6_isAllowed_127 ?_
                refine lv_iadd hx hb dX6_isAllowed_128 ?_
                refine g_puti (k := 33) B F P ok6 (by decide) rfl rfl rfl (by decide) rfl (tyX6_ok 33 (by decide)) q847 dX6_isAllowed_129 (fun H locs P => ?_)
                refine lv_iinc (v := (x4_10 + 1)) (lv' := [(4, .int (x4_10 + 1)), (3, .int 0), (7, .int (((rI σ10 19 12) + x4_10) - ((rI σ10 19 12) + x4_10) / 48 * 48)), (6, .int (f_X6_orderAt ((rI σ10 19 12) + x4_10) σ10)), (5, .int 1), (0, .ref (ad 19)), (1, .int sch), (2, .int many)]) hx hb dX6_isAllowed_132 hl (k := 4) rfl (by first | rfl | decide) (by decide) rfl (fun ls hl => ?_)
                refine lv_goto (tgt := 10) hx hb dX6_isAllowed_135 (by decide) ?_
                exact ih10 (x4_10 + 1) 0 (sI ((f_X6_goes (((rI σ10 19 12) + x4_10) - ((rI σ10 19 12) + x4_10) / 48 * 48) 1 σ10).2) 19 33 ((rI ((f_X6_goes (((rI σ10 19 12) + x4_10) - ((rI σ10 19 12) + x4_10) / 48 * 48) 1 σ10).2) 19 33) + ((rI ((f_X6_goes (((rI σ10 19 12) + x4_10) - ((rI σ10 19 12) + x4_10) / 48 * 48) 1 σ10).2) 19 19) * (rI ((f_X6_goes (((rI σ10 19 12) + x4_10) - ((rI σ10 19 12) + x4_10) / 48 * 48) 1 σ10).2) 27 (((rI σ10 19 12) + x4_10) - ((rI σ10 19 12) + x4_10) / 48 * 48).toNatClampNeg)))) (hI10.next c13 hm) ((hM10.ml (ml_X6_goes _ _ _)).ml (by (repeat first | exact Ml.refl | refine Ml.sI ?_ (by omega)))) (Or.inl rfl) hE _ _ P _ (lv_sub hl [0, 1, 5, 6, 7] rfl)
              · rw [if_neg c102] at hE
                refine lv_iconst (v := 1) hx hb dX6_isAllowed_105 (by decide) ?_
                refine lv_goto (tgt := 110) hx hb dX6_isAllowed_106 (by decide) ?_
                refine lv_istore_n (lv' := [(3, .int 1), (7, .int (((rI σ10 19 12) + x4_10) - ((rI σ10 19 12) + x4_10) / 48 * 48)), (6, .int (f_X6_orderAt ((rI σ10 19 12) + x4_10) σ10)), (5, .int 1), (4, .int x4_10), (0, .ref (ad 19)), (1, .int sch), (2, .int many)]) hx hb dX6_isAllowed_110 rfl hl (by decide) rfl (fun ls hl => ?_)
                refine lv_aload_n hx hb dX6_isAllowed_111 rfl (lv_at hl 5 rfl) ?_
                refine lv_dup hx hb dX6_isAllowed_112 rfl ?_
                refine g_geti (k := 33) B F P ok6 (by decide) rfl rfl rfl (by decide) q847 dX6_isAllowed_113 ?_
                refine lv_aload_n hx hb dX6_isAllowed_116 rfl (lv_at hl 5 rfl) ?_
                refine g_geti (k := 19) B F P ok6 (by decide) rfl rfl rfl (by decide) q833 dX6_isAllowed_117 ?_
                refine lv_aload_n hx hb dX6_isAllowed_120 rfl (lv_at hl 5 rfl) ?_
                refine g_getr (k := 9) (t := 27) B F P ok6 (by decide) rfl rfl rfl (by decide) rfl q823 dX6_isAllowed_121 ?_
                refine lv_iload hx hb dX6_isAllowed_124 (lv_at hl 1 rfl) ?_
                refine g_ild B F P (by decide) rfl rfl (rem_in (by rw [i_add hM10.2.2.1.1 (by have := hM10.2.2.1.2; omega) hI10.1 (by have := hI10.2.2; omega)]; have := hM10.2.2.1.1; have := hI10.1; omega)) dX6_isAllowed_126 ?_
                refine lv_imul hx hb dX6_isAllowed_127 ?_
                refine lv_iadd hx hb dX6_isAllowed_128 ?_
                refine g_puti (k := 33) B F P ok6 (by decide) rfl rfl rfl (by decide) rfl (tyX6_ok 33 (by decide)) q847 dX6_isAllowed_129 (fun H locs P => ?_)
                refine lv_iinc (v := (x4_10 + 1)) (lv' := [(4, .int (x4_10 + 1)), (3, .int 1), (7, .int (((rI σ10 19 12) + x4_10) - ((rI σ10 19 12) + x4_10) / 48 * 48)), (6, .int (f_X6_orderAt ((rI σ10 19 12) + x4_10) σ10)), (5, .int 1), (0, .ref (ad 19)), (1, .int sch), (2, .int many)]) hx hb dX6_isAllowed_132 hl (k := 4) rfl (by first | rfl | decide) (by decide) rfl (fun ls hl => ?_)
                refine lv_goto (tgt := 10) hx hb dX6_isAllowed_135 (by decide) ?_
                exact ih10 (x4_10 + 1) 1 (sI ((f_X6_goes (((rI σ10 19 12) + x4_10) - ((rI σ10 19 12) + x4_10) / 48 * 48) 1 σ10).2) 19 33 ((rI ((f_X6_goes (((rI σ10 19 12) + x4_10) - ((rI σ10 19 12) + x4_10) / 48 * 48) 1 σ10).2) 19 33) + ((rI ((f_X6_goes (((rI σ10 19 12) + x4_10) - ((rI σ10 19 12) + x4_10) / 48 * 48) 1 σ10).2) 19 19) * (rI ((f_X6_goes (((rI σ10 19 12) + x4_10) - ((rI σ10 19 12) + x4_10) / 48 * 48) 1 σ10).2) 27 (((rI σ10 19 12) + x4_10) - ((rI σ10 19 12) + x4_10) / 48 * 48).toNatClampNeg)))) (hI10.next c13 hm) ((hM10.ml (ml_X6_goes _ _ _)).ml (by (repeat first | exact Ml.refl | refine Ml.sI ?_ (by omega)))) (Or.inr rfl) hE _ _ P _ (lv_sub hl [0, 1, 5, 6, 7] rfl)
            · rw [if_neg c69] at hE
              refine lv_aload_n hx hb dX6_isAllowed_72 rfl (lv_at hl 5 rfl) ?_
              refine g_getr (k := 15) (t := 29) B F P ok6 (by decide) rfl rfl rfl (by decide) rfl q829 dX6_isAllowed_73 ?_
              refine lv_iload hx hb dX6_isAllowed_76 (lv_at hl 1 rfl) ?_
              refine g_zld B F P (by decide) rfl rfl (oat_in hM10.2.1 c69) dX6_isAllowed_78 ?_
              refine lv_iload hx hb dX6_isAllowed_79 (lv_at hl 2 rfl) ?_
              refine lv_icmp_ne (tgt := 88) hx hb dX6_isAllowed_81 (by decide) (fun c81 => ?_) (fun c81 => ?_)
              · rw [if_neg c81] at hE
                refine lv_iconst (v := 0) hx hb dX6_isAllowed_88 (by decide) ?_
                refine lv_istore_n (lv' := [(3, .int 0), (7, .int (((rI σ10 19 12) + x4_10) - ((rI σ10 19 12) + x4_10) / 48 * 48)), (6, .int (f_X6_orderAt ((rI σ10 19 12) + x4_10) σ10)), (5, .int 1), (4, .int x4_10), (0, .ref (ad 19)), (1, .int sch), (2, .int many)]) hx hb dX6_isAllowed_89 rfl hl (by decide) rfl (fun ls hl => ?_)
                refine lv_iload_n hx hb dX6_isAllowed_90 rfl (lv_at hl 0 rfl) ?_
                refine lv_if_eq (tgt := 109) hx hb dX6_isAllowed_91 (by decide) (fun _ => ?_) (fun h9 => absurd h9 (by decide))
                refine lv_iconst (v := 0) hx hb dX6_isAllowed_109 (by decide) ?_
                refine lv_istore_n (lv' := [(3, .int 0), (7, .int (((rI σ10 19 12) + x4_10) - ((rI σ10 19 12) + x4_10) / 48 * 48)), (6, .int (f_X6_orderAt ((rI σ10 19 12) + x4_10) σ10)), (5, .int 1), (4, .int x4_10), (0, .ref (ad 19)), (1, .int sch), (2, .int many)]) hx hb dX6_isAllowed_110 rfl hl (by decide) rfl (fun ls hl => ?_)
                refine lv_aload_n hx hb dX6_isAllowed_111 rfl (lv_at hl 5 rfl) ?_
                refine lv_dup hx hb dX6_isAllowed_112 rfl ?_
                refine g_geti (k := 33) B F P ok6 (by decide) rfl rfl rfl (by decide) q847 dX6_isAllowed_113 ?_
                refine lv_aload_n hx hb dX6_isAllowed_116 rfl (lv_at hl 5 rfl) ?_
                refine g_geti (k := 19) B F P ok6 (by decide) rfl rfl rfl (by decide) q833 dX6_isAllowed_117 ?_
                refine lv_aload_n hx hb dX6_isAllowed_120 rfl (lv_at hl 5 rfl) ?_
                refine g_getr (k := 9) (t := 27) B F P ok6 (by decide) rfl rfl rfl (by decide) rfl q823 dX6_isAllowed_121 ?_
                refine lv_iload hx hb dX6_isAllowed_124 (lv_at hl 1 rfl) ?_
                refine g_ild B F P (by decide) rfl rfl (rem_in (by rw [i_add hM10.2.2.1.1 (by have := hM10.2.2.1.2; omega) hI10.1 (by have := hI10.2.2; omega)]; have := hM10.2.2.1.1; have := hI10.1; omega)) dX6_isAllowed_126 ?_
                refine lv_imul hx hb dX6_isAllowed_127 ?_
                refine lv_iadd hx hb dX6_isAllowed_128 ?_
                refine g_puti (k := 33) B F P ok6 (by decide) rfl rfl rfl (by decide) rfl (tyX6_ok 33 (by decide)) q847 dX6_isAllowed_129 (fun H locs P => ?_)
                refine lv_iinc (v := (x4_10 + 1)) (lv' := [(4, .int (x4_10 + 1)), (3, .int 0), (7, .int (((rI σ10 19 12) + x4_10) - ((rI σ10 19 12) + x4_10) / 48 * 48)), (6, .int (f_X6_orderAt ((rI σ10 19 12) + x4_10) σ10)), (5, .int 1), (0, .ref (ad 19)), (1, .int sch), (2, .int many)]) hx hb dX6_isAllowed_132 hl (k := 4) rfl (by first | rfl | decide) (by decide) rfl (fun ls hl => ?_)
                refine lv_goto (tgt := 10) hx hb dX6_isAllowed_135 (by decide) ?_
                exact ih10 (x4_10 + 1) 0 (sI σ10 19 33 ((rI σ10 19 33) + ((rI σ10 19 19) * (rI σ10 27 (((rI σ10 19 12) + x4_10) - ((rI σ10 19 12) + x4_10) / 48 * 48).toNatClampNeg)))) (hI10.next c13 hm) (hM10.ml (by (repeat first | exact Ml.refl | refine Ml.sI ?_ (by omega)))) (Or.inl rfl) hE _ _ P _ (lv_sub hl [0, 1, 5, 6, 7] rfl)
              · rw [if_pos c81] at hE
                refine lv_iconst (v := 1) hx hb dX6_isAllowed_84 (by decide) ?_
                refine lv_goto (tgt := 89) hx hb dX6_isAllowed_85 (by decide) ?_
                refine lv_istore_n (lv' := [(3, .int 1), (7, .int (((rI σ10 19 12) + x4_10) - ((rI σ10 19 12) + x4_10) / 48 * 48)), (6, .int (f_X6_orderAt ((rI σ10 19 12) + x4_10) σ10)), (5, .int 1), (4, .int x4_10), (0, .ref (ad 19)), (1, .int sch), (2, .int many)]) hx hb dX6_isAllowed_89 rfl hl (by decide) rfl (fun ls hl => ?_)
                refine lv_iload_n hx hb dX6_isAllowed_90 rfl (lv_at hl 0 rfl) ?_
                refine lv_if_eq (tgt := 109) hx hb dX6_isAllowed_91 (by decide) (fun h9 => absurd h9 (by decide)) (fun _ => ?_)
                refine lv_aload_n hx hb dX6_isAllowed_94 rfl (lv_at hl 5 rfl) ?_
                refine lv_iload hx hb dX6_isAllowed_95 (lv_at hl 1 rfl) ?_
                refine lv_iload hx hb dX6_isAllowed_97 (lv_at hl 3 rfl) ?_
                refine g_callV B F P (As := [.int (((rI σ10 19 12) + x4_10) - ((rI σ10 19 12) + x4_10) / 48 * 48), .int 1]) (ct_X6_goes (D := D) (ad := ad) (cy := cy) (ba := ba) l (((rI σ10 19 12) + x4_10) - ((rI σ10 19 12) + x4_10) / 48 * 48) 1 σ10 (rem_in (by rw [i_add hM10.2.2.1.1 (by have := hM10.2.2.1.2; omega) hI10.1 (by have := hI10.2.2; omega)]; have := hM10.2.2.1.1; have := hI10.1; omega)) hM10.1) ok6 (by decide) rfl q1037 q1039 qs19 q8 q1040 nk_X6_goes rfl ⟨(Nat.le_of_ble_eq_true rfl), (Nat.le_of_ble_eq_true rfl)⟩ hl.1 rfl (Nat.le_of_ble_eq_true rfl) dX6_isAllowed_99 ⟨Nat.le_of_ble_eq_true rfl, Nat.le_of_ble_eq_true rfl⟩ (fun H locs P => ?_)
                refine lv_if_eq (tgt := 109) hx hb dX6_isAllowed_102 (by decide) (fun c102 => ?_) (fun c102 => ?_)
                · rw [if_pos c102] at hE
                  refine lv_iconst (v := 0) hx hb dX6_isAllowed_109 (by decide) ?_
                  refine lv_istore_n (lv' := [(3, .int 0), (7, .int (((rI σ10 19 12) + x4_10) - ((rI σ10 19 12) + x4_10) / 48 * 48)), (6, .int (f_X6_orderAt ((rI σ10 19 12) + x4_10) σ10)), (5, .int 1), (4, .int x4_10), (0, .ref (ad 19)), (1, .int sch), (2, .int many)]) hx hb dX6_isAllowed_110 rfl hl (by decide) rfl (fun ls hl => ?_)
                  refine lv_aload_n hx hb dX6_isAllowed_111 rfl (lv_at hl 5 rfl) ?_
                  refine lv_dup hx hb dX6_isAllowed_112 rfl ?_
                  refine g_geti (k := 33) B F P ok6 (by decide) rfl rfl rfl (by decide) q847 dX6_isAllowed_113 ?_
                  refine lv_aload_n hx hb dX6_isAllowed_116 rfl (lv_at hl 5 rfl) ?_
                  refine g_geti (k := 19) B F P ok6 (by decide) rfl rfl rfl (by decide) q833 dX6_isAllowed_117 ?_
                  refine lv_aload_n hx hb dX6_isAllowed_120 rfl (lv_at hl 5 rfl) ?_
                  refine g_getr (k := 9) (t := 27) B F P ok6 (by decide) rfl rfl rfl (by decide) rfl q823 dX6_isAllowed_121 ?_
                  refine lv_iload hx hb dX6_isAllowed_124 (lv_at hl 1 rfl) ?_
                  refine g_ild B F P (by decide) rfl rfl (rem_in (by rw [i_add hM10.2.2.1.1 (by have := hM10.2.2.1.2; omega) hI10.1 (by have := hI10.2.2; omega)]; have := hM10.2.2.1.1; have := hI10.1; omega)) dX6_isAllowed_126 ?_
                  refine lv_imul hx hb dX6_isAllowed_127 ?_
                  refine lv_iadd hx hb dX6_isAllowed_128 ?_
                  refine g_puti (k := 33) B F P ok6 (by decide) rfl rfl rfl (by decide) rfl (tyX6_ok 33 (by decide)) q847 dX6_isAllowed_129 (fun H locs P => ?_)
                  refine lv_iinc (v := (x4_10 + 1)) (lv' := [(4, .int (x4_10 + 1)), (3, .int 0), (7, .int (((rI σ10 19 12) + x4_10) - ((rI σ10 19 12) + x4_10) / 48 * 48)), (6, .int (f_X6_orderAt ((rI σ10 19 12) + x4_10) σ10)), (5, .int 1), (0, .ref (ad 19)), (1, .int sch), (2, .int many)]) hx hb dX6_isAllowed_132 hl (k := 4) rfl (by first | rfl | decide) (by decide) rfl (fun ls hl => ?_)
                  refine lv_goto (tgt := 10) hx hb dX6_isAllowed_135 (by decide) ?_
                  exact ih10 (x4_10 + 1) 0 (sI ((f_X6_goes (((rI σ10 19 12) + x4_10) - ((rI σ10 19 12) + x4_10) / 48 * 48) 1 σ10).2) 19 33 ((rI ((f_X6_goes (((rI σ10 19 12) + x4_10) - ((rI σ10 19 12) + x4_10) / 48 * 48) 1 σ10).2) 19 33) + ((rI ((f_X6_goes (((rI σ10 19 12) + x4_10) - ((rI σ10 19 12) + x4_10) / 48 * 48) 1 σ10).2) 19 19) * (rI ((f_X6_goes (((rI σ10 19 12) + x4_10) - ((rI σ10 19 12) + x4_10) / 48 * 48) 1 σ10).2) 27 (((rI σ10 19 12) + x4_10) - ((rI σ10 19 12) + x4_10) / 48 * 48).toNatClampNeg)))) (hI10.next c13 hm) ((hM10.ml (ml_X6_goes _ _ _)).ml (by (repeat first | exact Ml.refl | refine Ml.sI ?_ (by omega)))) (Or.inl rfl) hE _ _ P _ (lv_sub hl [0, 1, 5, 6, 7] rfl)
                · rw [if_neg c102] at hE
                  refine lv_iconst (v := 1) hx hb dX6_isAllowed_105 (by decide) ?_
                  refine lv_goto (tgt := 110) hx hb dX6_isAllowed_106 (by decide) ?_
                  refine lv_istore_n (lv' := [(3, .int 1), (7, .int (((rI σ10 19 12) + x4_10) - ((rI σ10 19 12) + x4_10) / 48 * 48)), (6, .int (f_X6_orderAt ((rI σ10 19 12) + x4_10) σ10)), (5, .int 1), (4, .int x4_10), (0, .ref (ad 19)), (1, .int sch), (2, .int many)]) hx hb dX6_isAllowed_110 rfl hl (by decide) rfl (fun ls hl => ?_)
                  refine lv_aload_n hx hb dX6_isAllowed_111 rfl (lv_at hl 5 rfl) ?_
                  refine lv_dup hx hb dX6_isAllowed_112 rfl ?_
                  refine g_geti (k := 33) B F P ok6 (by decide) rfl rfl rfl (by decide) q847 dX6_isAllowed_113 ?_
                  refine lv_aload_n hx hb dX6_isAllowed_116 rfl (lv_at hl 5 rfl) ?_
                  refine g_geti (k := 19) B F P ok6 (by decide) rfl rfl rfl (by decide) q833 dX6_isAllowed_117 ?_
                  refine lv_aload_n hx hb dX6_isAllowed_120 rfl (lv_at hl 5 rfl) ?_
                  refine g_getr (k := 9) (t := 27) B F P ok6 (by decide) rfl rfl rfl (by decide) rfl q823 dX6_isAllowed_121 ?_
                  refine lv_iload hx hb dX6_isAllowed_124 (lv_at hl 1 rfl) ?_
                  refine g_ild B F P (by decide) rfl rfl (rem_in (by rw [i_add hM10.2.2.1.1 (by have := hM10.2.2.1.2; omega) hI10.1 (by have := hI10.2.2; omega)]; have := hM10.2.2.1.1; have := hI10.1; omega)) dX6_isAllowed_126 ?_
                  refine lv_imul hx hb dX6_isAllowed_127 ?_
                  refine lv_iadd hx hb dX6_isAllowed_128 ?_
                  refine g_puti (k := 33) B F P ok6 (by decide) rfl rfl rfl (by decide) rfl (tyX6_ok 33 (by decide)) q847 dX6_isAllowed_129 (fun H locs P => ?_)
                  refine lv_iinc (v := (x4_10 + 1)) (lv' := [(4, .int (x4_10 + 1)), (3, .int 1), (7, .int (((rI σ10 19 12) + x4_10) - ((rI σ10 19 12) + x4_10) / 48 * 48)), (6, .int (f_X6_orderAt ((rI σ10 19 12) + x4_10) σ10)), (5, .int 1), (0, .ref (ad 19)), (1, .int sch), (2, .int many)]) hx hb dX6_isAllowed_132 hl (k := 4) rfl (by first | rfl | decide) (by decide) rfl (fun ls hl => ?_)
                  refine lv_goto (tgt := 10) hx hb dX6_isAllowed_135 (by decide) ?_
                  exact ih10 (x4_10 + 1) 1 (sI ((f_X6_goes (((rI σ10 19 12) + x4_10) - ((rI σ10 19 12) + x4_10) / 48 * 48) 1 σ10).2) 19 33 ((rI ((f_X6_goes (((rI σ10 19 12) + x4_10) - ((rI σ10 19 12) + x4_10) / 48 * 48) 1 σ10).2) 19 33) + ((rI ((f_X6_goes (((rI σ10 19 12) + x4_10) - ((rI σ10 19 12) + x4_10) / 48 * 48) 1 σ10).2) 19 19) * (rI ((f_X6_goes (((rI σ10 19 12) + x4_10) - ((rI σ10 19 12) + x4_10) / 48 * 48) 1 σ10).2) 27 (((rI σ10 19 12) + x4_10) - ((rI σ10 19 12) + x4_10) / 48 * 48).toNatClampNeg)))) (hI10.next c13 hm) ((hM10.ml (ml_X6_goes _ _ _)).ml (by (repeat first | exact Ml.refl | refine Ml.sI ?_ (by omega)))) (Or.inr rfl) hE _ _ P _ (lv_sub hl [0, 1, 5, 6, 7] rfl)
  exact L10 7 0 1 (sI σ 19 33 0) LI.start (hM.ml (by (repeat first | exact Ml.refl | refine Ml.sI ?_ (by omega)))) (Or.inr rfl) hE _ _ P _ (lv_sub hl [0, 1, 2, 3, 4] rfl)
theorem ml_X6_laysBack_l2 (a b : Nat) (hb : b = 20 ∨ b = 21) : ∀ (n : Nat) (x : Int32) (σ : Sg), Ml σ (f_X6_laysBack_l2 a b n x σ)
  | 0, _, _ => Ml.refl
  | n + 1, x, σ => by
    unfold f_X6_laysBack_l2
    split
    · exact Ml.refl
    · exact Ml.trans (Ml.sI Ml.refl (by omega)) (ml_X6_laysBack_l2 a b hb n _ _)
theorem ml_X6_laysBack (a b : Nat) (hb : b = 20 ∨ b = 21) (σ : Sg) : Ml σ (f_X6_laysBack a b σ) := ml_X6_laysBack_l2 a b hb _ _ _
theorem ml_X6_isAllowed_l10 (sch many : Int32) : ∀ (n : Nat) (x y : Int32) (σ : Sg), Ml σ (f_X6_isAllowed_l10 sch many n x y σ).2
  | 0, _, _, _ => Ml.refl
  | n + 1, x, y, σ => by
    unfold f_X6_isAllowed_l10
    repeat' first | exact Ml.refl | exact ml_X6_isAllowed_l10 sch many n _ _ _ | refine Ml.ite ?_ ?_ | exact Ml.trans (Ml.sI Ml.refl (by omega)) (ml_X6_isAllowed_l10 sch many n _ _ _) | exact Ml.trans (Ml.trans (ml_X6_goes _ _ _) (Ml.sI Ml.refl (by omega))) (ml_X6_isAllowed_l10 sch many n _ _ _)
theorem ml_X6_isAllowed (sch many : Int32) (σ : Sg) : Ml σ (f_X6_isAllowed sch many σ).2 := Ml.trans (by (repeat first | exact Ml.refl | refine Ml.sI ?_ (by omega))) (ml_X6_isAllowed_l10 sch many _ _ _ _)
theorem shl_le' {v : Int32} (h1 : 1 ≤ v.toInt ∧ v.toInt ≤ 6) : ((1 : Int32) <<< (v &&& 31)).toInt ≤ 64 := by
  obtain ⟨j, hj, rfl⟩ := nI_of0 (x := v) (by omega)
  rw [nI_toInt hj] at h1
  have h2 : j = 1 ∨ j = 2 ∨ j = 3 ∨ j = 4 ∨ j = 5 ∨ j = 6 := by omega
  rcases h2 with rfl | rfl | rfl | rfl | rfl | rfl <;> decide
