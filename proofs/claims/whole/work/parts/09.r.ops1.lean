theorem i_k {t n : Int32} {m : Nat} (h : 0 ≤ t.toInt ∧ t.toInt < n.toInt) (hn : n.toInt = m) : ∃ k, t = kI k ∧ k < m := ⟨t.toInt.toNat, kI_of (by omega), by omega⟩
theorem crI (v : Int32) {lo hi : Int32} (σ : Sg) (a b : Int) (ha : lo.toInt = a) (hb : hi.toInt = b) : f_X5_checkRange v lo hi σ = if a ≤ v.toInt ∧ v.toInt ≤ b then 0 else 1 := by rw [cr_if, ha, hb]
theorem inI (v : Int32) {lo hi : Int64} (σ : Sg) (a b : Int) (ha : lo.toInt = a) (hb : hi.toInt = b) : f_X6_in v.toInt64 lo hi σ = if a ≤ v.toInt ∧ v.toInt ≤ b then 1 else 0 := by rw [in_if, ha, hb]
theorem rI_31 (σ : Sg) (x : Int64) (i j : Nat) : rI (sL σ 31 (Int32.toNatClampNeg 0) x) i j = rI σ i j := rfl
theorem op_fouling {N : Nat} {σ : Sg} (h : Inv N σ) (hN : N ≤ 80000) (t : Int32) : OKw (N + 12) (f_L_fouling t σ) (f_X6_fouling t (f_L_fouling t σ).2) := by
  obtain ⟨S, w, O, p, hz, M, sh, hI, hC, hM⟩ := id h
  have hT := nT_i hI.1
  have e5 : rI σ 1 5 = S 0 0 := hC.1.1.1
  have e4 : rI σ 19 4 = S 0 0 := hM.1.1.1.1
  by_cases c : 0 ≤ t.toInt ∧ t.toInt < (S 0 0).toInt
  · obtain ⟨k, rfl, hk⟩ := i_k c hT.1
    have e : f_X5_fouling (kI k) σ = (0, w 0 k, σ) := by
      unfold f_X5_fouling
      rw [ct_if, e5, if_pos c, if_pos rfl, kI_nat (by omega), (hC.2.1.1 k (by omega)).1]
    have eL : f_L_fouling (kI k) σ = (0, sL σ 31 (Int32.toNatClampNeg 0) (w 0 k).toInt64) := by unfold f_L_fouling; rw [e]; rfl
    have eM : f_X6_fouling (kI k) (sL σ 31 (Int32.toNatClampNeg 0) (w 0 k).toInt64) = (w 0 k, sI (sL σ 31 (Int32.toNatClampNeg 0) (w 0 k).toInt64) 19 32 0) := by
      unfold f_X6_fouling
      rw [it_if (by rw [rI_31, e4]; omega), rI_31, e4, if_pos c, if_neg (by decide)]
      unfold f_X6_of
      rw [ix0 (by omega), rI_ne (by omega), rI_31, (hM.2.1.1 k (by omega)).1]
    rw [eL, eM]
    exact ok_get h hN rfl
  · have e : f_X5_fouling t σ = (3, 0, σ) := by
      unfold f_X5_fouling
      rw [ct_if, e5, if_neg c, if_neg (by decide)]
    have eL : f_L_fouling t σ = (1, σ) := by unfold f_L_fouling; rw [e]; rfl
    have eM : f_X6_fouling t σ = (-1, sI σ 19 32 1) := by
      unfold f_X6_fouling
      rw [it_if (by rw [e4]; omega), e4, if_neg c, if_pos rfl]
    rw [eL, eM]
    exact ok_throw h hN (by decide)
theorem op_wear {N : Nat} {σ : Sg} (h : Inv N σ) (hN : N ≤ 80000) (t : Int32) : OKw (N + 12) (f_L_wear t σ) (f_X6_wear t (f_L_wear t σ).2) := by
  obtain ⟨S, w, O, p, hz, M, sh, hI, hC, hM⟩ := id h
  have hT := nT_i hI.1
  have e5 : rI σ 1 5 = S 0 0 := hC.1.1.1
  have e4 : rI σ 19 4 = S 0 0 := hM.1.1.1.1
  by_cases c : 0 ≤ t.toInt ∧ t.toInt < (S 0 0).toInt
  · obtain ⟨k, rfl, hk⟩ := i_k c hT.1
    have e : f_X5_wear (kI k) σ = (0, w 1 k, σ) := by
      unfold f_X5_wear
      rw [ct_if, e5, if_pos c, if_pos rfl, kI_nat (by omega), (hC.2.1.1 k (by omega)).2.1]
    have eL : f_L_wear (kI k) σ = (0, sL σ 31 (Int32.toNatClampNeg 0) (w 1 k).toInt64) := by unfold f_L_wear; rw [e]; rfl
    have eM : f_X6_wear (kI k) (sL σ 31 (Int32.toNatClampNeg 0) (w 1 k).toInt64) = (w 1 k, sI (sL σ 31 (Int32.toNatClampNeg 0) (w 1 k).toInt64) 19 32 0) := by
      unfold f_X6_wear
      rw [it_if (by rw [rI_31, e4]; omega), rI_31, e4, if_pos c, if_neg (by decide)]
      unfold f_X6_of
      rw [ix1 (by omega), rI_ne (by omega), rI_31, (hM.2.1.1 k (by omega)).2.1]
    rw [eL, eM]
    exact ok_get h hN rfl
  · have e : f_X5_wear t σ = (3, 0, σ) := by
      unfold f_X5_wear
      rw [ct_if, e5, if_neg c, if_neg (by decide)]
    have eL : f_L_wear t σ = (1, σ) := by unfold f_L_wear; rw [e]; rfl
    have eM : f_X6_wear t σ = (-1, sI σ 19 32 1) := by
      unfold f_X6_wear
      rw [it_if (by rw [e4]; omega), e4, if_neg c, if_pos rfl]
    rw [eL, eM]
    exact ok_throw h hN (by decide)
theorem op_cleaningLeft {N : Nat} {σ : Sg} (h : Inv N σ) (hN : N ≤ 80000) (t : Int32) : OKw (N + 12) (f_L_cleaningLeft t σ) (f_X6_cleaningLeft t (f_L_cleaningLeft t σ).2) := by
  obtain ⟨S, w, O, p, hz, M, sh, hI, hC, hM⟩ := id h
  have hT := nT_i hI.1
  have e5 : rI σ 1 5 = S 0 0 := hC.1.1.1
  have e4 : rI σ 19 4 = S 0 0 := hM.1.1.1.1
  by_cases c : 0 ≤ t.toInt ∧ t.toInt < (S 0 0).toInt
  · obtain ⟨k, rfl, hk⟩ := i_k c hT.1
    have e : f_X5_cleaningLeft (kI k) σ = (0, w 2 k, σ) := by
      unfold f_X5_cleaningLeft
      rw [ct_if, e5, if_pos c, if_pos rfl, kI_nat (by omega), (hC.2.1.1 k (by omega)).2.2]
    have eL : f_L_cleaningLeft (kI k) σ = (0, sL σ 31 (Int32.toNatClampNeg 0) (w 2 k).toInt64) := by unfold f_L_cleaningLeft; rw [e]; rfl
    have eM : f_X6_cleaningLeft (kI k) (sL σ 31 (Int32.toNatClampNeg 0) (w 2 k).toInt64) = (w 2 k, sI (sL σ 31 (Int32.toNatClampNeg 0) (w 2 k).toInt64) 19 32 0) := by
      unfold f_X6_cleaningLeft
      rw [it_if (by rw [rI_31, e4]; omega), rI_31, e4, if_pos c, if_neg (by decide)]
      unfold f_X6_of
      rw [ix2 (by omega), rI_ne (by omega), rI_31, (hM.2.1.1 k (by omega)).2.2]
    rw [eL, eM]
    exact ok_get h hN rfl
  · have e : f_X5_cleaningLeft t σ = (3, 0, σ) := by
      unfold f_X5_cleaningLeft
      rw [ct_if, e5, if_neg c, if_neg (by decide)]
    have eL : f_L_cleaningLeft t σ = (1, σ) := by unfold f_L_cleaningLeft; rw [e]; rfl
    have eM : f_X6_cleaningLeft t σ = (-1, sI σ 19 32 1) := by
      unfold f_X6_cleaningLeft
      rw [it_if (by rw [e4]; omega), e4, if_neg c, if_pos rfl]
    rw [eL, eM]
    exact ok_throw h hN (by decide)
theorem op_productOf {N : Nat} {σ : Sg} (h : Inv N σ) (hN : N ≤ 80000) (t : Int32) : OKw (N + 12) (f_L_productOf t σ) (f_X6_productOf t (f_L_productOf t σ).2) := by
  obtain ⟨S, w, O, p, hz, M, sh, hI, hC, hM⟩ := id h
  have hT := nT_i hI.1
  have e5 : rI σ 1 5 = S 0 0 := hC.1.1.1
  have e4 : rI σ 19 4 = S 0 0 := hM.1.1.1.1
  by_cases c : 0 ≤ t.toInt ∧ t.toInt < (S 0 0).toInt
  · obtain ⟨k, rfl, hk⟩ := i_k c hT.1
    have el : rI σ (sid 0 + 3) k = w 2 k := (hC.2.1.1 k (by omega)).2.2
    have em : ∀ x, f_X6_of (kI k) 2 (sL σ 31 (Int32.toNatClampNeg 0) x) = w 2 k := fun x => by
      unfold f_X6_of
      rw [ix2 (by omega), rI_31, (hM.2.1.1 k (by omega)).2.2]
    have em' : f_X6_of (kI k) 2 σ = w 2 k := by
      unfold f_X6_of
      rw [ix2 (by omega), (hM.2.1.1 k (by omega)).2.2]
    by_cases c2 : w 2 k ≤ 0
    · have e : f_X5_productOf (kI k) σ = (0, pG S (w 0 k) k, σ) := by
        unfold f_X5_productOf f_X5_checkReady
        rw [ct_if, e5, if_pos c, if_pos rfl, kI_nat (by omega), el, if_pos c2, if_pos rfl, pG_c hC.1 (by omega), (hC.2.1.1 k (by omega)).1]
      have eL : f_L_productOf (kI k) σ = (0, sL σ 31 (Int32.toNatClampNeg 0) (pG S (w 0 k) k).toInt64) := by unfold f_L_productOf; rw [e]; rfl
      have eM : f_X6_productOf (kI k) (sL σ 31 (Int32.toNatClampNeg 0) (pG S (w 0 k) k).toInt64) = (pG S (w 0 k) k, sI (sL σ 31 (Int32.toNatClampNeg 0) (pG S (w 0 k) k).toInt64) 19 32 0) := by
        unfold f_X6_productOf
        rw [it_if (by rw [rI_31, e4]; omega), rI_31, e4, if_pos c, if_neg (by decide), em, if_pos c2]
        have hS2 : Sm (sI (sL σ 31 (Int32.toNatClampNeg 0) (pG S (w 0 k) k).toInt64) 19 32 0) S := (hM.mt (b := sI (sL σ 31 (Int32.toNatClampNeg 0) (pG S (w 0 k) k).toInt64) 19 32 0) (fun i j hi hn => by rw [rI_ne (by omega), rI_31]) (fun j => by rw [show ∀ τ : Sg, rL (sI τ 19 32 0) 19 j = rL τ 19 j from fun _ => rfl, rL_ne (by omega)])).1.1
        have e20 : rI (sI (sL σ 31 (Int32.toNatClampNeg 0) (pG S (w 0 k) k).toInt64) 19 32 0) 20 (3 * k) = w 0 k := by rw [rI_ne (by omega), rI_31, (hM.2.1.1 k (by omega)).1]
        rw [pG_m hS2 hI.1 (by omega) (hI.2.1 k).1 e20]
      rw [eL, eM]
      exact ok_get h hN rfl
    · have e : f_X5_productOf (kI k) σ = (2, 0, σ) := by
        unfold f_X5_productOf f_X5_checkReady
        rw [ct_if, e5, if_pos c, if_pos rfl, kI_nat (by omega), el, if_neg c2, if_neg (by decide)]
      have eL : f_L_productOf (kI k) σ = (2, σ) := by unfold f_L_productOf; rw [e]; rfl
      have eM : f_X6_productOf (kI k) σ = (-1, sI σ 19 32 2) := by
        unfold f_X6_productOf
        rw [it_if (by rw [e4]; omega), e4, if_pos c, if_neg (by decide), em', if_neg c2]
      rw [eL, eM]
      exact ok_throw h hN (by decide)
  · have e : f_X5_productOf t σ = (3, 0, σ) := by
      unfold f_X5_productOf
      rw [ct_if, e5, if_neg c, if_neg (by decide)]
    have eL : f_L_productOf t σ = (1, σ) := by unfold f_L_productOf; rw [e]; rfl
    have eM : f_X6_productOf t σ = (-1, sI σ 19 32 1) := by
      unfold f_X6_productOf
      rw [it_if (by rw [e4]; omega), e4, if_neg c, if_pos rfl]
    rw [eL, eM]
    exact ok_throw h hN (by decide)
theorem op_energyOf {N : Nat} {σ : Sg} (h : Inv N σ) (hN : N ≤ 80000) (t : Int32) : OKw (N + 12) (f_L_energyOf t σ) (f_X6_energyOf t (f_L_energyOf t σ).2) := by
  obtain ⟨S, w, O, p, hz, M, sh, hI, hC, hM⟩ := id h
  have hT := nT_i hI.1
  have e5 : rI σ 1 5 = S 0 0 := hC.1.1.1
  have e4 : rI σ 19 4 = S 0 0 := hM.1.1.1.1
  by_cases c : 0 ≤ t.toInt ∧ t.toInt < (S 0 0).toInt
  · obtain ⟨k, rfl, hk⟩ := i_k c hT.1
    have el : rI σ (sid 0 + 3) k = w 2 k := (hC.2.1.1 k (by omega)).2.2
    have em : ∀ x, f_X6_of (kI k) 2 (sL σ 31 (Int32.toNatClampNeg 0) x) = w 2 k := fun x => by
      unfold f_X6_of
      rw [ix2 (by omega), rI_31, (hM.2.1.1 k (by omega)).2.2]
    have em' : f_X6_of (kI k) 2 σ = w 2 k := by
      unfold f_X6_of
      rw [ix2 (by omega), (hM.2.1.1 k (by omega)).2.2]
    by_cases c2 : w 2 k ≤ 0
    · have e : f_X5_energyOf (kI k) σ = (0, pE S (pK S (pG S (w 0 k) k)) k, σ) := by
        unfold f_X5_energyOf f_X5_checkReady
        rw [ct_if, e5, if_pos c, if_pos rfl, kI_nat (by omega), el, if_pos c2, if_pos rfl, pG_c hC.1 (by omega), pK_c hC.1 hI.1, pE_c hC.1 (by omega), (hC.2.1.1 k (by omega)).1]
      have eL : f_L_energyOf (kI k) σ = (0, sL σ 31 (Int32.toNatClampNeg 0) (pE S (pK S (pG S (w 0 k) k)) k).toInt64) := by unfold f_L_energyOf; rw [e]; rfl
      have eM : f_X6_energyOf (kI k) (sL σ 31 (Int32.toNatClampNeg 0) (pE S (pK S (pG S (w 0 k) k)) k).toInt64) = (pE S (pK S (pG S (w 0 k) k)) k, sI (sL σ 31 (Int32.toNatClampNeg 0) (pE S (pK S (pG S (w 0 k) k)) k).toInt64) 19 32 0) := by
        unfold f_X6_energyOf
        rw [it_if (by rw [rI_31, e4]; omega), rI_31, e4, if_pos c, if_neg (by decide), em, if_pos c2]
        have hS2 : Sm (sI (sL σ 31 (Int32.toNatClampNeg 0) (pE S (pK S (pG S (w 0 k) k)) k).toInt64) 19 32 0) S := (hM.mt (b := sI (sL σ 31 (Int32.toNatClampNeg 0) (pE S (pK S (pG S (w 0 k) k)) k).toInt64) 19 32 0) (fun i j hi hn => by rw [rI_ne (by omega), rI_31]) (fun j => by rw [show ∀ τ : Sg, rL (sI τ 19 32 0) 19 j = rL τ 19 j from fun _ => rfl, rL_ne (by omega)])).1.1
        have e20 : rI (sI (sL σ 31 (Int32.toNatClampNeg 0) (pE S (pK S (pG S (w 0 k) k)) k).toInt64) 19 32 0) 20 (3 * k) = w 0 k := by rw [rI_ne (by omega), rI_31, (hM.2.1.1 k (by omega)).1]
        rw [pE_m hS2 hI.1 (by omega) (hI.2.1 k).1 e20]
      rw [eL, eM]
      exact ok_get h hN rfl
    · have e : f_X5_energyOf (kI k) σ = (2, 0, σ) := by
        unfold f_X5_energyOf f_X5_checkReady
        rw [ct_if, e5, if_pos c, if_pos rfl, kI_nat (by omega), el, if_neg c2, if_neg (by decide)]
      have eL : f_L_energyOf (kI k) σ = (2, σ) := by unfold f_L_energyOf; rw [e]; rfl
      have eM : f_X6_energyOf (kI k) σ = (-1, sI σ 19 32 2) := by
        unfold f_X6_energyOf
        rw [it_if (by rw [e4]; omega), e4, if_pos c, if_neg (by decide), em', if_neg c2]
      rw [eL, eM]
      exact ok_throw h hN (by decide)
  · have e : f_X5_energyOf t σ = (3, 0, σ) := by
      unfold f_X5_energyOf
      rw [ct_if, e5, if_neg c, if_neg (by decide)]
    have eL : f_L_energyOf t σ = (1, σ) := by unfold f_L_energyOf; rw [e]; rfl
    have eM : f_X6_energyOf t σ = (-1, sI σ 19 32 1) := by
      unfold f_X6_energyOf
      rw [it_if (by rw [e4]; omega), e4, if_neg c, if_pos rfl]
    rw [eL, eM]
    exact ok_throw h hN (by decide)
theorem op_level {N : Nat} {σ : Sg} (h : Inv N σ) (hN : N ≤ 80000) (t : Int32) : OKw (N + 12) (f_L_level t σ) (f_X6_level t (f_L_level t σ).2) := by
  obtain ⟨S, w, O, p, hz, M, sh, hI, hC, hM⟩ := id h
  have hT := nK_i hI.1
  have e5 : rI σ 1 6 = S 0 1 := hC.1.1.2.1
  have e4 : rI σ 19 8 = S 0 1 := hM.1.1.1.2.1
  by_cases c : 0 ≤ t.toInt ∧ t.toInt < (S 0 1).toInt
  · obtain ⟨k, rfl, hk⟩ := i_k c hT.1
    have e : f_X5_level (kI k) σ = (0, w 3 k, σ) := by
      unfold f_X5_level
      rw [ck_if, e5, if_pos c, if_pos rfl, kI_nat (by omega), hC.2.1.2 k (by omega)]
    have eL : f_L_level (kI k) σ = (0, sL σ 31 (Int32.toNatClampNeg 0) (w 3 k).toInt64) := by unfold f_L_level; rw [e]; rfl
    have eM : f_X6_level (kI k) (sL σ 31 (Int32.toNatClampNeg 0) (w 3 k).toInt64) = (w 3 k, sI (sL σ 31 (Int32.toNatClampNeg 0) (w 3 k).toInt64) 19 32 0) := by
      unfold f_X6_level
      rw [ik_if (by rw [rI_31, e4]; omega), rI_31, e4, if_pos c, if_neg (by decide), ix12 (by omega), rI_ne (by omega), rI_31, hM.2.1.2 k (by omega)]
    rw [eL, eM]
    exact ok_get h hN rfl
  · have e : f_X5_level t σ = (3, 0, σ) := by
      unfold f_X5_level
      rw [ck_if, e5, if_neg c, if_neg (by decide)]
    have eL : f_L_level t σ = (1, σ) := by unfold f_L_level; rw [e]; rfl
    have eM : f_X6_level t σ = (-1, sI σ 19 32 1) := by
      unfold f_X6_level
      rw [ik_if (by rw [e4]; omega), e4, if_neg c, if_pos rfl]
    rw [eL, eM]
    exact ok_throw h hN (by decide)
theorem op_shortOf {N : Nat} {σ : Sg} (h : Inv N σ) (hN : N ≤ 80000) (t : Int32) : OKw (N + 12) (f_L_shortOf t σ) (f_X6_shortOf t (f_L_shortOf t σ).2) := by
  obtain ⟨S, w, O, p, hz, M, sh, hI, hC, hM⟩ := id h
  have hT := nK_i hI.1
  have e5 : rI σ 1 6 = S 0 1 := hC.1.1.2.1
  have e4 : rI σ 19 8 = S 0 1 := hM.1.1.1.2.1
  by_cases c : 0 ≤ t.toInt ∧ t.toInt < (S 0 1).toInt
  · obtain ⟨k, rfl, hk⟩ := i_k c hT.1
    have e : f_X5_shortOf (kI k) σ = (0, sh k, σ) := by
      unfold f_X5_shortOf
      rw [ck_if, e5, if_pos c, if_pos rfl, kI_nat (by omega), hC.2.2.2.2.2.2.2.1 k (by omega)]
    have eL : f_L_shortOf (kI k) σ = (0, sL σ 31 (Int32.toNatClampNeg 0) (sh k).toInt64) := by unfold f_L_shortOf; rw [e]; rfl
    have eM : f_X6_shortOf (kI k) (sL σ 31 (Int32.toNatClampNeg 0) (sh k).toInt64) = (sh k, sI (sL σ 31 (Int32.toNatClampNeg 0) (sh k).toInt64) 19 32 0) := by
      unfold f_X6_shortOf
      rw [ik_if (by rw [rI_31, e4]; omega), rI_31, e4, if_pos c, if_neg (by decide), kI_nat (by omega), rI_ne (by omega), rI_31, hM.2.2.2.2.2 k (by omega)]
    rw [eL, eM]
    exact ok_get h hN rfl
  · have e : f_X5_shortOf t σ = (3, 0, σ) := by
      unfold f_X5_shortOf
      rw [ck_if, e5, if_neg c, if_neg (by decide)]
    have eL : f_L_shortOf t σ = (1, σ) := by unfold f_L_shortOf; rw [e]; rfl
    have eM : f_X6_shortOf t σ = (-1, sI σ 19 32 1) := by
      unfold f_X6_shortOf
      rw [ik_if (by rw [e4]; omega), e4, if_neg c, if_pos rfl]
    rw [eL, eM]
    exact ok_throw h hN (by decide)
theorem op_demand {N : Nat} {σ : Sg} (h : Inv N σ) (hN : N ≤ 80000) (t sl : Int32) : OKw (N + 12) (f_L_demand t sl σ) (f_X6_demand t sl (f_L_demand t sl σ).2) := by
  obtain ⟨S, w, O, p, hz, M, sh, hI, hC, hM⟩ := id h
  have hT := nK_i hI.1
  have e5 : rI σ 1 6 = S 0 1 := hC.1.1.2.1
  have e4 : rI σ 19 8 = S 0 1 := hM.1.1.1.2.1
  by_cases c : 0 ≤ t.toInt ∧ t.toInt < (S 0 1).toInt
  · obtain ⟨k, rfl, hk⟩ := i_k c hT.1
    by_cases c2 : 0 ≤ sl.toInt ∧ sl.toInt ≤ 47
    · have h0 : (0 : Int32).toInt = 0 := rfl
      have h47 : (47 : Int32).toInt = 47 := rfl
      obtain ⟨s, rfl, hs⟩ : ∃ s, sl = kI s ∧ s < 48 := ⟨sl.toInt.toNat, kI_of (by omega), by omega⟩
      have e : f_X5_demand (kI k) (kI s) σ = (0, S 4 (48 * k + s), σ) := by
        unfold f_X5_demand
        rw [ck_if, e5, if_pos c, if_pos rfl, crI _ _ 0 47 rfl rfl, if_pos c2, if_pos rfl, kI_nat (by omega), kI_nat (by omega), hC.1.2.2.2.1 k (by omega) s hs]
      have eL : f_L_demand (kI k) (kI s) σ = (0, sL σ 31 (Int32.toNatClampNeg 0) (S 4 (48 * k + s)).toInt64) := by unfold f_L_demand; rw [e]; rfl
      have eM : f_X6_demand (kI k) (kI s) (sL σ 31 (Int32.toNatClampNeg 0) (S 4 (48 * k + s)).toInt64) = (S 4 (48 * k + s), sI (sL σ 31 (Int32.toNatClampNeg 0) (S 4 (48 * k + s)).toInt64) 19 32 0) := by
        unfold f_X6_demand
        rw [ik_if (by rw [rI_31, e4]; omega), rI_31, e4, if_pos c, if_neg (by decide), inI _ _ 0 47 rfl rfl, if_pos c2, if_neg (by decide), ix48 (by omega) hs, rI_ne (by omega), rI_31, hM.1.1.2.2.2.1 _ (by omega)]
      rw [eL, eM]
      exact ok_get h hN rfl
    · have e : f_X5_demand (kI k) sl σ = (1, 0, σ) := by
        unfold f_X5_demand
        rw [ck_if, e5, if_pos c, if_pos rfl, crI _ _ 0 47 rfl rfl, if_neg c2, if_neg (by decide)]
      have eL : f_L_demand (kI k) sl σ = (2, σ) := by unfold f_L_demand; rw [e]; rfl
      have eM : f_X6_demand (kI k) sl σ = (-1, sI σ 19 32 2) := by
        unfold f_X6_demand
        rw [ik_if (by rw [e4]; omega), e4, if_pos c, if_neg (by decide), inI _ _ 0 47 rfl rfl, if_neg c2, if_pos rfl]
      rw [eL, eM]
      exact ok_throw h hN (by decide)
  · have e : f_X5_demand t sl σ = (3, 0, σ) := by
      unfold f_X5_demand
      rw [ck_if, e5, if_neg c, if_neg (by decide)]
    have eL : f_L_demand t sl σ = (1, σ) := by unfold f_L_demand; rw [e]; rfl
    have eM : f_X6_demand t sl σ = (-1, sI σ 19 32 1) := by
      unfold f_X6_demand
      rw [ik_if (by rw [e4]; omega), e4, if_neg c, if_pos rfl]
    rw [eL, eM]
    exact ok_throw h hN (by decide)
