theorem op_addTank {N : Nat} {σ : Sg} (h : Inv N σ) (hN : N ≤ 80000) (v : Int32) : OKw (N + 12) (f_L_addTank v σ) (f_X6_addTank v (f_L_addTank v σ).2) := by
  obtain ⟨S, w, O, p, hz, M, sh, hI, hC, hM⟩ := id h
  have hT := nK_i hI.1
  have e5 : rI σ 1 6 = S 0 1 := hC.1.1.2.1
  have e4 : rI σ 19 8 = S 0 1 := hM.1.1.1.2.1
  have eS : S 0 1 = kI (nK S) := kI_of hT.1
  have h4 : (3 : Int32).toInt = 3 := rfl
  by_cases c : 1 ≤ v.toInt ∧ v.toInt ≤ 2000
  · by_cases cf : nK S = 3
    · have e : f_X5_addTank v σ = (2, 0, σ) := by
        unfold f_X5_addTank
        rw [crI _ _ 1 2000 rfl rfl, if_pos c, if_pos rfl, e5, if_neg (by rw [i_lt, hT.1, h4]; omega)]
      have eL : f_L_addTank v σ = (2, σ) := by unfold f_L_addTank; rw [e]; rfl
      have eM : f_X6_addTank v σ = (-1, sI σ 19 32 2) := by
        unfold f_X6_addTank
        rw [inI _ _ 1 2000 rfl rfl, if_pos c, if_neg (by decide), e4, if_pos (by rw [eS, cf]; rfl)]
      rw [eL, eM]
      exact ok_throw h hN (by decide)
    · have hk : nK S < 3 := by omega
      have hw0 : ∀ j : Nat, nK S ≤ j → w 3 j = 0 := fun j hj => (hI.2.1 j).2.2.2.2 (by rw [hT.1]; omega)
      have hcons := hI.2.2.2.2.2
      generalize hn : nK S = k at *
      have hkS : nK (up (up S 0 1 (kI (k + 1))) 3 k v) = k + 1 := by
        show (kI (k + 1)).toInt.toNat = k + 1
        rw [kI_int (by omega)]; omega
      have e : f_X5_addTank v σ = (0, kI k, sI (sI σ 4 k v) 1 6 (kI (k + 1))) := by
        unfold f_X5_addTank
        rw [crI _ _ 1 2000 rfl rfl, if_pos c, if_pos rfl, e5, if_pos (by rw [i_lt, hT.1, h4]; omega), eS, kI_nat (by omega), kI_succ]
      have eL : f_L_addTank v σ = (0, sL (sI (sI σ 4 k v) 1 6 (kI (k + 1))) 31 (Int32.toNatClampNeg 0) (kI k).toInt64) := by unfold f_L_addTank; rw [e]; rfl
      have hM1 : IM (sI (sI σ 4 k v) 1 6 (kI (k + 1))) S w O p hz M sh := hM.mc ⟨fun i j _ => by rw [rI_ne (by omega), rI_ne (by omega)], fun _ => rfl⟩
      have hC1 : IC (sI (sI σ 4 k v) 1 6 (kI (k + 1))) (up (up S 0 1 (kI (k + 1))) 3 k v) w O p hz M sh := by
        refine hC.st ?_ (by rw [hkS, hn]; omega) (fun i j hk => by rw [rI_ne (by omega), rI_ne (by omega)]) (fun _ => rfl)
        obtain ⟨q1, q2, q3, q4, q5⟩ := hC.1
        refine ⟨⟨by rw [rI_ne (by omega), rI_ne (by omega)]; exact q1.1, by rw [rI_eq]; rfl, by rw [rI_ne (by omega), rI_ne (by omega)]; exact q1.2.2.1, by rw [rI_ne (by omega), rI_ne (by omega)]; exact q1.2.2.2⟩, fun j hj => by rw [rI_ne (by omega), rI_ne (by omega), rI_ne (by omega), rI_ne (by omega)]; exact q2 j hj, fun j hj => ?_, fun t ht s hs => by rw [rI_ne (by omega), rI_ne (by omega)]; exact q4 t ht s hs, fun s hs => by rw [rI_ne (by omega), rI_ne (by omega)]; exact q5 s hs⟩
        rw [rI_ne (by omega)]
        by_cases q : j = k
        · subst q; rw [up_eq, rI_eq]
        · rw [up_ne (by omega), rI_ne (by omega), up_ne (by omega)]; exact q3 j hj
      generalize hτ : sL (sI (sI σ 4 k v) 1 6 (kI (k + 1))) 31 (Int32.toNatClampNeg 0) (kI k).toInt64 = τ at *
      have h31 : rL τ 31 (Int32.toNatClampNeg 0) = (kI k).toInt64 := by rw [← hτ]; exact rL_eq _ _ _ _
      have hCt := ic_31 hC1 (kI k).toInt64
      rw [hτ] at hCt
      have hMt := im_31 hM1 (kI k).toInt64
      rw [hτ] at hMt
      have et : rI τ 19 8 = kI k := hMt.1.1.1.2.1.trans eS
      have eM : f_X6_addTank v τ = (kI k, sI (sI (sI τ 19 32 0) 24 k v) 19 8 (kI (k + 1))) := by
        unfold f_X6_addTank
        rw [inI _ _ 1 2000 rfl rfl, if_pos c, if_neg (by decide), et, if_neg (show ¬ kI k = 3 from fun q => cf ((kI_inj (b := 3) (by omega) (by decide)).mp q)), kI_nat (by omega), kI_succ, show (1 : Int32) = kI 1 from rfl, kI_sub (by omega) (by omega)]
        rfl
      rw [eL, eM]
      refine ⟨⟨hMt.gm hI (by omega), by rw [rI_ne (by omega), rI_ne (by omega), rI_eq], fun _ => h31⟩, up (up S 0 1 (kI (k + 1))) 3 k v, w, O, p, hz, M, sh, ⟨⟨hI.1.1, ?_, hI.1.2.2.1, hI.1.2.2.2.1, fun j => ⟨(hI.1.2.2.2.2 j).1, (hI.1.2.2.2.2 j).2.1, ?_, (hI.1.2.2.2.2 j).2.2.2⟩⟩, fun j => ⟨(hI.2.1 j).1, (hI.2.1 j).2.1, (hI.2.1 j).2.2.1, ?_, fun q => ?_⟩, hI.2.2.1, by have := hI.2.2.2.1; omega, hI.2.2.2.2.1, ?_⟩, hCt.cc ⟨fun i j hi => by rw [rI_ne (by omega), rI_ne (by omega), rI_ne (by omega)], fun _ => rfl⟩, ?_⟩
      · exact bd_k ((k + 1 : Nat) : Int) (kI_int (by omega)) (by omega) (by omega)
      · by_cases q : j = k
        · subst q; rw [up_eq]; exact ⟨by omega, c.2⟩
        · rw [up_ne (by omega), up_ne (by omega)]; exact (hI.1.2.2.2.2 j).2.2.1
      · by_cases q : j = k
        · subst q
          rw [up_eq, hw0 j (Nat.le_refl _)]
          exact ⟨by decide, by have h0 : (0 : Int32).toInt = 0 := rfl; omega⟩
        · rw [up_ne (by omega), up_ne (by omega)]; exact (hI.2.1 j).2.2.2.1
      · have q2 : (kI (k + 1)).toInt ≤ j := q
        rw [kI_int (by omega)] at q2
        exact hw0 j (by omega)
      · rw [hkS, pz, hw0 k (Nat.le_refl _), show (0 : Int32).toInt = 0 from rfl, Int.add_zero]
        exact hcons
      · refine hMt.st ?_ (fun i j hk => by rw [rI_ne (by omega), rI_ne (by omega), rI_ne (by omega)]) (fun _ => rfl)
        obtain ⟨q1, q2, q3, q4, q5⟩ := hMt.1.1
        refine ⟨⟨by rw [rI_ne (by omega), rI_ne (by omega), rI_ne (by omega)]; exact q1.1, by rw [rI_eq]; rfl, by rw [rI_ne (by omega), rI_ne (by omega), rI_ne (by omega)]; exact q1.2.2.1, by rw [rI_ne (by omega), rI_ne (by omega), rI_ne (by omega)]; exact q1.2.2.2⟩, fun j hj => by rw [rI_ne (by omega), rI_ne (by omega), rI_ne (by omega), rI_ne (by omega), rI_ne (by omega), rI_ne (by omega)]; exact q2 j hj, fun j hj => ?_, fun t ht => by rw [rI_ne (by omega), rI_ne (by omega), rI_ne (by omega)]; exact q4 t ht, fun s hs => by rw [rI_ne (by omega), rI_ne (by omega), rI_ne (by omega)]; exact q5 s hs⟩
        rw [rI_ne (by omega)]
        by_cases q : j = k
        · subst q; rw [up_eq, rI_eq]
        · rw [up_ne (by omega), rI_ne (by omega), rI_ne (by omega), up_ne (by omega)]; exact q3 j hj
  · have e : f_X5_addTank v σ = (1, 0, σ) := by
      unfold f_X5_addTank
      rw [crI _ _ 1 2000 rfl rfl, if_neg c, if_neg (by decide)]
    have eL : f_L_addTank v σ = (1, σ) := by unfold f_L_addTank; rw [e]; rfl
    have eM : f_X6_addTank v σ = (-1, sI σ 19 32 1) := by
      unfold f_X6_addTank
      rw [inI _ _ 1 2000 rfl rfl, if_neg c, if_pos rfl]
    rw [eL, eM]
    exact ok_throw h hN (by decide)
