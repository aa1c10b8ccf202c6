theorem op_addTrain {N : Nat} {σ : Sg} (h : Inv N σ) (hN : N ≤ 80000) (v : Int32) : OKw (N + 12) (f_L_addTrain v σ) (f_X6_addTrain v (f_L_addTrain v σ).2) := by
  obtain ⟨S, w, O, p, hz, M, sh, hI, hC, hM⟩ := id h
  have hT := nT_i hI.1
  have e5 : rI σ 1 5 = S 0 0 := hC.1.1.1
  have e4 : rI σ 19 4 = S 0 0 := hM.1.1.1.1
  have eS : S 0 0 = kI (nT S) := kI_of hT.1
  have h4 : (4 : Int32).toInt = 4 := rfl
  by_cases c : 1 ≤ v.toInt ∧ v.toInt ≤ 20
  · by_cases cf : nT S = 4
    · have e : f_X5_addTrain v σ = (2, 0, σ) := by
        unfold f_X5_addTrain
        rw [crI _ _ 1 20 rfl rfl, if_pos c, if_pos rfl, e5, if_neg (by rw [i_lt, hT.1, h4]; omega)]
      have eL : f_L_addTrain v σ = (2, σ) := by unfold f_L_addTrain; rw [e]; rfl
      have eM : f_X6_addTrain v σ = (-1, sI σ 19 32 2) := by
        unfold f_X6_addTrain
        rw [inI _ _ 1 20 rfl rfl, if_pos c, if_neg (by decide), e4, if_pos (by rw [eS, cf]; rfl)]
      rw [eL, eM]
      exact ok_throw h hN (by decide)
    · have hk : nT S < 4 := by omega
      generalize hn : nT S = k at *
      have e : f_X5_addTrain v σ = (0, kI k, sI (sI (sI σ 2 k v) 3 k 50) 1 5 (kI (k + 1))) := by
        unfold f_X5_addTrain
        rw [crI _ _ 1 20 rfl rfl, if_pos c, if_pos rfl, e5, if_pos (by rw [i_lt, hT.1, h4]; omega), eS, kI_nat (by omega), kI_succ]
      have eL : f_L_addTrain v σ = (0, sL (sI (sI (sI σ 2 k v) 3 k 50) 1 5 (kI (k + 1))) 31 (Int32.toNatClampNeg 0) (kI k).toInt64) := by unfold f_L_addTrain; rw [e]; rfl
      have hM1 : IM (sI (sI (sI σ 2 k v) 3 k 50) 1 5 (kI (k + 1))) S w O p hz M sh := hM.mc ⟨fun i j _ => by rw [rI_ne (by omega), rI_ne (by omega), rI_ne (by omega)], fun _ => rfl⟩
      have hC1 : IC (sI (sI (sI σ 2 k v) 3 k 50) 1 5 (kI (k + 1))) (up (up (up S 0 0 (kI (k + 1))) 1 k v) 2 k 50) w O p hz M sh := by
        refine hC.st ?_ (Nat.le_refl _) (fun i j hk => by rw [rI_ne (by omega), rI_ne (by omega), rI_ne (by omega)]) (fun _ => rfl)
        obtain ⟨q1, q2, q3, q4, q5⟩ := hC.1
        refine ⟨⟨by rw [rI_eq]; rfl, by rw [rI_ne (by omega), rI_ne (by omega), rI_ne (by omega)]; exact q1.2.1, by rw [rI_ne (by omega), rI_ne (by omega), rI_ne (by omega)]; exact q1.2.2.1, by rw [rI_ne (by omega), rI_ne (by omega), rI_ne (by omega)]; exact q1.2.2.2⟩, fun j hj => ⟨?_, ?_⟩, fun j hj => by rw [rI_ne (by omega), rI_ne (by omega), rI_ne (by omega)]; exact q3 j hj, fun t ht s hs => by rw [rI_ne (by omega), rI_ne (by omega), rI_ne (by omega)]; exact q4 t ht s hs, fun s hs => by rw [rI_ne (by omega), rI_ne (by omega), rI_ne (by omega)]; exact q5 s hs⟩
        · rw [rI_ne (by omega), rI_ne (by omega), up_ne (by omega)]
          by_cases q : j = k
          · subst q; rw [up_eq, rI_eq]
          · rw [up_ne (by omega), rI_ne (by omega), up_ne (by omega)]; exact (q2 j hj).1
        · rw [rI_ne (by omega)]
          by_cases q : j = k
          · subst q; rw [up_eq, rI_eq]
          · rw [up_ne (by omega), rI_ne (by omega), rI_ne (by omega), up_ne (by omega), up_ne (by omega)]; exact (q2 j hj).2
      have hM2 := im_th (im_31 hM1 (kI k).toInt64) 0
      generalize hτ : sL (sI (sI (sI σ 2 k v) 3 k 50) 1 5 (kI (k + 1))) 31 (Int32.toNatClampNeg 0) (kI k).toInt64 = τ at *
      have h31 : rL τ 31 (Int32.toNatClampNeg 0) = (kI k).toInt64 := by rw [← hτ]; exact rL_eq _ _ _ _
      have hCt := ic_31 hC1 (kI k).toInt64
      rw [hτ] at hCt
      have hMt := im_31 hM1 (kI k).toInt64
      rw [hτ] at hMt
      have et : rI τ 19 4 = kI k := hMt.1.1.1.1.trans eS
      have eM : f_X6_addTrain v τ = (kI k, sI (sI (sI (sI τ 19 32 0) 22 k v) 23 k 50) 19 4 (kI (k + 1))) := by
        unfold f_X6_addTrain
        rw [inI _ _ 1 20 rfl rfl, if_pos c, if_neg (by decide), et, if_neg (show ¬ kI k = 4 from fun q => cf ((kI_inj (b := 4) (by omega) (by decide)).mp q)), kI_nat (by omega), kI_succ, show (1 : Int32) = kI 1 from rfl, kI_sub (by omega) (by omega)]
        rfl
      rw [eL, eM]
      refine ⟨⟨hMt.gm hI (by omega), by rw [rI_ne (by omega), rI_ne (by omega), rI_ne (by omega), rI_eq], fun _ => h31⟩, up (up (up S 0 0 (kI (k + 1))) 1 k v) 2 k 50, w, O, p, hz, M, sh, ⟨⟨?_, hI.1.2.1, hI.1.2.2.1, hI.1.2.2.2.1, fun j => ⟨?_, ?_, (hI.1.2.2.2.2 j).2.2⟩⟩, hI.2.1, hI.2.2.1, by have := hI.2.2.2.1; omega, hI.2.2.2.2.1, hI.2.2.2.2.2⟩, hCt.cc ⟨fun i j hi => by rw [rI_ne (by omega), rI_ne (by omega), rI_ne (by omega), rI_ne (by omega)], fun _ => rfl⟩, ?_⟩
      · exact bd_k ((k + 1 : Nat) : Int) (kI_int (by omega)) (by omega) (by omega)
      · rw [up_ne (by omega)]
        by_cases q : j = k
        · subst q; rw [up_eq]; exact ⟨by omega, c.2⟩
        · rw [up_ne (by omega), up_ne (by omega)]; exact (hI.1.2.2.2.2 j).1
      · by_cases q : j = k
        · subst q; rw [up_eq]; exact bd_k 50 rfl (by decide) (by decide)
        · rw [up_ne (by omega), up_ne (by omega), up_ne (by omega)]; exact (hI.1.2.2.2.2 j).2.1
      · refine hMt.st ?_ (fun i j hk => by rw [rI_ne (by omega), rI_ne (by omega), rI_ne (by omega), rI_ne (by omega)]) (fun _ => rfl)
        obtain ⟨q1, q2, q3, q4, q5⟩ := hMt.1.1
        refine ⟨⟨by rw [rI_eq]; rfl, by rw [rI_ne (by omega), rI_ne (by omega), rI_ne (by omega), rI_ne (by omega)]; exact q1.2.1, by rw [rI_ne (by omega), rI_ne (by omega), rI_ne (by omega), rI_ne (by omega)]; exact q1.2.2.1, by rw [rI_ne (by omega), rI_ne (by omega), rI_ne (by omega), rI_ne (by omega)]; exact q1.2.2.2⟩, fun j hj => ⟨?_, ?_⟩, fun j hj => by rw [rI_ne (by omega), rI_ne (by omega), rI_ne (by omega), rI_ne (by omega)]; exact q3 j hj, fun t ht => by rw [rI_ne (by omega), rI_ne (by omega), rI_ne (by omega), rI_ne (by omega)]; exact q4 t ht, fun s hs => by rw [rI_ne (by omega), rI_ne (by omega), rI_ne (by omega), rI_ne (by omega)]; exact q5 s hs⟩
        · rw [rI_ne (by omega), rI_ne (by omega), up_ne (by omega)]
          by_cases q : j = k
          · subst q; rw [up_eq, rI_eq]
          · rw [up_ne (by omega), rI_ne (by omega), rI_ne (by omega), up_ne (by omega)]; exact (q2 j hj).1
        · rw [rI_ne (by omega)]
          by_cases q : j = k
          · subst q; rw [up_eq, rI_eq]
          · rw [up_ne (by omega), rI_ne (by omega), rI_ne (by omega), rI_ne (by omega), up_ne (by omega), up_ne (by omega)]; exact (q2 j hj).2
  · have e : f_X5_addTrain v σ = (1, 0, σ) := by
      unfold f_X5_addTrain
      rw [crI _ _ 1 20 rfl rfl, if_neg c, if_neg (by decide)]
    have eL : f_L_addTrain v σ = (1, σ) := by unfold f_L_addTrain; rw [e]; rfl
    have eM : f_X6_addTrain v σ = (-1, sI σ 19 32 1) := by
      unfold f_X6_addTrain
      rw [inI _ _ 1 20 rfl rfl, if_neg c, if_pos rfl]
    rw [eL, eM]
    exact ok_throw h hN (by decide)
