theorem inv_sD {N : Nat} {σ : Sg} (h : Inv N σ) (x : UInt64) : Inv N (sD σ 32 (Int32.toNatClampNeg 0) x) := by
  obtain ⟨S, w, O, p, hz, M, sh, hI, hC, hM⟩ := h
  exact ⟨S, w, O, p, hz, M, sh, hI, hC.cc ⟨fun _ _ _ => rfl, fun _ => rfl⟩, hM.mc ⟨fun _ _ _ => rfl, fun _ => rfl⟩⟩
theorem op_servedShare {N : Nat} {σ : Sg} (h : Inv N σ) (hN : N ≤ 80000) : (GM 99000 (f_L_servedShare σ).2 ∧ rI (f_X6_servedShare (f_L_servedShare σ).2).2 19 32 = (f_L_servedShare σ).1 ∧ True ∧ ((f_L_servedShare σ).1 = 0 → (vf_n64 (FP.f2d (f_X6_servedShare (f_L_servedShare σ).2).1) ∧ Op.cmpValue (FP.dcmp (rD (f_X6_servedShare (f_L_servedShare σ).2).2 32 (Int32.toNatClampNeg 0)) (FP.f2d (f_X6_servedShare (f_L_servedShare σ).2).1)) .l = 0))) ∧ Inv (N + 12) (f_X6_servedShare (f_L_servedShare σ).2).2 := by
  obtain ⟨S, w, O, p, hz, M, sh, hI, hC, hM⟩ := id h
  have e6 := hC.2.2.2.2.2.2.1.2.2.2.2.2.1
  have e7 := hC.2.2.2.2.2.2.1.2.2.2.2.2.2.1
  have m6 := hM.2.2.2.2.1.2.2.2.2.1
  have m7 := hM.2.2.2.2.1.2.2.2.2.2
  by_cases c : lg_cmp (M 5) 0 = 0
  · have e : f_X5_servedShare σ = (6, 0) := by unfold f_X5_servedShare; rw [e7, if_pos c]
    have eL : f_L_servedShare σ = (1, σ) := by unfold f_L_servedShare; rw [e]; rfl
    have eM : f_X6_servedShare σ = (FP.fconst0, sI σ 19 32 1) := by unfold f_X6_servedShare; rw [m7, if_pos c]
    rw [eL, eM]
    exact ⟨⟨inv_gm h hN, rI_eq _ _ _ _, trivial, fun q => absurd q (show ¬ (1 : Int32) = 0 by decide)⟩, inv_th h (by omega) 1⟩
  · have e : f_X5_servedShare σ = (0, FP.fdiv (FP.l2f (M 4)) (FP.l2f (M 5))) := by unfold f_X5_servedShare; rw [e7, e6, if_neg c]
    have eL : f_L_servedShare σ = (0, sD σ 32 (Int32.toNatClampNeg 0) (FP.f2d (FP.fdiv (FP.l2f (M 4)) (FP.l2f (M 5))))) := by unfold f_L_servedShare; rw [e]; rfl
    have h2 := inv_sD h (FP.f2d (FP.fdiv (FP.l2f (M 4)) (FP.l2f (M 5))))
    have eM : f_X6_servedShare (sD σ 32 (Int32.toNatClampNeg 0) (FP.f2d (FP.fdiv (FP.l2f (M 4)) (FP.l2f (M 5))))) = (FP.fdiv (FP.l2f (M 4)) (FP.l2f (M 5)), sI (sD σ 32 (Int32.toNatClampNeg 0) (FP.f2d (FP.fdiv (FP.l2f (M 4)) (FP.l2f (M 5))))) 19 32 0) := by
      unfold f_X6_servedShare
      rw [rL_sD, rL_sD, m7, m6, if_neg c]
    rw [eL, eM]
    have hn : vf_n64 (FP.f2d (FP.fdiv (FP.l2f (M 4)) (FP.l2f (M 5)))) := (Free.Fl.noNaN_f2d _).mpr (nan_f (l_ne0 c))
    refine ⟨⟨inv_gm h2 hN, rI_eq _ _ _ _, trivial, fun _ => ⟨hn, ?_⟩⟩, inv_th h2 (by omega) 0⟩
    dsimp only
    rw [rD_sI, rD_sD, if_pos ⟨rfl, rfl⟩]
    exact dc_self hn
theorem op_meanCost {N : Nat} {σ : Sg} (h : Inv N σ) (hN : N ≤ 80000) : (GM 99000 (f_L_meanCost σ).2 ∧ rI (f_X6_meanCost (f_L_meanCost σ).2).2 19 32 = (f_L_meanCost σ).1 ∧ True ∧ ((f_L_meanCost σ).1 = 0 → (True ∧ Op.cmpValue (FP.dcmp (rD (f_X6_meanCost (f_L_meanCost σ).2).2 32 (Int32.toNatClampNeg 0)) (f_X6_meanCost (f_L_meanCost σ).2).1) .l = 0))) ∧ Inv (N + 12) (f_X6_meanCost (f_L_meanCost σ).2).2 := by
  obtain ⟨S, w, O, p, hz, M, sh, hI, hC, hM⟩ := id h
  have e5 := hC.2.2.2.2.2.2.1.2.2.2.2.1
  have e6 : rI σ 0 6 = kI p := hC.2.2.2.1
  have m5 := hM.2.2.2.2.1.2.2.2.1
  have m6 : rI σ 19 12 = kI p := hM.1.2.2
  by_cases c : kI p = 0
  · have e : f_X5_meanCost σ = (6, 0) := by unfold f_X5_meanCost; rw [e6, if_pos c]
    have eL : f_L_meanCost σ = (1, σ) := by unfold f_L_meanCost; rw [e]; rfl
    have eM : f_X6_meanCost σ = (FP.dconst0, sI σ 19 32 1) := by unfold f_X6_meanCost; rw [m6, if_pos c]
    rw [eL, eM]
    exact ⟨⟨inv_gm h hN, rI_eq _ _ _ _, trivial, fun q => absurd q (show ¬ (1 : Int32) = 0 by decide)⟩, inv_th h (by omega) 1⟩
  · have e : f_X5_meanCost σ = (0, FP.ddiv (FP.l2d (M 3)) (FP.i2d (kI p))) := by unfold f_X5_meanCost; rw [e6, e5, if_neg c]
    have eL : f_L_meanCost σ = (0, sD σ 32 (Int32.toNatClampNeg 0) (FP.ddiv (FP.l2d (M 3)) (FP.i2d (kI p)))) := by unfold f_L_meanCost; rw [e]; rfl
    have h2 := inv_sD h (FP.ddiv (FP.l2d (M 3)) (FP.i2d (kI p)))
    have eM : f_X6_meanCost (sD σ 32 (Int32.toNatClampNeg 0) (FP.ddiv (FP.l2d (M 3)) (FP.i2d (kI p)))) = (FP.ddiv (FP.l2d (M 3)) (FP.i2d (kI p)), sI (sD σ 32 (Int32.toNatClampNeg 0) (FP.ddiv (FP.l2d (M 3)) (FP.i2d (kI p)))) 19 32 0) := by
      unfold f_X6_meanCost
      rw [rI_sD, rL_sD, m6, m5, if_neg c]
    rw [eL, eM]
    refine ⟨⟨inv_gm h2 hN, rI_eq _ _ _ _, trivial, fun _ => ⟨trivial, ?_⟩⟩, inv_th h2 (by omega) 0⟩
    dsimp only
    rw [rD_sI, rD_sD, if_pos ⟨rfl, rfl⟩]
    exact dc_self (nan_d (i_ne0 c))
