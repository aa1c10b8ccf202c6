theorem op_takeBack {N : Nat} {σ : Sg} (h : Inv N σ) (hN : N ≤ 80000) (n : Int32) : (GM 99000 (f_L_takeBack n σ).2 ∧ rI (f_X6_takeBack n (f_L_takeBack n σ).2).2 19 32 = (f_L_takeBack n σ).1 ∧ ((f_L_takeBack n σ).1 = 0 → rL (f_X6_takeBack n (f_L_takeBack n σ).2).2 31 (Int32.toNatClampNeg 0) = (if (f_X6_takeBack n (f_L_takeBack n σ).2).1 = 0 then 0 else 1))) ∧ Inv (N + 12) (f_X6_takeBack n (f_L_takeBack n σ).2).2 := by
  obtain ⟨S, w, O, p, hz, M, sh, hI, hC, hM⟩ := id h
  have hO := hI.2.2.1
  by_cases c : fa O n = -1
  · have ct : te O n = -1 := by unfold te; rw [if_pos c]
    have e : f_X5_takeBack n σ = (5, 0, σ) := by
      unfold f_X5_takeBack
      rw [te_c hC.2.2.1 hO, if_pos ct]
    have eL : f_L_takeBack n σ = (1, σ) := by unfold f_L_takeBack; rw [e]; rfl
    have eM : f_X6_takeBack n σ = (0, sI σ 19 32 1) := by
      unfold f_X6_takeBack
      rw [fa_m hM.1.2.1 hO, if_pos c]
    rw [eL, eM]
    exact ⟨⟨inv_gm h hN, rI_eq _ _ _ _, fun q => absurd q (show ¬ (1 : Int32) = 0 by decide)⟩, inv_th h (by omega) 1⟩
  · have ct : te O n = O 2 (fa O n).toNatClampNeg := by unfold te; rw [if_neg c]
    have ctn : ¬ te O n = -1 := by rw [ct]; rcases hO.2 (fa O n).toNatClampNeg with z | z <;> rw [z] <;> decide
    have f := fg_c (h := n) hC.2.2.1 hO
    have e : f_X5_takeBack n σ = (0, te O n, f_X1_forget n σ) := by
      unfold f_X5_takeBack
      rw [te_c hC.2.2.1 hO, if_neg ctn]
      rcases hO.2 (fa O n).toNatClampNeg with z | z
      · rw [ct, z, if_neg (by decide)]
      · rw [ct, z, if_pos rfl]
    have eL : f_L_takeBack n σ = (0, sL (f_X1_forget n σ) 31 (Int32.toNatClampNeg 0) (if te O n = 0 then 0 else 1)) := by unfold f_L_takeBack; rw [e]; rfl
    generalize f_X1_forget n σ = σ1 at *
    have r1 : ∀ i j, rL σ1 i j = rL σ i j := fun i j => by unfold rL; rw [f.2.2]
    have hM1 : IM σ1 S w O p hz M sh := hM.mc ⟨fun i j q => f.2.1 i j (by omega), fun j => r1 _ _⟩
    have hC1 : IC σ1 S w (fg O n) p hz M sh := by
      obtain ⟨h1, h2, h3, h4, h5, h6, h7, h8, h9⟩ := hC
      refine ⟨h1.of (fun i j q => f.2.1 i j (by omega)), ⟨fun j hj => ?_, fun j hj => ?_⟩, f.1, ?_, ?_, ⟨?_, fun j => ?_⟩, ?_, fun j hj => ?_, fun j hj hk => ?_⟩
      · rw [f.2.1 (sid 0 + 1) _ (by decide), f.2.1 (sid 0 + 2) _ (by decide), f.2.1 (sid 0 + 3) _ (by decide)]; exact h2.1 j hj
      · rw [f.2.1 (sid 0 + 4) _ (by decide)]; exact h2.2 j hj
      · rw [f.2.1 _ _ (by decide)]; exact h4
      · rw [f.2.1 _ _ (by decide)]; exact h5
      · rw [f.2.1 _ _ (by decide)]; exact h6.1
      · rw [f.2.1 _ _ (by decide)]; exact h6.2 j
      · simp only [r1]; exact h7
      · rw [f.2.1 _ _ (by decide)]; exact h8 j hj
      · rw [f.2.1 _ _ (by decide)]; exact h9 j hj hk
    have hCt := ic_31 hC1 (if te O n = 0 then 0 else 1)
    have hMt := im_31 hM1 (if te O n = 0 then 0 else 1)
    have h31 : rL (sL σ1 31 (Int32.toNatClampNeg 0) (if te O n = 0 then 0 else 1)) 31 (Int32.toNatClampNeg 0) = (if te O n = 0 then 0 else 1) := rL_eq _ _ _ _
    generalize sL σ1 31 (Int32.toNatClampNeg 0) (if te O n = 0 then 0 else 1) = τ at *
    have g := fg_m (h := n) (im_th hMt 0).1.2.1 hO c
    have k1 := nO_i hO
    have eM : f_X6_takeBack n τ = (te O n, f_X6_forgets (fa O n) (sI τ 19 32 0)) := by
      unfold f_X6_takeBack
      rw [fa_m hMt.1.2.1 hO, if_neg c]
      rcases fa_x (h := n) hO with q | ⟨j, hj, q, _⟩
      · exact absurd q c
      · have e29 : rI (sI τ 19 32 0) 29 (fa O n).toNatClampNeg = te O n := by
          rw [ct, q, kI_nat (by omega)]
          exact ((im_th hMt 0).1.2.1.2 j (by omega)).2
        rw [e29]
        rcases hO.2 (fa O n).toNatClampNeg with z | z
        · rw [ct, z, if_pos rfl]
        · rw [ct, z, if_neg (by decide)]
    rw [eL, eM]
    have hMf := im_th hMt 0
    have g2 : ∀ i j, rL (f_X6_forgets (fa O n) (sI τ 19 32 0)) i j = rL τ i j := fun i j => by unfold rL; rw [g.2.2.1]; rfl
    refine ⟨⟨hMt.gm hI (by omega), by rw [g.2.1 _ _ (by decide) (by decide) (by decide), rI_eq], fun _ => (g2 _ _).trans h31⟩, S, w, fg O n, p, hz, M, sh, ⟨hI.1, hI.2.1, fg_b hO, by have := hI.2.2.2.1; omega, hI.2.2.2.2⟩, hCt.cc ⟨fun i j q => by rw [g.2.1 _ _ (by omega) (by omega) (by omega), rI_ne (by omega)], fun j => g2 _ _⟩, ?_⟩
    obtain ⟨⟨⟨q1, q2, q3, q4, q5⟩, _, h3⟩, h4, h5, h6, h7, h8⟩ := hMf
    refine ⟨⟨⟨?_, fun j hj => ?_, fun j hj => ?_, fun j hj => ?_, fun j hj => ?_⟩, g.1, ?_⟩, h4.of (fun j => g.2.1 _ _ (by omega) (by omega) (by omega)), ?_, g.2.2.2 h6, ?_, fun j hj => ?_⟩
    · rw [g.2.1 _ _ (by decide) (by decide) (by decide), g.2.1 _ _ (by decide) (by decide) (by decide), g.2.1 _ _ (by decide) (by decide) (by decide), g.2.1 _ _ (by decide) (by decide) (by decide)]; exact q1
    · rw [g.2.1 _ _ (by decide) (by decide) (by omega), g.2.1 _ _ (by decide) (by decide) (by omega)]; exact q2 j hj
    · rw [g.2.1 _ _ (by decide) (by decide) (by omega)]; exact q3 j hj
    · rw [g.2.1 _ _ (by decide) (by decide) (by omega)]; exact q4 j hj
    · rw [g.2.1 _ _ (by decide) (by decide) (by omega)]; exact q5 j hj
    · rw [g.2.1 _ _ (by decide) (by decide) (by decide)]; exact h3
    · rw [g.2.1 _ _ (by decide) (by decide) (by decide)]; exact h5
    · simp only [g2]; exact h7
    · rw [g.2.1 _ _ (by decide) (by decide) (by omega)]; exact h8 j hj
