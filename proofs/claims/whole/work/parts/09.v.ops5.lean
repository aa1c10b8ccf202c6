theorem op_setHorizon {N : Nat} {σ : Sg} (h : Inv N σ) (hN : N ≤ 80000) (n : Int32) : OKw (N + 12) (f_L_setHorizon n σ) (f_X6_setHorizon n (f_L_setHorizon n σ).2) := by
  obtain ⟨S, w, O, p, hz, M, sh, hI, hC, hM⟩ := id h
  by_cases c : 1 ≤ n.toInt ∧ n.toInt ≤ 6
  · obtain ⟨k, rfl, hk, hk1⟩ : ∃ k, n = kI k ∧ k ≤ 6 ∧ 1 ≤ k := ⟨n.toInt.toNat, kI_of (by omega), by omega, by omega⟩
    have e : f_X5_setHorizon (kI k) σ = (0, kI hz, sI σ 0 5 (kI k)) := by
      unfold f_X5_setHorizon
      rw [crI _ _ 1 6 rfl rfl, if_pos c, if_pos rfl, hC.2.2.2.2.1]
    have eL : f_L_setHorizon (kI k) σ = (0, sL (sI σ 0 5 (kI k)) 31 (Int32.toNatClampNeg 0) (kI hz).toInt64) := by unfold f_L_setHorizon; rw [e]; rfl
    have hM1 : IM (sI σ 0 5 (kI k)) S w O p hz M sh := hM.mc ⟨fun i j _ => rI_ne (by omega), fun _ => rfl⟩
    have eM : f_X6_setHorizon (kI k) (sL (sI σ 0 5 (kI k)) 31 (Int32.toNatClampNeg 0) (kI hz).toInt64) = (kI hz, sI (sI (sL (sI σ 0 5 (kI k)) 31 (Int32.toNatClampNeg 0) (kI hz).toInt64) 19 32 0) 19 13 (kI k)) := by
      unfold f_X6_setHorizon
      rw [inI _ _ 1 6 rfl rfl, if_pos c, if_neg (by decide), rI_31, hM1.2.2.1]
    rw [eL, eM]
    have hM2 := im_th (im_31 hM1 (kI hz).toInt64) 0
    refine ok_put (hM1.gm hI (by omega)) rfl (by rw [rI_ne (by omega), rI_eq]) (rL_eq _ _ _ _) ?_
    refine ⟨S, w, O, p, k, M, sh, ⟨hI.1, hI.2.1, hI.2.2.1, by have := hI.2.2.2.1; omega, ⟨hk1, hk⟩, hI.2.2.2.2.2⟩, ?_, ?_⟩
    · obtain ⟨h1, h2, h3, h4, h5, h6, h7, h8, h9⟩ := hC
      refine IC.cc (a := sI σ 0 5 (kI k)) ⟨h1.of1 (fun i j hi => rI_ne (by omega)), ⟨fun j hj => ?_, fun j hj => ?_⟩, h3.of (fun i j hi => rI_ne (by omega)), ?_, rI_eq _ _ _ _, ⟨?_, fun j => ?_⟩, h7, fun j hj => ?_, fun j hj hk => ?_⟩ ⟨fun i j hi => by rw [rI_ne (by omega), rI_ne (by omega), rI_31], fun j => rL_ne (by omega)⟩
      · rw [rI_ne (by omega), rI_ne (by omega), rI_ne (by omega)]; exact h2.1 j hj
      · rw [rI_ne (by omega)]; exact h2.2 j hj
      · rw [rI_ne (by omega)]; exact h4
      · rw [rI_ne (by omega)]; exact h6.1
      · rw [rI_ne (by omega)]; exact h6.2 j
      · rw [rI_ne (by omega)]; exact h8 j hj
      · rw [rI_ne (by omega)]; exact h9 j hj hk
    · obtain ⟨⟨⟨g1, g2, g3, g4, g5⟩, h2, h3⟩, h4, h5, h6, h7, h8⟩ := hM2
      refine ⟨⟨⟨?_, fun j hj => ?_, fun j hj => ?_, fun j hj => ?_, fun j hj => ?_⟩, ⟨?_, fun j hj => ?_⟩, ?_⟩, h4.of (fun j => rI_ne (by omega)), rI_eq _ _ _ _, fun j => ?_, h7, fun j hj => ?_⟩
      · rw [rI_ne (by omega), rI_ne (by omega), rI_ne (by omega), rI_ne (by omega)]; exact g1
      · rw [rI_ne (by omega), rI_ne (by omega)]; exact g2 j hj
      · rw [rI_ne (by omega)]; exact g3 j hj
      · rw [rI_ne (by omega)]; exact g4 j hj
      · rw [rI_ne (by omega)]; exact g5 j hj
      · rw [rI_ne (by omega)]; exact h2.1
      · rw [rI_ne (by omega), rI_ne (by omega)]; exact h2.2 j hj
      · rw [rI_ne (by omega)]; exact h3
      · rw [rI_ne (by omega)]; exact h6 j
      · rw [rI_ne (by omega)]; exact h8 j hj
  · have e : f_X5_setHorizon n σ = (1, 0, σ) := by
      unfold f_X5_setHorizon
      rw [crI _ _ 1 6 rfl rfl, if_neg c, if_neg (by decide)]
    have eL : f_L_setHorizon n σ = (1, σ) := by unfold f_L_setHorizon; rw [e]; rfl
    have eM : f_X6_setHorizon n σ = (-1, sI (sI σ 19 32 1) 19 13 (rI σ 19 13)) := by
      unfold f_X6_setHorizon
      rw [inI _ _ 1 6 rfl rfl, if_neg c, if_pos rfl]
    have e2 : sI (sI σ 19 32 1) 19 13 (rI σ 19 13) = sI (sI σ 19 32 1) 19 13 (rI (sI σ 19 32 1) 19 13) := by rw [rI_ne (by omega)]
    have hi := inv_th h (N' := N + 12) (by omega) 1
    rw [eL, eM]
    refine ⟨⟨inv_gm h hN, by rw [rI_ne (by omega), rI_eq], fun q => absurd q (show ¬ (1 : Int32) = 0 by decide)⟩, ?_⟩
    obtain ⟨S, w, O, p, hz, M, sh, hI, hC, hM⟩ := hi
    rw [e2]
    have es : ∀ i j, rI (sI (sI σ 19 32 1) 19 13 (rI (sI σ 19 32 1) 19 13)) i j = rI (sI σ 19 32 1) i j := fun i j => by
      rw [rI_sI]
      split
      · rename_i q; rw [q.1, q.2]
      · rfl
    exact ⟨S, w, O, p, hz, M, sh, hI, hC.cc ⟨fun i j _ => es i j, fun _ => rfl⟩, hM.mc ⟨fun i j _ => es i j, fun _ => rfl⟩⟩
