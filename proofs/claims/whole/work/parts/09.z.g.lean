theorem ic_pu {σ σ1 : Sg} {S w O O' : Vw} {p hz : Nat} {M : Mt} {sh : Nat → Int32} (hC : IC σ S w O p hz M sh) (hO : Oc σ1 O') (f : ∀ k j, k < 10 ∨ 12 < k → rI σ1 k j = rI σ k j) (f2 : σ1.2 = σ.2) : IC σ1 S w O' p hz M sh := by
  have r1 : ∀ i j, rL σ1 i j = rL σ i j := fun i j => by unfold rL; rw [f2]
  obtain ⟨h1, h2, h3, h4, h5, h6, h7, h8, h9⟩ := hC
  refine ⟨h1.of (fun i j q => f i j (by omega)), ⟨fun j hj => ?_, fun j hj => ?_⟩, hO, ?_, ?_, ⟨?_, fun j => ?_⟩, ?_, fun j hj => ?_, fun j hj hk => ?_⟩
  · rw [f (sid 0 + 1) _ (by decide), f (sid 0 + 2) _ (by decide), f (sid 0 + 3) _ (by decide)]; exact h2.1 j hj
  · rw [f (sid 0 + 4) _ (by decide)]; exact h2.2 j hj
  · rw [f _ _ (by decide)]; exact h4
  · rw [f _ _ (by decide)]; exact h5
  · rw [f _ _ (by decide)]; exact h6.1
  · rw [f _ _ (by decide)]; exact h6.2 j
  · simp only [r1]; exact h7
  · rw [f _ _ (by decide)]; exact h8 j hj
  · rw [f _ _ (by decide)]; exact h9 j hj hk
theorem op_order {N : Nat} {σ : Sg} (h : Inv N σ) (hN : N ≤ 80000) (n on : Int32) (hon : on = 0 ∨ on = 1) : OKw (N + 12) (f_L_order n on σ) (f_X6_order n on (f_L_order n on σ).2) := by
  obtain ⟨S, w, O, p, hz, M, sh, hI, hC, hM⟩ := id h
  have hO := hI.2.2.1
  have k1 := nO_i hO
  have h6 : (6 : Int32).toInt = 6 := rfl
  by_cases cp : kI p ≤ n
  · by_cases cf : fa O n = -1 ∧ nO O = 6
    · have e : f_X5_order n on σ = (2, 0, σ) := by
        unfold f_X5_order
        rw [hC.2.2.2.1, if_pos cp, te_c hC.2.2.1 hO, if_pos ((te_fa hO).mpr cf.1), hC.2.2.1.1, O0_i hO, cf.2, if_neg (by decide)]
      have eL : f_L_order n on σ = (2, σ) := by unfold f_L_order; rw [e]; rfl
      have eM : f_X6_order n on σ = (-1, sI σ 19 32 2) := by
        unfold f_X6_order
        rw [hM.1.2.2, if_pos cp, fa_m hM.1.2.1 hO, if_pos cf.1, hM.1.2.1.1, O0_i hO, cf.2, if_pos (by decide)]
      rw [eL, eM]
      exact ok_throw h hN (by decide)
    · have hn : fa O n = -1 → nO O < 6 := fun q => by
        have : ¬ nO O = 6 := fun z => cf ⟨q, z⟩
        omega
      have g := pu_c (v := on) hC.2.2.1 hO hn
      have e : f_X5_order n on σ = (0, pu O n on 0 0, f_X1_put n on σ) := by
        have ev : rI (f_X1_put n on σ) 10 2 = pu O n on 0 0 := g.1.1
        have both : (if on = 0 then ((0 : Nat), rI (f_X1_put n 0 σ) 10 2, f_X1_put n 0 σ) else (0, rI (f_X1_put n 1 σ) 10 2, f_X1_put n 1 σ)) = (0, pu O n on 0 0, f_X1_put n on σ) := by
          rw [← ev]
          rcases hon with z | z
          · rw [z, if_pos rfl]
          · rw [z, if_neg (by decide)]
        unfold f_X5_order
        rw [hC.2.2.2.1, if_pos cp, te_c hC.2.2.1 hO]
        by_cases q : fa O n = -1
        · rw [if_pos ((te_fa hO).mpr q), hC.2.2.1.1, if_pos (by rw [i_lt, k1.1, h6]; have := hn q; omega)]
          exact both
        · rw [if_neg (fun z => q ((te_fa hO).mp z))]
          exact both
      have eL : f_L_order n on σ = (0, sL (f_X1_put n on σ) 31 (Int32.toNatClampNeg 0) (pu O n on 0 0).toInt64) := by unfold f_L_order; rw [e]; rfl
      generalize f_X1_put n on σ = σ1 at *
      have hC1 := ic_pu hC g.1 g.2.1 g.2.2
      have r1 : ∀ i j, rL σ1 i j = rL σ i j := fun i j => by unfold rL; rw [g.2.2]
      have hM1 : IM σ1 S w O p hz M sh := hM.mc ⟨fun i j q => g.2.1 i j (by omega), fun j => r1 _ _⟩
      have hCt := ic_31 hC1 (pu O n on 0 0).toInt64
      have hMt := im_31 hM1 (pu O n on 0 0).toInt64
      have h31 : rL (sL σ1 31 (Int32.toNatClampNeg 0) (pu O n on 0 0).toInt64) 31 (Int32.toNatClampNeg 0) = (pu O n on 0 0).toInt64 := rL_eq _ _ _ _
      rw [eL]
      dsimp only
      have hgm1 : GM 99000 (sL σ1 31 (Int32.toNatClampNeg 0) (pu O n on 0 0).toInt64) := hMt.gm hI (by omega)
      generalize sL σ1 31 (Int32.toNatClampNeg 0) (pu O n on 0 0).toInt64 = τ at *
      have eM : f_X6_order n on τ = om O n on τ := by
        unfold f_X6_order om
        rw [hMt.1.2.2, if_pos cp, fa_m hMt.1.2.1 hO, hMt.1.2.1.1]
        by_cases q : fa O n = -1
        · rw [if_pos q, if_pos q, O0_i hO, if_neg (show ¬ kI (nO O) = 6 from fun z => by have := (kI_inj (b := 6) (by omega) (by decide)).mp z; have := hn q; omega), kI_nat (by omega), kI_succ]
        · rw [if_neg q, if_neg q]
      rw [eM]
      have b := om_c (on := on) (h := n) hMt hO hn hon
      generalize om O n on τ = r at *
      obtain ⟨u, σ2⟩ := r
      dsimp only at b
      refine ⟨⟨hgm1, b.2.2.1, fun _ => ?_⟩, S, w, pu O n on, p, hz, M, sh, ⟨hI.1, hI.2.1, pu_b hO hn hon, by have := hI.2.2.2.1; omega, hI.2.2.2.2⟩, hCt.cc b.2.2.2.1, b.1⟩
      show rL σ2 31 (Int32.toNatClampNeg 0) = u.toInt64
      rw [b.2.2.2.2, h31, b.2.1]
  · have e : f_X5_order n on σ = (1, 0, σ) := by
      unfold f_X5_order
      rw [hC.2.2.2.1, if_neg cp]
    have eL : f_L_order n on σ = (1, σ) := by unfold f_L_order; rw [e]; rfl
    have eM : f_X6_order n on σ = (-1, sI σ 19 32 1) := by
      unfold f_X6_order
      rw [hM.1.2.2, if_neg cp]
    rw [eL, eM]
    exact ok_throw h hN (by decide)
