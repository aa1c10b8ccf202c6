theorem op_setPrice {N : Nat} {σ : Sg} (h : Inv N σ) (hN : N ≤ 80000) (fi la v : Int32) : OKw (N + 12) (f_L_setPrice fi la v σ) (f_X6_setPrice fi la v (f_L_setPrice fi la v σ).2) := by
  obtain ⟨S, w, O, p, hz, M, sh, hI, hC, hM⟩ := id h
  have m1 : ∀ τ : Sg, f_X6_in la.toInt64 fi.toInt64 47 τ = if fi.toInt ≤ la.toInt ∧ la.toInt ≤ 47 then 1 else 0 := fun τ => inI la (lo := fi.toInt64) τ fi.toInt 47 i_l rfl
  by_cases cs : (0 ≤ fi.toInt ∧ fi.toInt ≤ 47) ∧ (fi.toInt ≤ la.toInt ∧ la.toInt ≤ 47)
  · by_cases cv : 0 ≤ v.toInt ∧ v.toInt ≤ 99
    · have e : f_X5_setPrice fi la v σ = (0, (f_X5_fillSlots_l6 9 fi la v 49 (kI 0) 0 σ).1, (f_X5_fillSlots_l6 9 fi la v 49 (kI 0) 0 σ).2) := by
        unfold f_X5_setPrice
        rw [cs_if, if_pos cs, if_pos rfl, crI _ _ 0 99 rfl rfl, if_pos cv, if_pos rfl]
        rfl
      have g := ft_c (a := 9) (f := S 5) (fi := fi) (la := la) (v := v) 49 0 0 σ rfl (by decide) rfl (fun s hs => by rw [hC.1.2.2.2.2 s hs, if_neg (by omega)])
      have eL : f_L_setPrice fi la v σ = (0, sL (f_X5_fillSlots_l6 9 fi la v 49 (kI 0) 0 σ).2 31 (Int32.toNatClampNeg 0) (f_X5_fillSlots_l6 9 fi la v 49 (kI 0) 0 σ).1.toInt64) := by unfold f_L_setPrice; rw [e]; rfl
      rw [eL]
      clear e eL
      generalize f_X5_fillSlots_l6 9 fi la v 49 (kI 0) 0 σ = r at g ⊢
      obtain ⟨x, σ1⟩ := r
      obtain ⟨g1, g2, g3, g4⟩ := g
      dsimp only at g1 g2 g3 g4 ⊢
      have r1 : ∀ i j, rL σ1 i j = rL σ i j := fun i j => by unfold rL; rw [g4]
      have hC1 : IC σ1 (ut S 5 (ft (S 5) fi la v)) w O p hz M sh := by
        refine hC.st ?_ (Nat.le_refl _) (fun i j hk => g3 i j (by omega)) (fun j => r1 _ _)
        obtain ⟨q1, q2, q3, q4, q5⟩ := hC.1
        refine ⟨⟨by rw [g3 _ _ (by decide)]; exact q1.1, by rw [g3 _ _ (by decide)]; exact q1.2.1, by rw [g3 _ _ (by decide)]; exact q1.2.2.1, by rw [g3 _ _ (by decide)]; exact q1.2.2.2⟩, fun j hj => ⟨by rw [g3 _ _ (by decide)]; exact (q2 j hj).1, by rw [g3 _ _ (by decide)]; exact (q2 j hj).2⟩, fun j hj => by rw [g3 _ _ (by decide)]; exact q3 j hj, fun t ht s hs => by rw [g3 _ _ (by omega)]; exact q4 t ht s hs, fun s hs => g2 s hs⟩
      have hM1 : IM σ1 S w O p hz M sh := hM.mc ⟨fun i j q => g3 i j (by omega), fun j => r1 _ _⟩
      have hCt := ic_31 hC1 x.toInt64
      have hMt := im_31 hM1 x.toInt64
      have hgm1 : GM 99000 (sL σ1 31 (Int32.toNatClampNeg 0) x.toInt64) := hMt.gm hI (by omega)
      have h31 : rL (sL σ1 31 (Int32.toNatClampNeg 0) x.toInt64) 31 (Int32.toNatClampNeg 0) = x.toInt64 := rL_eq _ _ _ _
      generalize sL σ1 31 (Int32.toNatClampNeg 0) x.toInt64 = τ at *
      have hMh := im_th hMt 0
      have eM : f_X6_setPrice fi la v τ = f_X6_setPrice_l61 fi la v 49 (kI 0) 0 (sI τ 19 32 0) := by
        unfold f_X6_setPrice
        rw [inI _ _ 0 47 rfl rfl, if_pos cs.1, if_neg (show ¬ (1 : Int32) = 0 by decide), m1, if_pos cs.2, if_neg (show ¬ (1 : Int32) = 0 by decide), inI _ _ 0 99 rfl rfl, if_pos cv, if_neg (show ¬ (1 : Int32) = 0 by decide)]
        rfl
      have k := ft_p (f := S 5) (fi := fi) (la := la) (v := v) 49 0 0 (sI τ 19 32 0) rfl (by decide) rfl (fun s hs => by rw [hMh.1.1.2.2.2.2 s hs, if_neg (by omega)])
      rw [eM]
      clear eM
      generalize f_X6_setPrice_l61 fi la v 49 (kI 0) 0 (sI τ 19 32 0) = r at k ⊢
      obtain ⟨y, σ2⟩ := r
      obtain ⟨k1, k2, k3, k4⟩ := k
      dsimp only at k1 k2 k3 k4 ⊢
      have r2 : ∀ i j, rL σ2 i j = rL τ i j := fun i j => by unfold rL; rw [k4]; rfl
      refine ⟨⟨hgm1, by rw [k3 _ _ (by decide), rI_eq], fun _ => ?_⟩, ut S 5 (ft (S 5) fi la v), w, O, p, hz, M, sh, ⟨⟨hI.1.1, hI.1.2.1, hI.1.2.2.1, hI.1.2.2.2.1, fun j => ⟨(hI.1.2.2.2.2 j).1, (hI.1.2.2.2.2 j).2.1, (hI.1.2.2.2.2 j).2.2.1, (hI.1.2.2.2.2 j).2.2.2.1, ?_⟩⟩, hI.2.1, hI.2.2.1, by have := hI.2.2.2.1; omega, hI.2.2.2.2.1, hI.2.2.2.2.2⟩, hCt.cc ⟨fun i j q => by rw [k3 _ _ (by omega), rI_ne (by omega)], fun j => r2 _ _⟩, ?_⟩
      · show rL σ2 31 (Int32.toNatClampNeg 0) = y.toInt64
        rw [r2, h31, g1, k1]
      · show bd 0 99 (ft (S 5) fi la v j)
        unfold ft
        split
        · exact cv
        · exact (hI.1.2.2.2.2 j).2.2.2.2
      · refine hMh.st ?_ (fun i j q => k3 _ _ (by omega)) (fun j => r2 _ _)
        obtain ⟨q1, q2, q3, q4, q5⟩ := hMh.1.1
        refine ⟨⟨by rw [k3 _ _ (by decide)]; exact q1.1, by rw [k3 _ _ (by decide)]; exact q1.2.1, by rw [k3 _ _ (by decide)]; exact q1.2.2.1, by rw [k3 _ _ (by decide)]; exact q1.2.2.2⟩, fun j hj => ⟨by rw [k3 _ _ (by decide)]; exact (q2 j hj).1, by rw [k3 _ _ (by decide)]; exact (q2 j hj).2⟩, fun j hj => by rw [k3 _ _ (by decide)]; exact q3 j hj, fun j hj => by rw [k3 _ _ (by decide)]; exact q4 j hj, fun s hs => k2 s hs⟩
    · have e : f_X5_setPrice fi la v σ = (1, 0, σ) := by
        unfold f_X5_setPrice
        rw [cs_if, if_pos cs, if_pos rfl, crI _ _ 0 99 rfl rfl, if_neg cv, if_neg (show ¬ (1 : Nat) = 0 by decide)]
      have eL : f_L_setPrice fi la v σ = (1, σ) := by unfold f_L_setPrice; rw [e]; rfl
      have eM : f_X6_setPrice fi la v σ = (-1, sI σ 19 32 1) := by
        unfold f_X6_setPrice
        rw [inI _ _ 0 47 rfl rfl, if_pos cs.1, if_neg (show ¬ (1 : Int32) = 0 by decide), m1, if_pos cs.2, if_neg (show ¬ (1 : Int32) = 0 by decide), inI _ _ 0 99 rfl rfl, if_neg cv, if_pos rfl]
      rw [eL, eM]
      exact ok_throw h hN (by decide)
  · have e : f_X5_setPrice fi la v σ = (1, 0, σ) := by
      unfold f_X5_setPrice
      rw [cs_if, if_neg cs, if_neg (show ¬ (1 : Nat) = 0 by decide)]
    have eL : f_L_setPrice fi la v σ = (1, σ) := by unfold f_L_setPrice; rw [e]; rfl
    have eM : f_X6_setPrice fi la v σ = (-1, sI σ 19 32 1) := by
      unfold f_X6_setPrice
      rw [inI _ _ 0 47 rfl rfl, m1]
      by_cases c1 : 0 ≤ fi.toInt ∧ fi.toInt ≤ 47
      · rw [if_pos c1, if_neg (show ¬ (1 : Int32) = 0 by decide), if_neg (fun z => cs ⟨c1, z⟩), if_pos rfl]
      · rw [if_neg c1, if_pos rfl]
    rw [eL, eM]
    exact ok_throw h hN (by decide)
