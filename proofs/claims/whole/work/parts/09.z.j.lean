/-- the demands with some of a tank's slots told anew -/
def dt (S : Vw) (u : Nat) (fi la v : Int32) (b : Nat) : Int32 := if 48 * u ≤ b ∧ b < 48 * u + 48 then ft (fun s => S 4 (48 * u + s)) fi la v (b - 48 * u) else S 4 b
theorem dt_in {S : Vw} {u s : Nat} {fi la v : Int32} (hs : s < 48) : dt S u fi la v (48 * u + s) = ft (fun s => S 4 (48 * u + s)) fi la v s := by
  unfold dt
  rw [if_pos (by omega), Nat.add_sub_cancel_left]
theorem op_setDemand {N : Nat} {σ : Sg} (h : Inv N σ) (hN : N ≤ 80000) (t fi la v : Int32) : OKw (N + 12) (f_L_setDemand t fi la v σ) (f_X6_setDemand t fi la v (f_L_setDemand t fi la v σ).2) := by
  obtain ⟨S, w, O, p, hz, M, sh, hI, hC, hM⟩ := id h
  have m1 : ∀ τ : Sg, f_X6_in la.toInt64 fi.toInt64 47 τ = if fi.toInt ≤ la.toInt ∧ la.toInt ≤ 47 then 1 else 0 := fun τ => inI la (lo := fi.toInt64) τ fi.toInt 47 i_l rfl
  have hT := nK_i hI.1
  have e5 : rI σ 1 6 = S 0 1 := hC.1.1.2.1
  have e4 : rI σ 19 8 = S 0 1 := hM.1.1.1.2.1
  have n1 : ¬ (1 : Int32) = 0 := by decide
  by_cases ct : 0 ≤ t.toInt ∧ t.toInt < (S 0 1).toInt
  · obtain ⟨u, rfl, hu⟩ := i_k ct hT.1
    have hu3 : u < 3 := by omega
    by_cases cs : (0 ≤ fi.toInt ∧ fi.toInt ≤ 47) ∧ (fi.toInt ≤ la.toInt ∧ la.toInt ≤ 47)
    · by_cases cv : 0 ≤ v.toInt ∧ v.toInt ≤ 200
      · have e : f_X5_setDemand (kI u) fi la v σ = (0, (f_X5_fillSlots_l6 (6 + u) fi la v 49 (kI 0) 0 σ).1, (f_X5_fillSlots_l6 (6 + u) fi la v 49 (kI 0) 0 σ).2) := by
          unfold f_X5_setDemand
          rw [ck_if, e5, if_pos ct, if_pos rfl, cs_if, if_pos cs, if_pos rfl, crI _ _ 0 200 rfl rfl, if_pos cv, if_pos rfl, kI_nat (by omega)]
          rfl
        have g := ft_c (a := 6 + u) (f := fun s => S 4 (48 * u + s)) (fi := fi) (la := la) (v := v) 49 0 0 σ rfl (by decide) rfl (fun s hs => by rw [hC.1.2.2.2.1 u hu3 s hs, if_neg (by omega)])
        have eL : f_L_setDemand (kI u) fi la v σ = (0, sL (f_X5_fillSlots_l6 (6 + u) fi la v 49 (kI 0) 0 σ).2 31 (Int32.toNatClampNeg 0) (f_X5_fillSlots_l6 (6 + u) fi la v 49 (kI 0) 0 σ).1.toInt64) := by unfold f_L_setDemand; rw [e]; rfl
        rw [eL]
        clear e eL
        generalize f_X5_fillSlots_l6 (6 + u) fi la v 49 (kI 0) 0 σ = r at g ⊢
        obtain ⟨x, σ1⟩ := r
        obtain ⟨g1, g2, g3, g4⟩ := g
        dsimp only at g1 g2 g3 g4 ⊢
        have r1 : ∀ i j, rL σ1 i j = rL σ i j := fun i j => by unfold rL; rw [g4]
        have hC1 : IC σ1 (ut S 4 (dt S u fi la v)) w O p hz M sh := by
          refine hC.st ?_ (Nat.le_refl _) (fun i j hk => g3 i j (by omega)) (fun j => r1 _ _)
          obtain ⟨q1, q2, q3, q4, q5⟩ := hC.1
          refine ⟨⟨by rw [g3 _ _ (by omega)]; exact q1.1, by rw [g3 _ _ (by omega)]; exact q1.2.1, by rw [g3 _ _ (by omega)]; exact q1.2.2.1, by rw [g3 _ _ (by omega)]; exact q1.2.2.2⟩, fun j hj => ⟨by rw [g3 _ _ (by omega)]; exact (q2 j hj).1, by rw [g3 _ _ (by omega)]; exact (q2 j hj).2⟩, fun j hj => by rw [g3 _ _ (by omega)]; exact q3 j hj, fun t ht s hs => ?_, fun s hs => by rw [g3 _ _ (by omega)]; exact q5 s hs⟩
          show _ = dt S u fi la v (48 * t + s)
          by_cases q : t = u
          · rw [q, dt_in hs]; exact g2 s hs
          · rw [g3 _ _ (by omega), dt, if_neg (by omega)]; exact q4 t ht s hs
        have hM1 : IM σ1 S w O p hz M sh := hM.mc ⟨fun i j q => g3 i j (by omega), fun j => r1 _ _⟩
        have hCt := ic_31 hC1 x.toInt64
        have hMt := im_31 hM1 x.toInt64
        have hgm1 : GM 99000 (sL σ1 31 (Int32.toNatClampNeg 0) x.toInt64) := hMt.gm hI (by omega)
        have h31 : rL (sL σ1 31 (Int32.toNatClampNeg 0) x.toInt64) 31 (Int32.toNatClampNeg 0) = x.toInt64 := rL_eq _ _ _ _
        generalize sL σ1 31 (Int32.toNatClampNeg 0) x.toInt64 = τ at *
        have hMh := im_th hMt 0
        have et : rI τ 19 8 = S 0 1 := hMt.1.1.1.2.1
        have eM : f_X6_setDemand (kI u) fi la v τ = f_X6_setDemand_l86 (kI u) fi la v 49 (kI 0) 0 1 (sI τ 19 32 0) := by
          unfold f_X6_setDemand
          rw [inI _ _ 0 47 rfl rfl, if_pos cs.1, if_neg n1, m1, if_pos cs.2, if_neg n1, inI _ _ 0 200 rfl rfl, if_pos cv, if_neg n1, ik_if (by rw [et]; omega), et, if_pos ct, if_neg n1]
          rfl
        have k := ft_d (f := fun s => S 4 (48 * u + s)) (fi := fi) (la := la) (v := v) hu3 49 0 0 (sI τ 19 32 0) rfl (by decide) rfl (fun s hs => by rw [hMh.1.1.2.2.2.1 (48 * u + s) (by omega), if_neg (by omega)])
        rw [eM]
        clear eM
        generalize f_X6_setDemand_l86 (kI u) fi la v 49 (kI 0) 0 1 (sI τ 19 32 0) = r at k ⊢
        obtain ⟨y, σ2⟩ := r
        obtain ⟨k1, k2, k3, k4⟩ := k
        dsimp only at k1 k2 k3 k4 ⊢
        have r2 : ∀ i j, rL σ2 i j = rL τ i j := fun i j => by unfold rL; rw [k4]; rfl
        refine ⟨⟨hgm1, by rw [k3 _ _ (by omega), rI_eq], fun _ => ?_⟩, ut S 4 (dt S u fi la v), w, O, p, hz, M, sh, ⟨⟨hI.1.1, hI.1.2.1, hI.1.2.2.1, hI.1.2.2.2.1, fun j => ⟨(hI.1.2.2.2.2 j).1, (hI.1.2.2.2.2 j).2.1, (hI.1.2.2.2.2 j).2.2.1, ?_, (hI.1.2.2.2.2 j).2.2.2.2⟩⟩, hI.2.1, hI.2.2.1, by have := hI.2.2.2.1; omega, hI.2.2.2.2.1, hI.2.2.2.2.2⟩, hCt.cc ⟨fun i j q => by rw [k3 _ _ (by omega), rI_ne (by omega)], fun j => r2 _ _⟩, ?_⟩
        · show rL σ2 31 (Int32.toNatClampNeg 0) = y.toInt64
          rw [r2, h31, g1, k1]
        · show bd 0 200 (dt S u fi la v j)
          unfold dt ft
          split
          · split
            · exact cv
            · exact (hI.1.2.2.2.2 _).2.2.2.1
          · exact (hI.1.2.2.2.2 j).2.2.2.1
        · refine hMh.st ?_ (fun i j q => k3 _ _ (by omega)) (fun j => r2 _ _)
          obtain ⟨q1, q2, q3, q4, q5⟩ := hMh.1.1
          refine ⟨⟨by rw [k3 _ _ (by omega)]; exact q1.1, by rw [k3 _ _ (by omega)]; exact q1.2.1, by rw [k3 _ _ (by omega)]; exact q1.2.2.1, by rw [k3 _ _ (by omega)]; exact q1.2.2.2⟩, fun j hj => ⟨by rw [k3 _ _ (by omega)]; exact (q2 j hj).1, by rw [k3 _ _ (by omega)]; exact (q2 j hj).2⟩, fun j hj => by rw [k3 _ _ (by omega)]; exact q3 j hj, fun j hj => ?_, fun s hs => by rw [k3 _ _ (by omega)]; exact q5 s hs⟩
          show _ = dt S u fi la v j
          by_cases q : 48 * u ≤ j ∧ j < 48 * u + 48
          · obtain ⟨s, rfl⟩ : ∃ s, j = 48 * u + s := ⟨j - 48 * u, by omega⟩
            rw [dt_in (by omega)]; exact k2 s (by omega)
          · rw [k3 _ _ (by omega), dt, if_neg q]; exact q4 j hj
      · have e : f_X5_setDemand (kI u) fi la v σ = (1, 0, σ) := by
          unfold f_X5_setDemand
          rw [ck_if, e5, if_pos ct, if_pos rfl, cs_if, if_pos cs, if_pos rfl, crI _ _ 0 200 rfl rfl, if_neg cv, if_neg (show ¬ (1 : Nat) = 0 by decide)]
        have eL : f_L_setDemand (kI u) fi la v σ = (2, σ) := by unfold f_L_setDemand; rw [e]; rfl
        have eM : f_X6_setDemand (kI u) fi la v σ = (-1, sI σ 19 32 2) := by
          unfold f_X6_setDemand
          rw [inI _ _ 0 47 rfl rfl, if_pos cs.1, if_neg n1, m1, if_pos cs.2, if_neg n1, inI _ _ 0 200 rfl rfl, if_neg cv, if_pos rfl, ik_if (by rw [e4]; omega), e4, if_pos ct, if_neg n1]
        rw [eL, eM]
        exact ok_throw h hN (by decide)
    · have e : f_X5_setDemand (kI u) fi la v σ = (1, 0, σ) := by
        unfold f_X5_setDemand
        rw [ck_if, e5, if_pos ct, if_pos rfl, cs_if, if_neg cs, if_neg (show ¬ (1 : Nat) = 0 by decide)]
      have eL : f_L_setDemand (kI u) fi la v σ = (2, σ) := by unfold f_L_setDemand; rw [e]; rfl
      have eM : f_X6_setDemand (kI u) fi la v σ = (-1, sI σ 19 32 2) := by
        unfold f_X6_setDemand
        rw [inI _ _ 0 47 rfl rfl, m1, ik_if (by rw [e4]; omega), e4, if_pos ct]
        by_cases c1 : 0 ≤ fi.toInt ∧ fi.toInt ≤ 47
        · rw [if_pos c1, if_neg n1, if_neg (fun z => cs ⟨c1, z⟩), if_pos rfl, if_neg n1]
        · rw [if_neg c1, if_pos rfl, if_neg n1]
      rw [eL, eM]
      exact ok_throw h hN (by decide)
  · have e : f_X5_setDemand t fi la v σ = (3, 0, σ) := by
      unfold f_X5_setDemand
      rw [ck_if, e5, if_neg ct, if_neg (show ¬ (3 : Nat) = 0 by decide)]
    have eL : f_L_setDemand t fi la v σ = (1, σ) := by unfold f_L_setDemand; rw [e]; rfl
    have eM : f_X6_setDemand t fi la v σ = (-1, sI σ 19 32 1) := by
      unfold f_X6_setDemand
      rw [ik_if (by rw [e4]; omega), e4, if_neg ct]
      rw [if_pos (show (0 : Int32) = 0 from rfl)]
      simp only [if_true, ite_self]
    rw [eL, eM]
    exact ok_throw h hN (by decide)
