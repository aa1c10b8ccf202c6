theorem op_setPressure {N : Nat} {σ : Sg} (h : Inv N σ) (hN : N ≤ 80000) (t v : Int32) : OKw (N + 12) (f_L_setPressure t v σ) (f_X6_setPressure t v (f_L_setPressure t v σ).2) := by
  obtain ⟨S, w, O, p, hz, M, sh, hI, hC, hM⟩ := id h
  have hT := nT_i hI.1
  have e5 : rI σ 1 5 = S 0 0 := hC.1.1.1
  have e4 : rI σ 19 4 = S 0 0 := hM.1.1.1.1
  by_cases ct : 0 ≤ t.toInt ∧ t.toInt < (S 0 0).toInt
  · obtain ⟨k, rfl, hk⟩ := i_k ct hT.1
    by_cases c : 30 ≤ v.toInt ∧ v.toInt ≤ 70
    · have e : f_X5_setPressure (kI k) v σ = (0, S 2 k, sI σ 3 k v) := by
        unfold f_X5_setPressure
        rw [ct_if, e5, if_pos ct, if_pos rfl, crI _ _ 30 70 rfl rfl, if_pos c, if_pos rfl, kI_nat (by omega), (hC.1.2.1 k (by omega)).2]
      have eL : f_L_setPressure (kI k) v σ = (0, sL (sI σ 3 k v) 31 (Int32.toNatClampNeg 0) (S 2 k).toInt64) := by unfold f_L_setPressure; rw [e]; rfl
      have hM1 : IM (sI σ 3 k v) S w O p hz M sh := hM.mc ⟨fun i j _ => rI_ne (by omega), fun _ => rfl⟩
      have hM2 := im_th (im_31 hM1 (S 2 k).toInt64) 0
      have eM : f_X6_setPressure (kI k) v (sL (sI σ 3 k v) 31 (Int32.toNatClampNeg 0) (S 2 k).toInt64) = (S 2 k, sI (sI (sL (sI σ 3 k v) 31 (Int32.toNatClampNeg 0) (S 2 k).toInt64) 19 32 0) 23 k v) := by
        unfold f_X6_setPressure
        rw [it_if (by rw [rI_31, rI_ne (by omega), e4]; omega), rI_31, rI_ne (by omega), e4, if_pos ct, if_neg (by decide), inI _ _ 30 70 rfl rfl, if_pos c, if_neg (by decide), kI_nat (by omega), (hM2.1.1.2.1 k (by omega)).2]
      rw [eL, eM]
      refine ok_put (hM1.gm hI (by omega)) rfl (by rw [rI_ne (by omega), rI_eq]) (rL_eq _ _ _ _) ?_
      refine ⟨up S 2 k v, w, O, p, hz, M, sh, ⟨⟨hI.1.1, hI.1.2.1, hI.1.2.2.1, hI.1.2.2.2.1, fun j => ⟨(hI.1.2.2.2.2 j).1, ?_, (hI.1.2.2.2.2 j).2.2⟩⟩, hI.2.1, hI.2.2.1, by have := hI.2.2.2.1; omega, hI.2.2.2.2.1, hI.2.2.2.2.2⟩, ?_, ?_⟩
      · by_cases q : j = k
        · subst q; rw [up_eq]; exact ⟨by omega, c.2⟩
        · rw [up_ne (by omega)]; exact (hI.1.2.2.2.2 j).2.1
      · refine IC.cc (a := sI σ 3 k v) (hC.st ?_ (Nat.le_refl _) (fun i j hk => rI_ne (by omega)) (fun _ => rfl)) ⟨fun i j hi => by rw [rI_ne (by omega), rI_ne (by omega), rI_31], fun j => rL_ne (by omega)⟩
        obtain ⟨q1, q2, q3, q4, q5⟩ := hC.1
        refine ⟨⟨by rw [rI_ne (by omega)]; exact q1.1, by rw [rI_ne (by omega)]; exact q1.2.1, by rw [rI_ne (by omega)]; exact q1.2.2.1, by rw [rI_ne (by omega)]; exact q1.2.2.2⟩, fun j hj => ⟨by rw [rI_ne (by omega)]; exact (q2 j hj).1, ?_⟩, fun j hj => by rw [rI_ne (by omega)]; exact q3 j hj, fun t ht s hs => by rw [rI_ne (by omega)]; exact q4 t ht s hs, fun s hs => by rw [rI_ne (by omega)]; exact q5 s hs⟩
        by_cases q : j = k
        · subst q; rw [up_eq, rI_eq]
        · rw [up_ne (by omega), rI_ne (by omega)]; exact (q2 j hj).2
      · refine hM2.st ?_ (fun i j hk => rI_ne (by omega)) (fun _ => rfl)
        obtain ⟨q1, q2, q3, q4, q5⟩ := hM2.1.1
        refine ⟨⟨by rw [rI_ne (by omega)]; exact q1.1, by rw [rI_ne (by omega)]; exact q1.2.1, by rw [rI_ne (by omega)]; exact q1.2.2.1, by rw [rI_ne (by omega)]; exact q1.2.2.2⟩, fun j hj => ⟨by rw [rI_ne (by omega)]; exact (q2 j hj).1, ?_⟩, fun j hj => by rw [rI_ne (by omega)]; exact q3 j hj, fun t ht => by rw [rI_ne (by omega)]; exact q4 t ht, fun s hs => by rw [rI_ne (by omega)]; exact q5 s hs⟩
        by_cases q : j = k
        · subst q; rw [up_eq, rI_eq]
        · rw [up_ne (by omega), rI_ne (by omega)]; exact (q2 j hj).2
    · have e : f_X5_setPressure (kI k) v σ = (1, 0, σ) := by
        unfold f_X5_setPressure
        rw [ct_if, e5, if_pos ct, if_pos rfl, crI _ _ 30 70 rfl rfl, if_neg c, if_neg (by decide)]
      have eL : f_L_setPressure (kI k) v σ = (2, σ) := by unfold f_L_setPressure; rw [e]; rfl
      have eM : f_X6_setPressure (kI k) v σ = (-1, sI σ 19 32 2) := by
        unfold f_X6_setPressure
        rw [it_if (by rw [e4]; omega), e4, if_pos ct, if_neg (by decide), inI _ _ 30 70 rfl rfl, if_neg c, if_pos rfl]
      rw [eL, eM]
      exact ok_throw h hN (by decide)
  · have e : f_X5_setPressure t v σ = (3, 0, σ) := by
      unfold f_X5_setPressure
      rw [ct_if, e5, if_neg ct, if_neg (by decide)]
    have eL : f_L_setPressure t v σ = (1, σ) := by unfold f_L_setPressure; rw [e]; rfl
    have eM : f_X6_setPressure t v σ = (-1, sI σ 19 32 1) := by
      unfold f_X6_setPressure
      rw [it_if (by rw [e4]; omega), e4, if_neg ct, if_pos rfl]
    rw [eL, eM]
    exact ok_throw h hN (by decide)
