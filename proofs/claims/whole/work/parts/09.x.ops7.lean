/-- spilled by balance is spilled -/
theorem sb_loop {σ : Sg} {S w : Vw} (hB : BS S) (hS : Sc σ S) (hR : Rc 0 σ w) : ∀ (n k : Nat), k + n = 4 → k ≤ nK S → f_X5_spilledByBalance_l4 n (kI k) (Int64.ofInt (pz (fun j => (w 3 j).toInt) k)) σ = rL σ 17 2 - rL σ 17 6 - rL σ 17 8 - Int64.ofInt (pz (fun j => (w 3 j).toInt) (nK S))
  | 0, k, h0, h1 => absurd h0 (by have := (nK_i hB).2; omega)
  | n + 1, k, h0, h1 => by
    have hT := nK_i hB
    rw [f_X5_spilledByBalance_l4, hS.1.2.1]
    by_cases c : nK S ≤ k
    · rw [if_pos ((k_le hT.1 (by omega)).mpr c)]
      have e1 : k = nK S := by omega
      rw [e1]
    · rw [if_neg (fun x => c ((k_le hT.1 (by omega)).mp x)), kI_nat (by omega), kI_succ, hR.2 k (by omega), t64, ← Int64.ofInt_add]
      exact sb_loop hB hS hR n (k + 1) (by omega) (by omega)
theorem sbb_c {σ : Sg} {S w O : Vw} {p hz N : Nat} {M : Mt} {sh : Nat → Int32} (h : IC σ S w O p hz M sh) (hI : IB S w O p hz M N) : f_X5_spilledByBalance σ = M 2 := by
  have e := sb_loop hI.1 h.1 h.2.1 4 0 rfl (Nat.zero_le _)
  obtain ⟨m1, m2, m3, m4, m5, m6, m7, m8⟩ := h.2.2.2.2.2.2.1
  refine Eq.trans e ?_
  rw [m2, m6, m8, hI.2.2.2.2.2]
  generalize Int64.ofInt (pz (fun j => (w 3 j).toInt) (nK S)) = a
  have r : M 4 + M 6 + a + M 2 = M 2 + a + M 6 + M 4 := by ac_rfl
  rw [r, Int64.add_sub_cancel, Int64.add_sub_cancel, Int64.add_sub_cancel]
theorem op_halfHour {N : Nat} {σ : Sg} (h : Inv N σ) (hN : N ≤ 80000) : (GM 99000 σ ∧ f_X5_halfHour σ = (f_X6_halfHour σ).1) ∧ Inv (N + 12) (f_X6_halfHour σ).2 := by
  obtain ⟨S, w, O, p, hz, M, sh, hI, hC, hM⟩ := id h
  exact ⟨⟨inv_gm h hN, hC.2.2.2.1.trans hM.1.2.2.symm⟩, inv_th h (by omega) 0⟩
theorem op_feed {N : Nat} {σ : Sg} (h : Inv N σ) (hN : N ≤ 80000) : (GM 99000 σ ∧ f_X5_feed σ = (f_X6_feed σ).1) ∧ Inv (N + 12) (f_X6_feed σ).2 := by
  obtain ⟨S, w, O, p, hz, M, sh, hI, hC, hM⟩ := id h
  exact ⟨⟨inv_gm h hN, hC.2.2.2.2.2.2.1.1.trans hM.2.2.2.2.1.1.symm⟩, inv_th h (by omega) 0⟩
theorem op_product {N : Nat} {σ : Sg} (h : Inv N σ) (hN : N ≤ 80000) : (GM 99000 σ ∧ f_X5_product σ = (f_X6_product σ).1) ∧ Inv (N + 12) (f_X6_product σ).2 := by
  obtain ⟨S, w, O, p, hz, M, sh, hI, hC, hM⟩ := id h
  exact ⟨⟨inv_gm h hN, hC.2.2.2.2.2.2.1.2.1.trans hM.2.2.2.2.1.2.1.symm⟩, inv_th h (by omega) 0⟩
theorem op_brine {N : Nat} {σ : Sg} (h : Inv N σ) (hN : N ≤ 80000) : (GM 99000 σ ∧ f_X5_brine σ = (f_X6_brine σ).1) ∧ Inv (N + 12) (f_X6_brine σ).2 := by
  obtain ⟨S, w, O, p, hz, M, sh, hI, hC, hM⟩ := id h
  refine ⟨⟨inv_gm h hN, hC.2.2.2.2.2.2.1.2.2.1.trans ?_⟩, inv_th h (by omega) 0⟩
  show _ = rL σ 19 23 - rL σ 19 24
  rw [hM.2.2.2.2.1.1, hM.2.2.2.2.1.2.1]
theorem op_spilled {N : Nat} {σ : Sg} (h : Inv N σ) (hN : N ≤ 80000) : (GM 99000 σ ∧ f_X5_spilled σ = (f_X6_spilled σ).1) ∧ Inv (N + 12) (f_X6_spilled σ).2 := by
  obtain ⟨S, w, O, p, hz, M, sh, hI, hC, hM⟩ := id h
  exact ⟨⟨inv_gm h hN, hC.2.2.2.2.2.2.1.2.2.2.1.trans hM.2.2.2.2.1.2.2.1.symm⟩, inv_th h (by omega) 0⟩
theorem op_spilledByBalance {N : Nat} {σ : Sg} (h : Inv N σ) (hN : N ≤ 80000) : (GM 99000 σ ∧ f_X5_spilledByBalance σ = (f_X6_spilledByBalance σ).1) ∧ Inv (N + 12) (f_X6_spilledByBalance σ).2 := by
  obtain ⟨S, w, O, p, hz, M, sh, hI, hC, hM⟩ := id h
  exact ⟨⟨inv_gm h hN, (sbb_c hC hI).trans hM.2.2.2.2.1.2.2.1.symm⟩, inv_th h (by omega) 0⟩
theorem op_cost {N : Nat} {σ : Sg} (h : Inv N σ) (hN : N ≤ 80000) : (GM 99000 σ ∧ f_X5_cost σ = (f_X6_cost σ).1) ∧ Inv (N + 12) (f_X6_cost σ).2 := by
  obtain ⟨S, w, O, p, hz, M, sh, hI, hC, hM⟩ := id h
  exact ⟨⟨inv_gm h hN, hC.2.2.2.2.2.2.1.2.2.2.2.1.trans hM.2.2.2.2.1.2.2.2.1.symm⟩, inv_th h (by omega) 0⟩
theorem op_isBalanced {N : Nat} {σ : Sg} (h : Inv N σ) (hN : N ≤ 80000) : (GM 99000 σ ∧ f_X5_isBalanced σ = (f_X6_isBalanced σ).1) ∧ Inv (N + 12) (f_X6_isBalanced σ).2 := by
  obtain ⟨S, w, O, p, hz, M, sh, hI, hC, hM⟩ := id h
  refine ⟨⟨inv_gm h hN, ?_⟩, inv_th h (by omega) 0⟩
  obtain ⟨m1, m2, m3, m4, m5, m6, m7, m8⟩ := hC.2.2.2.2.2.2.1
  show f_X5_isBalanced σ = 1
  unfold f_X5_isBalanced
  rw [sbb_c hC hI, m1, m2, m3, m4]
  have r : M 1 + (M 0 - M 1) = M 0 := by rw [Int64.add_comm, Int64.sub_add_cancel]
  rw [r, if_pos (lc_eq rfl), if_pos (lc_eq rfl)]
theorem op_pass {N : Nat} {σ : Sg} (h : Inv N σ) (hN : N ≤ 80000) (on : Int32) : (GM 99000 (f_X5_pass on σ).2 ∧ (f_X5_pass on σ).1 = (f_X6_pass on (f_X5_pass on σ).2).1) ∧ Inv (N + 12) (f_X6_pass on (f_X5_pass on σ).2).2 := by
  obtain ⟨S, w, O, p, hz, M, sh, hI, hC, hM⟩ := id h
  have hp : p < 90000 := by have := hI.2.2.2.1; omega
  have a := pp_c (on := on) hC hI hp
  have e1 : f_X5_pass on σ = (hP S w on, f_X5_passPresent on σ) := by unfold f_X5_pass; rw [show sid 0 = 33 from rfl, a.2.2]
  rw [e1]
  dsimp only
  generalize f_X5_passPresent on σ = τ at a ⊢
  have hM0 := hM.mc a.2.1
  have hM1 := im_th hM0 0
  have b := ps_m (on := on) hM1 hI hp
  have e2 : f_X6_pass on τ = (hP S w on, f_X6_passes on (sI τ 19 32 0)) := by unfold f_X6_pass; rw [b.2.2.1]
  rw [e2]
  dsimp only
  generalize f_X6_passes on (sI τ 19 32 0) = τ2 at b ⊢
  exact ⟨⟨hM0.gm hI (by omega), rfl⟩, S, nx S w on (p % 48), fg O (kI p), p + 1, hz, nM S w on (p % 48) M, nS S w on (p % 48) sh, (ib_pass hI).up (by omega), (a.1.cc (cc_th _ 0)).cc b.2.1, b.1⟩
