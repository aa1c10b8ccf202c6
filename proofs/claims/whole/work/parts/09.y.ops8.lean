theorem rt_c {σ : Sg} {S w : Vw} (hB : BS S) (hS : Sc σ S) (hR : Rc 0 σ w) : ∀ (n k : Nat) (x : Int32) (τ : Sg), k + n = 5 → k ≤ nT S → Sm τ S → Rm τ w → (f_X6_readyTrains_l9 n (kI k) x τ) = (f_X5_readyTrains_l4 n (kI k) x σ, τ)
  | 0, k, x, τ, h0, h1, _, _ => absurd h0 (by have := (nT_i hB).2; omega)
  | n + 1, k, x, τ, h0, h1, hSm, hRm => by
    have hT := nT_i hB
    rw [f_X6_readyTrains_l9, f_X5_readyTrains_l4, hS.1.1, hSm.1.1]
    by_cases c : nT S ≤ k
    · rw [if_pos ((k_le hT.1 (by omega)).mpr c), if_pos ((k_le hT.1 (by omega)).mpr c)]
    · rw [if_neg (fun x => c ((k_le hT.1 (by omega)).mp x)), if_neg (fun x => c ((k_le hT.1 (by omega)).mp x)), kI_nat (by omega), kI_succ]
      have e1 : rI σ (sid 0 + 3) k = w 2 k := (hR.1 k (by omega)).2.2
      have e2 : f_X6_of (kI k) 2 τ = w 2 k := by
        unfold f_X6_of
        rw [ix2 (by omega), (hRm.1 k (by omega)).2.2]
      rw [e1, e2]
      by_cases z : w 2 k = 0
      · rw [if_pos z, if_pos z]
        exact rt_c hB hS hR n (k + 1) _ τ (by omega) (by omega) hSm hRm
      · rw [if_neg z, if_neg z, Int32.add_zero]
        exact rt_c hB hS hR n (k + 1) _ τ (by omega) (by omega) hSm hRm
theorem op_readyTrains {N : Nat} {σ : Sg} (h : Inv N σ) (hN : N ≤ 80000) : (GM 99000 σ ∧ f_X5_readyTrains σ = (f_X6_readyTrains σ).1) ∧ Inv (N + 12) (f_X6_readyTrains σ).2 := by
  obtain ⟨S, w, O, p, hz, M, sh, hI, hC, hM⟩ := id h
  have hM1 := im_th hM 0
  have e : f_X6_readyTrains σ = (f_X5_readyTrains σ, sI σ 19 32 0) := rt_c hI.1 hC.1 hC.2.1 5 0 0 (sI σ 19 32 0) rfl (Nat.zero_le _) hM1.1.1 hM1.2.1
  rw [e]
  exact ⟨⟨inv_gm h hN, rfl⟩, inv_th h (by omega) 0⟩
