theorem op_isOnInBest {N : Nat} {σ : Sg} (h : Inv N σ) (hN : N ≤ 80000) (n i : Int32) : (GM 99000 (f_L_isOnInBest n i σ).2 ∧ rI (f_X6_isOnInBest n i (f_L_isOnInBest n i σ).2).2 19 32 = (f_L_isOnInBest n i σ).1 ∧ ((f_L_isOnInBest n i σ).1 = 0 → rL (f_X6_isOnInBest n i (f_L_isOnInBest n i σ).2).2 31 (Int32.toNatClampNeg 0) = (if (f_X6_isOnInBest n i (f_L_isOnInBest n i σ).2).1 = 0 then 0 else 1))) ∧ Inv (N + 12) (f_X6_isOnInBest n i (f_L_isOnInBest n i σ).2).2 := by
  obtain ⟨S, w, O, p, hz, M, sh, hI, hC, hM⟩ := id h
  have h0 : (0 : Int32).toInt = 0 := rfl
  by_cases c : 1 ≤ n.toInt ∧ n.toInt ≤ 6
  · obtain ⟨k, rfl, hk, hk1⟩ : ∃ k, n = kI k ∧ k ≤ 6 ∧ 1 ≤ k := ⟨n.toInt.toNat, kI_of (by omega), by omega, by omega⟩
    have hki := kI_int (k := k) (by omega)
    have hp : p < 90000 := by have := hI.2.2.2.1; omega
    have e64 : ((kI k - 1 : Int32).toInt64).toInt = k - 1 := by rw [i_l, i_pred' (by omega), hki]
    by_cases c2 : 0 ≤ i.toInt ∧ i.toInt < k
    · obtain ⟨x, rfl, hx⟩ : ∃ x, i = kI x ∧ x < k := ⟨i.toInt.toNat, kI_of (by omega), by omega⟩
      have hxi := kI_int (k := x) (by omega)
      have b := fb_i (n := k) hC hI hp hk
      have hM1 := hM.mc b.2.1
      have et := tb_c (σ := f_X2_findBest (kI p) (kI k) σ) (len := k) (k := x) (s := (bs S w O p k).2) b.2.2.2.2.1 hx hk (bs_B hk)
      have eF : f_X5_isOnInBest (kI k) (kI x) σ = if bn S w O p k = 0 then (5, 0, f_X2_findBest (kI p) (kI k) σ) else (0, kI ((bs S w O p k).2 / 2 ^ (k - 1 - x) % 2), f_X2_findBest (kI p) (kI k) σ) := by
        unfold f_X5_isOnInBest
        rw [crI _ _ 1 6 rfl rfl, if_pos c, if_pos rfl, hC.2.2.2.1, ck_al hI.1 hI.2.1 hk b.2.2.1, b.2.2.2.1, et, if_neg (by rw [i_lt]; omega), if_pos (by rw [i_lt]; omega)]
        by_cases z : bn S w O p k = 0
        · rw [if_pos z, if_pos z, if_neg (by decide)]
        · rw [if_neg z, if_neg z, if_pos rfl]
          rcases bit_01 (bs S w O p k).2 (k - 1 - x) with q | q
          · rw [q, if_neg (by decide)]
          · rw [q, if_pos rfl]
      have eR : ∀ τ, f_X6_isOnInBest (kI k) (kI x) τ = (if rI (f_X6_looks (kI k) (sI τ 19 32 0)) 19 31 = 0 then (0, sI (f_X6_looks (kI k) (sI τ 19 32 0)) 19 32 3) else if ((rI (f_X6_looks (kI k) (sI τ 19 32 0)) 19 29 >>> (((kI k - 1) - kI x) &&& 31)) &&& 1) = 1 then (1, sI (f_X6_looks (kI k) (sI τ 19 32 0)) 19 32 0) else (0, sI (f_X6_looks (kI k) (sI τ 19 32 0)) 19 32 0)) := fun τ => by
        unfold f_X6_isOnInBest
        rw [inI _ _ 1 6 rfl rfl, if_pos c, if_neg (by decide), inI _ _ 0 ((k : Int) - 1) rfl e64, if_pos (show 0 ≤ (kI x).toInt ∧ (kI x).toInt ≤ (k : Int) - 1 by omega), if_neg (show ¬ (1 : Int32) = 0 by decide)]
      by_cases z : bn S w O p k = 0
      · rw [if_pos z] at eF
        have eL : f_L_isOnInBest (kI k) (kI x) σ = (3, f_X2_findBest (kI p) (kI k) σ) := by unfold f_L_isOnInBest; rw [eF]; rfl
        have g := lk_i (n := k) (im_th hM1 0) hI hp hk
        rw [eL, eR, g.2.2.1, if_pos ((kI_0 (by omega)).mpr z)]
        exact ⟨⟨hM1.gm hI (by omega), rI_eq _ _ _ _, fun q => absurd q (show ¬ (3 : Int32) = 0 by decide)⟩, S, w, O, p, hz, M, sh, hI.up (by omega), ((b.1.cc (cc_th _ 0)).cc g.2.1).cc (cc_th _ 3), im_th g.1 3⟩
      · rw [if_neg z] at eF
        have eL : f_L_isOnInBest (kI k) (kI x) σ = (0, sL (f_X2_findBest (kI p) (kI k) σ) 31 (Int32.toNatClampNeg 0) (if kI ((bs S w O p k).2 / 2 ^ (k - 1 - x) % 2) = 0 then 0 else 1)) := by unfold f_L_isOnInBest; rw [eF]; rfl
        have g := lk_i (n := k) (im_th (im_31 hM1 (if kI ((bs S w O p k).2 / 2 ^ (k - 1 - x) % 2) = 0 then 0 else 1)) 0) hI hp hk
        have eM : f_X6_isOnInBest (kI k) (kI x) (sL (f_X2_findBest (kI p) (kI k) σ) 31 (Int32.toNatClampNeg 0) (if kI ((bs S w O p k).2 / 2 ^ (k - 1 - x) % 2) = 0 then 0 else 1)) = (kI ((bs S w O p k).2 / 2 ^ (k - 1 - x) % 2), sI (f_X6_looks (kI k) (sI (sL (f_X2_findBest (kI p) (kI k) σ) 31 (Int32.toNatClampNeg 0) (if kI ((bs S w O p k).2 / 2 ^ (k - 1 - x) % 2) = 0 then 0 else 1)) 19 32 0)) 19 32 0) := by
          rw [eR, g.2.2.1, if_neg (fun q => z ((kI_0 (by have := bn_64 (S := S) (w := w) (O := O) (p := p) hk; omega)).mp q)), (g.2.2.2.1 z).2, bitm hx hk (bs_B hk)]
          rcases bit_01 (bs S w O p k).2 (k - 1 - x) with q | q
          · rw [q, if_neg (by decide)]
          · rw [q, if_pos rfl]
        rw [eL, eM]
        exact ⟨⟨hM1.gm hI (by omega), rI_eq _ _ _ _, fun _ => (g.2.2.2.2.2 _).trans (rL_eq _ _ _ _)⟩, S, w, O, p, hz, M, sh, hI.up (by omega), (((ic_31 b.1 _).cc (cc_th _ 0)).cc g.2.1).cc (cc_th _ 0), im_th g.1 0⟩
    · have e : f_X5_isOnInBest (kI k) i σ = (3, 0, σ) := by
        unfold f_X5_isOnInBest
        rw [crI _ _ 1 6 rfl rfl, if_pos c, if_pos rfl]
        by_cases q : i < 0
        · rw [if_pos q]
        · rw [if_neg q, if_neg (by rw [i_lt] at q ⊢; omega)]
      have eL : f_L_isOnInBest (kI k) i σ = (2, σ) := by unfold f_L_isOnInBest; rw [e]; rfl
      have eM : f_X6_isOnInBest (kI k) i σ = (0, sI σ 19 32 2) := by
        unfold f_X6_isOnInBest
        rw [inI _ _ 1 6 rfl rfl, if_pos c, if_neg (by decide), inI _ _ 0 ((k : Int) - 1) rfl e64, if_neg (show ¬ (0 ≤ i.toInt ∧ i.toInt ≤ (k : Int) - 1) by omega), if_pos rfl]
      rw [eL, eM]
      exact ⟨⟨inv_gm h hN, rI_eq _ _ _ _, fun q => absurd q (show ¬ (2 : Int32) = 0 by decide)⟩, inv_th h (by omega) 2⟩
  · have e : f_X5_isOnInBest n i σ = (1, 0, σ) := by
      unfold f_X5_isOnInBest
      rw [crI _ _ 1 6 rfl rfl, if_neg c, if_neg (by decide)]
    have eL : f_L_isOnInBest n i σ = (1, σ) := by unfold f_L_isOnInBest; rw [e]; rfl
    have eM : f_X6_isOnInBest n i σ = (0, sI σ 19 32 1) := by
      unfold f_X6_isOnInBest
      rw [inI _ _ 1 6 rfl rfl, if_neg c, if_pos rfl]
    rw [eL, eM]
    exact ⟨⟨inv_gm h hN, rI_eq _ _ _ _, fun q => absurd q (show ¬ (1 : Int32) = 0 by decide)⟩, inv_th h (by omega) 1⟩
