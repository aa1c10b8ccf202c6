/-- both answer, the world changes: what is asked -/
theorem ok_put {N : Nat} {σ1 σ2 : Sg} {v u : Int32} (h1 : GM 99000 σ1) (hv : v = u) (hth : rI σ2 19 32 = 0) (h31 : rL σ2 31 (Int32.toNatClampNeg 0) = v.toInt64) (h2 : Inv N σ2) : OKw N (0, sL σ1 31 (Int32.toNatClampNeg 0) v.toInt64) (u, σ2) := by
  subst hv
  exact ⟨⟨h1, hth, fun _ => h31⟩, h2⟩
theorem ic_31 {σ : Sg} {S w O : Vw} {p hz : Nat} {M : Mt} {sh : Nat → Int32} (h : IC σ S w O p hz M sh) (x : Int64) : IC (sL σ 31 (Int32.toNatClampNeg 0) x) S w O p hz M sh := h.cc ⟨fun _ _ _ => rfl, fun j => rL_ne (by omega)⟩
theorem im_31 {σ : Sg} {S w O : Vw} {p hz : Nat} {M : Mt} {sh : Nat → Int32} (h : IM σ S w O p hz M sh) (x : Int64) : IM (sL σ 31 (Int32.toNatClampNeg 0) x) S w O p hz M sh := h.mc ⟨fun _ _ _ => rfl, fun j => rL_ne (by omega)⟩
theorem im_th {σ : Sg} {S w O : Vw} {p hz : Nat} {M : Mt} {sh : Nat → Int32} (h : IM σ S w O p hz M sh) (x : Int32) : IM (sI σ 19 32 x) S w O p hz M sh := h.mt (fun k j _ hn => rI_ne (by omega)) (fun _ => rfl)
theorem cc_th (σ : Sg) (x : Int32) : Cc σ (sI σ 19 32 x) := ⟨fun k j hk => rI_ne (by omega), fun _ => rfl⟩
theorem op_run {N : Nat} {σ : Sg} (h : Inv N σ) (hN : N ≤ 80000) (n : Int32) : OKw (N + 12) (f_L_run n σ) (f_X6_run n (f_L_run n σ).2) := by
  obtain ⟨S, w, O, p, hz, M, sh, hI, hC, hM⟩ := id h
  by_cases c : 1 ≤ n.toInt ∧ n.toInt ≤ 12
  · obtain ⟨k, rfl, hk⟩ : ∃ k, n = kI k ∧ k ≤ 12 := ⟨n.toInt.toNat, kI_of (by omega), by omega⟩
    obtain ⟨σ1, g1, g2, g3⟩ := rc_loop (S := S) (hz := hz) hk k 0 13 N 0 σ (w, O, p, M, sh) (by omega) (by omega) hC hI (by omega)
    have e : f_X5_run (kI k) σ = (0, ct S hz k (w, O, p, M, sh) 0, σ1) := by
      unfold f_X5_run
      rw [crI _ _ 1 12 rfl rfl, if_pos c, if_pos rfl]
      exact g1
    have eL : f_L_run (kI k) σ = (0, sL σ1 31 (Int32.toNatClampNeg 0) (ct S hz k (w, O, p, M, sh) 0).toInt64) := by unfold f_L_run; rw [e]; rfl
    have hM1 := hM.mc g3
    have hM2 := im_th (im_31 hM1 (ct S hz k (w, O, p, M, sh) 0).toInt64) 0
    obtain ⟨σ2, k1, k2, k3, k4, k5⟩ := rm_loop (S := S) (hz := hz) hk k 0 13 N 0 _ (w, O, p, M, sh) (by omega) (by omega) hM2 hI (by omega)
    have eM : f_X6_run (kI k) (sL σ1 31 (Int32.toNatClampNeg 0) (ct S hz k (w, O, p, M, sh) 0).toInt64) = (ct S hz k (w, O, p, M, sh) 0, σ2) := by
      unfold f_X6_run
      rw [inI _ _ 1 12 rfl rfl, if_pos c, if_neg (by decide)]
      exact k1
    rw [eL, eM]
    refine ok_put (hM1.gm hI (by omega)) rfl (k4.trans (rI_eq _ _ _ _)) ((k5 _).trans (rL_eq _ _ _ _)) ?_
    have hb := ib_it k N (w, O, p, M, sh) hI
    exact ⟨S, _, _, _, hz, _, _, hb.up (by omega), ((ic_31 g2 _).cc (cc_th _ 0)).cc k3, k2⟩
  · have e : f_X5_run n σ = (1, 0, σ) := by
      unfold f_X5_run
      rw [crI _ _ 1 12 rfl rfl, if_neg c, if_neg (by decide)]
    have eL : f_L_run n σ = (1, σ) := by unfold f_L_run; rw [e]; rfl
    have eM : f_X6_run n σ = (-1, sI σ 19 32 1) := by
      unfold f_X6_run
      rw [inI _ _ 1 12 rfl rfl, if_neg c, if_pos rfl]
    rw [eL, eM]
    exact ok_throw h hN (by decide)
theorem ck_al {a : Int32} {σ : Sg} {S w O : Vw} {p n : Nat} (hB : BS S) (hw : BR S w) (hn : n ≤ 6) (ha : a = (bs S w O p n).1) : f_X5_checkAllowed a σ = if bn S w O p n = 0 then 5 else 0 := by
  unfold f_X5_checkAllowed
  have h := bs_iff (O := O) (p := p) hB hw hn
  rw [i_le] at h
  rw [ha]
  by_cases c : bn S w O p n = 0
  · rw [if_pos c, if_neg (by rw [i_lt]; have := h.mpr c; omega)]
  · rw [if_neg c, if_pos (by
      rw [i_lt]
      have : ¬ (1000000000 : Int32).toInt ≤ (bs S w O p n).1.toInt := fun q => c (h.mp q)
      omega)]
theorem kI_0 {k : Nat} (h : k < 1000) : kI k = 0 ↔ k = 0 := kI_inj (b := 0) h (by decide)
theorem bn_64 {S w O : Vw} {p n : Nat} (hn : n ≤ 6) : bn S w O p n < 100 := by
  have h6 : (2 : Nat) ^ n ≤ 2 ^ 6 := Nat.pow_le_pow_right (by decide) hn
  have hle : bn S w O p n ≤ 2 ^ n := cn_le _ _
  omega
theorem op_bestCost {N : Nat} {σ : Sg} (h : Inv N σ) (hN : N ≤ 80000) (n : Int32) : OKw (N + 12) (f_L_bestCost n σ) (f_X6_bestCost n (f_L_bestCost n σ).2) := by
  obtain ⟨S, w, O, p, hz, M, sh, hI, hC, hM⟩ := id h
  by_cases c : 1 ≤ n.toInt ∧ n.toInt ≤ 6
  · obtain ⟨k, rfl, hk⟩ : ∃ k, n = kI k ∧ k ≤ 6 := ⟨n.toInt.toNat, kI_of (by omega), by omega⟩
    have hp : p < 90000 := by have := hI.2.2.2.1; omega
    have b := fb_i (n := k) hC hI hp hk
    have hM1 := hM.mc b.2.1
    have eF : f_X5_bestCost (kI k) σ = if bn S w O p k = 0 then (5, 0, f_X2_findBest (kI p) (kI k) σ) else (0, (bs S w O p k).1, f_X2_findBest (kI p) (kI k) σ) := by
      unfold f_X5_bestCost
      rw [crI _ _ 1 6 rfl rfl, if_pos c, if_pos rfl, hC.2.2.2.1, ck_al hI.1 hI.2.1 hk b.2.2.1, b.2.2.1]
      by_cases z : bn S w O p k = 0
      · rw [if_pos z, if_pos z, if_neg (by decide)]
      · rw [if_neg z, if_neg z, if_pos rfl]
    by_cases z : bn S w O p k = 0
    · rw [if_pos z] at eF
      have eL : f_L_bestCost (kI k) σ = (2, f_X2_findBest (kI p) (kI k) σ) := by unfold f_L_bestCost; rw [eF]; rfl
      have g := lk_i (n := k) (im_th hM1 0) hI hp hk
      have eM : f_X6_bestCost (kI k) (f_X2_findBest (kI p) (kI k) σ) = (-1, sI (f_X6_looks (kI k) (sI (f_X2_findBest (kI p) (kI k) σ) 19 32 0)) 19 32 2) := by
        unfold f_X6_bestCost
        rw [inI _ _ 1 6 rfl rfl, if_pos c, if_neg (by decide), g.2.2.1, if_pos ((kI_0 (by omega)).mpr z)]
      rw [eL, eM]
      exact ⟨⟨hM1.gm hI (by omega), rI_eq _ _ _ _, fun q => absurd q (show ¬ (2 : Int32) = 0 by decide)⟩, S, w, O, p, hz, M, sh, hI.up (by omega), ((b.1.cc (cc_th _ 0)).cc g.2.1).cc (cc_th _ 2), im_th g.1 2⟩
    · rw [if_neg z] at eF
      have eL : f_L_bestCost (kI k) σ = (0, sL (f_X2_findBest (kI p) (kI k) σ) 31 (Int32.toNatClampNeg 0) (bs S w O p k).1.toInt64) := by unfold f_L_bestCost; rw [eF]; rfl
      have g := lk_i (n := k) (im_th (im_31 hM1 (bs S w O p k).1.toInt64) 0) hI hp hk
      have eM : f_X6_bestCost (kI k) (sL (f_X2_findBest (kI p) (kI k) σ) 31 (Int32.toNatClampNeg 0) (bs S w O p k).1.toInt64) = ((bs S w O p k).1, sI (f_X6_looks (kI k) (sI (sL (f_X2_findBest (kI p) (kI k) σ) 31 (Int32.toNatClampNeg 0) (bs S w O p k).1.toInt64) 19 32 0)) 19 32 0) := by
        unfold f_X6_bestCost
        rw [inI _ _ 1 6 rfl rfl, if_pos c, if_neg (by decide), g.2.2.1, if_neg (fun q => z ((kI_0 (by have := bn_64 (S := S) (w := w) (O := O) (p := p) hk; omega)).mp q)), (g.2.2.2.1 z).1]
      rw [eL, eM]
      refine ok_put (hM1.gm hI (by omega)) rfl (rI_eq _ _ _ _) ((g.2.2.2.2.2 _).trans (rL_eq _ _ _ _)) ?_
      exact ⟨S, w, O, p, hz, M, sh, hI.up (by omega), (((ic_31 b.1 _).cc (cc_th _ 0)).cc g.2.1).cc (cc_th _ 0), im_th g.1 0⟩
  · have e : f_X5_bestCost n σ = (1, 0, σ) := by
      unfold f_X5_bestCost
      rw [crI _ _ 1 6 rfl rfl, if_neg c, if_neg (by decide)]
    have eL : f_L_bestCost n σ = (1, σ) := by unfold f_L_bestCost; rw [e]; rfl
    have eM : f_X6_bestCost n σ = (-1, sI σ 19 32 1) := by
      unfold f_X6_bestCost
      rw [inI _ _ 1 6 rfl rfl, if_neg c, if_pos rfl]
    rw [eL, eM]
    exact ok_throw h hN (by decide)
