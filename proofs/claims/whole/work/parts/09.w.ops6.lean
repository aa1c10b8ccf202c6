theorem IC.st {σ σ' : Sg} {S S' w O : Vw} {p hz : Nat} {M : Mt} {sh : Nat → Int32} (h : IC σ S w O p hz M sh) (hS : Sc σ' S') (hk : nK S ≤ nK S') (f : ∀ k j, k = 0 ∨ (10 ≤ k ∧ k < 19) ∨ (33 ≤ k ∧ k ≤ 38) → rI σ' k j = rI σ k j) (f2 : ∀ j, rL σ' 17 j = rL σ 17 j) : IC σ' S' w O p hz M sh := by
  obtain ⟨h1, h2, h3, h4, h5, h6, h7, h8, h9⟩ := h
  refine ⟨hS, ⟨fun j hj => ?_, fun j hj => ?_⟩, h3.of (fun k j hk => f k j (by omega)), ?_, ?_, ⟨?_, fun j => ?_⟩, ?_, fun j hj => ?_, fun j hj hk2 => ?_⟩
  · rw [f (sid 0 + 1) _ (by decide), f (sid 0 + 2) _ (by decide), f (sid 0 + 3) _ (by decide)]; exact h2.1 j hj
  · rw [f (sid 0 + 4) _ (by decide)]; exact h2.2 j hj
  · rw [f _ _ (by decide)]; exact h4
  · rw [f _ _ (by decide)]; exact h5
  · rw [f _ _ (by decide)]; exact h6.1
  · rw [f _ _ (by decide)]; exact h6.2 j
  · simp only [f2]; exact h7
  · rw [f _ _ (by decide)]; exact h8 j hj
  · rw [f _ _ (by decide)]; exact h9 j (by omega) hk2
theorem IM.st {σ σ' : Sg} {S S' w O : Vw} {p hz : Nat} {M : Mt} {sh : Nat → Int32} (h : IM σ S w O p hz M sh) (hS : Sm σ' S') (f : ∀ k j, k = 20 ∨ k = 26 ∨ k = 28 ∨ k = 29 ∨ (k = 19 ∧ (j = 12 ∨ j = 13 ∨ j = 16)) → rI σ' k j = rI σ k j) (f2 : ∀ j, rL σ' 19 j = rL σ 19 j) : IM σ' S' w O p hz M sh := by
  obtain ⟨⟨_, h2, h3⟩, h4, h5, h6, h7, h8⟩ := h
  refine ⟨⟨hS, ⟨?_, fun j hj => ?_⟩, ?_⟩, h4.of (fun j => f _ _ (by omega)), ?_, fun j => ?_, ?_, fun j hj => ?_⟩
  · rw [f _ _ (by decide)]; exact h2.1
  · rw [f _ _ (by omega), f _ _ (by omega)]; exact h2.2 j hj
  · rw [f _ _ (by decide)]; exact h3
  · rw [f _ _ (by decide)]; exact h5
  · rw [f _ _ (by omega)]; exact h6 j
  · simp only [f2]; exact h7
  · rw [f _ _ (by omega)]; exact h8 j hj
/-- the settings with one number changed -/
def up (S : Vw) (i j : Nat) (x : Int32) : Vw := fun a b => if a = i ∧ b = j then x else S a b
theorem up_eq (S : Vw) (i j : Nat) (x : Int32) : up S i j x i j = x := if_pos ⟨rfl, rfl⟩
theorem up_ne {S : Vw} {i j a b : Nat} {x : Int32} (h : a ≠ i ∨ b ≠ j) : up S i j x a b = S a b := if_neg (by omega)
theorem im_keep {N : Nat} {σ : Sg} (h : Inv N σ) (j : Nat) (x : Int32) : Inv N (sI (sI σ 19 32 x) 19 j (rI σ 19 j)) ∨ j = 32 := by
  by_cases q : j = 32
  · exact Or.inr q
  · refine Or.inl ?_
    have e2 : rI σ 19 j = rI (sI σ 19 32 x) 19 j := by rw [rI_ne (by omega)]
    have hi := inv_th h (Nat.le_refl N) x
    obtain ⟨S, w, O, p, hz, M, sh, hI, hC, hM⟩ := hi
    rw [e2]
    have es : ∀ i k, rI (sI (sI σ 19 32 x) 19 j (rI (sI σ 19 32 x) 19 j)) i k = rI (sI σ 19 32 x) i k := fun i k => by
      rw [rI_sI]
      split
      · rename_i q; rw [q.1, q.2]
      · rfl
    exact ⟨S, w, O, p, hz, M, sh, hI, hC.cc ⟨fun i j _ => es i j, fun _ => rfl⟩, hM.mc ⟨fun i j _ => es i j, fun _ => rfl⟩⟩
theorem Inv.up {N N' : Nat} {σ : Sg} (h : Inv N σ) (hN : N ≤ N') : Inv N' σ := by
  obtain ⟨S, w, O, p, hz, M, sh, hI, hC, hM⟩ := h
  exact ⟨S, w, O, p, hz, M, sh, hI.up hN, hC, hM⟩
theorem op_setSalinity {N : Nat} {σ : Sg} (h : Inv N σ) (hN : N ≤ 80000) (v : Int32) : OKw (N + 12) (f_L_setSalinity v σ) (f_X6_setSalinity v (f_L_setSalinity v σ).2) := by
  obtain ⟨S, w, O, p, hz, M, sh, hI, hC, hM⟩ := id h
  by_cases c : 20 ≤ v.toInt ∧ v.toInt ≤ 35
  · have e : f_X5_setSalinity v σ = (0, S 0 2, sI σ 1 7 v) := by
      unfold f_X5_setSalinity
      rw [crI _ _ 20 35 rfl rfl, if_pos c, if_pos rfl, hC.1.1.2.2.1]
    have eL : f_L_setSalinity v σ = (0, sL (sI σ 1 7 v) 31 (Int32.toNatClampNeg 0) (S 0 2).toInt64) := by unfold f_L_setSalinity; rw [e]; rfl
    have hM1 : IM (sI σ 1 7 v) S w O p hz M sh := hM.mc ⟨fun i j _ => rI_ne (by omega), fun _ => rfl⟩
    have eM : f_X6_setSalinity v (sL (sI σ 1 7 v) 31 (Int32.toNatClampNeg 0) (S 0 2).toInt64) = (S 0 2, sI (sI (sL (sI σ 1 7 v) 31 (Int32.toNatClampNeg 0) (S 0 2).toInt64) 19 32 0) 19 10 v) := by
      unfold f_X6_setSalinity
      rw [inI _ _ 20 35 rfl rfl, if_pos c, if_neg (by decide), rI_31, hM1.1.1.1.2.2.1]
    rw [eL, eM]
    have hM2 := im_th (im_31 hM1 (S 0 2).toInt64) 0
    refine ok_put (hM1.gm hI (by omega)) rfl (by rw [rI_ne (by omega), rI_eq]) (rL_eq _ _ _ _) ?_
    refine ⟨up S 0 2 v, w, O, p, hz, M, sh, ⟨⟨hI.1.1, hI.1.2.1, ⟨by show 20 ≤ (up S 0 2 v 0 2).toInt; rw [up_eq]; exact c.1, by show (up S 0 2 v 0 2).toInt ≤ 35; rw [up_eq]; exact c.2⟩, hI.1.2.2.2.1, hI.1.2.2.2.2⟩, hI.2.1, hI.2.2.1, by have := hI.2.2.2.1; omega, hI.2.2.2.2.1, hI.2.2.2.2.2⟩, ?_, ?_⟩
    · refine IC.cc (a := sI σ 1 7 v) (hC.st ?_ (Nat.le_refl _) (fun k j hk => rI_ne (by omega)) (fun _ => rfl)) ⟨fun i j hi => by rw [rI_ne (by omega), rI_ne (by omega), rI_31], fun j => rL_ne (by omega)⟩
      obtain ⟨q1, q2, q3, q4, q5⟩ := hC.1
      exact ⟨⟨by rw [rI_ne (by omega)]; exact q1.1, by rw [rI_ne (by omega)]; exact q1.2.1, (rI_eq _ _ _ _).trans (up_eq _ _ _ _).symm, by rw [rI_ne (by omega)]; exact q1.2.2.2⟩, fun j hj => by rw [rI_ne (by omega), rI_ne (by omega)]; exact q2 j hj, fun j hj => by rw [rI_ne (by omega)]; exact q3 j hj, fun t ht s hs => by rw [rI_ne (by omega)]; exact q4 t ht s hs, fun s hs => by rw [rI_ne (by omega)]; exact q5 s hs⟩
    · refine hM2.st ?_ (fun k j hk => rI_ne (by omega)) (fun _ => rfl)
      obtain ⟨q1, q2, q3, q4, q5⟩ := hM2.1.1
      exact ⟨⟨by rw [rI_ne (by omega)]; exact q1.1, by rw [rI_ne (by omega)]; exact q1.2.1, (rI_eq _ _ _ _).trans (up_eq _ _ _ _).symm, by rw [rI_ne (by omega)]; exact q1.2.2.2⟩, fun j hj => by rw [rI_ne (by omega), rI_ne (by omega)]; exact q2 j hj, fun j hj => by rw [rI_ne (by omega)]; exact q3 j hj, fun t ht => by rw [rI_ne (by omega)]; exact q4 t ht, fun s hs => by rw [rI_ne (by omega)]; exact q5 s hs⟩
  · have e : f_X5_setSalinity v σ = (1, 0, σ) := by
      unfold f_X5_setSalinity
      rw [crI _ _ 20 35 rfl rfl, if_neg c, if_neg (by decide)]
    have eL : f_L_setSalinity v σ = (1, σ) := by unfold f_L_setSalinity; rw [e]; rfl
    have eM : f_X6_setSalinity v σ = (-1, sI (sI σ 19 32 1) 19 10 (rI σ 19 10)) := by
      unfold f_X6_setSalinity
      rw [inI _ _ 20 35 rfl rfl, if_neg c, if_pos rfl]
    rw [eL, eM]
    refine ⟨⟨inv_gm h hN, by rw [rI_ne (by omega), rI_eq], fun q => absurd q (show ¬ (1 : Int32) = 0 by decide)⟩, ?_⟩
    rcases im_keep h 10 1 with q | q
    · exact q.up (by omega)
    · exact absurd q (by decide)
theorem op_setRecovery {N : Nat} {σ : Sg} (h : Inv N σ) (hN : N ≤ 80000) (v : Int32) : OKw (N + 12) (f_L_setRecovery v σ) (f_X6_setRecovery v (f_L_setRecovery v σ).2) := by
  obtain ⟨S, w, O, p, hz, M, sh, hI, hC, hM⟩ := id h
  by_cases c : 30 ≤ v.toInt ∧ v.toInt ≤ 60
  · have e : f_X5_setRecovery v σ = (0, S 0 3, sI σ 1 8 v) := by
      unfold f_X5_setRecovery
      rw [crI _ _ 30 60 rfl rfl, if_pos c, if_pos rfl, hC.1.1.2.2.2]
    have eL : f_L_setRecovery v σ = (0, sL (sI σ 1 8 v) 31 (Int32.toNatClampNeg 0) (S 0 3).toInt64) := by unfold f_L_setRecovery; rw [e]; rfl
    have hM1 : IM (sI σ 1 8 v) S w O p hz M sh := hM.mc ⟨fun i j _ => rI_ne (by omega), fun _ => rfl⟩
    have eM : f_X6_setRecovery v (sL (sI σ 1 8 v) 31 (Int32.toNatClampNeg 0) (S 0 3).toInt64) = (S 0 3, sI (sI (sL (sI σ 1 8 v) 31 (Int32.toNatClampNeg 0) (S 0 3).toInt64) 19 32 0) 19 11 v) := by
      unfold f_X6_setRecovery
      rw [inI _ _ 30 60 rfl rfl, if_pos c, if_neg (by decide), rI_31, hM1.1.1.1.2.2.2]
    rw [eL, eM]
    have hM2 := im_th (im_31 hM1 (S 0 3).toInt64) 0
    refine ok_put (hM1.gm hI (by omega)) rfl (by rw [rI_ne (by omega), rI_eq]) (rL_eq _ _ _ _) ?_
    refine ⟨up S 0 3 v, w, O, p, hz, M, sh, ⟨⟨hI.1.1, hI.1.2.1, hI.1.2.2.1, ⟨by show 30 ≤ (up S 0 3 v 0 3).toInt; rw [up_eq]; exact c.1, by show (up S 0 3 v 0 3).toInt ≤ 60; rw [up_eq]; exact c.2⟩, hI.1.2.2.2.2⟩, hI.2.1, hI.2.2.1, by have := hI.2.2.2.1; omega, hI.2.2.2.2.1, hI.2.2.2.2.2⟩, ?_, ?_⟩
    · refine IC.cc (a := sI σ 1 8 v) (hC.st ?_ (Nat.le_refl _) (fun k j hk => rI_ne (by omega)) (fun _ => rfl)) ⟨fun i j hi => by rw [rI_ne (by omega), rI_ne (by omega), rI_31], fun j => rL_ne (by omega)⟩
      obtain ⟨q1, q2, q3, q4, q5⟩ := hC.1
      exact ⟨⟨by rw [rI_ne (by omega)]; exact q1.1, by rw [rI_ne (by omega)]; exact q1.2.1, by rw [rI_ne (by omega)]; exact q1.2.2.1, (rI_eq _ _ _ _).trans (up_eq _ _ _ _).symm⟩, fun j hj => by rw [rI_ne (by omega), rI_ne (by omega)]; exact q2 j hj, fun j hj => by rw [rI_ne (by omega)]; exact q3 j hj, fun t ht s hs => by rw [rI_ne (by omega)]; exact q4 t ht s hs, fun s hs => by rw [rI_ne (by omega)]; exact q5 s hs⟩
    · refine hM2.st ?_ (fun k j hk => rI_ne (by omega)) (fun _ => rfl)
      obtain ⟨q1, q2, q3, q4, q5⟩ := hM2.1.1
      exact ⟨⟨by rw [rI_ne (by omega)]; exact q1.1, by rw [rI_ne (by omega)]; exact q1.2.1, by rw [rI_ne (by omega)]; exact q1.2.2.1, (rI_eq _ _ _ _).trans (up_eq _ _ _ _).symm⟩, fun j hj => by rw [rI_ne (by omega), rI_ne (by omega)]; exact q2 j hj, fun j hj => by rw [rI_ne (by omega)]; exact q3 j hj, fun t ht => by rw [rI_ne (by omega)]; exact q4 t ht, fun s hs => by rw [rI_ne (by omega)]; exact q5 s hs⟩
  · have e : f_X5_setRecovery v σ = (1, 0, σ) := by
      unfold f_X5_setRecovery
      rw [crI _ _ 30 60 rfl rfl, if_neg c, if_neg (by decide)]
    have eL : f_L_setRecovery v σ = (1, σ) := by unfold f_L_setRecovery; rw [e]; rfl
    have eM : f_X6_setRecovery v σ = (-1, sI (sI σ 19 32 1) 19 11 (rI σ 19 11)) := by
      unfold f_X6_setRecovery
      rw [inI _ _ 30 60 rfl rfl, if_neg c, if_pos rfl]
    rw [eL, eM]
    refine ⟨⟨inv_gm h hN, by rw [rI_ne (by omega), rI_eq], fun q => absurd q (show ¬ (1 : Int32) = 0 by decide)⟩, ?_⟩
    rcases im_keep h 11 1 with q | q
    · exact q.up (by omega)
    · exact absurd q (by decide)
