theorem pz_sub0 {f g : Nat → Int} {a : Int} (h0 : f 0 = g 0 - a) (h : ∀ j, 0 < j → f j = g j) : ∀ n, pz f (n + 1) = pz g (n + 1) - a
  | 0 => by rw [pz, pz, pz, pz, h0]; omega
  | n + 1 => by
    have e := pz_sub0 h0 h n
    have e1 : pz f (n + 1 + 1) = pz f (n + 1) + f (n + 1) := rfl
    have e2 : pz g (n + 1 + 1) = pz g (n + 1) + g (n + 1) := rfl
    have e3 := h (n + 1) (by omega)
    omega
theorem cl_64 {a b c d x : Int64} : a + (b + x) + (c - x) + d = a + b + c + d := by
  have h1 : c = (c - x) + x := (Int64.sub_add_cancel c x).symm
  generalize c - x = q at h1 ⊢
  rw [h1]
  ac_rfl
theorem ofI {k j : Nat} {τ : Sg} (hk : k < 4) (hj : j < 3) : f_X6_of (kI k) (kI j) τ = rI τ 20 (3 * k + j) := by
  unfold f_X6_of
  rw [kI_3, kI_nat (by omega)]
/-- the row behind a cleaning begun -/
def cw (S w : Vw) (k : Nat) : Vw := up (up w 3 0 (w 3 0 - S 1 k)) 2 k (2 + w 0 k / 20)
theorem cw_b {S w : Vw} {k : Nat} (hB : BS S) (hw : BR S w) (hk : 0 < nK S) (hl : (S 1 k).toInt ≤ (w 3 0).toInt) : BR S (cw S w k) ∧ ∀ n, pz (fun j => (cw S w k 3 j).toInt) (n + 1) = pz (fun j => (w 3 j).toInt) (n + 1) - (S 1 k).toInt := by
  have hT := nK_i hB
  have ha := (hB.2.2.2.2 k).1
  have hc := (hB.2.2.2.2 0).2.2.1
  have h0 := (hw 0).2.2.2.1
  unfold bd at ha hc
  have es : (w 3 0 - S 1 k).toInt = (w 3 0).toInt - (S 1 k).toInt := j_sub (by omega) (by omega)
  have e30 : cw S w k 3 0 = w 3 0 - S 1 k := by unfold cw; rw [up_ne (by omega), up_eq]
  have e3n : ∀ j, 0 < j → cw S w k 3 j = w 3 j := fun j hj => by unfold cw; rw [up_ne (by omega), up_ne (by omega)]
  refine ⟨fun j => ⟨?_, ?_, ?_, ?_, ?_⟩, pz_sub0 (by show (cw S w k 3 0).toInt = (w 3 0).toInt - _; rw [e30, es]) (fun j hj => by show (cw S w k 3 j).toInt = (w 3 j).toInt; rw [e3n j hj])⟩
  · show bd 0 90 (up (up w 3 0 (w 3 0 - S 1 k)) 2 k (2 + w 0 k / 20) 0 j)
    rw [up_ne (by omega), up_ne (by omega)]; exact (hw j).1
  · show bd 0 20 (up (up w 3 0 (w 3 0 - S 1 k)) 2 k (2 + w 0 k / 20) 1 j)
    rw [up_ne (by omega), up_ne (by omega)]; exact (hw j).2.1
  · show bd 0 6 (up (up w 3 0 (w 3 0 - S 1 k)) 2 k (2 + w 0 k / 20) 2 j)
    by_cases q : j = k
    · rw [q, up_eq]
      have d := bd_div (y := 20) (hw k).1 (d := 20) ⟨by decide, by decide⟩
      exact ((bd_add (x := 2) (bd_k 2 rfl (by decide) (by decide) : bd 2 2 _) d (by decide) (by decide)).1).mono (by decide) (by decide)
    · rw [up_ne (by omega), up_ne (by omega)]; exact (hw j).2.2.1
  · by_cases q : j = 0
    · rw [q, e30, es]; omega
    · rw [e3n j (by omega)]; exact (hw j).2.2.2.1
  · intro hj
    rw [e3n j (by omega)]; exact (hw j).2.2.2.2 hj
theorem op_clean {N : Nat} {σ : Sg} (h : Inv N σ) (hN : N ≤ 80000) (t : Int32) : OKw (N + 12) (f_L_clean t σ) (f_X6_clean t (f_L_clean t σ).2) := by
  obtain ⟨S, w, O, p, hz, M, sh, hI, hC, hM⟩ := id h
  have hT := nT_i hI.1
  have hK := nK_i hI.1
  have e5 : rI σ 1 5 = S 0 0 := hC.1.1.1
  have e4 : rI σ 19 4 = S 0 0 := hM.1.1.1.1
  have n1 : ¬ (1 : Int32) = 0 := by decide
  by_cases ct : 0 ≤ t.toInt ∧ t.toInt < (S 0 0).toInt
  · obtain ⟨k, rfl, hk⟩ := i_k ct hT.1
    have hk4 : k < 4 := by omega
    have er : f_X5_checkReady (kI k) σ = if w 2 k ≤ 0 then 0 else 2 := by
      unfold f_X5_checkReady
      rw [kI_nat (by omega), (hC.2.1.1 k hk4).2.2]
    have em : f_X6_of (kI k) 2 σ = w 2 k := by
      unfold f_X6_of
      rw [ix2 hk4, (hM.2.1.1 k hk4).2.2]
    by_cases cr : w 2 k ≤ 0
    · by_cases c0 : S 0 1 = 0
      · have e : f_X5_clean (kI k) σ = (4, 0, σ) := by
          unfold f_X5_clean
          rw [ct_if, e5, if_pos ct, if_pos rfl, er, if_pos cr, if_pos rfl, hC.1.1.2.1, if_pos c0]
        have eL : f_L_clean (kI k) σ = (3, σ) := by unfold f_L_clean; rw [e]; rfl
        have eM : f_X6_clean (kI k) σ = (-1, sI σ 19 32 3) := by
          unfold f_X6_clean
          rw [it_if (by rw [e4]; omega), e4, if_pos ct, if_neg n1, em, if_pos cr, hM.1.1.1.2.1, if_pos c0]
        rw [eL, eM]
        exact ok_throw h hN (by decide)
      · have hk0 : 0 < nK S := by
          rcases Nat.eq_zero_or_pos (nK S) with z | z
          · exact absurd (Int32.toInt_inj.mp (show (S 0 1).toInt = (0 : Int32).toInt by rw [hK.1, z]; rfl)) c0
          · exact z
        have l0 : rI σ (sid 0 + 4) (Int32.toNatClampNeg 0) = w 3 0 := hC.2.1.2 0 (by decide)
        have m0 : rI σ 20 (Int32.toNatClampNeg 12) = w 3 0 := hM.2.1.2 0 (by decide)
        by_cases cl : S 1 k ≤ w 3 0
        · have e : f_X5_clean (kI k) σ = (0, 2 + w 0 k / 20, sI (sL (sI σ 37 0 (w 3 0 - S 1 k)) 17 8 (M 6 + (S 1 k).toInt64)) 36 k (2 + w 0 k / 20)) := by
            unfold f_X5_clean
            rw [ct_if, e5, if_pos ct, if_pos rfl, er, if_pos cr, if_pos rfl, hC.1.1.2.1, if_neg c0]
            rw [l0, kI_nat (by omega), (hC.1.2.1 k hk4).1, if_pos cl, rI_eq]
            simp only [rI_sL, rL_sI]
            rw [rI_ne (Or.inl (by decide)), (hC.2.1.1 k hk4).1, hC.2.2.2.2.2.2.1.2.2.2.2.2.2.2]
            rfl
          have eL : f_L_clean (kI k) σ = (0, sL (sI (sL (sI σ 37 0 (w 3 0 - S 1 k)) 17 8 (M 6 + (S 1 k).toInt64)) 36 k (2 + w 0 k / 20)) 31 (Int32.toNatClampNeg 0) (2 + w 0 k / 20).toInt64) := by unfold f_L_clean; rw [e]; rfl
          have hM1 : IM (sI (sL (sI σ 37 0 (w 3 0 - S 1 k)) 17 8 (M 6 + (S 1 k).toInt64)) 36 k (2 + w 0 k / 20)) S w O p hz M sh := hM.mc ⟨fun i j q => by rw [rI_ne (by omega), rI_sL, rI_ne (by omega)], fun j => by rw [rL_sI, rL_ne (by omega), rL_sI]⟩
          have hC1 : IC (sI (sL (sI σ 37 0 (w 3 0 - S 1 k)) 17 8 (M 6 + (S 1 k).toInt64)) 36 k (2 + w 0 k / 20)) S (cw S w k) O p hz (fun j => if j = 6 then M 6 + (S 1 k).toInt64 else M j) sh := by
            obtain ⟨h1, h2, h3, h4, h5, h6, h7, h8, h9⟩ := hC
            have ff : ∀ i j, i < 33 ∨ i = 38 → rI (sI (sL (sI σ 37 0 (w 3 0 - S 1 k)) 17 8 (M 6 + (S 1 k).toInt64)) 36 k (2 + w 0 k / 20)) i j = rI σ i j := fun i j q => by rw [rI_ne (by omega), rI_sL, rI_ne (by omega)]
            refine ⟨h1.of (fun i j q => ff i j (by omega)), ⟨fun j hj => ⟨?_, ?_, ?_⟩, fun j hj => ?_⟩, h3.of (fun i j q => ff i j (by omega)), ?_, ?_, ⟨?_, fun j => ?_⟩, ?_, fun j hj => ?_, fun j hj hk => ?_⟩
            · rw [rI_ne (Or.inl (by decide)), rI_sL, rI_ne (Or.inl (by decide)), (h2.1 j hj).1]; unfold cw; rw [up_ne (by omega), up_ne (by omega)]
            · rw [rI_ne (Or.inl (by decide)), rI_sL, rI_ne (Or.inl (by decide)), (h2.1 j hj).2.1]; unfold cw; rw [up_ne (by omega), up_ne (by omega)]
            · by_cases q : j = k
              · rw [q]; show rI (sI _ 36 k _) 36 k = _; rw [rI_eq]; unfold cw; rw [up_eq]
              · rw [rI_ne (Or.inr q), rI_sL, rI_ne (Or.inl (by decide)), (h2.1 j hj).2.2]; unfold cw; rw [up_ne (by omega), up_ne (by omega)]
            · rw [rI_ne (Or.inl (by decide)), rI_sL]
              by_cases q : j = 0
              · rw [q]; show rI (sI _ 37 0 _) 37 0 = _; rw [rI_eq]; unfold cw; rw [up_ne (by omega), up_eq]
              · rw [rI_ne (Or.inr q), h2.2 j hj]; unfold cw; rw [up_ne (by omega), up_ne (by omega)]
            · rw [ff _ _ (by decide)]; exact h4
            · rw [ff _ _ (by decide)]; exact h5
            · rw [ff _ _ (by decide)]; exact h6.1
            · rw [ff _ _ (by decide)]; exact h6.2 j
            · simp only [rL_sI]
              rw [rL_ne (by omega), rL_ne (by omega), rL_ne (by omega), rL_ne (by omega), rL_ne (by omega), rL_ne (by omega), rL_ne (by omega), rL_eq]
              simp only [rL_sI]
              exact ⟨h7.1, h7.2.1, h7.2.2.1, h7.2.2.2.1, h7.2.2.2.2.1, h7.2.2.2.2.2.1, h7.2.2.2.2.2.2.1, rfl⟩
            · rw [ff _ _ (by decide)]; exact h8 j hj
            · rw [ff _ _ (by decide)]; exact h9 j hj hk
          have hCt := ic_31 hC1 (2 + w 0 k / 20).toInt64
          have hMt := im_31 hM1 (2 + w 0 k / 20).toInt64
          rw [eL]
          clear e eL
          dsimp only
          generalize sI (sL (sI σ 37 0 (w 3 0 - S 1 k)) 17 8 (M 6 + (S 1 k).toInt64)) 36 k (2 + w 0 k / 20) = σ1 at *
          have hgm1 : GM 99000 (sL σ1 31 (Int32.toNatClampNeg 0) (2 + w 0 k / 20).toInt64) := hMt.gm hI (by omega)
          have h31 : rL (sL σ1 31 (Int32.toNatClampNeg 0) (2 + w 0 k / 20).toInt64) 31 (Int32.toNatClampNeg 0) = (2 + w 0 k / 20).toInt64 := rL_eq _ _ _ _
          generalize sL σ1 31 (Int32.toNatClampNeg 0) (2 + w 0 k / 20).toInt64 = τ at *
          have hMh := im_th hMt 0
          have et : rI τ 19 4 = S 0 0 := hMt.1.1.1.1
          have c12 : Int32.toNatClampNeg 12 = 12 := by decide
          have f0 : rI (sI τ 19 32 0) 20 12 = w 3 0 := hMh.2.1.2 0 (by decide)
          have eM : f_X6_clean (kI k) τ = (2 + w 0 k / 20, sI (sI (sI τ 19 32 0) 20 12 (w 3 0 - S 1 k)) 20 (3 * k + 2) (2 + w 0 k / 20)) := by
            have z2 : f_X6_of (kI k) 2 τ = w 2 k := by
              unfold f_X6_of
              rw [ix2 hk4, (hMt.2.1.1 k hk4).2.2]
            have z0 : f_X6_of (kI k) 0 (sI (sI τ 19 32 0) 20 12 (w 3 0 - S 1 k)) = w 0 k := by
              unfold f_X6_of
              rw [ix0 hk4, rI_ne (by omega), (hMh.2.1.1 k hk4).1]
            have zt : rI τ 20 12 = w 3 0 := hMt.2.1.2 0 (by decide)
            unfold f_X6_clean
            rw [it_if (by rw [et]; omega), et, if_pos ct, if_neg n1, z2, if_pos cr, hMt.1.1.1.2.1, if_neg c0, c12, zt, kI_nat (by omega), (hMt.1.1.2.1 k hk4).1, if_pos cl]
            rw [f0, (hMh.1.1.2.1 k hk4).1, z0, ix2 hk4]
            unfold f_X6_of
            rw [ix2 hk4, rI_eq]
          rw [eM]
          clear eM
          have hcl : (S 1 k).toInt ≤ (w 3 0).toInt := by rw [← i_le]; exact cl
          have cb := cw_b (k := k) hI.1 hI.2.1 hk0 hcl
          refine ⟨⟨hgm1, by rw [rI_ne (by omega), rI_ne (by omega), rI_eq], fun _ => h31⟩, S, cw S w k, O, p, hz, (fun j => if j = 6 then M 6 + (S 1 k).toInt64 else M j), sh, ⟨hI.1, cb.1, hI.2.2.1, by have := hI.2.2.2.1; omega, hI.2.2.2.2.1, ?_⟩, hCt.cc ⟨fun i j q => by rw [rI_ne (by omega), rI_ne (by omega), rI_ne (by omega)], fun _ => rfl⟩, ?_⟩
          · show M 1 = M 4 + (M 6 + (S 1 k).toInt64) + Int64.ofInt (pz (fun j => (cw S w k 3 j).toInt) (nK S)) + M 2
            obtain ⟨n, hn⟩ : ∃ n, nK S = n + 1 := ⟨nK S - 1, by omega⟩
            rw [hI.2.2.2.2.2, hn, cb.2 n, t64, Int64.ofInt_sub, cl_64]
          · obtain ⟨⟨⟨q1, q2, q3, q4, q5⟩, hO, h3⟩, h4, h5, h6, h7, h8⟩ := hMh
            have ff : ∀ i j, i ≠ 20 → rI (sI (sI (sI τ 19 32 0) 20 12 (w 3 0 - S 1 k)) 20 (3 * k + 2) (2 + w 0 k / 20)) i j = rI (sI τ 19 32 0) i j := fun i j q => by rw [rI_ne (by omega), rI_ne (by omega)]
            refine ⟨⟨⟨?_, fun j hj => ?_, fun j hj => ?_, fun j hj => ?_, fun j hj => ?_⟩, ⟨?_, fun j hj => ?_⟩, ?_⟩, ⟨fun j hj => ⟨?_, ?_, ?_⟩, fun j hj => ?_⟩, ?_, fun j => ?_, ?_, fun j hj => ?_⟩
            · rw [ff _ _ (by decide), ff _ _ (by decide), ff _ _ (by decide), ff _ _ (by decide)]; exact q1
            · rw [ff _ _ (by decide), ff _ _ (by decide)]; exact q2 j hj
            · rw [ff _ _ (by decide)]; exact q3 j hj
            · rw [ff _ _ (by decide)]; exact q4 j hj
            · rw [ff _ _ (by decide)]; exact q5 j hj
            · rw [ff _ _ (by decide)]; exact hO.1
            · rw [ff _ _ (by decide), ff _ _ (by decide)]; exact hO.2 j hj
            · rw [ff _ _ (by decide)]; exact h3
            · rw [rI_ne (by omega), rI_ne (by omega), (h4.1 j hj).1]; unfold cw; rw [up_ne (by omega), up_ne (by omega)]
            · rw [rI_ne (by omega), rI_ne (by omega), (h4.1 j hj).2.1]; unfold cw; rw [up_ne (by omega), up_ne (by omega)]
            · by_cases q : j = k
              · rw [q, rI_eq]; unfold cw; rw [up_eq]
              · rw [rI_ne (by omega), rI_ne (by omega), (h4.1 j hj).2.2]; unfold cw; rw [up_ne (by omega), up_ne (by omega)]
            · rw [rI_ne (by omega)]
              by_cases q : j = 0
              · rw [q, rI_eq]; unfold cw; rw [up_ne (by omega), up_eq]
              · rw [rI_ne (by omega), h4.2 j hj]; unfold cw; rw [up_ne (by omega), up_ne (by omega)]
            · rw [ff _ _ (by decide)]; exact h5
            · rw [ff _ _ (by decide)]; exact h6 j
            · exact h7
            · rw [ff _ _ (by decide)]; exact h8 j hj
        · have e : f_X5_clean (kI k) σ = (4, 0, σ) := by
            unfold f_X5_clean
            rw [ct_if, e5, if_pos ct, if_pos rfl, er, if_pos cr, if_pos rfl, hC.1.1.2.1, if_neg c0]
            rw [l0, kI_nat (by omega), (hC.1.2.1 k hk4).1, if_neg cl]
          have eL : f_L_clean (kI k) σ = (3, σ) := by unfold f_L_clean; rw [e]; rfl
          have eM : f_X6_clean (kI k) σ = (-1, sI σ 19 32 3) := by
            unfold f_X6_clean
            rw [it_if (by rw [e4]; omega), e4, if_pos ct, if_neg n1, em, if_pos cr, hM.1.1.1.2.1, if_neg c0, m0, kI_nat (by omega), (hM.1.1.2.1 k hk4).1, if_neg cl]
          rw [eL, eM]
          exact ok_throw h hN (by decide)
    · have e : f_X5_clean (kI k) σ = (2, 0, σ) := by
        unfold f_X5_clean
        rw [ct_if, e5, if_pos ct, if_pos rfl, er, if_neg cr, if_neg (show ¬ (2 : Nat) = 0 by decide)]
      have eL : f_L_clean (kI k) σ = (2, σ) := by unfold f_L_clean; rw [e]; rfl
      have eM : f_X6_clean (kI k) σ = (-1, sI σ 19 32 2) := by
        unfold f_X6_clean
        rw [it_if (by rw [e4]; omega), e4, if_pos ct, if_neg n1, em, if_neg cr]
      rw [eL, eM]
      exact ok_throw h hN (by decide)
  · have e : f_X5_clean t σ = (3, 0, σ) := by
      unfold f_X5_clean
      rw [ct_if, e5, if_neg ct, if_neg (show ¬ (3 : Nat) = 0 by decide)]
    have eL : f_L_clean t σ = (1, σ) := by unfold f_L_clean; rw [e]; rfl
    have eM : f_X6_clean t σ = (-1, sI σ 19 32 1) := by
      unfold f_X6_clean
      rw [it_if (by rw [e4]; omega), e4, if_neg ct, if_pos rfl]
    rw [eL, eM]
    exact ok_throw h hN (by decide)
