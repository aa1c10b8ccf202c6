theorem IM.mt {a b : Sg} {S w O : Vw} {p hz : Nat} {M : Mt} {sh : Nat → Int32} (h : IM a S w O p hz M sh) (f : ∀ k j, 19 ≤ k ∧ k ≤ 30 → ¬ (k = 19 ∧ j = 32) → rI b k j = rI a k j) (f2 : ∀ j, rL b 19 j = rL a 19 j) : IM b S w O p hz M sh := by
  obtain ⟨⟨⟨g1, g2, g3, g4, g5⟩, h2, h3⟩, h4, h5, h6, h7, h8⟩ := h
  refine ⟨⟨⟨?_, fun j hj => ?_, fun j hj => ?_, fun j hj => ?_, fun j hj => ?_⟩, ⟨?_, fun j hj => ?_⟩, ?_⟩, h4.of (fun j => f _ _ (by decide) (by omega)), ?_, fun j => ?_, ?_, fun j hj => ?_⟩
  · rw [f _ _ (by decide) (by decide), f _ _ (by decide) (by decide), f _ _ (by decide) (by decide), f _ _ (by decide) (by decide)]; exact g1
  · rw [f _ _ (by decide) (by omega), f _ _ (by decide) (by omega)]; exact g2 j hj
  · rw [f _ _ (by decide) (by omega)]; exact g3 j hj
  · rw [f _ _ (by decide) (by omega)]; exact g4 j hj
  · rw [f _ _ (by decide) (by omega)]; exact g5 j hj
  · rw [f _ _ (by decide) (by decide)]; exact h2.1
  · rw [f _ _ (by decide) (by omega), f _ _ (by decide) (by omega)]; exact h2.2 j hj
  · rw [f _ _ (by decide) (by decide)]; exact h3
  · rw [f _ _ (by decide) (by decide)]; exact h5
  · rw [f _ _ (by decide) (by omega)]; exact h6 j
  · simp only [f2]; exact h7
  · rw [f _ _ (by decide) (by omega)]; exact h8 j hj
/-- what the law asks of one operation that may throw -/
def OKw (N : Nat) (f g : Int32 × Sg) : Prop := (GM 99000 f.2 ∧ rI g.2 19 32 = f.1 ∧ (f.1 = 0 → rL g.2 31 (Int32.toNatClampNeg 0) = g.1.toInt64)) ∧ Inv N g.2
theorem inv_th {N N' : Nat} {σ : Sg} (h : Inv N σ) (hN : N ≤ N') (x : Int32) : Inv N' (sI σ 19 32 x) := by
  obtain ⟨S, w, O, p, hz, M, sh, hI, hC, hM⟩ := h
  exact ⟨S, w, O, p, hz, M, sh, hI.up hN, hC.cc ⟨fun k j hk => rI_ne (by omega), fun _ => rfl⟩, hM.mt (fun k j hk hn => rI_ne (by omega)) (fun _ => rfl)⟩
theorem inv_sL {N : Nat} {σ : Sg} (h : Inv N σ) (x : Int64) : Inv N (sL σ 31 0 x) := by
  obtain ⟨S, w, O, p, hz, M, sh, hI, hC, hM⟩ := h
  exact ⟨S, w, O, p, hz, M, sh, hI, hC.cc ⟨fun k j hk => rfl, fun j => rL_ne (by omega)⟩, hM.mt (fun k j hk hn => rfl) (fun j => rL_ne (by omega))⟩
theorem inv_gm {N : Nat} {σ : Sg} (h : Inv N σ) (hN : N ≤ 80000) : GM 99000 σ := by
  obtain ⟨S, w, O, p, hz, M, sh, hI, hC, hM⟩ := h
  exact hM.gm hI (by omega)
/-- both throw -/
theorem ok_throw {N : Nat} {σ : Sg} (h : Inv N σ) (hN : N ≤ 80000) {c v : Int32} (hc : ¬ c = 0) : OKw (N + 12) (c, σ) (v, sI σ 19 32 c) := ⟨⟨inv_gm h hN, rI_eq _ _ _ _, fun q => absurd q hc⟩, inv_th h (by omega) c⟩
/-- both answer, nothing changes -/
theorem ok_get {N : Nat} {σ : Sg} (h : Inv N σ) (hN : N ≤ 80000) {v u : Int32} (hv : v = u) : OKw (N + 12) (0, sL σ 31 (Int32.toNatClampNeg 0) v.toInt64) (u, sI (sL σ 31 (Int32.toNatClampNeg 0) v.toInt64) 19 32 0) := by
  subst hv
  have h2 := inv_sL h v.toInt64
  exact ⟨⟨inv_gm h2 hN, rI_eq _ _ _ _, fun _ => rL_eq _ _ _ _⟩, inv_th h2 (by omega) 0⟩
theorem cr_if (v lo hi : Int32) (σ : Sg) : f_X5_checkRange v lo hi σ = if lo.toInt ≤ v.toInt ∧ v.toInt ≤ hi.toInt then 0 else 1 := by
  unfold f_X5_checkRange
  by_cases c : v < lo
  · rw [if_pos c, if_neg (by rw [i_lt] at c; omega)]
  · rw [if_neg c]
    by_cases c2 : v ≤ hi
    · rw [if_pos c2, if_pos (by rw [i_lt] at c; rw [i_le] at c2; omega)]
    · rw [if_neg c2, if_neg (by rw [i_le] at c2; omega)]
theorem in_01 (a b c : Int64) (σ : Sg) : f_X6_in a b c σ = 0 ∨ f_X6_in a b c σ = 1 := by
  unfold f_X6_in
  split
  · exact Or.inl rfl
  · split
    · exact Or.inl rfl
    · exact Or.inr rfl
theorem in_if (v : Int32) (lo hi : Int64) (σ : Sg) : f_X6_in v.toInt64 lo hi σ = if lo.toInt ≤ v.toInt ∧ v.toInt ≤ hi.toInt then 1 else 0 := by
  have h := in_iff (a := v.toInt64) (b := lo) (c := hi) (σ := σ)
  rw [i_l] at h
  by_cases c : lo.toInt ≤ v.toInt ∧ v.toInt ≤ hi.toInt
  · rw [if_pos c]
    rcases in_01 v.toInt64 lo hi σ with e | e
    · exact absurd e (h.mpr c)
    · exact e
  · rw [if_neg c]
    exact Classical.byContradiction fun q => c (h.mp q)
theorem ct_if (t : Int32) (σ : Sg) : f_X5_checkTrain t σ = if 0 ≤ t.toInt ∧ t.toInt < (rI σ 1 5).toInt then 0 else 3 := by
  have h0 : (0 : Int32).toInt = 0 := rfl
  unfold f_X5_checkTrain
  by_cases c : 0 ≤ t.toInt ∧ t.toInt < (rI σ 1 5).toInt
  · rw [if_pos c]
    repeat (first | rw [if_neg (by simp only [i_lt, i_le]; omega)] | rw [if_pos (by simp only [i_lt, i_le]; omega)])
  · rw [if_neg c]
    split
    · first | rfl | (rename_i q; simp only [i_lt, i_le] at q; omega)
    · split
      · first | rfl | (rename_i q q2; simp only [i_lt, i_le] at q q2; omega)
      · first | rfl | (rename_i q q2; simp only [i_lt, i_le] at q q2; omega)
theorem ck_if (t : Int32) (σ : Sg) : f_X5_checkTank t σ = if 0 ≤ t.toInt ∧ t.toInt < (rI σ 1 6).toInt then 0 else 3 := by
  have h0 : (0 : Int32).toInt = 0 := rfl
  unfold f_X5_checkTank
  by_cases c : 0 ≤ t.toInt ∧ t.toInt < (rI σ 1 6).toInt
  · rw [if_pos c]
    repeat (first | rw [if_neg (by simp only [i_lt, i_le]; omega)] | rw [if_pos (by simp only [i_lt, i_le]; omega)])
  · rw [if_neg c]
    split
    · first | rfl | (rename_i q; simp only [i_lt, i_le] at q; omega)
    · split
      · first | rfl | (rename_i q q2; simp only [i_lt, i_le] at q q2; omega)
      · first | rfl | (rename_i q q2; simp only [i_lt, i_le] at q q2; omega)
theorem it_if {t : Int32} {σ : Sg} (h0 : 0 ≤ (rI σ 19 4).toInt) : f_X6_isTrain t σ = if 0 ≤ t.toInt ∧ t.toInt < (rI σ 19 4).toInt then 1 else 0 := by
  unfold f_X6_isTrain
  rw [in_if, i_l, i_pred' (by omega)]
  have h1 : (0 : Int64).toInt = 0 := rfl
  by_cases c : 0 ≤ t.toInt ∧ t.toInt < (rI σ 19 4).toInt
  · rw [if_pos c, if_pos (by omega)]
  · rw [if_neg c, if_neg (by omega)]
theorem ik_if {t : Int32} {σ : Sg} (h0 : 0 ≤ (rI σ 19 8).toInt) : f_X6_isTank t σ = if 0 ≤ t.toInt ∧ t.toInt < (rI σ 19 8).toInt then 1 else 0 := by
  unfold f_X6_isTank
  rw [in_if, i_l, i_pred' (by omega)]
  have h1 : (0 : Int64).toInt = 0 := rfl
  by_cases c : 0 ≤ t.toInt ∧ t.toInt < (rI σ 19 8).toInt
  · rw [if_pos c, if_pos (by omega)]
  · rw [if_neg c, if_neg (by omega)]
