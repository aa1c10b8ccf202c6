theorem ix0 {k : Nat} (h : k < 4) : (3 * kI k + 0).toNatClampNeg = 3 * k := by
  rw [show (0 : Int32) = kI 0 from rfl, kI_3, kI_nat (by omega)]; rfl
theorem ix1 {k : Nat} (h : k < 4) : (3 * kI k + 1).toNatClampNeg = 3 * k + 1 := by
  rw [show (1 : Int32) = kI 1 from rfl, kI_3, kI_nat (by omega)]
theorem ix2 {k : Nat} (h : k < 4) : (3 * kI k + 2).toNatClampNeg = 3 * k + 2 := by
  rw [show (2 : Int32) = kI 2 from rfl, kI_3, kI_nat (by omega)]
theorem ix12 {k : Nat} (h : k < 4) : (12 + kI k).toNatClampNeg = 12 + k := by
  rw [kI_12, kI_nat (by omega)]
theorem ix48 {k s : Nat} (h : k < 4) (hs : s < 48) : (48 * kI k + kI s).toNatClampNeg = 48 * k + s := by
  rw [kI_48, kI_nat (by omega)]
theorem pG_m' {S : Vw} {f : Int32} {j : Nat} (h : BS S) (hf : bd 0 90 f) : (if 0 < S 1 j * (S 2 j - S 0 2) * (100 - f) / 500 then S 1 j * (S 2 j - S 0 2) * (100 - f) / 500 else 0) = pG S f j := by
  have hb := pG_b (j := j) h hf
  unfold pG at hb ⊢
  have h0 : (0 : Int32).toInt = 0 := rfl
  by_cases c : S 0 2 ≤ S 2 j
  · rw [if_pos c] at hb ⊢
    by_cases q : 0 < S 1 j * (S 2 j - S 0 2) * (100 - f) / 500
    · rw [if_pos q]
    · rw [if_neg q]
      apply Int32.toInt_inj.mp
      rw [i_lt] at q
      have := hb.1
      omega
  · rw [if_neg c]
    have hc : (S 2 j).toInt < (S 0 2).toInt := by rw [i_le] at c; omega
    have h1 := bd_sub (h.2.2.2.2 j).2.1 h.2.2.1 (by decide) (by decide)
    have h2 : bd (-35) 0 (S 2 j - S 0 2) := ⟨by rw [h1.2]; have := h1.1.1; omega, by rw [h1.2]; omega⟩
    have h3 := bd_mulN (h.2.2.2.2 j).1 h2 (by decide)
    have h4 := bd_sub (x := 100) (bd_k 100 rfl (by decide) (by decide) : bd 100 100 _) hf (by decide) (by decide)
    have h5 := bd_mulN (x := 100 - f) (h4.1.mono (lo' := 0) (hi' := 100) (by decide) (by decide)) h3.1 (by decide)
    rw [Int32.mul_comm (100 - f)] at h5
    have h6 := bd_divN (y := 500) h5.1 (by decide)
    rw [if_neg]
    rw [i_lt]; omega
theorem pG_m {σ : Sg} {S : Vw} {f : Int32} {k : Nat} (h : Sm σ S) (hB : BS S) (hk : k < 4) (hf : bd 0 90 f) (e : rI σ 20 (3 * k) = f) : f_X6_gives (kI k) σ = pG S f k := by
  rw [← pG_m' hB hf]
  unfold f_X6_gives f_X6_of
  rw [ix0 hk, kI_nat (by omega), (h.2.1 k hk).1, (h.2.1 k hk).2, h.1.2.2.1, e]
theorem pK_m {σ : Sg} {S : Vw} {f : Int32} {k : Nat} (h : Sm σ S) (hB : BS S) (hk : k < 4) (hf : bd 0 90 f) (e : rI σ 20 (3 * k) = f) : f_X6_takes (kI k) σ = pK S (pG S f k) := by
  unfold f_X6_takes pK
  rw [pG_m h hB hk hf e, h.1.2.2.2]
theorem pE_m {σ : Sg} {S : Vw} {f : Int32} {k : Nat} (h : Sm σ S) (hB : BS S) (hk : k < 4) (hf : bd 0 90 f) (e : rI σ 20 (3 * k) = f) : f_X6_needs (kI k) σ = pE S (pK S (pG S f k)) k := by
  unfold f_X6_needs pE
  rw [pK_m h hB hk hf e, kI_nat (by omega), (h.2.1 k hk).2]
theorem Rm.set {k : Nat} {σ σ' : Sg} {S w : Vw} {on : Int32} (h : Rm σ (tr S w on k)) (hF : ∀ j, j < 4 → rI σ' 20 (3 * j) = if j = k then tF S w on k else rI σ 20 (3 * j)) (hW : ∀ j, j < 4 → rI σ' 20 (3 * j + 1) = if j = k then tW w k else rI σ 20 (3 * j + 1)) (hL : ∀ j, j < 4 → rI σ' 20 (3 * j + 2) = if j = k then tL w k else rI σ 20 (3 * j + 2)) (hV : ∀ j, j < 3 → rI σ' 20 (12 + j) = rI σ 20 (12 + j)) : Rm σ' (tr S w on (k + 1)) := by
  refine ⟨fun j hj => ?_, fun j hj => by rw [hV j hj, h.2 j hj]; rfl⟩
  have h1 := h.1 j hj
  rw [hF j hj, hW j hj, hL j hj, h1.1, h1.2.1, h1.2.2]
  by_cases e : j = k
  · subst e
    simp only [if_true, tr]
    rw [if_pos (Nat.lt_succ_self j), if_pos (Nat.lt_succ_self j), if_pos (Nat.lt_succ_self j)]
    exact ⟨rfl, rfl, rfl⟩
  · rw [if_neg e, if_neg e, if_neg e]
    simp only [tr]
    by_cases e2 : j < k
    · rw [if_pos e2, if_pos e2, if_pos e2, if_pos (by omega), if_pos (by omega), if_pos (by omega)]
      exact ⟨rfl, rfl, rfl⟩
    · rw [if_neg e2, if_neg e2, if_neg e2, if_neg (by omega), if_neg (by omega), if_neg (by omega)]
      exact ⟨rfl, rfl, rfl⟩
theorem go_m {k : Nat} {σ : Sg} {S w : Vw} {on : Int32} (h : Rm σ (tr S w on k)) (hk : k < 4) (hl : ¬ w 2 k ≤ 0) : Rm (f_X6_cleans (kI k) σ) (tr S w on (k + 1)) ∧ (∀ i j, i ≠ 20 → rI (f_X6_cleans (kI k) σ) i j = rI σ i j) ∧ (f_X6_cleans (kI k) σ).2 = σ.2 := by
  have h1 := h.1 k hk
  rw [tr_at.1, tr_at.2.1, tr_at.2.2] at h1
  have e1 : tF S w on k = if w 2 k - 1 = 0 then w 0 k / 4 + w 1 k else w 0 k := by unfold tF; rw [if_neg hl]
  have e2 : tW w k = if w 2 k - 1 = 0 then (if w 1 k + 1 < 20 then w 1 k + 1 else 20) else w 1 k := by unfold tW; rw [if_neg hl]
  have e3 : tL w k = w 2 k - 1 := by unfold tL; rw [if_neg hl]
  unfold f_X6_cleans f_X6_of
  rw [ix0 hk, ix1 hk, ix2 hk]
  simp (disch := omega) only [rI_eq, rI_ne]
  rw [h1.1, h1.2.1, h1.2.2]
  by_cases c : w 2 k - 1 = 0
  · rw [if_pos c] at e1 e2 ⊢
    refine ⟨h.set (fun j hj => ?_) (fun j hj => ?_) (fun j hj => ?_) (fun j hj => ?_), fun i j hi => ?_, rfl⟩
    · simp (disch := omega) only [rI_ne]
      by_cases e : j = k
      · subst e; simp (disch := omega) only [rI_eq, if_true]; exact e1.symm
      · simp (disch := omega) only [rI_ne, if_neg e]
    · by_cases e : j = k
      · subst e; simp (disch := omega) only [rI_eq, if_true]; exact e2.symm
      · simp (disch := omega) only [rI_ne, if_neg e]
    · by_cases e : j = k
      · subst e; simp (disch := omega) only [rI_eq, rI_ne, if_true]; exact e3.symm
      · simp (disch := omega) only [rI_ne, if_neg e]
    · simp (disch := omega) only [rI_ne]
    · simp (disch := omega) only [rI_ne]
  · rw [if_neg c] at e1 e2 ⊢
    refine ⟨h.set (fun j hj => ?_) (fun j hj => ?_) (fun j hj => ?_) (fun j hj => ?_), fun i j hi => ?_, rfl⟩
    · simp (disch := omega) only [rI_ne]
      by_cases e : j = k
      · subst e; rw [if_pos rfl, h1.1, e1]
      · rw [if_neg e]
    · simp (disch := omega) only [rI_ne]
      by_cases e : j = k
      · subst e; rw [if_pos rfl, h1.2.1, e2]
      · rw [if_neg e]
    · by_cases e : j = k
      · subst e; simp (disch := omega) only [rI_eq, if_true]; exact e3.symm
      · simp (disch := omega) only [rI_ne, if_neg e]
    · simp (disch := omega) only [rI_ne]
    · simp (disch := omega) only [rI_ne]
/-- f_X6_works, the three ways of it in one -/
theorem works_eq {k : Nat} {σ : Sg} {S w : Vw} (hS : Sm σ S) (hB : BS S) (hk : k < 4) (hf : bd 0 90 (w 0 k)) (e : rI σ 20 (3 * k) = w 0 k) : f_X6_works (kI k) σ = sI (sI (sI (sI σ 19 17 (rI σ 19 17 + pG S (w 0 k) k)) 19 18 (rI σ 19 18 + pK S (pG S (w 0 k) k))) 19 19 (rI σ 19 19 + pE S (pK S (pG S (w 0 k) k)) k)) 20 (3 * k) (if w 0 k + pF S k < 90 then w 0 k + pF S k else 90) := by
  unfold f_X6_works
  have a1 := pG_m hS hB hk hf e
  have s1 : ∀ x, Sm (sI σ 19 17 x) S := fun x => hS.ml (Ml.sI Ml.refl (by omega))
  have a2 := fun x => pK_m (s1 x) hB hk hf (by rw [rI_ne (by omega), e])
  have s2 : ∀ x y, Sm (sI (sI σ 19 17 x) 19 18 y) S := fun x y => hS.ml (Ml.sI (Ml.sI Ml.refl (by omega)) (by omega))
  have a3 := fun x y => pE_m (s2 x y) hB hk hf (by rw [rI_ne (by omega), rI_ne (by omega), e])
  simp only [a1, a2, a3]
  unfold f_X6_of
  rw [ix0 hk, kI_nat (by omega)]
  simp (disch := omega) only [rI_eq, rI_ne]
  rw [(hS.2.1 k hk).2, e]
  unfold pF
  split
  · split <;> rfl
  · rfl
theorem run_m {k : Nat} {σ : Sg} {S w : Vw} {on : Int32} (hS : Sm σ S) (hB : BS S) (h : Rm σ (tr S w on k)) (hk : k < 4) (hf : bd 0 90 (w 0 k)) (hl : w 2 k ≤ 0) (ho : ¬ on = 0) : Rm (f_X6_works (kI k) σ) (tr S w on (k + 1)) ∧ rI (f_X6_works (kI k) σ) 19 17 = rI σ 19 17 + tM S w on k ∧ rI (f_X6_works (kI k) σ) 19 18 = rI σ 19 18 + tK S w on k ∧ rI (f_X6_works (kI k) σ) 19 19 = rI σ 19 19 + tE S w on k ∧ (∀ i j, i ≠ 20 → ¬ (i = 19 ∧ 17 ≤ j ∧ j ≤ 19) → rI (f_X6_works (kI k) σ) i j = rI σ i j) ∧ (f_X6_works (kI k) σ).2 = σ.2 := by
  have h1 := h.1 k hk
  rw [tr_at.1, tr_at.2.1, tr_at.2.2] at h1
  have e1 : tF S w on k = if w 0 k + pF S k < 90 then w 0 k + pF S k else 90 := by unfold tF; rw [if_pos hl, if_neg ho]
  have e2 : tW w k = w 1 k := by unfold tW; rw [if_pos hl]
  have e3 : tL w k = w 2 k := by unfold tL; rw [if_pos hl]
  have e4 : tM S w on k = pG S (w 0 k) k := by unfold tM; rw [if_pos hl, if_neg ho]
  have e5 : tK S w on k = pK S (pG S (w 0 k) k) := by unfold tK; rw [if_pos hl, if_neg ho]
  have e6 : tE S w on k = pE S (pK S (pG S (w 0 k) k)) k := by unfold tE; rw [if_pos hl, if_neg ho]
  rw [works_eq hS hB hk hf h1.1, e4, e5, e6, ← e1]
  refine ⟨h.set (fun j hj => ?_) (fun j hj => ?_) (fun j hj => ?_) (fun j hj => ?_), ?_, ?_, ?_, fun i j hi hj => ?_, rfl⟩
  · by_cases e : j = k
    · subst e; rw [if_pos rfl, rI_eq]
    · rw [if_neg e]; simp (disch := omega) only [rI_ne]
  · simp (disch := omega) only [rI_ne]
    by_cases e : j = k
    · subst e; rw [if_pos rfl, h1.2.1, e2]
    · rw [if_neg e]
  · simp (disch := omega) only [rI_ne]
    by_cases e : j = k
    · subst e; rw [if_pos rfl, h1.2.2, e3]
    · rw [if_neg e]
  · simp (disch := omega) only [rI_ne]
  · simp (disch := omega) only [rI_ne, rI_eq]
  · simp (disch := omega) only [rI_ne, rI_eq]
  · simp (disch := omega) only [rI_ne, rI_eq]
  · simp (disch := omega) only [rI_ne]
