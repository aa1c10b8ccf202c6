/-- the end of passes: the order goes, the half hour is over -/
def pe (σ : Sg) : Sg := if f_X6_orderAt (rI σ 19 12) σ = -1 then sI σ 19 12 (rI σ 19 12 + 1) else sI (f_X6_forgets (f_X6_orderAt (rI σ 19 12) σ) σ) 19 12 (rI (f_X6_forgets (f_X6_orderAt (rI σ 19 12) σ) σ) 19 12 + 1)
def pd (f : Nat → Int32) : Nat → Int64
  | 0 => 0
  | k + 1 => pd f k + (f k).toInt64
theorem pl_loop {S : Vw} {on : Int32} {s : Nat} (hB : BS S) (hs : s < 48) : ∀ (n k : Nat) (σ : Sg), k + n = 4 → k ≤ nK S → Sm σ S → ∃ σ', f_X6_passes_l94 on n (kI k) (kI s) σ = pe σ' ∧ (∀ i j, i ≠ 26 → rI σ' i j = rI σ i j) ∧ (∀ i j, ¬ (i = 19 ∧ j = 27) → rL σ' i j = rL σ i j) ∧ (∀ j, j < 3 → rI σ' 26 j = if k ≤ j ∧ j < nK S then rI σ 26 j + rI σ 30 j else rI σ 26 j) ∧ rL σ' 19 27 + pd (wa S s) k = rL σ 19 27 + pd (wa S s) (nK S)
  | 0, k, σ, h0, h1, hS => absurd h0 (by have := (nK_i hB).2; omega)
  | n + 1, k, σ, h0, h1, hS => by
    have hT := nK_i hB
    rw [f_X6_passes_l94, hS.1.2.1]
    by_cases c : nK S ≤ k
    · rw [if_pos ((k_le hT.1 (by omega)).mpr c)]
      have e1 : k = nK S := by omega
      subst e1
      exact ⟨σ, rfl, fun _ _ _ => rfl, fun _ _ _ => rfl, fun j hj => by rw [if_neg (by omega)], rfl⟩
    · rw [if_neg (fun x => c ((k_le hT.1 (by omega)).mp x)), kI_nat (by omega), ix48 (by omega) hs, rI_ne (by omega), hS.2.2.2.1 _ (by omega), kI_succ]
      obtain ⟨σ', q1, q2, q3, q4, q5⟩ := pl_loop (on := on) hB hs n (k + 1) (sL (sI σ 26 k (rI σ 26 k + rI σ 30 k)) 19 27 (rL σ 19 27 + (wa S s k).toInt64)) (by omega) (by omega) (by
        obtain ⟨g1, g2, g3, g4, g5⟩ := hS
        refine ⟨?_, fun j hj => ?_, fun j hj => ?_, fun j hj => ?_, fun j hj => ?_⟩
        · simp (disch := omega) only [rI_sL, rI_ne]; exact g1
        · simp (disch := omega) only [rI_sL, rI_ne]; exact g2 j hj
        · simp (disch := omega) only [rI_sL, rI_ne]; exact g3 j hj
        · simp (disch := omega) only [rI_sL, rI_ne]; exact g4 j hj
        · simp (disch := omega) only [rI_sL, rI_ne]; exact g5 j hj)
      refine ⟨σ', q1, fun i j hi => (q2 i j hi).trans (by rw [rI_sL, rI_ne (by omega)]), fun i j hi => (q3 i j hi).trans (by rw [rL_ne (by omega)]; rfl), fun j hj => ?_, ?_⟩
      · rw [q4 j hj]
        simp (disch := omega) only [rI_sL, rI_ne]
        by_cases q : j = k
        · subst q
          rw [if_neg (by omega), if_pos ⟨Nat.le_refl j, by omega⟩, rI_eq]
        · rw [rI_ne (by omega)]
          by_cases z : k + 1 ≤ j ∧ j < nK S
          · rw [if_pos z, if_pos ⟨by omega, z.2⟩]
          · rw [if_neg z, if_neg (by omega)]
      · rw [rL_eq, pd] at q5
        generalize rL σ' 19 27 = a at q5 ⊢
        generalize (wa S s k).toInt64 = b at q5
        generalize pd (wa S s) k = c at q5 ⊢
        have r1 : a + (c + b) = (a + c) + b := by ac_rfl
        have r2 : rL σ 19 27 + b + pd (wa S s) (nK S) = (rL σ 19 27 + pd (wa S s) (nK S)) + b := by ac_rfl
        rw [r1, r2] at q5
        have := congrArg (· - b) q5
        simpa only [Int64.add_sub_cancel] using this
theorem pd_z {f : Nat → Int32} : ∀ n, pd f n = Int64.ofInt (pz (fun k => (f k).toInt) n)
  | 0 => rfl
  | n + 1 => by rw [pd, pz, pd_z n, Int64.ofInt_add, t64]
theorem pe_c {σ : Sg} {O : Vw} {p : Nat} (hO : Om σ O) (hB : BO O) (h : rI σ 19 12 = kI p) : Om (pe σ) (fg O (kI p)) ∧ rI (pe σ) 19 12 = kI (p + 1) ∧ (∀ k j, k ≠ 28 → k ≠ 29 → ¬ (k = 19 ∧ (j = 16 ∨ j = 12)) → rI (pe σ) k j = rI σ k j) ∧ (pe σ).2 = σ.2 ∧ ((∀ j, vp_nar .boolean (rI σ 29 j) = rI σ 29 j) → ∀ j, vp_nar .boolean (rI (pe σ) 29 j) = rI (pe σ) 29 j) := by
  unfold pe
  rw [h, fa_m hO hB]
  by_cases c : fa O (kI p) = -1
  · rw [if_pos c]
    refine ⟨⟨?_, fun j hj => ?_⟩, by rw [rI_eq, kI_succ], fun k j h1 h2 h3 => rI_ne (by omega), rfl, fun hb j => by rw [rI_ne (by omega)]; exact hb j⟩
    · rw [rI_ne (by omega)]
      show _ = if fa O (kI p) = -1 then O 0 0 else _
      rw [if_pos c]; exact hO.1
    · rw [rI_ne (by omega), rI_ne (by omega)]
      show _ = (if fa O (kI p) = -1 then O 1 j else _) ∧ _ = (if fa O (kI p) = -1 then O 2 j else _)
      rw [if_pos c, if_pos c]; exact hO.2 j hj
  · rw [if_neg c]
    have f := fg_m hO hB c
    refine ⟨⟨by rw [rI_ne (by omega)]; exact f.1.1, fun j hj => by rw [rI_ne (by omega), rI_ne (by omega)]; exact f.1.2 j hj⟩, ?_, fun k j h1 h2 h3 => ?_, f.2.2.1, fun hb j => ?_⟩
    · rw [rI_eq, f.2.1 _ _ (by decide) (by decide) (by decide), h, kI_succ]
    · rw [rI_ne (by omega)]; exact f.2.1 k j h1 h2 (by omega)
    · rw [rI_ne (by omega)]; exact f.2.2.2 hb j
/-- what the model's operations leave of the class's cells and of thrown -/
theorem ps_m {σ : Sg} {S w O : Vw} {p hz N : Nat} {M : Mt} {sh : Nat → Int32} {on : Int32} (hM : IM σ S w O p hz M sh) (hI : IB S w O p hz M N) (hp : p < 90000) : IM (f_X6_passes on σ) S (nx S w on (p % 48)) (fg O (kI p)) (p + 1) hz (nM S w on (p % 48) M) (nS S w on (p % 48) sh) ∧ Cc σ (f_X6_passes on σ) ∧ rI (f_X6_passes on σ) 19 17 = hP S w on ∧ rI (f_X6_passes on σ) 19 32 = rI σ 19 32 ∧ (∀ j, rL (f_X6_passes on σ) 31 j = rL σ 31 j) := by
  obtain ⟨⟨h1, h2, h3⟩, h4, h5, h6, h7, h8⟩ := hM
  have hB := hI.1
  have hw := hI.2.1
  have hs : p % 48 < 48 := Nat.mod_lt _ (by decide)
  unfold f_X6_passes
  rw [h3, kI_mod (by omega), kI_nat (by omega)]
  have a := goes_m (on := on) hs h1 hB hw h4
  have aS := h1.ml (ml_X6_goes (kI (p % 48)) on σ)
  generalize (f_X6_goes (kI (p % 48)) on σ).2 = σ1 at a aS ⊢
  have a2 : ∀ i j, rL σ1 i j = rL σ i j := fun i j => by unfold rL; rw [a.2.2.2.2.2.2.2.2.2]
  have a3 := a.2.2.2.2.2.2.2.2.1
  simp (disch := omega) only [rL_ne, rL_eq, rI_sL]
  rw [a.2.2.1, a.2.2.2.1, a.2.2.2.2.1, a.2.2.2.2.2.1, a.2.2.2.2.2.2.1, aS.2.2.2.2 _ hs]
  simp only [a2]
  obtain ⟨m1, m2, m3, m4, m5, m6⟩ := h7
  rw [m1, m2, m3, m4, m5]
  obtain ⟨σ2, b1, b2, b3, b4, b5⟩ := pl_loop (on := on) hB hs 4 0 (sL (sL (sL (sL (sL σ1 19 24 (M 1 + (hP S w on).toInt64)) 19 23 (M 0 + (hK S w on).toInt64)) 19 25 (M 2 + (rs S w on (nK S)).toInt64)) 19 26 (M 4 + (hG S w on (p % 48)).toInt64)) 19 28 (M 3 + (hE S w on * S 5 (p % 48)).toInt64)) rfl (Nat.zero_le _) aS
  have b1' : f_X6_passes_l94 on 4 0 (kI (p % 48)) (sL (sL (sL (sL (sL σ1 19 24 (M 1 + (hP S w on).toInt64)) 19 23 (M 0 + (hK S w on).toInt64)) 19 25 (M 2 + (rs S w on (nK S)).toInt64)) 19 26 (M 4 + (hG S w on (p % 48)).toInt64)) 19 28 (M 3 + (hE S w on * S 5 (p % 48)).toInt64)) = pe σ2 := b1
  rw [b1']
  have e1 : ∀ i j, i ≠ 26 → rI σ2 i j = rI σ1 i j := fun i j hi => by rw [b2 i j hi]; simp only [rI_sL]
  have e2 : ∀ i j, i ≠ 20 → i ≠ 30 → i ≠ 26 → ¬ (i = 19 ∧ 17 ≤ j ∧ j ≤ 21) → rI σ2 i j = rI σ i j := fun i j q1 q2 q3 q4 => (e1 i j q3).trans (a3 i j q1 q2 q4)
  have c := pe_c (O := O) (p := p) (⟨by rw [e2 _ _ (by decide) (by decide) (by decide) (by decide)]; exact h2.1, fun j hj => by rw [e2 _ _ (by decide) (by decide) (by decide) (by omega), e2 _ _ (by decide) (by decide) (by decide) (by omega)]; exact h2.2 j hj⟩ : Om σ2 O) hI.2.2.1 ((e2 _ _ (by decide) (by decide) (by decide) (by decide)).trans h3)
  have c2 : ∀ i j, rL (pe σ2) i j = rL σ2 i j := fun i j => by unfold rL; rw [c.2.2.2.1]
  have e3 : ∀ i j, i ≠ 20 → i ≠ 30 → i ≠ 26 → i ≠ 28 → i ≠ 29 → ¬ (i = 19 ∧ ((17 ≤ j ∧ j ≤ 21) ∨ j = 16 ∨ j = 12)) → rI (pe σ2) i j = rI σ i j := fun i j q1 q2 q3 q4 q5 q6 => (c.2.2.1 i j q4 q5 (by omega)).trans (e2 i j q1 q2 q3 (by omega))
  refine ⟨⟨⟨?_, c.1, c.2.1⟩, ?_, ?_, c.2.2.2.2 (fun j => ?_), ?_, fun j hj => ?_⟩, ⟨fun k j hk => ?_, fun j => ?_⟩, ?_, ?_, fun j => ?_⟩
  · obtain ⟨⟨g1, g1b, g1c, g1d⟩, g2, g3, g4, g5⟩ := h1
    refine ⟨⟨?_, ?_, ?_, ?_⟩, fun j hj => ?_, fun j hj => ?_, fun j hj => ?_, fun j hj => ?_⟩
    · rw [e3 _ _ (by decide) (by decide) (by decide) (by decide) (by decide) (by decide)]; exact g1
    · rw [e3 _ _ (by decide) (by decide) (by decide) (by decide) (by decide) (by decide)]; exact g1b
    · rw [e3 _ _ (by decide) (by decide) (by decide) (by decide) (by decide) (by decide)]; exact g1c
    · rw [e3 _ _ (by decide) (by decide) (by decide) (by decide) (by decide) (by decide)]; exact g1d
    · rw [e3 _ _ (by decide) (by decide) (by decide) (by decide) (by decide) (by omega), e3 _ _ (by decide) (by decide) (by decide) (by decide) (by decide) (by omega)]; exact g2 j hj
    · rw [e3 _ _ (by decide) (by decide) (by decide) (by decide) (by decide) (by omega)]; exact g3 j hj
    · rw [e3 _ _ (by decide) (by decide) (by decide) (by decide) (by decide) (by omega)]; exact g4 j hj
    · rw [e3 _ _ (by decide) (by decide) (by decide) (by decide) (by decide) (by omega)]; exact g5 j hj
  · refine a.2.1.of (fun j => ?_)
    rw [c.2.2.1 _ _ (by decide) (by decide) (by omega), e1 _ _ (by decide)]
  · rw [e3 _ _ (by decide) (by decide) (by decide) (by decide) (by decide) (by decide)]; exact h5
  · rw [e2 _ _ (by decide) (by decide) (by decide) (by omega)]; exact h6 j
  · simp only [c2]
    rw [b3 _ _ (by decide), b3 _ _ (by decide), b3 _ _ (by decide), b3 _ _ (by decide), b3 _ _ (by decide)]
    have r : rL σ2 19 27 = M 5 + (hD S (p % 48)).toInt64 := by
      have b6 := b5
      rw [pd, Int64.add_zero] at b6
      rw [b6]
      simp (disch := omega) only [rL_ne]
      rw [a2, m6, pd_z, ← (hD_i (s := p % 48) hB hw).1, ← t64]
    rw [r]
    simp (disch := omega) only [rL_ne, rL_eq]
    exact ⟨rfl, rfl, rfl, rfl, rfl, rfl⟩
  · rw [c.2.2.1 _ _ (by decide) (by decide) (by omega), b4 j hj]
    simp only [rI_sL]
    rw [a3 26 j (by decide) (by decide) (by omega), h8 j hj, a.2.2.2.2.2.2.2.1 j]
    unfold nS
    by_cases q : j < nK S
    · rw [if_pos ⟨Nat.zero_le _, q⟩, if_pos q, if_pos q]
    · rw [if_neg (by omega), if_neg q, Int32.add_zero]
  · exact e3 k j (by omega) (by omega) (by omega) (by omega) (by omega) (by omega)
  · rw [c2, b3 _ _ (by omega)]
    simp (disch := omega) only [rL_ne]
    exact a2 _ _
  · rw [c.2.2.1 _ _ (by decide) (by decide) (by omega), e1 _ _ (by decide)]; exact a.2.2.1
  · exact e3 _ _ (by decide) (by decide) (by decide) (by decide) (by decide) (by decide)
  · rw [c2, b3 _ _ (by omega)]
    simp (disch := omega) only [rL_ne]
    exact a2 _ _
