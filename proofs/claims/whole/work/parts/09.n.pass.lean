theorem Sc.of1 {σ σ' : Sg} {S : Vw} (h : Sc σ S) (e : ∀ k j, 1 ≤ k ∧ k < 10 → rI σ' k j = rI σ k j) : Sc σ' S := by
  obtain ⟨⟨a, b, c, d⟩, f, g, i, k⟩ := h
  refine ⟨⟨?_, ?_, ?_, ?_⟩, fun j hj => ⟨?_, ?_⟩, fun j hj => ?_, fun t ht s hs => ?_, fun s hs => ?_⟩
  · rw [e _ _ (by decide), a]
  · rw [e _ _ (by decide), b]
  · rw [e _ _ (by decide), c]
  · rw [e _ _ (by decide), d]
  · rw [e _ _ (by decide), (f j hj).1]
  · rw [e _ _ (by decide), (f j hj).2]
  · rw [e _ _ (by decide), g j hj]
  · rw [e _ _ (by omega), i t ht s hs]
  · rw [e _ _ (by decide), k s hs]
/-- the meters after a half hour -/
def nM (S w : Vw) (on : Int32) (s : Nat) (M : Mt) : Mt
  | 0 => M 0 + (hK S w on).toInt64
  | 1 => M 1 + (hP S w on).toInt64
  | 2 => M 2 + (rs S w on (nK S)).toInt64
  | 3 => M 3 + (hE S w on * S 5 s).toInt64
  | 4 => M 4 + (hG S w on s).toInt64
  | 5 => M 5 + (hD S s).toInt64
  | k => M k
def nS (S w : Vw) (on : Int32) (s : Nat) (sh : Nat → Int32) (j : Nat) : Int32 := sh j + (if j < nK S then mi S w on s j else 0)
theorem pz_congr {f g : Nat → Int} : ∀ n, (∀ j, j < n → f j = g j) → pz f n = pz g n
  | 0, _ => rfl
  | n + 1, h => by rw [pz, pz, pz_congr n (fun j hj => h j (by omega)), h n (by omega)]
theorem ib_pass {S w O : Vw} {p hz N : Nat} {M : Mt} {on : Int32} {s : Nat} (h : IB S w O p hz M N) : IB S (nx S w on s) (fg O (kI p)) (p + 1) hz (nM S w on s M) (N + 1) := by
  obtain ⟨h1, h2, h3, h4, h5, h6⟩ := h
  refine ⟨h1, nx_b h1 h2, fg_b h3, by omega, h5, ?_⟩
  have k1 := keep (on := on) (s := s) h1 h2 (nK S)
  have k2 : pz (fun k => (nx S w on s 3 k).toInt) (nK S) = pz (fun k => (l2 S w on s k).toInt) (nK S) := pz_congr _ (fun j hj => by
    show (if j < nK S then l2 S w on s j else w 3 j).toInt = _
    rw [if_pos hj])
  have k3 := (hG_i (on := on) (s := s) h1 h2).1
  show M 1 + (hP S w on).toInt64 = (M 4 + (hG S w on s).toInt64) + M 6 + Int64.ofInt (pz (fun k => (nx S w on s 3 k).toInt) (nK S)) + (M 2 + (rs S w on (nK S)).toInt64)
  rw [k2, t64, t64, t64, h6]
  have k4 : pz (fun k => (w 3 k).toInt) (nK S) + (hP S w on).toInt = pz (fun k => (l2 S w on s k).toInt) (nK S) + (rs S w on (nK S)).toInt + (hG S w on s).toInt := by rw [k1, k3]; omega
  have k5 := congrArg Int64.ofInt k4
  rw [Int64.ofInt_add, Int64.ofInt_add, Int64.ofInt_add] at k5
  generalize Int64.ofInt (pz (fun k => (w 3 k).toInt) (nK S)) = a at k5 ⊢
  generalize Int64.ofInt (hP S w on).toInt = b at k5 ⊢
  generalize Int64.ofInt (pz (fun k => (l2 S w on s k).toInt) (nK S)) = c at k5 ⊢
  generalize Int64.ofInt (rs S w on (nK S)).toInt = d at k5 ⊢
  generalize Int64.ofInt (hG S w on s).toInt = e at k5 ⊢
  have r1 : M 4 + M 6 + a + M 2 + b = M 4 + M 6 + M 2 + (a + b) := by ac_rfl
  rw [r1, k5]
  ac_rfl
theorem br_64 {a b c d e : Int64} (h : c + e = d) : a - b + c = (a + d) - (b + e) := by
  have h1 : a = (a - b) + b := (Int64.sub_add_cancel a b).symm
  generalize a - b = q at h1 ⊢
  rw [h1, ← h]
  have r : q + b + (c + e) = q + c + (b + e) := by ac_rfl
  rw [r, Int64.add_sub_cancel]
theorem pp_c {σ : Sg} {S w O : Vw} {p hz N : Nat} {M : Mt} {sh : Nat → Int32} {on : Int32} (hC : IC σ S w O p hz M sh) (hI : IB S w O p hz M N) (hp : p < 90000) : IC (f_X5_passPresent on σ) S (nx S w on (p % 48)) (fg O (kI p)) (p + 1) hz (nM S w on (p % 48) M) (nS S w on (p % 48) sh) ∧ Mc σ (f_X5_passPresent on σ) ∧ rI (f_X5_passPresent on σ) 33 5 = hP S w on := by
  obtain ⟨h1, h2, h3, h4, h5, h6, h7, h8, h9⟩ := hC
  have hB := hI.1
  have hw := hI.2.1
  have hs : p % 48 < 48 := Nat.mod_lt _ (by decide)
  unfold f_X5_passPresent
  rw [h4, slot_c (by omega)]
  have a := lp_c (r := 0) (on := on) hs h1 hB h2
  have af := fr_X4_letPass 0 (kI (p % 48)) on σ
  generalize f_X4_letPass 0 (kI (p % 48)) on σ = σ1 at a af ⊢
  have a2 : ∀ i j, rL σ1 i j = rL σ i j := fun i j => by unfold rL; rw [af.2]
  have b := ad_c σ1
  generalize f_X0_add 0 σ1 = σ2 at b ⊢
  have hlow : ∀ k j, k < 33 → k ≠ 18 → rI σ2 k j = rI σ k j := fun k j q1 q2 => (b.2.1 k j q2).trans (af.1 k j (Or.inl (by unfold sid; omega)))
  have e06 : rI σ2 0 6 = kI p := (hlow 0 6 (by decide) (by decide)).trans h4
  rw [e06]
  have c := fg_c (h := kI p) (h3.of (fun k j hk => hlow k j (by omega) (by omega)) : Oc σ2 O) hI.2.2.1
  generalize f_X1_forget (kI p) σ2 = σ3 at c ⊢
  have c2 : ∀ i j, rL σ3 i j = rL σ2 i j := fun i j => by unfold rL; rw [c.2.2]
  have hl3 : ∀ k j, k < 33 → k ≠ 18 → ¬ (10 ≤ k ∧ k ≤ 12) → ¬ (k = 0 ∧ j = 6) → rI (sI σ3 0 6 (rI σ3 0 6 + 1)) k j = rI σ k j := fun k j q1 q2 q3 q4 => by
    rw [rI_ne (by omega), c.2.1 k j (by omega), hlow k j q1 q2]
  have hs3 : ∀ k j, 33 ≤ k → rI (sI σ3 0 6 (rI σ3 0 6 + 1)) k j = rI σ1 k j := fun k j q => by
    rw [rI_ne (by omega), c.2.1 k j (by omega), b.2.1 k j (by omega)]
  refine ⟨⟨h1.of1 (fun k j hk => ?_), ?_, ?_, ?_, ?_, ⟨?_, fun j => ?_⟩, ?_, fun j hj => ?_, fun j hj hk => ?_⟩, ⟨fun k j hk => ?_, fun j => ?_⟩, ?_⟩
  · exact hl3 k j (by omega) (by omega) (by omega) (by omega)
  · refine ⟨fun j hj => ?_, fun j hj => ?_⟩
    · rw [hs3 _ _ (by decide), hs3 _ _ (by decide), hs3 _ _ (by decide)]; exact a.1.1 j hj
    · rw [hs3 _ _ (by decide)]; exact a.1.2 j hj
  · refine c.1.of (fun k j hk => rI_ne (by omega))
  · rw [rI_eq, c.2.1 _ _ (by decide), e06, kI_succ]
  · rw [hl3 _ _ (by decide) (by decide) (by decide) (by decide)]; exact h5
  · rw [hl3 _ _ (by decide) (by decide) (by decide) (by decide)]; exact h6.1
  · rw [hl3 _ _ (by decide) (by decide) (by decide) (by omega)]; exact h6.2 j
  · obtain ⟨m1, m2, m3, m4, m5, m6, m7, m8⟩ := h7
    obtain ⟨_, p5, p6, p7, p8, p9, p10, p11, _, _⟩ := a
    obtain ⟨_, _, _, q1, q2, q3, q4, q5, q6, q7, q8⟩ := b
    simp only [rL_sI, c2]
    rw [q1, q2, q3, q4, q5, q6, q7, q8]
    simp only [a2]
    rw [m1, m2, m3, m4, m5, m6, m7, m8]
    have z5 : rI σ1 33 5 = hP S w on := p5
    have z6 : rI σ1 33 6 = hK S w on := p6
    have z7 : rI σ1 33 7 = hB_ S w on := p7
    have z8 : rI σ1 33 8 = hE S w on * S 5 (p % 48) := p8
    have z9 : rI σ1 33 9 = rs S w on (nK S) := p9
    have z10 : rI σ1 33 10 = hG S w on (p % 48) := p10
    have z11 : rI σ1 33 11 = hD S (p % 48) := p11
    rw [z5, z6, z7, z8, z9, z10, z11]
    refine ⟨rfl, rfl, ?_, rfl, rfl, rfl, rfl, rfl⟩
    show _ = (M 0 + (hK S w on).toInt64) - (M 1 + (hP S w on).toInt64)
    refine br_64 ?_
    rw [t64, t64, t64, ← Int64.ofInt_add, hB_i hB hw]
    congr 1
    omega
  · rw [rI_ne (by omega), c.2.1 _ _ (by decide), b.1 j hj, af.1 18 j (Or.inl (by decide)), h8 j hj]
    have z := a.2.2.2.2.2.2.2.2.2 j
    have z2 : rI σ1 38 j = if j < nK S then mi S w on (p % 48) j else rI σ 38 j := z
    rw [z2]
    unfold nS
    by_cases q : j < nK S
    · rw [if_pos q, if_pos q]
    · rw [if_neg q, if_neg q, h9 j (by omega) hj]
  · rw [hs3 _ _ (by decide)]
    have z2 : rI σ1 38 j = if j < nK S then mi S w on (p % 48) j else rI σ 38 j := a.2.2.2.2.2.2.2.2.2 j
    rw [z2, if_neg (by omega)]
    exact h9 j hj hk
  · exact hl3 k j (by omega) (by omega) (by omega) (by omega)
  · rw [rL_sI, c2, b.2.2.1 _ _ (by decide), a2]
  · rw [hs3 _ _ (by decide)]; exact a.2.1
