theorem kI_sub {a k : Nat} (h : k ≤ a) (ha : a < 1000000) : kI a - kI k = kI (a - k) := by
  apply Int32.toInt_inj.mp
  have e1 := kI_int (k := a) (by omega)
  have e2 := kI_int (k := k) (by omega)
  rw [j_sub (by omega) (by omega), e1, e2, kI_int (by omega)]
  omega
theorem kI_div {p n : Nat} (hp : p < 1000000) (hn : 0 < n ∧ n < 1000000) : kI p / kI n = kI (p / n) := by
  apply Int32.toInt_inj.mp
  have e1 := kI_int (k := p) (by omega)
  have e2 := kI_int (k := n) (by omega)
  have h3 : p / n ≤ p := Nat.div_le_self _ _
  rw [j_div (by omega), e1, e2, kI_int (by omega)]
  rfl
theorem kI_mul (a b : Nat) : kI a * kI b = kI (a * b) := by
  unfold kI
  rw [← Int32.ofNat_mul]
theorem kI_mod {p : Nat} (hp : p < 1000000) : kI p - kI p / 48 * 48 = kI (p % 48) := by
  rw [show (48 : Int32) = kI 48 from rfl, kI_div hp (by decide), kI_mul, kI_sub (Nat.div_mul_le_self p 48) hp]
  congr 1
  have := Nat.div_add_mod p 48
  omega
theorem xor_nn {x y : Int32} (hx : 0 ≤ x.toInt) (hy : 0 ≤ y.toInt) : 0 ≤ (x ^^^ y).toInt := by
  have h1 : x.toBitVec.msb = false := by rw [BitVec.msb_eq_toInt]; exact decide_eq_false (by show ¬ x.toInt < 0; omega)
  have h2 : y.toBitVec.msb = false := by rw [BitVec.msb_eq_toInt]; exact decide_eq_false (by show ¬ y.toInt < 0; omega)
  have h3 : (x ^^^ y).toBitVec.msb = false := by
    rw [Int32.toBitVec_xor, BitVec.msb_xor, h1, h2]; rfl
  rw [BitVec.msb_eq_toInt] at h3
  have h4 := of_decide_eq_false h3
  show 0 ≤ (x ^^^ y).toBitVec.toInt
  omega
theorem slot_c {p : Nat} {σ : Sg} (hp : p < 1000000) : f_X5_slotOf (kI p) σ = kI (p % 48) := by
  unfold f_X5_slotOf f_J9_floorMod_7cf53
  rw [if_pos, kI_mod hp]
  rw [i_le]
  exact xor_nn (by rw [kI_int (by omega)]; omega) (by decide)
set_option maxRecDepth 100000 in
theorem bit_t : ∀ s, s < 64 → ∀ m, m < 6 → ((kI s >>> (kI m &&& 31)) &&& 1) = kI (s / 2 ^ m % 2) := by decide +kernel
theorem bit_01 (s m : Nat) : kI (s / 2 ^ m % 2) = 0 ∨ kI (s / 2 ^ m % 2) = 1 := by
  have h : s / 2 ^ m % 2 = 0 ∨ s / 2 ^ m % 2 = 1 := by omega
  rcases h with h | h
  · rw [h]; exact Or.inl rfl
  · rw [h]; exact Or.inr rfl
theorem vs_bit {S : Vw} {tl : Nat → Int32} {sl : Nat → Nat} (n d : Nat) (w : Vw) (s : Nat) : vs S tl sl (n + 1) d w (s % 2 ^ (n + 1)) = vb S tl sl d w (kI (s / 2 ^ n % 2)) (fun w' => vs S tl sl n (d + 1) w' (s % 2 ^ n)) := by
  have e : s % 2 ^ (n + 1) = s % 2 ^ n + 2 ^ n * (s / 2 ^ n % 2) := Nat.mod_pow_succ
  have hl : s % 2 ^ n < 2 ^ n := Nat.mod_lt _ (Nat.two_pow_pos n)
  rw [vs]
  have h : s / 2 ^ n % 2 = 0 ∨ s / 2 ^ n % 2 = 1 := by omega
  rcases h with h | h
  · have e2 : s % 2 ^ (n + 1) = s % 2 ^ n := by rw [e, h, Nat.mul_zero]; rfl
    rw [e2, if_pos hl, h]; rfl
  · rw [h, Nat.mul_one] at e
    rw [e, if_neg (by omega), h, Nat.add_sub_cancel]; rfl
theorem tb_c {σ : Sg} {len k s : Nat} (h : rI σ 13 5 = kI len) (hk : k < len) (hl : len ≤ 6) (hs : s < 64) : f_X2_toldBy (kI s) (kI k) σ = kI (s / 2 ^ (len - 1 - k) % 2) := by
  unfold f_X2_toldBy
  rw [h, show (1 : Int32) = kI 1 from rfl, kI_sub (by omega) (by omega), kI_sub (by omega) (by omega)]
  exact bit_t s hs _ (by omega)
/-- costOf from index k on -/
theorem co_c {S : Vw} {tl : Nat → Int32} {sl : Nat → Nat} {len s : Nat} (hB : BS S) (hl : len ≤ 6) (hs : s < 64) : ∀ (n k f : Nat) (x : Int32) (σ : Sg) (w : Vw), k + n = len → n < f → PL σ S tl sl len → BR S w → Rc (k + 1) σ w → (f_X2_costOf_l4 (kI s) f (kI k) x σ).1 = (match vs S tl sl n k w (s % 2 ^ n) with | none => 1000000000 | some c => x + c) ∧ Pd k σ (f_X2_costOf_l4 (kI s) f (kI k) x σ).2
  | 0, k, f, x, σ, w, hk, hf, hP, hw, hR => by
    obtain ⟨f, rfl⟩ : ∃ q, f = q + 1 := ⟨f - 1, by omega⟩
    rw [f_X2_costOf_l4, hP.2.1, if_pos (by rw [i_le, kI_int (by omega), kI_int (by omega)]; omega)]
    exact ⟨by rw [vs]; exact (Int32.add_zero x).symm, Pd.refl⟩
  | n + 1, k, f, x, σ, w, hk, hf, hP, hw, hR => by
    obtain ⟨f, rfl⟩ : ∃ q, f = q + 1 := ⟨f - 1, by omega⟩
    have eb : len - 1 - k = n := by omega
    rw [f_X2_costOf_l4, hP.2.1, if_neg (by rw [i_le, kI_int (by omega), kI_int (by omega)]; omega), tb_c hP.2.1 (by omega) hl hs, eb, vs_bit, ao_c hP (by omega) hl]
    have hc := cp_c hP hB hw (by omega) hl hR (bit_01 s n)
    unfold vb
    by_cases c1 : tl k = -1 ∨ tl k = kI (s / 2 ^ n % 2)
    · rw [if_pos c1, if_pos c1, if_neg (by decide), hc.1]
      by_cases c2 : al S w (kI (s / 2 ^ n % 2)) (sl k) (nK S) = 0
      · rw [if_pos c2, if_pos c2, if_pos rfl]
        exact ⟨rfl, hc.2.2.2.1⟩
      · rw [if_neg c2, if_neg c2, if_neg (by decide), kI_succ, show (kI (k + 1)).toNatClampNeg + 1 = k + 2 by rw [kI_nat (by omega)], hc.2.2.1]
        have h := co_c hB hl hs n (k + 1) f (x + hE S w (kI (s / 2 ^ n % 2)) * S 5 (sl k)) _ _ (by omega) (by omega) (hc.2.2.2.1.pl hP) (nx_b hB hw) hc.2.1
        refine ⟨?_, hc.2.2.2.1.trans h.2.up⟩
        rw [h.1]
        dsimp only
        cases vs S tl sl n (k + 1) (nx S w (kI (s / 2 ^ n % 2)) (sl k)) (s % 2 ^ n) with
        | none => rfl
        | some c => exact Int32.add_assoc _ _ _
    · rw [if_neg c1, if_neg c1, if_pos rfl]
      exact ⟨rfl, Pd.refl⟩
theorem cost_c {S : Vw} {tl : Nat → Int32} {sl : Nat → Nat} {len s : Nat} {σ : Sg} {w : Vw} (hB : BS S) (hl : len ≤ 6) (hs : s < 2 ^ len) (hP : PL σ S tl sl len) (hw : BR S w) (hR : Rc 1 σ w) : (f_X2_costOf (kI s) σ).1 = (match vs S tl sl len 0 w s with | none => 1000000000 | some c => c) ∧ Pd 0 σ (f_X2_costOf (kI s) σ).2 := by
  have h6 : (2 : Nat) ^ len ≤ 2 ^ 6 := Nat.pow_le_pow_right (by decide) hl
  have h := co_c hB hl (s := s) (by omega) len 0 7 0 σ w (by omega) (by omega) hP hw hR
  rw [Nat.mod_eq_of_lt hs] at h
  refine ⟨?_, h.2⟩
  show (f_X2_costOf_l4 (kI s) 7 (kI 0) 0 σ).1 = _
  rw [h.1]
  cases vs S tl sl len 0 w s with
  | none => rfl
  | some c => exact Int32.zero_add c
/-- what the orders tell of the half hour p + i; its slot -/
def tlO (O : Vw) (p : Nat) (i : Nat) : Int32 := te O (kI (p + i))
def slP (p : Nat) (i : Nat) : Nat := (p + i) % 48
theorem Oc.of {σ σ' : Sg} {O : Vw} (h : Oc σ O) (e : ∀ k j, 10 ≤ k ∧ k ≤ 12 → rI σ' k j = rI σ k j) : Oc σ' O := by
  refine ⟨by rw [e _ _ (by decide)]; exact h.1, fun j hj => ?_⟩
  rw [e _ _ (by decide), e _ _ (by decide)]
  exact h.2 j hj
theorem be_loop {S O : Vw} {p len : Nat} {nh : Int32} (hO : BO O) (hp : p < 900000) (hl : len ≤ 6) : ∀ (n k : Nat) (σ : Sg), k + n = 7 → k ≤ len → Sc σ S → Oc σ O → rI σ 13 5 = kI len → (∀ i, i < k → rI σ 15 i = tlO O p i ∧ rI σ 16 i = kI (slP p i)) → PL (f_X2_begin_l23 (kI p) nh n (kI k) σ) S (tlO O p) (slP p) len
  | 0, k, σ, h0, h1, hS, hOc, h5, hi => absurd h0 (by omega)
  | n + 1, k, σ, h0, h1, hS, hOc, h5, hi => by
    rw [f_X2_begin_l23, h5]
    by_cases c : len ≤ k
    · rw [if_pos (by rw [i_le, kI_int (by omega), kI_int (by omega)]; omega)]
      exact ⟨hS, h5, fun i h => ⟨(hi i (by omega)).1, (hi i (by omega)).2, Nat.mod_lt _ (by decide)⟩⟩
    · rw [if_neg (by rw [i_le, kI_int (by omega), kI_int (by omega)]; omega), kI_nat (by omega), kI_a, te_c hOc hO, slot_c (by omega), kI_succ]
      refine be_loop hO hp hl n (k + 1) _ (by omega) (by omega) (hS.of (fun i j hij => by rw [rI_ne (by omega), rI_ne (by omega)])) (hOc.of (fun i j hij => by rw [rI_ne (by omega), rI_ne (by omega)])) (by rw [rI_ne (by omega), rI_ne (by omega)]; exact h5) (fun i h => ?_)
      by_cases q : i = k
      · subst q
        rw [rI_ne (by omega), rI_eq, rI_eq]
        exact ⟨rfl, rfl⟩
      · rw [rI_ne (by omega), rI_ne (by omega), rI_ne (by omega), rI_ne (by omega)]
        exact hi i (by omega)
theorem be_c {σ : Sg} {S O w : Vw} {p len : Nat} (hO : BO O) (hp : p < 900000) (hl : len ≤ 6) (hS : Sc σ S) (hOc : Oc σ O) (hR : Rc 0 σ w) : PL (f_X2_begin (kI p) (kI len) σ) S (tlO O p) (slP p) len ∧ Rc 1 (f_X2_begin (kI p) (kI len) σ) w := by
  have e6 : (if 6 < kI len then (6 : Int32) else kI len) = kI len := by
    rw [if_neg]; rw [i_lt, kI_int (by omega)]
    have : (6 : Int32).toInt = 6 := rfl
    omega
  have hf := fr_X4_copy 1 0 σ
  have hlow : ∀ k j, k < 33 → k ≠ 13 → rI (sI (f_X4_copy 1 0 σ) 13 5 (kI len)) k j = rI σ k j := fun k j h1 h2 => by rw [rI_ne (by omega)]; exact hf.lo h1
  unfold f_X2_begin
  rw [e6]
  have h := be_loop (S := S) (nh := kI len) hO hp hl 7 0 (sI (f_X4_copy 1 0 σ) 13 5 (kI len)) rfl (Nat.zero_le _) (hS.of (fun k j hk => hlow k j (by omega) (by omega))) (hOc.of (fun k j hk => hlow k j (by omega) (by omega))) (rI_eq _ _ _ _) (fun i hi => absurd hi (by omega))
  refine ⟨h, ?_⟩
  have hc := copy_c (r := 1) (r2 := 0) (by decide) hR
  have hg : ∀ k j, 39 ≤ k → rI (f_X2_begin_l23 (kI p) (kI len) 7 0 (sI (f_X4_copy 1 0 σ) 13 5 (kI len))) k j = rI (f_X4_copy 1 0 σ) k j := by
    have aux : ∀ n (x : Int32) (τ : Sg), ∀ k j, 39 ≤ k → rI (f_X2_begin_l23 (kI p) (kI len) n x τ) k j = rI τ k j := by
      intro n
      induction n with
      | zero => intro x τ k j hk; rfl
      | succ n ih =>
        intro x τ k j hk
        rw [f_X2_begin_l23]
        split
        · rfl
        · rw [ih _ _ k j hk, rI_ne (by omega), rI_ne (by omega)]
    intro k j hk
    rw [aux _ _ _ k j hk, rI_ne (by omega)]
  refine ⟨fun j hj => ?_, fun j hj => ?_⟩
  · rw [hg _ _ (by decide), hg _ _ (by decide), hg _ _ (by decide)]; exact hc.1 j hj
  · rw [hg _ _ (by decide)]; exact hc.2 j hj
/-- findBest leaves the least cost and the first schedule that has it -/
theorem fb_c {σ : Sg} {S O w : Vw} {p len : Nat} (hB : BS S) (hw : BR S w) (hO : BO O) (hp : p < 900000) (hl : len ≤ 6) (hS : Sc σ S) (hOc : Oc σ O) (hR : Rc 0 σ w) : ∃ L B, fo (vs S (tlO O p) (slP p) len 0 w) 0 0 (2 ^ len) (1000000000, 0) = (L, B) ∧ rI (f_X2_findBest (kI p) (kI len) σ) 13 7 = L ∧ rI (f_X2_findBest (kI p) (kI len) σ) 13 6 = kI B ∧ rI (f_X2_findBest (kI p) (kI len) σ) 13 5 = kI len := by
  have h := be_c hO hp hl hS hOc hR
  have hq : Pd 0 (f_X2_begin (kI p) (kI len) σ) (sI (sI (f_X2_begin (kI p) (kI len) σ) 13 6 0) 13 7 1000000000) := fun i j h1 h2 => by rw [rI_ne (by omega), rI_ne (by omega)]
  have hP := hq.pl h.1
  have hR1 := hq.rc h.2
  have hs := se_c hB hl len 7 0 (sI (sI (f_X2_begin (kI p) (kI len) σ) 13 6 0) 13 7 1000000000) w 0 0 (by omega) (by omega) hP hw hR1 (bd_0 (by omega) (by omega))
  obtain ⟨L, B, g1, g2, g3, g4⟩ := hs.2 1000000000 0 (rI_eq _ _ _ _) (by rw [rI_ne (by omega), rI_eq]; rfl) ⟨by decide, by decide⟩
  rw [Nat.zero_mul] at g1
  exact ⟨L, B, g1, g2, g3, (hs.1.pl hP).2.1⟩
