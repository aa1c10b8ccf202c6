theorem fo_B {f : Nat → Option Int32} {co : Int32} {base : Nat} {p : Int32 × Nat} : ∀ k, (fo f co base k p).2 = p.2 ∨ (fo f co base k p).2 < base + k
  | 0 => Or.inl rfl
  | k + 1 => by
    have ih := fo_B (f := f) (co := co) (base := base) (p := p) k
    rw [fo]
    cases f k with
    | none =>
      dsimp only
      rcases ih with h | h
      · exact Or.inl h
      · exact Or.inr (by omega)
    | some c =>
      dsimp only
      split
      · exact Or.inr (by show base + k < _; omega)
      · rcases ih with h | h
        · exact Or.inl h
        · exact Or.inr (by omega)
/-- the best of n half hours -/
def bs (S w O : Vw) (p n : Nat) : Int32 × Nat := fo (vs S (tlO O p) (slP p) n 0 w) 0 0 (2 ^ n) (1000000000, 0)
def bn (S w O : Vw) (p n : Nat) : Nat := cn (vs S (tlO O p) (slP p) n 0 w) (2 ^ n)
theorem bs_B {S w O : Vw} {p n : Nat} (hn : n ≤ 6) : (bs S w O p n).2 < 64 := by
  have h6 : (2 : Nat) ^ n ≤ 2 ^ 6 := Nat.pow_le_pow_right (by decide) hn
  rcases fo_B (f := vs S (tlO O p) (slP p) n 0 w) (co := 0) (base := 0) (p := (1000000000, 0)) (2 ^ n) with h | h
  · unfold bs; rw [h]; decide
  · unfold bs; omega
theorem bs_n {S w O : Vw} {p n : Nat} (hB : BS S) (hw : BR S w) (hn : n ≤ 6) : (bn S w O p n = 0 → bs S w O p n = (1000000000, 0)) ∧ (bn S w O p n ≠ 0 → bd 0 999999999 (bs S w O p n).1) :=
  fo_cn _ (fun s c _ he => (vs_b hB n 0 w s c (by omega) hw he).mono (by decide) (by omega))
theorem bs_iff {S w O : Vw} {p n : Nat} (hB : BS S) (hw : BR S w) (hn : n ≤ 6) : (1000000000 ≤ (bs S w O p n).1) ↔ bn S w O p n = 0 := by
  have h := bs_n (O := O) (p := p) hB hw hn
  constructor
  · intro q
    refine Classical.byContradiction fun z => ?_
    have h2 := (h.2 z).2
    rw [i_le] at q
    have : (1000000000 : Int32).toInt = 1000000000 := rfl
    omega
  · intro z
    rw [h.1 z]
    decide
/-- findBest keeps the class's side -/
theorem ic_fp {σ σ' : Sg} {S w O : Vw} {p hz : Nat} {M : Mt} {sh : Nat → Int32} (h : IC σ S w O p hz M sh) (f : Fp σ σ') (g : GP σ') : IC σ' S w O p hz M sh ∧ Mc σ σ' := by
  obtain ⟨h1, h2, h3, h4, h5, h6, h7, h8, h9⟩ := h
  have e := f.1
  have e2 : ∀ i j, rL σ' i j = rL σ i j := fun i j => by unfold rL; rw [f.2]
  refine ⟨⟨h1.of (fun k j hk => e k j (by omega) (by omega)), ⟨fun j hj => ?_, fun j hj => ?_⟩, h3.of (fun k j hk => e k j (by omega) (by omega)), ?_, ?_, g.2, ?_, fun j hj => ?_, fun j hj hk => ?_⟩, fun k j hk => e k j (by omega) (by omega), fun j => e2 _ _⟩
  · rw [e (sid 0 + 1) _ (by decide) (by decide), e (sid 0 + 2) _ (by decide) (by decide), e (sid 0 + 3) _ (by decide) (by decide)]; exact h2.1 j hj
  · rw [e (sid 0 + 4) _ (by decide) (by decide)]; exact h2.2 j hj
  · rw [e _ _ (by decide) (by decide)]; exact h4
  · rw [e _ _ (by decide) (by decide)]; exact h5
  · simp only [e2]; exact h7
  · rw [e _ _ (by decide) (by decide)]; exact h8 j hj
  · rw [e _ _ (by decide) (by decide)]; exact h9 j hj hk
theorem ic_gp {σ : Sg} {S w O : Vw} {p hz N : Nat} {M : Mt} {sh : Nat → Int32} (h : IC σ S w O p hz M sh) (hI : IB S w O p hz M N) : GP σ := by
  have b1 := hI.1.1
  have b2 := hI.1.2.1
  unfold bd at b1 b2
  exact ⟨⟨by rw [h.1.1.1]; omega, by rw [h.1.1.2.1]; omega⟩, h.2.2.2.2.2.1⟩
theorem fb_i {σ : Sg} {S w O : Vw} {p hz n N : Nat} {M : Mt} {sh : Nat → Int32} (h : IC σ S w O p hz M sh) (hI : IB S w O p hz M N) (hp : p < 90000) (hn : n ≤ 6) : IC (f_X2_findBest (kI p) (kI n) σ) S w O p hz M sh ∧ Mc σ (f_X2_findBest (kI p) (kI n) σ) ∧ rI (f_X2_findBest (kI p) (kI n) σ) 13 7 = (bs S w O p n).1 ∧ rI (f_X2_findBest (kI p) (kI n) σ) 13 6 = kI (bs S w O p n).2 ∧ rI (f_X2_findBest (kI p) (kI n) σ) 13 5 = kI n ∧ (∀ j, rL (f_X2_findBest (kI p) (kI n) σ) 31 j = rL σ 31 j) := by
  have a := ic_fp h (fp_X2_findBest (kI p) (kI n) σ) (gp_X2_findBest (kI p) (kI n) σ (ic_gp h hI) ⟨by rw [kI_int (by omega)]; omega, by rw [kI_int (by omega)]; omega⟩)
  obtain ⟨L, B, g1, g2, g3, g4⟩ := fb_c (p := p) hI.1 hI.2.1 hI.2.2.1 (by omega) hn h.1 h.2.2.1 h.2.1
  have e : bs S w O p n = (L, B) := g1
  rw [e]
  exact ⟨a.1, a.2, g2, g3, g4, fun j => by unfold rL; rw [(fp_X2_findBest (kI p) (kI n) σ).2]⟩
theorem lk_i {σ : Sg} {S w O : Vw} {p hz n N : Nat} {M : Mt} {sh : Nat → Int32} (h : IM σ S w O p hz M sh) (hI : IB S w O p hz M N) (hp : p < 90000) (hn : n ≤ 6) : IM (f_X6_looks (kI n) σ) S w O p hz M sh ∧ Cc σ (f_X6_looks (kI n) σ) ∧ rI (f_X6_looks (kI n) σ) 19 31 = kI (bn S w O p n) ∧ (bn S w O p n ≠ 0 → rI (f_X6_looks (kI n) σ) 19 30 = (bs S w O p n).1 ∧ rI (f_X6_looks (kI n) σ) 19 29 = kI (bs S w O p n).2) ∧ rI (f_X6_looks (kI n) σ) 19 32 = rI σ 19 32 ∧ (∀ j, rL (f_X6_looks (kI n) σ) 31 j = rL σ 31 j) := by
  obtain ⟨h1, h4, h5, h6, h7, h8⟩ := h
  have f := ml_X6_looks (kI n) σ
  have e := f.1
  have e2 : ∀ i j, rL (f_X6_looks (kI n) σ) i j = rL σ i j := fun i j => by unfold rL; rw [f.2]
  have a := lo_c hI.1 hI.2.1 hI.2.2.1 (by omega) hn h1 h4
  refine ⟨⟨h1.ml f, a.2, ?_, fun j => ?_, ?_, fun j hj => ?_⟩, ⟨fun k j hk => e k j (by omega) (by omega) (by omega) (by omega), fun j => e2 _ _⟩, a.1.1, a.1.2, ?_, fun j => e2 _ _⟩
  · rw [e _ _ (by decide) (by decide) (by decide) (by decide)]; exact h5
  · rw [e _ _ (by decide) (by decide) (by decide) (by omega)]; exact h6 j
  · simp only [e2]; exact h7
  · rw [e _ _ (by decide) (by decide) (by decide) (by omega)]; exact h8 j hj
  · exact e _ _ (by decide) (by decide) (by decide) (by decide)
theorem bit_hz {b n : Nat} (hb : b < 64) (hn : 1 ≤ n ∧ n ≤ 6) {k : Nat} (hk : k < n) : (kI b >>> (((kI n - 1) - kI k) &&& 31)) &&& 1 = kI (b / 2 ^ (n - 1 - k) % 2) := bitm hk hn.2 hb
/-- whether the half hour is on in a run -/
def dc (S : Vw) (hz : Nat) (w O : Vw) (p : Nat) : Int32 := if te O (kI p) = -1 then (if bn S w O p hz = 0 then 1 else kI ((bs S w O p hz).2 / 2 ^ (hz - 1) % 2)) else te O (kI p)
theorem dc_01 {S : Vw} {hz : Nat} {w O : Vw} {p : Nat} (hO : BO O) : dc S hz w O p = 0 ∨ dc S hz w O p = 1 := by
  unfold dc
  split
  · split
    · exact Or.inr rfl
    · exact bit_01 _ _
  · rename_i c
    rcases te_v (h := kI p) hO with h | h
    · exact absurd h c
    · exact h
abbrev A5 := Vw × Vw × Nat × Mt × (Nat → Int32)
def sp (S : Vw) (hz : Nat) (a : A5) : A5 := (nx S a.1 (dc S hz a.1 a.2.1 a.2.2.1) (a.2.2.1 % 48), fg a.2.1 (kI a.2.2.1), a.2.2.1 + 1, nM S a.1 (dc S hz a.1 a.2.1 a.2.2.1) (a.2.2.1 % 48) a.2.2.2.1, nS S a.1 (dc S hz a.1 a.2.1 a.2.2.1) (a.2.2.1 % 48) a.2.2.2.2)
def it (S : Vw) (hz : Nat) : Nat → A5 → A5
  | 0, a => a
  | n + 1, a => it S hz n (sp S hz a)
def ct (S : Vw) (hz : Nat) : Nat → A5 → Int32 → Int32
  | 0, _, x => x
  | n + 1, a, x => ct S hz n (sp S hz a) (x + dc S hz a.1 a.2.1 a.2.2.1)
def ICa (σ : Sg) (S : Vw) (hz : Nat) (a : A5) : Prop := IC σ S a.1 a.2.1 a.2.2.1 hz a.2.2.2.1 a.2.2.2.2
def IMa (σ : Sg) (S : Vw) (hz : Nat) (a : A5) : Prop := IM σ S a.1 a.2.1 a.2.2.1 hz a.2.2.2.1 a.2.2.2.2
def IBa (S : Vw) (hz : Nat) (a : A5) (N : Nat) : Prop := IB S a.1 a.2.1 a.2.2.1 hz a.2.2.2.1 N
theorem ib_sp {S : Vw} {hz N : Nat} {a : A5} (h : IBa S hz a N) : IBa S hz (sp S hz a) (N + 1) := ib_pass h
theorem ib_it {S : Vw} {hz : Nat} : ∀ (n N : Nat) (a : A5), IBa S hz a N → IBa S hz (it S hz n a) (N + n)
  | 0, N, a, h => h
  | n + 1, N, a, h => by
    have := ib_it n (N + 1) _ (ib_sp h)
    rw [Nat.add_right_comm] at this
    exact this
/-- the class's run -/
theorem rc_loop {S : Vw} {hz nh : Nat} (hh : nh ≤ 12) : ∀ (n k f N : Nat) (x : Int32) (σ : Sg) (a : A5), k + n = nh → n < f → ICa σ S hz a → IBa S hz a N → N + n < 90000 → ∃ σ', f_X5_run_l11 (kI nh) f (kI k) x σ = (0, ct S hz n a x, σ') ∧ ICa σ' S hz (it S hz n a) ∧ Mc σ σ'
  | 0, k, f, N, x, σ, a, h0, hf, hC, hI, hN => by
    obtain ⟨f, rfl⟩ : ∃ q, f = q + 1 := ⟨f - 1, by omega⟩
    rw [f_X5_run_l11, if_pos (by rw [i_le, kI_int (by omega), kI_int (by omega)]; omega)]
    exact ⟨σ, rfl, hC, Mc.refl⟩
  | n + 1, k, f, N, x, σ, a, h0, hf, hC, hI, hN => by
    obtain ⟨f, rfl⟩ : ∃ q, f = q + 1 := ⟨f - 1, by omega⟩
    have hp : a.2.2.1 < 90000 := by have := hI.2.2.2.1; omega
    have hz6 := hI.2.2.2.2.1
    have step : ∀ (τ : Sg) (d y : Int32), ICa τ S hz a → Mc σ τ → d = dc S hz a.1 a.2.1 a.2.2.1 → y = x + d → ∃ σ', f_X5_run_l11 (kI nh) f (kI k + 1) y (f_X5_passPresent d τ) = (0, ct S hz (n + 1) a x, σ') ∧ ICa σ' S hz (it S hz (n + 1) a) ∧ Mc σ σ' := by
      intro τ d y h1 h2 h3 h4
      have q := pp_c (on := d) h1 hI hp
      rw [h3] at q
      rw [kI_succ, h4, h3]
      obtain ⟨σ', g1, g2, g3⟩ := rc_loop hh n (k + 1) f (N + 1) (x + dc S hz a.1 a.2.1 a.2.2.1) _ (sp S hz a) (by omega) (by omega) q.1 (ib_sp hI) (by omega)
      exact ⟨σ', g1, g2, (h2.trans q.2.1).trans g3⟩
    rw [f_X5_run_l11, if_neg (by rw [i_le, kI_int (by omega), kI_int (by omega)]; omega), hC.2.2.2.1, hC.2.2.2.2.1, te_c hC.2.2.1 hI.2.2.1]
    by_cases c : te a.2.1 (kI a.2.2.1) = -1
    · rw [if_pos c]
      have b := fb_i (n := hz) hC hI hp hz6.2
      rw [b.2.2.1, b.2.2.2.1]
      by_cases c2 : bn S a.1 a.2.1 a.2.2.1 hz = 0
      · rw [if_pos ((bs_iff hI.1 hI.2.1 hz6.2).mpr c2)]
        have ed : (1 : Int32) = dc S hz a.1 a.2.1 a.2.2.1 := by unfold dc; rw [if_pos c, if_pos c2]
        exact step _ 1 _ b.1 b.2.1 ed rfl
      · rw [if_neg (fun z => c2 ((bs_iff hI.1 hI.2.1 hz6.2).mp z))]
        have et := tb_c (σ := f_X2_findBest (kI a.2.2.1) (kI hz) σ) (len := hz) (k := 0) (s := (bs S a.1 a.2.1 a.2.2.1 hz).2) b.2.2.2.2.1 (by omega) hz6.2 (bs_B hz6.2)
        have ed : kI ((bs S a.1 a.2.1 a.2.2.1 hz).2 / 2 ^ (hz - 1 - 0) % 2) = dc S hz a.1 a.2.1 a.2.2.1 := by unfold dc; rw [if_pos c, if_neg c2, Nat.sub_zero]
        have et' : f_X2_toldBy (kI (bs S a.1 a.2.1 a.2.2.1 hz).2) 0 (f_X2_findBest (kI a.2.2.1) (kI hz) σ) = dc S hz a.1 a.2.1 a.2.2.1 := et.trans ed
        rw [et']
        rcases dc_01 (S := S) (hz := hz) (w := a.1) (p := a.2.2.1) hI.2.2.1 with z | z
        · rw [if_neg (by rw [z]; decide)]
          exact step _ 0 _ b.1 b.2.1 z.symm (by rw [z])
        · rw [if_pos z]
          exact step _ 1 _ b.1 b.2.1 z.symm (by rw [z])
    · rw [if_neg c]
      have ed : te a.2.1 (kI a.2.2.1) = dc S hz a.1 a.2.1 a.2.2.1 := by unfold dc; rw [if_neg c]
      rw [ed]
      rcases dc_01 (S := S) (hz := hz) (w := a.1) (p := a.2.2.1) hI.2.2.1 with z | z
      · rw [if_neg (by rw [z]; decide)]
        exact step _ 0 _ hC Mc.refl z.symm (by rw [z])
      · rw [if_pos z]
        exact step _ 1 _ hC Mc.refl z.symm (by rw [z])
/-- the model's run -/
theorem rm_loop {S : Vw} {hz nh : Nat} (hh : nh ≤ 12) : ∀ (n k f N : Nat) (x : Int32) (σ : Sg) (a : A5), k + n = nh → n < f → IMa σ S hz a → IBa S hz a N → N + n < 90000 → ∃ σ', f_X6_run_l34 (kI nh) f (kI k) x σ = (ct S hz n a x, σ') ∧ IMa σ' S hz (it S hz n a) ∧ Cc σ σ' ∧ rI σ' 19 32 = rI σ 19 32 ∧ (∀ j, rL σ' 31 j = rL σ 31 j)
  | 0, k, f, N, x, σ, a, h0, hf, hC, hI, hN => by
    obtain ⟨f, rfl⟩ : ∃ q, f = q + 1 := ⟨f - 1, by omega⟩
    rw [f_X6_run_l34, if_pos (by rw [i_le, kI_int (by omega), kI_int (by omega)]; omega)]
    exact ⟨σ, rfl, hC, Cc.refl, rfl, fun _ => rfl⟩
  | n + 1, k, f, N, x, σ, a, h0, hf, hC, hI, hN => by
    obtain ⟨f, rfl⟩ : ∃ q, f = q + 1 := ⟨f - 1, by omega⟩
    have hp : a.2.2.1 < 90000 := by have := hI.2.2.2.1; omega
    have hz6 := hI.2.2.2.2.1
    have step : ∀ (τ : Sg) (d y : Int32), IMa τ S hz a → Cc σ τ → rI τ 19 32 = rI σ 19 32 → (∀ j, rL τ 31 j = rL σ 31 j) → d = dc S hz a.1 a.2.1 a.2.2.1 → y = x + d → ∃ σ', f_X6_run_l34 (kI nh) f (kI k + 1) y (f_X6_passes d τ) = (ct S hz (n + 1) a x, σ') ∧ IMa σ' S hz (it S hz (n + 1) a) ∧ Cc σ σ' ∧ rI σ' 19 32 = rI σ 19 32 ∧ (∀ j, rL σ' 31 j = rL σ 31 j) := by
      intro τ d y h1 h2 h32 h31 h3 h4
      have q := ps_m (on := d) h1 hI hp
      rw [h3] at q
      rw [kI_succ, h4, h3]
      obtain ⟨σ', g1, g2, g3, g4, g5⟩ := rm_loop hh n (k + 1) f (N + 1) (x + dc S hz a.1 a.2.1 a.2.2.1) _ (sp S hz a) (by omega) (by omega) q.1 (ib_sp hI) (by omega)
      exact ⟨σ', g1, g2, (h2.trans q.2.1).trans g3, g4.trans (q.2.2.2.1.trans h32), fun j => (g5 j).trans ((q.2.2.2.2 j).trans (h31 j))⟩
    have hte := te_m (h := kI a.2.2.1) hC.1.2.1 hI.2.2.1
    rw [f_X6_run_l34, if_neg (by rw [i_le, kI_int (by omega), kI_int (by omega)]; omega), hC.1.2.2, hC.2.2.1]
    by_cases c0 : f_X6_orderAt (kI a.2.2.1) σ = -1
    · rw [if_pos c0] at hte ⊢
      have c : te a.2.1 (kI a.2.2.1) = -1 := hte.symm
      have b := lk_i (n := hz) hC hI hp hz6.2
      rw [b.2.2.1]
      by_cases c2 : bn S a.1 a.2.1 a.2.2.1 hz = 0
      · rw [if_pos (by rw [c2]; rfl)]
        have ed : (1 : Int32) = dc S hz a.1 a.2.1 a.2.2.1 := by unfold dc; rw [if_pos c, if_pos c2]
        exact step _ 1 _ b.1 b.2.1 b.2.2.2.2.1 b.2.2.2.2.2 ed rfl
      · have hle : bn S a.1 a.2.1 a.2.2.1 hz ≤ 2 ^ hz := cn_le _ _
        have h6 : (2 : Nat) ^ hz ≤ 2 ^ 6 := Nat.pow_le_pow_right (by decide) hz6.2
        rw [if_neg (by
          intro q
          have h1 := kI_int (k := bn S a.1 a.2.1 a.2.2.1 hz) (by omega)
          rw [q] at h1
          have : (0 : Int32).toInt = 0 := rfl
          omega), (b.2.2.2.1 c2).2, b.1.2.2.1]
        have et : (kI (bs S a.1 a.2.1 a.2.2.1 hz).2 >>> ((kI hz - 1) &&& 31)) &&& 1 = dc S hz a.1 a.2.1 a.2.2.1 := by
          rw [show (1 : Int32) = kI 1 from rfl, kI_sub (by omega) (by omega)]
          have := bit_t (bs S a.1 a.2.1 a.2.2.1 hz).2 (bs_B hz6.2) (hz - 1) (by omega)
          unfold dc
          rw [if_pos c, if_neg c2, ← this]
          rfl
        rw [et]
        rcases dc_01 (S := S) (hz := hz) (w := a.1) (p := a.2.2.1) hI.2.2.1 with z | z
        · rw [if_neg (by rw [z]; decide)]
          exact step _ 0 _ b.1 b.2.1 b.2.2.2.2.1 b.2.2.2.2.2 z.symm rfl
        · rw [if_pos z]
          exact step _ 1 _ b.1 b.2.1 b.2.2.2.2.1 b.2.2.2.2.2 z.symm rfl
    · rw [if_neg c0] at hte ⊢
      have hne : ¬ te a.2.1 (kI a.2.2.1) = -1 := by
        unfold te
        have h3 := fa_m (h := kI a.2.2.1) hC.1.2.1 hI.2.2.1
        rw [h3] at c0
        rw [if_neg c0]
        rcases hI.2.2.1.2 (fa a.2.1 (kI a.2.2.1)).toNatClampNeg with z | z <;> rw [z] <;> decide
      have ed : te a.2.1 (kI a.2.2.1) = dc S hz a.1 a.2.1 a.2.2.1 := by unfold dc; rw [if_neg hne]
      rw [hte, ed]
      rcases dc_01 (S := S) (hz := hz) (w := a.1) (p := a.2.2.1) hI.2.2.1 with z | z
      · rw [if_pos z, z]
        exact step _ 0 _ hC Cc.refl rfl (fun _ => rfl) z.symm rfl
      · rw [if_neg (by rw [z]; decide), z]
        exact step _ 1 _ hC Cc.refl rfl (fun _ => rfl) z.symm rfl
