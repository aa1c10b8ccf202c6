/-- orders: 0 0 count, 1 half hours, 2 tells -/
def Oc (σ : Sg) (O : Vw) : Prop := rI σ 10 2 = O 0 0 ∧ ∀ j, j < 6 → rI σ 11 j = O 1 j ∧ rI σ 12 j = O 2 j
def Om (σ : Sg) (O : Vw) : Prop := rI σ 19 16 = O 0 0 ∧ ∀ j, j < 6 → rI σ 28 j = O 1 j ∧ rI σ 29 j = O 2 j
def BO (O : Vw) : Prop := bd 0 6 (O 0 0) ∧ ∀ j, O 2 j = 0 ∨ O 2 j = 1
def nO (O : Vw) : Nat := (O 0 0).toInt.toNat
theorem nO_i {O : Vw} (h : BO O) : (O 0 0).toInt = nO O ∧ nO O ≤ 6 := by
  have h := h.1
  unfold nO; unfold bd at h; omega
def fi (O : Vw) (h : Int32) : Nat → Nat → Int32
  | 0, _ => 0
  | n + 1, k => if O 0 0 ≤ kI k then -1 else if O 1 k = h then kI k else fi O h n (k + 1)
theorem fi_c {σ : Sg} {O : Vw} {h : Int32} (hO : Oc σ O) (hB : BO O) : ∀ n k, k + n = 7 → f_X1_find_l2 h n (kI k) σ = fi O h n k
  | 0, k, _ => rfl
  | n + 1, k, e => by
    rw [f_X1_find_l2, fi, hO.1]
    by_cases c : O 0 0 ≤ kI k
    · rw [if_pos c, if_pos c]
    · have hk : k < 6 := by
        have := nO_i hB
        rw [k_le this.1 (by omega)] at c
        omega
      rw [if_neg c, if_neg c, kI_nat (by omega), (hO.2 k hk).1, kI_succ, fi_c hO hB n (k + 1) (by omega)]
theorem fi_m {σ : Sg} {O : Vw} {h : Int32} (hO : Om σ O) (hB : BO O) : ∀ n k, k + n = 7 → f_X6_orderAt_l2 h n (kI k) σ = fi O h n k
  | 0, k, _ => rfl
  | n + 1, k, e => by
    rw [f_X6_orderAt_l2, fi, hO.1]
    by_cases c : O 0 0 ≤ kI k
    · rw [if_pos c, if_pos c]
    · have hk : k < 6 := by
        have := nO_i hB
        rw [k_le this.1 (by omega)] at c
        omega
      rw [if_neg c, if_neg c, kI_nat (by omega), (hO.2 k hk).1, kI_succ, fi_m hO hB n (k + 1) (by omega)]
theorem fi_x {O : Vw} {h : Int32} (hB : BO O) : ∀ n k, k + n = 7 → k ≤ nO O → fi O h n k = -1 ∨ ∃ j, j < nO O ∧ fi O h n k = kI j ∧ O 1 j = h
  | 0, k, e, q => absurd e (by have := (nO_i hB).2; omega)
  | n + 1, k, e, q => by
    rw [fi]
    by_cases c : O 0 0 ≤ kI k
    · rw [if_pos c]; exact Or.inl rfl
    · have hk : k < nO O := by
        have := nO_i hB
        rw [k_le this.1 (by omega)] at c
        omega
      rw [if_neg c]
      by_cases c2 : O 1 k = h
      · rw [if_pos c2]; exact Or.inr ⟨k, hk, rfl, c2⟩
      · rw [if_neg c2]; exact fi_x hB n (k + 1) (by omega) hk
/-- the order's place, what it tells -/
def fa (O : Vw) (h : Int32) : Int32 := fi O h 7 0
def te (O : Vw) (h : Int32) : Int32 := if fa O h = -1 then -1 else O 2 (fa O h).toNatClampNeg
theorem fa_c {σ : Sg} {O : Vw} {h : Int32} (hO : Oc σ O) (hB : BO O) : f_X1_find h σ = fa O h := fi_c hO hB 7 0 rfl
theorem fa_m {σ : Sg} {O : Vw} {h : Int32} (hO : Om σ O) (hB : BO O) : f_X6_orderAt h σ = fa O h := fi_m hO hB 7 0 rfl
theorem kI_ne {j : Nat} (h : j < 1000) : ¬ kI j = -1 := by
  intro e
  have := kI_int (k := j) (by omega)
  rw [e] at this
  have h2 : (-1 : Int32).toInt = -1 := rfl
  omega
theorem kI_nn {j : Nat} (h : j < 1000) : 0 ≤ kI j := by
  rw [i_le, kI_int (by omega)]
  have h2 : (0 : Int32).toInt = 0 := rfl
  omega
theorem fa_x {O : Vw} {h : Int32} (hB : BO O) : fa O h = -1 ∨ ∃ j, j < nO O ∧ fa O h = kI j ∧ O 1 j = h := by
  have h1 := nO_i hB
  unfold fa
  rcases fi_x (h := h) hB 7 0 rfl (Nat.zero_le _) with e | e
  · exact Or.inl e
  · exact Or.inr e
theorem te_c {σ : Sg} {O : Vw} {h : Int32} (hO : Oc σ O) (hB : BO O) : f_X1_told h σ = te O h := by
  unfold f_X1_told te
  rw [fa_c hO hB]
  have h1 := nO_i hB
  rcases fa_x (h := h) hB with e | ⟨j, hj, e, _⟩
  · rw [e, if_pos rfl, if_neg (by decide)]
  · rw [e, if_pos (kI_nn (by omega)), if_neg (kI_ne (by omega)), kI_nat (by omega), (hO.2 j (by omega)).2]
theorem te_m {σ : Sg} {O : Vw} {h : Int32} (hO : Om σ O) (hB : BO O) : (if f_X6_orderAt h σ = -1 then -1 else rI σ 29 (f_X6_orderAt h σ).toNatClampNeg) = te O h := by
  unfold te
  rw [fa_m hO hB]
  have h1 := nO_i hB
  rcases fa_x (h := h) hB with e | ⟨j, hj, e, _⟩
  · rw [e, if_pos rfl, if_pos rfl]
  · rw [e, if_neg (kI_ne (by omega)), if_neg (kI_ne (by omega)), kI_nat (by omega), (hO.2 j (by omega)).2]
theorem te_v {O : Vw} {h : Int32} (hB : BO O) : te O h = -1 ∨ te O h = 0 ∨ te O h = 1 := by
  unfold te
  split
  · exact Or.inl rfl
  · exact Or.inr (hB.2 _)
/-- the cost of a schedule s < 2^n of the n half hours from d on, from the row w: none, if it isn't allowed -/
def vb (S : Vw) (tl : Nat → Int32) (sl : Nat → Nat) (d : Nat) (w : Vw) (b : Int32) (g : Vw → Option Int32) : Option Int32 :=
  if tl d = -1 ∨ tl d = b then (if al S w b (sl d) (nK S) = 0 then none else (g (nx S w b (sl d))).map (fun c => hE S w b * S 5 (sl d) + c)) else none
def vs (S : Vw) (tl : Nat → Int32) (sl : Nat → Nat) : Nat → Nat → Vw → Nat → Option Int32
  | 0, _, _, _ => some 0
  | n + 1, d, w, s => if s < 2 ^ n then vb S tl sl d w 0 (fun w' => vs S tl sl n (d + 1) w' s) else vb S tl sl d w 1 (fun w' => vs S tl sl n (d + 1) w' (s - 2 ^ n))
theorem vb_b {S : Vw} {tl : Nat → Int32} {sl : Nat → Nat} {d n : Nat} {w : Vw} {b c : Int32} {g : Vw → Option Int32} (hB : BS S) (hw : BR S w) (hn : n ≤ 6) (hg : ∀ w' c, BR S w' → g w' = some c → bd 0 (n * 1000000) c) (h : vb S tl sl d w b g = some c) : bd 0 ((n + 1 : Nat) * 1000000) c := by
  unfold vb at h
  split at h
  · split at h
    · exact absurd h (by simp)
    · rw [Option.map_eq_some_iff] at h
      obtain ⟨a, ha, hc⟩ := h
      have h1 := hg _ _ (nx_b hB hw) ha
      have h2 := cost_b (on := b) (s := sl d) hB hw
      have h3 := (bd_add h2 h1 (by omega) (by omega)).1
      rw [hc] at h3
      exact h3.mono (by omega) (by omega)
  · exact absurd h (by simp)
theorem vs_b {S : Vw} {tl : Nat → Int32} {sl : Nat → Nat} (hB : BS S) : ∀ (n d : Nat) (w : Vw) (s : Nat) (c : Int32), n ≤ 7 → BR S w → vs S tl sl n d w s = some c → bd 0 (n * 1000000) c
  | 0, d, w, s, c, _, hw, h => by
    rw [vs] at h
    have : c = 0 := (Option.some.inj h).symm
    subst this
    exact bd_0 (by omega) (by omega)
  | n + 1, d, w, s, c, hn, hw, h => by
    rw [vs] at h
    split at h
    · exact vb_b hB hw (by omega) (fun w' c hw' hc => vs_b hB n (d + 1) w' _ c (by omega) hw' hc) h
    · exact vb_b hB hw (by omega) (fun w' c hw' hc => vs_b hB n (d + 1) w' _ c (by omega) hw' hc) h
/-- the least cost and the best schedule of the first k, in order -/
def fo (f : Nat → Option Int32) (co : Int32) (base : Nat) : Nat → Int32 × Nat → Int32 × Nat
  | 0, p => p
  | k + 1, p => match f k with
    | none => fo f co base k p
    | some c => if co + c < (fo f co base k p).1 then (co + c, base + k) else fo f co base k p
theorem fo_split (f : Nat → Option Int32) (co : Int32) (base a : Nat) (p : Int32 × Nat) : ∀ c, fo f co base (a + c) p = fo (fun s => f (a + s)) co (base + a) c (fo f co base a p)
  | 0 => rfl
  | c + 1 => by
    have h := fo_split f co base a p c
    show fo f co base (a + c + 1) p = _
    rw [fo, fo, h]
    have e : base + (a + c) = base + a + c := by omega
    rw [e]
theorem fo_congr {f g : Nat → Option Int32} {co : Int32} {base : Nat} {p : Int32 × Nat} : ∀ k, (∀ s, s < k → f s = g s) → fo f co base k p = fo g co base k p
  | 0, _ => rfl
  | k + 1, h => by
    rw [fo, fo, fo_congr k (fun s hs => h s (by omega)), h k (by omega)]
theorem fo_none {f : Nat → Option Int32} {co : Int32} {base : Nat} {p : Int32 × Nat} : ∀ k, (∀ s, s < k → f s = none) → fo f co base k p = p
  | 0, _ => rfl
  | k + 1, h => by
    rw [fo, h k (by omega)]
    exact fo_none k (fun s hs => h s (by omega))
theorem fo_map {f : Nat → Option Int32} {co x : Int32} {base : Nat} {p : Int32 × Nat} : ∀ k, fo (fun s => (f s).map (fun c => x + c)) co base k p = fo f (co + x) base k p
  | 0 => rfl
  | k + 1 => by
    rw [fo, fo, fo_map k]
    cases f k with
    | none => rfl
    | some c => dsimp only [Option.map]; rw [Int32.add_assoc]
/-- nothing is gained where the beginning costs as much already -/
theorem fo_prune {f : Nat → Option Int32} {co : Int32} {base : Nat} {p : Int32 × Nat} (hp : p.1 ≤ co) (hc : bd 0 1000000000 co) : ∀ k, (∀ s c, s < k → f s = some c → bd 0 1000000000 c) → fo f co base k p = p
  | 0, _ => rfl
  | k + 1, h => by
    rw [fo, fo_prune hp hc k (fun s c hs => h s c (by omega))]
    cases e : f k with
    | none => rfl
    | some c =>
      dsimp only
      have h1 := h k c (by omega) e
      have h2 := (bd_add hc h1 (by decide) (by decide)).2
      rw [if_neg]
      rw [i_lt, h2]
      rw [i_le] at hp
      have := h1.1
      omega
