/-! THE WORLD: 81 cells, by numbers; what they hold is read off one value of Sg -/
abbrev cls7 : List vw_C := [(RX0, TX0, 9), (RX1, TX1, 3), (RX2, TX2, 8), (RX3, TX3, 9), (RX4, TX4, 13), (RX5, TX5, 7), (RX6, TX6, 34)]
theorem layX0 : ∀ k, k < 9 → u_lay RX0 TX0 k ∈ AW
  | 0, _ => AW_in 246 (by decide +kernel) rfl
  | 1, _ => AW_in 248 (by decide +kernel) rfl
  | 2, _ => AW_in 250 (by decide +kernel) rfl
  | 3, _ => AW_in 252 (by decide +kernel) rfl
  | 4, _ => AW_in 254 (by decide +kernel) rfl
  | 5, _ => AW_in 256 (by decide +kernel) rfl
  | 6, _ => AW_in 258 (by decide +kernel) rfl
  | 7, _ => AW_in 260 (by decide +kernel) rfl
  | 8, _ => AW_in 262 (by decide +kernel) rfl
  | k + 9, h => absurd h (by omega)
theorem layX1 : ∀ k, k < 3 → u_lay RX1 TX1 k ∈ AW
  | 0, _ => AW_in 180 (by decide +kernel) rfl
  | 1, _ => AW_in 182 (by decide +kernel) rfl
  | 2, _ => AW_in 184 (by decide +kernel) rfl
  | k + 3, h => absurd h (by omega)
theorem layX2 : ∀ k, k < 8 → u_lay RX2 TX2 k ∈ AW
  | 0, _ => AW_in 206 (by decide +kernel) rfl
  | 1, _ => AW_in 208 (by decide +kernel) rfl
  | 2, _ => AW_in 210 (by decide +kernel) rfl
  | 3, _ => AW_in 212 (by decide +kernel) rfl
  | 4, _ => AW_in 214 (by decide +kernel) rfl
  | 5, _ => AW_in 216 (by decide +kernel) rfl
  | 6, _ => AW_in 218 (by decide +kernel) rfl
  | 7, _ => AW_in 220 (by decide +kernel) rfl
  | k + 8, h => absurd h (by omega)
theorem layX3 : ∀ k, k < 9 → u_lay RX3 TX3 k ∈ AW
  | 0, _ => AW_in 89 (by decide +kernel) rfl
  | 1, _ => AW_in 91 (by decide +kernel) rfl
  | 2, _ => AW_in 93 (by decide +kernel) rfl
  | 3, _ => AW_in 95 (by decide +kernel) rfl
  | 4, _ => AW_in 97 (by decide +kernel) rfl
  | 5, _ => AW_in 99 (by decide +kernel) rfl
  | 6, _ => AW_in 101 (by decide +kernel) rfl
  | 7, _ => AW_in 103 (by decide +kernel) rfl
  | 8, _ => AW_in 105 (by decide +kernel) rfl
  | k + 9, h => absurd h (by omega)
theorem layX4 : ∀ k, k < 13 → u_lay RX4 TX4 k ∈ AW
  | 0, _ => AW_in 143 (by decide +kernel) rfl
  | 1, _ => AW_in 145 (by decide +kernel) rfl
  | 2, _ => AW_in 147 (by decide +kernel) rfl
  | 3, _ => AW_in 149 (by decide +kernel) rfl
  | 4, _ => AW_in 151 (by decide +kernel) rfl
  | 5, _ => AW_in 153 (by decide +kernel) rfl
  | 6, _ => AW_in 155 (by decide +kernel) rfl
  | 7, _ => AW_in 157 (by decide +kernel) rfl
  | 8, _ => AW_in 159 (by decide +kernel) rfl
  | 9, _ => AW_in 161 (by decide +kernel) rfl
  | 10, _ => AW_in 163 (by decide +kernel) rfl
  | 11, _ => AW_in 165 (by decide +kernel) rfl
  | 12, _ => AW_in 167 (by decide +kernel) rfl
  | k + 13, h => absurd h (by omega)
theorem layX5 : ∀ k, k < 7 → u_lay RX5 TX5 k ∈ AW
  | 0, _ => AW_in 272 (by decide +kernel) rfl
  | 1, _ => AW_in 274 (by decide +kernel) rfl
  | 2, _ => AW_in 276 (by decide +kernel) rfl
  | 3, _ => AW_in 278 (by decide +kernel) rfl
  | 4, _ => AW_in 280 (by decide +kernel) rfl
  | 5, _ => AW_in 282 (by decide +kernel) rfl
  | 6, _ => AW_in 284 (by decide +kernel) rfl
  | k + 7, h => absurd h (by omega)
theorem layX6 : ∀ k, k < 34 → u_lay RX6 TX6 k ∈ AW
  | 0, _ => AW_in 875 (by decide +kernel) rfl
  | 1, _ => AW_in 877 (by decide +kernel) rfl
  | 2, _ => AW_in 879 (by decide +kernel) rfl
  | 3, _ => AW_in 881 (by decide +kernel) rfl
  | 4, _ => AW_in 883 (by decide +kernel) rfl
  | 5, _ => AW_in 885 (by decide +kernel) rfl
  | 6, _ => AW_in 887 (by decide +kernel) rfl
  | 7, _ => AW_in 889 (by decide +kernel) rfl
  | 8, _ => AW_in 891 (by decide +kernel) rfl
  | 9, _ => AW_in 893 (by decide +kernel) rfl
  | 10, _ => AW_in 895 (by decide +kernel) rfl
  | 11, _ => AW_in 897 (by decide +kernel) rfl
  | 12, _ => AW_in 899 (by decide +kernel) rfl
  | 13, _ => AW_in 901 (by decide +kernel) rfl
  | 14, _ => AW_in 903 (by decide +kernel) rfl
  | 15, _ => AW_in 905 (by decide +kernel) rfl
  | 16, _ => AW_in 907 (by decide +kernel) rfl
  | 17, _ => AW_in 909 (by decide +kernel) rfl
  | 18, _ => AW_in 911 (by decide +kernel) rfl
  | 19, _ => AW_in 913 (by decide +kernel) rfl
  | 20, _ => AW_in 915 (by decide +kernel) rfl
  | 21, _ => AW_in 917 (by decide +kernel) rfl
  | 22, _ => AW_in 919 (by decide +kernel) rfl
  | 23, _ => AW_in 921 (by decide +kernel) rfl
  | 24, _ => AW_in 923 (by decide +kernel) rfl
  | 25, _ => AW_in 925 (by decide +kernel) rfl
  | 26, _ => AW_in 927 (by decide +kernel) rfl
  | 27, _ => AW_in 929 (by decide +kernel) rfl
  | 28, _ => AW_in 931 (by decide +kernel) rfl
  | 29, _ => AW_in 933 (by decide +kernel) rfl
  | 30, _ => AW_in 935 (by decide +kernel) rfl
  | 31, _ => AW_in 937 (by decide +kernel) rfl
  | 32, _ => AW_in 939 (by decide +kernel) rfl
  | 33, _ => AW_in 941 (by decide +kernel) rfl
  | k + 34, h => absurd h (by omega)
theorem lay_in {C : String} {T : u_T} {N : Nat} (h : ∀ k, k < N → u_lay C T k ∈ AW) : ∀ w ∈ u_ws C T N, w ∈ AW := fun w hw => by
  obtain ⟨k, hk, rfl⟩ := List.mem_map.mp hw
  exact h k (List.mem_range.mp hk)
/-- each class's words and field types, by its place -/
def clsOk (ci : Nat) (C : String) (T : u_T) (N : Nat) : Prop := cls7[ci]? = some (C, T, N) ∧ (∀ w ∈ u_ws C T N, w ∈ AW) ∧ ∃ ty : Nat → FieldType, (∀ k, k < N → parseFieldDescriptor (T k).2.2.1 = some (ty k)) ∧ (∀ a, a < N → ∀ b, b < N → a ≠ b → (T a).2.1 ≠ (T b).2.1)
theorem ok0 : clsOk 0 RX0 TX0 9 := ⟨rfl, lay_in layX0, tyX0, tyX0_ok, nmX0⟩
theorem ok1 : clsOk 1 RX1 TX1 3 := ⟨rfl, lay_in layX1, tyX1, tyX1_ok, nmX1⟩
theorem ok2 : clsOk 2 RX2 TX2 8 := ⟨rfl, lay_in layX2, tyX2, tyX2_ok, nmX2⟩
theorem ok3 : clsOk 3 RX3 TX3 9 := ⟨rfl, lay_in layX3, tyX3, tyX3_ok, nmX3⟩
theorem ok4 : clsOk 4 RX4 TX4 13 := ⟨rfl, lay_in layX4, tyX4, tyX4_ok, nmX4⟩
theorem ok5 : clsOk 5 RX5 TX5 7 := ⟨rfl, lay_in layX5, tyX5, tyX5_ok, nmX5⟩
theorem ok6 : clsOk 6 RX6 TX6 34 := ⟨rfl, lay_in layX6, tyX6, tyX6_ok, nmX6⟩
abbrev Sg : Type := (Nat → Nat → Int32) × (Nat → Nat → Int64) × (Nat → Nat → UInt64)
def rI (σ : Sg) (i j : Nat) : Int32 := σ.1 i j
def rL (σ : Sg) (i j : Nat) : Int64 := σ.2.1 i j
def rD (σ : Sg) (i j : Nat) : UInt64 := σ.2.2 i j
def sA (σ : Sg) (i : Nat) (f : Nat → Int32) : Sg := (fun i' => if i' = i then f else σ.1 i', σ.2)
def sI (σ : Sg) (i j : Nat) (x : Int32) : Sg := (fun i' => if i' = i then upd (σ.1 i) j x else σ.1 i', σ.2)
def sL (σ : Sg) (i j : Nat) (x : Int64) : Sg := (σ.1, fun i' => if i' = i then vp_updL (σ.2.1 i) j x else σ.2.1 i', σ.2.2)
def sD (σ : Sg) (i j : Nat) (x : UInt64) : Sg := (σ.1, σ.2.1, fun i' => if i' = i then vf_upd (σ.2.2 i) j x else σ.2.2 i')
abbrev sid (r : Nat) : Nat := 33 + 6 * r
def nf (ci : Nat) : Nat := [9, 3, 8, 9, 13, 7, 34].getD ci 0
def sk (ci k : Nat) : Nat := ([[2, 1, 1, 1, 1, 1, 1, 1, 1], [2, 2, 0], [2, 2, 2, 2, 2, 0, 0, 0], [2, 2, 2, 2, 2, 0, 0, 0, 0], [2, 2, 2, 2, 2, 0, 0, 0, 0, 0, 0, 0, 0], [2, 2, 2, 2, 2, 0, 0], [2, 2, 2, 2, 0, 2, 2, 2, 0, 2, 0, 0, 0, 0, 2, 2, 0, 0, 0, 0, 0, 0, 2, 1, 1, 1, 1, 1, 1, 0, 0, 0, 0, 0]].getD ci []).getD k 0
def kd (i : Nat) : Nat := if i < 33 then [5, 3, 7, 7, 7, 12, 7, 7, 7, 7, 1, 7, 7, 2, 11, 7, 7, 0, 7, 6, 7, 7, 7, 7, 7, 7, 7, 7, 7, 8, 7, 9, 10].getD i 0 else if (i - 33) % 6 = 0 then 4 else 7
def ln (i : Nat) : Nat := if i < 33 then [0, 0, 4, 4, 3, 3, 48, 48, 48, 48, 0, 6, 6, 0, 7, 6, 6, 0, 3, 0, 15, 15, 4, 4, 3, 144, 3, 48, 6, 6, 3, 1, 1].getD i 0 else [0, 4, 4, 4, 3, 3].getD ((i - 33) % 6) 0
def tg (i j : Nat) : Nat := if i < 33 then ([[1, 33, 10, 13, 17], [2, 3, 4, 5, 9], [], [], [], [], [], [], [], [], [11, 12], [], [], [1, 10, 14, 15, 16], [], [], [], [18], [], [20, 21, 22, 23, 0, 24, 25, 26, 0, 27, 0, 0, 0, 0, 28, 29, 0, 0, 0, 0, 0, 0, 30], [], [], [], [], [], [], [], [], [], [], [], [], []].getD i []).getD j 0 else i + 1 + j
def ta (i j : Nat) : Nat := if i = 5 then 6 + j else sid (j + 1)
def encS (ad : Nat → Nat) (σ : Sg) (i j k : Nat) : Value := if k = 0 then .int (rI σ i j) else if k = 1 then .long (rL σ i j) else .ref (ad (tg i j))
def encO (ad : Nat → Nat) (σ : Sg) (i : Nat) : List Value := (List.range (nf (kd i))).map (fun j => encS ad σ i j (sk (kd i) j))
def enc (ad : Nat → Nat) (cy : Nat → ClassId) (σ : Sg) (i : Nat) : va_E :=
  if kd i < 7 then .inr (kd i, encO ad σ i)
  else if kd i < 9 then .inl (cy (kd i), ln i, .inl (σ.1 i))
  else if kd i = 9 then .inl (cy (kd i), ln i, .inr (.inl (σ.2.1 i)))
  else if kd i = 10 then .inl (cy (kd i), ln i, .inr (.inr (.inr (.inl (σ.2.2 i)))))
  else .inl (cy (kd i), ln i, .inr (.inr (.inr (.inr (fun j => if j < ln i then some (ad (ta i j)) else none)))))
def WD (ad : Nat → Nat) (cy : Nat → ClassId) (σ : Sg) : va_W := (List.range 81).map (fun i => (ad i, enc ad cy σ i))
def tysOf (cy : Nat → ClassId) : List (ClassId × FieldType) := [(cy 7, .int), (cy 8, .boolean), (cy 9, .long), (cy 10, .double), (cy 11, .object RX4), (cy 12, .array .int)]
theorem WD_get {ad : Nat → Nat} {cy : Nat → ClassId} {σ : Sg} {i : Nat} (h : i < 81) : (WD ad cy σ)[i]? = some (ad i, enc ad cy σ i) := by
  unfold WD
  rw [List.getElem?_map, List.getElem?_range h]
  rfl
theorem encO_get {ad : Nat → Nat} {σ : Sg} {i j : Nat} (h : j < nf (kd i)) : (encO ad σ i)[j]? = some (encS ad σ i j (sk (kd i) j)) := by
  unfold encO
  rw [List.getElem?_map, List.getElem?_range h]
  rfl
theorem WD_len {ad : Nat → Nat} {cy : Nat → ClassId} {σ : Sg} : (WD ad cy σ).length = 81 := by unfold WD; rw [List.length_map, List.length_range]
/-- one cell of the world changed -/
theorem WD_set {ad : Nat → Nat} {cy : Nat → ClassId} {σ σ' : Sg} {i : Nat} {e : va_E} (he : enc ad cy σ' i = e) (hn : ∀ k, k ≠ i → enc ad cy σ' k = enc ad cy σ k) : (WD ad cy σ).set i (ad i, e) = WD ad cy σ' := by
  apply List.ext_getElem?
  intro k
  by_cases hk : k < 81
  · by_cases h : k = i
    · subst h
      rw [List.getElem?_set_self (by rw [WD_len]; exact hk), WD_get hk, he]
    · rw [List.getElem?_set_ne (Ne.symm h), WD_get hk, WD_get hk, hn k h]
  · rw [List.getElem?_eq_none (by rw [List.length_set, WD_len]; omega), List.getElem?_eq_none (by rw [WD_len]; omega)]
theorem encO_set {ad : Nat → Nat} {σ σ' : Sg} {i k : Nat} {v : Value} (hk : encS ad σ' i k (sk (kd i) k) = v) (hn : ∀ j, j ≠ k → encS ad σ' i j (sk (kd i) j) = encS ad σ i j (sk (kd i) j)) : (encO ad σ i).set k v = encO ad σ' i := by
  apply List.ext_getElem?
  intro j
  have hl : (encO ad σ i).length = nf (kd i) := by unfold encO; rw [List.length_map, List.length_range]
  have hl' : (encO ad σ' i).length = nf (kd i) := by unfold encO; rw [List.length_map, List.length_range]
  by_cases hj : j < nf (kd i)
  · by_cases h : j = k
    · subst h
      rw [List.getElem?_set_self (by rw [hl]; exact hj), encO_get hj, hk]
    · rw [List.getElem?_set_ne (Ne.symm h), encO_get hj, encO_get hj, hn j h]
  · rw [List.getElem?_eq_none (by rw [List.length_set, hl]; omega), List.getElem?_eq_none (by rw [hl']; omega)]
theorem rI_sI (σ : Sg) (i j i' j' : Nat) (x : Int32) : rI (sI σ i j x) i' j' = if i' = i ∧ j' = j then x else rI σ i' j' := by
  unfold rI sI
  by_cases h : i' = i
  · subst h
    by_cases h2 : j' = j
    · subst h2; simp [upd]
    · simp [upd, h2]
  · simp [h]
theorem rL_sL (σ : Sg) (i j i' j' : Nat) (x : Int64) : rL (sL σ i j x) i' j' = if i' = i ∧ j' = j then x else rL σ i' j' := by
  unfold rL sL
  by_cases h : i' = i
  · subst h
    by_cases h2 : j' = j
    · subst h2; simp [vp_updL]
    · simp [vp_updL, h2]
  · simp [h]
theorem rD_sD (σ : Sg) (i j i' j' : Nat) (x : UInt64) : rD (sD σ i j x) i' j' = if i' = i ∧ j' = j then x else rD σ i' j' := by
  unfold rD sD
  by_cases h : i' = i
  · subst h
    by_cases h2 : j' = j
    · subst h2; simp [vf_upd]
    · simp [vf_upd, h2]
  · simp [h]
theorem rI_sA (σ : Sg) (i i' j' : Nat) (f : Nat → Int32) : rI (sA σ i f) i' j' = if i' = i then f j' else rI σ i' j' := by
  unfold rI sA
  by_cases h : i' = i <;> simp [h]
theorem rI_sL (σ : Sg) (i j i' j' : Nat) (x : Int64) : rI (sL σ i j x) i' j' = rI σ i' j' := rfl
theorem rI_sD (σ : Sg) (i j i' j' : Nat) (x : UInt64) : rI (sD σ i j x) i' j' = rI σ i' j' := rfl
theorem rL_sI (σ : Sg) (i j i' j' : Nat) (x : Int32) : rL (sI σ i j x) i' j' = rL σ i' j' := rfl
theorem rL_sA (σ : Sg) (i i' j' : Nat) (f : Nat → Int32) : rL (sA σ i f) i' j' = rL σ i' j' := rfl
theorem rL_sD (σ : Sg) (i j i' j' : Nat) (x : UInt64) : rL (sD σ i j x) i' j' = rL σ i' j' := rfl
theorem rD_sI (σ : Sg) (i j i' j' : Nat) (x : Int32) : rD (sI σ i j x) i' j' = rD σ i' j' := rfl
theorem rD_sL (σ : Sg) (i j i' j' : Nat) (x : Int64) : rD (sL σ i j x) i' j' = rD σ i' j' := rfl
theorem rD_sA (σ : Sg) (i i' j' : Nat) (f : Nat → Int32) : rD (sA σ i f) i' j' = rD σ i' j' := rfl
theorem encS_ne {ad : Nat → Nat} {σ σ' : Sg} {i j k : Nat} (h1 : rI σ' i j = rI σ i j) (h2 : rL σ' i j = rL σ i j) : encS ad σ' i j k = encS ad σ i j k := by unfold encS; rw [h1, h2]
theorem enc_ne {ad : Nat → Nat} {cy : Nat → ClassId} {σ σ' : Sg} {i : Nat} (h1 : σ'.1 i = σ.1 i) (h2 : σ'.2.1 i = σ.2.1 i) (h3 : σ'.2.2 i = σ.2.2 i) : enc ad cy σ' i = enc ad cy σ i := by
  have h : encO ad σ' i = encO ad σ i := by
    unfold encO
    apply List.map_congr_left
    intro j _
    exact encS_ne (congrFun h1 j) (congrFun h2 j)
  unfold enc
  rw [h, h1, h2, h3]
theorem WD_sI {ad : Nat → Nat} {cy : Nat → ClassId} {σ : Sg} {i k ci : Nat} {v : Int32} (hk : kd i = ci) (hc : ci < 7) (hs : sk ci k = 0) : (WD ad cy σ).set i (ad i, .inr (ci, (encO ad σ i).set k (.int v))) = WD ad cy (sI σ i k v) := by
  subst hk
  refine WD_set ?_ (fun j hj => enc_ne (by simp [sI, hj]) rfl rfl)
  unfold enc
  rw [if_pos hc, encO_set (σ' := sI σ i k v)]
  · unfold encS; rw [if_pos hs, rI_sI, if_pos ⟨rfl, rfl⟩]
  · intro j hj
    exact encS_ne (by rw [rI_sI, if_neg (fun h => hj h.2)]) rfl
theorem WD_sL {ad : Nat → Nat} {cy : Nat → ClassId} {σ : Sg} {i k ci : Nat} {v : Int64} (hk : kd i = ci) (hc : ci < 7) (hs : sk ci k = 1) : (WD ad cy σ).set i (ad i, .inr (ci, (encO ad σ i).set k (.long v))) = WD ad cy (sL σ i k v) := by
  subst hk
  refine WD_set ?_ (fun j hj => enc_ne rfl (by simp [sL, hj]) rfl)
  unfold enc
  rw [if_pos hc, encO_set (σ' := sL σ i k v)]
  · unfold encS; rw [hs, if_neg (by decide), if_pos rfl, rL_sL, if_pos ⟨rfl, rfl⟩]
  · intro j hj
    exact encS_ne rfl (by rw [rL_sL, if_neg (fun h => hj h.2)])
theorem WD_sA {ad : Nat → Nat} {cy : Nat → ClassId} {σ : Sg} {i ci n : Nat} {f : Nat → Int32} (hk : kd i = ci) (hc : ci = 7 ∨ ci = 8) (hn : ln i = n) : (WD ad cy σ).set i (ad i, .inl (cy ci, n, .inl f)) = WD ad cy (sA σ i f) := by
  subst hk; subst hn
  refine WD_set ?_ (fun j hj => enc_ne (by simp [sA, hj]) rfl rfl)
  unfold enc
  rw [if_neg (by omega), if_pos (by omega)]
  simp [sA]
theorem WD_sIa {ad : Nat → Nat} {cy : Nat → ClassId} {σ : Sg} {i ci n k : Nat} {v : Int32} (hk : kd i = ci) (hc : ci = 7 ∨ ci = 8) (hn : ln i = n) : (WD ad cy σ).set i (ad i, .inl (cy ci, n, .inl (upd (σ.1 i) k v))) = WD ad cy (sI σ i k v) := by
  rw [WD_sA hk hc hn]
  rfl
theorem WD_sLa {ad : Nat → Nat} {cy : Nat → ClassId} {σ : Sg} {i n k : Nat} {v : Int64} (hk : kd i = 9) (hn : ln i = n) : (WD ad cy σ).set i (ad i, .inl (cy 9, n, .inr (.inl (vp_updL (σ.2.1 i) k v)))) = WD ad cy (sL σ i k v) := by
  subst hn
  refine WD_set ?_ (fun j hj => enc_ne rfl (by simp [sL, hj]) rfl)
  unfold enc
  rw [hk, if_neg (by decide), if_neg (by decide), if_pos rfl]
  simp [sL]
theorem WD_sDa {ad : Nat → Nat} {cy : Nat → ClassId} {σ : Sg} {i n k : Nat} {v : UInt64} (hk : kd i = 10) (hn : ln i = n) : (WD ad cy σ).set i (ad i, .inl (cy 10, n, .inr (.inr (.inr (.inl (vf_upd (σ.2.2 i) k v)))))) = WD ad cy (sD σ i k v) := by
  subst hn
  refine WD_set ?_ (fun j hj => enc_ne rfl rfl (by simp [sD, hj]))
  unfold enc
  rw [hk, if_neg (by decide), if_neg (by decide), if_neg (by decide), if_pos rfl]
  simp [sD]
theorem enc_obj {ad : Nat → Nat} {cy : Nat → ClassId} {σ : Sg} {i ci : Nat} (hk : kd i = ci) (hc : ci < 7) : enc ad cy σ i = .inr (ci, encO ad σ i) := by
  subst hk; unfold enc; rw [if_pos hc]
theorem enc_ia {ad : Nat → Nat} {cy : Nat → ClassId} {σ : Sg} {i ci n : Nat} (hk : kd i = ci) (hc : ci = 7 ∨ ci = 8) (hn : ln i = n) : enc ad cy σ i = .inl (cy ci, n, .inl (σ.1 i)) := by
  subst hk; subst hn; unfold enc; rw [if_neg (by omega), if_pos (by omega)]
theorem enc_la {ad : Nat → Nat} {cy : Nat → ClassId} {σ : Sg} {i n : Nat} (hk : kd i = 9) (hn : ln i = n) : enc ad cy σ i = .inl (cy 9, n, .inr (.inl (σ.2.1 i))) := by
  subst hn; unfold enc; rw [hk, if_neg (by decide), if_neg (by decide), if_pos rfl]
theorem enc_da {ad : Nat → Nat} {cy : Nat → ClassId} {σ : Sg} {i n : Nat} (hk : kd i = 10) (hn : ln i = n) : enc ad cy σ i = .inl (cy 10, n, .inr (.inr (.inr (.inl (σ.2.2 i))))) := by
  subst hn; unfold enc; rw [hk, if_neg (by decide), if_neg (by decide), if_neg (by decide), if_pos rfl]
theorem enc_ra {ad : Nat → Nat} {cy : Nat → ClassId} {σ : Sg} {i ci n : Nat} (hk : kd i = ci) (hc : 10 < ci) (hn : ln i = n) : enc ad cy σ i = .inl (cy ci, n, .inr (.inr (.inr (.inr (fun j => if j < n then some (ad (ta i j)) else none))))) := by
  subst hn; subst hk; unfold enc; rw [if_neg (by omega), if_neg (by omega), if_neg (by omega), if_neg (by omega)]
theorem sid_m (r c : Nat) (hc : c < 6) : (sid r + c - 33) % 6 = c := by unfold sid; omega
theorem kd_s0 (r : Nat) : kd (sid r) = 4 := by unfold kd; rw [if_neg (by unfold sid; omega), if_pos (by unfold sid; omega)]
theorem kd_sc (r c : Nat) (h0 : 0 < c) (hc : c < 6) : kd (sid r + c) = 7 := by unfold kd; rw [if_neg (by unfold sid; omega), sid_m r c hc, if_neg (by omega)]
theorem ln_sc (r c : Nat) (hc : c < 6) : ln (sid r + c) = [0, 4, 4, 4, 3, 3].getD c 0 := by unfold ln; rw [if_neg (by unfold sid; omega), sid_m r c hc]
theorem tg_s (r j : Nat) : tg (sid r) j = sid r + (1 + j) := by unfold tg; rw [if_neg (by unfold sid; omega)]; omega
theorem sid_lt {r c : Nat} (hr : r < 8) (hc : c < 6) : sid r + c < 81 := by unfold sid; omega
theorem sid_lt0 {r : Nat} (hr : r < 8) : sid r < 81 := by unfold sid; omega
