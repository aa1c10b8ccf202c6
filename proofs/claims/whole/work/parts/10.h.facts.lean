/-! what the Statement gives of the start -/
theorem arr_p {s : State} {A : Array Value} {t : FieldType} (h : (Cond.arrayClass t).before A s = true) : ∃ cA : ClassId, ArrOfT s cA t ∧ s.vm.findClass ("[" ++ t.toString) = some cA := by
  obtain ⟨c, k, comp, h1, h2, h3⟩ := Cond.arrayClass_spec h
  exact ⟨c, fun N z => ⟨(fun k h => by cases h), k, h2, comp, h3⟩, h1⟩
theorem ex_ref {s : State} {A : Array Value} {t : Term} {C : String} (h : (Cond.exactly t C).before A s = true) : ∃ a, t.eval A s none [] s = some (.ref a) := by
  obtain ⟨a, _, _, _, h1, _⟩ := Cond.exactly_spec h
  exact ⟨a, h1⟩
theorem kw_ot {w : Cond} (h : kwd w = true) : w.onTables = true := by
  cases w <;> first | rfl | exact absurd (show false = true from h) Bool.false_ne_true
set_option maxRecDepth 100000 in
theorem ncl_in : ∀ q ∈ NCL, (Cond.not (.castable q.1 q.2)) ∈ flatC (Jvm.Cond.and given_1 narrow_1) := by decide +kernel
set_option maxRecDepth 100000 in
theorem srl_in : ∀ q ∈ SRL, (Cond.exactly (.string RX5 q.1) "java/lang/String") ∈ flatC (Jvm.Cond.and given_1 narrow_1) ∧ Cond.stringRef RX5 q.1 q.2 ∈ lw_tbl := by decide +kernel
theorem xf_start {s : State} {A : Array Value} (hts : ∀ w ∈ lw_tbl, w.before A s = true) (hgv : (Jvm.Cond.and given_1 narrow_1).before A s = true) : XF s := by
  have hf := flat_of_before _ hgv
  refine ⟨fun w hw => ?_, fun q hq => ?_, fun q hq => va_Nc.of (hf _ (ncl_in q hq))⟩
  · have h2 := List.mem_filter.mp hw
    exact va_Nw.of (kw_ot h2.2) (hts w h2.1)
  · obtain ⟨a, ha⟩ := ex_ref (hf _ (srl_in q hq).1)
    exact ⟨a, vk_R.of (hts _ (srl_in q hq).2) ha⟩
set_option maxRecDepth 100000 in
theorem zf_start {s : State} {A : Array Value} (hts : ∀ w ∈ lw_tbl, w.before A s = true) (hgv : (Jvm.Cond.and given_1 narrow_1).before A s = true) : ZF s.heap.size s := by
  have hf := flat_of_before _ hgv
  have hA : ∀ a : Nat, a < s.heap.size → ¬ (fun q => s.heap.size ≤ q) a := fun a h => Nat.not_le.mpr h
  exact ⟨vx_Zqof (hts (.laysStatic Bundle.tN "UNASSIGNED_STACK" Bundle.steD) (by decide +kernel)) (hts (.initialized Bundle.tN) (by decide +kernel)) (hf _ (by decide +kernel)) hA,
    vx_Zqof (hts (.laysStatic Bundle.tN "SUPPRESSED_SENTINEL" Bundle.listD) (by decide +kernel)) (hts (.initialized Bundle.tN) (by decide +kernel)) (hf _ (by decide +kernel)) hA⟩
theorem gx_start {s : State} {A : Array Value} (hts : ∀ w ∈ lw_tbl, w.before A s = true) (hX : XF s) : ∃ (D : va_G) (cy : Nat → ClassId), Gx D cy s.heap.size s := by
  have ht2 : ∀ w ∈ AW, w.before A s = true := fun w h => hts w (AW_tbl h)
  obtain ⟨c0, i0, k0⟩ := u_known (C := RX0) (T := TX0) (N := 9) (n := 9) ht2 ok0.2.1 (ht2 _ q197)
  obtain ⟨c1, i1, k1⟩ := u_known (C := RX1) (T := TX1) (N := 3) (n := 3) ht2 ok1.2.1 (ht2 _ q144)
  obtain ⟨c2, i2, k2⟩ := u_known (C := RX2) (T := TX2) (N := 8) (n := 8) ht2 ok2.2.1 (ht2 _ q161)
  obtain ⟨c3, i3, k3⟩ := u_known (C := RX3) (T := TX3) (N := 9) (n := 9) ht2 ok3.2.1 (ht2 _ q31)
  obtain ⟨c4, i4, k4⟩ := u_known (C := RX4) (T := TX4) (N := 13) (n := 13) ht2 ok4.2.1 (ht2 _ q83)
  obtain ⟨c5, i5, k5⟩ := u_known (C := RX5) (T := TX5) (N := 7) (n := 7) ht2 ok5.2.1 (ht2 _ q23)
  obtain ⟨c6, i6, k6⟩ := u_known (C := RX6) (T := TX6) (N := 34) (n := 34) ht2 ok6.2.1 (ht2 _ q809)
  obtain ⟨b7, a7, f7⟩ := arr_p (ht2 _ q81)
  obtain ⟨b8, a8, f8⟩ := arr_p (ht2 _ q917)
  obtain ⟨b9, a9, f9⟩ := arr_p (ht2 _ q1146)
  obtain ⟨b10, a10, f10⟩ := arr_p (ht2 _ q1147)
  have ho : (Cond.arrayOver (.object RX4)).before A s = true := hts _ (by decide +kernel)
  have ha : (Cond.arrayOver (.array .int)).before A s = true := hts _ (by decide +kernel)
  obtain ⟨m11, b11, k11, g1, g2, g3, g4, g5⟩ := Cond.arrayOver_spec ho
  obtain ⟨m12, b12, k12, h1, h2, h3, h4, h5⟩ := arrayOverA_spec ha
  refine ⟨(fun k => ([c0, c1, c2, c3, c4, c5, c6] : List ClassId).getD k c0, fun k => ([i0, i1, i2, i3, i4, i5, i6] : List (Nat → Nat)).getD k i0), fun k => ([b7, b8, b9, b10, b11, b12] : List ClassId).getD (k - 7) b7, ⟨fun k q hq => ?_, fun k q hq => ?_⟩, Nat.le_refl _, hX.1, va_AO.of ho, va_AOA.of ha⟩
  · match k, hq with
    | 0, hq => cases hq; exact k0
    | 1, hq => cases hq; exact k1
    | 2, hq => cases hq; exact k2
    | 3, hq => cases hq; exact k3
    | 4, hq => cases hq; exact k4
    | 5, hq => cases hq; exact k5
    | 6, hq => cases hq; exact k6
    | k + 7, hq => exact absurd (List.getElem?_eq_some_iff.mp hq).1 (by show ¬ k + 7 < 7; omega)
  · match k, hq with
    | 0, hq => cases hq; exact ⟨a7, f7⟩
    | 1, hq => cases hq; exact ⟨a8, f8⟩
    | 2, hq => cases hq; exact ⟨a9, f9⟩
    | 3, hq => cases hq; exact ⟨a10, f10⟩
    | 4, hq => cases hq; exact ⟨fun N z => ⟨(fun k h => by cases h), k11, g3, m11, g4⟩, k11, m11, g3, g4, g1, g5⟩
    | 5, hq => cases hq; exact ⟨fun N z => ⟨(fun k h => by cases h), k12, h3, m12, h4⟩, h5⟩
    | k + 6, hq => exact absurd (List.getElem?_eq_some_iff.mp hq).1 (by show ¬ k + 6 < 6; omega)
